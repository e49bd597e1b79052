/-! the tables are true: links, fields, constants, codes -/
def tv_in (w : Cond) : Bool := goodWord w && decide (w ∈ lw_tbl)
theorem tv_mem {w : Cond} (h : tv_in w = true) : w ∈ ai_GT := by
  unfold tv_in at h
  rw [Bool.and_eq_true, decide_eq_true_eq] at h
  exact List.mem_filter.mpr ⟨h.2, h.1⟩
theorem tv_uws : (vwCl.all fun r => (u_ws r.1 r.2.1 r.2.2).all tv_in) = true := by decide +kernel
theorem tv_uws_ok {k : Nat} {r : vw_C} (h : vwCl[k]? = some r) : ∀ w ∈ u_ws r.1 r.2.1 r.2.2, w ∈ ai_GT := fun w hw => tv_mem (List.all_eq_true.mp (List.all_eq_true.mp tv_uws r (List.mem_of_getElem? h)) w hw)
theorem tv_ty {k : Nat} {r : vw_C} (h : vwCl[k]? = some r) : ∃ ty0 : Nat → FieldType, (∀ j, j < r.2.2 → parseFieldDescriptor (r.2.1 j).2.2.1 = some (ty0 j)) ∧ ∀ a, a < r.2.2 → ∀ b, b < r.2.2 → a ≠ b → (r.2.1 a).2.1 ≠ (r.2.1 b).2.1 := by
  match k, h with
  | 0, h => cases h; exact ⟨tyX0, tyX0_ok, nmX0⟩
  | 1, h => cases h; exact ⟨tyX1, tyX1_ok, nmX1⟩
  | 2, h => cases h; exact ⟨tyX2, tyX2_ok, nmX2⟩
  | 3, h => cases h; exact ⟨tyX3, tyX3_ok, nmX3⟩
  | 4, h => cases h; exact ⟨tyX4, tyX4_ok, nmX4⟩
  | 5, h => cases h; exact ⟨tyX5, tyX5_ok, nmX5⟩
  | 6, h => cases h; exact ⟨tyX6, tyX6_ok, nmX6⟩
  | k + 7, h => simp [vwCl] at h
def tv_fl (own : String) (q : Nat × Nat × Nat) : Bool := match vwCl[q.2.1]? with
  | some r => decide (q.2.2 < r.2.2) && tv_in (Cond.fieldLink own q.1 (r.2.1 q.2.2).1 (r.2.1 q.2.2).2.1 (r.2.1 q.2.2).2.2.1)
  | none => false
theorem tv_fl_ok {own : String} {q : Nat × Nat × Nat} (h : tv_fl own q = true) : ai_flok own q.2.1 q.2.2 q.1 := by
  unfold tv_fl at h
  split at h
  · rename_i r hr
    rw [Bool.and_eq_true, decide_eq_true_eq] at h
    exact ⟨r.1, r.2.1, r.2.2, hr, h.1, tv_mem h.2, tv_uws_ok hr⟩
  · cases h
def tv_fp (own : String) (q : Nat × Nat × Nat × Nat) : Bool := match vwCl[q.2.1]? with
  | some r => decide (q.2.2.1 < r.2.2) && tv_in (Cond.fieldLink own q.1 (r.2.1 q.2.2.1).1 (r.2.1 q.2.2.1).2.1 (r.2.1 q.2.2.1).2.2.1) && decide ((r.2.1 q.2.2.1).2.2.2 = false) && decide (parseFieldDescriptor (r.2.1 q.2.2.1).2.2.1 = some (if q.2.2.2 = 1 then .int else .long))
  | none => false
theorem tv_fp_ok {own : String} {q : Nat × Nat × Nat × Nat} (h : tv_fp own q = true) : ai_fpok own q.2.1 q.2.2.1 q.1 q.2.2.2 := by
  unfold tv_fp at h
  split at h
  · rename_i r hr
    simp only [Bool.and_eq_true, decide_eq_true_eq] at h
    obtain ⟨ty0, t1, t2⟩ := tv_ty hr
    exact ⟨r.1, r.2.1, r.2.2, ty0, hr, h.1.1.1, tv_mem h.1.1.2, tv_uws_ok hr, t1, t2, h.1.2, h.2⟩
  · cases h
def tv_y (y : MethodName) (n : Nat) : Bool := decide (y.cls ≠ "java/lang/invoke/MethodHandle") && decide (y.cls ≠ "java/lang/invoke/VarHandle") && decide ((parseMethodDescriptor y.desc).map (fun d => d.parameters.length) = some n)
theorem tv_y_ok {y : MethodName} {n : Nat} (h : tv_y y n = true) : y.cls ≠ "java/lang/invoke/MethodHandle" ∧ y.cls ≠ "java/lang/invoke/VarHandle" ∧ (parseMethodDescriptor y.desc).map (fun d => d.parameters.length) = some n := by
  unfold tv_y at h
  simp only [Bool.and_eq_true, decide_eq_true_eq] at h
  exact ⟨h.1.1, h.1.2, h.2⟩
def tv_host (own : String) (i : Nat) (y : MethodName) : Bool := decide (Cond.methodLinkNest own i y "HornTests" ∈ lw_tbl)
def tv_l (MT : List ai_m) (own : String) (q : ai_l5) : Bool := match q.2.1 with
  | 0 => (match MT[q.2.2.1]?, vwCl[q.2.2.2.2]? with
    | some M', some r => decide (M'.1.cls = r.1) && tv_in (.methodLink own q.1 M'.1) && tv_in (.instanceMethod M'.1) && tv_in (.selects r.1 M'.1 M'.1) && tv_in (.initialized r.1) && tv_in (Cond.code M'.1 M'.2.1 M'.2.2.1 M'.2.2.2.1) && tv_y M'.1 q.2.2.2.1
    | _, _ => false)
  | 1 => (match MT[q.2.2.1]? with
    | some M' => tv_in (.methodLink own q.1 M'.1) && tv_in (.static M'.1) && tv_in (.initialized M'.1.cls) && tv_in (Cond.code M'.1 M'.2.1 M'.2.2.1 M'.2.2.2.1) && tv_y M'.1 q.2.2.2.1
    | none => false)
  | 2 => (match MT[q.2.2.1]? with
    | some M' => tv_host own q.1 M'.1 && tv_in (.static M'.1) && tv_in (.initialized M'.1.cls) && tv_in (Cond.code M'.1 M'.2.1 M'.2.2.1 M'.2.2.2.1) && tv_y M'.1 q.2.2.2.1
    | none => false)
  | 3 => tv_in (.methodLink own q.1 Lib.Math.min.name) && tv_in (.static Lib.Math.min.name) && tv_in (.initialized "java/lang/Math") && tv_in (Cond.code Lib.Math.min.name Lib.Math.min.code 2 (some .int))
  | 4 => tv_in (.methodLink own q.1 Lib.Math.max.name) && tv_in (.static Lib.Math.max.name) && tv_in (.initialized "java/lang/Math") && tv_in (Cond.code Lib.Math.max.name Lib.Math.max.code 2 (some .int))
  | _ => tv_in (.methodLink own q.1 arraycopyName) && tv_in (.native arraycopyName) && tv_in (.static arraycopyName) && tv_in (.initialized "java/lang/System")
theorem tv_good {ws : List Cond} (h : ∀ w ∈ ws, w ∈ ai_GT) : GoodIn ai_GT ws := fun w hw => ⟨h w hw, good_of_word (ai_goodGT w (h w hw))⟩
theorem tv_l_ok {MT : List ai_m} {own : String} {q : ai_l5} (h : tv_l MT own q = true) : ai_lok MT own q := by
  unfold tv_l at h
  unfold ai_lok
  split at h
  · rename_i hk
    rw [hk]
    split at h
    · rename_i M' r h1 h2
      simp only [Bool.and_eq_true, decide_eq_true_eq] at h
      obtain ⟨⟨⟨⟨⟨⟨a1, a2⟩, a3⟩, a4⟩, a5⟩, a6⟩, a7⟩ := h
      refine ⟨M', r, h1, h2, tv_good fun w hw => ?_, a1, tv_y_ok a7⟩
      unfold wsV at hw
      rcases List.mem_append.mp hw with hw | hw
      · simp only [List.mem_cons, List.not_mem_nil, or_false] at hw
        rcases hw with rfl | rfl | rfl | rfl
        · exact tv_mem a2
        · exact tv_mem a3
        · exact tv_mem a4
        · exact tv_mem a5
      · rcases List.mem_cons.mp hw with rfl | hw
        · exact tv_mem a6
        · exact hw
    · cases h
  · rename_i hk
    rw [hk]
    split at h
    · rename_i M' h1
      simp only [Bool.and_eq_true] at h
      obtain ⟨⟨⟨⟨a2, a3⟩, a5⟩, a6⟩, a7⟩ := h
      refine ⟨M', h1, tv_good fun w hw => ?_, tv_y_ok a7⟩
      unfold va_wsS at hw
      rcases List.mem_append.mp hw with hw | hw
      · simp only [List.mem_cons, List.not_mem_nil, or_false] at hw
        rcases hw with rfl | rfl | rfl
        · exact tv_mem a2
        · exact tv_mem a3
        · exact tv_mem a5
      · rcases List.mem_cons.mp hw with rfl | hw
        · exact tv_mem a6
        · exact hw
    · cases h
  · rename_i hk
    rw [hk]
    split at h
    · rename_i M' h1
      simp only [Bool.and_eq_true] at h
      obtain ⟨⟨⟨⟨a2, a3⟩, a5⟩, a6⟩, a7⟩ := h
      refine ⟨M', "HornTests", h1, List.mem_filter.mpr ⟨by unfold tv_host at a2; exact of_decide_eq_true a2, rfl⟩, ai_goodIn (tv_mem a6), tv_mem a3, tv_mem a5, tv_y_ok a7⟩
    · cases h
  · rename_i hk
    rw [hk]
    simp only [Bool.and_eq_true] at h
    exact ⟨tv_mem h.1.1.1, tv_mem h.1.1.2, tv_mem h.1.2, tv_mem h.2⟩
  · rename_i hk
    rw [hk]
    simp only [Bool.and_eq_true] at h
    exact ⟨tv_mem h.1.1.1, tv_mem h.1.1.2, tv_mem h.1.2, tv_mem h.2⟩
  · rename_i k0 k1 k2 k3 k4
    simp only [Bool.and_eq_true] at h
    have hres : Cond.methodLink own q.1 arraycopyName ∈ ai_GT ∧ Cond.native arraycopyName ∈ ai_GT ∧ Cond.static arraycopyName ∈ ai_GT ∧ Cond.initialized "java/lang/System" ∈ ai_GT := ⟨tv_mem h.1.1.1, tv_mem h.1.1.2, tv_mem h.1.2, tv_mem h.2⟩
    have hz5 : 5 ≤ q.2.1 := by
      rcases Nat.lt_or_ge q.2.1 5 with h5 | h5
      · exfalso
        have h6 : q.2.1 = 0 ∨ q.2.1 = 1 ∨ q.2.1 = 2 ∨ q.2.1 = 3 ∨ q.2.1 = 4 := by omega
        rcases h6 with e | e | e | e | e <;> first | exact k0 e | exact k1 e | exact k2 e | exact k3 e | exact k4 e
      · exact h5
    obtain ⟨z, hz⟩ : ∃ z, q.2.1 = z + 5 := ⟨q.2.1 - 5, by omega⟩
    rw [hz]
    exact hres
theorem tv_fl_RX0 : ∀ q ∈ tb_fl_RX0, ai_flok RX0 q.2.1 q.2.2 q.1 := fun q h => tv_fl_ok (List.all_eq_true.mp (show (tb_fl_RX0.all (tv_fl RX0)) = true by decide +kernel) q h)
theorem tv_fp_RX0 : ∀ q ∈ tb_fp_RX0, ai_fpok RX0 q.2.1 q.2.2.1 q.1 q.2.2.2 := fun q h => tv_fp_ok (List.all_eq_true.mp (show (tb_fp_RX0.all (tv_fp RX0)) = true by decide +kernel) q h)
theorem tv_ci_RX0 : ∀ q ∈ tb_ci_RX0, Cond.constant RX0 q.1 (Int32.ofInt q.2) ∈ ai_GT ∧ ai_ir q.2 q.2 = true := fun q h => by
  have h1 := List.all_eq_true.mp (show (tb_ci_RX0.all fun q => tv_in (Cond.constant RX0 q.1 (Int32.ofInt q.2)) && ai_ir q.2 q.2) = true by decide +kernel) q h
  rw [Bool.and_eq_true] at h1
  exact ⟨tv_mem h1.1, h1.2⟩
theorem tv_cl_RX0 : ∀ q ∈ tb_cl_RX0, Cond.constantLong RX0 q.1 (Int64.ofInt q.2) ∈ ai_GT ∧ (Int64.ofInt q.2).toInt = q.2 := fun q h => by
  have h1 := List.all_eq_true.mp (show (tb_cl_RX0.all fun q => tv_in (Cond.constantLong RX0 q.1 (Int64.ofInt q.2)) && decide ((Int64.ofInt q.2).toInt = q.2)) = true by decide +kernel) q h
  rw [Bool.and_eq_true, decide_eq_true_eq] at h1
  exact ⟨tv_mem h1.1, h1.2⟩
theorem tv_fl_RX1 : ∀ q ∈ tb_fl_RX1, ai_flok RX1 q.2.1 q.2.2 q.1 := fun q h => tv_fl_ok (List.all_eq_true.mp (show (tb_fl_RX1.all (tv_fl RX1)) = true by decide +kernel) q h)
theorem tv_fp_RX1 : ∀ q ∈ tb_fp_RX1, ai_fpok RX1 q.2.1 q.2.2.1 q.1 q.2.2.2 := fun q h => tv_fp_ok (List.all_eq_true.mp (show (tb_fp_RX1.all (tv_fp RX1)) = true by decide +kernel) q h)
theorem tv_ci_RX1 : ∀ q ∈ tb_ci_RX1, Cond.constant RX1 q.1 (Int32.ofInt q.2) ∈ ai_GT ∧ ai_ir q.2 q.2 = true := fun q h => by
  have h1 := List.all_eq_true.mp (show (tb_ci_RX1.all fun q => tv_in (Cond.constant RX1 q.1 (Int32.ofInt q.2)) && ai_ir q.2 q.2) = true by decide +kernel) q h
  rw [Bool.and_eq_true] at h1
  exact ⟨tv_mem h1.1, h1.2⟩
theorem tv_cl_RX1 : ∀ q ∈ tb_cl_RX1, Cond.constantLong RX1 q.1 (Int64.ofInt q.2) ∈ ai_GT ∧ (Int64.ofInt q.2).toInt = q.2 := fun q h => by
  have h1 := List.all_eq_true.mp (show (tb_cl_RX1.all fun q => tv_in (Cond.constantLong RX1 q.1 (Int64.ofInt q.2)) && decide ((Int64.ofInt q.2).toInt = q.2)) = true by decide +kernel) q h
  rw [Bool.and_eq_true, decide_eq_true_eq] at h1
  exact ⟨tv_mem h1.1, h1.2⟩
theorem tv_fl_RX2 : ∀ q ∈ tb_fl_RX2, ai_flok RX2 q.2.1 q.2.2 q.1 := fun q h => tv_fl_ok (List.all_eq_true.mp (show (tb_fl_RX2.all (tv_fl RX2)) = true by decide +kernel) q h)
theorem tv_fp_RX2 : ∀ q ∈ tb_fp_RX2, ai_fpok RX2 q.2.1 q.2.2.1 q.1 q.2.2.2 := fun q h => tv_fp_ok (List.all_eq_true.mp (show (tb_fp_RX2.all (tv_fp RX2)) = true by decide +kernel) q h)
theorem tv_ci_RX2 : ∀ q ∈ tb_ci_RX2, Cond.constant RX2 q.1 (Int32.ofInt q.2) ∈ ai_GT ∧ ai_ir q.2 q.2 = true := fun q h => by
  have h1 := List.all_eq_true.mp (show (tb_ci_RX2.all fun q => tv_in (Cond.constant RX2 q.1 (Int32.ofInt q.2)) && ai_ir q.2 q.2) = true by decide +kernel) q h
  rw [Bool.and_eq_true] at h1
  exact ⟨tv_mem h1.1, h1.2⟩
theorem tv_cl_RX2 : ∀ q ∈ tb_cl_RX2, Cond.constantLong RX2 q.1 (Int64.ofInt q.2) ∈ ai_GT ∧ (Int64.ofInt q.2).toInt = q.2 := fun q h => by
  have h1 := List.all_eq_true.mp (show (tb_cl_RX2.all fun q => tv_in (Cond.constantLong RX2 q.1 (Int64.ofInt q.2)) && decide ((Int64.ofInt q.2).toInt = q.2)) = true by decide +kernel) q h
  rw [Bool.and_eq_true, decide_eq_true_eq] at h1
  exact ⟨tv_mem h1.1, h1.2⟩
theorem tv_fl_RX3 : ∀ q ∈ tb_fl_RX3, ai_flok RX3 q.2.1 q.2.2 q.1 := fun q h => tv_fl_ok (List.all_eq_true.mp (show (tb_fl_RX3.all (tv_fl RX3)) = true by decide +kernel) q h)
theorem tv_fp_RX3 : ∀ q ∈ tb_fp_RX3, ai_fpok RX3 q.2.1 q.2.2.1 q.1 q.2.2.2 := fun q h => tv_fp_ok (List.all_eq_true.mp (show (tb_fp_RX3.all (tv_fp RX3)) = true by decide +kernel) q h)
theorem tv_ci_RX3 : ∀ q ∈ tb_ci_RX3, Cond.constant RX3 q.1 (Int32.ofInt q.2) ∈ ai_GT ∧ ai_ir q.2 q.2 = true := fun q h => by
  have h1 := List.all_eq_true.mp (show (tb_ci_RX3.all fun q => tv_in (Cond.constant RX3 q.1 (Int32.ofInt q.2)) && ai_ir q.2 q.2) = true by decide +kernel) q h
  rw [Bool.and_eq_true] at h1
  exact ⟨tv_mem h1.1, h1.2⟩
theorem tv_cl_RX3 : ∀ q ∈ tb_cl_RX3, Cond.constantLong RX3 q.1 (Int64.ofInt q.2) ∈ ai_GT ∧ (Int64.ofInt q.2).toInt = q.2 := fun q h => by
  have h1 := List.all_eq_true.mp (show (tb_cl_RX3.all fun q => tv_in (Cond.constantLong RX3 q.1 (Int64.ofInt q.2)) && decide ((Int64.ofInt q.2).toInt = q.2)) = true by decide +kernel) q h
  rw [Bool.and_eq_true, decide_eq_true_eq] at h1
  exact ⟨tv_mem h1.1, h1.2⟩
theorem tv_fl_RX4 : ∀ q ∈ tb_fl_RX4, ai_flok RX4 q.2.1 q.2.2 q.1 := fun q h => tv_fl_ok (List.all_eq_true.mp (show (tb_fl_RX4.all (tv_fl RX4)) = true by decide +kernel) q h)
theorem tv_fp_RX4 : ∀ q ∈ tb_fp_RX4, ai_fpok RX4 q.2.1 q.2.2.1 q.1 q.2.2.2 := fun q h => tv_fp_ok (List.all_eq_true.mp (show (tb_fp_RX4.all (tv_fp RX4)) = true by decide +kernel) q h)
theorem tv_ci_RX4 : ∀ q ∈ tb_ci_RX4, Cond.constant RX4 q.1 (Int32.ofInt q.2) ∈ ai_GT ∧ ai_ir q.2 q.2 = true := fun q h => by
  have h1 := List.all_eq_true.mp (show (tb_ci_RX4.all fun q => tv_in (Cond.constant RX4 q.1 (Int32.ofInt q.2)) && ai_ir q.2 q.2) = true by decide +kernel) q h
  rw [Bool.and_eq_true] at h1
  exact ⟨tv_mem h1.1, h1.2⟩
theorem tv_cl_RX4 : ∀ q ∈ tb_cl_RX4, Cond.constantLong RX4 q.1 (Int64.ofInt q.2) ∈ ai_GT ∧ (Int64.ofInt q.2).toInt = q.2 := fun q h => by
  have h1 := List.all_eq_true.mp (show (tb_cl_RX4.all fun q => tv_in (Cond.constantLong RX4 q.1 (Int64.ofInt q.2)) && decide ((Int64.ofInt q.2).toInt = q.2)) = true by decide +kernel) q h
  rw [Bool.and_eq_true, decide_eq_true_eq] at h1
  exact ⟨tv_mem h1.1, h1.2⟩
theorem tv_fl_RX5 : ∀ q ∈ tb_fl_RX5, ai_flok RX5 q.2.1 q.2.2 q.1 := fun q h => tv_fl_ok (List.all_eq_true.mp (show (tb_fl_RX5.all (tv_fl RX5)) = true by decide +kernel) q h)
theorem tv_fp_RX5 : ∀ q ∈ tb_fp_RX5, ai_fpok RX5 q.2.1 q.2.2.1 q.1 q.2.2.2 := fun q h => tv_fp_ok (List.all_eq_true.mp (show (tb_fp_RX5.all (tv_fp RX5)) = true by decide +kernel) q h)
theorem tv_ci_RX5 : ∀ q ∈ tb_ci_RX5, Cond.constant RX5 q.1 (Int32.ofInt q.2) ∈ ai_GT ∧ ai_ir q.2 q.2 = true := fun q h => by
  have h1 := List.all_eq_true.mp (show (tb_ci_RX5.all fun q => tv_in (Cond.constant RX5 q.1 (Int32.ofInt q.2)) && ai_ir q.2 q.2) = true by decide +kernel) q h
  rw [Bool.and_eq_true] at h1
  exact ⟨tv_mem h1.1, h1.2⟩
theorem tv_cl_RX5 : ∀ q ∈ tb_cl_RX5, Cond.constantLong RX5 q.1 (Int64.ofInt q.2) ∈ ai_GT ∧ (Int64.ofInt q.2).toInt = q.2 := fun q h => by
  have h1 := List.all_eq_true.mp (show (tb_cl_RX5.all fun q => tv_in (Cond.constantLong RX5 q.1 (Int64.ofInt q.2)) && decide ((Int64.ofInt q.2).toInt = q.2)) = true by decide +kernel) q h
  rw [Bool.and_eq_true, decide_eq_true_eq] at h1
  exact ⟨tv_mem h1.1, h1.2⟩
theorem tv_fl_RX6 : ∀ q ∈ tb_fl_RX6, ai_flok RX6 q.2.1 q.2.2 q.1 := fun q h => tv_fl_ok (List.all_eq_true.mp (show (tb_fl_RX6.all (tv_fl RX6)) = true by decide +kernel) q h)
theorem tv_fp_RX6 : ∀ q ∈ tb_fp_RX6, ai_fpok RX6 q.2.1 q.2.2.1 q.1 q.2.2.2 := fun q h => tv_fp_ok (List.all_eq_true.mp (show (tb_fp_RX6.all (tv_fp RX6)) = true by decide +kernel) q h)
theorem tv_ci_RX6 : ∀ q ∈ tb_ci_RX6, Cond.constant RX6 q.1 (Int32.ofInt q.2) ∈ ai_GT ∧ ai_ir q.2 q.2 = true := fun q h => by
  have h1 := List.all_eq_true.mp (show (tb_ci_RX6.all fun q => tv_in (Cond.constant RX6 q.1 (Int32.ofInt q.2)) && ai_ir q.2 q.2) = true by decide +kernel) q h
  rw [Bool.and_eq_true] at h1
  exact ⟨tv_mem h1.1, h1.2⟩
theorem tv_cl_RX6 : ∀ q ∈ tb_cl_RX6, Cond.constantLong RX6 q.1 (Int64.ofInt q.2) ∈ ai_GT ∧ (Int64.ofInt q.2).toInt = q.2 := fun q h => by
  have h1 := List.all_eq_true.mp (show (tb_cl_RX6.all fun q => tv_in (Cond.constantLong RX6 q.1 (Int64.ofInt q.2)) && decide ((Int64.ofInt q.2).toInt = q.2)) = true by decide +kernel) q h
  rw [Bool.and_eq_true, decide_eq_true_eq] at h1
  exact ⟨tv_mem h1.1, h1.2⟩
theorem tv_fl_RL : ∀ q ∈ tb_fl_RL, ai_flok RL q.2.1 q.2.2 q.1 := fun q h => tv_fl_ok (List.all_eq_true.mp (show (tb_fl_RL.all (tv_fl RL)) = true by decide +kernel) q h)
theorem tv_fp_RL : ∀ q ∈ tb_fp_RL, ai_fpok RL q.2.1 q.2.2.1 q.1 q.2.2.2 := fun q h => tv_fp_ok (List.all_eq_true.mp (show (tb_fp_RL.all (tv_fp RL)) = true by decide +kernel) q h)
theorem tv_ci_RL : ∀ q ∈ tb_ci_RL, Cond.constant RL q.1 (Int32.ofInt q.2) ∈ ai_GT ∧ ai_ir q.2 q.2 = true := fun q h => by
  have h1 := List.all_eq_true.mp (show (tb_ci_RL.all fun q => tv_in (Cond.constant RL q.1 (Int32.ofInt q.2)) && ai_ir q.2 q.2) = true by decide +kernel) q h
  rw [Bool.and_eq_true] at h1
  exact ⟨tv_mem h1.1, h1.2⟩
theorem tv_cl_RL : ∀ q ∈ tb_cl_RL, Cond.constantLong RL q.1 (Int64.ofInt q.2) ∈ ai_GT ∧ (Int64.ofInt q.2).toInt = q.2 := fun q h => by
  have h1 := List.all_eq_true.mp (show (tb_cl_RL.all fun q => tv_in (Cond.constantLong RL q.1 (Int64.ofInt q.2)) && decide ((Int64.ofInt q.2).toInt = q.2)) = true by decide +kernel) q h
  rw [Bool.and_eq_true, decide_eq_true_eq] at h1
  exact ⟨tv_mem h1.1, h1.2⟩
theorem tv_fl_RJ6 : ∀ q ∈ tb_fl_RJ6, ai_flok RJ6 q.2.1 q.2.2 q.1 := fun q h => tv_fl_ok (List.all_eq_true.mp (show (tb_fl_RJ6.all (tv_fl RJ6)) = true by decide +kernel) q h)
theorem tv_fp_RJ6 : ∀ q ∈ tb_fp_RJ6, ai_fpok RJ6 q.2.1 q.2.2.1 q.1 q.2.2.2 := fun q h => tv_fp_ok (List.all_eq_true.mp (show (tb_fp_RJ6.all (tv_fp RJ6)) = true by decide +kernel) q h)
theorem tv_ci_RJ6 : ∀ q ∈ tb_ci_RJ6, Cond.constant RJ6 q.1 (Int32.ofInt q.2) ∈ ai_GT ∧ ai_ir q.2 q.2 = true := fun q h => by
  have h1 := List.all_eq_true.mp (show (tb_ci_RJ6.all fun q => tv_in (Cond.constant RJ6 q.1 (Int32.ofInt q.2)) && ai_ir q.2 q.2) = true by decide +kernel) q h
  rw [Bool.and_eq_true] at h1
  exact ⟨tv_mem h1.1, h1.2⟩
theorem tv_cl_RJ6 : ∀ q ∈ tb_cl_RJ6, Cond.constantLong RJ6 q.1 (Int64.ofInt q.2) ∈ ai_GT ∧ (Int64.ofInt q.2).toInt = q.2 := fun q h => by
  have h1 := List.all_eq_true.mp (show (tb_cl_RJ6.all fun q => tv_in (Cond.constantLong RJ6 q.1 (Int64.ofInt q.2)) && decide ((Int64.ofInt q.2).toInt = q.2)) = true by decide +kernel) q h
  rw [Bool.and_eq_true, decide_eq_true_eq] at h1
  exact ⟨tv_mem h1.1, h1.2⟩
