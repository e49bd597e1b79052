/-! pieces of a round, 2 -/
theorem lb_c13 : lb_case [] 13 = true := by decide +kernel
theorem lb_c14 : lb_case [] 14 = true := by decide +kernel
theorem lb_c15 : lb_case [mm_18] 15 = true := by decide +kernel
theorem lb_c16 : lb_case [mm_19] 16 = true := by decide +kernel
theorem lb_c17 : lb_case [mm_20] 17 = true := by decide +kernel
theorem lb_c18 : lb_case [mm_21] 18 = true := by decide +kernel
theorem lb_c19 : lb_case [mm_22, mm_25] 19 = true := by decide +kernel
theorem lb_c20 : lb_case [mm_26] 20 = true := by decide +kernel
theorem lb_c21 : lb_case [mm_30] 21 = true := by decide +kernel
theorem lb_c22 : lb_case [mm_31, mm_32, mm_33] 22 = true := by decide +kernel
theorem lb_c23 : lb_case [mm_34] 23 = true := by decide +kernel
theorem lb_c24 : lb_case [mm_35] 24 = true := by decide +kernel
theorem lb_c25 : lb_case [] 25 = true := by decide +kernel
theorem lb_c26 : lb_case [] 26 = true := by decide +kernel
theorem lb_c27 : lb_case [] 27 = true := by decide +kernel
theorem lb_c28 : lb_case [mm_36] 28 = true := by decide +kernel
theorem lb_c29 : lb_case [mm_37] 29 = true := by decide +kernel
theorem lb_c30 : lb_case [mm_38] 30 = true := by decide +kernel
theorem lb_c31 : lb_case [mm_39] 31 = true := by decide +kernel
theorem lb_c32 : lb_case [mm_40] 32 = true := by decide +kernel
theorem lb_c33 : lb_case [] 33 = true := by decide +kernel
theorem lb_c34 : lb_case [] 34 = true := by decide +kernel
theorem lb_c35 : lb_case [mm_41, mm_42, mm_47] 35 = true := by decide +kernel
theorem lb_c36 : lb_case [] 36 = true := by decide +kernel
theorem lb_c37 : lb_case [] 37 = true := by decide +kernel
