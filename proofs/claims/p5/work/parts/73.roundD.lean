/-! pieces of a round, 3 -/
theorem lb_c24 : lb_case [mm_18] 24 = true := by decide +kernel
theorem lb_c25 : lb_case [] 25 = true := by decide +kernel
theorem lb_c26 : lb_case [] 26 = true := by decide +kernel
theorem lb_c27 : lb_case [] 27 = true := by decide +kernel
theorem lb_c28 : lb_case [mm_19] 28 = true := by decide +kernel
theorem lb_c29 : lb_case [mm_20] 29 = true := by decide +kernel
theorem lb_c30 : lb_case [mm_21] 30 = true := by decide +kernel
theorem lb_c31 : lb_case [mm_22] 31 = true := by decide +kernel
theorem lb_c32 : lb_case [mm_23] 32 = true := by decide +kernel
theorem lb_c33 : lb_case [] 33 = true := by decide +kernel
theorem lb_c34 : lb_case [] 34 = true := by decide +kernel
theorem lb_c35 : lb_case [mm_24, mm_25, mm_30] 35 = true := by decide +kernel
theorem lb_c36 : lb_case [] 36 = true := by decide +kernel
theorem lb_c37 : lb_case [] 37 = true := by decide +kernel
