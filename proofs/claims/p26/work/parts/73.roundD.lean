/-! pieces of a round, 3 -/
theorem lb_c33 : lb_case [] 33 = true := by decide +kernel
theorem lb_c34 : lb_case [] 34 = true := by decide +kernel
theorem lb_c35 : lb_case [mm_23, mm_24, mm_29] 35 = true := by decide +kernel
theorem lb_c36 : lb_case [] 36 = true := by decide +kernel
theorem lb_c37 : lb_case [] 37 = true := by decide +kernel
