/-! pieces of a round, 3 -/
theorem lb_k30 : lb_case [mm_22] 30 = true := by decide +kernel
theorem lb_k33 : lb_case [] 33 = true := by decide +kernel
theorem lb_k34 : lb_case [] 34 = true := by decide +kernel
theorem lb_k35 : lb_case [mm_23, mm_24, mm_29] 35 = true := by decide +kernel
theorem lb_k36 : lb_case [] 36 = true := by decide +kernel
theorem lb_k37 : lb_case [] 37 = true := by decide +kernel
