/-! pieces of a round, 2 -/
theorem lb_c10_0 : lb_case [] 10 ([]) = true := by decide +kernel
theorem lb_c11_0 : lb_case [] 11 ([]) = true := by decide +kernel
theorem lb_c12_0 : lb_case [] 12 ([]) = true := by decide +kernel
theorem lb_c13_0 : lb_case [] 13 ([]) = true := by decide +kernel
theorem lb_c14_0 : lb_case [] 14 ([]) = true := by decide +kernel
theorem lb_c15_0 : lb_case [mm_18] 15 ([]) = true := by decide +kernel
theorem lb_c16_0 : lb_case [mm_19] 16 ([]) = true := by decide +kernel
theorem lb_c17_0 : lb_case [mm_20] 17 ([]) = true := by decide +kernel
theorem lb_c18_0 : lb_case [mm_21] 18 ([]) = true := by decide +kernel
theorem lb_c19_0 : lb_case [mm_22, mm_25] 19 ([]) = true := by decide +kernel
theorem lb_c20_0 : lb_case [mm_26] 20 ([]) = true := by decide +kernel
theorem lb_c21_0 : lb_case [mm_30] 21 ([]) = true := by decide +kernel
theorem lb_c22_0 : lb_case [mm_31, mm_32, mm_33] 22 ([]) = true := by decide +kernel
theorem lb_c23_0 : lb_case [mm_34] 23 ([]) = true := by decide +kernel
theorem lb_c24_0 : lb_case [mm_35] 24 ([]) = true := by decide +kernel
theorem lb_c25_0 : lb_case [] 25 ([]) = true := by decide +kernel
theorem lb_c26_0 : lb_case [] 26 ([]) = true := by decide +kernel
theorem lb_c27_0 : lb_case [] 27 ([]) = true := by decide +kernel
theorem lb_c28_0 : lb_case [mm_36] 28 ([]) = true := by decide +kernel
theorem lb_c29_0 : lb_case [mm_37] 29 ([]) = true := by decide +kernel
theorem lb_c30_0 : lb_case [mm_38] 30 ([]) = true := by decide +kernel
theorem lb_c31_0 : lb_case [mm_39] 31 ([]) = true := by decide +kernel
theorem lb_c32_0 : lb_case [mm_40] 32 ([]) = true := by decide +kernel
theorem lb_c33_0 : lb_case [mm_41] 33 ([]) = true := by decide +kernel
theorem lb_c34_0 : lb_case [] 34 ([(4, (-2147483648), (-1))]) = true := by decide +kernel
theorem lb_c34_1 : lb_case [] 34 ([(4, 4, 2147483647)]) = true := by decide +kernel
theorem lb_c34_2 : lb_case [] 34 ([(4, 0, 0), (12, (-1), (-1)), (16, (-4), (-4))]) = true := by decide +kernel
theorem lb_c34_3 : lb_case [] 34 ([(4, 0, 0), (12, 0, 2), (16, 0, 2)]) = true := by decide +kernel
theorem lb_c34_4 : lb_case [] 34 ([(4, 1, 1), (13, (-1), (-1)), (17, (-4), (-4))]) = true := by decide +kernel
theorem lb_c34_5 : lb_case [] 34 ([(4, 1, 1), (13, 0, 2), (17, 0, 2)]) = true := by decide +kernel
theorem lb_c34_6 : lb_case [] 34 ([(4, 2, 2), (14, (-1), (-1)), (18, (-4), (-4))]) = true := by decide +kernel
theorem lb_c34_7 : lb_case [] 34 ([(4, 2, 2), (14, 0, 2), (18, 0, 2)]) = true := by decide +kernel
theorem lb_c34_8 : lb_case [] 34 ([(4, 3, 3), (15, (-1), (-1)), (19, (-4), (-4))]) = true := by decide +kernel
theorem lb_c34_9 : lb_case [] 34 ([(4, 3, 3), (15, 0, 2), (19, 0, 2)]) = true := by decide +kernel
theorem lb_c35_0 : lb_case [mm_42, mm_43, mm_48] 35 ([]) = true := by decide +kernel
theorem lb_c36_0 : lb_case [] 36 ([]) = true := by decide +kernel
theorem lb_c37_0 : lb_case [] 37 ([]) = true := by decide +kernel
