/-! pieces of the cases that only read, 2 -/
theorem r7_k18 : r7_case [] 1274 = true := by decide +kernel
theorem r7_k19 : r7_case [] 1297 = true := by decide +kernel
