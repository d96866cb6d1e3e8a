theorem pj_r_false_0 : pj_r false 0 = true := by decide +kernel
theorem pj_r_false_1 : pj_r false 1 = true := by decide +kernel
theorem pj_r_false_2 : pj_r false 2 = true := by decide +kernel
theorem pj_r_false_3 : pj_r false 3 = true := by decide +kernel
theorem pj_r_false_4 : pj_r false 4 = true := by decide +kernel
theorem pj_r_false_5 : pj_r false 5 = true := by decide +kernel
