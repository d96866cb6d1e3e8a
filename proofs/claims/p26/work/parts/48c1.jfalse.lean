theorem pj_r_false_1 : pj_r false 1 = true := by decide +kernel
