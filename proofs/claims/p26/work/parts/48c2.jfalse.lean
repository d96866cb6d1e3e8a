theorem pj_r_false_2 : pj_r false 2 = true := by decide +kernel
