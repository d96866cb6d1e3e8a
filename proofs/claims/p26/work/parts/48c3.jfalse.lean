theorem pj_r_false_3 : pj_r false 3 = true := by decide +kernel
