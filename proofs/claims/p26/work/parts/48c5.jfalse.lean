theorem pj_r_false_5 : pj_r false 5 = true := by decide +kernel
