theorem pj_r_false_4 : pj_r false 4 = true := by decide +kernel
