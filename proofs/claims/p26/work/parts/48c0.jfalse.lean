theorem pj_r_false_0 : pj_r false 0 = true := by decide +kernel
