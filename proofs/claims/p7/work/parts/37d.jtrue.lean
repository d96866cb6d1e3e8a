theorem pj_r_true_0 : pj_r true 0 = true := by decide +kernel
theorem pj_r_true_1 : pj_r true 1 = true := by decide +kernel
theorem pj_r_true_2 : pj_r true 2 = true := by decide +kernel
theorem pj_r_true_3 : pj_r true 3 = true := by decide +kernel
theorem pj_r_true_4 : pj_r true 4 = true := by decide +kernel
theorem pj_r_true_5 : pj_r true 5 = true := by decide +kernel
