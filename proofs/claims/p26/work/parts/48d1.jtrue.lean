theorem pj_r_true_1 : pj_r true 1 = true := by decide +kernel
