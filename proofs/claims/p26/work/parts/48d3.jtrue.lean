theorem pj_r_true_3 : pj_r true 3 = true := by decide +kernel
