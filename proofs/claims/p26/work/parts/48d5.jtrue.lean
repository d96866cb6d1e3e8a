theorem pj_r_true_5 : pj_r true 5 = true := by decide +kernel
