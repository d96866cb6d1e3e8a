theorem pj_r_true_4 : pj_r true 4 = true := by decide +kernel
