theorem pj_r_true_2 : pj_r true 2 = true := by decide +kernel
