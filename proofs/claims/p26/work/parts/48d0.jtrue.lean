theorem pj_r_true_0 : pj_r true 0 = true := by decide +kernel
