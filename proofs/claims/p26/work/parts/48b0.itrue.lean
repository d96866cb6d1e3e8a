theorem pi_r_true_0 : pi_r true 0 = true := by decide +kernel
