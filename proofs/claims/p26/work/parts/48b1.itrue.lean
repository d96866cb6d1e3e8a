theorem pi_r_true_1 : pi_r true 1 = true := by decide +kernel
