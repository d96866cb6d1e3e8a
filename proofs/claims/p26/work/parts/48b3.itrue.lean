theorem pi_r_true_3 : pi_r true 3 = true := by decide +kernel
