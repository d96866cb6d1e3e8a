theorem pi_r_true_5 : pi_r true 5 = true := by decide +kernel
