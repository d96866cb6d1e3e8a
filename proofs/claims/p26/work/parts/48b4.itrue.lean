theorem pi_r_true_4 : pi_r true 4 = true := by decide +kernel
