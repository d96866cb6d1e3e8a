theorem pi_r_true_2 : pi_r true 2 = true := by decide +kernel
