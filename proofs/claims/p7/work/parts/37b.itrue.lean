theorem pi_r_true_0 : pi_r true 0 = true := by decide +kernel
theorem pi_r_true_1 : pi_r true 1 = true := by decide +kernel
theorem pi_r_true_2 : pi_r true 2 = true := by decide +kernel
theorem pi_r_true_3 : pi_r true 3 = true := by decide +kernel
theorem pi_r_true_4 : pi_r true 4 = true := by decide +kernel
theorem pi_r_true_5 : pi_r true 5 = true := by decide +kernel
