theorem pi_r_false_0 : pi_r false 0 = true := by decide +kernel
theorem pi_r_false_1 : pi_r false 1 = true := by decide +kernel
theorem pi_r_false_2 : pi_r false 2 = true := by decide +kernel
theorem pi_r_false_3 : pi_r false 3 = true := by decide +kernel
theorem pi_r_false_4 : pi_r false 4 = true := by decide +kernel
theorem pi_r_false_5 : pi_r false 5 = true := by decide +kernel
