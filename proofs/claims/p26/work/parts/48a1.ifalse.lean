theorem pi_r_false_1 : pi_r false 1 = true := by decide +kernel
