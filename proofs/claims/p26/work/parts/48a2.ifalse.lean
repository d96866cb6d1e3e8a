theorem pi_r_false_2 : pi_r false 2 = true := by decide +kernel
