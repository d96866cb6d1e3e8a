theorem pi_r_false_3 : pi_r false 3 = true := by decide +kernel
