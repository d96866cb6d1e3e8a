theorem pi_r_false_4 : pi_r false 4 = true := by decide +kernel
