theorem pi_r_false_5 : pi_r false 5 = true := by decide +kernel
