theorem pi_r_false_0 : pi_r false 0 = true := by decide +kernel
