theorem rb_3_0 : sx_runF sx_AN sx_CU px_R 100000 lh_x (lh_a 1008) (lh_Ls false) false 217 52 7858 51 (px_e false) lh_l [] (lh_w false) lh_k = true := by decide +kernel
theorem rb_3_1 : sx_runF sx_AN sx_CU px_R 100000 lh_x (lh_a 1008) (lh_Ls true) false 217 52 7858 51 (px_e true) lh_l [] (lh_w true) lh_k = true := by decide +kernel
