theorem ra_3_0 : sx_runF sx_AN sx_CU sx_O1 100000 lh_x (lh_a 222) [lh_m 222 false, lh_m 222 true] false 217 52 7858 lh_n (lh_b false) lh_l [] (lh_w false) lh_k = true := by decide +kernel
theorem ra_3_1 : sx_runF sx_AN sx_CU sx_O1 100000 lh_x (lh_a 222) [lh_m 222 false, lh_m 222 true] false 217 52 7858 lh_n (lh_b true) lh_l [] (lh_w true) lh_k = true := by decide +kernel
