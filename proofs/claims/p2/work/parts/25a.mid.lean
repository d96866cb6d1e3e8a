theorem ra_2_0 : sx_runF sx_AN sx_CU sx_O1 100000 lh_x (lh_a 209) [lh_m 209 false, lh_m 209 true] false 204 52 7858 lh_n (lh_b false) lh_l [] (lh_w false) lh_k = true := by decide +kernel
theorem ra_2_1 : sx_runF sx_AN sx_CU sx_O1 100000 lh_x (lh_a 209) [lh_m 209 false, lh_m 209 true] false 204 52 7858 lh_n (lh_b true) lh_l [] (lh_w true) lh_k = true := by decide +kernel
