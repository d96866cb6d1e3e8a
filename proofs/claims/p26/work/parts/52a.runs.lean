theorem rb_1_0 : sx_runF sx_AN sx_CU sx_O1 100000 lh_x (lh_a 1008) [lh_y false] false 191 52 7858 lh_n (lh_b false) lh_l [] (lh_w false) lh_k = true := by decide +kernel
theorem rb_1_1 : sx_runF sx_AN sx_CU sx_O1 100000 lh_x (lh_a 1008) [lh_y true] false 191 52 7858 lh_n (lh_b true) lh_l [] (lh_w true) lh_k = true := by decide +kernel
theorem ra_4_0 : sx_runF sx_AN sx_CU sx_O1 100000 lh_x (lh_a 250) [lh_m8 250 false] false 230 52 7858 lh_n (lh_b false) lh_l [] (lh_w false) lh_k = true := by decide +kernel
theorem rb_4_0 : sx_runF sx_AN sx_CU sx_O1 100000 lh_x (lh_a 1008) [lh_m8 1008 false] false 250 52 7858 lh_n (lh_b false) lh_l [] (lh_w false) lh_k = true := by decide +kernel
theorem ra_4_1 : sx_runF sx_AN sx_CU sx_O1 100000 lh_x (lh_a 250) [lh_m8 250 true] false 230 52 7858 lh_n (lh_b true) lh_l [] (lh_w true) lh_k = true := by decide +kernel
theorem rb_4_1 : sx_runF sx_AN sx_CU sx_O1 100000 lh_x (lh_a 1008) [lh_m8 1008 true] false 250 52 7858 lh_n (lh_b true) lh_l [] (lh_w true) lh_k = true := by decide +kernel
theorem ra_5_0 : sx_runF sx_AN sx_CU sx_O1 100000 lh_x (lh_a 283) [lh_m8 283 false] false 273 52 7858 lh_n (lh_b false) lh_l [] (lh_w false) lh_k = true := by decide +kernel
theorem rb_5_0 : sx_runF sx_AN sx_CU sx_O1 100000 lh_x (lh_a 1008) [lh_m8 1008 false] false 283 52 7858 lh_n (lh_b false) lh_l [] (lh_w false) lh_k = true := by decide +kernel
theorem ra_5_1 : sx_runF sx_AN sx_CU sx_O1 100000 lh_x (lh_a 283) [lh_m8 283 true] false 273 52 7858 lh_n (lh_b true) lh_l [] (lh_w true) lh_k = true := by decide +kernel
theorem rb_5_1 : sx_runF sx_AN sx_CU sx_O1 100000 lh_x (lh_a 1008) [lh_m8 1008 true] false 283 52 7858 lh_n (lh_b true) lh_l [] (lh_w true) lh_k = true := by decide +kernel
theorem ra_6_0 : sx_runF sx_AN sx_CU sx_O1 100000 lh_x (lh_a 311) [lh_m8 311 false] false 296 52 7858 lh_n (lh_b false) lh_l [] (lh_w false) lh_k = true := by decide +kernel
theorem rb_6_0 : sx_runF sx_AN sx_CU sx_O1 100000 lh_x (lh_a 1008) [lh_m8 1008 false] false 311 52 7858 lh_n (lh_b false) lh_l [] (lh_w false) lh_k = true := by decide +kernel
theorem ra_6_1 : sx_runF sx_AN sx_CU sx_O1 100000 lh_x (lh_a 311) [lh_m8 311 true] false 296 52 7858 lh_n (lh_b true) lh_l [] (lh_w true) lh_k = true := by decide +kernel
theorem rb_6_1 : sx_runF sx_AN sx_CU sx_O1 100000 lh_x (lh_a 1008) [lh_m8 1008 true] false 311 52 7858 lh_n (lh_b true) lh_l [] (lh_w true) lh_k = true := by decide +kernel
theorem ra_7_0 : sx_runF sx_AN sx_CU sx_O1 100000 lh_x (lh_a 339) [lh_m8 339 false] false 329 52 7858 lh_n (lh_b false) lh_l [] (lh_w false) lh_k = true := by decide +kernel
theorem rb_7_0 : sx_runF sx_AN sx_CU sx_O1 100000 lh_x (lh_a 1008) [lh_m8 1008 false] false 339 52 7858 lh_n (lh_b false) lh_l [] (lh_w false) lh_k = true := by decide +kernel
theorem ra_7_1 : sx_runF sx_AN sx_CU sx_O1 100000 lh_x (lh_a 339) [lh_m8 339 true] false 329 52 7858 lh_n (lh_b true) lh_l [] (lh_w true) lh_k = true := by decide +kernel
theorem rb_7_1 : sx_runF sx_AN sx_CU sx_O1 100000 lh_x (lh_a 1008) [lh_m8 1008 true] false 339 52 7858 lh_n (lh_b true) lh_l [] (lh_w true) lh_k = true := by decide +kernel
theorem ra_8_0 : sx_runF sx_AN sx_CU sx_O1 100000 lh_x (lh_a 367) [lh_m8 367 false] false 352 52 7858 lh_n (lh_b false) lh_l [] (lh_w false) lh_k = true := by decide +kernel
theorem rb_8_0 : sx_runF sx_AN sx_CU sx_O1 100000 lh_x (lh_a 1008) [lh_m8 1008 false] false 367 52 7858 lh_n (lh_b false) lh_l [] (lh_w false) lh_k = true := by decide +kernel
theorem ra_8_1 : sx_runF sx_AN sx_CU sx_O1 100000 lh_x (lh_a 367) [lh_m8 367 true] false 352 52 7858 lh_n (lh_b true) lh_l [] (lh_w true) lh_k = true := by decide +kernel
theorem rb_8_1 : sx_runF sx_AN sx_CU sx_O1 100000 lh_x (lh_a 1008) [lh_m8 1008 true] false 367 52 7858 lh_n (lh_b true) lh_l [] (lh_w true) lh_k = true := by decide +kernel
theorem ra_9_0 : sx_runF sx_AN sx_CU sx_O1 100000 lh_x (lh_a 405) [lh_m8 405 false] false 385 52 7858 lh_n (lh_b false) lh_l [] (lh_w false) lh_k = true := by decide +kernel
