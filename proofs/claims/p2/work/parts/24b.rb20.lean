theorem rb_2_0 : sx_runF sx_AN lh_CU sx_O1 100000 lh_x (lh_a 18) [lh_h false 1, lh_h true 1] false 209 52 7858 lh_n (lh_b false) lh_l [] (lh_w false) lh_k = true := by decide +kernel
