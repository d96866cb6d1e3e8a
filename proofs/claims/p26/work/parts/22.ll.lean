/-! the least habit to alter: what is found is NONE, or tells a person, an hour and tenths -/
def lo_S : List (Int × Int) := [(-4, -4), (0, 10), (100, 110), (200, 210), (300, 310), (1000, 1010), (1100, 1110), (1200, 1210), (1300, 1310), (2000, 2010), (2100, 2110), (2200, 2210), (2300, 2310), (3000, 3010), (3100, 3110), (3200, 3210), (3300, 3310), (4000, 4010), (4100, 4110), (4200, 4210), (4300, 4310)]
def ll_E (v : Bool) : sx_N := (44, 0, 4) :: (45, 0, 4) :: (46, (-2147483648), 2147483647) :: lh_f v
def ll_F (v : Bool) : sx_N := (47, 0, 8) :: ll_E v
def ll_G (v : Bool) : sx_N := (48, (-2147483648), 2147483647) :: ll_F v
def ll_l (k : Nat × Int) : sx_L := [(0, .inr (.ref 0)), (1, .inl (44, 0)), (2, .inl (45, 0)), (3, .inl (46, 0)), (4, .inl (48, 0)), (5, .inl (49, 0)), (6, .inl k)]
def ll_m : sx_L := [(0, .inr (.ref 0)), (1, .inl (44, 0)), (2, .inl (45, 0)), (3, .inl (46, 0)), (4, .inl (48, 0)), (5, .inl (49, 0)), (6, .inl (47, 0)), (7, .inl (50, 0)), (8, .inl (51, 0)), (9, .inl (52, 0)), (10, .inl (53, 0)), (11, .inl (54, 0))]
def ll_n : sx_N := [(49, (-2147483648), 2147483647), (50, 0, 4), (51, 0, 3), (52, 0, 19), (53, (-2147483648), 2147483647), (54, 0, 11), (47, 0, 7)]
def ll_a (v : Bool) : sx_H := (11, 47, [(0, 6, 0), (0, 4, 0), (0, 5, 0)], [(47, 0, 0), (48, (-4), (-4)), (49, (-2147483648), 2147483647)], 50, ll_E v, ll_l (47, 0), lh_w v, 1, 0, 0, 0, 0, 0)
def ll_b (v : Bool) : sx_H := (11, 49, [(0, 5, 0)], [(49, (-2147483648), 2147483647), (47, 0, 7)], 50, ll_G v, ll_l (47, 1), lh_w v, 1, 0, 0, 0, 0, 0)
def ll_c (v : Bool) (dir : Int) : sx_H := (61, 49, [(0, 5, 0), (0, 7, 0), (0, 8, 0), (0, 9, 0), (0, 10, 0), (0, 11, 0)], ll_n, 55, ll_G v, ll_m, lh_w v, 54, dir, 0, 0, 0, 0)
def ll_d (v : Bool) (b : Int × Int) : sx_H := (61, 48, [(0, 4, 0), (0, 5, 0), (0, 7, 0), (0, 8, 0), (0, 9, 0), (0, 10, 0), (0, 11, 0)], (48, b.1, b.2) :: ll_n, 55, ll_F v, ll_m, lh_w v, 54, 1, 0, 0, 0, 0)
def ll_k (v : Bool) : sx_O → Bool := fun o => decide (o.2.2.1 = some (.inl (48, 0))) && sx_fw 44 [] (lh_w v) o.2.2.2
def ll_x : pm_X := (mm_78, 3, 0, mk_78)
noncomputable def ll_0 (v : Bool) : Bool := sx_runF sx_AN sx_CU sx_O1 100000 ll_x [(11, .inl ([], 0, 1))] [ll_a v] false 0 0 0 47 (ll_E v) [(0, .inr (.ref 0)), (1, .inl (44, 0)), (2, .inl (45, 0)), (3, .inl (46, 0))] [] (lh_w v) (fun _ => false)
noncomputable def ll_1 (v : Bool) : Bool := sx_runF sx_AN sx_CU sx_O1 100000 ll_x [(61, .inl ([], 0, 1))] [ll_c v 0] false 11 0 0 50 ((49, (-2147483648), 2147483647) :: ll_G v) (ll_l (47, 0)) [] (lh_w v) (ll_k v)
noncomputable def ll_2 (v : Bool) : Bool := sx_runF sx_AN sx_CU sx_O1 100000 ll_x [(61, .inl ([], 0, 1)), (11, .inl ([], 0, 1)), (118, .inr [7, 8])] (ll_c v 1 :: ll_b v :: lo_S.map (ll_d v)) true 61 0 0 55 (ll_n ++ ll_G v) ll_m [] (lh_w v) (fun _ => false)
theorem ll_0_ok (v : Bool) : ll_0 v = true := by cases v <;> decide +kernel
theorem ll_1_ok (v : Bool) : ll_1 v = true := by cases v <;> decide +kernel
theorem ll_2_ok (v : Bool) : ll_2 v = true := by cases v <;> decide +kernel
