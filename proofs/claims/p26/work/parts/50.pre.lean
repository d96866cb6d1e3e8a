/-- the same loops; and where two people are told apart, who they are -/
def lh_AN : Nat → List (Nat × sx_An) := fun j => bif Nat.beq j 35 then (16, .inr [1, 2]) :: sx_AN j else sx_AN j
/-- the places of the cases -/
def li_cs : List Nat := [168, 191, 204, 217, 230, 273, 296, 329, 352, 385, 428, 441, 484, 507, 520, 553, 606, 649, 672, 725, 748, 771, 814, 827, 850, 883, 916, 959, 972, 985, 1008]
def li_an : List (Nat × sx_An) := li_cs.map fun pc => (pc, .inl ([], 0, 1))
/-- heads: the number of letters stays; it becomes 0; at the beginning -/
def lh_m8 (pc : Nat) (v : Bool) : sx_H := (pc, 9, (lh_p v).drop 8, (lh_f v).drop 2, lh_n, (7, 0, 200) :: (8, 0, 5) :: lh_j, lh_l, lh_w v, 1, 0, 0, 400, 52, 7858)
def lh_z (v : Bool) : List sx_C := pi_ob (pi_ob (lh_w v) 1 2 (.inl (0, 0))) 42 1 (.inl (0, 0))
/-- the town's habits -/
def px_tA (v : Bool) : Nat := bif v then 11 else 6
def px_tB (v : Bool) : Nat := bif v then 12 else 7
def lh_y (v : Bool) : sx_H := (1008, 9, (lh_p v).drop 8, (lh_f v).drop 2, lh_n, (7, 0, 200) :: (8, 0, 5) :: lh_j, lh_l, lh_z v, 1, 0, 0, 400, 52, 7858)
/-- the beginning: four people and their habits; nothing is stamped -/
def lh_tA : List Int := [1, 3, (-1), (-1), 1, 3, (-1), (-1), 2, (-1), 5, (-1), 1, (-1), 5, (-1), (-1), (-1), (-1), (-1)]
def lh_tB : List Int := [2, 3, (-1), (-1), 4, 0, (-1), (-1), 1, (-1), 5, (-1), 1, (-1), 0, (-1), (-1), (-1), (-1), (-1)]
def lh_tC : List Int := [2, 3, 0, 0, 4, 0, 0, 0, 1, 0, 5, 0, 1, 0, 0, 0, 0, 0, 0, 0]
def lh_sp (b : Nat) (l : List Int) : List (Nat × sx_V) := (List.range l.length).map fun j => (b + j, .inl (0, l.getD j 0))
def lh_zs : List Int := [0, 0, 0, 0, 0, 0]
def lh_z0 : List sx_C := (((((((((pi_ob (lh_z false) 4 4 (.inl (0, 4))).set 2 (.inl (1, 200, false, []))).set 43 (.inl (0, 200, false, []))).set 6 (.inl (0, 20, false, lh_sp 0 lh_tA))).set 7 (.inl (0, 20, false, lh_sp 0 lh_tB))).set 44 (.inl (0, 50, false, (0, .inl (0, 4)) :: (lh_sp 10 lh_tA ++ lh_sp 30 lh_tC)))).set 23 (.inl (0, 6, false, lh_sp 0 lh_zs))).set 24 (.inl (0, 6, false, lh_sp 0 lh_zs))).set 25 (.inl (0, 6, false, lh_sp 0 lh_zs))).set 50 (.inl (0, 6, false, lh_sp 0 lh_zs))
def lh_h0 : sx_H := (18, 1, lh_p false, lh_e false, lh_n, [], lh_l, lh_z0, 1, 0, 0, 400, 52, 7858)
