/-- the same loops; and where two people are told apart, who they are -/
def lh_AN : Nat → List (Nat × sx_An) := fun j => bif Nat.beq j 35 then (16, .inr [1, 2]) :: sx_AN j else sx_AN j
/-- the places of the cases -/
def li_cs : List Nat := [168, 191, 204, 217, 230, 273, 296, 329, 352, 385, 428, 441, 484, 507, 520, 553, 606, 649, 672, 725, 748, 771, 814, 827, 850, 883, 916, 959, 972, 985, 1008]
def li_an : List (Nat × sx_An) := li_cs.map fun pc => (pc, .inl ([], 0, 1))
def px_R : sx_OR := (sx_O1a, px_O)
def px_e (v : Bool) : sx_N := (44, (-4), 199) :: (45, 0, 5) :: lh_b v
/-- heads: the number of letters stays; it becomes 0; at the beginning -/
def lh_m8 (pc : Nat) (v : Bool) : sx_H := (pc, 8, lh_p.drop 7, (lh_f v).drop 1, lh_n, (7, 0, 200) :: lh_j, lh_l, lh_w v, 1, 0, 0, 400, 52, 7858)
def lh_z (v : Bool) : List sx_C := pi_ob (pi_ob (lh_w v) 1 2 (.inl (0, 0))) 42 1 (.inl (0, 0))
def lh_y (v : Bool) : sx_H := (1008, 8, lh_p.drop 7, (lh_f v).drop 1, lh_n, (7, 0, 200) :: lh_j, lh_l, lh_z v, 1, 0, 0, 400, 52, 7858)
def lh_z0 : List sx_C := ((lh_z false).set 2 (.inl (1, 200, false, []))).set 43 (.inl (0, 200, false, []))
def lh_h0 : sx_H := (18, 1, lh_p, lh_e false, lh_n, [], lh_l, lh_z0, 1, 0, 0, 400, 52, 7858)
