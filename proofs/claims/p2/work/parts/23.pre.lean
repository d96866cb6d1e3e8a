/-- the same loops; and where two people are told apart, who they are -/
def lh_AN : Nat → List (Nat × sx_An) := fun j => bif Nat.beq j 35 then (16, .inr [1, 2]) :: sx_AN j else sx_AN j
/-- the reference's reading of all, cut -/
def lh_CU : Nat → Option (List sx_Cu) := fun j => bif Nat.beq j 140 then some [([], [(1, 0, [], 12, (-2147483648), 2147483647), (2, 0, [3], 1, 0, 0), (3, 0, [3], 0, 0, 5), (2, 0, [4], 0, 0, 0)], 1, (-2147483648), 2147483647, 0)] else sx_CU j
/-- the places of the cases -/
def li_cs : List Nat := [168, 191, 204, 217, 230, 273, 296, 329, 352, 385, 428, 441, 484, 507, 520, 553, 606, 649, 672, 725, 748, 771, 814, 827, 850, 883, 916, 959, 972, 985, 1008]
def li_an : List (Nat × sx_An) := li_cs.map fun pc => (pc, .inl ([], 0, 1))
