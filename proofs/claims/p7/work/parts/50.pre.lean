/-- the same loops; and where two people are told apart, who they are -/
def lh_AN : Nat → List (Nat × sx_An) := fun j => bif Nat.beq j 35 then (16, .inr [1, 2]) :: sx_AN j else sx_AN j
/-- the places of the cases -/
def li_cs : List Nat := [168, 191, 204, 217, 230, 273, 296, 329, 352, 385, 428, 441, 484, 507, 520, 553, 606, 649, 672, 725, 748, 771, 814, 827, 850, 883, 916, 959, 972, 985, 1008]
def li_an : List (Nat × sx_An) := li_cs.map fun pc => (pc, .inl ([], 0, 1))
def px_R : sx_OR := (sx_O1a, px_O)
def px_e (v : Bool) : sx_N := (44, (-4), 199) :: (45, 0, 5) :: (46, (-48), 99) :: (47, (-48), 99) :: (48, (-48), 99) :: (49, (-48), 99) :: (50, (-48), 99) :: lh_b v
/-- heads: the number of letters stays; it becomes 0; at the beginning -/
def lh_m8 (pc : Nat) (v : Bool) : sx_H := (pc, 9, (lh_p v).drop 8, (lh_f v).drop 2, lh_n, (7, 0, 200) :: (8, 0, 5) :: lh_j, lh_l, lh_w v, 1, 0, 0, 400, 52, 7858)
def lh_z (v : Bool) : List sx_C := pi_ob (pi_ob (lh_w v) 1 2 (.inl (0, 0))) 42 1 (.inl (0, 0))
/-- the town -/
def li_tw (v : Bool) : Nat := bif v then 9 else 4
/-- a town is laid: p people, and their kinds on both sides -/
def lh_Lw (p : Nat) (v : Bool) : List sx_C := ((pi_ob (lh_w v) (li_tw v) 4 (.inl (0, (p : Int)))).set (px_tq v) (.inl (0, 5, false, (List.range p).map fun j => (j, .inl (44 + j, 0))))).set 44 (.inl (0, 50, false, (0, .inl (0, (p : Int))) :: (List.range p).map fun j => (5 + j, .inl (44 + j, 0))))
def lh_L (p : Nat) (v : Bool) : sx_H := (1008, 8, (lh_p v).drop 7 ++ (List.range p).map (fun j => (3, px_tq v, j)), (lh_f v).drop 1 ++ (List.range p).map (fun j => (44 + j, (-2147483648 : Int), (2147483647 : Int))), lh_n + p, (7, 0, 200) :: lh_j, lh_l, lh_Lw p v, 1, 0, 0, 400, 52, 7858)
def lh_Ls (v : Bool) : List sx_H := lh_m8 1008 v :: (List.range 6).map (fun p => lh_L p (!v))
def lh_y (v : Bool) : sx_H := (1008, 9, (lh_p v).drop 8, (lh_f v).drop 2, lh_n, (7, 0, 200) :: (8, 0, 5) :: lh_j, lh_l, lh_z v, 1, 0, 0, 400, 52, 7858)
/-- the beginning: four people, kinds 0, 0, 2, 3 -/
def lh_k0 (b : Nat) : List (Nat × sx_V) := [(b, .inl (0, 0)), (b + 1, .inl (0, 0)), (b + 2, .inl (0, 2)), (b + 3, .inl (0, 3))]
def lh_z0 : List sx_C := ((((pi_ob (lh_z false) 4 4 (.inl (0, 4))).set 2 (.inl (1, 200, false, []))).set 43 (.inl (0, 200, false, []))).set 5 (.inl (0, 5, false, lh_k0 0))).set 44 (.inl (0, 50, false, (0, .inl (0, 4)) :: lh_k0 5))
def lh_h0 : sx_H := (18, 1, lh_p false, lh_e false, lh_n, [], lh_l, lh_z0, 1, 0, 0, 400, 52, 7858)
