/-! the item of both readers, run by signs -/
def pi_dq (v : Bool) : Nat := bif v then 4 else 9
def pi_ob (aw : List sx_C) (q f : Nat) (x : sx_V) : List sx_C := match (aw[q]? : Option sx_C) with
  | some (.inr o) => aw.set q (.inr (o.1, o.2.set f x))
  | _ => aw
/-- the world between two calls, with signs of its own for each field -/
def pi_sp (aw : List sx_C) (q : Nat) (x : sx_V) : List sx_C := match (aw[q]? : Option sx_C) with
  | some (.inl c) => aw.set q (.inl (c.1, c.2.1, c.2.2.1, [(0, x)]))
  | _ => aw
def lh_u (v : Bool) : List sx_C := pi_sp (pi_ob (pi_ob (lh_w v) 42 9 (.inl (39, 0))) 42 11 (.inl (40, 0))) 44 (.inl (42, 0))
def lh_v (v : Bool) : List sx_Pl := ((((lh_p v).drop 6).set 32 (1, 42, 9)).set 33 (1, 42, 11)).set 35 (3, 44, 0)
theorem lh_u_ok (v : Bool) : lo_w ll_ok (lh_u v) = true := by cases v <;> decide +kernel
/-- the draft's kinds; what is known of the kinds told so far -/
def pi_kc (v : Bool) : Nat := bif v then 5 else 10
def pi_ks (b : Nat) (p : Int) : List (Nat × sx_V) := (List.range p.toNat).map fun j => (b + j, .inl (88 + j, 0))
def pi_w (v : Bool) (p : Int) : List sx_C := (pi_ob ((lh_u v).set 1 (pz_txt 0)) (pi_dq v) 4 (.inl (0, p))).set (pi_kc v) (.inl (0, 5, false, pi_ks 0 p))
def pj_w (v : Bool) (p : Int) : List sx_C := ((lh_u v).set 42 (pz_mob 1)).set 45 (.inl (0, 50, false, (0, .inl (0, p)) :: pi_ks 5 p))
def pi_x : sx_N := (44, 0, 199) :: ((List.range 16).map fun o => (45 + o, (0 : Int), (126 : Int))) ++ ((List.range 13).map fun o => (62 + o, (0 : Int), (2 : Int))) ++ (((List.range 13).map fun o => (75 + o, (-48 : Int), (99 : Int))) ++ ((List.range 5).map fun o => (88 + o, (-2147483648 : Int), (2147483647 : Int))))
def pi_e (ban v : Bool) : sx_N := bif ban then (bif v then 13 else 18, 0, 9) :: (pi_x ++ lh_f v) else pi_x ++ lh_f v
/-- the places that an item changes; the world with signs of their own there -/
def pi_p (v : Bool) : List sx_Pl := [(1, 1, 3), (1, pi_dq v, 4), (1, pi_dq v, 5), (1, pi_dq v, 6), (1, pi_dq v, 7), (1, pi_dq v, 8), (1, pi_dq v, 9)]
def pj_p : List sx_Pl := [(1, 42, 12), (3, 45, 0)]
def pi_g (v : Bool) : List sx_C := pi_ob (pi_ob (pi_ob (pi_ob (pi_ob (pi_ob (pi_ob (lh_u v) 1 3 (.inl (44, 0))) (pi_dq v) 4 (.inl (45, 0))) (pi_dq v) 5 (.inl (46, 0))) (pi_dq v) 6 (.inl (47, 0))) (pi_dq v) 7 (.inl (48, 0))) (pi_dq v) 8 (.inl (49, 0))) (pi_dq v) 9 (.inl (50, 0))
def pj_g (v : Bool) : List sx_C := (pi_ob (lh_u v) 42 12 (.inl (44, 0))).set 45 (.inl (0, 50, false, [(0, .inl (45, 0))]))
def pi_q (env : sx_N) (p : Int) (ban : Bool) (q : List (Nat × Int)) : Option (Nat × Int) → Bool
  | none => (match q[1]? with
    | some b => sx_fits env b 0 5
    | none => false)
  | some t => (match q[0]?, q[1]? with
    | some a, some b => (Nat.beq a.1 44 && decide (a.2 = (t.1 : Int))) && (Nat.beq b.1 0 && decide (b.2 = p + t.2))
    | _, _ => false) && (bif ban then (match q[3]? with
    | some b => sx_fits env b 0 9
    | none => false) else true)
def pi_nw : sx_N := (44, (-2147483648), 2147483647) :: (45, 0, 5) :: ((List.range 5).map fun o => (46 + o, (-2147483648 : Int), (2147483647 : Int)))
def pj_nw : sx_N := [(44, (-2147483648), 2147483647), (45, 0, 5)]
/-- the kinds stay; one more where a person is told -/
def pk_s (aw : List sx_C) (q b : Nat) (p : Int) (r : Option (Nat × Int)) : Bool := match (aw[q]? : Option sx_C) with
  | some (.inl c) => (Nat.beq c.1 0 && (List.range p.toNat).all (fun j => decide (sx_spl (b + j) c.2.2.2 = some (.inl (88 + j, 0))))) && (match r with
    | some t => bif decide (t.2 = 1) then decide (sx_spl (b + p.toNat) c.2.2.2 = some (.inl (75, 0))) else true
    | none => true)
  | _ => false
/-- what is asked at the end of an item -/
def pg_k (pl : List sx_Pl) (wg : List sx_C) (nw : sx_N) (ban : Bool) (kq kb : Nat) (p : Int) : sx_O → Bool := fun o => match pk_i o.2.1 p with
  | none => false
  | some r => decide (o.2.2.1 = some (.inl (0, if r.isSome then 1 else 0))) && (match sx_rho [] o.2.2.2 pl with
    | none => false
    | some q => pi_q o.2.1 p ban q r && (sx_fnw 44 q o.2.1 nw && (pk_s o.2.2.2 kq kb p r && sx_fw 44 q wg o.2.2.2)))
noncomputable def pg_kF (pl : List sx_Pl) (wg : List sx_C) (nw : sx_N) (ban : Bool) (kq kb : Nat) (p : Int) : sx_O → Bool := fun o => match pk_i o.2.1 p with
  | none => false
  | some r => decide (o.2.2.1 = some (.inl (0, if r.isSome then 1 else 0))) && (match sx_rho [] o.2.2.2 pl with
    | none => false
    | some q => pi_q o.2.1 p ban q r && (sx_fnwF 44 q o.2.1 nw && (pk_s o.2.2.2 kq kb p r && sx_fwF 44 q wg o.2.2.2)))
theorem pg_kF_eq (pl : List sx_Pl) (wg : List sx_C) (nw : sx_N) (ban : Bool) (kq kb : Nat) (p : Int) : pg_kF pl wg nw ban kq kb p = pg_k pl wg nw ban kq kb p := by
  funext o
  unfold pg_kF pg_k
  simp only [sx_fnwF_eq, sx_fwF_eq]
  try rfl
def pi_A : Nat → List (Nat × sx_An) := fun j => bif Nat.beq j 29 then [(16, .inr [1, 2])] else []
def pi_O : sx_OR := (fun _ _ _ _ => none, pz_O)
noncomputable def pi_r (v : Bool) (p : Int) : Bool := sx_runF pi_A (fun _ => none) pi_O 100000 (mm_31, 1, 0, mk_31) [] [] false 0 0 0 93 (pi_e true v) [(0, .inr (.ref 1)), (1, .inr (.ref (pi_dq v)))] [] (pi_w v p) (pg_kF (pi_p v) (pi_g v) pi_nw true (pi_kc v) 0 p)
noncomputable def pj_r (v : Bool) (p : Int) : Bool := sx_runF pi_A (fun _ => none) pi_O 100000 (mm_139, 1, 0, mk_139) [(193, .inr [2, 3])] [] false 0 0 0 93 (pi_e false v) [(0, .inr (.ref 42)), (1, .inl (45, 0))] [] (pj_w v p) (pg_kF pj_p (pj_g v) pj_nw false 45 5 p)
