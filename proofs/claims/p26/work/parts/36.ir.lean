/-! where the numbers of an item begin; the habits that are told -/
def ps_o (e : Nat → Int) : Nat → Nat
  | 0 => 1
  | k + 1 => ps_o e k + ps_D e (ps_o e k) + 1
/-- the habits, with one more (A at j, B at 20 + j) -/
def pK (K e : Nat → Int) : Nat → Int := fun j => if e 0 = 104 then (if (j : Int) = 4 * ps_V e (ps_o e 0) + ps_V e (ps_o e 1) then ps_V e (ps_o e 2) else if (j : Int) = 20 + (4 * ps_V e (ps_o e 0) + ps_V e (ps_o e 1)) then ps_V e (ps_o e 3) else K j) else K j
def pk_o (env : sx_N) : Nat → Option Nat
  | 0 => some 1
  | k + 1 => match pk_o env k with
    | none => none
    | some o => if 1 ≤ o ∧ o ≤ 13 then (match sx_bd (61 + o) env with
      | some d => if d.1 = d.2 ∧ 0 ≤ d.1 then some (o + d.1.toNat + 1) else none
      | none => none) else none
def pk_sl (env : sx_N) : Option (Nat × Nat × Nat) := match pk_o env 1, pk_o env 2, pk_o env 3 with
  | some o1, some o2, some o3 => if (1 ≤ o1 ∧ o1 ≤ 13) ∧ (1 ≤ o2 ∧ o2 ≤ 13) ∧ 1 ≤ o3 ∧ o3 ≤ 13 then (match sx_bd 75 env, sx_bd (74 + o1) env with
    | some a, some b => if a.1 = a.2 ∧ b.1 = b.2 ∧ 0 ≤ a.1 ∧ 0 ≤ b.1 ∧ 4 * a.1 + b.1 < 20 then some ((4 * a.1 + b.1).toNat, 74 + o2, 74 + o3) else none
    | _, _ => none) else none
  | _, _, _ => none
theorem pk_o_ok {e : Nat → Int} {g : List Int} {n : Nat} {env : sx_N} (hn : sx_n g n env) (hL : pz_L e g) : ∀ (k o : Nat), pk_o env k = some o → ps_o e k = o
  | 0, o, h => by
    cases h
    rfl
  | k + 1, o, h => by
    unfold pk_o at h
    cases hk : pk_o env k with
    | none => rw [hk] at h; cases h
    | some o1 =>
      rw [hk] at h
      simp only at h
      have e1 := pk_o_ok hn hL k o1 hk
      by_cases hr : 1 ≤ o1 ∧ o1 ≤ 13
      · rw [if_pos hr] at h
        cases hd : sx_bd (61 + o1) env with
        | none => rw [hd] at h; cases h
        | some d =>
          rw [hd] at h
          simp only at h
          by_cases hc : d.1 = d.2 ∧ 0 ≤ d.1
          · rw [if_pos hc] at h
            cases h
            have hD := pz_bd hn (hL.2 o1 hr.1 hr.2).1 hd
            unfold ps_o
            rw [e1]
            omega
          · rw [if_neg hc] at h
            cases h
      · rw [if_neg hr] at h
        cases h
theorem pk_sl_ok {e : Nat → Int} {g : List Int} {n : Nat} {env : sx_N} (hn : sx_n g n env) (hL : pz_L e g) {t : Nat × Nat × Nat} (h : pk_sl env = some t) : (t.1 : Int) = 4 * ps_V e (ps_o e 0) + ps_V e (ps_o e 1) ∧ t.1 < 20 ∧ g[t.2.1]? = some (ps_V e (ps_o e 2)) ∧ g[t.2.2]? = some (ps_V e (ps_o e 3)) := by
  unfold pk_sl at h
  split at h
  · rename_i o1 o2 o3 h1 h2 h3
    have e1 := pk_o_ok hn hL 1 o1 h1
    have e2 := pk_o_ok hn hL 2 o2 h2
    have e3 := pk_o_ok hn hL 3 o3 h3
    split at h
    · rename_i hr
      split at h
      · rename_i a b ha hb
        split at h
        · rename_i hc
          cases h
          have hA := pz_bd hn (hL.2 1 (by omega) (by omega)).2 ha
          have hB := pz_bd hn (hL.2 o1 hr.1.1 hr.1.2).2 hb
          have e0 : ps_o e 0 = 1 := rfl
          rw [e0, e1, e2, e3]
          refine ⟨by simp only; omega, by simp only; omega, (hL.2 o2 hr.2.1.1 hr.2.1.2).2, (hL.2 o3 hr.2.2.1 hr.2.2.2).2⟩
        · cases h
      · cases h
    · cases h
  · cases h
/-! the item of both readers, run by signs -/
def pi_dq (v : Bool) : Nat := bif v then 4 else 9
def pi_ob (aw : List sx_C) (q f : Nat) (x : sx_V) : List sx_C := match (aw[q]? : Option sx_C) with
  | some (.inr o) => aw.set q (.inr (o.1, o.2.set f x))
  | _ => aw
/-- the world between two calls, with signs of its own for each field -/
def pi_sp (aw : List sx_C) (q : Nat) (x : sx_V) : List sx_C := match (aw[q]? : Option sx_C) with
  | some (.inl c) => aw.set q (.inl (c.1, c.2.1, c.2.2.1, [(0, x)]))
  | _ => aw
def lh_u (v : Bool) : List sx_C := pi_sp (pi_ob (pi_ob (lh_w v) 42 9 (.inl (39, 0))) 42 11 (.inl (40, 0))) 44 (.inl (42, 0))
def lh_v (v : Bool) : List sx_Pl := ((((lh_p v).drop 6).set 32 (1, 42, 9)).set 33 (1, 42, 11)).set 35 (3, 44, 0)
theorem lh_u_ok (v : Bool) : lo_w ll_ok (lh_u v) = true := by cases v <;> decide +kernel
/-- the draft's habits; what is known of them -/
def pi_ka (v : Bool) : Nat := bif v then 6 else 11
def pi_kb (v : Bool) : Nat := bif v then 7 else 12
def pi_ks (b s : Nat) : List (Nat × sx_V) := (List.range 20).map fun j => (b + j, .inl (s + j, 0))
def pi_w (v : Bool) (p : Int) : List sx_C := ((pi_ob ((lh_u v).set 1 (pz_txt 0)) (pi_dq v) 4 (.inl (0, p))).set (pi_ka v) (.inl (0, 20, false, pi_ks 0 88))).set (pi_kb v) (.inl (0, 20, false, pi_ks 0 108))
def pj_w (v : Bool) (p : Int) : List sx_C := ((lh_u v).set 42 (pz_mob 1)).set 45 (.inl (0, 50, false, (0, .inl (0, p)) :: (pi_ks 10 88 ++ pi_ks 30 108)))
def pi_x : sx_N := (44, 0, 199) :: ((List.range 16).map fun o => (45 + o, (0 : Int), (126 : Int))) ++ ((List.range 13).map fun o => (62 + o, (0 : Int), (2 : Int))) ++ ((List.range 13).map fun o => (75 + o, (-48 : Int), (99 : Int)))
def pi_e (ban v : Bool) : sx_N := bif ban then (bif v then 13 else 18, 0, 9) :: (pi_x ++ lh_f v) else pi_x ++ lh_f v
/-- the places that an item changes; the world with signs of their own there -/
def pi_p (v : Bool) : List sx_Pl := [(1, 1, 3), (1, pi_dq v, 4), (1, pi_dq v, 5), (1, pi_dq v, 6), (1, pi_dq v, 7), (1, pi_dq v, 8), (1, pi_dq v, 9)]
def pj_p : List sx_Pl := [(1, 42, 12), (3, 45, 0)]
def pi_g (v : Bool) : List sx_C := pi_ob (pi_ob (pi_ob (pi_ob (pi_ob (pi_ob (pi_ob (lh_u v) 1 3 (.inl (44, 0))) (pi_dq v) 4 (.inl (45, 0))) (pi_dq v) 5 (.inl (46, 0))) (pi_dq v) 6 (.inl (47, 0))) (pi_dq v) 7 (.inl (48, 0))) (pi_dq v) 8 (.inl (49, 0))) (pi_dq v) 9 (.inl (50, 0))
def pj_g (v : Bool) : List sx_C := (pi_ob (lh_u v) 42 12 (.inl (44, 0))).set 45 (.inl (0, 50, false, [(0, .inl (45, 0))]))
def pi_q (env : sx_N) (p : Int) (ban : Bool) (q : List (Nat × Int)) : Option (Nat × Int) → Bool
  | none => (match q[1]? with
    | some b => sx_fits env b 0 5
    | none => false)
  | some t => (match q[0]?, q[1]? with
    | some a, some b => (Nat.beq a.1 44 && decide (a.2 = (t.1 : Int))) && (Nat.beq b.1 0 && decide (b.2 = p + t.2))
    | _, _ => false) && (bif ban then (match q[3]? with
    | some b => sx_fits env b 0 9
    | none => false) else true)
def pi_nw : sx_N := (44, (-2147483648), 2147483647) :: (45, 0, 5) :: ((List.range 5).map fun o => (46 + o, (-2147483648 : Int), (2147483647 : Int)))
def pj_nw : sx_N := [(44, (-2147483648), 2147483647), (45, 0, 5)]
/-- the habits stay; one more where one is told -/
def pk_ex (env : sx_N) : Option (Option (Nat × Nat × Nat)) := match sx_bd 45 env with
  | some b => if b.1 = 104 ∧ b.2 = 104 then (match pk_sl env with
    | some t => some (some t)
    | none => none) else if 104 < b.1 ∨ b.2 < 104 then some none else none
  | none => none
def pk_jx (x : Option (Nat × Nat)) (s j : Nat) : Nat := match x with
  | some t => if j = t.1 then t.2 else s + j
  | none => s + j
def pk_sp (sp : List (Nat × sx_V)) (b s : Nat) (x : Option (Nat × Nat)) : Bool := (List.range 20).all fun j => decide (sx_spl (b + j) sp = some (.inl (pk_jx x s j, 0)))
def pk_s (aw : List sx_C) (qa ba qb bb : Nat) (env : sx_N) : Option (Nat × Int) → Bool
  | none => true
  | some _ => match pk_ex env, (aw[qa]? : Option sx_C), (aw[qb]? : Option sx_C) with
    | some x, some (.inl ca), some (.inl cb) => Nat.beq ca.1 0 && (Nat.beq cb.1 0 && (pk_sp ca.2.2.2 ba 88 (x.map fun t => (t.1, t.2.1)) && pk_sp cb.2.2.2 bb 108 (x.map fun t => (t.1, t.2.2))))
    | _, _, _ => false
/-- what is asked at the end of an item -/
def pg_k (pl : List sx_Pl) (wg : List sx_C) (nw : sx_N) (ban : Bool) (qa ba qb bb : Nat) (p : Int) : sx_O → Bool := fun o => match pk_i o.2.1 p with
  | none => false
  | some r => decide (o.2.2.1 = some (.inl (0, if r.isSome then 1 else 0))) && (match sx_rho [] o.2.2.2 pl with
    | none => false
    | some q => pi_q o.2.1 p ban q r && (sx_fnw 44 q o.2.1 nw && (pk_s o.2.2.2 qa ba qb bb o.2.1 r && sx_fw 44 q wg o.2.2.2)))
noncomputable def pg_kF (pl : List sx_Pl) (wg : List sx_C) (nw : sx_N) (ban : Bool) (qa ba qb bb : Nat) (p : Int) : sx_O → Bool := fun o => match pk_i o.2.1 p with
  | none => false
  | some r => decide (o.2.2.1 = some (.inl (0, if r.isSome then 1 else 0))) && (match sx_rho [] o.2.2.2 pl with
    | none => false
    | some q => pi_q o.2.1 p ban q r && (sx_fnwF 44 q o.2.1 nw && (pk_s o.2.2.2 qa ba qb bb o.2.1 r && sx_fwF 44 q wg o.2.2.2)))
theorem pg_kF_eq (pl : List sx_Pl) (wg : List sx_C) (nw : sx_N) (ban : Bool) (qa ba qb bb : Nat) (p : Int) : pg_kF pl wg nw ban qa ba qb bb p = pg_k pl wg nw ban qa ba qb bb p := by
  funext o
  unfold pg_kF pg_k
  simp only [sx_fnwF_eq, sx_fwF_eq]
  try rfl
def pi_A : Nat → List (Nat × sx_An) := fun j => bif Nat.beq j 29 then [(16, .inr [1, 2])] else bif Nat.beq j 26 then [(0, .inr [0, 1])] else bif Nat.beq j 111 then [(0, .inr [1, 2])] else []
def pi_O : sx_OR := (fun _ _ _ _ => none, pz_O)
noncomputable def pi_r (v : Bool) (p : Int) : Bool := sx_runF pi_A (fun _ => none) pi_O 100000 (mm_31, 1, 0, mk_31) [] [] false 0 0 0 128 (pi_e true v) [(0, .inr (.ref 1)), (1, .inr (.ref (pi_dq v)))] [] (pi_w v p) (pg_kF (pi_p v) (pi_g v) pi_nw true (pi_ka v) 0 (pi_kb v) 0 p)
noncomputable def pj_r (v : Bool) (p : Int) : Bool := sx_runF pi_A (fun _ => none) pi_O 100000 (mm_139, 1, 0, mk_139) [(193, .inr [2, 3])] [] false 0 0 0 128 (pi_e false v) [(0, .inr (.ref 42)), (1, .inl (45, 0))] [] (pj_w v p) (pg_kF pj_p (pj_g v) pj_nw false 45 10 45 30 p)
