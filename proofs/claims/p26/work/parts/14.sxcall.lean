/-! calls, new cells, returns by signs -/
section SC0
variable {sc : pm_Z}
def sx_dl : List (List sx_V) := [[.inr .null, .inr .null, .inr .null, .inl (0, 0)], [.inr .null, .inr .null, .inr .null, .inl (0, 0), .inl (0, 0), .inl (0, 0), .inl (0, 0)], [.inr .null, .inr .null, .inl (0, 0)], [.inr .null, .inr .null, .inr .null], [.inr .null, .inr .null, .inr .null, .inl (0, 0)], [.inr .null, .inr .null, .inl (0, 0), .inl (0, 0)], [.inr .null, .inr .null, .inr .null, .inr .null, .inl (0, 0), .inl (0, 0), .inl (0, 0), .inl (0, 0), .inl (0, 0), .inl (0, 0)], [.inr .null, .inr .null, .inr .null, .inr .null, .inr .null, .inr .null, .inr .null, .inr .null, .inl (0, 0), .inr .null], [.inr .null, .inl (0, 0), .inr .null, .inr .null, .inr .null, .inr .null, .inr .null, .inl (0, 0), .inr .null, .inl (0, 0), .inr .null, .inl (0, 0), .inl (0, 0), .inr .null]]
def sx_dv : Value → sx_V
  | .int x => .inl (0, x.toInt)
  | v => .inr v
theorem sx_dl_ok0 : ∀ ci, ci < 9 → sx_dl[ci]? = (pm_cl[ci]?).map (fun r => (pm_dfs r).map sx_dv) := by decide +kernel
theorem sx_dl_n0 : ∀ r ∈ pm_cl, ∀ v ∈ pm_dfs r, v = .int 0 ∨ v = .null := by decide +kernel
theorem sx_dl_ok {ci : Nat} {r : vw_C} (h : pm_cl[ci]? = some r) {l : List sx_V} (hl : sx_dl[ci]? = some l) {g : List Int} {n : Nat} {env : sx_N} (hn : sx_n g n env) : sx_f2 (sx_r g) l (pm_dfs r) := by
  have h9 : ci < 9 := (List.getElem?_eq_some_iff.mp h).1
  have e := sx_dl_ok0 ci h9
  rw [h, hl] at e
  have e : l = (pm_dfs r).map sx_dv := Option.some.inj e
  rw [e]
  have hv := sx_dl_n0 r (List.mem_of_getElem? h)
  generalize pm_dfs r = vs at hv
  clear e hl h h9
  induction vs with
  | nil => trivial
  | cons v vs ih =>
    refine ⟨?_, ih (fun u hu => hv u (List.mem_cons_of_mem _ hu))⟩
    rcases hv v List.mem_cons_self with rfl | rfl
    · exact sx_const hn rfl
    · rfl
theorem pm_ok_meth {x : pm_X} (h : pm_ok x) : pm_meth x.1 ∧ pm_np x.1 x.2.1 ∧ (x.2.2.1 = 0 → Cond.instanceMethod x.1.1 ∈ pm_T ∧ Cond.selects x.1.1.cls x.1.1 x.1.1 ∈ pm_T) ∧ (x.2.2.1 = 1 → Cond.static x.1.1 ∈ pm_T) ∧ (x.2.2.1 = 2 → Cond.instanceMethod x.1.1 ∈ pm_T ∧ x.1.1.name = "<init>" ∧ x.1.2.2.2.1 = none) := by
  obtain ⟨⟨p1, p2, p3, p4, hb⟩, -⟩ := h
  simp only [pm_xb, Bool.and_eq_true, decide_eq_true_eq] at hb
  obtain ⟨⟨⟨⟨⟨h1, h2⟩, h3⟩, h4⟩, h5⟩, h6⟩ := hb
  refine ⟨⟨pm_is_ok h1, pm_is_ok h2, h3, h4⟩, h5, fun hk => ?_, fun hk => ?_, fun hk => ?_⟩
  · rw [hk] at h6
    simp only [Bool.and_eq_true] at h6
    exact ⟨pm_is_ok h6.1, pm_is_ok h6.2⟩
  · rw [hk] at h6
    exact pm_is_ok h6
  · rw [hk] at h6
    simp only [Bool.and_eq_true, decide_eq_true_eq] at h6
    exact ⟨pm_is_ok h6.1, h6.2⟩
theorem sx_sl1 : ∀ {As : List Value}, (∀ v ∈ As, v.category = 1) → (lg_sl As).length = As.length
  | [], _ => rfl
  | v :: As, h => by
    have ih := sx_sl1 (As := As) (fun u hu => h u (List.mem_cons_of_mem _ hu))
    have hv := h v List.mem_cons_self
    unfold lg_sl at ih ⊢
    rw [List.flatMap_cons, List.length_append, ih, if_neg (by omega)]
    simp
    omega
theorem sx_cats_ok {g : List Int} : ∀ {as : List sx_V} {As : List Value}, sx_f2 (sx_r g) as As → as.all (fun a => Nat.beq (sx_cat a) 1) = true → ∀ v ∈ As, v.category = 1
  | [], [], _, _, _, hv => by cases hv
  | a :: as, b :: bs, h, hc, v, hv => by
    simp only [List.all_cons, Bool.and_eq_true] at hc
    rcases List.mem_cons.mp hv with rfl | hv
    · rw [sx_cat_ok h.1]
      exact Nat.eq_of_beq_eq_true hc.1
    · exact sx_cats_ok h.2 hc.2 v hv
  | [], _ :: _, h, _, _, _ => by cases h
  | _ :: _, [], h, _, _, _ => by cases h
theorem sx_sum_ok {g : List Int} : ∀ {as : List sx_V} {As : List Value}, sx_f2 (sx_r g) as As → (As.map fun v => v.category) = as.map sx_cat
  | [], [], _ => rfl
  | a :: as, b :: bs, h => by
    rw [List.map_cons, List.map_cons, sx_cat_ok h.1, sx_sum_ok h.2]
  | [], _ :: _, h => by cases h
  | _ :: _, [], h => by cases h
/-- what a call asks of the frame -/
def sx_cc (M : pm_M) (y : pm_X) (as rest : List sx_V) (ca sl : Nat) : Bool := as.all (fun a => Nat.beq (sx_cat a) 1) && (Nat.ble as.length y.1.2.2.1 && (Nat.ble (rest.map sx_cat).sum 8 && (Nat.ble (ca + y.1.2.2.2.2.cells) M.2.2.2.2.cells && Nat.ble (sl + y.1.2.2.2.2.slots) M.2.2.2.2.slots)))
def sx_cont (go : sx_Go) (pc ca sl : Nat) (al : sx_L) (rest : List sx_V) (aw : List sx_C) (y : pm_X) (o : sx_O) : Bool := (Nat.beq o.2.2.2.length aw.length || (al.all (fun q => sx_wfv aw.length q.2) && rest.all (sx_wfv aw.length))) && go (pc + 3) (ca + y.1.2.2.2.2.cells) (sl + y.1.2.2.2.2.slots) o.1 o.2.1 al (o.2.2.1.toList ++ rest) o.2.2.2
section SXC
variable {M : pm_M} {w0 : pm_W} {g0 g : List Int} {P : Option Value → pm_W → Prop} {go : sx_Go} {cal : sx_Ca} {i : Instr} {pc ca sl n : Nat} {env : sx_N} {al : sx_L} {ast : List sx_V} {aw : List sx_C} {lv : pm_L} {st : List Value} {w : pm_W}
theorem sx_cont_wf {rest : List sx_V} {y : pm_X} {crest : List Value} (hl : sx_l g al lv) (hr : sx_f2 (sx_r g) rest crest) (hw : sx_w w0 g aw w) : (∀ r w', sx_P w0 g (sx_cont go pc ca sl al rest aw y) r w' → w'.length = w.length) ∨ (pm_wfl w.length lv = true ∧ crest.all (pm_wfv w.length) = true) := by
  cases hb : (al.all (fun q => sx_wfv aw.length q.2) && rest.all (sx_wfv aw.length)) with
  | true =>
    right
    simp only [Bool.and_eq_true] at hb
    rw [← hw.1]
    exact ⟨sx_wfl_ok hl hb.1, sx_wfs_ok hr hb.2⟩
  | false =>
    left
    intro r w' h
    obtain ⟨g', o, h1, h2, h3⟩ := h
    simp only [sx_cont, hb, Bool.or_false, Bool.and_eq_true] at h2
    have e := Nat.eq_of_beq_eq_true h2.1
    rw [← h3.2.2.1, e, hw.1]
theorem sx_cont_ok {rest : List sx_V} {y : pm_X} {crest : List Value} (hgo : sx_goOK sc M w0 g0 P go) (hp : g0 <+: g) (hl : sx_l g al lv) (hr : sx_f2 (sx_r g) rest crest) : ∀ r w', sx_P w0 g (sx_cont go pc ca sl al rest aw y) r w' → pm_Good sc M (pc + 3) lv (r.toList ++ crest) w' (ca + y.1.2.2.2.2.cells) (sl + y.1.2.2.2.2.slots) P := by
  intro r w' h
  obtain ⟨g', o, h1, h2, h3, h4, h5⟩ := h
  simp only [sx_cont, Bool.and_eq_true] at h2
  refine hgo _ _ _ _ _ _ _ _ _ _ _ _ h2.2 (hp.trans h1) ⟨h3, sx_l_pre h1 hl, sx_f2_app ?_ (sx_st_pre h1 hr), h5⟩
  cases ho : o.2.2.1 with
  | none =>
    rw [ho] at h4
    cases r with
    | none => trivial
    | some v => cases h4
  | some a =>
    rw [ho] at h4
    cases r with
    | none => cases h4
    | some v => exact ⟨h4, trivial⟩
def sx_rt (ty : FieldType) (b : Int × Int) : Bool := if b.1 = b.2 then decide (narrow ty (.int (Int32.ofInt b.1)) = .int (Int32.ofInt b.1)) else match ty with
  | .int => true
  | .boolean => decide (0 ≤ b.1 ∧ b.2 ≤ 1)
  | .char => decide (0 ≤ b.1 ∧ b.2 ≤ 65535)
  | _ => false
theorem sx_rt_ok {ty : FieldType} {b : Int × Int} (h : sx_rt ty b = true) {x : Int32} (h1 : b.1 ≤ x.toInt) (h2 : x.toInt ≤ b.2) : narrow ty (.int x) = .int x := by
  unfold sx_rt at h
  split at h
  · have e : x = Int32.ofInt b.1 := sx_of (by omega)
    rw [e]
    exact of_decide_eq_true h
  · split at h
    · rfl
    · have h := of_decide_eq_true h
      have e : x.toInt = 0 ∨ x.toInt = 1 := by omega
      rcases e with e | e
      · rw [sx_of e]; rfl
      · rw [sx_of e]; rfl
    · have h := of_decide_eq_true h
      have e := sx_ofN (x := x) (by omega)
      have h3 := (pk_charN (q := x.toInt.toNat) (by omega)).1
      rw [show nI x.toInt.toNat = x from e.symm] at h3
      exact h3
    · cases h
def sx_insC (M : pm_M) (go : sx_Go) (cal : sx_Ca) (k : sx_O → Bool) (nx : Bool) (i : Instr) (a b : Nat) (pc ca sl n : Nat) (env : sx_N) (al : sx_L) (ast : List sx_V) (aw : List sx_C) : Bool := match i with
  | .return_ => (match ast with
    | [] => if M.2.2.2.1 = none then k (n, env, none, aw) else false
    | _ => false)
  | .ireturn => (match ast with
    | [.inl x] => (match M.2.2.2.1, sx_iv env x with
      | some ty, some c => if sx_rt ty c = true then k (n, env, some (.inl x), aw) else false
      | _, _ => false)
    | _ => false)
  | .areturn => (match ast with
    | [.inr (.ref q)] => (match M.2.2.2.1 with
      | some (.object _) => k (n, env, some (.inr (.ref q)), aw)
      | _ => false)
    | _ => false)
  | .new _ => (match pm_cl[a]?, sx_dl[a]? with
    | some r, some l => if ca + 1 ≤ M.2.2.2.2.cells ∧ sl + r.2.2 ≤ M.2.2.2.2.slots ∧ aw.all (sx_wfc aw.length) = true ∧ al.all (fun q => sx_wfv aw.length q.2) = true ∧ ast.all (sx_wfv aw.length) = true then go (pc + 3) (ca + 1) (sl + r.2.2) n env al (.inr (.ref aw.length) :: ast) (aw ++ [.inr (a, l)]) else false
    | _, _ => false)
  | .newarray _ => (match ast with
    | .inl x :: ast => (match sx_iv env x with
      | some c => if c.1 = c.2 ∧ 0 < c.1 ∧ c.1 ≤ 10000 ∧ ca + 1 ≤ M.2.2.2.2.cells ∧ sl + c.1.toNat ≤ M.2.2.2.2.slots ∧ aw.all (sx_wfc aw.length) = true ∧ al.all (fun q => sx_wfv aw.length q.2) = true ∧ ast.all (sx_wfv aw.length) = true then sx_fn c.1.toNat fun N => go (pc + 2) (ca + 1) (sl + N) n env al (.inr (.ref aw.length) :: ast) (aw ++ [.inl (b, N, false, ((List.range 6).filter (fun j => Nat.blt j N)).map fun j => (j, .inl (0, 0)))]) else false
      | none => false)
    | _ => false)
  | .invokevirtual _ => (match pm_mt a with
    | some y => if (ast.take y.2.1).length = y.2.1 then (match ast.drop y.2.1 with
      | .inr (.ref q) :: rest => (match aw[q]? with
        | some (.inr o) => (match pm_cl[o.1]? with
          | some r => if r.1 = y.1.1.cls ∧ ¬ b = 4 ∧ sx_cc M y (.inr (.ref q) :: (ast.take y.2.1).reverse) rest ca sl = true then cal a y n env (.inr (.ref q) :: (ast.take y.2.1).reverse) aw (sx_cont go pc ca sl al rest aw y) else false
          | none => false)
        | _ => false)
      | .inr (.retAddr 0) :: rest => if b = 4 ∧ sx_cc M y (.inr (.retAddr 0) :: (ast.take y.2.1).reverse) rest ca sl = true then cal a y n env (.inr (.retAddr 0) :: (ast.take y.2.1).reverse) aw (sx_cont go pc ca sl al rest aw y) else false
      | _ => false) else false
    | none => false)
  | .invokespecial _ => if b = 2 then (match ast with
      | .inr (.ref _) :: ast => if 1 ≤ M.2.2.2.2.frames ∧ (ast.map sx_cat).sum + 12 ≤ M.2.2.2.2.locals then go (pc + 3) ca sl n env al ast aw else false
      | _ => false)
    else (match pm_mt a with
    | some y => if (ast.take y.2.1).length = y.2.1 then (match ast.drop y.2.1 with
      | .inr (.ref q) :: rest => if sx_cc M y (.inr (.ref q) :: (ast.take y.2.1).reverse) rest ca sl = true then cal a y n env (.inr (.ref q) :: (ast.take y.2.1).reverse) aw (sx_cont go pc ca sl al rest aw y) else false
      | _ => false) else false
    | none => false)
  | .invokestatic _ => if b = 3 then (match ast with
      | .inl z :: .inl dp :: .inr (.ref q1) :: .inl sp :: .inr (.ref q0) :: ast => (match sx_iv env z, sx_iv env dp, sx_iv env sp, aw[q0]?, aw[q1]? with
        | some cz, some cd, some cs, some (.inl a0), some (.inl a1) => if 0 ≤ cz.1 ∧ 0 ≤ cd.1 ∧ 0 ≤ cs.1 ∧ cs.2 + cz.2 ≤ a0.2.1 ∧ cd.2 + cz.2 ≤ a1.2.1 ∧ a0.1 = 0 ∧ a1.1 = 0 ∧ 1 ≤ M.2.2.2.2.frames ∧ (ast.map sx_cat).sum + 18 ≤ M.2.2.2.2.locals then go (pc + 3) ca sl n env al ast (aw.set q1 (.inl (0, a1.2.1, false, []))) else false
        | _, _, _, _, _ => false)
      | _ => false)
    else if b = 5 then (match ast with
      | .inl y :: .inl x :: ast => (match sx_iv env x, sx_iv env y with
        | some c, some d => if 1 ≤ M.2.2.2.2.frames ∧ (ast.map sx_cat).sum + 13 ≤ M.2.2.2.2.locals then sx_push (sx_mx c.1 d.1) (sx_mx c.2 d.2) n env fun n env v => go (pc + 3) ca sl n env al (v :: ast) aw else false
        | _, _ => false)
      | _ => false)
    else if b = 6 then (match ast with
      | .inl y :: .inl x :: ast => (match sx_iv env x, sx_iv env y with
        | some c, some d => if 1 ≤ M.2.2.2.2.frames ∧ (ast.map sx_cat).sum + 13 ≤ M.2.2.2.2.locals then sx_push (sx_mn c.1 d.1) (sx_mn c.2 d.2) n env fun n env v => go (pc + 3) ca sl n env al (v :: ast) aw else false
        | _, _ => false)
      | _ => false)
    else if b = 7 then (match ast with
      | .inl x :: ast => (match sx_iv env x with
        | some c => if 1 ≤ M.2.2.2.2.frames ∧ (ast.map sx_cat).sum + 13 ≤ M.2.2.2.2.locals then (if 0 ≤ c.1 then go (pc + 3) ca sl n env al (.inl x :: ast) aw else sx_push (-2147483648) 2147483647 n env fun n env v => go (pc + 3) ca sl n env al (v :: ast) aw) else false
        | none => false)
      | _ => false)
    else (match pm_mt a with
    | some y => if (ast.take y.2.1).length = y.2.1 ∧ sx_cc M y (ast.take y.2.1).reverse (ast.drop y.2.1) ca sl = true then cal a y n env (ast.take y.2.1).reverse aw (sx_cont go pc ca sl al (ast.drop y.2.1) aw y) else false
    | none => false)
  | _ => nx
end SXC
end SC0
