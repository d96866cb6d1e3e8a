/-! an instruction by signs -/
section SC0
variable {sc : pm_Z}
abbrev sx_Go : Type := Nat → Nat → Nat → Nat → sx_N → sx_L → List sx_V → List sx_C → Bool
abbrev sx_Ca : Type := Nat → pm_X → Nat → sx_N → List sx_V → List sx_C → (sx_O → Bool) → Bool
/-- what is known behind a method that was run by signs -/
def sx_P (w0 : pm_W) (g : List Int) (k : sx_O → Bool) : Option Value → pm_W → Prop := fun r w => ∃ g' o, g <+: g' ∧ k o = true ∧ sx_mo w0 g' o r w
/-- the signs 1 to 6: where the law stands in its script, and the five numbers from there on (or 1 is below 0, and nobody asks) -/
def sx_scr0 (sc : pm_Z) (g : List Int) : Prop := (∃ z, g[1]? = some z ∧ z < 0) ∨ ∃ i : Nat, g[1]? = some (i : Int) ∧ i + 4 < sc.1 ∧ sc.1 < 2 ^ 31 ∧ ∀ o : Nat, o < 5 → g[2 + o]? = some (sc.2 (i + o)).toInt
theorem sx_scr0_pre {sc : pm_Z} {g g' : List Int} (h : g <+: g') (hs : sx_scr0 sc g) : sx_scr0 sc g' := by
  rcases hs with ⟨z, h1, h2⟩ | ⟨i, h1, h2, h3, h4⟩
  · exact Or.inl ⟨z, sx_get_pre h h1, h2⟩
  · exact Or.inr ⟨i, sx_get_pre h h1, h2, h3, fun o ho => sx_get_pre h (h4 o ho)⟩
/-- the same, and what is said of the first signs -/
def sx_scr (sc : pm_Z) (Ψ : List Int → Prop) (g : List Int) : Prop := sx_scr0 sc g ∧ ∃ g0, g0 <+: g ∧ Ψ g0
theorem sx_scr_pre {sc : pm_Z} {Ψ : List Int → Prop} {g g' : List Int} (h : g <+: g') (hs : sx_scr sc Ψ g) : sx_scr sc Ψ g' := by
  obtain ⟨h1, g0, h2, h3⟩ := hs
  exact ⟨sx_scr0_pre h h1, g0, h2.trans h, h3⟩
def sx_goOK (sc : pm_Z) (M : pm_M) (w0 : pm_W) (g0 : List Int) (P : Option Value → pm_W → Prop) (go : sx_Go) : Prop := ∀ pc ca sl n env al ast aw g lv st w, go pc ca sl n env al ast aw = true → g0 <+: g → sx_m w0 g (n, env, al, ast, aw) lv st w → pm_Good sc M pc lv st w ca sl P
def sx_caOK (sc : pm_Z) (Ψ : List Int → Prop) (w0 : pm_W) (cal : sx_Ca) : Prop := ∀ j y n env as aw k g As w, cal j y n env as aw k = true → pm_mt j = some y → as.all (fun a => Nat.beq (sx_cat a) 1) = true → sx_scr sc Ψ g → sx_n g n env → sx_f2 (sx_r g) as As → sx_w w0 g aw w → pm_GoodM sc y.1 As w (sx_P w0 g k)
def sx_ln : Instr → Nat
  | .goto _ => 3
  | .ifCond _ _ => 3
  | .if_icmp _ _ => 3
  | .iinc _ _ => 3
  | .getfield _ => 3
  | .putfield _ => 3
  | .getstatic _ => 3
  | .new _ => 3
  | .invokevirtual _ => 3
  | .invokestatic _ => 3
  | .invokespecial _ => 3
  | .ldc_w _ => 3
  | .ldc2_w _ => 3
  | .sipush _ => 3
  | .ldc _ => 2
  | .bipush _ => 2
  | .newarray _ => 2
  | .iload _ => 2
  | .istore _ => 2
  | .aload _ => 2
  | .astore _ => 2
  | .lload _ => 2
  | .lstore _ => 2
  | _ => 1
def sx_fitv : FieldType → sx_V → Bool
  | .int, .inl _ => true
  | .object _, .inr (.ref _) => true
  | .array _, .inr (.ref _) => true
  | _, _ => false
theorem sx_fitv_ok {g : List Int} {ty : FieldType} {a : sx_V} {v : Value} (h : sx_fitv ty a = true) (hr : sx_r g a v) : pm_fit ty v = true := by
  unfold sx_fitv at h
  split at h
  · obtain ⟨x, rfl⟩ := sx_int_ok hr
    rfl
  · rw [show v = _ from hr]; rfl
  · rw [show v = _ from hr]; rfl
  · cases h
/-- loads, stores, and what touches the stack alone -/
def sx_insE (M : pm_M) (go : sx_Go) (i : Instr) (pc ca sl n : Nat) (env : sx_N) (al : sx_L) (ast : List sx_V) (aw : List sx_C) : Bool := match pm_ld i with
  | some (x, kd, ln) => (match sx_lkl x al with
    | some a => if sx_kind a = kd ∧ ln = sx_ln i then go (pc + ln) ca sl n env al (a :: ast) aw else false
    | none => false)
  | none => match pm_sto i with
    | some (x, kd, ln) => (match ast with
      | a :: ast => if sx_kind a = kd ∧ ln = sx_ln i ∧ x < M.2.2.1 then go (pc + ln) ca sl n env (sx_s1 x a al) ast aw else false
      | [] => false)
    | none => if pm_len i = sx_ln i then sx_op i n env ast fun n env ast => go (pc + pm_len i) ca sl n env al ast aw else false
section SXI
variable {M : pm_M} {w0 : pm_W} {g0 g : List Int} {P : Option Value → pm_W → Prop} {go : sx_Go} {cal : sx_Ca} {i : Instr} {pc ca sl n : Nat} {env : sx_N} {al : sx_L} {ast : List sx_V} {aw : List sx_C} {lv : pm_L} {st : List Value} {w : pm_W}
theorem sx_insE_ok (hgo : sx_goOK sc M w0 g0 P go) (h : sx_insE M go i pc ca sl n env al ast aw = true) (hd : decode M.2.1 pc = .ok (i, sx_ln i)) (hp : g0 <+: g) (hm : sx_m w0 g (n, env, al, ast, aw) lv st w) : pm_Good sc M pc lv st w ca sl P := by
  obtain ⟨hn, hl, hs, hw⟩ := hm
  simp only at hn hl hs hw
  unfold sx_insE at h
  split at h
  · rename_i x kd ln hld
    split at h
    · rename_i a ha
      split at h
      · rename_i hc
        obtain ⟨v, h1, h2⟩ := sx_lkl_ok hl ha
        rw [← hc.2] at hd
        exact pm_ld_ok hd hld h1 ((sx_kind_ok h2).trans hc.1) (hgo _ _ _ _ _ _ _ _ _ _ _ _ h hp ⟨hn, hl, ⟨h2, hs⟩, hw⟩)
      · cases h
    · cases h
  · split at h
    · rename_i x kd ln hst
      split at h
      · split at h
        · rename_i hc
          obtain ⟨v, m, rfl, h1, h2⟩ := sx_f2_cons hs
          rw [← hc.2.1] at hd
          exact pm_sto_ok hd hst ((sx_kind_ok h1).trans hc.1) hc.2.2 (hgo _ _ _ _ _ _ _ _ _ _ _ _ h hp ⟨hn, sx_s1_ok hl h1 _, h2, hw⟩)
        · cases h
      · cases h
    · split at h
      · rename_i hc
        obtain ⟨cst', n', env', st', g', e1, e2, e3, e4, e5⟩ := sx_op_ok h hn hs
        rw [← hc] at hd
        exact pm_op_ok hd e1 (hgo _ _ _ _ _ _ _ _ _ _ _ _ e5 (hp.trans e2) ⟨e3, sx_l_pre e2 hl, e4, sx_w_pre e2 hw⟩)
      · cases h
/-- the way on -/
def sx_insA (M : pm_M) (go : sx_Go) (nx : Bool) (i : Instr) (pc ca sl n : Nat) (env : sx_N) (al : sx_L) (ast : List sx_V) (aw : List sx_C) : Bool := match i with
  | .goto o => go (pm_to pc o) ca sl n env al ast aw
  | .ifCond c o => (match ast with
    | .inl a :: ast => sx_br c env a (0, 0) (fun env => go (pm_to pc o) ca sl n env al ast aw) (fun env => go (pc + 3) ca sl n env al ast aw)
    | _ => false)
  | .if_icmp c o => (match ast with
    | .inl b :: .inl a :: ast => sx_br c env a b (fun env => go (pm_to pc o) ca sl n env al ast aw) (fun env => go (pc + 3) ca sl n env al ast aw)
    | _ => false)
  | .iinc x c => (match sx_lkl x al with
    | some (.inl a) => if x < M.2.2.1 ∧ -2147483648 ≤ c ∧ c ≤ 2147483647 then sx_bin .iadd n env a (0, c) [] (fun n env r => match r with
      | [v] => go (pc + 3) ca sl n env (sx_s1 x v al) ast aw
      | _ => false) else false
    | _ => false)
  | .lstore x => (match ast with
    | a :: ast => if sx_isl a = true ∧ x + 1 < M.2.2.1 then go (pc + 2) ca sl n env (sx_s2 x a al) ast aw else false
    | [] => false)
  | _ => nx
theorem sx_insA_ok {nx : Bool} (hgo : sx_goOK sc M w0 g0 P go) (h : sx_insA M go nx i pc ca sl n env al ast aw = true) (hd : decode M.2.1 pc = .ok (i, sx_ln i)) {a b p : Nat} (hlb : pm_lb M pc (i, sx_ln i, a, b, p) = true) (hp : g0 <+: g) (hm : sx_m w0 g (n, env, al, ast, aw) lv st w) (hnx : nx = true → pm_Good sc M pc lv st w ca sl P) : pm_Good sc M pc lv st w ca sl P := by
  obtain ⟨hn, hl, hs, hw⟩ := hm
  simp only at hn hl hs hw
  unfold sx_insA at h
  split at h
  · exact pm_goto hd (of_decide_eq_true hlb) (hgo _ _ _ _ _ _ _ _ _ _ _ _ h hp ⟨hn, hl, hs, hw⟩)
  · split at h
    · obtain ⟨v, m, rfl, h1, h2⟩ := sx_f2_cons hs
      obtain ⟨x, rfl⟩ := sx_int_ok h1
      have hb := sx_br_ok h hn h1 (sx_const hn (x := 0) rfl)
      refine pm_br hd (of_decide_eq_true hlb) (fun q => ?_) (fun q => ?_)
      · obtain ⟨env', e1, e2⟩ := hb.1 q
        exact hgo _ _ _ _ _ _ _ _ _ _ _ _ e2 hp ⟨e1, hl, h2, hw⟩
      · obtain ⟨env', e1, e2⟩ := hb.2 q
        exact hgo _ _ _ _ _ _ _ _ _ _ _ _ e2 hp ⟨e1, hl, h2, hw⟩
    · cases h
  · split at h
    · obtain ⟨v, m, rfl, h1, h2⟩ := sx_f2_cons hs
      obtain ⟨u, m, rfl, h3, h4⟩ := sx_f2_cons h2
      obtain ⟨x, rfl⟩ := sx_int_ok h1
      obtain ⟨y, rfl⟩ := sx_int_ok h3
      have hb := sx_br_ok h hn h3 h1
      refine pm_br2 hd (of_decide_eq_true hlb) (fun q => ?_) (fun q => ?_)
      · obtain ⟨env', e1, e2⟩ := hb.1 q
        exact hgo _ _ _ _ _ _ _ _ _ _ _ _ e2 hp ⟨e1, hl, h4, hw⟩
      · obtain ⟨env', e1, e2⟩ := hb.2 q
        exact hgo _ _ _ _ _ _ _ _ _ _ _ _ e2 hp ⟨e1, hl, h4, hw⟩
    · cases h
  · rename_i x c
    split at h
    · rename_i a ha
      split at h
      · rename_i hc
        obtain ⟨v, h1, h2⟩ := sx_lkl_ok hl ha
        obtain ⟨y, rfl⟩ := sx_int_ok h2
        have hcst : sx_r g (.inl (0, c)) (.int (Int32.ofInt c)) := sx_const hn (Int32.toInt_ofInt_of_le (by omega) (by omega))
        obtain ⟨cst', n', env', st', g', e1, e2, e3, e4, e5⟩ := sx_bin_ok h hn h2 hcst (cst := []) trivial
        have e6 : cst' = [.int (y + Int32.ofInt c)] := (Option.some.inj e1).symm
        subst e6
        split at e5
        · refine pm_inc hd h1 hc.1 (hgo _ _ _ _ _ _ _ _ _ _ _ _ e5 (hp.trans e2) ⟨e3, sx_s1_ok (sx_l_pre e2 hl) e4.1 _, sx_st_pre e2 hs, sx_w_pre e2 hw⟩)
        · cases e5
      · cases h
    · cases h
  · split at h
    · obtain ⟨v, m, rfl, h1, h2⟩ := sx_f2_cons hs
      split at h
      · rename_i hc
        obtain ⟨y, rfl⟩ := sx_isl_ok h1 hc.1
        exact pm_lst hd hc.2 (hgo _ _ _ _ _ _ _ _ _ _ _ _ h hp ⟨hn, sx_s2_ok hl h1 _, h2, hw⟩)
      · cases h
    · cases h
  · exact hnx h
/-- constants, fields, arrays -/
def sx_insB (M : pm_M) (go : sx_Go) (nx : Bool) (i : Instr) (a b : Nat) (pc ca sl n : Nat) (env : sx_N) (al : sx_L) (ast : List sx_V) (aw : List sx_C) : Bool := match i with
  | .ldc _ => if b = 0 then sx_fi (Int32.ofNat a).toInt fun z => go (pc + 2) ca sl n env al (.inl (0, z) :: ast) aw else go (pc + 2) ca sl n env al (.inr (.retAddr 0) :: ast) aw
  | .ldc_w _ => sx_fi (Int32.ofNat a).toInt fun z => go (pc + 3) ca sl n env al (.inl (0, z) :: ast) aw
  | .ldc2_w _ => go (pc + 3) ca sl n env al (.inr (.long (Int64.ofNat a)) :: ast) aw
  | .getstatic _ => if a = 0 then go (pc + 3) ca sl n env al (.inl (0, 1) :: ast) aw else go (pc + 3) ca sl n env al (.inr (.retAddr 2) :: ast) aw
  | .getfield _ => (match ast with
    | .inr (.ref q) :: ast => (match aw[q]? with
      | some (.inr o) => if o.1 = a ∧ a < 100 then (match o.2[b]? with
        | some v => go (pc + 3) ca sl n env al (v :: ast) aw
        | none => false) else false
      | _ => false)
    | .inr (.retAddr 0) :: ast => if a = 100 then go (pc + 3) ca sl n env al (.inr (.retAddr 1) :: ast) aw else if a = 101 then go (pc + 3) ca sl n env al (.inl (0, 0) :: ast) aw else false
    | _ => false)
  | .putfield _ => (match ast with
    | v :: .inr (.ref q) :: ast => (match aw[q]? with
      | some (.inr o) => (match pm_cl[a]? with
        | some r => if o.1 = a ∧ b < o.2.length ∧ sx_fitv (pm_fty r b) v = true then go (pc + 3) ca sl n env al ast (aw.set q (.inr (o.1, o.2.set b v))) else false
        | none => false)
      | _ => false)
    | _ => false)
  | .iaload => (match ast with
    | .inl x :: .inr (.ref q) :: ast => (match aw[q]? with
      | some (.inl c) => if c.1 = 0 then sx_ald n env aw q c x fun n env aw v => go (pc + 1) ca sl n env al (v :: ast) aw else false
      | _ => false)
    | .inl x :: .inr (.retAddr 3) :: ast => if x.1 = 1 ∧ 0 ≤ x.2 ∧ x.2 ≤ 4 ∧ sx_fits env (1, 0) 0 2147483647 = true then go (pc + 1) ca sl n env al (.inl (2 + x.2.toNat, 0) :: ast) aw else false
    | _ => false)
  | .caload => (match ast with
    | .inl x :: .inr (.ref q) :: ast => (match aw[q]? with
      | some (.inl c) => if c.1 = 1 then sx_ald n env aw q c x fun n env aw v => go (pc + 1) ca sl n env al (v :: ast) aw else false
      | _ => false)
    | _ => false)
  | .baload => (match ast with
    | .inl x :: .inr (.retAddr 1) :: ast => (match sx_iv env x with
      | some c => if 0 ≤ c.1 ∧ c.2 < 117 then (if c.1 = c.2 then sx_fi (pm_bt.getD c.1.toNat 0).toInt fun z => go (pc + 1) ca sl n env al (.inl (0, z) :: ast) aw else sx_push (-2147483648) 2147483647 n env fun n env v => go (pc + 1) ca sl n env al (v :: ast) aw) else false
      | none => false)
    | _ => false)
  | .iastore => (match ast with
    | .inl y :: .inl x :: .inr (.ref q) :: ast => (match aw[q]? with
      | some (.inl c) => if c.1 = 0 then sx_ast env aw q c x (.inl y) fun aw => go (pc + 1) ca sl n env al ast aw else false
      | _ => false)
    | _ => false)
  | .castore => (match ast with
    | .inl y :: .inl x :: .inr (.ref q) :: ast => (match aw[q]? with
      | some (.inl c) => (match sx_iv env y with
        | some d => if c.1 = 1 ∧ 0 ≤ d.1 ∧ d.2 ≤ 65535 then sx_ast env aw q c x (.inl y) fun aw => go (pc + 1) ca sl n env al ast aw else false
        | none => false)
      | _ => false)
    | _ => false)
  | .arraylength => (match ast with
    | .inr (.ref q) :: ast => (match aw[q]? with
      | some (.inl c) => if c.2.1 ≤ 100000 then go (pc + 1) ca sl n env al (.inl (0, c.2.1) :: ast) aw else false
      | _ => false)
    | .inr (.retAddr 1) :: ast => go (pc + 1) ca sl n env al (.inl (0, 117) :: ast) aw
    | _ => false)
  | _ => nx
theorem sx_nar {x : Int32} (h1 : 0 ≤ x.toInt) (h2 : x.toInt ≤ 65535) : vp_nar .char x = x := by
  have e := sx_ofN h1
  have h := (pk_charN (q := x.toInt.toNat) (by omega)).1
  rw [show nI x.toInt.toNat = x from e.symm] at h
  unfold vp_nar
  rw [h]
set_option maxHeartbeats 4000000 in
theorem sx_insB_ok {nx : Bool} (hsc : sx_scr0 sc g0) (hgo : sx_goOK sc M w0 g0 P go) {a b p : Nat} (h : sx_insB M go nx i a b pc ca sl n env al ast aw = true) (hd : decode M.2.1 pc = .ok (i, sx_ln i)) (hlb : pm_lb M pc (i, sx_ln i, a, b, p) = true) (hp : g0 <+: g) (hm : sx_m w0 g (n, env, al, ast, aw) lv st w) (hnx : nx = true → pm_Good sc M pc lv st w ca sl P) : pm_Good sc M pc lv st w ca sl P := by
  obtain ⟨hn, hl, hs, hw⟩ := hm
  simp only at hn hl hs hw
  unfold sx_insB at h
  split at h
  · -- ldc
    rename_i idx
    split at h
    · rename_i hb
      rw [sx_fi_eq] at h
      have hlb' : pm_is p (.constant M.1.cls idx (Int32.ofNat a)) = true := by simpa [pm_lb, hb] using hlb
      exact pm_ldc hd (pm_is_ok hlb') (hgo _ _ _ _ _ _ _ _ _ _ _ _ h hp ⟨hn, hl, ⟨sx_const hn rfl, hs⟩, hw⟩)
    · rename_i hb
      have hlb' : M.1.cls = "CoincidenceBureau" ∧ idx = 68 := by simpa [pm_lb, hb] using hlb
      obtain ⟨hc, rfl⟩ := hlb'
      exact pm_ldcS hd hc (hgo _ _ _ _ _ _ _ _ _ _ _ _ h hp ⟨hn, hl, ⟨rfl, hs⟩, hw⟩)
  · rw [sx_fi_eq] at h
    exact pm_ldcw hd (pm_is_ok hlb) (hgo _ _ _ _ _ _ _ _ _ _ _ _ h hp ⟨hn, hl, ⟨sx_const hn rfl, hs⟩, hw⟩)
  · exact pm_ldc2 hd (pm_is_ok hlb) (hgo _ _ _ _ _ _ _ _ _ _ _ _ h hp ⟨hn, hl, ⟨rfl, hs⟩, hw⟩)
  · rename_i idx
    split at h
    · rename_i ha
      have hlb' : pm_is p (.fieldLink M.1.cls idx "java/lang/String" "COMPACT_STRINGS" "Z") = true := by simpa [pm_lb, ha] using hlb
      exact pm_gst hd (pm_is_ok hlb') (hgo _ _ _ _ _ _ _ _ _ _ _ _ h hp ⟨hn, hl, ⟨sx_const hn rfl, hs⟩, hw⟩)
    · rename_i ha
      have hlb' : pm_is p (.fieldLink M.1.cls idx "jdk/internal/util/Preconditions" "SIOOBE_FORMATTER" "Ljava/util/function/BiFunction;") = true := by simpa [pm_lb, ha] using hlb
      exact pm_gsf hd (pm_is_ok hlb') (hgo _ _ _ _ _ _ _ _ _ _ _ _ h hp ⟨hn, hl, ⟨rfl, hs⟩, hw⟩)
  · -- getfield
    rename_i idx
    split at h
    · obtain ⟨v, m, rfl, h1, h2⟩ := sx_f2_cons hs
      have e : v = .ref _ := h1
      subst e
      split at h
      · rename_i o ho
        obtain ⟨c, hc, hrc⟩ := sx_w_get hw ho
        obtain ⟨fs, rfl, hf⟩ := sx_rc_o hrc
        split at h
        · rename_i hoa
          split at h
          · rename_i v hv
            obtain ⟨u, e1, e2⟩ := sx_f2_get hf hv
            have n1 : ¬ a = 100 := by omega
            have n2 : ¬ a = 101 := by omega
            simp only [pm_lb, if_neg n1, if_neg n2] at hlb
            split at hlb
            · rename_i r hr
              simp only [Bool.and_eq_true, Nat.blt_eq] at hlb
              rw [hoa.1] at hc
              exact pm_getf hd hc hr hlb.1 (pm_is_ok hlb.2) e1 (hgo _ _ _ _ _ _ _ _ _ _ _ _ h hp ⟨hn, hl, ⟨e2, h2⟩, hw⟩)
            · cases hlb
          · cases h
        · cases h
      · cases h
    · obtain ⟨v, m, rfl, h1, h2⟩ := sx_f2_cons hs
      have e : v = .retAddr 0 := h1
      subst e
      split at h
      · rename_i ha
        have hlb' : pm_is p (.fieldLink M.1.cls idx "java/lang/String" "value" "[B") = true := by simpa [pm_lb, ha] using hlb
        exact pm_gsv hd (pm_is_ok hlb') (hgo _ _ _ _ _ _ _ _ _ _ _ _ h hp ⟨hn, hl, ⟨rfl, h2⟩, hw⟩)
      · split at h
        · rename_i ha
          have hlb' : pm_is p (.fieldLink M.1.cls idx "java/lang/String" "coder" "B") = true := by simpa [pm_lb, ha] using hlb
          exact pm_gsc hd (pm_is_ok hlb') (hgo _ _ _ _ _ _ _ _ _ _ _ _ h hp ⟨hn, hl, ⟨sx_const hn rfl, h2⟩, hw⟩)
        · cases h
    · cases h
  · -- putfield
    split at h
    · obtain ⟨v, m, rfl, h1, h2⟩ := sx_f2_cons hs
      obtain ⟨u, m, rfl, h3, h4⟩ := sx_f2_cons h2
      have e : u = .ref _ := h3
      subst e
      split at h
      · rename_i o ho
        obtain ⟨c, hc, hrc⟩ := sx_w_get hw ho
        obtain ⟨fs, rfl, hf⟩ := sx_rc_o hrc
        split at h
        · rename_i r hr
          split at h
          · rename_i hoa
            simp only [pm_lb, hr, Bool.and_eq_true, Bool.or_eq_true, Bool.not_eq_true', Nat.blt_eq, decide_eq_true_eq] at hlb
            have hlen := sx_f2_len hf
            refine pm_putf hd hc (by rw [hoa.1]; exact hr) hlb.1.1 (pm_is_ok hlb.1.2) ?_ (sx_fitv_ok hoa.2.2 h1) (by omega) (hgo _ _ _ _ _ _ _ _ _ _ _ _ h hp ⟨hn, hl, h4, sx_w_set hw ⟨rfl, sx_f2_set hf b h1⟩⟩)
            cases hfin : (r.2.1 b).2.2.2 with
            | false => exact Or.inl rfl
            | true =>
              rcases hlb.2 with q | q
              · rw [hfin] at q; cases q
              · exact Or.inr ⟨rfl, q⟩
          · cases h
        · cases h
      · cases h
    · cases h
  · -- iaload
    split at h
    · obtain ⟨v, m, rfl, h1, h2⟩ := sx_f2_cons hs
      obtain ⟨u, m, rfl, h3, h4⟩ := sx_f2_cons h2
      have e : u = .ref _ := h3
      subst e
      obtain ⟨x, rfl⟩ := sx_int_ok h1
      split at h
      · rename_i c hc
        split at h
        · rename_i h0
          obtain ⟨xs, e1, e2, n', env', aw', v, g', q1, q2, q3, q4, q5⟩ := sx_ald_ok h hn hw hc h1
          rw [h0] at e1
          exact pm_iald hd e1 e2 (hgo _ _ _ _ _ _ _ _ _ _ _ _ q5 (hp.trans q1) ⟨q2, sx_l_pre q1 hl, ⟨q4, sx_st_pre q1 h4⟩, q3⟩)
        · cases h
      · cases h
    · rename_i xa _
      obtain ⟨v, m, rfl, h1, h2⟩ := sx_f2_cons hs
      obtain ⟨u, m, rfl, h3, h4⟩ := sx_f2_cons h2
      have e : u = .retAddr 3 := h3
      subst e
      obtain ⟨x, rfl⟩ := sx_int_ok h1
      split at h
      · rename_i hc
        obtain ⟨c1, c2, c3, c4⟩ := hc
        obtain ⟨z, y, y1, y2, y3⟩ := id h1
        cases y2
        rw [c1] at y1
        rcases sx_scr0_pre hp hsc with ⟨z9, q1, q2⟩ | ⟨i, q1, q2, q3, q4⟩
        · exfalso
          unfold sx_fits at c4
          split at c4
          · rename_i b9 hb9
            have c4 := of_decide_eq_true c4
            obtain ⟨z8, e1, e2, e3⟩ := sx_iv_int hn hb9
            rw [q1] at e1
            cases e1
            simp only at e2
            omega
          · cases c4
        · rw [q1] at y1
          cases y1
          have hxn : x.toInt.toNat = i + xa.2.toNat := by omega
          refine pm_scd hd (sx_in (by omega) (by omega)) ?_
          rw [sx_clamp, hxn]
          exact hgo _ _ _ _ _ _ _ _ _ _ _ _ h hp ⟨hn, hl, ⟨⟨_, _, q4 xa.2.toNat (by omega), rfl, by simp⟩, h4⟩, hw⟩
      · cases h
    · cases h
  · -- caload
    split at h
    · obtain ⟨v, m, rfl, h1, h2⟩ := sx_f2_cons hs
      obtain ⟨u, m, rfl, h3, h4⟩ := sx_f2_cons h2
      have e : u = .ref _ := h3
      subst e
      obtain ⟨x, rfl⟩ := sx_int_ok h1
      split at h
      · rename_i c hc
        split at h
        · rename_i h0
          obtain ⟨xs, e1, e2, n', env', aw', v, g', q1, q2, q3, q4, q5⟩ := sx_ald_ok h hn hw hc h1
          rw [h0] at e1
          exact pm_cald (k := 0) hd e1 e2 (hgo _ _ _ _ _ _ _ _ _ _ _ _ q5 (hp.trans q1) ⟨q2, sx_l_pre q1 hl, ⟨q4, sx_st_pre q1 h4⟩, q3⟩)
        · cases h
      · cases h
    · cases h
  · -- baload
    split at h
    · obtain ⟨v, m, rfl, h1, h2⟩ := sx_f2_cons hs
      obtain ⟨u, m, rfl, h3, h4⟩ := sx_f2_cons h2
      have e : u = .retAddr 1 := h3
      subst e
      obtain ⟨x, rfl⟩ := sx_int_ok h1
      split at h
      · rename_i c hc
        have hb := sx_iv_ok hn hc h1
        split at h
        · rename_i hcd
          refine pm_sbl hd (sx_in (by omega) (by omega)) ?_
          split at h
          · rename_i he
            rw [sx_fi_eq] at h
            have hxe : x.toNatClampNeg = c.1.toNat := by rw [sx_clamp]; omega
            rw [hxe]
            exact hgo _ _ _ _ _ _ _ _ _ _ _ _ h hp ⟨hn, hl, ⟨sx_const hn rfl, h4⟩, hw⟩
          · have hr := sx_rng (pm_bt.getD x.toNatClampNeg 0)
            obtain ⟨n', env', v, g', q1, q2, q3, q4⟩ := sx_push_ok h hn hr.1 hr.2
            exact hgo _ _ _ _ _ _ _ _ _ _ _ _ q4 (hp.trans q1) ⟨q2, sx_l_pre q1 hl, ⟨q3, sx_st_pre q1 h4⟩, sx_w_pre q1 hw⟩
        · cases h
      · cases h
    · cases h
  · -- iastore
    split at h
    · obtain ⟨v, m, rfl, h1, h2⟩ := sx_f2_cons hs
      obtain ⟨u, m, rfl, h3, h4⟩ := sx_f2_cons h2
      obtain ⟨t, m, rfl, h5, h6⟩ := sx_f2_cons h4
      have e : t = .ref _ := h5
      subst e
      obtain ⟨y, rfl⟩ := sx_int_ok h1
      obtain ⟨x, rfl⟩ := sx_int_ok h3
      split at h
      · rename_i c hc
        split at h
        · rename_i h0
          obtain ⟨xs, aw', e1, e2, e3, e4⟩ := sx_ast_ok h hn hw hc h3 h1 (fun e => by omega)
          rw [h0] at e1 e3
          exact pm_iast hd e1 e2 (hgo _ _ _ _ _ _ _ _ _ _ _ _ e4 hp ⟨hn, hl, h6, e3⟩)
        · cases h
      · cases h
    · cases h
  · -- castore
    split at h
    · obtain ⟨v, m, rfl, h1, h2⟩ := sx_f2_cons hs
      obtain ⟨u, m, rfl, h3, h4⟩ := sx_f2_cons h2
      obtain ⟨t, m, rfl, h5, h6⟩ := sx_f2_cons h4
      have e : t = .ref _ := h5
      subst e
      obtain ⟨y, rfl⟩ := sx_int_ok h1
      obtain ⟨x, rfl⟩ := sx_int_ok h3
      split at h
      · rename_i c hc
        split at h
        · rename_i d hdv
          have hb := sx_iv_ok hn hdv h1
          split at h
          · rename_i h0
            obtain ⟨xs, aw', e1, e2, e3, e4⟩ := sx_ast_ok h hn hw hc h3 h1 (fun _ => by omega)
            rw [h0.1] at e1 e3
            refine pm_cast (k := 0) hd e1 e2 ?_
            rw [sx_nar (by omega) (by omega)]
            exact hgo _ _ _ _ _ _ _ _ _ _ _ _ e4 hp ⟨hn, hl, h6, e3⟩
          · cases h
        · cases h
      · cases h
    · cases h
  · -- arraylength
    split at h
    · obtain ⟨v, m, rfl, h1, h2⟩ := sx_f2_cons hs
      have e : v = .ref _ := h1
      subst e
      split at h
      · rename_i c hc
        split at h
        · rename_i hle
          obtain ⟨d, hd1, hrc⟩ := sx_w_get hw hc
          obtain ⟨xs, rfl, hxl, -⟩ := sx_rc_a hrc
          refine pm_alen hd hd1 (hgo _ _ _ _ _ _ _ _ _ _ _ _ h hp ⟨hn, hl, ⟨sx_const hn ?_, h2⟩, hw⟩)
          rw [hxl]
          exact nI_toInt (by omega)
        · cases h
      · cases h
    · obtain ⟨v, m, rfl, h1, h2⟩ := sx_f2_cons hs
      have e : v = .retAddr 1 := h1
      subst e
      exact pm_slen hd (hgo _ _ _ _ _ _ _ _ _ _ _ _ h hp ⟨hn, hl, ⟨sx_const hn rfl, h2⟩, hw⟩)
    · cases h
  · exact hnx h
end SXI
end SC0
