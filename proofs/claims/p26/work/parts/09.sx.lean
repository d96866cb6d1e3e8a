/-! Math.max, min, abs -/
section SC0
variable {sc : pm_Z}
section PMM
variable {M : pm_M} {pc : Nat} {lv : pm_L} {st : List Value} {w : pm_W} {ca sl : Nat} {P : Option Value → pm_W → Prop}
theorem pm_mmax {idx : Nat} {x y : Int32} (hd : decode M.2.1 pc = .ok (.invokestatic idx, 3)) (hlk : Cond.methodLink M.1.cls idx Lib.Math.max.name ∈ pm_T) (hfr : 1 ≤ M.2.2.2.2.frames) (hlo : (st.map fun v => v.category).sum + 13 ≤ M.2.2.2.2.locals) (h : pm_Good sc M (pc + 3) lv (.int (if x < y then y else x) :: st) w ca sl P) : pm_Good sc M pc lv (.int y :: .int x :: st) w ca sl P := by
  intro l p e s m args below meth c9 G A ad0 ad n0 H locs ls h1 h2 h3 h4 h5 h6
  have hk9 := h l p e s m args below meth c9 G A ad0 ad n0 H locs ls h1 h2 h3 h4 h5 h6
  obtain ⟨hx, hb, -, hml, hown, hts, -⟩ := h1
  exact va_mmax hx hb (by rw [hml]; exact h4.1.symm) hown (hts _ hlk) (hts _ pm_mmaxw.1) (hts _ pm_mmaxw.2.1) (hts _ pm_mmaxw.2.2) hfr (by rw [pm_cats]; exact hlo) h5 h6 hd hk9
theorem pm_mmin {idx : Nat} {x y : Int32} (hd : decode M.2.1 pc = .ok (.invokestatic idx, 3)) (hlk : Cond.methodLink M.1.cls idx Lib.Math.min.name ∈ pm_T) (hfr : 1 ≤ M.2.2.2.2.frames) (hlo : (st.map fun v => v.category).sum + 13 ≤ M.2.2.2.2.locals) (h : pm_Good sc M (pc + 3) lv (.int (if y < x then y else x) :: st) w ca sl P) : pm_Good sc M pc lv (.int y :: .int x :: st) w ca sl P := by
  intro l p e s m args below meth c9 G A ad0 ad n0 H locs ls h1 h2 h3 h4 h5 h6
  have hk9 := h l p e s m args below meth c9 G A ad0 ad n0 H locs ls h1 h2 h3 h4 h5 h6
  obtain ⟨hx, hb, -, hml, hown, hts, -⟩ := h1
  exact va_mmin hx hb (by rw [hml]; exact h4.1.symm) hown (hts _ hlk) (hts _ pm_mminw.1) (hts _ pm_mminw.2.1) (hts _ pm_mminw.2.2) hfr (by rw [pm_cats]; exact hlo) h5 h6 hd hk9
theorem pm_mabs {idx : Nat} {x : Int32} (hd : decode M.2.1 pc = .ok (.invokestatic idx, 3)) (hlk : Cond.methodLink M.1.cls idx Lib.Math.abs.name ∈ pm_T) (hfr : 1 ≤ M.2.2.2.2.frames) (hlo : (st.map fun v => v.category).sum + 13 ≤ M.2.2.2.2.locals) (h : pm_Good sc M (pc + 3) lv (.int (if 0 ≤ x then x else 0 - x) :: st) w ca sl P) : pm_Good sc M pc lv (.int x :: st) w ca sl P := by
  intro l p e s m args below meth c9 G A ad0 ad n0 H locs ls h1 h2 h3 h4 h5 h6
  have hk9 := h l p e s m args below meth c9 G A ad0 ad n0 H locs ls h1 h2 h3 h4 h5 h6
  obtain ⟨hx, hb, -, hml, hown, hts, -⟩ := h1
  exact va_mabs hx hb (by rw [hml]; exact h4.1.symm) hown (hts _ hlk) (hts _ pm_mabsw.1) (hts _ pm_mabsw.2.1) (hts _ pm_mabsw.2.2) hfr (by rw [pm_cats]; exact hlo) h5 h6 hd hk9
/-- fewer locals are enough -/
theorem pm_sub {lv' : pm_L} (hs : ∀ q ∈ lv', q ∈ lv) (h : pm_Good sc M pc lv' st w ca sl P) : pm_Good sc M pc lv st w ca sl P := by
  intro l p e s m args below meth c9 G A ad0 ad n0 H locs ls h1 h2 h3 h4 h5 h6
  refine h l p e s m args below meth c9 G A ad0 ad n0 H locs ls h1 h2 h3 ⟨h4.1, h4.2.1, ?_⟩ h5 h6
  intro q hq
  obtain ⟨q0, hm, rfl⟩ := List.mem_map.mp hq
  exact h4.2.2 _ (List.mem_map.mpr ⟨q0, hs q0 hm, rfl⟩)
end PMM
/-! THE RUN BY SIGNS. An int is a sign (a place in a list of numbers that nobody knows) and an offset; what is known of signs are bounds. -/
abbrev sx_V : Type := (Nat × Int) ⊕ Value
abbrev sx_N : Type := List (Nat × Int × Int)
/-- an array: its kind, its length, whether it is as it was at the start, places that are known -/
abbrev sx_A : Type := Nat × Nat × Bool × List (Nat × sx_V)
abbrev sx_C : Type := sx_A ⊕ (Nat × List sx_V)
abbrev sx_L : Type := List (Nat × sx_V)
/-- how many signs there are, bounds, locals, stack, world -/
abbrev sx_S : Type := Nat × sx_N × sx_L × List sx_V × List sx_C
abbrev sx_O : Type := Nat × sx_N × Option sx_V × List sx_C
def sx_r (g : List Int) : sx_V → Value → Prop
  | .inl q, v => ∃ z x, g[q.1]? = some z ∧ v = .int x ∧ x.toInt = z + q.2
  | .inr (.double _), v => ∃ x, v = .long x
  | .inr u, v => v = u
def sx_n (g : List Int) (n : Nat) (env : sx_N) : Prop := g.length = n ∧ g[0]? = some 0 ∧ ∀ q ∈ env, ∃ z, g[q.1]? = some z ∧ q.2.1 ≤ z ∧ z ≤ q.2.2
def sx_f2 {α β : Type} (R : α → β → Prop) : List α → List β → Prop
  | [], [] => True
  | a :: l, b :: m => R a b ∧ sx_f2 R l m
  | _, _ => False
/-- letters -/
def sx_ch (xs : List Int32) : Prop := ∀ x ∈ xs, 0 ≤ x.toInt ∧ x.toInt ≤ 65535
def sx_rc (w0 : pm_W) (g : List Int) (q : Nat) : sx_C → pm_C → Prop
  | .inl a, .inl c => a.1 = c.1 ∧ c.2.length = a.2.1 ∧ (a.2.2.1 = true → w0[q]? = some (.inl c)) ∧ (a.1 = 1 → sx_ch c.2) ∧ ∀ s ∈ a.2.2.2, ∃ x, c.2[s.1]? = some x ∧ sx_r g s.2 (.int x)
  | .inr a, .inr c => a.1 = c.1 ∧ sx_f2 (sx_r g) a.2 c.2
  | _, _ => False
def sx_w (w0 : pm_W) (g : List Int) (aw : List sx_C) (w : pm_W) : Prop := aw.length = w.length ∧ ∀ q a c, aw[q]? = some a → w[q]? = some c → sx_rc w0 g q a c
def sx_l (g : List Int) (al : sx_L) (lv : pm_L) : Prop := sx_f2 (fun a b => a.1 = b.1 ∧ sx_r g a.2 b.2) al lv
def sx_m (w0 : pm_W) (g : List Int) (s : sx_S) (lv : pm_L) (st : List Value) (w : pm_W) : Prop := sx_n g s.1 s.2.1 ∧ sx_l g s.2.2.1 lv ∧ sx_f2 (sx_r g) s.2.2.2.1 st ∧ sx_w w0 g s.2.2.2.2 w
def sx_ro (g : List Int) : Option sx_V → Option Value → Prop
  | none, none => True
  | some a, some v => sx_r g a v
  | _, _ => False
def sx_mo (w0 : pm_W) (g : List Int) (o : sx_O) (r : Option Value) (w : pm_W) : Prop := sx_n g o.1 o.2.1 ∧ sx_ro g o.2.2.1 r ∧ sx_w w0 g o.2.2.2 w
/-- pairs of lists -/
theorem sx_f2_len {α β : Type} {R : α → β → Prop} : ∀ {l : List α} {m : List β}, sx_f2 R l m → l.length = m.length
  | [], [], _ => rfl
  | _ :: _, _ :: _, h => by
    simp only [List.length_cons]
    rw [sx_f2_len h.2]
  | [], _ :: _, h => by cases h
  | _ :: _, [], h => by cases h
theorem sx_f2_mono {α β : Type} {R S : α → β → Prop} (hRS : ∀ a b, R a b → S a b) : ∀ {l : List α} {m : List β}, sx_f2 R l m → sx_f2 S l m
  | [], [], _ => trivial
  | _ :: _, _ :: _, h => ⟨hRS _ _ h.1, sx_f2_mono hRS h.2⟩
  | [], _ :: _, h => by cases h
  | _ :: _, [], h => by cases h
theorem sx_f2_get {α β : Type} {R : α → β → Prop} : ∀ {l : List α} {m : List β}, sx_f2 R l m → ∀ {k : Nat} {a : α}, l[k]? = some a → ∃ b, m[k]? = some b ∧ R a b
  | [], [], _, k, a, h => by simp at h
  | x :: l, y :: m, h, 0, a, ha => by
    simp at ha
    subst ha
    exact ⟨y, rfl, h.1⟩
  | x :: l, y :: m, h, k + 1, a, ha => by
    simp at ha
    obtain ⟨b, h1, h2⟩ := sx_f2_get h.2 ha
    exact ⟨b, by simpa using h1, h2⟩
  | [], _ :: _, h, _, _, _ => by cases h
  | _ :: _, [], h, _, _, _ => by cases h
theorem sx_f2_set {α β : Type} {R : α → β → Prop} : ∀ {l : List α} {m : List β}, sx_f2 R l m → ∀ (k : Nat) {a : α} {b : β}, R a b → sx_f2 R (l.set k a) (m.set k b)
  | [], [], _, _, _, _, _ => trivial
  | _ :: _, _ :: _, h, 0, _, _, hab => ⟨hab, h.2⟩
  | _ :: _, _ :: _, h, k + 1, _, _, hab => ⟨h.1, sx_f2_set h.2 k hab⟩
  | [], _ :: _, h, _, _, _, _ => by cases h
  | _ :: _, [], h, _, _, _, _ => by cases h
theorem sx_f2_filter {α β : Type} {R : α → β → Prop} {p : α → Bool} {q : β → Bool} (hpq : ∀ a b, R a b → p a = q b) : ∀ {l : List α} {m : List β}, sx_f2 R l m → sx_f2 R (l.filter p) (m.filter q)
  | [], [], _ => trivial
  | a :: l, b :: m, h => by
    rw [List.filter_cons, List.filter_cons, hpq a b h.1]
    split
    · exact ⟨h.1, sx_f2_filter hpq h.2⟩
    · exact sx_f2_filter hpq h.2
  | [], _ :: _, h => by cases h
  | _ :: _, [], h => by cases h
theorem sx_f2_app {α β : Type} {R : α → β → Prop} : ∀ {l : List α} {m : List β} {l2 : List α} {m2 : List β}, sx_f2 R l m → sx_f2 R l2 m2 → sx_f2 R (l ++ l2) (m ++ m2)
  | [], [], _, _, _, h => h
  | _ :: _, _ :: _, _, _, h, h2 => ⟨h.1, sx_f2_app h.2 h2⟩
  | [], _ :: _, _, _, h, _ => by cases h
  | _ :: _, [], _, _, h, _ => by cases h
theorem sx_f2_rev {α β : Type} {R : α → β → Prop} : ∀ {l : List α} {m : List β}, sx_f2 R l m → sx_f2 R l.reverse m.reverse
  | [], [], _ => trivial
  | a :: l, b :: m, h => by
    rw [List.reverse_cons, List.reverse_cons]
    exact sx_f2_app (sx_f2_rev h.2) ⟨h.1, trivial⟩
  | [], _ :: _, h => by cases h
  | _ :: _, [], h => by cases h
theorem sx_f2_take {α β : Type} {R : α → β → Prop} : ∀ {l : List α} {m : List β}, sx_f2 R l m → ∀ k : Nat, sx_f2 R (l.take k) (m.take k) ∧ sx_f2 R (l.drop k) (m.drop k)
  | [], [], _, k => by simp [sx_f2]
  | _ :: _, _ :: _, h, 0 => ⟨trivial, h⟩
  | _ :: _, _ :: _, h, k + 1 => ⟨⟨h.1, (sx_f2_take h.2 k).1⟩, (sx_f2_take h.2 k).2⟩
  | [], _ :: _, h, _ => by cases h
  | _ :: _, [], h, _ => by cases h
/-- more signs -/
theorem sx_get_pre {g g' : List Int} (h : g <+: g') {i : Nat} {z : Int} (hz : g[i]? = some z) : g'[i]? = some z := by
  obtain ⟨t, rfl⟩ := h
  rw [List.getElem?_append_left (List.getElem?_eq_some_iff.mp hz).1]
  exact hz
theorem sx_r_pre {g g' : List Int} (h : g <+: g') {a : sx_V} {v : Value} (hr : sx_r g a v) : sx_r g' a v := by
  cases a with
  | inl q =>
    obtain ⟨z, x, h1, h2, h3⟩ := hr
    exact ⟨z, x, sx_get_pre h h1, h2, h3⟩
  | inr u => cases u <;> exact hr
theorem sx_st_pre {g g' : List Int} (h : g <+: g') {l : List sx_V} {m : List Value} (hr : sx_f2 (sx_r g) l m) : sx_f2 (sx_r g') l m := sx_f2_mono (fun _ _ => sx_r_pre h) hr
theorem sx_l_pre {g g' : List Int} (h : g <+: g') {l : sx_L} {m : pm_L} (hr : sx_l g l m) : sx_l g' l m := sx_f2_mono (fun _ _ q => ⟨q.1, sx_r_pre h q.2⟩) hr
theorem sx_rc_pre {w0 : pm_W} {g g' : List Int} (h : g <+: g') {q : Nat} {a : sx_C} {c : pm_C} (hr : sx_rc w0 g q a c) : sx_rc w0 g' q a c := by
  cases a <;> cases c
  · refine ⟨hr.1, hr.2.1, hr.2.2.1, hr.2.2.2.1, fun s hs => ?_⟩
    obtain ⟨x, h1, h2⟩ := hr.2.2.2.2 s hs
    exact ⟨x, h1, sx_r_pre h h2⟩
  · exact hr
  · exact hr
  · exact ⟨hr.1, sx_st_pre h hr.2⟩
theorem sx_w_pre {w0 : pm_W} {g g' : List Int} (h : g <+: g') {a : List sx_C} {w : pm_W} (hr : sx_w w0 g a w) : sx_w w0 g' a w := ⟨hr.1, fun q a c h1 h2 => sx_rc_pre h (hr.2 q a c h1 h2)⟩
theorem sx_n_push {g : List Int} {n : Nat} {env : sx_N} (h : sx_n g n env) {z lo hi : Int} (h1 : lo ≤ z) (h2 : z ≤ hi) : sx_n (g ++ [z]) (n + 1) ((n, lo, hi) :: env) := by
  obtain ⟨hl, h0, he⟩ := h
  refine ⟨by simp [hl], sx_get_pre (List.prefix_append g [z]) h0, fun q hq => ?_⟩
  rcases List.mem_cons.mp hq with rfl | hq
  · exact ⟨z, by rw [← hl]; simp, h1, h2⟩
  · obtain ⟨y, q1, q2⟩ := he q hq
    exact ⟨y, sx_get_pre (List.prefix_append g [z]) q1, q2⟩
theorem sx_n_fact {g : List Int} {n : Nat} {env : sx_N} (h : sx_n g n env) {i : Nat} {z lo hi : Int} (hz : g[i]? = some z) (h1 : lo ≤ z) (h2 : z ≤ hi) : sx_n g n ((i, lo, hi) :: env) := by
  refine ⟨h.1, h.2.1, fun q hq => ?_⟩
  rcases List.mem_cons.mp hq with rfl | hq
  · exact ⟨z, hz, h1, h2⟩
  · exact h.2.2 q hq
/-- numbers are laid bare as they come, so that a later look is short -/
def sx_fi {α : Type} (z : Int) (f : Int → α) : α := match z with
  | .ofNat 0 => f (.ofNat 0)
  | .ofNat (k + 1) => f (.ofNat (k + 1))
  | .negSucc 0 => f (.negSucc 0)
  | .negSucc (k + 1) => f (.negSucc (k + 1))
theorem sx_fi_eq {α : Type} (z : Int) (f : Int → α) : sx_fi z f = f z := by
  unfold sx_fi
  split <;> rfl
def sx_fn {α : Type} (n : Nat) (f : Nat → α) : α := match n with
  | 0 => f 0
  | k + 1 => f (k + 1)
theorem sx_fn_eq {α : Type} (n : Nat) (f : Nat → α) : sx_fn n f = f n := by cases n <;> rfl
/-- the bounds of a sign, of a value -/
def sx_bd (i : Nat) : sx_N → Option (Int × Int)
  | [] => none
  | q :: l => bif Nat.beq q.1 i then some q.2 else sx_bd i l
theorem sx_bd_ok {g : List Int} {n : Nat} {env : sx_N} (h : ∀ q ∈ env, ∃ z, g[q.1]? = some z ∧ q.2.1 ≤ z ∧ z ≤ q.2.2) {i : Nat} {b : Int × Int} (hb : sx_bd i env = some b) : ∃ z, g[i]? = some z ∧ b.1 ≤ z ∧ z ≤ b.2 := by
  induction env with
  | nil => simp [sx_bd] at hb
  | cons q l ih =>
    unfold sx_bd at hb
    cases hq : Nat.beq q.1 i with
    | true =>
      rw [hq] at hb
      have e1 : q.1 = i := Nat.eq_of_beq_eq_true hq
      have e2 : q.2 = b := Option.some.inj hb
      obtain ⟨z, h1, h2⟩ := h q List.mem_cons_self
      rw [e1] at h1
      rw [e2] at h2
      exact ⟨z, h1, h2⟩
    | false =>
      rw [hq] at hb
      exact ih (fun q hq => h q (List.mem_cons_of_mem _ hq)) hb
def sx_iv (env : sx_N) (a : Nat × Int) : Option (Int × Int) := bif Nat.beq a.1 0 then some (a.2, a.2) else match sx_bd a.1 env with
  | some b => some (b.1 + a.2, b.2 + a.2)
  | none => none
theorem sx_iv_ok {g : List Int} {n : Nat} {env : sx_N} (h : sx_n g n env) {a : Nat × Int} {b : Int × Int} (hb : sx_iv env a = some b) {x : Int32} (hr : sx_r g (.inl a) (.int x)) : b.1 ≤ x.toInt ∧ x.toInt ≤ b.2 := by
  obtain ⟨z, y, h1, h2, h3⟩ := hr
  cases h2
  unfold sx_iv at hb
  cases hq : Nat.beq a.1 0 with
  | true =>
    rw [hq] at hb
    have e1 : a.1 = 0 := Nat.eq_of_beq_eq_true hq
    rw [e1, h.2.1] at h1
    have e3 := Option.some.inj h1
    have e2 : (a.2, a.2) = b := Option.some.inj hb
    subst e3
    rw [← e2]
    simp only
    omega
  | false =>
    rw [hq] at hb
    simp only [cond_false] at hb
    cases hd : sx_bd a.1 env with
    | none => rw [hd] at hb; cases hb
    | some c =>
      rw [hd] at hb
      have e2 : (c.1 + a.2, c.2 + a.2) = b := Option.some.inj hb
      obtain ⟨y, q1, q2, q3⟩ := sx_bd_ok (n := n) h.2.2 hd
      rw [h1] at q1
      have e3 := Option.some.inj q1
      subst e3
      rw [← e2]
      simp only
      omega
/-- a new sign with its bounds, or a number -/
def sx_push (lo hi : Int) (n : Nat) (env : sx_N) (k : Nat → sx_N → sx_V → Bool) : Bool := sx_fi lo fun lo => sx_fi hi fun hi => if lo = hi then k n env (.inl (0, lo)) else sx_fn (n + 1) fun m => k m ((n, lo, hi) :: env) (.inl (n, 0))
theorem sx_push_ok {g : List Int} {n : Nat} {env : sx_N} {k : Nat → sx_N → sx_V → Bool} {lo hi : Int} (h : sx_push lo hi n env k = true) (hn : sx_n g n env) {x : Int32} (h1 : lo ≤ x.toInt) (h2 : x.toInt ≤ hi) : ∃ n' env' a g', g <+: g' ∧ sx_n g' n' env' ∧ sx_r g' a (.int x) ∧ k n' env' a = true := by
  unfold sx_push at h
  rw [sx_fi_eq, sx_fi_eq] at h
  split at h
  · rename_i e
    refine ⟨n, env, .inl (0, lo), g, List.prefix_rfl, hn, ⟨0, x, hn.2.1, rfl, ?_⟩, h⟩
    simp only
    omega
  · rw [sx_fn_eq] at h
    refine ⟨n + 1, _, .inl (n, 0), g ++ [x.toInt], List.prefix_append _ _, sx_n_push hn h1 h2, ⟨x.toInt, x, ?_, rfl, by simp⟩, h⟩
    rw [← hn.1]
    simp
/-- a fact more of a value -/
def sx_rf (env : sx_N) (a : Nat × Int) (lo hi : Int) : sx_N := bif Nat.beq a.1 0 then env else sx_fi (lo - a.2) fun l => sx_fi (hi - a.2) fun h => if sx_bd a.1 env = some (l, h) then env else (a.1, l, h) :: env
theorem sx_rf_ok {g : List Int} {n : Nat} {env : sx_N} (hn : sx_n g n env) {a : Nat × Int} {x : Int32} (hr : sx_r g (.inl a) (.int x)) {lo hi : Int} (h1 : lo ≤ x.toInt) (h2 : x.toInt ≤ hi) : sx_n g n (sx_rf env a lo hi) := by
  obtain ⟨z, y, q1, q2, q3⟩ := hr
  cases q2
  unfold sx_rf
  cases Nat.beq a.1 0 with
  | true => exact hn
  | false =>
    simp only [cond_false, sx_fi_eq]
    split
    · exact hn
    · exact sx_n_fact hn q1 (by omega) (by omega)
end SC0
