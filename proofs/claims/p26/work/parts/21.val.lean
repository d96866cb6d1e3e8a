/-! the common divisor of the reference: at least 1 where the second number is -/
theorem lo_c4 {sc : pm_Z} {w : pm_W} {P : Option Value → pm_W → Prop} (hP : ∀ x : Int32, 1 ≤ x.toInt → P (some (.int x)) w) : ∀ (N : Nat) (a b : Int32), b.toInt ≤ N → (1 ≤ a.toInt ∨ 1 ≤ b.toInt) → pm_Good sc mm_132 4 [(2, .int a), (3, .int b)] [] w 0 0 P := by
  have hex : ∀ (a b : Int32), b.toInt ≤ 0 → 1 ≤ a.toInt → pm_Good sc mm_132 4 [(2, .int a), (3, .int b)] [] w 0 0 P := by
    intro a b hb ha
    refine pm_ld_ok (i := .iload_n 3) (x := 3) (k := 0) (n := 1) (v := .int b) (by decide +kernel) rfl rfl rfl ?_
    refine pm_br (c := .le) (off := 16) (by decide +kernel) (by decide) (fun _ => ?_) (fun hf => ?_)
    · show pm_Good sc mm_132 21 _ _ _ _ _ _
      refine pm_ld_ok (i := .iload_n 2) (x := 2) (k := 0) (n := 1) (v := .int a) (by decide +kernel) rfl rfl rfl ?_
      exact pm_iret (ty := .int) (by decide +kernel) rfl rfl (hP a ha)
    · exfalso
      have : ¬ (b ≤ (0 : Int32)) := of_decide_eq_false hf
      exact this (Int32.le_iff_toInt_le.mpr hb)
  intro N
  induction N with
  | zero =>
    intro a b hb h
    rcases h with h | h
    · exact hex a b hb h
    · exact absurd hb (by omega)
  | succ N ih =>
    intro a b hb h
    by_cases hb0 : b.toInt ≤ 0
    · rcases h with h | h
      · exact hex a b hb0 h
      · exact absurd hb0 (by omega)
    · refine pm_ld_ok (i := .iload_n 3) (x := 3) (k := 0) (n := 1) (v := .int b) (by decide +kernel) rfl rfl rfl ?_
      refine pm_br (c := .le) (off := 16) (by decide +kernel) (by decide) (fun hf => ?_) (fun _ => ?_)
      · exfalso
        have : b ≤ (0 : Int32) := of_decide_eq_true hf
        exact hb0 (Int32.le_iff_toInt_le.mp this)
      · refine pm_ld_ok (i := .iload_n 2) (x := 2) (k := 0) (n := 1) (v := .int a) (by decide +kernel) rfl rfl rfl ?_
        refine pm_ld_ok (i := .iload_n 3) (x := 3) (k := 0) (n := 1) (v := .int b) (by decide +kernel) rfl rfl rfl ?_
        have hne : ¬ b = 0 := sx_ne0 (by omega)
        refine pm_op_ok (i := .irem) (st' := [.int (a - a / b * b)]) (by decide +kernel) (by unfold pm_op; simp [hne]) ?_
        refine pm_sto_ok (i := .istore 4) (x := 4) (k := 0) (n := 2) (by decide +kernel) rfl rfl (by decide) ?_
        refine pm_ld_ok (i := .iload_n 3) (x := 3) (k := 0) (n := 1) (v := .int b) (by decide +kernel) rfl rfl rfl ?_
        refine pm_sto_ok (i := .istore_n 2) (x := 2) (k := 0) (n := 1) (by decide +kernel) rfl rfl (by decide) ?_
        refine pm_ld_ok (i := .iload 4) (x := 4) (k := 0) (n := 2) (v := .int (a - a / b * b)) (by decide +kernel) rfl rfl rfl ?_
        refine pm_sto_ok (i := .istore_n 3) (x := 3) (k := 0) (n := 1) (by decide +kernel) rfl rfl (by decide) ?_
        refine pm_goto (off := -14) (by decide +kernel) (by decide) ?_
        show pm_Good sc mm_132 4 _ _ _ _ _ _
        refine pm_sub (lv' := [(2, .int b), (3, .int (a - a / b * b))]) ?_ (ih b _ ?_ (Or.inl (by omega)))
        · intro q hq
          simp only [List.mem_cons, List.not_mem_nil, or_false] at hq
          rcases hq with rfl | rfl
          · exact List.mem_cons_of_mem _ List.mem_cons_self
          · exact List.mem_cons_self
        · rw [sx_rem (by omega)]
          have := Int.tmod_lt_of_pos a.toInt (show 0 < b.toInt by omega)
          omega
theorem lo_common {sc : pm_Z} {w : pm_W} {P : Option Value → pm_W → Prop} (hP : ∀ x : Int32, 1 ≤ x.toInt → P (some (.int x)) w) (a b : Int32) (hb : 1 ≤ b.toInt) : pm_GoodM sc mm_132 [.int a, .int b] w P := by
  unfold pm_GoodM
  show pm_Good sc mm_132 0 [(0, .int a), (1, .int b)] [] w 0 0 P
  refine pm_ld_ok (i := .iload_n 0) (x := 0) (k := 0) (n := 1) (v := .int a) (by decide +kernel) rfl rfl rfl ?_
  refine pm_sto_ok (i := .istore_n 2) (x := 2) (k := 0) (n := 1) (by decide +kernel) rfl rfl (by decide) ?_
  refine pm_ld_ok (i := .iload_n 1) (x := 1) (k := 0) (n := 1) (v := .int b) (by decide +kernel) rfl rfl rfl ?_
  refine pm_sto_ok (i := .istore_n 3) (x := 3) (k := 0) (n := 1) (by decide +kernel) rfl rfl (by decide) ?_
  refine pm_sub (lv' := [(2, .int a), (3, .int b)]) ?_ (lo_c4 hP b.toInt.toNat a b (by omega) (Or.inr hb))
  intro q hq
  simp only [List.mem_cons, List.not_mem_nil, or_false] at hq
  rcases hq with rfl | rfl
  · exact List.mem_cons_of_mem _ List.mem_cons_self
  · exact List.mem_cons_self
theorem lo_O1a {sc : pm_Z} {w0 : pm_W} : sx_orA sc w0 sx_O1a := by
  intro j y n env as aw alts g As w h hy hn hA hw
  unfold sx_O1a at h
  cases hb : Nat.beq j 132 with
  | false => rw [hb] at h; cases h
  | true =>
    rw [hb] at h
    simp only [cond_true] at h
    have e1 : j = 132 := Nat.eq_of_beq_eq_true hb
    subst e1
    have e2 : pm_mt 132 = some (mm_132, 2, 1, mk_132) := rfl
    rw [e2] at hy
    cases hy
    split at h
    · rename_i a b
      obtain ⟨v1, m1, rfl, h1, h2⟩ := sx_f2_cons hA
      obtain ⟨v2, m2, rfl, h3, h4⟩ := sx_f2_cons h2
      cases m2 with
      | cons _ _ => cases h4
      | nil =>
        obtain ⟨x1, rfl⟩ := sx_int_ok h1
        obtain ⟨x2, rfl⟩ := sx_int_ok h3
        split at h
        · rename_i hf
          cases h
          have hb2 : 1 ≤ x2.toInt := by
            unfold sx_fits at hf
            split at hf
            · rename_i b9 hb9
              have := sx_iv_ok hn hb9 h3
              have hh := of_decide_eq_true hf
              omega
            · cases hf
          refine lo_common (fun x hx => ⟨_, List.mem_cons_self, x, rfl, hx, (sx_rng x).2, hw⟩) x1 x2 hb2
        · cases h
    · cases h
/-! other numbers for the signs that a world does not use -/
def lo_v (ok : Nat → Bool) : sx_V → Bool
  | .inl a => ok a.1
  | .inr _ => true
def lo_w (ok : Nat → Bool) (aw : List sx_C) : Bool := aw.all fun c => match c with
  | .inl a => a.2.2.2.all fun q => lo_v ok q.2
  | .inr o => o.2.all (lo_v ok)
theorem lo_v_ok {ok : Nat → Bool} {g g' : List Int} (hg : ∀ i, ok i = true → g'[i]? = g[i]?) {a : sx_V} {v : Value} (h : lo_v ok a = true) (hr : sx_r g a v) : sx_r g' a v := by
  cases a with
  | inl q =>
    obtain ⟨z, x, h1, h2, h3⟩ := hr
    exact ⟨z, x, by rw [hg _ h]; exact h1, h2, h3⟩
  | inr u => cases u <;> exact hr
theorem lo_f_ok {ok : Nat → Bool} {g g' : List Int} (hg : ∀ i, ok i = true → g'[i]? = g[i]?) : ∀ {l : List sx_V} {m : List Value}, l.all (lo_v ok) = true → sx_f2 (sx_r g) l m → sx_f2 (sx_r g') l m
  | [], [], _, _ => trivial
  | a :: l, b :: m, h, hr => by
    simp only [List.all_cons, Bool.and_eq_true] at h
    exact ⟨lo_v_ok hg h.1 hr.1, lo_f_ok hg h.2 hr.2⟩
  | [], _ :: _, _, h => by cases h
  | _ :: _, [], _, h => by cases h
theorem lo_w_ok {ok : Nat → Bool} {g g' : List Int} (hg : ∀ i, ok i = true → g'[i]? = g[i]?) {w0 : pm_W} {aw : List sx_C} {w : pm_W} (h : lo_w ok aw = true) (hw : sx_w w0 g aw w) : sx_w w0 g' aw w := by
  refine ⟨hw.1, fun q a c h1 h2 => ?_⟩
  have h3 := hw.2 q a c h1 h2
  have h4 := List.all_eq_true.mp h a (List.mem_of_getElem? h1)
  cases a with
  | inl a =>
    cases c with
    | inl c =>
      obtain ⟨c1, c2, c3, c5, c4⟩ := h3
      refine ⟨c1, c2, c3, c5, fun s hs => ?_⟩
      obtain ⟨x, d1, d2⟩ := c4 s hs
      exact ⟨x, d1, lo_v_ok hg (List.all_eq_true.mp h4 s hs) d2⟩
    | inr c => cases h3
  | inr a =>
    cases c with
    | inl c => cases h3
    | inr c =>
      obtain ⟨c1, c2⟩ := h3
      exact ⟨c1, lo_f_ok hg h4 c2⟩
/-- arrays of which nothing is known: the world at the start does not matter -/
def lo_u (aw : List sx_C) : Bool := aw.all fun c => match c with
  | .inl a => !a.2.2.1
  | .inr _ => true
theorem lo_u_ok {w0 w1 : pm_W} {g : List Int} {aw : List sx_C} {w : pm_W} (h : lo_u aw = true) (hw : sx_w w0 g aw w) : sx_w w1 g aw w := by
  refine ⟨hw.1, fun q a c h1 h2 => ?_⟩
  have h3 := hw.2 q a c h1 h2
  have h4 := List.all_eq_true.mp h a (List.mem_of_getElem? h1)
  cases a with
  | inl a =>
    cases c with
    | inl c =>
      obtain ⟨c1, c2, c3, c4⟩ := h3
      refine ⟨c1, c2, fun e => ?_, c4⟩
      simp only [e, Bool.not_true] at h4
      cases h4
    | inr c => cases h3
  | inr a =>
    cases c with
    | inl c => cases h3
    | inr c => exact h3
theorem lo_O1 {sc : pm_Z} {Ψ : List Int → Prop} {w0 : pm_W} : sx_orOK sc Ψ w0 sx_O1 := ⟨lo_O1a, fun j y n env as aw outs g As w h => by cases h⟩
def lo_tr : List Int → Prop := fun _ => True
