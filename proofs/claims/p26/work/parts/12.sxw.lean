/-! locals and the world by signs -/
def sx_lkl : Nat → sx_L → Option sx_V
  | _, [] => none
  | i, q :: l => bif Nat.beq q.1 i then some q.2 else sx_lkl i l
theorem sx_lkl_ok {g : List Int} {i : Nat} {a : sx_V} : ∀ {al : sx_L} {lv : pm_L}, sx_l g al lv → sx_lkl i al = some a → ∃ v, pm_lk i lv = some v ∧ sx_r g a v
  | [], _, _, h => by cases h
  | q :: al, [], hl, _ => by cases hl
  | q :: al, b :: lv, hl, h => by
    obtain ⟨⟨h1, h2⟩, h3⟩ := hl
    unfold sx_lkl at h
    unfold pm_lk
    rw [← h1]
    cases hq : Nat.beq q.1 i with
    | true =>
      rw [hq] at h
      have e : q.2 = a := Option.some.inj h
      rw [← e]
      exact ⟨b.2, rfl, h2⟩
    | false =>
      rw [hq] at h
      exact sx_lkl_ok h3 h
def sx_s1 (i : Nat) (v : sx_V) (lv : sx_L) : sx_L := (i, v) :: lv.filter (fun q => !(q.1 == i) && !(q.1 + 1 == i && sx_cat q.2 == 2))
def sx_s2 (i : Nat) (v : sx_V) (lv : sx_L) : sx_L := (i, v) :: lv.filter (fun q => !(q.1 == i) && (!(q.1 == i + 1) && !(q.1 + 1 == i && sx_cat q.2 == 2)))
theorem sx_s1_ok {g : List Int} {al : sx_L} {lv : pm_L} (h : sx_l g al lv) {a : sx_V} {v : Value} (hr : sx_r g a v) (i : Nat) : sx_l g (sx_s1 i a al) (pm_s1 i v lv) :=
  ⟨⟨rfl, hr⟩, sx_f2_filter (fun x y q => by rw [q.1, sx_cat_ok q.2]) h⟩
theorem sx_s2_ok {g : List Int} {al : sx_L} {lv : pm_L} (h : sx_l g al lv) {a : sx_V} {v : Value} (hr : sx_r g a v) (i : Nat) : sx_l g (sx_s2 i a al) (pm_s2 i v lv) :=
  ⟨⟨rfl, hr⟩, sx_f2_filter (fun x y q => by rw [q.1, sx_cat_ok q.2]) h⟩
def sx_kind : sx_V → Nat
  | .inl _ => 0
  | .inr (.double _) => 1
  | .inr v => pm_kind v
theorem sx_kind_ok {g : List Int} {a : sx_V} {v : Value} (h : sx_r g a v) : pm_kind v = sx_kind a := by
  cases a with
  | inl q =>
    obtain ⟨x, rfl⟩ := sx_int_ok h
    rfl
  | inr u =>
    cases u with
    | double b =>
      obtain ⟨x, rfl⟩ := h
      rfl
    | _ => rw [show v = _ from h]; rfl
theorem sx_w_get {w0 : pm_W} {g : List Int} {aw : List sx_C} {w : pm_W} (h : sx_w w0 g aw w) {q : Nat} {a : sx_C} (ha : aw[q]? = some a) : ∃ c, w[q]? = some c ∧ sx_rc w0 g q a c := by
  have hl : q < w.length := by rw [← h.1]; exact (List.getElem?_eq_some_iff.mp ha).1
  exact ⟨w[q], List.getElem?_eq_getElem hl, h.2 q a _ ha (List.getElem?_eq_getElem hl)⟩
theorem sx_w_set {w0 : pm_W} {g : List Int} {aw : List sx_C} {w : pm_W} (h : sx_w w0 g aw w) {q : Nat} {a : sx_C} {c : pm_C} (hr : sx_rc w0 g q a c) : sx_w w0 g (aw.set q a) (w.set q c) := by
  refine ⟨by simp [h.1], fun k x y hx hy => ?_⟩
  rw [List.getElem?_set] at hx hy
  by_cases hk : q = k
  · subst hk
    rw [if_pos rfl] at hx hy
    split at hx
    · split at hy
      · cases hx
        cases hy
        exact hr
      · cases hy
    · cases hx
  · rw [if_neg hk] at hx hy
    exact h.2 k x y hx hy
theorem sx_w_setA {w0 : pm_W} {g : List Int} {aw : List sx_C} {w : pm_W} (h : sx_w w0 g aw w) {q : Nat} {a : sx_C} {c : pm_C} (hc : w[q]? = some c) (hr : sx_rc w0 g q a c) : sx_w w0 g (aw.set q a) w := by
  have h2 := sx_w_set h hr
  have e : w.set q c = w := by
    apply List.ext_getElem?
    intro k
    rw [List.getElem?_set]
    by_cases hk : q = k
    · subst hk
      rw [if_pos rfl, if_pos (List.getElem?_eq_some_iff.mp hc).1, hc]
    · rw [if_neg hk]
  rw [e] at h2
  exact h2
theorem sx_rc_o {w0 : pm_W} {g : List Int} {q : Nat} {a : Nat × List sx_V} {c : pm_C} (h : sx_rc w0 g q (.inr a) c) : ∃ fs, c = .inr (a.1, fs) ∧ sx_f2 (sx_r g) a.2 fs := by
  cases c with
  | inl c => cases h
  | inr c =>
    obtain ⟨c1, c2⟩ := c
    obtain ⟨h1, h2⟩ := h
    simp only at h1 h2
    subst h1
    exact ⟨c2, rfl, h2⟩
theorem sx_rc_a {w0 : pm_W} {g : List Int} {q : Nat} {a : sx_A} {c : pm_C} (h : sx_rc w0 g q (.inl a) c) : ∃ xs, c = .inl (a.1, xs) ∧ xs.length = a.2.1 ∧ (a.2.2.1 = true → w0[q]? = some (.inl (a.1, xs))) ∧ (a.1 = 1 → sx_ch xs) ∧ ∀ s ∈ a.2.2.2, ∃ x, xs[s.1]? = some x ∧ sx_r g s.2 (.int x) := by
  cases c with
  | inr c => cases h
  | inl c =>
    obtain ⟨c1, c2⟩ := c
    obtain ⟨h1, h2, h3, h5, h4⟩ := h
    simp only at h1 h2 h3 h4 h5
    subst h1
    exact ⟨c2, rfl, h2, h3, h5, h4⟩
/-- a place of an array that is known -/
def sx_spl : Nat → List (Nat × sx_V) → Option sx_V
  | _, [] => none
  | i, q :: l => bif Nat.beq q.1 i then some q.2 else sx_spl i l
theorem sx_spl_mem {i : Nat} {a : sx_V} : ∀ {l : List (Nat × sx_V)}, sx_spl i l = some a → (i, a) ∈ l
  | [], h => by cases h
  | q :: l, h => by
    unfold sx_spl at h
    cases hq : Nat.beq q.1 i with
    | true =>
      rw [hq] at h
      have e1 : q.1 = i := Nat.eq_of_beq_eq_true hq
      have e2 : q.2 = a := Option.some.inj h
      rw [← e1, ← e2]
      exact List.mem_cons_self
    | false =>
      rw [hq] at h
      exact List.mem_cons_of_mem _ (sx_spl_mem h)
theorem sx_clamp (x : Int32) : x.toNatClampNeg = x.toInt.toNat := rfl
theorem sx_in {x : Int32} {n : Nat} (h1 : 0 ≤ x.toInt) (h2 : x.toInt < n) : vp_in x n := vp_in_iff.mpr ⟨h1, h2⟩
/-- what an element may be -/
def sx_ab (k : Nat) : Int × Int := if k = 1 then (0, 65535) else (-2147483648, 2147483647)
theorem sx_ab_ok {k i : Nat} {xs : List Int32} (h : k = 1 → sx_ch xs) (hi : i < xs.length) : (sx_ab k).1 ≤ (xs.getD i 0).toInt ∧ (xs.getD i 0).toInt ≤ (sx_ab k).2 := by
  unfold sx_ab
  split
  · rename_i e
    have := h e (xs.getD i 0) (by
      rw [List.getD_eq_getElem?_getD, List.getElem?_eq_getElem hi]
      exact List.getElem_mem hi)
    exact this
  · exact sx_rng _
/-- a load -/
def sx_ald (n : Nat) (env : sx_N) (aw : List sx_C) (q : Nat) (a : sx_A) (i : Nat × Int) (k : Nat → sx_N → List sx_C → sx_V → Bool) : Bool := match sx_iv env i with
  | some b => if 0 ≤ b.1 ∧ b.2 < a.2.1 then (if b.1 = b.2 then (match sx_spl b.1.toNat a.2.2.2 with
      | some v => k n env aw v
      | none => sx_push (sx_ab a.1).1 (sx_ab a.1).2 n env fun n env v => k n env (aw.set q (.inl (a.1, a.2.1, a.2.2.1, (b.1.toNat, v) :: a.2.2.2))) v)
    else sx_push (sx_ab a.1).1 (sx_ab a.1).2 n env fun n env v => k n env aw v) else false
  | none => false
theorem sx_ald_ok {n : Nat} {env : sx_N} {aw : List sx_C} {q : Nat} {a : sx_A} {i : Nat × Int} {k : Nat → sx_N → List sx_C → sx_V → Bool} (h : sx_ald n env aw q a i k = true) {g : List Int} (hn : sx_n g n env) {w0 w : pm_W} (hw : sx_w w0 g aw w) (ha : aw[q]? = some (.inl a)) {x : Int32} (hx : sx_r g (.inl i) (.int x)) :
    ∃ xs, w[q]? = some (.inl (a.1, xs)) ∧ vp_in x xs.length ∧ ∃ n' env' aw' v g', g <+: g' ∧ sx_n g' n' env' ∧ sx_w w0 g' aw' w ∧ sx_r g' v (.int (xs.getD x.toNatClampNeg 0)) ∧ k n' env' aw' v = true := by
  obtain ⟨c, hc, hrc⟩ := sx_w_get hw ha
  obtain ⟨xs, rfl, hl, hs, hch, hp⟩ := sx_rc_a hrc
  unfold sx_ald at h
  cases hb : sx_iv env i with
  | none => rw [hb] at h; cases h
  | some b =>
    rw [hb] at h
    have hbb := sx_iv_ok hn hb hx
    simp only at h
    split at h
    · rename_i hbd
      have hlt : x.toInt.toNat < xs.length := by omega
      refine ⟨xs, hc, sx_in (by omega) (by omega), ?_⟩
      split at h
      · rename_i he
        have hxe : x.toInt.toNat = b.1.toNat := by omega
        split at h
        · rename_i v hv
          obtain ⟨y, h1, h2⟩ := hp _ (sx_spl_mem hv)
          refine ⟨n, env, aw, v, g, List.prefix_rfl, hn, hw, ?_, h⟩
          rw [sx_clamp, hxe, List.getD_eq_getElem?_getD, show xs[b.1.toNat]? = some y from h1]
          exact h2
        · have hr := sx_ab_ok hch (i := x.toNatClampNeg) (by rw [sx_clamp]; exact hlt)
          obtain ⟨n', env', v, g', q1, q2, q3, q4⟩ := sx_push_ok h hn hr.1 hr.2
          refine ⟨n', env', _, v, g', q1, q2, ?_, q3, q4⟩
          refine sx_w_setA (sx_w_pre q1 hw) hc ⟨rfl, hl, hs, hch, fun s hsm => ?_⟩
          rcases List.mem_cons.mp hsm with rfl | hsm
          · refine ⟨xs.getD x.toNatClampNeg 0, ?_, q3⟩
            have hb2 : b.1.toNat < xs.length := by omega
            rw [sx_clamp, hxe, List.getD_eq_getElem?_getD]
            show xs[b.1.toNat]? = _
            rw [List.getElem?_eq_getElem hb2]
            rfl
          · obtain ⟨y, h1, h2⟩ := hp s hsm
            exact ⟨y, h1, sx_r_pre q1 h2⟩
      · have hr := sx_ab_ok hch (i := x.toNatClampNeg) (by rw [sx_clamp]; exact hlt)
        obtain ⟨n', env', v, g', q1, q2, q3, q4⟩ := sx_push_ok h hn hr.1 hr.2
        exact ⟨n', env', aw, v, g', q1, q2, sx_w_pre q1 hw, q3, q4⟩
    · cases h
/-- a store -/
def sx_ast (env : sx_N) (aw : List sx_C) (q : Nat) (a : sx_A) (i : Nat × Int) (v : sx_V) (k : List sx_C → Bool) : Bool := match sx_iv env i with
  | some b => if 0 ≤ b.1 ∧ b.2 < a.2.1 then k (aw.set q (.inl (a.1, a.2.1, false, if b.1 = b.2 then (b.1.toNat, v) :: a.2.2.2.filter (fun s => !(Nat.beq s.1 b.1.toNat)) else a.2.2.2.filter (fun s => decide ((s.1 : Int) < b.1 ∨ b.2 < s.1))))) else false
  | none => false
theorem sx_ast_ok {env : sx_N} {aw : List sx_C} {q : Nat} {a : sx_A} {i : Nat × Int} {v : sx_V} {k : List sx_C → Bool} (h : sx_ast env aw q a i v k = true) {g : List Int} {n : Nat} (hn : sx_n g n env) {w0 w : pm_W} (hw : sx_w w0 g aw w) (ha : aw[q]? = some (.inl a)) {x y : Int32} (hx : sx_r g (.inl i) (.int x)) (hv : sx_r g v (.int y)) (hy : a.1 = 1 → 0 ≤ y.toInt ∧ y.toInt ≤ 65535) :
    ∃ xs aw', w[q]? = some (.inl (a.1, xs)) ∧ vp_in x xs.length ∧ sx_w w0 g aw' (w.set q (.inl (a.1, xs.set x.toNatClampNeg y))) ∧ k aw' = true := by
  obtain ⟨c, hc, hrc⟩ := sx_w_get hw ha
  obtain ⟨xs, rfl, hl, hs, hch, hp⟩ := sx_rc_a hrc
  unfold sx_ast at h
  cases hb : sx_iv env i with
  | none => rw [hb] at h; cases h
  | some b =>
    rw [hb] at h
    have hbb := sx_iv_ok hn hb hx
    simp only at h
    split at h
    · rename_i hbd
      have hlt : x.toInt.toNat < xs.length := by omega
      refine ⟨xs, _, hc, sx_in (by omega) (by omega), ?_, h⟩
      refine sx_w_set hw ⟨rfl, by simp [hl], (fun z => by cases z), (fun z u hu => ?_), fun s hsm => ?_⟩
      · rcases List.mem_or_eq_of_mem_set hu with hu | rfl
        · exact hch z u hu
        · exact hy z
      rw [sx_clamp]
      simp only at hsm ⊢
      split at hsm
      · rename_i he
        have hxe : x.toInt.toNat = b.1.toNat := by omega
        rcases List.mem_cons.mp hsm with rfl | hsm
        · exact ⟨y, by simp [hxe, List.getElem?_set]; omega, hv⟩
        · obtain ⟨h1, h2⟩ := List.mem_filter.mp hsm
          obtain ⟨z, h3, h4⟩ := hp s h1
          have hne : ¬ s.1 = b.1.toNat := by
            intro e
            rw [e, Nat.beq_refl] at h2
            cases h2
          exact ⟨z, by rw [List.getElem?_set_ne (by omega)]; exact h3, h4⟩
      · obtain ⟨h1, h2⟩ := List.mem_filter.mp hsm
        obtain ⟨z, h3, h4⟩ := hp s h1
        have h2 := of_decide_eq_true h2
        exact ⟨z, by rw [List.getElem?_set_ne (by omega)]; exact h3, h4⟩
    · cases h
/-- whose references are cells that there are -/
def sx_wfv (n : Nat) : sx_V → Bool
  | .inr (.ref k) => Nat.blt k n
  | _ => true
def sx_wfc (n : Nat) : sx_C → Bool
  | .inl _ => true
  | .inr o => o.2.all (sx_wfv n)
theorem sx_wfv_ok {g : List Int} {n : Nat} {a : sx_V} {v : Value} (h : sx_r g a v) (hw : sx_wfv n a = true) : pm_wfv n v = true := by
  cases a with
  | inl q =>
    obtain ⟨x, rfl⟩ := sx_int_ok h
    rfl
  | inr u =>
    cases u with
    | double b =>
      obtain ⟨x, rfl⟩ := h
      rfl
    | _ => rw [show v = _ from h]; exact hw
theorem sx_wfs_ok {g : List Int} {n : Nat} : ∀ {a : List sx_V} {v : List Value}, sx_f2 (sx_r g) a v → a.all (sx_wfv n) = true → v.all (pm_wfv n) = true
  | [], [], _, _ => rfl
  | a :: l, b :: m, h, hw => by
    simp only [List.all_cons, Bool.and_eq_true] at hw ⊢
    exact ⟨sx_wfv_ok h.1 hw.1, sx_wfs_ok h.2 hw.2⟩
  | [], _ :: _, h, _ => by cases h
  | _ :: _, [], h, _ => by cases h
theorem sx_wfl_ok {g : List Int} {n : Nat} : ∀ {a : sx_L} {v : pm_L}, sx_l g a v → a.all (fun q => sx_wfv n q.2) = true → pm_wfl n v = true
  | [], [], _, _ => rfl
  | a :: l, b :: m, h, hw => by
    unfold pm_wfl
    simp only [List.all_cons, Bool.and_eq_true] at hw ⊢
    exact ⟨sx_wfv_ok h.1.2 hw.1, sx_wfl_ok h.2 hw.2⟩
  | [], _ :: _, h, _ => by cases h
  | _ :: _, [], h, _ => by cases h
theorem sx_wfw_ok {w0 : pm_W} {g : List Int} {n : Nat} {aw : List sx_C} {w : pm_W} (h : sx_w w0 g aw w) (hw : aw.all (sx_wfc n) = true) : pm_wfw n w = true := by
  unfold pm_wfw
  rw [List.all_eq_true]
  intro c hc
  obtain ⟨q, hq⟩ := List.getElem?_of_mem hc
  have hl : q < aw.length := by rw [h.1]; exact (List.getElem?_eq_some_iff.mp hq).1
  have hr := h.2 q _ c (List.getElem?_eq_getElem hl) hq
  have hm := List.all_eq_true.mp hw aw[q] (List.getElem_mem hl)
  cases he : aw[q] with
  | inl a =>
    rw [he] at hr
    obtain ⟨xs, rfl, -⟩ := sx_rc_a hr
    rfl
  | inr a =>
    rw [he] at hr hm
    obtain ⟨fs, rfl, h2⟩ := sx_rc_o hr
    exact sx_wfs_ok h2 hm
/-- a new cell -/
theorem sx_w_app {w0 : pm_W} {g : List Int} {aw : List sx_C} {w : pm_W} (h : sx_w w0 g aw w) {a : sx_C} {c : pm_C} (hr : sx_rc w0 g w.length a c) : sx_w w0 g (aw ++ [a]) (w ++ [c]) := by
  refine ⟨by simp [h.1], fun k x y hx hy => ?_⟩
  by_cases hk : k < w.length
  · rw [List.getElem?_append_left (by rw [h.1]; exact hk)] at hx
    rw [List.getElem?_append_left hk] at hy
    exact h.2 k x y hx hy
  · rw [List.getElem?_append_right (by rw [h.1]; omega)] at hx
    rw [List.getElem?_append_right (by omega)] at hy
    have h1 : k - w.length < 1 := (List.getElem?_eq_some_iff.mp hy).1
    have e : k = w.length := by omega
    subst e
    rw [h.1] at hx
    rw [Nat.sub_self] at hx hy
    cases hx
    cases hy
    exact hr
theorem sx_iv_int {g : List Int} {n : Nat} {env : sx_N} (h : sx_n g n env) {a : Nat × Int} {b : Int × Int} (hb : sx_iv env a = some b) : ∃ z, g[a.1]? = some z ∧ b.1 ≤ z + a.2 ∧ z + a.2 ≤ b.2 := by
  unfold sx_iv at hb
  cases hq : Nat.beq a.1 0 with
  | true =>
    rw [hq] at hb
    have e1 : a.1 = 0 := Nat.eq_of_beq_eq_true hq
    have e2 : (a.2, a.2) = b := Option.some.inj hb
    refine ⟨0, by rw [e1]; exact h.2.1, ?_⟩
    rw [← e2]
    simp only
    omega
  | false =>
    rw [hq] at hb
    simp only [cond_false] at hb
    cases hd : sx_bd a.1 env with
    | none => rw [hd] at hb; cases hb
    | some c =>
      rw [hd] at hb
      have e2 : (c.1 + a.2, c.2 + a.2) = b := Option.some.inj hb
      obtain ⟨y, q1, q2, q3⟩ := sx_bd_ok (n := n) h.2.2 hd
      refine ⟨y, q1, ?_⟩
      rw [← e2]
      simp only
      omega
def sx_fits (env : sx_N) (a : Nat × Int) (lo hi : Int) : Bool := match sx_iv env a with
  | some b => decide (lo ≤ b.1 ∧ b.2 ≤ hi)
  | none => false
