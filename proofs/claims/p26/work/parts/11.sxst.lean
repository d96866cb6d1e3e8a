/-! the stack and the branches by signs -/
def sx_cat : sx_V → Nat
  | .inl _ => 1
  | .inr v => v.category
def sx_isl : sx_V → Bool
  | .inr (.double _) => true
  | .inr (.long _) => true
  | _ => false
theorem sx_cat_ok {g : List Int} {a : sx_V} {v : Value} (h : sx_r g a v) : v.category = sx_cat a := by
  cases a with
  | inl q =>
    obtain ⟨z, x, -, rfl, -⟩ := h
    rfl
  | inr u =>
    cases u with
    | double b =>
      obtain ⟨x, rfl⟩ := h
      rfl
    | _ => rw [show v = _ from h]; rfl
theorem sx_isl_ok {g : List Int} {a : sx_V} {v : Value} (h : sx_r g a v) (hl : sx_isl a = true) : ∃ x, v = .long x := by
  cases a with
  | inl q => cases hl
  | inr u =>
    cases u with
    | double b => exact h
    | long x => exact ⟨x, h⟩
    | _ => cases hl
theorem sx_int_ok {g : List Int} {a : Nat × Int} {v : Value} (h : sx_r g (.inl a) v) : ∃ x, v = .int x := by
  obtain ⟨z, x, -, h2, -⟩ := h
  exact ⟨x, h2⟩
theorem sx_const {g : List Int} {n : Nat} {env : sx_N} (hn : sx_n g n env) {x : Int32} {z : Int} (h : x.toInt = z) : sx_r g (.inl (0, z)) (.int x) := ⟨0, x, hn.2.1, rfl, by simp [h]⟩
def sx_gen (i : Instr) (x y : Int × Int) (n : Nat) (env : sx_N) (st : List sx_V) (k : Nat → sx_N → List sx_V → Bool) : Bool := match sx_bi i x y with
  | some c => sx_push c.1 c.2 n env fun n env v => k n env (v :: st)
  | none => false
def sx_bin (i : Instr) (n : Nat) (env : sx_N) (a b : Nat × Int) (st : List sx_V) (k : Nat → sx_N → List sx_V → Bool) : Bool := match sx_iv env a, sx_iv env b with
  | some x, some y => (match i with
    | .iadd => if y.1 = y.2 ∧ -2147483648 ≤ x.1 + y.1 ∧ x.2 + y.1 ≤ 2147483647 then sx_fi (a.2 + y.1) fun o => k n env (.inl (a.1, o) :: st) else if x.1 = x.2 ∧ -2147483648 ≤ y.1 + x.1 ∧ y.2 + x.1 ≤ 2147483647 then sx_fi (b.2 + x.1) fun o => k n env (.inl (b.1, o) :: st) else sx_gen i x y n env st k
    | .isub => if y.1 = y.2 ∧ -2147483648 ≤ x.1 - y.1 ∧ x.2 - y.1 ≤ 2147483647 then sx_fi (a.2 - y.1) fun o => k n env (.inl (a.1, o) :: st) else sx_gen i x y n env st k
    | _ => sx_gen i x y n env st k)
  | _, _ => false
def sx_op (i : Instr) (n : Nat) (env : sx_N) (st : List sx_V) (k : Nat → sx_N → List sx_V → Bool) : Bool := match i with
  | .iconst m => sx_fi (Int32.ofInt m).toInt fun z => k n env (.inl (0, z) :: st)
  | .bipush m => sx_fi (Int8.ofInt m).toInt32.toInt fun z => k n env (.inl (0, z) :: st)
  | .sipush m => sx_fi (Int16.ofInt m).toInt32.toInt fun z => k n env (.inl (0, z) :: st)
  | .lconst m => k n env (.inr (.long (Int64.ofNat (m : Nat))) :: st)
  | .i2c => match st with
    | .inl a :: st => (match sx_iv env a with
      | some b => if 0 ≤ b.1 ∧ b.2 ≤ 65535 then k n env (.inl a :: st) else sx_push 0 65535 n env fun n env v => k n env (v :: st)
      | none => false)
    | _ => false
  | .i2l => match st with
    | .inl _ :: st => k n env (.inr (.double 0) :: st)
    | _ => false
  | .l2i => match st with
    | a :: st => if sx_isl a = true then sx_push (-2147483648) 2147483647 n env fun n env v => k n env (v :: st) else false
    | _ => false
  | .ladd => match st with
    | b :: a :: st => if sx_isl a = true ∧ sx_isl b = true then k n env (.inr (.double 0) :: st) else false
    | _ => false
  | .lmul => match st with
    | b :: a :: st => if sx_isl a = true ∧ sx_isl b = true then k n env (.inr (.double 0) :: st) else false
    | _ => false
  | .ldiv => match st with
    | .inr (.long c) :: a :: st => if sx_isl a = true ∧ ¬ c = 0 then k n env (.inr (.double 0) :: st) else false
    | _ => false
  | .lrem => match st with
    | .inr (.long c) :: a :: st => if sx_isl a = true ∧ ¬ c = 0 then k n env (.inr (.double 0) :: st) else false
    | _ => false
  | .dup => match st with
    | v :: st => if sx_cat v = 1 then k n env (v :: v :: st) else false
    | _ => false
  | .pop => match st with
    | v :: st => if sx_cat v = 1 then k n env st else false
    | _ => false
  | .dup2 => match st with
    | v :: u :: st => if sx_cat v = 1 ∧ sx_cat u = 1 then k n env (v :: u :: v :: u :: st) else false
    | _ => false
  | i => match st with
    | .inl b :: .inl a :: st => sx_bin i n env a b st k
    | _ => false
theorem sx_f2_cons {α β : Type} {R : α → β → Prop} {a : α} {l : List α} {m : List β} (h : sx_f2 R (a :: l) m) : ∃ b m', m = b :: m' ∧ R a b ∧ sx_f2 R l m' := by
  cases m with
  | nil => cases h
  | cons b m => exact ⟨b, m, rfl, h.1, h.2⟩
theorem sx_char (x : Int32) : 0 ≤ (x.toUInt32 % 65536).toInt32.toInt ∧ (x.toUInt32 % 65536).toInt32.toInt ≤ 65535 := by
  rw [pk_char, nI_toInt (by omega)]
  omega
theorem sx_charS {x : Int32} (h1 : 0 ≤ x.toInt) (h2 : x.toInt ≤ 65535) : (x.toUInt32 % 65536).toInt32 = x := by
  have e := sx_ofN h1
  have hb : x.toBitVec.toNat = x.toInt.toNat := by
    have h3 : x.toBitVec.toInt = x.toInt := rfl
    rw [BitVec.toInt_eq_toNat_cond] at h3
    have h4 := x.toBitVec.isLt
    split at h3 <;> omega
  rw [pk_char, hb]
  have : x.toInt.toNat % 65536 = x.toInt.toNat := by omega
  rw [this]
  exact e.symm
theorem sx_gen_ok {i : Instr} {x y : Int × Int} {n : Nat} {env : sx_N} {st : List sx_V} {k : Nat → sx_N → List sx_V → Bool} (h : sx_gen i x y n env st k = true) {g : List Int} (hn : sx_n g n env) {u v : Int32} (h1 : x.1 ≤ u.toInt) (h2 : u.toInt ≤ x.2) (h3 : y.1 ≤ v.toInt) (h4 : v.toInt ≤ y.2) {cst : List Value} (hs : sx_f2 (sx_r g) st cst) :
    ∃ cst' n' env' st' g', pm_op i (.int v :: .int u :: cst) = some cst' ∧ g <+: g' ∧ sx_n g' n' env' ∧ sx_f2 (sx_r g') st' cst' ∧ k n' env' st' = true := by
  unfold sx_gen at h
  cases hb : sx_bi i x y with
  | none => rw [hb] at h; cases h
  | some c =>
    rw [hb] at h
    obtain ⟨r, e1, e2, e3⟩ := sx_bi_ok hb h1 h2 h3 h4 cst
    obtain ⟨n', env', a, g', q1, q2, q3, q4⟩ := sx_push_ok h hn e2 e3
    exact ⟨_, n', env', a :: st, g', e1, q1, q2, ⟨q3, sx_st_pre q1 hs⟩, q4⟩
theorem sx_bin_ok {i : Instr} {n : Nat} {env : sx_N} {a b : Nat × Int} {st : List sx_V} {k : Nat → sx_N → List sx_V → Bool} (h : sx_bin i n env a b st k = true) {g : List Int} (hn : sx_n g n env) {u v : Int32} (hu : sx_r g (.inl a) (.int u)) (hv : sx_r g (.inl b) (.int v)) {cst : List Value} (hs : sx_f2 (sx_r g) st cst) :
    ∃ cst' n' env' st' g', pm_op i (.int v :: .int u :: cst) = some cst' ∧ g <+: g' ∧ sx_n g' n' env' ∧ sx_f2 (sx_r g') st' cst' ∧ k n' env' st' = true := by
  unfold sx_bin at h
  cases hx : sx_iv env a with
  | none => rw [hx] at h; cases h
  | some x =>
    cases hy : sx_iv env b with
    | none => rw [hx, hy] at h; cases h
    | some y =>
      rw [hx, hy] at h
      simp only at h
      have bx := sx_iv_ok hn hx hu
      have by' := sx_iv_ok hn hy hv
      obtain ⟨z1, u1, a1, a2, a3⟩ := id hu
      obtain ⟨z2, v1, b1, b2, b3⟩ := id hv
      cases a2
      cases b2
      split at h
      · split at h
        · rw [sx_fi_eq] at h
          refine ⟨_, n, env, _, g, rfl, List.prefix_rfl, hn, ?_, h⟩
          refine ⟨⟨z1, _, a1, rfl, ?_⟩, hs⟩
          rw [sx_add (by omega) (by omega)]
          simp only
          omega
        · split at h
          · rw [sx_fi_eq] at h
            refine ⟨_, n, env, _, g, rfl, List.prefix_rfl, hn, ?_, h⟩
            refine ⟨⟨z2, _, b1, rfl, ?_⟩, hs⟩
            rw [sx_add (by omega) (by omega)]
            simp only
            omega
          · exact sx_gen_ok h hn bx.1 bx.2 by'.1 by'.2 hs
      · split at h
        · rw [sx_fi_eq] at h
          refine ⟨_, n, env, _, g, rfl, List.prefix_rfl, hn, ?_, h⟩
          refine ⟨⟨z1, _, a1, rfl, ?_⟩, hs⟩
          rw [sx_sub (by omega) (by omega)]
          simp only
          omega
        · exact sx_gen_ok h hn bx.1 bx.2 by'.1 by'.2 hs
      · exact sx_gen_ok h hn bx.1 bx.2 by'.1 by'.2 hs
set_option maxHeartbeats 4000000 in
theorem sx_op_ok {i : Instr} {n : Nat} {env : sx_N} {st : List sx_V} {k : Nat → sx_N → List sx_V → Bool} (h : sx_op i n env st k = true) {g : List Int} (hn : sx_n g n env) {cst : List Value} (hs : sx_f2 (sx_r g) st cst) :
    ∃ cst' n' env' st' g', pm_op i cst = some cst' ∧ g <+: g' ∧ sx_n g' n' env' ∧ sx_f2 (sx_r g') st' cst' ∧ k n' env' st' = true := by
  unfold sx_op at h
  split at h
  · rw [sx_fi_eq] at h
    refine ⟨_, n, env, _, g, rfl, List.prefix_rfl, hn, ?_, h⟩
    exact ⟨sx_const hn rfl, hs⟩
  · rw [sx_fi_eq] at h
    refine ⟨_, n, env, _, g, rfl, List.prefix_rfl, hn, ?_, h⟩
    exact ⟨sx_const hn rfl, hs⟩
  · rw [sx_fi_eq] at h
    refine ⟨_, n, env, _, g, rfl, List.prefix_rfl, hn, ?_, h⟩
    exact ⟨sx_const hn rfl, hs⟩
  · refine ⟨_, n, env, _, g, rfl, List.prefix_rfl, hn, ?_, h⟩
    exact ⟨rfl, hs⟩
  · split at h
    · obtain ⟨v, m, rfl, h1, h2⟩ := sx_f2_cons hs
      obtain ⟨x, rfl⟩ := sx_int_ok h1
      split at h
      · rename_i b hb
        have hb := sx_iv_ok hn hb h1
        split at h
        · refine ⟨_, n, env, _, g, rfl, List.prefix_rfl, hn, ?_, h⟩
          refine ⟨?_, h2⟩
          rw [sx_charS (by omega) (by omega)]
          exact h1
        · have hc := sx_char x
          obtain ⟨n', env', a, g', q1, q2, q3, q4⟩ := sx_push_ok h hn hc.1 hc.2
          refine ⟨_, n', env', _, g', rfl, q1, q2, ?_, q4⟩
          exact ⟨q3, sx_st_pre q1 h2⟩
      · cases h
    · cases h
  · split at h
    · obtain ⟨v, m, rfl, h1, h2⟩ := sx_f2_cons hs
      obtain ⟨x, rfl⟩ := sx_int_ok h1
      refine ⟨_, n, env, _, g, rfl, List.prefix_rfl, hn, ?_, h⟩
      exact ⟨⟨_, rfl⟩, h2⟩
    · cases h
  · split at h
    · obtain ⟨v, m, rfl, h1, h2⟩ := sx_f2_cons hs
      split at h
      · rename_i hl
        obtain ⟨x, rfl⟩ := sx_isl_ok h1 hl
        have hc := sx_rng x.toInt32
        obtain ⟨n', env', a, g', q1, q2, q3, q4⟩ := sx_push_ok h hn hc.1 hc.2
        refine ⟨_, n', env', _, g', rfl, q1, q2, ?_, q4⟩
        exact ⟨q3, sx_st_pre q1 h2⟩
      · cases h
    · cases h
  · split at h
    · obtain ⟨v, m, rfl, h1, h2⟩ := sx_f2_cons hs
      obtain ⟨u, m, rfl, h3, h4⟩ := sx_f2_cons h2
      split at h
      · rename_i hl
        obtain ⟨x, rfl⟩ := sx_isl_ok h1 hl.2
        obtain ⟨y, rfl⟩ := sx_isl_ok h3 hl.1
        refine ⟨_, n, env, _, g, rfl, List.prefix_rfl, hn, ?_, h⟩
        exact ⟨⟨_, rfl⟩, h4⟩
      · cases h
    · cases h
  · split at h
    · obtain ⟨v, m, rfl, h1, h2⟩ := sx_f2_cons hs
      obtain ⟨u, m, rfl, h3, h4⟩ := sx_f2_cons h2
      split at h
      · rename_i hl
        obtain ⟨x, rfl⟩ := sx_isl_ok h1 hl.2
        obtain ⟨y, rfl⟩ := sx_isl_ok h3 hl.1
        refine ⟨_, n, env, _, g, rfl, List.prefix_rfl, hn, ?_, h⟩
        exact ⟨⟨_, rfl⟩, h4⟩
      · cases h
    · cases h
  · split at h
    · obtain ⟨v, m, rfl, h1, h2⟩ := sx_f2_cons hs
      obtain ⟨u, m, rfl, h3, h4⟩ := sx_f2_cons h2
      split at h
      · rename_i hl
        rename_i c9 _ _
        have e : v = .long c9 := h1
        subst e
        obtain ⟨y, rfl⟩ := sx_isl_ok h3 hl.1
        refine ⟨(.long (y / c9) :: m), n, env, _, g, by simp only [pm_op, if_neg hl.2], List.prefix_rfl, hn, ?_, h⟩
        exact ⟨⟨_, rfl⟩, h4⟩
      · cases h
    · cases h
  · split at h
    · obtain ⟨v, m, rfl, h1, h2⟩ := sx_f2_cons hs
      obtain ⟨u, m, rfl, h3, h4⟩ := sx_f2_cons h2
      split at h
      · rename_i hl
        rename_i c9 _ _
        have e : v = .long c9 := h1
        subst e
        obtain ⟨y, rfl⟩ := sx_isl_ok h3 hl.1
        refine ⟨(.long (y - y / c9 * c9) :: m), n, env, _, g, by simp only [pm_op, if_neg hl.2], List.prefix_rfl, hn, ?_, h⟩
        exact ⟨⟨_, rfl⟩, h4⟩
      · cases h
    · cases h
  · split at h
    · obtain ⟨v, m, rfl, h1, h2⟩ := sx_f2_cons hs
      split at h
      · rename_i hl
        refine ⟨(v :: v :: m), n, env, _, g, by simp only [pm_op, if_pos ((sx_cat_ok h1).trans hl)], List.prefix_rfl, hn, ?_, h⟩
        exact ⟨h1, h1, h2⟩
      · cases h
    · cases h
  · split at h
    · obtain ⟨v, m, rfl, h1, h2⟩ := sx_f2_cons hs
      split at h
      · rename_i hl
        refine ⟨m, n, env, _, g, by simp only [pm_op, if_pos ((sx_cat_ok h1).trans hl)], List.prefix_rfl, hn, ?_, h⟩
        exact h2
      · cases h
    · cases h
  · split at h
    · obtain ⟨v, m, rfl, h1, h2⟩ := sx_f2_cons hs
      obtain ⟨u, m, rfl, h3, h4⟩ := sx_f2_cons h2
      split at h
      · rename_i hl
        refine ⟨(v :: u :: v :: u :: m), n, env, _, g, by simp only [pm_op, if_pos (And.intro ((sx_cat_ok h1).trans hl.1) ((sx_cat_ok h3).trans hl.2))], List.prefix_rfl, hn, ?_, h⟩
        exact ⟨h1, h3, h1, h3, h4⟩
      · cases h
    · cases h
  · split at h
    · obtain ⟨v, m, rfl, h1, h2⟩ := sx_f2_cons hs
      obtain ⟨u, m, rfl, h3, h4⟩ := sx_f2_cons h2
      obtain ⟨x, rfl⟩ := sx_int_ok h1
      obtain ⟨y, rfl⟩ := sx_int_ok h3
      exact sx_bin_ok h hn h3 h1 h4
    · cases h
/-- which is less -/
def sx_lt (env : sx_N) (a b : Nat × Int) (kt kf : sx_N → Bool) : Bool := match sx_iv env a, sx_iv env b with
  | some x, some y => (if x.1 < y.2 then kt (sx_rf (sx_rf env a x.1 (sx_mn x.2 (y.2 - 1))) b (sx_mx y.1 (x.1 + 1)) y.2) else true) && (if y.1 ≤ x.2 then kf (sx_rf (sx_rf env a (sx_mx x.1 y.1) x.2) b y.1 (sx_mn y.2 x.2)) else true)
  | _, _ => false
theorem sx_mn_le {a b z : Int} (h1 : z ≤ a) (h2 : z ≤ b) : z ≤ sx_mn a b := by
  unfold sx_mn
  split <;> assumption
theorem sx_mx_le {a b z : Int} (h1 : a ≤ z) (h2 : b ≤ z) : sx_mx a b ≤ z := by
  unfold sx_mx
  split <;> assumption
theorem sx_lt_ok {env : sx_N} {a b : Nat × Int} {kt kf : sx_N → Bool} (h : sx_lt env a b kt kf = true) {g : List Int} {n : Nat} (hn : sx_n g n env) {u v : Int32} (hu : sx_r g (.inl a) (.int u)) (hv : sx_r g (.inl b) (.int v)) :
    (u.toInt < v.toInt → ∃ env', sx_n g n env' ∧ kt env' = true) ∧ (¬ u.toInt < v.toInt → ∃ env', sx_n g n env' ∧ kf env' = true) := by
  unfold sx_lt at h
  cases hx : sx_iv env a with
  | none => rw [hx] at h; cases h
  | some x =>
    cases hy : sx_iv env b with
    | none => rw [hx, hy] at h; cases h
    | some y =>
      rw [hx, hy] at h
      simp only [Bool.and_eq_true] at h
      have bx := sx_iv_ok hn hx hu
      have by' := sx_iv_ok hn hy hv
      constructor
      · intro hc
        have h1 := h.1
        rw [if_pos (by omega)] at h1
        exact ⟨_, sx_rf_ok (sx_rf_ok hn hu bx.1 (sx_mn_le bx.2 (by omega))) hv (sx_mx_le by'.1 (by omega)) by'.2, h1⟩
      · intro hc
        have h1 := h.2
        rw [if_pos (by omega)] at h1
        exact ⟨_, sx_rf_ok (sx_rf_ok hn hu (sx_mx_le bx.1 (by omega)) bx.2) hv by'.1 (sx_mn_le by'.2 (by omega)), h1⟩
def sx_eq (env : sx_N) (a b : Nat × Int) (kt kf : sx_N → Bool) : Bool := if a = b then kt env else match sx_iv env a, sx_iv env b with
  | some x, some y => (if x.1 ≤ y.2 ∧ y.1 ≤ x.2 then kt (sx_rf (sx_rf env a (sx_mx x.1 y.1) (sx_mn x.2 y.2)) b (sx_mx x.1 y.1) (sx_mn x.2 y.2)) else true) &&
    (if y.1 = y.2 then (if x.1 ≤ y.1 - 1 then kf (sx_rf env a x.1 (sx_mn x.2 (y.1 - 1))) else true) && (if y.1 + 1 ≤ x.2 then kf (sx_rf env a (sx_mx x.1 (y.1 + 1)) x.2) else true)
     else if x.1 = x.2 then (if y.1 ≤ x.1 - 1 then kf (sx_rf env b y.1 (sx_mn y.2 (x.1 - 1))) else true) && (if x.1 + 1 ≤ y.2 then kf (sx_rf env b (sx_mx y.1 (x.1 + 1)) y.2) else true)
     else kf env)
  | _, _ => false
theorem sx_eq_ok {env : sx_N} {a b : Nat × Int} {kt kf : sx_N → Bool} (h : sx_eq env a b kt kf = true) {g : List Int} {n : Nat} (hn : sx_n g n env) {u v : Int32} (hu : sx_r g (.inl a) (.int u)) (hv : sx_r g (.inl b) (.int v)) :
    (u.toInt = v.toInt → ∃ env', sx_n g n env' ∧ kt env' = true) ∧ (¬ u.toInt = v.toInt → ∃ env', sx_n g n env' ∧ kf env' = true) := by
  unfold sx_eq at h
  split at h
  · rename_i hab
    subst hab
    refine ⟨fun _ => ⟨env, hn, h⟩, fun hc => absurd ?_ hc⟩
    obtain ⟨z1, u1, a1, a2, a3⟩ := hu
    obtain ⟨z2, v1, b1, b2, b3⟩ := hv
    cases a2
    cases b2
    rw [a1] at b1
    cases b1
    omega
  cases hx : sx_iv env a with
  | none => rw [hx] at h; cases h
  | some x =>
    cases hy : sx_iv env b with
    | none => rw [hx, hy] at h; cases h
    | some y =>
      rw [hx, hy] at h
      simp only [Bool.and_eq_true] at h
      have bx := sx_iv_ok hn hx hu
      have by' := sx_iv_ok hn hy hv
      constructor
      · intro hc
        have h1 := h.1
        rw [if_pos (by omega)] at h1
        exact ⟨_, sx_rf_ok (sx_rf_ok hn hu (sx_mx_le bx.1 (by omega)) (sx_mn_le bx.2 (by omega))) hv (sx_mx_le (by omega) by'.1) (sx_mn_le (by omega) by'.2), h1⟩
      · intro hc
        have h1 := h.2
        split at h1
        · simp only [Bool.and_eq_true] at h1
          rcases Int.lt_or_gt_of_ne hc with q | q
          · have h2 := h1.1
            rw [if_pos (by omega)] at h2
            exact ⟨_, sx_rf_ok hn hu bx.1 (sx_mn_le bx.2 (by omega)), h2⟩
          · have h2 := h1.2
            rw [if_pos (by omega)] at h2
            exact ⟨_, sx_rf_ok hn hu (sx_mx_le bx.1 (by omega)) bx.2, h2⟩
        · split at h1
          · simp only [Bool.and_eq_true] at h1
            rcases Int.lt_or_gt_of_ne hc with q | q
            · have h2 := h1.2
              rw [if_pos (by omega)] at h2
              exact ⟨_, sx_rf_ok hn hv (sx_mx_le by'.1 (by omega)) by'.2, h2⟩
            · have h2 := h1.1
              rw [if_pos (by omega)] at h2
              exact ⟨_, sx_rf_ok hn hv by'.1 (sx_mn_le by'.2 (by omega)), h2⟩
          · exact ⟨env, hn, h1⟩
def sx_br (c : ClassFile.Cond) (env : sx_N) (a b : Nat × Int) (kt kf : sx_N → Bool) : Bool := match c with
  | .eq => sx_eq env a b kt kf
  | .ne => sx_eq env a b kf kt
  | .lt => sx_lt env a b kt kf
  | .ge => sx_lt env a b kf kt
  | .gt => sx_lt env b a kt kf
  | .le => sx_lt env b a kf kt
theorem sx_br_ok {c : ClassFile.Cond} {env : sx_N} {a b : Nat × Int} {kt kf : sx_N → Bool} (h : sx_br c env a b kt kf = true) {g : List Int} {n : Nat} (hn : sx_n g n env) {u v : Int32} (hu : sx_r g (.inl a) (.int u)) (hv : sx_r g (.inl b) (.int v)) :
    (pm_cmp c u v = true → ∃ env', sx_n g n env' ∧ kt env' = true) ∧ (pm_cmp c u v = false → ∃ env', sx_n g n env' ∧ kf env' = true) := by
  cases c
  · obtain ⟨h1, h2⟩ := sx_eq_ok h hn hu hv
    exact ⟨fun q => h1 (by simp [pm_cmp] at q; rw [q]), fun q => h2 (fun z => by simp [pm_cmp] at q; exact q (Int32.toInt_inj.mp z))⟩
  · obtain ⟨h1, h2⟩ := sx_eq_ok h hn hu hv
    exact ⟨fun q => h2 (fun z => by simp [pm_cmp] at q; exact q (Int32.toInt_inj.mp z)), fun q => h1 (by simp [pm_cmp] at q; rw [q])⟩
  · obtain ⟨h1, h2⟩ := sx_lt_ok h hn hu hv
    exact ⟨fun q => h1 (by simp [pm_cmp] at q; exact Int32.lt_iff_toInt_lt.mp q), fun q => h2 (by simp [pm_cmp] at q; have := Int32.le_iff_toInt_le.mp q; omega)⟩
  · obtain ⟨h1, h2⟩ := sx_lt_ok h hn hu hv
    exact ⟨fun q => h2 (by simp [pm_cmp] at q; have := Int32.le_iff_toInt_le.mp q; omega), fun q => h1 (by simp [pm_cmp] at q; exact Int32.lt_iff_toInt_lt.mp q)⟩
  · obtain ⟨h1, h2⟩ := sx_lt_ok h hn hv hu
    exact ⟨fun q => h1 (by simp [pm_cmp] at q; exact Int32.lt_iff_toInt_lt.mp q), fun q => h2 (by simp [pm_cmp] at q; have := Int32.le_iff_toInt_le.mp q; omega)⟩
  · obtain ⟨h1, h2⟩ := sx_lt_ok h hn hv hu
    exact ⟨fun q => h2 (by simp [pm_cmp] at q; have := Int32.le_iff_toInt_le.mp q; omega), fun q => h1 (by simp [pm_cmp] at q; exact Int32.lt_iff_toInt_lt.mp q)⟩
/-- a switch: one case behind the other -/
def sx_sw : List (Int × Int) → Int → sx_N → Nat × Int → (Int → sx_N → Bool) → Bool
  | [], d, env, _, k => k d env
  | q :: l, d, env, a, k => if -2147483648 ≤ q.1 ∧ q.1 ≤ 2147483647 then sx_eq env a (0, q.1) (k q.2) (fun env => sx_sw l d env a k) else false
def sx_swo : List (Int × Int) → Int → Int → Int
  | [], d, _ => d
  | q :: l, d, z => if z = q.1 then q.2 else sx_swo l d z
theorem sx_sw_ok {g : List Int} {n : Nat} {a : Nat × Int} {u : Int32} {k : Int → sx_N → Bool} (hu : sx_r g (.inl a) (.int u)) : ∀ {l : List (Int × Int)} {d : Int} {env : sx_N}, sx_sw l d env a k = true → sx_n g n env → ∃ env', sx_n g n env' ∧ k (sx_swo l d u.toInt) env' = true
  | [], d, env, h, hn => ⟨env, hn, h⟩
  | q :: l, d, env, h, hn => by
    unfold sx_sw at h
    split at h
    · rename_i hr
      have hv : sx_r g (.inl (0, q.1)) (.int (Int32.ofInt q.1)) := sx_const hn (Int32.toInt_ofInt_of_le (by omega) (by omega))
      obtain ⟨h1, h2⟩ := sx_eq_ok h hn hu hv
      have e : (Int32.ofInt q.1).toInt = q.1 := Int32.toInt_ofInt_of_le (by omega) (by omega)
      rw [e] at h1 h2
      unfold sx_swo
      by_cases hz : u.toInt = q.1
      · rw [if_pos hz]
        exact h1 hz
      · rw [if_neg hz]
        obtain ⟨env', q1, q2⟩ := h2 hz
        exact sx_sw_ok hu q2 q1
    · cases h
