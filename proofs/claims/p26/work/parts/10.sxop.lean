/-! bounds of what is reckoned -/
def sx_cl (lo hi : Int) : Int × Int := if -2147483648 ≤ lo ∧ hi ≤ 2147483647 then (lo, hi) else (-2147483648, 2147483647)
def sx_top : Int × Int := (-2147483648, 2147483647)
theorem sx_rng (x : Int32) : -2147483648 ≤ x.toInt ∧ x.toInt ≤ 2147483647 := by
  have h1 := Int32.le_toInt x
  have h2 := Int32.toInt_lt x
  omega
theorem sx_bm {z : Int} (h1 : -2147483648 ≤ z) (h2 : z ≤ 2147483647) : z.bmod (2 ^ 32) = z := by
  apply Int.bmod_eq_of_le <;> omega
theorem sx_add {x y : Int32} (h1 : -2147483648 ≤ x.toInt + y.toInt) (h2 : x.toInt + y.toInt ≤ 2147483647) : (x + y).toInt = x.toInt + y.toInt := by
  rw [Int32.toInt_add]
  exact sx_bm h1 h2
theorem sx_sub {x y : Int32} (h1 : -2147483648 ≤ x.toInt - y.toInt) (h2 : x.toInt - y.toInt ≤ 2147483647) : (x - y).toInt = x.toInt - y.toInt := by
  rw [Int32.toInt_sub]
  exact sx_bm h1 h2
theorem sx_mul {x y : Int32} (h1 : -2147483648 ≤ x.toInt * y.toInt) (h2 : x.toInt * y.toInt ≤ 2147483647) : (x * y).toInt = x.toInt * y.toInt := by
  rw [Int32.toInt_mul]
  exact sx_bm h1 h2
theorem sx_cl_ok {lo hi z : Int} {r : Int32} (h1 : lo ≤ z) (h2 : z ≤ hi) (hz : -2147483648 ≤ z → z ≤ 2147483647 → r.toInt = z) : (sx_cl lo hi).1 ≤ r.toInt ∧ r.toInt ≤ (sx_cl lo hi).2 := by
  unfold sx_cl
  split
  · rw [hz (by omega) (by omega)]
    exact ⟨h1, h2⟩
  · exact sx_rng r
def sx_mn (a b : Int) : Int := if a ≤ b then a else b
def sx_mx (a b : Int) : Int := if a ≤ b then b else a
theorem sx_mulb {a b c d x y : Int} (h1 : a ≤ x) (h2 : x ≤ b) (h3 : c ≤ y) (h4 : y ≤ d) : sx_mn (sx_mn (a * c) (a * d)) (sx_mn (b * c) (b * d)) ≤ x * y ∧ x * y ≤ sx_mx (sx_mx (a * c) (a * d)) (sx_mx (b * c) (b * d)) := by
  have e1 : x * c ≤ x * y ∨ x * d ≤ x * y := by
    rcases Int.le_total 0 x with q | q
    · exact Or.inl (Int.mul_le_mul_of_nonneg_left h3 q)
    · exact Or.inr (Int.mul_le_mul_of_nonpos_left q h4)
  have e2 : x * y ≤ x * c ∨ x * y ≤ x * d := by
    rcases Int.le_total 0 x with q | q
    · exact Or.inr (Int.mul_le_mul_of_nonneg_left h4 q)
    · exact Or.inl (Int.mul_le_mul_of_nonpos_left q h3)
  have f : ∀ t : Int, (a * t ≤ x * t ∨ b * t ≤ x * t) ∧ (x * t ≤ a * t ∨ x * t ≤ b * t) := by
    intro t
    rcases Int.le_total 0 t with q | q
    · exact ⟨Or.inl (Int.mul_le_mul_of_nonneg_right h1 q), Or.inr (Int.mul_le_mul_of_nonneg_right h2 q)⟩
    · exact ⟨Or.inr (Int.mul_le_mul_of_nonpos_right h2 q), Or.inl (Int.mul_le_mul_of_nonpos_right h1 q)⟩
  obtain ⟨f1, f2⟩ := f c
  obtain ⟨f3, f4⟩ := f d
  unfold sx_mn sx_mx
  generalize a * c = p1 at *
  generalize a * d = p2 at *
  generalize b * c = p3 at *
  generalize b * d = p4 at *
  generalize x * c = p5 at *
  generalize x * d = p6 at *
  generalize x * y = p7 at *
  constructor
  · split <;> split <;> split <;> omega
  · split <;> split <;> split <;> omega
theorem sx_tdm {a b d : Int} (hd : 0 < d) (h : a ≤ b) : a.tdiv d ≤ b.tdiv d := Int.tdiv_le_tdiv hd h
theorem sx_div {x y : Int32} (hy : 0 < y.toInt) : (x / y).toInt = x.toInt.tdiv y.toInt := by
  rw [Int32.toInt_div]
  have h := sx_rng x
  have h1 : (-2147483648 : Int).tdiv y.toInt ≤ x.toInt.tdiv y.toInt := sx_tdm hy h.1
  have h2 : x.toInt.tdiv y.toInt ≤ (2147483647 : Int).tdiv y.toInt := sx_tdm hy h.2
  have h3 : -2147483648 ≤ (-2147483648 : Int).tdiv y.toInt := by
    rw [Int.neg_tdiv]
    have := Int.tdiv_le_self y.toInt (a := 2147483648) (by decide)
    omega
  have h4 : (2147483647 : Int).tdiv y.toInt ≤ 2147483647 := Int.tdiv_le_self _ (by decide)
  exact sx_bm (by omega) (by omega)
theorem sx_rem {x y : Int32} (hy : 0 < y.toInt) : (x - x / y * y).toInt = x.toInt.tmod y.toInt := by
  have hx := sx_rng x
  have hm := tmod_bounds (a := x.toInt) hy
  have hy2 := sx_rng y
  have e := Int.tmod_add_tdiv_mul x.toInt y.toInt
  have e0 := sx_div (x := x) hy
  rw [Int32.toInt_sub, Int32.toInt_mul, e0]
  rw [Int.sub_bmod_bmod]
  have e2 : x.toInt - x.toInt.tdiv y.toInt * y.toInt = x.toInt.tmod y.toInt := by omega
  rw [e2]
  exact sx_bm (by omega) (by omega)
theorem sx_and {x y : Int32} (hy : 0 ≤ y.toInt) : 0 ≤ (x &&& y).toInt ∧ (x &&& y).toInt ≤ y.toInt := by
  have e1 : y.toInt = (y.toBitVec.toNat : Int) := by
    have h1 : y.toBitVec.toInt = y.toInt := rfl
    rw [BitVec.toInt_eq_toNat_cond] at h1
    split at h1
    · exact h1.symm
    · have := y.toBitVec.isLt
      omega
  have e3 : (x &&& y).toBitVec = x.toBitVec &&& y.toBitVec := Int32.toBitVec_and x y
  have e4 : (x.toBitVec &&& y.toBitVec).toNat ≤ y.toBitVec.toNat := by
    rw [BitVec.toNat_and]
    exact Nat.and_le_right
  have h2 : (x &&& y).toBitVec.toInt = (x &&& y).toInt := rfl
  have hy2 := sx_rng y
  rw [e3, BitVec.toInt_eq_toNat_cond] at h2
  split at h2
  · omega
  · omega
theorem sx_and' {x y : Int32} (hx : 0 ≤ x.toInt) : 0 ≤ (x &&& y).toInt ∧ (x &&& y).toInt ≤ x.toInt := by
  rw [Int32.and_comm]
  exact sx_and hx
theorem sx_shl1 : ∀ n, n < 31 → ((1 : Int32) <<< (Int32.ofNat n &&& 31)).toInt = 2 ^ n := by decide
theorem sx_of {x : Int32} {c : Int} (h : x.toInt = c) : x = Int32.ofInt c := by
  rw [← h]
  exact (Int32.ofInt_toInt x).symm
theorem sx_ofN {x : Int32} (h : 0 ≤ x.toInt) : x = Int32.ofNat x.toInt.toNat := by
  have h1 := sx_rng x
  apply Int32.toInt_inj.mp
  rw [Int32.toInt_ofNat_of_lt (by omega)]
  omega
theorem sx_ne0 {y : Int32} (h : y.toInt ≠ 0) : ¬ y = 0 := fun e => h (by rw [e]; rfl)
theorem sx_pow {a b : Nat} (h : a ≤ b) : (2 : Int) ^ a ≤ 2 ^ b := by
  have := Nat.pow_le_pow_right (n := 2) (by decide) h
  exact_mod_cast this
/-- the bounds of an answer -/
def sx_bi (i : Instr) (a b : Int × Int) : Option (Int × Int) :=
  if a.1 = a.2 ∧ b.1 = b.2 then match pm_op i [.int (Int32.ofInt b.1), .int (Int32.ofInt a.1)] with
    | some [.int r] => some (r.toInt, r.toInt)
    | _ => none
  else match i with
  | .iadd => some (sx_cl (a.1 + b.1) (a.2 + b.2))
  | .isub => some (sx_cl (a.1 - b.2) (a.2 - b.1))
  | .imul => some (sx_cl (sx_mn (sx_mn (a.1 * b.1) (a.1 * b.2)) (sx_mn (a.2 * b.1) (a.2 * b.2))) (sx_mx (sx_mx (a.1 * b.1) (a.1 * b.2)) (sx_mx (a.2 * b.1) (a.2 * b.2))))
  | .idiv => if b.1 = b.2 ∧ 0 < b.1 then some (a.1.tdiv b.1, a.2.tdiv b.1) else if 0 < b.1 ∨ b.2 < 0 then some sx_top else none
  | .irem => if b.1 = b.2 ∧ 0 < b.1 then some (if 0 ≤ a.1 then (0, b.1 - 1) else (1 - b.1, b.1 - 1)) else if 0 < b.1 ∨ b.2 < 0 then some sx_top else none
  | .iand => some (if 0 ≤ b.1 then (0, b.2) else if 0 ≤ a.1 then (0, a.2) else sx_top)
  | .ior => some sx_top
  | .ixor => some sx_top
  | .ishl => some (if a.1 = 1 ∧ a.2 = 1 ∧ 0 ≤ b.1 ∧ b.2 ≤ 30 then (2 ^ b.1.toNat, 2 ^ b.2.toNat) else sx_top)
  | .ishr => some sx_top
  | .iushr => some sx_top
  | _ => none
theorem sx_bi_ok {i : Instr} {a b c : Int × Int} (h : sx_bi i a b = some c) {x y : Int32} (h1 : a.1 ≤ x.toInt) (h2 : x.toInt ≤ a.2) (h3 : b.1 ≤ y.toInt) (h4 : y.toInt ≤ b.2) (st : List Value) : ∃ r : Int32, pm_op i (.int y :: .int x :: st) = some (.int r :: st) ∧ c.1 ≤ r.toInt ∧ r.toInt ≤ c.2 := by
  unfold sx_bi at h
  split at h
  · rename_i hs
    have ex : x = Int32.ofInt a.1 := sx_of (by omega)
    have ey : y = Int32.ofInt b.1 := sx_of (by omega)
    rw [← ex, ← ey] at h
    split at h
    · rename_i r hr
      cases h
      refine ⟨r, ?_, Int.le_refl _, Int.le_refl _⟩
      unfold pm_op at hr ⊢
      cases i <;> simp at hr ⊢ <;> first | exact hr | (split at hr <;> simp_all)
    · cases h
  · split at h
    · cases h
      exact ⟨x + y, rfl, sx_cl_ok (z := x.toInt + y.toInt) (by omega) (by omega) sx_add⟩
    · cases h
      exact ⟨x - y, rfl, sx_cl_ok (z := x.toInt - y.toInt) (by omega) (by omega) sx_sub⟩
    · cases h
      have hm := sx_mulb h1 h2 h3 h4
      exact ⟨x * y, rfl, sx_cl_ok (z := x.toInt * y.toInt) hm.1 hm.2 sx_mul⟩
    · split at h
      · rename_i hb
        cases h
        have hy : 0 < y.toInt := by omega
        have e : y.toInt = b.1 := by omega
        refine ⟨x / y, by simp [pm_op, sx_ne0 (y := y) (by omega)], ?_⟩
        rw [sx_div hy, e]
        exact ⟨sx_tdm hb.2 h1, sx_tdm hb.2 h2⟩
      · split at h
        · cases h
          exact ⟨x / y, by simp [pm_op, sx_ne0 (y := y) (by omega)], sx_rng _⟩
        · cases h
    · split at h
      · rename_i hb
        cases h
        have hy : 0 < y.toInt := by omega
        have e : y.toInt = b.1 := by omega
        refine ⟨x - x / y * y, by simp [pm_op, sx_ne0 (y := y) (by omega)], ?_⟩
        rw [sx_rem hy]
        have hm := tmod_bounds (a := x.toInt) hy
        split
        · have := Int.tmod_nonneg y.toInt (a := x.toInt) (by omega)
          simp only
          omega
        · simp only
          omega
      · split at h
        · cases h
          exact ⟨x - x / y * y, by simp [pm_op, sx_ne0 (y := y) (by omega)], sx_rng _⟩
        · cases h
    · cases h
      refine ⟨x &&& y, rfl, ?_⟩
      split
      · have := sx_and (x := x) (y := y) (by omega)
        simp only
        omega
      · split
        · have := sx_and' (x := x) (y := y) (by omega)
          simp only
          omega
        · exact sx_rng _
    · cases h
      exact ⟨x ||| y, rfl, sx_rng _⟩
    · cases h
      exact ⟨x ^^^ y, rfl, sx_rng _⟩
    · cases h
      refine ⟨x <<< (y &&& 31), rfl, ?_⟩
      split
      · rename_i hc
        have ex : x = 1 := by
          have := sx_of (x := x) (c := 1) (by omega)
          rw [this]
          rfl
        have ey := sx_ofN (x := y) (by omega)
        have e := sx_shl1 y.toInt.toNat (by omega)
        rw [← ey] at e
        rw [ex, e]
        exact ⟨sx_pow (by omega), sx_pow (by omega)⟩
      · exact sx_rng _
    · cases h
      exact ⟨x >>> (y &&& 31), rfl, sx_rng _⟩
    · cases h
      exact ⟨_, rfl, sx_rng _⟩
    · cases h
