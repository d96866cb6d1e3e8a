/-! ways and sure: both reckon the same -/
/-- the habits of both sides -/
def wy_KK (As Bs ts : List Int32) : Prop := ∀ j, j < 20 → ts.getD (10 + j) 0 = As.getD j 0 ∧ (0 ≤ (As.getD j 0).toInt → ts.getD (30 + j) 0 = Bs.getD j 0) ∧ ((As.getD j 0).toInt < 0 → Bs.getD j 0 = As.getD j 0)
/-- the stamps of both sides -/
def wy_SS (Hs Ps Ks sts : List Int32) (sz : Nat) : Prop := ∀ k, k < sz → ∃ h q n : Nat, h < 4 ∧ q < 6 ∧ n < 6 ∧ Hs.getD k 0 = Int32.ofNat h ∧ Ps.getD k 0 = Int32.ofNat q ∧ Ks.getD k 0 = Int32.ofNat n ∧ sts.getD k 0 = Int32.ofNat (100 * h + 10 * q + n)
theorem wy_q1 {As Bs ts : List Int32} (hK : wy_KK As Bs ts) {m i : Nat} (hm : m < 4) (hi : i < 5) : wy_2 ts m i = decide (As.getD (4 * i + m) 0 = Bs.getD (4 * i + m) 0) := by
  obtain ⟨k1, k2, k3⟩ := hK (4 * i + m) (by omega)
  unfold wy_2 wy_h
  rw [show 10 + 4 * i + m = 10 + (4 * i + m) by omega, show 30 + 4 * i + m = 30 + (4 * i + m) by omega, k1]
  by_cases h : 0 ≤ (As.getD (4 * i + m) 0).toInt
  · rw [k2 h, decide_eq_true h]
    rfl
  · rw [decide_eq_false h, k3 (by omega), decide_eq_true (rfl : As.getD (4 * i + m) 0 = As.getD (4 * i + m) 0)]
    rfl
theorem wy_q2 {As Bs ts : List Int32} (hK : wy_KK As Bs ts) {m a i q : Nat} (hm : m < 4) (hi : i < 5) (hq : q < 6) : decide (wy_by ts m a i = Int32.ofNat q) = wy_c As Bs m a (Int32.ofNat q) i := by
  obtain ⟨k1, k2, k3⟩ := hK (4 * i + m) (by omega)
  have hq0 : (Int32.ofNat q).toInt = q := wy_t (by omega)
  unfold wy_by wy_c wy_h
  rw [show 10 + 4 * i + m = 10 + (4 * i + m) by omega, show 30 + 4 * i + m = 30 + (4 * i + m) by omega, k1]
  by_cases h : 0 ≤ (As.getD (4 * i + m) 0).toInt
  · rw [k2 h, decide_eq_true h]
    rfl
  · rw [decide_eq_false h, k3 (by omega)]
    have e1 : ¬ ((bif false then (bif a.testBit i then ts.getD (30 + (4 * i + m)) 0 else As.getD (4 * i + m) 0) else -1) = Int32.ofNat q) := fun e => by
      have := congrArg Int32.toInt e
      rw [hq0] at this
      have h9 : (-1 : Int32).toInt = -1 := by decide
      simp only [cond_false] at this
      rw [h9] at this
      omega
    have e2 : ¬ ((bif a.testBit i then As.getD (4 * i + m) 0 else As.getD (4 * i + m) 0) = Int32.ofNat q) := fun e => by
      have := congrArg Int32.toInt e
      rw [hq0] at this
      cases hb : a.testBit i
      · rw [hb] at this
        simp only [cond_false] at this
        omega
      · rw [hb] at this
        simp only [cond_true] at this
        omega
    rw [decide_eq_false e1, decide_eq_false e2]
theorem wy_q3 {As Bs ts : List Int32} (hK : wy_KK As Bs ts) {p m a : Nat} (hm : m < 4) (hp : p ≤ 5) (ha : a < 2 ^ p) : wy_cr ts m a p 0 true = wy_cb As Bs p m a 5 0 := by
  have hb : ∀ i, p ≤ i → a.testBit i = false := fun i hi => Nat.testBit_lt_two_pow (Nat.lt_of_lt_of_le ha (Nat.pow_le_pow_right (by omega) hi))
  have hc : ∀ i, i < p → wy_1 As Bs p m i = wy_2 ts m i := fun i hi => by
    rw [wy_q1 hK hm (by omega)]
    unfold wy_1
    rw [decide_eq_false (by omega)]
    rfl
  have h6 : p = 0 ∨ p = 1 ∨ p = 2 ∨ p = 3 ∨ p = 4 ∨ p = 5 := by omega
  rcases h6 with rfl | rfl | rfl | rfl | rfl | rfl
  · simp only [wy_cr, wy_cb, hb 0 (by omega), hb 1 (by omega), hb 2 (by omega), hb 3 (by omega), hb 4 (by omega), Bool.and_false, Bool.not_false, Bool.and_true]
  · simp only [wy_cr, wy_cb, hc 0 (by omega), hb 1 (by omega), hb 2 (by omega), hb 3 (by omega), hb 4 (by omega), Bool.and_false, Bool.not_false, Bool.and_true]
    cases a.testBit 0 <;> cases wy_2 ts m 0 <;> rfl
  · simp only [wy_cr, wy_cb, hc 0 (by omega), hc 1 (by omega), hb 2 (by omega), hb 3 (by omega), hb 4 (by omega), Bool.and_false, Bool.not_false, Bool.and_true]
    cases a.testBit 0 <;> cases wy_2 ts m 0 <;> cases a.testBit 1 <;> cases wy_2 ts m 1 <;> rfl
  · simp only [wy_cr, wy_cb, hc 0 (by omega), hc 1 (by omega), hc 2 (by omega), hb 3 (by omega), hb 4 (by omega), Bool.and_false, Bool.not_false, Bool.and_true]
    cases a.testBit 0 <;> cases wy_2 ts m 0 <;> cases a.testBit 1 <;> cases wy_2 ts m 1 <;> cases a.testBit 2 <;> cases wy_2 ts m 2 <;> rfl
  · simp only [wy_cr, wy_cb, hc 0 (by omega), hc 1 (by omega), hc 2 (by omega), hc 3 (by omega), hb 4 (by omega), Bool.and_false, Bool.not_false, Bool.and_true]
    cases a.testBit 0 <;> cases wy_2 ts m 0 <;> cases a.testBit 1 <;> cases wy_2 ts m 1 <;> cases a.testBit 2 <;> cases wy_2 ts m 2 <;> cases a.testBit 3 <;> cases wy_2 ts m 3 <;> rfl
  · simp only [wy_cr, wy_cb, hc 0 (by omega), hc 1 (by omega), hc 2 (by omega), hc 3 (by omega), hc 4 (by omega)]
    cases a.testBit 0 <;> cases wy_2 ts m 0 <;> cases a.testBit 1 <;> cases wy_2 ts m 1 <;> cases a.testBit 2 <;> cases wy_2 ts m 2 <;> cases a.testBit 3 <;> cases wy_2 ts m 3 <;> cases a.testBit 4 <;> cases wy_2 ts m 4 <;> rfl
theorem wy_q4a : ∀ p, p < 6 → ∀ a, a < 32 → a < 2 ^ p ∨ (p ≤ 0 ∧ a.testBit 0 = true) ∨ (p ≤ 1 ∧ a.testBit 1 = true) ∨ (p ≤ 2 ∧ a.testBit 2 = true) ∨ (p ≤ 3 ∧ a.testBit 3 = true) ∨ (p ≤ 4 ∧ a.testBit 4 = true) := by decide +kernel
theorem wy_q4 {As Bs : List Int32} {p m a : Nat} (hp : p ≤ 5) (ha : a < 32) (h : 2 ^ p ≤ a) : wy_cb As Bs p m a 5 0 = false := by
  have h1 : ∀ i, p ≤ i → wy_1 As Bs p m i = true := fun i hi => by
    unfold wy_1
    rw [decide_eq_true hi]
    rfl
  simp only [wy_cb]
  have h9 := wy_q4a p (by omega) a ha
  rcases h9 with h9 | h9
  · omega
  rcases h9 with ⟨q, b⟩ | ⟨q, b⟩ | ⟨q, b⟩ | ⟨q, b⟩ | ⟨q, b⟩ <;> rw [h1 _ q, b] <;> simp only [Bool.and_self, Bool.not_true, Bool.false_and, Bool.and_false]
theorem wy_dg : ∀ h, h < 4 → ∀ q, q < 6 → ∀ n, n < 6 → Int32.ofNat (100 * h + 10 * q + n) / 100 = Int32.ofNat h ∧ wy_x (Int32.ofNat (100 * h + 10 * q + n)) = Int32.ofNat q ∧ wy_y (Int32.ofNat (100 * h + 10 * q + n)) = Int32.ofNat n := by decide +kernel
theorem wy_nc {c d : Nat → Bool} : ∀ f i, (∀ k, i ≤ k → k < i + f → c k = d k) → wy_n c f i = wy_n d f i
  | 0, _, _ => rfl
  | f + 1, i, h => by
    unfold wy_n
    rw [h i (Nat.le_refl _) (by omega), wy_nc f (i + 1) (fun k h1 h2 => h k (by omega) (by omega))]
theorem wy_q5a {As Bs ts Hs Ps Ks sts : List Int32} {sz : Nat} (hK : wy_KK As Bs ts) (hS : wy_SS Hs Ps Ks sts sz) {p m a k : Nat} (hm : m < 4) (hp : p ≤ 5) (hk : k < sz) : wy_sk ts sts p m a k = !(decide (Hs.getD k 0 = Int32.ofNat m) && !decide (Int32.ofNat (wy_n (wy_c As Bs m a (Ps.getD k 0)) p 0) = Ks.getD k 0)) := by
  obtain ⟨h, q, n, h1, h2, h3, e1, e2, e3, e4⟩ := hS k hk
  obtain ⟨d1, d2, d3⟩ := wy_dg h h1 q h2 n h3
  unfold wy_sk
  rw [e1, e2, e3, e4, d1, d3]
  have e : wy_n (wy_d ts m a (Int32.ofNat (100 * h + 10 * q + n))) p 0 = wy_n (wy_c As Bs m a (Int32.ofNat q)) p 0 := wy_nc p 0 (fun i _ hi => by
    unfold wy_d
    rw [d2]
    exact wy_q2 hK hm (by omega) h2)
  rw [e]
  cases decide (Int32.ofNat h = Int32.ofNat m) <;> cases decide (Int32.ofNat (wy_n (wy_c As Bs m a (Int32.ofNat q)) p 0) = Int32.ofNat n) <;> rfl
theorem wy_q5 {As Bs ts Hs Ps Ks sts : List Int32} {sz : Nat} (hK : wy_KK As Bs ts) (hS : wy_SS Hs Ps Ks sts sz) {p m a : Nat} (hm : m < 4) (hp : p ≤ 5) : ∀ f k y, k + f = sz → wy_sr ts sts p m a f k y = (y && wy_st As Bs Hs Ps Ks p m a f k)
  | 0, k, y, _ => by
    unfold wy_sr wy_st
    rw [Bool.and_true]
  | f + 1, k, y, h => by
    rw [wy_sr, wy_st, wy_q5 hK hS hm hp f (k + 1) _ (by omega), wy_q5a hK hS hm hp (by omega)]
    cases y <;> rfl
theorem wy_q6 {As Bs ts Hs Ps Ks sts : List Int32} {sz : Nat} (hK : wy_KK As Bs ts) (hS : wy_SS Hs Ps Ks sts sz) {p m a : Nat} (hm : m < 4) (hp : p ≤ 5) (ha : a < 2 ^ p) : wy_cn ts sts p sz m a = wy_al As Bs Hs Ps Ks p sz m a := by
  unfold wy_cn wy_al
  rw [wy_q5 hK hS hm hp sz 0 _ (by omega), wy_q3 hK hm hp ha]
theorem wy_q6n {As Bs Hs Ps Ks : List Int32} {sz p m a : Nat} (hp : p ≤ 5) (ha : a < 32) (h : 2 ^ p ≤ a) : wy_al As Bs Hs Ps Ks p sz m a = false := by
  unfold wy_al
  rw [wy_q4 hp ha h]
  rfl
theorem wy_wa (al : Nat → Bool) : ∀ f g a n, wy_w al (f + g) a n = wy_w al g (a + f) (wy_w al f a n)
  | 0, g, a, n => by rw [Nat.zero_add]; rfl
  | f + 1, g, a, n => by
    rw [show f + 1 + g = (f + g) + 1 by omega, wy_w, wy_w, wy_wa al f g (a + 1), show a + 1 + f = a + (f + 1) by omega]
theorem wy_wz {al : Nat → Bool} : ∀ f a n, (∀ k, a ≤ k → k < a + f → al k = false) → wy_w al f a n = n
  | 0, _, _, _ => rfl
  | f + 1, a, n, h => by
    rw [wy_w, h a (Nat.le_refl _) (by omega)]
    exact wy_wz f (a + 1) n (fun k h1 h2 => h k (by omega) (by omega))
theorem wy_wc {al cn : Nat → Bool} : ∀ f a n, (∀ k, a ≤ k → k < a + f → al k = cn k) → wy_w al f a n = wy_w cn f a n
  | 0, _, _, _ => rfl
  | f + 1, a, n, h => by
    rw [wy_w, wy_w, h a (Nat.le_refl _) (by omega)]
    exact wy_wc f (a + 1) _ (fun k h1 h2 => h k (by omega) (by omega))
theorem wy_p2 {p : Nat} (hp : p ≤ 5) : 2 ^ p ≤ 32 ∧ 1 ≤ 2 ^ p := ⟨(wy_shl p (by omega)).2, Nat.one_le_two_pow⟩
theorem wy_q7 {As Bs ts Hs Ps Ks sts : List Int32} {sz : Nat} (hK : wy_KK As Bs ts) (hS : wy_SS Hs Ps Ks sts sz) {p m : Nat} (hm : m < 4) (hp : p ≤ 5) : wy_w (wy_al As Bs Hs Ps Ks p sz m) 32 0 0 = wy_w (wy_cn ts sts p sz m) (2 ^ p) 0 0 := by
  have h2 := wy_p2 hp
  rw [show 32 = 2 ^ p + (32 - 2 ^ p) by omega, wy_wa, wy_wz _ _ _ (fun k h1 h3 => wy_q6n hp (by omega) (by omega))]
  exact wy_wc _ _ _ (fun k _ h3 => (wy_q6 hK hS hm hp (by omega)).symm)
theorem wy_sa (al : Nat → Bool) (pa : Nat → Nat) : ∀ f g a y t, wy_su al pa (f + g) a y t = wy_su al pa g (a + f) (wy_su al pa f a y t).1 (wy_su al pa f a y t).2
  | 0, g, a, y, t => by rw [Nat.zero_add]; rfl
  | f + 1, g, a, y, t => by
    rw [show f + 1 + g = (f + g) + 1 by omega, wy_su, wy_su]
    cases al a
    · simp only [cond_false]
      rw [wy_sa al pa f g (a + 1), show a + 1 + f = a + (f + 1) by omega]
    · simp only [cond_true]
      rw [wy_sa al pa f g (a + 1), show a + 1 + f = a + (f + 1) by omega]
theorem wy_sz {al : Nat → Bool} {pa : Nat → Nat} : ∀ f a y t, (∀ k, a ≤ k → k < a + f → al k = false) → wy_su al pa f a y t = (y, t)
  | 0, _, _, _, _ => rfl
  | f + 1, a, y, t, h => by
    rw [wy_su, h a (Nat.le_refl _) (by omega)]
    exact wy_sz f (a + 1) y t (fun k h1 h2 => h k (by omega) (by omega))
theorem wy_ib (c : Nat → Bool) {p : Nat} (hp : p ≤ 5) : ∀ s, s < 2 ^ p → wy_in c p 0 s = s &&& wy_pb c p 0 0 := by
  have h6 : p = 0 ∨ p = 1 ∨ p = 2 ∨ p = 3 ∨ p = 4 ∨ p = 5 := by omega
  rcases h6 with rfl | rfl | rfl | rfl | rfl | rfl <;> simp only [wy_pb, wy_in] <;> cases c 0 <;> cases c 1 <;> cases c 2 <;> cases c 3 <;> cases c 4 <;> decide +kernel
theorem wy_pb2 (c : Nat → Bool) {p : Nat} (hp : p ≤ 5) : wy_pb c p 0 0 < 2 ^ p ∧ 31 &&& wy_pb c p 0 0 = wy_pb c p 0 0 ∧ (2 ^ p - 1) &&& wy_pb c p 0 0 = wy_pb c p 0 0 := by
  have h6 : p = 0 ∨ p = 1 ∨ p = 2 ∨ p = 3 ∨ p = 4 ∨ p = 5 := by omega
  rcases h6 with rfl | rfl | rfl | rfl | rfl | rfl <;> simp only [wy_pb] <;> cases c 0 <;> cases c 1 <;> cases c 2 <;> cases c 3 <;> cases c 4 <;> decide +kernel
theorem wy_pbc {c d : Nat → Bool} : ∀ f i b, (∀ k, i ≤ k → k < i + f → c k = d k) → wy_pb c f i b = wy_pb d f i b
  | 0, _, _, _ => rfl
  | f + 1, i, b, h => by
    rw [wy_pb, wy_pb, h i (Nat.le_refl _) (by omega)]
    exact wy_pbc f (i + 1) _ (fun k h1 h2 => h k (by omega) (by omega))
theorem wy_q8a {al cn : Nat → Bool} {c d : Nat → Nat → Bool} {p : Nat} (hp : p ≤ 5) (hcd : ∀ a i, i < p → c a i = d a i) : ∀ f a y t s, (∀ k, a ≤ k → k < a + f → al k = cn k) → (y = true → s = t ∧ s < 2 ^ p) → (y = false → t = 31 ∧ s = 2 ^ p - 1) → (wy_su al (fun a => wy_pb (c a) p 0 0) f a y t).1 = (wy_sv cn (fun a s => wy_in (d a) p 0 s) f a y s).1 ∧ ((wy_su al (fun a => wy_pb (c a) p 0 0) f a y t).1 = true → (wy_su al (fun a => wy_pb (c a) p 0 0) f a y t).2 = (wy_sv cn (fun a s => wy_in (d a) p 0 s) f a y s).2)
  | 0, a, y, t, s, _, h1, _ => ⟨rfl, fun h => (h1 h).1.symm⟩
  | f + 1, a, y, t, s, h, h1, h2 => by
    have hpw := wy_p2 hp
    rw [wy_su, wy_sv, h a (Nat.le_refl _) (by omega)]
    cases cn a
    · simp only [cond_false]
      exact wy_q8a hp hcd f (a + 1) y t s (fun k k1 k2 => h k (by omega) (by omega)) h1 h2
    · simp only [cond_true]
      obtain ⟨b1, b2, b3⟩ := wy_pb2 (c a) hp
      have e : wy_pb (d a) p 0 0 = wy_pb (c a) p 0 0 := wy_pbc p 0 0 (fun k _ hk => (hcd a k (by omega)).symm)
      refine wy_q8a hp hcd f (a + 1) true _ _ (fun k k1 k2 => h k (by omega) (by omega)) (fun _ => ?_) (fun q => by cases q)
      cases y
      · obtain ⟨e1, e2⟩ := h2 rfl
        rw [wy_ib (d a) hp s (by omega), e, e1, e2, b2, b3]
        exact ⟨rfl, b1⟩
      · obtain ⟨e1, e2⟩ := h1 rfl
        rw [wy_ib (d a) hp s e2, e, e1]
        exact ⟨rfl, Nat.lt_of_le_of_lt Nat.and_le_right b1⟩
theorem wy_q8 {As Bs ts Hs Ps Ks sts : List Int32} {sz : Nat} (hK : wy_KK As Bs ts) (hS : wy_SS Hs Ps Ks sts sz) {p m pl : Nat} (hm : m < 4) (hp : p ≤ 5) (hpl : pl < 6) :
    (bif (wy_su (wy_al As Bs Hs Ps Ks p sz m) (fun a => wy_pb (wy_c As Bs m a (Int32.ofNat pl)) p 0 0) 32 0 false 31).1 then Int32.ofNat (wy_su (wy_al As Bs Hs Ps Ks p sz m) (fun a => wy_pb (wy_c As Bs m a (Int32.ofNat pl)) p 0 0) 32 0 false 31).2 else 0) =
    (bif (wy_sv (wy_cn ts sts p sz m) (fun a t => wy_in (fun i => decide (wy_by ts m a i = Int32.ofNat pl)) p 0 t) (2 ^ p) 0 false (2 ^ p - 1)).1 then Int32.ofNat (wy_sv (wy_cn ts sts p sz m) (fun a t => wy_in (fun i => decide (wy_by ts m a i = Int32.ofNat pl)) p 0 t) (2 ^ p) 0 false (2 ^ p - 1)).2 else 0) := by
  have h2 := wy_p2 hp
  have e : wy_su (wy_al As Bs Hs Ps Ks p sz m) (fun a => wy_pb (wy_c As Bs m a (Int32.ofNat pl)) p 0 0) 32 0 false 31 = wy_su (wy_al As Bs Hs Ps Ks p sz m) (fun a => wy_pb (wy_c As Bs m a (Int32.ofNat pl)) p 0 0) (2 ^ p) 0 false 31 := by
    rw [show 32 = 2 ^ p + (32 - 2 ^ p) by omega, wy_sa, wy_sz _ _ _ _ (fun k h1 h3 => wy_q6n hp (by omega) (by omega))]
  rw [e]
  obtain ⟨q1, q2⟩ := wy_q8a (al := wy_al As Bs Hs Ps Ks p sz m) (cn := wy_cn ts sts p sz m) (c := fun a => wy_c As Bs m a (Int32.ofNat pl)) (d := fun a i => decide (wy_by ts m a i = Int32.ofNat pl)) hp (fun a i hi => (wy_q2 hK hm (by omega) hpl).symm) (2 ^ p) 0 false 31 (2 ^ p - 1) (fun k _ h3 => (wy_q6 hK hS hm hp (by omega)).symm) (fun q => by cases q) (fun _ => ⟨rfl, rfl⟩)
  rw [← q1]
  cases hy : (wy_su (wy_al As Bs Hs Ps Ks p sz m) (fun a => wy_pb (wy_c As Bs m a (Int32.ofNat pl)) p 0 0) (2 ^ p) 0 false 31).1
  · rfl
  · rw [q2 hy]
