/-! ways and sure: rules -/
section PWR
variable {sc : pm_Z} {M : pm_M} {mk : pm_K} {pc : Nat} {lv : pm_L} {st : List Value} {w : pm_W} {ca sl : Nat} {P : Option Value → pm_W → Prop}
/-- a yes or no -/
def wy_i (c : Bool) : Int32 := bif c then 1 else 0
/-- an int is answered, the world is as it was -/
def wy_R (w : pm_W) (X : Int32) : Option Value → pm_W → Prop := fun r w' => r = some (.int X) ∧ w' = w
theorem wy_t {n : Nat} (h : n < 1000) : (Int32.ofNat n).toInt = n := Int32.toInt_ofNat_of_lt (by omega)
theorem wy_s (n : Nat) : Int32.ofNat n + Int32.ofInt 1 = Int32.ofNat (n + 1) := by rw [Int32.ofNat_add]; rfl
theorem wy_eq {x y : Int32} (e : x = y) (h : pm_Good sc M pc lv (.int y :: st) w ca sl P) : pm_Good sc M pc lv (.int x :: st) w ca sl P := by rw [e]; exact h
theorem wy_ld {q k : Nat} {xs : List Int32} (hd : decode M.2.1 pc = .ok (.iaload, 1)) (hw : w[q]? = some (.inl (0, xs))) (hk : k < xs.length) (hb : k < 1000) (h : pm_Good sc M (pc + 1) lv (.int (xs.getD k 0) :: st) w ca sl P) : pm_Good sc M pc lv (.int (Int32.ofNat k) :: .ref q :: st) w ca sl P := by
  refine pm_iald hd hw (pl_in (by rw [wy_t hb]; omega) (by rw [wy_t hb]; omega)) ?_
  rw [Int32.toNatClampNeg_ofNat_of_lt (by omega)]
  exact h
theorem wy_ge {off : Int} {n k : Nat} (hd : decode M.2.1 pc = .ok (.if_icmp .ge off, 3)) (ho : 0 ≤ (pc : Int) + off) (hn : n < 1000) (hk : k < 1000) (ht : k ≤ n → pm_Good sc M (pm_to pc off) lv st w ca sl P) (hf : n < k → pm_Good sc M (pc + 3) lv st w ca sl P) : pm_Good sc M pc lv (.int (Int32.ofNat k) :: .int (Int32.ofNat n) :: st) w ca sl P := by
  refine pm_br2 hd ho (fun b => ht ?_) (fun b => hf ?_)
  · have q := pl_ct b
    simp only [pl_cp, wy_t hn, wy_t hk] at q
    omega
  · have q := pl_cf b
    simp only [pl_cp, wy_t hn, wy_t hk] at q
    omega
theorem wy_ne {off : Int} {x y : Int32} (hd : decode M.2.1 pc = .ok (.if_icmp .ne off, 3)) (ho : 0 ≤ (pc : Int) + off) (ht : x ≠ y → pm_Good sc M (pm_to pc off) lv st w ca sl P) (hf : x = y → pm_Good sc M (pc + 3) lv st w ca sl P) : pm_Good sc M pc lv (.int y :: .int x :: st) w ca sl P := by
  refine pm_br2 hd ho (fun b => ht ?_) (fun b => hf ?_)
  · simpa [pm_cmp] using b
  · simpa [pm_cmp] using b
theorem wy_qe {off : Int} {x y : Int32} (hd : decode M.2.1 pc = .ok (.if_icmp .eq off, 3)) (ho : 0 ≤ (pc : Int) + off) (ht : x = y → pm_Good sc M (pm_to pc off) lv st w ca sl P) (hf : x ≠ y → pm_Good sc M (pc + 3) lv st w ca sl P) : pm_Good sc M pc lv (.int y :: .int x :: st) w ca sl P := by
  refine pm_br2 hd ho (fun b => ht ?_) (fun b => hf ?_)
  · simpa [pm_cmp] using b
  · simpa [pm_cmp] using b
theorem wy_zE {off : Int} {c : Bool} (hd : decode M.2.1 pc = .ok (.ifCond .eq off, 3)) (ho : 0 ≤ (pc : Int) + off) (ht : c = false → pm_Good sc M (pm_to pc off) lv st w ca sl P) (hf : c = true → pm_Good sc M (pc + 3) lv st w ca sl P) : pm_Good sc M pc lv (.int (wy_i c) :: st) w ca sl P := by
  refine pm_br hd ho (fun b => ht ?_) (fun b => hf ?_)
  · cases c
    · rfl
    · exact absurd b (by decide)
  · cases c
    · exact absurd b (by decide)
    · rfl
theorem wy_zN {off : Int} {c : Bool} (hd : decode M.2.1 pc = .ok (.ifCond .ne off, 3)) (ho : 0 ≤ (pc : Int) + off) (ht : c = true → pm_Good sc M (pm_to pc off) lv st w ca sl P) (hf : c = false → pm_Good sc M (pc + 3) lv st w ca sl P) : pm_Good sc M pc lv (.int (wy_i c) :: st) w ca sl P := by
  refine pm_br hd ho (fun b => ht ?_) (fun b => hf ?_)
  · cases c
    · exact absurd b (by decide)
    · rfl
  · cases c
    · rfl
    · exact absurd b (by decide)
theorem wy_lt {off : Int} {x : Int32} (hd : decode M.2.1 pc = .ok (.ifCond .lt off, 3)) (ho : 0 ≤ (pc : Int) + off) (ht : ¬ 0 ≤ x.toInt → pm_Good sc M (pm_to pc off) lv st w ca sl P) (hf : 0 ≤ x.toInt → pm_Good sc M (pc + 3) lv st w ca sl P) : pm_Good sc M pc lv (.int x :: st) w ca sl P := by
  refine pm_br hd ho (fun b => ht ?_) (fun b => hf ?_)
  · have q := pl_ct b
    simp only [pl_cp, pl_n0] at q
    omega
  · have q := pl_cf b
    simp only [pl_cp, pl_n0] at q
    omega
theorem wy_dv {x y : Int32} (h : ¬ y = 0) : pm_op .idiv (.int y :: .int x :: st) = some (.int (x / y) :: st) := by
  show (if y = 0 then none else some (.int (x / y) :: st)) = _
  exact if_neg h
theorem wy_rm {x y : Int32} (h : ¬ y = 0) : pm_op .irem (.int y :: .int x :: st) = some (.int (x - x / y * y) :: st) := by
  show (if y = 0 then none else some (.int (x - x / y * y) :: st)) = _
  exact if_neg h
theorem wy_nb (c : Bool) : narrow .boolean (.int (wy_i c)) = .int (wy_i c) := by cases c <;> rfl
theorem pe_callSN {idx j b0 p : Nat} {y : pm_X} {As rest : List Value} {P1 : Option Value → pm_W → Prop} (hx : pm_kb M mk = true) (he : pm_fetch mk pc = some (.invokestatic idx, 3, j, b0, p)) (hy : pm_mt j = some y) (hb : b0 = 1) (hAl : As.length = y.2.1) (hA : ∀ v ∈ As, v.category = 1) (hlen : As.length ≤ y.1.2.2.1) (hcat : (rest.map fun v => v.category).sum ≤ 8) (hca : ca + y.1.2.2.2.2.cells ≤ M.2.2.2.2.cells) (hsl : sl + y.1.2.2.2.2.slots ≤ M.2.2.2.2.slots)
    (hG : pm_GoodM sc y.1 As w P1) (hwl : ∀ r w', P1 r w' → w'.length = w.length) (hk : ∀ r w', P1 r w' → pm_Good sc M (pc + 3) lv (r.toList ++ rest) w' (ca + y.1.2.2.2.2.cells) (sl + y.1.2.2.2.2.slots) P) : pm_Good sc M pc lv (As.reverse ++ rest) w ca sl P := by
  have hok := pm_mt_ok hy
  obtain ⟨hme, hnp, -, hk1, -⟩ := pm_ok_meth hok
  have hlb := pe_lb hx he
  simp only [pm_lb, hy, hb] at hlb
  rw [if_neg (by decide), if_neg (by decide), if_neg (by decide), if_neg (by decide)] at hlb
  simp only [Bool.and_eq_true, decide_eq_true_eq] at hlb
  obtain ⟨⟨hrm, hlk⟩, hkd⟩ := hlb
  rw [if_pos trivial] at hlk
  refine pm_callSN (pe_d hx he) hme (pm_isn_ok hlk) (hk1 hkd) (by rw [hAl]; exact hnp) ?_ (pm_rmb_ok hrm) hcat hca hsl (Or.inl hwl) hG hk
  rw [sx_sl1 hA]
  exact hlen
theorem wy_cS {idx j b0 p : Nat} {y : pm_X} {As rest : List Value} {X : Int32} (hx : pm_kb M mk = true) (he : pm_fetch mk pc = some (.invokestatic idx, 3, j, b0, p)) (hy : pm_mt j = some y) (hb : b0 = 0) (hAl : As.length = y.2.1) (hA : ∀ v ∈ As, v.category = 1) (hlen : As.length ≤ y.1.2.2.1) (hcat : (rest.map fun v => v.category).sum ≤ 8) (hca : ca + y.1.2.2.2.2.cells ≤ M.2.2.2.2.cells) (hsl : sl + y.1.2.2.2.2.slots ≤ M.2.2.2.2.slots)
    (hG : pm_GoodM sc y.1 As w (wy_R w X)) (hk : pm_Good sc M (pc + 3) lv (.int X :: rest) w (ca + y.1.2.2.2.2.cells) (sl + y.1.2.2.2.2.slots) P) : pm_Good sc M pc lv (As.reverse ++ rest) w ca sl P :=
  pe_callS hx he hy hb hAl hA hlen hcat hca hsl hG (fun r w' q => by rw [q.2]) (fun r w' q => by obtain ⟨q1, q2⟩ := q; rw [q1, q2]; exact hk)
theorem wy_cSN {idx j b0 p : Nat} {y : pm_X} {As rest : List Value} {X : Int32} (hx : pm_kb M mk = true) (he : pm_fetch mk pc = some (.invokestatic idx, 3, j, b0, p)) (hy : pm_mt j = some y) (hb : b0 = 1) (hAl : As.length = y.2.1) (hA : ∀ v ∈ As, v.category = 1) (hlen : As.length ≤ y.1.2.2.1) (hcat : (rest.map fun v => v.category).sum ≤ 8) (hca : ca + y.1.2.2.2.2.cells ≤ M.2.2.2.2.cells) (hsl : sl + y.1.2.2.2.2.slots ≤ M.2.2.2.2.slots)
    (hG : pm_GoodM sc y.1 As w (wy_R w X)) (hk : pm_Good sc M (pc + 3) lv (.int X :: rest) w (ca + y.1.2.2.2.2.cells) (sl + y.1.2.2.2.2.slots) P) : pm_Good sc M pc lv (As.reverse ++ rest) w ca sl P :=
  pe_callSN hx he hy hb hAl hA hlen hcat hca hsl hG (fun r w' q => by rw [q.2]) (fun r w' q => by obtain ⟨q1, q2⟩ := q; rw [q1, q2]; exact hk)

theorem wy_cV {idx j b0 p q ci : Nat} {y : pm_X} {As rest : List Value} {fs : List Value} {r : vw_C} {X : Int32} (hx : pm_kb M mk = true) (he : pm_fetch mk pc = some (.invokevirtual idx, 3, j, b0, p)) (hy : pm_mt j = some y) (hb : b0 = 0) (hAl : As.length = y.2.1) (hA : ∀ v ∈ As, v.category = 1) (hw : w[q]? = some (.inr (ci, fs))) (hr : pm_cl[ci]? = some r) (hrc : r.1 = y.1.1.cls) (hlen : As.length + 1 ≤ y.1.2.2.1) (hcat : (rest.map fun v => v.category).sum ≤ 8) (hca : ca + y.1.2.2.2.2.cells ≤ M.2.2.2.2.cells) (hsl : sl + y.1.2.2.2.2.slots ≤ M.2.2.2.2.slots)
    (hG : pm_GoodM sc y.1 (.ref q :: As) w (wy_R w X)) (hk : pm_Good sc M (pc + 3) lv (.int X :: rest) w (ca + y.1.2.2.2.2.cells) (sl + y.1.2.2.2.2.slots) P) : pm_Good sc M pc lv (As.reverse ++ .ref q :: rest) w ca sl P :=
  pe_callV hx he hy hb hAl hA hw hr hrc hlen hcat hca hsl hG (fun r w' q => by rw [q.2]) (fun r w' q => by obtain ⟨q1, q2⟩ := q; rw [q1, q2]; exact hk)
end PWR

/-! what they reckon -/
def wy_1 (As Bs : List Int32) (p m i : Nat) : Bool := decide (p ≤ i) || decide (As.getD (4 * i + m) 0 = Bs.getD (4 * i + m) 0)
def wy_cb (As Bs : List Int32) (p m a : Nat) : Nat → Nat → Bool
  | 0, _ => true
  | f + 1, i => !(wy_1 As Bs p m i && a.testBit i) && wy_cb As Bs p m a f (i + 1)
def wy_c (As Bs : List Int32) (m a : Nat) (pl : Int32) (i : Nat) : Bool := decide ((bif a.testBit i then Bs.getD (4 * i + m) 0 else As.getD (4 * i + m) 0) = pl)
def wy_pb (c : Nat → Bool) : Nat → Nat → Nat → Nat
  | 0, _, b => b
  | f + 1, i, b => wy_pb c f (i + 1) (bif c i then b ||| 2 ^ i else b)
def wy_n (c : Nat → Bool) : Nat → Nat → Nat
  | 0, _ => 0
  | f + 1, i => (bif c i then 1 else 0) + wy_n c f (i + 1)
def wy_b1 (x : Int32) : Int32 := x - (((x.toUInt32 >>> ((1 : Int32).toUInt32 &&& Int32.toUInt32 31)).toInt32) &&& Int32.ofNat 1431655765)
def wy_b2 (x : Int32) : Int32 := (x &&& Int32.ofNat 858993459) + (((x.toUInt32 >>> ((2 : Int32).toUInt32 &&& Int32.toUInt32 31)).toInt32) &&& Int32.ofNat 858993459)
def wy_b3 (x : Int32) : Int32 := (x + (x.toUInt32 >>> ((4 : Int32).toUInt32 &&& Int32.toUInt32 31)).toInt32) &&& Int32.ofNat 252645135
def wy_b4 (x : Int32) : Int32 := x + (x.toUInt32 >>> ((8 : Int32).toUInt32 &&& Int32.toUInt32 31)).toInt32
def wy_b5 (x : Int32) : Int32 := x + (x.toUInt32 >>> ((16 : Int32).toUInt32 &&& Int32.toUInt32 31)).toInt32
def wy_bc (x : Int32) : Int32 := wy_b5 (wy_b4 (wy_b3 (wy_b2 (wy_b1 x)))) &&& 63
def wy_pc (b : Nat) : Nat := (bif b.testBit 0 then 1 else 0) + ((bif b.testBit 1 then 1 else 0) + ((bif b.testBit 2 then 1 else 0) + ((bif b.testBit 3 then 1 else 0) + (bif b.testBit 4 then 1 else 0))))
theorem wy_bc_ok : ∀ b, b < 32 → wy_bc (Int32.ofNat b) = Int32.ofNat (wy_pc b) := by decide +kernel
theorem wy_bit : ∀ a, a < 32 → ∀ i, i < 5 → (Int32.ofNat a >>> (Int32.ofNat i &&& 31)) &&& 1 = wy_i (a.testBit i) := by decide +kernel
theorem wy_or : ∀ b, b < 32 → ∀ i, i < 5 → (Int32.ofNat b ||| ((1 : Int32) <<< (Int32.ofNat i &&& 31))) = Int32.ofNat (b ||| 2 ^ i) ∧ b ||| 2 ^ i < 32 := by decide +kernel
theorem wy_shl : ∀ p, p < 6 → (1 : Int32) <<< (Int32.ofNat p &&& 31) = Int32.ofNat (2 ^ p) ∧ 2 ^ p ≤ 32 := by decide +kernel
theorem wy_an : ∀ b, b < 32 → ∀ c, c < 32 → (Int32.ofNat b &&& Int32.ofNat c) = Int32.ofNat (b &&& c) ∧ b &&& c < 32 := by decide +kernel
theorem wy_nt : ∀ b, b < 32 → ∀ i, i < 5 → (Int32.ofNat b &&& (((1 : Int32) <<< (Int32.ofNat i &&& 31)) ^^^ (-1))) = Int32.ofNat (b &&& (31 ^^^ 2 ^ i)) ∧ b &&& (31 ^^^ 2 ^ i) < 32 := by decide +kernel
theorem wy_m1 : ∀ b, b < 32 → (Int32.ofNat b &&& (-1)) = Int32.ofNat b := by decide +kernel
theorem wy_pb_lt (c : Nat → Bool) : ∀ f i b, i + f ≤ 5 → b < 32 → wy_pb c f i b < 32
  | 0, _, b, _, hb => hb
  | f + 1, i, b, hi, hb => by
    unfold wy_pb
    refine wy_pb_lt c f (i + 1) _ (by omega) ?_
    cases c i
    · exact hb
    · exact (wy_or b hb i (by omega)).2
theorem wy_pn (c : Nat → Bool) {p : Nat} (hp : p ≤ 5) : wy_pc (wy_pb c p 0 0) = wy_n c p 0 := by
  have h6 : p = 0 ∨ p = 1 ∨ p = 2 ∨ p = 3 ∨ p = 4 ∨ p = 5 := by omega
  rcases h6 with rfl | rfl | rfl | rfl | rfl | rfl <;> simp only [wy_pb, wy_n] <;> cases c 0 <;> cases c 1 <;> cases c 2 <;> cases c 3 <;> cases c 4 <;> rfl
theorem wy_n_le (c : Nat → Bool) : ∀ f i, wy_n c f i ≤ f
  | 0, _ => Nat.le_refl _
  | f + 1, i => by
    unfold wy_n
    have := wy_n_le c f (i + 1)
    cases c i <;> simp only [cond_true, cond_false] <;> omega
/-- the stamps -/
def wy_st (As Bs Hs Ps Ks : List Int32) (p m a : Nat) : Nat → Nat → Bool
  | 0, _ => true
  | f + 1, k => !(decide (Hs.getD k 0 = Int32.ofNat m) && !decide (Int32.ofNat (wy_n (wy_c As Bs m a (Ps.getD k 0)) p 0) = Ks.getD k 0)) && wy_st As Bs Hs Ps Ks p m a f (k + 1)
def wy_al (As Bs Hs Ps Ks : List Int32) (p sz m a : Nat) : Bool := wy_cb As Bs p m a 5 0 && wy_st As Bs Hs Ps Ks p m a sz 0
def wy_w (al : Nat → Bool) : Nat → Nat → Nat → Nat
  | 0, _, n => n
  | f + 1, a, n => wy_w al f (a + 1) (bif al a then n + 1 else n)
def wy_su (al : Nat → Bool) (pa : Nat → Nat) : Nat → Nat → Bool → Nat → Bool × Nat
  | 0, _, y, t => (y, t)
  | f + 1, a, y, t => bif al a then wy_su al pa f (a + 1) true (t &&& pa a) else wy_su al pa f (a + 1) y t
/-! the class -/
section PWC
variable {sc : pm_Z} {P : Option Value → pm_W → Prop}
theorem wy_21 {w : pm_W} {k lo hi : Int32} (hP1 : lo.toInt ≤ k.toInt → k.toInt ≤ hi.toInt → P (some (.int 1)) w) (hP0 : ¬ (lo.toInt ≤ k.toInt ∧ k.toInt ≤ hi.toInt) → P (some (.int 0)) w) : pm_GoodM sc mm_21 [.int k, .int lo, .int hi] w P := by
  have hx : pm_kb mm_21 mk_21 = true := (pm_mt_ok (j := 21) (x := (mm_21, 3, 1, mk_21)) rfl).2
  unfold pm_GoodM
  show pm_Good sc mm_21 0 [(0, .int k), (1, .int lo), (2, .int hi)] [] w 0 0 P
  refine pm_ld_ok (i := .iload_n 0) (x := 0) (k := 0) (n := 1) (v := .int k) (pe_d hx (show pm_fetch mk_21 0 = some (.iload_n 0, 1, 0, 0, 0) from rfl)) rfl rfl rfl ?_
  refine pm_ld_ok (i := .iload_n 1) (x := 1) (k := 0) (n := 1) (v := .int lo) (pe_d hx (show pm_fetch mk_21 1 = some (.iload_n 1, 1, 0, 0, 0) from rfl)) rfl rfl rfl ?_
  refine pm_br2 (c := .lt) (off := 12) (x := k) (y := lo) (pe_d hx (show pm_fetch mk_21 2 = some (.if_icmp .lt 12, 3, 0, 0, 0) from rfl)) (by decide) (fun b1 => ?_) (fun b1 => ?_)
  · show pm_Good sc mm_21 14 _ _ _ _ _ _
    refine pm_op_ok (i := .iconst 0) (st' := [.int 0]) (pe_d hx (show pm_fetch mk_21 14 = some (.iconst 0, 1, 0, 0, 0) from rfl)) rfl ?_
    exact pm_iret (ty := .boolean) (pe_d hx (show pm_fetch mk_21 15 = some (.ireturn, 1, 0, 0, 0) from rfl)) rfl rfl (by have q1 := pl_ct b1; simp only [pl_cp, pl_n0] at q1; exact hP0 (fun q => by have a := q.1; have b := q.2; omega))
  · show pm_Good sc mm_21 5 _ _ _ _ _ _
    refine pm_ld_ok (i := .iload_n 0) (x := 0) (k := 0) (n := 1) (v := .int k) (pe_d hx (show pm_fetch mk_21 5 = some (.iload_n 0, 1, 0, 0, 0) from rfl)) rfl rfl rfl ?_
    refine pm_ld_ok (i := .iload_n 2) (x := 2) (k := 0) (n := 1) (v := .int hi) (pe_d hx (show pm_fetch mk_21 6 = some (.iload_n 2, 1, 0, 0, 0) from rfl)) rfl rfl rfl ?_
    refine pm_br2 (c := .gt) (off := 7) (x := k) (y := hi) (pe_d hx (show pm_fetch mk_21 7 = some (.if_icmp .gt 7, 3, 0, 0, 0) from rfl)) (by decide) (fun b2 => ?_) (fun b2 => ?_)
    · show pm_Good sc mm_21 14 _ _ _ _ _ _
      refine pm_op_ok (i := .iconst 0) (st' := [.int 0]) (pe_d hx (show pm_fetch mk_21 14 = some (.iconst 0, 1, 0, 0, 0) from rfl)) rfl ?_
      exact pm_iret (ty := .boolean) (pe_d hx (show pm_fetch mk_21 15 = some (.ireturn, 1, 0, 0, 0) from rfl)) rfl rfl (by have q1 := pl_cf b1; have q2 := pl_ct b2; simp only [pl_cp, pl_n0] at q1 q2; exact hP0 (fun q => by have a := q.1; have b := q.2; omega))
    · show pm_Good sc mm_21 10 _ _ _ _ _ _
      refine pm_op_ok (i := .iconst 1) (st' := [.int 1]) (pe_d hx (show pm_fetch mk_21 10 = some (.iconst 1, 1, 0, 0, 0) from rfl)) rfl ?_
      refine pm_goto (off := 4) (pe_d hx (show pm_fetch mk_21 11 = some (.goto 4, 3, 0, 0, 0) from rfl)) (by decide) ?_
      show pm_Good sc mm_21 15 _ _ _ _ _ _
      exact pm_iret (ty := .boolean) (pe_d hx (show pm_fetch mk_21 15 = some (.ireturn, 1, 0, 0, 0) from rfl)) rfl rfl (by have q1 := pl_cf b1; have q2 := pl_cf b2; simp only [pl_cp, pl_n0] at q1 q2; exact hP1 (by omega) (by omega))
theorem wy_24 {w : pm_W} {k : Int32} : pm_GoodM sc mm_24 [.int k] w (wy_R w (wy_i (decide (0 ≤ k.toInt ∧ k.toInt ≤ 3)))) := by
  have hx : pm_kb mm_24 mk_24 = true := (pm_mt_ok (j := 24) (x := (mm_24, 1, 1, mk_24)) rfl).2
  unfold pm_GoodM
  show pm_Good sc mm_24 0 [(0, .int k)] [] w 0 0 _
  refine pm_ld_ok (i := .iload_n 0) (x := 0) (k := 0) (n := 1) (v := .int k) (pe_d hx (show pm_fetch mk_24 0 = some (.iload_n 0, 1, 0, 0, 0) from rfl)) rfl rfl rfl ?_
  refine pm_op_ok (i := .iconst 0) (st' := [.int 0, .int k]) (pe_d hx (show pm_fetch mk_24 1 = some (.iconst 0, 1, 0, 0, 0) from rfl)) rfl ?_
  refine pm_op_ok (i := .iconst 3) (st' := [.int 3, .int 0, .int k]) (pe_d hx (show pm_fetch mk_24 2 = some (.iconst 3, 1, 0, 0, 0) from rfl)) rfl ?_
  refine wy_cS (y := (mm_21, 3, 1, mk_21)) (As := [.int k, .int 0, .int 3]) (rest := []) (X := wy_i (decide (0 ≤ k.toInt ∧ k.toInt ≤ 3))) hx (show pm_fetch mk_24 3 = some (.invokestatic 106, 3, 21, 0, 356) from rfl) rfl rfl rfl (fun v hv => by simp only [List.mem_cons, List.not_mem_nil, or_false] at hv; rcases hv with rfl | rfl | rfl <;> rfl) (Nat.le_of_ble_eq_true rfl) (Nat.le_of_ble_eq_true rfl) (Nat.le_of_ble_eq_true rfl) (Nat.le_of_ble_eq_true rfl) (wy_21 (fun a b => ⟨by rw [decide_eq_true (⟨a, b⟩ : 0 ≤ k.toInt ∧ k.toInt ≤ 3)]; rfl, rfl⟩) (fun q => ⟨by rw [decide_eq_false (show ¬ (0 ≤ k.toInt ∧ k.toInt ≤ 3) from q)]; rfl, rfl⟩)) ?_
  show pm_Good sc mm_24 6 _ [.int (wy_i (decide (0 ≤ k.toInt ∧ k.toInt ≤ 3)))] w 0 0 _
  exact pm_iret (ty := .boolean) (pe_d hx (show pm_fetch mk_24 6 = some (.ireturn, 1, 0, 0, 0) from rfl)) rfl (wy_nb _) (⟨rfl, rfl⟩)
theorem wy_25 {w : pm_W} {k : Int32} : pm_GoodM sc mm_25 [.int k] w (wy_R w (wy_i (decide (0 ≤ k.toInt ∧ k.toInt ≤ 5)))) := by
  have hx : pm_kb mm_25 mk_25 = true := (pm_mt_ok (j := 25) (x := (mm_25, 1, 1, mk_25)) rfl).2
  unfold pm_GoodM
  show pm_Good sc mm_25 0 [(0, .int k)] [] w 0 0 _
  refine pm_ld_ok (i := .iload_n 0) (x := 0) (k := 0) (n := 1) (v := .int k) (pe_d hx (show pm_fetch mk_25 0 = some (.iload_n 0, 1, 0, 0, 0) from rfl)) rfl rfl rfl ?_
  refine pm_op_ok (i := .iconst 0) (st' := [.int 0, .int k]) (pe_d hx (show pm_fetch mk_25 1 = some (.iconst 0, 1, 0, 0, 0) from rfl)) rfl ?_
  refine pm_op_ok (i := .iconst 5) (st' := [.int 5, .int 0, .int k]) (pe_d hx (show pm_fetch mk_25 2 = some (.iconst 5, 1, 0, 0, 0) from rfl)) rfl ?_
  refine wy_cS (y := (mm_21, 3, 1, mk_21)) (As := [.int k, .int 0, .int 5]) (rest := []) (X := wy_i (decide (0 ≤ k.toInt ∧ k.toInt ≤ 5))) hx (show pm_fetch mk_25 3 = some (.invokestatic 106, 3, 21, 0, 356) from rfl) rfl rfl rfl (fun v hv => by simp only [List.mem_cons, List.not_mem_nil, or_false] at hv; rcases hv with rfl | rfl | rfl <;> rfl) (Nat.le_of_ble_eq_true rfl) (Nat.le_of_ble_eq_true rfl) (Nat.le_of_ble_eq_true rfl) (Nat.le_of_ble_eq_true rfl) (wy_21 (fun a b => ⟨by rw [decide_eq_true (⟨a, b⟩ : 0 ≤ k.toInt ∧ k.toInt ≤ 5)]; rfl, rfl⟩) (fun q => ⟨by rw [decide_eq_false (show ¬ (0 ≤ k.toInt ∧ k.toInt ≤ 5) from q)]; rfl, rfl⟩)) ?_
  show pm_Good sc mm_25 6 _ [.int (wy_i (decide (0 ≤ k.toInt ∧ k.toInt ≤ 5)))] w 0 0 _
  exact pm_iret (ty := .boolean) (pe_d hx (show pm_fetch mk_25 6 = some (.ireturn, 1, 0, 0, 0) from rfl)) rfl (wy_nb _) (⟨rfl, rfl⟩)
theorem wy_122 {w : pm_W} {k : Int32} : pm_GoodM sc mm_122 [.int k] w (wy_R w (wy_i (decide (0 ≤ k.toInt ∧ k.toInt ≤ 3)))) := by
  have hx : pm_kb mm_122 mk_122 = true := (pm_mt_ok (j := 122) (x := (mm_122, 1, 1, mk_122)) rfl).2
  unfold pm_GoodM
  show pm_Good sc mm_122 0 [(0, .int k)] [] w 0 0 _
  refine pm_ld_ok (i := .iload_n 0) (x := 0) (k := 0) (n := 1) (v := .int k) (pe_d hx (show pm_fetch mk_122 0 = some (.iload_n 0, 1, 0, 0, 0) from rfl)) rfl rfl rfl ?_
  refine pm_op_ok (i := .iconst 0) (st' := [.int 0, .int k]) (pe_d hx (show pm_fetch mk_122 1 = some (.iconst 0, 1, 0, 0, 0) from rfl)) rfl ?_
  refine pm_op_ok (i := .iconst 3) (st' := [.int 3, .int 0, .int k]) (pe_d hx (show pm_fetch mk_122 2 = some (.iconst 3, 1, 0, 0, 0) from rfl)) rfl ?_
  refine wy_cS (y := (mm_108, 3, 1, mk_108)) (As := [.int k, .int 0, .int 3]) (rest := []) (X := wy_i (decide (0 ≤ k.toInt ∧ k.toInt ≤ 3))) hx (show pm_fetch mk_122 3 = some (.invokestatic 55, 3, 108, 0, 752) from rfl) rfl rfl rfl (fun v hv => by simp only [List.mem_cons, List.not_mem_nil, or_false] at hv; rcases hv with rfl | rfl | rfl <;> rfl) (Nat.le_of_ble_eq_true rfl) (Nat.le_of_ble_eq_true rfl) (Nat.le_of_ble_eq_true rfl) (Nat.le_of_ble_eq_true rfl) (pl_108 (fun a b => ⟨by rw [decide_eq_true (⟨a, b⟩ : 0 ≤ k.toInt ∧ k.toInt ≤ 3)]; rfl, rfl⟩) (fun q => ⟨by rw [decide_eq_false (show ¬ (0 ≤ k.toInt ∧ k.toInt ≤ 3) from q)]; rfl, rfl⟩)) ?_
  show pm_Good sc mm_122 6 _ [.int (wy_i (decide (0 ≤ k.toInt ∧ k.toInt ≤ 3)))] w 0 0 _
  exact pm_iret (ty := .boolean) (pe_d hx (show pm_fetch mk_122 6 = some (.ireturn, 1, 0, 0, 0) from rfl)) rfl (wy_nb _) (⟨rfl, rfl⟩)
theorem wy_26 {w : pm_W} {i m : Nat} : pm_GoodM sc mm_26 [.int (Int32.ofNat i), .int (Int32.ofNat m)] w (wy_R w (Int32.ofNat (4 * i + m))) := by
  have hx : pm_kb mm_26 mk_26 = true := (pm_mt_ok (j := 26) (x := (mm_26, 2, 1, mk_26)) rfl).2
  unfold pm_GoodM
  show pm_Good sc mm_26 0 [(0, .int (Int32.ofNat i)), (1, .int (Int32.ofNat m))] [] w 0 0 _
  refine pm_ld_ok (i := .iload_n 0) (x := 0) (k := 0) (n := 1) (v := .int (Int32.ofNat i)) (pe_d hx (show pm_fetch mk_26 0 = some (.iload_n 0, 1, 0, 0, 0) from rfl)) rfl rfl rfl ?_
  refine pm_op_ok (i := .iconst 4) (st' := [.int 4, .int (Int32.ofNat i)]) (pe_d hx (show pm_fetch mk_26 1 = some (.iconst 4, 1, 0, 0, 0) from rfl)) rfl ?_
  refine pm_op_ok (i := .imul) (st' := [.int ((Int32.ofNat i) * 4)]) (pe_d hx (show pm_fetch mk_26 2 = some (.imul, 1, 0, 0, 0) from rfl)) rfl ?_
  refine pm_ld_ok (i := .iload_n 1) (x := 1) (k := 0) (n := 1) (v := .int (Int32.ofNat m)) (pe_d hx (show pm_fetch mk_26 3 = some (.iload_n 1, 1, 0, 0, 0) from rfl)) rfl rfl rfl ?_
  refine pm_op_ok (i := .iadd) (st' := [.int (((Int32.ofNat i) * 4) + (Int32.ofNat m))]) (pe_d hx (show pm_fetch mk_26 4 = some (.iadd, 1, 0, 0, 0) from rfl)) rfl ?_
  refine wy_eq (y := Int32.ofNat (4 * i + m)) (by rw [show 4 * i + m = i * 4 + m by omega, Int32.ofNat_add, Int32.ofNat_mul] <;> rfl) ?_
  show pm_Good sc mm_26 5 _ [.int (Int32.ofNat (4 * i + m))] w 0 0 _
  exact pm_iret (ty := .int) (pe_d hx (show pm_fetch mk_26 5 = some (.ireturn, 1, 0, 0, 0) from rfl)) rfl (rfl) (⟨rfl, rfl⟩)
theorem wy_95l {w : pm_W} {tw qa qb : Nat} {ts : List Value} {As Bs : List Int32} {p m a : Nat} (ht : w[tw]? = some (.inr (6, ts))) (h1 : ts[1]? = some (.ref qa)) (h2 : ts[2]? = some (.ref qb)) (h4 : ts[4]? = some (.int (Int32.ofNat p))) (hA : w[qa]? = some (.inl (0, As))) (hAl : As.length = 20) (hB : w[qb]? = some (.inl (0, Bs))) (hBl : Bs.length = 20) (hp : p ≤ 5) (hm : m < 4) (ha : a < 32) : ∀ (f i : Nat), i + f = 5 → pm_Good sc mm_95 2 [(0, .ref tw), (1, .int (Int32.ofNat m)), (2, .int (Int32.ofNat a)), (3, .int (Int32.ofNat i))] [] w 0 0 (wy_R w (wy_i (wy_cb As Bs p m a f i))) := by
  have hx : pm_kb mm_95 mk_95 = true := (pm_mt_ok (j := 95) (x := (mm_95, 2, 0, mk_95)) rfl).2
  intro f
  induction f with
  | zero =>
    intro i hi
    refine pm_ld_ok (i := .iload_n 3) (x := 3) (k := 0) (n := 1) (v := .int (Int32.ofNat i)) (pe_d hx (show pm_fetch mk_95 2 = some (.iload_n 3, 1, 0, 0, 0) from rfl)) rfl rfl rfl ?_
    refine pm_op_ok (i := .iconst 5) (st' := [.int 5, .int (Int32.ofNat i)]) (pe_d hx (show pm_fetch mk_95 3 = some (.iconst 5, 1, 0, 0, 0) from rfl)) rfl ?_
    refine wy_ge (off := 63) (pe_d hx (show pm_fetch mk_95 4 = some (.if_icmp .ge 63, 3, 0, 0, 0) from rfl)) (by decide) (n := i) (k := 5) (by omega) (by omega) (fun g1 => ?_) (fun g1 => ?_)
    · show pm_Good sc mm_95 67 _ [] w 0 0 _
      refine pm_op_ok (i := .iconst 1) (st' := [.int 1]) (pe_d hx (show pm_fetch mk_95 67 = some (.iconst 1, 1, 0, 0, 0) from rfl)) rfl ?_
      exact pm_iret (ty := .boolean) (pe_d hx (show pm_fetch mk_95 68 = some (.ireturn, 1, 0, 0, 0) from rfl)) rfl (rfl) (⟨rfl, rfl⟩)
    · show pm_Good sc mm_95 7 _ [] w 0 0 _
      exact absurd g1 (by omega)
  | succ f ih =>
    intro i hi
    refine pm_ld_ok (i := .iload_n 3) (x := 3) (k := 0) (n := 1) (v := .int (Int32.ofNat i)) (pe_d hx (show pm_fetch mk_95 2 = some (.iload_n 3, 1, 0, 0, 0) from rfl)) rfl rfl rfl ?_
    refine pm_op_ok (i := .iconst 5) (st' := [.int 5, .int (Int32.ofNat i)]) (pe_d hx (show pm_fetch mk_95 3 = some (.iconst 5, 1, 0, 0, 0) from rfl)) rfl ?_
    refine wy_ge (off := 63) (pe_d hx (show pm_fetch mk_95 4 = some (.if_icmp .ge 63, 3, 0, 0, 0) from rfl)) (by decide) (n := i) (k := 5) (by omega) (by omega) (fun g1 => ?_) (fun g1 => ?_)
    · show pm_Good sc mm_95 67 _ [] w 0 0 _
      exact absurd g1 (by omega)
    · show pm_Good sc mm_95 7 _ [] w 0 0 _
      refine pm_ld_ok (i := .iload_n 3) (x := 3) (k := 0) (n := 1) (v := .int (Int32.ofNat i)) (pe_d hx (show pm_fetch mk_95 7 = some (.iload_n 3, 1, 0, 0, 0) from rfl)) rfl rfl rfl ?_
      refine pm_ld_ok (i := .iload_n 1) (x := 1) (k := 0) (n := 1) (v := .int (Int32.ofNat m)) (pe_d hx (show pm_fetch mk_95 8 = some (.iload_n 1, 1, 0, 0, 0) from rfl)) rfl rfl rfl ?_
      refine wy_cSN (y := (mm_26, 2, 1, mk_26)) (As := [.int (Int32.ofNat i), .int (Int32.ofNat m)]) (rest := []) (X := Int32.ofNat (4 * i + m)) hx (show pm_fetch mk_95 9 = some (.invokestatic 74, 3, 26, 1, 316) from rfl) rfl rfl rfl (fun v hv => by simp only [List.mem_cons, List.not_mem_nil, or_false] at hv; rcases hv with rfl | rfl <;> rfl) (Nat.le_of_ble_eq_true rfl) (Nat.le_of_ble_eq_true rfl) (Nat.le_of_ble_eq_true rfl) (Nat.le_of_ble_eq_true rfl) (wy_26) ?_
      show pm_Good sc mm_95 12 _ [.int (Int32.ofNat (4 * i + m))] w 0 0 _
      refine pm_sto_ok (i := .istore 4) (x := 4) (k := 0) (n := 2) (pe_d hx (show pm_fetch mk_95 12 = some (.istore 4, 2, 0, 0, 0) from rfl)) rfl rfl (by decide) ?_
      have K : ∀ z : Int32, (wy_1 As Bs p m i && a.testBit i) = false → pm_Good sc mm_95 61 [(5, .int z), (4, .int (Int32.ofNat (4 * i + m))), (0, .ref tw), (1, .int (Int32.ofNat m)), (2, .int (Int32.ofNat a)), (3, .int (Int32.ofNat i))] [] w 0 0 (wy_R w (wy_i (wy_cb As Bs p m a (f + 1) i))) := by
        intro z hz
        have e : wy_cb As Bs p m a (f + 1) i = wy_cb As Bs p m a f (i + 1) := by show (!(wy_1 As Bs p m i && a.testBit i) && wy_cb As Bs p m a f (i + 1)) = _; rw [hz]; rfl
        rw [e]
        refine pm_inc (i := 3) (n := 1) (x := Int32.ofNat i) (pe_d hx (show pm_fetch mk_95 61 = some (.iinc 3 1, 3, 0, 0, 0) from rfl)) rfl (by decide) ?_
        refine pm_goto (off := (-62)) (pe_d hx (show pm_fetch mk_95 64 = some (.goto (-62), 3, 0, 0, 0) from rfl)) (by decide) ?_
        show pm_Good sc mm_95 2 _ [] w 0 0 _
        refine pm_sub (lv' := [(0, .ref tw), (1, .int (Int32.ofNat m)), (2, .int (Int32.ofNat a)), (3, .int (Int32.ofNat (i + 1)))]) (fun q hq => ?_) (ih (i + 1) (by omega))
        simp only [List.mem_cons, List.not_mem_nil, or_false] at hq
        rcases hq with rfl | rfl | rfl | rfl
        · exact List.mem_cons_of_mem _ (List.mem_cons_of_mem _ (List.mem_cons_of_mem _ (List.mem_cons_self)))
        · exact List.mem_cons_of_mem _ (List.mem_cons_of_mem _ (List.mem_cons_of_mem _ (List.mem_cons_of_mem _ (List.mem_cons_self))))
        · exact List.mem_cons_of_mem _ (List.mem_cons_of_mem _ (List.mem_cons_of_mem _ (List.mem_cons_of_mem _ (List.mem_cons_of_mem _ (List.mem_cons_self)))))
        · rw [← wy_s i]; exact List.mem_cons_self
      have J : pm_Good sc mm_95 44 [(4, .int (Int32.ofNat (4 * i + m))), (0, .ref tw), (1, .int (Int32.ofNat m)), (2, .int (Int32.ofNat a)), (3, .int (Int32.ofNat i))] [.int (wy_i (wy_1 As Bs p m i))] w 0 0 (wy_R w (wy_i (wy_cb As Bs p m a (f + 1) i))) := by
        refine pm_sto_ok (i := .istore 5) (x := 5) (k := 0) (n := 2) (pe_d hx (show pm_fetch mk_95 44 = some (.istore 5, 2, 0, 0, 0) from rfl)) rfl rfl (by decide) ?_
        refine pm_ld_ok (i := .iload 5) (x := 5) (k := 0) (n := 2) (v := .int (wy_i (wy_1 As Bs p m i))) (pe_d hx (show pm_fetch mk_95 46 = some (.iload 5, 2, 0, 0, 0) from rfl)) rfl rfl rfl ?_
        refine wy_zE (off := 13) (pe_d hx (show pm_fetch mk_95 48 = some (.ifCond .eq 13, 3, 0, 0, 0) from rfl)) (by decide) (fun g2 => ?_) (fun g2 => ?_)
        · show pm_Good sc mm_95 61 _ [] w 0 0 _
          exact K _ (by rw [g2]; rfl)
        · show pm_Good sc mm_95 51 _ [] w 0 0 _
          refine pm_ld_ok (i := .iload_n 2) (x := 2) (k := 0) (n := 1) (v := .int (Int32.ofNat a)) (pe_d hx (show pm_fetch mk_95 51 = some (.iload_n 2, 1, 0, 0, 0) from rfl)) rfl rfl rfl ?_
          refine pm_ld_ok (i := .iload_n 3) (x := 3) (k := 0) (n := 1) (v := .int (Int32.ofNat i)) (pe_d hx (show pm_fetch mk_95 52 = some (.iload_n 3, 1, 0, 0, 0) from rfl)) rfl rfl rfl ?_
          refine pm_op_ok (i := .ishr) (st' := [.int ((Int32.ofNat a) >>> ((Int32.ofNat i) &&& 31))]) (pe_d hx (show pm_fetch mk_95 53 = some (.ishr, 1, 0, 0, 0) from rfl)) rfl ?_
          refine pm_op_ok (i := .iconst 1) (st' := [.int 1, .int ((Int32.ofNat a) >>> ((Int32.ofNat i) &&& 31))]) (pe_d hx (show pm_fetch mk_95 54 = some (.iconst 1, 1, 0, 0, 0) from rfl)) rfl ?_
          refine pm_op_ok (i := .iand) (st' := [.int (((Int32.ofNat a) >>> ((Int32.ofNat i) &&& 31)) &&& 1)]) (pe_d hx (show pm_fetch mk_95 55 = some (.iand, 1, 0, 0, 0) from rfl)) rfl ?_
          refine wy_eq (y := wy_i (a.testBit i)) (wy_bit a ha i (by omega)) ?_
          show pm_Good sc mm_95 56 _ [.int (wy_i (a.testBit i))] w 0 0 _
          refine wy_zE (off := 5) (pe_d hx (show pm_fetch mk_95 56 = some (.ifCond .eq 5, 3, 0, 0, 0) from rfl)) (by decide) (fun g3 => ?_) (fun g3 => ?_)
          · show pm_Good sc mm_95 61 _ [] w 0 0 _
            exact K _ (by rw [g3, Bool.and_false])
          · show pm_Good sc mm_95 59 _ [] w 0 0 _
            refine pm_op_ok (i := .iconst 0) (st' := [.int 0]) (pe_d hx (show pm_fetch mk_95 59 = some (.iconst 0, 1, 0, 0, 0) from rfl)) rfl ?_
            have e : wy_cb As Bs p m a (f + 1) i = false := by unfold wy_cb; rw [g2, g3]; rfl
            rw [e]
            exact pm_iret (ty := .boolean) (pe_d hx (show pm_fetch mk_95 60 = some (.ireturn, 1, 0, 0, 0) from rfl)) rfl (rfl) (⟨rfl, rfl⟩)
      refine pm_ld_ok (i := .iload_n 3) (x := 3) (k := 0) (n := 1) (v := .int (Int32.ofNat i)) (pe_d hx (show pm_fetch mk_95 14 = some (.iload_n 3, 1, 0, 0, 0) from rfl)) rfl rfl rfl ?_
      refine pm_ld_ok (i := .aload_n 0) (x := 0) (k := 2) (n := 1) (v := .ref tw) (pe_d hx (show pm_fetch mk_95 15 = some (.aload_n 0, 1, 0, 0, 0) from rfl)) rfl rfl rfl ?_
      refine pe_getf hx (show pm_fetch mk_95 16 = some (.getfield 30, 3, 6, 4, 108) from rfl) (by decide) ht h4 ?_
      refine wy_ge (off := 20) (pe_d hx (show pm_fetch mk_95 19 = some (.if_icmp .ge 20, 3, 0, 0, 0) from rfl)) (by decide) (n := i) (k := p) (by omega) (by omega) (fun g2 => ?_) (fun g2 => ?_)
      · show pm_Good sc mm_95 39 _ [] w 0 0 _
        refine pm_op_ok (i := .iconst 1) (st' := [.int 1]) (pe_d hx (show pm_fetch mk_95 39 = some (.iconst 1, 1, 0, 0, 0) from rfl)) rfl ?_
        refine pm_goto (off := 4) (pe_d hx (show pm_fetch mk_95 40 = some (.goto 4, 3, 0, 0, 0) from rfl)) (by decide) ?_
        show pm_Good sc mm_95 44 _ [.int 1] w 0 0 _
        have e : wy_1 As Bs p m i = true := by unfold wy_1; rw [decide_eq_true g2]; rfl
        rw [e] at J
        exact J
      · show pm_Good sc mm_95 22 _ [] w 0 0 _
        refine pm_ld_ok (i := .aload_n 0) (x := 0) (k := 2) (n := 1) (v := .ref tw) (pe_d hx (show pm_fetch mk_95 22 = some (.aload_n 0, 1, 0, 0, 0) from rfl)) rfl rfl rfl ?_
        refine pe_getf hx (show pm_fetch mk_95 23 = some (.getfield 15, 3, 6, 1, 100) from rfl) (by decide) ht h1 ?_
        refine pm_ld_ok (i := .iload 4) (x := 4) (k := 0) (n := 2) (v := .int (Int32.ofNat (4 * i + m))) (pe_d hx (show pm_fetch mk_95 26 = some (.iload 4, 2, 0, 0, 0) from rfl)) rfl rfl rfl ?_
        refine wy_ld (k := 4 * i + m) (pe_d hx (show pm_fetch mk_95 28 = some (.iaload, 1, 0, 0, 0) from rfl)) hA (by omega) (by omega) ?_
        refine pm_ld_ok (i := .aload_n 0) (x := 0) (k := 2) (n := 1) (v := .ref tw) (pe_d hx (show pm_fetch mk_95 29 = some (.aload_n 0, 1, 0, 0, 0) from rfl)) rfl rfl rfl ?_
        refine pe_getf hx (show pm_fetch mk_95 30 = some (.getfield 18, 3, 6, 2, 102) from rfl) (by decide) ht h2 ?_
        refine pm_ld_ok (i := .iload 4) (x := 4) (k := 0) (n := 2) (v := .int (Int32.ofNat (4 * i + m))) (pe_d hx (show pm_fetch mk_95 33 = some (.iload 4, 2, 0, 0, 0) from rfl)) rfl rfl rfl ?_
        refine wy_ld (k := 4 * i + m) (pe_d hx (show pm_fetch mk_95 35 = some (.iaload, 1, 0, 0, 0) from rfl)) hB (by omega) (by omega) ?_
        refine wy_ne (off := 7) (pe_d hx (show pm_fetch mk_95 36 = some (.if_icmp .ne 7, 3, 0, 0, 0) from rfl)) (by decide) (fun g3 => ?_) (fun g3 => ?_)
        · show pm_Good sc mm_95 43 _ [] w 0 0 _
          refine pm_op_ok (i := .iconst 0) (st' := [.int 0]) (pe_d hx (show pm_fetch mk_95 43 = some (.iconst 0, 1, 0, 0, 0) from rfl)) rfl ?_
          have e : wy_1 As Bs p m i = false := by unfold wy_1; rw [decide_eq_false (Nat.not_le.mpr g2), decide_eq_false g3]; rfl
          rw [e] at J
          exact J
        · show pm_Good sc mm_95 39 _ [] w 0 0 _
          refine pm_op_ok (i := .iconst 1) (st' := [.int 1]) (pe_d hx (show pm_fetch mk_95 39 = some (.iconst 1, 1, 0, 0, 0) from rfl)) rfl ?_
          refine pm_goto (off := 4) (pe_d hx (show pm_fetch mk_95 40 = some (.goto 4, 3, 0, 0, 0) from rfl)) (by decide) ?_
          show pm_Good sc mm_95 44 _ [.int 1] w 0 0 _
          have e : wy_1 As Bs p m i = true := by unfold wy_1; rw [decide_eq_true g3, Bool.or_true]
          rw [e] at J
          exact J
theorem wy_95 {w : pm_W} {tw qa qb : Nat} {ts : List Value} {As Bs : List Int32} {p m a : Nat} (ht : w[tw]? = some (.inr (6, ts))) (h1 : ts[1]? = some (.ref qa)) (h2 : ts[2]? = some (.ref qb)) (h4 : ts[4]? = some (.int (Int32.ofNat p))) (hA : w[qa]? = some (.inl (0, As))) (hAl : As.length = 20) (hB : w[qb]? = some (.inl (0, Bs))) (hBl : Bs.length = 20) (hp : p ≤ 5) (hm : m < 4) (ha : a < 32) : pm_GoodM sc mm_95 [.ref tw, .int (Int32.ofNat m), .int (Int32.ofNat a)] w (wy_R w (wy_i (wy_cb As Bs p m a 5 0))) := by
  have hx : pm_kb mm_95 mk_95 = true := (pm_mt_ok (j := 95) (x := (mm_95, 2, 0, mk_95)) rfl).2
  unfold pm_GoodM
  show pm_Good sc mm_95 0 [(0, .ref tw), (1, .int (Int32.ofNat m)), (2, .int (Int32.ofNat a))] [] w 0 0 _
  refine pm_op_ok (i := .iconst 0) (st' := [.int 0]) (pe_d hx (show pm_fetch mk_95 0 = some (.iconst 0, 1, 0, 0, 0) from rfl)) rfl ?_
  refine pm_sto_ok (i := .istore_n 3) (x := 3) (k := 0) (n := 1) (pe_d hx (show pm_fetch mk_95 1 = some (.istore_n 3, 1, 0, 0, 0) from rfl)) rfl rfl (by decide) ?_
  refine pm_sub (lv' := [(0, .ref tw), (1, .int (Int32.ofNat m)), (2, .int (Int32.ofNat a)), (3, .int (Int32.ofNat 0))]) (fun q hq => ?_) (wy_95l ht h1 h2 h4 hA hAl hB hBl hp hm ha 5 0 rfl)
  simp only [List.mem_cons, List.not_mem_nil, or_false] at hq
  rcases hq with rfl | rfl | rfl | rfl
  · exact List.mem_cons_of_mem _ (List.mem_cons_self)
  · exact List.mem_cons_of_mem _ (List.mem_cons_of_mem _ (List.mem_cons_self))
  · exact List.mem_cons_of_mem _ (List.mem_cons_of_mem _ (List.mem_cons_of_mem _ (List.mem_cons_self)))
  · exact List.mem_cons_self
theorem wy_96l {w : pm_W} {tw qa qb : Nat} {ts : List Value} {As Bs : List Int32} {p m a : Nat} (ht : w[tw]? = some (.inr (6, ts))) (h1 : ts[1]? = some (.ref qa)) (h2 : ts[2]? = some (.ref qb)) (h4 : ts[4]? = some (.int (Int32.ofNat p))) (hA : w[qa]? = some (.inl (0, As))) (hAl : As.length = 20) (hB : w[qb]? = some (.inl (0, Bs))) (hBl : Bs.length = 20) (hp : p ≤ 5) (hm : m < 4) (ha : a < 32) {pl : Int32} : ∀ (f i b : Nat), i + f = p → b < 32 → pm_Good sc mm_96 6 [(0, .ref tw), (1, .int (Int32.ofNat m)), (2, .int pl), (3, .int (Int32.ofNat a)), (4, .int (Int32.ofNat b)), (5, .int (Int32.ofNat i))] [] w 0 0 (wy_R w (Int32.ofNat (wy_pb (wy_c As Bs m a pl) f i b))) := by
  have hx : pm_kb mm_96 mk_96 = true := (pm_mt_ok (j := 96) (x := (mm_96, 3, 0, mk_96)) rfl).2
  intro f
  induction f with
  | zero =>
    intro i b hi hb
    refine pm_ld_ok (i := .iload 5) (x := 5) (k := 0) (n := 2) (v := .int (Int32.ofNat i)) (pe_d hx (show pm_fetch mk_96 6 = some (.iload 5, 2, 0, 0, 0) from rfl)) rfl rfl rfl ?_
    refine pm_ld_ok (i := .aload_n 0) (x := 0) (k := 2) (n := 1) (v := .ref tw) (pe_d hx (show pm_fetch mk_96 8 = some (.aload_n 0, 1, 0, 0, 0) from rfl)) rfl rfl rfl ?_
    refine pe_getf hx (show pm_fetch mk_96 9 = some (.getfield 30, 3, 6, 4, 108) from rfl) (by decide) ht h4 ?_
    refine wy_ge (off := 60) (pe_d hx (show pm_fetch mk_96 12 = some (.if_icmp .ge 60, 3, 0, 0, 0) from rfl)) (by decide) (n := i) (k := p) (by omega) (by omega) (fun g1 => ?_) (fun g1 => ?_)
    · show pm_Good sc mm_96 72 _ [] w 0 0 _
      refine pm_ld_ok (i := .iload 4) (x := 4) (k := 0) (n := 2) (v := .int (Int32.ofNat b)) (pe_d hx (show pm_fetch mk_96 72 = some (.iload 4, 2, 0, 0, 0) from rfl)) rfl rfl rfl ?_
      exact pm_iret (ty := .int) (pe_d hx (show pm_fetch mk_96 74 = some (.ireturn, 1, 0, 0, 0) from rfl)) rfl (rfl) (⟨rfl, rfl⟩)
    · show pm_Good sc mm_96 15 _ [] w 0 0 _
      exact absurd g1 (by omega)
  | succ f ih =>
    intro i b hi hb
    refine pm_ld_ok (i := .iload 5) (x := 5) (k := 0) (n := 2) (v := .int (Int32.ofNat i)) (pe_d hx (show pm_fetch mk_96 6 = some (.iload 5, 2, 0, 0, 0) from rfl)) rfl rfl rfl ?_
    refine pm_ld_ok (i := .aload_n 0) (x := 0) (k := 2) (n := 1) (v := .ref tw) (pe_d hx (show pm_fetch mk_96 8 = some (.aload_n 0, 1, 0, 0, 0) from rfl)) rfl rfl rfl ?_
    refine pe_getf hx (show pm_fetch mk_96 9 = some (.getfield 30, 3, 6, 4, 108) from rfl) (by decide) ht h4 ?_
    refine wy_ge (off := 60) (pe_d hx (show pm_fetch mk_96 12 = some (.if_icmp .ge 60, 3, 0, 0, 0) from rfl)) (by decide) (n := i) (k := p) (by omega) (by omega) (fun g1 => ?_) (fun g1 => ?_)
    · show pm_Good sc mm_96 72 _ [] w 0 0 _
      exact absurd g1 (by omega)
    · show pm_Good sc mm_96 15 _ [] w 0 0 _
      refine pm_ld_ok (i := .iload 5) (x := 5) (k := 0) (n := 2) (v := .int (Int32.ofNat i)) (pe_d hx (show pm_fetch mk_96 15 = some (.iload 5, 2, 0, 0, 0) from rfl)) rfl rfl rfl ?_
      refine pm_ld_ok (i := .iload_n 1) (x := 1) (k := 0) (n := 1) (v := .int (Int32.ofNat m)) (pe_d hx (show pm_fetch mk_96 17 = some (.iload_n 1, 1, 0, 0, 0) from rfl)) rfl rfl rfl ?_
      refine wy_cSN (y := (mm_26, 2, 1, mk_26)) (As := [.int (Int32.ofNat i), .int (Int32.ofNat m)]) (rest := []) (X := Int32.ofNat (4 * i + m)) hx (show pm_fetch mk_96 18 = some (.invokestatic 74, 3, 26, 1, 316) from rfl) rfl rfl rfl (fun v hv => by simp only [List.mem_cons, List.not_mem_nil, or_false] at hv; rcases hv with rfl | rfl <;> rfl) (Nat.le_of_ble_eq_true rfl) (Nat.le_of_ble_eq_true rfl) (Nat.le_of_ble_eq_true rfl) (Nat.le_of_ble_eq_true rfl) (wy_26) ?_
      show pm_Good sc mm_96 21 _ [.int (Int32.ofNat (4 * i + m))] w 0 0 _
      refine pm_sto_ok (i := .istore 6) (x := 6) (k := 0) (n := 2) (pe_d hx (show pm_fetch mk_96 21 = some (.istore 6, 2, 0, 0, 0) from rfl)) rfl rfl (by decide) ?_
      refine pm_ld_ok (i := .iload_n 3) (x := 3) (k := 0) (n := 1) (v := .int (Int32.ofNat a)) (pe_d hx (show pm_fetch mk_96 23 = some (.iload_n 3, 1, 0, 0, 0) from rfl)) rfl rfl rfl ?_
      refine pm_ld_ok (i := .iload 5) (x := 5) (k := 0) (n := 2) (v := .int (Int32.ofNat i)) (pe_d hx (show pm_fetch mk_96 24 = some (.iload 5, 2, 0, 0, 0) from rfl)) rfl rfl rfl ?_
      refine pm_op_ok (i := .ishr) (st' := [.int ((Int32.ofNat a) >>> ((Int32.ofNat i) &&& 31))]) (pe_d hx (show pm_fetch mk_96 26 = some (.ishr, 1, 0, 0, 0) from rfl)) rfl ?_
      refine pm_op_ok (i := .iconst 1) (st' := [.int 1, .int ((Int32.ofNat a) >>> ((Int32.ofNat i) &&& 31))]) (pe_d hx (show pm_fetch mk_96 27 = some (.iconst 1, 1, 0, 0, 0) from rfl)) rfl ?_
      refine pm_op_ok (i := .iand) (st' := [.int (((Int32.ofNat a) >>> ((Int32.ofNat i) &&& 31)) &&& 1)]) (pe_d hx (show pm_fetch mk_96 28 = some (.iand, 1, 0, 0, 0) from rfl)) rfl ?_
      refine wy_eq (y := wy_i (a.testBit i)) (wy_bit a ha i (by omega)) ?_
      show pm_Good sc mm_96 29 _ [.int (wy_i (a.testBit i))] w 0 0 _
      have J : pm_Good sc mm_96 49 [(6, .int (Int32.ofNat (4 * i + m))), (0, .ref tw), (1, .int (Int32.ofNat m)), (2, .int pl), (3, .int (Int32.ofNat a)), (4, .int (Int32.ofNat b)), (5, .int (Int32.ofNat i))] [.int (bif a.testBit i then Bs.getD (4 * i + m) 0 else As.getD (4 * i + m) 0)] w 0 0 (wy_R w (Int32.ofNat (wy_pb (wy_c As Bs m a pl) (f + 1) i b))) := by
        refine pm_sto_ok (i := .istore 7) (x := 7) (k := 0) (n := 2) (pe_d hx (show pm_fetch mk_96 49 = some (.istore 7, 2, 0, 0, 0) from rfl)) rfl rfl (by decide) ?_
        refine pm_ld_ok (i := .iload 7) (x := 7) (k := 0) (n := 2) (v := .int (bif a.testBit i then Bs.getD (4 * i + m) 0 else As.getD (4 * i + m) 0)) (pe_d hx (show pm_fetch mk_96 51 = some (.iload 7, 2, 0, 0, 0) from rfl)) rfl rfl rfl ?_
        refine pm_ld_ok (i := .iload_n 2) (x := 2) (k := 0) (n := 1) (v := .int pl) (pe_d hx (show pm_fetch mk_96 53 = some (.iload_n 2, 1, 0, 0, 0) from rfl)) rfl rfl rfl ?_
        refine wy_ne (off := 12) (pe_d hx (show pm_fetch mk_96 54 = some (.if_icmp .ne 12, 3, 0, 0, 0) from rfl)) (by decide) (fun g3 => ?_) (fun g3 => ?_)
        · show pm_Good sc mm_96 66 _ [] w 0 0 _
          have e : wy_c As Bs m a pl i = false := decide_eq_false g3
          unfold wy_pb
          rw [e]
          refine pm_inc (i := 5) (n := 1) (x := Int32.ofNat i) (pe_d hx (show pm_fetch mk_96 66 = some (.iinc 5 1, 3, 0, 0, 0) from rfl)) rfl (by decide) ?_
          refine pm_goto (off := (-63)) (pe_d hx (show pm_fetch mk_96 69 = some (.goto (-63), 3, 0, 0, 0) from rfl)) (by decide) ?_
          show pm_Good sc mm_96 6 _ [] w 0 0 _
          refine pm_sub (lv' := [(0, .ref tw), (1, .int (Int32.ofNat m)), (2, .int pl), (3, .int (Int32.ofNat a)), (4, .int (Int32.ofNat b)), (5, .int (Int32.ofNat (i + 1)))]) (fun q hq => ?_) (ih (i + 1) b (by omega) hb)
          simp only [List.mem_cons, List.not_mem_nil, or_false] at hq
          rcases hq with rfl | rfl | rfl | rfl | rfl | rfl
          · exact List.mem_cons_of_mem _ (List.mem_cons_of_mem _ (List.mem_cons_of_mem _ (List.mem_cons_self)))
          · exact List.mem_cons_of_mem _ (List.mem_cons_of_mem _ (List.mem_cons_of_mem _ (List.mem_cons_of_mem _ (List.mem_cons_self))))
          · exact List.mem_cons_of_mem _ (List.mem_cons_of_mem _ (List.mem_cons_of_mem _ (List.mem_cons_of_mem _ (List.mem_cons_of_mem _ (List.mem_cons_self)))))
          · exact List.mem_cons_of_mem _ (List.mem_cons_of_mem _ (List.mem_cons_of_mem _ (List.mem_cons_of_mem _ (List.mem_cons_of_mem _ (List.mem_cons_of_mem _ (List.mem_cons_self))))))
          · exact List.mem_cons_of_mem _ (List.mem_cons_of_mem _ (List.mem_cons_of_mem _ (List.mem_cons_of_mem _ (List.mem_cons_of_mem _ (List.mem_cons_of_mem _ (List.mem_cons_of_mem _ (List.mem_cons_self)))))))
          · rw [← wy_s i]; exact List.mem_cons_self
        · show pm_Good sc mm_96 57 _ [] w 0 0 _
          have e : wy_c As Bs m a pl i = true := decide_eq_true g3
          unfold wy_pb
          rw [e]
          refine pm_ld_ok (i := .iload 4) (x := 4) (k := 0) (n := 2) (v := .int (Int32.ofNat b)) (pe_d hx (show pm_fetch mk_96 57 = some (.iload 4, 2, 0, 0, 0) from rfl)) rfl rfl rfl ?_
          refine pm_op_ok (i := .iconst 1) (st' := [.int 1, .int (Int32.ofNat b)]) (pe_d hx (show pm_fetch mk_96 59 = some (.iconst 1, 1, 0, 0, 0) from rfl)) rfl ?_
          refine pm_ld_ok (i := .iload 5) (x := 5) (k := 0) (n := 2) (v := .int (Int32.ofNat i)) (pe_d hx (show pm_fetch mk_96 60 = some (.iload 5, 2, 0, 0, 0) from rfl)) rfl rfl rfl ?_
          refine pm_op_ok (i := .ishl) (st' := [.int (1 <<< ((Int32.ofNat i) &&& 31)), .int (Int32.ofNat b)]) (pe_d hx (show pm_fetch mk_96 62 = some (.ishl, 1, 0, 0, 0) from rfl)) rfl ?_
          refine pm_op_ok (i := .ior) (st' := [.int ((Int32.ofNat b) ||| (1 <<< ((Int32.ofNat i) &&& 31)))]) (pe_d hx (show pm_fetch mk_96 63 = some (.ior, 1, 0, 0, 0) from rfl)) rfl ?_
          refine wy_eq (y := Int32.ofNat (b ||| 2 ^ i)) ((wy_or b hb i (by omega)).1) ?_
          show pm_Good sc mm_96 64 _ [.int (Int32.ofNat (b ||| 2 ^ i))] w 0 0 _
          refine pm_sto_ok (i := .istore 4) (x := 4) (k := 0) (n := 2) (pe_d hx (show pm_fetch mk_96 64 = some (.istore 4, 2, 0, 0, 0) from rfl)) rfl rfl (by decide) ?_
          refine pm_inc (i := 5) (n := 1) (x := Int32.ofNat i) (pe_d hx (show pm_fetch mk_96 66 = some (.iinc 5 1, 3, 0, 0, 0) from rfl)) rfl (by decide) ?_
          refine pm_goto (off := (-63)) (pe_d hx (show pm_fetch mk_96 69 = some (.goto (-63), 3, 0, 0, 0) from rfl)) (by decide) ?_
          show pm_Good sc mm_96 6 _ [] w 0 0 _
          refine pm_sub (lv' := [(0, .ref tw), (1, .int (Int32.ofNat m)), (2, .int pl), (3, .int (Int32.ofNat a)), (4, .int (Int32.ofNat (b ||| 2 ^ i))), (5, .int (Int32.ofNat (i + 1)))]) (fun q hq => ?_) (ih (i + 1) _ (by omega) (wy_or b hb i (by omega)).2)
          simp only [List.mem_cons, List.not_mem_nil, or_false] at hq
          rcases hq with rfl | rfl | rfl | rfl | rfl | rfl
          · exact List.mem_cons_of_mem _ (List.mem_cons_of_mem _ (List.mem_cons_of_mem _ (List.mem_cons_of_mem _ (List.mem_cons_self))))
          · exact List.mem_cons_of_mem _ (List.mem_cons_of_mem _ (List.mem_cons_of_mem _ (List.mem_cons_of_mem _ (List.mem_cons_of_mem _ (List.mem_cons_self)))))
          · exact List.mem_cons_of_mem _ (List.mem_cons_of_mem _ (List.mem_cons_of_mem _ (List.mem_cons_of_mem _ (List.mem_cons_of_mem _ (List.mem_cons_of_mem _ (List.mem_cons_self))))))
          · exact List.mem_cons_of_mem _ (List.mem_cons_of_mem _ (List.mem_cons_of_mem _ (List.mem_cons_of_mem _ (List.mem_cons_of_mem _ (List.mem_cons_of_mem _ (List.mem_cons_of_mem _ (List.mem_cons_self)))))))
          · exact List.mem_cons_of_mem _ (List.mem_cons_self)
          · rw [← wy_s i]; exact List.mem_cons_self
      refine wy_zE (off := 13) (pe_d hx (show pm_fetch mk_96 29 = some (.ifCond .eq 13, 3, 0, 0, 0) from rfl)) (by decide) (fun g2 => ?_) (fun g2 => ?_)
      · show pm_Good sc mm_96 42 _ [] w 0 0 _
        refine pm_ld_ok (i := .aload_n 0) (x := 0) (k := 2) (n := 1) (v := .ref tw) (pe_d hx (show pm_fetch mk_96 42 = some (.aload_n 0, 1, 0, 0, 0) from rfl)) rfl rfl rfl ?_
        refine pe_getf hx (show pm_fetch mk_96 43 = some (.getfield 15, 3, 6, 1, 100) from rfl) (by decide) ht h1 ?_
        refine pm_ld_ok (i := .iload 6) (x := 6) (k := 0) (n := 2) (v := .int (Int32.ofNat (4 * i + m))) (pe_d hx (show pm_fetch mk_96 46 = some (.iload 6, 2, 0, 0, 0) from rfl)) rfl rfl rfl ?_
        refine wy_ld (k := 4 * i + m) (pe_d hx (show pm_fetch mk_96 48 = some (.iaload, 1, 0, 0, 0) from rfl)) hA (by omega) (by omega) ?_
        rw [g2] at J
        exact J
      · show pm_Good sc mm_96 32 _ [] w 0 0 _
        refine pm_ld_ok (i := .aload_n 0) (x := 0) (k := 2) (n := 1) (v := .ref tw) (pe_d hx (show pm_fetch mk_96 32 = some (.aload_n 0, 1, 0, 0, 0) from rfl)) rfl rfl rfl ?_
        refine pe_getf hx (show pm_fetch mk_96 33 = some (.getfield 18, 3, 6, 2, 102) from rfl) (by decide) ht h2 ?_
        refine pm_ld_ok (i := .iload 6) (x := 6) (k := 0) (n := 2) (v := .int (Int32.ofNat (4 * i + m))) (pe_d hx (show pm_fetch mk_96 36 = some (.iload 6, 2, 0, 0, 0) from rfl)) rfl rfl rfl ?_
        refine wy_ld (k := 4 * i + m) (pe_d hx (show pm_fetch mk_96 38 = some (.iaload, 1, 0, 0, 0) from rfl)) hB (by omega) (by omega) ?_
        refine pm_goto (off := 10) (pe_d hx (show pm_fetch mk_96 39 = some (.goto 10, 3, 0, 0, 0) from rfl)) (by decide) ?_
        show pm_Good sc mm_96 49 _ [.int (Bs.getD (4 * i + m) 0)] w 0 0 _
        rw [g2] at J
        exact J
theorem wy_96 {w : pm_W} {tw qa qb : Nat} {ts : List Value} {As Bs : List Int32} {p m a : Nat} (ht : w[tw]? = some (.inr (6, ts))) (h1 : ts[1]? = some (.ref qa)) (h2 : ts[2]? = some (.ref qb)) (h4 : ts[4]? = some (.int (Int32.ofNat p))) (hA : w[qa]? = some (.inl (0, As))) (hAl : As.length = 20) (hB : w[qb]? = some (.inl (0, Bs))) (hBl : Bs.length = 20) (hp : p ≤ 5) (hm : m < 4) (ha : a < 32) {pl : Int32} : pm_GoodM sc mm_96 [.ref tw, .int (Int32.ofNat m), .int pl, .int (Int32.ofNat a)] w (wy_R w (Int32.ofNat (wy_pb (wy_c As Bs m a pl) p 0 0))) := by
  have hx : pm_kb mm_96 mk_96 = true := (pm_mt_ok (j := 96) (x := (mm_96, 3, 0, mk_96)) rfl).2
  unfold pm_GoodM
  show pm_Good sc mm_96 0 [(0, .ref tw), (1, .int (Int32.ofNat m)), (2, .int pl), (3, .int (Int32.ofNat a))] [] w 0 0 _
  refine pm_op_ok (i := .iconst 0) (st' := [.int 0]) (pe_d hx (show pm_fetch mk_96 0 = some (.iconst 0, 1, 0, 0, 0) from rfl)) rfl ?_
  refine pm_sto_ok (i := .istore 4) (x := 4) (k := 0) (n := 2) (pe_d hx (show pm_fetch mk_96 1 = some (.istore 4, 2, 0, 0, 0) from rfl)) rfl rfl (by decide) ?_
  refine pm_op_ok (i := .iconst 0) (st' := [.int 0]) (pe_d hx (show pm_fetch mk_96 3 = some (.iconst 0, 1, 0, 0, 0) from rfl)) rfl ?_
  refine pm_sto_ok (i := .istore 5) (x := 5) (k := 0) (n := 2) (pe_d hx (show pm_fetch mk_96 4 = some (.istore 5, 2, 0, 0, 0) from rfl)) rfl rfl (by decide) ?_
  refine pm_sub (lv' := [(0, .ref tw), (1, .int (Int32.ofNat m)), (2, .int pl), (3, .int (Int32.ofNat a)), (4, .int (Int32.ofNat 0)), (5, .int (Int32.ofNat 0))]) (fun q hq => ?_) (wy_96l ht h1 h2 h4 hA hAl hB hBl hp hm ha p 0 0 (by omega) (by omega))
  simp only [List.mem_cons, List.not_mem_nil, or_false] at hq
  rcases hq with rfl | rfl | rfl | rfl | rfl | rfl
  · exact List.mem_cons_of_mem _ (List.mem_cons_of_mem _ (List.mem_cons_self))
  · exact List.mem_cons_of_mem _ (List.mem_cons_of_mem _ (List.mem_cons_of_mem _ (List.mem_cons_self)))
  · exact List.mem_cons_of_mem _ (List.mem_cons_of_mem _ (List.mem_cons_of_mem _ (List.mem_cons_of_mem _ (List.mem_cons_self))))
  · exact List.mem_cons_of_mem _ (List.mem_cons_of_mem _ (List.mem_cons_of_mem _ (List.mem_cons_of_mem _ (List.mem_cons_of_mem _ (List.mem_cons_self)))))
  · exact List.mem_cons_of_mem _ (List.mem_cons_self)
  · exact List.mem_cons_self
theorem wy_lc {M : pm_M} {mk : pm_K} {pc : Nat} {lv : pm_L} {st : List Value} {w : pm_W} {ca sl idx a b p : Nat} (hx : pm_kb M mk = true) (he : pm_fetch mk pc = some (.ldc_w idx, 3, a, b, p)) (h : pm_Good sc M (pc + 3) lv (.int (Int32.ofNat a) :: st) w ca sl P) : pm_Good sc M pc lv st w ca sl P := by
  have hlb := pe_lb hx he
  simp only [pm_lb] at hlb
  exact pm_ldcw (pe_d hx he) (pm_is_ok hlb) h
theorem wy_70 {w : pm_W} {x : Int32} : pm_GoodM sc mm_70 [.int x] w (wy_R w (wy_bc x)) := by
  have hx : pm_kb mm_70 mk_70 = true := (pm_mt_ok (j := 70) (x := (mm_70, 1, 1, mk_70)) rfl).2
  unfold pm_GoodM
  show pm_Good sc mm_70 0 [(0, .int x)] [] w 0 0 _
  refine pm_ld_ok (i := .iload_n 0) (x := 0) (k := 0) (n := 1) (v := .int x) (pe_d hx (show pm_fetch mk_70 0 = some (.iload_n 0, 1, 0, 0, 0) from rfl)) rfl rfl rfl ?_
  refine pm_ld_ok (i := .iload_n 0) (x := 0) (k := 0) (n := 1) (v := .int x) (pe_d hx (show pm_fetch mk_70 1 = some (.iload_n 0, 1, 0, 0, 0) from rfl)) rfl rfl rfl ?_
  refine pm_op_ok (i := .iconst 1) (st' := [.int 1, .int x, .int x]) (pe_d hx (show pm_fetch mk_70 2 = some (.iconst 1, 1, 0, 0, 0) from rfl)) rfl ?_
  refine pm_op_ok (i := .iushr) (st' := [.int ((x.toUInt32 >>> ((1 : Int32).toUInt32 &&& Int32.toUInt32 31)).toInt32), .int x]) (pe_d hx (show pm_fetch mk_70 3 = some (.iushr, 1, 0, 0, 0) from rfl)) rfl ?_
  refine wy_lc hx (show pm_fetch mk_70 4 = some (.ldc_w 265, 3, 1431655765, 0, 517) from rfl) ?_
  refine pm_op_ok (i := .iand) (st' := [.int (((x.toUInt32 >>> ((1 : Int32).toUInt32 &&& Int32.toUInt32 31)).toInt32) &&& (Int32.ofNat 1431655765)), .int x]) (pe_d hx (show pm_fetch mk_70 7 = some (.iand, 1, 0, 0, 0) from rfl)) rfl ?_
  refine pm_op_ok (i := .isub) (st' := [.int (x - (((x.toUInt32 >>> ((1 : Int32).toUInt32 &&& Int32.toUInt32 31)).toInt32) &&& (Int32.ofNat 1431655765)))]) (pe_d hx (show pm_fetch mk_70 8 = some (.isub, 1, 0, 0, 0) from rfl)) rfl ?_
  refine wy_eq (y := wy_b1 x) (rfl) ?_
  show pm_Good sc mm_70 9 _ [.int (wy_b1 x)] w 0 0 _
  refine pm_sto_ok (i := .istore_n 0) (x := 0) (k := 0) (n := 1) (pe_d hx (show pm_fetch mk_70 9 = some (.istore_n 0, 1, 0, 0, 0) from rfl)) rfl rfl (by decide) ?_
  refine pm_ld_ok (i := .iload_n 0) (x := 0) (k := 0) (n := 1) (v := .int (wy_b1 x)) (pe_d hx (show pm_fetch mk_70 10 = some (.iload_n 0, 1, 0, 0, 0) from rfl)) rfl rfl rfl ?_
  refine wy_lc hx (show pm_fetch mk_70 11 = some (.ldc_w 266, 3, 858993459, 0, 518) from rfl) ?_
  refine pm_op_ok (i := .iand) (st' := [.int ((wy_b1 x) &&& (Int32.ofNat 858993459))]) (pe_d hx (show pm_fetch mk_70 14 = some (.iand, 1, 0, 0, 0) from rfl)) rfl ?_
  refine pm_ld_ok (i := .iload_n 0) (x := 0) (k := 0) (n := 1) (v := .int (wy_b1 x)) (pe_d hx (show pm_fetch mk_70 15 = some (.iload_n 0, 1, 0, 0, 0) from rfl)) rfl rfl rfl ?_
  refine pm_op_ok (i := .iconst 2) (st' := [.int 2, .int (wy_b1 x), .int ((wy_b1 x) &&& (Int32.ofNat 858993459))]) (pe_d hx (show pm_fetch mk_70 16 = some (.iconst 2, 1, 0, 0, 0) from rfl)) rfl ?_
  refine pm_op_ok (i := .iushr) (st' := [.int (((wy_b1 x).toUInt32 >>> ((2 : Int32).toUInt32 &&& Int32.toUInt32 31)).toInt32), .int ((wy_b1 x) &&& (Int32.ofNat 858993459))]) (pe_d hx (show pm_fetch mk_70 17 = some (.iushr, 1, 0, 0, 0) from rfl)) rfl ?_
  refine wy_lc hx (show pm_fetch mk_70 18 = some (.ldc_w 266, 3, 858993459, 0, 518) from rfl) ?_
  refine pm_op_ok (i := .iand) (st' := [.int ((((wy_b1 x).toUInt32 >>> ((2 : Int32).toUInt32 &&& Int32.toUInt32 31)).toInt32) &&& (Int32.ofNat 858993459)), .int ((wy_b1 x) &&& (Int32.ofNat 858993459))]) (pe_d hx (show pm_fetch mk_70 21 = some (.iand, 1, 0, 0, 0) from rfl)) rfl ?_
  refine pm_op_ok (i := .iadd) (st' := [.int (((wy_b1 x) &&& (Int32.ofNat 858993459)) + ((((wy_b1 x).toUInt32 >>> ((2 : Int32).toUInt32 &&& Int32.toUInt32 31)).toInt32) &&& (Int32.ofNat 858993459)))]) (pe_d hx (show pm_fetch mk_70 22 = some (.iadd, 1, 0, 0, 0) from rfl)) rfl ?_
  refine wy_eq (y := wy_b2 (wy_b1 x)) (rfl) ?_
  show pm_Good sc mm_70 23 _ [.int (wy_b2 (wy_b1 x))] w 0 0 _
  refine pm_sto_ok (i := .istore_n 0) (x := 0) (k := 0) (n := 1) (pe_d hx (show pm_fetch mk_70 23 = some (.istore_n 0, 1, 0, 0, 0) from rfl)) rfl rfl (by decide) ?_
  refine pm_ld_ok (i := .iload_n 0) (x := 0) (k := 0) (n := 1) (v := .int (wy_b2 (wy_b1 x))) (pe_d hx (show pm_fetch mk_70 24 = some (.iload_n 0, 1, 0, 0, 0) from rfl)) rfl rfl rfl ?_
  refine pm_ld_ok (i := .iload_n 0) (x := 0) (k := 0) (n := 1) (v := .int (wy_b2 (wy_b1 x))) (pe_d hx (show pm_fetch mk_70 25 = some (.iload_n 0, 1, 0, 0, 0) from rfl)) rfl rfl rfl ?_
  refine pm_op_ok (i := .iconst 4) (st' := [.int 4, .int (wy_b2 (wy_b1 x)), .int (wy_b2 (wy_b1 x))]) (pe_d hx (show pm_fetch mk_70 26 = some (.iconst 4, 1, 0, 0, 0) from rfl)) rfl ?_
  refine pm_op_ok (i := .iushr) (st' := [.int (((wy_b2 (wy_b1 x)).toUInt32 >>> ((4 : Int32).toUInt32 &&& Int32.toUInt32 31)).toInt32), .int (wy_b2 (wy_b1 x))]) (pe_d hx (show pm_fetch mk_70 27 = some (.iushr, 1, 0, 0, 0) from rfl)) rfl ?_
  refine pm_op_ok (i := .iadd) (st' := [.int ((wy_b2 (wy_b1 x)) + (((wy_b2 (wy_b1 x)).toUInt32 >>> ((4 : Int32).toUInt32 &&& Int32.toUInt32 31)).toInt32))]) (pe_d hx (show pm_fetch mk_70 28 = some (.iadd, 1, 0, 0, 0) from rfl)) rfl ?_
  refine wy_lc hx (show pm_fetch mk_70 29 = some (.ldc_w 267, 3, 252645135, 0, 519) from rfl) ?_
  refine pm_op_ok (i := .iand) (st' := [.int (((wy_b2 (wy_b1 x)) + (((wy_b2 (wy_b1 x)).toUInt32 >>> ((4 : Int32).toUInt32 &&& Int32.toUInt32 31)).toInt32)) &&& (Int32.ofNat 252645135))]) (pe_d hx (show pm_fetch mk_70 32 = some (.iand, 1, 0, 0, 0) from rfl)) rfl ?_
  refine wy_eq (y := wy_b3 (wy_b2 (wy_b1 x))) (rfl) ?_
  show pm_Good sc mm_70 33 _ [.int (wy_b3 (wy_b2 (wy_b1 x)))] w 0 0 _
  refine pm_sto_ok (i := .istore_n 0) (x := 0) (k := 0) (n := 1) (pe_d hx (show pm_fetch mk_70 33 = some (.istore_n 0, 1, 0, 0, 0) from rfl)) rfl rfl (by decide) ?_
  refine pm_ld_ok (i := .iload_n 0) (x := 0) (k := 0) (n := 1) (v := .int (wy_b3 (wy_b2 (wy_b1 x)))) (pe_d hx (show pm_fetch mk_70 34 = some (.iload_n 0, 1, 0, 0, 0) from rfl)) rfl rfl rfl ?_
  refine pm_ld_ok (i := .iload_n 0) (x := 0) (k := 0) (n := 1) (v := .int (wy_b3 (wy_b2 (wy_b1 x)))) (pe_d hx (show pm_fetch mk_70 35 = some (.iload_n 0, 1, 0, 0, 0) from rfl)) rfl rfl rfl ?_
  refine pm_op_ok (i := .bipush 8) (st' := [.int 8, .int (wy_b3 (wy_b2 (wy_b1 x))), .int (wy_b3 (wy_b2 (wy_b1 x)))]) (pe_d hx (show pm_fetch mk_70 36 = some (.bipush 8, 2, 0, 0, 0) from rfl)) rfl ?_
  refine pm_op_ok (i := .iushr) (st' := [.int (((wy_b3 (wy_b2 (wy_b1 x))).toUInt32 >>> ((8 : Int32).toUInt32 &&& Int32.toUInt32 31)).toInt32), .int (wy_b3 (wy_b2 (wy_b1 x)))]) (pe_d hx (show pm_fetch mk_70 38 = some (.iushr, 1, 0, 0, 0) from rfl)) rfl ?_
  refine pm_op_ok (i := .iadd) (st' := [.int ((wy_b3 (wy_b2 (wy_b1 x))) + (((wy_b3 (wy_b2 (wy_b1 x))).toUInt32 >>> ((8 : Int32).toUInt32 &&& Int32.toUInt32 31)).toInt32))]) (pe_d hx (show pm_fetch mk_70 39 = some (.iadd, 1, 0, 0, 0) from rfl)) rfl ?_
  refine wy_eq (y := wy_b4 (wy_b3 (wy_b2 (wy_b1 x)))) (rfl) ?_
  show pm_Good sc mm_70 40 _ [.int (wy_b4 (wy_b3 (wy_b2 (wy_b1 x))))] w 0 0 _
  refine pm_sto_ok (i := .istore_n 0) (x := 0) (k := 0) (n := 1) (pe_d hx (show pm_fetch mk_70 40 = some (.istore_n 0, 1, 0, 0, 0) from rfl)) rfl rfl (by decide) ?_
  refine pm_ld_ok (i := .iload_n 0) (x := 0) (k := 0) (n := 1) (v := .int (wy_b4 (wy_b3 (wy_b2 (wy_b1 x))))) (pe_d hx (show pm_fetch mk_70 41 = some (.iload_n 0, 1, 0, 0, 0) from rfl)) rfl rfl rfl ?_
  refine pm_ld_ok (i := .iload_n 0) (x := 0) (k := 0) (n := 1) (v := .int (wy_b4 (wy_b3 (wy_b2 (wy_b1 x))))) (pe_d hx (show pm_fetch mk_70 42 = some (.iload_n 0, 1, 0, 0, 0) from rfl)) rfl rfl rfl ?_
  refine pm_op_ok (i := .bipush 16) (st' := [.int 16, .int (wy_b4 (wy_b3 (wy_b2 (wy_b1 x)))), .int (wy_b4 (wy_b3 (wy_b2 (wy_b1 x))))]) (pe_d hx (show pm_fetch mk_70 43 = some (.bipush 16, 2, 0, 0, 0) from rfl)) rfl ?_
  refine pm_op_ok (i := .iushr) (st' := [.int (((wy_b4 (wy_b3 (wy_b2 (wy_b1 x)))).toUInt32 >>> ((16 : Int32).toUInt32 &&& Int32.toUInt32 31)).toInt32), .int (wy_b4 (wy_b3 (wy_b2 (wy_b1 x))))]) (pe_d hx (show pm_fetch mk_70 45 = some (.iushr, 1, 0, 0, 0) from rfl)) rfl ?_
  refine pm_op_ok (i := .iadd) (st' := [.int ((wy_b4 (wy_b3 (wy_b2 (wy_b1 x)))) + (((wy_b4 (wy_b3 (wy_b2 (wy_b1 x)))).toUInt32 >>> ((16 : Int32).toUInt32 &&& Int32.toUInt32 31)).toInt32))]) (pe_d hx (show pm_fetch mk_70 46 = some (.iadd, 1, 0, 0, 0) from rfl)) rfl ?_
  refine wy_eq (y := wy_b5 (wy_b4 (wy_b3 (wy_b2 (wy_b1 x))))) (rfl) ?_
  show pm_Good sc mm_70 47 _ [.int (wy_b5 (wy_b4 (wy_b3 (wy_b2 (wy_b1 x)))))] w 0 0 _
  refine pm_sto_ok (i := .istore_n 0) (x := 0) (k := 0) (n := 1) (pe_d hx (show pm_fetch mk_70 47 = some (.istore_n 0, 1, 0, 0, 0) from rfl)) rfl rfl (by decide) ?_
  refine pm_ld_ok (i := .iload_n 0) (x := 0) (k := 0) (n := 1) (v := .int (wy_b5 (wy_b4 (wy_b3 (wy_b2 (wy_b1 x)))))) (pe_d hx (show pm_fetch mk_70 48 = some (.iload_n 0, 1, 0, 0, 0) from rfl)) rfl rfl rfl ?_
  refine pm_op_ok (i := .bipush 63) (st' := [.int 63, .int (wy_b5 (wy_b4 (wy_b3 (wy_b2 (wy_b1 x)))))]) (pe_d hx (show pm_fetch mk_70 49 = some (.bipush 63, 2, 0, 0, 0) from rfl)) rfl ?_
  refine pm_op_ok (i := .iand) (st' := [.int ((wy_b5 (wy_b4 (wy_b3 (wy_b2 (wy_b1 x))))) &&& 63)]) (pe_d hx (show pm_fetch mk_70 51 = some (.iand, 1, 0, 0, 0) from rfl)) rfl ?_
  exact pm_iret (ty := .int) (pe_d hx (show pm_fetch mk_70 52 = some (.ireturn, 1, 0, 0, 0) from rfl)) rfl (rfl) (⟨rfl, rfl⟩)
theorem wy_97l {w : pm_W} {tw qa qb : Nat} {ts : List Value} {As Bs : List Int32} {p m a : Nat} (ht : w[tw]? = some (.inr (6, ts))) (h1 : ts[1]? = some (.ref qa)) (h2 : ts[2]? = some (.ref qb)) (h4 : ts[4]? = some (.int (Int32.ofNat p))) (hA : w[qa]? = some (.inl (0, As))) (hAl : As.length = 20) (hB : w[qb]? = some (.inl (0, Bs))) (hBl : Bs.length = 20) (hp : p ≤ 5) (hm : m < 4) (ha : a < 32) {ss : List Value} {Hs Ps Ks : List Int32} {sz : Nat} (hs : w[22]? = some (.inr (4, ss))) (s0 : ss[0]? = some (.ref 23)) (s1 : ss[1]? = some (.ref 24)) (s2 : ss[2]? = some (.ref 25)) (s3 : ss[3]? = some (.int (Int32.ofNat sz))) (hH : w[23]? = some (.inl (0, Hs))) (hHl : Hs.length = 6) (hP : w[24]? = some (.inl (0, Ps))) (hPl : Ps.length = 6) (hK : w[25]? = some (.inl (0, Ks))) (hKl : Ks.length = 6) (hsz : sz ≤ 6) : ∀ (f k : Nat), k + f = sz → pm_Good sc mm_97 14 [(0, .ref 22), (1, .ref tw), (2, .int (Int32.ofNat m)), (3, .int (Int32.ofNat a)), (4, .int (Int32.ofNat k))] [] w 0 0 (wy_R w (wy_i (wy_st As Bs Hs Ps Ks p m a f k))) := by
  have hx : pm_kb mm_97 mk_97 = true := (pm_mt_ok (j := 97) (x := (mm_97, 3, 0, mk_97)) rfl).2
  intro f
  induction f with
  | zero =>
    intro k hk
    refine pm_ld_ok (i := .iload 4) (x := 4) (k := 0) (n := 2) (v := .int (Int32.ofNat k)) (pe_d hx (show pm_fetch mk_97 14 = some (.iload 4, 2, 0, 0, 0) from rfl)) rfl rfl rfl ?_
    refine pm_ld_ok (i := .aload_n 0) (x := 0) (k := 2) (n := 1) (v := .ref 22) (pe_d hx (show pm_fetch mk_97 16 = some (.aload_n 0, 1, 0, 0, 0) from rfl)) rfl rfl rfl ?_
    refine pe_getf hx (show pm_fetch mk_97 17 = some (.getfield 21, 3, 4, 3, 207) from rfl) (by decide) hs s3 ?_
    refine wy_ge (off := 55) (pe_d hx (show pm_fetch mk_97 20 = some (.if_icmp .ge 55, 3, 0, 0, 0) from rfl)) (by decide) (n := k) (k := sz) (by omega) (by omega) (fun g1 => ?_) (fun g1 => ?_)
    · show pm_Good sc mm_97 75 _ [] w 0 0 _
      refine pm_op_ok (i := .iconst 1) (st' := [.int 1]) (pe_d hx (show pm_fetch mk_97 75 = some (.iconst 1, 1, 0, 0, 0) from rfl)) rfl ?_
      exact pm_iret (ty := .boolean) (pe_d hx (show pm_fetch mk_97 76 = some (.ireturn, 1, 0, 0, 0) from rfl)) rfl (rfl) (⟨rfl, rfl⟩)
    · show pm_Good sc mm_97 23 _ [] w 0 0 _
      exact absurd g1 (by omega)
  | succ f ih =>
    intro k hk
    refine pm_ld_ok (i := .iload 4) (x := 4) (k := 0) (n := 2) (v := .int (Int32.ofNat k)) (pe_d hx (show pm_fetch mk_97 14 = some (.iload 4, 2, 0, 0, 0) from rfl)) rfl rfl rfl ?_
    refine pm_ld_ok (i := .aload_n 0) (x := 0) (k := 2) (n := 1) (v := .ref 22) (pe_d hx (show pm_fetch mk_97 16 = some (.aload_n 0, 1, 0, 0, 0) from rfl)) rfl rfl rfl ?_
    refine pe_getf hx (show pm_fetch mk_97 17 = some (.getfield 21, 3, 4, 3, 207) from rfl) (by decide) hs s3 ?_
    refine wy_ge (off := 55) (pe_d hx (show pm_fetch mk_97 20 = some (.if_icmp .ge 55, 3, 0, 0, 0) from rfl)) (by decide) (n := k) (k := sz) (by omega) (by omega) (fun g1 => ?_) (fun g1 => ?_)
    · show pm_Good sc mm_97 75 _ [] w 0 0 _
      exact absurd g1 (by omega)
    · show pm_Good sc mm_97 23 _ [] w 0 0 _
      refine pm_ld_ok (i := .iload 4) (x := 4) (k := 0) (n := 2) (v := .int (Int32.ofNat k)) (pe_d hx (show pm_fetch mk_97 23 = some (.iload 4, 2, 0, 0, 0) from rfl)) rfl rfl rfl ?_
      refine pm_op_ok (i := .bipush 6) (st' := [.int 6, .int (Int32.ofNat k)]) (pe_d hx (show pm_fetch mk_97 25 = some (.bipush 6, 2, 0, 0, 0) from rfl)) rfl ?_
      refine wy_ge (off := 48) (pe_d hx (show pm_fetch mk_97 27 = some (.if_icmp .ge 48, 3, 0, 0, 0) from rfl)) (by decide) (n := k) (k := 6) (by omega) (by omega) (fun g2 => ?_) (fun g2 => ?_)
      · show pm_Good sc mm_97 75 _ [] w 0 0 _
        exact absurd g2 (by omega)
      · show pm_Good sc mm_97 30 _ [] w 0 0 _
        have K : (decide (Hs.getD k 0 = Int32.ofNat m) && !decide (Int32.ofNat (wy_n (wy_c As Bs m a (Ps.getD k 0)) p 0) = Ks.getD k 0)) = false → pm_Good sc mm_97 69 [(0, .ref 22), (1, .ref tw), (2, .int (Int32.ofNat m)), (3, .int (Int32.ofNat a)), (4, .int (Int32.ofNat k))] [] w 0 0 (wy_R w (wy_i (wy_st As Bs Hs Ps Ks p m a (f + 1) k))) := by
          intro hz
          have e : wy_st As Bs Hs Ps Ks p m a (f + 1) k = wy_st As Bs Hs Ps Ks p m a f (k + 1) := by rw [wy_st.eq_2, hz]; rfl
          rw [e]
          refine pm_inc (i := 4) (n := 1) (x := Int32.ofNat k) (pe_d hx (show pm_fetch mk_97 69 = some (.iinc 4 1, 3, 0, 0, 0) from rfl)) rfl (by decide) ?_
          refine pm_goto (off := (-58)) (pe_d hx (show pm_fetch mk_97 72 = some (.goto (-58), 3, 0, 0, 0) from rfl)) (by decide) ?_
          show pm_Good sc mm_97 14 _ [] w 0 0 _
          refine pm_sub (lv' := [(0, .ref 22), (1, .ref tw), (2, .int (Int32.ofNat m)), (3, .int (Int32.ofNat a)), (4, .int (Int32.ofNat (k + 1)))]) (fun q hq => ?_) (ih (k + 1) (by omega))
          simp only [List.mem_cons, List.not_mem_nil, or_false] at hq
          rcases hq with rfl | rfl | rfl | rfl | rfl
          · exact List.mem_cons_of_mem _ (List.mem_cons_self)
          · exact List.mem_cons_of_mem _ (List.mem_cons_of_mem _ (List.mem_cons_self))
          · exact List.mem_cons_of_mem _ (List.mem_cons_of_mem _ (List.mem_cons_of_mem _ (List.mem_cons_self)))
          · exact List.mem_cons_of_mem _ (List.mem_cons_of_mem _ (List.mem_cons_of_mem _ (List.mem_cons_of_mem _ (List.mem_cons_self))))
          · rw [← wy_s k]; exact List.mem_cons_self
        refine pm_ld_ok (i := .aload_n 0) (x := 0) (k := 2) (n := 1) (v := .ref 22) (pe_d hx (show pm_fetch mk_97 30 = some (.aload_n 0, 1, 0, 0, 0) from rfl)) rfl rfl rfl ?_
        refine pe_getf hx (show pm_fetch mk_97 31 = some (.getfield 9, 3, 4, 0, 204) from rfl) (by decide) hs s0 ?_
        refine pm_ld_ok (i := .iload 4) (x := 4) (k := 0) (n := 2) (v := .int (Int32.ofNat k)) (pe_d hx (show pm_fetch mk_97 34 = some (.iload 4, 2, 0, 0, 0) from rfl)) rfl rfl rfl ?_
        refine wy_ld (k := k) (pe_d hx (show pm_fetch mk_97 36 = some (.iaload, 1, 0, 0, 0) from rfl)) hH (by omega) (by omega) ?_
        refine pm_ld_ok (i := .iload_n 2) (x := 2) (k := 0) (n := 1) (v := .int (Int32.ofNat m)) (pe_d hx (show pm_fetch mk_97 37 = some (.iload_n 2, 1, 0, 0, 0) from rfl)) rfl rfl rfl ?_
        refine wy_ne (off := 31) (pe_d hx (show pm_fetch mk_97 38 = some (.if_icmp .ne 31, 3, 0, 0, 0) from rfl)) (by decide) (fun g3 => ?_) (fun g3 => ?_)
        · show pm_Good sc mm_97 69 _ [] w 0 0 _
          exact K (by rw [decide_eq_false g3]; rfl)
        · show pm_Good sc mm_97 41 _ [] w 0 0 _
          refine pm_ld_ok (i := .aload_n 1) (x := 1) (k := 2) (n := 1) (v := .ref tw) (pe_d hx (show pm_fetch mk_97 41 = some (.aload_n 1, 1, 0, 0, 0) from rfl)) rfl rfl rfl ?_
          refine pm_ld_ok (i := .iload_n 2) (x := 2) (k := 0) (n := 1) (v := .int (Int32.ofNat m)) (pe_d hx (show pm_fetch mk_97 42 = some (.iload_n 2, 1, 0, 0, 0) from rfl)) rfl rfl rfl ?_
          refine pm_ld_ok (i := .aload_n 0) (x := 0) (k := 2) (n := 1) (v := .ref 22) (pe_d hx (show pm_fetch mk_97 43 = some (.aload_n 0, 1, 0, 0, 0) from rfl)) rfl rfl rfl ?_
          refine pe_getf hx (show pm_fetch mk_97 44 = some (.getfield 15, 3, 4, 1, 205) from rfl) (by decide) hs s1 ?_
          refine pm_ld_ok (i := .iload 4) (x := 4) (k := 0) (n := 2) (v := .int (Int32.ofNat k)) (pe_d hx (show pm_fetch mk_97 47 = some (.iload 4, 2, 0, 0, 0) from rfl)) rfl rfl rfl ?_
          refine wy_ld (k := k) (pe_d hx (show pm_fetch mk_97 49 = some (.iaload, 1, 0, 0, 0) from rfl)) hP (by omega) (by omega) ?_
          refine pm_ld_ok (i := .iload_n 3) (x := 3) (k := 0) (n := 1) (v := .int (Int32.ofNat a)) (pe_d hx (show pm_fetch mk_97 50 = some (.iload_n 3, 1, 0, 0, 0) from rfl)) rfl rfl rfl ?_
          refine wy_cV (y := (mm_96, 3, 0, mk_96)) (As := [.int (Int32.ofNat m), .int (Ps.getD k 0), .int (Int32.ofNat a)]) (rest := []) (X := Int32.ofNat (wy_pb (wy_c As Bs m a (Ps.getD k 0)) p 0 0)) hx (show pm_fetch mk_97 51 = some (.invokevirtual 31, 3, 96, 0, 680) from rfl) rfl rfl rfl (fun v hv => by simp only [List.mem_cons, List.not_mem_nil, or_false] at hv; rcases hv with rfl | rfl | rfl <;> rfl) ht (show pm_cl[6]? = some _ from rfl) rfl (Nat.le_of_ble_eq_true rfl) (Nat.le_of_ble_eq_true rfl) (Nat.le_of_ble_eq_true rfl) (Nat.le_of_ble_eq_true rfl) (wy_96 ht h1 h2 h4 hA hAl hB hBl hp hm ha) ?_
          show pm_Good sc mm_97 54 _ [.int (Int32.ofNat (wy_pb (wy_c As Bs m a (Ps.getD k 0)) p 0 0))] w 0 0 _
          refine wy_cS (y := (mm_70, 1, 1, mk_70)) (As := [.int (Int32.ofNat (wy_pb (wy_c As Bs m a (Ps.getD k 0)) p 0 0))]) (rest := []) (X := wy_bc (Int32.ofNat (wy_pb (wy_c As Bs m a (Ps.getD k 0)) p 0 0))) hx (show pm_fetch mk_97 54 = some (.invokestatic 35, 3, 70, 0, 684) from rfl) rfl rfl rfl (fun v hv => by simp only [List.mem_cons, List.not_mem_nil, or_false] at hv; rcases hv with rfl <;> rfl) (Nat.le_of_ble_eq_true rfl) (Nat.le_of_ble_eq_true rfl) (Nat.le_of_ble_eq_true rfl) (Nat.le_of_ble_eq_true rfl) (wy_70) ?_
          show pm_Good sc mm_97 57 _ [.int (wy_bc (Int32.ofNat (wy_pb (wy_c As Bs m a (Ps.getD k 0)) p 0 0)))] w 0 0 _
          refine wy_eq (y := Int32.ofNat (wy_n (wy_c As Bs m a (Ps.getD k 0)) p 0)) (by rw [wy_bc_ok _ (wy_pb_lt _ _ _ _ (by omega) (by omega)), wy_pn _ hp]) ?_
          show pm_Good sc mm_97 57 _ [.int (Int32.ofNat (wy_n (wy_c As Bs m a (Ps.getD k 0)) p 0))] w 0 0 _
          refine pm_ld_ok (i := .aload_n 0) (x := 0) (k := 2) (n := 1) (v := .ref 22) (pe_d hx (show pm_fetch mk_97 57 = some (.aload_n 0, 1, 0, 0, 0) from rfl)) rfl rfl rfl ?_
          refine pe_getf hx (show pm_fetch mk_97 58 = some (.getfield 18, 3, 4, 2, 206) from rfl) (by decide) hs s2 ?_
          refine pm_ld_ok (i := .iload 4) (x := 4) (k := 0) (n := 2) (v := .int (Int32.ofNat k)) (pe_d hx (show pm_fetch mk_97 61 = some (.iload 4, 2, 0, 0, 0) from rfl)) rfl rfl rfl ?_
          refine wy_ld (k := k) (pe_d hx (show pm_fetch mk_97 63 = some (.iaload, 1, 0, 0, 0) from rfl)) hK (by omega) (by omega) ?_
          refine wy_qe (off := 5) (pe_d hx (show pm_fetch mk_97 64 = some (.if_icmp .eq 5, 3, 0, 0, 0) from rfl)) (by decide) (fun g4 => ?_) (fun g4 => ?_)
          · show pm_Good sc mm_97 69 _ [] w 0 0 _
            exact K (by rw [decide_eq_true g4]; exact Bool.and_false _)
          · show pm_Good sc mm_97 67 _ [] w 0 0 _
            refine pm_op_ok (i := .iconst 0) (st' := [.int 0]) (pe_d hx (show pm_fetch mk_97 67 = some (.iconst 0, 1, 0, 0, 0) from rfl)) rfl ?_
            have e : wy_st As Bs Hs Ps Ks p m a (f + 1) k = false := by rw [wy_st.eq_2, decide_eq_true g3, decide_eq_false g4]; rfl
            rw [e]
            exact pm_iret (ty := .boolean) (pe_d hx (show pm_fetch mk_97 68 = some (.ireturn, 1, 0, 0, 0) from rfl)) rfl (rfl) (⟨rfl, rfl⟩)
theorem wy_97 {w : pm_W} {tw qa qb : Nat} {ts : List Value} {As Bs : List Int32} {p m a : Nat} (ht : w[tw]? = some (.inr (6, ts))) (h1 : ts[1]? = some (.ref qa)) (h2 : ts[2]? = some (.ref qb)) (h4 : ts[4]? = some (.int (Int32.ofNat p))) (hA : w[qa]? = some (.inl (0, As))) (hAl : As.length = 20) (hB : w[qb]? = some (.inl (0, Bs))) (hBl : Bs.length = 20) (hp : p ≤ 5) (hm : m < 4) (ha : a < 32) {ss : List Value} {Hs Ps Ks : List Int32} {sz : Nat} (hs : w[22]? = some (.inr (4, ss))) (s0 : ss[0]? = some (.ref 23)) (s1 : ss[1]? = some (.ref 24)) (s2 : ss[2]? = some (.ref 25)) (s3 : ss[3]? = some (.int (Int32.ofNat sz))) (hH : w[23]? = some (.inl (0, Hs))) (hHl : Hs.length = 6) (hP : w[24]? = some (.inl (0, Ps))) (hPl : Ps.length = 6) (hK : w[25]? = some (.inl (0, Ks))) (hKl : Ks.length = 6) (hsz : sz ≤ 6) : pm_GoodM sc mm_97 [.ref 22, .ref tw, .int (Int32.ofNat m), .int (Int32.ofNat a)] w (wy_R w (wy_i (wy_al As Bs Hs Ps Ks p sz m a))) := by
  have hx : pm_kb mm_97 mk_97 = true := (pm_mt_ok (j := 97) (x := (mm_97, 3, 0, mk_97)) rfl).2
  unfold pm_GoodM
  show pm_Good sc mm_97 0 [(0, .ref 22), (1, .ref tw), (2, .int (Int32.ofNat m)), (3, .int (Int32.ofNat a))] [] w 0 0 _
  refine pm_ld_ok (i := .aload_n 1) (x := 1) (k := 2) (n := 1) (v := .ref tw) (pe_d hx (show pm_fetch mk_97 0 = some (.aload_n 1, 1, 0, 0, 0) from rfl)) rfl rfl rfl ?_
  refine pm_ld_ok (i := .iload_n 2) (x := 2) (k := 0) (n := 1) (v := .int (Int32.ofNat m)) (pe_d hx (show pm_fetch mk_97 1 = some (.iload_n 2, 1, 0, 0, 0) from rfl)) rfl rfl rfl ?_
  refine pm_ld_ok (i := .iload_n 3) (x := 3) (k := 0) (n := 1) (v := .int (Int32.ofNat a)) (pe_d hx (show pm_fetch mk_97 2 = some (.iload_n 3, 1, 0, 0, 0) from rfl)) rfl rfl rfl ?_
  refine wy_cV (y := (mm_95, 2, 0, mk_95)) (As := [.int (Int32.ofNat m), .int (Int32.ofNat a)]) (rest := []) (X := wy_i (wy_cb As Bs p m a 5 0)) hx (show pm_fetch mk_97 3 = some (.invokevirtual 25, 3, 95, 0, 676) from rfl) rfl rfl rfl (fun v hv => by simp only [List.mem_cons, List.not_mem_nil, or_false] at hv; rcases hv with rfl | rfl <;> rfl) ht (show pm_cl[6]? = some _ from rfl) rfl (Nat.le_of_ble_eq_true rfl) (Nat.le_of_ble_eq_true rfl) (Nat.le_of_ble_eq_true rfl) (Nat.le_of_ble_eq_true rfl) (wy_95 ht h1 h2 h4 hA hAl hB hBl hp hm ha) ?_
  show pm_Good sc mm_97 6 _ [.int (wy_i (wy_cb As Bs p m a 5 0))] w 0 0 _
  refine wy_zN (off := 5) (pe_d hx (show pm_fetch mk_97 6 = some (.ifCond .ne 5, 3, 0, 0, 0) from rfl)) (by decide) (fun g1 => ?_) (fun g1 => ?_)
  · show pm_Good sc mm_97 11 _ [] w 0 0 _
    have e : wy_al As Bs Hs Ps Ks p sz m a = wy_st As Bs Hs Ps Ks p m a sz 0 := by unfold wy_al; rw [g1]; rfl
    rw [e]
    refine pm_op_ok (i := .iconst 0) (st' := [.int 0]) (pe_d hx (show pm_fetch mk_97 11 = some (.iconst 0, 1, 0, 0, 0) from rfl)) rfl ?_
    refine pm_sto_ok (i := .istore 4) (x := 4) (k := 0) (n := 2) (pe_d hx (show pm_fetch mk_97 12 = some (.istore 4, 2, 0, 0, 0) from rfl)) rfl rfl (by decide) ?_
    refine pm_sub (lv' := [(0, .ref 22), (1, .ref tw), (2, .int (Int32.ofNat m)), (3, .int (Int32.ofNat a)), (4, .int (Int32.ofNat 0))]) (fun q hq => ?_) (wy_97l ht h1 h2 h4 hA hAl hB hBl hp hm ha hs s0 s1 s2 s3 hH hHl hP hPl hK hKl hsz sz 0 (by omega))
    simp only [List.mem_cons, List.not_mem_nil, or_false] at hq
    rcases hq with rfl | rfl | rfl | rfl | rfl
    · exact List.mem_cons_of_mem _ (List.mem_cons_self)
    · exact List.mem_cons_of_mem _ (List.mem_cons_of_mem _ (List.mem_cons_self))
    · exact List.mem_cons_of_mem _ (List.mem_cons_of_mem _ (List.mem_cons_of_mem _ (List.mem_cons_self)))
    · exact List.mem_cons_of_mem _ (List.mem_cons_of_mem _ (List.mem_cons_of_mem _ (List.mem_cons_of_mem _ (List.mem_cons_self))))
    · exact List.mem_cons_self
  · show pm_Good sc mm_97 9 _ [] w 0 0 _
    refine pm_op_ok (i := .iconst 0) (st' := [.int 0]) (pe_d hx (show pm_fetch mk_97 9 = some (.iconst 0, 1, 0, 0, 0) from rfl)) rfl ?_
    have e : wy_al As Bs Hs Ps Ks p sz m a = false := by unfold wy_al; rw [g1]; rfl
    rw [e]
    exact pm_iret (ty := .boolean) (pe_d hx (show pm_fetch mk_97 10 = some (.ireturn, 1, 0, 0, 0) from rfl)) rfl (rfl) (⟨rfl, rfl⟩)
theorem wy_104l {w : pm_W} {tw qa qb : Nat} {ts : List Value} {As Bs : List Int32} {p m : Nat} (ht : w[tw]? = some (.inr (6, ts))) (h1 : ts[1]? = some (.ref qa)) (h2 : ts[2]? = some (.ref qb)) (h4 : ts[4]? = some (.int (Int32.ofNat p))) (hA : w[qa]? = some (.inl (0, As))) (hAl : As.length = 20) (hB : w[qb]? = some (.inl (0, Bs))) (hBl : Bs.length = 20) (hp : p ≤ 5) (hm : m < 4) {ss : List Value} {Hs Ps Ks : List Int32} {sz : Nat} (hs : w[22]? = some (.inr (4, ss))) (s0 : ss[0]? = some (.ref 23)) (s1 : ss[1]? = some (.ref 24)) (s2 : ss[2]? = some (.ref 25)) (s3 : ss[3]? = some (.int (Int32.ofNat sz))) (hH : w[23]? = some (.inl (0, Hs))) (hHl : Hs.length = 6) (hP : w[24]? = some (.inl (0, Ps))) (hPl : Ps.length = 6) (hK : w[25]? = some (.inl (0, Ks))) (hKl : Ks.length = 6) (hsz : sz ≤ 6) {fs : List Value} (h0 : w[0]? = some (.inr (7, fs))) (f1 : fs[1]? = some (.ref tw)) (f5 : fs[5]? = some (.ref 22)) : ∀ (f a n : Nat), a + f = 32 → pm_Good sc mm_104 13 [(0, .ref 0), (1, .int (Int32.ofNat m)), (2, .int (Int32.ofNat n)), (3, .int (Int32.ofNat a))] [] w 0 0 (wy_R w (Int32.ofNat (wy_w (wy_al As Bs Hs Ps Ks p sz m) f a n))) := by
  have hx : pm_kb mm_104 mk_104 = true := (pm_mt_ok (j := 104) (x := (mm_104, 1, 0, mk_104)) rfl).2
  intro f
  induction f with
  | zero =>
    intro a n ha
    refine pm_ld_ok (i := .iload_n 3) (x := 3) (k := 0) (n := 1) (v := .int (Int32.ofNat a)) (pe_d hx (show pm_fetch mk_104 13 = some (.iload_n 3, 1, 0, 0, 0) from rfl)) rfl rfl rfl ?_
    refine pm_op_ok (i := .bipush 32) (st' := [.int 32, .int (Int32.ofNat a)]) (pe_d hx (show pm_fetch mk_104 14 = some (.bipush 32, 2, 0, 0, 0) from rfl)) rfl ?_
    refine wy_ge (off := 28) (pe_d hx (show pm_fetch mk_104 16 = some (.if_icmp .ge 28, 3, 0, 0, 0) from rfl)) (by decide) (n := a) (k := 32) (by omega) (by omega) (fun g1 => ?_) (fun g1 => ?_)
    · show pm_Good sc mm_104 44 _ [] w 0 0 _
      refine pm_ld_ok (i := .iload_n 2) (x := 2) (k := 0) (n := 1) (v := .int (Int32.ofNat n)) (pe_d hx (show pm_fetch mk_104 44 = some (.iload_n 2, 1, 0, 0, 0) from rfl)) rfl rfl rfl ?_
      exact pm_iret (ty := .int) (pe_d hx (show pm_fetch mk_104 45 = some (.ireturn, 1, 0, 0, 0) from rfl)) rfl (rfl) (⟨rfl, rfl⟩)
    · show pm_Good sc mm_104 19 _ [] w 0 0 _
      exact absurd g1 (by omega)
  | succ f ih =>
    intro a n ha
    refine pm_ld_ok (i := .iload_n 3) (x := 3) (k := 0) (n := 1) (v := .int (Int32.ofNat a)) (pe_d hx (show pm_fetch mk_104 13 = some (.iload_n 3, 1, 0, 0, 0) from rfl)) rfl rfl rfl ?_
    refine pm_op_ok (i := .bipush 32) (st' := [.int 32, .int (Int32.ofNat a)]) (pe_d hx (show pm_fetch mk_104 14 = some (.bipush 32, 2, 0, 0, 0) from rfl)) rfl ?_
    refine wy_ge (off := 28) (pe_d hx (show pm_fetch mk_104 16 = some (.if_icmp .ge 28, 3, 0, 0, 0) from rfl)) (by decide) (n := a) (k := 32) (by omega) (by omega) (fun g1 => ?_) (fun g1 => ?_)
    · show pm_Good sc mm_104 44 _ [] w 0 0 _
      exact absurd g1 (by omega)
    · show pm_Good sc mm_104 19 _ [] w 0 0 _
      refine pm_ld_ok (i := .aload_n 0) (x := 0) (k := 2) (n := 1) (v := .ref 0) (pe_d hx (show pm_fetch mk_104 19 = some (.aload_n 0, 1, 0, 0, 0) from rfl)) rfl rfl rfl ?_
      refine pe_getf hx (show pm_fetch mk_104 20 = some (.getfield 43, 3, 7, 5, 381) from rfl) (by decide) h0 f5 ?_
      refine pm_ld_ok (i := .aload_n 0) (x := 0) (k := 2) (n := 1) (v := .ref 0) (pe_d hx (show pm_fetch mk_104 23 = some (.aload_n 0, 1, 0, 0, 0) from rfl)) rfl rfl rfl ?_
      refine pe_getf hx (show pm_fetch mk_104 24 = some (.getfield 19, 3, 7, 1, 377) from rfl) (by decide) h0 f1 ?_
      refine pm_ld_ok (i := .iload_n 1) (x := 1) (k := 0) (n := 1) (v := .int (Int32.ofNat m)) (pe_d hx (show pm_fetch mk_104 27 = some (.iload_n 1, 1, 0, 0, 0) from rfl)) rfl rfl rfl ?_
      refine pm_ld_ok (i := .iload_n 3) (x := 3) (k := 0) (n := 1) (v := .int (Int32.ofNat a)) (pe_d hx (show pm_fetch mk_104 28 = some (.iload_n 3, 1, 0, 0, 0) from rfl)) rfl rfl rfl ?_
      refine wy_cV (y := (mm_97, 3, 0, mk_97)) (As := [.ref tw, .int (Int32.ofNat m), .int (Int32.ofNat a)]) (rest := []) (X := wy_i (wy_al As Bs Hs Ps Ks p sz m a)) hx (show pm_fetch mk_104 29 = some (.invokevirtual 233, 3, 97, 0, 672) from rfl) rfl rfl rfl (fun v hv => by simp only [List.mem_cons, List.not_mem_nil, or_false] at hv; rcases hv with rfl | rfl | rfl <;> rfl) hs (show pm_cl[4]? = some _ from rfl) rfl (Nat.le_of_ble_eq_true rfl) (Nat.le_of_ble_eq_true rfl) (Nat.le_of_ble_eq_true rfl) (Nat.le_of_ble_eq_true rfl) (wy_97 ht h1 h2 h4 hA hAl hB hBl hp hm (by omega) hs s0 s1 s2 s3 hH hHl hP hPl hK hKl hsz) ?_
      show pm_Good sc mm_104 32 _ [.int (wy_i (wy_al As Bs Hs Ps Ks p sz m a))] w 0 0 _
      refine wy_zE (off := 6) (pe_d hx (show pm_fetch mk_104 32 = some (.ifCond .eq 6, 3, 0, 0, 0) from rfl)) (by decide) (fun g2 => ?_) (fun g2 => ?_)
      · show pm_Good sc mm_104 38 _ [] w 0 0 _
        unfold wy_w
        rw [g2]
        refine pm_inc (i := 3) (n := 1) (x := Int32.ofNat a) (pe_d hx (show pm_fetch mk_104 38 = some (.iinc 3 1, 3, 0, 0, 0) from rfl)) rfl (by decide) ?_
        refine pm_goto (off := (-28)) (pe_d hx (show pm_fetch mk_104 41 = some (.goto (-28), 3, 0, 0, 0) from rfl)) (by decide) ?_
        show pm_Good sc mm_104 13 _ [] w 0 0 _
        refine pm_sub (lv' := [(0, .ref 0), (1, .int (Int32.ofNat m)), (2, .int (Int32.ofNat n)), (3, .int (Int32.ofNat (a + 1)))]) (fun q hq => ?_) (ih (a + 1) n (by omega))
        simp only [List.mem_cons, List.not_mem_nil, or_false] at hq
        rcases hq with rfl | rfl | rfl | rfl
        · exact List.mem_cons_of_mem _ (List.mem_cons_self)
        · exact List.mem_cons_of_mem _ (List.mem_cons_of_mem _ (List.mem_cons_self))
        · exact List.mem_cons_of_mem _ (List.mem_cons_of_mem _ (List.mem_cons_of_mem _ (List.mem_cons_self)))
        · rw [← wy_s a]; exact List.mem_cons_self
      · show pm_Good sc mm_104 35 _ [] w 0 0 _
        unfold wy_w
        rw [g2]
        refine pm_inc (i := 2) (n := 1) (x := Int32.ofNat n) (pe_d hx (show pm_fetch mk_104 35 = some (.iinc 2 1, 3, 0, 0, 0) from rfl)) rfl (by decide) ?_
        refine pm_inc (i := 3) (n := 1) (x := Int32.ofNat a) (pe_d hx (show pm_fetch mk_104 38 = some (.iinc 3 1, 3, 0, 0, 0) from rfl)) rfl (by decide) ?_
        refine pm_goto (off := (-28)) (pe_d hx (show pm_fetch mk_104 41 = some (.goto (-28), 3, 0, 0, 0) from rfl)) (by decide) ?_
        show pm_Good sc mm_104 13 _ [] w 0 0 _
        refine pm_sub (lv' := [(0, .ref 0), (1, .int (Int32.ofNat m)), (2, .int (Int32.ofNat (n + 1))), (3, .int (Int32.ofNat (a + 1)))]) (fun q hq => ?_) (ih (a + 1) (n + 1) (by omega))
        simp only [List.mem_cons, List.not_mem_nil, or_false] at hq
        rcases hq with rfl | rfl | rfl | rfl
        · exact List.mem_cons_of_mem _ (List.mem_cons_of_mem _ (List.mem_cons_self))
        · exact List.mem_cons_of_mem _ (List.mem_cons_of_mem _ (List.mem_cons_of_mem _ (List.mem_cons_self)))
        · rw [← wy_s n]; exact List.mem_cons_of_mem _ (List.mem_cons_self)
        · rw [← wy_s a]; exact List.mem_cons_self
theorem wy_104 {w : pm_W} {tw qa qb : Nat} {ts : List Value} {As Bs : List Int32} {p m : Nat} (ht : w[tw]? = some (.inr (6, ts))) (h1 : ts[1]? = some (.ref qa)) (h2 : ts[2]? = some (.ref qb)) (h4 : ts[4]? = some (.int (Int32.ofNat p))) (hA : w[qa]? = some (.inl (0, As))) (hAl : As.length = 20) (hB : w[qb]? = some (.inl (0, Bs))) (hBl : Bs.length = 20) (hp : p ≤ 5) (hm : m < 4) {ss : List Value} {Hs Ps Ks : List Int32} {sz : Nat} (hs : w[22]? = some (.inr (4, ss))) (s0 : ss[0]? = some (.ref 23)) (s1 : ss[1]? = some (.ref 24)) (s2 : ss[2]? = some (.ref 25)) (s3 : ss[3]? = some (.int (Int32.ofNat sz))) (hH : w[23]? = some (.inl (0, Hs))) (hHl : Hs.length = 6) (hP : w[24]? = some (.inl (0, Ps))) (hPl : Ps.length = 6) (hK : w[25]? = some (.inl (0, Ks))) (hKl : Ks.length = 6) (hsz : sz ≤ 6) {fs : List Value} (h0 : w[0]? = some (.inr (7, fs))) (f1 : fs[1]? = some (.ref tw)) (f5 : fs[5]? = some (.ref 22)) : pm_GoodM sc mm_104 [.ref 0, .int (Int32.ofNat m)] w (wy_R w (Int32.ofNat (wy_w (wy_al As Bs Hs Ps Ks p sz m) 32 0 0))) := by
  have hx : pm_kb mm_104 mk_104 = true := (pm_mt_ok (j := 104) (x := (mm_104, 1, 0, mk_104)) rfl).2
  unfold pm_GoodM
  show pm_Good sc mm_104 0 [(0, .ref 0), (1, .int (Int32.ofNat m))] [] w 0 0 _
  refine pm_ld_ok (i := .iload_n 1) (x := 1) (k := 0) (n := 1) (v := .int (Int32.ofNat m)) (pe_d hx (show pm_fetch mk_104 0 = some (.iload_n 1, 1, 0, 0, 0) from rfl)) rfl rfl rfl ?_
  refine wy_cS (y := (mm_24, 1, 1, mk_24)) (As := [.int (Int32.ofNat m)]) (rest := []) (X := wy_i (decide (0 ≤ (Int32.ofNat m).toInt ∧ (Int32.ofNat m).toInt ≤ 3))) hx (show pm_fetch mk_104 1 = some (.invokestatic 103, 3, 24, 0, 437) from rfl) rfl rfl rfl (fun v hv => by simp only [List.mem_cons, List.not_mem_nil, or_false] at hv; rcases hv with rfl <;> rfl) (Nat.le_of_ble_eq_true rfl) (Nat.le_of_ble_eq_true rfl) (Nat.le_of_ble_eq_true rfl) (Nat.le_of_ble_eq_true rfl) (wy_24) ?_
  show pm_Good sc mm_104 4 _ [.int (wy_i (decide (0 ≤ (Int32.ofNat m).toInt ∧ (Int32.ofNat m).toInt ≤ 3)))] w 0 0 _
  refine wy_eq (y := wy_i true) (by rw [decide_eq_true (by rw [wy_t (by omega)]; omega)]) ?_
  show pm_Good sc mm_104 4 _ [.int (wy_i true)] w 0 0 _
  refine wy_zN (off := 5) (pe_d hx (show pm_fetch mk_104 4 = some (.ifCond .ne 5, 3, 0, 0, 0) from rfl)) (by decide) (fun g1 => ?_) (fun g1 => ?_)
  · show pm_Good sc mm_104 9 _ [] w 0 0 _
    refine pm_op_ok (i := .iconst 0) (st' := [.int 0]) (pe_d hx (show pm_fetch mk_104 9 = some (.iconst 0, 1, 0, 0, 0) from rfl)) rfl ?_
    refine pm_sto_ok (i := .istore_n 2) (x := 2) (k := 0) (n := 1) (pe_d hx (show pm_fetch mk_104 10 = some (.istore_n 2, 1, 0, 0, 0) from rfl)) rfl rfl (by decide) ?_
    refine pm_op_ok (i := .iconst 0) (st' := [.int 0]) (pe_d hx (show pm_fetch mk_104 11 = some (.iconst 0, 1, 0, 0, 0) from rfl)) rfl ?_
    refine pm_sto_ok (i := .istore_n 3) (x := 3) (k := 0) (n := 1) (pe_d hx (show pm_fetch mk_104 12 = some (.istore_n 3, 1, 0, 0, 0) from rfl)) rfl rfl (by decide) ?_
    refine pm_sub (lv' := [(0, .ref 0), (1, .int (Int32.ofNat m)), (2, .int (Int32.ofNat 0)), (3, .int (Int32.ofNat 0))]) (fun q hq => ?_) (wy_104l ht h1 h2 h4 hA hAl hB hBl hp hm hs s0 s1 s2 s3 hH hHl hP hPl hK hKl hsz h0 f1 f5 32 0 0 rfl)
    simp only [List.mem_cons, List.not_mem_nil, or_false] at hq
    rcases hq with rfl | rfl | rfl | rfl
    · exact List.mem_cons_of_mem _ (List.mem_cons_of_mem _ (List.mem_cons_self))
    · exact List.mem_cons_of_mem _ (List.mem_cons_of_mem _ (List.mem_cons_of_mem _ (List.mem_cons_self)))
    · exact List.mem_cons_of_mem _ (List.mem_cons_self)
    · exact List.mem_cons_self
  · show pm_Good sc mm_104 7 _ [] w 0 0 _
    cases g1
theorem wy_104n {w : pm_W} {k : Int32} (hk : ¬ (0 ≤ k.toInt ∧ k.toInt ≤ 3)) : pm_GoodM sc mm_104 [.ref 0, .int k] w (wy_R w (-1)) := by
  have hx : pm_kb mm_104 mk_104 = true := (pm_mt_ok (j := 104) (x := (mm_104, 1, 0, mk_104)) rfl).2
  unfold pm_GoodM
  show pm_Good sc mm_104 0 [(0, .ref 0), (1, .int k)] [] w 0 0 _
  refine pm_ld_ok (i := .iload_n 1) (x := 1) (k := 0) (n := 1) (v := .int k) (pe_d hx (show pm_fetch mk_104 0 = some (.iload_n 1, 1, 0, 0, 0) from rfl)) rfl rfl rfl ?_
  refine wy_cS (y := (mm_24, 1, 1, mk_24)) (As := [.int k]) (rest := []) (X := wy_i (decide (0 ≤ k.toInt ∧ k.toInt ≤ 3))) hx (show pm_fetch mk_104 1 = some (.invokestatic 103, 3, 24, 0, 437) from rfl) rfl rfl rfl (fun v hv => by simp only [List.mem_cons, List.not_mem_nil, or_false] at hv; rcases hv with rfl <;> rfl) (Nat.le_of_ble_eq_true rfl) (Nat.le_of_ble_eq_true rfl) (Nat.le_of_ble_eq_true rfl) (Nat.le_of_ble_eq_true rfl) (wy_24) ?_
  show pm_Good sc mm_104 4 _ [.int (wy_i (decide (0 ≤ k.toInt ∧ k.toInt ≤ 3)))] w 0 0 _
  refine wy_eq (y := wy_i false) (by rw [decide_eq_false hk]) ?_
  show pm_Good sc mm_104 4 _ [.int (wy_i false)] w 0 0 _
  refine wy_zN (off := 5) (pe_d hx (show pm_fetch mk_104 4 = some (.ifCond .ne 5, 3, 0, 0, 0) from rfl)) (by decide) (fun g1 => ?_) (fun g1 => ?_)
  · show pm_Good sc mm_104 9 _ [] w 0 0 _
    cases g1
  · show pm_Good sc mm_104 7 _ [] w 0 0 _
    refine pm_op_ok (i := .iconst (-1)) (st' := [.int (-1)]) (pe_d hx (show pm_fetch mk_104 7 = some (.iconst (-1), 1, 0, 0, 0) from rfl)) rfl ?_
    exact pm_iret (ty := .int) (pe_d hx (show pm_fetch mk_104 8 = some (.ireturn, 1, 0, 0, 0) from rfl)) rfl (rfl) (⟨rfl, rfl⟩)
theorem wy_98l {w : pm_W} {tw qa qb : Nat} {ts : List Value} {As Bs : List Int32} {p m : Nat} (ht : w[tw]? = some (.inr (6, ts))) (h1 : ts[1]? = some (.ref qa)) (h2 : ts[2]? = some (.ref qb)) (h4 : ts[4]? = some (.int (Int32.ofNat p))) (hA : w[qa]? = some (.inl (0, As))) (hAl : As.length = 20) (hB : w[qb]? = some (.inl (0, Bs))) (hBl : Bs.length = 20) (hp : p ≤ 5) (hm : m < 4) {ss : List Value} {Hs Ps Ks : List Int32} {sz : Nat} (hs : w[22]? = some (.inr (4, ss))) (s0 : ss[0]? = some (.ref 23)) (s1 : ss[1]? = some (.ref 24)) (s2 : ss[2]? = some (.ref 25)) (s3 : ss[3]? = some (.int (Int32.ofNat sz))) (hH : w[23]? = some (.inl (0, Hs))) (hHl : Hs.length = 6) (hP : w[24]? = some (.inl (0, Ps))) (hPl : Ps.length = 6) (hK : w[25]? = some (.inl (0, Ks))) (hKl : Ks.length = 6) (hsz : sz ≤ 6) {fs : List Value} (h0 : w[0]? = some (.inr (7, fs))) (f1 : fs[1]? = some (.ref tw)) (f5 : fs[5]? = some (.ref 22)) {pl : Nat} : ∀ (f a t : Nat) (y : Bool), a + f = 32 → t < 32 → pm_Good sc mm_98 25 [(0, .ref 0), (1, .int (Int32.ofNat m)), (2, .int (Int32.ofNat pl)), (3, .int (wy_i y)), (4, .int (Int32.ofNat t)), (5, .int (Int32.ofNat a))] [] w 0 0 (wy_R w (bif (wy_su (wy_al As Bs Hs Ps Ks p sz m) (fun a => wy_pb (wy_c As Bs m a (Int32.ofNat pl)) p 0 0) f a y t).1 then Int32.ofNat (wy_su (wy_al As Bs Hs Ps Ks p sz m) (fun a => wy_pb (wy_c As Bs m a (Int32.ofNat pl)) p 0 0) f a y t).2 else 0)) := by
  have hx : pm_kb mm_98 mk_98 = true := (pm_mt_ok (j := 98) (x := (mm_98, 2, 0, mk_98)) rfl).2
  intro f
  induction f with
  | zero =>
    intro a t y ha ht9
    refine pm_ld_ok (i := .iload 5) (x := 5) (k := 0) (n := 2) (v := .int (Int32.ofNat a)) (pe_d hx (show pm_fetch mk_98 25 = some (.iload 5, 2, 0, 0, 0) from rfl)) rfl rfl rfl ?_
    refine pm_op_ok (i := .bipush 32) (st' := [.int 32, .int (Int32.ofNat a)]) (pe_d hx (show pm_fetch mk_98 27 = some (.bipush 32, 2, 0, 0, 0) from rfl)) rfl ?_
    refine wy_ge (off := 44) (pe_d hx (show pm_fetch mk_98 29 = some (.if_icmp .ge 44, 3, 0, 0, 0) from rfl)) (by decide) (n := a) (k := 32) (by omega) (by omega) (fun g1 => ?_) (fun g1 => ?_)
    · show pm_Good sc mm_98 73 _ [] w 0 0 _
      refine pm_ld_ok (i := .iload_n 3) (x := 3) (k := 0) (n := 1) (v := .int (wy_i y)) (pe_d hx (show pm_fetch mk_98 73 = some (.iload_n 3, 1, 0, 0, 0) from rfl)) rfl rfl rfl ?_
      refine wy_zE (off := 8) (pe_d hx (show pm_fetch mk_98 74 = some (.ifCond .eq 8, 3, 0, 0, 0) from rfl)) (by decide) (fun g2 => ?_) (fun g2 => ?_)
      · show pm_Good sc mm_98 82 _ [] w 0 0 _
        refine pm_op_ok (i := .iconst 0) (st' := [.int 0]) (pe_d hx (show pm_fetch mk_98 82 = some (.iconst 0, 1, 0, 0, 0) from rfl)) rfl ?_
        rw [g2]
        exact pm_iret (ty := .int) (pe_d hx (show pm_fetch mk_98 83 = some (.ireturn, 1, 0, 0, 0) from rfl)) rfl (rfl) (⟨rfl, rfl⟩)
      · show pm_Good sc mm_98 77 _ [] w 0 0 _
        refine pm_ld_ok (i := .iload 4) (x := 4) (k := 0) (n := 2) (v := .int (Int32.ofNat t)) (pe_d hx (show pm_fetch mk_98 77 = some (.iload 4, 2, 0, 0, 0) from rfl)) rfl rfl rfl ?_
        refine pm_goto (off := 4) (pe_d hx (show pm_fetch mk_98 79 = some (.goto 4, 3, 0, 0, 0) from rfl)) (by decide) ?_
        show pm_Good sc mm_98 83 _ [.int (Int32.ofNat t)] w 0 0 _
        rw [g2]
        exact pm_iret (ty := .int) (pe_d hx (show pm_fetch mk_98 83 = some (.ireturn, 1, 0, 0, 0) from rfl)) rfl (rfl) (⟨rfl, rfl⟩)
    · show pm_Good sc mm_98 32 _ [] w 0 0 _
      exact absurd g1 (by omega)
  | succ f ih =>
    intro a t y ha ht9
    refine pm_ld_ok (i := .iload 5) (x := 5) (k := 0) (n := 2) (v := .int (Int32.ofNat a)) (pe_d hx (show pm_fetch mk_98 25 = some (.iload 5, 2, 0, 0, 0) from rfl)) rfl rfl rfl ?_
    refine pm_op_ok (i := .bipush 32) (st' := [.int 32, .int (Int32.ofNat a)]) (pe_d hx (show pm_fetch mk_98 27 = some (.bipush 32, 2, 0, 0, 0) from rfl)) rfl ?_
    refine wy_ge (off := 44) (pe_d hx (show pm_fetch mk_98 29 = some (.if_icmp .ge 44, 3, 0, 0, 0) from rfl)) (by decide) (n := a) (k := 32) (by omega) (by omega) (fun g1 => ?_) (fun g1 => ?_)
    · show pm_Good sc mm_98 73 _ [] w 0 0 _
      exact absurd g1 (by omega)
    · show pm_Good sc mm_98 32 _ [] w 0 0 _
      refine pm_ld_ok (i := .aload_n 0) (x := 0) (k := 2) (n := 1) (v := .ref 0) (pe_d hx (show pm_fetch mk_98 32 = some (.aload_n 0, 1, 0, 0, 0) from rfl)) rfl rfl rfl ?_
      refine pe_getf hx (show pm_fetch mk_98 33 = some (.getfield 43, 3, 7, 5, 381) from rfl) (by decide) h0 f5 ?_
      refine pm_ld_ok (i := .aload_n 0) (x := 0) (k := 2) (n := 1) (v := .ref 0) (pe_d hx (show pm_fetch mk_98 36 = some (.aload_n 0, 1, 0, 0, 0) from rfl)) rfl rfl rfl ?_
      refine pe_getf hx (show pm_fetch mk_98 37 = some (.getfield 19, 3, 7, 1, 377) from rfl) (by decide) h0 f1 ?_
      refine pm_ld_ok (i := .iload_n 1) (x := 1) (k := 0) (n := 1) (v := .int (Int32.ofNat m)) (pe_d hx (show pm_fetch mk_98 40 = some (.iload_n 1, 1, 0, 0, 0) from rfl)) rfl rfl rfl ?_
      refine pm_ld_ok (i := .iload 5) (x := 5) (k := 0) (n := 2) (v := .int (Int32.ofNat a)) (pe_d hx (show pm_fetch mk_98 41 = some (.iload 5, 2, 0, 0, 0) from rfl)) rfl rfl rfl ?_
      refine wy_cV (y := (mm_97, 3, 0, mk_97)) (As := [.ref tw, .int (Int32.ofNat m), .int (Int32.ofNat a)]) (rest := []) (X := wy_i (wy_al As Bs Hs Ps Ks p sz m a)) hx (show pm_fetch mk_98 43 = some (.invokevirtual 233, 3, 97, 0, 672) from rfl) rfl rfl rfl (fun v hv => by simp only [List.mem_cons, List.not_mem_nil, or_false] at hv; rcases hv with rfl | rfl | rfl <;> rfl) hs (show pm_cl[4]? = some _ from rfl) rfl (Nat.le_of_ble_eq_true rfl) (Nat.le_of_ble_eq_true rfl) (Nat.le_of_ble_eq_true rfl) (Nat.le_of_ble_eq_true rfl) (wy_97 ht h1 h2 h4 hA hAl hB hBl hp hm (by omega) hs s0 s1 s2 s3 hH hHl hP hPl hK hKl hsz) ?_
      show pm_Good sc mm_98 46 _ [.int (wy_i (wy_al As Bs Hs Ps Ks p sz m a))] w 0 0 _
      refine wy_zE (off := 21) (pe_d hx (show pm_fetch mk_98 46 = some (.ifCond .eq 21, 3, 0, 0, 0) from rfl)) (by decide) (fun g2 => ?_) (fun g2 => ?_)
      · show pm_Good sc mm_98 67 _ [] w 0 0 _
        unfold wy_su
        rw [g2]
        refine pm_inc (i := 5) (n := 1) (x := Int32.ofNat a) (pe_d hx (show pm_fetch mk_98 67 = some (.iinc 5 1, 3, 0, 0, 0) from rfl)) rfl (by decide) ?_
        refine pm_goto (off := (-45)) (pe_d hx (show pm_fetch mk_98 70 = some (.goto (-45), 3, 0, 0, 0) from rfl)) (by decide) ?_
        show pm_Good sc mm_98 25 _ [] w 0 0 _
        refine pm_sub (lv' := [(0, .ref 0), (1, .int (Int32.ofNat m)), (2, .int (Int32.ofNat pl)), (3, .int (wy_i y)), (4, .int (Int32.ofNat t)), (5, .int (Int32.ofNat (a + 1)))]) (fun q hq => ?_) (ih (a + 1) t y (by omega) ht9)
        simp only [List.mem_cons, List.not_mem_nil, or_false] at hq
        rcases hq with rfl | rfl | rfl | rfl | rfl | rfl
        · exact List.mem_cons_of_mem _ (List.mem_cons_self)
        · exact List.mem_cons_of_mem _ (List.mem_cons_of_mem _ (List.mem_cons_self))
        · exact List.mem_cons_of_mem _ (List.mem_cons_of_mem _ (List.mem_cons_of_mem _ (List.mem_cons_self)))
        · exact List.mem_cons_of_mem _ (List.mem_cons_of_mem _ (List.mem_cons_of_mem _ (List.mem_cons_of_mem _ (List.mem_cons_self))))
        · exact List.mem_cons_of_mem _ (List.mem_cons_of_mem _ (List.mem_cons_of_mem _ (List.mem_cons_of_mem _ (List.mem_cons_of_mem _ (List.mem_cons_self)))))
        · rw [← wy_s a]; exact List.mem_cons_self
      · show pm_Good sc mm_98 49 _ [] w 0 0 _
        unfold wy_su
        rw [g2]
        refine pm_op_ok (i := .iconst 1) (st' := [.int 1]) (pe_d hx (show pm_fetch mk_98 49 = some (.iconst 1, 1, 0, 0, 0) from rfl)) rfl ?_
        refine pm_sto_ok (i := .istore_n 3) (x := 3) (k := 0) (n := 1) (pe_d hx (show pm_fetch mk_98 50 = some (.istore_n 3, 1, 0, 0, 0) from rfl)) rfl rfl (by decide) ?_
        refine pm_ld_ok (i := .iload 4) (x := 4) (k := 0) (n := 2) (v := .int (Int32.ofNat t)) (pe_d hx (show pm_fetch mk_98 51 = some (.iload 4, 2, 0, 0, 0) from rfl)) rfl rfl rfl ?_
        refine pm_ld_ok (i := .aload_n 0) (x := 0) (k := 2) (n := 1) (v := .ref 0) (pe_d hx (show pm_fetch mk_98 53 = some (.aload_n 0, 1, 0, 0, 0) from rfl)) rfl rfl rfl ?_
        refine pe_getf hx (show pm_fetch mk_98 54 = some (.getfield 19, 3, 7, 1, 377) from rfl) (by decide) h0 f1 ?_
        refine pm_ld_ok (i := .iload_n 1) (x := 1) (k := 0) (n := 1) (v := .int (Int32.ofNat m)) (pe_d hx (show pm_fetch mk_98 57 = some (.iload_n 1, 1, 0, 0, 0) from rfl)) rfl rfl rfl ?_
        refine pm_ld_ok (i := .iload_n 2) (x := 2) (k := 0) (n := 1) (v := .int (Int32.ofNat pl)) (pe_d hx (show pm_fetch mk_98 58 = some (.iload_n 2, 1, 0, 0, 0) from rfl)) rfl rfl rfl ?_
        refine pm_ld_ok (i := .iload 5) (x := 5) (k := 0) (n := 2) (v := .int (Int32.ofNat a)) (pe_d hx (show pm_fetch mk_98 59 = some (.iload 5, 2, 0, 0, 0) from rfl)) rfl rfl rfl ?_
        refine wy_cV (y := (mm_96, 3, 0, mk_96)) (As := [.int (Int32.ofNat m), .int (Int32.ofNat pl), .int (Int32.ofNat a)]) (rest := [.int (Int32.ofNat t)]) (X := Int32.ofNat (wy_pb (wy_c As Bs m a (Int32.ofNat pl)) p 0 0)) hx (show pm_fetch mk_98 61 = some (.invokevirtual 237, 3, 96, 0, 689) from rfl) rfl rfl rfl (fun v hv => by simp only [List.mem_cons, List.not_mem_nil, or_false] at hv; rcases hv with rfl | rfl | rfl <;> rfl) ht (show pm_cl[6]? = some _ from rfl) rfl (Nat.le_of_ble_eq_true rfl) (Nat.le_of_ble_eq_true rfl) (Nat.le_of_ble_eq_true rfl) (Nat.le_of_ble_eq_true rfl) (wy_96 ht h1 h2 h4 hA hAl hB hBl hp hm (by omega)) ?_
        show pm_Good sc mm_98 64 _ [.int (Int32.ofNat (wy_pb (wy_c As Bs m a (Int32.ofNat pl)) p 0 0)), .int (Int32.ofNat t)] w 0 0 _
        have hb := wy_an t ht9 (wy_pb (wy_c As Bs m a (Int32.ofNat pl)) p 0 0) (wy_pb_lt _ _ _ _ (by omega) (by omega))
        refine pm_op_ok (i := .iand) (st' := [.int ((Int32.ofNat t) &&& (Int32.ofNat (wy_pb (wy_c As Bs m a (Int32.ofNat pl)) p 0 0)))]) (pe_d hx (show pm_fetch mk_98 64 = some (.iand, 1, 0, 0, 0) from rfl)) rfl ?_
        refine wy_eq (y := Int32.ofNat (t &&& wy_pb (wy_c As Bs m a (Int32.ofNat pl)) p 0 0)) (hb.1) ?_
        show pm_Good sc mm_98 65 _ [.int (Int32.ofNat (t &&& wy_pb (wy_c As Bs m a (Int32.ofNat pl)) p 0 0))] w 0 0 _
        refine pm_sto_ok (i := .istore 4) (x := 4) (k := 0) (n := 2) (pe_d hx (show pm_fetch mk_98 65 = some (.istore 4, 2, 0, 0, 0) from rfl)) rfl rfl (by decide) ?_
        refine pm_inc (i := 5) (n := 1) (x := Int32.ofNat a) (pe_d hx (show pm_fetch mk_98 67 = some (.iinc 5 1, 3, 0, 0, 0) from rfl)) rfl (by decide) ?_
        refine pm_goto (off := (-45)) (pe_d hx (show pm_fetch mk_98 70 = some (.goto (-45), 3, 0, 0, 0) from rfl)) (by decide) ?_
        show pm_Good sc mm_98 25 _ [] w 0 0 _
        refine pm_sub (lv' := [(0, .ref 0), (1, .int (Int32.ofNat m)), (2, .int (Int32.ofNat pl)), (3, .int 1), (4, .int (Int32.ofNat (t &&& wy_pb (wy_c As Bs m a (Int32.ofNat pl)) p 0 0))), (5, .int (Int32.ofNat (a + 1)))]) (fun q hq => ?_) (ih (a + 1) _ true (by omega) hb.2)
        simp only [List.mem_cons, List.not_mem_nil, or_false] at hq
        rcases hq with rfl | rfl | rfl | rfl | rfl | rfl
        · exact List.mem_cons_of_mem _ (List.mem_cons_of_mem _ (List.mem_cons_of_mem _ (List.mem_cons_self)))
        · exact List.mem_cons_of_mem _ (List.mem_cons_of_mem _ (List.mem_cons_of_mem _ (List.mem_cons_of_mem _ (List.mem_cons_self))))
        · exact List.mem_cons_of_mem _ (List.mem_cons_of_mem _ (List.mem_cons_of_mem _ (List.mem_cons_of_mem _ (List.mem_cons_of_mem _ (List.mem_cons_self)))))
        · exact List.mem_cons_of_mem _ (List.mem_cons_of_mem _ (List.mem_cons_self))
        · exact List.mem_cons_of_mem _ (List.mem_cons_self)
        · rw [← wy_s a]; exact List.mem_cons_self
theorem wy_98 {w : pm_W} {tw qa qb : Nat} {ts : List Value} {As Bs : List Int32} {p m : Nat} (ht : w[tw]? = some (.inr (6, ts))) (h1 : ts[1]? = some (.ref qa)) (h2 : ts[2]? = some (.ref qb)) (h4 : ts[4]? = some (.int (Int32.ofNat p))) (hA : w[qa]? = some (.inl (0, As))) (hAl : As.length = 20) (hB : w[qb]? = some (.inl (0, Bs))) (hBl : Bs.length = 20) (hp : p ≤ 5) (hm : m < 4) {ss : List Value} {Hs Ps Ks : List Int32} {sz : Nat} (hs : w[22]? = some (.inr (4, ss))) (s0 : ss[0]? = some (.ref 23)) (s1 : ss[1]? = some (.ref 24)) (s2 : ss[2]? = some (.ref 25)) (s3 : ss[3]? = some (.int (Int32.ofNat sz))) (hH : w[23]? = some (.inl (0, Hs))) (hHl : Hs.length = 6) (hP : w[24]? = some (.inl (0, Ps))) (hPl : Ps.length = 6) (hK : w[25]? = some (.inl (0, Ks))) (hKl : Ks.length = 6) (hsz : sz ≤ 6) {fs : List Value} (h0 : w[0]? = some (.inr (7, fs))) (f1 : fs[1]? = some (.ref tw)) (f5 : fs[5]? = some (.ref 22)) {pl : Nat} (hpl : pl < 6) : pm_GoodM sc mm_98 [.ref 0, .int (Int32.ofNat m), .int (Int32.ofNat pl)] w (wy_R w (bif (wy_su (wy_al As Bs Hs Ps Ks p sz m) (fun a => wy_pb (wy_c As Bs m a (Int32.ofNat pl)) p 0 0) 32 0 false 31).1 then Int32.ofNat (wy_su (wy_al As Bs Hs Ps Ks p sz m) (fun a => wy_pb (wy_c As Bs m a (Int32.ofNat pl)) p 0 0) 32 0 false 31).2 else 0)) := by
  have hx : pm_kb mm_98 mk_98 = true := (pm_mt_ok (j := 98) (x := (mm_98, 2, 0, mk_98)) rfl).2
  unfold pm_GoodM
  show pm_Good sc mm_98 0 [(0, .ref 0), (1, .int (Int32.ofNat m)), (2, .int (Int32.ofNat pl))] [] w 0 0 _
  refine pm_ld_ok (i := .iload_n 1) (x := 1) (k := 0) (n := 1) (v := .int (Int32.ofNat m)) (pe_d hx (show pm_fetch mk_98 0 = some (.iload_n 1, 1, 0, 0, 0) from rfl)) rfl rfl rfl ?_
  refine wy_cS (y := (mm_24, 1, 1, mk_24)) (As := [.int (Int32.ofNat m)]) (rest := []) (X := wy_i (decide (0 ≤ (Int32.ofNat m).toInt ∧ (Int32.ofNat m).toInt ≤ 3))) hx (show pm_fetch mk_98 1 = some (.invokestatic 103, 3, 24, 0, 437) from rfl) rfl rfl rfl (fun v hv => by simp only [List.mem_cons, List.not_mem_nil, or_false] at hv; rcases hv with rfl <;> rfl) (Nat.le_of_ble_eq_true rfl) (Nat.le_of_ble_eq_true rfl) (Nat.le_of_ble_eq_true rfl) (Nat.le_of_ble_eq_true rfl) (wy_24) ?_
  show pm_Good sc mm_98 4 _ [.int (wy_i (decide (0 ≤ (Int32.ofNat m).toInt ∧ (Int32.ofNat m).toInt ≤ 3)))] w 0 0 _
  refine wy_eq (y := wy_i true) (by rw [decide_eq_true (by rw [wy_t (by omega)]; omega)]) ?_
  show pm_Good sc mm_98 4 _ [.int (wy_i true)] w 0 0 _
  refine wy_zE (off := 10) (pe_d hx (show pm_fetch mk_98 4 = some (.ifCond .eq 10, 3, 0, 0, 0) from rfl)) (by decide) (fun g1 => ?_) (fun g1 => ?_)
  · show pm_Good sc mm_98 14 _ [] w 0 0 _
    cases g1
  · show pm_Good sc mm_98 7 _ [] w 0 0 _
    refine pm_ld_ok (i := .iload_n 2) (x := 2) (k := 0) (n := 1) (v := .int (Int32.ofNat pl)) (pe_d hx (show pm_fetch mk_98 7 = some (.iload_n 2, 1, 0, 0, 0) from rfl)) rfl rfl rfl ?_
    refine wy_cS (y := (mm_25, 1, 1, mk_25)) (As := [.int (Int32.ofNat pl)]) (rest := []) (X := wy_i (decide (0 ≤ (Int32.ofNat pl).toInt ∧ (Int32.ofNat pl).toInt ≤ 5))) hx (show pm_fetch mk_98 8 = some (.invokestatic 228, 3, 25, 0, 659) from rfl) rfl rfl rfl (fun v hv => by simp only [List.mem_cons, List.not_mem_nil, or_false] at hv; rcases hv with rfl <;> rfl) (Nat.le_of_ble_eq_true rfl) (Nat.le_of_ble_eq_true rfl) (Nat.le_of_ble_eq_true rfl) (Nat.le_of_ble_eq_true rfl) (wy_25) ?_
    show pm_Good sc mm_98 11 _ [.int (wy_i (decide (0 ≤ (Int32.ofNat pl).toInt ∧ (Int32.ofNat pl).toInt ≤ 5)))] w 0 0 _
    refine wy_eq (y := wy_i true) (by rw [decide_eq_true (by rw [wy_t (by omega)]; omega)]) ?_
    show pm_Good sc mm_98 11 _ [.int (wy_i true)] w 0 0 _
    refine wy_zN (off := 5) (pe_d hx (show pm_fetch mk_98 11 = some (.ifCond .ne 5, 3, 0, 0, 0) from rfl)) (by decide) (fun g2 => ?_) (fun g2 => ?_)
    · show pm_Good sc mm_98 16 _ [] w 0 0 _
      refine pm_op_ok (i := .iconst 0) (st' := [.int 0]) (pe_d hx (show pm_fetch mk_98 16 = some (.iconst 0, 1, 0, 0, 0) from rfl)) rfl ?_
      refine pm_sto_ok (i := .istore_n 3) (x := 3) (k := 0) (n := 1) (pe_d hx (show pm_fetch mk_98 17 = some (.istore_n 3, 1, 0, 0, 0) from rfl)) rfl rfl (by decide) ?_
      refine pm_op_ok (i := .bipush 31) (st' := [.int 31]) (pe_d hx (show pm_fetch mk_98 18 = some (.bipush 31, 2, 0, 0, 0) from rfl)) rfl ?_
      refine pm_sto_ok (i := .istore 4) (x := 4) (k := 0) (n := 2) (pe_d hx (show pm_fetch mk_98 20 = some (.istore 4, 2, 0, 0, 0) from rfl)) rfl rfl (by decide) ?_
      refine pm_op_ok (i := .iconst 0) (st' := [.int 0]) (pe_d hx (show pm_fetch mk_98 22 = some (.iconst 0, 1, 0, 0, 0) from rfl)) rfl ?_
      refine pm_sto_ok (i := .istore 5) (x := 5) (k := 0) (n := 2) (pe_d hx (show pm_fetch mk_98 23 = some (.istore 5, 2, 0, 0, 0) from rfl)) rfl rfl (by decide) ?_
      refine pm_sub (lv' := [(0, .ref 0), (1, .int (Int32.ofNat m)), (2, .int (Int32.ofNat pl)), (3, .int (wy_i false)), (4, .int (Int32.ofNat 31)), (5, .int (Int32.ofNat 0))]) (fun q hq => ?_) (wy_98l ht h1 h2 h4 hA hAl hB hBl hp hm hs s0 s1 s2 s3 hH hHl hP hPl hK hKl hsz h0 f1 f5 32 0 31 false rfl (by omega))
      simp only [List.mem_cons, List.not_mem_nil, or_false] at hq
      rcases hq with rfl | rfl | rfl | rfl | rfl | rfl
      · exact List.mem_cons_of_mem _ (List.mem_cons_of_mem _ (List.mem_cons_of_mem _ (List.mem_cons_self)))
      · exact List.mem_cons_of_mem _ (List.mem_cons_of_mem _ (List.mem_cons_of_mem _ (List.mem_cons_of_mem _ (List.mem_cons_self))))
      · exact List.mem_cons_of_mem _ (List.mem_cons_of_mem _ (List.mem_cons_of_mem _ (List.mem_cons_of_mem _ (List.mem_cons_of_mem _ (List.mem_cons_self)))))
      · exact List.mem_cons_of_mem _ (List.mem_cons_of_mem _ (List.mem_cons_self))
      · exact List.mem_cons_of_mem _ (List.mem_cons_self)
      · exact List.mem_cons_self
    · show pm_Good sc mm_98 14 _ [] w 0 0 _
      cases g2
theorem wy_98n {w : pm_W} {k l : Int32} (hk : ¬ ((0 ≤ k.toInt ∧ k.toInt ≤ 3) ∧ 0 ≤ l.toInt ∧ l.toInt ≤ 5)) : pm_GoodM sc mm_98 [.ref 0, .int k, .int l] w (wy_R w (-1)) := by
  have hx : pm_kb mm_98 mk_98 = true := (pm_mt_ok (j := 98) (x := (mm_98, 2, 0, mk_98)) rfl).2
  unfold pm_GoodM
  show pm_Good sc mm_98 0 [(0, .ref 0), (1, .int k), (2, .int l)] [] w 0 0 _
  refine pm_ld_ok (i := .iload_n 1) (x := 1) (k := 0) (n := 1) (v := .int k) (pe_d hx (show pm_fetch mk_98 0 = some (.iload_n 1, 1, 0, 0, 0) from rfl)) rfl rfl rfl ?_
  refine wy_cS (y := (mm_24, 1, 1, mk_24)) (As := [.int k]) (rest := []) (X := wy_i (decide (0 ≤ k.toInt ∧ k.toInt ≤ 3))) hx (show pm_fetch mk_98 1 = some (.invokestatic 103, 3, 24, 0, 437) from rfl) rfl rfl rfl (fun v hv => by simp only [List.mem_cons, List.not_mem_nil, or_false] at hv; rcases hv with rfl <;> rfl) (Nat.le_of_ble_eq_true rfl) (Nat.le_of_ble_eq_true rfl) (Nat.le_of_ble_eq_true rfl) (Nat.le_of_ble_eq_true rfl) (wy_24) ?_
  show pm_Good sc mm_98 4 _ [.int (wy_i (decide (0 ≤ k.toInt ∧ k.toInt ≤ 3)))] w 0 0 _
  refine wy_zE (off := 10) (pe_d hx (show pm_fetch mk_98 4 = some (.ifCond .eq 10, 3, 0, 0, 0) from rfl)) (by decide) (fun g1 => ?_) (fun g1 => ?_)
  · show pm_Good sc mm_98 14 _ [] w 0 0 _
    refine pm_op_ok (i := .iconst (-1)) (st' := [.int (-1)]) (pe_d hx (show pm_fetch mk_98 14 = some (.iconst (-1), 1, 0, 0, 0) from rfl)) rfl ?_
    exact pm_iret (ty := .int) (pe_d hx (show pm_fetch mk_98 15 = some (.ireturn, 1, 0, 0, 0) from rfl)) rfl (rfl) (⟨rfl, rfl⟩)
  · show pm_Good sc mm_98 7 _ [] w 0 0 _
    refine pm_ld_ok (i := .iload_n 2) (x := 2) (k := 0) (n := 1) (v := .int l) (pe_d hx (show pm_fetch mk_98 7 = some (.iload_n 2, 1, 0, 0, 0) from rfl)) rfl rfl rfl ?_
    refine wy_cS (y := (mm_25, 1, 1, mk_25)) (As := [.int l]) (rest := []) (X := wy_i (decide (0 ≤ l.toInt ∧ l.toInt ≤ 5))) hx (show pm_fetch mk_98 8 = some (.invokestatic 228, 3, 25, 0, 659) from rfl) rfl rfl rfl (fun v hv => by simp only [List.mem_cons, List.not_mem_nil, or_false] at hv; rcases hv with rfl <;> rfl) (Nat.le_of_ble_eq_true rfl) (Nat.le_of_ble_eq_true rfl) (Nat.le_of_ble_eq_true rfl) (Nat.le_of_ble_eq_true rfl) (wy_25) ?_
    show pm_Good sc mm_98 11 _ [.int (wy_i (decide (0 ≤ l.toInt ∧ l.toInt ≤ 5)))] w 0 0 _
    refine wy_zN (off := 5) (pe_d hx (show pm_fetch mk_98 11 = some (.ifCond .ne 5, 3, 0, 0, 0) from rfl)) (by decide) (fun g2 => ?_) (fun g2 => ?_)
    · show pm_Good sc mm_98 16 _ [] w 0 0 _
      exact absurd ⟨of_decide_eq_true g1, of_decide_eq_true g2⟩ hk
    · show pm_Good sc mm_98 14 _ [] w 0 0 _
      refine pm_op_ok (i := .iconst (-1)) (st' := [.int (-1)]) (pe_d hx (show pm_fetch mk_98 14 = some (.iconst (-1), 1, 0, 0, 0) from rfl)) rfl ?_
      exact pm_iret (ty := .int) (pe_d hx (show pm_fetch mk_98 15 = some (.ireturn, 1, 0, 0, 0) from rfl)) rfl (rfl) (⟨rfl, rfl⟩)
end PWC
