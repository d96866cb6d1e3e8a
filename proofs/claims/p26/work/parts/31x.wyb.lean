/-! the reference -/
def wy_h (ts : List Int32) (m i : Nat) : Bool := decide (0 ≤ (ts.getD (10 + 4 * i + m) 0).toInt)
def wy_by (ts : List Int32) (m a i : Nat) : Int32 := bif wy_h ts m i then (bif a.testBit i then ts.getD (30 + 4 * i + m) 0 else ts.getD (10 + 4 * i + m) 0) else -1
def wy_2 (ts : List Int32) (m i : Nat) : Bool := !wy_h ts m i || decide (ts.getD (10 + 4 * i + m) 0 = ts.getD (30 + 4 * i + m) 0)
def wy_cr (ts : List Int32) (m a : Nat) : Nat → Nat → Bool → Bool
  | 0, _, y => y
  | f + 1, i, y => wy_cr ts m a f (i + 1) (y && (!a.testBit i || !wy_2 ts m i))
def wy_x (s : Int32) : Int32 := s / 10 - s / 10 / 10 * 10
def wy_y (s : Int32) : Int32 := s - s / 10 * 10
def wy_d (ts : List Int32) (m a : Nat) (s : Int32) (i : Nat) : Bool := decide (wy_by ts m a i = wy_x s)
def wy_sk (ts sts : List Int32) (p m a k : Nat) : Bool := !decide (sts.getD k 0 / 100 = Int32.ofNat m) || decide (Int32.ofNat (wy_n (wy_d ts m a (sts.getD k 0)) p 0) = wy_y (sts.getD k 0))
def wy_sr (ts sts : List Int32) (p m a : Nat) : Nat → Nat → Bool → Bool
  | 0, _, y => y
  | f + 1, k, y => bif y then wy_sr ts sts p m a f (k + 1) (wy_sk ts sts p m a k) else false
def wy_cn (ts sts : List Int32) (p sz m a : Nat) : Bool := wy_sr ts sts p m a sz 0 (wy_cr ts m a p 0 true)
def wy_in (c : Nat → Bool) : Nat → Nat → Nat → Nat
  | 0, _, s => s
  | f + 1, i, s => wy_in c f (i + 1) (bif c i then s else s &&& (31 ^^^ 2 ^ i))
def wy_sv (al : Nat → Bool) (pa : Nat → Nat → Nat) : Nat → Nat → Bool → Nat → Bool × Nat
  | 0, _, y, t => (y, t)
  | f + 1, a, y, t => bif al a then wy_sv al pa f (a + 1) true (pa a t) else wy_sv al pa f (a + 1) y t
theorem wy_in_lt (c : Nat → Bool) : ∀ f i s, i + f ≤ 5 → s < 32 → wy_in c f i s < 32
  | 0, _, s, _, hs => hs
  | f + 1, i, s, hi, hs => by
    unfold wy_in
    refine wy_in_lt c f (i + 1) _ (by omega) ?_
    cases c i
    · exact (wy_nt s hs i (by omega)).2
    · exact hs
section PWM
variable {sc : pm_Z} {P : Option Value → pm_W → Prop}
theorem wy_118 {w : pm_W} {fm : List Value} {ts : List Int32} {m i : Nat} (h0 : w[42]? = some (.inr (8, fm))) (f2 : fm[2]? = some (.ref 44)) (hT : w[44]? = some (.inl (0, ts))) (hTl : ts.length = 50) (hm : m < 4) (hi : i < 5) : pm_GoodM sc mm_118 [.ref 42, .int (Int32.ofNat i), .int (Int32.ofNat m)] w (wy_R w (wy_i (wy_h ts m i))) := by
  have hx : pm_kb mm_118 mk_118 = true := (pm_mt_ok (j := 118) (x := (mm_118, 2, 0, mk_118)) rfl).2
  unfold pm_GoodM
  show pm_Good sc mm_118 0 [(0, .ref 42), (1, .int (Int32.ofNat i)), (2, .int (Int32.ofNat m))] [] w 0 0 _
  refine pm_ld_ok (i := .aload_n 0) (x := 0) (k := 2) (n := 1) (v := .ref 42) (pe_d hx (show pm_fetch mk_118 0 = some (.aload_n 0, 1, 0, 0, 0) from rfl)) rfl rfl rfl ?_
  refine pe_getf hx (show pm_fetch mk_118 1 = some (.getfield 13, 3, 8, 2, 775) from rfl) (by decide) h0 f2 ?_
  refine pm_op_ok (i := .bipush 10) (st' := [.int 10, .ref 44]) (pe_d hx (show pm_fetch mk_118 4 = some (.bipush 10, 2, 0, 0, 0) from rfl)) rfl ?_
  refine pm_op_ok (i := .iconst 4) (st' := [.int 4, .int 10, .ref 44]) (pe_d hx (show pm_fetch mk_118 6 = some (.iconst 4, 1, 0, 0, 0) from rfl)) rfl ?_
  refine pm_ld_ok (i := .iload_n 1) (x := 1) (k := 0) (n := 1) (v := .int (Int32.ofNat i)) (pe_d hx (show pm_fetch mk_118 7 = some (.iload_n 1, 1, 0, 0, 0) from rfl)) rfl rfl rfl ?_
  refine pm_op_ok (i := .imul) (st' := [.int (4 * (Int32.ofNat i)), .int 10, .ref 44]) (pe_d hx (show pm_fetch mk_118 8 = some (.imul, 1, 0, 0, 0) from rfl)) rfl ?_
  refine pm_op_ok (i := .iadd) (st' := [.int (10 + (4 * (Int32.ofNat i))), .ref 44]) (pe_d hx (show pm_fetch mk_118 9 = some (.iadd, 1, 0, 0, 0) from rfl)) rfl ?_
  refine pm_ld_ok (i := .iload_n 2) (x := 2) (k := 0) (n := 1) (v := .int (Int32.ofNat m)) (pe_d hx (show pm_fetch mk_118 10 = some (.iload_n 2, 1, 0, 0, 0) from rfl)) rfl rfl rfl ?_
  refine pm_op_ok (i := .iadd) (st' := [.int ((10 + (4 * (Int32.ofNat i))) + (Int32.ofNat m)), .ref 44]) (pe_d hx (show pm_fetch mk_118 11 = some (.iadd, 1, 0, 0, 0) from rfl)) rfl ?_
  refine wy_eq (y := Int32.ofNat (10 + 4 * i + m)) (by rw [Int32.ofNat_add, Int32.ofNat_add, Int32.ofNat_mul] <;> rfl) ?_
  show pm_Good sc mm_118 12 _ [.int (Int32.ofNat (10 + 4 * i + m)), .ref 44] w 0 0 _
  refine wy_ld (k := 10 + 4 * i + m) (pe_d hx (show pm_fetch mk_118 12 = some (.iaload, 1, 0, 0, 0) from rfl)) hT (by omega) (by omega) ?_
  refine wy_lt (off := 7) (pe_d hx (show pm_fetch mk_118 13 = some (.ifCond .lt 7, 3, 0, 0, 0) from rfl)) (by decide) (fun g1 => ?_) (fun g1 => ?_)
  · show pm_Good sc mm_118 20 _ [] w 0 0 _
    refine pm_op_ok (i := .iconst 0) (st' := [.int 0]) (pe_d hx (show pm_fetch mk_118 20 = some (.iconst 0, 1, 0, 0, 0) from rfl)) rfl ?_
    have e : wy_h ts m i = false := decide_eq_false g1
    rw [e]
    exact pm_iret (ty := .boolean) (pe_d hx (show pm_fetch mk_118 21 = some (.ireturn, 1, 0, 0, 0) from rfl)) rfl (rfl) (⟨rfl, rfl⟩)
  · show pm_Good sc mm_118 16 _ [] w 0 0 _
    refine pm_op_ok (i := .iconst 1) (st' := [.int 1]) (pe_d hx (show pm_fetch mk_118 16 = some (.iconst 1, 1, 0, 0, 0) from rfl)) rfl ?_
    refine pm_goto (off := 4) (pe_d hx (show pm_fetch mk_118 17 = some (.goto 4, 3, 0, 0, 0) from rfl)) (by decide) ?_
    show pm_Good sc mm_118 21 _ [.int 1] w 0 0 _
    have e : wy_h ts m i = true := decide_eq_true g1
    rw [e]
    exact pm_iret (ty := .boolean) (pe_d hx (show pm_fetch mk_118 21 = some (.ireturn, 1, 0, 0, 0) from rfl)) rfl (rfl) (⟨rfl, rfl⟩)
theorem wy_130 {w : pm_W} {fm : List Value} {ts : List Int32} {m a i : Nat} (h0 : w[42]? = some (.inr (8, fm))) (f2 : fm[2]? = some (.ref 44)) (hT : w[44]? = some (.inl (0, ts))) (hTl : ts.length = 50) (hm : m < 4) (ha : a < 32) (hi : i < 5) : pm_GoodM sc mm_130 [.ref 42, .int (Int32.ofNat i), .int (Int32.ofNat m), .int (Int32.ofNat a)] w (wy_R w (wy_by ts m a i)) := by
  have hx : pm_kb mm_130 mk_130 = true := (pm_mt_ok (j := 130) (x := (mm_130, 3, 0, mk_130)) rfl).2
  unfold pm_GoodM
  show pm_Good sc mm_130 0 [(0, .ref 42), (1, .int (Int32.ofNat i)), (2, .int (Int32.ofNat m)), (3, .int (Int32.ofNat a))] [] w 0 0 _
  refine pm_ld_ok (i := .aload_n 0) (x := 0) (k := 2) (n := 1) (v := .ref 42) (pe_d hx (show pm_fetch mk_130 0 = some (.aload_n 0, 1, 0, 0, 0) from rfl)) rfl rfl rfl ?_
  refine pm_ld_ok (i := .iload_n 1) (x := 1) (k := 0) (n := 1) (v := .int (Int32.ofNat i)) (pe_d hx (show pm_fetch mk_130 1 = some (.iload_n 1, 1, 0, 0, 0) from rfl)) rfl rfl rfl ?_
  refine pm_ld_ok (i := .iload_n 2) (x := 2) (k := 0) (n := 1) (v := .int (Int32.ofNat m)) (pe_d hx (show pm_fetch mk_130 2 = some (.iload_n 2, 1, 0, 0, 0) from rfl)) rfl rfl rfl ?_
  refine wy_cV (y := (mm_118, 2, 0, mk_118)) (As := [.int (Int32.ofNat i), .int (Int32.ofNat m)]) (rest := []) (X := wy_i (wy_h ts m i)) hx (show pm_fetch mk_130 3 = some (.invokevirtual 113, 3, 118, 0, 870) from rfl) rfl rfl rfl (fun v hv => by simp only [List.mem_cons, List.not_mem_nil, or_false] at hv; rcases hv with rfl | rfl <;> rfl) h0 (show pm_cl[8]? = some _ from rfl) rfl (Nat.le_of_ble_eq_true rfl) (Nat.le_of_ble_eq_true rfl) (Nat.le_of_ble_eq_true rfl) (Nat.le_of_ble_eq_true rfl) (wy_118 h0 f2 hT hTl hm hi) ?_
  show pm_Good sc mm_130 6 _ [.int (wy_i (wy_h ts m i))] w 0 0 _
  refine wy_zN (off := 7) (pe_d hx (show pm_fetch mk_130 6 = some (.ifCond .ne 7, 3, 0, 0, 0) from rfl)) (by decide) (fun g1 => ?_) (fun g1 => ?_)
  · show pm_Good sc mm_130 13 _ [] w 0 0 _
    refine pm_ld_ok (i := .iload_n 3) (x := 3) (k := 0) (n := 1) (v := .int (Int32.ofNat a)) (pe_d hx (show pm_fetch mk_130 13 = some (.iload_n 3, 1, 0, 0, 0) from rfl)) rfl rfl rfl ?_
    refine pm_ld_ok (i := .iload_n 1) (x := 1) (k := 0) (n := 1) (v := .int (Int32.ofNat i)) (pe_d hx (show pm_fetch mk_130 14 = some (.iload_n 1, 1, 0, 0, 0) from rfl)) rfl rfl rfl ?_
    refine pm_op_ok (i := .ishr) (st' := [.int ((Int32.ofNat a) >>> ((Int32.ofNat i) &&& 31))]) (pe_d hx (show pm_fetch mk_130 15 = some (.ishr, 1, 0, 0, 0) from rfl)) rfl ?_
    refine pm_op_ok (i := .iconst 1) (st' := [.int 1, .int ((Int32.ofNat a) >>> ((Int32.ofNat i) &&& 31))]) (pe_d hx (show pm_fetch mk_130 16 = some (.iconst 1, 1, 0, 0, 0) from rfl)) rfl ?_
    refine pm_op_ok (i := .iand) (st' := [.int (((Int32.ofNat a) >>> ((Int32.ofNat i) &&& 31)) &&& 1)]) (pe_d hx (show pm_fetch mk_130 17 = some (.iand, 1, 0, 0, 0) from rfl)) rfl ?_
    refine wy_eq (y := wy_i (a.testBit i)) (wy_bit a ha i hi) ?_
    show pm_Good sc mm_130 18 _ [.int (wy_i (a.testBit i))] w 0 0 _
    refine pm_op_ok (i := .iconst 1) (st' := [.int 1, .int (wy_i (a.testBit i))]) (pe_d hx (show pm_fetch mk_130 18 = some (.iconst 1, 1, 0, 0, 0) from rfl)) rfl ?_
    refine wy_ne (off := 19) (pe_d hx (show pm_fetch mk_130 19 = some (.if_icmp .ne 19, 3, 0, 0, 0) from rfl)) (by decide) (fun g2 => ?_) (fun g2 => ?_)
    · show pm_Good sc mm_130 38 _ [] w 0 0 _
      have e2 : a.testBit i = false := by
        cases hb : a.testBit i
        · rfl
        · rw [hb] at g2; exact absurd rfl g2
      refine pm_ld_ok (i := .aload_n 0) (x := 0) (k := 2) (n := 1) (v := .ref 42) (pe_d hx (show pm_fetch mk_130 38 = some (.aload_n 0, 1, 0, 0, 0) from rfl)) rfl rfl rfl ?_
      refine pe_getf hx (show pm_fetch mk_130 39 = some (.getfield 13, 3, 8, 2, 775) from rfl) (by decide) h0 f2 ?_
      refine pm_op_ok (i := .bipush 10) (st' := [.int 10, .ref 44]) (pe_d hx (show pm_fetch mk_130 42 = some (.bipush 10, 2, 0, 0, 0) from rfl)) rfl ?_
      refine pm_op_ok (i := .iconst 4) (st' := [.int 4, .int 10, .ref 44]) (pe_d hx (show pm_fetch mk_130 44 = some (.iconst 4, 1, 0, 0, 0) from rfl)) rfl ?_
      refine pm_ld_ok (i := .iload_n 1) (x := 1) (k := 0) (n := 1) (v := .int (Int32.ofNat i)) (pe_d hx (show pm_fetch mk_130 45 = some (.iload_n 1, 1, 0, 0, 0) from rfl)) rfl rfl rfl ?_
      refine pm_op_ok (i := .imul) (st' := [.int (4 * (Int32.ofNat i)), .int 10, .ref 44]) (pe_d hx (show pm_fetch mk_130 46 = some (.imul, 1, 0, 0, 0) from rfl)) rfl ?_
      refine pm_op_ok (i := .iadd) (st' := [.int (10 + (4 * (Int32.ofNat i))), .ref 44]) (pe_d hx (show pm_fetch mk_130 47 = some (.iadd, 1, 0, 0, 0) from rfl)) rfl ?_
      refine pm_ld_ok (i := .iload_n 2) (x := 2) (k := 0) (n := 1) (v := .int (Int32.ofNat m)) (pe_d hx (show pm_fetch mk_130 48 = some (.iload_n 2, 1, 0, 0, 0) from rfl)) rfl rfl rfl ?_
      refine pm_op_ok (i := .iadd) (st' := [.int ((10 + (4 * (Int32.ofNat i))) + (Int32.ofNat m)), .ref 44]) (pe_d hx (show pm_fetch mk_130 49 = some (.iadd, 1, 0, 0, 0) from rfl)) rfl ?_
      refine wy_eq (y := Int32.ofNat (10 + 4 * i + m)) (by rw [Int32.ofNat_add, Int32.ofNat_add, Int32.ofNat_mul] <;> rfl) ?_
      show pm_Good sc mm_130 50 _ [.int (Int32.ofNat (10 + 4 * i + m)), .ref 44] w 0 0 _
      refine wy_ld (k := 10 + 4 * i + m) (pe_d hx (show pm_fetch mk_130 50 = some (.iaload, 1, 0, 0, 0) from rfl)) hT (by omega) (by omega) ?_
      have e : wy_by ts m a i = ts.getD (10 + 4 * i + m) 0 := by unfold wy_by; rw [g1, e2]; rfl
      rw [e]
      exact pm_iret (ty := .int) (pe_d hx (show pm_fetch mk_130 51 = some (.ireturn, 1, 0, 0, 0) from rfl)) rfl (rfl) (⟨rfl, rfl⟩)
    · show pm_Good sc mm_130 22 _ [] w 0 0 _
      have e2 : a.testBit i = true := by
        cases hb : a.testBit i
        · rw [hb] at g2; exact absurd g2 (by decide)
        · rfl
      refine pm_ld_ok (i := .aload_n 0) (x := 0) (k := 2) (n := 1) (v := .ref 42) (pe_d hx (show pm_fetch mk_130 22 = some (.aload_n 0, 1, 0, 0, 0) from rfl)) rfl rfl rfl ?_
      refine pe_getf hx (show pm_fetch mk_130 23 = some (.getfield 13, 3, 8, 2, 775) from rfl) (by decide) h0 f2 ?_
      refine pm_op_ok (i := .bipush 30) (st' := [.int 30, .ref 44]) (pe_d hx (show pm_fetch mk_130 26 = some (.bipush 30, 2, 0, 0, 0) from rfl)) rfl ?_
      refine pm_op_ok (i := .iconst 4) (st' := [.int 4, .int 30, .ref 44]) (pe_d hx (show pm_fetch mk_130 28 = some (.iconst 4, 1, 0, 0, 0) from rfl)) rfl ?_
      refine pm_ld_ok (i := .iload_n 1) (x := 1) (k := 0) (n := 1) (v := .int (Int32.ofNat i)) (pe_d hx (show pm_fetch mk_130 29 = some (.iload_n 1, 1, 0, 0, 0) from rfl)) rfl rfl rfl ?_
      refine pm_op_ok (i := .imul) (st' := [.int (4 * (Int32.ofNat i)), .int 30, .ref 44]) (pe_d hx (show pm_fetch mk_130 30 = some (.imul, 1, 0, 0, 0) from rfl)) rfl ?_
      refine pm_op_ok (i := .iadd) (st' := [.int (30 + (4 * (Int32.ofNat i))), .ref 44]) (pe_d hx (show pm_fetch mk_130 31 = some (.iadd, 1, 0, 0, 0) from rfl)) rfl ?_
      refine pm_ld_ok (i := .iload_n 2) (x := 2) (k := 0) (n := 1) (v := .int (Int32.ofNat m)) (pe_d hx (show pm_fetch mk_130 32 = some (.iload_n 2, 1, 0, 0, 0) from rfl)) rfl rfl rfl ?_
      refine pm_op_ok (i := .iadd) (st' := [.int ((30 + (4 * (Int32.ofNat i))) + (Int32.ofNat m)), .ref 44]) (pe_d hx (show pm_fetch mk_130 33 = some (.iadd, 1, 0, 0, 0) from rfl)) rfl ?_
      refine wy_eq (y := Int32.ofNat (30 + 4 * i + m)) (by rw [Int32.ofNat_add, Int32.ofNat_add, Int32.ofNat_mul] <;> rfl) ?_
      show pm_Good sc mm_130 34 _ [.int (Int32.ofNat (30 + 4 * i + m)), .ref 44] w 0 0 _
      refine wy_ld (k := 30 + 4 * i + m) (pe_d hx (show pm_fetch mk_130 34 = some (.iaload, 1, 0, 0, 0) from rfl)) hT (by omega) (by omega) ?_
      refine pm_goto (off := 16) (pe_d hx (show pm_fetch mk_130 35 = some (.goto 16, 3, 0, 0, 0) from rfl)) (by decide) ?_
      show pm_Good sc mm_130 51 _ [.int (ts.getD (30 + 4 * i + m) 0)] w 0 0 _
      have e : wy_by ts m a i = ts.getD (30 + 4 * i + m) 0 := by unfold wy_by; rw [g1, e2]; rfl
      rw [e]
      exact pm_iret (ty := .int) (pe_d hx (show pm_fetch mk_130 51 = some (.ireturn, 1, 0, 0, 0) from rfl)) rfl (rfl) (⟨rfl, rfl⟩)
  · show pm_Good sc mm_130 9 _ [] w 0 0 _
    refine pm_op_ok (i := .iconst (-1)) (st' := [.int (-1)]) (pe_d hx (show pm_fetch mk_130 9 = some (.iconst (-1), 1, 0, 0, 0) from rfl)) rfl ?_
    refine pm_goto (off := 41) (pe_d hx (show pm_fetch mk_130 10 = some (.goto 41, 3, 0, 0, 0) from rfl)) (by decide) ?_
    show pm_Good sc mm_130 51 _ [.int (-1)] w 0 0 _
    have e : wy_by ts m a i = -1 := by unfold wy_by; rw [g1]; rfl
    rw [e]
    exact pm_iret (ty := .int) (pe_d hx (show pm_fetch mk_130 51 = some (.ireturn, 1, 0, 0, 0) from rfl)) rfl (rfl) (⟨rfl, rfl⟩)
theorem wy_131i {w : pm_W} {fm : List Value} {ts : List Int32} {sts : List Int32} {p sz m a : Nat} (h0 : w[42]? = some (.inr (8, fm))) (f2 : fm[2]? = some (.ref 44)) (hT : w[44]? = some (.inl (0, ts))) (hTl : ts.length = 50) (hm : m < 4) (ha : a < 32) (hT0 : ts.getD 0 0 = Int32.ofNat p) (hp : p ≤ 5) (f10 : fm[10]? = some (.ref 50)) (f11 : fm[11]? = some (.int (Int32.ofNat sz))) (hS : w[50]? = some (.inl (0, sts))) (hSl : sts.length = 6) (hsz : sz ≤ 6) {k : Nat} (hk : k < 6) {y : Bool} : ∀ (f i n : Nat), i + f = p → pm_Good sc mm_131 167 [(0, .ref 42), (1, .int (Int32.ofNat m)), (2, .int (Int32.ofNat a)), (3, .int (wy_i y)), (4, .int (Int32.ofNat k)), (5, .int (Int32.ofNat (n + wy_n (wy_d ts m a (sts.getD k 0)) f i)))] [] w 0 0 P → pm_Good sc mm_131 116 [(0, .ref 42), (1, .int (Int32.ofNat m)), (2, .int (Int32.ofNat a)), (3, .int (wy_i y)), (4, .int (Int32.ofNat k)), (5, .int (Int32.ofNat n)), (6, .int (Int32.ofNat i))] [] w 0 0 P := by
  have hx : pm_kb mm_131 mk_131 = true := (pm_mt_ok (j := 131) (x := (mm_131, 2, 0, mk_131)) rfl).2
  intro f
  induction f with
  | zero =>
    intro i n hi hG
    refine pm_ld_ok (i := .iload 6) (x := 6) (k := 0) (n := 2) (v := .int (Int32.ofNat i)) (pe_d hx (show pm_fetch mk_131 116 = some (.iload 6, 2, 0, 0, 0) from rfl)) rfl rfl rfl ?_
    refine pm_ld_ok (i := .aload_n 0) (x := 0) (k := 2) (n := 1) (v := .ref 42) (pe_d hx (show pm_fetch mk_131 118 = some (.aload_n 0, 1, 0, 0, 0) from rfl)) rfl rfl rfl ?_
    refine pe_getf hx (show pm_fetch mk_131 119 = some (.getfield 13, 3, 8, 2, 775) from rfl) (by decide) h0 f2 ?_
    refine pm_op_ok (i := .iconst 0) (st' := [.int 0, .ref 44, .int (Int32.ofNat i)]) (pe_d hx (show pm_fetch mk_131 122 = some (.iconst 0, 1, 0, 0, 0) from rfl)) rfl ?_
    refine wy_ld (k := 0) (pe_d hx (show pm_fetch mk_131 123 = some (.iaload, 1, 0, 0, 0) from rfl)) hT (by omega) (by omega) ?_
    refine wy_eq (y := Int32.ofNat p) (hT0) ?_
    show pm_Good sc mm_131 124 _ [.int (Int32.ofNat p), .int (Int32.ofNat i)] w 0 0 _
    refine wy_ge (off := 43) (pe_d hx (show pm_fetch mk_131 124 = some (.if_icmp .ge 43, 3, 0, 0, 0) from rfl)) (by decide) (n := i) (k := p) (by omega) (by omega) (fun g1 => ?_) (fun g1 => ?_)
    · show pm_Good sc mm_131 167 _ [] w 0 0 _
      refine pm_sub (lv' := [(0, .ref 42), (1, .int (Int32.ofNat m)), (2, .int (Int32.ofNat a)), (3, .int (wy_i y)), (4, .int (Int32.ofNat k)), (5, .int (Int32.ofNat n))]) (fun q hq => ?_) (hG)
      simp only [List.mem_cons, List.not_mem_nil, or_false] at hq
      rcases hq with rfl | rfl | rfl | rfl | rfl | rfl
      · exact List.mem_cons_self
      · exact List.mem_cons_of_mem _ (List.mem_cons_self)
      · exact List.mem_cons_of_mem _ (List.mem_cons_of_mem _ (List.mem_cons_self))
      · exact List.mem_cons_of_mem _ (List.mem_cons_of_mem _ (List.mem_cons_of_mem _ (List.mem_cons_self)))
      · exact List.mem_cons_of_mem _ (List.mem_cons_of_mem _ (List.mem_cons_of_mem _ (List.mem_cons_of_mem _ (List.mem_cons_self))))
      · exact List.mem_cons_of_mem _ (List.mem_cons_of_mem _ (List.mem_cons_of_mem _ (List.mem_cons_of_mem _ (List.mem_cons_of_mem _ (List.mem_cons_self)))))
    · show pm_Good sc mm_131 127 _ [] w 0 0 _
      exact absurd g1 (by omega)
  | succ f ih =>
    intro i n hi hG
    refine pm_ld_ok (i := .iload 6) (x := 6) (k := 0) (n := 2) (v := .int (Int32.ofNat i)) (pe_d hx (show pm_fetch mk_131 116 = some (.iload 6, 2, 0, 0, 0) from rfl)) rfl rfl rfl ?_
    refine pm_ld_ok (i := .aload_n 0) (x := 0) (k := 2) (n := 1) (v := .ref 42) (pe_d hx (show pm_fetch mk_131 118 = some (.aload_n 0, 1, 0, 0, 0) from rfl)) rfl rfl rfl ?_
    refine pe_getf hx (show pm_fetch mk_131 119 = some (.getfield 13, 3, 8, 2, 775) from rfl) (by decide) h0 f2 ?_
    refine pm_op_ok (i := .iconst 0) (st' := [.int 0, .ref 44, .int (Int32.ofNat i)]) (pe_d hx (show pm_fetch mk_131 122 = some (.iconst 0, 1, 0, 0, 0) from rfl)) rfl ?_
    refine wy_ld (k := 0) (pe_d hx (show pm_fetch mk_131 123 = some (.iaload, 1, 0, 0, 0) from rfl)) hT (by omega) (by omega) ?_
    refine wy_eq (y := Int32.ofNat p) (hT0) ?_
    show pm_Good sc mm_131 124 _ [.int (Int32.ofNat p), .int (Int32.ofNat i)] w 0 0 _
    refine wy_ge (off := 43) (pe_d hx (show pm_fetch mk_131 124 = some (.if_icmp .ge 43, 3, 0, 0, 0) from rfl)) (by decide) (n := i) (k := p) (by omega) (by omega) (fun g1 => ?_) (fun g1 => ?_)
    · show pm_Good sc mm_131 167 _ [] w 0 0 _
      exact absurd g1 (by omega)
    · show pm_Good sc mm_131 127 _ [] w 0 0 _
      refine pm_ld_ok (i := .iload 5) (x := 5) (k := 0) (n := 2) (v := .int (Int32.ofNat n)) (pe_d hx (show pm_fetch mk_131 127 = some (.iload 5, 2, 0, 0, 0) from rfl)) rfl rfl rfl ?_
      refine pm_ld_ok (i := .aload_n 0) (x := 0) (k := 2) (n := 1) (v := .ref 42) (pe_d hx (show pm_fetch mk_131 129 = some (.aload_n 0, 1, 0, 0, 0) from rfl)) rfl rfl rfl ?_
      refine pm_ld_ok (i := .iload 6) (x := 6) (k := 0) (n := 2) (v := .int (Int32.ofNat i)) (pe_d hx (show pm_fetch mk_131 130 = some (.iload 6, 2, 0, 0, 0) from rfl)) rfl rfl rfl ?_
      refine pm_ld_ok (i := .iload_n 1) (x := 1) (k := 0) (n := 1) (v := .int (Int32.ofNat m)) (pe_d hx (show pm_fetch mk_131 132 = some (.iload_n 1, 1, 0, 0, 0) from rfl)) rfl rfl rfl ?_
      refine pm_ld_ok (i := .iload_n 2) (x := 2) (k := 0) (n := 1) (v := .int (Int32.ofNat a)) (pe_d hx (show pm_fetch mk_131 133 = some (.iload_n 2, 1, 0, 0, 0) from rfl)) rfl rfl rfl ?_
      refine wy_cV (y := (mm_130, 3, 0, mk_130)) (As := [.int (Int32.ofNat i), .int (Int32.ofNat m), .int (Int32.ofNat a)]) (rest := [.int (Int32.ofNat n)]) (X := wy_by ts m a i) hx (show pm_fetch mk_131 134 = some (.invokevirtual 162, 3, 130, 0, 1004) from rfl) rfl rfl rfl (fun v hv => by simp only [List.mem_cons, List.not_mem_nil, or_false] at hv; rcases hv with rfl | rfl | rfl <;> rfl) h0 (show pm_cl[8]? = some _ from rfl) rfl (Nat.le_of_ble_eq_true rfl) (Nat.le_of_ble_eq_true rfl) (Nat.le_of_ble_eq_true rfl) (Nat.le_of_ble_eq_true rfl) (wy_130 h0 f2 hT hTl hm ha (by omega)) ?_
      show pm_Good sc mm_131 137 _ [.int (wy_by ts m a i), .int (Int32.ofNat n)] w 0 0 _
      refine pm_ld_ok (i := .aload_n 0) (x := 0) (k := 2) (n := 1) (v := .ref 42) (pe_d hx (show pm_fetch mk_131 137 = some (.aload_n 0, 1, 0, 0, 0) from rfl)) rfl rfl rfl ?_
      refine pe_getf hx (show pm_fetch mk_131 138 = some (.getfield 31, 3, 8, 10, 783) from rfl) (by decide) h0 f10 ?_
      refine pm_ld_ok (i := .iload 4) (x := 4) (k := 0) (n := 2) (v := .int (Int32.ofNat k)) (pe_d hx (show pm_fetch mk_131 141 = some (.iload 4, 2, 0, 0, 0) from rfl)) rfl rfl rfl ?_
      refine wy_ld (k := k) (pe_d hx (show pm_fetch mk_131 143 = some (.iaload, 1, 0, 0, 0) from rfl)) hS (by omega) (by omega) ?_
      refine pm_op_ok (i := .bipush 10) (st' := [.int 10, .int (sts.getD k 0), .int (wy_by ts m a i), .int (Int32.ofNat n)]) (pe_d hx (show pm_fetch mk_131 144 = some (.bipush 10, 2, 0, 0, 0) from rfl)) rfl ?_
      refine pm_op_ok (i := .idiv) (st' := [.int ((sts.getD k 0) / 10), .int (wy_by ts m a i), .int (Int32.ofNat n)]) (pe_d hx (show pm_fetch mk_131 146 = some (.idiv, 1, 0, 0, 0) from rfl)) (wy_dv (by decide)) ?_
      refine pm_op_ok (i := .bipush 10) (st' := [.int 10, .int ((sts.getD k 0) / 10), .int (wy_by ts m a i), .int (Int32.ofNat n)]) (pe_d hx (show pm_fetch mk_131 147 = some (.bipush 10, 2, 0, 0, 0) from rfl)) rfl ?_
      refine pm_op_ok (i := .irem) (st' := [.int (((sts.getD k 0) / 10) - ((sts.getD k 0) / 10) / 10 * 10), .int (wy_by ts m a i), .int (Int32.ofNat n)]) (pe_d hx (show pm_fetch mk_131 149 = some (.irem, 1, 0, 0, 0) from rfl)) (wy_rm (by decide)) ?_
      refine wy_ne (off := 7) (pe_d hx (show pm_fetch mk_131 150 = some (.if_icmp .ne 7, 3, 0, 0, 0) from rfl)) (by decide) (fun g2 => ?_) (fun g2 => ?_)
      · show pm_Good sc mm_131 157 _ [.int (Int32.ofNat n)] w 0 0 _
        have e : wy_d ts m a (sts.getD k 0) i = false := decide_eq_false g2
        refine pm_op_ok (i := .iconst 0) (st' := [.int 0, .int (Int32.ofNat n)]) (pe_d hx (show pm_fetch mk_131 157 = some (.iconst 0, 1, 0, 0, 0) from rfl)) rfl ?_
        refine pm_op_ok (i := .iadd) (st' := [.int ((Int32.ofNat n) + 0)]) (pe_d hx (show pm_fetch mk_131 158 = some (.iadd, 1, 0, 0, 0) from rfl)) rfl ?_
        refine wy_eq (y := Int32.ofNat (n + 0)) (by rw [Int32.ofNat_add] <;> rfl) ?_
        show pm_Good sc mm_131 159 _ [.int (Int32.ofNat (n + 0))] w 0 0 _
        refine pm_sto_ok (i := .istore 5) (x := 5) (k := 0) (n := 2) (pe_d hx (show pm_fetch mk_131 159 = some (.istore 5, 2, 0, 0, 0) from rfl)) rfl rfl (by decide) ?_
        refine pm_inc (i := 6) (n := 1) (x := Int32.ofNat i) (pe_d hx (show pm_fetch mk_131 161 = some (.iinc 6 1, 3, 0, 0, 0) from rfl)) rfl (by decide) ?_
        refine pm_goto (off := (-48)) (pe_d hx (show pm_fetch mk_131 164 = some (.goto (-48), 3, 0, 0, 0) from rfl)) (by decide) ?_
        show pm_Good sc mm_131 116 _ [] w 0 0 _
        refine pm_sub (lv' := [(0, .ref 42), (1, .int (Int32.ofNat m)), (2, .int (Int32.ofNat a)), (3, .int (wy_i y)), (4, .int (Int32.ofNat k)), (5, .int (Int32.ofNat (n + 0))), (6, .int (Int32.ofNat (i + 1)))]) (fun q hq => ?_) (ih (i + 1) (n + 0) (by omega) (by rw [show n + wy_n (wy_d ts m a (sts.getD k 0)) (f + 1) i = n + 0 + wy_n (wy_d ts m a (sts.getD k 0)) f (i + 1) from by rw [wy_n, e]; simp only [cond_true, cond_false]; omega] at hG; exact hG))
        simp only [List.mem_cons, List.not_mem_nil, or_false] at hq
        rcases hq with rfl | rfl | rfl | rfl | rfl | rfl | rfl
        · exact List.mem_cons_of_mem _ (List.mem_cons_of_mem _ (List.mem_cons_self))
        · exact List.mem_cons_of_mem _ (List.mem_cons_of_mem _ (List.mem_cons_of_mem _ (List.mem_cons_self)))
        · exact List.mem_cons_of_mem _ (List.mem_cons_of_mem _ (List.mem_cons_of_mem _ (List.mem_cons_of_mem _ (List.mem_cons_self))))
        · exact List.mem_cons_of_mem _ (List.mem_cons_of_mem _ (List.mem_cons_of_mem _ (List.mem_cons_of_mem _ (List.mem_cons_of_mem _ (List.mem_cons_self)))))
        · exact List.mem_cons_of_mem _ (List.mem_cons_of_mem _ (List.mem_cons_of_mem _ (List.mem_cons_of_mem _ (List.mem_cons_of_mem _ (List.mem_cons_of_mem _ (List.mem_cons_self))))))
        · exact List.mem_cons_of_mem _ (List.mem_cons_self)
        · rw [← wy_s i]; exact List.mem_cons_self
      · show pm_Good sc mm_131 153 _ [.int (Int32.ofNat n)] w 0 0 _
        have e : wy_d ts m a (sts.getD k 0) i = true := decide_eq_true g2
        refine pm_op_ok (i := .iconst 1) (st' := [.int 1, .int (Int32.ofNat n)]) (pe_d hx (show pm_fetch mk_131 153 = some (.iconst 1, 1, 0, 0, 0) from rfl)) rfl ?_
        refine pm_goto (off := 4) (pe_d hx (show pm_fetch mk_131 154 = some (.goto 4, 3, 0, 0, 0) from rfl)) (by decide) ?_
        show pm_Good sc mm_131 158 _ [.int 1, .int (Int32.ofNat n)] w 0 0 _
        refine pm_op_ok (i := .iadd) (st' := [.int ((Int32.ofNat n) + 1)]) (pe_d hx (show pm_fetch mk_131 158 = some (.iadd, 1, 0, 0, 0) from rfl)) rfl ?_
        refine wy_eq (y := Int32.ofNat (n + 1)) (by rw [Int32.ofNat_add] <;> rfl) ?_
        show pm_Good sc mm_131 159 _ [.int (Int32.ofNat (n + 1))] w 0 0 _
        refine pm_sto_ok (i := .istore 5) (x := 5) (k := 0) (n := 2) (pe_d hx (show pm_fetch mk_131 159 = some (.istore 5, 2, 0, 0, 0) from rfl)) rfl rfl (by decide) ?_
        refine pm_inc (i := 6) (n := 1) (x := Int32.ofNat i) (pe_d hx (show pm_fetch mk_131 161 = some (.iinc 6 1, 3, 0, 0, 0) from rfl)) rfl (by decide) ?_
        refine pm_goto (off := (-48)) (pe_d hx (show pm_fetch mk_131 164 = some (.goto (-48), 3, 0, 0, 0) from rfl)) (by decide) ?_
        show pm_Good sc mm_131 116 _ [] w 0 0 _
        refine pm_sub (lv' := [(0, .ref 42), (1, .int (Int32.ofNat m)), (2, .int (Int32.ofNat a)), (3, .int (wy_i y)), (4, .int (Int32.ofNat k)), (5, .int (Int32.ofNat (n + 1))), (6, .int (Int32.ofNat (i + 1)))]) (fun q hq => ?_) (ih (i + 1) (n + 1) (by omega) (by rw [show n + wy_n (wy_d ts m a (sts.getD k 0)) (f + 1) i = n + 1 + wy_n (wy_d ts m a (sts.getD k 0)) f (i + 1) from by rw [wy_n, e]; simp only [cond_true, cond_false]; omega] at hG; exact hG))
        simp only [List.mem_cons, List.not_mem_nil, or_false] at hq
        rcases hq with rfl | rfl | rfl | rfl | rfl | rfl | rfl
        · exact List.mem_cons_of_mem _ (List.mem_cons_of_mem _ (List.mem_cons_self))
        · exact List.mem_cons_of_mem _ (List.mem_cons_of_mem _ (List.mem_cons_of_mem _ (List.mem_cons_self)))
        · exact List.mem_cons_of_mem _ (List.mem_cons_of_mem _ (List.mem_cons_of_mem _ (List.mem_cons_of_mem _ (List.mem_cons_self))))
        · exact List.mem_cons_of_mem _ (List.mem_cons_of_mem _ (List.mem_cons_of_mem _ (List.mem_cons_of_mem _ (List.mem_cons_of_mem _ (List.mem_cons_self)))))
        · exact List.mem_cons_of_mem _ (List.mem_cons_of_mem _ (List.mem_cons_of_mem _ (List.mem_cons_of_mem _ (List.mem_cons_of_mem _ (List.mem_cons_of_mem _ (List.mem_cons_self))))))
        · exact List.mem_cons_of_mem _ (List.mem_cons_self)
        · rw [← wy_s i]; exact List.mem_cons_self
theorem wy_131s {w : pm_W} {fm : List Value} {ts : List Int32} {sts : List Int32} {p sz m a : Nat} (h0 : w[42]? = some (.inr (8, fm))) (f2 : fm[2]? = some (.ref 44)) (hT : w[44]? = some (.inl (0, ts))) (hTl : ts.length = 50) (hm : m < 4) (ha : a < 32) (hT0 : ts.getD 0 0 = Int32.ofNat p) (hp : p ≤ 5) (f10 : fm[10]? = some (.ref 50)) (f11 : fm[11]? = some (.int (Int32.ofNat sz))) (hS : w[50]? = some (.inl (0, sts))) (hSl : sts.length = 6) (hsz : sz ≤ 6) : ∀ (f k : Nat) (y : Bool), k + f = sz → pm_Good sc mm_131 97 [(0, .ref 42), (1, .int (Int32.ofNat m)), (2, .int (Int32.ofNat a)), (3, .int (wy_i y)), (4, .int (Int32.ofNat k))] [] w 0 0 (wy_R w (wy_i (wy_sr ts sts p m a f k y))) := by
  have hx : pm_kb mm_131 mk_131 = true := (pm_mt_ok (j := 131) (x := (mm_131, 2, 0, mk_131)) rfl).2
  intro f
  induction f with
  | zero =>
    intro k y hk
    refine pm_ld_ok (i := .iload 4) (x := 4) (k := 0) (n := 2) (v := .int (Int32.ofNat k)) (pe_d hx (show pm_fetch mk_131 97 = some (.iload 4, 2, 0, 0, 0) from rfl)) rfl rfl rfl ?_
    refine pm_ld_ok (i := .aload_n 0) (x := 0) (k := 2) (n := 1) (v := .ref 42) (pe_d hx (show pm_fetch mk_131 99 = some (.aload_n 0, 1, 0, 0, 0) from rfl)) rfl rfl rfl ?_
    refine pe_getf hx (show pm_fetch mk_131 100 = some (.getfield 107, 3, 8, 11, 784) from rfl) (by decide) h0 f11 ?_
    refine wy_ge (off := 105) (pe_d hx (show pm_fetch mk_131 103 = some (.if_icmp .ge 105, 3, 0, 0, 0) from rfl)) (by decide) (n := k) (k := sz) (by omega) (by omega) (fun g1 => ?_) (fun g1 => ?_)
    · show pm_Good sc mm_131 208 _ [] w 0 0 _
      refine pm_ld_ok (i := .iload_n 3) (x := 3) (k := 0) (n := 1) (v := .int (wy_i y)) (pe_d hx (show pm_fetch mk_131 208 = some (.iload_n 3, 1, 0, 0, 0) from rfl)) rfl rfl rfl ?_
      exact pm_iret (ty := .boolean) (pe_d hx (show pm_fetch mk_131 209 = some (.ireturn, 1, 0, 0, 0) from rfl)) rfl (wy_nb _) (⟨rfl, rfl⟩)
    · show pm_Good sc mm_131 106 _ [] w 0 0 _
      exact absurd g1 (by omega)
  | succ f ih =>
    intro k y hk
    refine pm_ld_ok (i := .iload 4) (x := 4) (k := 0) (n := 2) (v := .int (Int32.ofNat k)) (pe_d hx (show pm_fetch mk_131 97 = some (.iload 4, 2, 0, 0, 0) from rfl)) rfl rfl rfl ?_
    refine pm_ld_ok (i := .aload_n 0) (x := 0) (k := 2) (n := 1) (v := .ref 42) (pe_d hx (show pm_fetch mk_131 99 = some (.aload_n 0, 1, 0, 0, 0) from rfl)) rfl rfl rfl ?_
    refine pe_getf hx (show pm_fetch mk_131 100 = some (.getfield 107, 3, 8, 11, 784) from rfl) (by decide) h0 f11 ?_
    refine wy_ge (off := 105) (pe_d hx (show pm_fetch mk_131 103 = some (.if_icmp .ge 105, 3, 0, 0, 0) from rfl)) (by decide) (n := k) (k := sz) (by omega) (by omega) (fun g1 => ?_) (fun g1 => ?_)
    · show pm_Good sc mm_131 208 _ [] w 0 0 _
      exact absurd g1 (by omega)
    · show pm_Good sc mm_131 106 _ [] w 0 0 _
      refine pm_ld_ok (i := .iload_n 3) (x := 3) (k := 0) (n := 1) (v := .int (wy_i y)) (pe_d hx (show pm_fetch mk_131 106 = some (.iload_n 3, 1, 0, 0, 0) from rfl)) rfl rfl rfl ?_
      refine wy_zE (off := 101) (pe_d hx (show pm_fetch mk_131 107 = some (.ifCond .eq 101, 3, 0, 0, 0) from rfl)) (by decide) (fun g2 => ?_) (fun g2 => ?_)
      · show pm_Good sc mm_131 208 _ [] w 0 0 _
        refine pm_ld_ok (i := .iload_n 3) (x := 3) (k := 0) (n := 1) (v := .int (wy_i y)) (pe_d hx (show pm_fetch mk_131 208 = some (.iload_n 3, 1, 0, 0, 0) from rfl)) rfl rfl rfl ?_
        have e : wy_sr ts sts p m a (f + 1) k y = y := by rw [wy_sr, g2]; rfl
        rw [e]
        exact pm_iret (ty := .boolean) (pe_d hx (show pm_fetch mk_131 209 = some (.ireturn, 1, 0, 0, 0) from rfl)) rfl (wy_nb _) (⟨rfl, rfl⟩)
      · show pm_Good sc mm_131 110 _ [] w 0 0 _
        have e : wy_sr ts sts p m a (f + 1) k y = wy_sr ts sts p m a f (k + 1) (wy_sk ts sts p m a k) := by rw [wy_sr, g2]; rfl
        rw [e]
        refine pm_op_ok (i := .iconst 0) (st' := [.int 0]) (pe_d hx (show pm_fetch mk_131 110 = some (.iconst 0, 1, 0, 0, 0) from rfl)) rfl ?_
        refine pm_sto_ok (i := .istore 5) (x := 5) (k := 0) (n := 2) (pe_d hx (show pm_fetch mk_131 111 = some (.istore 5, 2, 0, 0, 0) from rfl)) rfl rfl (by decide) ?_
        refine pm_op_ok (i := .iconst 0) (st' := [.int 0]) (pe_d hx (show pm_fetch mk_131 113 = some (.iconst 0, 1, 0, 0, 0) from rfl)) rfl ?_
        refine pm_sto_ok (i := .istore 6) (x := 6) (k := 0) (n := 2) (pe_d hx (show pm_fetch mk_131 114 = some (.istore 6, 2, 0, 0, 0) from rfl)) rfl rfl (by decide) ?_
        have J : pm_Good sc mm_131 167 [(0, .ref 42), (1, .int (Int32.ofNat m)), (2, .int (Int32.ofNat a)), (3, .int (wy_i y)), (4, .int (Int32.ofNat k)), (5, .int (Int32.ofNat (0 + wy_n (wy_d ts m a (sts.getD k 0)) p 0)))] [] w 0 0 (wy_R w (wy_i (wy_sr ts sts p m a f (k + 1) (wy_sk ts sts p m a k)))) := by
          have J2 : pm_Good sc mm_131 201 [(0, .ref 42), (1, .int (Int32.ofNat m)), (2, .int (Int32.ofNat a)), (3, .int (wy_i y)), (4, .int (Int32.ofNat k)), (5, .int (Int32.ofNat (0 + wy_n (wy_d ts m a (sts.getD k 0)) p 0)))] [.int (wy_i (wy_sk ts sts p m a k))] w 0 0 (wy_R w (wy_i (wy_sr ts sts p m a f (k + 1) (wy_sk ts sts p m a k)))) := by
            refine pm_sto_ok (i := .istore_n 3) (x := 3) (k := 0) (n := 1) (pe_d hx (show pm_fetch mk_131 201 = some (.istore_n 3, 1, 0, 0, 0) from rfl)) rfl rfl (by decide) ?_
            refine pm_inc (i := 4) (n := 1) (x := Int32.ofNat k) (pe_d hx (show pm_fetch mk_131 202 = some (.iinc 4 1, 3, 0, 0, 0) from rfl)) rfl (by decide) ?_
            refine pm_goto (off := (-108)) (pe_d hx (show pm_fetch mk_131 205 = some (.goto (-108), 3, 0, 0, 0) from rfl)) (by decide) ?_
            show pm_Good sc mm_131 97 _ [] w 0 0 _
            refine pm_sub (lv' := [(0, .ref 42), (1, .int (Int32.ofNat m)), (2, .int (Int32.ofNat a)), (3, .int (wy_i (wy_sk ts sts p m a k))), (4, .int (Int32.ofNat (k + 1)))]) (fun q hq => ?_) (ih (k + 1) _ (by omega))
            simp only [List.mem_cons, List.not_mem_nil, or_false] at hq
            rcases hq with rfl | rfl | rfl | rfl | rfl
            · exact List.mem_cons_of_mem _ (List.mem_cons_of_mem _ (List.mem_cons_self))
            · exact List.mem_cons_of_mem _ (List.mem_cons_of_mem _ (List.mem_cons_of_mem _ (List.mem_cons_self)))
            · exact List.mem_cons_of_mem _ (List.mem_cons_of_mem _ (List.mem_cons_of_mem _ (List.mem_cons_of_mem _ (List.mem_cons_self))))
            · exact List.mem_cons_of_mem _ (List.mem_cons_self)
            · rw [← wy_s k]; exact List.mem_cons_self
          refine pm_ld_ok (i := .aload_n 0) (x := 0) (k := 2) (n := 1) (v := .ref 42) (pe_d hx (show pm_fetch mk_131 167 = some (.aload_n 0, 1, 0, 0, 0) from rfl)) rfl rfl rfl ?_
          refine pe_getf hx (show pm_fetch mk_131 168 = some (.getfield 31, 3, 8, 10, 783) from rfl) (by decide) h0 f10 ?_
          refine pm_ld_ok (i := .iload 4) (x := 4) (k := 0) (n := 2) (v := .int (Int32.ofNat k)) (pe_d hx (show pm_fetch mk_131 171 = some (.iload 4, 2, 0, 0, 0) from rfl)) rfl rfl rfl ?_
          refine wy_ld (k := k) (pe_d hx (show pm_fetch mk_131 173 = some (.iaload, 1, 0, 0, 0) from rfl)) hS (by omega) (by omega) ?_
          refine pm_op_ok (i := .bipush 100) (st' := [.int 100, .int (sts.getD k 0)]) (pe_d hx (show pm_fetch mk_131 174 = some (.bipush 100, 2, 0, 0, 0) from rfl)) rfl ?_
          refine pm_op_ok (i := .idiv) (st' := [.int ((sts.getD k 0) / 100)]) (pe_d hx (show pm_fetch mk_131 176 = some (.idiv, 1, 0, 0, 0) from rfl)) (wy_dv (by decide)) ?_
          refine pm_ld_ok (i := .iload_n 1) (x := 1) (k := 0) (n := 1) (v := .int (Int32.ofNat m)) (pe_d hx (show pm_fetch mk_131 177 = some (.iload_n 1, 1, 0, 0, 0) from rfl)) rfl rfl rfl ?_
          refine wy_ne (off := 18) (pe_d hx (show pm_fetch mk_131 178 = some (.if_icmp .ne 18, 3, 0, 0, 0) from rfl)) (by decide) (fun g3 => ?_) (fun g3 => ?_)
          · show pm_Good sc mm_131 196 _ [] w 0 0 _
            refine pm_op_ok (i := .iconst 1) (st' := [.int 1]) (pe_d hx (show pm_fetch mk_131 196 = some (.iconst 1, 1, 0, 0, 0) from rfl)) rfl ?_
            refine pm_goto (off := 4) (pe_d hx (show pm_fetch mk_131 197 = some (.goto 4, 3, 0, 0, 0) from rfl)) (by decide) ?_
            show pm_Good sc mm_131 201 _ [.int 1] w 0 0 _
            have e3 : wy_sk ts sts p m a k = true := by unfold wy_sk; rw [decide_eq_false g3]; rfl
            rw [e3] at J2 ⊢
            exact J2
          · show pm_Good sc mm_131 181 _ [] w 0 0 _
            refine pm_ld_ok (i := .iload 5) (x := 5) (k := 0) (n := 2) (v := .int (Int32.ofNat (0 + wy_n (wy_d ts m a (sts.getD k 0)) p 0))) (pe_d hx (show pm_fetch mk_131 181 = some (.iload 5, 2, 0, 0, 0) from rfl)) rfl rfl rfl ?_
            refine pm_ld_ok (i := .aload_n 0) (x := 0) (k := 2) (n := 1) (v := .ref 42) (pe_d hx (show pm_fetch mk_131 183 = some (.aload_n 0, 1, 0, 0, 0) from rfl)) rfl rfl rfl ?_
            refine pe_getf hx (show pm_fetch mk_131 184 = some (.getfield 31, 3, 8, 10, 783) from rfl) (by decide) h0 f10 ?_
            refine pm_ld_ok (i := .iload 4) (x := 4) (k := 0) (n := 2) (v := .int (Int32.ofNat k)) (pe_d hx (show pm_fetch mk_131 187 = some (.iload 4, 2, 0, 0, 0) from rfl)) rfl rfl rfl ?_
            refine wy_ld (k := k) (pe_d hx (show pm_fetch mk_131 189 = some (.iaload, 1, 0, 0, 0) from rfl)) hS (by omega) (by omega) ?_
            refine pm_op_ok (i := .bipush 10) (st' := [.int 10, .int (sts.getD k 0), .int (Int32.ofNat (0 + wy_n (wy_d ts m a (sts.getD k 0)) p 0))]) (pe_d hx (show pm_fetch mk_131 190 = some (.bipush 10, 2, 0, 0, 0) from rfl)) rfl ?_
            refine pm_op_ok (i := .irem) (st' := [.int ((sts.getD k 0) - (sts.getD k 0) / 10 * 10), .int (Int32.ofNat (0 + wy_n (wy_d ts m a (sts.getD k 0)) p 0))]) (pe_d hx (show pm_fetch mk_131 192 = some (.irem, 1, 0, 0, 0) from rfl)) (wy_rm (by decide)) ?_
            refine wy_ne (off := 7) (pe_d hx (show pm_fetch mk_131 193 = some (.if_icmp .ne 7, 3, 0, 0, 0) from rfl)) (by decide) (fun g4 => ?_) (fun g4 => ?_)
            · show pm_Good sc mm_131 200 _ [] w 0 0 _
              refine pm_op_ok (i := .iconst 0) (st' := [.int 0]) (pe_d hx (show pm_fetch mk_131 200 = some (.iconst 0, 1, 0, 0, 0) from rfl)) rfl ?_
              have e3 : wy_sk ts sts p m a k = false := by unfold wy_sk; rw [decide_eq_true g3, decide_eq_false (by rw [Nat.zero_add] at g4; exact g4)]; rfl
              rw [e3] at J2 ⊢
              exact J2
            · show pm_Good sc mm_131 196 _ [] w 0 0 _
              refine pm_op_ok (i := .iconst 1) (st' := [.int 1]) (pe_d hx (show pm_fetch mk_131 196 = some (.iconst 1, 1, 0, 0, 0) from rfl)) rfl ?_
              refine pm_goto (off := 4) (pe_d hx (show pm_fetch mk_131 197 = some (.goto 4, 3, 0, 0, 0) from rfl)) (by decide) ?_
              show pm_Good sc mm_131 201 _ [.int 1] w 0 0 _
              have e3 : wy_sk ts sts p m a k = true := by unfold wy_sk; rw [decide_eq_true (show Int32.ofNat (wy_n (wy_d ts m a (sts.getD k 0)) p 0) = wy_y (sts.getD k 0) by rw [Nat.zero_add] at g4; exact g4), Bool.or_true]
              rw [e3] at J2 ⊢
              exact J2
        refine pm_sub (lv' := [(0, .ref 42), (1, .int (Int32.ofNat m)), (2, .int (Int32.ofNat a)), (3, .int (wy_i y)), (4, .int (Int32.ofNat k)), (5, .int (Int32.ofNat 0)), (6, .int (Int32.ofNat 0))]) (fun q hq => ?_) (wy_131i h0 f2 hT hTl hm ha hT0 hp f10 f11 hS hSl hsz (k := k) (by omega) (y := y) p 0 0 (by omega) J)
        simp only [List.mem_cons, List.not_mem_nil, or_false] at hq
        rcases hq with rfl | rfl | rfl | rfl | rfl | rfl | rfl
        · exact List.mem_cons_of_mem _ (List.mem_cons_of_mem _ (List.mem_cons_self))
        · exact List.mem_cons_of_mem _ (List.mem_cons_of_mem _ (List.mem_cons_of_mem _ (List.mem_cons_self)))
        · exact List.mem_cons_of_mem _ (List.mem_cons_of_mem _ (List.mem_cons_of_mem _ (List.mem_cons_of_mem _ (List.mem_cons_self))))
        · exact List.mem_cons_of_mem _ (List.mem_cons_of_mem _ (List.mem_cons_of_mem _ (List.mem_cons_of_mem _ (List.mem_cons_of_mem _ (List.mem_cons_self)))))
        · exact List.mem_cons_of_mem _ (List.mem_cons_of_mem _ (List.mem_cons_of_mem _ (List.mem_cons_of_mem _ (List.mem_cons_of_mem _ (List.mem_cons_of_mem _ (List.mem_cons_self))))))
        · exact List.mem_cons_of_mem _ (List.mem_cons_self)
        · exact List.mem_cons_self
theorem wy_131f {w : pm_W} {fm : List Value} {ts : List Int32} {sts : List Int32} {p sz m a : Nat} (h0 : w[42]? = some (.inr (8, fm))) (f2 : fm[2]? = some (.ref 44)) (hT : w[44]? = some (.inl (0, ts))) (hTl : ts.length = 50) (hm : m < 4) (ha : a < 32) (hT0 : ts.getD 0 0 = Int32.ofNat p) (hp : p ≤ 5) (f10 : fm[10]? = some (.ref 50)) (f11 : fm[11]? = some (.int (Int32.ofNat sz))) (hS : w[50]? = some (.inl (0, sts))) (hSl : sts.length = 6) (hsz : sz ≤ 6) : ∀ (f i : Nat) (y : Bool), i + f = p → pm_Good sc mm_131 5 [(0, .ref 42), (1, .int (Int32.ofNat m)), (2, .int (Int32.ofNat a)), (3, .int (wy_i y)), (4, .int (Int32.ofNat i))] [] w 0 0 (wy_R w (wy_i (wy_sr ts sts p m a sz 0 (wy_cr ts m a f i y)))) := by
  have hx : pm_kb mm_131 mk_131 = true := (pm_mt_ok (j := 131) (x := (mm_131, 2, 0, mk_131)) rfl).2
  intro f
  induction f with
  | zero =>
    intro i y hi
    refine pm_ld_ok (i := .iload 4) (x := 4) (k := 0) (n := 2) (v := .int (Int32.ofNat i)) (pe_d hx (show pm_fetch mk_131 5 = some (.iload 4, 2, 0, 0, 0) from rfl)) rfl rfl rfl ?_
    refine pm_ld_ok (i := .aload_n 0) (x := 0) (k := 2) (n := 1) (v := .ref 42) (pe_d hx (show pm_fetch mk_131 7 = some (.aload_n 0, 1, 0, 0, 0) from rfl)) rfl rfl rfl ?_
    refine pe_getf hx (show pm_fetch mk_131 8 = some (.getfield 13, 3, 8, 2, 775) from rfl) (by decide) h0 f2 ?_
    refine pm_op_ok (i := .iconst 0) (st' := [.int 0, .ref 44, .int (Int32.ofNat i)]) (pe_d hx (show pm_fetch mk_131 11 = some (.iconst 0, 1, 0, 0, 0) from rfl)) rfl ?_
    refine wy_ld (k := 0) (pe_d hx (show pm_fetch mk_131 12 = some (.iaload, 1, 0, 0, 0) from rfl)) hT (by omega) (by omega) ?_
    refine wy_eq (y := Int32.ofNat p) (hT0) ?_
    show pm_Good sc mm_131 13 _ [.int (Int32.ofNat p), .int (Int32.ofNat i)] w 0 0 _
    refine wy_ge (off := 81) (pe_d hx (show pm_fetch mk_131 13 = some (.if_icmp .ge 81, 3, 0, 0, 0) from rfl)) (by decide) (n := i) (k := p) (by omega) (by omega) (fun g1 => ?_) (fun g1 => ?_)
    · show pm_Good sc mm_131 94 _ [] w 0 0 _
      refine pm_op_ok (i := .iconst 0) (st' := [.int 0]) (pe_d hx (show pm_fetch mk_131 94 = some (.iconst 0, 1, 0, 0, 0) from rfl)) rfl ?_
      refine pm_sto_ok (i := .istore 4) (x := 4) (k := 0) (n := 2) (pe_d hx (show pm_fetch mk_131 95 = some (.istore 4, 2, 0, 0, 0) from rfl)) rfl rfl (by decide) ?_
      refine pm_sub (lv' := [(0, .ref 42), (1, .int (Int32.ofNat m)), (2, .int (Int32.ofNat a)), (3, .int (wy_i y)), (4, .int (Int32.ofNat 0))]) (fun q hq => ?_) (wy_131s h0 f2 hT hTl hm ha hT0 hp f10 f11 hS hSl hsz sz 0 y (by omega))
      simp only [List.mem_cons, List.not_mem_nil, or_false] at hq
      rcases hq with rfl | rfl | rfl | rfl | rfl
      · exact List.mem_cons_of_mem _ (List.mem_cons_self)
      · exact List.mem_cons_of_mem _ (List.mem_cons_of_mem _ (List.mem_cons_self))
      · exact List.mem_cons_of_mem _ (List.mem_cons_of_mem _ (List.mem_cons_of_mem _ (List.mem_cons_self)))
      · exact List.mem_cons_of_mem _ (List.mem_cons_of_mem _ (List.mem_cons_of_mem _ (List.mem_cons_of_mem _ (List.mem_cons_self))))
      · exact List.mem_cons_self
    · show pm_Good sc mm_131 16 _ [] w 0 0 _
      exact absurd g1 (by omega)
  | succ f ih =>
    intro i y hi
    refine pm_ld_ok (i := .iload 4) (x := 4) (k := 0) (n := 2) (v := .int (Int32.ofNat i)) (pe_d hx (show pm_fetch mk_131 5 = some (.iload 4, 2, 0, 0, 0) from rfl)) rfl rfl rfl ?_
    refine pm_ld_ok (i := .aload_n 0) (x := 0) (k := 2) (n := 1) (v := .ref 42) (pe_d hx (show pm_fetch mk_131 7 = some (.aload_n 0, 1, 0, 0, 0) from rfl)) rfl rfl rfl ?_
    refine pe_getf hx (show pm_fetch mk_131 8 = some (.getfield 13, 3, 8, 2, 775) from rfl) (by decide) h0 f2 ?_
    refine pm_op_ok (i := .iconst 0) (st' := [.int 0, .ref 44, .int (Int32.ofNat i)]) (pe_d hx (show pm_fetch mk_131 11 = some (.iconst 0, 1, 0, 0, 0) from rfl)) rfl ?_
    refine wy_ld (k := 0) (pe_d hx (show pm_fetch mk_131 12 = some (.iaload, 1, 0, 0, 0) from rfl)) hT (by omega) (by omega) ?_
    refine wy_eq (y := Int32.ofNat p) (hT0) ?_
    show pm_Good sc mm_131 13 _ [.int (Int32.ofNat p), .int (Int32.ofNat i)] w 0 0 _
    refine wy_ge (off := 81) (pe_d hx (show pm_fetch mk_131 13 = some (.if_icmp .ge 81, 3, 0, 0, 0) from rfl)) (by decide) (n := i) (k := p) (by omega) (by omega) (fun g1 => ?_) (fun g1 => ?_)
    · show pm_Good sc mm_131 94 _ [] w 0 0 _
      exact absurd g1 (by omega)
    · show pm_Good sc mm_131 16 _ [] w 0 0 _
      rw [wy_cr]
      have J : ∀ z : Int32, pm_Good sc mm_131 87 [(5, .int z), (0, .ref 42), (1, .int (Int32.ofNat m)), (2, .int (Int32.ofNat a)), (3, .int (wy_i y)), (4, .int (Int32.ofNat i))] [.int (wy_i (y && (!a.testBit i || !wy_2 ts m i)))] w 0 0 (wy_R w (wy_i (wy_sr ts sts p m a sz 0 (wy_cr ts m a f (i + 1) (y && (!a.testBit i || !wy_2 ts m i)))))) := by
        intro z
        refine pm_sto_ok (i := .istore_n 3) (x := 3) (k := 0) (n := 1) (pe_d hx (show pm_fetch mk_131 87 = some (.istore_n 3, 1, 0, 0, 0) from rfl)) rfl rfl (by decide) ?_
        refine pm_inc (i := 4) (n := 1) (x := Int32.ofNat i) (pe_d hx (show pm_fetch mk_131 88 = some (.iinc 4 1, 3, 0, 0, 0) from rfl)) rfl (by decide) ?_
        refine pm_goto (off := (-86)) (pe_d hx (show pm_fetch mk_131 91 = some (.goto (-86), 3, 0, 0, 0) from rfl)) (by decide) ?_
        show pm_Good sc mm_131 5 _ [] w 0 0 _
        refine pm_sub (lv' := [(0, .ref 42), (1, .int (Int32.ofNat m)), (2, .int (Int32.ofNat a)), (3, .int (wy_i (y && (!a.testBit i || !wy_2 ts m i)))), (4, .int (Int32.ofNat (i + 1)))]) (fun q hq => ?_) (ih (i + 1) _ (by omega))
        simp only [List.mem_cons, List.not_mem_nil, or_false] at hq
        rcases hq with rfl | rfl | rfl | rfl | rfl
        · exact List.mem_cons_of_mem _ (List.mem_cons_of_mem _ (List.mem_cons_of_mem _ (List.mem_cons_self)))
        · exact List.mem_cons_of_mem _ (List.mem_cons_of_mem _ (List.mem_cons_of_mem _ (List.mem_cons_of_mem _ (List.mem_cons_self))))
        · exact List.mem_cons_of_mem _ (List.mem_cons_of_mem _ (List.mem_cons_of_mem _ (List.mem_cons_of_mem _ (List.mem_cons_of_mem _ (List.mem_cons_self)))))
        · exact List.mem_cons_of_mem _ (List.mem_cons_self)
        · rw [← wy_s i]; exact List.mem_cons_self
      have J2 : pm_Good sc mm_131 62 [(0, .ref 42), (1, .int (Int32.ofNat m)), (2, .int (Int32.ofNat a)), (3, .int (wy_i y)), (4, .int (Int32.ofNat i))] [.int (wy_i (wy_2 ts m i))] w 0 0 (wy_R w (wy_i (wy_sr ts sts p m a sz 0 (wy_cr ts m a f (i + 1) (y && (!a.testBit i || !wy_2 ts m i)))))) := by
        refine pm_sto_ok (i := .istore 5) (x := 5) (k := 0) (n := 2) (pe_d hx (show pm_fetch mk_131 62 = some (.istore 5, 2, 0, 0, 0) from rfl)) rfl rfl (by decide) ?_
        refine pm_ld_ok (i := .iload_n 3) (x := 3) (k := 0) (n := 1) (v := .int (wy_i y)) (pe_d hx (show pm_fetch mk_131 64 = some (.iload_n 3, 1, 0, 0, 0) from rfl)) rfl rfl rfl ?_
        refine wy_zE (off := 21) (pe_d hx (show pm_fetch mk_131 65 = some (.ifCond .eq 21, 3, 0, 0, 0) from rfl)) (by decide) (fun g3 => ?_) (fun g3 => ?_)
        · show pm_Good sc mm_131 86 _ [] w 0 0 _
          refine pm_op_ok (i := .iconst 0) (st' := [.int 0]) (pe_d hx (show pm_fetch mk_131 86 = some (.iconst 0, 1, 0, 0, 0) from rfl)) rfl ?_
          have e : (y && (!a.testBit i || !wy_2 ts m i)) = false := by rw [g3]; rfl
          rw [e] at J ⊢
          exact J _
        · show pm_Good sc mm_131 68 _ [] w 0 0 _
          refine pm_ld_ok (i := .iload_n 2) (x := 2) (k := 0) (n := 1) (v := .int (Int32.ofNat a)) (pe_d hx (show pm_fetch mk_131 68 = some (.iload_n 2, 1, 0, 0, 0) from rfl)) rfl rfl rfl ?_
          refine pm_ld_ok (i := .iload 4) (x := 4) (k := 0) (n := 2) (v := .int (Int32.ofNat i)) (pe_d hx (show pm_fetch mk_131 69 = some (.iload 4, 2, 0, 0, 0) from rfl)) rfl rfl rfl ?_
          refine pm_op_ok (i := .ishr) (st' := [.int ((Int32.ofNat a) >>> ((Int32.ofNat i) &&& 31))]) (pe_d hx (show pm_fetch mk_131 71 = some (.ishr, 1, 0, 0, 0) from rfl)) rfl ?_
          refine pm_op_ok (i := .iconst 1) (st' := [.int 1, .int ((Int32.ofNat a) >>> ((Int32.ofNat i) &&& 31))]) (pe_d hx (show pm_fetch mk_131 72 = some (.iconst 1, 1, 0, 0, 0) from rfl)) rfl ?_
          refine pm_op_ok (i := .iand) (st' := [.int (((Int32.ofNat a) >>> ((Int32.ofNat i) &&& 31)) &&& 1)]) (pe_d hx (show pm_fetch mk_131 73 = some (.iand, 1, 0, 0, 0) from rfl)) rfl ?_
          refine wy_eq (y := wy_i (a.testBit i)) (wy_bit a ha i (by omega)) ?_
          show pm_Good sc mm_131 74 _ [.int (wy_i (a.testBit i))] w 0 0 _
          refine wy_zE (off := 8) (pe_d hx (show pm_fetch mk_131 74 = some (.ifCond .eq 8, 3, 0, 0, 0) from rfl)) (by decide) (fun g4 => ?_) (fun g4 => ?_)
          · show pm_Good sc mm_131 82 _ [] w 0 0 _
            refine pm_op_ok (i := .iconst 1) (st' := [.int 1]) (pe_d hx (show pm_fetch mk_131 82 = some (.iconst 1, 1, 0, 0, 0) from rfl)) rfl ?_
            refine pm_goto (off := 4) (pe_d hx (show pm_fetch mk_131 83 = some (.goto 4, 3, 0, 0, 0) from rfl)) (by decide) ?_
            show pm_Good sc mm_131 87 _ [.int 1] w 0 0 _
            have e : (y && (!a.testBit i || !wy_2 ts m i)) = true := by rw [g3, g4]; rfl
            rw [e] at J ⊢
            exact J _
          · show pm_Good sc mm_131 77 _ [] w 0 0 _
            refine pm_ld_ok (i := .iload 5) (x := 5) (k := 0) (n := 2) (v := .int (wy_i (wy_2 ts m i))) (pe_d hx (show pm_fetch mk_131 77 = some (.iload 5, 2, 0, 0, 0) from rfl)) rfl rfl rfl ?_
            refine wy_zN (off := 7) (pe_d hx (show pm_fetch mk_131 79 = some (.ifCond .ne 7, 3, 0, 0, 0) from rfl)) (by decide) (fun g5 => ?_) (fun g5 => ?_)
            · show pm_Good sc mm_131 86 _ [] w 0 0 _
              refine pm_op_ok (i := .iconst 0) (st' := [.int 0]) (pe_d hx (show pm_fetch mk_131 86 = some (.iconst 0, 1, 0, 0, 0) from rfl)) rfl ?_
              have e : (y && (!a.testBit i || !wy_2 ts m i)) = false := by rw [g3, g4, g5]; rfl
              rw [e] at J ⊢
              exact J _
            · show pm_Good sc mm_131 82 _ [] w 0 0 _
              refine pm_op_ok (i := .iconst 1) (st' := [.int 1]) (pe_d hx (show pm_fetch mk_131 82 = some (.iconst 1, 1, 0, 0, 0) from rfl)) rfl ?_
              refine pm_goto (off := 4) (pe_d hx (show pm_fetch mk_131 83 = some (.goto 4, 3, 0, 0, 0) from rfl)) (by decide) ?_
              show pm_Good sc mm_131 87 _ [.int 1] w 0 0 _
              have e : (y && (!a.testBit i || !wy_2 ts m i)) = true := by rw [g3, g4, g5]; rfl
              rw [e] at J ⊢
              exact J _
      refine pm_ld_ok (i := .aload_n 0) (x := 0) (k := 2) (n := 1) (v := .ref 42) (pe_d hx (show pm_fetch mk_131 16 = some (.aload_n 0, 1, 0, 0, 0) from rfl)) rfl rfl rfl ?_
      refine pm_ld_ok (i := .iload 4) (x := 4) (k := 0) (n := 2) (v := .int (Int32.ofNat i)) (pe_d hx (show pm_fetch mk_131 17 = some (.iload 4, 2, 0, 0, 0) from rfl)) rfl rfl rfl ?_
      refine pm_ld_ok (i := .iload_n 1) (x := 1) (k := 0) (n := 1) (v := .int (Int32.ofNat m)) (pe_d hx (show pm_fetch mk_131 19 = some (.iload_n 1, 1, 0, 0, 0) from rfl)) rfl rfl rfl ?_
      refine wy_cV (y := (mm_118, 2, 0, mk_118)) (As := [.int (Int32.ofNat i), .int (Int32.ofNat m)]) (rest := []) (X := wy_i (wy_h ts m i)) hx (show pm_fetch mk_131 20 = some (.invokevirtual 113, 3, 118, 0, 870) from rfl) rfl rfl rfl (fun v hv => by simp only [List.mem_cons, List.not_mem_nil, or_false] at hv; rcases hv with rfl | rfl <;> rfl) h0 (show pm_cl[8]? = some _ from rfl) rfl (Nat.le_of_ble_eq_true rfl) (Nat.le_of_ble_eq_true rfl) (Nat.le_of_ble_eq_true rfl) (Nat.le_of_ble_eq_true rfl) (wy_118 h0 f2 hT hTl hm (by omega)) ?_
      show pm_Good sc mm_131 23 _ [.int (wy_i (wy_h ts m i))] w 0 0 _
      refine wy_zE (off := 34) (pe_d hx (show pm_fetch mk_131 23 = some (.ifCond .eq 34, 3, 0, 0, 0) from rfl)) (by decide) (fun g2 => ?_) (fun g2 => ?_)
      · show pm_Good sc mm_131 57 _ [] w 0 0 _
        refine pm_op_ok (i := .iconst 1) (st' := [.int 1]) (pe_d hx (show pm_fetch mk_131 57 = some (.iconst 1, 1, 0, 0, 0) from rfl)) rfl ?_
        refine pm_goto (off := 4) (pe_d hx (show pm_fetch mk_131 58 = some (.goto 4, 3, 0, 0, 0) from rfl)) (by decide) ?_
        show pm_Good sc mm_131 62 _ [.int 1] w 0 0 _
        have e : wy_2 ts m i = true := by unfold wy_2; rw [g2]; rfl
        rw [e] at J2
        rw [e]
        exact J2
      · show pm_Good sc mm_131 26 _ [] w 0 0 _
        refine pm_ld_ok (i := .aload_n 0) (x := 0) (k := 2) (n := 1) (v := .ref 42) (pe_d hx (show pm_fetch mk_131 26 = some (.aload_n 0, 1, 0, 0, 0) from rfl)) rfl rfl rfl ?_
        refine pe_getf hx (show pm_fetch mk_131 27 = some (.getfield 13, 3, 8, 2, 775) from rfl) (by decide) h0 f2 ?_
        refine pm_op_ok (i := .bipush 10) (st' := [.int 10, .ref 44]) (pe_d hx (show pm_fetch mk_131 30 = some (.bipush 10, 2, 0, 0, 0) from rfl)) rfl ?_
        refine pm_op_ok (i := .iconst 4) (st' := [.int 4, .int 10, .ref 44]) (pe_d hx (show pm_fetch mk_131 32 = some (.iconst 4, 1, 0, 0, 0) from rfl)) rfl ?_
        refine pm_ld_ok (i := .iload 4) (x := 4) (k := 0) (n := 2) (v := .int (Int32.ofNat i)) (pe_d hx (show pm_fetch mk_131 33 = some (.iload 4, 2, 0, 0, 0) from rfl)) rfl rfl rfl ?_
        refine pm_op_ok (i := .imul) (st' := [.int (4 * (Int32.ofNat i)), .int 10, .ref 44]) (pe_d hx (show pm_fetch mk_131 35 = some (.imul, 1, 0, 0, 0) from rfl)) rfl ?_
        refine pm_op_ok (i := .iadd) (st' := [.int (10 + (4 * (Int32.ofNat i))), .ref 44]) (pe_d hx (show pm_fetch mk_131 36 = some (.iadd, 1, 0, 0, 0) from rfl)) rfl ?_
        refine pm_ld_ok (i := .iload_n 1) (x := 1) (k := 0) (n := 1) (v := .int (Int32.ofNat m)) (pe_d hx (show pm_fetch mk_131 37 = some (.iload_n 1, 1, 0, 0, 0) from rfl)) rfl rfl rfl ?_
        refine pm_op_ok (i := .iadd) (st' := [.int ((10 + (4 * (Int32.ofNat i))) + (Int32.ofNat m)), .ref 44]) (pe_d hx (show pm_fetch mk_131 38 = some (.iadd, 1, 0, 0, 0) from rfl)) rfl ?_
        refine wy_eq (y := Int32.ofNat (10 + 4 * i + m)) (by rw [Int32.ofNat_add, Int32.ofNat_add, Int32.ofNat_mul] <;> rfl) ?_
        show pm_Good sc mm_131 39 _ [.int (Int32.ofNat (10 + 4 * i + m)), .ref 44] w 0 0 _
        refine wy_ld (k := 10 + 4 * i + m) (pe_d hx (show pm_fetch mk_131 39 = some (.iaload, 1, 0, 0, 0) from rfl)) hT (by omega) (by omega) ?_
        refine pm_ld_ok (i := .aload_n 0) (x := 0) (k := 2) (n := 1) (v := .ref 42) (pe_d hx (show pm_fetch mk_131 40 = some (.aload_n 0, 1, 0, 0, 0) from rfl)) rfl rfl rfl ?_
        refine pe_getf hx (show pm_fetch mk_131 41 = some (.getfield 13, 3, 8, 2, 775) from rfl) (by decide) h0 f2 ?_
        refine pm_op_ok (i := .bipush 30) (st' := [.int 30, .ref 44, .int (ts.getD (10 + 4 * i + m) 0)]) (pe_d hx (show pm_fetch mk_131 44 = some (.bipush 30, 2, 0, 0, 0) from rfl)) rfl ?_
        refine pm_op_ok (i := .iconst 4) (st' := [.int 4, .int 30, .ref 44, .int (ts.getD (10 + 4 * i + m) 0)]) (pe_d hx (show pm_fetch mk_131 46 = some (.iconst 4, 1, 0, 0, 0) from rfl)) rfl ?_
        refine pm_ld_ok (i := .iload 4) (x := 4) (k := 0) (n := 2) (v := .int (Int32.ofNat i)) (pe_d hx (show pm_fetch mk_131 47 = some (.iload 4, 2, 0, 0, 0) from rfl)) rfl rfl rfl ?_
        refine pm_op_ok (i := .imul) (st' := [.int (4 * (Int32.ofNat i)), .int 30, .ref 44, .int (ts.getD (10 + 4 * i + m) 0)]) (pe_d hx (show pm_fetch mk_131 49 = some (.imul, 1, 0, 0, 0) from rfl)) rfl ?_
        refine pm_op_ok (i := .iadd) (st' := [.int (30 + (4 * (Int32.ofNat i))), .ref 44, .int (ts.getD (10 + 4 * i + m) 0)]) (pe_d hx (show pm_fetch mk_131 50 = some (.iadd, 1, 0, 0, 0) from rfl)) rfl ?_
        refine pm_ld_ok (i := .iload_n 1) (x := 1) (k := 0) (n := 1) (v := .int (Int32.ofNat m)) (pe_d hx (show pm_fetch mk_131 51 = some (.iload_n 1, 1, 0, 0, 0) from rfl)) rfl rfl rfl ?_
        refine pm_op_ok (i := .iadd) (st' := [.int ((30 + (4 * (Int32.ofNat i))) + (Int32.ofNat m)), .ref 44, .int (ts.getD (10 + 4 * i + m) 0)]) (pe_d hx (show pm_fetch mk_131 52 = some (.iadd, 1, 0, 0, 0) from rfl)) rfl ?_
        refine wy_eq (y := Int32.ofNat (30 + 4 * i + m)) (by rw [Int32.ofNat_add, Int32.ofNat_add, Int32.ofNat_mul] <;> rfl) ?_
        show pm_Good sc mm_131 53 _ [.int (Int32.ofNat (30 + 4 * i + m)), .ref 44, .int (ts.getD (10 + 4 * i + m) 0)] w 0 0 _
        refine wy_ld (k := 30 + 4 * i + m) (pe_d hx (show pm_fetch mk_131 53 = some (.iaload, 1, 0, 0, 0) from rfl)) hT (by omega) (by omega) ?_
        refine wy_ne (off := 7) (pe_d hx (show pm_fetch mk_131 54 = some (.if_icmp .ne 7, 3, 0, 0, 0) from rfl)) (by decide) (fun g3 => ?_) (fun g3 => ?_)
        · show pm_Good sc mm_131 61 _ [] w 0 0 _
          refine pm_op_ok (i := .iconst 0) (st' := [.int 0]) (pe_d hx (show pm_fetch mk_131 61 = some (.iconst 0, 1, 0, 0, 0) from rfl)) rfl ?_
          have e : wy_2 ts m i = false := by unfold wy_2; rw [g2, decide_eq_false g3]; rfl
          rw [e] at J2
          rw [e]
          exact J2
        · show pm_Good sc mm_131 57 _ [] w 0 0 _
          refine pm_op_ok (i := .iconst 1) (st' := [.int 1]) (pe_d hx (show pm_fetch mk_131 57 = some (.iconst 1, 1, 0, 0, 0) from rfl)) rfl ?_
          refine pm_goto (off := 4) (pe_d hx (show pm_fetch mk_131 58 = some (.goto 4, 3, 0, 0, 0) from rfl)) (by decide) ?_
          show pm_Good sc mm_131 62 _ [.int 1] w 0 0 _
          have e : wy_2 ts m i = true := by unfold wy_2; rw [decide_eq_true g3, Bool.or_true]
          rw [e] at J2
          rw [e]
          exact J2
theorem wy_131 {w : pm_W} {fm : List Value} {ts : List Int32} {sts : List Int32} {p sz m a : Nat} (h0 : w[42]? = some (.inr (8, fm))) (f2 : fm[2]? = some (.ref 44)) (hT : w[44]? = some (.inl (0, ts))) (hTl : ts.length = 50) (hm : m < 4) (ha : a < 32) (hT0 : ts.getD 0 0 = Int32.ofNat p) (hp : p ≤ 5) (f10 : fm[10]? = some (.ref 50)) (f11 : fm[11]? = some (.int (Int32.ofNat sz))) (hS : w[50]? = some (.inl (0, sts))) (hSl : sts.length = 6) (hsz : sz ≤ 6) : pm_GoodM sc mm_131 [.ref 42, .int (Int32.ofNat m), .int (Int32.ofNat a)] w (wy_R w (wy_i (wy_cn ts sts p sz m a))) := by
  have hx : pm_kb mm_131 mk_131 = true := (pm_mt_ok (j := 131) (x := (mm_131, 2, 0, mk_131)) rfl).2
  unfold pm_GoodM
  show pm_Good sc mm_131 0 [(0, .ref 42), (1, .int (Int32.ofNat m)), (2, .int (Int32.ofNat a))] [] w 0 0 _
  refine pm_op_ok (i := .iconst 1) (st' := [.int 1]) (pe_d hx (show pm_fetch mk_131 0 = some (.iconst 1, 1, 0, 0, 0) from rfl)) rfl ?_
  refine pm_sto_ok (i := .istore_n 3) (x := 3) (k := 0) (n := 1) (pe_d hx (show pm_fetch mk_131 1 = some (.istore_n 3, 1, 0, 0, 0) from rfl)) rfl rfl (by decide) ?_
  refine pm_op_ok (i := .iconst 0) (st' := [.int 0]) (pe_d hx (show pm_fetch mk_131 2 = some (.iconst 0, 1, 0, 0, 0) from rfl)) rfl ?_
  refine pm_sto_ok (i := .istore 4) (x := 4) (k := 0) (n := 2) (pe_d hx (show pm_fetch mk_131 3 = some (.istore 4, 2, 0, 0, 0) from rfl)) rfl rfl (by decide) ?_
  refine pm_sub (lv' := [(0, .ref 42), (1, .int (Int32.ofNat m)), (2, .int (Int32.ofNat a)), (3, .int (wy_i true)), (4, .int (Int32.ofNat 0))]) (fun q hq => ?_) (wy_131f h0 f2 hT hTl hm ha hT0 hp f10 f11 hS hSl hsz p 0 true (by omega))
  simp only [List.mem_cons, List.not_mem_nil, or_false] at hq
  rcases hq with rfl | rfl | rfl | rfl | rfl
  · exact List.mem_cons_of_mem _ (List.mem_cons_of_mem _ (List.mem_cons_self))
  · exact List.mem_cons_of_mem _ (List.mem_cons_of_mem _ (List.mem_cons_of_mem _ (List.mem_cons_self)))
  · exact List.mem_cons_of_mem _ (List.mem_cons_of_mem _ (List.mem_cons_of_mem _ (List.mem_cons_of_mem _ (List.mem_cons_self))))
  · exact List.mem_cons_of_mem _ (List.mem_cons_self)
  · exact List.mem_cons_self
theorem wy_166l {w : pm_W} {fm : List Value} {ts : List Int32} {sts : List Int32} {p sz m : Nat} (h0 : w[42]? = some (.inr (8, fm))) (f2 : fm[2]? = some (.ref 44)) (hT : w[44]? = some (.inl (0, ts))) (hTl : ts.length = 50) (hm : m < 4) (hT0 : ts.getD 0 0 = Int32.ofNat p) (hp : p ≤ 5) (f10 : fm[10]? = some (.ref 50)) (f11 : fm[11]? = some (.int (Int32.ofNat sz))) (hS : w[50]? = some (.inl (0, sts))) (hSl : sts.length = 6) (hsz : sz ≤ 6) : ∀ (f a n : Nat), a + f = 2 ^ p → pm_Good sc mm_166 13 [(0, .ref 42), (1, .int (Int32.ofNat m)), (2, .int (Int32.ofNat n)), (3, .int (Int32.ofNat a))] [] w 0 0 (wy_R w (Int32.ofNat (wy_w (wy_cn ts sts p sz m) f a n))) := by
  have hx : pm_kb mm_166 mk_166 = true := (pm_mt_ok (j := 166) (x := (mm_166, 1, 0, mk_166)) rfl).2
  have hsh := wy_shl p (by omega)
  intro f
  induction f with
  | zero =>
    intro a n ha
    refine pm_ld_ok (i := .iload_n 3) (x := 3) (k := 0) (n := 1) (v := .int (Int32.ofNat a)) (pe_d hx (show pm_fetch mk_166 13 = some (.iload_n 3, 1, 0, 0, 0) from rfl)) rfl rfl rfl ?_
    refine pm_op_ok (i := .iconst 1) (st' := [.int 1, .int (Int32.ofNat a)]) (pe_d hx (show pm_fetch mk_166 14 = some (.iconst 1, 1, 0, 0, 0) from rfl)) rfl ?_
    refine pm_ld_ok (i := .aload_n 0) (x := 0) (k := 2) (n := 1) (v := .ref 42) (pe_d hx (show pm_fetch mk_166 15 = some (.aload_n 0, 1, 0, 0, 0) from rfl)) rfl rfl rfl ?_
    refine pe_getf hx (show pm_fetch mk_166 16 = some (.getfield 13, 3, 8, 2, 775) from rfl) (by decide) h0 f2 ?_
    refine pm_op_ok (i := .iconst 0) (st' := [.int 0, .ref 44, .int 1, .int (Int32.ofNat a)]) (pe_d hx (show pm_fetch mk_166 19 = some (.iconst 0, 1, 0, 0, 0) from rfl)) rfl ?_
    refine wy_ld (k := 0) (pe_d hx (show pm_fetch mk_166 20 = some (.iaload, 1, 0, 0, 0) from rfl)) hT (by omega) (by omega) ?_
    refine wy_eq (y := Int32.ofNat p) (hT0) ?_
    show pm_Good sc mm_166 21 _ [.int (Int32.ofNat p), .int 1, .int (Int32.ofNat a)] w 0 0 _
    refine pm_op_ok (i := .ishl) (st' := [.int (1 <<< ((Int32.ofNat p) &&& 31)), .int (Int32.ofNat a)]) (pe_d hx (show pm_fetch mk_166 21 = some (.ishl, 1, 0, 0, 0) from rfl)) rfl ?_
    refine wy_eq (y := Int32.ofNat (2 ^ p)) (hsh.1) ?_
    show pm_Good sc mm_166 22 _ [.int (Int32.ofNat (2 ^ p)), .int (Int32.ofNat a)] w 0 0 _
    refine wy_ge (off := 26) (pe_d hx (show pm_fetch mk_166 22 = some (.if_icmp .ge 26, 3, 0, 0, 0) from rfl)) (by decide) (n := a) (k := 2 ^ p) (by omega) (by omega) (fun g1 => ?_) (fun g1 => ?_)
    · show pm_Good sc mm_166 48 _ [] w 0 0 _
      refine pm_ld_ok (i := .iload_n 2) (x := 2) (k := 0) (n := 1) (v := .int (Int32.ofNat n)) (pe_d hx (show pm_fetch mk_166 48 = some (.iload_n 2, 1, 0, 0, 0) from rfl)) rfl rfl rfl ?_
      exact pm_iret (ty := .int) (pe_d hx (show pm_fetch mk_166 49 = some (.ireturn, 1, 0, 0, 0) from rfl)) rfl (rfl) (⟨rfl, rfl⟩)
    · show pm_Good sc mm_166 25 _ [] w 0 0 _
      exact absurd g1 (by omega)
  | succ f ih =>
    intro a n ha
    refine pm_ld_ok (i := .iload_n 3) (x := 3) (k := 0) (n := 1) (v := .int (Int32.ofNat a)) (pe_d hx (show pm_fetch mk_166 13 = some (.iload_n 3, 1, 0, 0, 0) from rfl)) rfl rfl rfl ?_
    refine pm_op_ok (i := .iconst 1) (st' := [.int 1, .int (Int32.ofNat a)]) (pe_d hx (show pm_fetch mk_166 14 = some (.iconst 1, 1, 0, 0, 0) from rfl)) rfl ?_
    refine pm_ld_ok (i := .aload_n 0) (x := 0) (k := 2) (n := 1) (v := .ref 42) (pe_d hx (show pm_fetch mk_166 15 = some (.aload_n 0, 1, 0, 0, 0) from rfl)) rfl rfl rfl ?_
    refine pe_getf hx (show pm_fetch mk_166 16 = some (.getfield 13, 3, 8, 2, 775) from rfl) (by decide) h0 f2 ?_
    refine pm_op_ok (i := .iconst 0) (st' := [.int 0, .ref 44, .int 1, .int (Int32.ofNat a)]) (pe_d hx (show pm_fetch mk_166 19 = some (.iconst 0, 1, 0, 0, 0) from rfl)) rfl ?_
    refine wy_ld (k := 0) (pe_d hx (show pm_fetch mk_166 20 = some (.iaload, 1, 0, 0, 0) from rfl)) hT (by omega) (by omega) ?_
    refine wy_eq (y := Int32.ofNat p) (hT0) ?_
    show pm_Good sc mm_166 21 _ [.int (Int32.ofNat p), .int 1, .int (Int32.ofNat a)] w 0 0 _
    refine pm_op_ok (i := .ishl) (st' := [.int (1 <<< ((Int32.ofNat p) &&& 31)), .int (Int32.ofNat a)]) (pe_d hx (show pm_fetch mk_166 21 = some (.ishl, 1, 0, 0, 0) from rfl)) rfl ?_
    refine wy_eq (y := Int32.ofNat (2 ^ p)) (hsh.1) ?_
    show pm_Good sc mm_166 22 _ [.int (Int32.ofNat (2 ^ p)), .int (Int32.ofNat a)] w 0 0 _
    refine wy_ge (off := 26) (pe_d hx (show pm_fetch mk_166 22 = some (.if_icmp .ge 26, 3, 0, 0, 0) from rfl)) (by decide) (n := a) (k := 2 ^ p) (by omega) (by omega) (fun g1 => ?_) (fun g1 => ?_)
    · show pm_Good sc mm_166 48 _ [] w 0 0 _
      exact absurd g1 (by omega)
    · show pm_Good sc mm_166 25 _ [] w 0 0 _
      refine pm_ld_ok (i := .iload_n 2) (x := 2) (k := 0) (n := 1) (v := .int (Int32.ofNat n)) (pe_d hx (show pm_fetch mk_166 25 = some (.iload_n 2, 1, 0, 0, 0) from rfl)) rfl rfl rfl ?_
      refine pm_ld_ok (i := .aload_n 0) (x := 0) (k := 2) (n := 1) (v := .ref 42) (pe_d hx (show pm_fetch mk_166 26 = some (.aload_n 0, 1, 0, 0, 0) from rfl)) rfl rfl rfl ?_
      refine pm_ld_ok (i := .iload_n 1) (x := 1) (k := 0) (n := 1) (v := .int (Int32.ofNat m)) (pe_d hx (show pm_fetch mk_166 27 = some (.iload_n 1, 1, 0, 0, 0) from rfl)) rfl rfl rfl ?_
      refine pm_ld_ok (i := .iload_n 3) (x := 3) (k := 0) (n := 1) (v := .int (Int32.ofNat a)) (pe_d hx (show pm_fetch mk_166 28 = some (.iload_n 3, 1, 0, 0, 0) from rfl)) rfl rfl rfl ?_
      refine wy_cV (y := (mm_131, 2, 0, mk_131)) (As := [.int (Int32.ofNat m), .int (Int32.ofNat a)]) (rest := [.int (Int32.ofNat n)]) (X := wy_i (wy_cn ts sts p sz m a)) hx (show pm_fetch mk_166 29 = some (.invokevirtual 165, 3, 131, 0, 1000) from rfl) rfl rfl rfl (fun v hv => by simp only [List.mem_cons, List.not_mem_nil, or_false] at hv; rcases hv with rfl | rfl <;> rfl) h0 (show pm_cl[8]? = some _ from rfl) rfl (Nat.le_of_ble_eq_true rfl) (Nat.le_of_ble_eq_true rfl) (Nat.le_of_ble_eq_true rfl) (Nat.le_of_ble_eq_true rfl) (wy_131 h0 f2 hT hTl hm (by omega) hT0 hp f10 f11 hS hSl hsz) ?_
      show pm_Good sc mm_166 32 _ [.int (wy_i (wy_cn ts sts p sz m a)), .int (Int32.ofNat n)] w 0 0 _
      refine wy_zE (off := 7) (pe_d hx (show pm_fetch mk_166 32 = some (.ifCond .eq 7, 3, 0, 0, 0) from rfl)) (by decide) (fun g2 => ?_) (fun g2 => ?_)
      · show pm_Good sc mm_166 39 _ [.int (Int32.ofNat n)] w 0 0 _
        rw [wy_w, g2]
        refine pm_op_ok (i := .iconst 0) (st' := [.int 0, .int (Int32.ofNat n)]) (pe_d hx (show pm_fetch mk_166 39 = some (.iconst 0, 1, 0, 0, 0) from rfl)) rfl ?_
        refine pm_op_ok (i := .iadd) (st' := [.int ((Int32.ofNat n) + 0)]) (pe_d hx (show pm_fetch mk_166 40 = some (.iadd, 1, 0, 0, 0) from rfl)) rfl ?_
        refine wy_eq (y := Int32.ofNat (n + 0)) (by rw [Int32.ofNat_add] <;> rfl) ?_
        show pm_Good sc mm_166 41 _ [.int (Int32.ofNat (n + 0))] w 0 0 _
        refine pm_sto_ok (i := .istore_n 2) (x := 2) (k := 0) (n := 1) (pe_d hx (show pm_fetch mk_166 41 = some (.istore_n 2, 1, 0, 0, 0) from rfl)) rfl rfl (by decide) ?_
        refine pm_inc (i := 3) (n := 1) (x := Int32.ofNat a) (pe_d hx (show pm_fetch mk_166 42 = some (.iinc 3 1, 3, 0, 0, 0) from rfl)) rfl (by decide) ?_
        refine pm_goto (off := (-32)) (pe_d hx (show pm_fetch mk_166 45 = some (.goto (-32), 3, 0, 0, 0) from rfl)) (by decide) ?_
        show pm_Good sc mm_166 13 _ [] w 0 0 _
        refine pm_sub (lv' := [(0, .ref 42), (1, .int (Int32.ofNat m)), (2, .int (Int32.ofNat (n + 0))), (3, .int (Int32.ofNat (a + 1)))]) (fun q hq => ?_) (ih (a + 1) (n + 0) (by omega))
        simp only [List.mem_cons, List.not_mem_nil, or_false] at hq
        rcases hq with rfl | rfl | rfl | rfl
        · exact List.mem_cons_of_mem _ (List.mem_cons_of_mem _ (List.mem_cons_self))
        · exact List.mem_cons_of_mem _ (List.mem_cons_of_mem _ (List.mem_cons_of_mem _ (List.mem_cons_self)))
        · exact List.mem_cons_of_mem _ (List.mem_cons_self)
        · rw [← wy_s a]; exact List.mem_cons_self
      · show pm_Good sc mm_166 35 _ [.int (Int32.ofNat n)] w 0 0 _
        rw [wy_w, g2]
        refine pm_op_ok (i := .iconst 1) (st' := [.int 1, .int (Int32.ofNat n)]) (pe_d hx (show pm_fetch mk_166 35 = some (.iconst 1, 1, 0, 0, 0) from rfl)) rfl ?_
        refine pm_goto (off := 4) (pe_d hx (show pm_fetch mk_166 36 = some (.goto 4, 3, 0, 0, 0) from rfl)) (by decide) ?_
        show pm_Good sc mm_166 40 _ [.int 1, .int (Int32.ofNat n)] w 0 0 _
        refine pm_op_ok (i := .iadd) (st' := [.int ((Int32.ofNat n) + 1)]) (pe_d hx (show pm_fetch mk_166 40 = some (.iadd, 1, 0, 0, 0) from rfl)) rfl ?_
        refine wy_eq (y := Int32.ofNat (n + 1)) (by rw [Int32.ofNat_add] <;> rfl) ?_
        show pm_Good sc mm_166 41 _ [.int (Int32.ofNat (n + 1))] w 0 0 _
        refine pm_sto_ok (i := .istore_n 2) (x := 2) (k := 0) (n := 1) (pe_d hx (show pm_fetch mk_166 41 = some (.istore_n 2, 1, 0, 0, 0) from rfl)) rfl rfl (by decide) ?_
        refine pm_inc (i := 3) (n := 1) (x := Int32.ofNat a) (pe_d hx (show pm_fetch mk_166 42 = some (.iinc 3 1, 3, 0, 0, 0) from rfl)) rfl (by decide) ?_
        refine pm_goto (off := (-32)) (pe_d hx (show pm_fetch mk_166 45 = some (.goto (-32), 3, 0, 0, 0) from rfl)) (by decide) ?_
        show pm_Good sc mm_166 13 _ [] w 0 0 _
        refine pm_sub (lv' := [(0, .ref 42), (1, .int (Int32.ofNat m)), (2, .int (Int32.ofNat (n + 1))), (3, .int (Int32.ofNat (a + 1)))]) (fun q hq => ?_) (ih (a + 1) (n + 1) (by omega))
        simp only [List.mem_cons, List.not_mem_nil, or_false] at hq
        rcases hq with rfl | rfl | rfl | rfl
        · exact List.mem_cons_of_mem _ (List.mem_cons_of_mem _ (List.mem_cons_self))
        · exact List.mem_cons_of_mem _ (List.mem_cons_of_mem _ (List.mem_cons_of_mem _ (List.mem_cons_self)))
        · exact List.mem_cons_of_mem _ (List.mem_cons_self)
        · rw [← wy_s a]; exact List.mem_cons_self
theorem wy_166 {w : pm_W} {fm : List Value} {ts : List Int32} {sts : List Int32} {p sz m : Nat} (h0 : w[42]? = some (.inr (8, fm))) (f2 : fm[2]? = some (.ref 44)) (hT : w[44]? = some (.inl (0, ts))) (hTl : ts.length = 50) (hm : m < 4) (hT0 : ts.getD 0 0 = Int32.ofNat p) (hp : p ≤ 5) (f10 : fm[10]? = some (.ref 50)) (f11 : fm[11]? = some (.int (Int32.ofNat sz))) (hS : w[50]? = some (.inl (0, sts))) (hSl : sts.length = 6) (hsz : sz ≤ 6) : pm_GoodM sc mm_166 [.ref 42, .int (Int32.ofNat m)] w (wy_R w (Int32.ofNat (wy_w (wy_cn ts sts p sz m) (2 ^ p) 0 0))) := by
  have hx : pm_kb mm_166 mk_166 = true := (pm_mt_ok (j := 166) (x := (mm_166, 1, 0, mk_166)) rfl).2
  unfold pm_GoodM
  show pm_Good sc mm_166 0 [(0, .ref 42), (1, .int (Int32.ofNat m))] [] w 0 0 _
  refine pm_ld_ok (i := .iload_n 1) (x := 1) (k := 0) (n := 1) (v := .int (Int32.ofNat m)) (pe_d hx (show pm_fetch mk_166 0 = some (.iload_n 1, 1, 0, 0, 0) from rfl)) rfl rfl rfl ?_
  refine wy_cS (y := (mm_122, 1, 1, mk_122)) (As := [.int (Int32.ofNat m)]) (rest := []) (X := wy_i (decide (0 ≤ (Int32.ofNat m).toInt ∧ (Int32.ofNat m).toInt ≤ 3))) hx (show pm_fetch mk_166 1 = some (.invokestatic 110, 3, 122, 0, 867) from rfl) rfl rfl rfl (fun v hv => by simp only [List.mem_cons, List.not_mem_nil, or_false] at hv; rcases hv with rfl <;> rfl) (Nat.le_of_ble_eq_true rfl) (Nat.le_of_ble_eq_true rfl) (Nat.le_of_ble_eq_true rfl) (Nat.le_of_ble_eq_true rfl) (wy_122) ?_
  show pm_Good sc mm_166 4 _ [.int (wy_i (decide (0 ≤ (Int32.ofNat m).toInt ∧ (Int32.ofNat m).toInt ≤ 3)))] w 0 0 _
  refine wy_eq (y := wy_i true) (by rw [decide_eq_true (by rw [wy_t (by omega)]; omega)]) ?_
  show pm_Good sc mm_166 4 _ [.int (wy_i true)] w 0 0 _
  refine wy_zN (off := 5) (pe_d hx (show pm_fetch mk_166 4 = some (.ifCond .ne 5, 3, 0, 0, 0) from rfl)) (by decide) (fun g1 => ?_) (fun g1 => ?_)
  · show pm_Good sc mm_166 9 _ [] w 0 0 _
    refine pm_op_ok (i := .iconst 0) (st' := [.int 0]) (pe_d hx (show pm_fetch mk_166 9 = some (.iconst 0, 1, 0, 0, 0) from rfl)) rfl ?_
    refine pm_sto_ok (i := .istore_n 2) (x := 2) (k := 0) (n := 1) (pe_d hx (show pm_fetch mk_166 10 = some (.istore_n 2, 1, 0, 0, 0) from rfl)) rfl rfl (by decide) ?_
    refine pm_op_ok (i := .iconst 0) (st' := [.int 0]) (pe_d hx (show pm_fetch mk_166 11 = some (.iconst 0, 1, 0, 0, 0) from rfl)) rfl ?_
    refine pm_sto_ok (i := .istore_n 3) (x := 3) (k := 0) (n := 1) (pe_d hx (show pm_fetch mk_166 12 = some (.istore_n 3, 1, 0, 0, 0) from rfl)) rfl rfl (by decide) ?_
    refine pm_sub (lv' := [(0, .ref 42), (1, .int (Int32.ofNat m)), (2, .int (Int32.ofNat 0)), (3, .int (Int32.ofNat 0))]) (fun q hq => ?_) (wy_166l h0 f2 hT hTl hm hT0 hp f10 f11 hS hSl hsz (2 ^ p) 0 0 (by omega))
    simp only [List.mem_cons, List.not_mem_nil, or_false] at hq
    rcases hq with rfl | rfl | rfl | rfl
    · exact List.mem_cons_of_mem _ (List.mem_cons_of_mem _ (List.mem_cons_self))
    · exact List.mem_cons_of_mem _ (List.mem_cons_of_mem _ (List.mem_cons_of_mem _ (List.mem_cons_self)))
    · exact List.mem_cons_of_mem _ (List.mem_cons_self)
    · exact List.mem_cons_self
  · show pm_Good sc mm_166 7 _ [] w 0 0 _
    cases g1
theorem wy_166n {w : pm_W} {k : Int32} (hk : ¬ (0 ≤ k.toInt ∧ k.toInt ≤ 3)) : pm_GoodM sc mm_166 [.ref 42, .int k] w (wy_R w (-1)) := by
  have hx : pm_kb mm_166 mk_166 = true := (pm_mt_ok (j := 166) (x := (mm_166, 1, 0, mk_166)) rfl).2
  unfold pm_GoodM
  show pm_Good sc mm_166 0 [(0, .ref 42), (1, .int k)] [] w 0 0 _
  refine pm_ld_ok (i := .iload_n 1) (x := 1) (k := 0) (n := 1) (v := .int k) (pe_d hx (show pm_fetch mk_166 0 = some (.iload_n 1, 1, 0, 0, 0) from rfl)) rfl rfl rfl ?_
  refine wy_cS (y := (mm_122, 1, 1, mk_122)) (As := [.int k]) (rest := []) (X := wy_i (decide (0 ≤ k.toInt ∧ k.toInt ≤ 3))) hx (show pm_fetch mk_166 1 = some (.invokestatic 110, 3, 122, 0, 867) from rfl) rfl rfl rfl (fun v hv => by simp only [List.mem_cons, List.not_mem_nil, or_false] at hv; rcases hv with rfl <;> rfl) (Nat.le_of_ble_eq_true rfl) (Nat.le_of_ble_eq_true rfl) (Nat.le_of_ble_eq_true rfl) (Nat.le_of_ble_eq_true rfl) (wy_122) ?_
  show pm_Good sc mm_166 4 _ [.int (wy_i (decide (0 ≤ k.toInt ∧ k.toInt ≤ 3)))] w 0 0 _
  refine wy_eq (y := wy_i false) (by rw [decide_eq_false hk]) ?_
  show pm_Good sc mm_166 4 _ [.int (wy_i false)] w 0 0 _
  refine wy_zN (off := 5) (pe_d hx (show pm_fetch mk_166 4 = some (.ifCond .ne 5, 3, 0, 0, 0) from rfl)) (by decide) (fun g1 => ?_) (fun g1 => ?_)
  · show pm_Good sc mm_166 9 _ [] w 0 0 _
    cases g1
  · show pm_Good sc mm_166 7 _ [] w 0 0 _
    refine pm_op_ok (i := .iconst (-1)) (st' := [.int (-1)]) (pe_d hx (show pm_fetch mk_166 7 = some (.iconst (-1), 1, 0, 0, 0) from rfl)) rfl ?_
    exact pm_iret (ty := .int) (pe_d hx (show pm_fetch mk_166 8 = some (.ireturn, 1, 0, 0, 0) from rfl)) rfl (rfl) (⟨rfl, rfl⟩)
theorem wy_162i {w : pm_W} {fm : List Value} {ts : List Int32} {sts : List Int32} {p sz m a : Nat} (h0 : w[42]? = some (.inr (8, fm))) (f2 : fm[2]? = some (.ref 44)) (hT : w[44]? = some (.inl (0, ts))) (hTl : ts.length = 50) (hm : m < 4) (ha : a < 32) (hT0 : ts.getD 0 0 = Int32.ofNat p) (hp : p ≤ 5) (f10 : fm[10]? = some (.ref 50)) (f11 : fm[11]? = some (.int (Int32.ofNat sz))) (hS : w[50]? = some (.inl (0, sts))) (hSl : sts.length = 6) (hsz : sz ≤ 6) {pl : Nat} {y : Bool} : ∀ (f i t : Nat), i + f = p → t < 32 → pm_Good sc mm_162 107 [(0, .ref 42), (1, .int (Int32.ofNat m)), (2, .int (Int32.ofNat pl)), (3, .int (Int32.ofNat (wy_in (fun i => decide (wy_by ts m a i = Int32.ofNat pl)) f i t))), (4, .int (wy_i y)), (5, .int (Int32.ofNat a))] [] w 0 0 P → pm_Good sc mm_162 64 [(0, .ref 42), (1, .int (Int32.ofNat m)), (2, .int (Int32.ofNat pl)), (3, .int (Int32.ofNat t)), (4, .int (wy_i y)), (5, .int (Int32.ofNat a)), (6, .int (Int32.ofNat i))] [] w 0 0 P := by
  have hx : pm_kb mm_162 mk_162 = true := (pm_mt_ok (j := 162) (x := (mm_162, 2, 0, mk_162)) rfl).2
  intro f
  induction f with
  | zero =>
    intro i t hi ht hG
    refine pm_ld_ok (i := .iload 6) (x := 6) (k := 0) (n := 2) (v := .int (Int32.ofNat i)) (pe_d hx (show pm_fetch mk_162 64 = some (.iload 6, 2, 0, 0, 0) from rfl)) rfl rfl rfl ?_
    refine pm_ld_ok (i := .aload_n 0) (x := 0) (k := 2) (n := 1) (v := .ref 42) (pe_d hx (show pm_fetch mk_162 66 = some (.aload_n 0, 1, 0, 0, 0) from rfl)) rfl rfl rfl ?_
    refine pe_getf hx (show pm_fetch mk_162 67 = some (.getfield 13, 3, 8, 2, 775) from rfl) (by decide) h0 f2 ?_
    refine pm_op_ok (i := .iconst 0) (st' := [.int 0, .ref 44, .int (Int32.ofNat i)]) (pe_d hx (show pm_fetch mk_162 70 = some (.iconst 0, 1, 0, 0, 0) from rfl)) rfl ?_
    refine wy_ld (k := 0) (pe_d hx (show pm_fetch mk_162 71 = some (.iaload, 1, 0, 0, 0) from rfl)) hT (by omega) (by omega) ?_
    refine wy_eq (y := Int32.ofNat p) (hT0) ?_
    show pm_Good sc mm_162 72 _ [.int (Int32.ofNat p), .int (Int32.ofNat i)] w 0 0 _
    refine wy_ge (off := 35) (pe_d hx (show pm_fetch mk_162 72 = some (.if_icmp .ge 35, 3, 0, 0, 0) from rfl)) (by decide) (n := i) (k := p) (by omega) (by omega) (fun g1 => ?_) (fun g1 => ?_)
    · show pm_Good sc mm_162 107 _ [] w 0 0 _
      refine pm_sub (lv' := [(0, .ref 42), (1, .int (Int32.ofNat m)), (2, .int (Int32.ofNat pl)), (3, .int (Int32.ofNat t)), (4, .int (wy_i y)), (5, .int (Int32.ofNat a))]) (fun q hq => ?_) (hG)
      simp only [List.mem_cons, List.not_mem_nil, or_false] at hq
      rcases hq with rfl | rfl | rfl | rfl | rfl | rfl
      · exact List.mem_cons_self
      · exact List.mem_cons_of_mem _ (List.mem_cons_self)
      · exact List.mem_cons_of_mem _ (List.mem_cons_of_mem _ (List.mem_cons_self))
      · exact List.mem_cons_of_mem _ (List.mem_cons_of_mem _ (List.mem_cons_of_mem _ (List.mem_cons_self)))
      · exact List.mem_cons_of_mem _ (List.mem_cons_of_mem _ (List.mem_cons_of_mem _ (List.mem_cons_of_mem _ (List.mem_cons_self))))
      · exact List.mem_cons_of_mem _ (List.mem_cons_of_mem _ (List.mem_cons_of_mem _ (List.mem_cons_of_mem _ (List.mem_cons_of_mem _ (List.mem_cons_self)))))
    · show pm_Good sc mm_162 75 _ [] w 0 0 _
      exact absurd g1 (by omega)
  | succ f ih =>
    intro i t hi ht hG
    refine pm_ld_ok (i := .iload 6) (x := 6) (k := 0) (n := 2) (v := .int (Int32.ofNat i)) (pe_d hx (show pm_fetch mk_162 64 = some (.iload 6, 2, 0, 0, 0) from rfl)) rfl rfl rfl ?_
    refine pm_ld_ok (i := .aload_n 0) (x := 0) (k := 2) (n := 1) (v := .ref 42) (pe_d hx (show pm_fetch mk_162 66 = some (.aload_n 0, 1, 0, 0, 0) from rfl)) rfl rfl rfl ?_
    refine pe_getf hx (show pm_fetch mk_162 67 = some (.getfield 13, 3, 8, 2, 775) from rfl) (by decide) h0 f2 ?_
    refine pm_op_ok (i := .iconst 0) (st' := [.int 0, .ref 44, .int (Int32.ofNat i)]) (pe_d hx (show pm_fetch mk_162 70 = some (.iconst 0, 1, 0, 0, 0) from rfl)) rfl ?_
    refine wy_ld (k := 0) (pe_d hx (show pm_fetch mk_162 71 = some (.iaload, 1, 0, 0, 0) from rfl)) hT (by omega) (by omega) ?_
    refine wy_eq (y := Int32.ofNat p) (hT0) ?_
    show pm_Good sc mm_162 72 _ [.int (Int32.ofNat p), .int (Int32.ofNat i)] w 0 0 _
    refine wy_ge (off := 35) (pe_d hx (show pm_fetch mk_162 72 = some (.if_icmp .ge 35, 3, 0, 0, 0) from rfl)) (by decide) (n := i) (k := p) (by omega) (by omega) (fun g1 => ?_) (fun g1 => ?_)
    · show pm_Good sc mm_162 107 _ [] w 0 0 _
      exact absurd g1 (by omega)
    · show pm_Good sc mm_162 75 _ [] w 0 0 _
      refine pm_ld_ok (i := .iload_n 3) (x := 3) (k := 0) (n := 1) (v := .int (Int32.ofNat t)) (pe_d hx (show pm_fetch mk_162 75 = some (.iload_n 3, 1, 0, 0, 0) from rfl)) rfl rfl rfl ?_
      refine pm_ld_ok (i := .aload_n 0) (x := 0) (k := 2) (n := 1) (v := .ref 42) (pe_d hx (show pm_fetch mk_162 76 = some (.aload_n 0, 1, 0, 0, 0) from rfl)) rfl rfl rfl ?_
      refine pm_ld_ok (i := .iload 6) (x := 6) (k := 0) (n := 2) (v := .int (Int32.ofNat i)) (pe_d hx (show pm_fetch mk_162 77 = some (.iload 6, 2, 0, 0, 0) from rfl)) rfl rfl rfl ?_
      refine pm_ld_ok (i := .iload_n 1) (x := 1) (k := 0) (n := 1) (v := .int (Int32.ofNat m)) (pe_d hx (show pm_fetch mk_162 79 = some (.iload_n 1, 1, 0, 0, 0) from rfl)) rfl rfl rfl ?_
      refine pm_ld_ok (i := .iload 5) (x := 5) (k := 0) (n := 2) (v := .int (Int32.ofNat a)) (pe_d hx (show pm_fetch mk_162 80 = some (.iload 5, 2, 0, 0, 0) from rfl)) rfl rfl rfl ?_
      refine wy_cV (y := (mm_130, 3, 0, mk_130)) (As := [.int (Int32.ofNat i), .int (Int32.ofNat m), .int (Int32.ofNat a)]) (rest := [.int (Int32.ofNat t)]) (X := wy_by ts m a i) hx (show pm_fetch mk_162 82 = some (.invokevirtual 162, 3, 130, 0, 1004) from rfl) rfl rfl rfl (fun v hv => by simp only [List.mem_cons, List.not_mem_nil, or_false] at hv; rcases hv with rfl | rfl | rfl <;> rfl) h0 (show pm_cl[8]? = some _ from rfl) rfl (Nat.le_of_ble_eq_true rfl) (Nat.le_of_ble_eq_true rfl) (Nat.le_of_ble_eq_true rfl) (Nat.le_of_ble_eq_true rfl) (wy_130 h0 f2 hT hTl hm ha (by omega)) ?_
      show pm_Good sc mm_162 85 _ [.int (wy_by ts m a i), .int (Int32.ofNat t)] w 0 0 _
      refine pm_ld_ok (i := .iload_n 2) (x := 2) (k := 0) (n := 1) (v := .int (Int32.ofNat pl)) (pe_d hx (show pm_fetch mk_162 85 = some (.iload_n 2, 1, 0, 0, 0) from rfl)) rfl rfl rfl ?_
      refine wy_ne (off := 7) (pe_d hx (show pm_fetch mk_162 86 = some (.if_icmp .ne 7, 3, 0, 0, 0) from rfl)) (by decide) (fun g2 => ?_) (fun g2 => ?_)
      · show pm_Good sc mm_162 93 _ [.int (Int32.ofNat t)] w 0 0 _
        have e : decide (wy_by ts m a i = Int32.ofNat pl) = false := decide_eq_false g2
        refine pm_op_ok (i := .iconst 1) (st' := [.int 1, .int (Int32.ofNat t)]) (pe_d hx (show pm_fetch mk_162 93 = some (.iconst 1, 1, 0, 0, 0) from rfl)) rfl ?_
        refine pm_ld_ok (i := .iload 6) (x := 6) (k := 0) (n := 2) (v := .int (Int32.ofNat i)) (pe_d hx (show pm_fetch mk_162 94 = some (.iload 6, 2, 0, 0, 0) from rfl)) rfl rfl rfl ?_
        refine pm_op_ok (i := .ishl) (st' := [.int (1 <<< ((Int32.ofNat i) &&& 31)), .int (Int32.ofNat t)]) (pe_d hx (show pm_fetch mk_162 96 = some (.ishl, 1, 0, 0, 0) from rfl)) rfl ?_
        refine pm_op_ok (i := .iconst (-1)) (st' := [.int (-1), .int (1 <<< ((Int32.ofNat i) &&& 31)), .int (Int32.ofNat t)]) (pe_d hx (show pm_fetch mk_162 97 = some (.iconst (-1), 1, 0, 0, 0) from rfl)) rfl ?_
        refine pm_op_ok (i := .ixor) (st' := [.int ((1 <<< ((Int32.ofNat i) &&& 31)) ^^^ (-1)), .int (Int32.ofNat t)]) (pe_d hx (show pm_fetch mk_162 98 = some (.ixor, 1, 0, 0, 0) from rfl)) rfl ?_
        refine pm_op_ok (i := .iand) (st' := [.int ((Int32.ofNat t) &&& ((1 <<< ((Int32.ofNat i) &&& 31)) ^^^ (-1)))]) (pe_d hx (show pm_fetch mk_162 99 = some (.iand, 1, 0, 0, 0) from rfl)) rfl ?_
        refine wy_eq (y := Int32.ofNat (t &&& (31 ^^^ 2 ^ i))) ((wy_nt t ht i (by omega)).1) ?_
        show pm_Good sc mm_162 100 _ [.int (Int32.ofNat (t &&& (31 ^^^ 2 ^ i)))] w 0 0 _
        refine pm_sto_ok (i := .istore_n 3) (x := 3) (k := 0) (n := 1) (pe_d hx (show pm_fetch mk_162 100 = some (.istore_n 3, 1, 0, 0, 0) from rfl)) rfl rfl (by decide) ?_
        refine pm_inc (i := 6) (n := 1) (x := Int32.ofNat i) (pe_d hx (show pm_fetch mk_162 101 = some (.iinc 6 1, 3, 0, 0, 0) from rfl)) rfl (by decide) ?_
        refine pm_goto (off := (-40)) (pe_d hx (show pm_fetch mk_162 104 = some (.goto (-40), 3, 0, 0, 0) from rfl)) (by decide) ?_
        show pm_Good sc mm_162 64 _ [] w 0 0 _
        refine pm_sub (lv' := [(0, .ref 42), (1, .int (Int32.ofNat m)), (2, .int (Int32.ofNat pl)), (3, .int (Int32.ofNat (t &&& (31 ^^^ 2 ^ i)))), (4, .int (wy_i y)), (5, .int (Int32.ofNat a)), (6, .int (Int32.ofNat (i + 1)))]) (fun q hq => ?_) (ih (i + 1) _ (by omega) (wy_nt t ht i (by omega)).2 (by rw [wy_in, e] at hG; exact hG))
        simp only [List.mem_cons, List.not_mem_nil, or_false] at hq
        rcases hq with rfl | rfl | rfl | rfl | rfl | rfl | rfl
        · exact List.mem_cons_of_mem _ (List.mem_cons_of_mem _ (List.mem_cons_self))
        · exact List.mem_cons_of_mem _ (List.mem_cons_of_mem _ (List.mem_cons_of_mem _ (List.mem_cons_self)))
        · exact List.mem_cons_of_mem _ (List.mem_cons_of_mem _ (List.mem_cons_of_mem _ (List.mem_cons_of_mem _ (List.mem_cons_self))))
        · exact List.mem_cons_of_mem _ (List.mem_cons_self)
        · exact List.mem_cons_of_mem _ (List.mem_cons_of_mem _ (List.mem_cons_of_mem _ (List.mem_cons_of_mem _ (List.mem_cons_of_mem _ (List.mem_cons_self)))))
        · exact List.mem_cons_of_mem _ (List.mem_cons_of_mem _ (List.mem_cons_of_mem _ (List.mem_cons_of_mem _ (List.mem_cons_of_mem _ (List.mem_cons_of_mem _ (List.mem_cons_self))))))
        · rw [← wy_s i]; exact List.mem_cons_self
      · show pm_Good sc mm_162 89 _ [.int (Int32.ofNat t)] w 0 0 _
        have e : decide (wy_by ts m a i = Int32.ofNat pl) = true := decide_eq_true g2
        refine pm_op_ok (i := .iconst (-1)) (st' := [.int (-1), .int (Int32.ofNat t)]) (pe_d hx (show pm_fetch mk_162 89 = some (.iconst (-1), 1, 0, 0, 0) from rfl)) rfl ?_
        refine pm_goto (off := 9) (pe_d hx (show pm_fetch mk_162 90 = some (.goto 9, 3, 0, 0, 0) from rfl)) (by decide) ?_
        show pm_Good sc mm_162 99 _ [.int (-1), .int (Int32.ofNat t)] w 0 0 _
        refine pm_op_ok (i := .iand) (st' := [.int ((Int32.ofNat t) &&& (-1))]) (pe_d hx (show pm_fetch mk_162 99 = some (.iand, 1, 0, 0, 0) from rfl)) rfl ?_
        refine wy_eq (y := Int32.ofNat t) (wy_m1 t ht) ?_
        show pm_Good sc mm_162 100 _ [.int (Int32.ofNat t)] w 0 0 _
        refine pm_sto_ok (i := .istore_n 3) (x := 3) (k := 0) (n := 1) (pe_d hx (show pm_fetch mk_162 100 = some (.istore_n 3, 1, 0, 0, 0) from rfl)) rfl rfl (by decide) ?_
        refine pm_inc (i := 6) (n := 1) (x := Int32.ofNat i) (pe_d hx (show pm_fetch mk_162 101 = some (.iinc 6 1, 3, 0, 0, 0) from rfl)) rfl (by decide) ?_
        refine pm_goto (off := (-40)) (pe_d hx (show pm_fetch mk_162 104 = some (.goto (-40), 3, 0, 0, 0) from rfl)) (by decide) ?_
        show pm_Good sc mm_162 64 _ [] w 0 0 _
        refine pm_sub (lv' := [(0, .ref 42), (1, .int (Int32.ofNat m)), (2, .int (Int32.ofNat pl)), (3, .int (Int32.ofNat t)), (4, .int (wy_i y)), (5, .int (Int32.ofNat a)), (6, .int (Int32.ofNat (i + 1)))]) (fun q hq => ?_) (ih (i + 1) t (by omega) ht (by rw [wy_in, e] at hG; exact hG))
        simp only [List.mem_cons, List.not_mem_nil, or_false] at hq
        rcases hq with rfl | rfl | rfl | rfl | rfl | rfl | rfl
        · exact List.mem_cons_of_mem _ (List.mem_cons_of_mem _ (List.mem_cons_self))
        · exact List.mem_cons_of_mem _ (List.mem_cons_of_mem _ (List.mem_cons_of_mem _ (List.mem_cons_self)))
        · exact List.mem_cons_of_mem _ (List.mem_cons_of_mem _ (List.mem_cons_of_mem _ (List.mem_cons_of_mem _ (List.mem_cons_self))))
        · exact List.mem_cons_of_mem _ (List.mem_cons_self)
        · exact List.mem_cons_of_mem _ (List.mem_cons_of_mem _ (List.mem_cons_of_mem _ (List.mem_cons_of_mem _ (List.mem_cons_of_mem _ (List.mem_cons_self)))))
        · exact List.mem_cons_of_mem _ (List.mem_cons_of_mem _ (List.mem_cons_of_mem _ (List.mem_cons_of_mem _ (List.mem_cons_of_mem _ (List.mem_cons_of_mem _ (List.mem_cons_self))))))
        · rw [← wy_s i]; exact List.mem_cons_self
theorem wy_162l {w : pm_W} {fm : List Value} {ts : List Int32} {sts : List Int32} {p sz m : Nat} (h0 : w[42]? = some (.inr (8, fm))) (f2 : fm[2]? = some (.ref 44)) (hT : w[44]? = some (.inl (0, ts))) (hTl : ts.length = 50) (hm : m < 4) (hT0 : ts.getD 0 0 = Int32.ofNat p) (hp : p ≤ 5) (f10 : fm[10]? = some (.ref 50)) (f11 : fm[11]? = some (.int (Int32.ofNat sz))) (hS : w[50]? = some (.inl (0, sts))) (hSl : sts.length = 6) (hsz : sz ≤ 6) {pl : Nat} : ∀ (f a t : Nat) (y : Bool), a + f = 2 ^ p → t < 32 → pm_Good sc mm_162 35 [(0, .ref 42), (1, .int (Int32.ofNat m)), (2, .int (Int32.ofNat pl)), (3, .int (Int32.ofNat t)), (4, .int (wy_i y)), (5, .int (Int32.ofNat a))] [] w 0 0 (wy_R w (bif (wy_sv (wy_cn ts sts p sz m) (fun a t => wy_in (fun i => decide (wy_by ts m a i = Int32.ofNat pl)) p 0 t) f a y t).1 then Int32.ofNat (wy_sv (wy_cn ts sts p sz m) (fun a t => wy_in (fun i => decide (wy_by ts m a i = Int32.ofNat pl)) p 0 t) f a y t).2 else 0)) := by
  have hx : pm_kb mm_162 mk_162 = true := (pm_mt_ok (j := 162) (x := (mm_162, 2, 0, mk_162)) rfl).2
  have hsh := wy_shl p (by omega)
  intro f
  induction f with
  | zero =>
    intro a t y ha ht
    refine pm_ld_ok (i := .iload 5) (x := 5) (k := 0) (n := 2) (v := .int (Int32.ofNat a)) (pe_d hx (show pm_fetch mk_162 35 = some (.iload 5, 2, 0, 0, 0) from rfl)) rfl rfl rfl ?_
    refine pm_op_ok (i := .iconst 1) (st' := [.int 1, .int (Int32.ofNat a)]) (pe_d hx (show pm_fetch mk_162 37 = some (.iconst 1, 1, 0, 0, 0) from rfl)) rfl ?_
    refine pm_ld_ok (i := .aload_n 0) (x := 0) (k := 2) (n := 1) (v := .ref 42) (pe_d hx (show pm_fetch mk_162 38 = some (.aload_n 0, 1, 0, 0, 0) from rfl)) rfl rfl rfl ?_
    refine pe_getf hx (show pm_fetch mk_162 39 = some (.getfield 13, 3, 8, 2, 775) from rfl) (by decide) h0 f2 ?_
    refine pm_op_ok (i := .iconst 0) (st' := [.int 0, .ref 44, .int 1, .int (Int32.ofNat a)]) (pe_d hx (show pm_fetch mk_162 42 = some (.iconst 0, 1, 0, 0, 0) from rfl)) rfl ?_
    refine wy_ld (k := 0) (pe_d hx (show pm_fetch mk_162 43 = some (.iaload, 1, 0, 0, 0) from rfl)) hT (by omega) (by omega) ?_
    refine wy_eq (y := Int32.ofNat p) (hT0) ?_
    show pm_Good sc mm_162 44 _ [.int (Int32.ofNat p), .int 1, .int (Int32.ofNat a)] w 0 0 _
    refine pm_op_ok (i := .ishl) (st' := [.int (1 <<< ((Int32.ofNat p) &&& 31)), .int (Int32.ofNat a)]) (pe_d hx (show pm_fetch mk_162 44 = some (.ishl, 1, 0, 0, 0) from rfl)) rfl ?_
    refine wy_eq (y := Int32.ofNat (2 ^ p)) (hsh.1) ?_
    show pm_Good sc mm_162 45 _ [.int (Int32.ofNat (2 ^ p)), .int (Int32.ofNat a)] w 0 0 _
    refine wy_ge (off := 68) (pe_d hx (show pm_fetch mk_162 45 = some (.if_icmp .ge 68, 3, 0, 0, 0) from rfl)) (by decide) (n := a) (k := 2 ^ p) (by omega) (by omega) (fun g1 => ?_) (fun g1 => ?_)
    · show pm_Good sc mm_162 113 _ [] w 0 0 _
      refine pm_ld_ok (i := .iload 4) (x := 4) (k := 0) (n := 2) (v := .int (wy_i y)) (pe_d hx (show pm_fetch mk_162 113 = some (.iload 4, 2, 0, 0, 0) from rfl)) rfl rfl rfl ?_
      refine wy_zE (off := 7) (pe_d hx (show pm_fetch mk_162 115 = some (.ifCond .eq 7, 3, 0, 0, 0) from rfl)) (by decide) (fun g2 => ?_) (fun g2 => ?_)
      · show pm_Good sc mm_162 122 _ [] w 0 0 _
        refine pm_op_ok (i := .iconst 0) (st' := [.int 0]) (pe_d hx (show pm_fetch mk_162 122 = some (.iconst 0, 1, 0, 0, 0) from rfl)) rfl ?_
        rw [wy_sv, g2]
        exact pm_iret (ty := .int) (pe_d hx (show pm_fetch mk_162 123 = some (.ireturn, 1, 0, 0, 0) from rfl)) rfl (rfl) (⟨rfl, rfl⟩)
      · show pm_Good sc mm_162 118 _ [] w 0 0 _
        refine pm_ld_ok (i := .iload_n 3) (x := 3) (k := 0) (n := 1) (v := .int (Int32.ofNat t)) (pe_d hx (show pm_fetch mk_162 118 = some (.iload_n 3, 1, 0, 0, 0) from rfl)) rfl rfl rfl ?_
        refine pm_goto (off := 4) (pe_d hx (show pm_fetch mk_162 119 = some (.goto 4, 3, 0, 0, 0) from rfl)) (by decide) ?_
        show pm_Good sc mm_162 123 _ [.int (Int32.ofNat t)] w 0 0 _
        rw [wy_sv, g2]
        exact pm_iret (ty := .int) (pe_d hx (show pm_fetch mk_162 123 = some (.ireturn, 1, 0, 0, 0) from rfl)) rfl (rfl) (⟨rfl, rfl⟩)
    · show pm_Good sc mm_162 48 _ [] w 0 0 _
      exact absurd g1 (by omega)
  | succ f ih =>
    intro a t y ha ht
    refine pm_ld_ok (i := .iload 5) (x := 5) (k := 0) (n := 2) (v := .int (Int32.ofNat a)) (pe_d hx (show pm_fetch mk_162 35 = some (.iload 5, 2, 0, 0, 0) from rfl)) rfl rfl rfl ?_
    refine pm_op_ok (i := .iconst 1) (st' := [.int 1, .int (Int32.ofNat a)]) (pe_d hx (show pm_fetch mk_162 37 = some (.iconst 1, 1, 0, 0, 0) from rfl)) rfl ?_
    refine pm_ld_ok (i := .aload_n 0) (x := 0) (k := 2) (n := 1) (v := .ref 42) (pe_d hx (show pm_fetch mk_162 38 = some (.aload_n 0, 1, 0, 0, 0) from rfl)) rfl rfl rfl ?_
    refine pe_getf hx (show pm_fetch mk_162 39 = some (.getfield 13, 3, 8, 2, 775) from rfl) (by decide) h0 f2 ?_
    refine pm_op_ok (i := .iconst 0) (st' := [.int 0, .ref 44, .int 1, .int (Int32.ofNat a)]) (pe_d hx (show pm_fetch mk_162 42 = some (.iconst 0, 1, 0, 0, 0) from rfl)) rfl ?_
    refine wy_ld (k := 0) (pe_d hx (show pm_fetch mk_162 43 = some (.iaload, 1, 0, 0, 0) from rfl)) hT (by omega) (by omega) ?_
    refine wy_eq (y := Int32.ofNat p) (hT0) ?_
    show pm_Good sc mm_162 44 _ [.int (Int32.ofNat p), .int 1, .int (Int32.ofNat a)] w 0 0 _
    refine pm_op_ok (i := .ishl) (st' := [.int (1 <<< ((Int32.ofNat p) &&& 31)), .int (Int32.ofNat a)]) (pe_d hx (show pm_fetch mk_162 44 = some (.ishl, 1, 0, 0, 0) from rfl)) rfl ?_
    refine wy_eq (y := Int32.ofNat (2 ^ p)) (hsh.1) ?_
    show pm_Good sc mm_162 45 _ [.int (Int32.ofNat (2 ^ p)), .int (Int32.ofNat a)] w 0 0 _
    refine wy_ge (off := 68) (pe_d hx (show pm_fetch mk_162 45 = some (.if_icmp .ge 68, 3, 0, 0, 0) from rfl)) (by decide) (n := a) (k := 2 ^ p) (by omega) (by omega) (fun g1 => ?_) (fun g1 => ?_)
    · show pm_Good sc mm_162 113 _ [] w 0 0 _
      exact absurd g1 (by omega)
    · show pm_Good sc mm_162 48 _ [] w 0 0 _
      refine pm_ld_ok (i := .aload_n 0) (x := 0) (k := 2) (n := 1) (v := .ref 42) (pe_d hx (show pm_fetch mk_162 48 = some (.aload_n 0, 1, 0, 0, 0) from rfl)) rfl rfl rfl ?_
      refine pm_ld_ok (i := .iload_n 1) (x := 1) (k := 0) (n := 1) (v := .int (Int32.ofNat m)) (pe_d hx (show pm_fetch mk_162 49 = some (.iload_n 1, 1, 0, 0, 0) from rfl)) rfl rfl rfl ?_
      refine pm_ld_ok (i := .iload 5) (x := 5) (k := 0) (n := 2) (v := .int (Int32.ofNat a)) (pe_d hx (show pm_fetch mk_162 50 = some (.iload 5, 2, 0, 0, 0) from rfl)) rfl rfl rfl ?_
      refine wy_cV (y := (mm_131, 2, 0, mk_131)) (As := [.int (Int32.ofNat m), .int (Int32.ofNat a)]) (rest := []) (X := wy_i (wy_cn ts sts p sz m a)) hx (show pm_fetch mk_162 52 = some (.invokevirtual 165, 3, 131, 0, 1000) from rfl) rfl rfl rfl (fun v hv => by simp only [List.mem_cons, List.not_mem_nil, or_false] at hv; rcases hv with rfl | rfl <;> rfl) h0 (show pm_cl[8]? = some _ from rfl) rfl (Nat.le_of_ble_eq_true rfl) (Nat.le_of_ble_eq_true rfl) (Nat.le_of_ble_eq_true rfl) (Nat.le_of_ble_eq_true rfl) (wy_131 h0 f2 hT hTl hm (by omega) hT0 hp f10 f11 hS hSl hsz) ?_
      show pm_Good sc mm_162 55 _ [.int (wy_i (wy_cn ts sts p sz m a))] w 0 0 _
      refine wy_zE (off := 52) (pe_d hx (show pm_fetch mk_162 55 = some (.ifCond .eq 52, 3, 0, 0, 0) from rfl)) (by decide) (fun g2 => ?_) (fun g2 => ?_)
      · show pm_Good sc mm_162 107 _ [] w 0 0 _
        rw [wy_sv, g2]
        refine pm_inc (i := 5) (n := 1) (x := Int32.ofNat a) (pe_d hx (show pm_fetch mk_162 107 = some (.iinc 5 1, 3, 0, 0, 0) from rfl)) rfl (by decide) ?_
        refine pm_goto (off := (-75)) (pe_d hx (show pm_fetch mk_162 110 = some (.goto (-75), 3, 0, 0, 0) from rfl)) (by decide) ?_
        show pm_Good sc mm_162 35 _ [] w 0 0 _
        refine pm_sub (lv' := [(0, .ref 42), (1, .int (Int32.ofNat m)), (2, .int (Int32.ofNat pl)), (3, .int (Int32.ofNat t)), (4, .int (wy_i y)), (5, .int (Int32.ofNat (a + 1)))]) (fun q hq => ?_) (ih (a + 1) t y (by omega) ht)
        simp only [List.mem_cons, List.not_mem_nil, or_false] at hq
        rcases hq with rfl | rfl | rfl | rfl | rfl | rfl
        · exact List.mem_cons_of_mem _ (List.mem_cons_self)
        · exact List.mem_cons_of_mem _ (List.mem_cons_of_mem _ (List.mem_cons_self))
        · exact List.mem_cons_of_mem _ (List.mem_cons_of_mem _ (List.mem_cons_of_mem _ (List.mem_cons_self)))
        · exact List.mem_cons_of_mem _ (List.mem_cons_of_mem _ (List.mem_cons_of_mem _ (List.mem_cons_of_mem _ (List.mem_cons_self))))
        · exact List.mem_cons_of_mem _ (List.mem_cons_of_mem _ (List.mem_cons_of_mem _ (List.mem_cons_of_mem _ (List.mem_cons_of_mem _ (List.mem_cons_self)))))
        · rw [← wy_s a]; exact List.mem_cons_self
      · show pm_Good sc mm_162 58 _ [] w 0 0 _
        rw [wy_sv, g2]
        refine pm_op_ok (i := .iconst 1) (st' := [.int 1]) (pe_d hx (show pm_fetch mk_162 58 = some (.iconst 1, 1, 0, 0, 0) from rfl)) rfl ?_
        refine pm_sto_ok (i := .istore 4) (x := 4) (k := 0) (n := 2) (pe_d hx (show pm_fetch mk_162 59 = some (.istore 4, 2, 0, 0, 0) from rfl)) rfl rfl (by decide) ?_
        refine pm_op_ok (i := .iconst 0) (st' := [.int 0]) (pe_d hx (show pm_fetch mk_162 61 = some (.iconst 0, 1, 0, 0, 0) from rfl)) rfl ?_
        refine pm_sto_ok (i := .istore 6) (x := 6) (k := 0) (n := 2) (pe_d hx (show pm_fetch mk_162 62 = some (.istore 6, 2, 0, 0, 0) from rfl)) rfl rfl (by decide) ?_
        have J : pm_Good sc mm_162 107 [(0, .ref 42), (1, .int (Int32.ofNat m)), (2, .int (Int32.ofNat pl)), (3, .int (Int32.ofNat (wy_in (fun i => decide (wy_by ts m a i = Int32.ofNat pl)) p 0 t))), (4, .int (wy_i true)), (5, .int (Int32.ofNat a))] [] w 0 0 (wy_R w (bif (wy_sv (wy_cn ts sts p sz m) (fun a t => wy_in (fun i => decide (wy_by ts m a i = Int32.ofNat pl)) p 0 t) f (a + 1) true (wy_in (fun i => decide (wy_by ts m a i = Int32.ofNat pl)) p 0 t)).1 then Int32.ofNat (wy_sv (wy_cn ts sts p sz m) (fun a t => wy_in (fun i => decide (wy_by ts m a i = Int32.ofNat pl)) p 0 t) f (a + 1) true (wy_in (fun i => decide (wy_by ts m a i = Int32.ofNat pl)) p 0 t)).2 else 0)) := by
          refine pm_inc (i := 5) (n := 1) (x := Int32.ofNat a) (pe_d hx (show pm_fetch mk_162 107 = some (.iinc 5 1, 3, 0, 0, 0) from rfl)) rfl (by decide) ?_
          refine pm_goto (off := (-75)) (pe_d hx (show pm_fetch mk_162 110 = some (.goto (-75), 3, 0, 0, 0) from rfl)) (by decide) ?_
          show pm_Good sc mm_162 35 _ [] w 0 0 _
          refine pm_sub (lv' := [(0, .ref 42), (1, .int (Int32.ofNat m)), (2, .int (Int32.ofNat pl)), (3, .int (Int32.ofNat (wy_in (fun i => decide (wy_by ts m a i = Int32.ofNat pl)) p 0 t))), (4, .int (wy_i true)), (5, .int (Int32.ofNat (a + 1)))]) (fun q hq => ?_) (ih (a + 1) _ true (by omega) (wy_in_lt _ _ _ _ (by omega) ht))
          simp only [List.mem_cons, List.not_mem_nil, or_false] at hq
          rcases hq with rfl | rfl | rfl | rfl | rfl | rfl
          · exact List.mem_cons_of_mem _ (List.mem_cons_self)
          · exact List.mem_cons_of_mem _ (List.mem_cons_of_mem _ (List.mem_cons_self))
          · exact List.mem_cons_of_mem _ (List.mem_cons_of_mem _ (List.mem_cons_of_mem _ (List.mem_cons_self)))
          · exact List.mem_cons_of_mem _ (List.mem_cons_of_mem _ (List.mem_cons_of_mem _ (List.mem_cons_of_mem _ (List.mem_cons_self))))
          · exact List.mem_cons_of_mem _ (List.mem_cons_of_mem _ (List.mem_cons_of_mem _ (List.mem_cons_of_mem _ (List.mem_cons_of_mem _ (List.mem_cons_self)))))
          · rw [← wy_s a]; exact List.mem_cons_self
        refine pm_sub (lv' := [(0, .ref 42), (1, .int (Int32.ofNat m)), (2, .int (Int32.ofNat pl)), (3, .int (Int32.ofNat t)), (4, .int (wy_i true)), (5, .int (Int32.ofNat a)), (6, .int (Int32.ofNat 0))]) (fun q hq => ?_) (wy_162i h0 f2 hT hTl hm (by omega) hT0 hp f10 f11 hS hSl hsz (y := true) p 0 t (by omega) ht J)
        simp only [List.mem_cons, List.not_mem_nil, or_false] at hq
        rcases hq with rfl | rfl | rfl | rfl | rfl | rfl | rfl
        · exact List.mem_cons_of_mem _ (List.mem_cons_of_mem _ (List.mem_cons_self))
        · exact List.mem_cons_of_mem _ (List.mem_cons_of_mem _ (List.mem_cons_of_mem _ (List.mem_cons_self)))
        · exact List.mem_cons_of_mem _ (List.mem_cons_of_mem _ (List.mem_cons_of_mem _ (List.mem_cons_of_mem _ (List.mem_cons_self))))
        · exact List.mem_cons_of_mem _ (List.mem_cons_of_mem _ (List.mem_cons_of_mem _ (List.mem_cons_of_mem _ (List.mem_cons_of_mem _ (List.mem_cons_self)))))
        · exact List.mem_cons_of_mem _ (List.mem_cons_self)
        · exact List.mem_cons_of_mem _ (List.mem_cons_of_mem _ (List.mem_cons_of_mem _ (List.mem_cons_of_mem _ (List.mem_cons_of_mem _ (List.mem_cons_of_mem _ (List.mem_cons_self))))))
        · exact List.mem_cons_self
theorem wy_sh2 : ∀ p, p < 6 → (1 : Int32) <<< (Int32.ofNat p &&& 31) - 1 = Int32.ofNat (2 ^ p - 1) ∧ 2 ^ p - 1 < 32 := by decide +kernel
theorem wy_162 {w : pm_W} {fm : List Value} {ts : List Int32} {sts : List Int32} {p sz m : Nat} (h0 : w[42]? = some (.inr (8, fm))) (f2 : fm[2]? = some (.ref 44)) (hT : w[44]? = some (.inl (0, ts))) (hTl : ts.length = 50) (hm : m < 4) (hT0 : ts.getD 0 0 = Int32.ofNat p) (hp : p ≤ 5) (f10 : fm[10]? = some (.ref 50)) (f11 : fm[11]? = some (.int (Int32.ofNat sz))) (hS : w[50]? = some (.inl (0, sts))) (hSl : sts.length = 6) (hsz : sz ≤ 6) {pl : Nat} (hpl : pl < 6) : pm_GoodM sc mm_162 [.ref 42, .int (Int32.ofNat m), .int (Int32.ofNat pl)] w (wy_R w (bif (wy_sv (wy_cn ts sts p sz m) (fun a t => wy_in (fun i => decide (wy_by ts m a i = Int32.ofNat pl)) p 0 t) (2 ^ p) 0 false (2 ^ p - 1)).1 then Int32.ofNat (wy_sv (wy_cn ts sts p sz m) (fun a t => wy_in (fun i => decide (wy_by ts m a i = Int32.ofNat pl)) p 0 t) (2 ^ p) 0 false (2 ^ p - 1)).2 else 0)) := by
  have hx : pm_kb mm_162 mk_162 = true := (pm_mt_ok (j := 162) (x := (mm_162, 2, 0, mk_162)) rfl).2
  unfold pm_GoodM
  show pm_Good sc mm_162 0 [(0, .ref 42), (1, .int (Int32.ofNat m)), (2, .int (Int32.ofNat pl))] [] w 0 0 _
  refine pm_ld_ok (i := .iload_n 1) (x := 1) (k := 0) (n := 1) (v := .int (Int32.ofNat m)) (pe_d hx (show pm_fetch mk_162 0 = some (.iload_n 1, 1, 0, 0, 0) from rfl)) rfl rfl rfl ?_
  refine wy_cS (y := (mm_122, 1, 1, mk_122)) (As := [.int (Int32.ofNat m)]) (rest := []) (X := wy_i (decide (0 ≤ (Int32.ofNat m).toInt ∧ (Int32.ofNat m).toInt ≤ 3))) hx (show pm_fetch mk_162 1 = some (.invokestatic 110, 3, 122, 0, 867) from rfl) rfl rfl rfl (fun v hv => by simp only [List.mem_cons, List.not_mem_nil, or_false] at hv; rcases hv with rfl <;> rfl) (Nat.le_of_ble_eq_true rfl) (Nat.le_of_ble_eq_true rfl) (Nat.le_of_ble_eq_true rfl) (Nat.le_of_ble_eq_true rfl) (wy_122) ?_
  show pm_Good sc mm_162 4 _ [.int (wy_i (decide (0 ≤ (Int32.ofNat m).toInt ∧ (Int32.ofNat m).toInt ≤ 3)))] w 0 0 _
  refine wy_eq (y := wy_i true) (by rw [decide_eq_true (by rw [wy_t (by omega)]; omega)]) ?_
  show pm_Good sc mm_162 4 _ [.int (wy_i true)] w 0 0 _
  refine wy_zE (off := 12) (pe_d hx (show pm_fetch mk_162 4 = some (.ifCond .eq 12, 3, 0, 0, 0) from rfl)) (by decide) (fun g1 => ?_) (fun g1 => ?_)
  · show pm_Good sc mm_162 16 _ [] w 0 0 _
    cases g1
  · show pm_Good sc mm_162 7 _ [] w 0 0 _
    refine pm_ld_ok (i := .iload_n 2) (x := 2) (k := 0) (n := 1) (v := .int (Int32.ofNat pl)) (pe_d hx (show pm_fetch mk_162 7 = some (.iload_n 2, 1, 0, 0, 0) from rfl)) rfl rfl rfl ?_
    refine pm_op_ok (i := .iconst 0) (st' := [.int 0, .int (Int32.ofNat pl)]) (pe_d hx (show pm_fetch mk_162 8 = some (.iconst 0, 1, 0, 0, 0) from rfl)) rfl ?_
    refine pm_op_ok (i := .iconst 5) (st' := [.int 5, .int 0, .int (Int32.ofNat pl)]) (pe_d hx (show pm_fetch mk_162 9 = some (.iconst 5, 1, 0, 0, 0) from rfl)) rfl ?_
    refine wy_cS (y := (mm_108, 3, 1, mk_108)) (As := [.int (Int32.ofNat pl), .int 0, .int 5]) (rest := []) (X := wy_i (decide (0 ≤ (Int32.ofNat pl).toInt ∧ (Int32.ofNat pl).toInt ≤ 5))) hx (show pm_fetch mk_162 10 = some (.invokestatic 55, 3, 108, 0, 752) from rfl) rfl rfl rfl (fun v hv => by simp only [List.mem_cons, List.not_mem_nil, or_false] at hv; rcases hv with rfl | rfl | rfl <;> rfl) (Nat.le_of_ble_eq_true rfl) (Nat.le_of_ble_eq_true rfl) (Nat.le_of_ble_eq_true rfl) (Nat.le_of_ble_eq_true rfl) (pl_108 (fun a b => ⟨by rw [decide_eq_true (⟨a, b⟩ : 0 ≤ (Int32.ofNat pl).toInt ∧ (Int32.ofNat pl).toInt ≤ 5)]; rfl, rfl⟩) (fun q => ⟨by rw [decide_eq_false (show ¬ (0 ≤ (Int32.ofNat pl).toInt ∧ (Int32.ofNat pl).toInt ≤ 5) from q)]; rfl, rfl⟩)) ?_
    show pm_Good sc mm_162 13 _ [.int (wy_i (decide (0 ≤ (Int32.ofNat pl).toInt ∧ (Int32.ofNat pl).toInt ≤ 5)))] w 0 0 _
    refine wy_eq (y := wy_i true) (by rw [decide_eq_true (by rw [wy_t (by omega)]; omega)]) ?_
    show pm_Good sc mm_162 13 _ [.int (wy_i true)] w 0 0 _
    refine wy_zN (off := 5) (pe_d hx (show pm_fetch mk_162 13 = some (.ifCond .ne 5, 3, 0, 0, 0) from rfl)) (by decide) (fun g2 => ?_) (fun g2 => ?_)
    · show pm_Good sc mm_162 18 _ [] w 0 0 _
      have hsh := wy_sh2 p (by omega)
      refine pm_op_ok (i := .iconst 1) (st' := [.int 1]) (pe_d hx (show pm_fetch mk_162 18 = some (.iconst 1, 1, 0, 0, 0) from rfl)) rfl ?_
      refine pm_ld_ok (i := .aload_n 0) (x := 0) (k := 2) (n := 1) (v := .ref 42) (pe_d hx (show pm_fetch mk_162 19 = some (.aload_n 0, 1, 0, 0, 0) from rfl)) rfl rfl rfl ?_
      refine pe_getf hx (show pm_fetch mk_162 20 = some (.getfield 13, 3, 8, 2, 775) from rfl) (by decide) h0 f2 ?_
      refine pm_op_ok (i := .iconst 0) (st' := [.int 0, .ref 44, .int 1]) (pe_d hx (show pm_fetch mk_162 23 = some (.iconst 0, 1, 0, 0, 0) from rfl)) rfl ?_
      refine wy_ld (k := 0) (pe_d hx (show pm_fetch mk_162 24 = some (.iaload, 1, 0, 0, 0) from rfl)) hT (by omega) (by omega) ?_
      refine wy_eq (y := Int32.ofNat p) (hT0) ?_
      show pm_Good sc mm_162 25 _ [.int (Int32.ofNat p), .int 1] w 0 0 _
      refine pm_op_ok (i := .ishl) (st' := [.int (1 <<< ((Int32.ofNat p) &&& 31))]) (pe_d hx (show pm_fetch mk_162 25 = some (.ishl, 1, 0, 0, 0) from rfl)) rfl ?_
      refine pm_op_ok (i := .iconst 1) (st' := [.int 1, .int (1 <<< ((Int32.ofNat p) &&& 31))]) (pe_d hx (show pm_fetch mk_162 26 = some (.iconst 1, 1, 0, 0, 0) from rfl)) rfl ?_
      refine pm_op_ok (i := .isub) (st' := [.int ((1 <<< ((Int32.ofNat p) &&& 31)) - 1)]) (pe_d hx (show pm_fetch mk_162 27 = some (.isub, 1, 0, 0, 0) from rfl)) rfl ?_
      refine wy_eq (y := Int32.ofNat (2 ^ p - 1)) (hsh.1) ?_
      show pm_Good sc mm_162 28 _ [.int (Int32.ofNat (2 ^ p - 1))] w 0 0 _
      refine pm_sto_ok (i := .istore_n 3) (x := 3) (k := 0) (n := 1) (pe_d hx (show pm_fetch mk_162 28 = some (.istore_n 3, 1, 0, 0, 0) from rfl)) rfl rfl (by decide) ?_
      refine pm_op_ok (i := .iconst 0) (st' := [.int 0]) (pe_d hx (show pm_fetch mk_162 29 = some (.iconst 0, 1, 0, 0, 0) from rfl)) rfl ?_
      refine pm_sto_ok (i := .istore 4) (x := 4) (k := 0) (n := 2) (pe_d hx (show pm_fetch mk_162 30 = some (.istore 4, 2, 0, 0, 0) from rfl)) rfl rfl (by decide) ?_
      refine pm_op_ok (i := .iconst 0) (st' := [.int 0]) (pe_d hx (show pm_fetch mk_162 32 = some (.iconst 0, 1, 0, 0, 0) from rfl)) rfl ?_
      refine pm_sto_ok (i := .istore 5) (x := 5) (k := 0) (n := 2) (pe_d hx (show pm_fetch mk_162 33 = some (.istore 5, 2, 0, 0, 0) from rfl)) rfl rfl (by decide) ?_
      refine pm_sub (lv' := [(0, .ref 42), (1, .int (Int32.ofNat m)), (2, .int (Int32.ofNat pl)), (3, .int (Int32.ofNat (2 ^ p - 1))), (4, .int (wy_i false)), (5, .int (Int32.ofNat 0))]) (fun q hq => ?_) (wy_162l h0 f2 hT hTl hm hT0 hp f10 f11 hS hSl hsz (2 ^ p) 0 (2 ^ p - 1) false (by omega) hsh.2)
      simp only [List.mem_cons, List.not_mem_nil, or_false] at hq
      rcases hq with rfl | rfl | rfl | rfl | rfl | rfl
      · exact List.mem_cons_of_mem _ (List.mem_cons_of_mem _ (List.mem_cons_of_mem _ (List.mem_cons_self)))
      · exact List.mem_cons_of_mem _ (List.mem_cons_of_mem _ (List.mem_cons_of_mem _ (List.mem_cons_of_mem _ (List.mem_cons_self))))
      · exact List.mem_cons_of_mem _ (List.mem_cons_of_mem _ (List.mem_cons_of_mem _ (List.mem_cons_of_mem _ (List.mem_cons_of_mem _ (List.mem_cons_self)))))
      · exact List.mem_cons_of_mem _ (List.mem_cons_of_mem _ (List.mem_cons_self))
      · exact List.mem_cons_of_mem _ (List.mem_cons_self)
      · exact List.mem_cons_self
    · show pm_Good sc mm_162 16 _ [] w 0 0 _
      cases g2
theorem wy_162n {w : pm_W} {k l : Int32} (hk : ¬ ((0 ≤ k.toInt ∧ k.toInt ≤ 3) ∧ 0 ≤ l.toInt ∧ l.toInt ≤ 5)) : pm_GoodM sc mm_162 [.ref 42, .int k, .int l] w (wy_R w (-1)) := by
  have hx : pm_kb mm_162 mk_162 = true := (pm_mt_ok (j := 162) (x := (mm_162, 2, 0, mk_162)) rfl).2
  unfold pm_GoodM
  show pm_Good sc mm_162 0 [(0, .ref 42), (1, .int k), (2, .int l)] [] w 0 0 _
  refine pm_ld_ok (i := .iload_n 1) (x := 1) (k := 0) (n := 1) (v := .int k) (pe_d hx (show pm_fetch mk_162 0 = some (.iload_n 1, 1, 0, 0, 0) from rfl)) rfl rfl rfl ?_
  refine wy_cS (y := (mm_122, 1, 1, mk_122)) (As := [.int k]) (rest := []) (X := wy_i (decide (0 ≤ k.toInt ∧ k.toInt ≤ 3))) hx (show pm_fetch mk_162 1 = some (.invokestatic 110, 3, 122, 0, 867) from rfl) rfl rfl rfl (fun v hv => by simp only [List.mem_cons, List.not_mem_nil, or_false] at hv; rcases hv with rfl <;> rfl) (Nat.le_of_ble_eq_true rfl) (Nat.le_of_ble_eq_true rfl) (Nat.le_of_ble_eq_true rfl) (Nat.le_of_ble_eq_true rfl) (wy_122) ?_
  show pm_Good sc mm_162 4 _ [.int (wy_i (decide (0 ≤ k.toInt ∧ k.toInt ≤ 3)))] w 0 0 _
  refine wy_zE (off := 12) (pe_d hx (show pm_fetch mk_162 4 = some (.ifCond .eq 12, 3, 0, 0, 0) from rfl)) (by decide) (fun g1 => ?_) (fun g1 => ?_)
  · show pm_Good sc mm_162 16 _ [] w 0 0 _
    refine pm_op_ok (i := .iconst (-1)) (st' := [.int (-1)]) (pe_d hx (show pm_fetch mk_162 16 = some (.iconst (-1), 1, 0, 0, 0) from rfl)) rfl ?_
    exact pm_iret (ty := .int) (pe_d hx (show pm_fetch mk_162 17 = some (.ireturn, 1, 0, 0, 0) from rfl)) rfl (rfl) (⟨rfl, rfl⟩)
  · show pm_Good sc mm_162 7 _ [] w 0 0 _
    refine pm_ld_ok (i := .iload_n 2) (x := 2) (k := 0) (n := 1) (v := .int l) (pe_d hx (show pm_fetch mk_162 7 = some (.iload_n 2, 1, 0, 0, 0) from rfl)) rfl rfl rfl ?_
    refine pm_op_ok (i := .iconst 0) (st' := [.int 0, .int l]) (pe_d hx (show pm_fetch mk_162 8 = some (.iconst 0, 1, 0, 0, 0) from rfl)) rfl ?_
    refine pm_op_ok (i := .iconst 5) (st' := [.int 5, .int 0, .int l]) (pe_d hx (show pm_fetch mk_162 9 = some (.iconst 5, 1, 0, 0, 0) from rfl)) rfl ?_
    refine wy_cS (y := (mm_108, 3, 1, mk_108)) (As := [.int l, .int 0, .int 5]) (rest := []) (X := wy_i (decide (0 ≤ l.toInt ∧ l.toInt ≤ 5))) hx (show pm_fetch mk_162 10 = some (.invokestatic 55, 3, 108, 0, 752) from rfl) rfl rfl rfl (fun v hv => by simp only [List.mem_cons, List.not_mem_nil, or_false] at hv; rcases hv with rfl | rfl | rfl <;> rfl) (Nat.le_of_ble_eq_true rfl) (Nat.le_of_ble_eq_true rfl) (Nat.le_of_ble_eq_true rfl) (Nat.le_of_ble_eq_true rfl) (pl_108 (fun a b => ⟨by rw [decide_eq_true (⟨a, b⟩ : 0 ≤ l.toInt ∧ l.toInt ≤ 5)]; rfl, rfl⟩) (fun q => ⟨by rw [decide_eq_false (show ¬ (0 ≤ l.toInt ∧ l.toInt ≤ 5) from q)]; rfl, rfl⟩)) ?_
    show pm_Good sc mm_162 13 _ [.int (wy_i (decide (0 ≤ l.toInt ∧ l.toInt ≤ 5)))] w 0 0 _
    refine wy_zN (off := 5) (pe_d hx (show pm_fetch mk_162 13 = some (.ifCond .ne 5, 3, 0, 0, 0) from rfl)) (by decide) (fun g2 => ?_) (fun g2 => ?_)
    · show pm_Good sc mm_162 18 _ [] w 0 0 _
      exact absurd ⟨of_decide_eq_true g1, of_decide_eq_true g2⟩ hk
    · show pm_Good sc mm_162 16 _ [] w 0 0 _
      refine pm_op_ok (i := .iconst (-1)) (st' := [.int (-1)]) (pe_d hx (show pm_fetch mk_162 16 = some (.iconst (-1), 1, 0, 0, 0) from rfl)) rfl ?_
      exact pm_iret (ty := .int) (pe_d hx (show pm_fetch mk_162 17 = some (.ireturn, 1, 0, 0, 0) from rfl)) rfl (rfl) (⟨rfl, rfl⟩)
end PWM
