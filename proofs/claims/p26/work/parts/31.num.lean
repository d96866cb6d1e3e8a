/-! letters and numbers: what both readers read -/
def pl_cp (c : ClassFile.Cond) (x y : Int) : Prop := match c with
  | .eq => x = y
  | .ne => ¬ x = y
  | .lt => x < y
  | .ge => ¬ x < y
  | .gt => y < x
  | .le => ¬ y < x
theorem pl_ct {c : ClassFile.Cond} {x y : Int32} (h : pm_cmp c x y = true) : pl_cp c x.toInt y.toInt := by
  cases c <;> simp only [pm_cmp, pl_cp, decide_eq_true_eq, Bool.not_eq_true', decide_eq_false_iff_not, Int32.lt_iff_toInt_lt, Int32.le_iff_toInt_le] at h ⊢
  · rw [h]
  · exact fun e => h (Int32.toInt_inj.mp e)
  · exact h
  · omega
  · exact h
  · omega
theorem pl_cf {c : ClassFile.Cond} {x y : Int32} (h : pm_cmp c x y = false) : ¬ pl_cp c x.toInt y.toInt := by
  cases c <;> simp only [pm_cmp, pl_cp, decide_eq_false_iff_not, Bool.not_eq_false', decide_eq_true_eq, Int32.lt_iff_toInt_lt, Int32.le_iff_toInt_le] at h ⊢
  · exact fun e => h (Int32.toInt_inj.mp e)
  · intro e; exact e (by rw [h])
  · exact h
  · omega
  · exact h
  · omega
theorem pl_n0 : (0 : Int32).toInt = 0 := rfl
theorem pl_n10 : (10 : Int32).toInt = 10 := rfl
theorem pl_n48 : (48 : Int32).toInt = 48 := rfl
theorem pl_n57 : (57 : Int32).toInt = 57 := rfl
theorem pl_n200 : (200 : Int32).toInt = 200 := rfl
/-- the letter at k, or 0 behind the end -/
def pl_E (xs : List Int32) (sz k : Int32) : Int32 := if 0 ≤ k.toInt ∧ k.toInt < sz.toInt then xs.getD k.toNatClampNeg 0 else 0
/-- the same of the reference: -1 behind the end -/
def pl_F (ys : List Int32) (sz k : Int32) : Int32 := if k.toInt < sz.toInt then ys.getD k.toNatClampNeg 0 else -1
def pl_fig (c : Int32) : Prop := 48 ≤ c.toInt ∧ c.toInt ≤ 57
theorem pl_len {xs : List Int32} (h : xs.length = 200) : (Int32.ofNat xs.length).toInt = 200 := by rw [h]; rfl
theorem pl_in {n : Nat} {k : Int32} (h1 : 0 ≤ k.toInt) (h2 : k.toInt < n) : vp_in k n := by
  intro h
  rcases h with h | h
  · have := Int32.lt_iff_toInt_lt.mp h
    rw [pl_n0] at this
    omega
  · have : (k.toNatClampNeg : Int) = k.toInt := by
      rw [Int32.toNatClampNeg]
      omega
    omega
theorem pl_nc {x : Int32} (h : 0 ≤ x.toInt ∧ x.toInt ≤ 65535) : narrow .char (.int x) = .int x := sx_rt_ok (b := (0, 65535)) rfl h.1 h.2
theorem pl_gd {xs : List Int32} (h : sx_ch xs) (i : Nat) : 0 ≤ (xs.getD i 0).toInt ∧ (xs.getD i 0).toInt ≤ 65535 := by
  rw [List.getD_eq_getElem?_getD]
  cases hi : xs[i]? with
  | none => exact ⟨by decide, by decide⟩
  | some x => exact h x (List.mem_of_getElem? hi)
section PL
variable {sc : pm_Z} {P : Option Value → pm_W → Prop}
theorem pl_17 {w : pm_W} {xs : List Int32} {sz nx k : Int32} (hw1 : w[1]? = some (.inr (5, [.ref 2, .ref 3, .int sz, .int nx]))) (hw2 : w[2]? = some (.inl (1, xs))) (hxl : xs.length = 200) (hch : sx_ch xs) (hsz : sz.toInt ≤ 200) (hP : P (some (.int (pl_E xs sz k))) w) : pm_GoodM sc mm_17 [.ref 1, .int k] w P := by
  have hx : pm_kb mm_17 mk_17 = true := (pm_mt_ok (j := 17) (x := (mm_17, 1, 0, mk_17)) rfl).2
  unfold pm_GoodM
  show pm_Good sc mm_17 0 [(0, .ref 1), (1, .int k)] [] w 0 0 P
  refine pm_ld_ok (i := .iload_n 1) (x := 1) (k := 0) (n := 1) (v := .int k) (pe_d hx (show pm_fetch mk_17 0 = some (.iload_n 1, 1, 0, 0, 0) from rfl)) rfl rfl rfl ?_
  refine pm_br (c := .lt) (off := 29) (x := k) (pe_d hx (show pm_fetch mk_17 1 = some (.ifCond .lt 29, 3, 0, 0, 0) from rfl)) (by decide) (fun b1 => ?_) (fun b1 => ?_)
  · show pm_Good sc mm_17 30 _ _ _ _ _ _
    refine pm_op_ok (i := .iconst 0) (st' := [.int 0]) (pe_d hx (show pm_fetch mk_17 30 = some (.iconst 0, 1, 0, 0, 0) from rfl)) rfl ?_
    exact pm_iret (ty := .char) (pe_d hx (show pm_fetch mk_17 31 = some (.ireturn, 1, 0, 0, 0) from rfl)) rfl rfl (by have q1 := pl_ct b1; simp only [pl_cp, pl_n0, pl_n10, pl_n48, pl_n57, pl_n200] at q1; unfold pl_E at hP; rw [if_neg (by omega)] at hP; exact hP)
  · show pm_Good sc mm_17 4 _ _ _ _ _ _
    refine pm_ld_ok (i := .iload_n 1) (x := 1) (k := 0) (n := 1) (v := .int k) (pe_d hx (show pm_fetch mk_17 4 = some (.iload_n 1, 1, 0, 0, 0) from rfl)) rfl rfl rfl ?_
    refine pm_ld_ok (i := .aload_n 0) (x := 0) (k := 2) (n := 1) (v := .ref 1) (pe_d hx (show pm_fetch mk_17 5 = some (.aload_n 0, 1, 0, 0, 0) from rfl)) rfl rfl rfl ?_
    refine pe_getf hx (show pm_fetch mk_17 6 = some (.getfield 19, 3, 5, 2, 79) from rfl) (by decide) hw1 rfl ?_
    refine pm_br2 (c := .ge) (off := 21) (x := k) (y := sz) (pe_d hx (show pm_fetch mk_17 9 = some (.if_icmp .ge 21, 3, 0, 0, 0) from rfl)) (by decide) (fun b2 => ?_) (fun b2 => ?_)
    · show pm_Good sc mm_17 30 _ _ _ _ _ _
      refine pm_op_ok (i := .iconst 0) (st' := [.int 0]) (pe_d hx (show pm_fetch mk_17 30 = some (.iconst 0, 1, 0, 0, 0) from rfl)) rfl ?_
      exact pm_iret (ty := .char) (pe_d hx (show pm_fetch mk_17 31 = some (.ireturn, 1, 0, 0, 0) from rfl)) rfl rfl (by have q1 := pl_cf b1; have q2 := pl_ct b2; simp only [pl_cp, pl_n0, pl_n10, pl_n48, pl_n57, pl_n200] at q1 q2; unfold pl_E at hP; rw [if_neg (by omega)] at hP; exact hP)
    · show pm_Good sc mm_17 12 _ _ _ _ _ _
      refine pm_ld_ok (i := .iload_n 1) (x := 1) (k := 0) (n := 1) (v := .int k) (pe_d hx (show pm_fetch mk_17 12 = some (.iload_n 1, 1, 0, 0, 0) from rfl)) rfl rfl rfl ?_
      refine pm_ld_ok (i := .aload_n 0) (x := 0) (k := 2) (n := 1) (v := .ref 1) (pe_d hx (show pm_fetch mk_17 13 = some (.aload_n 0, 1, 0, 0, 0) from rfl)) rfl rfl rfl ?_
      refine pe_getf hx (show pm_fetch mk_17 14 = some (.getfield 9, 3, 5, 0, 76) from rfl) (by decide) hw1 rfl ?_
      refine pm_alen (pe_d hx (show pm_fetch mk_17 17 = some (.arraylength, 1, 0, 0, 0) from rfl)) hw2 ?_
      refine pm_br2 (c := .ge) (off := 12) (x := k) (y := Int32.ofNat xs.length) (pe_d hx (show pm_fetch mk_17 18 = some (.if_icmp .ge 12, 3, 0, 0, 0) from rfl)) (by decide) (fun b3 => ?_) (fun b3 => ?_)
      · show pm_Good sc mm_17 30 _ _ _ _ _ _
        refine pm_op_ok (i := .iconst 0) (st' := [.int 0]) (pe_d hx (show pm_fetch mk_17 30 = some (.iconst 0, 1, 0, 0, 0) from rfl)) rfl ?_
        exact pm_iret (ty := .char) (pe_d hx (show pm_fetch mk_17 31 = some (.ireturn, 1, 0, 0, 0) from rfl)) rfl rfl (by have q1 := pl_cf b1; have q2 := pl_cf b2; have q3 := pl_ct b3; simp only [pl_cp, pl_n0, pl_n10, pl_n48, pl_n57, pl_n200] at q1 q2 q3; rw [pl_len hxl] at q3; unfold pl_E at hP; rw [if_neg (by omega)] at hP; exact hP)
      · show pm_Good sc mm_17 21 _ _ _ _ _ _
        refine pm_ld_ok (i := .aload_n 0) (x := 0) (k := 2) (n := 1) (v := .ref 1) (pe_d hx (show pm_fetch mk_17 21 = some (.aload_n 0, 1, 0, 0, 0) from rfl)) rfl rfl rfl ?_
        refine pe_getf hx (show pm_fetch mk_17 22 = some (.getfield 9, 3, 5, 0, 76) from rfl) (by decide) hw1 rfl ?_
        refine pm_ld_ok (i := .iload_n 1) (x := 1) (k := 0) (n := 1) (v := .int k) (pe_d hx (show pm_fetch mk_17 25 = some (.iload_n 1, 1, 0, 0, 0) from rfl)) rfl rfl rfl ?_
        refine pm_cald (k := 0) (pe_d hx (show pm_fetch mk_17 26 = some (.caload, 1, 0, 0, 0) from rfl)) hw2 (pl_in (by have q1 := pl_cf b1; have q2 := pl_cf b2; have q3 := pl_cf b3; simp only [pl_cp, pl_n0, pl_n10, pl_n48, pl_n57, pl_n200] at q1 q2 q3; omega) (by have q1 := pl_cf b1; have q2 := pl_cf b2; have q3 := pl_cf b3; simp only [pl_cp, pl_n0, pl_n10, pl_n48, pl_n57, pl_n200] at q1 q2 q3; rw [pl_len hxl] at q3; rw [hxl]; omega)) ?_
        refine pm_goto (off := 4) (pe_d hx (show pm_fetch mk_17 27 = some (.goto 4, 3, 0, 0, 0) from rfl)) (by decide) ?_
        show pm_Good sc mm_17 31 _ _ _ _ _ _
        exact pm_iret (ty := .char) (pe_d hx (show pm_fetch mk_17 31 = some (.ireturn, 1, 0, 0, 0) from rfl)) rfl (pl_nc (pl_gd hch _)) (by have q1 := pl_cf b1; have q2 := pl_cf b2; have q3 := pl_cf b3; simp only [pl_cp, pl_n0, pl_n10, pl_n48, pl_n57, pl_n200] at q1 q2 q3; rw [pl_len hxl] at q3; unfold pl_E at hP; rw [if_pos (by omega)] at hP; exact hP)
theorem pl_19 {w : pm_W} {k : Int32} (hP1 : pl_fig k → P (some (.int 1)) w) (hP0 : ¬ pl_fig k → P (some (.int 0)) w) : pm_GoodM sc mm_19 [.int k] w P := by
  have hx : pm_kb mm_19 mk_19 = true := (pm_mt_ok (j := 19) (x := (mm_19, 1, 1, mk_19)) rfl).2
  unfold pm_GoodM
  show pm_Good sc mm_19 0 [(0, .int k)] [] w 0 0 P
  refine pm_ld_ok (i := .iload_n 0) (x := 0) (k := 0) (n := 1) (v := .int k) (pe_d hx (show pm_fetch mk_19 0 = some (.iload_n 0, 1, 0, 0, 0) from rfl)) rfl rfl rfl ?_
  refine pm_op_ok (i := .bipush 48) (st' := [.int 48, .int k]) (pe_d hx (show pm_fetch mk_19 1 = some (.bipush 48, 2, 0, 0, 0) from rfl)) rfl ?_
  refine pm_br2 (c := .lt) (off := 13) (x := k) (y := 48) (pe_d hx (show pm_fetch mk_19 3 = some (.if_icmp .lt 13, 3, 0, 0, 0) from rfl)) (by decide) (fun b1 => ?_) (fun b1 => ?_)
  · show pm_Good sc mm_19 16 _ _ _ _ _ _
    refine pm_op_ok (i := .iconst 0) (st' := [.int 0]) (pe_d hx (show pm_fetch mk_19 16 = some (.iconst 0, 1, 0, 0, 0) from rfl)) rfl ?_
    exact pm_iret (ty := .boolean) (pe_d hx (show pm_fetch mk_19 17 = some (.ireturn, 1, 0, 0, 0) from rfl)) rfl rfl (by have q1 := pl_ct b1; simp only [pl_cp, pl_n0, pl_n10, pl_n48, pl_n57, pl_n200] at q1; exact hP0 (fun q => by have a := q.1; have b := q.2; omega))
  · show pm_Good sc mm_19 6 _ _ _ _ _ _
    refine pm_ld_ok (i := .iload_n 0) (x := 0) (k := 0) (n := 1) (v := .int k) (pe_d hx (show pm_fetch mk_19 6 = some (.iload_n 0, 1, 0, 0, 0) from rfl)) rfl rfl rfl ?_
    refine pm_op_ok (i := .bipush 57) (st' := [.int 57, .int k]) (pe_d hx (show pm_fetch mk_19 7 = some (.bipush 57, 2, 0, 0, 0) from rfl)) rfl ?_
    refine pm_br2 (c := .gt) (off := 7) (x := k) (y := 57) (pe_d hx (show pm_fetch mk_19 9 = some (.if_icmp .gt 7, 3, 0, 0, 0) from rfl)) (by decide) (fun b2 => ?_) (fun b2 => ?_)
    · show pm_Good sc mm_19 16 _ _ _ _ _ _
      refine pm_op_ok (i := .iconst 0) (st' := [.int 0]) (pe_d hx (show pm_fetch mk_19 16 = some (.iconst 0, 1, 0, 0, 0) from rfl)) rfl ?_
      exact pm_iret (ty := .boolean) (pe_d hx (show pm_fetch mk_19 17 = some (.ireturn, 1, 0, 0, 0) from rfl)) rfl rfl (by have q1 := pl_cf b1; have q2 := pl_ct b2; simp only [pl_cp, pl_n0, pl_n10, pl_n48, pl_n57, pl_n200] at q1 q2; exact hP0 (fun q => by have a := q.1; have b := q.2; omega))
    · show pm_Good sc mm_19 12 _ _ _ _ _ _
      refine pm_op_ok (i := .iconst 1) (st' := [.int 1]) (pe_d hx (show pm_fetch mk_19 12 = some (.iconst 1, 1, 0, 0, 0) from rfl)) rfl ?_
      refine pm_goto (off := 4) (pe_d hx (show pm_fetch mk_19 13 = some (.goto 4, 3, 0, 0, 0) from rfl)) (by decide) ?_
      show pm_Good sc mm_19 17 _ _ _ _ _ _
      exact pm_iret (ty := .boolean) (pe_d hx (show pm_fetch mk_19 17 = some (.ireturn, 1, 0, 0, 0) from rfl)) rfl rfl (by have q1 := pl_cf b1; have q2 := pl_cf b2; simp only [pl_cp, pl_n0, pl_n10, pl_n48, pl_n57, pl_n200] at q1 q2; exact hP1 ⟨by omega, by omega⟩)
theorem pl_108 {w : pm_W} {k lo hi : Int32} (hP1 : lo.toInt ≤ k.toInt → k.toInt ≤ hi.toInt → P (some (.int 1)) w) (hP0 : ¬ (lo.toInt ≤ k.toInt ∧ k.toInt ≤ hi.toInt) → P (some (.int 0)) w) : pm_GoodM sc mm_108 [.int k, .int lo, .int hi] w P := by
  have hx : pm_kb mm_108 mk_108 = true := (pm_mt_ok (j := 108) (x := (mm_108, 3, 1, mk_108)) rfl).2
  unfold pm_GoodM
  show pm_Good sc mm_108 0 [(0, .int k), (1, .int lo), (2, .int hi)] [] w 0 0 P
  refine pm_ld_ok (i := .iload_n 0) (x := 0) (k := 0) (n := 1) (v := .int k) (pe_d hx (show pm_fetch mk_108 0 = some (.iload_n 0, 1, 0, 0, 0) from rfl)) rfl rfl rfl ?_
  refine pm_ld_ok (i := .iload_n 1) (x := 1) (k := 0) (n := 1) (v := .int lo) (pe_d hx (show pm_fetch mk_108 1 = some (.iload_n 1, 1, 0, 0, 0) from rfl)) rfl rfl rfl ?_
  refine pm_br2 (c := .lt) (off := 12) (x := k) (y := lo) (pe_d hx (show pm_fetch mk_108 2 = some (.if_icmp .lt 12, 3, 0, 0, 0) from rfl)) (by decide) (fun b1 => ?_) (fun b1 => ?_)
  · show pm_Good sc mm_108 14 _ _ _ _ _ _
    refine pm_op_ok (i := .iconst 0) (st' := [.int 0]) (pe_d hx (show pm_fetch mk_108 14 = some (.iconst 0, 1, 0, 0, 0) from rfl)) rfl ?_
    exact pm_iret (ty := .boolean) (pe_d hx (show pm_fetch mk_108 15 = some (.ireturn, 1, 0, 0, 0) from rfl)) rfl rfl (by have q1 := pl_ct b1; simp only [pl_cp, pl_n0, pl_n10, pl_n48, pl_n57, pl_n200] at q1; exact hP0 (fun q => by have a := q.1; have b := q.2; omega))
  · show pm_Good sc mm_108 5 _ _ _ _ _ _
    refine pm_ld_ok (i := .iload_n 0) (x := 0) (k := 0) (n := 1) (v := .int k) (pe_d hx (show pm_fetch mk_108 5 = some (.iload_n 0, 1, 0, 0, 0) from rfl)) rfl rfl rfl ?_
    refine pm_ld_ok (i := .iload_n 2) (x := 2) (k := 0) (n := 1) (v := .int hi) (pe_d hx (show pm_fetch mk_108 6 = some (.iload_n 2, 1, 0, 0, 0) from rfl)) rfl rfl rfl ?_
    refine pm_br2 (c := .gt) (off := 7) (x := k) (y := hi) (pe_d hx (show pm_fetch mk_108 7 = some (.if_icmp .gt 7, 3, 0, 0, 0) from rfl)) (by decide) (fun b2 => ?_) (fun b2 => ?_)
    · show pm_Good sc mm_108 14 _ _ _ _ _ _
      refine pm_op_ok (i := .iconst 0) (st' := [.int 0]) (pe_d hx (show pm_fetch mk_108 14 = some (.iconst 0, 1, 0, 0, 0) from rfl)) rfl ?_
      exact pm_iret (ty := .boolean) (pe_d hx (show pm_fetch mk_108 15 = some (.ireturn, 1, 0, 0, 0) from rfl)) rfl rfl (by have q1 := pl_cf b1; have q2 := pl_ct b2; simp only [pl_cp, pl_n0, pl_n10, pl_n48, pl_n57, pl_n200] at q1 q2; exact hP0 (fun q => by have a := q.1; have b := q.2; omega))
    · show pm_Good sc mm_108 10 _ _ _ _ _ _
      refine pm_op_ok (i := .iconst 1) (st' := [.int 1]) (pe_d hx (show pm_fetch mk_108 10 = some (.iconst 1, 1, 0, 0, 0) from rfl)) rfl ?_
      refine pm_goto (off := 4) (pe_d hx (show pm_fetch mk_108 11 = some (.goto 4, 3, 0, 0, 0) from rfl)) (by decide) ?_
      show pm_Good sc mm_108 15 _ _ _ _ _ _
      exact pm_iret (ty := .boolean) (pe_d hx (show pm_fetch mk_108 15 = some (.ireturn, 1, 0, 0, 0) from rfl)) rfl rfl (by have q1 := pl_cf b1; have q2 := pl_cf b2; simp only [pl_cp, pl_n0, pl_n10, pl_n48, pl_n57, pl_n200] at q1 q2; exact hP1 (by omega) (by omega))
theorem pl_135 {w : pm_W} {k : Int32} (hP1 : pl_fig k → P (some (.int 1)) w) (hP0 : ¬ pl_fig k → P (some (.int 0)) w) : pm_GoodM sc mm_135 [.int k] w P := by
  have hx : pm_kb mm_135 mk_135 = true := (pm_mt_ok (j := 135) (x := (mm_135, 1, 1, mk_135)) rfl).2
  unfold pm_GoodM
  show pm_Good sc mm_135 0 [(0, .int k)] [] w 0 0 P
  refine pm_ld_ok (i := .iload_n 0) (x := 0) (k := 0) (n := 1) (v := .int k) (pe_d hx (show pm_fetch mk_135 0 = some (.iload_n 0, 1, 0, 0, 0) from rfl)) rfl rfl rfl ?_
  refine pm_op_ok (i := .bipush 48) (st' := [.int 48, .int k]) (pe_d hx (show pm_fetch mk_135 1 = some (.bipush 48, 2, 0, 0, 0) from rfl)) rfl ?_
  refine pm_op_ok (i := .bipush 57) (st' := [.int 57, .int 48, .int k]) (pe_d hx (show pm_fetch mk_135 3 = some (.bipush 57, 2, 0, 0, 0) from rfl)) rfl ?_
  refine pe_callS (y := (mm_108, 3, 1, mk_108)) (As := [.int k, .int 48, .int 57]) (rest := []) (P1 := fun r w' => ∃ x, r = some (.int x) ∧ w' = w ∧ ((x = 1 ∧ pl_fig k) ∨ (x = 0 ∧ ¬ pl_fig k))) hx (show pm_fetch mk_135 5 = some (.invokestatic 55, 3, 108, 0, 752) from rfl) rfl rfl rfl (fun v hv => by simp only [List.mem_cons, List.not_mem_nil, or_false] at hv; rcases hv with rfl | rfl | rfl <;> rfl) (Nat.le_of_ble_eq_true rfl) (Nat.le_of_ble_eq_true rfl) (Nat.le_of_ble_eq_true rfl) (Nat.le_of_ble_eq_true rfl) (pl_108 (fun a b => ⟨1, rfl, rfl, Or.inl ⟨rfl, a, b⟩⟩) (fun q => ⟨0, rfl, rfl, Or.inr ⟨rfl, q⟩⟩)) (fun r w' q => by obtain ⟨x, -, rfl, -⟩ := q; rfl) (fun r w' q => ?_)
  obtain ⟨x, rfl, rfl, hr⟩ := q
  show pm_Good sc mm_135 8 _ [.int x] w' 0 0 P
  exact pm_iret (ty := .boolean) (pe_d hx (show pm_fetch mk_135 8 = some (.ireturn, 1, 0, 0, 0) from rfl)) rfl (by rcases hr with ⟨rfl, -⟩ | ⟨rfl, -⟩ <;> rfl) (by rcases hr with ⟨rfl, q⟩ | ⟨rfl, q⟩ <;> first | exact hP1 q | exact hP0 q)
theorem pl_134 {w : pm_W} {ys : List Int32} {sz at_ k : Int32} {m7 m9 m11 : Value} (hw1 : w[42]? = some (.inr (8, [.ref 43, .int sz, .ref 44, .ref 45, .ref 46, .ref 47, .ref 48, m7, .ref 49, m9, .ref 50, m11, .int at_, .ref 51]))) (hw2 : w[43]? = some (.inl (0, ys))) (hyl : ys.length = 200) (hsz : sz.toInt ≤ 200) (hk : 0 ≤ k.toInt) (hP : P (some (.int (pl_F ys sz k))) w) : pm_GoodM sc mm_134 [.ref 42, .int k] w P := by
  have hx : pm_kb mm_134 mk_134 = true := (pm_mt_ok (j := 134) (x := (mm_134, 1, 0, mk_134)) rfl).2
  unfold pm_GoodM
  show pm_Good sc mm_134 0 [(0, .ref 42), (1, .int k)] [] w 0 0 P
  refine pm_ld_ok (i := .iload_n 1) (x := 1) (k := 0) (n := 1) (v := .int k) (pe_d hx (show pm_fetch mk_134 0 = some (.iload_n 1, 1, 0, 0, 0) from rfl)) rfl rfl rfl ?_
  refine pm_ld_ok (i := .aload_n 0) (x := 0) (k := 2) (n := 1) (v := .ref 42) (pe_d hx (show pm_fetch mk_134 1 = some (.aload_n 0, 1, 0, 0, 0) from rfl)) rfl rfl rfl ?_
  refine pe_getf hx (show pm_fetch mk_134 2 = some (.getfield 69, 3, 8, 1, 774) from rfl) (by decide) hw1 rfl ?_
  refine pm_br2 (c := .ge) (off := 12) (x := k) (y := sz) (pe_d hx (show pm_fetch mk_134 5 = some (.if_icmp .ge 12, 3, 0, 0, 0) from rfl)) (by decide) (fun b1 => ?_) (fun b1 => ?_)
  · show pm_Good sc mm_134 17 _ _ _ _ _ _
    refine pm_op_ok (i := .iconst (-1)) (st' := [.int ((-1))]) (pe_d hx (show pm_fetch mk_134 17 = some (.iconst (-1), 1, 0, 0, 0) from rfl)) rfl ?_
    exact pm_iret (ty := .int) (pe_d hx (show pm_fetch mk_134 18 = some (.ireturn, 1, 0, 0, 0) from rfl)) rfl rfl (by have q1 := pl_ct b1; simp only [pl_cp, pl_n0, pl_n10, pl_n48, pl_n57, pl_n200] at q1; unfold pl_F at hP; rw [if_neg (by omega)] at hP; exact hP)
  · show pm_Good sc mm_134 8 _ _ _ _ _ _
    refine pm_ld_ok (i := .aload_n 0) (x := 0) (k := 2) (n := 1) (v := .ref 42) (pe_d hx (show pm_fetch mk_134 8 = some (.aload_n 0, 1, 0, 0, 0) from rfl)) rfl rfl rfl ?_
    refine pe_getf hx (show pm_fetch mk_134 9 = some (.getfield 7, 3, 8, 0, 773) from rfl) (by decide) hw1 rfl ?_
    refine pm_ld_ok (i := .iload_n 1) (x := 1) (k := 0) (n := 1) (v := .int k) (pe_d hx (show pm_fetch mk_134 12 = some (.iload_n 1, 1, 0, 0, 0) from rfl)) rfl rfl rfl ?_
    refine pm_iald (pe_d hx (show pm_fetch mk_134 13 = some (.iaload, 1, 0, 0, 0) from rfl)) hw2 (pl_in hk (by have q1 := pl_cf b1; simp only [pl_cp, pl_n0, pl_n10, pl_n48, pl_n57, pl_n200] at q1; rw [hyl]; omega)) ?_
    refine pm_goto (off := 4) (pe_d hx (show pm_fetch mk_134 14 = some (.goto 4, 3, 0, 0, 0) from rfl)) (by decide) ?_
    show pm_Good sc mm_134 18 _ _ _ _ _ _
    exact pm_iret (ty := .int) (pe_d hx (show pm_fetch mk_134 18 = some (.ireturn, 1, 0, 0, 0) from rfl)) rfl rfl (by have q1 := pl_cf b1; simp only [pl_cp, pl_n0, pl_n10, pl_n48, pl_n57, pl_n200] at q1; unfold pl_F at hP; rw [if_pos (by omega)] at hP; exact hP)
theorem pl_len5 {xs : List Int32} (h : xs.length = 5) : (Int32.ofNat xs.length).toInt = 5 := by rw [h]; rfl
theorem pe_putf2 {M : pm_M} {mk : pm_K} {pc : Nat} {lv : pm_L} {st : List Value} {w w2 : pm_W} {ca sl : Nat} {idx a b p q : Nat} {fs : List Value} {v : Value} (hx : pm_kb M mk = true) (he : pm_fetch mk pc = some (.putfield idx, 3, a, b, p)) (hw : w[q]? = some (.inr (a, fs))) (hl : b < fs.length) {r : vw_C} (hr : pm_cl[a]? = some r) (hf : pm_fit (pm_fty r b) v = true) (hs : w.set q (.inr (a, fs.set b v)) = w2) (h : pm_Good sc M (pc + 3) lv st w2 ca sl P) : pm_Good sc M pc lv (v :: .ref q :: st) w ca sl P := by
  subst hs
  exact pe_putf hx he hw hl hr hf h
theorem pe_iast2 {M : pm_M} {pc : Nat} {lv : pm_L} {st : List Value} {w w2 : pm_W} {ca sl : Nat} {q : Nat} {xs : List Int32} {i x : Int32} (hd : decode M.2.1 pc = .ok (.iastore, 1)) (hw : w[q]? = some (.inl (0, xs))) (hi : vp_in i xs.length) (hs : w.set q (.inl (0, xs.set i.toNatClampNeg x)) = w2) (h : pm_Good sc M (pc + 1) lv st w2 ca sl P) : pm_Good sc M pc lv (.int x :: .int i :: .ref q :: st) w ca sl P := by
  subst hs
  exact pm_iast hd hw hi h
set_option maxHeartbeats 4000000 in
theorem pl_20 {Wd : Int32 → List Int32 → pm_W} {xs ns : List Int32} {sz nx k : Int32} (h1 : ∀ a b, (Wd a b)[1]? = some (.inr (5, [.ref 2, .ref 3, .int sz, .int a]))) (h2 : ∀ a b, (Wd a b)[2]? = some (.inl (1, xs))) (h3 : ∀ a b, (Wd a b)[3]? = some (.inl (0, b))) (s1 : ∀ a b c, (Wd a b).set 1 (.inr (5, [.ref 2, .ref 3, .int sz, .int c])) = Wd c b) (s3 : ∀ a b c, (Wd a b).set 3 (.inl (0, c)) = Wd a c)
    (hxl : xs.length = 200) (hch : sx_ch xs) (hsz : sz.toInt ≤ 200) (hns : ns.length = 5) (hk : 0 ≤ k.toInt ∧ k.toInt < 5)
    (hP0 : ¬ pl_fig (pl_E xs sz nx) → P (some (.int 0)) (Wd nx ns)) (hP1 : pl_fig (pl_E xs sz nx) → ¬ pl_fig (pl_E xs sz (nx + 1)) → P (some (.int 1)) (Wd (nx + 1) (ns.set k.toNatClampNeg (pl_E xs sz nx - 48)))) (hP2 : pl_fig (pl_E xs sz nx) → pl_fig (pl_E xs sz (nx + 1)) → P (some (.int 1)) (Wd (nx + 1 + 1) (ns.set k.toNatClampNeg (10 * (pl_E xs sz nx - 48) + pl_E xs sz (nx + 1) - 48)))) : pm_GoodM sc mm_20 [.ref 1, .int k] (Wd nx ns) P := by
  have hx : pm_kb mm_20 mk_20 = true := (pm_mt_ok (j := 20) (x := (mm_20, 1, 0, mk_20)) rfl).2
  unfold pm_GoodM
  show pm_Good sc mm_20 0 [(0, .ref 1), (1, .int k)] [] (Wd nx ns) 0 0 P
  refine pm_ld_ok (i := .aload_n 0) (x := 0) (k := 2) (n := 1) (v := .ref 1) (pe_d hx (show pm_fetch mk_20 0 = some (.aload_n 0, 1, 0, 0, 0) from rfl)) rfl rfl rfl ?_
  refine pm_ld_ok (i := .aload_n 0) (x := 0) (k := 2) (n := 1) (v := .ref 1) (pe_d hx (show pm_fetch mk_20 1 = some (.aload_n 0, 1, 0, 0, 0) from rfl)) rfl rfl rfl ?_
  refine pe_getf hx (show pm_fetch mk_20 2 = some (.getfield 28, 3, 5, 3, 80) from rfl) (by decide) (h1 _ _) rfl ?_
  refine pe_callV (y := (mm_17, 1, 0, mk_17)) (As := [.int (nx)]) (rest := []) (P1 := fun r w' => r = some (.int (pl_E xs sz (nx))) ∧ w' = (Wd (nx) (ns))) hx (show pm_fetch mk_20 5 = some (.invokevirtual 35, 3, 17, 0, 320) from rfl) rfl rfl rfl (fun v hv => by simp only [List.mem_cons, List.not_mem_nil, or_false] at hv; rcases hv with rfl <;> rfl) (h1 _ _) (show pm_cl[5]? = some _ from rfl) rfl (Nat.le_of_ble_eq_true rfl) (Nat.le_of_ble_eq_true rfl) (Nat.le_of_ble_eq_true rfl) (Nat.le_of_ble_eq_true rfl) (pl_17 (h1 _ _) (h2 _ _) hxl hch hsz ⟨rfl, rfl⟩) (fun r w' q => by rw [q.2]) (fun r w' q => ?_)
  obtain ⟨rfl, rfl⟩ := q
  show pm_Good sc mm_20 8 _ [.int (pl_E xs sz (nx))] (Wd (nx) (ns)) 0 0 P
  refine pe_callS (y := (mm_19, 1, 1, mk_19)) (As := [.int (pl_E xs sz (nx))]) (rest := []) (P1 := fun r w' => ∃ x, r = some (.int x) ∧ w' = (Wd (nx) (ns)) ∧ ((x = 1 ∧ pl_fig (pl_E xs sz (nx))) ∨ (x = 0 ∧ ¬ pl_fig (pl_E xs sz (nx))))) hx (show pm_fetch mk_20 8 = some (.invokestatic 51, 3, 19, 0, 331) from rfl) rfl rfl rfl (fun v hv => by simp only [List.mem_cons, List.not_mem_nil, or_false] at hv; rcases hv with rfl <;> rfl) (Nat.le_of_ble_eq_true rfl) (Nat.le_of_ble_eq_true rfl) (Nat.le_of_ble_eq_true rfl) (Nat.le_of_ble_eq_true rfl) (pl_19 (fun a => ⟨1, rfl, rfl, Or.inl ⟨rfl, a⟩⟩) (fun q => ⟨0, rfl, rfl, Or.inr ⟨rfl, q⟩⟩)) (fun r w' q => by obtain ⟨x, -, q, -⟩ := q; rw [q]) (fun r w' q => ?_)
  obtain ⟨x, rfl, rfl, hr⟩ := q
  rcases hr with ⟨rfl, hf⟩ | ⟨rfl, hf⟩
  · show pm_Good sc mm_20 11 _ [.int 1] (Wd (nx) (ns)) 0 0 P
    refine pm_br (c := .eq) (off := 16) (x := 1) (pe_d hx (show pm_fetch mk_20 11 = some (.ifCond .eq 16, 3, 0, 0, 0) from rfl)) (by decide) (fun q => absurd q (by decide)) (fun _ => ?_)
    show pm_Good sc mm_20 14 _ _ _ _ _ _
    refine pm_ld_ok (i := .iload_n 1) (x := 1) (k := 0) (n := 1) (v := .int k) (pe_d hx (show pm_fetch mk_20 14 = some (.iload_n 1, 1, 0, 0, 0) from rfl)) rfl rfl rfl ?_
    refine pm_br (c := .lt) (off := 12) (x := k) (pe_d hx (show pm_fetch mk_20 15 = some (.ifCond .lt 12, 3, 0, 0, 0) from rfl)) (by decide) (fun b1 => ?_) (fun b1 => ?_)
    · show pm_Good sc mm_20 27 _ _ _ _ _ _
      refine pm_op_ok (i := .iconst 0) (st' := [.int 0]) (pe_d hx (show pm_fetch mk_20 27 = some (.iconst 0, 1, 0, 0, 0) from rfl)) rfl ?_
      exact pm_iret (ty := .boolean) (pe_d hx (show pm_fetch mk_20 28 = some (.ireturn, 1, 0, 0, 0) from rfl)) rfl rfl (by exfalso; have q1 := pl_ct b1; simp only [pl_cp, pl_n0, pl_n10, pl_n48, pl_n57, pl_n200] at q1; omega)
    · show pm_Good sc mm_20 18 _ _ _ _ _ _
      refine pm_ld_ok (i := .iload_n 1) (x := 1) (k := 0) (n := 1) (v := .int k) (pe_d hx (show pm_fetch mk_20 18 = some (.iload_n 1, 1, 0, 0, 0) from rfl)) rfl rfl rfl ?_
      refine pm_ld_ok (i := .aload_n 0) (x := 0) (k := 2) (n := 1) (v := .ref 1) (pe_d hx (show pm_fetch mk_20 19 = some (.aload_n 0, 1, 0, 0, 0) from rfl)) rfl rfl rfl ?_
      refine pe_getf hx (show pm_fetch mk_20 20 = some (.getfield 15, 3, 5, 1, 77) from rfl) (by decide) (h1 _ _) rfl ?_
      refine pm_alen (pe_d hx (show pm_fetch mk_20 23 = some (.arraylength, 1, 0, 0, 0) from rfl)) (h3 _ _) ?_
      refine pm_br2 (c := .lt) (off := 5) (x := k) (y := Int32.ofNat (ns).length) (pe_d hx (show pm_fetch mk_20 24 = some (.if_icmp .lt 5, 3, 0, 0, 0) from rfl)) (by decide) (fun b2 => ?_) (fun b2 => ?_)
      · show pm_Good sc mm_20 29 _ _ _ _ _ _
        refine pm_ld_ok (i := .aload_n 0) (x := 0) (k := 2) (n := 1) (v := .ref 1) (pe_d hx (show pm_fetch mk_20 29 = some (.aload_n 0, 1, 0, 0, 0) from rfl)) rfl rfl rfl ?_
        refine pm_ld_ok (i := .aload_n 0) (x := 0) (k := 2) (n := 1) (v := .ref 1) (pe_d hx (show pm_fetch mk_20 30 = some (.aload_n 0, 1, 0, 0, 0) from rfl)) rfl rfl rfl ?_
        refine pe_getf hx (show pm_fetch mk_20 31 = some (.getfield 28, 3, 5, 3, 80) from rfl) (by decide) (h1 _ _) rfl ?_
        refine pe_callV (y := (mm_17, 1, 0, mk_17)) (As := [.int (nx)]) (rest := []) (P1 := fun r w' => r = some (.int (pl_E xs sz (nx))) ∧ w' = (Wd (nx) (ns))) hx (show pm_fetch mk_20 34 = some (.invokevirtual 35, 3, 17, 0, 320) from rfl) rfl rfl rfl (fun v hv => by simp only [List.mem_cons, List.not_mem_nil, or_false] at hv; rcases hv with rfl <;> rfl) (h1 _ _) (show pm_cl[5]? = some _ from rfl) rfl (Nat.le_of_ble_eq_true rfl) (Nat.le_of_ble_eq_true rfl) (Nat.le_of_ble_eq_true rfl) (Nat.le_of_ble_eq_true rfl) (pl_17 (h1 _ _) (h2 _ _) hxl hch hsz ⟨rfl, rfl⟩) (fun r w' q => by rw [q.2]) (fun r w' q => ?_)
        obtain ⟨rfl, rfl⟩ := q
        show pm_Good sc mm_20 37 _ [.int (pl_E xs sz (nx))] (Wd (nx) (ns)) 0 0 P
        refine pm_op_ok (i := .bipush 48) (st' := [.int 48, .int (pl_E xs sz (nx))]) (pe_d hx (show pm_fetch mk_20 37 = some (.bipush 48, 2, 0, 0, 0) from rfl)) rfl ?_
        refine pm_op_ok (i := .isub) (st' := [.int ((pl_E xs sz (nx)) - (48))]) (pe_d hx (show pm_fetch mk_20 39 = some (.isub, 1, 0, 0, 0) from rfl)) rfl ?_
        refine pm_sto_ok (i := .istore_n 2) (x := 2) (k := 0) (n := 1) (pe_d hx (show pm_fetch mk_20 40 = some (.istore_n 2, 1, 0, 0, 0) from rfl)) rfl rfl (by decide) ?_
        refine pm_ld_ok (i := .aload_n 0) (x := 0) (k := 2) (n := 1) (v := .ref 1) (pe_d hx (show pm_fetch mk_20 41 = some (.aload_n 0, 1, 0, 0, 0) from rfl)) rfl rfl rfl ?_
        refine pm_op_ok (i := .dup) (st' := [.ref 1, .ref 1]) (pe_d hx (show pm_fetch mk_20 42 = some (.dup, 1, 0, 0, 0) from rfl)) rfl ?_
        refine pe_getf hx (show pm_fetch mk_20 43 = some (.getfield 28, 3, 5, 3, 80) from rfl) (by decide) (h1 _ _) rfl ?_
        refine pm_op_ok (i := .iconst 1) (st' := [.int 1, .int nx, .ref 1]) (pe_d hx (show pm_fetch mk_20 46 = some (.iconst 1, 1, 0, 0, 0) from rfl)) rfl ?_
        refine pm_op_ok (i := .iadd) (st' := [.int ((nx) + (1)), .ref 1]) (pe_d hx (show pm_fetch mk_20 47 = some (.iadd, 1, 0, 0, 0) from rfl)) rfl ?_
        refine pe_putf2 hx (show pm_fetch mk_20 48 = some (.putfield 28, 3, 5, 3, 80) from rfl) (h1 _ _) (Nat.le_of_ble_eq_true rfl) (show pm_cl[5]? = some _ from rfl) rfl (s1 _ _ _) ?_
        refine pm_ld_ok (i := .aload_n 0) (x := 0) (k := 2) (n := 1) (v := .ref 1) (pe_d hx (show pm_fetch mk_20 51 = some (.aload_n 0, 1, 0, 0, 0) from rfl)) rfl rfl rfl ?_
        refine pm_ld_ok (i := .aload_n 0) (x := 0) (k := 2) (n := 1) (v := .ref 1) (pe_d hx (show pm_fetch mk_20 52 = some (.aload_n 0, 1, 0, 0, 0) from rfl)) rfl rfl rfl ?_
        refine pe_getf hx (show pm_fetch mk_20 53 = some (.getfield 28, 3, 5, 3, 80) from rfl) (by decide) (h1 _ _) rfl ?_
        refine pe_callV (y := (mm_17, 1, 0, mk_17)) (As := [.int (nx + 1)]) (rest := []) (P1 := fun r w' => r = some (.int (pl_E xs sz (nx + 1))) ∧ w' = (Wd (nx + 1) (ns))) hx (show pm_fetch mk_20 56 = some (.invokevirtual 35, 3, 17, 0, 320) from rfl) rfl rfl rfl (fun v hv => by simp only [List.mem_cons, List.not_mem_nil, or_false] at hv; rcases hv with rfl <;> rfl) (h1 _ _) (show pm_cl[5]? = some _ from rfl) rfl (Nat.le_of_ble_eq_true rfl) (Nat.le_of_ble_eq_true rfl) (Nat.le_of_ble_eq_true rfl) (Nat.le_of_ble_eq_true rfl) (pl_17 (h1 _ _) (h2 _ _) hxl hch hsz ⟨rfl, rfl⟩) (fun r w' q => by rw [q.2]) (fun r w' q => ?_)
        obtain ⟨rfl, rfl⟩ := q
        show pm_Good sc mm_20 59 _ [.int (pl_E xs sz (nx + 1))] (Wd (nx + 1) (ns)) 0 0 P
        refine pe_callS (y := (mm_19, 1, 1, mk_19)) (As := [.int (pl_E xs sz (nx + 1))]) (rest := []) (P1 := fun r w' => ∃ x, r = some (.int x) ∧ w' = (Wd (nx + 1) (ns)) ∧ ((x = 1 ∧ pl_fig (pl_E xs sz (nx + 1))) ∨ (x = 0 ∧ ¬ pl_fig (pl_E xs sz (nx + 1))))) hx (show pm_fetch mk_20 59 = some (.invokestatic 51, 3, 19, 0, 331) from rfl) rfl rfl rfl (fun v hv => by simp only [List.mem_cons, List.not_mem_nil, or_false] at hv; rcases hv with rfl <;> rfl) (Nat.le_of_ble_eq_true rfl) (Nat.le_of_ble_eq_true rfl) (Nat.le_of_ble_eq_true rfl) (Nat.le_of_ble_eq_true rfl) (pl_19 (fun a => ⟨1, rfl, rfl, Or.inl ⟨rfl, a⟩⟩) (fun q => ⟨0, rfl, rfl, Or.inr ⟨rfl, q⟩⟩)) (fun r w' q => by obtain ⟨x, -, q, -⟩ := q; rw [q]) (fun r w' q => ?_)
        obtain ⟨x, rfl, rfl, hr⟩ := q
        rcases hr with ⟨rfl, hf2⟩ | ⟨rfl, hf2⟩
        · show pm_Good sc mm_20 62 _ [.int 1] (Wd (nx + 1) (ns)) 0 0 P
          refine pm_br (c := .eq) (off := 30) (x := 1) (pe_d hx (show pm_fetch mk_20 62 = some (.ifCond .eq 30, 3, 0, 0, 0) from rfl)) (by decide) (fun q => absurd q (by decide)) (fun _ => ?_)
          show pm_Good sc mm_20 65 _ _ _ _ _ _
          refine pm_op_ok (i := .bipush 10) (st' := [.int 10]) (pe_d hx (show pm_fetch mk_20 65 = some (.bipush 10, 2, 0, 0, 0) from rfl)) rfl ?_
          refine pm_ld_ok (i := .iload_n 2) (x := 2) (k := 0) (n := 1) (v := .int ((pl_E xs sz (nx)) - (48))) (pe_d hx (show pm_fetch mk_20 67 = some (.iload_n 2, 1, 0, 0, 0) from rfl)) rfl rfl rfl ?_
          refine pm_op_ok (i := .imul) (st' := [.int ((10) * ((pl_E xs sz (nx)) - (48)))]) (pe_d hx (show pm_fetch mk_20 68 = some (.imul, 1, 0, 0, 0) from rfl)) rfl ?_
          refine pm_ld_ok (i := .aload_n 0) (x := 0) (k := 2) (n := 1) (v := .ref 1) (pe_d hx (show pm_fetch mk_20 69 = some (.aload_n 0, 1, 0, 0, 0) from rfl)) rfl rfl rfl ?_
          refine pm_ld_ok (i := .aload_n 0) (x := 0) (k := 2) (n := 1) (v := .ref 1) (pe_d hx (show pm_fetch mk_20 70 = some (.aload_n 0, 1, 0, 0, 0) from rfl)) rfl rfl rfl ?_
          refine pe_getf hx (show pm_fetch mk_20 71 = some (.getfield 28, 3, 5, 3, 80) from rfl) (by decide) (h1 _ _) rfl ?_
          refine pe_callV (y := (mm_17, 1, 0, mk_17)) (As := [.int (nx + 1)]) (rest := [.int ((10) * ((pl_E xs sz (nx)) - (48)))]) (P1 := fun r w' => r = some (.int (pl_E xs sz (nx + 1))) ∧ w' = (Wd (nx + 1) (ns))) hx (show pm_fetch mk_20 74 = some (.invokevirtual 35, 3, 17, 0, 320) from rfl) rfl rfl rfl (fun v hv => by simp only [List.mem_cons, List.not_mem_nil, or_false] at hv; rcases hv with rfl <;> rfl) (h1 _ _) (show pm_cl[5]? = some _ from rfl) rfl (Nat.le_of_ble_eq_true rfl) (Nat.le_of_ble_eq_true rfl) (Nat.le_of_ble_eq_true rfl) (Nat.le_of_ble_eq_true rfl) (pl_17 (h1 _ _) (h2 _ _) hxl hch hsz ⟨rfl, rfl⟩) (fun r w' q => by rw [q.2]) (fun r w' q => ?_)
          obtain ⟨rfl, rfl⟩ := q
          show pm_Good sc mm_20 77 _ [.int (pl_E xs sz (nx + 1)), .int ((10) * ((pl_E xs sz (nx)) - (48)))] (Wd (nx + 1) (ns)) 0 0 P
          refine pm_op_ok (i := .iadd) (st' := [.int (((10) * ((pl_E xs sz (nx)) - (48))) + (pl_E xs sz (nx + 1)))]) (pe_d hx (show pm_fetch mk_20 77 = some (.iadd, 1, 0, 0, 0) from rfl)) rfl ?_
          refine pm_op_ok (i := .bipush 48) (st' := [.int 48, .int (((10) * ((pl_E xs sz (nx)) - (48))) + (pl_E xs sz (nx + 1)))]) (pe_d hx (show pm_fetch mk_20 78 = some (.bipush 48, 2, 0, 0, 0) from rfl)) rfl ?_
          refine pm_op_ok (i := .isub) (st' := [.int ((((10) * ((pl_E xs sz (nx)) - (48))) + (pl_E xs sz (nx + 1))) - (48))]) (pe_d hx (show pm_fetch mk_20 80 = some (.isub, 1, 0, 0, 0) from rfl)) rfl ?_
          refine pm_sto_ok (i := .istore_n 2) (x := 2) (k := 0) (n := 1) (pe_d hx (show pm_fetch mk_20 81 = some (.istore_n 2, 1, 0, 0, 0) from rfl)) rfl rfl (by decide) ?_
          refine pm_ld_ok (i := .aload_n 0) (x := 0) (k := 2) (n := 1) (v := .ref 1) (pe_d hx (show pm_fetch mk_20 82 = some (.aload_n 0, 1, 0, 0, 0) from rfl)) rfl rfl rfl ?_
          refine pm_op_ok (i := .dup) (st' := [.ref 1, .ref 1]) (pe_d hx (show pm_fetch mk_20 83 = some (.dup, 1, 0, 0, 0) from rfl)) rfl ?_
          refine pe_getf hx (show pm_fetch mk_20 84 = some (.getfield 28, 3, 5, 3, 80) from rfl) (by decide) (h1 _ _) rfl ?_
          refine pm_op_ok (i := .iconst 1) (st' := [.int 1, .int (nx + 1), .ref 1]) (pe_d hx (show pm_fetch mk_20 87 = some (.iconst 1, 1, 0, 0, 0) from rfl)) rfl ?_
          refine pm_op_ok (i := .iadd) (st' := [.int ((nx + 1) + (1)), .ref 1]) (pe_d hx (show pm_fetch mk_20 88 = some (.iadd, 1, 0, 0, 0) from rfl)) rfl ?_
          refine pe_putf2 hx (show pm_fetch mk_20 89 = some (.putfield 28, 3, 5, 3, 80) from rfl) (h1 _ _) (Nat.le_of_ble_eq_true rfl) (show pm_cl[5]? = some _ from rfl) rfl (s1 _ _ _) ?_
          refine pm_ld_ok (i := .aload_n 0) (x := 0) (k := 2) (n := 1) (v := .ref 1) (pe_d hx (show pm_fetch mk_20 92 = some (.aload_n 0, 1, 0, 0, 0) from rfl)) rfl rfl rfl ?_
          refine pe_getf hx (show pm_fetch mk_20 93 = some (.getfield 15, 3, 5, 1, 77) from rfl) (by decide) (h1 _ _) rfl ?_
          refine pm_ld_ok (i := .iload_n 1) (x := 1) (k := 0) (n := 1) (v := .int k) (pe_d hx (show pm_fetch mk_20 96 = some (.iload_n 1, 1, 0, 0, 0) from rfl)) rfl rfl rfl ?_
          refine pm_ld_ok (i := .iload_n 2) (x := 2) (k := 0) (n := 1) (v := .int ((((10) * ((pl_E xs sz (nx)) - (48))) + (pl_E xs sz (nx + 1))) - (48))) (pe_d hx (show pm_fetch mk_20 97 = some (.iload_n 2, 1, 0, 0, 0) from rfl)) rfl rfl rfl ?_
          refine pe_iast2 (pe_d hx (show pm_fetch mk_20 98 = some (.iastore, 1, 0, 0, 0) from rfl)) (h3 _ _) (by rw [hns]; exact pl_in hk.1 (by omega)) (s3 _ _ _) ?_
          refine pm_op_ok (i := .iconst 1) (st' := [.int 1]) (pe_d hx (show pm_fetch mk_20 99 = some (.iconst 1, 1, 0, 0, 0) from rfl)) rfl ?_
          exact pm_iret (ty := .boolean) (pe_d hx (show pm_fetch mk_20 100 = some (.ireturn, 1, 0, 0, 0) from rfl)) rfl rfl (hP2 hf hf2)
        · show pm_Good sc mm_20 62 _ [.int 0] (Wd (nx + 1) (ns)) 0 0 P
          refine pm_br (c := .eq) (off := 30) (x := 0) (pe_d hx (show pm_fetch mk_20 62 = some (.ifCond .eq 30, 3, 0, 0, 0) from rfl)) (by decide) (fun _ => ?_) (fun q => absurd q (by decide))
          show pm_Good sc mm_20 92 _ _ _ _ _ _
          refine pm_ld_ok (i := .aload_n 0) (x := 0) (k := 2) (n := 1) (v := .ref 1) (pe_d hx (show pm_fetch mk_20 92 = some (.aload_n 0, 1, 0, 0, 0) from rfl)) rfl rfl rfl ?_
          refine pe_getf hx (show pm_fetch mk_20 93 = some (.getfield 15, 3, 5, 1, 77) from rfl) (by decide) (h1 _ _) rfl ?_
          refine pm_ld_ok (i := .iload_n 1) (x := 1) (k := 0) (n := 1) (v := .int k) (pe_d hx (show pm_fetch mk_20 96 = some (.iload_n 1, 1, 0, 0, 0) from rfl)) rfl rfl rfl ?_
          refine pm_ld_ok (i := .iload_n 2) (x := 2) (k := 0) (n := 1) (v := .int ((pl_E xs sz (nx)) - (48))) (pe_d hx (show pm_fetch mk_20 97 = some (.iload_n 2, 1, 0, 0, 0) from rfl)) rfl rfl rfl ?_
          refine pe_iast2 (pe_d hx (show pm_fetch mk_20 98 = some (.iastore, 1, 0, 0, 0) from rfl)) (h3 _ _) (by rw [hns]; exact pl_in hk.1 (by omega)) (s3 _ _ _) ?_
          refine pm_op_ok (i := .iconst 1) (st' := [.int 1]) (pe_d hx (show pm_fetch mk_20 99 = some (.iconst 1, 1, 0, 0, 0) from rfl)) rfl ?_
          exact pm_iret (ty := .boolean) (pe_d hx (show pm_fetch mk_20 100 = some (.ireturn, 1, 0, 0, 0) from rfl)) rfl rfl (hP1 hf hf2)
      · show pm_Good sc mm_20 27 _ _ _ _ _ _
        refine pm_op_ok (i := .iconst 0) (st' := [.int 0]) (pe_d hx (show pm_fetch mk_20 27 = some (.iconst 0, 1, 0, 0, 0) from rfl)) rfl ?_
        exact pm_iret (ty := .boolean) (pe_d hx (show pm_fetch mk_20 28 = some (.ireturn, 1, 0, 0, 0) from rfl)) rfl rfl (by exfalso; have q1 := pl_cf b1; have q2 := pl_cf b2; simp only [pl_cp, pl_n0, pl_n10, pl_n48, pl_n57, pl_n200] at q1 q2; rw [pl_len5 hns] at q2; omega)
  · show pm_Good sc mm_20 11 _ [.int 0] (Wd (nx) (ns)) 0 0 P
    refine pm_br (c := .eq) (off := 16) (x := 0) (pe_d hx (show pm_fetch mk_20 11 = some (.ifCond .eq 16, 3, 0, 0, 0) from rfl)) (by decide) (fun _ => ?_) (fun q => absurd q (by decide))
    show pm_Good sc mm_20 27 _ _ _ _ _ _
    refine pm_op_ok (i := .iconst 0) (st' := [.int 0]) (pe_d hx (show pm_fetch mk_20 27 = some (.iconst 0, 1, 0, 0, 0) from rfl)) rfl ?_
    exact pm_iret (ty := .boolean) (pe_d hx (show pm_fetch mk_20 28 = some (.ireturn, 1, 0, 0, 0) from rfl)) rfl rfl (hP0 hf)
theorem pl_p1 {a : Int32} (h0 : 0 ≤ a.toInt) (h1 : a.toInt ≤ 1000) : (a + 1).toInt = a.toInt + 1 := by
  have e : (1 : Int32).toInt = 1 := rfl
  rw [sx_add (by rw [e]; omega) (by rw [e]; omega), e]
set_option maxHeartbeats 4000000 in
theorem pl_136 {Wd : Int32 → pm_W} {ys : List Int32} {sz a lo hi en : Int32} {m7 m9 m11 : Value} (h1 : ∀ c, (Wd c)[42]? = some (.inr (8, [.ref 43, .int sz, .ref 44, .ref 45, .ref 46, .ref 47, .ref 48, m7, .ref 49, m9, .ref 50, m11, .int c, .ref 51]))) (h2 : ∀ c, (Wd c)[43]? = some (.inl (0, ys))) (s1 : ∀ b c, (Wd b).set 42 (.inr (8, [.ref 43, .int sz, .ref 44, .ref 45, .ref 46, .ref 47, .ref 48, m7, .ref 49, m9, .ref 50, m11, .int c, .ref 51])) = Wd c)
    (hyl : ys.length = 200) (hsz : sz.toInt ≤ 200) (hat0 : 0 ≤ a.toInt) (ha : a.toInt ≤ 900) (hP0 : ¬ pl_fig (pl_F ys sz a) → P (some (.int (-1))) (Wd a))
    (hP1 : pl_fig (pl_F ys sz a) → ¬ pl_fig (pl_F ys sz (a + 1)) → (pl_F ys sz (a + 1) = en ∧ lo.toInt ≤ (pl_F ys sz a - 48).toInt ∧ (pl_F ys sz a - 48).toInt ≤ hi.toInt) → P (some (.int (pl_F ys sz a - 48))) (Wd (a + 1 + 1))) (hP1n : pl_fig (pl_F ys sz a) → ¬ pl_fig (pl_F ys sz (a + 1)) → ¬ (pl_F ys sz (a + 1) = en ∧ lo.toInt ≤ (pl_F ys sz a - 48).toInt ∧ (pl_F ys sz a - 48).toInt ≤ hi.toInt) → P (some (.int (-1))) (Wd (a + 1 + 1)))
    (hP2 : pl_fig (pl_F ys sz a) → pl_fig (pl_F ys sz (a + 1)) → (pl_F ys sz (a + 1 + 1) = en ∧ lo.toInt ≤ (10 * (pl_F ys sz a - 48) + pl_F ys sz (a + 1) - 48).toInt ∧ (10 * (pl_F ys sz a - 48) + pl_F ys sz (a + 1) - 48).toInt ≤ hi.toInt) → P (some (.int (10 * (pl_F ys sz a - 48) + pl_F ys sz (a + 1) - 48))) (Wd (a + 1 + 1 + 1))) (hP2n : pl_fig (pl_F ys sz a) → pl_fig (pl_F ys sz (a + 1)) → ¬ (pl_F ys sz (a + 1 + 1) = en ∧ lo.toInt ≤ (10 * (pl_F ys sz a - 48) + pl_F ys sz (a + 1) - 48).toInt ∧ (10 * (pl_F ys sz a - 48) + pl_F ys sz (a + 1) - 48).toInt ≤ hi.toInt) → P (some (.int (-1))) (Wd (a + 1 + 1 + 1))) : pm_GoodM sc mm_136 [.ref 42, .int lo, .int hi, .int en] (Wd a) P := by
  have hx : pm_kb mm_136 mk_136 = true := (pm_mt_ok (j := 136) (x := (mm_136, 3, 0, mk_136)) rfl).2
  have e1 := pl_p1 hat0 (by omega)
  have hat1 : 0 ≤ (a + 1).toInt := by omega
  have e2 := pl_p1 hat1 (by omega)
  have hat2 : 0 ≤ (a + 1 + 1).toInt := by omega
  unfold pm_GoodM
  show pm_Good sc mm_136 0 [(0, .ref 42), (1, .int lo), (2, .int hi), (3, .int en)] [] (Wd a) 0 0 P
  refine pm_ld_ok (i := .aload_n 0) (x := 0) (k := 2) (n := 1) (v := .ref 42) (pe_d hx (show pm_fetch mk_136 0 = some (.aload_n 0, 1, 0, 0, 0) from rfl)) rfl rfl rfl ?_
  refine pm_ld_ok (i := .aload_n 0) (x := 0) (k := 2) (n := 1) (v := .ref 42) (pe_d hx (show pm_fetch mk_136 1 = some (.aload_n 0, 1, 0, 0, 0) from rfl)) rfl rfl rfl ?_
  refine pe_getf hx (show pm_fetch mk_136 2 = some (.getfield 73, 3, 8, 12, 785) from rfl) (by decide) (h1 _) rfl ?_
  refine pe_callV (y := (mm_134, 1, 0, mk_134)) (As := [.int (a)]) (rest := []) (P1 := fun r w' => r = some (.int (pl_F ys sz (a))) ∧ w' = (Wd (a))) hx (show pm_fetch mk_136 5 = some (.invokevirtual 76, 3, 134, 0, 840) from rfl) rfl rfl rfl (fun v hv => by simp only [List.mem_cons, List.not_mem_nil, or_false] at hv; rcases hv with rfl <;> rfl) (h1 _) (show pm_cl[8]? = some _ from rfl) rfl (Nat.le_of_ble_eq_true rfl) (Nat.le_of_ble_eq_true rfl) (Nat.le_of_ble_eq_true rfl) (Nat.le_of_ble_eq_true rfl) (pl_134 (h1 _) (h2 _) hyl hsz hat0 ⟨rfl, rfl⟩) (fun r w' q => by rw [q.2]) (fun r w' q => ?_)
  obtain ⟨rfl, rfl⟩ := q
  show pm_Good sc mm_136 8 _ [.int (pl_F ys sz (a))] (Wd (a)) 0 0 P
  refine pe_callS (y := (mm_135, 1, 1, mk_135)) (As := [.int (pl_F ys sz (a))]) (rest := []) (P1 := fun r w' => ∃ x, r = some (.int x) ∧ w' = (Wd (a)) ∧ ((x = 1 ∧ (pl_fig (pl_F ys sz (a)))) ∨ (x = 0 ∧ ¬ (pl_fig (pl_F ys sz (a)))))) hx (show pm_fetch mk_136 8 = some (.invokestatic 80, 3, 135, 0, 844) from rfl) rfl rfl rfl (fun v hv => by simp only [List.mem_cons, List.not_mem_nil, or_false] at hv; rcases hv with rfl <;> rfl) (Nat.le_of_ble_eq_true rfl) (Nat.le_of_ble_eq_true rfl) (Nat.le_of_ble_eq_true rfl) (Nat.le_of_ble_eq_true rfl) (pl_135 (fun a => ⟨1, rfl, rfl, Or.inl ⟨rfl, a⟩⟩) (fun q => ⟨0, rfl, rfl, Or.inr ⟨rfl, q⟩⟩)) (fun r w' q => by obtain ⟨x, -, q, -⟩ := q; rw [q]) (fun r w' q => ?_)
  obtain ⟨x, rfl, rfl, hr⟩ := q
  rcases hr with ⟨rfl, hf⟩ | ⟨rfl, hf⟩
  · show pm_Good sc mm_136 11 _ [.int 1] (Wd (a)) 0 0 P
    refine pm_br (c := .ne) (off := 5) (x := 1) (pe_d hx (show pm_fetch mk_136 11 = some (.ifCond .ne 5, 3, 0, 0, 0) from rfl)) (by decide) (fun _ => ?_) (fun q => absurd q (by decide))
    show pm_Good sc mm_136 16 _ _ _ _ _ _
    refine pm_ld_ok (i := .aload_n 0) (x := 0) (k := 2) (n := 1) (v := .ref 42) (pe_d hx (show pm_fetch mk_136 16 = some (.aload_n 0, 1, 0, 0, 0) from rfl)) rfl rfl rfl ?_
    refine pm_ld_ok (i := .aload_n 0) (x := 0) (k := 2) (n := 1) (v := .ref 42) (pe_d hx (show pm_fetch mk_136 17 = some (.aload_n 0, 1, 0, 0, 0) from rfl)) rfl rfl rfl ?_
    refine pe_getf hx (show pm_fetch mk_136 18 = some (.getfield 73, 3, 8, 12, 785) from rfl) (by decide) (h1 _) rfl ?_
    refine pe_callV (y := (mm_134, 1, 0, mk_134)) (As := [.int (a)]) (rest := []) (P1 := fun r w' => r = some (.int (pl_F ys sz (a))) ∧ w' = (Wd (a))) hx (show pm_fetch mk_136 21 = some (.invokevirtual 76, 3, 134, 0, 840) from rfl) rfl rfl rfl (fun v hv => by simp only [List.mem_cons, List.not_mem_nil, or_false] at hv; rcases hv with rfl <;> rfl) (h1 _) (show pm_cl[8]? = some _ from rfl) rfl (Nat.le_of_ble_eq_true rfl) (Nat.le_of_ble_eq_true rfl) (Nat.le_of_ble_eq_true rfl) (Nat.le_of_ble_eq_true rfl) (pl_134 (h1 _) (h2 _) hyl hsz hat0 ⟨rfl, rfl⟩) (fun r w' q => by rw [q.2]) (fun r w' q => ?_)
    obtain ⟨rfl, rfl⟩ := q
    show pm_Good sc mm_136 24 _ [.int (pl_F ys sz (a))] (Wd (a)) 0 0 P
    refine pm_op_ok (i := .bipush 48) (st' := [.int 48, .int (pl_F ys sz (a))]) (pe_d hx (show pm_fetch mk_136 24 = some (.bipush 48, 2, 0, 0, 0) from rfl)) rfl ?_
    refine pm_op_ok (i := .isub) (st' := [.int ((pl_F ys sz (a)) - (48))]) (pe_d hx (show pm_fetch mk_136 26 = some (.isub, 1, 0, 0, 0) from rfl)) rfl ?_
    refine pm_sto_ok (i := .istore 4) (x := 4) (k := 0) (n := 2) (pe_d hx (show pm_fetch mk_136 27 = some (.istore 4, 2, 0, 0, 0) from rfl)) rfl rfl (by decide) ?_
    refine pm_ld_ok (i := .aload_n 0) (x := 0) (k := 2) (n := 1) (v := .ref 42) (pe_d hx (show pm_fetch mk_136 29 = some (.aload_n 0, 1, 0, 0, 0) from rfl)) rfl rfl rfl ?_
    refine pm_op_ok (i := .dup) (st' := [.ref 42, .ref 42]) (pe_d hx (show pm_fetch mk_136 30 = some (.dup, 1, 0, 0, 0) from rfl)) rfl ?_
    refine pe_getf hx (show pm_fetch mk_136 31 = some (.getfield 73, 3, 8, 12, 785) from rfl) (by decide) (h1 _) rfl ?_
    refine pm_op_ok (i := .iconst 1) (st' := [.int 1, .int a, .ref 42]) (pe_d hx (show pm_fetch mk_136 34 = some (.iconst 1, 1, 0, 0, 0) from rfl)) rfl ?_
    refine pm_op_ok (i := .iadd) (st' := [.int ((a) + (1)), .ref 42]) (pe_d hx (show pm_fetch mk_136 35 = some (.iadd, 1, 0, 0, 0) from rfl)) rfl ?_
    refine pe_putf2 hx (show pm_fetch mk_136 36 = some (.putfield 73, 3, 8, 12, 785) from rfl) (h1 _) (Nat.le_of_ble_eq_true rfl) (show pm_cl[8]? = some _ from rfl) rfl (s1 _ _) ?_
    refine pm_ld_ok (i := .aload_n 0) (x := 0) (k := 2) (n := 1) (v := .ref 42) (pe_d hx (show pm_fetch mk_136 39 = some (.aload_n 0, 1, 0, 0, 0) from rfl)) rfl rfl rfl ?_
    refine pm_ld_ok (i := .aload_n 0) (x := 0) (k := 2) (n := 1) (v := .ref 42) (pe_d hx (show pm_fetch mk_136 40 = some (.aload_n 0, 1, 0, 0, 0) from rfl)) rfl rfl rfl ?_
    refine pe_getf hx (show pm_fetch mk_136 41 = some (.getfield 73, 3, 8, 12, 785) from rfl) (by decide) (h1 _) rfl ?_
    refine pe_callV (y := (mm_134, 1, 0, mk_134)) (As := [.int (a + 1)]) (rest := []) (P1 := fun r w' => r = some (.int (pl_F ys sz (a + 1))) ∧ w' = (Wd (a + 1))) hx (show pm_fetch mk_136 44 = some (.invokevirtual 76, 3, 134, 0, 840) from rfl) rfl rfl rfl (fun v hv => by simp only [List.mem_cons, List.not_mem_nil, or_false] at hv; rcases hv with rfl <;> rfl) (h1 _) (show pm_cl[8]? = some _ from rfl) rfl (Nat.le_of_ble_eq_true rfl) (Nat.le_of_ble_eq_true rfl) (Nat.le_of_ble_eq_true rfl) (Nat.le_of_ble_eq_true rfl) (pl_134 (h1 _) (h2 _) hyl hsz hat1 ⟨rfl, rfl⟩) (fun r w' q => by rw [q.2]) (fun r w' q => ?_)
    obtain ⟨rfl, rfl⟩ := q
    show pm_Good sc mm_136 47 _ [.int (pl_F ys sz (a + 1))] (Wd (a + 1)) 0 0 P
    refine pe_callS (y := (mm_135, 1, 1, mk_135)) (As := [.int (pl_F ys sz (a + 1))]) (rest := []) (P1 := fun r w' => ∃ x, r = some (.int x) ∧ w' = (Wd (a + 1)) ∧ ((x = 1 ∧ (pl_fig (pl_F ys sz (a + 1)))) ∨ (x = 0 ∧ ¬ (pl_fig (pl_F ys sz (a + 1)))))) hx (show pm_fetch mk_136 47 = some (.invokestatic 80, 3, 135, 0, 844) from rfl) rfl rfl rfl (fun v hv => by simp only [List.mem_cons, List.not_mem_nil, or_false] at hv; rcases hv with rfl <;> rfl) (Nat.le_of_ble_eq_true rfl) (Nat.le_of_ble_eq_true rfl) (Nat.le_of_ble_eq_true rfl) (Nat.le_of_ble_eq_true rfl) (pl_135 (fun a => ⟨1, rfl, rfl, Or.inl ⟨rfl, a⟩⟩) (fun q => ⟨0, rfl, rfl, Or.inr ⟨rfl, q⟩⟩)) (fun r w' q => by obtain ⟨x, -, q, -⟩ := q; rw [q]) (fun r w' q => ?_)
    obtain ⟨x, rfl, rfl, hr⟩ := q
    rcases hr with ⟨rfl, hf2⟩ | ⟨rfl, hf2⟩
    · show pm_Good sc mm_136 50 _ [.int 1] (Wd (a + 1)) 0 0 P
      refine pm_br (c := .eq) (off := 32) (x := 1) (pe_d hx (show pm_fetch mk_136 50 = some (.ifCond .eq 32, 3, 0, 0, 0) from rfl)) (by decide) (fun q => absurd q (by decide)) (fun _ => ?_)
      show pm_Good sc mm_136 53 _ _ _ _ _ _
      refine pm_op_ok (i := .bipush 10) (st' := [.int 10]) (pe_d hx (show pm_fetch mk_136 53 = some (.bipush 10, 2, 0, 0, 0) from rfl)) rfl ?_
      refine pm_ld_ok (i := .iload 4) (x := 4) (k := 0) (n := 2) (v := .int ((pl_F ys sz (a)) - (48))) (pe_d hx (show pm_fetch mk_136 55 = some (.iload 4, 2, 0, 0, 0) from rfl)) rfl rfl rfl ?_
      refine pm_op_ok (i := .imul) (st' := [.int ((10) * ((pl_F ys sz (a)) - (48)))]) (pe_d hx (show pm_fetch mk_136 57 = some (.imul, 1, 0, 0, 0) from rfl)) rfl ?_
      refine pm_ld_ok (i := .aload_n 0) (x := 0) (k := 2) (n := 1) (v := .ref 42) (pe_d hx (show pm_fetch mk_136 58 = some (.aload_n 0, 1, 0, 0, 0) from rfl)) rfl rfl rfl ?_
      refine pm_ld_ok (i := .aload_n 0) (x := 0) (k := 2) (n := 1) (v := .ref 42) (pe_d hx (show pm_fetch mk_136 59 = some (.aload_n 0, 1, 0, 0, 0) from rfl)) rfl rfl rfl ?_
      refine pe_getf hx (show pm_fetch mk_136 60 = some (.getfield 73, 3, 8, 12, 785) from rfl) (by decide) (h1 _) rfl ?_
      refine pe_callV (y := (mm_134, 1, 0, mk_134)) (As := [.int (a + 1)]) (rest := [.int ((10) * ((pl_F ys sz (a)) - (48)))]) (P1 := fun r w' => r = some (.int (pl_F ys sz (a + 1))) ∧ w' = (Wd (a + 1))) hx (show pm_fetch mk_136 63 = some (.invokevirtual 76, 3, 134, 0, 840) from rfl) rfl rfl rfl (fun v hv => by simp only [List.mem_cons, List.not_mem_nil, or_false] at hv; rcases hv with rfl <;> rfl) (h1 _) (show pm_cl[8]? = some _ from rfl) rfl (Nat.le_of_ble_eq_true rfl) (Nat.le_of_ble_eq_true rfl) (Nat.le_of_ble_eq_true rfl) (Nat.le_of_ble_eq_true rfl) (pl_134 (h1 _) (h2 _) hyl hsz hat1 ⟨rfl, rfl⟩) (fun r w' q => by rw [q.2]) (fun r w' q => ?_)
      obtain ⟨rfl, rfl⟩ := q
      show pm_Good sc mm_136 66 _ [.int (pl_F ys sz (a + 1)), .int ((10) * ((pl_F ys sz (a)) - (48)))] (Wd (a + 1)) 0 0 P
      refine pm_op_ok (i := .iadd) (st' := [.int (((10) * ((pl_F ys sz (a)) - (48))) + (pl_F ys sz (a + 1)))]) (pe_d hx (show pm_fetch mk_136 66 = some (.iadd, 1, 0, 0, 0) from rfl)) rfl ?_
      refine pm_op_ok (i := .bipush 48) (st' := [.int 48, .int (((10) * ((pl_F ys sz (a)) - (48))) + (pl_F ys sz (a + 1)))]) (pe_d hx (show pm_fetch mk_136 67 = some (.bipush 48, 2, 0, 0, 0) from rfl)) rfl ?_
      refine pm_op_ok (i := .isub) (st' := [.int ((((10) * ((pl_F ys sz (a)) - (48))) + (pl_F ys sz (a + 1))) - (48))]) (pe_d hx (show pm_fetch mk_136 69 = some (.isub, 1, 0, 0, 0) from rfl)) rfl ?_
      refine pm_sto_ok (i := .istore 4) (x := 4) (k := 0) (n := 2) (pe_d hx (show pm_fetch mk_136 70 = some (.istore 4, 2, 0, 0, 0) from rfl)) rfl rfl (by decide) ?_
      refine pm_ld_ok (i := .aload_n 0) (x := 0) (k := 2) (n := 1) (v := .ref 42) (pe_d hx (show pm_fetch mk_136 72 = some (.aload_n 0, 1, 0, 0, 0) from rfl)) rfl rfl rfl ?_
      refine pm_op_ok (i := .dup) (st' := [.ref 42, .ref 42]) (pe_d hx (show pm_fetch mk_136 73 = some (.dup, 1, 0, 0, 0) from rfl)) rfl ?_
      refine pe_getf hx (show pm_fetch mk_136 74 = some (.getfield 73, 3, 8, 12, 785) from rfl) (by decide) (h1 _) rfl ?_
      refine pm_op_ok (i := .iconst 1) (st' := [.int 1, .int (a + 1), .ref 42]) (pe_d hx (show pm_fetch mk_136 77 = some (.iconst 1, 1, 0, 0, 0) from rfl)) rfl ?_
      refine pm_op_ok (i := .iadd) (st' := [.int ((a + 1) + (1)), .ref 42]) (pe_d hx (show pm_fetch mk_136 78 = some (.iadd, 1, 0, 0, 0) from rfl)) rfl ?_
      refine pe_putf2 hx (show pm_fetch mk_136 79 = some (.putfield 73, 3, 8, 12, 785) from rfl) (h1 _) (Nat.le_of_ble_eq_true rfl) (show pm_cl[8]? = some _ from rfl) rfl (s1 _ _) ?_
      refine pm_ld_ok (i := .aload_n 0) (x := 0) (k := 2) (n := 1) (v := .ref 42) (pe_d hx (show pm_fetch mk_136 82 = some (.aload_n 0, 1, 0, 0, 0) from rfl)) rfl rfl rfl ?_
      refine pm_ld_ok (i := .aload_n 0) (x := 0) (k := 2) (n := 1) (v := .ref 42) (pe_d hx (show pm_fetch mk_136 83 = some (.aload_n 0, 1, 0, 0, 0) from rfl)) rfl rfl rfl ?_
      refine pe_getf hx (show pm_fetch mk_136 84 = some (.getfield 73, 3, 8, 12, 785) from rfl) (by decide) (h1 _) rfl ?_
      refine pe_callV (y := (mm_134, 1, 0, mk_134)) (As := [.int (a + 1 + 1)]) (rest := []) (P1 := fun r w' => r = some (.int (pl_F ys sz (a + 1 + 1))) ∧ w' = (Wd (a + 1 + 1))) hx (show pm_fetch mk_136 87 = some (.invokevirtual 76, 3, 134, 0, 840) from rfl) rfl rfl rfl (fun v hv => by simp only [List.mem_cons, List.not_mem_nil, or_false] at hv; rcases hv with rfl <;> rfl) (h1 _) (show pm_cl[8]? = some _ from rfl) rfl (Nat.le_of_ble_eq_true rfl) (Nat.le_of_ble_eq_true rfl) (Nat.le_of_ble_eq_true rfl) (Nat.le_of_ble_eq_true rfl) (pl_134 (h1 _) (h2 _) hyl hsz hat2 ⟨rfl, rfl⟩) (fun r w' q => by rw [q.2]) (fun r w' q => ?_)
      obtain ⟨rfl, rfl⟩ := q
      show pm_Good sc mm_136 90 _ [.int (pl_F ys sz (a + 1 + 1))] (Wd (a + 1 + 1)) 0 0 P
      refine pm_ld_ok (i := .iload_n 3) (x := 3) (k := 0) (n := 1) (v := .int en) (pe_d hx (show pm_fetch mk_136 90 = some (.iload_n 3, 1, 0, 0, 0) from rfl)) rfl rfl rfl ?_
      refine pm_br2 (c := .ne) (off := 17) (x := pl_F ys sz (a + 1 + 1)) (y := en) (pe_d hx (show pm_fetch mk_136 91 = some (.if_icmp .ne 17, 3, 0, 0, 0) from rfl)) (by decide) (fun b1 => ?_) (fun b1 => ?_)
      · show pm_Good sc mm_136 108 _ _ _ _ _ _
        refine pm_op_ok (i := .iconst 0) (st' := [.int 0]) (pe_d hx (show pm_fetch mk_136 108 = some (.iconst 0, 1, 0, 0, 0) from rfl)) rfl ?_
        refine pm_sto_ok (i := .istore 5) (x := 5) (k := 0) (n := 2) (pe_d hx (show pm_fetch mk_136 109 = some (.istore 5, 2, 0, 0, 0) from rfl)) rfl rfl (by decide) ?_
        refine pm_ld_ok (i := .aload_n 0) (x := 0) (k := 2) (n := 1) (v := .ref 42) (pe_d hx (show pm_fetch mk_136 111 = some (.aload_n 0, 1, 0, 0, 0) from rfl)) rfl rfl rfl ?_
        refine pm_op_ok (i := .dup) (st' := [.ref 42, .ref 42]) (pe_d hx (show pm_fetch mk_136 112 = some (.dup, 1, 0, 0, 0) from rfl)) rfl ?_
        refine pe_getf hx (show pm_fetch mk_136 113 = some (.getfield 73, 3, 8, 12, 785) from rfl) (by decide) (h1 _) rfl ?_
        refine pm_op_ok (i := .iconst 1) (st' := [.int 1, .int (a + 1 + 1), .ref 42]) (pe_d hx (show pm_fetch mk_136 116 = some (.iconst 1, 1, 0, 0, 0) from rfl)) rfl ?_
        refine pm_op_ok (i := .iadd) (st' := [.int ((a + 1 + 1) + (1)), .ref 42]) (pe_d hx (show pm_fetch mk_136 117 = some (.iadd, 1, 0, 0, 0) from rfl)) rfl ?_
        refine pe_putf2 hx (show pm_fetch mk_136 118 = some (.putfield 73, 3, 8, 12, 785) from rfl) (h1 _) (Nat.le_of_ble_eq_true rfl) (show pm_cl[8]? = some _ from rfl) rfl (s1 _ _) ?_
        refine pm_ld_ok (i := .iload 5) (x := 5) (k := 0) (n := 2) (v := .int 0) (pe_d hx (show pm_fetch mk_136 121 = some (.iload 5, 2, 0, 0, 0) from rfl)) rfl rfl rfl ?_
        refine pm_br (c := .eq) (off := 8) (x := 0) (pe_d hx (show pm_fetch mk_136 123 = some (.ifCond .eq 8, 3, 0, 0, 0) from rfl)) (by decide) (fun _ => ?_) (fun q => absurd q (by decide))
        show pm_Good sc mm_136 131 _ _ _ _ _ _
        refine pm_op_ok (i := .iconst (-1)) (st' := [.int ((-1))]) (pe_d hx (show pm_fetch mk_136 131 = some (.iconst (-1), 1, 0, 0, 0) from rfl)) rfl ?_
        exact pm_iret (ty := .int) (pe_d hx (show pm_fetch mk_136 132 = some (.ireturn, 1, 0, 0, 0) from rfl)) rfl rfl (hP2n hf hf2 (fun q => by have q9 := pl_ct b1; simp only [pl_cp] at q9; exact q9 (by rw [q.1])))
      · show pm_Good sc mm_136 94 _ _ _ _ _ _
        refine pm_ld_ok (i := .iload 4) (x := 4) (k := 0) (n := 2) (v := .int ((((10) * ((pl_F ys sz (a)) - (48))) + (pl_F ys sz (a + 1))) - (48))) (pe_d hx (show pm_fetch mk_136 94 = some (.iload 4, 2, 0, 0, 0) from rfl)) rfl rfl rfl ?_
        refine pm_ld_ok (i := .iload_n 1) (x := 1) (k := 0) (n := 1) (v := .int lo) (pe_d hx (show pm_fetch mk_136 96 = some (.iload_n 1, 1, 0, 0, 0) from rfl)) rfl rfl rfl ?_
        refine pm_ld_ok (i := .iload_n 2) (x := 2) (k := 0) (n := 1) (v := .int hi) (pe_d hx (show pm_fetch mk_136 97 = some (.iload_n 2, 1, 0, 0, 0) from rfl)) rfl rfl rfl ?_
        refine pe_callS (y := (mm_108, 3, 1, mk_108)) (As := [.int ((((10) * ((pl_F ys sz (a)) - (48))) + (pl_F ys sz (a + 1))) - (48)), .int lo, .int hi]) (rest := []) (P1 := fun r w' => ∃ x, r = some (.int x) ∧ w' = (Wd (a + 1 + 1)) ∧ ((x = 1 ∧ (lo.toInt ≤ ((((10) * ((pl_F ys sz (a)) - (48))) + (pl_F ys sz (a + 1))) - (48)).toInt ∧ ((((10) * ((pl_F ys sz (a)) - (48))) + (pl_F ys sz (a + 1))) - (48)).toInt ≤ hi.toInt)) ∨ (x = 0 ∧ ¬ (lo.toInt ≤ ((((10) * ((pl_F ys sz (a)) - (48))) + (pl_F ys sz (a + 1))) - (48)).toInt ∧ ((((10) * ((pl_F ys sz (a)) - (48))) + (pl_F ys sz (a + 1))) - (48)).toInt ≤ hi.toInt)))) hx (show pm_fetch mk_136 98 = some (.invokestatic 55, 3, 108, 0, 752) from rfl) rfl rfl rfl (fun v hv => by simp only [List.mem_cons, List.not_mem_nil, or_false] at hv; rcases hv with rfl | rfl | rfl <;> rfl) (Nat.le_of_ble_eq_true rfl) (Nat.le_of_ble_eq_true rfl) (Nat.le_of_ble_eq_true rfl) (Nat.le_of_ble_eq_true rfl) (pl_108 (fun a b => ⟨1, rfl, rfl, Or.inl ⟨rfl, a, b⟩⟩) (fun q => ⟨0, rfl, rfl, Or.inr ⟨rfl, q⟩⟩)) (fun r w' q => by obtain ⟨x, -, q, -⟩ := q; rw [q]) (fun r w' q => ?_)
        obtain ⟨x, rfl, rfl, hr⟩ := q
        rcases hr with ⟨rfl, hin⟩ | ⟨rfl, hin⟩
        · show pm_Good sc mm_136 101 _ [.int 1] (Wd (a + 1 + 1)) 0 0 P
          refine pm_br (c := .eq) (off := 7) (x := 1) (pe_d hx (show pm_fetch mk_136 101 = some (.ifCond .eq 7, 3, 0, 0, 0) from rfl)) (by decide) (fun q => absurd q (by decide)) (fun _ => ?_)
          show pm_Good sc mm_136 104 _ _ _ _ _ _
          refine pm_op_ok (i := .iconst 1) (st' := [.int 1]) (pe_d hx (show pm_fetch mk_136 104 = some (.iconst 1, 1, 0, 0, 0) from rfl)) rfl ?_
          refine pm_goto (off := 4) (pe_d hx (show pm_fetch mk_136 105 = some (.goto 4, 3, 0, 0, 0) from rfl)) (by decide) ?_
          show pm_Good sc mm_136 109 _ _ _ _ _ _
          refine pm_sto_ok (i := .istore 5) (x := 5) (k := 0) (n := 2) (pe_d hx (show pm_fetch mk_136 109 = some (.istore 5, 2, 0, 0, 0) from rfl)) rfl rfl (by decide) ?_
          refine pm_ld_ok (i := .aload_n 0) (x := 0) (k := 2) (n := 1) (v := .ref 42) (pe_d hx (show pm_fetch mk_136 111 = some (.aload_n 0, 1, 0, 0, 0) from rfl)) rfl rfl rfl ?_
          refine pm_op_ok (i := .dup) (st' := [.ref 42, .ref 42]) (pe_d hx (show pm_fetch mk_136 112 = some (.dup, 1, 0, 0, 0) from rfl)) rfl ?_
          refine pe_getf hx (show pm_fetch mk_136 113 = some (.getfield 73, 3, 8, 12, 785) from rfl) (by decide) (h1 _) rfl ?_
          refine pm_op_ok (i := .iconst 1) (st' := [.int 1, .int (a + 1 + 1), .ref 42]) (pe_d hx (show pm_fetch mk_136 116 = some (.iconst 1, 1, 0, 0, 0) from rfl)) rfl ?_
          refine pm_op_ok (i := .iadd) (st' := [.int ((a + 1 + 1) + (1)), .ref 42]) (pe_d hx (show pm_fetch mk_136 117 = some (.iadd, 1, 0, 0, 0) from rfl)) rfl ?_
          refine pe_putf2 hx (show pm_fetch mk_136 118 = some (.putfield 73, 3, 8, 12, 785) from rfl) (h1 _) (Nat.le_of_ble_eq_true rfl) (show pm_cl[8]? = some _ from rfl) rfl (s1 _ _) ?_
          refine pm_ld_ok (i := .iload 5) (x := 5) (k := 0) (n := 2) (v := .int 1) (pe_d hx (show pm_fetch mk_136 121 = some (.iload 5, 2, 0, 0, 0) from rfl)) rfl rfl rfl ?_
          refine pm_br (c := .eq) (off := 8) (x := 1) (pe_d hx (show pm_fetch mk_136 123 = some (.ifCond .eq 8, 3, 0, 0, 0) from rfl)) (by decide) (fun q => absurd q (by decide)) (fun _ => ?_)
          show pm_Good sc mm_136 126 _ _ _ _ _ _
          refine pm_ld_ok (i := .iload 4) (x := 4) (k := 0) (n := 2) (v := .int ((((10) * ((pl_F ys sz (a)) - (48))) + (pl_F ys sz (a + 1))) - (48))) (pe_d hx (show pm_fetch mk_136 126 = some (.iload 4, 2, 0, 0, 0) from rfl)) rfl rfl rfl ?_
          refine pm_goto (off := 4) (pe_d hx (show pm_fetch mk_136 128 = some (.goto 4, 3, 0, 0, 0) from rfl)) (by decide) ?_
          show pm_Good sc mm_136 132 _ _ _ _ _ _
          exact pm_iret (ty := .int) (pe_d hx (show pm_fetch mk_136 132 = some (.ireturn, 1, 0, 0, 0) from rfl)) rfl rfl (hP2 hf hf2 (by have q9 := pl_cf b1; simp only [pl_cp, Decidable.not_not] at q9; exact ⟨Int32.toInt_inj.mp q9, hin⟩))
        · show pm_Good sc mm_136 101 _ [.int 0] (Wd (a + 1 + 1)) 0 0 P
          refine pm_br (c := .eq) (off := 7) (x := 0) (pe_d hx (show pm_fetch mk_136 101 = some (.ifCond .eq 7, 3, 0, 0, 0) from rfl)) (by decide) (fun _ => ?_) (fun q => absurd q (by decide))
          show pm_Good sc mm_136 108 _ _ _ _ _ _
          refine pm_op_ok (i := .iconst 0) (st' := [.int 0]) (pe_d hx (show pm_fetch mk_136 108 = some (.iconst 0, 1, 0, 0, 0) from rfl)) rfl ?_
          refine pm_sto_ok (i := .istore 5) (x := 5) (k := 0) (n := 2) (pe_d hx (show pm_fetch mk_136 109 = some (.istore 5, 2, 0, 0, 0) from rfl)) rfl rfl (by decide) ?_
          refine pm_ld_ok (i := .aload_n 0) (x := 0) (k := 2) (n := 1) (v := .ref 42) (pe_d hx (show pm_fetch mk_136 111 = some (.aload_n 0, 1, 0, 0, 0) from rfl)) rfl rfl rfl ?_
          refine pm_op_ok (i := .dup) (st' := [.ref 42, .ref 42]) (pe_d hx (show pm_fetch mk_136 112 = some (.dup, 1, 0, 0, 0) from rfl)) rfl ?_
          refine pe_getf hx (show pm_fetch mk_136 113 = some (.getfield 73, 3, 8, 12, 785) from rfl) (by decide) (h1 _) rfl ?_
          refine pm_op_ok (i := .iconst 1) (st' := [.int 1, .int (a + 1 + 1), .ref 42]) (pe_d hx (show pm_fetch mk_136 116 = some (.iconst 1, 1, 0, 0, 0) from rfl)) rfl ?_
          refine pm_op_ok (i := .iadd) (st' := [.int ((a + 1 + 1) + (1)), .ref 42]) (pe_d hx (show pm_fetch mk_136 117 = some (.iadd, 1, 0, 0, 0) from rfl)) rfl ?_
          refine pe_putf2 hx (show pm_fetch mk_136 118 = some (.putfield 73, 3, 8, 12, 785) from rfl) (h1 _) (Nat.le_of_ble_eq_true rfl) (show pm_cl[8]? = some _ from rfl) rfl (s1 _ _) ?_
          refine pm_ld_ok (i := .iload 5) (x := 5) (k := 0) (n := 2) (v := .int 0) (pe_d hx (show pm_fetch mk_136 121 = some (.iload 5, 2, 0, 0, 0) from rfl)) rfl rfl rfl ?_
          refine pm_br (c := .eq) (off := 8) (x := 0) (pe_d hx (show pm_fetch mk_136 123 = some (.ifCond .eq 8, 3, 0, 0, 0) from rfl)) (by decide) (fun _ => ?_) (fun q => absurd q (by decide))
          show pm_Good sc mm_136 131 _ _ _ _ _ _
          refine pm_op_ok (i := .iconst (-1)) (st' := [.int ((-1))]) (pe_d hx (show pm_fetch mk_136 131 = some (.iconst (-1), 1, 0, 0, 0) from rfl)) rfl ?_
          exact pm_iret (ty := .int) (pe_d hx (show pm_fetch mk_136 132 = some (.ireturn, 1, 0, 0, 0) from rfl)) rfl rfl (hP2n hf hf2 (fun q => hin q.2))
    · show pm_Good sc mm_136 50 _ [.int 0] (Wd (a + 1)) 0 0 P
      refine pm_br (c := .eq) (off := 32) (x := 0) (pe_d hx (show pm_fetch mk_136 50 = some (.ifCond .eq 32, 3, 0, 0, 0) from rfl)) (by decide) (fun _ => ?_) (fun q => absurd q (by decide))
      show pm_Good sc mm_136 82 _ _ _ _ _ _
      refine pm_ld_ok (i := .aload_n 0) (x := 0) (k := 2) (n := 1) (v := .ref 42) (pe_d hx (show pm_fetch mk_136 82 = some (.aload_n 0, 1, 0, 0, 0) from rfl)) rfl rfl rfl ?_
      refine pm_ld_ok (i := .aload_n 0) (x := 0) (k := 2) (n := 1) (v := .ref 42) (pe_d hx (show pm_fetch mk_136 83 = some (.aload_n 0, 1, 0, 0, 0) from rfl)) rfl rfl rfl ?_
      refine pe_getf hx (show pm_fetch mk_136 84 = some (.getfield 73, 3, 8, 12, 785) from rfl) (by decide) (h1 _) rfl ?_
      refine pe_callV (y := (mm_134, 1, 0, mk_134)) (As := [.int (a + 1)]) (rest := []) (P1 := fun r w' => r = some (.int (pl_F ys sz (a + 1))) ∧ w' = (Wd (a + 1))) hx (show pm_fetch mk_136 87 = some (.invokevirtual 76, 3, 134, 0, 840) from rfl) rfl rfl rfl (fun v hv => by simp only [List.mem_cons, List.not_mem_nil, or_false] at hv; rcases hv with rfl <;> rfl) (h1 _) (show pm_cl[8]? = some _ from rfl) rfl (Nat.le_of_ble_eq_true rfl) (Nat.le_of_ble_eq_true rfl) (Nat.le_of_ble_eq_true rfl) (Nat.le_of_ble_eq_true rfl) (pl_134 (h1 _) (h2 _) hyl hsz hat1 ⟨rfl, rfl⟩) (fun r w' q => by rw [q.2]) (fun r w' q => ?_)
      obtain ⟨rfl, rfl⟩ := q
      show pm_Good sc mm_136 90 _ [.int (pl_F ys sz (a + 1))] (Wd (a + 1)) 0 0 P
      refine pm_ld_ok (i := .iload_n 3) (x := 3) (k := 0) (n := 1) (v := .int en) (pe_d hx (show pm_fetch mk_136 90 = some (.iload_n 3, 1, 0, 0, 0) from rfl)) rfl rfl rfl ?_
      refine pm_br2 (c := .ne) (off := 17) (x := pl_F ys sz (a + 1)) (y := en) (pe_d hx (show pm_fetch mk_136 91 = some (.if_icmp .ne 17, 3, 0, 0, 0) from rfl)) (by decide) (fun b2 => ?_) (fun b2 => ?_)
      · show pm_Good sc mm_136 108 _ _ _ _ _ _
        refine pm_op_ok (i := .iconst 0) (st' := [.int 0]) (pe_d hx (show pm_fetch mk_136 108 = some (.iconst 0, 1, 0, 0, 0) from rfl)) rfl ?_
        refine pm_sto_ok (i := .istore 5) (x := 5) (k := 0) (n := 2) (pe_d hx (show pm_fetch mk_136 109 = some (.istore 5, 2, 0, 0, 0) from rfl)) rfl rfl (by decide) ?_
        refine pm_ld_ok (i := .aload_n 0) (x := 0) (k := 2) (n := 1) (v := .ref 42) (pe_d hx (show pm_fetch mk_136 111 = some (.aload_n 0, 1, 0, 0, 0) from rfl)) rfl rfl rfl ?_
        refine pm_op_ok (i := .dup) (st' := [.ref 42, .ref 42]) (pe_d hx (show pm_fetch mk_136 112 = some (.dup, 1, 0, 0, 0) from rfl)) rfl ?_
        refine pe_getf hx (show pm_fetch mk_136 113 = some (.getfield 73, 3, 8, 12, 785) from rfl) (by decide) (h1 _) rfl ?_
        refine pm_op_ok (i := .iconst 1) (st' := [.int 1, .int (a + 1), .ref 42]) (pe_d hx (show pm_fetch mk_136 116 = some (.iconst 1, 1, 0, 0, 0) from rfl)) rfl ?_
        refine pm_op_ok (i := .iadd) (st' := [.int ((a + 1) + (1)), .ref 42]) (pe_d hx (show pm_fetch mk_136 117 = some (.iadd, 1, 0, 0, 0) from rfl)) rfl ?_
        refine pe_putf2 hx (show pm_fetch mk_136 118 = some (.putfield 73, 3, 8, 12, 785) from rfl) (h1 _) (Nat.le_of_ble_eq_true rfl) (show pm_cl[8]? = some _ from rfl) rfl (s1 _ _) ?_
        refine pm_ld_ok (i := .iload 5) (x := 5) (k := 0) (n := 2) (v := .int 0) (pe_d hx (show pm_fetch mk_136 121 = some (.iload 5, 2, 0, 0, 0) from rfl)) rfl rfl rfl ?_
        refine pm_br (c := .eq) (off := 8) (x := 0) (pe_d hx (show pm_fetch mk_136 123 = some (.ifCond .eq 8, 3, 0, 0, 0) from rfl)) (by decide) (fun _ => ?_) (fun q => absurd q (by decide))
        show pm_Good sc mm_136 131 _ _ _ _ _ _
        refine pm_op_ok (i := .iconst (-1)) (st' := [.int ((-1))]) (pe_d hx (show pm_fetch mk_136 131 = some (.iconst (-1), 1, 0, 0, 0) from rfl)) rfl ?_
        exact pm_iret (ty := .int) (pe_d hx (show pm_fetch mk_136 132 = some (.ireturn, 1, 0, 0, 0) from rfl)) rfl rfl (hP1n hf hf2 (fun q => by have q9 := pl_ct b2; simp only [pl_cp] at q9; exact q9 (by rw [q.1])))
      · show pm_Good sc mm_136 94 _ _ _ _ _ _
        refine pm_ld_ok (i := .iload 4) (x := 4) (k := 0) (n := 2) (v := .int ((pl_F ys sz (a)) - (48))) (pe_d hx (show pm_fetch mk_136 94 = some (.iload 4, 2, 0, 0, 0) from rfl)) rfl rfl rfl ?_
        refine pm_ld_ok (i := .iload_n 1) (x := 1) (k := 0) (n := 1) (v := .int lo) (pe_d hx (show pm_fetch mk_136 96 = some (.iload_n 1, 1, 0, 0, 0) from rfl)) rfl rfl rfl ?_
        refine pm_ld_ok (i := .iload_n 2) (x := 2) (k := 0) (n := 1) (v := .int hi) (pe_d hx (show pm_fetch mk_136 97 = some (.iload_n 2, 1, 0, 0, 0) from rfl)) rfl rfl rfl ?_
        refine pe_callS (y := (mm_108, 3, 1, mk_108)) (As := [.int ((pl_F ys sz (a)) - (48)), .int lo, .int hi]) (rest := []) (P1 := fun r w' => ∃ x, r = some (.int x) ∧ w' = (Wd (a + 1)) ∧ ((x = 1 ∧ (lo.toInt ≤ ((pl_F ys sz (a)) - (48)).toInt ∧ ((pl_F ys sz (a)) - (48)).toInt ≤ hi.toInt)) ∨ (x = 0 ∧ ¬ (lo.toInt ≤ ((pl_F ys sz (a)) - (48)).toInt ∧ ((pl_F ys sz (a)) - (48)).toInt ≤ hi.toInt)))) hx (show pm_fetch mk_136 98 = some (.invokestatic 55, 3, 108, 0, 752) from rfl) rfl rfl rfl (fun v hv => by simp only [List.mem_cons, List.not_mem_nil, or_false] at hv; rcases hv with rfl | rfl | rfl <;> rfl) (Nat.le_of_ble_eq_true rfl) (Nat.le_of_ble_eq_true rfl) (Nat.le_of_ble_eq_true rfl) (Nat.le_of_ble_eq_true rfl) (pl_108 (fun a b => ⟨1, rfl, rfl, Or.inl ⟨rfl, a, b⟩⟩) (fun q => ⟨0, rfl, rfl, Or.inr ⟨rfl, q⟩⟩)) (fun r w' q => by obtain ⟨x, -, q, -⟩ := q; rw [q]) (fun r w' q => ?_)
        obtain ⟨x, rfl, rfl, hr⟩ := q
        rcases hr with ⟨rfl, hin⟩ | ⟨rfl, hin⟩
        · show pm_Good sc mm_136 101 _ [.int 1] (Wd (a + 1)) 0 0 P
          refine pm_br (c := .eq) (off := 7) (x := 1) (pe_d hx (show pm_fetch mk_136 101 = some (.ifCond .eq 7, 3, 0, 0, 0) from rfl)) (by decide) (fun q => absurd q (by decide)) (fun _ => ?_)
          show pm_Good sc mm_136 104 _ _ _ _ _ _
          refine pm_op_ok (i := .iconst 1) (st' := [.int 1]) (pe_d hx (show pm_fetch mk_136 104 = some (.iconst 1, 1, 0, 0, 0) from rfl)) rfl ?_
          refine pm_goto (off := 4) (pe_d hx (show pm_fetch mk_136 105 = some (.goto 4, 3, 0, 0, 0) from rfl)) (by decide) ?_
          show pm_Good sc mm_136 109 _ _ _ _ _ _
          refine pm_sto_ok (i := .istore 5) (x := 5) (k := 0) (n := 2) (pe_d hx (show pm_fetch mk_136 109 = some (.istore 5, 2, 0, 0, 0) from rfl)) rfl rfl (by decide) ?_
          refine pm_ld_ok (i := .aload_n 0) (x := 0) (k := 2) (n := 1) (v := .ref 42) (pe_d hx (show pm_fetch mk_136 111 = some (.aload_n 0, 1, 0, 0, 0) from rfl)) rfl rfl rfl ?_
          refine pm_op_ok (i := .dup) (st' := [.ref 42, .ref 42]) (pe_d hx (show pm_fetch mk_136 112 = some (.dup, 1, 0, 0, 0) from rfl)) rfl ?_
          refine pe_getf hx (show pm_fetch mk_136 113 = some (.getfield 73, 3, 8, 12, 785) from rfl) (by decide) (h1 _) rfl ?_
          refine pm_op_ok (i := .iconst 1) (st' := [.int 1, .int (a + 1), .ref 42]) (pe_d hx (show pm_fetch mk_136 116 = some (.iconst 1, 1, 0, 0, 0) from rfl)) rfl ?_
          refine pm_op_ok (i := .iadd) (st' := [.int ((a + 1) + (1)), .ref 42]) (pe_d hx (show pm_fetch mk_136 117 = some (.iadd, 1, 0, 0, 0) from rfl)) rfl ?_
          refine pe_putf2 hx (show pm_fetch mk_136 118 = some (.putfield 73, 3, 8, 12, 785) from rfl) (h1 _) (Nat.le_of_ble_eq_true rfl) (show pm_cl[8]? = some _ from rfl) rfl (s1 _ _) ?_
          refine pm_ld_ok (i := .iload 5) (x := 5) (k := 0) (n := 2) (v := .int 1) (pe_d hx (show pm_fetch mk_136 121 = some (.iload 5, 2, 0, 0, 0) from rfl)) rfl rfl rfl ?_
          refine pm_br (c := .eq) (off := 8) (x := 1) (pe_d hx (show pm_fetch mk_136 123 = some (.ifCond .eq 8, 3, 0, 0, 0) from rfl)) (by decide) (fun q => absurd q (by decide)) (fun _ => ?_)
          show pm_Good sc mm_136 126 _ _ _ _ _ _
          refine pm_ld_ok (i := .iload 4) (x := 4) (k := 0) (n := 2) (v := .int ((pl_F ys sz (a)) - (48))) (pe_d hx (show pm_fetch mk_136 126 = some (.iload 4, 2, 0, 0, 0) from rfl)) rfl rfl rfl ?_
          refine pm_goto (off := 4) (pe_d hx (show pm_fetch mk_136 128 = some (.goto 4, 3, 0, 0, 0) from rfl)) (by decide) ?_
          show pm_Good sc mm_136 132 _ _ _ _ _ _
          exact pm_iret (ty := .int) (pe_d hx (show pm_fetch mk_136 132 = some (.ireturn, 1, 0, 0, 0) from rfl)) rfl rfl (hP1 hf hf2 (by have q9 := pl_cf b2; simp only [pl_cp, Decidable.not_not] at q9; exact ⟨Int32.toInt_inj.mp q9, hin⟩))
        · show pm_Good sc mm_136 101 _ [.int 0] (Wd (a + 1)) 0 0 P
          refine pm_br (c := .eq) (off := 7) (x := 0) (pe_d hx (show pm_fetch mk_136 101 = some (.ifCond .eq 7, 3, 0, 0, 0) from rfl)) (by decide) (fun _ => ?_) (fun q => absurd q (by decide))
          show pm_Good sc mm_136 108 _ _ _ _ _ _
          refine pm_op_ok (i := .iconst 0) (st' := [.int 0]) (pe_d hx (show pm_fetch mk_136 108 = some (.iconst 0, 1, 0, 0, 0) from rfl)) rfl ?_
          refine pm_sto_ok (i := .istore 5) (x := 5) (k := 0) (n := 2) (pe_d hx (show pm_fetch mk_136 109 = some (.istore 5, 2, 0, 0, 0) from rfl)) rfl rfl (by decide) ?_
          refine pm_ld_ok (i := .aload_n 0) (x := 0) (k := 2) (n := 1) (v := .ref 42) (pe_d hx (show pm_fetch mk_136 111 = some (.aload_n 0, 1, 0, 0, 0) from rfl)) rfl rfl rfl ?_
          refine pm_op_ok (i := .dup) (st' := [.ref 42, .ref 42]) (pe_d hx (show pm_fetch mk_136 112 = some (.dup, 1, 0, 0, 0) from rfl)) rfl ?_
          refine pe_getf hx (show pm_fetch mk_136 113 = some (.getfield 73, 3, 8, 12, 785) from rfl) (by decide) (h1 _) rfl ?_
          refine pm_op_ok (i := .iconst 1) (st' := [.int 1, .int (a + 1), .ref 42]) (pe_d hx (show pm_fetch mk_136 116 = some (.iconst 1, 1, 0, 0, 0) from rfl)) rfl ?_
          refine pm_op_ok (i := .iadd) (st' := [.int ((a + 1) + (1)), .ref 42]) (pe_d hx (show pm_fetch mk_136 117 = some (.iadd, 1, 0, 0, 0) from rfl)) rfl ?_
          refine pe_putf2 hx (show pm_fetch mk_136 118 = some (.putfield 73, 3, 8, 12, 785) from rfl) (h1 _) (Nat.le_of_ble_eq_true rfl) (show pm_cl[8]? = some _ from rfl) rfl (s1 _ _) ?_
          refine pm_ld_ok (i := .iload 5) (x := 5) (k := 0) (n := 2) (v := .int 0) (pe_d hx (show pm_fetch mk_136 121 = some (.iload 5, 2, 0, 0, 0) from rfl)) rfl rfl rfl ?_
          refine pm_br (c := .eq) (off := 8) (x := 0) (pe_d hx (show pm_fetch mk_136 123 = some (.ifCond .eq 8, 3, 0, 0, 0) from rfl)) (by decide) (fun _ => ?_) (fun q => absurd q (by decide))
          show pm_Good sc mm_136 131 _ _ _ _ _ _
          refine pm_op_ok (i := .iconst (-1)) (st' := [.int ((-1))]) (pe_d hx (show pm_fetch mk_136 131 = some (.iconst (-1), 1, 0, 0, 0) from rfl)) rfl ?_
          exact pm_iret (ty := .int) (pe_d hx (show pm_fetch mk_136 132 = some (.ireturn, 1, 0, 0, 0) from rfl)) rfl rfl (hP1n hf hf2 (fun q => hin q.2))
  · show pm_Good sc mm_136 11 _ [.int 0] (Wd (a)) 0 0 P
    refine pm_br (c := .ne) (off := 5) (x := 0) (pe_d hx (show pm_fetch mk_136 11 = some (.ifCond .ne 5, 3, 0, 0, 0) from rfl)) (by decide) (fun q => absurd q (by decide)) (fun _ => ?_)
    show pm_Good sc mm_136 14 _ _ _ _ _ _
    refine pm_op_ok (i := .iconst (-1)) (st' := [.int ((-1))]) (pe_d hx (show pm_fetch mk_136 14 = some (.iconst (-1), 1, 0, 0, 0) from rfl)) rfl ?_
    exact pm_iret (ty := .int) (pe_d hx (show pm_fetch mk_136 15 = some (.ireturn, 1, 0, 0, 0) from rfl)) rfl rfl (hP0 hf)
end PL
