/-! kind, of both -/
section PKD
variable {sc : pm_Z} {P : Option Value → pm_W → Prop}
theorem kd_m1 {a : Int32} (h : 0 ≤ a.toInt ∧ a.toInt ≤ 5) : (a - 1).toInt = a.toInt - 1 := by
  have e : (1 : Int32).toInt = 1 := rfl
  rw [sx_sub (by rw [e]; omega) (by rw [e]; omega), e]
def kd_in (i pers : Int32) : Prop := 0 ≤ i.toInt ∧ i.toInt < pers.toInt
theorem kd_21 {w : pm_W} {k lo hi : Int32} (hP1 : lo.toInt ≤ k.toInt → k.toInt ≤ hi.toInt → P (some (.int 1)) w) (hP0 : ¬ (lo.toInt ≤ k.toInt ∧ k.toInt ≤ hi.toInt) → P (some (.int 0)) w) : pm_GoodM sc mm_21 [.int k, .int lo, .int hi] w P := by
  have hx : pm_kb mm_21 mk_21 = true := (pm_mt_ok (j := 21) (x := (mm_21, 3, 1, mk_21)) rfl).2
  unfold pm_GoodM
  show pm_Good sc mm_21 0 [(0, .int k), (1, .int lo), (2, .int hi)] [] w 0 0 P
  refine pm_ld_ok (i := .iload_n 0) (x := 0) (k := 0) (n := 1) (v := .int k) (pe_d hx (show pm_fetch mk_21 0 = some (.iload_n 0, 1, 0, 0, 0) from rfl)) rfl rfl rfl ?_
  refine pm_ld_ok (i := .iload_n 1) (x := 1) (k := 0) (n := 1) (v := .int lo) (pe_d hx (show pm_fetch mk_21 1 = some (.iload_n 1, 1, 0, 0, 0) from rfl)) rfl rfl rfl ?_
  refine pm_br2 (c := .lt) (off := 12) (x := k) (y := lo) (pe_d hx (show pm_fetch mk_21 2 = some (.if_icmp .lt 12, 3, 0, 0, 0) from rfl)) (by decide) (fun b1 => ?_) (fun b1 => ?_)
  · show pm_Good sc mm_21 14 _ _ _ _ _ _
    refine pm_op_ok (i := .iconst 0) (st' := [.int 0]) (pe_d hx (show pm_fetch mk_21 14 = some (.iconst 0, 1, 0, 0, 0) from rfl)) rfl ?_
    exact pm_iret (ty := .boolean) (pe_d hx (show pm_fetch mk_21 15 = some (.ireturn, 1, 0, 0, 0) from rfl)) rfl rfl (by have q1 := pl_ct b1; simp only [pl_cp, pl_n0] at q1; exact hP0 (fun q => by have a := q.1; have b := q.2; omega))
  · show pm_Good sc mm_21 5 _ _ _ _ _ _
    refine pm_ld_ok (i := .iload_n 0) (x := 0) (k := 0) (n := 1) (v := .int k) (pe_d hx (show pm_fetch mk_21 5 = some (.iload_n 0, 1, 0, 0, 0) from rfl)) rfl rfl rfl ?_
    refine pm_ld_ok (i := .iload_n 2) (x := 2) (k := 0) (n := 1) (v := .int hi) (pe_d hx (show pm_fetch mk_21 6 = some (.iload_n 2, 1, 0, 0, 0) from rfl)) rfl rfl rfl ?_
    refine pm_br2 (c := .gt) (off := 7) (x := k) (y := hi) (pe_d hx (show pm_fetch mk_21 7 = some (.if_icmp .gt 7, 3, 0, 0, 0) from rfl)) (by decide) (fun b2 => ?_) (fun b2 => ?_)
    · show pm_Good sc mm_21 14 _ _ _ _ _ _
      refine pm_op_ok (i := .iconst 0) (st' := [.int 0]) (pe_d hx (show pm_fetch mk_21 14 = some (.iconst 0, 1, 0, 0, 0) from rfl)) rfl ?_
      exact pm_iret (ty := .boolean) (pe_d hx (show pm_fetch mk_21 15 = some (.ireturn, 1, 0, 0, 0) from rfl)) rfl rfl (by have q1 := pl_cf b1; have q2 := pl_ct b2; simp only [pl_cp, pl_n0] at q1 q2; exact hP0 (fun q => by have a := q.1; have b := q.2; omega))
    · show pm_Good sc mm_21 10 _ _ _ _ _ _
      refine pm_op_ok (i := .iconst 1) (st' := [.int 1]) (pe_d hx (show pm_fetch mk_21 10 = some (.iconst 1, 1, 0, 0, 0) from rfl)) rfl ?_
      refine pm_goto (off := 4) (pe_d hx (show pm_fetch mk_21 11 = some (.goto 4, 3, 0, 0, 0) from rfl)) (by decide) ?_
      show pm_Good sc mm_21 15 _ _ _ _ _ _
      exact pm_iret (ty := .boolean) (pe_d hx (show pm_fetch mk_21 15 = some (.ireturn, 1, 0, 0, 0) from rfl)) rfl rfl (by have q1 := pl_cf b1; have q2 := pl_cf b2; simp only [pl_cp, pl_n0] at q1 q2; exact hP1 (by omega) (by omega))
theorem kd_34 {w : pm_W} {tw tq : Nat} {fs ts : List Value} {ks : List Int32} {k pers : Int32} (h0 : w[0]? = some (.inr (7, fs))) (hf : fs[1]? = some (.ref tw)) (ht : w[tw]? = some (.inr (6, ts))) (ht0 : ts[0]? = some (.ref tq)) (ht4 : ts[4]? = some (.int pers)) (hk : w[tq]? = some (.inl (0, ks))) (hkl : ks.length = 5) (hp : 0 ≤ pers.toInt ∧ pers.toInt ≤ 5) (hP1 : kd_in k pers → P (some (.int 1)) w) (hP0 : ¬ kd_in k pers → P (some (.int 0)) w) : pm_GoodM sc mm_34 [.ref 0, .int k] w P := by
  have hx : pm_kb mm_34 mk_34 = true := (pm_mt_ok (j := 34) (x := (mm_34, 1, 0, mk_34)) rfl).2
  unfold pm_GoodM
  show pm_Good sc mm_34 0 [(0, .ref 0), (1, .int k)] [] w 0 0 P
  refine pm_ld_ok (i := .iload_n 1) (x := 1) (k := 0) (n := 1) (v := .int k) (pe_d hx (show pm_fetch mk_34 0 = some (.iload_n 1, 1, 0, 0, 0) from rfl)) rfl rfl rfl ?_
  refine pm_op_ok (i := .iconst 0) (st' := [.int 0, .int k]) (pe_d hx (show pm_fetch mk_34 1 = some (.iconst 0, 1, 0, 0, 0) from rfl)) rfl ?_
  refine pm_ld_ok (i := .aload_n 0) (x := 0) (k := 2) (n := 1) (v := .ref 0) (pe_d hx (show pm_fetch mk_34 2 = some (.aload_n 0, 1, 0, 0, 0) from rfl)) rfl rfl rfl ?_
  refine pe_getf hx (show pm_fetch mk_34 3 = some (.getfield 19, 3, 7, 1, 377) from rfl) (by decide) h0 hf ?_
  refine pe_getf hx (show pm_fetch mk_34 6 = some (.getfield 91, 3, 6, 4, 110) from rfl) (by decide) ht ht4 ?_
  refine pm_op_ok (i := .iconst 1) (st' := [.int 1, .int pers, .int 0, .int k]) (pe_d hx (show pm_fetch mk_34 9 = some (.iconst 1, 1, 0, 0, 0) from rfl)) rfl ?_
  refine pm_op_ok (i := .isub) (st' := [.int ((pers) - (1)), .int 0, .int k]) (pe_d hx (show pm_fetch mk_34 10 = some (.isub, 1, 0, 0, 0) from rfl)) rfl ?_
  refine pe_callS (y := (mm_21, 3, 1, mk_21)) (As := [.int k, .int 0, .int (pers - 1)]) (rest := []) (P1 := fun r w' => ∃ x, r = some (.int x) ∧ w' = w ∧ ((x = 1 ∧ (0 ≤ k.toInt ∧ k.toInt ≤ pers.toInt - 1)) ∨ (x = 0 ∧ ¬ (0 ≤ k.toInt ∧ k.toInt ≤ pers.toInt - 1)))) hx (show pm_fetch mk_34 11 = some (.invokestatic 106, 3, 21, 0, 356) from rfl) rfl rfl rfl (fun v hv => by simp only [List.mem_cons, List.not_mem_nil, or_false] at hv; rcases hv with rfl | rfl | rfl <;> rfl) (Nat.le_of_ble_eq_true rfl) (Nat.le_of_ble_eq_true rfl) (Nat.le_of_ble_eq_true rfl) (Nat.le_of_ble_eq_true rfl) (kd_21 (fun a b => ⟨1, rfl, rfl, Or.inl ⟨rfl, a, by rw [kd_m1 hp] at b; exact b⟩⟩) (fun q => ⟨0, rfl, rfl, Or.inr ⟨rfl, fun z => q ⟨z.1, by rw [kd_m1 hp]; exact z.2⟩⟩⟩)) (fun r w' q => by obtain ⟨x, -, rfl, -⟩ := q; rfl) (fun r w' q => ?_)
  obtain ⟨x, rfl, hww, hr⟩ := q
  rw [hww]
  show pm_Good sc mm_34 14 _ [.int x] w 0 0 P
  exact pm_iret (ty := .boolean) (pe_d hx (show pm_fetch mk_34 14 = some (.ireturn, 1, 0, 0, 0) from rfl)) rfl (by rcases hr with ⟨rfl, -⟩ | ⟨rfl, -⟩ <;> rfl) (by rcases hr with ⟨rfl, q⟩ | ⟨rfl, q⟩ <;> first | exact hP1 ⟨q.1, by have := q.2; omega⟩ | exact hP0 (fun z => q ⟨z.1, by have := z.2; omega⟩))
theorem kd_65 {w : pm_W} {tw tq : Nat} {fs ts : List Value} {ks : List Int32} {k pers : Int32} (h0 : w[0]? = some (.inr (7, fs))) (hf : fs[1]? = some (.ref tw)) (ht : w[tw]? = some (.inr (6, ts))) (ht0 : ts[0]? = some (.ref tq)) (ht4 : ts[4]? = some (.int pers)) (hk : w[tq]? = some (.inl (0, ks))) (hkl : ks.length = 5) (hp : 0 ≤ pers.toInt ∧ pers.toInt ≤ 5) (hP1 : kd_in k pers → P (some (.int (ks.getD k.toNatClampNeg 0))) w) (hP0 : ¬ kd_in k pers → P (some (.int (-1))) w) : pm_GoodM sc mm_65 [.ref 0, .int k] w P := by
  have hx : pm_kb mm_65 mk_65 = true := (pm_mt_ok (j := 65) (x := (mm_65, 1, 0, mk_65)) rfl).2
  unfold pm_GoodM
  show pm_Good sc mm_65 0 [(0, .ref 0), (1, .int k)] [] w 0 0 P
  refine pm_ld_ok (i := .aload_n 0) (x := 0) (k := 2) (n := 1) (v := .ref 0) (pe_d hx (show pm_fetch mk_65 0 = some (.aload_n 0, 1, 0, 0, 0) from rfl)) rfl rfl rfl ?_
  refine pm_ld_ok (i := .iload_n 1) (x := 1) (k := 0) (n := 1) (v := .int k) (pe_d hx (show pm_fetch mk_65 1 = some (.iload_n 1, 1, 0, 0, 0) from rfl)) rfl rfl rfl ?_
  refine pe_callV (y := (mm_34, 1, 0, mk_34)) (As := [.int k]) (rest := []) (P1 := fun r w' => ∃ x, r = some (.int x) ∧ w' = w ∧ ((x = 1 ∧ kd_in k pers) ∨ (x = 0 ∧ ¬ kd_in k pers))) hx (show pm_fetch mk_65 2 = some (.invokevirtual 99, 3, 34, 0, 433) from rfl) rfl rfl rfl (fun v hv => by simp only [List.mem_cons, List.not_mem_nil, or_false] at hv; rcases hv with rfl <;> rfl) h0 (show pm_cl[7]? = some _ from rfl) rfl (Nat.le_of_ble_eq_true rfl) (Nat.le_of_ble_eq_true rfl) (Nat.le_of_ble_eq_true rfl) (Nat.le_of_ble_eq_true rfl) (kd_34 h0 hf ht ht0 ht4 hk hkl hp (fun q => ⟨1, rfl, rfl, Or.inl ⟨rfl, q⟩⟩) (fun q => ⟨0, rfl, rfl, Or.inr ⟨rfl, q⟩⟩)) (fun r w' q => by obtain ⟨x, -, rfl, -⟩ := q; rfl) (fun r w' q => ?_)
  obtain ⟨x, rfl, hww, hr⟩ := q
  rw [hww]
  rcases hr with ⟨rfl, hin⟩ | ⟨rfl, hin⟩
  · show pm_Good sc mm_65 5 _ [.int 1] w 0 0 P
    refine pm_br (c := .eq) (off := 15) (x := 1) (pe_d hx (show pm_fetch mk_65 5 = some (.ifCond .eq 15, 3, 0, 0, 0) from rfl)) (by decide) (fun q => absurd q (by decide)) (fun _ => ?_)
    show pm_Good sc mm_65 8 _ _ _ _ _ _
    refine pm_ld_ok (i := .aload_n 0) (x := 0) (k := 2) (n := 1) (v := .ref 0) (pe_d hx (show pm_fetch mk_65 8 = some (.aload_n 0, 1, 0, 0, 0) from rfl)) rfl rfl rfl ?_
    refine pe_getf hx (show pm_fetch mk_65 9 = some (.getfield 19, 3, 7, 1, 377) from rfl) (by decide) h0 hf ?_
    refine pe_getf hx (show pm_fetch mk_65 12 = some (.getfield 127, 3, 6, 0, 99) from rfl) (by decide) ht ht0 ?_
    refine pm_ld_ok (i := .iload_n 1) (x := 1) (k := 0) (n := 1) (v := .int k) (pe_d hx (show pm_fetch mk_65 15 = some (.iload_n 1, 1, 0, 0, 0) from rfl)) rfl rfl rfl ?_
    refine pm_iald (pe_d hx (show pm_fetch mk_65 16 = some (.iaload, 1, 0, 0, 0) from rfl)) hk (by rw [hkl]; exact pl_in (by have := hin.1; omega) (by have := hin.2; omega)) ?_
    refine pm_goto (off := 4) (pe_d hx (show pm_fetch mk_65 17 = some (.goto 4, 3, 0, 0, 0) from rfl)) (by decide) ?_
    show pm_Good sc mm_65 21 _ _ _ _ _ _
    exact pm_iret (ty := .int) (pe_d hx (show pm_fetch mk_65 21 = some (.ireturn, 1, 0, 0, 0) from rfl)) rfl rfl (hP1 hin)
  · show pm_Good sc mm_65 5 _ [.int 0] w 0 0 P
    refine pm_br (c := .eq) (off := 15) (x := 0) (pe_d hx (show pm_fetch mk_65 5 = some (.ifCond .eq 15, 3, 0, 0, 0) from rfl)) (by decide) (fun _ => ?_) (fun q => absurd q (by decide))
    show pm_Good sc mm_65 20 _ _ _ _ _ _
    refine pm_op_ok (i := .iconst (-1)) (st' := [.int ((-1))]) (pe_d hx (show pm_fetch mk_65 20 = some (.iconst (-1), 1, 0, 0, 0) from rfl)) rfl ?_
    exact pm_iret (ty := .int) (pe_d hx (show pm_fetch mk_65 21 = some (.ireturn, 1, 0, 0, 0) from rfl)) rfl rfl (hP0 hin)
theorem kd_116 {w : pm_W} {fs : List Value} {ks : List Int32} {k pers : Int32} (h0 : w[42]? = some (.inr (8, fs))) (hf : fs[2]? = some (.ref 44)) (hk : w[44]? = some (.inl (0, ks))) (hkl : ks.length = 50) (hk0 : ks.getD 0 0 = pers) (hp : 0 ≤ pers.toInt ∧ pers.toInt ≤ 5) (hP1 : kd_in k pers → P (some (.int 1)) w) (hP0 : ¬ kd_in k pers → P (some (.int 0)) w) : pm_GoodM sc mm_116 [.ref 42, .int k] w P := by
  have hx : pm_kb mm_116 mk_116 = true := (pm_mt_ok (j := 116) (x := (mm_116, 1, 0, mk_116)) rfl).2
  unfold pm_GoodM
  show pm_Good sc mm_116 0 [(0, .ref 42), (1, .int k)] [] w 0 0 P
  refine pm_ld_ok (i := .iload_n 1) (x := 1) (k := 0) (n := 1) (v := .int k) (pe_d hx (show pm_fetch mk_116 0 = some (.iload_n 1, 1, 0, 0, 0) from rfl)) rfl rfl rfl ?_
  refine pm_op_ok (i := .iconst 0) (st' := [.int 0, .int k]) (pe_d hx (show pm_fetch mk_116 1 = some (.iconst 0, 1, 0, 0, 0) from rfl)) rfl ?_
  refine pm_ld_ok (i := .aload_n 0) (x := 0) (k := 2) (n := 1) (v := .ref 42) (pe_d hx (show pm_fetch mk_116 2 = some (.aload_n 0, 1, 0, 0, 0) from rfl)) rfl rfl rfl ?_
  refine pe_getf hx (show pm_fetch mk_116 3 = some (.getfield 13, 3, 8, 2, 775) from rfl) (by decide) h0 hf ?_
  refine pm_op_ok (i := .iconst 0) (st' := [.int 0, .ref 44, .int 0, .int k]) (pe_d hx (show pm_fetch mk_116 6 = some (.iconst 0, 1, 0, 0, 0) from rfl)) rfl ?_
  refine pm_iald (pe_d hx (show pm_fetch mk_116 7 = some (.iaload, 1, 0, 0, 0) from rfl)) hk (by rw [hkl]; exact pl_in (by decide) (by decide)) ?_
  show pm_Good sc mm_116 8 _ (.int (ks.getD 0 0) :: _) w 0 0 P
  rw [hk0]
  refine pm_op_ok (i := .iconst 1) (st' := [.int 1, .int pers, .int 0, .int k]) (pe_d hx (show pm_fetch mk_116 8 = some (.iconst 1, 1, 0, 0, 0) from rfl)) rfl ?_
  refine pm_op_ok (i := .isub) (st' := [.int ((pers) - (1)), .int 0, .int k]) (pe_d hx (show pm_fetch mk_116 9 = some (.isub, 1, 0, 0, 0) from rfl)) rfl ?_
  refine pe_callS (y := (mm_108, 3, 1, mk_108)) (As := [.int k, .int 0, .int (pers - 1)]) (rest := []) (P1 := fun r w' => ∃ x, r = some (.int x) ∧ w' = w ∧ ((x = 1 ∧ (0 ≤ k.toInt ∧ k.toInt ≤ pers.toInt - 1)) ∨ (x = 0 ∧ ¬ (0 ≤ k.toInt ∧ k.toInt ≤ pers.toInt - 1)))) hx (show pm_fetch mk_116 10 = some (.invokestatic 55, 3, 108, 0, 752) from rfl) rfl rfl rfl (fun v hv => by simp only [List.mem_cons, List.not_mem_nil, or_false] at hv; rcases hv with rfl | rfl | rfl <;> rfl) (Nat.le_of_ble_eq_true rfl) (Nat.le_of_ble_eq_true rfl) (Nat.le_of_ble_eq_true rfl) (Nat.le_of_ble_eq_true rfl) (pl_108 (fun a b => ⟨1, rfl, rfl, Or.inl ⟨rfl, a, by rw [kd_m1 hp] at b; exact b⟩⟩) (fun q => ⟨0, rfl, rfl, Or.inr ⟨rfl, fun z => q ⟨z.1, by rw [kd_m1 hp]; exact z.2⟩⟩⟩)) (fun r w' q => by obtain ⟨x, -, rfl, -⟩ := q; rfl) (fun r w' q => ?_)
  obtain ⟨x, rfl, hww, hr⟩ := q
  rw [hww]
  show pm_Good sc mm_116 13 _ [.int x] w 0 0 P
  exact pm_iret (ty := .boolean) (pe_d hx (show pm_fetch mk_116 13 = some (.ireturn, 1, 0, 0, 0) from rfl)) rfl (by rcases hr with ⟨rfl, -⟩ | ⟨rfl, -⟩ <;> rfl) (by rcases hr with ⟨rfl, q⟩ | ⟨rfl, q⟩ <;> first | exact hP1 ⟨q.1, by have := q.2; omega⟩ | exact hP0 (fun z => q ⟨z.1, by have := z.2; omega⟩))
theorem kd_5 {k : Int32} (h : 0 ≤ k.toInt ∧ k.toInt ≤ 5) : (5 + k).toInt = 5 + k.toInt := by
  have e : (5 : Int32).toInt = 5 := rfl
  rw [sx_add (by rw [e]; omega) (by rw [e]; omega), e]
theorem kd_148 {w : pm_W} {fs : List Value} {ks : List Int32} {k pers : Int32} (h0 : w[42]? = some (.inr (8, fs))) (hf : fs[2]? = some (.ref 44)) (hk : w[44]? = some (.inl (0, ks))) (hkl : ks.length = 50) (hk0 : ks.getD 0 0 = pers) (hp : 0 ≤ pers.toInt ∧ pers.toInt ≤ 5) (hP1 : kd_in k pers → P (some (.int (ks.getD (5 + k).toNatClampNeg 0))) w) (hP0 : ¬ kd_in k pers → P (some (.int (-1))) w) : pm_GoodM sc mm_148 [.ref 42, .int k] w P := by
  have hx : pm_kb mm_148 mk_148 = true := (pm_mt_ok (j := 148) (x := (mm_148, 1, 0, mk_148)) rfl).2
  unfold pm_GoodM
  show pm_Good sc mm_148 0 [(0, .ref 42), (1, .int k)] [] w 0 0 P
  refine pm_ld_ok (i := .aload_n 0) (x := 0) (k := 2) (n := 1) (v := .ref 42) (pe_d hx (show pm_fetch mk_148 0 = some (.aload_n 0, 1, 0, 0, 0) from rfl)) rfl rfl rfl ?_
  refine pm_ld_ok (i := .iload_n 1) (x := 1) (k := 0) (n := 1) (v := .int k) (pe_d hx (show pm_fetch mk_148 1 = some (.iload_n 1, 1, 0, 0, 0) from rfl)) rfl rfl rfl ?_
  refine pe_callV (y := (mm_116, 1, 0, mk_116)) (As := [.int k]) (rest := []) (P1 := fun r w' => ∃ x, r = some (.int x) ∧ w' = w ∧ ((x = 1 ∧ kd_in k pers) ∨ (x = 0 ∧ ¬ kd_in k pers))) hx (show pm_fetch mk_148 2 = some (.invokevirtual 59, 3, 116, 0, 863) from rfl) rfl rfl rfl (fun v hv => by simp only [List.mem_cons, List.not_mem_nil, or_false] at hv; rcases hv with rfl <;> rfl) h0 (show pm_cl[8]? = some _ from rfl) rfl (Nat.le_of_ble_eq_true rfl) (Nat.le_of_ble_eq_true rfl) (Nat.le_of_ble_eq_true rfl) (Nat.le_of_ble_eq_true rfl) (kd_116 h0 hf hk hkl hk0 hp (fun q => ⟨1, rfl, rfl, Or.inl ⟨rfl, q⟩⟩) (fun q => ⟨0, rfl, rfl, Or.inr ⟨rfl, q⟩⟩)) (fun r w' q => by obtain ⟨x, -, rfl, -⟩ := q; rfl) (fun r w' q => ?_)
  obtain ⟨x, rfl, hww, hr⟩ := q
  rw [hww]
  rcases hr with ⟨rfl, hin⟩ | ⟨rfl, hin⟩
  · show pm_Good sc mm_148 5 _ [.int 1] w 0 0 P
    refine pm_br (c := .eq) (off := 14) (x := 1) (pe_d hx (show pm_fetch mk_148 5 = some (.ifCond .eq 14, 3, 0, 0, 0) from rfl)) (by decide) (fun q => absurd q (by decide)) (fun _ => ?_)
    show pm_Good sc mm_148 8 _ _ _ _ _ _
    refine pm_ld_ok (i := .aload_n 0) (x := 0) (k := 2) (n := 1) (v := .ref 42) (pe_d hx (show pm_fetch mk_148 8 = some (.aload_n 0, 1, 0, 0, 0) from rfl)) rfl rfl rfl ?_
    refine pe_getf hx (show pm_fetch mk_148 9 = some (.getfield 13, 3, 8, 2, 775) from rfl) (by decide) h0 hf ?_
    refine pm_op_ok (i := .iconst 5) (st' := [.int 5, .ref 44]) (pe_d hx (show pm_fetch mk_148 12 = some (.iconst 5, 1, 0, 0, 0) from rfl)) rfl ?_
    refine pm_ld_ok (i := .iload_n 1) (x := 1) (k := 0) (n := 1) (v := .int k) (pe_d hx (show pm_fetch mk_148 13 = some (.iload_n 1, 1, 0, 0, 0) from rfl)) rfl rfl rfl ?_
    refine pm_op_ok (i := .iadd) (st' := [.int (5 + k), .ref 44]) (pe_d hx (show pm_fetch mk_148 14 = some (.iadd, 1, 0, 0, 0) from rfl)) rfl ?_
    refine pm_iald (pe_d hx (show pm_fetch mk_148 15 = some (.iaload, 1, 0, 0, 0) from rfl)) hk (by rw [hkl]; exact pl_in (by have := hin.1; have := hin.2; have := kd_5 (k := k) (by have := hin.1; have := hin.2; omega); omega) (by have := hin.1; have := hin.2; have := kd_5 (k := k) (by have := hin.1; have := hin.2; omega); omega)) ?_
    refine pm_goto (off := 4) (pe_d hx (show pm_fetch mk_148 16 = some (.goto 4, 3, 0, 0, 0) from rfl)) (by decide) ?_
    show pm_Good sc mm_148 20 _ _ _ _ _ _
    exact pm_iret (ty := .int) (pe_d hx (show pm_fetch mk_148 20 = some (.ireturn, 1, 0, 0, 0) from rfl)) rfl rfl (hP1 hin)
  · show pm_Good sc mm_148 5 _ [.int 0] w 0 0 P
    refine pm_br (c := .eq) (off := 14) (x := 0) (pe_d hx (show pm_fetch mk_148 5 = some (.ifCond .eq 14, 3, 0, 0, 0) from rfl)) (by decide) (fun _ => ?_) (fun q => absurd q (by decide))
    show pm_Good sc mm_148 19 _ _ _ _ _ _
    refine pm_op_ok (i := .iconst (-1)) (st' := [.int ((-1))]) (pe_d hx (show pm_fetch mk_148 19 = some (.iconst (-1), 1, 0, 0, 0) from rfl)) rfl ?_
    exact pm_iret (ty := .int) (pe_d hx (show pm_fetch mk_148 20 = some (.ireturn, 1, 0, 0, 0) from rfl)) rfl rfl (hP0 hin)
end PKD
