/-! write, of both -/
theorem pl_n32 : (32 : Int32).toInt = 32 := rfl
theorem pl_n126 : (126 : Int32).toInt = 126 := rfl
theorem pw_nar {x : Int32} (h : 0 ≤ x.toInt ∧ x.toInt ≤ 65535) : vp_nar .char x = x := by
  unfold vp_nar
  rw [pl_nc h]
section PW
variable {sc : pm_Z} {P : Option Value → pm_W → Prop}
theorem pe_cast2 {M : pm_M} {pc : Nat} {lv : pm_L} {st : List Value} {w w2 : pm_W} {ca sl : Nat} {q : Nat} {xs : List Int32} {i x : Int32} (hd : decode M.2.1 pc = .ok (.castore, 1)) (hw : w[q]? = some (.inl (1, xs))) (hi : vp_in i xs.length) (hx : 0 ≤ x.toInt ∧ x.toInt ≤ 65535) (hs : w.set q (.inl (1, xs.set i.toNatClampNeg x)) = w2) (h : pm_Good sc M (pc + 1) lv st w2 ca sl P) : pm_Good sc M pc lv (.int x :: .int i :: .ref q :: st) w ca sl P := by
  subst hs
  have := pm_cast (k := 0) (lv := lv) (st := st) (ca := ca) (sl := sl) (P := P) hd hw hi (x := x) (by rw [pw_nar hx]; exact h)
  exact this
theorem pw_14 {w : pm_W} {xs : List Int32} {s nx c : Int32} (h1 : w[1]? = some (.inr (5, [.ref 2, .ref 3, .int s, .int nx]))) (h2 : w[2]? = some (.inl (1, xs))) (hxl : xs.length = 200) (hs : 0 ≤ s.toInt ∧ s.toInt ≤ 200) (hc : 0 ≤ c.toInt ∧ c.toInt ≤ 65535) (hP0 : ¬ s.toInt < 200 → P (some (.int 0)) w) (hP1 : s.toInt < 200 → P (some (.int 1)) ((w.set 2 (.inl (1, xs.set s.toNatClampNeg c))).set 1 (.inr (5, [.ref 2, .ref 3, .int (s + 1), .int nx])))) : pm_GoodM sc mm_14 [.ref 1, .int c] w P := by
  have hx : pm_kb mm_14 mk_14 = true := (pm_mt_ok (j := 14) (x := (mm_14, 1, 0, mk_14)) rfl).2
  unfold pm_GoodM
  show pm_Good sc mm_14 0 [(0, .ref 1), (1, .int c)] [] w 0 0 P
  refine pm_ld_ok (i := .aload_n 0) (x := 0) (k := 2) (n := 1) (v := .ref 1) (pe_d hx (show pm_fetch mk_14 0 = some (.aload_n 0, 1, 0, 0, 0) from rfl)) rfl rfl rfl ?_
  refine pe_getf hx (show pm_fetch mk_14 1 = some (.getfield 19, 3, 5, 2, 79) from rfl) (by decide) h1 rfl ?_
  refine pm_br (c := .lt) (off := 15) (x := s) (pe_d hx (show pm_fetch mk_14 4 = some (.ifCond .lt 15, 3, 0, 0, 0) from rfl)) (by decide) (fun b1 => ?_) (fun b1 => ?_)
  · show pm_Good sc mm_14 19 _ _ _ _ _ _
    refine pm_op_ok (i := .iconst 0) (st' := [.int 0]) (pe_d hx (show pm_fetch mk_14 19 = some (.iconst 0, 1, 0, 0, 0) from rfl)) rfl ?_
    exact pm_iret (ty := .boolean) (pe_d hx (show pm_fetch mk_14 20 = some (.ireturn, 1, 0, 0, 0) from rfl)) rfl rfl (hP0 (by have q1 := pl_ct b1; simp only [pl_cp, pl_n0, pl_n32, pl_n126, pl_n200] at q1; omega))
  · show pm_Good sc mm_14 7 _ _ _ _ _ _
    refine pm_ld_ok (i := .aload_n 0) (x := 0) (k := 2) (n := 1) (v := .ref 1) (pe_d hx (show pm_fetch mk_14 7 = some (.aload_n 0, 1, 0, 0, 0) from rfl)) rfl rfl rfl ?_
    refine pe_getf hx (show pm_fetch mk_14 8 = some (.getfield 19, 3, 5, 2, 79) from rfl) (by decide) h1 rfl ?_
    refine pm_ld_ok (i := .aload_n 0) (x := 0) (k := 2) (n := 1) (v := .ref 1) (pe_d hx (show pm_fetch mk_14 11 = some (.aload_n 0, 1, 0, 0, 0) from rfl)) rfl rfl rfl ?_
    refine pe_getf hx (show pm_fetch mk_14 12 = some (.getfield 9, 3, 5, 0, 76) from rfl) (by decide) h1 rfl ?_
    refine pm_alen (pe_d hx (show pm_fetch mk_14 15 = some (.arraylength, 1, 0, 0, 0) from rfl)) h2 ?_
    refine pm_br2 (c := .lt) (off := 5) (x := s) (y := Int32.ofNat xs.length) (pe_d hx (show pm_fetch mk_14 16 = some (.if_icmp .lt 5, 3, 0, 0, 0) from rfl)) (by decide) (fun b2 => ?_) (fun b2 => ?_)
    · show pm_Good sc mm_14 21 _ _ _ _ _ _
      refine pm_ld_ok (i := .aload_n 0) (x := 0) (k := 2) (n := 1) (v := .ref 1) (pe_d hx (show pm_fetch mk_14 21 = some (.aload_n 0, 1, 0, 0, 0) from rfl)) rfl rfl rfl ?_
      refine pe_getf hx (show pm_fetch mk_14 22 = some (.getfield 9, 3, 5, 0, 76) from rfl) (by decide) h1 rfl ?_
      refine pm_ld_ok (i := .aload_n 0) (x := 0) (k := 2) (n := 1) (v := .ref 1) (pe_d hx (show pm_fetch mk_14 25 = some (.aload_n 0, 1, 0, 0, 0) from rfl)) rfl rfl rfl ?_
      refine pe_getf hx (show pm_fetch mk_14 26 = some (.getfield 19, 3, 5, 2, 79) from rfl) (by decide) h1 rfl ?_
      refine pm_ld_ok (i := .iload_n 1) (x := 1) (k := 0) (n := 1) (v := .int c) (pe_d hx (show pm_fetch mk_14 29 = some (.iload_n 1, 1, 0, 0, 0) from rfl)) rfl rfl rfl ?_
      refine pe_cast2 (pe_d hx (show pm_fetch mk_14 30 = some (.castore, 1, 0, 0, 0) from rfl)) h2 (pl_in (by omega) (by have q1 := pl_cf b1; have q2 := pl_ct b2; simp only [pl_cp, pl_n0, pl_n32, pl_n126, pl_n200] at q1 q2; rw [pl_len hxl] at q2; rw [hxl]; omega)) hc rfl ?_
      have h1b : (w.set 2 (.inl (1, xs.set s.toNatClampNeg c)))[1]? = some (.inr (5, [.ref 2, .ref 3, .int s, .int nx])) := by rw [List.getElem?_set_ne (by decide)]; exact h1
      refine pm_ld_ok (i := .aload_n 0) (x := 0) (k := 2) (n := 1) (v := .ref 1) (pe_d hx (show pm_fetch mk_14 31 = some (.aload_n 0, 1, 0, 0, 0) from rfl)) rfl rfl rfl ?_
      refine pm_op_ok (i := .dup) (st' := [.ref 1, .ref 1]) (pe_d hx (show pm_fetch mk_14 32 = some (.dup, 1, 0, 0, 0) from rfl)) rfl ?_
      refine pe_getf hx (show pm_fetch mk_14 33 = some (.getfield 19, 3, 5, 2, 79) from rfl) (by decide) h1b rfl ?_
      refine pm_op_ok (i := .iconst 1) (st' := [.int 1, .int s, .ref 1]) (pe_d hx (show pm_fetch mk_14 36 = some (.iconst 1, 1, 0, 0, 0) from rfl)) rfl ?_
      refine pm_op_ok (i := .iadd) (st' := [.int ((s) + (1)), .ref 1]) (pe_d hx (show pm_fetch mk_14 37 = some (.iadd, 1, 0, 0, 0) from rfl)) rfl ?_
      refine pe_putf2 hx (show pm_fetch mk_14 38 = some (.putfield 19, 3, 5, 2, 79) from rfl) h1b (Nat.le_of_ble_eq_true rfl) (show pm_cl[5]? = some _ from rfl) rfl rfl ?_
      refine pm_op_ok (i := .iconst 1) (st' := [.int 1]) (pe_d hx (show pm_fetch mk_14 41 = some (.iconst 1, 1, 0, 0, 0) from rfl)) rfl ?_
      exact pm_iret (ty := .boolean) (pe_d hx (show pm_fetch mk_14 42 = some (.ireturn, 1, 0, 0, 0) from rfl)) rfl rfl (hP1 (by have q1 := pl_cf b1; have q2 := pl_ct b2; simp only [pl_cp, pl_n0, pl_n32, pl_n126, pl_n200] at q1 q2; rw [pl_len hxl] at q2; omega))
    · show pm_Good sc mm_14 19 _ _ _ _ _ _
      refine pm_op_ok (i := .iconst 0) (st' := [.int 0]) (pe_d hx (show pm_fetch mk_14 19 = some (.iconst 0, 1, 0, 0, 0) from rfl)) rfl ?_
      exact pm_iret (ty := .boolean) (pe_d hx (show pm_fetch mk_14 20 = some (.ireturn, 1, 0, 0, 0) from rfl)) rfl rfl (hP0 (by have q1 := pl_cf b1; have q2 := pl_cf b2; simp only [pl_cp, pl_n0, pl_n32, pl_n126, pl_n200] at q1 q2; rw [pl_len hxl] at q2; omega))
theorem pw_107 {w : pm_W} {xs : List Int32} {s nx c : Int32} {fs : List Value} (h0 : w[0]? = some (.inr (7, fs))) (hf : fs[0]? = some (.ref 1)) (h1 : w[1]? = some (.inr (5, [.ref 2, .ref 3, .int s, .int nx]))) (h2 : w[2]? = some (.inl (1, xs))) (hxl : xs.length = 200) (hs : 0 ≤ s.toInt ∧ s.toInt ≤ 200) (hP0 : ¬ (32 ≤ c.toInt ∧ c.toInt ≤ 126 ∧ s.toInt < 200) → ∀ x, P (some (.int x)) w) (hP1 : 32 ≤ c.toInt ∧ c.toInt ≤ 126 ∧ s.toInt < 200 → ∀ x, P (some (.int x)) ((w.set 2 (.inl (1, xs.set s.toNatClampNeg c))).set 1 (.inr (5, [.ref 2, .ref 3, .int (s + 1), .int nx])))) : pm_GoodM sc mm_107 [.ref 0, .int c] w P := by
  have hx : pm_kb mm_107 mk_107 = true := (pm_mt_ok (j := 107) (x := (mm_107, 1, 0, mk_107)) rfl).2
  unfold pm_GoodM
  show pm_Good sc mm_107 0 [(0, .ref 0), (1, .int c)] [] w 0 0 P
  refine pm_ld_ok (i := .iload_n 1) (x := 1) (k := 0) (n := 1) (v := .int c) (pe_d hx (show pm_fetch mk_107 0 = some (.iload_n 1, 1, 0, 0, 0) from rfl)) rfl rfl rfl ?_
  refine pm_op_ok (i := .bipush 32) (st' := [.int 32, .int c]) (pe_d hx (show pm_fetch mk_107 1 = some (.bipush 32, 2, 0, 0, 0) from rfl)) rfl ?_
  refine pm_br2 (c := .lt) (off := 9) (x := c) (y := 32) (pe_d hx (show pm_fetch mk_107 3 = some (.if_icmp .lt 9, 3, 0, 0, 0) from rfl)) (by decide) (fun b1 => ?_) (fun b1 => ?_)
  · show pm_Good sc mm_107 12 _ _ _ _ _ _
    refine pm_op_ok (i := .iconst (-1)) (st' := [.int ((-1))]) (pe_d hx (show pm_fetch mk_107 12 = some (.iconst (-1), 1, 0, 0, 0) from rfl)) rfl ?_
    exact pm_iret (ty := .int) (pe_d hx (show pm_fetch mk_107 13 = some (.ireturn, 1, 0, 0, 0) from rfl)) rfl rfl (hP0 (by have q1 := pl_ct b1; simp only [pl_cp, pl_n0, pl_n32, pl_n126, pl_n200] at q1; omega) _)
  · show pm_Good sc mm_107 6 _ _ _ _ _ _
    refine pm_ld_ok (i := .iload_n 1) (x := 1) (k := 0) (n := 1) (v := .int c) (pe_d hx (show pm_fetch mk_107 6 = some (.iload_n 1, 1, 0, 0, 0) from rfl)) rfl rfl rfl ?_
    refine pm_op_ok (i := .bipush 126) (st' := [.int 126, .int c]) (pe_d hx (show pm_fetch mk_107 7 = some (.bipush 126, 2, 0, 0, 0) from rfl)) rfl ?_
    refine pm_br2 (c := .le) (off := 5) (x := c) (y := 126) (pe_d hx (show pm_fetch mk_107 9 = some (.if_icmp .le 5, 3, 0, 0, 0) from rfl)) (by decide) (fun b2 => ?_) (fun b2 => ?_)
    · show pm_Good sc mm_107 14 _ _ _ _ _ _
      refine pm_ld_ok (i := .aload_n 0) (x := 0) (k := 2) (n := 1) (v := .ref 0) (pe_d hx (show pm_fetch mk_107 14 = some (.aload_n 0, 1, 0, 0, 0) from rfl)) rfl rfl rfl ?_
      refine pe_getf hx (show pm_fetch mk_107 15 = some (.getfield 10, 3, 7, 0, 376) from rfl) (by decide) h0 hf ?_
      refine pm_ld_ok (i := .iload_n 1) (x := 1) (k := 0) (n := 1) (v := .int c) (pe_d hx (show pm_fetch mk_107 18 = some (.iload_n 1, 1, 0, 0, 0) from rfl)) rfl rfl rfl ?_
      refine pm_op_ok (i := .i2c) (st' := [.int c, .ref 1]) (pe_d hx (show pm_fetch mk_107 19 = some (.i2c, 1, 0, 0, 0) from rfl)) (by show some ((Value.int _ :: _) : List Value) = _; rw [sx_charS (by have q1 := pl_cf b1; have q2 := pl_ct b2; simp only [pl_cp, pl_n0, pl_n32, pl_n126, pl_n200] at q1 q2; omega) (by have q1 := pl_cf b1; have q2 := pl_ct b2; simp only [pl_cp, pl_n0, pl_n32, pl_n126, pl_n200] at q1 q2; omega)]) ?_
      refine pe_callV (y := (mm_14, 1, 0, mk_14)) (As := [.int c]) (rest := []) (P1 := fun r w' => (r = some (.int 0) ∧ w' = w ∧ ¬ s.toInt < 200) ∨ (r = some (.int 1) ∧ w' = ((w.set 2 (.inl (1, xs.set s.toNatClampNeg c))).set 1 (.inr (5, [.ref 2, .ref 3, .int (s + 1), .int nx]))) ∧ s.toInt < 200)) hx (show pm_fetch mk_107 20 = some (.invokevirtual 80, 3, 14, 0, 301) from rfl) rfl rfl rfl (fun v hv => by simp only [List.mem_cons, List.not_mem_nil, or_false] at hv; rcases hv with rfl <;> rfl) h1 (show pm_cl[5]? = some _ from rfl) rfl (Nat.le_of_ble_eq_true rfl) (Nat.le_of_ble_eq_true rfl) (Nat.le_of_ble_eq_true rfl) (Nat.le_of_ble_eq_true rfl) (pw_14 h1 h2 hxl hs (by have q1 := pl_cf b1; have q2 := pl_ct b2; simp only [pl_cp, pl_n0, pl_n32, pl_n126, pl_n200] at q1 q2; omega) (fun q => Or.inl ⟨rfl, rfl, q⟩) (fun q => Or.inr ⟨rfl, rfl, q⟩)) (fun r w' q => by rcases q with ⟨-, rfl, -⟩ | ⟨-, rfl, -⟩ <;> simp) (fun r w' q => ?_)
      rcases q with ⟨rfl, rfl, hn⟩ | ⟨rfl, rfl, hn⟩
      · show pm_Good sc mm_107 23 _ [.int 0] w' 0 0 P
        refine pm_br (c := .eq) (off := 13) (x := 0) (pe_d hx (show pm_fetch mk_107 23 = some (.ifCond .eq 13, 3, 0, 0, 0) from rfl)) (by decide) (fun _ => ?_) (fun q => absurd q (by decide))
        show pm_Good sc mm_107 36 _ _ _ _ _ _
        refine pm_op_ok (i := .bipush (-3)) (st' := [.int ((-3))]) (pe_d hx (show pm_fetch mk_107 36 = some (.bipush (-3), 2, 0, 0, 0) from rfl)) rfl ?_
        exact pm_iret (ty := .int) (pe_d hx (show pm_fetch mk_107 38 = some (.ireturn, 1, 0, 0, 0) from rfl)) rfl rfl (hP0 (fun q => hn q.2.2) _)
      · show pm_Good sc mm_107 23 _ [.int 1] ((w.set 2 (.inl (1, xs.set s.toNatClampNeg c))).set 1 (.inr (5, [.ref 2, .ref 3, .int (s + 1), .int nx]))) 0 0 P
        have h0b : ((w.set 2 (.inl (1, xs.set s.toNatClampNeg c))).set 1 (.inr (5, [.ref 2, .ref 3, .int (s + 1), .int nx])))[0]? = some (.inr (7, fs)) := by rw [List.getElem?_set_ne (by decide), List.getElem?_set_ne (by decide)]; exact h0
        have h1b : ((w.set 2 (.inl (1, xs.set s.toNatClampNeg c))).set 1 (.inr (5, [.ref 2, .ref 3, .int (s + 1), .int nx])))[1]? = some (.inr (5, [.ref 2, .ref 3, .int (s + 1), .int nx])) := List.getElem?_set_self (by rw [List.length_set]; exact (List.getElem?_eq_some_iff.mp h1).1)
        refine pm_br (c := .eq) (off := 13) (x := 1) (pe_d hx (show pm_fetch mk_107 23 = some (.ifCond .eq 13, 3, 0, 0, 0) from rfl)) (by decide) (fun q => absurd q (by decide)) (fun _ => ?_)
        show pm_Good sc mm_107 26 _ _ _ _ _ _
        refine pm_ld_ok (i := .aload_n 0) (x := 0) (k := 2) (n := 1) (v := .ref 0) (pe_d hx (show pm_fetch mk_107 26 = some (.aload_n 0, 1, 0, 0, 0) from rfl)) rfl rfl rfl ?_
        refine pe_getf hx (show pm_fetch mk_107 27 = some (.getfield 10, 3, 7, 0, 376) from rfl) (by decide) h0b hf ?_
        refine pe_getf hx (show pm_fetch mk_107 30 = some (.getfield 88, 3, 5, 2, 78) from rfl) (by decide) h1b rfl ?_
        refine pm_goto (off := 5) (pe_d hx (show pm_fetch mk_107 33 = some (.goto 5, 3, 0, 0, 0) from rfl)) (by decide) ?_
        show pm_Good sc mm_107 38 _ _ _ _ _ _
        exact pm_iret (ty := .int) (pe_d hx (show pm_fetch mk_107 38 = some (.ireturn, 1, 0, 0, 0) from rfl)) rfl rfl (hP1 (by have q1 := pl_cf b1; have q2 := pl_ct b2; simp only [pl_cp, pl_n0, pl_n32, pl_n126, pl_n200] at q1 q2; omega) _)
    · show pm_Good sc mm_107 12 _ _ _ _ _ _
      refine pm_op_ok (i := .iconst (-1)) (st' := [.int ((-1))]) (pe_d hx (show pm_fetch mk_107 12 = some (.iconst (-1), 1, 0, 0, 0) from rfl)) rfl ?_
      exact pm_iret (ty := .int) (pe_d hx (show pm_fetch mk_107 13 = some (.ireturn, 1, 0, 0, 0) from rfl)) rfl rfl (hP0 (by have q1 := pl_cf b1; have q2 := pl_cf b2; simp only [pl_cp, pl_n0, pl_n32, pl_n126, pl_n200] at q1 q2; omega) _)
theorem pw_169 {w : pm_W} {ys : List Int32} {s c : Int32} {m7 m9 m11 m12 : Value} (h1 : w[42]? = some (.inr (8, [.ref 43, .int s, .ref 44, .ref 45, .ref 46, .ref 47, .ref 48, m7, .ref 49, m9, .ref 50, m11, m12, .ref 51]))) (h2 : w[43]? = some (.inl (0, ys))) (hyl : ys.length = 200) (hs : 0 ≤ s.toInt ∧ s.toInt ≤ 200) (hP0 : ¬ (32 ≤ c.toInt ∧ c.toInt ≤ 126 ∧ s.toInt < 200) → ∀ x, P (some (.int x)) w) (hP1 : 32 ≤ c.toInt ∧ c.toInt ≤ 126 ∧ s.toInt < 200 → ∀ x, P (some (.int x)) ((w.set 43 (.inl (0, ys.set s.toNatClampNeg c))).set 42 (.inr (8, [.ref 43, .int (s + 1), .ref 44, .ref 45, .ref 46, .ref 47, .ref 48, m7, .ref 49, m9, .ref 50, m11, m12, .ref 51])))) : pm_GoodM sc mm_169 [.ref 42, .int c] w P := by
  have hx : pm_kb mm_169 mk_169 = true := (pm_mt_ok (j := 169) (x := (mm_169, 1, 0, mk_169)) rfl).2
  unfold pm_GoodM
  show pm_Good sc mm_169 0 [(0, .ref 42), (1, .int c)] [] w 0 0 P
  refine pm_ld_ok (i := .iload_n 1) (x := 1) (k := 0) (n := 1) (v := .int c) (pe_d hx (show pm_fetch mk_169 0 = some (.iload_n 1, 1, 0, 0, 0) from rfl)) rfl rfl rfl ?_
  refine pm_op_ok (i := .bipush 32) (st' := [.int 32, .int c]) (pe_d hx (show pm_fetch mk_169 1 = some (.bipush 32, 2, 0, 0, 0) from rfl)) rfl ?_
  refine pm_op_ok (i := .bipush 126) (st' := [.int 126, .int 32, .int c]) (pe_d hx (show pm_fetch mk_169 3 = some (.bipush 126, 2, 0, 0, 0) from rfl)) rfl ?_
  refine pe_callS (y := (mm_108, 3, 1, mk_108)) (As := [.int c, .int 32, .int 126]) (rest := []) (P1 := fun r w' => ∃ x, r = some (.int x) ∧ w' = w ∧ ((x = 1 ∧ ((32 : Int32).toInt ≤ c.toInt ∧ c.toInt ≤ (126 : Int32).toInt)) ∨ (x = 0 ∧ ¬ ((32 : Int32).toInt ≤ c.toInt ∧ c.toInt ≤ (126 : Int32).toInt)))) hx (show pm_fetch mk_169 5 = some (.invokestatic 55, 3, 108, 0, 752) from rfl) rfl rfl rfl (fun v hv => by simp only [List.mem_cons, List.not_mem_nil, or_false] at hv; rcases hv with rfl | rfl | rfl <;> rfl) (Nat.le_of_ble_eq_true rfl) (Nat.le_of_ble_eq_true rfl) (Nat.le_of_ble_eq_true rfl) (Nat.le_of_ble_eq_true rfl) (pl_108 (fun a b => ⟨1, rfl, rfl, Or.inl ⟨rfl, a, b⟩⟩) (fun q => ⟨0, rfl, rfl, Or.inr ⟨rfl, q⟩⟩)) (fun r w' q => by obtain ⟨x, -, q, -⟩ := q; rw [q]) (fun r w' q => ?_)
  obtain ⟨x, rfl, hww, hr⟩ := q
  rw [hww]
  rw [pl_n32, pl_n126] at hr
  rcases hr with ⟨rfl, hin⟩ | ⟨rfl, hin⟩
  · show pm_Good sc mm_169 8 _ [.int 1] w 0 0 P
    refine pm_br (c := .ne) (off := 5) (x := 1) (pe_d hx (show pm_fetch mk_169 8 = some (.ifCond .ne 5, 3, 0, 0, 0) from rfl)) (by decide) (fun _ => ?_) (fun q => absurd q (by decide))
    show pm_Good sc mm_169 13 _ _ _ _ _ _
    refine pm_ld_ok (i := .aload_n 0) (x := 0) (k := 2) (n := 1) (v := .ref 42) (pe_d hx (show pm_fetch mk_169 13 = some (.aload_n 0, 1, 0, 0, 0) from rfl)) rfl rfl rfl ?_
    refine pe_getf hx (show pm_fetch mk_169 14 = some (.getfield 69, 3, 8, 1, 774) from rfl) (by decide) h1 rfl ?_
    refine pm_op_ok (i := .sipush 200) (st' := [.int 200, .int s]) (pe_d hx (show pm_fetch mk_169 17 = some (.sipush 200, 3, 0, 0, 0) from rfl)) rfl ?_
    refine pm_br2 (c := .ne) (off := 6) (x := s) (y := 200) (pe_d hx (show pm_fetch mk_169 20 = some (.if_icmp .ne 6, 3, 0, 0, 0) from rfl)) (by decide) (fun b1 => ?_) (fun b1 => ?_)
    · show pm_Good sc mm_169 26 _ _ _ _ _ _
      refine pm_ld_ok (i := .aload_n 0) (x := 0) (k := 2) (n := 1) (v := .ref 42) (pe_d hx (show pm_fetch mk_169 26 = some (.aload_n 0, 1, 0, 0, 0) from rfl)) rfl rfl rfl ?_
      refine pe_getf hx (show pm_fetch mk_169 27 = some (.getfield 7, 3, 8, 0, 773) from rfl) (by decide) h1 rfl ?_
      refine pm_ld_ok (i := .aload_n 0) (x := 0) (k := 2) (n := 1) (v := .ref 42) (pe_d hx (show pm_fetch mk_169 30 = some (.aload_n 0, 1, 0, 0, 0) from rfl)) rfl rfl rfl ?_
      refine pe_getf hx (show pm_fetch mk_169 31 = some (.getfield 69, 3, 8, 1, 774) from rfl) (by decide) h1 rfl ?_
      refine pm_ld_ok (i := .iload_n 1) (x := 1) (k := 0) (n := 1) (v := .int c) (pe_d hx (show pm_fetch mk_169 34 = some (.iload_n 1, 1, 0, 0, 0) from rfl)) rfl rfl rfl ?_
      refine pe_iast2 (pe_d hx (show pm_fetch mk_169 35 = some (.iastore, 1, 0, 0, 0) from rfl)) h2 (pl_in hs.1 (by have q1 := pl_ct b1; simp only [pl_cp, pl_n0, pl_n32, pl_n126, pl_n200] at q1; rw [hyl]; omega)) rfl ?_
      have h1b : (w.set 43 (.inl (0, ys.set s.toNatClampNeg c)))[42]? = some (.inr (8, [.ref 43, .int s, .ref 44, .ref 45, .ref 46, .ref 47, .ref 48, m7, .ref 49, m9, .ref 50, m11, m12, .ref 51])) := by rw [List.getElem?_set_ne (by decide)]; exact h1
      refine pm_ld_ok (i := .aload_n 0) (x := 0) (k := 2) (n := 1) (v := .ref 42) (pe_d hx (show pm_fetch mk_169 36 = some (.aload_n 0, 1, 0, 0, 0) from rfl)) rfl rfl rfl ?_
      refine pm_op_ok (i := .dup) (st' := [.ref 42, .ref 42]) (pe_d hx (show pm_fetch mk_169 37 = some (.dup, 1, 0, 0, 0) from rfl)) rfl ?_
      refine pe_getf hx (show pm_fetch mk_169 38 = some (.getfield 69, 3, 8, 1, 774) from rfl) (by decide) h1b rfl ?_
      refine pm_op_ok (i := .iconst 1) (st' := [.int 1, .int s, .ref 42]) (pe_d hx (show pm_fetch mk_169 41 = some (.iconst 1, 1, 0, 0, 0) from rfl)) rfl ?_
      refine pm_op_ok (i := .iadd) (st' := [.int ((s) + (1)), .ref 42]) (pe_d hx (show pm_fetch mk_169 42 = some (.iadd, 1, 0, 0, 0) from rfl)) rfl ?_
      refine pe_putf2 hx (show pm_fetch mk_169 43 = some (.putfield 69, 3, 8, 1, 774) from rfl) h1b (Nat.le_of_ble_eq_true rfl) (show pm_cl[8]? = some _ from rfl) rfl rfl ?_
      have h1c : ((w.set 43 (.inl (0, ys.set s.toNatClampNeg c))).set 42 (.inr (8, [.ref 43, .int (s + 1), .ref 44, .ref 45, .ref 46, .ref 47, .ref 48, m7, .ref 49, m9, .ref 50, m11, m12, .ref 51])))[42]? = some (.inr (8, [.ref 43, .int (s + 1), .ref 44, .ref 45, .ref 46, .ref 47, .ref 48, m7, .ref 49, m9, .ref 50, m11, m12, .ref 51])) := List.getElem?_set_self (by rw [List.length_set]; exact (List.getElem?_eq_some_iff.mp h1).1)
      refine pm_ld_ok (i := .aload_n 0) (x := 0) (k := 2) (n := 1) (v := .ref 42) (pe_d hx (show pm_fetch mk_169 46 = some (.aload_n 0, 1, 0, 0, 0) from rfl)) rfl rfl rfl ?_
      refine pe_getf hx (show pm_fetch mk_169 47 = some (.getfield 69, 3, 8, 1, 774) from rfl) (by decide) h1c rfl ?_
      exact pm_iret (ty := .int) (pe_d hx (show pm_fetch mk_169 50 = some (.ireturn, 1, 0, 0, 0) from rfl)) rfl rfl (hP1 (by have q1 := pl_ct b1; simp only [pl_cp, pl_n0, pl_n32, pl_n126, pl_n200] at q1; omega) _)
    · show pm_Good sc mm_169 23 _ _ _ _ _ _
      refine pm_op_ok (i := .bipush (-3)) (st' := [.int ((-3))]) (pe_d hx (show pm_fetch mk_169 23 = some (.bipush (-3), 2, 0, 0, 0) from rfl)) rfl ?_
      exact pm_iret (ty := .int) (pe_d hx (show pm_fetch mk_169 25 = some (.ireturn, 1, 0, 0, 0) from rfl)) rfl rfl (hP0 (by have q1 := pl_cf b1; simp only [pl_cp, pl_n0, pl_n32, pl_n126, pl_n200] at q1; omega) _)
  · show pm_Good sc mm_169 8 _ [.int 0] w 0 0 P
    refine pm_br (c := .ne) (off := 5) (x := 0) (pe_d hx (show pm_fetch mk_169 8 = some (.ifCond .ne 5, 3, 0, 0, 0) from rfl)) (by decide) (fun q => absurd q (by decide)) (fun _ => ?_)
    show pm_Good sc mm_169 11 _ _ _ _ _ _
    refine pm_op_ok (i := .iconst (-1)) (st' := [.int ((-1))]) (pe_d hx (show pm_fetch mk_169 11 = some (.iconst (-1), 1, 0, 0, 0) from rfl)) rfl ?_
    exact pm_iret (ty := .int) (pe_d hx (show pm_fetch mk_169 12 = some (.ireturn, 1, 0, 0, 0) from rfl)) rfl rfl (hP0 (fun q => hin ⟨q.1, q.2.1⟩) _)
end PW
