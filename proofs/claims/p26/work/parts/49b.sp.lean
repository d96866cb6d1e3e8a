/-! stamp, of both sides -/
section PSP
variable {sc : pm_Z} {P : Option Value → pm_W → Prop}
theorem sp_lt {M : pm_M} {pc : Nat} {lv : pm_L} {st : List Value} {w : pm_W} {ca sl : Nat} {off : Int} {n k : Nat} (hd : decode M.2.1 pc = .ok (.if_icmp .lt off, 3)) (ho : 0 ≤ (pc : Int) + off) (hn : n < 1000) (hk : k < 1000) (ht : n < k → pm_Good sc M (pm_to pc off) lv st w ca sl P) (hf : k ≤ n → pm_Good sc M (pc + 3) lv st w ca sl P) : pm_Good sc M pc lv (.int (Int32.ofNat k) :: .int (Int32.ofNat n) :: st) w ca sl P := by
  refine pm_br2 hd ho (fun b => ht ?_) (fun b => hf ?_)
  · have q := pl_ct b
    simp only [pl_cp, wy_t hn, wy_t hk] at q
    omega
  · have q := pl_cf b
    simp only [pl_cp, wy_t hn, wy_t hk] at q
    omega
theorem sp_st {M : pm_M} {pc : Nat} {lv : pm_L} {st : List Value} {w w2 : pm_W} {ca sl : Nat} {q k : Nat} {x : Int32} {xs : List Int32} (hd : decode M.2.1 pc = .ok (.iastore, 1)) (hw : w[q]? = some (.inl (0, xs))) (hk : k < xs.length) (hb : k < 1000) (hs : w.set q (.inl (0, xs.set k x)) = w2) (h : pm_Good sc M (pc + 1) lv st w2 ca sl P) : pm_Good sc M pc lv (.int x :: .int (Int32.ofNat k) :: .ref q :: st) w ca sl P := by
  refine pm_iast hd hw (pl_in (by rw [wy_t hb]; omega) (by rw [wy_t hb]; omega)) ?_
  rw [Int32.toNatClampNeg_ofNat_of_lt (by omega), hs]
  exact h
def sp_ok (k l n : Int32) (sz : Nat) : Prop := (0 ≤ k.toInt ∧ k.toInt ≤ 3) ∧ (0 ≤ l.toInt ∧ l.toInt ≤ 5) ∧ (0 ≤ n.toInt ∧ n.toInt ≤ 5) ∧ sz < 6
def sp_W (w : pm_W) (Hs Ps Ks : List Int32) (sz : Nat) (k l n : Int32) : pm_W := (((w.set 23 (.inl (0, Hs.set sz k))).set 24 (.inl (0, Ps.set sz l))).set 25 (.inl (0, Ks.set sz n))).set 22 (.inr (4, [.ref 23, .ref 24, .ref 25, .int (Int32.ofNat (sz + 1))]))
def sp_V (w : pm_W) (fm : List Value) (sts : List Int32) (sz : Nat) (v : Int32) : pm_W := (w.set 50 (.inl (0, sts.set sz v))).set 42 (.inr (8, fm.set 11 (.int (Int32.ofNat (sz + 1)))))
theorem sp_93 {w : pm_W} {Hs Ps Ks : List Int32} {sz : Nat} {k l n : Int32} (hs : w[22]? = some (.inr (4, [.ref 23, .ref 24, .ref 25, .int (Int32.ofNat sz)]))) (hH : w[23]? = some (.inl (0, Hs))) (hHl : Hs.length = 6) (hP : w[24]? = some (.inl (0, Ps))) (hPl : Ps.length = 6) (hK : w[25]? = some (.inl (0, Ks))) (hKl : Ks.length = 6) (hsz : sz ≤ 6) : pm_GoodM sc mm_93 [.ref 22, .int k, .int l, .int n] w (fun r w1 => (sz < 6 ∧ r = some (.int (wy_i true)) ∧ w1 = sp_W w Hs Ps Ks sz k l n) ∨ (¬ sz < 6 ∧ r = some (.int (wy_i false)) ∧ w1 = w)) := by
  have hx : pm_kb mm_93 mk_93 = true := (pm_mt_ok (j := 93) (x := (mm_93, 3, 0, mk_93)) rfl).2
  have hlen : 25 < w.length := (List.getElem?_eq_some_iff.mp hK).1
  unfold pm_GoodM
  show pm_Good sc mm_93 0 [(0, .ref 22), (1, .int k), (2, .int l), (3, .int n)] [] w 0 0 _
  refine pm_ld_ok (i := .aload_n 0) (x := 0) (k := 2) (n := 1) (v := .ref 22) (pe_d hx (show pm_fetch mk_93 0 = some (.aload_n 0, 1, 0, 0, 0) from rfl)) rfl rfl rfl ?_
  refine pe_getf hx (show pm_fetch mk_93 1 = some (.getfield 21, 3, 4, 3, 207) from rfl) (by decide) hs rfl ?_
  refine wy_lt (off := 12) (pe_d hx (show pm_fetch mk_93 4 = some (.ifCond .lt 12, 3, 0, 0, 0) from rfl)) (by decide) (fun g1 => ?_) (fun g1 => ?_)
  · show pm_Good sc mm_93 16 _ [] w 0 0 _
    exact absurd (by rw [wy_t (by omega)]; omega) g1
  · show pm_Good sc mm_93 7 _ [] w 0 0 _
    refine pm_ld_ok (i := .aload_n 0) (x := 0) (k := 2) (n := 1) (v := .ref 22) (pe_d hx (show pm_fetch mk_93 7 = some (.aload_n 0, 1, 0, 0, 0) from rfl)) rfl rfl rfl ?_
    refine pe_getf hx (show pm_fetch mk_93 8 = some (.getfield 21, 3, 4, 3, 207) from rfl) (by decide) hs rfl ?_
    refine pm_op_ok (i := .bipush 6) (st' := [.int 6, .int (Int32.ofNat sz)]) (pe_d hx (show pm_fetch mk_93 11 = some (.bipush 6, 2, 0, 0, 0) from rfl)) rfl ?_
    refine sp_lt (off := 5) (pe_d hx (show pm_fetch mk_93 13 = some (.if_icmp .lt 5, 3, 0, 0, 0) from rfl)) (by decide) (n := sz) (k := 6) (by omega) (by omega) (fun g2 => ?_) (fun g2 => ?_)
    · show pm_Good sc mm_93 18 _ [] w 0 0 _
      have a22 : ∀ (q : Nat) (c : pm_C), q ≠ 22 → (w.set q c)[22]? = w[22]? := fun q c hq => List.getElem?_set_ne hq
      refine pm_ld_ok (i := .aload_n 0) (x := 0) (k := 2) (n := 1) (v := .ref 22) (pe_d hx (show pm_fetch mk_93 18 = some (.aload_n 0, 1, 0, 0, 0) from rfl)) rfl rfl rfl ?_
      refine pe_getf hx (show pm_fetch mk_93 19 = some (.getfield 9, 3, 4, 0, 204) from rfl) (by decide) hs rfl ?_
      refine pm_ld_ok (i := .aload_n 0) (x := 0) (k := 2) (n := 1) (v := .ref 22) (pe_d hx (show pm_fetch mk_93 22 = some (.aload_n 0, 1, 0, 0, 0) from rfl)) rfl rfl rfl ?_
      refine pe_getf hx (show pm_fetch mk_93 23 = some (.getfield 21, 3, 4, 3, 207) from rfl) (by decide) hs rfl ?_
      refine pm_ld_ok (i := .iload_n 1) (x := 1) (k := 0) (n := 1) (v := .int k) (pe_d hx (show pm_fetch mk_93 26 = some (.iload_n 1, 1, 0, 0, 0) from rfl)) rfl rfl rfl ?_
      refine sp_st (k := sz) (w2 := (w.set 23 (.inl (0, Hs.set sz k)))) (pe_d hx (show pm_fetch mk_93 27 = some (.iastore, 1, 0, 0, 0) from rfl)) hH (by omega) (by omega) rfl ?_
      show pm_Good sc mm_93 28 _ [] (w.set 23 (.inl (0, Hs.set sz k))) 0 0 _
      have b22 : (w.set 23 (.inl (0, Hs.set sz k)))[22]? = some (.inr (4, [.ref 23, .ref 24, .ref 25, .int (Int32.ofNat sz)])) := by rw [List.getElem?_set_ne (by decide)]; exact hs
      have b24 : (w.set 23 (.inl (0, Hs.set sz k)))[24]? = some (.inl (0, Ps)) := by rw [List.getElem?_set_ne (by decide)]; exact hP
      refine pm_ld_ok (i := .aload_n 0) (x := 0) (k := 2) (n := 1) (v := .ref 22) (pe_d hx (show pm_fetch mk_93 28 = some (.aload_n 0, 1, 0, 0, 0) from rfl)) rfl rfl rfl ?_
      refine pe_getf hx (show pm_fetch mk_93 29 = some (.getfield 15, 3, 4, 1, 205) from rfl) (by decide) b22 rfl ?_
      refine pm_ld_ok (i := .aload_n 0) (x := 0) (k := 2) (n := 1) (v := .ref 22) (pe_d hx (show pm_fetch mk_93 32 = some (.aload_n 0, 1, 0, 0, 0) from rfl)) rfl rfl rfl ?_
      refine pe_getf hx (show pm_fetch mk_93 33 = some (.getfield 21, 3, 4, 3, 207) from rfl) (by decide) b22 rfl ?_
      refine pm_ld_ok (i := .iload_n 2) (x := 2) (k := 0) (n := 1) (v := .int l) (pe_d hx (show pm_fetch mk_93 36 = some (.iload_n 2, 1, 0, 0, 0) from rfl)) rfl rfl rfl ?_
      refine sp_st (k := sz) (w2 := ((w.set 23 (.inl (0, Hs.set sz k))).set 24 (.inl (0, Ps.set sz l)))) (pe_d hx (show pm_fetch mk_93 37 = some (.iastore, 1, 0, 0, 0) from rfl)) b24 (by omega) (by omega) rfl ?_
      show pm_Good sc mm_93 38 _ [] ((w.set 23 (.inl (0, Hs.set sz k))).set 24 (.inl (0, Ps.set sz l))) 0 0 _
      have c22 : ((w.set 23 (.inl (0, Hs.set sz k))).set 24 (.inl (0, Ps.set sz l)))[22]? = some (.inr (4, [.ref 23, .ref 24, .ref 25, .int (Int32.ofNat sz)])) := by rw [List.getElem?_set_ne (by decide)]; exact b22
      have c25 : ((w.set 23 (.inl (0, Hs.set sz k))).set 24 (.inl (0, Ps.set sz l)))[25]? = some (.inl (0, Ks)) := by rw [List.getElem?_set_ne (by decide), List.getElem?_set_ne (by decide)]; exact hK
      refine pm_ld_ok (i := .aload_n 0) (x := 0) (k := 2) (n := 1) (v := .ref 22) (pe_d hx (show pm_fetch mk_93 38 = some (.aload_n 0, 1, 0, 0, 0) from rfl)) rfl rfl rfl ?_
      refine pe_getf hx (show pm_fetch mk_93 39 = some (.getfield 18, 3, 4, 2, 206) from rfl) (by decide) c22 rfl ?_
      refine pm_ld_ok (i := .aload_n 0) (x := 0) (k := 2) (n := 1) (v := .ref 22) (pe_d hx (show pm_fetch mk_93 42 = some (.aload_n 0, 1, 0, 0, 0) from rfl)) rfl rfl rfl ?_
      refine pe_getf hx (show pm_fetch mk_93 43 = some (.getfield 21, 3, 4, 3, 207) from rfl) (by decide) c22 rfl ?_
      refine pm_ld_ok (i := .iload_n 3) (x := 3) (k := 0) (n := 1) (v := .int n) (pe_d hx (show pm_fetch mk_93 46 = some (.iload_n 3, 1, 0, 0, 0) from rfl)) rfl rfl rfl ?_
      refine sp_st (k := sz) (w2 := (((w.set 23 (.inl (0, Hs.set sz k))).set 24 (.inl (0, Ps.set sz l))).set 25 (.inl (0, Ks.set sz n)))) (pe_d hx (show pm_fetch mk_93 47 = some (.iastore, 1, 0, 0, 0) from rfl)) c25 (by omega) (by omega) rfl ?_
      show pm_Good sc mm_93 48 _ [] (((w.set 23 (.inl (0, Hs.set sz k))).set 24 (.inl (0, Ps.set sz l))).set 25 (.inl (0, Ks.set sz n))) 0 0 _
      have d22 : (((w.set 23 (.inl (0, Hs.set sz k))).set 24 (.inl (0, Ps.set sz l))).set 25 (.inl (0, Ks.set sz n)))[22]? = some (.inr (4, [.ref 23, .ref 24, .ref 25, .int (Int32.ofNat sz)])) := by rw [List.getElem?_set_ne (by decide)]; exact c22
      refine pm_ld_ok (i := .aload_n 0) (x := 0) (k := 2) (n := 1) (v := .ref 22) (pe_d hx (show pm_fetch mk_93 48 = some (.aload_n 0, 1, 0, 0, 0) from rfl)) rfl rfl rfl ?_
      refine pm_op_ok (i := .dup) (st' := [.ref 22, .ref 22]) (pe_d hx (show pm_fetch mk_93 49 = some (.dup, 1, 0, 0, 0) from rfl)) rfl ?_
      refine pe_getf hx (show pm_fetch mk_93 50 = some (.getfield 21, 3, 4, 3, 207) from rfl) (by decide) d22 rfl ?_
      refine pm_op_ok (i := .iconst 1) (st' := [.int 1, .int (Int32.ofNat sz), .ref 22]) (pe_d hx (show pm_fetch mk_93 53 = some (.iconst 1, 1, 0, 0, 0) from rfl)) rfl ?_
      refine pm_op_ok (i := .iadd) (st' := [.int ((Int32.ofNat sz) + 1), .ref 22]) (pe_d hx (show pm_fetch mk_93 54 = some (.iadd, 1, 0, 0, 0) from rfl)) rfl ?_
      refine wy_eq (y := Int32.ofNat (sz + 1)) (by rw [Int32.ofNat_add] <;> rfl) ?_
      show pm_Good sc mm_93 55 _ [.int (Int32.ofNat (sz + 1)), .ref 22] (((w.set 23 (.inl (0, Hs.set sz k))).set 24 (.inl (0, Ps.set sz l))).set 25 (.inl (0, Ks.set sz n))) 0 0 _
      refine pe_putf2 (w2 := sp_W w Hs Ps Ks sz k l n) hx (show pm_fetch mk_93 55 = some (.putfield 21, 3, 4, 3, 207) from rfl) d22 (Nat.le_of_ble_eq_true rfl) (show pm_cl[4]? = some _ from rfl) rfl rfl ?_
      refine pm_op_ok (i := .iconst 1) (st' := [.int 1]) (pe_d hx (show pm_fetch mk_93 58 = some (.iconst 1, 1, 0, 0, 0) from rfl)) rfl ?_
      exact pm_iret (ty := .boolean) (pe_d hx (show pm_fetch mk_93 59 = some (.ireturn, 1, 0, 0, 0) from rfl)) rfl (rfl) (Or.inl ⟨g2, rfl, rfl⟩)
    · show pm_Good sc mm_93 16 _ [] w 0 0 _
      refine pm_op_ok (i := .iconst 0) (st' := [.int 0]) (pe_d hx (show pm_fetch mk_93 16 = some (.iconst 0, 1, 0, 0, 0) from rfl)) rfl ?_
      exact pm_iret (ty := .boolean) (pe_d hx (show pm_fetch mk_93 17 = some (.ireturn, 1, 0, 0, 0) from rfl)) rfl (rfl) (Or.inr ⟨by omega, rfl, rfl⟩)
theorem sp_94 {w : pm_W} {Hs Ps Ks : List Int32} {sz : Nat} {k l n : Int32} (hs : w[22]? = some (.inr (4, [.ref 23, .ref 24, .ref 25, .int (Int32.ofNat sz)]))) (hH : w[23]? = some (.inl (0, Hs))) (hHl : Hs.length = 6) (hP : w[24]? = some (.inl (0, Ps))) (hPl : Ps.length = 6) (hK : w[25]? = some (.inl (0, Ks))) (hKl : Ks.length = 6) (hsz : sz ≤ 6) {fs : List Value} (h0 : w[0]? = some (.inr (7, fs))) (f5 : fs[5]? = some (.ref 22)) : pm_GoodM sc mm_94 [.ref 0, .int k, .int l, .int n] w (fun r w1 => (∃ x, r = some (.int x)) ∧ ((sp_ok k l n sz ∧ w1 = sp_W w Hs Ps Ks sz k l n) ∨ (¬ sp_ok k l n sz ∧ w1 = w))) := by
  have hx : pm_kb mm_94 mk_94 = true := (pm_mt_ok (j := 94) (x := (mm_94, 3, 0, mk_94)) rfl).2
  unfold pm_GoodM
  show pm_Good sc mm_94 0 [(0, .ref 0), (1, .int k), (2, .int l), (3, .int n)] [] w 0 0 _
  refine pm_ld_ok (i := .iload_n 1) (x := 1) (k := 0) (n := 1) (v := .int k) (pe_d hx (show pm_fetch mk_94 0 = some (.iload_n 1, 1, 0, 0, 0) from rfl)) rfl rfl rfl ?_
  refine wy_cS (y := (mm_24, 1, 1, mk_24)) (As := [.int k]) (rest := []) (X := wy_i (decide (0 ≤ k.toInt ∧ k.toInt ≤ 3))) hx (show pm_fetch mk_94 1 = some (.invokestatic 103, 3, 24, 0, 437) from rfl) rfl rfl rfl (fun v hv => by simp only [List.mem_cons, List.not_mem_nil, or_false] at hv; rcases hv with rfl <;> rfl) (Nat.le_of_ble_eq_true rfl) (Nat.le_of_ble_eq_true rfl) (Nat.le_of_ble_eq_true rfl) (Nat.le_of_ble_eq_true rfl) (wy_24) ?_
  show pm_Good sc mm_94 4 _ [.int (wy_i (decide (0 ≤ k.toInt ∧ k.toInt ≤ 3)))] w 0 0 _
  refine wy_zE (off := 19) (pe_d hx (show pm_fetch mk_94 4 = some (.ifCond .eq 19, 3, 0, 0, 0) from rfl)) (by decide) (fun g1 => ?_) (fun g1 => ?_)
  · show pm_Good sc mm_94 23 _ [] w 0 0 _
    refine pm_op_ok (i := .iconst (-1)) (st' := [.int (-1)]) (pe_d hx (show pm_fetch mk_94 23 = some (.iconst (-1), 1, 0, 0, 0) from rfl)) rfl ?_
    exact pm_iret (ty := .int) (pe_d hx (show pm_fetch mk_94 24 = some (.ireturn, 1, 0, 0, 0) from rfl)) rfl (rfl) (⟨⟨_, rfl⟩, Or.inr ⟨fun q => of_decide_eq_false g1 q.1, rfl⟩⟩)
  · show pm_Good sc mm_94 7 _ [] w 0 0 _
    refine pm_ld_ok (i := .iload_n 2) (x := 2) (k := 0) (n := 1) (v := .int l) (pe_d hx (show pm_fetch mk_94 7 = some (.iload_n 2, 1, 0, 0, 0) from rfl)) rfl rfl rfl ?_
    refine wy_cS (y := (mm_25, 1, 1, mk_25)) (As := [.int l]) (rest := []) (X := wy_i (decide (0 ≤ l.toInt ∧ l.toInt ≤ 5))) hx (show pm_fetch mk_94 8 = some (.invokestatic 228, 3, 25, 0, 659) from rfl) rfl rfl rfl (fun v hv => by simp only [List.mem_cons, List.not_mem_nil, or_false] at hv; rcases hv with rfl <;> rfl) (Nat.le_of_ble_eq_true rfl) (Nat.le_of_ble_eq_true rfl) (Nat.le_of_ble_eq_true rfl) (Nat.le_of_ble_eq_true rfl) (wy_25) ?_
    show pm_Good sc mm_94 11 _ [.int (wy_i (decide (0 ≤ l.toInt ∧ l.toInt ≤ 5)))] w 0 0 _
    refine wy_zE (off := 12) (pe_d hx (show pm_fetch mk_94 11 = some (.ifCond .eq 12, 3, 0, 0, 0) from rfl)) (by decide) (fun g2 => ?_) (fun g2 => ?_)
    · show pm_Good sc mm_94 23 _ [] w 0 0 _
      refine pm_op_ok (i := .iconst (-1)) (st' := [.int (-1)]) (pe_d hx (show pm_fetch mk_94 23 = some (.iconst (-1), 1, 0, 0, 0) from rfl)) rfl ?_
      exact pm_iret (ty := .int) (pe_d hx (show pm_fetch mk_94 24 = some (.ireturn, 1, 0, 0, 0) from rfl)) rfl (rfl) (⟨⟨_, rfl⟩, Or.inr ⟨fun q => of_decide_eq_false g2 q.2.1, rfl⟩⟩)
    · show pm_Good sc mm_94 14 _ [] w 0 0 _
      refine pm_ld_ok (i := .iload_n 3) (x := 3) (k := 0) (n := 1) (v := .int n) (pe_d hx (show pm_fetch mk_94 14 = some (.iload_n 3, 1, 0, 0, 0) from rfl)) rfl rfl rfl ?_
      refine pm_op_ok (i := .iconst 0) (st' := [.int 0, .int n]) (pe_d hx (show pm_fetch mk_94 15 = some (.iconst 0, 1, 0, 0, 0) from rfl)) rfl ?_
      refine pm_op_ok (i := .iconst 5) (st' := [.int 5, .int 0, .int n]) (pe_d hx (show pm_fetch mk_94 16 = some (.iconst 5, 1, 0, 0, 0) from rfl)) rfl ?_
      refine wy_cS (y := (mm_21, 3, 1, mk_21)) (As := [.int n, .int 0, .int 5]) (rest := []) (X := wy_i (decide (0 ≤ n.toInt ∧ n.toInt ≤ 5))) hx (show pm_fetch mk_94 17 = some (.invokestatic 106, 3, 21, 0, 356) from rfl) rfl rfl rfl (fun v hv => by simp only [List.mem_cons, List.not_mem_nil, or_false] at hv; rcases hv with rfl | rfl | rfl <;> rfl) (Nat.le_of_ble_eq_true rfl) (Nat.le_of_ble_eq_true rfl) (Nat.le_of_ble_eq_true rfl) (Nat.le_of_ble_eq_true rfl) (wy_21 (fun a b => ⟨by rw [decide_eq_true (⟨a, b⟩ : 0 ≤ n.toInt ∧ n.toInt ≤ 5)]; rfl, rfl⟩) (fun q => ⟨by rw [decide_eq_false (show ¬ (0 ≤ n.toInt ∧ n.toInt ≤ 5) from q)]; rfl, rfl⟩)) ?_
      show pm_Good sc mm_94 20 _ [.int (wy_i (decide (0 ≤ n.toInt ∧ n.toInt ≤ 5)))] w 0 0 _
      refine wy_zN (off := 5) (pe_d hx (show pm_fetch mk_94 20 = some (.ifCond .ne 5, 3, 0, 0, 0) from rfl)) (by decide) (fun g3 => ?_) (fun g3 => ?_)
      · show pm_Good sc mm_94 25 _ [] w 0 0 _
        refine pm_ld_ok (i := .aload_n 0) (x := 0) (k := 2) (n := 1) (v := .ref 0) (pe_d hx (show pm_fetch mk_94 25 = some (.aload_n 0, 1, 0, 0, 0) from rfl)) rfl rfl rfl ?_
        refine pe_getf hx (show pm_fetch mk_94 26 = some (.getfield 43, 3, 7, 5, 381) from rfl) (by decide) h0 f5 ?_
        refine pm_ld_ok (i := .iload_n 1) (x := 1) (k := 0) (n := 1) (v := .int k) (pe_d hx (show pm_fetch mk_94 29 = some (.iload_n 1, 1, 0, 0, 0) from rfl)) rfl rfl rfl ?_
        refine pm_ld_ok (i := .iload_n 2) (x := 2) (k := 0) (n := 1) (v := .int l) (pe_d hx (show pm_fetch mk_94 30 = some (.iload_n 2, 1, 0, 0, 0) from rfl)) rfl rfl rfl ?_
        refine pm_ld_ok (i := .iload_n 3) (x := 3) (k := 0) (n := 1) (v := .int n) (pe_d hx (show pm_fetch mk_94 31 = some (.iload_n 3, 1, 0, 0, 0) from rfl)) rfl rfl rfl ?_
        refine pe_callV (y := (mm_93, 3, 0, mk_93)) (As := [.int k, .int l, .int n]) (rest := []) (P1 := fun r w1 => (sz < 6 ∧ r = some (.int (wy_i true)) ∧ w1 = sp_W w Hs Ps Ks sz k l n) ∨ (¬ sz < 6 ∧ r = some (.int (wy_i false)) ∧ w1 = w)) hx (show pm_fetch mk_94 32 = some (.invokevirtual 231, 3, 93, 0, 660) from rfl) rfl rfl rfl (fun v hv => by simp only [List.mem_cons, List.not_mem_nil, or_false] at hv; rcases hv with rfl | rfl | rfl <;> rfl) hs (show pm_cl[4]? = some _ from rfl) rfl (Nat.le_of_ble_eq_true rfl) (Nat.le_of_ble_eq_true rfl) (Nat.le_of_ble_eq_true rfl) (Nat.le_of_ble_eq_true rfl) (sp_93 hs hH hHl hP hPl hK hKl hsz) (fun r w' q => ?_) (fun r w' q => ?_)
        · rcases q with ⟨-, -, q⟩ | ⟨-, -, q⟩
          · rw [q]; unfold sp_W; simp only [List.length_set]
          · rw [q]
        rcases q with ⟨q1, rfl, rfl⟩ | ⟨q1, rfl, rfl⟩
        · show pm_Good sc mm_94 35 _ [.int (wy_i true)] (sp_W w Hs Ps Ks sz k l n) 0 0 _
          refine wy_zE (off := 13) (pe_d hx (show pm_fetch mk_94 35 = some (.ifCond .eq 13, 3, 0, 0, 0) from rfl)) (by decide) (fun g4 => ?_) (fun g4 => ?_)
          · show pm_Good sc mm_94 48 _ [] (sp_W w Hs Ps Ks sz k l n) 0 0 _
            cases g4
          · show pm_Good sc mm_94 38 _ [] (sp_W w Hs Ps Ks sz k l n) 0 0 _
            have e0 : (sp_W w Hs Ps Ks sz k l n)[0]? = some (.inr (7, fs)) := by unfold sp_W; rw [List.getElem?_set_ne (by decide), List.getElem?_set_ne (by decide), List.getElem?_set_ne (by decide), List.getElem?_set_ne (by decide)]; exact h0
            have hlen : 25 < w.length := (List.getElem?_eq_some_iff.mp hK).1
            have e22 : (sp_W w Hs Ps Ks sz k l n)[22]? = some (.inr (4, [.ref 23, .ref 24, .ref 25, .int (Int32.ofNat (sz + 1))])) := List.getElem?_set_self (by simp only [List.length_set]; omega)
            refine pm_ld_ok (i := .aload_n 0) (x := 0) (k := 2) (n := 1) (v := .ref 0) (pe_d hx (show pm_fetch mk_94 38 = some (.aload_n 0, 1, 0, 0, 0) from rfl)) rfl rfl rfl ?_
            refine pe_getf hx (show pm_fetch mk_94 39 = some (.getfield 43, 3, 7, 5, 381) from rfl) (by decide) e0 f5 ?_
            refine pe_getf hx (show pm_fetch mk_94 42 = some (.getfield 98, 3, 4, 3, 208) from rfl) (by decide) e22 rfl ?_
            refine pm_goto (off := 5) (pe_d hx (show pm_fetch mk_94 45 = some (.goto 5, 3, 0, 0, 0) from rfl)) (by decide) ?_
            show pm_Good sc mm_94 50 _ [.int (Int32.ofNat (sz + 1))] (sp_W w Hs Ps Ks sz k l n) 0 0 _
            exact pm_iret (ty := .int) (pe_d hx (show pm_fetch mk_94 50 = some (.ireturn, 1, 0, 0, 0) from rfl)) rfl (rfl) (⟨⟨_, rfl⟩, Or.inl ⟨⟨of_decide_eq_true g1, of_decide_eq_true g2, of_decide_eq_true g3, q1⟩, rfl⟩⟩)
        · show pm_Good sc mm_94 35 _ [.int (wy_i false)] _ 0 0 _
          refine wy_zE (off := 13) (pe_d hx (show pm_fetch mk_94 35 = some (.ifCond .eq 13, 3, 0, 0, 0) from rfl)) (by decide) (fun g4 => ?_) (fun g4 => ?_)
          · show pm_Good sc mm_94 48 _ [] _ 0 0 _
            refine pm_op_ok (i := .bipush (-3)) (st' := [.int (-3)]) (pe_d hx (show pm_fetch mk_94 48 = some (.bipush (-3), 2, 0, 0, 0) from rfl)) rfl ?_
            exact pm_iret (ty := .int) (pe_d hx (show pm_fetch mk_94 50 = some (.ireturn, 1, 0, 0, 0) from rfl)) rfl (rfl) (⟨⟨_, rfl⟩, Or.inr ⟨fun q => q1 q.2.2.2, rfl⟩⟩)
          · show pm_Good sc mm_94 38 _ [] _ 0 0 _
            cases g4
      · show pm_Good sc mm_94 23 _ [] w 0 0 _
        refine pm_op_ok (i := .iconst (-1)) (st' := [.int (-1)]) (pe_d hx (show pm_fetch mk_94 23 = some (.iconst (-1), 1, 0, 0, 0) from rfl)) rfl ?_
        exact pm_iret (ty := .int) (pe_d hx (show pm_fetch mk_94 24 = some (.ireturn, 1, 0, 0, 0) from rfl)) rfl (rfl) (⟨⟨_, rfl⟩, Or.inr ⟨fun q => of_decide_eq_false g3 q.2.2.1, rfl⟩⟩)
theorem sp_161 {w : pm_W} {fm : List Value} {sts : List Int32} {sz : Nat} {k l n : Int32} (h0 : w[42]? = some (.inr (8, fm))) (f10 : fm[10]? = some (.ref 50)) (f11 : fm[11]? = some (.int (Int32.ofNat sz))) (hS : w[50]? = some (.inl (0, sts))) (hSl : sts.length = 6) (hsz : sz ≤ 6) : pm_GoodM sc mm_161 [.ref 42, .int k, .int l, .int n] w (fun r w1 => (∃ x, r = some (.int x)) ∧ ((sp_ok k l n sz ∧ w1 = sp_V w fm sts sz (100 * k + 10 * l + n)) ∨ (¬ sp_ok k l n sz ∧ w1 = w))) := by
  have hx : pm_kb mm_161 mk_161 = true := (pm_mt_ok (j := 161) (x := (mm_161, 3, 0, mk_161)) rfl).2
  have hfl : 11 < fm.length := (List.getElem?_eq_some_iff.mp f11).1
  have hlen : 50 < w.length := (List.getElem?_eq_some_iff.mp hS).1
  unfold pm_GoodM
  show pm_Good sc mm_161 0 [(0, .ref 42), (1, .int k), (2, .int l), (3, .int n)] [] w 0 0 _
  refine pm_ld_ok (i := .iload_n 1) (x := 1) (k := 0) (n := 1) (v := .int k) (pe_d hx (show pm_fetch mk_161 0 = some (.iload_n 1, 1, 0, 0, 0) from rfl)) rfl rfl rfl ?_
  refine wy_cS (y := (mm_122, 1, 1, mk_122)) (As := [.int k]) (rest := []) (X := wy_i (decide (0 ≤ k.toInt ∧ k.toInt ≤ 3))) hx (show pm_fetch mk_161 1 = some (.invokestatic 110, 3, 122, 0, 867) from rfl) rfl rfl rfl (fun v hv => by simp only [List.mem_cons, List.not_mem_nil, or_false] at hv; rcases hv with rfl <;> rfl) (Nat.le_of_ble_eq_true rfl) (Nat.le_of_ble_eq_true rfl) (Nat.le_of_ble_eq_true rfl) (Nat.le_of_ble_eq_true rfl) (wy_122) ?_
  show pm_Good sc mm_161 4 _ [.int (wy_i (decide (0 ≤ k.toInt ∧ k.toInt ≤ 3)))] w 0 0 _
  refine wy_zE (off := 21) (pe_d hx (show pm_fetch mk_161 4 = some (.ifCond .eq 21, 3, 0, 0, 0) from rfl)) (by decide) (fun g1 => ?_) (fun g1 => ?_)
  · show pm_Good sc mm_161 25 _ [] w 0 0 _
    refine pm_op_ok (i := .iconst (-1)) (st' := [.int (-1)]) (pe_d hx (show pm_fetch mk_161 25 = some (.iconst (-1), 1, 0, 0, 0) from rfl)) rfl ?_
    exact pm_iret (ty := .int) (pe_d hx (show pm_fetch mk_161 26 = some (.ireturn, 1, 0, 0, 0) from rfl)) rfl (rfl) (⟨⟨_, rfl⟩, Or.inr ⟨fun q => of_decide_eq_false g1 q.1, rfl⟩⟩)
  · show pm_Good sc mm_161 7 _ [] w 0 0 _
    refine pm_ld_ok (i := .iload_n 2) (x := 2) (k := 0) (n := 1) (v := .int l) (pe_d hx (show pm_fetch mk_161 7 = some (.iload_n 2, 1, 0, 0, 0) from rfl)) rfl rfl rfl ?_
    refine pm_op_ok (i := .iconst 0) (st' := [.int 0, .int l]) (pe_d hx (show pm_fetch mk_161 8 = some (.iconst 0, 1, 0, 0, 0) from rfl)) rfl ?_
    refine pm_op_ok (i := .iconst 5) (st' := [.int 5, .int 0, .int l]) (pe_d hx (show pm_fetch mk_161 9 = some (.iconst 5, 1, 0, 0, 0) from rfl)) rfl ?_
    refine wy_cS (y := (mm_108, 3, 1, mk_108)) (As := [.int l, .int 0, .int 5]) (rest := []) (X := wy_i (decide (0 ≤ l.toInt ∧ l.toInt ≤ 5))) hx (show pm_fetch mk_161 10 = some (.invokestatic 55, 3, 108, 0, 752) from rfl) rfl rfl rfl (fun v hv => by simp only [List.mem_cons, List.not_mem_nil, or_false] at hv; rcases hv with rfl | rfl | rfl <;> rfl) (Nat.le_of_ble_eq_true rfl) (Nat.le_of_ble_eq_true rfl) (Nat.le_of_ble_eq_true rfl) (Nat.le_of_ble_eq_true rfl) (pl_108 (fun a b => ⟨by rw [decide_eq_true (⟨a, b⟩ : 0 ≤ l.toInt ∧ l.toInt ≤ 5)]; rfl, rfl⟩) (fun q => ⟨by rw [decide_eq_false (show ¬ (0 ≤ l.toInt ∧ l.toInt ≤ 5) from q)]; rfl, rfl⟩)) ?_
    show pm_Good sc mm_161 13 _ [.int (wy_i (decide (0 ≤ l.toInt ∧ l.toInt ≤ 5)))] w 0 0 _
    refine wy_zE (off := 12) (pe_d hx (show pm_fetch mk_161 13 = some (.ifCond .eq 12, 3, 0, 0, 0) from rfl)) (by decide) (fun g2 => ?_) (fun g2 => ?_)
    · show pm_Good sc mm_161 25 _ [] w 0 0 _
      refine pm_op_ok (i := .iconst (-1)) (st' := [.int (-1)]) (pe_d hx (show pm_fetch mk_161 25 = some (.iconst (-1), 1, 0, 0, 0) from rfl)) rfl ?_
      exact pm_iret (ty := .int) (pe_d hx (show pm_fetch mk_161 26 = some (.ireturn, 1, 0, 0, 0) from rfl)) rfl (rfl) (⟨⟨_, rfl⟩, Or.inr ⟨fun q => of_decide_eq_false g2 q.2.1, rfl⟩⟩)
    · show pm_Good sc mm_161 16 _ [] w 0 0 _
      refine pm_ld_ok (i := .iload_n 3) (x := 3) (k := 0) (n := 1) (v := .int n) (pe_d hx (show pm_fetch mk_161 16 = some (.iload_n 3, 1, 0, 0, 0) from rfl)) rfl rfl rfl ?_
      refine pm_op_ok (i := .iconst 0) (st' := [.int 0, .int n]) (pe_d hx (show pm_fetch mk_161 17 = some (.iconst 0, 1, 0, 0, 0) from rfl)) rfl ?_
      refine pm_op_ok (i := .iconst 5) (st' := [.int 5, .int 0, .int n]) (pe_d hx (show pm_fetch mk_161 18 = some (.iconst 5, 1, 0, 0, 0) from rfl)) rfl ?_
      refine wy_cS (y := (mm_108, 3, 1, mk_108)) (As := [.int n, .int 0, .int 5]) (rest := []) (X := wy_i (decide (0 ≤ n.toInt ∧ n.toInt ≤ 5))) hx (show pm_fetch mk_161 19 = some (.invokestatic 55, 3, 108, 0, 752) from rfl) rfl rfl rfl (fun v hv => by simp only [List.mem_cons, List.not_mem_nil, or_false] at hv; rcases hv with rfl | rfl | rfl <;> rfl) (Nat.le_of_ble_eq_true rfl) (Nat.le_of_ble_eq_true rfl) (Nat.le_of_ble_eq_true rfl) (Nat.le_of_ble_eq_true rfl) (pl_108 (fun a b => ⟨by rw [decide_eq_true (⟨a, b⟩ : 0 ≤ n.toInt ∧ n.toInt ≤ 5)]; rfl, rfl⟩) (fun q => ⟨by rw [decide_eq_false (show ¬ (0 ≤ n.toInt ∧ n.toInt ≤ 5) from q)]; rfl, rfl⟩)) ?_
      show pm_Good sc mm_161 22 _ [.int (wy_i (decide (0 ≤ n.toInt ∧ n.toInt ≤ 5)))] w 0 0 _
      refine wy_zN (off := 5) (pe_d hx (show pm_fetch mk_161 22 = some (.ifCond .ne 5, 3, 0, 0, 0) from rfl)) (by decide) (fun g3 => ?_) (fun g3 => ?_)
      · show pm_Good sc mm_161 27 _ [] w 0 0 _
        refine pm_ld_ok (i := .aload_n 0) (x := 0) (k := 2) (n := 1) (v := .ref 42) (pe_d hx (show pm_fetch mk_161 27 = some (.aload_n 0, 1, 0, 0, 0) from rfl)) rfl rfl rfl ?_
        refine pe_getf hx (show pm_fetch mk_161 28 = some (.getfield 107, 3, 8, 11, 784) from rfl) (by decide) h0 f11 ?_
        refine pm_op_ok (i := .bipush 6) (st' := [.int 6, .int (Int32.ofNat sz)]) (pe_d hx (show pm_fetch mk_161 31 = some (.bipush 6, 2, 0, 0, 0) from rfl)) rfl ?_
        refine wy_ne (off := 6) (pe_d hx (show pm_fetch mk_161 33 = some (.if_icmp .ne 6, 3, 0, 0, 0) from rfl)) (by decide) (fun g4 => ?_) (fun g4 => ?_)
        · show pm_Good sc mm_161 39 _ [] w 0 0 _
          have q1 : sz < 6 := by
            have : sz ≠ 6 := fun e => g4 (by rw [e]; rfl)
            omega
          refine pm_ld_ok (i := .aload_n 0) (x := 0) (k := 2) (n := 1) (v := .ref 42) (pe_d hx (show pm_fetch mk_161 39 = some (.aload_n 0, 1, 0, 0, 0) from rfl)) rfl rfl rfl ?_
          refine pe_getf hx (show pm_fetch mk_161 40 = some (.getfield 31, 3, 8, 10, 783) from rfl) (by decide) h0 f10 ?_
          refine pm_ld_ok (i := .aload_n 0) (x := 0) (k := 2) (n := 1) (v := .ref 42) (pe_d hx (show pm_fetch mk_161 43 = some (.aload_n 0, 1, 0, 0, 0) from rfl)) rfl rfl rfl ?_
          refine pe_getf hx (show pm_fetch mk_161 44 = some (.getfield 107, 3, 8, 11, 784) from rfl) (by decide) h0 f11 ?_
          refine pm_op_ok (i := .bipush 100) (st' := [.int 100, .int (Int32.ofNat sz), .ref 50]) (pe_d hx (show pm_fetch mk_161 47 = some (.bipush 100, 2, 0, 0, 0) from rfl)) rfl ?_
          refine pm_ld_ok (i := .iload_n 1) (x := 1) (k := 0) (n := 1) (v := .int k) (pe_d hx (show pm_fetch mk_161 49 = some (.iload_n 1, 1, 0, 0, 0) from rfl)) rfl rfl rfl ?_
          refine pm_op_ok (i := .imul) (st' := [.int (100 * k), .int (Int32.ofNat sz), .ref 50]) (pe_d hx (show pm_fetch mk_161 50 = some (.imul, 1, 0, 0, 0) from rfl)) rfl ?_
          refine pm_op_ok (i := .bipush 10) (st' := [.int 10, .int (100 * k), .int (Int32.ofNat sz), .ref 50]) (pe_d hx (show pm_fetch mk_161 51 = some (.bipush 10, 2, 0, 0, 0) from rfl)) rfl ?_
          refine pm_ld_ok (i := .iload_n 2) (x := 2) (k := 0) (n := 1) (v := .int l) (pe_d hx (show pm_fetch mk_161 53 = some (.iload_n 2, 1, 0, 0, 0) from rfl)) rfl rfl rfl ?_
          refine pm_op_ok (i := .imul) (st' := [.int (10 * l), .int (100 * k), .int (Int32.ofNat sz), .ref 50]) (pe_d hx (show pm_fetch mk_161 54 = some (.imul, 1, 0, 0, 0) from rfl)) rfl ?_
          refine pm_op_ok (i := .iadd) (st' := [.int ((100 * k) + (10 * l)), .int (Int32.ofNat sz), .ref 50]) (pe_d hx (show pm_fetch mk_161 55 = some (.iadd, 1, 0, 0, 0) from rfl)) rfl ?_
          refine pm_ld_ok (i := .iload_n 3) (x := 3) (k := 0) (n := 1) (v := .int n) (pe_d hx (show pm_fetch mk_161 56 = some (.iload_n 3, 1, 0, 0, 0) from rfl)) rfl rfl rfl ?_
          refine pm_op_ok (i := .iadd) (st' := [.int (((100 * k) + (10 * l)) + n), .int (Int32.ofNat sz), .ref 50]) (pe_d hx (show pm_fetch mk_161 57 = some (.iadd, 1, 0, 0, 0) from rfl)) rfl ?_
          refine sp_st (k := sz) (w2 := (w.set 50 (.inl (0, sts.set sz (100 * k + 10 * l + n))))) (pe_d hx (show pm_fetch mk_161 58 = some (.iastore, 1, 0, 0, 0) from rfl)) hS (by omega) (by omega) rfl ?_
          show pm_Good sc mm_161 59 _ [] (w.set 50 (.inl (0, sts.set sz (100 * k + 10 * l + n)))) 0 0 _
          have b42 : (w.set 50 (.inl (0, sts.set sz (100 * k + 10 * l + n))))[42]? = some (.inr (8, fm)) := by rw [List.getElem?_set_ne (by decide)]; exact h0
          refine pm_ld_ok (i := .aload_n 0) (x := 0) (k := 2) (n := 1) (v := .ref 42) (pe_d hx (show pm_fetch mk_161 59 = some (.aload_n 0, 1, 0, 0, 0) from rfl)) rfl rfl rfl ?_
          refine pm_op_ok (i := .dup) (st' := [.ref 42, .ref 42]) (pe_d hx (show pm_fetch mk_161 60 = some (.dup, 1, 0, 0, 0) from rfl)) rfl ?_
          refine pe_getf hx (show pm_fetch mk_161 61 = some (.getfield 107, 3, 8, 11, 784) from rfl) (by decide) b42 f11 ?_
          refine pm_op_ok (i := .iconst 1) (st' := [.int 1, .int (Int32.ofNat sz), .ref 42]) (pe_d hx (show pm_fetch mk_161 64 = some (.iconst 1, 1, 0, 0, 0) from rfl)) rfl ?_
          refine pm_op_ok (i := .iadd) (st' := [.int ((Int32.ofNat sz) + 1), .ref 42]) (pe_d hx (show pm_fetch mk_161 65 = some (.iadd, 1, 0, 0, 0) from rfl)) rfl ?_
          refine wy_eq (y := Int32.ofNat (sz + 1)) (by rw [Int32.ofNat_add] <;> rfl) ?_
          show pm_Good sc mm_161 66 _ [.int (Int32.ofNat (sz + 1)), .ref 42] (w.set 50 (.inl (0, sts.set sz (100 * k + 10 * l + n)))) 0 0 _
          refine pe_putf2 (w2 := sp_V w fm sts sz (100 * k + 10 * l + n)) hx (show pm_fetch mk_161 66 = some (.putfield 107, 3, 8, 11, 784) from rfl) b42 hfl (show pm_cl[8]? = some _ from rfl) rfl rfl ?_
          have c42 : (sp_V w fm sts sz (100 * k + 10 * l + n))[42]? = some (.inr (8, fm.set 11 (.int (Int32.ofNat (sz + 1))))) := List.getElem?_set_self (by simp only [List.length_set]; omega)
          refine pm_ld_ok (i := .aload_n 0) (x := 0) (k := 2) (n := 1) (v := .ref 42) (pe_d hx (show pm_fetch mk_161 69 = some (.aload_n 0, 1, 0, 0, 0) from rfl)) rfl rfl rfl ?_
          refine pe_getf hx (show pm_fetch mk_161 70 = some (.getfield 107, 3, 8, 11, 784) from rfl) (by decide) c42 (List.getElem?_set_self hfl) ?_
          exact pm_iret (ty := .int) (pe_d hx (show pm_fetch mk_161 73 = some (.ireturn, 1, 0, 0, 0) from rfl)) rfl (rfl) (⟨⟨_, rfl⟩, Or.inl ⟨⟨of_decide_eq_true g1, of_decide_eq_true g2, of_decide_eq_true g3, q1⟩, rfl⟩⟩)
        · show pm_Good sc mm_161 36 _ [] w 0 0 _
          have q1 : ¬ sz < 6 := fun h => by
            have := congrArg Int32.toInt g4
            rw [wy_t (by omega)] at this
            have h6 : (6 : Int32).toInt = 6 := rfl
            omega
          refine pm_op_ok (i := .bipush (-3)) (st' := [.int (-3)]) (pe_d hx (show pm_fetch mk_161 36 = some (.bipush (-3), 2, 0, 0, 0) from rfl)) rfl ?_
          exact pm_iret (ty := .int) (pe_d hx (show pm_fetch mk_161 38 = some (.ireturn, 1, 0, 0, 0) from rfl)) rfl (rfl) (⟨⟨_, rfl⟩, Or.inr ⟨fun q => q1 q.2.2.2, rfl⟩⟩)
      · show pm_Good sc mm_161 25 _ [] w 0 0 _
        refine pm_op_ok (i := .iconst (-1)) (st' := [.int (-1)]) (pe_d hx (show pm_fetch mk_161 25 = some (.iconst (-1), 1, 0, 0, 0) from rfl)) rfl ?_
        exact pm_iret (ty := .int) (pe_d hx (show pm_fetch mk_161 26 = some (.ireturn, 1, 0, 0, 0) from rfl)) rfl (rfl) (⟨⟨_, rfl⟩, Or.inr ⟨fun q => of_decide_eq_false g3 q.2.2.1, rfl⟩⟩)
end PSP
