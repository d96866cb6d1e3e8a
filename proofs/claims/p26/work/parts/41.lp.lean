/-! the whole text -/
def pf (xs : List Int32) (sz : Int) : Nat → Int → Int → (Nat → Int) → Int × Int × (Nat → Int)
  | 0, _, p, K => (-4, p, K)
  | f + 1, i, p, K => if i < sz then (match ps_i (pz_f xs sz i) p with
    | none => (i, p, K)
    | some t => pf xs sz f (i + t.1) (p + t.2) (pK K (pz_f xs sz i))) else (-4, p, K)
theorem ps_n_le {e : Nat → Int} : ∀ {l : List (Int × Int × Int)} {o : Nat} {t : List Int × Nat}, ps_n e l o = some t → o ≤ t.2
  | [], o, t, h => by
    cases h
    exact Nat.le_refl _
  | q :: l, o, t, h => by
    unfold ps_n at h
    split at h
    · cases h
    · split at h
      · split at h
        · rename_i t' h1
          cases h
          have := ps_n_le h1
          simp only
          omega
        · cases h
      · cases h
theorem ps_n_lt {e : Nat → Int} {q : Int × Int × Int} {l : List (Int × Int × Int)} {o : Nat} {t : List Int × Nat} (h : ps_n e (q :: l) o = some t) : o + 1 ≤ t.2 := by
  unfold ps_n at h
  split at h
  · cases h
  · split at h
    · split at h
      · rename_i t' h1
        cases h
        have := ps_n_le h1
        simp only
        omega
      · cases h
    · cases h
theorem ps_i_lt {e : Nat → Int} {p : Int} (hp : 0 ≤ p ∧ p ≤ 5) {t : Nat × Int} (h : ps_i e p = some t) : 1 ≤ t.1 ∧ 0 ≤ p + t.2 ∧ p + t.2 ≤ 5 := by
  unfold ps_i at h
  split at h
  · cases h
  · rename_i l hl
    split at h
    · cases h
    · rename_i t' ht
      have h1 := ps_n_le ht
      split at h
      · rename_i hx
        cases h
        simp only
        refine ⟨by omega, ?_⟩
        by_cases h5 : e 0 = 112
        · unfold ps_x at hx
          rw [if_pos h5, decide_eq_true_eq] at hx
          rw [if_pos h5]
          omega
        · rw [if_neg h5]
          omega
      · cases h
def pi_cs (b : Nat) (c : Int) : List (Nat × sx_V) := (List.range 20).map fun j => (b + j, .inl (0, c))
def pc_w (v : Bool) : List sx_C := ((pi_ob (pi_ob (pi_ob (pi_ob (pi_ob (pi_ob (pi_ob (lh_u v) 1 3 (.inl (0, 0))) (pi_dq v) 4 (.inl (0, 0))) (pi_dq v) 5 (.inl (0, 0))) (pi_dq v) 6 (.inl (0, 3))) (pi_dq v) 7 (.inl (0, 4))) (pi_dq v) 8 (.inl (0, 5))) (pi_dq v) 9 (.inl (0, 0))).set (pi_ka v) (.inl (0, 20, false, pi_cs 0 (-1)))).set (pi_kb v) (.inl (0, 20, false, pi_cs 0 (-1)))
def pd_w (v : Bool) : List sx_C := (pi_ob (lh_u v) 42 12 (.inl (0, 0))).set 45 (.inl (0, 50, false, (0, .inl (0, 0)) :: (pi_cs 10 (-1) ++ pi_cs 30 0)))
def pc_A : Nat → List (Nat × sx_An) := fun j => bif Nat.beq j 15 then [] else sx_AN j
def pc_h (v : Bool) : sx_H := (11, 44, [], [], 44, lh_f v, [(0, .inr (.ref 1)), (1, .inr (.ref (pi_dq v))), (2, .inl (0, 0))], pc_w v, 0, 0, 0, 0, 0, 0)
def pd_h (v : Bool) : sx_H := (9, 44, [], [], 44, lh_f v, [(0, .inr (.ref 42))], pd_w v, 0, 0, 0, 0, 0, 0)
theorem pc_r (v : Bool) : sx_runF pc_A sx_CU sx_O1 100000 (mm_32, 1, 0, mk_32) [(11, .inl ([], 0, 1))] [pc_h v] false 0 0 0 44 (lh_f v) [(0, .inr (.ref 1)), (1, .inr (.ref (pi_dq v)))] [] (lh_u v) (fun _ => false) = true := by cases v <;> decide +kernel
theorem pd_r (v : Bool) : sx_runF sx_AN sx_CU sx_O1 100000 (mm_140, 0, 0, mk_140) [(9, .inl ([], 0, 1))] [pd_h v] false 0 0 0 44 (lh_f v) [(0, .inr (.ref 42))] [] (lh_u v) (fun _ => false) = true := by cases v <;> decide +kernel
def pc_rr (v : Bool) : List (Nat × Int) := (sx_rho [] (pc_w v) (lh_v v)).getD []
def pd_rr (v : Bool) : List (Nat × Int) := (sx_rho [] (pd_w v) (lh_v v)).getD []
theorem pc_c1 (v : Bool) : sx_fw 7 (pc_rr v) (lh_u v) (pc_w v) = true := by cases v <;> decide +kernel
theorem pc_c2 (v : Bool) : sx_fnw 7 (pc_rr v) ([] ++ lh_f v) (lh_f v) = true := by cases v <;> decide +kernel
theorem pc_c3 (v : Bool) : (pc_rr v).length = 37 := by cases v <;> decide +kernel
theorem pc_c4 (v : Bool) : ∀ j, j < 44 → 7 ≤ j → pi_kp v j = true → (pc_rr v)[j - 7]? = some (j, 0) := by cases v <;> decide +kernel
theorem pc_c5 (v : Bool) : (pc_rr v)[3]? = some (0, 0) ∧ (pc_rr v)[pi_ps v - 7]? = some (0, 0) ∧ (pc_rr v)[pi_bn v - 7]? = some (0, 3) := by cases v <;> decide +kernel
theorem pd_c1 (v : Bool) : sx_fw 7 (pd_rr v) (lh_u v) (pd_w v) = true := by cases v <;> decide +kernel
theorem pd_c2 (v : Bool) : sx_fnw 7 (pd_rr v) ([] ++ lh_f v) (lh_f v) = true := by cases v <;> decide +kernel
theorem pd_c3 (v : Bool) : (pd_rr v).length = 37 := by cases v <;> decide +kernel
theorem pd_c4 (v : Bool) : ∀ j, j < 44 → 7 ≤ j → pj_kp j = true → (pd_rr v)[j - 7]? = some (j, 0) := by cases v <;> decide +kernel
theorem pd_c5 (v : Bool) : (pd_rr v)[34]? = some (0, 0) ∧ (pd_rr v)[36]? = some (0, 0) := by cases v <;> decide +kernel
theorem pc_t (v : Bool) : (lh_u v)[1]? = some (.inr (5, [.inr (.ref 2), .inr (.ref 3), .inl (7, 0), .inl (10, 0)])) := by cases v <;> rfl
theorem pd_t (v : Bool) : (lh_u v)[42]? = some (.inr (8, [.inr (.ref 43), .inl (7, 0), .inr (.ref 44), .inr (.ref 45), .inr (.ref 46), .inr (.ref 47), .inr (.ref 48), .inl (38, 0), .inr (.ref 49), .inl (39, 0), .inr (.ref 50), .inl (40, 0), .inl (41, 0), .inr (.ref 51)])) := by cases v <;> rfl
theorem pd_f (v : Bool) : pz_fl (lh_u v) 43 0 = true ∧ pz_fl (lh_u v) 2 1 = true := by cases v <;> decide +kernel
section LP
variable {sc : pm_Z} {w0 : pm_W} {xs ys : List Int32} {sz : Int}
theorem pc_txt {v : Bool} {g : List Int} {w : pm_W} (hw : sx_w w0 g (lh_u v) w) {s i : Int} (h8 : g[7]? = some s) (h9 : g[10]? = some i) : ∃ a nx : Int32, w[1]? = some (.inr (5, [.ref 2, .ref 3, .int a, .int nx])) ∧ a.toInt = s ∧ nx.toInt = i := by
  obtain ⟨c, hc, hr⟩ := sx_w_get hw (pc_t v)
  obtain ⟨fs, rfl, hf⟩ := sx_rc_o hr
  obtain ⟨v1, m, rfl, r1, hf⟩ := sx_f2_cons hf
  obtain ⟨v2, m, rfl, r2, hf⟩ := sx_f2_cons hf
  obtain ⟨v3, m, rfl, r3, hf⟩ := sx_f2_cons hf
  obtain ⟨v4, m, rfl, r4, hf⟩ := sx_f2_cons hf
  cases m with
  | cons _ _ => cases hf
  | nil =>
    have r1 : v1 = .ref 2 := r1
    have r2 : v2 = .ref 3 := r2
    obtain ⟨z3, a, a1, a2, a3⟩ := r3
    obtain ⟨z4, nx, b1, b2, b3⟩ := r4
    simp only at a1 a3 b1 b3
    rw [h8] at a1
    rw [h9] at b1
    cases a1
    cases b1
    subst r1 r2 a2 b2
    exact ⟨a, nx, hc, by omega, by omega⟩
/-- what is known behind the reading of all -/
def pc_P (w0 : pm_W) (v : Bool) (g : List Int) (res : Int × Int × (Nat → Int)) : Option Value → pm_W → Prop := fun r w' => ∃ g' : List Int, sx_n g' 44 (lh_f v) ∧ sx_w w0 g' (lh_u v) w' ∧ (∀ j, j < 44 → pi_kp v j = true → g'[j]? = g[j]?) ∧ (∃ x : Int32, r = some (.int x) ∧ x.toInt = res.1) ∧ (res.1 = -4 → g'[pi_ps v]? = some res.2.1 ∧ (∃ z, g'[pi_bn v]? = some z ∧ 0 ≤ z ∧ z ≤ 9) ∧ pi_H w' (pi_ka v) (pi_kb v) 0 0 res.2.2)
def pd_P (w0 : pm_W) (v : Bool) (g : List Int) (res : Int × Int × (Nat → Int)) : Option Value → pm_W → Prop := fun r w' => ∃ g' : List Int, sx_n g' 44 (lh_f v) ∧ sx_w w0 g' (lh_u v) w' ∧ (∀ j, j < 44 → pj_kp j = true → g'[j]? = g[j]?) ∧ (∃ x : Int32, r = some (.int x) ∧ x.toInt = res.1) ∧ (res.1 = -4 → g'[43]? = some res.2.1 ∧ pi_H w' 45 45 10 30 res.2.2)
set_option maxHeartbeats 4000000 in
theorem pc_loop (v : Bool) (hr : ∀ p : Int, 0 ≤ p ∧ p ≤ 5 → pi_r v p = true) (hw2 : w0[2]? = some (.inl (1, xs))) (hw43 : w0[43]? = some (.inl (0, ys))) (hT : pz_T xs ys sz) {g0 : List Int} : ∀ (f : Nat) (k : Int32) (i p : Int) (K : Nat → Int) (g : List Int) (w : pm_W), k.toInt + f = 200 → 0 ≤ k.toInt → sx_n g 44 (lh_f v) → sx_w w0 g (lh_u v) w → (∀ j, j < 44 → pi_kp v j = true → g[j]? = g0[j]?) → g[7]? = some sz → g[10]? = some i → 0 ≤ i → g[pi_ps v]? = some p → (0 ≤ p ∧ p ≤ 5) → (∃ z, g[pi_bn v]? = some z ∧ 0 ≤ z ∧ z ≤ 9) → pi_H w (pi_ka v) (pi_kb v) 0 0 K → pm_Good sc mm_32 11 [(0, .ref 1), (1, .ref (pi_dq v)), (2, .int k)] [] w 0 0 (pc_P w0 v g0 (pf xs sz f i p K)) := by
  have hx : pm_kb mm_32 mk_32 = true := (pm_mt_ok (j := 32) (x := (mm_32, 1, 0, mk_32)) rfl).2
  intro f
  induction f using Nat.strongRecOn with
  | _ f ihs =>
  intro k i p K g w hf hk0 hn hw hkeep h8 h9 hi hp hp5 hban hH
  have hT4 := hT.2.2.2.1
  obtain ⟨a, nx, t1, t3, t2⟩ := pc_txt hw h8 h9
  refine pm_ld_ok (i := .iload_n 2) (x := 2) (k := 0) (n := 1) (v := .int k) (pe_d hx (show pm_fetch mk_32 11 = some (.iload_n 2, 1, 0, 0, 0) from rfl)) rfl rfl rfl ?_
  refine pm_op_ok (i := .sipush 200) (st' := [.int 200, .int k]) (pe_d hx (show pm_fetch mk_32 12 = some (.sipush 200, 3, 0, 0, 0) from rfl)) rfl ?_
  refine pm_br2 (c := .ge) (off := 35) (x := k) (y := 200) (pe_d hx (show pm_fetch mk_32 15 = some (.if_icmp .ge 35, 3, 0, 0, 0) from rfl)) (by decide) (fun b1 => ?_) (fun b1 => ?_)
  · show pm_Good sc mm_32 50 _ _ _ _ _ _
    have q1 := pl_ct b1; simp only [pl_cp, pl_n200, t2, t3] at q1
    have ef : f = 0 := by omega
    subst ef
    show pm_Good sc mm_32 50 _ _ _ _ _ (pc_P w0 v g0 (-4, p, K))
    refine pm_op_ok (i := .bipush (-4)) (st' := [.int ((-4))]) (pe_d hx (show pm_fetch mk_32 50 = some (.bipush (-4), 2, 0, 0, 0) from rfl)) rfl ?_
    exact pm_iret (ty := .int) (pe_d hx (show pm_fetch mk_32 52 = some (.ireturn, 1, 0, 0, 0) from rfl)) rfl rfl ⟨g, hn, hw, hkeep, ⟨-4, rfl, rfl⟩, fun _ => ⟨hp, hban, hH⟩⟩
  · show pm_Good sc mm_32 18 _ _ _ _ _ _
    refine pm_ld_ok (i := .aload_n 0) (x := 0) (k := 2) (n := 1) (v := .ref 1) (pe_d hx (show pm_fetch mk_32 18 = some (.aload_n 0, 1, 0, 0, 0) from rfl)) rfl rfl rfl ?_
    refine pe_getf hx (show pm_fetch mk_32 19 = some (.getfield 28, 3, 5, 3, 80) from rfl) (by decide) t1 rfl ?_
    refine pm_ld_ok (i := .aload_n 0) (x := 0) (k := 2) (n := 1) (v := .ref 1) (pe_d hx (show pm_fetch mk_32 22 = some (.aload_n 0, 1, 0, 0, 0) from rfl)) rfl rfl rfl ?_
    refine pe_getf hx (show pm_fetch mk_32 23 = some (.getfield 19, 3, 5, 2, 79) from rfl) (by decide) t1 rfl ?_
    refine pm_br2 (c := .ge) (off := 24) (x := nx) (y := a) (pe_d hx (show pm_fetch mk_32 26 = some (.if_icmp .ge 24, 3, 0, 0, 0) from rfl)) (by decide) (fun b2 => ?_) (fun b2 => ?_)
    · show pm_Good sc mm_32 50 _ _ _ _ _ _
      have q1 := pl_cf b1; have q2 := pl_ct b2; simp only [pl_cp, pl_n200, t2, t3] at q1 q2
      obtain ⟨f, rfl⟩ : ∃ f', f = f' + 1 := ⟨f - 1, by omega⟩
      unfold pf
      rw [if_neg (by omega)]
      refine pm_op_ok (i := .bipush (-4)) (st' := [.int ((-4))]) (pe_d hx (show pm_fetch mk_32 50 = some (.bipush (-4), 2, 0, 0, 0) from rfl)) rfl ?_
      exact pm_iret (ty := .int) (pe_d hx (show pm_fetch mk_32 52 = some (.ireturn, 1, 0, 0, 0) from rfl)) rfl rfl ⟨g, hn, hw, hkeep, ⟨-4, rfl, rfl⟩, fun _ => ⟨hp, hban, hH⟩⟩
    · show pm_Good sc mm_32 29 _ _ _ _ _ _
      have q1 := pl_cf b1; have q2 := pl_cf b2; simp only [pl_cp, pl_n200, t2, t3] at q1 q2
      obtain ⟨f, rfl⟩ : ∃ f', f = f' + 1 := ⟨f - 1, by omega⟩
      refine pm_ld_ok (i := .aload_n 0) (x := 0) (k := 2) (n := 1) (v := .ref 1) (pe_d hx (show pm_fetch mk_32 29 = some (.aload_n 0, 1, 0, 0, 0) from rfl)) rfl rfl rfl ?_
      refine pe_getf hx (show pm_fetch mk_32 30 = some (.getfield 28, 3, 5, 3, 80) from rfl) (by decide) t1 rfl ?_
      refine pm_sto_ok (i := .istore_n 3) (x := 3) (k := 0) (n := 1) (pe_d hx (show pm_fetch mk_32 33 = some (.istore_n 3, 1, 0, 0, 0) from rfl)) rfl rfl (by decide) ?_
      refine pm_ld_ok (i := .aload_n 0) (x := 0) (k := 2) (n := 1) (v := .ref 1) (pe_d hx (show pm_fetch mk_32 34 = some (.aload_n 0, 1, 0, 0, 0) from rfl)) rfl rfl rfl ?_
      refine pm_ld_ok (i := .aload_n 1) (x := 1) (k := 2) (n := 1) (v := .ref (pi_dq v)) (pe_d hx (show pm_fetch mk_32 35 = some (.aload_n 1, 1, 0, 0, 0) from rfl)) rfl rfl rfl ?_
      refine pe_callV (y := (mm_31, 1, 0, mk_31)) (As := [.ref (pi_dq v)]) (rest := []) (P1 := pi_P w0 v g (pz_f xs sz i) i p K) hx (show pm_fetch mk_32 36 = some (.invokevirtual 31, 3, 31, 0, 316) from rfl) rfl rfl rfl (fun v hv => by simp only [List.mem_cons, List.not_mem_nil, or_false] at hv; rcases hv with rfl <;> rfl) t1 (show pm_cl[5]? = some _ from rfl) rfl (Nat.le_of_ble_eq_true rfl) (Nat.le_of_ble_eq_true rfl) (Nat.le_of_ble_eq_true rfl) (Nat.le_of_ble_eq_true rfl) (pi_item v hH (hr p hp5) hw2 hw43 hT ⟨hi, by omega⟩ hn h8 hban h9 hp hw) (fun r w' q => by obtain ⟨g', -, q, -⟩ := q; rw [← q.1, ← hw.1]) (fun r w' q => ?_)
      obtain ⟨g', n', w1', k', hm⟩ := q
      unfold pf
      rw [if_pos (by omega)]
      cases hps : ps_i (pz_f xs sz i) p with
      | none =>
        rw [hps] at hm
        subst hm
        show pm_Good sc mm_32 39 _ [.int 0] w' 0 0 _
        refine pm_br (c := .ne) (off := 5) (x := 0) (pe_d hx (show pm_fetch mk_32 39 = some (.ifCond .ne 5, 3, 0, 0, 0) from rfl)) (by decide) (fun q => absurd q (by decide)) (fun _ => ?_)
        show pm_Good sc mm_32 42 _ _ _ _ _ _
        refine pm_ld_ok (i := .iload_n 3) (x := 3) (k := 0) (n := 1) (v := .int nx) (pe_d hx (show pm_fetch mk_32 42 = some (.iload_n 3, 1, 0, 0, 0) from rfl)) rfl rfl rfl ?_
        exact pm_iret (ty := .int) (pe_d hx (show pm_fetch mk_32 43 = some (.ireturn, 1, 0, 0, 0) from rfl)) rfl rfl ⟨g', n', w1', fun j hj hk => by rw [k' j hj hk]; exact hkeep j hj hk, ⟨nx, rfl, t2⟩, fun h => by exfalso; simp only at h; omega⟩
      | some t =>
        rw [hps] at hm
        have hm1 := hm.1
        subst hm1
        show pm_Good sc mm_32 39 _ [.int 1] w' 0 0 _
        refine pm_br (c := .ne) (off := 5) (x := 1) (pe_d hx (show pm_fetch mk_32 39 = some (.ifCond .ne 5, 3, 0, 0, 0) from rfl)) (by decide) (fun _ => ?_) (fun q => absurd q (by decide))
        show pm_Good sc mm_32 44 _ _ _ _ _ _
        refine pm_inc (i := 2) (n := 1) (x := k) (pe_d hx (show pm_fetch mk_32 44 = some (.iinc 2 1, 3, 0, 0, 0) from rfl)) rfl (by decide) ?_
        refine pm_goto (off := (-36)) (pe_d hx (show pm_fetch mk_32 47 = some (.goto (-36), 3, 0, 0, 0) from rfl)) (by decide) ?_
        show pm_Good sc mm_32 11 _ _ _ _ _ _
        have kk := hk0
        refine pm_sub (lv' := [(0, .ref 1), (1, .ref (pi_dq v)), (2, .int (k + Int32.ofInt 1))]) (fun q hq => ?_) (ihs f (by omega) (k + Int32.ofInt 1) (i + t.1) (p + t.2) (pK K (pz_f xs sz i)) g' w' ?_ ?_ n' w1' (fun j hj hk => by rw [k' j hj hk]; exact hkeep j hj hk) (by rw [k' 7 (by omega) (by cases v <;> rfl)]; exact h8) hm.2.1 (by omega) hm.2.2.1 ⟨(ps_i_lt hp5 hps).2.1, (ps_i_lt hp5 hps).2.2⟩ hm.2.2.2.1 hm.2.2.2.2)
        · simp only [List.mem_cons, List.not_mem_nil, or_false] at hq
          rcases hq with rfl | rfl | rfl
          · exact List.mem_cons_of_mem _ (List.mem_cons_of_mem _ List.mem_cons_self)
          · exact List.mem_cons_of_mem _ (List.mem_cons_of_mem _ (List.mem_cons_of_mem _ List.mem_cons_self))
          · exact List.mem_cons_self
        · have e9 : (k + Int32.ofInt 1).toInt = k.toInt + 1 := pl_p1 hk0 (by omega)
          omega
        · have e9 : (k + Int32.ofInt 1).toInt = k.toInt + 1 := pl_p1 hk0 (by omega)
          omega
theorem pf_end {f : Nat} {i p : Int} {K : Nat → Int} (h : ¬ i < sz) : pf xs sz f i p K = (-4, p, K) := by
  cases f with
  | zero => rfl
  | succ f =>
    unfold pf
    rw [if_neg h]
theorem pd_b (v : Bool) : ∀ q ∈ lh_f v, q.1 = 41 → q.2.1 = -2147483648 ∧ q.2.2 = 2147483647 := by cases v <;> decide +kernel
theorem pd_setself {α : Type} {l : List α} {n : Nat} {a : α} (h : l[n]? = some a) : l.set n a = l := by
  apply List.ext_getElem?
  intro k
  rw [List.getElem?_set]
  by_cases hk : n = k
  · subst hk
    have := (List.getElem?_eq_some_iff.mp h).1
    rw [if_pos rfl, h]
    simp [this]
  · rw [if_neg hk]
theorem pd_n {v : Bool} {g : List Int} {z : Int} (hn : sx_n g 44 (lh_f v)) (hz : -2147483648 ≤ z ∧ z ≤ 2147483647) : sx_n (g.set 41 z) 44 (lh_f v) := by
  refine ⟨by rw [List.length_set]; exact hn.1, by rw [List.getElem?_set_ne (by decide)]; exact hn.2.1, fun q hq => ?_⟩
  by_cases h : q.1 = 41
  · have hb := pd_b v q hq h
    exact ⟨z, by rw [h, List.getElem?_set_self (by rw [hn.1]; omega)], by omega, by omega⟩
  · rw [List.getElem?_set_ne (fun e => h e.symm)]
    exact hn.2.2 q hq
theorem pd_mob {v : Bool} {g : List Int} {w : pm_W} (hw : sx_w w0 g (lh_u v) w) {s i : Int} (h8 : g[7]? = some s) (h41 : g[41]? = some i) : ∃ (a at_ : Int32) (m7 m9 m11 : Value), w[42]? = some (.inr (8, [.ref 43, .int a, .ref 44, .ref 45, .ref 46, .ref 47, .ref 48, m7, .ref 49, m9, .ref 50, m11, .int at_, .ref 51])) ∧ a.toInt = s ∧ at_.toInt = i := by
  obtain ⟨c, hc, hr⟩ := sx_w_get hw (pd_t v)
  obtain ⟨fs, rfl, hf⟩ := sx_rc_o hr
  obtain ⟨v1, m, rfl, r1, hf⟩ := sx_f2_cons hf
  obtain ⟨v2, m, rfl, r2, hf⟩ := sx_f2_cons hf
  obtain ⟨v3, m, rfl, r3, hf⟩ := sx_f2_cons hf
  obtain ⟨v4, m, rfl, r4, hf⟩ := sx_f2_cons hf
  obtain ⟨v5, m, rfl, r5, hf⟩ := sx_f2_cons hf
  obtain ⟨v6, m, rfl, r6, hf⟩ := sx_f2_cons hf
  obtain ⟨v7, m, rfl, r7, hf⟩ := sx_f2_cons hf
  obtain ⟨v8, m, rfl, r8, hf⟩ := sx_f2_cons hf
  obtain ⟨v9, m, rfl, r9, hf⟩ := sx_f2_cons hf
  obtain ⟨v10, m, rfl, r10, hf⟩ := sx_f2_cons hf
  obtain ⟨v11, m, rfl, r11, hf⟩ := sx_f2_cons hf
  obtain ⟨v12, m, rfl, r12, hf⟩ := sx_f2_cons hf
  obtain ⟨v13, m, rfl, r13, hf⟩ := sx_f2_cons hf
  obtain ⟨v14, m, rfl, r14, hf⟩ := sx_f2_cons hf
  cases m with
  | cons _ _ => cases hf
  | nil =>
    have r1 : v1 = .ref 43 := r1
    have r3 : v3 = .ref 44 := r3
    have r4 : v4 = .ref 45 := r4
    have r5 : v5 = .ref 46 := r5
    have r6 : v6 = .ref 47 := r6
    have r7 : v7 = .ref 48 := r7
    have r9 : v9 = .ref 49 := r9
    have r11 : v11 = .ref 50 := r11
    have r14 : v14 = .ref 51 := r14
    obtain ⟨z3, a, a1, a2, a3⟩ := r2
    obtain ⟨z4, at_, b1, b2, b3⟩ := r13
    simp only at a1 a3 b1 b3
    rw [h8] at a1
    rw [h41] at b1
    cases a1
    cases b1
    subst r1 r3 r4 r5 r6 r7 r9 r11 r14 a2 b2
    exact ⟨a, at_, v8, v10, v12, hc, by omega, by omega⟩
def pd_ok (j : Nat) : Bool := ll_ok j && !Nat.beq j 41
theorem pd_okw (v : Bool) : lo_w pd_ok ((lh_u v).set 42 (.inr (8, []))) = true := by cases v <;> decide +kernel
theorem pd_step {v : Bool} {g : List Int} {w : pm_W} {i : Int} {a at_ : Int32} {m7 m9 m11 : Value} (hn : sx_n g 44 (lh_f v)) (hw : sx_w w0 g (lh_u v) w) (t1 : w[42]? = some (.inr (8, [.ref 43, .int a, .ref 44, .ref 45, .ref 46, .ref 47, .ref 48, m7, .ref 49, m9, .ref 50, m11, .int at_, .ref 51]))) (h41 : g[41]? = some i) (t2 : at_.toInt = i) (hi : 0 ≤ i ∧ i ≤ 900) : sx_w w0 (g.set 41 (i + 1)) (lh_u v) (w.set 42 (.inr (8, [.ref 43, .int a, .ref 44, .ref 45, .ref 46, .ref 47, .ref 48, m7, .ref 49, m9, .ref 50, m11, .int (at_ + 1), .ref 51]))) := by
  obtain ⟨c, hc, hr⟩ := sx_w_get hw (pd_t v)
  rw [t1] at hc
  cases hc
  obtain ⟨-, r1, r2, r3, r4, r5, r6, r7, r8, r9, r10, r11, r12, r13, r14, -⟩ := hr
  have e1 : (at_ + 1).toInt = i + 1 := by rw [pl_p1 (by omega) (by omega), t2]
  have hg : ∀ j, j ≠ 41 → (g.set 41 (i + 1))[j]? = g[j]? := fun j hj => List.getElem?_set_ne (fun e => hj e.symm)
  have tr : ∀ {j : Nat} {x : Value}, j ≠ 41 → sx_r g (.inl (j, 0)) x → sx_r (g.set 41 (i + 1)) (.inl (j, 0)) x := fun hj ⟨z, y, y1, y2, y3⟩ => ⟨z, y, by rw [hg _ hj]; exact y1, y2, y3⟩
  have rc : sx_rc w0 (g.set 41 (i + 1)) 42 (.inr (8, [.inr (.ref 43), .inl (7, 0), .inr (.ref 44), .inr (.ref 45), .inr (.ref 46), .inr (.ref 47), .inr (.ref 48), .inl (38, 0), .inr (.ref 49), .inl (39, 0), .inr (.ref 50), .inl (40, 0), .inl (41, 0), .inr (.ref 51)])) (.inr (8, [.ref 43, .int a, .ref 44, .ref 45, .ref 46, .ref 47, .ref 48, m7, .ref 49, m9, .ref 50, m11, .int (at_ + 1), .ref 51])) :=
    ⟨rfl, rfl, tr (by decide) r2, rfl, rfl, rfl, rfl, rfl, tr (by decide) r8, rfl, tr (by decide) r10, rfl, tr (by decide) r12, ⟨i + 1, at_ + 1, List.getElem?_set_self (by rw [hn.1]; omega), rfl, by omega⟩, rfl, trivial⟩
  have h1 : sx_w w0 g ((lh_u v).set 42 (.inr (8, []))) (w.set 42 (.inr (8, []))) := sx_w_set hw ⟨rfl, trivial⟩
  have h2 : sx_w w0 (g.set 41 (i + 1)) ((lh_u v).set 42 (.inr (8, []))) (w.set 42 (.inr (8, []))) := lo_w_ok (fun j hj => hg j (fun e => by subst e; cases hj)) (pd_okw v) h1
  have h3 := sx_w_set h2 rc
  rw [List.set_set, List.set_set, pd_setself (pd_t v)] at h3
  exact h3
theorem pd_c {i : Int} {at_ : Int32} (hT : pz_T xs ys sz) (hi : 0 ≤ i) (hs : i < sz) (t2 : at_.toInt = i) : (ys.getD at_.toNatClampNeg 0).toInt = pz_f xs sz i 0 := by
  unfold pz_f pz_e
  rw [if_pos ⟨by omega, by omega⟩, pz_cl, t2, (hT.2.2.2.2.2 i.toNat (by omega)).1]
  congr 2
  omega
set_option maxHeartbeats 4000000 in
theorem pd_loop (v : Bool) (hr : ∀ p : Int, 0 ≤ p ∧ p ≤ 5 → pj_r v p = true) (hw2 : w0[2]? = some (.inl (1, xs))) (hw43 : w0[43]? = some (.inl (0, ys))) (hT : pz_T xs ys sz) {g0 : List Int} : ∀ (f : Nat) (i p : Int) (K : Nat → Int) (g : List Int) (w : pm_W), sz - i ≤ f → sx_n g 44 (lh_f v) → sx_w w0 g (lh_u v) w → (∀ j, j < 44 → pj_kp j = true → g[j]? = g0[j]?) → g[7]? = some sz → g[41]? = some i → 0 ≤ i → g[43]? = some p → (0 ≤ p ∧ p ≤ 5) → pi_H w 45 45 10 30 K → pm_Good sc mm_140 9 [(0, .ref 42)] [] w 0 0 (pd_P w0 v g0 (pf xs sz f i p K)) := by
  have hx : pm_kb mm_140 mk_140 = true := (pm_mt_ok (j := 140) (x := (mm_140, 0, 0, mk_140)) rfl).2
  intro f
  induction f using Nat.strongRecOn with
  | _ f ihs =>
  intro i p K g w hf hn hw hkeep h8 h41 hi hp hp5 hH
  have hT4 := hT.2.2.2.1
  obtain ⟨a, at_, m7, m9, m11, t1, t3, t2⟩ := pd_mob hw h8 h41
  refine pm_ld_ok (i := .aload_n 0) (x := 0) (k := 2) (n := 1) (v := .ref 42) (pe_d hx (show pm_fetch mk_140 9 = some (.aload_n 0, 1, 0, 0, 0) from rfl)) rfl rfl rfl ?_
  refine pe_getf hx (show pm_fetch mk_140 10 = some (.getfield 73, 3, 8, 12, 785) from rfl) (by decide) t1 rfl ?_
  refine pm_ld_ok (i := .aload_n 0) (x := 0) (k := 2) (n := 1) (v := .ref 42) (pe_d hx (show pm_fetch mk_140 13 = some (.aload_n 0, 1, 0, 0, 0) from rfl)) rfl rfl rfl ?_
  refine pe_getf hx (show pm_fetch mk_140 14 = some (.getfield 69, 3, 8, 1, 774) from rfl) (by decide) t1 rfl ?_
  refine pm_br2 (c := .ge) (off := 36) (x := at_) (y := a) (pe_d hx (show pm_fetch mk_140 17 = some (.if_icmp .ge 36, 3, 0, 0, 0) from rfl)) (by decide) (fun b1 => ?_) (fun b1 => ?_)
  · show pm_Good sc mm_140 53 _ _ _ _ _ _
    have q1 := pl_ct b1; simp only [pl_cp, t2, t3] at q1
    have e9 : pf xs sz f i p K = (-4, p, K) := pf_end (by omega)
    rw [e9]
    refine pm_op_ok (i := .bipush (-4)) (st' := [.int ((-4))]) (pe_d hx (show pm_fetch mk_140 53 = some (.bipush (-4), 2, 0, 0, 0) from rfl)) rfl ?_
    exact pm_iret (ty := .int) (pe_d hx (show pm_fetch mk_140 55 = some (.ireturn, 1, 0, 0, 0) from rfl)) rfl rfl ⟨g, hn, hw, hkeep, ⟨-4, rfl, rfl⟩, fun _ => ⟨hp, hH⟩⟩
  · show pm_Good sc mm_140 20 _ _ _ _ _ _
    have q1 := pl_cf b1; simp only [pl_cp, t2, t3] at q1
    obtain ⟨f, rfl⟩ : ∃ f', f = f' + 1 := ⟨f - 1, by omega⟩
    refine pm_ld_ok (i := .aload_n 0) (x := 0) (k := 2) (n := 1) (v := .ref 42) (pe_d hx (show pm_fetch mk_140 20 = some (.aload_n 0, 1, 0, 0, 0) from rfl)) rfl rfl rfl ?_
    refine pe_getf hx (show pm_fetch mk_140 21 = some (.getfield 73, 3, 8, 12, 785) from rfl) (by decide) t1 rfl ?_
    refine pm_sto_ok (i := .istore_n 1) (x := 1) (k := 0) (n := 1) (pe_d hx (show pm_fetch mk_140 24 = some (.istore_n 1, 1, 0, 0, 0) from rfl)) rfl rfl (by decide) ?_
    refine pm_ld_ok (i := .aload_n 0) (x := 0) (k := 2) (n := 1) (v := .ref 42) (pe_d hx (show pm_fetch mk_140 25 = some (.aload_n 0, 1, 0, 0, 0) from rfl)) rfl rfl rfl ?_
    refine pm_op_ok (i := .dup) (st' := [.ref 42, .ref 42]) (pe_d hx (show pm_fetch mk_140 26 = some (.dup, 1, 0, 0, 0) from rfl)) rfl ?_
    refine pe_getf hx (show pm_fetch mk_140 27 = some (.getfield 73, 3, 8, 12, 785) from rfl) (by decide) t1 rfl ?_
    refine pm_op_ok (i := .iconst 1) (st' := [.int 1, .int at_, .ref 42]) (pe_d hx (show pm_fetch mk_140 30 = some (.iconst 1, 1, 0, 0, 0) from rfl)) rfl ?_
    refine pm_op_ok (i := .iadd) (st' := [.int ((at_) + (1)), .ref 42]) (pe_d hx (show pm_fetch mk_140 31 = some (.iadd, 1, 0, 0, 0) from rfl)) rfl ?_
    refine pe_putf2 hx (show pm_fetch mk_140 32 = some (.putfield 73, 3, 8, 12, 785) from rfl) t1 (Nat.le_of_ble_eq_true rfl) (show pm_cl[8]? = some _ from rfl) rfl rfl ?_
    have hwB : sx_w w0 (g.set 41 (i + 1)) (lh_u v) (w.set 42 (.inr (8, [.ref 43, .int a, .ref 44, .ref 45, .ref 46, .ref 47, .ref 48, m7, .ref 49, m9, .ref 50, m11, .int (at_ + 1), .ref 51]))) := pd_step hn hw t1 h41 t2 (by omega)
    have u1 : ∀ j, j ≠ 41 → (g.set 41 (i + 1))[j]? = g[j]? := fun j hj => List.getElem?_set_ne (fun e => hj e.symm)
    have hnB : sx_n (g.set 41 (i + 1)) 44 (lh_f v) := pd_n hn (by omega)
    have t1b : (w.set 42 (.inr (8, [.ref 43, .int a, .ref 44, .ref 45, .ref 46, .ref 47, .ref 48, m7, .ref 49, m9, .ref 50, m11, .int (at_ + 1), .ref 51])))[42]? = some (.inr (8, [.ref 43, .int a, .ref 44, .ref 45, .ref 46, .ref 47, .ref 48, m7, .ref 49, m9, .ref 50, m11, .int (at_ + 1), .ref 51])) := List.getElem?_set_self (List.getElem?_eq_some_iff.mp t1).1
    refine pm_ld_ok (i := .aload_n 0) (x := 0) (k := 2) (n := 1) (v := .ref 42) (pe_d hx (show pm_fetch mk_140 35 = some (.aload_n 0, 1, 0, 0, 0) from rfl)) rfl rfl rfl ?_
    refine pm_ld_ok (i := .aload_n 0) (x := 0) (k := 2) (n := 1) (v := .ref 42) (pe_d hx (show pm_fetch mk_140 36 = some (.aload_n 0, 1, 0, 0, 0) from rfl)) rfl rfl rfl ?_
    refine pe_getf hx (show pm_fetch mk_140 37 = some (.getfield 7, 3, 8, 0, 773) from rfl) (by decide) t1b rfl ?_
    refine pm_ld_ok (i := .iload_n 1) (x := 1) (k := 0) (n := 1) (v := .int at_) (pe_d hx (show pm_fetch mk_140 40 = some (.iload_n 1, 1, 0, 0, 0) from rfl)) rfl rfl rfl ?_
    refine pm_iald (q := 43) (xs := ys) (pe_d hx (show pm_fetch mk_140 41 = some (.iaload, 1, 0, 0, 0) from rfl)) (by rw [List.getElem?_set_ne (by decide)]; exact pz_fl_ok hw (pd_f v).1 hw43) (pl_in (by omega) (by rw [hT.2.1]; omega)) ?_
    refine pe_callV (y := (mm_139, 1, 0, mk_139)) (As := [.int (ys.getD at_.toNatClampNeg 0)]) (rest := []) (P1 := pj_P w0 v (g.set 41 (i + 1)) (pz_f xs sz i) i p K) hx (show pm_fetch mk_140 42 = some (.invokevirtual 94, 3, 139, 0, 832) from rfl) rfl rfl rfl (fun v hv => by simp only [List.mem_cons, List.not_mem_nil, or_false] at hv; rcases hv with rfl <;> rfl) t1b (show pm_cl[8]? = some _ from rfl) rfl (Nat.le_of_ble_eq_true rfl) (Nat.le_of_ble_eq_true rfl) (Nat.le_of_ble_eq_true rfl) (Nat.le_of_ble_eq_true rfl) (pj_item v (by obtain ⟨as, bs, q1, q2, q3⟩ := hH; exact ⟨as, bs, by rw [List.getElem?_set_ne (by decide)]; exact q1, by rw [List.getElem?_set_ne (by decide)]; exact q2, q3⟩) (hr p hp5) hw2 hw43 hT ⟨hi, by omega⟩ hnB (by rw [u1 7 (by omega)]; exact h8) (List.getElem?_set_self (by rw [hn.1]; omega)) (by rw [u1 43 (by omega)]; exact hp) (pd_c hT hi (by omega) t2) hwB) (fun r w' q => by obtain ⟨g', -, q, -⟩ := q; rw [← q.1]; exact hwB.1) (fun r w' q => ?_)
    obtain ⟨g', n', w1', k', hm⟩ := q
    unfold pf
    rw [if_pos (by omega)]
    cases hps : ps_i (pz_f xs sz i) p with
    | none =>
      rw [hps] at hm
      subst hm
      show pm_Good sc mm_140 45 _ [.int 0] w' 0 0 _
      refine pm_br (c := .ne) (off := 5) (x := 0) (pe_d hx (show pm_fetch mk_140 45 = some (.ifCond .ne 5, 3, 0, 0, 0) from rfl)) (by decide) (fun q => absurd q (by decide)) (fun _ => ?_)
      show pm_Good sc mm_140 48 _ _ _ _ _ _
      refine pm_ld_ok (i := .iload_n 1) (x := 1) (k := 0) (n := 1) (v := .int at_) (pe_d hx (show pm_fetch mk_140 48 = some (.iload_n 1, 1, 0, 0, 0) from rfl)) rfl rfl rfl ?_
      exact pm_iret (ty := .int) (pe_d hx (show pm_fetch mk_140 49 = some (.ireturn, 1, 0, 0, 0) from rfl)) rfl rfl ⟨g', n', w1', fun j hj hk => by rw [k' j hj hk, u1 j (fun e => by subst e; cases hk)]; exact hkeep j hj hk, ⟨at_, rfl, t2⟩, fun h => by exfalso; simp only at h; omega⟩
    | some t =>
      rw [hps] at hm
      have hm1 := hm.1
      subst hm1
      show pm_Good sc mm_140 45 _ [.int 1] w' 0 0 _
      refine pm_br (c := .ne) (off := 5) (x := 1) (pe_d hx (show pm_fetch mk_140 45 = some (.ifCond .ne 5, 3, 0, 0, 0) from rfl)) (by decide) (fun _ => ?_) (fun q => absurd q (by decide))
      show pm_Good sc mm_140 50 _ _ _ _ _ _
      refine pm_goto (off := (-41)) (pe_d hx (show pm_fetch mk_140 50 = some (.goto (-41), 3, 0, 0, 0) from rfl)) (by decide) ?_
      show pm_Good sc mm_140 9 _ _ _ _ _ _
      refine pm_sub (lv' := [(0, .ref 42)]) (fun q hq => ?_) (ihs f (by omega) (i + t.1) (p + t.2) (pK K (pz_f xs sz i)) g' w' (by have := (ps_i_lt hp5 hps).1; omega) n' w1' (fun j hj hk => by rw [k' j hj hk, u1 j (fun e => by subst e; cases hk)]; exact hkeep j hj hk) (by rw [k' 7 (by omega) rfl, u1 7 (by omega)]; exact h8) hm.2.1 (by omega) hm.2.2.1 ⟨(ps_i_lt hp5 hps).2.1, (ps_i_lt hp5 hps).2.2⟩ hm.2.2.2)
      simp only [List.mem_cons, List.not_mem_nil, or_false] at hq
      subst hq
      exact List.mem_cons_of_mem _ List.mem_cons_self
end LP
