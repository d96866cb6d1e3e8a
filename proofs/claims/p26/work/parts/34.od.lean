/-! the oracles hold: the class's number -/
section PZ2
variable {sc : pm_Z} {w0 : pm_W} {xs ys : List Int32} {sz i : Int}
theorem pz_fD {e : Nat → Int} {o : Nat} : (¬ (48 ≤ e o ∧ e o ≤ 57) → ps_D e o = 0) ∧ ((48 ≤ e o ∧ e o ≤ 57) → ¬ (48 ≤ e (o + 1) ∧ e (o + 1) ≤ 57) → ps_D e o = 1 ∧ ps_V e o = e o - 48) ∧ ((48 ≤ e o ∧ e o ≤ 57) → (48 ≤ e (o + 1) ∧ e (o + 1) ≤ 57) → ps_D e o = 2 ∧ ps_V e o = 10 * (e o - 48) + e (o + 1) - 48) := by
  refine ⟨fun h => ?_, fun h1 h2 => ?_, fun h1 h2 => ?_⟩
  · unfold ps_D
    rw [if_neg h]
  · have e1 : ps_D e o = 1 := by
      unfold ps_D
      rw [if_pos h1, if_neg h2]
    refine ⟨e1, ?_⟩
    unfold ps_V
    rw [e1, if_neg (by decide)]
  · have e1 : ps_D e o = 2 := by
      unfold ps_D
      rw [if_pos h1, if_pos h2]
    refine ⟨e1, ?_⟩
    unfold ps_V
    rw [e1, if_pos rfl]
theorem pz_v1 {a : Int32} (h : 0 ≤ a.toInt ∧ a.toInt ≤ 1000) : (a - 48).toInt = a.toInt - 48 := by
  rw [sx_sub (by rw [pl_n48]; omega) (by rw [pl_n48]; omega), pl_n48]
theorem pz_v2 {a b : Int32} (h : 0 ≤ a.toInt ∧ a.toInt ≤ 1000) (h2 : 0 ≤ b.toInt ∧ b.toInt ≤ 1000) : (10 * (a - 48) + b - 48).toInt = 10 * (a.toInt - 48) + b.toInt - 48 := by
  have e1 := pz_v1 h
  have e2 : (10 * (a - 48)).toInt = 10 * (a.toInt - 48) := by
    rw [sx_mul (by rw [pl_n10, e1]; omega) (by rw [pl_n10, e1]; omega), pl_n10, e1]
  have e3 : (10 * (a - 48) + b).toInt = 10 * (a.toInt - 48) + b.toInt := by
    rw [sx_add (by rw [e2]; omega) (by rw [e2]; omega), e2]
  rw [sx_sub (by rw [e3, pl_n48]; omega) (by rw [e3, pl_n48]; omega), e3, pl_n48]
theorem pz_set_self {w : pm_W} {q : Nat} {c : pm_C} (h : w[q]? = some c) : w.set q c = w := by
  apply List.ext_getElem?
  intro k
  rw [List.getElem?_set]
  by_cases hk : q = k
  · subst hk
    rw [if_pos rfl, h]
    have := (List.getElem?_eq_some_iff.mp h).1
    simp [this]
  · rw [if_neg hk]
set_option maxHeartbeats 4000000 in
theorem pz_20 {n : Nat} {env : sx_N} {as : List sx_V} {aw : List sx_C} {outs : List sx_O} {g : List Int} {As : List Value} {w : pm_W} (h : pz_o20 n env as aw = some outs) (hG : pz_G w0 xs ys sz i g) (hn : sx_n g n env) (hA : sx_f2 (sx_r g) as As) (hw : sx_w w0 g aw w) : pm_GoodM sc mm_20 As w (fun r w' => ∃ o ∈ outs, ∃ g', g <+: g' ∧ sx_mo w0 g' o r w') := by
  obtain ⟨g1, g2, hT, hi, g8, g44, hL⟩ := hG
  unfold pz_o20 at h
  split at h
  · rename_i r k d c _ h3
    split at h
    · rename_i hc
      obtain ⟨c1, c2, c3, c4, c5, c6, c7, c8, c9, c10⟩ := hc
      cases h
      obtain ⟨v1, m, rfl, r1, hA⟩ := sx_f2_cons hA
      obtain ⟨v2, m, rfl, r2, hA⟩ := sx_f2_cons hA
      cases m with
      | cons _ _ => cases hA
      | nil =>
        subst c1
        have r1 : v1 = .ref 1 := r1
        subst r1
        obtain ⟨z, kk, k1, rfl, k3⟩ := r2
        rw [c6, hn.2.1] at k1
        cases k1
        have kz : kk.toInt = k.2 := by omega
        obtain ⟨s, nx, t1, t2, t3⟩ := pz_txt_ok hw (pz_is_ok c2) g8 g44
        have hw2 := pz_fl_ok hw c3 g1
        obtain ⟨cc, hw3, hrc⟩ := sx_w_get hw h3
        obtain ⟨ns, rfl, n1, -, -, n4⟩ := sx_rc_a hrc
        rw [c4] at hw3
        rw [c5] at n1
        have hlw : 4 ≤ w.length := (List.getElem?_eq_some_iff.mp hw3).1
        obtain ⟨o, rfl⟩ : ∃ o : Nat, d = (o : Int) := ⟨d.toNat, by omega⟩
        have ho : 1 ≤ o ∧ o ≤ 13 := by omega
        have hsz : s.toInt ≤ 200 := by have := hT.2.2.2.1; omega
        have hnx0 : 0 ≤ nx.toInt ∧ nx.toInt ≤ 900 := by omega
        have ex1 := pl_p1 (a := nx) hnx0.1 (by omega)
        have ex2 := pl_p1 (a := nx + 1) (by omega) (by omega)
        have eE : (pl_E xs s nx).toInt = pz_f xs sz i o := by
          rw [pl_E_e, t2, t3]
          rfl
        have eE1 : (pl_E xs s (nx + 1)).toInt = pz_f xs sz i (o + 1) := by
          rw [pl_E_e, t2, ex1, t3]
          unfold pz_f
          congr 1
          omega
        obtain ⟨l1, l2⟩ := hL.2 o ho.1 ho.2
        obtain ⟨f0, f1, f2⟩ := pz_fD (e := pz_f xs sz i) (o := o)
        have b0 := pz_e_rng hT (i + o)
        have b1 := pz_e_rng hT (i + ((o + 1 : Nat) : Int))
        have hw0 : (w.set 1 (.inr (5, [.ref 2, .ref 3, .int s, .int nx]))).set 3 (.inl (0, ns)) = w := by
          rw [pz_set_self t1, pz_set_self hw3]
        have fin : ∀ (a : Int32) (dd : Nat) (x : Int32) (m : Int), a.toInt = i + (o + dd : Nat) → x.toInt = ps_V (pz_f xs sz i) o → (ps_D (pz_f xs sz i) o : Int) = dd → (0 ≤ x.toInt ∧ x.toInt ≤ m) → sx_mo w0 g (n, (61 + o, (dd : Int), (dd : Int)) :: (74 + o, 0, m) :: env, some (.inl (0, 1)), (aw.set 1 (pz_txt ((o + dd : Nat) : Int))).set 3 (.inl (0, 5, false, (k.2.toNat, .inl (74 + o, 0)) :: c.2.2.2.filter (fun q => !Nat.beq q.1 k.2.toNat)))) (some (.int 1)) ((w.set 1 (.inr (5, [.ref 2, .ref 3, .int s, .int a]))).set 3 (.inl (0, ns.set kk.toNatClampNeg x))) := by
          intro a dd x m ha hx hD hm
          refine ⟨pz_n_ok (pz_n_ok hn l2 (by simp only; omega)) l1 (by simp only; omega), pz_r_ok hn rfl, ?_⟩
          have r1 : sx_rc w0 g 1 (pz_txt ((o + dd : Nat) : Int)) (.inr (5, [.ref 2, .ref 3, .int s, .int a])) := ⟨rfl, rfl, rfl, pz_s_ok g8 t2, ⟨i, a, g44, rfl, ha⟩, trivial⟩
          have r3 : sx_rc w0 g 3 (.inl (0, 5, false, (k.2.toNat, .inl (74 + o, 0)) :: c.2.2.2.filter (fun q => !Nat.beq q.1 k.2.toNat))) (.inl (0, ns.set kk.toNatClampNeg x)) := by
            refine ⟨rfl, ?_, (fun q => by cases q), (fun q => by cases q), fun q hq => ?_⟩
            · simp only
              rw [List.length_set]
              exact n1
            · have eK : kk.toNatClampNeg = k.2.toNat := by rw [pz_cl, kz]
              rcases List.mem_cons.mp hq with rfl | hq
              · refine ⟨x, ?_, pz_s_ok l2 hx⟩
                simp only
                rw [eK, List.getElem?_set_self (by omega)]
              · obtain ⟨q1, q2⟩ := List.mem_filter.mp hq
                obtain ⟨y, y1, y2⟩ := n4 q q1
                refine ⟨y, ?_, y2⟩
                simp only
                rw [eK, List.getElem?_set_ne (fun e => ?_)]
                · exact y1
                · rw [e, Nat.beq_refl] at q2
                  cases q2
          exact sx_w_set (sx_w_set hw r1) r3
        have key : pm_GoodM sc mm_20 [.ref 1, .int kk] ((w.set 1 (.inr (5, [.ref 2, .ref 3, .int s, .int nx]))).set 3 (.inl (0, ns))) (fun r w' => ∃ o' ∈ pz_r20 n env aw k.2.toNat ((o : Int).toNat) c.2.2.2, ∃ g', g <+: g' ∧ sx_mo w0 g' o' r w') := by
          rw [Int.toNat_natCast]
          refine pl_20 (Wd := fun a b => (w.set 1 (.inr (5, [.ref 2, .ref 3, .int s, .int a]))).set 3 (.inl (0, b))) (xs := xs) (fun a b => ?_) (fun a b => ?_) (fun a b => ?_) (fun a b c => ?_) (fun a b c => ?_) hT.1 hT.2.2.2.2.1 hsz n1 (by omega) (fun q => ?_) (fun q1 q2 => ?_) (fun q1 q2 => ?_)
          · rw [List.getElem?_set_ne (by decide), List.getElem?_set_self (by omega)]
          · rw [List.getElem?_set_ne (by decide), List.getElem?_set_ne (by decide)]
            exact hw2
          · rw [List.getElem?_set_self (by rw [List.length_set]; omega)]
          · rw [List.set_comm _ _ (by decide), List.set_set]
          · rw [List.set_set]
          · have hD := f0 (fun z => q ⟨by omega, by omega⟩)
            refine ⟨_, List.mem_cons_self, g, List.prefix_rfl, pz_n_ok hn l1 (by rw [hD]; exact ⟨Int.le_refl _, Int.le_refl _⟩), pz_r_ok hn rfl, ?_⟩
            simp only
            rw [hw0]
            exact hw
          · obtain ⟨hD, hV⟩ := f1 ⟨by have := q1.1; omega, by have := q1.2; omega⟩ (fun z => q2 ⟨by omega, by omega⟩)
            have hv := pz_v1 (a := pl_E xs s nx) (by unfold pz_f at eE; omega)
            have h9 := q1
            unfold pl_fig at h9
            exact ⟨_, List.mem_cons_of_mem _ List.mem_cons_self, g, List.prefix_rfl, fin (nx + 1) 1 _ 9 (by omega) (by rw [hv, hV, eE]) (by omega) (by rw [hv]; omega)⟩
          · obtain ⟨hD, hV⟩ := f2 ⟨by have := q1.1; omega, by have := q1.2; omega⟩ ⟨by have := q2.1; omega, by have := q2.2; omega⟩
            have hv := pz_v2 (a := pl_E xs s nx) (b := pl_E xs s (nx + 1)) (by unfold pz_f at eE; omega) (by unfold pz_f at eE1; omega)
            have h9 := q1
            have h8 := q2
            unfold pl_fig at h9 h8
            exact ⟨_, List.mem_cons_of_mem _ (List.mem_cons_of_mem _ List.mem_cons_self), g, List.prefix_rfl, fin (nx + 1 + 1) 2 _ 99 (by omega) (by rw [hv, hV, eE, eE1]) (by omega) (by rw [hv]; omega)⟩
        rw [hw0] at key
        exact key
    · cases h
  · cases h
end PZ2
