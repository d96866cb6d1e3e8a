/-! the beginning -/
theorem li_lg {g g2 : List Int} {lv : pm_L} (e : g2[1]? = g[1]?) (h : sx_l g lh_l lv) : sx_l g2 lh_l lv := by
  obtain ⟨⟨i0, v0⟩, m0, rfl, ⟨e0, r0⟩, h⟩ := sx_f2_cons h
  obtain ⟨⟨i1, v1⟩, m1, rfl, ⟨e1, r1⟩, h⟩ := sx_f2_cons h
  obtain ⟨⟨i2, v2⟩, m2, rfl, ⟨e2, r2⟩, h⟩ := sx_f2_cons h
  obtain ⟨⟨i3, v3⟩, m3, rfl, ⟨e3, r3⟩, h⟩ := sx_f2_cons h
  cases m3 with
  | cons _ _ => cases h
  | nil =>
    obtain ⟨zz, y, y1, y2, y3⟩ := r3
    exact ⟨⟨e0, r0⟩, ⟨e1, r1⟩, ⟨e2, r2⟩, ⟨e3, ⟨zz, y, by rw [e]; exact y1, y2, y3⟩⟩, trivial⟩
def li_o8 (j : Nat) : Bool := ll_ok j && !Nat.beq j 8
theorem li_o8_i {j : Nat} (h : li_o8 j = true) : j ≠ 8 := by
  unfold li_o8 at h
  simp only [Bool.and_eq_true, Bool.not_eq_true'] at h
  intro e
  subst e
  cases h.2
theorem li_e8 (v : Bool) : ∀ q ∈ lh_e v, q.1 = 8 → q.2.1 ≤ 0 ∧ 5 ≤ q.2.2 := by cases v <;> decide +kernel
def li_Z : List sx_C := (pi_ob (lh_z false) 4 4 (.inl (0, 4))).set 44 (.inl (0, 50, false, []))
theorem li_ZA : ((((((((lh_z0.set 2 (.inl (1, 200, true, []))).set 43 (.inl (0, 200, true, []))).set 6 (.inl (0, 20, true, []))).set 7 (.inl (0, 20, true, []))).set 23 (.inl (0, 6, true, []))).set 24 (.inl (0, 6, true, []))).set 25 (.inl (0, 6, true, []))).set 50 (.inl (0, 6, true, []))).set 44 (.inl (0, 50, false, [])) = li_Z := rfl
theorem li_Zo : lo_w li_o8 li_Z = true := by decide +kernel
theorem li_Zt : ∃ o, li_Z[4]? = some (.inr o) ∧ o.2[4]? = some (.inl (0, 4)) := ⟨_, rfl, rfl⟩
theorem li_Ze : (pi_ob li_Z 4 4 (.inl (8, 0))).set 44 (.inl (0, 50, true, [(0, .inl (8, 0))])) = lh_z false := rfl
theorem li_Zq : lh_z0[2]? = some (.inl (1, 200, false, [])) ∧ lh_z0[43]? = some (.inl (0, 200, false, [])) ∧ lh_z0[6]? = some (.inl (0, 20, false, lh_sp 0 lh_tA)) ∧ lh_z0[7]? = some (.inl (0, 20, false, lh_sp 0 lh_tB)) ∧ lh_z0[44]? = some (.inl (0, 50, false, (0, .inl (0, 4)) :: (lh_sp 10 lh_tA ++ lh_sp 30 lh_tC))) := ⟨rfl, rfl, rfl, rfl, rfl⟩
theorem li_Zs : lh_z0[23]? = some (.inl (0, 6, false, lh_sp 0 lh_zs)) ∧ lh_z0[24]? = some (.inl (0, 6, false, lh_sp 0 lh_zs)) ∧ lh_z0[25]? = some (.inl (0, 6, false, lh_sp 0 lh_zs)) ∧ lh_z0[50]? = some (.inl (0, 6, false, lh_sp 0 lh_zs)) := ⟨rfl, rfl, rfl, rfl⟩
theorem li_n8s {g : List Int} {n : Nat} {env : sx_N} (h : sx_n g n env) (h8 : 8 < n) {z : Int} (hz : 0 ≤ z ∧ z ≤ 5) (hb : ∀ q ∈ env, q.1 = 8 → q.2.1 ≤ 0 ∧ 5 ≤ q.2.2) : sx_n (g.set 8 z) n env := by
  refine ⟨by rw [List.length_set]; exact h.1, by rw [List.getElem?_set_ne (by decide)]; exact h.2.1, fun q hq => ?_⟩
  by_cases e : q.1 = 8
  · have := hb q hq e
    exact ⟨z, by rw [e, List.getElem?_set_self (by rw [h.1]; exact h8)], by omega, by omega⟩
  · rw [List.getElem?_set_ne (fun e' => e e'.symm)]
    exact h.2.2 q hq
/-- what the splices of the beginning say -/
theorem li_sg0 {g : List Int} {zs : List Int32} {b : Nat} {l : List Int} (h0 : g[0]? = some 0) (h : ∀ s ∈ lh_sp b l, ∃ x, zs[s.1]? = some x ∧ sx_r g s.2 (.int x)) (j : Nat) (hj : j < l.length) : (zs.getD (b + j) 0).toInt = l.getD j 0 := by
  obtain ⟨x, x1, z, y, u1, u2, u3⟩ := h (b + j, .inl (0, l.getD j 0)) (List.mem_map.mpr ⟨j, List.mem_range.mpr hj, rfl⟩)
  have x1 : zs[b + j]? = some x := x1
  have u1 : g[0]? = some z := u1
  have u3 : y.toInt = z + l.getD j 0 := u3
  rw [h0] at u1
  cases u1
  cases u2
  have e : zs.getD (b + j) 0 = x := by
    rw [List.getD_eq_getElem?_getD, x1]
    rfl
  rw [e]
  omega
theorem li_kk0 : ∀ j : Nat, j < 20 → (0 ≤ lh_tA.getD j 0 → lh_tC.getD j 0 = lh_tB.getD j 0) ∧ (lh_tA.getD j 0 < 0 → lh_tB.getD j 0 = lh_tA.getD j 0) := by decide
theorem li_zz0 : ∀ j : Nat, j < 6 → lh_zs.getD j 0 = 0 := by decide
theorem li_l0 : lh_tA.length = 20 ∧ lh_tB.length = 20 ∧ lh_tC.length = 20 ∧ lh_zs.length = 6 := ⟨rfl, rfl, rfl, rfl⟩
set_option maxHeartbeats 4000000 in
theorem li_0 {sc : pm_Z} (hsc : sc.1 ≤ 320) : pm_Good sc mm_L 0 [(0, .retAddr 3)] [] [] 0 0 li_Q := by
  have h : sx_run (fun _ => []) (fun _ => none) (fun _ _ _ _ => none, fun _ _ _ _ _ => none) 100000 lh_x (lh_a 18) [lh_h0] false 0 0 0 7 [(1, (-1), (-1)), (2, 0, 0), (3, 0, 0), (4, 0, 0), (5, 0, 0), (6, 0, 0)] [(0, .inr (.retAddr 3))] [] [] lh_k = true := by
    rw [← sx_runF_eq]
    exact rs_0
  have hO : sx_orOK sc lo_tr [] (fun _ _ _ _ => none, fun _ _ _ _ _ => none) := ⟨(fun j y n env as aw alts g As w h => by cases h), (fun j y n env as aw outs g As w h => by cases h)⟩
  refine sx_run_ok hO 100000 lh_x _ _ _ _ _ _ _ _ _ _ _ _ [0, -1, 0, 0, 0, 0, 0] [0, -1, 0, 0, 0, 0, 0] _ [] [] li_Q h mv_L ⟨Or.inl ⟨-1, rfl, by decide⟩, [0, -1, 0, 0, 0, 0, 0], List.prefix_rfl, trivial⟩ List.prefix_rfl ⟨⟨rfl, rfl, ?_⟩, ⟨⟨rfl, rfl⟩, trivial⟩, trivial, ⟨rfl, fun q a c h1 => by cases h1⟩⟩ (fun h9 hh => ?_) (fun g' o r w' _ hk hmo => li_k hk hmo)
  · intro q hq
    simp only [List.mem_cons, List.not_mem_nil, or_false] at hq
    rcases hq with rfl | rfl | rfl | rfl | rfl | rfl
    · exact ⟨-1, rfl, by decide, by decide⟩
    all_goals exact ⟨0, rfl, by decide, by decide⟩
  · have e := List.mem_singleton.mp hh
    subst e
    refine ⟨[0, -1, 0, 0, 0, 0, 0], List.prefix_rfl, by decide, by decide, ⟨rfl, rfl, fun q hq => by cases hq⟩, Or.inl rfl, fun g2 lv2 w2 t2 hm2 _ => ?_⟩
    rw [List.append_nil] at hm2
    obtain ⟨hn, hl, -, hw⟩ := hm2
    have hgl : g2.length = 44 := hn.1
    have h20 : g2[0]? = some 0 := hn.2.1
    obtain ⟨z, z1, -, -⟩ := hn.2.2 (1, 0, 400) (List.mem_append_right _ (by decide))
    obtain ⟨y1, y2, y3, y4, y5⟩ := li_Zq
    obtain ⟨y6, y7, y8, y9⟩ := li_Zs
    have hw := ly_self hw
    obtain ⟨c2, k2, q2⟩ := sx_w_get hw y1
    obtain ⟨xs, rfl, l2, -, ch, -⟩ := sx_rc_a q2
    obtain ⟨c43, k43, q43⟩ := sx_w_get hw y2
    obtain ⟨ys, rfl, l43, -, -, -⟩ := sx_rc_a q43
    obtain ⟨c6, k6, q6⟩ := sx_w_get hw y3
    obtain ⟨as, rfl, l6, -, -, s6⟩ := sx_rc_a q6
    obtain ⟨c7, k7, q7⟩ := sx_w_get hw y4
    obtain ⟨bs, rfl, l7, -, -, s7⟩ := sx_rc_a q7
    obtain ⟨c44, k44, q44⟩ := sx_w_get hw y5
    obtain ⟨ts, rfl, l44, -, -, s44⟩ := sx_rc_a q44
    obtain ⟨c23, k23, q23⟩ := sx_w_get hw y6
    obtain ⟨Hs, rfl, l23, -, -, s23⟩ := sx_rc_a q23
    obtain ⟨c24, k24, q24⟩ := sx_w_get hw y7
    obtain ⟨Ps, rfl, l24, -, -, s24⟩ := sx_rc_a q24
    obtain ⟨c25, k25, q25⟩ := sx_w_get hw y8
    obtain ⟨Ks, rfl, l25, -, -, s25⟩ := sx_rc_a q25
    obtain ⟨c50, k50, q50⟩ := sx_w_get hw y9
    obtain ⟨sts, rfl, l50, -, -, s50⟩ := sx_rc_a q50
    have s6 : ∀ s ∈ lh_sp 0 lh_tA, ∃ x, as[s.1]? = some x ∧ sx_r g2 s.2 (.int x) := s6
    have s7 : ∀ s ∈ lh_sp 0 lh_tB, ∃ x, bs[s.1]? = some x ∧ sx_r g2 s.2 (.int x) := s7
    have s44 : ∀ s ∈ (0, .inl (0, 4)) :: (lh_sp 10 lh_tA ++ lh_sp 30 lh_tC), ∃ x, ts[s.1]? = some x ∧ sx_r g2 s.2 (.int x) := s44
    have s23 : ∀ s ∈ lh_sp 0 lh_zs, ∃ x, Hs[s.1]? = some x ∧ sx_r g2 s.2 (.int x) := s23
    have s24 : ∀ s ∈ lh_sp 0 lh_zs, ∃ x, Ps[s.1]? = some x ∧ sx_r g2 s.2 (.int x) := s24
    have s25 : ∀ s ∈ lh_sp 0 lh_zs, ∃ x, Ks[s.1]? = some x ∧ sx_r g2 s.2 (.int x) := s25
    have s50 : ∀ s ∈ lh_sp 0 lh_zs, ∃ x, sts[s.1]? = some x ∧ sx_r g2 s.2 (.int x) := s50
    simp only at k2 k43 k6 k7 k44 k23 k24 k25 k50 l2 l43 l6 l7 l44 l23 l24 l25 l50 ch
    have fl : ∀ {q n : Nat} {zs : List Int32}, w2[q]? = some (.inl (0, zs)) → zs.length = n → sx_rc w2 g2 q (.inl (0, n, true, [])) (.inl (0, zs)) := fun h hl => ⟨rfl, hl, fun _ => h, (fun q => by cases q), (fun q hq => by cases hq)⟩
    have h5 := sx_w_setA (sx_w_setA (sx_w_setA (sx_w_setA (sx_w_setA (sx_w_setA (sx_w_setA (sx_w_setA (sx_w_setA hw k2 (a := .inl (1, 200, true, [])) ⟨rfl, l2, fun _ => k2, fun _ => ch trivial, (fun q hq => by cases hq)⟩) k43 (fl k43 l43)) k6 (fl k6 l6)) k7 (fl k7 l7)) k23 (fl k23 l23)) k24 (fl k24 l24)) k25 (fl k25 l25)) k50 (fl k50 l50)) k44 (a := .inl (0, 50, false, [])) ⟨rfl, l44, (fun q => by cases q), (fun q => by cases q), (fun q hq => by cases hq)⟩
    rw [li_ZA] at h5
    have hs8 : ∀ j, j ≠ 8 → (g2.set 8 4)[j]? = g2[j]? := fun j hj => List.getElem?_set_ne (fun e => hj e.symm)
    have h88 : (g2.set 8 4)[8]? = some 4 := List.getElem?_set_self (by omega)
    have h6 := lo_w_ok (g' := g2.set 8 4) (fun j hj => hs8 j (li_o8_i hj)) li_Zo h5
    have h7 : sx_w w2 (g2.set 8 4) (pi_ob li_Z 4 4 (.inl (8, 0))) w2 := pi_ob_ok h6 (fun o a ho ha x hx => by
      obtain ⟨o', a1, a2⟩ := li_Zt
      rw [a1] at ho
      cases ho
      rw [a2] at ha
      cases ha
      obtain ⟨z9, y9, u1, u2, u3⟩ := hx
      simp only at u1 u3
      rw [hs8 0 (by omega), h20] at u1
      cases u1
      exact ⟨4, y9, h88, u2, by simp only; omega⟩)
    obtain ⟨x0, x1, z9, y9, u1, u2, u3⟩ := s44 _ List.mem_cons_self
    simp only at x1 u1 u3
    rw [h20] at u1
    cases u1
    cases u2
    have sp : ∀ s ∈ [((0 : Nat), (Sum.inl (8, 0) : sx_V))], ∃ x, ts[s.1]? = some x ∧ sx_r (g2.set 8 4) s.2 (.int x) := fun s hs => by
      have e := List.mem_singleton.mp hs
      subst e
      exact ⟨x0, x1, 4, x0, h88, rfl, by simp only; omega⟩
    have h10 := sx_w_setA h7 k44 (a := .inl (0, 50, true, [(0, .inl (8, 0))])) ⟨rfl, l44, fun _ => k44, (fun q => by cases q), sp⟩
    rw [li_Ze] at h10
    have hgl8 : (g2.set 8 4).length = 44 := by rw [List.length_set]; exact hgl
    have h11 := li_z hgl8 (by rw [hs8 0 (by omega)]; exact h20) h10
    obtain ⟨n1, n2, n3, n4⟩ := li_l0
    have kk : wy_KK as bs ts := fun j hj => by
      have a1 := li_sg0 h20 s6 j (by omega)
      have a2 := li_sg0 h20 s7 j (by omega)
      have a3 := li_sg0 (b := 10) (l := lh_tA) h20 (fun s hs => s44 s (List.mem_cons_of_mem _ (List.mem_append_left _ hs))) j (by omega)
      have a4 := li_sg0 (b := 30) (l := lh_tC) h20 (fun s hs => s44 s (List.mem_cons_of_mem _ (List.mem_append_right _ hs))) j (by omega)
      rw [Nat.zero_add] at a1 a2
      obtain ⟨r1, r2⟩ := li_kk0 j hj
      refine ⟨Int32.toInt_inj.mp (by rw [a3, a1]), fun hp => Int32.toInt_inj.mp (by rw [a4, a2]; exact r1 (by rw [← a1]; exact hp)), fun hp => Int32.toInt_inj.mp (by rw [a2, a1]; exact r2 (by rw [← a1]; exact hp))⟩
    have ss : wy_SS Hs Ps Ks sts 6 := fun j hj => by
      have zz : ∀ {zs : List Int32}, (∀ s ∈ lh_sp 0 lh_zs, ∃ x, zs[s.1]? = some x ∧ sx_r g2 s.2 (.int x)) → zs.getD j 0 = Int32.ofNat 0 := fun h => by
        have a1 := li_sg0 h20 h j (by omega)
        rw [Nat.zero_add, li_zz0 j hj] at a1
        exact Int32.toInt_inj.mp (by rw [a1]; rfl)
      exact ⟨0, 0, 0, by decide, by decide, by decide, zz s23, zz s24, zz s25, zz s50⟩
    have hs7 : ∀ j, j ≠ 7 → ((g2.set 8 4).set 7 0)[j]? = (g2.set 8 4)[j]? := fun j hj => List.getElem?_set_ne (fun e => hj e.symm)
    exact li_18 hsc _ false w2 ((g2.set 8 4).set 7 0) lv2 w2 z ⟨li_n7 (li_n8s hn (by show 8 < 44; decide) ⟨by decide, by decide⟩ (li_e8 false)) (by show 7 < 44; decide) ⟨Int.le_refl _, by decide⟩ (li_e7 false), li_lg (by rw [hs7 1 (by omega), hs8 1 (by omega)]) hl, trivial, h11⟩ (by rw [hs7 1 (by omega), hs8 1 (by omega)]; exact z1) ⟨xs, ys, 0, k2, k43, List.getElem?_set_self (by rw [hgl8]; decide), ⟨l2, l43, Int.le_refl _, by decide, ch trivial, fun k hk => by omega⟩, ⟨as, bs, ts, k6, k7, k44, kk⟩, Hs, Ps, Ks, sts, k23, k24, k25, k50, ss⟩ (Nat.lt_succ_self _)

