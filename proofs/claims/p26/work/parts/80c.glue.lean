/-! from the law to the readers and back -/
def li_o4 (j : Nat) : Bool := ll_ok j && !(Nat.beq j 39 || (Nat.beq j 40 || Nat.beq j 42))
theorem li_o4_i {j : Nat} (h : li_o4 j = true) : (j = 0 ∨ (7 ≤ j ∧ j < 44)) ∧ j ≠ 39 ∧ j ≠ 40 ∧ j ≠ 42 := by
  unfold li_o4 at h
  simp only [Bool.and_eq_true, Bool.not_eq_true', Bool.or_eq_false_iff] at h
  obtain ⟨h1, h2, h3, h4⟩ := h
  refine ⟨ll_ok_i h1, fun e => ?_, fun e => ?_, fun e => ?_⟩
  · subst e; cases h2
  · subst e; cases h3
  · subst e; cases h4
theorem li_o4w (v : Bool) : lo_w li_o4 (lh_w v) = true := by cases v <;> decide +kernel
theorem li_b4 (v : Bool) : (9, 0, 2) ∈ lh_b v ∧ (27, 0, 6) ∈ lh_b v ∧ (8, 0, 5) ∈ lh_b v := by cases v <;> decide +kernel
theorem li_f4 (v : Bool) : ∀ q ∈ lh_f v, (q.1 = 39 → q.2.1 ≤ 0 ∧ 2 ≤ q.2.2) ∧ (q.1 = 40 → q.2.1 ≤ 0 ∧ 6 ≤ q.2.2) ∧ (q.1 = 42 → q.2.1 ≤ 0 ∧ 5 ≤ q.2.2) := by cases v <;> decide +kernel
theorem li_u1 (v : Bool) : ∃ o, (lh_w v)[42]? = some (.inr o) ∧ o.2[9]? = some (.inl (9, 0)) := by cases v <;> exact ⟨_, rfl, rfl⟩
theorem li_u2 (v : Bool) : ∃ o, (pi_ob (lh_w v) 42 9 (.inl (39, 0)))[42]? = some (.inr o) ∧ o.2[11]? = some (.inl (27, 0)) := by cases v <;> exact ⟨_, rfl, rfl⟩
theorem li_u3 (v : Bool) : (pi_ob (pi_ob (lh_w v) 42 9 (.inl (39, 0))) 42 11 (.inl (40, 0)))[44]? = some (.inl (0, 50, true, [(0, .inl (8, 0))])) := by cases v <;> rfl
theorem li_u4 (v : Bool) : (pi_ob (pi_ob (lh_w v) 42 9 (.inl (39, 0))) 42 11 (.inl (40, 0))).set 44 (.inl (0, 50, true, [(0, .inl (42, 0))])) = lh_u v := by cases v <;> rfl
theorem li_d1 (v : Bool) : ∃ o, (lh_u v)[42]? = some (.inr o) ∧ o.2[9]? = some (.inl (39, 0)) := by cases v <;> exact ⟨_, rfl, rfl⟩
theorem li_d2 (v : Bool) : ∃ o, (pi_ob (lh_u v) 42 9 (.inl (9, 0)))[42]? = some (.inr o) ∧ o.2[11]? = some (.inl (40, 0)) := by cases v <;> exact ⟨_, rfl, rfl⟩
theorem li_d3 (v : Bool) : (pi_ob (pi_ob (lh_u v) 42 9 (.inl (9, 0))) 42 11 (.inl (27, 0)))[44]? = some (.inl (0, 50, true, [(0, .inl (42, 0))])) := by cases v <;> rfl
theorem li_d4 (v : Bool) : (pi_ob (pi_ob (lh_u v) 42 9 (.inl (9, 0))) 42 11 (.inl (27, 0))).set 44 (.inl (0, 50, true, [(0, .inl (8, 0))])) = lh_w v := by cases v <;> rfl
theorem li_sg {g : List Int} {i j : Nat} (e : g[j]? = g[i]?) {x : Value} (h : sx_r g (.inl (i, 0)) x) : sx_r g (.inl (j, 0)) x := by
  obtain ⟨z, y, y1, y2, y3⟩ := h
  exact ⟨z, y, by rw [e]; exact y1, y2, y3⟩
/-- a world with one sign in the place of another, of the same worth -/
theorem li_ob {wb : pm_W} {g : List Int} {aw : List sx_C} {w : pm_W} (hw : sx_w wb g aw w) {q f i j : Nat} (ho : ∃ o, aw[q]? = some (.inr o) ∧ o.2[f]? = some (.inl (i, 0))) (e : g[j]? = g[i]?) : sx_w wb g (pi_ob aw q f (.inl (j, 0))) w :=
  pi_ob_ok hw (fun o a h1 h2 x hx => by
    obtain ⟨o', c1, c2⟩ := ho
    rw [c1] at h1
    cases h1
    rw [c2] at h2
    cases h2
    exact li_sg e hx)
theorem li_44 {g : List Int} {aw : List sx_C} {w : pm_W} (hw : sx_w w g aw w) {i j : Nat} (ha : aw[44]? = some (.inl (0, 50, true, [(0, .inl (i, 0))]))) (e : g[j]? = g[i]?) : sx_w w g (aw.set 44 (.inl (0, 50, true, [(0, .inl (j, 0))]))) w := by
  obtain ⟨c, hc, hr⟩ := sx_w_get hw ha
  obtain ⟨ts, rfl, l1, -, -, s1⟩ := sx_rc_a hr
  refine sx_w_setA hw hc ⟨rfl, l1, fun _ => hc, (fun q => by cases q), fun s hs => ?_⟩
  have e9 := List.mem_singleton.mp hs
  subst e9
  obtain ⟨x, x1, x2⟩ := s1 _ List.mem_cons_self
  exact ⟨x, x1, li_sg e x2⟩
theorem li_in {v : Bool} {w0 : pm_W} {g : List Int} {w : pm_W} (hn : sx_n g 44 (lh_b v)) (hw : sx_w w0 g (lh_w v) w) : ∃ gX : List Int, sx_n gX 44 (lh_f v) ∧ sx_w w gX (lh_u v) w ∧ gX[1]? = some (-1) ∧ (∀ j, j ≠ 1 → j ≠ 39 → j ≠ 40 → j ≠ 42 → gX[j]? = g[j]?) ∧ gX[39]? = g[9]? ∧ gX[40]? = g[27]? ∧ gX[42]? = g[8]? := by
  have hgl : g.length = 44 := hn.1
  obtain ⟨b1, b2, b3⟩ := li_b4 v
  obtain ⟨z1, y1, r1⟩ := hn.2.2 _ b1
  obtain ⟨z2, y2, r2⟩ := hn.2.2 _ b2
  obtain ⟨z3, y3, r3⟩ := hn.2.2 _ b3
  simp only at y1 y2 y3 r1 r2 r3
  have hX : ∀ j, j ≠ 1 → j ≠ 39 → j ≠ 40 → j ≠ 42 → ((((g.set 1 (-1)).set 39 z1).set 40 z2).set 42 z3)[j]? = g[j]? := fun j h1 h2 h3 h4 => by
    rw [List.getElem?_set_ne (fun e => h4 e.symm), List.getElem?_set_ne (fun e => h3 e.symm), List.getElem?_set_ne (fun e => h2 e.symm), List.getElem?_set_ne (fun e => h1 e.symm)]
  have e1 : ((((g.set 1 (-1)).set 39 z1).set 40 z2).set 42 z3)[1]? = some (-1) := by
    rw [List.getElem?_set_ne (by decide), List.getElem?_set_ne (by decide), List.getElem?_set_ne (by decide), List.getElem?_set_self (by omega)]
  have e39 : ((((g.set 1 (-1)).set 39 z1).set 40 z2).set 42 z3)[39]? = some z1 := by
    rw [List.getElem?_set_ne (by decide), List.getElem?_set_ne (by decide), List.getElem?_set_self (by simp only [List.length_set]; omega)]
  have e40 : ((((g.set 1 (-1)).set 39 z1).set 40 z2).set 42 z3)[40]? = some z2 := by
    rw [List.getElem?_set_ne (by decide), List.getElem?_set_self (by simp only [List.length_set]; omega)]
  have e42 : ((((g.set 1 (-1)).set 39 z1).set 40 z2).set 42 z3)[42]? = some z3 := by
    rw [List.getElem?_set_self (by simp only [List.length_set]; omega)]
  refine ⟨_, ⟨by simp only [List.length_set]; exact hgl, by rw [hX 0 (by decide) (by decide) (by decide) (by decide)]; exact hn.2.1, fun q hq => ?_⟩, ?_, e1, hX, e39.trans y1.symm, e40.trans y2.symm, e42.trans y3.symm⟩
  · have h7 := (ll_f7 v).1 q hq
    obtain ⟨f1, f2, f3⟩ := li_f4 v q hq
    by_cases c1 : q.1 = 39
    · exact ⟨z1, by rw [c1]; exact e39, by have := f1 c1; omega, by have := f1 c1; omega⟩
    · by_cases c2 : q.1 = 40
      · exact ⟨z2, by rw [c2]; exact e40, by have := f2 c2; omega, by have := f2 c2; omega⟩
      · by_cases c3 : q.1 = 42
        · exact ⟨z3, by rw [c3]; exact e42, by have := f3 c3; omega, by have := f3 c3; omega⟩
        · obtain ⟨z, d1, d2⟩ := hn.2.2 q (List.mem_append_left _ hq)
          exact ⟨z, by rw [hX _ (by omega) c1 c2 c3]; exact d1, d2⟩
  · have h1 := lo_w_ok (g' := (((g.set 1 (-1)).set 39 z1).set 40 z2).set 42 z3) (fun j hj => by
      obtain ⟨d1, d2, d3, d4⟩ := li_o4_i hj
      exact hX j (by omega) d2 d3 d4) (li_o4w v) (ly_self hw)
    have h2 := li_ob h1 (li_u1 v) (j := 39) (by rw [e39, hX 9 (by decide) (by decide) (by decide) (by decide)]; exact y1.symm)
    have h3 := li_ob h2 (li_u2 v) (j := 40) (by rw [e40, hX 27 (by decide) (by decide) (by decide) (by decide)]; exact y2.symm)
    have h4 := li_44 h3 (li_u3 v) (j := 42) (by rw [e42, hX 8 (by decide) (by decide) (by decide) (by decide)]; exact y3.symm)
    rw [li_u4] at h4
    exact h4
theorem li_bf (u : Bool) : ∀ q ∈ lh_b u, q ∈ lh_f u ∨ q ∈ lh_j := by cases u <;> decide +kernel
theorem li_jb6 (v : Bool) : ∀ q ∈ lh_j, q ∈ lh_b v ∧ q.1 < 7 := by cases v <;> decide +kernel
theorem li_out {u v : Bool} {g gY : List Int} {w : pm_W} (hg : sx_n g 44 (lh_b v)) (hn : sx_n gY 44 (lh_f u)) (hw : sx_w w gY (lh_u u) w) (e1 : gY[39]? = gY[9]?) (e2 : gY[40]? = gY[27]?) (e3 : gY[42]? = gY[8]?) : sx_n (g.take 7 ++ gY.drop 7) 44 (lh_b u) ∧ sx_w w (g.take 7 ++ gY.drop 7) (lh_w u) w ∧ (∀ i, i < 7 → (g.take 7 ++ gY.drop 7)[i]? = g[i]?) ∧ ∀ i, 7 ≤ i → (g.take 7 ++ gY.drop 7)[i]? = gY[i]? := by
  have hgl : g.length = 44 := hg.1
  have hyl : gY.length = 44 := hn.1
  have lo : ∀ i, i < 7 → (g.take 7 ++ gY.drop 7)[i]? = g[i]? := fun i hi => by
    rw [List.getElem?_append_left (by rw [List.length_take]; omega), List.getElem?_take_of_lt hi]
  have hi : ∀ i, 7 ≤ i → (g.take 7 ++ gY.drop 7)[i]? = gY[i]? := fun i h => by
    rw [List.getElem?_append_right (by rw [List.length_take]; omega), List.getElem?_drop, List.length_take]
    congr 1
    omega
  refine ⟨⟨by rw [List.length_append, List.length_take, List.length_drop]; omega, by rw [lo 0 (by omega)]; exact hg.2.1, fun q hq => ?_⟩, ?_, lo, hi⟩
  · rcases li_bf u q hq with hq | hq
    · have h7 := (ll_f7 u).1 q hq
      obtain ⟨z, z1, z2⟩ := hn.2.2 q hq
      exact ⟨z, by rw [hi _ h7.1]; exact z1, z2⟩
    · have h7 := li_jb6 v q hq
      obtain ⟨z, z1, z2⟩ := hg.2.2 q h7.1
      exact ⟨z, by rw [lo _ h7.2]; exact z1, z2⟩
  · have h1 := lo_w_ok (g' := g.take 7 ++ gY.drop 7) (fun j hj => by
      rcases ll_ok_i hj with h | h
      · subst h
        rw [lo 0 (by omega), hg.2.1, hn.2.1]
      · exact hi j h.1) (lh_u_ok u) hw
    have h2 := li_ob h1 (li_d1 u) (j := 9) (by rw [hi 9 (by omega), hi 39 (by omega)]; exact e1.symm)
    have h3 := li_ob h2 (li_d2 u) (j := 27) (by rw [hi 27 (by omega), hi 40 (by omega)]; exact e2.symm)
    have h4 := li_44 h3 (li_d3 u) (j := 8) (by rw [hi 8 (by omega), hi 42 (by omega)]; exact e3.symm)
    rw [li_d4] at h4
    exact h4
theorem ly_len (v : Bool) : (lh_u v).length = 52 := by cases v <;> rfl
theorem li_wu (v : Bool) : ∀ q ∈ [2, 43, px_tA v, px_tB v, 44, 23, 24, 25, 50], ly_fb (lh_u v) q = true := by cases v <;> decide +kernel
theorem li_kpv (v : Bool) : ∀ j, j < 7 → pi_kp v j = true := by cases v <;> decide +kernel
theorem li_kpj : ∀ j, j < 7 → pj_kp j = true := by decide +kernel
theorem li_kp9 (v : Bool) : pi_kp v 7 = true ∧ pi_kp v 8 = true ∧ pi_kp v 9 = true ∧ pi_kp v 27 = true ∧ pi_kp v 39 = true ∧ pi_kp v 40 = true ∧ pi_kp v 42 = true := by cases v <;> decide +kernel
/-- nothing was laid on either side: as before -/
theorem li_no {sc : pm_Z} {z : Int} {v : Bool} {w0 : pm_W} {g gX : List Int} {w w1 w2 : pm_W} {x : Int32} {ca sl : Nat} (hB : li_B sc z v 1008) (hs : sx_scr0 sc g) (hz : g[1]? = some z) (hx : x.toInt = z) (hT : li_T v w0 g) (hn : sx_n g 44 (lh_b v)) (hw : sx_w w0 g (lh_w v) w)
    (x4 : ∀ j, j ≠ 1 → j ≠ 39 → j ≠ 40 → j ≠ 42 → gX[j]? = g[j]?) (x5 : gX[39]? = g[9]?) (x6 : gX[40]? = g[27]?) (x7 : gX[42]? = g[8]?) {g1 : List Int} (k1 : ∀ j, j < 44 → pi_kp v j = true → g1[j]? = gX[j]?) (f1 : ∀ q, ly_fb (lh_u v) q = true → w1[q]? = w[q]?) (hF : ly_F v pj_kp g1 w1 w2) : pm_Good sc mm_L 1008 [(0, .retAddr 3), (1, .ref 0), (2, .ref 42), (3, .int x)] [] w2 52 7858 li_Q := by
  obtain ⟨g2, n2, w2s, k2, f2⟩ := hF
  obtain ⟨p7, p8, p9, p27, p39, p40, p42⟩ := li_kp9 v
  have g9 : ∀ j, j < 44 → pi_kp v j = true → pj_kp j = true → g2[j]? = gX[j]? := fun j hj h1 h2 => by rw [k2 j hj h2]; exact k1 j hj h1
  have c39 : g2[39]? = g2[9]? := by
    rw [g9 39 (by decide) p39 rfl, g9 9 (by decide) p9 rfl, x5, x4 9 (by decide) (by decide) (by decide) (by decide)]
  have c40 : g2[40]? = g2[27]? := by
    rw [g9 40 (by decide) p40 rfl, g9 27 (by decide) p27 rfl, x6, x4 27 (by decide) (by decide) (by decide) (by decide)]
  have c42 : g2[42]? = g2[8]? := by
    rw [g9 42 (by decide) p42 rfl, g9 8 (by decide) p8 rfl, x7, x4 8 (by decide) (by decide) (by decide) (by decide)]
  obtain ⟨o1, o2, lo, hi⟩ := li_out hn n2 w2s c39 c40 c42
  have fw : ∀ q ∈ [2, 43, px_tA v, px_tB v, 44, 23, 24, 25, 50], w2[q]? = w[q]? := fun q hq => by rw [f2 q (li_wu v q hq), f1 q (li_wu v q hq)]
  have fb : ∀ q ∈ [px_tA v, px_tB v, 44, 23, 24, 25, 50], w2[q]? = w0[q]? := fun q hq => by
    rw [fw q (List.mem_cons_of_mem _ (List.mem_cons_of_mem _ hq))]
    exact ly_same hw (lw_fb v q hq).1
  obtain ⟨xs, ys, sz, a1, a2, a3, a4, aK⟩ := hT
  refine hB w2 _ _ w2 (li_scr hs lo) (by rw [lo 1 (by omega)]; exact hz) ⟨xs, ys, sz, ?_, ?_, ?_, a4, li_KS fb aK⟩ ⟨o1, li_ll (by rw [lo 1 (by omega)]; exact hz) hx, trivial, o2⟩
  · rw [fw 2 List.mem_cons_self]
    exact pz_fl_ok hw (lw_fl v).2 a1
  · rw [fw 43 (List.mem_cons_of_mem _ List.mem_cons_self)]
    exact pz_fl_ok hw (lw_fl v).1 a2
  · rw [hi 7 (by omega), g9 7 (by decide) p7 rfl, x4 7 (by decide) (by decide) (by decide) (by decide)]
    exact a3

set_option maxHeartbeats 4000000 in
theorem li_ft {sc : pm_Z} {z : Int} {v : Bool} (hB : li_B sc z v 1008) : li_B sc z v 204 := by
  intro w0 g lv w hs hz hT hm
  obtain ⟨hn, hl, -, hw⟩ := hm
  obtain ⟨x, rfl, hx⟩ := li_lv hz hl
  obtain ⟨gX, x1, x2, x3, x4, x5, x6, x7⟩ := li_in hn hw
  obtain ⟨xs, ys, sz, a1, a2, a3, a4, aK⟩ := id hT
  have hw2 := pz_fl_ok hw (lw_fl v).2 a1
  have hw43 := pz_fl_ok hw (lw_fl v).1 a2
  have x8 : gX[7]? = some sz := by rw [x4 7 (by decide) (by decide) (by decide) (by decide)]; exact a3
  obtain ⟨fs, f0, -, -⟩ := ly_x0 x2
  refine pm_ld_ok (i := .aload_n 1) (x := 1) (k := 2) (n := 1) (v := .ref 0) (pe_d mv_L (show pm_fetch mk_L 204 = some (.aload_n 1, 1, 0, 0, 0) from rfl)) rfl rfl rfl ?_
  refine pe_callV (y := (mm_57, 0, 0, mk_57)) (As := []) (rest := []) (P1 := fun r w1 => (∃ x, r = some (.int x)) ∧ ly_F v (pi_kp v) gX w w1) mv_L (show pm_fetch mk_L 205 = some (.invokevirtual 23, 3, 57, 0, 416) from rfl) rfl rfl rfl (fun v hv => by cases hv) f0 (show pm_cl[7]? = some _ from rfl) rfl (Nat.le_of_ble_eq_true rfl) (Nat.le_of_ble_eq_true rfl) (Nat.le_of_ble_eq_true rfl) (Nat.le_of_ble_eq_true rfl) (ly_57 v (pi_r_all v) hw2 hw43 a4 x1 x3 x8 x2) (fun r w1 q => ?_) (fun r w1 q => ?_)
  · obtain ⟨-, g9, -, q, -⟩ := q
    rw [← q.1, ← x2.1]
  obtain ⟨⟨xr, rfl⟩, g1, n1, w1s, k1, f1⟩ := q
  show pm_Good sc mm_L 208 _ [.int xr] w1 52 7858 _
  refine pm_op_ok (i := .pop) (st' := []) (pe_d mv_L (show pm_fetch mk_L 208 = some (.pop, 1, 0, 0, 0) from rfl)) rfl ?_
  refine pm_ld_ok (i := .aload_n 2) (x := 2) (k := 2) (n := 1) (v := .ref 42) (pe_d mv_L (show pm_fetch mk_L 209 = some (.aload_n 2, 1, 0, 0, 0) from rfl)) rfl rfl rfl ?_
  obtain ⟨cm, hcm, hrm⟩ := sx_w_get w1s (pd_t v)
  obtain ⟨fm, rfl, -⟩ := sx_rc_o hrm
  refine pe_callV (y := (mm_141, 0, 0, mk_141)) (As := []) (rest := []) (P1 := fun r w2 => (∃ x, r = some (.int x)) ∧ ly_F v pj_kp g1 w1 w2) mv_L (show pm_fetch mk_L 210 = some (.invokevirtual 26, 3, 141, 0, 824) from rfl) rfl rfl rfl (fun v hv => by cases hv) hcm (show pm_cl[8]? = some _ from rfl) rfl (Nat.le_of_ble_eq_true rfl) (Nat.le_of_ble_eq_true rfl) (Nat.le_of_ble_eq_true rfl) (Nat.le_of_ble_eq_true rfl) (ly_141 v (pj_r_all v) (by rw [f1 2 (li_wu v 2 List.mem_cons_self)]; exact hw2) (by rw [f1 43 (li_wu v 43 (List.mem_cons_of_mem _ List.mem_cons_self))]; exact hw43) a4 n1 (by rw [k1 1 (by decide) (li_kpv v 1 (by decide))]; exact x3) (by rw [k1 7 (by decide) (li_kp9 v).1]; exact x8) w1s) (fun r w2 q => ?_) (fun r w2 q => ?_)
  · obtain ⟨-, g9, -, q, -⟩ := q
    rw [← q.1, ← w1s.1]
  obtain ⟨⟨xr2, rfl⟩, hF⟩ := q
  show pm_Good sc mm_L 213 _ [.int xr2] w2 52 7858 _
  refine pm_op_ok (i := .pop) (st' := []) (pe_d mv_L (show pm_fetch mk_L 213 = some (.pop, 1, 0, 0, 0) from rfl)) rfl ?_
  refine pm_goto (off := 794) (pe_d mv_L (show pm_fetch mk_L 214 = some (.goto 794, 3, 0, 0, 0) from rfl)) (by decide) ?_
  show pm_Good sc mm_L 1008 _ _ _ _ _ _
  exact li_no (ca := 0) (sl := 0) hB hs hz hx hT hn hw x4 x5 x6 x7 k1 f1 hF
theorem li_q6 : ∀ q ∈ [2, 43, 23, 24, 25, 50], q ∈ ly_Q ∧ q ≠ 44 := by decide
theorem li_n44 (v : Bool) : pi_ka v ≠ 44 ∧ pi_kb v ≠ 44 := by cases v <;> decide
theorem li_q7 (v : Bool) : 23 ∈ [px_tA v, px_tB v, 44, 23, 24, 25, 50] ∧ 24 ∈ [px_tA v, px_tB v, 44, 23, 24, 25, 50] ∧ 25 ∈ [px_tA v, px_tB v, 44, 23, 24, 25, 50] ∧ 50 ∈ [px_tA v, px_tB v, 44, 23, 24, 25, 50] := by cases v <;> decide
theorem li_tv (v : Bool) : px_tA (!v) = pi_ka v ∧ px_tB (!v) = pi_kb v := by cases v <;> exact ⟨rfl, rfl⟩
theorem li_kk {as bs ts us : List Int32} {K L : Nat → Int} (h1 : ∀ j : Nat, j < 20 → (as.getD (0 + j) 0).toInt = K j ∧ (bs.getD (0 + j) 0).toInt = K (20 + j)) (h2 : ∀ j : Nat, j < 20 → (ts.getD (10 + j) 0).toInt = L j ∧ (us.getD (30 + j) 0).toInt = L (20 + j)) (e : us = ts) (h : pf_R K L) : wy_KK as bs ts := by
  subst e
  intro j hj
  obtain ⟨a1, a2⟩ := h1 j hj
  obtain ⟨b1, b2⟩ := h2 j hj
  obtain ⟨r1, r2, r3⟩ := h j hj
  rw [Nat.zero_add] at a1 a2
  refine ⟨Int32.toInt_inj.mp (by omega), fun hp => Int32.toInt_inj.mp (by rw [b2, a2]; exact r2 (by omega)), fun hp => Int32.toInt_inj.mp (by rw [a2, a1]; exact r3 (by omega))⟩
set_option maxHeartbeats 4000000 in
theorem li_ly {sc : pm_Z} {z : Int} {v : Bool} (hB : li_B sc z v 1008) (hB2 : li_B sc z (!v) 1008) : li_B sc z v 217 := by
  intro w0 g lv w hs hz hT hm
  obtain ⟨hn, hl, -, hw⟩ := hm
  obtain ⟨x, rfl, hx⟩ := li_lv hz hl
  obtain ⟨gX, x1, x2, x3, x4, x5, x6, x7⟩ := li_in hn hw
  obtain ⟨xs, ys, sz, a1, a2, a3, a4, aK⟩ := id hT
  have hw2 := pz_fl_ok hw (lw_fl v).2 a1
  have hw43 := pz_fl_ok hw (lw_fl v).1 a2
  have x8 : gX[7]? = some sz := by rw [x4 7 (by decide) (by decide) (by decide) (by decide)]; exact a3
  obtain ⟨fs, f0, -, -⟩ := ly_x0 x2
  refine pm_ld_ok (i := .aload_n 1) (x := 1) (k := 2) (n := 1) (v := .ref 0) (pe_d mv_L (show pm_fetch mk_L 217 = some (.aload_n 1, 1, 0, 0, 0) from rfl)) rfl rfl rfl ?_
  refine pe_callV (y := (mm_74, 0, 0, mk_74)) (As := []) (rest := []) (P1 := fun r w1 => (∃ x, r = some (.int x)) ∧ ((¬ ly_Y xs sz ∧ ly_F v (pi_kp v) gX w w1) ∨ (ly_Y xs sz ∧ ly_S v gX w (pf xs sz 200 0 0 pf_z).2.1 (pf xs sz 200 0 0 pf_z).2.2 w1))) mv_L (show pm_fetch mk_L 218 = some (.invokevirtual 27, 3, 74, 0, 420) from rfl) rfl rfl rfl (fun v hv => by cases hv) f0 (show pm_cl[7]? = some _ from rfl) rfl (Nat.le_of_ble_eq_true rfl) (Nat.le_of_ble_eq_true rfl) (Nat.le_of_ble_eq_true rfl) (Nat.le_of_ble_eq_true rfl) (ly_74 v (pi_r_all v) hw2 hw43 a4 x1 x3 x8 x2) (fun r w1 q => ?_) (fun r w1 q => ?_)
  · rcases q with ⟨-, ⟨-, g9, -, q, -⟩ | ⟨-, g9, -, q, -⟩⟩
    · rw [← q.1, ← x2.1]
    · rw [← q.1, ← x2.1, ly_len, ly_len]
  obtain ⟨⟨xr, rfl⟩, q⟩ := q
  rcases q with ⟨hY, g1, n1, w1s, k1, f1⟩ | ⟨hY, g1, n1, w1s, k1, s8, s9, s27, s39, s40, s42, f1, as, bs, hka, hkb, hK⟩
  · show pm_Good sc mm_L 221 _ [.int xr] w1 52 7858 _
    refine pm_op_ok (i := .pop) (st' := []) (pe_d mv_L (show pm_fetch mk_L 221 = some (.pop, 1, 0, 0, 0) from rfl)) rfl ?_
    refine pm_ld_ok (i := .aload_n 2) (x := 2) (k := 2) (n := 1) (v := .ref 42) (pe_d mv_L (show pm_fetch mk_L 222 = some (.aload_n 2, 1, 0, 0, 0) from rfl)) rfl rfl rfl ?_
    obtain ⟨cm, hcm, hrm⟩ := sx_w_get w1s (pd_t v)
    obtain ⟨fm, rfl, -⟩ := sx_rc_o hrm
    refine pe_callV (y := (mm_152, 0, 0, mk_152)) (As := []) (rest := []) (P1 := fun r w2 => (∃ x, r = some (.int x)) ∧ ((¬ ly_Y xs sz ∧ ly_F v pj_kp g1 w1 w2) ∨ (ly_Y xs sz ∧ ly_T v g1 w1 (pf xs sz 200 0 0 pf_z).2.1 (pf xs sz 200 0 0 pf_y).2.2 w2))) mv_L (show pm_fetch mk_L 223 = some (.invokevirtual 30, 3, 152, 0, 855) from rfl) rfl rfl rfl (fun v hv => by cases hv) hcm (show pm_cl[8]? = some _ from rfl) rfl (Nat.le_of_ble_eq_true rfl) (Nat.le_of_ble_eq_true rfl) (Nat.le_of_ble_eq_true rfl) (Nat.le_of_ble_eq_true rfl) (ly_152 v (pj_r_all v) (by rw [f1 2 (li_wu v 2 List.mem_cons_self)]; exact hw2) (by rw [f1 43 (li_wu v 43 (List.mem_cons_of_mem _ List.mem_cons_self))]; exact hw43) a4 n1 (by rw [k1 1 (by decide) (li_kpv v 1 (by decide))]; exact x3) (by rw [k1 7 (by decide) (li_kp9 v).1]; exact x8) w1s) (fun r w2 q => ?_) (fun r w2 q => ?_)
    · rcases q with ⟨-, ⟨-, g9, -, q, -⟩ | ⟨-, g9, -, q, -⟩⟩
      · rw [← q.1, ← w1s.1]
      · rw [← q.1, ← w1s.1]
    obtain ⟨⟨xr2, rfl⟩, q⟩ := q
    rcases q with ⟨-, hF⟩ | ⟨hY2, -⟩
    · show pm_Good sc mm_L 226 _ [.int xr2] w2 52 7858 _
      refine pm_op_ok (i := .pop) (st' := []) (pe_d mv_L (show pm_fetch mk_L 226 = some (.pop, 1, 0, 0, 0) from rfl)) rfl ?_
      refine pm_goto (off := 781) (pe_d mv_L (show pm_fetch mk_L 227 = some (.goto 781, 3, 0, 0, 0) from rfl)) (by decide) ?_
      show pm_Good sc mm_L 1008 _ _ _ _ _ _
      exact li_no (ca := 0) (sl := 0) hB hs hz hx hT hn hw x4 x5 x6 x7 k1 f1 hF
    · exact absurd hY2 hY
  · show pm_Good sc mm_L 221 _ [.int xr] w1 52 7858 _
    refine pm_op_ok (i := .pop) (st' := []) (pe_d mv_L (show pm_fetch mk_L 221 = some (.pop, 1, 0, 0, 0) from rfl)) rfl ?_
    refine pm_ld_ok (i := .aload_n 2) (x := 2) (k := 2) (n := 1) (v := .ref 42) (pe_d mv_L (show pm_fetch mk_L 222 = some (.aload_n 2, 1, 0, 0, 0) from rfl)) rfl rfl rfl ?_
    obtain ⟨cm, hcm, hrm⟩ := sx_w_get w1s (pd_t (!v))
    obtain ⟨fm, rfl, -⟩ := sx_rc_o hrm
    refine pe_callV (y := (mm_152, 0, 0, mk_152)) (As := []) (rest := []) (P1 := fun r w2 => (∃ x, r = some (.int x)) ∧ ((¬ ly_Y xs sz ∧ ly_F (!v) pj_kp g1 w1 w2) ∨ (ly_Y xs sz ∧ ly_T (!v) g1 w1 (pf xs sz 200 0 0 pf_z).2.1 (pf xs sz 200 0 0 pf_y).2.2 w2))) mv_L (show pm_fetch mk_L 223 = some (.invokevirtual 30, 3, 152, 0, 855) from rfl) rfl rfl rfl (fun v hv => by cases hv) hcm (show pm_cl[8]? = some _ from rfl) rfl (Nat.le_of_ble_eq_true rfl) (Nat.le_of_ble_eq_true rfl) (Nat.le_of_ble_eq_true rfl) (Nat.le_of_ble_eq_true rfl) (ly_152 (!v) (pj_r_all (!v)) (by rw [f1 2 List.mem_cons_self]; exact hw2) (by rw [f1 43 (List.mem_cons_of_mem _ List.mem_cons_self)]; exact hw43) a4 n1 (by rw [k1 1 (by decide)]; exact x3) (by rw [k1 7 (by decide)]; exact x8) w1s) (fun r w2 q => ?_) (fun r w2 q => ?_)
    · rcases q with ⟨-, ⟨-, g9, -, q, -⟩ | ⟨-, g9, -, q, -⟩⟩
      · rw [← q.1, ← w1s.1]
      · rw [← q.1, ← w1s.1]
    obtain ⟨⟨xr2, rfl⟩, q⟩ := q
    rcases q with ⟨hY2, -⟩ | ⟨-, g2, n2, w2s, k2, t27, t39, t40, t42, f2, ts, us, hta, htb, hL⟩
    · exact absurd hY hY2
    · show pm_Good sc mm_L 226 _ [.int xr2] w2 52 7858 _
      refine pm_op_ok (i := .pop) (st' := []) (pe_d mv_L (show pm_fetch mk_L 226 = some (.pop, 1, 0, 0, 0) from rfl)) rfl ?_
      refine pm_goto (off := 781) (pe_d mv_L (show pm_fetch mk_L 227 = some (.goto 781, 3, 0, 0, 0) from rfl)) (by decide) ?_
      show pm_Good sc mm_L 1008 _ _ _ _ _ _
      have c39 : g2[39]? = g2[9]? := by rw [t39, k2 9 (by decide), s9]
      have c40 : g2[40]? = g2[27]? := by rw [t40, t27, s27]
      have c42 : g2[42]? = g2[8]? := by rw [t42, k2 8 (by decide), s8]
      obtain ⟨o1, o2, lo, hi⟩ := li_out hn n2 w2s c39 c40 c42
      obtain ⟨-, -, hR⟩ := pf_RR (xs := xs) (sz := sz) 200 0 0 pf_z pf_y ⟨by decide, by decide⟩ pf_R0
      obtain ⟨tA, tB⟩ := li_tv v
      have e9 : us = ts := by
        rw [hta] at htb
        cases htb
        rfl
      have fw : ∀ q ∈ [2, 43, 23, 24, 25, 50], w2[q]? = w[q]? := fun q hq => by
        rw [f2 q (ly_uQ (!v) q (li_q6 q hq).1) (li_q6 q hq).2, f1 q (li_q6 q hq).1]
      refine hB2 w2 _ _ w2 (li_scr hs lo) (by rw [lo 1 (by omega)]; exact hz) ⟨xs, ys, sz, ?_, ?_, ?_, a4, ⟨as, bs, ts, ?_, ?_, hta, li_kk hK hL e9 hR⟩, ?_⟩ ⟨o1, li_ll (by rw [lo 1 (by omega)]; exact hz) hx, trivial, o2⟩
      · rw [fw 2 (by decide)]
        exact hw2
      · rw [fw 43 (by decide)]
        exact hw43
      · rw [hi 7 (by omega), k2 7 (by decide), k1 7 (by decide)]
        exact x8
      · rw [tA, f2 _ (ly_tw v).1 (li_n44 v).1]
        exact hka
      · rw [tB, f2 _ (ly_tw v).2 (li_n44 v).2]
        exact hkb
      · obtain ⟨-, Hs, Ps, Ks, sts, b1, b2, b3, b4, b5⟩ := aK
        refine ⟨Hs, Ps, Ks, sts, ?_, ?_, ?_, ?_, b5⟩
        · rw [fw 23 (by decide), ly_same hw (lw_fb v 23 (li_q7 v).1).1]; exact b1
        · rw [fw 24 (by decide), ly_same hw (lw_fb v 24 (li_q7 v).2.1).1]; exact b2
        · rw [fw 25 (by decide), ly_same hw (lw_fb v 25 (li_q7 v).2.2.1).1]; exact b3
        · rw [fw 50 (by decide), ly_same hw (lw_fb v 50 (li_q7 v).2.2.2).1]; exact b4
