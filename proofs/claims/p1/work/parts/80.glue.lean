/-! the law of p1: one call on a fresh object -/
def li_Q : Option Value → pm_W → Prop := fun r _ => r = some (.int 1)
theorem li_k {w0 : pm_W} {g : List Int} {o : sx_O} {r : Option Value} {w : pm_W} (hk : lh_k o = true) (hm : sx_mo w0 g o r w) : li_Q r w := by
  have hk := of_decide_eq_true hk
  obtain ⟨m1, m2, m3⟩ := hm
  rw [hk] at m2
  cases r with
  | none => cases m2
  | some u =>
    obtain ⟨y, x, e1, e2, e3⟩ := m2
    have h0 := m1.2.1
    simp only at e1 e3
    rw [h0] at e1
    cases e1
    subst e2
    have : x = 1 := Int32.toInt_inj.mp (by rw [e3]; decide)
    rw [this]
    rfl
theorem io_self {w0 : pm_W} {g : List Int} {aw : List sx_C} {w : pm_W} (hw : sx_w w0 g aw w) : sx_w w g aw w := by
  refine ⟨hw.1, fun q a c ha hc => ?_⟩
  have h := hw.2 q a c ha hc
  cases a with
  | inl a =>
    cases c with
    | inl c => exact ⟨h.1, h.2.1, fun _ => hc, h.2.2.2.1, h.2.2.2.2⟩
    | inr c => cases h
  | inr a =>
    rcases h with h | h
    · exact Or.inl ⟨h.1, hc⟩
    · exact Or.inr h
theorem li_lv {g : List Int} {z : Int} {lv : pm_L} (hz : g[1]? = some z) (hl : sx_l g lh_l lv) : ∃ x : Int32, lv = [(0, .retAddr 3), (1, .ref 0), (2, .ref 42), (3, .int x)] ∧ x.toInt = z := by
  obtain ⟨⟨i0, v0⟩, m0, rfl, ⟨e0, r0⟩, hl⟩ := sx_f2_cons hl
  obtain ⟨⟨i1, v1⟩, m1, rfl, ⟨e1, r1⟩, hl⟩ := sx_f2_cons hl
  obtain ⟨⟨i2, v2⟩, m2, rfl, ⟨e2, r2⟩, hl⟩ := sx_f2_cons hl
  obtain ⟨⟨i3, v3⟩, m3, rfl, ⟨e3, r3⟩, hl⟩ := sx_f2_cons hl
  cases m3 with
  | cons _ _ => cases hl
  | nil =>
    have r0 : v0 = .retAddr 3 := r0
    have r1 : v1 = .ref 0 := r1
    have r2 : v2 = .ref 42 := r2
    obtain ⟨y, x, y1, y2, y3⟩ := r3
    simp only at e0 e1 e2 e3 y1 y2 y3
    rw [hz] at y1
    cases y1
    subst e0 e1 e2 e3 r0 r1 r2 y2
    exact ⟨x, rfl, by omega⟩
theorem li_ll {g : List Int} {z : Int} {x : Int32} (hz : g[1]? = some z) (hx : x.toInt = z) : sx_l g lh_l [(0, .retAddr 3), (1, .ref 0), (2, .ref 42), (3, .int x)] := ⟨⟨rfl, rfl⟩, ⟨rfl, rfl⟩, ⟨rfl, rfl⟩, ⟨rfl, ⟨z, x, hz, rfl, by simp only; omega⟩⟩, trivial⟩
set_option maxHeartbeats 4000000 in
/-- behind the call: the script has no second one -/
theorem li_fin {sc : pm_Z} (h5 : sc.1 ≤ 5) {x : Int32} (hx : x.toInt = 0) (w : pm_W) : pm_Good sc mm_L 1008 [(0, .retAddr 3), (1, .ref 0), (2, .ref 42), (3, .int x)] [] w 52 7858 li_Q := by
  have e5 : (x + Int32.ofInt 5).toInt = 5 := by
    have h9 : (Int32.ofInt 5).toInt = 5 := rfl
    rw [sx_add (by rw [h9]; omega) (by rw [h9]; omega), h9, hx]
    rfl
  refine pm_inc (i := 3) (n := 5) (x := x) (by decide +kernel) rfl (by decide) ?_
  refine pm_goto (off := (-993)) (by decide +kernel) (by decide) ?_
  show pm_Good sc mm_L 18 _ _ _ _ _ _
  refine pm_sub (lv' := [(0, .retAddr 3), (1, .ref 0), (2, .ref 42), (3, .int (x + Int32.ofInt 5))]) (fun q hq => ?_) ?_
  · simp only [List.mem_cons, List.not_mem_nil, or_false] at hq
    rcases hq with rfl | rfl | rfl | rfl
    · exact List.mem_cons_of_mem _ List.mem_cons_self
    · exact List.mem_cons_of_mem _ (List.mem_cons_of_mem _ List.mem_cons_self)
    · exact List.mem_cons_of_mem _ (List.mem_cons_of_mem _ (List.mem_cons_of_mem _ List.mem_cons_self))
    · exact List.mem_cons_self
  · refine pm_ld_ok (i := .iload_n 3) (x := 3) (k := 0) (n := 1) (v := .int (x + Int32.ofInt 5)) (by decide +kernel) rfl rfl rfl ?_
    refine pm_ld_ok (i := .aload_n 0) (x := 0) (k := 2) (n := 1) (v := .retAddr 3) (by decide +kernel) rfl rfl rfl ?_
    refine pm_scl (by decide +kernel) ?_
    refine pm_op_ok (i := .iconst 5) (st' := [.int 5, .int (Int32.ofNat sc.1), .int (x + Int32.ofInt 5)]) (by decide +kernel) rfl ?_
    refine pm_op_ok (i := .isub) (st' := [.int (Int32.ofNat sc.1 - 5), .int (x + Int32.ofInt 5)]) (by decide +kernel) rfl ?_
    refine pm_br2 (c := .gt) (off := 991) (by decide +kernel) (by decide) (fun _ => ?_) (fun hf => ?_)
    · show pm_Good sc mm_L 1014 _ _ _ _ _ _
      refine pm_op_ok (i := .iconst 1) (st' := [.int 1]) (by decide +kernel) rfl ?_
      exact pm_iret (ty := .boolean) (by decide +kernel) rfl rfl rfl
    · exfalso
      have hs1 : (Int32.ofNat sc.1).toInt = sc.1 := Int32.toInt_ofNat_of_lt (by omega)
      have hs5 : (5 : Int32).toInt = 5 := rfl
      have hs2 : (Int32.ofNat sc.1 - 5).toInt = sc.1 - 5 := by
        rw [sx_sub (by rw [hs1, hs5]; omega) (by rw [hs1, hs5]; omega), hs1, hs5]
      have h1 : ¬ (Int32.ofNat sc.1 - 5 < x + Int32.ofInt 5) := of_decide_eq_false hf
      have h2 := Int32.not_lt.mp h1
      have h3 := Int32.le_iff_toInt_le.mp h2
      rw [hs2, e5] at h3
      omega
theorem li_case {sc : pm_Z} (h5 : sc.1 ≤ 5) {pc : Nat} {env : sx_N} (h : sx_runF an1 cu1 OR1 100000 lh_x (lh_a 1008) [lh_m 1008 false] false pc 52 7858 7 env lh_l [] lz lh_k = true) {g : List Int} {lv : pm_L} {w : pm_W} (hs : sx_scr0 sc g) (h1 : g[1]? = some 0) (hj : sx_n g 7 lh_j) (hn : sx_n g 7 env) (hl : sx_l g lh_l lv) (hw : sx_w w g lz w) : pm_Good sc mm_L pc lv [] w 52 7858 li_Q := by
  rw [sx_runF_eq] at h
  refine sx_run_ok (OR1_ok w) 100000 lh_x _ _ _ _ _ _ _ _ _ _ _ _ g g lv [] w li_Q h mv_L ⟨hs, g, List.prefix_rfl, trivial⟩ List.prefix_rfl ⟨hn, hl, trivial, hw⟩ (fun h9 hh => ?_) (fun g' o r w' _ hk hmo => li_k hk hmo)
  have e := List.mem_singleton.mp hh
  subst e
  have hgl : g.length = 7 := hj.1
  have ht : g.take 7 = g := by rw [← hgl, List.take_length]
  refine ⟨g, List.prefix_rfl, by decide, by show 7 ≤ _; omega, by show sx_n (g.take 7) 7 lh_j; rw [ht]; exact hj, Or.inl rfl, fun g2 lv2 w2 t2 hm2 _ => ?_⟩
  have t2 : g2.take 7 = g.take 7 := t2
  have e1 : g2[1]? = some 0 := by
    rw [← List.getElem?_take_of_lt (l := g2) (show 1 < 7 by decide), t2, List.getElem?_take_of_lt (by decide)]
    exact h1
  obtain ⟨x, rfl, hx⟩ := li_lv e1 hm2.2.1
  exact li_fin h5 hx w2
def li_B (sc : pm_Z) (pc : Nat) : Prop := ∀ (g : List Int) (lv : pm_L) (w : pm_W), sx_scr0 sc g → g[1]? = some 0 → sx_n g 7 lh_j → sx_l g lh_l lv → sx_w w g lz w → pm_Good sc mm_L pc lv [] w 52 7858 li_Q
theorem li_env {g : List Int} (hj : sx_n g 7 lh_j) (h1 : g[1]? = some 0) {z3 z4 z5 z6 : Int} (a3 : g[3]? = some z3) (a4 : g[4]? = some z4) (a5 : g[5]? = some z5) (a6 : g[6]? = some z6) {l3 u3 l4 u4 l5 u5 l6 u6 : Int} (b : (l3 ≤ z3 ∧ z3 ≤ u3) ∧ (l4 ≤ z4 ∧ z4 ≤ u4) ∧ (l5 ≤ z5 ∧ z5 ≤ u5) ∧ (l6 ≤ z6 ∧ z6 ≤ u6)) : sx_n g 7 [(1, 0, 0), (2, (-2147483648), 2147483647), (3, l3, u3), (4, l4, u4), (5, l5, u5), (6, l6, u6)] := by
  refine ⟨hj.1, hj.2.1, fun q hq => ?_⟩
  simp only [List.mem_cons, List.not_mem_nil, or_false] at hq
  rcases hq with rfl | rfl | rfl | rfl | rfl | rfl
  · exact ⟨0, h1, by decide, by decide⟩
  · exact hj.2.2 (2, (-2147483648), 2147483647) (by decide)
  · exact ⟨z3, a3, b.1⟩
  · exact ⟨z4, a4, b.2.1⟩
  · exact ⟨z5, a5, b.2.2.1⟩
  · exact ⟨z6, a6, b.2.2.2⟩
theorem li_c0 {sc : pm_Z} (h5 : sc.1 ≤ 5) : li_B sc 168 := by
  intro g lv w hs h1 hj hl hw
  obtain ⟨z3, a3, b3, d3⟩ := hj.2.2 (3, (-2147483648), 2147483647) (by decide)
  obtain ⟨z4, a4, b4, d4⟩ := hj.2.2 (4, (-2147483648), 2147483647) (by decide)
  obtain ⟨z5, a5, b5, d5⟩ := hj.2.2 (5, (-2147483648), 2147483647) (by decide)
  obtain ⟨z6, a6, b6, d6⟩ := hj.2.2 (6, (-2147483648), 2147483647) (by decide)
  simp only at a3 a4 a5 a6 b3 b4 b5 b6 d3 d4 d5 d6
  exact li_case h5 rc_0_0 hs h1 hj (li_env hj h1 a3 a4 a5 a6 ⟨by omega, by omega, by omega, by omega⟩) hl hw
theorem li_c1 {sc : pm_Z} (h5 : sc.1 ≤ 5) : li_B sc 191 := by
  intro g lv w hs h1 hj hl hw
  obtain ⟨z3, a3, b3, d3⟩ := hj.2.2 (3, (-2147483648), 2147483647) (by decide)
  obtain ⟨z4, a4, b4, d4⟩ := hj.2.2 (4, (-2147483648), 2147483647) (by decide)
  obtain ⟨z5, a5, b5, d5⟩ := hj.2.2 (5, (-2147483648), 2147483647) (by decide)
  obtain ⟨z6, a6, b6, d6⟩ := hj.2.2 (6, (-2147483648), 2147483647) (by decide)
  simp only at a3 a4 a5 a6 b3 b4 b5 b6 d3 d4 d5 d6
  exact li_case h5 rc_1_0 hs h1 hj (li_env hj h1 a3 a4 a5 a6 ⟨by omega, by omega, by omega, by omega⟩) hl hw
theorem li_c2 {sc : pm_Z} (h5 : sc.1 ≤ 5) : li_B sc 204 := by
  intro g lv w hs h1 hj hl hw
  obtain ⟨z3, a3, b3, d3⟩ := hj.2.2 (3, (-2147483648), 2147483647) (by decide)
  obtain ⟨z4, a4, b4, d4⟩ := hj.2.2 (4, (-2147483648), 2147483647) (by decide)
  obtain ⟨z5, a5, b5, d5⟩ := hj.2.2 (5, (-2147483648), 2147483647) (by decide)
  obtain ⟨z6, a6, b6, d6⟩ := hj.2.2 (6, (-2147483648), 2147483647) (by decide)
  simp only at a3 a4 a5 a6 b3 b4 b5 b6 d3 d4 d5 d6
  exact li_case h5 rc_2_0 hs h1 hj (li_env hj h1 a3 a4 a5 a6 ⟨by omega, by omega, by omega, by omega⟩) hl hw
theorem li_c3 {sc : pm_Z} (h5 : sc.1 ≤ 5) : li_B sc 217 := by
  intro g lv w hs h1 hj hl hw
  obtain ⟨z3, a3, b3, d3⟩ := hj.2.2 (3, (-2147483648), 2147483647) (by decide)
  obtain ⟨z4, a4, b4, d4⟩ := hj.2.2 (4, (-2147483648), 2147483647) (by decide)
  obtain ⟨z5, a5, b5, d5⟩ := hj.2.2 (5, (-2147483648), 2147483647) (by decide)
  obtain ⟨z6, a6, b6, d6⟩ := hj.2.2 (6, (-2147483648), 2147483647) (by decide)
  simp only at a3 a4 a5 a6 b3 b4 b5 b6 d3 d4 d5 d6
  exact li_case h5 rc_3_0 hs h1 hj (li_env hj h1 a3 a4 a5 a6 ⟨by omega, by omega, by omega, by omega⟩) hl hw
theorem li_c4 {sc : pm_Z} (h5 : sc.1 ≤ 5) : li_B sc 230 := by
  intro g lv w hs h1 hj hl hw
  obtain ⟨z3, a3, b3, d3⟩ := hj.2.2 (3, (-2147483648), 2147483647) (by decide)
  obtain ⟨z4, a4, b4, d4⟩ := hj.2.2 (4, (-2147483648), 2147483647) (by decide)
  obtain ⟨z5, a5, b5, d5⟩ := hj.2.2 (5, (-2147483648), 2147483647) (by decide)
  obtain ⟨z6, a6, b6, d6⟩ := hj.2.2 (6, (-2147483648), 2147483647) (by decide)
  simp only at a3 a4 a5 a6 b3 b4 b5 b6 d3 d4 d5 d6
  exact li_case h5 rc_4_0 hs h1 hj (li_env hj h1 a3 a4 a5 a6 ⟨by omega, by omega, by omega, by omega⟩) hl hw
theorem li_c5 {sc : pm_Z} (h5 : sc.1 ≤ 5) : li_B sc 273 := by
  intro g lv w hs h1 hj hl hw
  obtain ⟨z3, a3, b3, d3⟩ := hj.2.2 (3, (-2147483648), 2147483647) (by decide)
  obtain ⟨z4, a4, b4, d4⟩ := hj.2.2 (4, (-2147483648), 2147483647) (by decide)
  obtain ⟨z5, a5, b5, d5⟩ := hj.2.2 (5, (-2147483648), 2147483647) (by decide)
  obtain ⟨z6, a6, b6, d6⟩ := hj.2.2 (6, (-2147483648), 2147483647) (by decide)
  simp only at a3 a4 a5 a6 b3 b4 b5 b6 d3 d4 d5 d6
  exact li_case h5 rc_5_0 hs h1 hj (li_env hj h1 a3 a4 a5 a6 ⟨by omega, by omega, by omega, by omega⟩) hl hw
theorem li_c6 {sc : pm_Z} (h5 : sc.1 ≤ 5) : li_B sc 296 := by
  intro g lv w hs h1 hj hl hw
  obtain ⟨z3, a3, b3, d3⟩ := hj.2.2 (3, (-2147483648), 2147483647) (by decide)
  obtain ⟨z4, a4, b4, d4⟩ := hj.2.2 (4, (-2147483648), 2147483647) (by decide)
  obtain ⟨z5, a5, b5, d5⟩ := hj.2.2 (5, (-2147483648), 2147483647) (by decide)
  obtain ⟨z6, a6, b6, d6⟩ := hj.2.2 (6, (-2147483648), 2147483647) (by decide)
  simp only at a3 a4 a5 a6 b3 b4 b5 b6 d3 d4 d5 d6
  exact li_case h5 rc_6_0 hs h1 hj (li_env hj h1 a3 a4 a5 a6 ⟨by omega, by omega, by omega, by omega⟩) hl hw
theorem li_c7 {sc : pm_Z} (h5 : sc.1 ≤ 5) : li_B sc 329 := by
  intro g lv w hs h1 hj hl hw
  obtain ⟨z3, a3, b3, d3⟩ := hj.2.2 (3, (-2147483648), 2147483647) (by decide)
  obtain ⟨z4, a4, b4, d4⟩ := hj.2.2 (4, (-2147483648), 2147483647) (by decide)
  obtain ⟨z5, a5, b5, d5⟩ := hj.2.2 (5, (-2147483648), 2147483647) (by decide)
  obtain ⟨z6, a6, b6, d6⟩ := hj.2.2 (6, (-2147483648), 2147483647) (by decide)
  simp only at a3 a4 a5 a6 b3 b4 b5 b6 d3 d4 d5 d6
  have q0 : ((-2147483648) ≤ z3 ∧ z3 ≤ 10) ∨ (11 ≤ z3 ∧ z3 ≤ 20) ∨ (21 ≤ z3 ∧ z3 ≤ 2147483647) := by omega
  rcases q0 with q0 | q0 | q0
  · exact li_case h5 rc_7_0 hs h1 hj (li_env hj h1 a3 a4 a5 a6 ⟨by omega, by omega, by omega, by omega⟩) hl hw
  · exact li_case h5 rc_7_1 hs h1 hj (li_env hj h1 a3 a4 a5 a6 ⟨by omega, by omega, by omega, by omega⟩) hl hw
  · exact li_case h5 rc_7_2 hs h1 hj (li_env hj h1 a3 a4 a5 a6 ⟨by omega, by omega, by omega, by omega⟩) hl hw
theorem li_c8 {sc : pm_Z} (h5 : sc.1 ≤ 5) : li_B sc 352 := by
  intro g lv w hs h1 hj hl hw
  obtain ⟨z3, a3, b3, d3⟩ := hj.2.2 (3, (-2147483648), 2147483647) (by decide)
  obtain ⟨z4, a4, b4, d4⟩ := hj.2.2 (4, (-2147483648), 2147483647) (by decide)
  obtain ⟨z5, a5, b5, d5⟩ := hj.2.2 (5, (-2147483648), 2147483647) (by decide)
  obtain ⟨z6, a6, b6, d6⟩ := hj.2.2 (6, (-2147483648), 2147483647) (by decide)
  simp only at a3 a4 a5 a6 b3 b4 b5 b6 d3 d4 d5 d6
  have q0 : ((-2147483648) ≤ z3 ∧ z3 ≤ 1) ∨ (2 ≤ z3 ∧ z3 ≤ 2147483647) := by omega
  rcases q0 with q0 | q0
  · exact li_case h5 rc_8_0 hs h1 hj (li_env hj h1 a3 a4 a5 a6 ⟨by omega, by omega, by omega, by omega⟩) hl hw
  · exact li_case h5 rc_8_1 hs h1 hj (li_env hj h1 a3 a4 a5 a6 ⟨by omega, by omega, by omega, by omega⟩) hl hw
theorem li_c9 {sc : pm_Z} (h5 : sc.1 ≤ 5) : li_B sc 385 := by
  intro g lv w hs h1 hj hl hw
  obtain ⟨z3, a3, b3, d3⟩ := hj.2.2 (3, (-2147483648), 2147483647) (by decide)
  obtain ⟨z4, a4, b4, d4⟩ := hj.2.2 (4, (-2147483648), 2147483647) (by decide)
  obtain ⟨z5, a5, b5, d5⟩ := hj.2.2 (5, (-2147483648), 2147483647) (by decide)
  obtain ⟨z6, a6, b6, d6⟩ := hj.2.2 (6, (-2147483648), 2147483647) (by decide)
  simp only at a3 a4 a5 a6 b3 b4 b5 b6 d3 d4 d5 d6
  exact li_case h5 rc_9_0 hs h1 hj (li_env hj h1 a3 a4 a5 a6 ⟨by omega, by omega, by omega, by omega⟩) hl hw
theorem li_c10 {sc : pm_Z} (h5 : sc.1 ≤ 5) : li_B sc 428 := by
  intro g lv w hs h1 hj hl hw
  obtain ⟨z3, a3, b3, d3⟩ := hj.2.2 (3, (-2147483648), 2147483647) (by decide)
  obtain ⟨z4, a4, b4, d4⟩ := hj.2.2 (4, (-2147483648), 2147483647) (by decide)
  obtain ⟨z5, a5, b5, d5⟩ := hj.2.2 (5, (-2147483648), 2147483647) (by decide)
  obtain ⟨z6, a6, b6, d6⟩ := hj.2.2 (6, (-2147483648), 2147483647) (by decide)
  simp only at a3 a4 a5 a6 b3 b4 b5 b6 d3 d4 d5 d6
  exact li_case h5 rc_10_0 hs h1 hj (li_env hj h1 a3 a4 a5 a6 ⟨by omega, by omega, by omega, by omega⟩) hl hw
theorem li_c11 {sc : pm_Z} (h5 : sc.1 ≤ 5) : li_B sc 441 := by
  intro g lv w hs h1 hj hl hw
  obtain ⟨z3, a3, b3, d3⟩ := hj.2.2 (3, (-2147483648), 2147483647) (by decide)
  obtain ⟨z4, a4, b4, d4⟩ := hj.2.2 (4, (-2147483648), 2147483647) (by decide)
  obtain ⟨z5, a5, b5, d5⟩ := hj.2.2 (5, (-2147483648), 2147483647) (by decide)
  obtain ⟨z6, a6, b6, d6⟩ := hj.2.2 (6, (-2147483648), 2147483647) (by decide)
  simp only at a3 a4 a5 a6 b3 b4 b5 b6 d3 d4 d5 d6
  have q0 : ((-2147483648) ≤ z3 ∧ z3 ≤ 0) ∨ (1 ≤ z3 ∧ z3 ≤ 1) ∨ (2 ≤ z3 ∧ z3 ≤ 2) ∨ (3 ≤ z3 ∧ z3 ≤ 2147483647) := by omega
  rcases q0 with q0 | q0 | q0 | q0
  · exact li_case h5 rc_11_0 hs h1 hj (li_env hj h1 a3 a4 a5 a6 ⟨by omega, by omega, by omega, by omega⟩) hl hw
  · exact li_case h5 rc_11_1 hs h1 hj (li_env hj h1 a3 a4 a5 a6 ⟨by omega, by omega, by omega, by omega⟩) hl hw
  · exact li_case h5 rc_11_2 hs h1 hj (li_env hj h1 a3 a4 a5 a6 ⟨by omega, by omega, by omega, by omega⟩) hl hw
  · exact li_case h5 rc_11_3 hs h1 hj (li_env hj h1 a3 a4 a5 a6 ⟨by omega, by omega, by omega, by omega⟩) hl hw
theorem li_c12 {sc : pm_Z} (h5 : sc.1 ≤ 5) : li_B sc 484 := by
  intro g lv w hs h1 hj hl hw
  obtain ⟨z3, a3, b3, d3⟩ := hj.2.2 (3, (-2147483648), 2147483647) (by decide)
  obtain ⟨z4, a4, b4, d4⟩ := hj.2.2 (4, (-2147483648), 2147483647) (by decide)
  obtain ⟨z5, a5, b5, d5⟩ := hj.2.2 (5, (-2147483648), 2147483647) (by decide)
  obtain ⟨z6, a6, b6, d6⟩ := hj.2.2 (6, (-2147483648), 2147483647) (by decide)
  simp only at a3 a4 a5 a6 b3 b4 b5 b6 d3 d4 d5 d6
  exact li_case h5 rc_12_0 hs h1 hj (li_env hj h1 a3 a4 a5 a6 ⟨by omega, by omega, by omega, by omega⟩) hl hw
theorem li_c13 {sc : pm_Z} (h5 : sc.1 ≤ 5) : li_B sc 507 := by
  intro g lv w hs h1 hj hl hw
  obtain ⟨z3, a3, b3, d3⟩ := hj.2.2 (3, (-2147483648), 2147483647) (by decide)
  obtain ⟨z4, a4, b4, d4⟩ := hj.2.2 (4, (-2147483648), 2147483647) (by decide)
  obtain ⟨z5, a5, b5, d5⟩ := hj.2.2 (5, (-2147483648), 2147483647) (by decide)
  obtain ⟨z6, a6, b6, d6⟩ := hj.2.2 (6, (-2147483648), 2147483647) (by decide)
  simp only at a3 a4 a5 a6 b3 b4 b5 b6 d3 d4 d5 d6
  exact li_case h5 rc_13_0 hs h1 hj (li_env hj h1 a3 a4 a5 a6 ⟨by omega, by omega, by omega, by omega⟩) hl hw
theorem li_c14 {sc : pm_Z} (h5 : sc.1 ≤ 5) : li_B sc 520 := by
  intro g lv w hs h1 hj hl hw
  obtain ⟨z3, a3, b3, d3⟩ := hj.2.2 (3, (-2147483648), 2147483647) (by decide)
  obtain ⟨z4, a4, b4, d4⟩ := hj.2.2 (4, (-2147483648), 2147483647) (by decide)
  obtain ⟨z5, a5, b5, d5⟩ := hj.2.2 (5, (-2147483648), 2147483647) (by decide)
  obtain ⟨z6, a6, b6, d6⟩ := hj.2.2 (6, (-2147483648), 2147483647) (by decide)
  simp only at a3 a4 a5 a6 b3 b4 b5 b6 d3 d4 d5 d6
  exact li_case h5 rc_14_0 hs h1 hj (li_env hj h1 a3 a4 a5 a6 ⟨by omega, by omega, by omega, by omega⟩) hl hw
theorem li_c15 {sc : pm_Z} (h5 : sc.1 ≤ 5) : li_B sc 553 := by
  intro g lv w hs h1 hj hl hw
  obtain ⟨z3, a3, b3, d3⟩ := hj.2.2 (3, (-2147483648), 2147483647) (by decide)
  obtain ⟨z4, a4, b4, d4⟩ := hj.2.2 (4, (-2147483648), 2147483647) (by decide)
  obtain ⟨z5, a5, b5, d5⟩ := hj.2.2 (5, (-2147483648), 2147483647) (by decide)
  obtain ⟨z6, a6, b6, d6⟩ := hj.2.2 (6, (-2147483648), 2147483647) (by decide)
  simp only at a3 a4 a5 a6 b3 b4 b5 b6 d3 d4 d5 d6
  have q0 : ((-2147483648) ≤ z3 ∧ z3 ≤ 1) ∨ (2 ≤ z3 ∧ z3 ≤ 2147483647) := by omega
  rcases q0 with q0 | q0
  · exact li_case h5 rc_15_0 hs h1 hj (li_env hj h1 a3 a4 a5 a6 ⟨by omega, by omega, by omega, by omega⟩) hl hw
  · exact li_case h5 rc_15_1 hs h1 hj (li_env hj h1 a3 a4 a5 a6 ⟨by omega, by omega, by omega, by omega⟩) hl hw
theorem li_c16 {sc : pm_Z} (h5 : sc.1 ≤ 5) : li_B sc 606 := by
  intro g lv w hs h1 hj hl hw
  obtain ⟨z3, a3, b3, d3⟩ := hj.2.2 (3, (-2147483648), 2147483647) (by decide)
  obtain ⟨z4, a4, b4, d4⟩ := hj.2.2 (4, (-2147483648), 2147483647) (by decide)
  obtain ⟨z5, a5, b5, d5⟩ := hj.2.2 (5, (-2147483648), 2147483647) (by decide)
  obtain ⟨z6, a6, b6, d6⟩ := hj.2.2 (6, (-2147483648), 2147483647) (by decide)
  simp only at a3 a4 a5 a6 b3 b4 b5 b6 d3 d4 d5 d6
  exact li_case h5 rc_16_0 hs h1 hj (li_env hj h1 a3 a4 a5 a6 ⟨by omega, by omega, by omega, by omega⟩) hl hw
theorem li_c17 {sc : pm_Z} (h5 : sc.1 ≤ 5) : li_B sc 649 := by
  intro g lv w hs h1 hj hl hw
  obtain ⟨z3, a3, b3, d3⟩ := hj.2.2 (3, (-2147483648), 2147483647) (by decide)
  obtain ⟨z4, a4, b4, d4⟩ := hj.2.2 (4, (-2147483648), 2147483647) (by decide)
  obtain ⟨z5, a5, b5, d5⟩ := hj.2.2 (5, (-2147483648), 2147483647) (by decide)
  obtain ⟨z6, a6, b6, d6⟩ := hj.2.2 (6, (-2147483648), 2147483647) (by decide)
  simp only at a3 a4 a5 a6 b3 b4 b5 b6 d3 d4 d5 d6
  exact li_case h5 rc_17_0 hs h1 hj (li_env hj h1 a3 a4 a5 a6 ⟨by omega, by omega, by omega, by omega⟩) hl hw
theorem li_c18 {sc : pm_Z} (h5 : sc.1 ≤ 5) : li_B sc 672 := by
  intro g lv w hs h1 hj hl hw
  obtain ⟨z3, a3, b3, d3⟩ := hj.2.2 (3, (-2147483648), 2147483647) (by decide)
  obtain ⟨z4, a4, b4, d4⟩ := hj.2.2 (4, (-2147483648), 2147483647) (by decide)
  obtain ⟨z5, a5, b5, d5⟩ := hj.2.2 (5, (-2147483648), 2147483647) (by decide)
  obtain ⟨z6, a6, b6, d6⟩ := hj.2.2 (6, (-2147483648), 2147483647) (by decide)
  simp only at a3 a4 a5 a6 b3 b4 b5 b6 d3 d4 d5 d6
  have q0 : ((-2147483648) ≤ z3 ∧ z3 ≤ 0) ∨ (1 ≤ z3 ∧ z3 ≤ 1) ∨ (2 ≤ z3 ∧ z3 ≤ 2) ∨ (3 ≤ z3 ∧ z3 ≤ 2147483647) := by omega
  rcases q0 with q0 | q0 | q0 | q0
  · have q1 : ((-2147483648) ≤ z4 ∧ z4 ≤ 0) ∨ (1 ≤ z4 ∧ z4 ≤ 1) ∨ (2 ≤ z4 ∧ z4 ≤ 2) ∨ (3 ≤ z4 ∧ z4 ≤ 2147483647) := by omega
    rcases q1 with q1 | q1 | q1 | q1
    · have q2 : ((-2147483648) ≤ z5 ∧ z5 ≤ 5) ∨ (6 ≤ z5 ∧ z5 ≤ 2147483647) := by omega
      rcases q2 with q2 | q2
      · exact li_case h5 rc_18_0 hs h1 hj (li_env hj h1 a3 a4 a5 a6 ⟨by omega, by omega, by omega, by omega⟩) hl hw
      · exact li_case h5 rc_18_1 hs h1 hj (li_env hj h1 a3 a4 a5 a6 ⟨by omega, by omega, by omega, by omega⟩) hl hw
    · have q2 : ((-2147483648) ≤ z5 ∧ z5 ≤ 5) ∨ (6 ≤ z5 ∧ z5 ≤ 2147483647) := by omega
      rcases q2 with q2 | q2
      · exact li_case h5 rc_18_2 hs h1 hj (li_env hj h1 a3 a4 a5 a6 ⟨by omega, by omega, by omega, by omega⟩) hl hw
      · exact li_case h5 rc_18_3 hs h1 hj (li_env hj h1 a3 a4 a5 a6 ⟨by omega, by omega, by omega, by omega⟩) hl hw
    · have q2 : ((-2147483648) ≤ z5 ∧ z5 ≤ 5) ∨ (6 ≤ z5 ∧ z5 ≤ 2147483647) := by omega
      rcases q2 with q2 | q2
      · exact li_case h5 rc_18_4 hs h1 hj (li_env hj h1 a3 a4 a5 a6 ⟨by omega, by omega, by omega, by omega⟩) hl hw
      · exact li_case h5 rc_18_5 hs h1 hj (li_env hj h1 a3 a4 a5 a6 ⟨by omega, by omega, by omega, by omega⟩) hl hw
    · have q2 : ((-2147483648) ≤ z5 ∧ z5 ≤ 5) ∨ (6 ≤ z5 ∧ z5 ≤ 2147483647) := by omega
      rcases q2 with q2 | q2
      · exact li_case h5 rc_18_6 hs h1 hj (li_env hj h1 a3 a4 a5 a6 ⟨by omega, by omega, by omega, by omega⟩) hl hw
      · exact li_case h5 rc_18_7 hs h1 hj (li_env hj h1 a3 a4 a5 a6 ⟨by omega, by omega, by omega, by omega⟩) hl hw
  · have q1 : ((-2147483648) ≤ z4 ∧ z4 ≤ 0) ∨ (1 ≤ z4 ∧ z4 ≤ 1) ∨ (2 ≤ z4 ∧ z4 ≤ 2) ∨ (3 ≤ z4 ∧ z4 ≤ 2147483647) := by omega
    rcases q1 with q1 | q1 | q1 | q1
    · have q2 : ((-2147483648) ≤ z5 ∧ z5 ≤ 5) ∨ (6 ≤ z5 ∧ z5 ≤ 2147483647) := by omega
      rcases q2 with q2 | q2
      · exact li_case h5 rc_18_8 hs h1 hj (li_env hj h1 a3 a4 a5 a6 ⟨by omega, by omega, by omega, by omega⟩) hl hw
      · exact li_case h5 rc_18_9 hs h1 hj (li_env hj h1 a3 a4 a5 a6 ⟨by omega, by omega, by omega, by omega⟩) hl hw
    · have q2 : ((-2147483648) ≤ z5 ∧ z5 ≤ 5) ∨ (6 ≤ z5 ∧ z5 ≤ 2147483647) := by omega
      rcases q2 with q2 | q2
      · exact li_case h5 rc_18_10 hs h1 hj (li_env hj h1 a3 a4 a5 a6 ⟨by omega, by omega, by omega, by omega⟩) hl hw
      · exact li_case h5 rc_18_11 hs h1 hj (li_env hj h1 a3 a4 a5 a6 ⟨by omega, by omega, by omega, by omega⟩) hl hw
    · have q2 : ((-2147483648) ≤ z5 ∧ z5 ≤ 5) ∨ (6 ≤ z5 ∧ z5 ≤ 2147483647) := by omega
      rcases q2 with q2 | q2
      · exact li_case h5 rc_18_12 hs h1 hj (li_env hj h1 a3 a4 a5 a6 ⟨by omega, by omega, by omega, by omega⟩) hl hw
      · exact li_case h5 rc_18_13 hs h1 hj (li_env hj h1 a3 a4 a5 a6 ⟨by omega, by omega, by omega, by omega⟩) hl hw
    · have q2 : ((-2147483648) ≤ z5 ∧ z5 ≤ 5) ∨ (6 ≤ z5 ∧ z5 ≤ 2147483647) := by omega
      rcases q2 with q2 | q2
      · exact li_case h5 rc_18_14 hs h1 hj (li_env hj h1 a3 a4 a5 a6 ⟨by omega, by omega, by omega, by omega⟩) hl hw
      · exact li_case h5 rc_18_15 hs h1 hj (li_env hj h1 a3 a4 a5 a6 ⟨by omega, by omega, by omega, by omega⟩) hl hw
  · have q1 : ((-2147483648) ≤ z4 ∧ z4 ≤ 0) ∨ (1 ≤ z4 ∧ z4 ≤ 1) ∨ (2 ≤ z4 ∧ z4 ≤ 2) ∨ (3 ≤ z4 ∧ z4 ≤ 2147483647) := by omega
    rcases q1 with q1 | q1 | q1 | q1
    · have q2 : ((-2147483648) ≤ z5 ∧ z5 ≤ 5) ∨ (6 ≤ z5 ∧ z5 ≤ 2147483647) := by omega
      rcases q2 with q2 | q2
      · exact li_case h5 rc_18_16 hs h1 hj (li_env hj h1 a3 a4 a5 a6 ⟨by omega, by omega, by omega, by omega⟩) hl hw
      · exact li_case h5 rc_18_17 hs h1 hj (li_env hj h1 a3 a4 a5 a6 ⟨by omega, by omega, by omega, by omega⟩) hl hw
    · have q2 : ((-2147483648) ≤ z5 ∧ z5 ≤ 5) ∨ (6 ≤ z5 ∧ z5 ≤ 2147483647) := by omega
      rcases q2 with q2 | q2
      · exact li_case h5 rc_18_18 hs h1 hj (li_env hj h1 a3 a4 a5 a6 ⟨by omega, by omega, by omega, by omega⟩) hl hw
      · exact li_case h5 rc_18_19 hs h1 hj (li_env hj h1 a3 a4 a5 a6 ⟨by omega, by omega, by omega, by omega⟩) hl hw
    · have q2 : ((-2147483648) ≤ z5 ∧ z5 ≤ 5) ∨ (6 ≤ z5 ∧ z5 ≤ 2147483647) := by omega
      rcases q2 with q2 | q2
      · exact li_case h5 rc_18_20 hs h1 hj (li_env hj h1 a3 a4 a5 a6 ⟨by omega, by omega, by omega, by omega⟩) hl hw
      · exact li_case h5 rc_18_21 hs h1 hj (li_env hj h1 a3 a4 a5 a6 ⟨by omega, by omega, by omega, by omega⟩) hl hw
    · have q2 : ((-2147483648) ≤ z5 ∧ z5 ≤ 5) ∨ (6 ≤ z5 ∧ z5 ≤ 2147483647) := by omega
      rcases q2 with q2 | q2
      · exact li_case h5 rc_18_22 hs h1 hj (li_env hj h1 a3 a4 a5 a6 ⟨by omega, by omega, by omega, by omega⟩) hl hw
      · exact li_case h5 rc_18_23 hs h1 hj (li_env hj h1 a3 a4 a5 a6 ⟨by omega, by omega, by omega, by omega⟩) hl hw
  · have q1 : ((-2147483648) ≤ z4 ∧ z4 ≤ 0) ∨ (1 ≤ z4 ∧ z4 ≤ 1) ∨ (2 ≤ z4 ∧ z4 ≤ 2) ∨ (3 ≤ z4 ∧ z4 ≤ 2147483647) := by omega
    rcases q1 with q1 | q1 | q1 | q1
    · have q2 : ((-2147483648) ≤ z5 ∧ z5 ≤ 5) ∨ (6 ≤ z5 ∧ z5 ≤ 2147483647) := by omega
      rcases q2 with q2 | q2
      · exact li_case h5 rc_18_24 hs h1 hj (li_env hj h1 a3 a4 a5 a6 ⟨by omega, by omega, by omega, by omega⟩) hl hw
      · exact li_case h5 rc_18_25 hs h1 hj (li_env hj h1 a3 a4 a5 a6 ⟨by omega, by omega, by omega, by omega⟩) hl hw
    · have q2 : ((-2147483648) ≤ z5 ∧ z5 ≤ 5) ∨ (6 ≤ z5 ∧ z5 ≤ 2147483647) := by omega
      rcases q2 with q2 | q2
      · exact li_case h5 rc_18_26 hs h1 hj (li_env hj h1 a3 a4 a5 a6 ⟨by omega, by omega, by omega, by omega⟩) hl hw
      · exact li_case h5 rc_18_27 hs h1 hj (li_env hj h1 a3 a4 a5 a6 ⟨by omega, by omega, by omega, by omega⟩) hl hw
    · have q2 : ((-2147483648) ≤ z5 ∧ z5 ≤ 5) ∨ (6 ≤ z5 ∧ z5 ≤ 2147483647) := by omega
      rcases q2 with q2 | q2
      · exact li_case h5 rc_18_28 hs h1 hj (li_env hj h1 a3 a4 a5 a6 ⟨by omega, by omega, by omega, by omega⟩) hl hw
      · exact li_case h5 rc_18_29 hs h1 hj (li_env hj h1 a3 a4 a5 a6 ⟨by omega, by omega, by omega, by omega⟩) hl hw
    · have q2 : ((-2147483648) ≤ z5 ∧ z5 ≤ 5) ∨ (6 ≤ z5 ∧ z5 ≤ 2147483647) := by omega
      rcases q2 with q2 | q2
      · exact li_case h5 rc_18_30 hs h1 hj (li_env hj h1 a3 a4 a5 a6 ⟨by omega, by omega, by omega, by omega⟩) hl hw
      · exact li_case h5 rc_18_31 hs h1 hj (li_env hj h1 a3 a4 a5 a6 ⟨by omega, by omega, by omega, by omega⟩) hl hw
theorem li_c19 {sc : pm_Z} (h5 : sc.1 ≤ 5) : li_B sc 725 := by
  intro g lv w hs h1 hj hl hw
  obtain ⟨z3, a3, b3, d3⟩ := hj.2.2 (3, (-2147483648), 2147483647) (by decide)
  obtain ⟨z4, a4, b4, d4⟩ := hj.2.2 (4, (-2147483648), 2147483647) (by decide)
  obtain ⟨z5, a5, b5, d5⟩ := hj.2.2 (5, (-2147483648), 2147483647) (by decide)
  obtain ⟨z6, a6, b6, d6⟩ := hj.2.2 (6, (-2147483648), 2147483647) (by decide)
  simp only at a3 a4 a5 a6 b3 b4 b5 b6 d3 d4 d5 d6
  have q0 : ((-2147483648) ≤ z3 ∧ z3 ≤ 1) ∨ (2 ≤ z3 ∧ z3 ≤ 2147483647) := by omega
  rcases q0 with q0 | q0
  · exact li_case h5 rc_19_0 hs h1 hj (li_env hj h1 a3 a4 a5 a6 ⟨by omega, by omega, by omega, by omega⟩) hl hw
  · exact li_case h5 rc_19_1 hs h1 hj (li_env hj h1 a3 a4 a5 a6 ⟨by omega, by omega, by omega, by omega⟩) hl hw
theorem li_c20 {sc : pm_Z} (h5 : sc.1 ≤ 5) : li_B sc 748 := by
  intro g lv w hs h1 hj hl hw
  obtain ⟨z3, a3, b3, d3⟩ := hj.2.2 (3, (-2147483648), 2147483647) (by decide)
  obtain ⟨z4, a4, b4, d4⟩ := hj.2.2 (4, (-2147483648), 2147483647) (by decide)
  obtain ⟨z5, a5, b5, d5⟩ := hj.2.2 (5, (-2147483648), 2147483647) (by decide)
  obtain ⟨z6, a6, b6, d6⟩ := hj.2.2 (6, (-2147483648), 2147483647) (by decide)
  simp only at a3 a4 a5 a6 b3 b4 b5 b6 d3 d4 d5 d6
  have q0 : ((-2147483648) ≤ z3 ∧ z3 ≤ 0) ∨ (1 ≤ z3 ∧ z3 ≤ 2147483647) := by omega
  rcases q0 with q0 | q0
  · exact li_case h5 rc_20_0 hs h1 hj (li_env hj h1 a3 a4 a5 a6 ⟨by omega, by omega, by omega, by omega⟩) hl hw
  · exact li_case h5 rc_20_1 hs h1 hj (li_env hj h1 a3 a4 a5 a6 ⟨by omega, by omega, by omega, by omega⟩) hl hw
theorem li_c21 {sc : pm_Z} (h5 : sc.1 ≤ 5) : li_B sc 771 := by
  intro g lv w hs h1 hj hl hw
  obtain ⟨z3, a3, b3, d3⟩ := hj.2.2 (3, (-2147483648), 2147483647) (by decide)
  obtain ⟨z4, a4, b4, d4⟩ := hj.2.2 (4, (-2147483648), 2147483647) (by decide)
  obtain ⟨z5, a5, b5, d5⟩ := hj.2.2 (5, (-2147483648), 2147483647) (by decide)
  obtain ⟨z6, a6, b6, d6⟩ := hj.2.2 (6, (-2147483648), 2147483647) (by decide)
  simp only at a3 a4 a5 a6 b3 b4 b5 b6 d3 d4 d5 d6
  exact li_case h5 rc_21_0 hs h1 hj (li_env hj h1 a3 a4 a5 a6 ⟨by omega, by omega, by omega, by omega⟩) hl hw
theorem li_c22 {sc : pm_Z} (h5 : sc.1 ≤ 5) : li_B sc 814 := by
  intro g lv w hs h1 hj hl hw
  obtain ⟨z3, a3, b3, d3⟩ := hj.2.2 (3, (-2147483648), 2147483647) (by decide)
  obtain ⟨z4, a4, b4, d4⟩ := hj.2.2 (4, (-2147483648), 2147483647) (by decide)
  obtain ⟨z5, a5, b5, d5⟩ := hj.2.2 (5, (-2147483648), 2147483647) (by decide)
  obtain ⟨z6, a6, b6, d6⟩ := hj.2.2 (6, (-2147483648), 2147483647) (by decide)
  simp only at a3 a4 a5 a6 b3 b4 b5 b6 d3 d4 d5 d6
  exact li_case h5 rc_22_0 hs h1 hj (li_env hj h1 a3 a4 a5 a6 ⟨by omega, by omega, by omega, by omega⟩) hl hw
theorem li_c23 {sc : pm_Z} (h5 : sc.1 ≤ 5) : li_B sc 827 := by
  intro g lv w hs h1 hj hl hw
  obtain ⟨z3, a3, b3, d3⟩ := hj.2.2 (3, (-2147483648), 2147483647) (by decide)
  obtain ⟨z4, a4, b4, d4⟩ := hj.2.2 (4, (-2147483648), 2147483647) (by decide)
  obtain ⟨z5, a5, b5, d5⟩ := hj.2.2 (5, (-2147483648), 2147483647) (by decide)
  obtain ⟨z6, a6, b6, d6⟩ := hj.2.2 (6, (-2147483648), 2147483647) (by decide)
  simp only at a3 a4 a5 a6 b3 b4 b5 b6 d3 d4 d5 d6
  exact li_case h5 rc_23_0 hs h1 hj (li_env hj h1 a3 a4 a5 a6 ⟨by omega, by omega, by omega, by omega⟩) hl hw
theorem li_c24 {sc : pm_Z} (h5 : sc.1 ≤ 5) : li_B sc 850 := by
  intro g lv w hs h1 hj hl hw
  obtain ⟨z3, a3, b3, d3⟩ := hj.2.2 (3, (-2147483648), 2147483647) (by decide)
  obtain ⟨z4, a4, b4, d4⟩ := hj.2.2 (4, (-2147483648), 2147483647) (by decide)
  obtain ⟨z5, a5, b5, d5⟩ := hj.2.2 (5, (-2147483648), 2147483647) (by decide)
  obtain ⟨z6, a6, b6, d6⟩ := hj.2.2 (6, (-2147483648), 2147483647) (by decide)
  simp only at a3 a4 a5 a6 b3 b4 b5 b6 d3 d4 d5 d6
  have q0 : ((-2147483648) ≤ z3 ∧ z3 ≤ 0) ∨ (1 ≤ z3 ∧ z3 ≤ 1) ∨ (2 ≤ z3 ∧ z3 ≤ 2) ∨ (3 ≤ z3 ∧ z3 ≤ 2147483647) := by omega
  rcases q0 with q0 | q0 | q0 | q0
  · have q1 : ((-2147483648) ≤ z4 ∧ z4 ≤ 2) ∨ (3 ≤ z4 ∧ z4 ≤ 2147483647) := by omega
    rcases q1 with q1 | q1
    · exact li_case h5 rc_24_0 hs h1 hj (li_env hj h1 a3 a4 a5 a6 ⟨by omega, by omega, by omega, by omega⟩) hl hw
    · exact li_case h5 rc_24_1 hs h1 hj (li_env hj h1 a3 a4 a5 a6 ⟨by omega, by omega, by omega, by omega⟩) hl hw
  · have q1 : ((-2147483648) ≤ z4 ∧ z4 ≤ 2) ∨ (3 ≤ z4 ∧ z4 ≤ 2147483647) := by omega
    rcases q1 with q1 | q1
    · exact li_case h5 rc_24_2 hs h1 hj (li_env hj h1 a3 a4 a5 a6 ⟨by omega, by omega, by omega, by omega⟩) hl hw
    · exact li_case h5 rc_24_3 hs h1 hj (li_env hj h1 a3 a4 a5 a6 ⟨by omega, by omega, by omega, by omega⟩) hl hw
  · have q1 : ((-2147483648) ≤ z4 ∧ z4 ≤ 2) ∨ (3 ≤ z4 ∧ z4 ≤ 2147483647) := by omega
    rcases q1 with q1 | q1
    · exact li_case h5 rc_24_4 hs h1 hj (li_env hj h1 a3 a4 a5 a6 ⟨by omega, by omega, by omega, by omega⟩) hl hw
    · exact li_case h5 rc_24_5 hs h1 hj (li_env hj h1 a3 a4 a5 a6 ⟨by omega, by omega, by omega, by omega⟩) hl hw
  · have q1 : ((-2147483648) ≤ z4 ∧ z4 ≤ 2) ∨ (3 ≤ z4 ∧ z4 ≤ 2147483647) := by omega
    rcases q1 with q1 | q1
    · exact li_case h5 rc_24_6 hs h1 hj (li_env hj h1 a3 a4 a5 a6 ⟨by omega, by omega, by omega, by omega⟩) hl hw
    · exact li_case h5 rc_24_7 hs h1 hj (li_env hj h1 a3 a4 a5 a6 ⟨by omega, by omega, by omega, by omega⟩) hl hw
theorem li_c25 {sc : pm_Z} (h5 : sc.1 ≤ 5) : li_B sc 883 := by
  intro g lv w hs h1 hj hl hw
  obtain ⟨z3, a3, b3, d3⟩ := hj.2.2 (3, (-2147483648), 2147483647) (by decide)
  obtain ⟨z4, a4, b4, d4⟩ := hj.2.2 (4, (-2147483648), 2147483647) (by decide)
  obtain ⟨z5, a5, b5, d5⟩ := hj.2.2 (5, (-2147483648), 2147483647) (by decide)
  obtain ⟨z6, a6, b6, d6⟩ := hj.2.2 (6, (-2147483648), 2147483647) (by decide)
  simp only at a3 a4 a5 a6 b3 b4 b5 b6 d3 d4 d5 d6
  have q0 : ((-2147483648) ≤ z3 ∧ z3 ≤ 1) ∨ (2 ≤ z3 ∧ z3 ≤ 2) ∨ (3 ≤ z3 ∧ z3 ≤ 3) ∨ (4 ≤ z3 ∧ z3 ≤ 4) ∨ (5 ≤ z3 ∧ z3 ≤ 5) ∨ (6 ≤ z3 ∧ z3 ≤ 6) ∨ (7 ≤ z3 ∧ z3 ≤ 7) ∨ (8 ≤ z3 ∧ z3 ≤ 8) ∨ (9 ≤ z3 ∧ z3 ≤ 9) ∨ (10 ≤ z3 ∧ z3 ≤ 10) ∨ (11 ≤ z3 ∧ z3 ≤ 11) ∨ (12 ≤ z3 ∧ z3 ≤ 12) ∨ (13 ≤ z3 ∧ z3 ≤ 13) ∨ (14 ≤ z3 ∧ z3 ≤ 14) ∨ (15 ≤ z3 ∧ z3 ≤ 15) ∨ (16 ≤ z3 ∧ z3 ≤ 16) ∨ (17 ≤ z3 ∧ z3 ≤ 17) ∨ (18 ≤ z3 ∧ z3 ≤ 18) ∨ (19 ≤ z3 ∧ z3 ≤ 19) ∨ (20 ≤ z3 ∧ z3 ≤ 20) ∨ (21 ≤ z3 ∧ z3 ≤ 21) ∨ (22 ≤ z3 ∧ z3 ≤ 22) ∨ (23 ≤ z3 ∧ z3 ≤ 23) ∨ (24 ≤ z3 ∧ z3 ≤ 24) ∨ (25 ≤ z3 ∧ z3 ≤ 25) ∨ (26 ≤ z3 ∧ z3 ≤ 26) ∨ (27 ≤ z3 ∧ z3 ≤ 27) ∨ (28 ≤ z3 ∧ z3 ≤ 28) ∨ (29 ≤ z3 ∧ z3 ≤ 29) ∨ (30 ≤ z3 ∧ z3 ≤ 2147483647) := by omega
  rcases q0 with q0 | q0 | q0 | q0 | q0 | q0 | q0 | q0 | q0 | q0 | q0 | q0 | q0 | q0 | q0 | q0 | q0 | q0 | q0 | q0 | q0 | q0 | q0 | q0 | q0 | q0 | q0 | q0 | q0 | q0
  · have q1 : ((-2147483648) ≤ z4 ∧ z4 ≤ 3) ∨ (4 ≤ z4 ∧ z4 ≤ 6) ∨ (7 ≤ z4 ∧ z4 ≤ 2147483647) := by omega
    rcases q1 with q1 | q1 | q1
    · exact li_case h5 rc_25_0 hs h1 hj (li_env hj h1 a3 a4 a5 a6 ⟨by omega, by omega, by omega, by omega⟩) hl hw
    · exact li_case h5 rc_25_1 hs h1 hj (li_env hj h1 a3 a4 a5 a6 ⟨by omega, by omega, by omega, by omega⟩) hl hw
    · exact li_case h5 rc_25_2 hs h1 hj (li_env hj h1 a3 a4 a5 a6 ⟨by omega, by omega, by omega, by omega⟩) hl hw
  · have q1 : ((-2147483648) ≤ z4 ∧ z4 ≤ 3) ∨ (4 ≤ z4 ∧ z4 ≤ 6) ∨ (7 ≤ z4 ∧ z4 ≤ 2147483647) := by omega
    rcases q1 with q1 | q1 | q1
    · exact li_case h5 rc_25_3 hs h1 hj (li_env hj h1 a3 a4 a5 a6 ⟨by omega, by omega, by omega, by omega⟩) hl hw
    · exact li_case h5 rc_25_4 hs h1 hj (li_env hj h1 a3 a4 a5 a6 ⟨by omega, by omega, by omega, by omega⟩) hl hw
    · exact li_case h5 rc_25_5 hs h1 hj (li_env hj h1 a3 a4 a5 a6 ⟨by omega, by omega, by omega, by omega⟩) hl hw
  · have q1 : ((-2147483648) ≤ z4 ∧ z4 ≤ 3) ∨ (4 ≤ z4 ∧ z4 ≤ 6) ∨ (7 ≤ z4 ∧ z4 ≤ 2147483647) := by omega
    rcases q1 with q1 | q1 | q1
    · exact li_case h5 rc_25_6 hs h1 hj (li_env hj h1 a3 a4 a5 a6 ⟨by omega, by omega, by omega, by omega⟩) hl hw
    · exact li_case h5 rc_25_7 hs h1 hj (li_env hj h1 a3 a4 a5 a6 ⟨by omega, by omega, by omega, by omega⟩) hl hw
    · exact li_case h5 rc_25_8 hs h1 hj (li_env hj h1 a3 a4 a5 a6 ⟨by omega, by omega, by omega, by omega⟩) hl hw
  · have q1 : ((-2147483648) ≤ z4 ∧ z4 ≤ 3) ∨ (4 ≤ z4 ∧ z4 ≤ 6) ∨ (7 ≤ z4 ∧ z4 ≤ 2147483647) := by omega
    rcases q1 with q1 | q1 | q1
    · exact li_case h5 rc_25_9 hs h1 hj (li_env hj h1 a3 a4 a5 a6 ⟨by omega, by omega, by omega, by omega⟩) hl hw
    · exact li_case h5 rc_25_10 hs h1 hj (li_env hj h1 a3 a4 a5 a6 ⟨by omega, by omega, by omega, by omega⟩) hl hw
    · exact li_case h5 rc_25_11 hs h1 hj (li_env hj h1 a3 a4 a5 a6 ⟨by omega, by omega, by omega, by omega⟩) hl hw
  · have q1 : ((-2147483648) ≤ z4 ∧ z4 ≤ 3) ∨ (4 ≤ z4 ∧ z4 ≤ 6) ∨ (7 ≤ z4 ∧ z4 ≤ 2147483647) := by omega
    rcases q1 with q1 | q1 | q1
    · exact li_case h5 rc_25_12 hs h1 hj (li_env hj h1 a3 a4 a5 a6 ⟨by omega, by omega, by omega, by omega⟩) hl hw
    · exact li_case h5 rc_25_13 hs h1 hj (li_env hj h1 a3 a4 a5 a6 ⟨by omega, by omega, by omega, by omega⟩) hl hw
    · exact li_case h5 rc_25_14 hs h1 hj (li_env hj h1 a3 a4 a5 a6 ⟨by omega, by omega, by omega, by omega⟩) hl hw
  · have q1 : ((-2147483648) ≤ z4 ∧ z4 ≤ 3) ∨ (4 ≤ z4 ∧ z4 ≤ 6) ∨ (7 ≤ z4 ∧ z4 ≤ 2147483647) := by omega
    rcases q1 with q1 | q1 | q1
    · exact li_case h5 rc_25_15 hs h1 hj (li_env hj h1 a3 a4 a5 a6 ⟨by omega, by omega, by omega, by omega⟩) hl hw
    · exact li_case h5 rc_25_16 hs h1 hj (li_env hj h1 a3 a4 a5 a6 ⟨by omega, by omega, by omega, by omega⟩) hl hw
    · exact li_case h5 rc_25_17 hs h1 hj (li_env hj h1 a3 a4 a5 a6 ⟨by omega, by omega, by omega, by omega⟩) hl hw
  · have q1 : ((-2147483648) ≤ z4 ∧ z4 ≤ 3) ∨ (4 ≤ z4 ∧ z4 ≤ 6) ∨ (7 ≤ z4 ∧ z4 ≤ 2147483647) := by omega
    rcases q1 with q1 | q1 | q1
    · exact li_case h5 rc_25_18 hs h1 hj (li_env hj h1 a3 a4 a5 a6 ⟨by omega, by omega, by omega, by omega⟩) hl hw
    · exact li_case h5 rc_25_19 hs h1 hj (li_env hj h1 a3 a4 a5 a6 ⟨by omega, by omega, by omega, by omega⟩) hl hw
    · exact li_case h5 rc_25_20 hs h1 hj (li_env hj h1 a3 a4 a5 a6 ⟨by omega, by omega, by omega, by omega⟩) hl hw
  · have q1 : ((-2147483648) ≤ z4 ∧ z4 ≤ 3) ∨ (4 ≤ z4 ∧ z4 ≤ 6) ∨ (7 ≤ z4 ∧ z4 ≤ 2147483647) := by omega
    rcases q1 with q1 | q1 | q1
    · exact li_case h5 rc_25_21 hs h1 hj (li_env hj h1 a3 a4 a5 a6 ⟨by omega, by omega, by omega, by omega⟩) hl hw
    · exact li_case h5 rc_25_22 hs h1 hj (li_env hj h1 a3 a4 a5 a6 ⟨by omega, by omega, by omega, by omega⟩) hl hw
    · exact li_case h5 rc_25_23 hs h1 hj (li_env hj h1 a3 a4 a5 a6 ⟨by omega, by omega, by omega, by omega⟩) hl hw
  · have q1 : ((-2147483648) ≤ z4 ∧ z4 ≤ 3) ∨ (4 ≤ z4 ∧ z4 ≤ 6) ∨ (7 ≤ z4 ∧ z4 ≤ 2147483647) := by omega
    rcases q1 with q1 | q1 | q1
    · exact li_case h5 rc_25_24 hs h1 hj (li_env hj h1 a3 a4 a5 a6 ⟨by omega, by omega, by omega, by omega⟩) hl hw
    · exact li_case h5 rc_25_25 hs h1 hj (li_env hj h1 a3 a4 a5 a6 ⟨by omega, by omega, by omega, by omega⟩) hl hw
    · exact li_case h5 rc_25_26 hs h1 hj (li_env hj h1 a3 a4 a5 a6 ⟨by omega, by omega, by omega, by omega⟩) hl hw
  · have q1 : ((-2147483648) ≤ z4 ∧ z4 ≤ 3) ∨ (4 ≤ z4 ∧ z4 ≤ 6) ∨ (7 ≤ z4 ∧ z4 ≤ 2147483647) := by omega
    rcases q1 with q1 | q1 | q1
    · exact li_case h5 rc_25_27 hs h1 hj (li_env hj h1 a3 a4 a5 a6 ⟨by omega, by omega, by omega, by omega⟩) hl hw
    · exact li_case h5 rc_25_28 hs h1 hj (li_env hj h1 a3 a4 a5 a6 ⟨by omega, by omega, by omega, by omega⟩) hl hw
    · exact li_case h5 rc_25_29 hs h1 hj (li_env hj h1 a3 a4 a5 a6 ⟨by omega, by omega, by omega, by omega⟩) hl hw
  · have q1 : ((-2147483648) ≤ z4 ∧ z4 ≤ 3) ∨ (4 ≤ z4 ∧ z4 ≤ 6) ∨ (7 ≤ z4 ∧ z4 ≤ 2147483647) := by omega
    rcases q1 with q1 | q1 | q1
    · exact li_case h5 rc_25_30 hs h1 hj (li_env hj h1 a3 a4 a5 a6 ⟨by omega, by omega, by omega, by omega⟩) hl hw
    · exact li_case h5 rc_25_31 hs h1 hj (li_env hj h1 a3 a4 a5 a6 ⟨by omega, by omega, by omega, by omega⟩) hl hw
    · exact li_case h5 rc_25_32 hs h1 hj (li_env hj h1 a3 a4 a5 a6 ⟨by omega, by omega, by omega, by omega⟩) hl hw
  · have q1 : ((-2147483648) ≤ z4 ∧ z4 ≤ 3) ∨ (4 ≤ z4 ∧ z4 ≤ 6) ∨ (7 ≤ z4 ∧ z4 ≤ 2147483647) := by omega
    rcases q1 with q1 | q1 | q1
    · exact li_case h5 rc_25_33 hs h1 hj (li_env hj h1 a3 a4 a5 a6 ⟨by omega, by omega, by omega, by omega⟩) hl hw
    · exact li_case h5 rc_25_34 hs h1 hj (li_env hj h1 a3 a4 a5 a6 ⟨by omega, by omega, by omega, by omega⟩) hl hw
    · exact li_case h5 rc_25_35 hs h1 hj (li_env hj h1 a3 a4 a5 a6 ⟨by omega, by omega, by omega, by omega⟩) hl hw
  · have q1 : ((-2147483648) ≤ z4 ∧ z4 ≤ 3) ∨ (4 ≤ z4 ∧ z4 ≤ 6) ∨ (7 ≤ z4 ∧ z4 ≤ 2147483647) := by omega
    rcases q1 with q1 | q1 | q1
    · exact li_case h5 rc_25_36 hs h1 hj (li_env hj h1 a3 a4 a5 a6 ⟨by omega, by omega, by omega, by omega⟩) hl hw
    · exact li_case h5 rc_25_37 hs h1 hj (li_env hj h1 a3 a4 a5 a6 ⟨by omega, by omega, by omega, by omega⟩) hl hw
    · exact li_case h5 rc_25_38 hs h1 hj (li_env hj h1 a3 a4 a5 a6 ⟨by omega, by omega, by omega, by omega⟩) hl hw
  · have q1 : ((-2147483648) ≤ z4 ∧ z4 ≤ 3) ∨ (4 ≤ z4 ∧ z4 ≤ 6) ∨ (7 ≤ z4 ∧ z4 ≤ 2147483647) := by omega
    rcases q1 with q1 | q1 | q1
    · exact li_case h5 rc_25_39 hs h1 hj (li_env hj h1 a3 a4 a5 a6 ⟨by omega, by omega, by omega, by omega⟩) hl hw
    · exact li_case h5 rc_25_40 hs h1 hj (li_env hj h1 a3 a4 a5 a6 ⟨by omega, by omega, by omega, by omega⟩) hl hw
    · exact li_case h5 rc_25_41 hs h1 hj (li_env hj h1 a3 a4 a5 a6 ⟨by omega, by omega, by omega, by omega⟩) hl hw
  · have q1 : ((-2147483648) ≤ z4 ∧ z4 ≤ 3) ∨ (4 ≤ z4 ∧ z4 ≤ 6) ∨ (7 ≤ z4 ∧ z4 ≤ 2147483647) := by omega
    rcases q1 with q1 | q1 | q1
    · exact li_case h5 rc_25_42 hs h1 hj (li_env hj h1 a3 a4 a5 a6 ⟨by omega, by omega, by omega, by omega⟩) hl hw
    · exact li_case h5 rc_25_43 hs h1 hj (li_env hj h1 a3 a4 a5 a6 ⟨by omega, by omega, by omega, by omega⟩) hl hw
    · exact li_case h5 rc_25_44 hs h1 hj (li_env hj h1 a3 a4 a5 a6 ⟨by omega, by omega, by omega, by omega⟩) hl hw
  · have q1 : ((-2147483648) ≤ z4 ∧ z4 ≤ 3) ∨ (4 ≤ z4 ∧ z4 ≤ 6) ∨ (7 ≤ z4 ∧ z4 ≤ 2147483647) := by omega
    rcases q1 with q1 | q1 | q1
    · exact li_case h5 rc_25_45 hs h1 hj (li_env hj h1 a3 a4 a5 a6 ⟨by omega, by omega, by omega, by omega⟩) hl hw
    · exact li_case h5 rc_25_46 hs h1 hj (li_env hj h1 a3 a4 a5 a6 ⟨by omega, by omega, by omega, by omega⟩) hl hw
    · exact li_case h5 rc_25_47 hs h1 hj (li_env hj h1 a3 a4 a5 a6 ⟨by omega, by omega, by omega, by omega⟩) hl hw
  · have q1 : ((-2147483648) ≤ z4 ∧ z4 ≤ 3) ∨ (4 ≤ z4 ∧ z4 ≤ 6) ∨ (7 ≤ z4 ∧ z4 ≤ 2147483647) := by omega
    rcases q1 with q1 | q1 | q1
    · exact li_case h5 rc_25_48 hs h1 hj (li_env hj h1 a3 a4 a5 a6 ⟨by omega, by omega, by omega, by omega⟩) hl hw
    · exact li_case h5 rc_25_49 hs h1 hj (li_env hj h1 a3 a4 a5 a6 ⟨by omega, by omega, by omega, by omega⟩) hl hw
    · exact li_case h5 rc_25_50 hs h1 hj (li_env hj h1 a3 a4 a5 a6 ⟨by omega, by omega, by omega, by omega⟩) hl hw
  · have q1 : ((-2147483648) ≤ z4 ∧ z4 ≤ 3) ∨ (4 ≤ z4 ∧ z4 ≤ 6) ∨ (7 ≤ z4 ∧ z4 ≤ 2147483647) := by omega
    rcases q1 with q1 | q1 | q1
    · exact li_case h5 rc_25_51 hs h1 hj (li_env hj h1 a3 a4 a5 a6 ⟨by omega, by omega, by omega, by omega⟩) hl hw
    · exact li_case h5 rc_25_52 hs h1 hj (li_env hj h1 a3 a4 a5 a6 ⟨by omega, by omega, by omega, by omega⟩) hl hw
    · exact li_case h5 rc_25_53 hs h1 hj (li_env hj h1 a3 a4 a5 a6 ⟨by omega, by omega, by omega, by omega⟩) hl hw
  · have q1 : ((-2147483648) ≤ z4 ∧ z4 ≤ 3) ∨ (4 ≤ z4 ∧ z4 ≤ 6) ∨ (7 ≤ z4 ∧ z4 ≤ 2147483647) := by omega
    rcases q1 with q1 | q1 | q1
    · exact li_case h5 rc_25_54 hs h1 hj (li_env hj h1 a3 a4 a5 a6 ⟨by omega, by omega, by omega, by omega⟩) hl hw
    · exact li_case h5 rc_25_55 hs h1 hj (li_env hj h1 a3 a4 a5 a6 ⟨by omega, by omega, by omega, by omega⟩) hl hw
    · exact li_case h5 rc_25_56 hs h1 hj (li_env hj h1 a3 a4 a5 a6 ⟨by omega, by omega, by omega, by omega⟩) hl hw
  · have q1 : ((-2147483648) ≤ z4 ∧ z4 ≤ 3) ∨ (4 ≤ z4 ∧ z4 ≤ 6) ∨ (7 ≤ z4 ∧ z4 ≤ 2147483647) := by omega
    rcases q1 with q1 | q1 | q1
    · exact li_case h5 rc_25_57 hs h1 hj (li_env hj h1 a3 a4 a5 a6 ⟨by omega, by omega, by omega, by omega⟩) hl hw
    · exact li_case h5 rc_25_58 hs h1 hj (li_env hj h1 a3 a4 a5 a6 ⟨by omega, by omega, by omega, by omega⟩) hl hw
    · exact li_case h5 rc_25_59 hs h1 hj (li_env hj h1 a3 a4 a5 a6 ⟨by omega, by omega, by omega, by omega⟩) hl hw
  · have q1 : ((-2147483648) ≤ z4 ∧ z4 ≤ 3) ∨ (4 ≤ z4 ∧ z4 ≤ 6) ∨ (7 ≤ z4 ∧ z4 ≤ 2147483647) := by omega
    rcases q1 with q1 | q1 | q1
    · exact li_case h5 rc_25_60 hs h1 hj (li_env hj h1 a3 a4 a5 a6 ⟨by omega, by omega, by omega, by omega⟩) hl hw
    · exact li_case h5 rc_25_61 hs h1 hj (li_env hj h1 a3 a4 a5 a6 ⟨by omega, by omega, by omega, by omega⟩) hl hw
    · exact li_case h5 rc_25_62 hs h1 hj (li_env hj h1 a3 a4 a5 a6 ⟨by omega, by omega, by omega, by omega⟩) hl hw
  · have q1 : ((-2147483648) ≤ z4 ∧ z4 ≤ 3) ∨ (4 ≤ z4 ∧ z4 ≤ 6) ∨ (7 ≤ z4 ∧ z4 ≤ 2147483647) := by omega
    rcases q1 with q1 | q1 | q1
    · exact li_case h5 rc_25_63 hs h1 hj (li_env hj h1 a3 a4 a5 a6 ⟨by omega, by omega, by omega, by omega⟩) hl hw
    · exact li_case h5 rc_25_64 hs h1 hj (li_env hj h1 a3 a4 a5 a6 ⟨by omega, by omega, by omega, by omega⟩) hl hw
    · exact li_case h5 rc_25_65 hs h1 hj (li_env hj h1 a3 a4 a5 a6 ⟨by omega, by omega, by omega, by omega⟩) hl hw
  · have q1 : ((-2147483648) ≤ z4 ∧ z4 ≤ 3) ∨ (4 ≤ z4 ∧ z4 ≤ 6) ∨ (7 ≤ z4 ∧ z4 ≤ 2147483647) := by omega
    rcases q1 with q1 | q1 | q1
    · exact li_case h5 rc_25_66 hs h1 hj (li_env hj h1 a3 a4 a5 a6 ⟨by omega, by omega, by omega, by omega⟩) hl hw
    · exact li_case h5 rc_25_67 hs h1 hj (li_env hj h1 a3 a4 a5 a6 ⟨by omega, by omega, by omega, by omega⟩) hl hw
    · exact li_case h5 rc_25_68 hs h1 hj (li_env hj h1 a3 a4 a5 a6 ⟨by omega, by omega, by omega, by omega⟩) hl hw
  · have q1 : ((-2147483648) ≤ z4 ∧ z4 ≤ 3) ∨ (4 ≤ z4 ∧ z4 ≤ 6) ∨ (7 ≤ z4 ∧ z4 ≤ 2147483647) := by omega
    rcases q1 with q1 | q1 | q1
    · exact li_case h5 rc_25_69 hs h1 hj (li_env hj h1 a3 a4 a5 a6 ⟨by omega, by omega, by omega, by omega⟩) hl hw
    · exact li_case h5 rc_25_70 hs h1 hj (li_env hj h1 a3 a4 a5 a6 ⟨by omega, by omega, by omega, by omega⟩) hl hw
    · exact li_case h5 rc_25_71 hs h1 hj (li_env hj h1 a3 a4 a5 a6 ⟨by omega, by omega, by omega, by omega⟩) hl hw
  · have q1 : ((-2147483648) ≤ z4 ∧ z4 ≤ 3) ∨ (4 ≤ z4 ∧ z4 ≤ 6) ∨ (7 ≤ z4 ∧ z4 ≤ 2147483647) := by omega
    rcases q1 with q1 | q1 | q1
    · exact li_case h5 rc_25_72 hs h1 hj (li_env hj h1 a3 a4 a5 a6 ⟨by omega, by omega, by omega, by omega⟩) hl hw
    · exact li_case h5 rc_25_73 hs h1 hj (li_env hj h1 a3 a4 a5 a6 ⟨by omega, by omega, by omega, by omega⟩) hl hw
    · exact li_case h5 rc_25_74 hs h1 hj (li_env hj h1 a3 a4 a5 a6 ⟨by omega, by omega, by omega, by omega⟩) hl hw
  · have q1 : ((-2147483648) ≤ z4 ∧ z4 ≤ 3) ∨ (4 ≤ z4 ∧ z4 ≤ 6) ∨ (7 ≤ z4 ∧ z4 ≤ 2147483647) := by omega
    rcases q1 with q1 | q1 | q1
    · exact li_case h5 rc_25_75 hs h1 hj (li_env hj h1 a3 a4 a5 a6 ⟨by omega, by omega, by omega, by omega⟩) hl hw
    · exact li_case h5 rc_25_76 hs h1 hj (li_env hj h1 a3 a4 a5 a6 ⟨by omega, by omega, by omega, by omega⟩) hl hw
    · exact li_case h5 rc_25_77 hs h1 hj (li_env hj h1 a3 a4 a5 a6 ⟨by omega, by omega, by omega, by omega⟩) hl hw
  · have q1 : ((-2147483648) ≤ z4 ∧ z4 ≤ 3) ∨ (4 ≤ z4 ∧ z4 ≤ 6) ∨ (7 ≤ z4 ∧ z4 ≤ 2147483647) := by omega
    rcases q1 with q1 | q1 | q1
    · exact li_case h5 rc_25_78 hs h1 hj (li_env hj h1 a3 a4 a5 a6 ⟨by omega, by omega, by omega, by omega⟩) hl hw
    · exact li_case h5 rc_25_79 hs h1 hj (li_env hj h1 a3 a4 a5 a6 ⟨by omega, by omega, by omega, by omega⟩) hl hw
    · exact li_case h5 rc_25_80 hs h1 hj (li_env hj h1 a3 a4 a5 a6 ⟨by omega, by omega, by omega, by omega⟩) hl hw
  · have q1 : ((-2147483648) ≤ z4 ∧ z4 ≤ 3) ∨ (4 ≤ z4 ∧ z4 ≤ 6) ∨ (7 ≤ z4 ∧ z4 ≤ 2147483647) := by omega
    rcases q1 with q1 | q1 | q1
    · exact li_case h5 rc_25_81 hs h1 hj (li_env hj h1 a3 a4 a5 a6 ⟨by omega, by omega, by omega, by omega⟩) hl hw
    · exact li_case h5 rc_25_82 hs h1 hj (li_env hj h1 a3 a4 a5 a6 ⟨by omega, by omega, by omega, by omega⟩) hl hw
    · exact li_case h5 rc_25_83 hs h1 hj (li_env hj h1 a3 a4 a5 a6 ⟨by omega, by omega, by omega, by omega⟩) hl hw
  · have q1 : ((-2147483648) ≤ z4 ∧ z4 ≤ 3) ∨ (4 ≤ z4 ∧ z4 ≤ 6) ∨ (7 ≤ z4 ∧ z4 ≤ 2147483647) := by omega
    rcases q1 with q1 | q1 | q1
    · exact li_case h5 rc_25_84 hs h1 hj (li_env hj h1 a3 a4 a5 a6 ⟨by omega, by omega, by omega, by omega⟩) hl hw
    · exact li_case h5 rc_25_85 hs h1 hj (li_env hj h1 a3 a4 a5 a6 ⟨by omega, by omega, by omega, by omega⟩) hl hw
    · exact li_case h5 rc_25_86 hs h1 hj (li_env hj h1 a3 a4 a5 a6 ⟨by omega, by omega, by omega, by omega⟩) hl hw
  · have q1 : ((-2147483648) ≤ z4 ∧ z4 ≤ 3) ∨ (4 ≤ z4 ∧ z4 ≤ 6) ∨ (7 ≤ z4 ∧ z4 ≤ 2147483647) := by omega
    rcases q1 with q1 | q1 | q1
    · exact li_case h5 rc_25_87 hs h1 hj (li_env hj h1 a3 a4 a5 a6 ⟨by omega, by omega, by omega, by omega⟩) hl hw
    · exact li_case h5 rc_25_88 hs h1 hj (li_env hj h1 a3 a4 a5 a6 ⟨by omega, by omega, by omega, by omega⟩) hl hw
    · exact li_case h5 rc_25_89 hs h1 hj (li_env hj h1 a3 a4 a5 a6 ⟨by omega, by omega, by omega, by omega⟩) hl hw
theorem li_c26 {sc : pm_Z} (h5 : sc.1 ≤ 5) : li_B sc 916 := by
  intro g lv w hs h1 hj hl hw
  obtain ⟨z3, a3, b3, d3⟩ := hj.2.2 (3, (-2147483648), 2147483647) (by decide)
  obtain ⟨z4, a4, b4, d4⟩ := hj.2.2 (4, (-2147483648), 2147483647) (by decide)
  obtain ⟨z5, a5, b5, d5⟩ := hj.2.2 (5, (-2147483648), 2147483647) (by decide)
  obtain ⟨z6, a6, b6, d6⟩ := hj.2.2 (6, (-2147483648), 2147483647) (by decide)
  simp only at a3 a4 a5 a6 b3 b4 b5 b6 d3 d4 d5 d6
  have q0 : ((-2147483648) ≤ z3 ∧ z3 ≤ 0) ∨ (1 ≤ z3 ∧ z3 ≤ 1) ∨ (2 ≤ z3 ∧ z3 ≤ 2) ∨ (3 ≤ z3 ∧ z3 ≤ 2147483647) := by omega
  rcases q0 with q0 | q0 | q0 | q0
  · exact li_case h5 rc_26_0 hs h1 hj (li_env hj h1 a3 a4 a5 a6 ⟨by omega, by omega, by omega, by omega⟩) hl hw
  · exact li_case h5 rc_26_1 hs h1 hj (li_env hj h1 a3 a4 a5 a6 ⟨by omega, by omega, by omega, by omega⟩) hl hw
  · exact li_case h5 rc_26_2 hs h1 hj (li_env hj h1 a3 a4 a5 a6 ⟨by omega, by omega, by omega, by omega⟩) hl hw
  · exact li_case h5 rc_26_3 hs h1 hj (li_env hj h1 a3 a4 a5 a6 ⟨by omega, by omega, by omega, by omega⟩) hl hw
theorem li_c27 {sc : pm_Z} (h5 : sc.1 ≤ 5) : li_B sc 959 := by
  intro g lv w hs h1 hj hl hw
  obtain ⟨z3, a3, b3, d3⟩ := hj.2.2 (3, (-2147483648), 2147483647) (by decide)
  obtain ⟨z4, a4, b4, d4⟩ := hj.2.2 (4, (-2147483648), 2147483647) (by decide)
  obtain ⟨z5, a5, b5, d5⟩ := hj.2.2 (5, (-2147483648), 2147483647) (by decide)
  obtain ⟨z6, a6, b6, d6⟩ := hj.2.2 (6, (-2147483648), 2147483647) (by decide)
  simp only at a3 a4 a5 a6 b3 b4 b5 b6 d3 d4 d5 d6
  exact li_case h5 rc_27_0 hs h1 hj (li_env hj h1 a3 a4 a5 a6 ⟨by omega, by omega, by omega, by omega⟩) hl hw
theorem li_c28 {sc : pm_Z} (h5 : sc.1 ≤ 5) : li_B sc 972 := by
  intro g lv w hs h1 hj hl hw
  obtain ⟨z3, a3, b3, d3⟩ := hj.2.2 (3, (-2147483648), 2147483647) (by decide)
  obtain ⟨z4, a4, b4, d4⟩ := hj.2.2 (4, (-2147483648), 2147483647) (by decide)
  obtain ⟨z5, a5, b5, d5⟩ := hj.2.2 (5, (-2147483648), 2147483647) (by decide)
  obtain ⟨z6, a6, b6, d6⟩ := hj.2.2 (6, (-2147483648), 2147483647) (by decide)
  simp only at a3 a4 a5 a6 b3 b4 b5 b6 d3 d4 d5 d6
  exact li_case h5 rc_28_0 hs h1 hj (li_env hj h1 a3 a4 a5 a6 ⟨by omega, by omega, by omega, by omega⟩) hl hw
theorem li_c29 {sc : pm_Z} (h5 : sc.1 ≤ 5) : li_B sc 985 := by
  intro g lv w hs h1 hj hl hw
  obtain ⟨z3, a3, b3, d3⟩ := hj.2.2 (3, (-2147483648), 2147483647) (by decide)
  obtain ⟨z4, a4, b4, d4⟩ := hj.2.2 (4, (-2147483648), 2147483647) (by decide)
  obtain ⟨z5, a5, b5, d5⟩ := hj.2.2 (5, (-2147483648), 2147483647) (by decide)
  obtain ⟨z6, a6, b6, d6⟩ := hj.2.2 (6, (-2147483648), 2147483647) (by decide)
  simp only at a3 a4 a5 a6 b3 b4 b5 b6 d3 d4 d5 d6
  exact li_case h5 rc_29_0 hs h1 hj (li_env hj h1 a3 a4 a5 a6 ⟨by omega, by omega, by omega, by omega⟩) hl hw
theorem li_c30 {sc : pm_Z} (h5 : sc.1 ≤ 5) : li_B sc 1008 := by
  intro g lv w hs h1 hj hl hw
  obtain ⟨x, rfl, hx⟩ := li_lv h1 hl
  exact li_fin h5 hx w
theorem li_all {sc : pm_Z} (h5 : sc.1 ≤ 5) : ∀ pc ∈ li_cs, li_B sc pc := by
  intro pc hpc
  simp only [li_cs, List.mem_cons, List.not_mem_nil, or_false] at hpc
  rcases hpc with rfl | rfl | rfl | rfl | rfl | rfl | rfl | rfl | rfl | rfl | rfl | rfl | rfl | rfl | rfl | rfl | rfl | rfl | rfl | rfl | rfl | rfl | rfl | rfl | rfl | rfl | rfl | rfl | rfl | rfl | rfl
  · exact li_c0 h5
  · exact li_c1 h5
  · exact li_c2 h5
  · exact li_c3 h5
  · exact li_c4 h5
  · exact li_c5 h5
  · exact li_c6 h5
  · exact li_c7 h5
  · exact li_c8 h5
  · exact li_c9 h5
  · exact li_c10 h5
  · exact li_c11 h5
  · exact li_c12 h5
  · exact li_c13 h5
  · exact li_c14 h5
  · exact li_c15 h5
  · exact li_c16 h5
  · exact li_c17 h5
  · exact li_c18 h5
  · exact li_c19 h5
  · exact li_c20 h5
  · exact li_c21 h5
  · exact li_c22 h5
  · exact li_c23 h5
  · exact li_c24 h5
  · exact li_c25 h5
  · exact li_c26 h5
  · exact li_c27 h5
  · exact li_c28 h5
  · exact li_c29 h5
  · exact li_c30 h5
theorem li_26 {sc : pm_Z} (h5 : sc.1 ≤ 5) : li_B sc 26 := by
  intro g lv w hs h1 hj hl hw
  have h : sx_run an1 cu1 OR1 100000 lh_x li_an (li_cs.map lh_d) false 26 52 7858 7 le lh_l [] lz lh_k = true := by
    rw [← sx_runF_eq]
    exact rd_0
  have hle : sx_n g 7 le := by
    obtain ⟨z3, a3, b3⟩ := hj.2.2 (3, (-2147483648), 2147483647) (by decide)
    obtain ⟨z4, a4, b4⟩ := hj.2.2 (4, (-2147483648), 2147483647) (by decide)
    obtain ⟨z5, a5, b5⟩ := hj.2.2 (5, (-2147483648), 2147483647) (by decide)
    obtain ⟨z6, a6, b6⟩ := hj.2.2 (6, (-2147483648), 2147483647) (by decide)
    exact li_env hj h1 a3 a4 a5 a6 ⟨b3, b4, b5, b6⟩
  have hgl : g.length = 7 := hj.1
  refine sx_run_ok (OR1_ok w) 100000 lh_x _ _ _ _ _ _ _ _ _ _ _ _ g g lv [] w li_Q h mv_L ⟨hs, g, List.prefix_rfl, trivial⟩ List.prefix_rfl ⟨hle, hl, trivial, hw⟩ (fun h9 hh => ?_) (fun g' o r w' _ hk hmo => li_k hk hmo)
  obtain ⟨pc, hpc, rfl⟩ := List.mem_map.mp hh
  have ht : g.take 7 = g := by rw [← hgl, List.take_length]
  refine ⟨g, List.prefix_rfl, by decide, by show 7 ≤ _; omega, by show sx_n (g.take 7) 7 le; rw [ht]; exact hle, Or.inl rfl, fun g2 lv2 w2 t2 hm2 _ => ?_⟩
  have hl2 : g2.length = 7 := hm2.1.1
  have t2 : g2.take 7 = g.take 7 := t2
  rw [ht, ← hl2, List.take_length] at t2
  subst t2
  exact li_all h5 pc hpc g2 lv2 w2 hs h1 hj hm2.2.1 (io_self hm2.2.2.2)
set_option maxHeartbeats 4000000 in
theorem li_18 {sc : pm_Z} (h5 : sc.1 ≤ 5) {x : Int32} (hx : x.toInt = 0) {w : pm_W} (hw : sx_w w [0, 0] lz w) : pm_Good sc mm_L 18 [(0, .retAddr 3), (1, .ref 0), (2, .ref 42), (3, .int x)] [] w 52 7858 li_Q := by
  refine pm_ld_ok (i := .iload_n 3) (x := 3) (k := 0) (n := 1) (v := .int x) (by decide +kernel) rfl rfl rfl ?_
  refine pm_ld_ok (i := .aload_n 0) (x := 0) (k := 2) (n := 1) (v := .retAddr 3) (by decide +kernel) rfl rfl rfl ?_
  refine pm_scl (by decide +kernel) ?_
  refine pm_op_ok (i := .iconst 5) (st' := [.int 5, .int (Int32.ofNat sc.1), .int x]) (by decide +kernel) rfl ?_
  refine pm_op_ok (i := .isub) (st' := [.int (Int32.ofNat sc.1 - 5), .int x]) (by decide +kernel) rfl ?_
  refine pm_br2 (c := .gt) (off := 991) (by decide +kernel) (by decide) (fun _ => ?_) (fun hf => ?_)
  · show pm_Good sc mm_L 1014 _ _ _ _ _ _
    refine pm_op_ok (i := .iconst 1) (st' := [.int 1]) (by decide +kernel) rfl ?_
    exact pm_iret (ty := .boolean) (by decide +kernel) rfl rfl rfl
  · show pm_Good sc mm_L 26 _ _ _ _ _ _
    have hs1 : (Int32.ofNat sc.1).toInt = sc.1 := Int32.toInt_ofNat_of_lt (by omega)
    have hs5 : (5 : Int32).toInt = 5 := rfl
    have hs2 : (Int32.ofNat sc.1 - 5).toInt = sc.1 - 5 := by
      rw [sx_sub (by rw [hs1, hs5]; omega) (by rw [hs1, hs5]; omega), hs1, hs5]
    have hle : 5 ≤ sc.1 := by
      have h1 : ¬ (Int32.ofNat sc.1 - 5 < x) := of_decide_eq_false hf
      have h2 := Int32.not_lt.mp h1
      have h3 := Int32.le_iff_toInt_le.mp h2
      rw [hs2, hx] at h3
      omega
    have hp : [0, 0] <+: [0, 0, (sc.2 0).toInt, (sc.2 1).toInt, (sc.2 2).toInt, (sc.2 3).toInt, (sc.2 4).toInt] := ⟨_, rfl⟩
    refine li_26 h5 [0, 0, (sc.2 0).toInt, (sc.2 1).toInt, (sc.2 2).toInt, (sc.2 3).toInt, (sc.2 4).toInt] _ w (Or.inr ⟨0, rfl, by omega, by omega, fun o ho => ?_⟩) rfl ⟨rfl, rfl, fun q hq => ?_⟩ (li_ll rfl hx) (sx_w_pre hp hw)
    · have h9 : o = 0 ∨ o = 1 ∨ o = 2 ∨ o = 3 ∨ o = 4 := by omega
      rcases h9 with rfl | rfl | rfl | rfl | rfl <;> rfl
    · simp only [lh_j, List.mem_cons, List.not_mem_nil, or_false] at hq
      rcases hq with rfl | rfl | rfl | rfl | rfl | rfl
      · exact ⟨0, rfl, by decide, by decide⟩
      all_goals exact ⟨_, rfl, sx_rng _⟩
set_option maxHeartbeats 4000000 in
theorem li_0 {sc : pm_Z} (hsc : sc.1 ≤ 5) : pm_Good sc mm_L 0 [(0, .retAddr 3)] [] [] 0 0 li_Q := by
  have h : sx_run (fun _ => []) (fun _ => none) (fun _ _ _ _ => none, fun _ _ _ _ _ => none) 100000 lh_x (lh_a 18) [lh_h0] false 0 0 0 7 [(1, (-1), (-1)), (2, 0, 0), (3, 0, 0), (4, 0, 0), (5, 0, 0), (6, 0, 0)] [(0, .inr (.retAddr 3))] [] [] lh_k = true := by
    rw [← sx_runF_eq]
    exact rs_0
  refine sx_run_ok (io_no_ok (Ψ := io_tr) (w0 := [])) 100000 lh_x _ _ _ _ _ _ _ _ _ _ _ _ [0, -1, 0, 0, 0, 0, 0] [0, -1, 0, 0, 0, 0, 0] _ [] [] li_Q h mv_L ⟨Or.inl ⟨-1, rfl, by decide⟩, [0, -1, 0, 0, 0, 0, 0], List.prefix_rfl, trivial⟩ List.prefix_rfl ⟨⟨rfl, rfl, ?_⟩, ⟨⟨rfl, rfl⟩, trivial⟩, trivial, ⟨rfl, fun q a c h1 => by cases h1⟩⟩ (fun h9 hh => ?_) (fun g' o r w' _ hk hmo => li_k hk hmo)
  · intro q hq
    simp only [List.mem_cons, List.not_mem_nil, or_false] at hq
    rcases hq with rfl | rfl | rfl | rfl | rfl | rfl
    · exact ⟨-1, rfl, by decide, by decide⟩
    all_goals exact ⟨0, rfl, by decide, by decide⟩
  · have e := List.mem_singleton.mp hh
    subst e
    refine ⟨[0, -1, 0, 0, 0, 0, 0], List.prefix_rfl, by decide, by decide, ⟨rfl, rfl, fun q hq => by cases hq⟩, Or.inl rfl, fun g2 lv2 w2 t2 hm2 _ => ?_⟩
    obtain ⟨hn, hl, -, hw⟩ := hm2
    obtain ⟨z, z1, z2, z3⟩ := hn.2.2 (1, 0, 0) List.mem_cons_self
    simp only at z1 z2 z3 hl hw
    have hz : z = 0 := by omega
    subst hz
    have hgl : g2.length = 2 := hn.1
    have h20 : g2[0]? = some 0 := hn.2.1
    have e2 : g2 = [0, 0] := by
      match g2, hgl, h20, z1 with
      | [a, b], _, h1, h2 =>
        simp at h1 h2
        rw [h1, h2]
    subst e2
    obtain ⟨x, rfl, hx⟩ := li_lv z1 hl
    exact li_18 hsc hx (io_self hw)
