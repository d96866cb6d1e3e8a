/-! the law: from the runs by signs to the whole -/
def li_Q : Option Value → pm_W → Prop := fun r _ => r = some (.int 1)
theorem li_k {w0 : pm_W} {g : List Int} {o : sx_O} {r : Option Value} {w : pm_W} (hk : lh_k o = true) (hm : sx_mo w0 g o r w) : li_Q r w := by
  have hk := of_decide_eq_true hk
  obtain ⟨m1, m2, m3⟩ := hm
  rw [hk] at m2
  cases r with
  | none => cases m2
  | some u =>
    obtain ⟨y, x, e1, e2, e3⟩ := m2
    have h0 := m1.2.1
    simp only at e1 e3
    rw [h0] at e1
    cases e1
    subst e2
    have : x = 1 := Int32.toInt_inj.mp (by rw [e3]; decide)
    rw [this]
    rfl
/-- the habits of both sides are the same -/
def li_Kd (v : Bool) (w0 : pm_W) : Prop := ∃ as bs ts, w0[px_tA v]? = some (.inl (0, as)) ∧ w0[px_tB v]? = some (.inl (0, bs)) ∧ w0[44]? = some (.inl (0, ts)) ∧ wy_KK as bs ts
/-- the stamps of both sides are the same -/
def li_Sd (w0 : pm_W) : Prop := ∃ Hs Ps Ks sts, w0[23]? = some (.inl (0, Hs)) ∧ w0[24]? = some (.inl (0, Ps)) ∧ w0[25]? = some (.inl (0, Ks)) ∧ w0[50]? = some (.inl (0, sts)) ∧ wy_SS Hs Ps Ks sts 6
/-- and so are the letters -/
def li_T (v : Bool) (w0 : pm_W) (g : List Int) : Prop := ∃ xs ys sz, w0[2]? = some (.inl (1, xs)) ∧ w0[43]? = some (.inl (0, ys)) ∧ g[7]? = some sz ∧ pz_T xs ys sz ∧ li_Kd v w0 ∧ li_Sd w0
def li_I (sc : pm_Z) (z : Int) : Prop := ∀ (v : Bool) (w0 : pm_W) (g : List Int) (lv : pm_L) (w : pm_W) (y : Int), z < y → g[1]? = some y → li_T v w0 g → sx_m w0 g (lh_n, lh_e v, lh_l, [], lh_w v) lv [] w → pm_Good sc mm_L 18 lv [] w 52 7858 li_Q
def li_B (sc : pm_Z) (z : Int) (v : Bool) (pc : Nat) : Prop := ∀ (w0 : pm_W) (g : List Int) (lv : pm_L) (w : pm_W), sx_scr0 sc g → g[1]? = some z → li_T v w0 g → sx_m w0 g (lh_n, lh_b v, lh_l, [], lh_w v) lv [] w → pm_Good sc mm_L pc lv [] w 52 7858 li_Q
theorem li_j : ∀ q ∈ (7, 0, 200) :: (8, 0, 5) :: lh_j, q.1 < 9 := by decide +kernel
theorem li_jb (v : Bool) : ∀ q ∈ (7, 0, 200) :: (8, 0, 5) :: lh_j, q ∈ lh_b v := by cases v <;> decide +kernel
theorem li_bj (v : Bool) : ∀ q ∈ lh_b v, q ∈ (lh_f v).drop 2 ++ ((7, 0, 200) :: (8, 0, 5) :: lh_j) := by cases v <;> decide +kernel
theorem li_sub {g : List Int} {n : Nat} {env env' : sx_N} (h : sx_n g n env) (he : ∀ q ∈ env', q ∈ env) : sx_n g n env' := ⟨h.1, h.2.1, fun q hq => h.2.2 q (he q hq)⟩
theorem li_scr {sc : pm_Z} {g g2 : List Int} (hs : sx_scr0 sc g) (e : ∀ i, i < 7 → g2[i]? = g[i]?) : sx_scr0 sc g2 := by
  rcases hs with ⟨z, h1, h2⟩ | ⟨i, h1, h2, h3, h4⟩
  · exact Or.inl ⟨z, by rw [e 1 (by omega)]; exact h1, h2⟩
  · exact Or.inr ⟨i, by rw [e 1 (by omega)]; exact h1, h2, h3, fun o ho => by rw [e (2 + o) (by omega)]; exact h4 o ho⟩
theorem li_Tg {v : Bool} {w0 : pm_W} {g g2 : List Int} (h : li_T v w0 g) (e : g2[7]? = g[7]?) : li_T v w0 g2 := by
  obtain ⟨xs, ys, sz, a, b, c, dd, k⟩ := h
  exact ⟨xs, ys, sz, a, b, by rw [e]; exact c, dd, k⟩
theorem li_h8 {sc : pm_Z} {z : Int} {v : Bool} {w0 : pm_W} {g gh : List Int} {mid : Nat} (hs : sx_scr0 sc g) (hz : g[1]? = some z) (hT : li_T v w0 g) (hgh : gh.take 9 = g.take 9) (hn9 : sx_n (g.take 9) 9 ((7, 0, 200) :: (8, 0, 5) :: lh_j)) (hl : 9 ≤ gh.length) (hB : li_B sc z v mid) : sx_hOK sc mm_L w0 li_Q gh (lh_m8 mid v) := by
  refine ⟨gh, List.prefix_rfl, by decide, hl, by rw [hgh]; exact hn9, Or.inl rfl, fun g2 lv2 w2 t2 hm2 _ => ?_⟩
  have e : ∀ i, i < 9 → g2[i]? = g[i]? := fun i hi => by
    rw [← List.getElem?_take_of_lt (l := g2) hi, t2, hgh, List.getElem?_take_of_lt hi]
  exact hB w0 g2 lv2 w2 (li_scr hs (fun i hi => e i (by omega))) (by rw [e 1 (by omega)]; exact hz) (li_Tg hT (e 7 (by omega))) ⟨li_sub hm2.1 (li_bj v), hm2.2⟩
theorem li_n8 {v : Bool} {g : List Int} (hn : sx_n g 44 (lh_b v)) : sx_n (g.take 9) 9 ((7, 0, 200) :: (8, 0, 5) :: lh_j) := ll_take hn (by omega) (by decide) (fun q hq => ⟨li_jb v q hq, li_j q hq⟩)
theorem li_rm {sc : pm_Z} {z : Int} {v : Bool} {pc mid : Nat} {AN : Nat → List (Nat × sx_An)} {CU : Nat → Option (List sx_Cu)} {ora : sx_OR} (hO : ∀ w0, sx_orOK sc lo_tr w0 ora) (hB : li_B sc z v mid) (h : sx_runF AN CU ora 100000 lh_x (lh_a mid) [lh_m8 mid v] false pc 52 7858 lh_n (lh_b v) lh_l [] (lh_w v) lh_k = true) : li_B sc z v pc := by
  intro w0 g lv w hs hz hT hm
  rw [sx_runF_eq] at h
  have hl : g.length = 44 := hm.1.1
  refine sx_run_ok (hO w0) 100000 lh_x _ _ _ _ _ _ _ _ _ _ _ _ g g lv [] w li_Q h mv_L ⟨hs, g, List.prefix_rfl, trivial⟩ List.prefix_rfl hm (fun h9 hh => ?_) (fun g' o r w' _ hk hmo => li_k hk hmo)
  have e := List.mem_singleton.mp hh
  subst e
  exact li_h8 hs hz hT rfl (li_n8 hm.1) (by omega) hB
/-- wipe: no letters are left -/
def li_o7 (j : Nat) : Bool := ll_ok j && !Nat.beq j 7
theorem li_zo (v : Bool) : lo_w li_o7 (lh_z v) = true := by cases v <;> decide +kernel
theorem li_zw (v : Bool) : pi_ob (pi_ob (lh_z v) 1 2 (.inl (7, 0))) 42 1 (.inl (7, 0)) = lh_w v := by cases v <;> rfl
theorem li_z1 (v : Bool) : ∃ o, (lh_z v)[1]? = some (.inr o) ∧ o.2[2]? = some (.inl (0, 0)) := by cases v <;> exact ⟨_, rfl, rfl⟩
theorem li_z2 (v : Bool) : ∃ o, (pi_ob (lh_z v) 1 2 (.inl (7, 0)))[42]? = some (.inr o) ∧ o.2[1]? = some (.inl (0, 0)) := by cases v <;> exact ⟨_, rfl, rfl⟩
theorem li_T0 {xs ys : List Int32} {sz : Int} (h : pz_T xs ys sz) : pz_T xs ys 0 := ⟨h.1, h.2.1, Int.le_refl _, by decide, h.2.2.2.2.1, fun k hk => by omega⟩
theorem li_z {w0 : pm_W} {g : List Int} {w : pm_W} {v : Bool} (hg : g.length = 44) (h0 : g[0]? = some 0) (hw : sx_w w0 g (lh_z v) w) : sx_w w0 (g.set 7 0) (lh_w v) w := by
  have hs : ∀ j, j ≠ 7 → (g.set 7 0)[j]? = g[j]? := fun j hj => List.getElem?_set_ne (fun e => hj e.symm)
  have h7 : (g.set 7 0)[7]? = some 0 := List.getElem?_set_self (by omega)
  have h1 : sx_w w0 (g.set 7 0) (lh_z v) w := lo_w_ok (fun j hj => hs j (fun e => by subst e; cases hj)) (li_zo v) hw
  rw [← li_zw v]
  have tr : ∀ x, sx_r (g.set 7 0) (.inl (0, 0)) x → sx_r (g.set 7 0) (.inl (7, 0)) x := fun x ⟨z, y, y1, y2, y3⟩ => by
    simp only at y1 y3
    rw [hs 0 (by omega), h0] at y1
    cases y1
    exact ⟨0, y, h7, y2, y3⟩
  refine pi_ob_ok (pi_ob_ok h1 (fun o a ho ha x hx => ?_)) (fun o a ho ha x hx => ?_)
  · obtain ⟨o', a1, a2⟩ := li_z1 v
    rw [a1] at ho
    cases ho
    rw [a2] at ha
    cases ha
    exact tr x hx
  · obtain ⟨o', a1, a2⟩ := li_z2 v
    rw [a1] at ho
    cases ho
    rw [a2] at ha
    cases ha
    exact tr x hx
theorem li_n7 {g : List Int} {n : Nat} {env : sx_N} (h : sx_n g n env) (h7 : 7 < n) {z : Int} (hz : 0 ≤ z ∧ z ≤ 200) (hb : ∀ q ∈ env, q.1 = 7 → q.2.1 ≤ 0 ∧ 200 ≤ q.2.2) : sx_n (g.set 7 z) n env := by
  refine ⟨by rw [List.length_set]; exact h.1, by rw [List.getElem?_set_ne (by decide)]; exact h.2.1, fun q hq => ?_⟩
  by_cases e : q.1 = 7
  · have := hb q hq e
    exact ⟨z, by rw [e, List.getElem?_set_self (by rw [h.1]; exact h7)], by omega, by omega⟩
  · rw [List.getElem?_set_ne (fun e' => e e'.symm)]
    exact h.2.2 q hq
theorem li_b7 (v : Bool) : ∀ q ∈ lh_b v, q.1 = 7 → q.2.1 ≤ 0 ∧ 200 ≤ q.2.2 := by cases v <;> decide +kernel
theorem li_e7 (v : Bool) : ∀ q ∈ lh_e v, q.1 = 7 → q.2.1 ≤ 0 ∧ 200 ≤ q.2.2 := by cases v <;> decide +kernel
theorem li_l7 {g : List Int} {z : Int} {lv : pm_L} (h : sx_l g lh_l lv) : sx_l (g.set 7 z) lh_l lv := by
  obtain ⟨⟨i0, v0⟩, m0, rfl, ⟨e0, r0⟩, h⟩ := sx_f2_cons h
  obtain ⟨⟨i1, v1⟩, m1, rfl, ⟨e1, r1⟩, h⟩ := sx_f2_cons h
  obtain ⟨⟨i2, v2⟩, m2, rfl, ⟨e2, r2⟩, h⟩ := sx_f2_cons h
  obtain ⟨⟨i3, v3⟩, m3, rfl, ⟨e3, r3⟩, h⟩ := sx_f2_cons h
  cases m3 with
  | cons _ _ => cases h
  | nil =>
    obtain ⟨zz, y, y1, y2, y3⟩ := r3
    exact ⟨⟨e0, r0⟩, ⟨e1, r1⟩, ⟨e2, r2⟩, ⟨e3, ⟨zz, y, by rw [List.getElem?_set_ne (by decide)]; exact y1, y2, y3⟩⟩, trivial⟩
theorem li_rw {sc : pm_Z} {z : Int} {v : Bool} {pc : Nat} (hB : li_B sc z v 1008) (h : sx_runF sx_AN sx_CU sx_O1 100000 lh_x (lh_a 1008) [lh_y v] false pc 52 7858 lh_n (lh_b v) lh_l [] (lh_w v) lh_k = true) : li_B sc z v pc := by
  intro w0 g lv w hs hz hT hm
  rw [sx_runF_eq] at h
  have hl : g.length = 44 := hm.1.1
  refine sx_run_ok (lo_O1 (Ψ := lo_tr) (w0 := w0)) 100000 lh_x _ _ _ _ _ _ _ _ _ _ _ _ g g lv [] w li_Q h mv_L ⟨hs, g, List.prefix_rfl, trivial⟩ List.prefix_rfl hm (fun h9 hh => ?_) (fun g' o r w' _ hk hmo => li_k hk hmo)
  have e9 := List.mem_singleton.mp hh
  subst e9
  refine ⟨g, List.prefix_rfl, by decide, by show 9 ≤ _; omega, li_n8 hm.1, Or.inl rfl, fun g2 lv2 w2 t2 hm2 _ => ?_⟩
  have e : ∀ i, i < 9 → g2[i]? = g[i]? := fun i hi => by
    rw [← List.getElem?_take_of_lt (l := g2) hi, t2, List.getElem?_take_of_lt hi]
  have hl2 : g2.length = 44 := hm2.1.1
  have hs7 : ∀ j, j ≠ 7 → (g2.set 7 0)[j]? = g2[j]? := fun j hj => List.getElem?_set_ne (fun e => hj e.symm)
  obtain ⟨xs, ys, sz, a, b, c, dd, kk⟩ := hT
  exact hB w0 (g2.set 7 0) lv2 w2 (li_scr hs (fun i hi => by rw [hs7 i (by omega)]; exact e i (by omega))) (by rw [hs7 1 (by omega), e 1 (by omega)]; exact hz) ⟨xs, ys, 0, a, b, List.getElem?_set_self (by omega), li_T0 dd, kk⟩ ⟨li_n7 (li_sub hm2.1 (li_bj v)) (by show 7 < 44; decide) ⟨Int.le_refl _, by decide⟩ (li_b7 v), li_l7 hm2.2.1, trivial, li_z hl2 hm2.1.2.1 hm2.2.2.2⟩
theorem li_lv {g : List Int} {z : Int} {lv : pm_L} (hz : g[1]? = some z) (hl : sx_l g lh_l lv) : ∃ x : Int32, lv = [(0, .retAddr 3), (1, .ref 0), (2, .ref 42), (3, .int x)] ∧ x.toInt = z := by
  obtain ⟨⟨i0, v0⟩, m0, rfl, ⟨e0, r0⟩, hl⟩ := sx_f2_cons hl
  obtain ⟨⟨i1, v1⟩, m1, rfl, ⟨e1, r1⟩, hl⟩ := sx_f2_cons hl
  obtain ⟨⟨i2, v2⟩, m2, rfl, ⟨e2, r2⟩, hl⟩ := sx_f2_cons hl
  obtain ⟨⟨i3, v3⟩, m3, rfl, ⟨e3, r3⟩, hl⟩ := sx_f2_cons hl
  cases m3 with
  | cons _ _ => cases hl
  | nil =>
    have r0 : v0 = .retAddr 3 := r0
    have r1 : v1 = .ref 0 := r1
    have r2 : v2 = .ref 42 := r2
    obtain ⟨y, x, y1, y2, y3⟩ := r3
    simp only at e0 e1 e2 e3 y1 y2 y3
    rw [hz] at y1
    cases y1
    subst e0 e1 e2 e3 r0 r1 r2 y2
    exact ⟨x, rfl, by omega⟩
theorem li_ll {g : List Int} {z : Int} {x : Int32} (hz : g[1]? = some z) (hx : x.toInt = z) : sx_l g lh_l [(0, .retAddr 3), (1, .ref 0), (2, .ref 42), (3, .int x)] := ⟨⟨rfl, rfl⟩, ⟨rfl, rfl⟩, ⟨rfl, rfl⟩, ⟨rfl, pz_s_ok hz hx⟩, trivial⟩
def li_tg (g : List Int) (y : Int) : List Int := g.mapIdx (fun i z => if 1 ≤ i ∧ i < 7 then y else z)
theorem li_tg_o {g : List Int} {y : Int} {i : Nat} (h : ¬ (1 ≤ i ∧ i < 7)) : (li_tg g y)[i]? = g[i]? := by
  unfold li_tg
  rw [List.getElem?_mapIdx]
  simp only [h, if_false]
  cases g[i]? <;> rfl
theorem li_tg_n {g : List Int} {y : Int} {i : Nat} (h : 1 ≤ i ∧ i < 7) (hl : g.length = 44) : (li_tg g y)[i]? = some y := by
  unfold li_tg
  rw [List.getElem?_mapIdx, List.getElem?_eq_getElem (show i < g.length by omega)]
  simp only [Option.map_some, h, and_self, if_true]
theorem li_tail {sc : pm_Z} {z : Int} (hI : li_I sc z) (v : Bool) : li_B sc z v 1008 := by
  intro w0 g lv w hs hz hT hm
  obtain ⟨hn, hl, -, hw⟩ := hm
  have hgl : g.length = 44 := hn.1
  obtain ⟨x, rfl, hx⟩ := li_lv hz hl
  obtain ⟨z', b1, b2, b3⟩ := hn.2.2 (1, 0, 395) (List.mem_append_right _ (by decide))
  rw [hz] at b1
  cases b1
  simp only at b2 b3
  have e5 : (x + Int32.ofInt 5).toInt = z + 5 := by
    have h5 : (Int32.ofInt 5).toInt = 5 := rfl
    rw [sx_add (by rw [h5]; omega) (by rw [h5]; omega), h5, hx]
  refine pm_inc (i := 3) (n := 5) (x := x) (by decide +kernel) rfl (by decide) ?_
  refine pm_goto (off := (-993)) (by decide +kernel) (by decide) ?_
  show pm_Good sc mm_L 18 _ _ _ _ _ _
  have h1 : (li_tg g (z + 5))[1]? = some (z + 5) := li_tg_n ⟨by decide, by decide⟩ hgl
  refine pm_sub (lv' := [(0, .retAddr 3), (1, .ref 0), (2, .ref 42), (3, .int (x + Int32.ofInt 5))]) (fun q hq => ?_) (hI v w0 (li_tg g (z + 5)) _ w (z + 5) (by omega) h1 (li_Tg hT (li_tg_o (by omega))) ⟨⟨?_, ?_, fun q hq => ?_⟩, li_ll h1 e5, trivial, ?_⟩)
  · simp only [List.mem_cons, List.not_mem_nil, or_false] at hq
    rcases hq with rfl | rfl | rfl | rfl
    · exact List.mem_cons_of_mem _ List.mem_cons_self
    · exact List.mem_cons_of_mem _ (List.mem_cons_of_mem _ List.mem_cons_self)
    · exact List.mem_cons_of_mem _ (List.mem_cons_of_mem _ (List.mem_cons_of_mem _ List.mem_cons_self))
    · exact List.mem_cons_self
  · show (li_tg g (z + 5)).length = 44
    unfold li_tg
    rw [List.length_mapIdx]
    exact hgl
  · rw [li_tg_o (by omega)]
    exact hn.2.1
  · rcases List.mem_append.mp hq with hq | hq
    · have h7 := (ll_f7 v).1 q hq
      obtain ⟨y, c1, c2⟩ := hn.2.2 q (List.mem_append_left _ hq)
      exact ⟨y, by rw [li_tg_o (by omega)]; exact c1, c2⟩
    · simp only [lh_i, List.mem_cons, List.not_mem_nil, or_false] at hq
      rcases hq with rfl | rfl | rfl | rfl | rfl | rfl
      all_goals exact ⟨z + 5, li_tg_n ⟨by decide, by decide⟩ hgl, by simp only; omega, by simp only; omega⟩
  · refine lo_w_ok (fun j hj => ?_) (ll_ok_w v) hw
    rcases ll_ok_i hj with h | h
    · exact li_tg_o (by omega)
    · exact li_tg_o (by omega)
