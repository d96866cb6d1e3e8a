/-! the reading of all, told by two signs: 44 what it answers, 45 how many people it told -/
def px_ok (v : Bool) (env : sx_N) (aw : List sx_C) (q : List (Nat × Int)) : Bool := sx_fw 7 q (lh_u v) aw && (sx_fnw 7 q env (lh_f v) && (decide (q[0]? = some (7, 0)) && Nat.beq q.length 37))
def px_t (v : Bool) (q : List (Nat × Int)) (n : Nat) (pers : Nat × Int) (j : Nat) : Nat × Int := bif pi_kp v j then (bif Nat.ble 7 j then q.getD (j - 7) (0, 0) else (j, 0)) else bif Nat.beq j 9 then (n, 0) else bif Nat.beq j (pi_ps v) then pers else (n + (j - pi_ps v), 0)
def px_u (q : List (Nat × Int)) (n : Nat) (pers : Nat × Int) (j : Nat) : Nat × Int := bif pj_kp j then (bif Nat.ble 7 j then q.getD (j - 7) (0, 0) else (j, 0)) else bif Nat.beq j 41 then (n, 0) else pers
def px_n (n : Nat) (lo hi : Int) : sx_N := [(n, (-2147483648), 2147483647), (n + 1, (-2147483648), 2147483647), (n + 2, lo, hi), (n + 3, (-2147483648), 2147483647), (n + 4, (-2147483648), 2147483647), (n + 5, (-2147483648), 2147483647), (n + 6, 0, 5)]
def px_sel (env : sx_N) (a b : sx_O) : List sx_O := match sx_bd 44 env with
  | some q => (if q.1 ≤ -4 then [a] else []) ++ (if 0 ≤ q.2 then [b] else [])
  | none => [a, b]
theorem px_selA {g : List Int} {n : Nat} {env : sx_N} (hn : sx_n g n env) {z : Int} (hg : g[44]? = some z) (hz : z = -4) (a b : sx_O) : a ∈ px_sel env a b := by
  unfold px_sel
  cases hq : sx_bd 44 env with
  | none => exact List.mem_cons_self
  | some q =>
    have := pz_bd hn hg hq
    simp only
    rw [if_pos (by omega)]
    exact List.mem_append_left _ List.mem_cons_self
theorem px_selB {g : List Int} {n : Nat} {env : sx_N} (hn : sx_n g n env) {z : Int} (hg : g[44]? = some z) (hz : 0 ≤ z) (a b : sx_O) : b ∈ px_sel env a b := by
  unfold px_sel
  cases hq : sx_bd 44 env with
  | none => exact List.mem_cons_of_mem _ List.mem_cons_self
  | some q =>
    have := pz_bd hn hg hq
    simp only
    rw [if_pos (show 0 ≤ q.2 by omega)]
    exact List.mem_append_right _ List.mem_cons_self
def px_o32 (v : Bool) (n : Nat) (env : sx_N) (q : List (Nat × Int)) : List sx_O := px_sel env
  (n + 7, (44, (-4), (-4)) :: (px_n n 0 9 ++ env), some (.inl (44, 0)), (lh_u v).map (px_c (px_t v q n (45, 0))))
  (n + 7, (44, 0, 199) :: (px_n n (-2147483648) 2147483647 ++ env), some (.inl (44, 0)), (lh_u v).map (px_c (px_t v q n (n + 6, 0))))
def px_o140 (v : Bool) (n : Nat) (env : sx_N) (q : List (Nat × Int)) : List sx_O := px_sel env
  (n + 2, (44, (-4), (-4)) :: (n, (-2147483648), 2147483647) :: (n + 1, 0, 5) :: env, some (.inl (44, 0)), (lh_u v).map (px_c (px_u q n (45, 0))))
  (n + 2, (44, 0, 199) :: (n, (-2147483648), 2147483647) :: (n + 1, 0, 5) :: env, some (.inl (44, 0)), (lh_u v).map (px_c (px_u q n (n + 1, 0))))
def px_a32 (n : Nat) (env : sx_N) (as : List sx_V) (aw : List sx_C) : Option (List sx_O) := match as, sx_rho [] aw lh_v with
  | [r, d], some q => if r = .inr (.ref 1) ∧ d = .inr (.ref (pi_dq false)) ∧ px_ok false env aw q = true then some (px_o32 false n env q) else if r = .inr (.ref 1) ∧ d = .inr (.ref (pi_dq true)) ∧ px_ok true env aw q = true then some (px_o32 true n env q) else none
  | _, _ => none
def px_a140 (n : Nat) (env : sx_N) (as : List sx_V) (aw : List sx_C) : Option (List sx_O) := match as, sx_rho [] aw lh_v with
  | [r], some q => if r = .inr (.ref 42) ∧ px_ok false env aw q = true then some (px_o140 false n env q) else if r = .inr (.ref 42) ∧ px_ok true env aw q = true then some (px_o140 true n env q) else none
  | _, _ => none
def px_O : sx_OB := fun j n env as aw => bif Nat.beq j 32 then px_a32 n env as aw else bif Nat.beq j 140 then px_a140 n env as aw else none
def px_G (w0 : pm_W) (xs ys : List Int32) (sz : Int) (g : List Int) : Prop := w0[2]? = some (.inl (1, xs)) ∧ w0[43]? = some (.inl (0, ys)) ∧ pz_T xs ys sz ∧ g[7]? = some sz ∧ g[44]? = some (pf xs sz 200 0 0).1 ∧ g[45]? = some (pf xs sz 200 0 0).2
theorem px_G_pre {w0 : pm_W} {xs ys : List Int32} {sz : Int} {g : List Int} (h : ∃ g0, g0 <+: g ∧ px_G w0 xs ys sz g0) : px_G w0 xs ys sz g := by
  obtain ⟨g0, h1, a, b, c, d, e, f⟩ := h
  exact ⟨a, b, c, sx_get_pre h1 d, sx_get_pre h1 e, sx_get_pre h1 f⟩
theorem px_all (v : Bool) : ∀ j, j < 44 → 7 ≤ j → (lh_f v).any (fun e => Nat.beq e.1 j) = true := by cases v <;> decide +kernel
theorem px_full (v : Bool) : ∀ e ∈ lh_f v, -2147483648 ≤ e.2.1 ∧ e.2.2 ≤ 2147483647 := by cases v <;> decide +kernel
theorem px_k1 (v : Bool) : ∀ j, j < 44 → pi_kp v j = false → j = 9 ∨ (pi_ps v ≤ j ∧ j ≤ pi_ps v + 5) := by cases v <;> decide +kernel
theorem px_k2 : ∀ j, j < 44 → pj_kp j = false → j = 41 ∨ j = 43 := by decide +kernel
theorem px_5 (v : Bool) : (pi_ps v, 0, 5) ∈ lh_f v ∧ (43, 0, 5) ∈ lh_f v := by cases v <;> decide +kernel
section OX
variable {sc : pm_Z} {w0 : pm_W} {xs ys : List Int32} {sz : Int} {g : List Int} {n : Nat} {env : sx_N} {aw : List sx_C} {w : pm_W}
theorem px_rg {v : Bool} {g' : List Int} (hn : sx_n g' 44 (lh_f v)) {j : Nat} (h7 : 7 ≤ j) (hj : j < 44) : ∃ z, g'[j]? = some z ∧ -2147483648 ≤ z ∧ z ≤ 2147483647 := by
  obtain ⟨e, e1, e2⟩ := List.any_eq_true.mp (px_all v j hj h7)
  have e2 := Nat.eq_of_beq_eq_true e2
  obtain ⟨z, z1, z2, z3⟩ := hn.2.2 e e1
  rw [e2] at z1
  have := px_full v e e1
  exact ⟨z, z1, by omega, by omega⟩
theorem px_gx {v : Bool} {q : List (Nat × Int)} (hn : sx_n g n env) (h46 : 46 ≤ n) (hw : sx_w w0 g aw w) (h : px_ok v env aw q = true) : ∃ gX : List Int, sx_n gX 44 (lh_f v) ∧ sx_w w0 gX (lh_u v) w ∧ gX[1]? = some (-1) ∧ gX[7]? = g[7]? ∧ ∀ j, 7 ≤ j → j < 44 → ∃ b y, q[j - 7]? = some b ∧ g[b.1]? = some y ∧ gX[j]? = some (y + b.2) := by
  unfold px_ok at h
  simp only [Bool.and_eq_true, decide_eq_true_eq] at h
  obtain ⟨h1, h2, h3, h4⟩ := h
  have h4 := Nat.eq_of_beq_eq_true h4
  have hgl : g.length = n := hn.1
  have h7 : sx_n (g.take 7) 7 [] := ⟨by rw [List.length_take]; omega, by rw [List.getElem?_take_of_lt (by omega)]; exact hn.2.1, fun q hq => by cases hq⟩
  have hN := sx_fn_ok (n0 := 7) (by omega) (by omega) hn h2 h7
  rw [h4] at hN
  have hW := sx_fw_ok (n0 := 7) (by omega) h1 hw
  have hs : ∀ j, j ≠ 1 → ((sx_gg g 7 q).set 1 (-1))[j]? = (sx_gg g 7 q)[j]? := fun j hj => List.getElem?_set_ne (fun q => hj q.symm)
  have hq : ∀ j, 7 ≤ j → j < 44 → ∃ b y, q[j - 7]? = some b ∧ g[b.1]? = some y ∧ ((sx_gg g 7 q).set 1 (-1))[j]? = some (y + b.2) := by
    intro j hj7 hj
    obtain ⟨e, e1, e2⟩ := List.any_eq_true.mp (px_all v j hj hj7)
    have e2 := Nat.eq_of_beq_eq_true e2
    have h5 := List.all_eq_true.mp h2 e e1
    rw [if_neg (by omega), e2] at h5
    cases hb : q[j - 7]? with
    | none => rw [hb] at h5; cases h5
    | some b =>
      rw [hb] at h5
      simp only at h5
      unfold sx_fits at h5
      split at h5
      · rename_i iv hiv
        obtain ⟨y, y1, -, -⟩ := sx_iv_int hn hiv
        refine ⟨b, y, rfl, y1, ?_⟩
        rw [hs j (by omega), sx_gg_hi (by omega) hj7 hb, y1]
        rfl
      · cases h5
  refine ⟨(sx_gg g 7 q).set 1 (-1), ⟨by rw [List.length_set]; exact hN.1, by rw [hs 0 (by omega)]; exact hN.2.1, fun e he => ?_⟩, ?_, List.getElem?_set_self (by rw [hN.1]; omega), ?_, hq⟩
  · obtain ⟨z, z1, z2⟩ := hN.2.2 e (List.mem_append_left _ he)
    have := (ll_f7 v).1 e he
    exact ⟨z, by rw [hs _ (by omega)]; exact z1, z2⟩
  · refine lo_w_ok (fun j hj => ?_) (lh_u_ok v) hW
    rcases ll_ok_i hj with h | h
    · exact hs j (by omega)
    · exact hs j (by omega)
  · obtain ⟨b, y, b1, b2, b3⟩ := hq 7 (by omega) (by omega)
    rw [h3] at b1
    cases b1
    simp only at b2
    rw [b3, b2]
    simp
theorem px_env {G : List Int} (hG : g <+: G) (hn : sx_n g n env) {m : Nat} (hm : G.length = m) {l : sx_N} (hl : ∀ q ∈ l, ∃ z, G[q.1]? = some z ∧ q.2.1 ≤ z ∧ z ≤ q.2.2) : sx_n G m (l ++ env) := by
  refine ⟨hm, sx_get_pre hG hn.2.1, fun q hq => ?_⟩
  rcases List.mem_append.mp hq with hq | hq
  · exact hl q hq
  · obtain ⟨z, z1, z2⟩ := hn.2.2 q hq
    exact ⟨z, sx_get_pre hG z1, z2⟩
theorem px_app {l : List Int} (hg : g.length = n) (k : Nat) : (g ++ l)[n + k]? = l[k]? := by
  rw [List.getElem?_append_right (by omega)]
  congr 1
  omega
theorem px_app0 {l : List Int} (hg : g.length = n) : (g ++ l)[n]? = l[0]? := px_app hg 0
set_option maxHeartbeats 4000000 in
theorem px_32 (v : Bool) (hr : ∀ p : Int, 0 ≤ p ∧ p ≤ 5 → pi_r v p = true) {q : List (Nat × Int)} (hG : px_G w0 xs ys sz g) (hn : sx_n g n env) (hw : sx_w w0 g aw w) (h : px_ok v env aw q = true) : pm_GoodM sc mm_32 [.ref 1, .ref (pi_dq v)] w (fun r w' => ∃ o ∈ px_o32 v n env q, ∃ g', g <+: g' ∧ sx_mo w0 g' o r w') := by
  obtain ⟨g1, g2, hT, g8, g44, g45⟩ := hG
  have hgl : g.length = n := hn.1
  have h46 : 46 ≤ n := by rw [← hgl]; exact (List.getElem?_eq_some_iff.mp g45).1
  obtain ⟨gX, x1, x2, x3, x4, x5⟩ := px_gx hn h46 hw h
  refine pm_mono (fun r w' hP => ?_) (pc_all v hr g1 g2 hT x1 x3 (by rw [x4]; exact g8) x2)
  obtain ⟨g', n1, w1, k1, ⟨x, rfl, hx⟩, p1⟩ := hP
  have hv : 7 ≤ pi_ps v ∧ pi_ps v + 5 < 44 ∧ pi_bn v = pi_ps v + 2 := by cases v <;> decide
  obtain ⟨z9, a9, b9⟩ := px_rg n1 (j := 9) (by omega) (by omega)
  obtain ⟨zp, ap, bp⟩ := n1.2.2 (pi_ps v, 0, 5) (px_5 v).1
  obtain ⟨z1, a1, b1⟩ := px_rg n1 (j := pi_ps v + 1) (by omega) (by omega)
  obtain ⟨z2, a2, b2⟩ := px_rg n1 (j := pi_ps v + 2) (by omega) (by omega)
  obtain ⟨z3, a3, b3⟩ := px_rg n1 (j := pi_ps v + 3) (by omega) (by omega)
  obtain ⟨z4, a4, b4⟩ := px_rg n1 (j := pi_ps v + 4) (by omega) (by omega)
  obtain ⟨z5, a5, b5⟩ := px_rg n1 (j := pi_ps v + 5) (by omega) (by omega)
  simp only at ap bp
  have hpre : g <+: g ++ [z9, z1, z2, z3, z4, z5, zp] := List.prefix_append _ _
  have e44 := sx_get_pre hpre g44
  have e45 := sx_get_pre hpre g45
  have hlen : (g ++ [z9, z1, z2, z3, z4, z5, zp]).length = n + 7 := by rw [List.length_append, hgl]; rfl
  have rng := pf_rng (xs := xs) (sz := sz) 200 0 0 (Int.le_refl _) ⟨by decide, by decide⟩
  have sub : ∀ pers : Nat × Int, (∃ y, (g ++ [z9, z1, z2, z3, z4, z5, zp])[pers.1]? = some y ∧ zp = y + pers.2) → sx_w w0 (g ++ [z9, z1, z2, z3, z4, z5, zp]) ((lh_u v).map (px_c (px_t v q n pers))) w' := by
    intro pers hpers
    refine px_w_ok (fun j z hj hz => ?_) (lh_u_ok v) w1
    unfold px_t
    cases hk : pi_kp v j with
    | true =>
      simp only [cond_true]
      rcases ll_ok_i hj with h0 | h0
      · subst h0
        refine ⟨0, sx_get_pre hpre hn.2.1, ?_⟩
        rw [n1.2.1] at hz
        cases hz
        rfl
      · have h7 : Nat.ble 7 j = true := by rw [Nat.ble_eq]; exact h0.1
        rw [h7]
        simp only [cond_true]
        obtain ⟨b, y, y1, y2, y3⟩ := x5 j h0.1 h0.2
        rw [k1 j h0.2 hk, y3] at hz
        cases hz
        rw [List.getD_eq_getElem?_getD, y1]
        exact ⟨y, sx_get_pre hpre y2, rfl⟩
    | false =>
      simp only [cond_false]
      have hj44 : j < 44 := by rcases ll_ok_i hj with h0 | h0 <;> omega
      have hcase := px_k1 v j hj44 hk
      have h9 : ¬ (pi_ps v ≤ 9 ∧ 9 ≤ pi_ps v + 5) := by cases v <;> decide
      rcases hcase with rfl | ⟨c1, c2⟩
      · simp only [Nat.beq_refl, cond_true]
        rw [a9] at hz
        cases hz
        exact ⟨_, by rw [px_app0 hgl]; rfl, by omega⟩
      · have hb9 : Nat.beq j 9 = false := by
          cases hb : Nat.beq j 9 with
          | false => rfl
          | true => exact absurd ⟨by have := Nat.eq_of_beq_eq_true hb; omega, by have := Nat.eq_of_beq_eq_true hb; omega⟩ h9
        rw [hb9]
        simp only [cond_false]
        by_cases c0 : j = pi_ps v
        · subst c0
          simp only [Nat.beq_refl, cond_true]
          rw [ap] at hz
          cases hz
          exact hpers
        · have hbp : Nat.beq j (pi_ps v) = false := by
            cases hb : Nat.beq j (pi_ps v) with
            | false => rfl
            | true => exact absurd (Nat.eq_of_beq_eq_true hb) c0
          rw [hbp]
          simp only [cond_false]
          obtain ⟨d, rfl⟩ : ∃ d, j = pi_ps v + d := ⟨j - pi_ps v, by omega⟩
          rw [show pi_ps v + d - pi_ps v = d by omega, px_app hgl]
          have hd : d = 1 ∨ d = 2 ∨ d = 3 ∨ d = 4 ∨ d = 5 := by omega
          rcases hd with rfl | rfl | rfl | rfl | rfl
          · rw [a1] at hz; cases hz; exact ⟨_, rfl, by omega⟩
          · rw [a2] at hz; cases hz; exact ⟨_, rfl, by omega⟩
          · rw [a3] at hz; cases hz; exact ⟨_, rfl, by omega⟩
          · rw [a4] at hz; cases hz; exact ⟨_, rfl, by omega⟩
          · rw [a5] at hz; cases hz; exact ⟨_, rfl, by omega⟩
  have nw : ∀ lo hi : Int, lo ≤ z2 → z2 ≤ hi → ∀ e ∈ px_n n lo hi, ∃ z, (g ++ [z9, z1, z2, z3, z4, z5, zp])[e.1]? = some z ∧ e.2.1 ≤ z ∧ z ≤ e.2.2 := by
    intro lo hi hlo hhi e he
    simp only [px_n, List.mem_cons, List.not_mem_nil, or_false] at he
    rcases he with rfl | rfl | rfl | rfl | rfl | rfl | rfl
    · exact ⟨z9, by rw [px_app0 hgl]; rfl, b9⟩
    · exact ⟨z1, by rw [px_app hgl]; rfl, b1⟩
    · exact ⟨z2, by rw [px_app hgl]; rfl, hlo, hhi⟩
    · exact ⟨z3, by rw [px_app hgl]; rfl, b3⟩
    · exact ⟨z4, by rw [px_app hgl]; rfl, b4⟩
    · exact ⟨z5, by rw [px_app hgl]; rfl, b5⟩
    · exact ⟨zp, by rw [px_app hgl]; rfl, bp⟩
  by_cases h4 : (pf xs sz 200 0 0).1 = -4
  · obtain ⟨p2, zb, p3, p4⟩ := p1 h4
    rw [ap] at p2
    rw [hv.2.2, a2] at p3
    cases p3
    have ezp : zp = (pf xs sz 200 0 0).2 := Option.some.inj p2
    refine ⟨_, px_selA hn g44 h4 _ _, _, hpre, ?_, pz_s_ok e44 hx, sub _ ⟨_, e45, by omega⟩⟩
    have := px_env hpre hn hlen (l := (44, (-4), (-4)) :: px_n n 0 9) (fun e he => by
      rcases List.mem_cons.mp he with rfl | he
      · exact ⟨_, e44, by simp only; omega, by simp only; omega⟩
      · exact nw 0 9 p4.1 p4.2 e he)
    exact this
  · have hsz := hT.2.2.2.1
    refine ⟨_, px_selB hn g44 (by omega) _ _, _, hpre, ?_, pz_s_ok e44 hx, sub _ ⟨zp, by rw [px_app hgl]; rfl, by simp only; omega⟩⟩
    have := px_env hpre hn hlen (l := (44, 0, 199) :: px_n n (-2147483648) 2147483647) (fun e he => by
      rcases List.mem_cons.mp he with rfl | he
      · exact ⟨_, e44, by simp only; omega, by simp only; omega⟩
      · exact nw _ _ b2.1 b2.2 e he)
    exact this
set_option maxHeartbeats 4000000 in
theorem px_140 (v : Bool) (hr : ∀ p : Int, 0 ≤ p ∧ p ≤ 5 → pj_r v p = true) {q : List (Nat × Int)} (hG : px_G w0 xs ys sz g) (hn : sx_n g n env) (hw : sx_w w0 g aw w) (h : px_ok v env aw q = true) : pm_GoodM sc mm_140 [.ref 42] w (fun r w' => ∃ o ∈ px_o140 v n env q, ∃ g', g <+: g' ∧ sx_mo w0 g' o r w') := by
  obtain ⟨g1, g2, hT, g8, g44, g45⟩ := hG
  have hgl : g.length = n := hn.1
  have h46 : 46 ≤ n := by rw [← hgl]; exact (List.getElem?_eq_some_iff.mp g45).1
  obtain ⟨gX, x1, x2, x3, x4, x5⟩ := px_gx hn h46 hw h
  refine pm_mono (fun r w' hP => ?_) (pd_all v hr g1 g2 hT x1 x3 (by rw [x4]; exact g8) x2)
  obtain ⟨g', n1, w1, k1, ⟨x, rfl, hx⟩, p1⟩ := hP
  obtain ⟨z9, a9, b9⟩ := px_rg n1 (j := 41) (by omega) (by omega)
  obtain ⟨zp, ap, bp⟩ := n1.2.2 (43, 0, 5) (px_5 v).2
  simp only at ap bp
  have hpre : g <+: g ++ [z9, zp] := List.prefix_append _ _
  have e44 := sx_get_pre hpre g44
  have e45 := sx_get_pre hpre g45
  have hlen : (g ++ [z9, zp]).length = n + 2 := by rw [List.length_append, hgl]; rfl
  have rng := pf_rng (xs := xs) (sz := sz) 200 0 0 (Int.le_refl _) ⟨by decide, by decide⟩
  have sub : ∀ pers : Nat × Int, (∃ y, (g ++ [z9, zp])[pers.1]? = some y ∧ zp = y + pers.2) → sx_w w0 (g ++ [z9, zp]) ((lh_u v).map (px_c (px_u q n pers))) w' := by
    intro pers hpers
    refine px_w_ok (fun j z hj hz => ?_) (lh_u_ok v) w1
    unfold px_u
    cases hk : pj_kp j with
    | true =>
      simp only [cond_true]
      rcases ll_ok_i hj with h0 | h0
      · subst h0
        refine ⟨0, sx_get_pre hpre hn.2.1, ?_⟩
        rw [n1.2.1] at hz
        cases hz
        rfl
      · have h7 : Nat.ble 7 j = true := by rw [Nat.ble_eq]; exact h0.1
        rw [h7]
        simp only [cond_true]
        obtain ⟨b, y, y1, y2, y3⟩ := x5 j h0.1 h0.2
        rw [k1 j h0.2 hk, y3] at hz
        cases hz
        rw [List.getD_eq_getElem?_getD, y1]
        exact ⟨y, sx_get_pre hpre y2, rfl⟩
    | false =>
      simp only [cond_false]
      have hj44 : j < 44 := by rcases ll_ok_i hj with h0 | h0 <;> omega
      have hcase := px_k2 j hj44 hk
      rcases hcase with rfl | rfl
      · simp only [Nat.beq_refl, cond_true]
        rw [a9] at hz
        cases hz
        exact ⟨_, by rw [px_app0 hgl]; rfl, by omega⟩
      · rw [ap] at hz
        cases hz
        exact hpers
  have nw : ∀ e ∈ [(n, (-2147483648 : Int), (2147483647 : Int)), (n + 1, 0, 5)], ∃ z, (g ++ [z9, zp])[e.1]? = some z ∧ e.2.1 ≤ z ∧ z ≤ e.2.2 := by
    intro e he
    simp only [List.mem_cons, List.not_mem_nil, or_false] at he
    rcases he with rfl | rfl
    · exact ⟨z9, by rw [px_app0 hgl]; rfl, b9⟩
    · exact ⟨zp, by rw [px_app hgl]; rfl, bp⟩
  by_cases h4 : (pf xs sz 200 0 0).1 = -4
  · have p2 := p1 h4
    rw [ap] at p2
    have ezp : zp = (pf xs sz 200 0 0).2 := Option.some.inj p2
    refine ⟨_, px_selA hn g44 h4 _ _, _, hpre, ?_, pz_s_ok e44 hx, sub _ ⟨_, e45, by omega⟩⟩
    have := px_env hpre hn hlen (l := (44, (-4), (-4)) :: [(n, (-2147483648), 2147483647), (n + 1, 0, 5)]) (fun e he => by
      rcases List.mem_cons.mp he with rfl | he
      · exact ⟨_, e44, by simp only; omega, by simp only; omega⟩
      · exact nw e he)
    exact this
  · have hsz := hT.2.2.2.1
    refine ⟨_, px_selB hn g44 (by omega) _ _, _, hpre, ?_, pz_s_ok e44 hx, sub _ ⟨zp, by rw [px_app hgl]; rfl, by simp only; omega⟩⟩
    have := px_env hpre hn hlen (l := (44, 0, 199) :: [(n, (-2147483648), 2147483647), (n + 1, 0, 5)]) (fun e he => by
      rcases List.mem_cons.mp he with rfl | he
      · exact ⟨_, e44, by simp only; omega, by simp only; omega⟩
      · exact nw e he)
    exact this
theorem px_O_ok (hr : ∀ (v : Bool) (p : Int), 0 ≤ p ∧ p ≤ 5 → pi_r v p = true) (hr2 : ∀ (v : Bool) (p : Int), 0 ≤ p ∧ p ≤ 5 → pj_r v p = true) : sx_orB sc (px_G w0 xs ys sz) w0 px_O := by
  intro j y n env as aw outs g As w h hy hG hn hA hw
  have hG := px_G_pre hG
  unfold px_O at h
  cases h32 : Nat.beq j 32 with
  | true =>
    rw [h32] at h
    have e := Nat.eq_of_beq_eq_true h32
    subst e
    have e2 : pm_mt 32 = some (mm_32, 1, 0, mk_32) := rfl
    rw [e2] at hy
    cases hy
    simp only [cond_true] at h
    unfold px_a32 at h
    split at h
    · rename_i r d q _
      obtain ⟨v1, m, rfl, r1, hA⟩ := sx_f2_cons hA
      obtain ⟨v2, m, rfl, r2, hA⟩ := sx_f2_cons hA
      cases m with
      | cons _ _ => cases hA
      | nil =>
        split at h
        · rename_i hc
          obtain ⟨c1, c2, c3⟩ := hc
          cases h
          subst c1 c2
          have r1 : v1 = .ref 1 := r1
          have r2 : v2 = .ref (pi_dq false) := r2
          subst r1 r2
          exact px_32 false (hr false) hG hn hw c3
        · split at h
          · rename_i hc
            obtain ⟨c1, c2, c3⟩ := hc
            cases h
            subst c1 c2
            have r1 : v1 = .ref 1 := r1
            have r2 : v2 = .ref (pi_dq true) := r2
            subst r1 r2
            exact px_32 true (hr true) hG hn hw c3
          · cases h
    · cases h
  | false =>
    rw [h32] at h
    simp only [cond_false] at h
    cases h140 : Nat.beq j 140 with
    | true =>
      rw [h140] at h
      have e := Nat.eq_of_beq_eq_true h140
      subst e
      have e2 : pm_mt 140 = some (mm_140, 0, 0, mk_140) := rfl
      rw [e2] at hy
      cases hy
      simp only [cond_true] at h
      unfold px_a140 at h
      split at h
      · rename_i r q _
        obtain ⟨v1, m, rfl, r1, hA⟩ := sx_f2_cons hA
        cases m with
        | cons _ _ => cases hA
        | nil =>
          split at h
          · rename_i hc
            obtain ⟨c1, c3⟩ := hc
            cases h
            subst c1
            have r1 : v1 = .ref 42 := r1
            subst r1
            exact px_140 false (hr2 false) hG hn hw c3
          · split at h
            · rename_i hc
              obtain ⟨c1, c3⟩ := hc
              cases h
              subst c1
              have r1 : v1 = .ref 42 := r1
              subst r1
              exact px_140 true (hr2 true) hG hn hw c3
            · cases h
      · cases h
    | false =>
      rw [h140] at h
      cases h
end OX
