/-! an item of each reader, over the world between two calls -/
def pi_rr (v : Bool) : List (Nat × Int) := (sx_rho [] (pi_g v) (lh_v v)).getD []
def pj_rr (v : Bool) : List (Nat × Int) := (sx_rho [] (pj_g v) (lh_v v)).getD []
theorem pi_c1 (v : Bool) : sx_fw 7 (pi_rr v) (lh_u v) (pi_g v) = true := by cases v <;> decide +kernel
theorem pi_c2 (v : Bool) : sx_fnw 7 (pi_rr v) (pi_nw ++ lh_f v) (lh_f v) = true := by cases v <;> decide +kernel
theorem pi_c3 (v : Bool) : (pi_rr v).length = 37 := by cases v <;> decide +kernel
theorem pj_c1 (v : Bool) : sx_fw 7 (pj_rr v) (lh_u v) (pj_g v) = true := by cases v <;> decide +kernel
theorem pj_c2 (v : Bool) : sx_fnw 7 (pj_rr v) (pj_nw ++ lh_f v) (lh_f v) = true := by cases v <;> decide +kernel
theorem pj_c3 (v : Bool) : (pj_rr v).length = 37 := by cases v <;> decide +kernel
/-- the signs that an item leaves: the class's, the reference's -/
def pi_kp (v : Bool) (j : Nat) : Bool := !(Nat.beq j 10 || bif v then (Nat.ble 11 j && Nat.ble j 16) else (Nat.ble 16 j && Nat.ble j 21))
def pj_kp (j : Nat) : Bool := !(Nat.beq j 41 || Nat.beq j 43)
def pi_ps (v : Bool) : Nat := bif v then 11 else 16
def pi_bn (v : Bool) : Nat := bif v then 13 else 18
theorem pi_c4 (v : Bool) : ∀ j, j < 44 → 7 ≤ j → pi_kp v j = true → (pi_rr v)[j - 7]? = some (j, 0) := by cases v <;> decide +kernel
theorem pj_c4 (v : Bool) : ∀ j, j < 44 → 7 ≤ j → pj_kp j = true → (pj_rr v)[j - 7]? = some (j, 0) := by cases v <;> decide +kernel
theorem pi_c5 (v : Bool) : (pi_rr v)[3]? = some (44, 0) ∧ (pi_rr v)[pi_ps v - 7]? = some (45, 0) ∧ (pi_rr v)[pi_bn v - 7]? = some (47, 0) := by cases v <;> decide +kernel
theorem pj_c5 (v : Bool) : (pj_rr v)[34]? = some (44, 0) ∧ (pj_rr v)[36]? = some (45, 0) := by cases v <;> decide +kernel
theorem pi_c6 (v : Bool) : (lh_u v).set 1 (pz_txt 0) = pi_ob (lh_u v) 1 3 (.inl (44, 0)) := by cases v <;> rfl
theorem pj_c6 (v : Bool) : (lh_u v).set 42 (pz_mob 1) = pi_ob (lh_u v) 42 12 (.inl (44, 1)) := by cases v <;> rfl
theorem pi_c7 (v : Bool) : ∃ o, (lh_u v)[1]? = some (.inr o) ∧ o.2[3]? = some (.inl (10, 0)) := by cases v <;> exact ⟨_, rfl, rfl⟩
theorem pi_c8 (v : Bool) : ∃ o, (pi_ob (lh_u v) 1 3 (.inl (44, 0)))[pi_dq v]? = some (.inr o) ∧ o.2[4]? = some (.inl (pi_ps v, 0)) := by cases v <;> exact ⟨_, rfl, rfl⟩
theorem pj_c7 (v : Bool) : ∃ o, (lh_u v)[42]? = some (.inr o) ∧ o.2[12]? = some (.inl (41, 0)) := by cases v <;> exact ⟨_, rfl, rfl⟩
theorem pj_c8 (v : Bool) : (pi_ob (lh_u v) 42 12 (.inl (44, 1)))[45]? = some (.inl (0, 50, false, [(0, .inl (43, 0))])) := by cases v <;> rfl
theorem pi_c9 (v : Bool) : (lh_u v)[pi_ka v]? = some (.inl (0, 20, false, [])) ∧ (lh_u v)[pi_kb v]? = some (.inl (0, 20, false, [])) := by cases v <;> exact ⟨rfl, rfl⟩
theorem pi_c10 (v : Bool) (x : sx_V) : (pi_ob (pi_ob (lh_u v) 1 3 (.inl (44, 0))) (pi_dq v) 4 x)[pi_ka v]? = some (.inl (0, 20, false, [])) := by cases v <;> rfl
theorem pi_c11 (v : Bool) (x : sx_V) (y : sx_C) : ((pi_ob (pi_ob (lh_u v) 1 3 (.inl (44, 0))) (pi_dq v) 4 x).set (pi_ka v) y)[pi_kb v]? = some (.inl (0, 20, false, [])) := by cases v <;> rfl
/-- rows that hold the habits told so far -/
def pi_H (w : pm_W) (qa qb ba bb : Nat) (K : Nat → Int) : Prop := ∃ as bs, w[qa]? = some (.inl (0, as)) ∧ w[qb]? = some (.inl (0, bs)) ∧ ∀ j : Nat, j < 20 → (as.getD (ba + j) 0).toInt = K j ∧ (bs.getD (bb + j) 0).toInt = K (20 + j)
theorem ps_i01 {e : Nat → Int} {p : Int} {t : Nat × Int} (h : ps_i e p = some t) : t.2 = 0 ∨ t.2 = 1 := by
  unfold ps_i at h
  split at h
  · cases h
  · split at h
    · cases h
    · split at h
      · cases h
        simp only
        split
        · exact Or.inr rfl
        · exact Or.inl rfl
      · cases h
section PS
variable {sc : pm_Z} {w0 : pm_W} {xs ys : List Int32} {sz i p : Int} {g : List Int} {w : pm_W}
theorem pg_back {v : Bool} {gA : List Int} {m : Nat} {nw : sx_N} {wg : List sx_C} {rr : List (Nat × Int)} (hg : g.length = 44) (hg0 : g[0]? = some 0) (h1 : ∀ j, j < 44 → j ≠ 1 → gA[j]? = g[j]?) (h2 : sx_n gA (44 + m) (nw ++ lh_f v)) (h3 : sx_w w0 gA wg w) (c1 : sx_fw 7 rr (lh_u v) wg = true) (c2 : sx_fnw 7 rr (nw ++ lh_f v) (lh_f v) = true) (c3 : rr.length = 37) :
    ∃ gF : List Int, sx_n gF 44 (lh_f v) ∧ sx_w w0 gF (lh_u v) w ∧ (∀ j, j < 7 → gF[j]? = g[j]?) ∧ ∀ j b, 7 ≤ j → j < 44 → rr[j - 7]? = some b → gF[j]? = some ((gA[b.1]?).getD 0 + b.2) := by
  have hl : 44 ≤ gA.length := by rw [h2.1]; omega
  have h7 : sx_n (gA.take 7) 7 [] := ⟨by rw [List.length_take]; omega, by rw [List.getElem?_take_of_lt (by omega)]; exact h2.2.1, fun q hq => by cases hq⟩
  have hn := sx_fn_ok (n0 := 7) (by omega) (by omega) h2 c2 h7
  rw [c3] at hn
  have hw := sx_fw_ok (n0 := 7) (by omega) c1 h3
  have hs : ∀ j, j ≠ 1 → ((sx_gg gA 7 rr).set 1 ((g[1]?).getD 0))[j]? = (sx_gg gA 7 rr)[j]? := fun j hj => List.getElem?_set_ne (fun q => hj q.symm)
  refine ⟨(sx_gg gA 7 rr).set 1 ((g[1]?).getD 0), ⟨?_, ?_, fun q hq => ?_⟩, ?_, fun j hj => ?_, fun j b hj hj2 hb => ?_⟩
  · rw [List.length_set]
    exact hn.1
  · rw [hs 0 (by omega)]
    exact hn.2.1
  · obtain ⟨z, z1, z2⟩ := hn.2.2 q (List.mem_append_left _ hq)
    have := (ll_f7 v).1 q hq
    exact ⟨z, by rw [hs _ (by omega)]; exact z1, z2⟩
  · refine lo_w_ok (fun j hj => ?_) (lh_u_ok v) hw
    rcases ll_ok_i hj with h | h
    · exact hs j (by omega)
    · exact hs j (by omega)
  · by_cases hj1 : j = 1
    · subst hj1
      rw [List.getElem?_set_self (by rw [hn.1]; omega), List.getElem?_eq_getElem (show 1 < g.length by omega)]
      simp
    · rw [hs j hj1, sx_gg_lo (by omega) hj]
      exact h1 j (by omega) hj1
  · rw [hs j (by omega)]
    exact sx_gg_hi (by omega) hj hb
/-- what is known behind an item: the class's -/
def pi_P (w0 : pm_W) (v : Bool) (g : List Int) (e : Nat → Int) (i p : Int) (K : Nat → Int) : Option Value → pm_W → Prop := fun r w' => ∃ g' : List Int, sx_n g' 44 (lh_f v) ∧ sx_w w0 g' (lh_u v) w' ∧ (∀ j, j < 44 → pi_kp v j = true → g'[j]? = g[j]?) ∧ (match ps_i e p with
  | none => r = some (.int 0)
  | some t => r = some (.int 1) ∧ g'[10]? = some (i + t.1) ∧ g'[pi_ps v]? = some (p + t.2) ∧ (∃ z, g'[pi_bn v]? = some z ∧ 0 ≤ z ∧ z ≤ 9) ∧ pi_H w' (pi_ka v) (pi_kb v) 0 0 (pK K e))
def pj_P (w0 : pm_W) (v : Bool) (g : List Int) (e : Nat → Int) (i p : Int) (K : Nat → Int) : Option Value → pm_W → Prop := fun r w' => ∃ g' : List Int, sx_n g' 44 (lh_f v) ∧ sx_w w0 g' (lh_u v) w' ∧ (∀ j, j < 44 → pj_kp j = true → g'[j]? = g[j]?) ∧ (match ps_i e p with
  | none => r = some (.int 0)
  | some t => r = some (.int 1) ∧ g'[41]? = some (i + t.1) ∧ g'[43]? = some (p + t.2) ∧ pi_H w' 45 45 10 30 (pK K e))
theorem pg_w {v : Bool} (hg : g.length = 44) (hw : sx_w w0 g (lh_u v) w) (e : Nat → Int) (K : Nat → Int) : sx_w w0 (pg_G g e i K) (lh_u v) w := by
  refine lo_w_ok (fun j hj => ?_) (lh_u_ok v) hw
  rcases ll_ok_i hj with h | h
  · exact pg_G_lo hg _ _ K (by omega) (by omega)
  · exact pg_G_lo hg _ _ K (by omega) (by omega)
theorem pi_item (v : Bool) {K : Nat → Int} (hH : pi_H w (pi_ka v) (pi_kb v) 0 0 K) (hr : pi_r v p = true) (hw2 : w0[2]? = some (.inl (1, xs))) (hw43 : w0[43]? = some (.inl (0, ys))) (hT : pz_T xs ys sz) (hi : 0 ≤ i ∧ i ≤ 199) (hn : sx_n g 44 (lh_f v)) (h8 : g[7]? = some sz) (hban : ∃ z, g[pi_bn v]? = some z ∧ 0 ≤ z ∧ z ≤ 9) (h9 : g[10]? = some i) (hp : g[pi_ps v]? = some p) (hw : sx_w w0 g (lh_u v) w) :
    pm_GoodM sc mm_31 [.ref 1, .ref (pi_dq v)] w (pi_P w0 v g (pz_f xs sz i) i p K) := by
  obtain ⟨as, bs, hk1, hk2, hk3⟩ := hH
  have hgl := hn.1
  have hwG := pg_w (i := i) hgl hw (pz_f xs sz i) K
  have hp44 : pi_ps v < 44 ∧ pi_ps v ≠ 1 := by cases v <;> decide
  have hwi : sx_w w0 (pg_G g (pz_f xs sz i) i K) (pi_w v p) w := by
    unfold pi_w
    rw [pi_c6]
    have hbase : sx_w w0 (pg_G g (pz_f xs sz i) i K) (pi_ob (pi_ob (lh_u v) 1 3 (.inl (44, 0))) (pi_dq v) 4 (.inl (0, p))) w := by
      refine pi_ob_ok (pi_ob_ok hwG (fun o a ho ha x hx => ?_)) (fun o a ho ha x hx => ?_)
      · obtain ⟨o', h1, h2⟩ := pi_c7 v
        rw [h1] at ho
        cases ho
        rw [h2] at ha
        cases ha
        obtain ⟨z, y, y1, y2, y3⟩ := hx
        simp only at y1 y3
        rw [pg_G_lo hgl _ _ _ (by omega) (by omega), h9] at y1
        cases y1
        exact ⟨_, y, pg_G_44 hgl _ _ _, y2, y3⟩
      · obtain ⟨o', h1, h2⟩ := pi_c8 v
        rw [h1] at ho
        cases ho
        rw [h2] at ha
        cases ha
        obtain ⟨z, y, y1, y2, y3⟩ := hx
        simp only at y1 y3
        rw [pg_G_lo hgl _ _ _ hp44.1 hp44.2, hp] at y1
        cases y1
        refine ⟨0, y, ?_, y2, by omega⟩
        rw [pg_G_lo hgl _ _ _ (by omega) (by omega)]
        exact hn.2.1
    obtain ⟨cc, hcc, hrc⟩ := sx_w_get hbase (pi_c10 v _)
    rw [hk1] at hcc
    cases hcc
    have hl5 : as.length = 20 := hrc.2.1
    have hb2 := sx_w_setA hbase hk1 (a := .inl (0, 20, false, pi_ks 0 88)) ⟨rfl, hl5, (fun q => by cases q), (fun q => by cases q), fun q hq => by
      obtain ⟨j, hj, rfl⟩ := List.mem_map.mp hq
      have hj := List.mem_range.mp hj
      refine ⟨as[0 + j], by rw [List.getElem?_eq_getElem], pz_s_ok (pg_G_K hgl _ _ _ (show j < 40 by omega)) ?_⟩
      rw [← (hk3 j hj).1, List.getD_eq_getElem?_getD, List.getElem?_eq_getElem (show 0 + j < as.length by omega)]
      rfl⟩
    obtain ⟨cc, hcc, hrc⟩ := sx_w_get hb2 (pi_c11 v _ _)
    rw [hk2] at hcc
    cases hcc
    have hl6 : bs.length = 20 := hrc.2.1
    exact sx_w_setA hb2 hk2 ⟨rfl, hl6, (fun q => by cases q), (fun q => by cases q), fun q hq => by
      obtain ⟨j, hj, rfl⟩ := List.mem_map.mp hq
      have hj := List.mem_range.mp hj
      refine ⟨bs[0 + j], by rw [List.getElem?_eq_getElem], pz_s_ok (by rw [show 108 + j = 88 + (20 + j) by omega]; exact pg_G_K hgl _ _ _ (show 20 + j < 40 by omega)) ?_⟩
      rw [← (hk3 j hj).2, List.getD_eq_getElem?_getD, List.getElem?_eq_getElem (show 0 + j < bs.length by omega)]
      rfl⟩
  have key := pg_gen (sc := sc) (K := K) (qa := pi_ka v) (ba := 0) (qb := pi_kb v) (bb := 0) (x := (mm_31, 1, 0, mk_31)) (lv := [(0, .ref 1), (1, .ref (pi_dq v))]) (pm_mt_ok (j := 31) (x := (mm_31, 1, 0, mk_31)) rfl).2 (Or.inl (show 4 ≤ (pi_p v).length from Nat.le_of_ble_eq_true rfl)) hr hw2 hw43 hT hi hn h8 (fun _ => hban) hwi ⟨⟨rfl, rfl⟩, ⟨rfl, rfl⟩, trivial⟩
  refine pm_mono (fun r w' hP => ?_) key
  obtain ⟨hS, gA, a1, a2, a3, a4⟩ := hP
  obtain ⟨gF, f1, f2, f3, f4⟩ := pg_back hgl hn.2.1 a1 a2 a3 (pi_c1 v) (pi_c2 v) (pi_c3 v)
  obtain ⟨d1, d2, d3⟩ := pi_c5 v
  refine ⟨gF, f1, f2, fun j hj hk => ?_, ?_⟩
  · by_cases h7 : j < 7
    · exact f3 j h7
    · rw [f4 j _ (by omega) hj (pi_c4 v j hj (by omega) hk), a1 j hj (by omega), List.getElem?_eq_getElem (show j < g.length by omega)]
      simp
  · cases hps : ps_i (pz_f xs sz i) p with
    | none =>
      rw [hps] at a4
      exact a4
    | some t =>
      rw [hps] at a4
      obtain ⟨b1, b2, b3, b4⟩ := a4
      have hv : 7 ≤ pi_ps v ∧ pi_ps v < 44 ∧ 7 ≤ pi_bn v ∧ pi_bn v < 44 := by cases v <;> decide
      refine ⟨b1, ?_, ?_, ?_⟩
      · rw [f4 10 _ (by omega) (by omega) d1, b2]
        simp
      · rw [f4 _ _ hv.1 hv.2.1 d2, b3]
        simp
      · refine ⟨?_, hS t hps⟩
        obtain ⟨z, z1, z2⟩ := b4 rfl
        refine ⟨z, ?_, z2⟩
        rw [f4 _ _ hv.2.2.1 hv.2.2.2 d3, z1]
        simp
theorem pj_item (v : Bool) {K : Nat → Int} (hH : pi_H w 45 45 10 30 K) (hr : pj_r v p = true) (hw2 : w0[2]? = some (.inl (1, xs))) (hw43 : w0[43]? = some (.inl (0, ys))) (hT : pz_T xs ys sz) (hi : 0 ≤ i ∧ i ≤ 199) (hn : sx_n g 44 (lh_f v)) (h8 : g[7]? = some sz) (h41 : g[41]? = some (i + 1)) (hp : g[43]? = some p) {c : Int32} (hc : c.toInt = pz_f xs sz i 0) (hw : sx_w w0 g (lh_u v) w) :
    pm_GoodM sc mm_139 [.ref 42, .int c] w (pj_P w0 v g (pz_f xs sz i) i p K) := by
  obtain ⟨as, bs, hk1, hk2, hk3⟩ := hH
  have hgl := hn.1
  have hwG := pg_w (i := i) hgl hw (pz_f xs sz i) K
  have hL := pg_G_L hgl (pz_f xs sz i) i K
  have hwi : sx_w w0 (pg_G g (pz_f xs sz i) i K) (pj_w v p) w := by
    unfold pj_w
    rw [pj_c6]
    have h1 : sx_w w0 (pg_G g (pz_f xs sz i) i K) (pi_ob (lh_u v) 42 12 (.inl (44, 1))) w := by
      refine pi_ob_ok hwG (fun o a ho ha x hx => ?_)
      obtain ⟨o', h1, h2⟩ := pj_c7 v
      rw [h1] at ho
      cases ho
      rw [h2] at ha
      cases ha
      obtain ⟨z, y, y1, y2, y3⟩ := hx
      simp only at y1 y3
      rw [pg_G_lo hgl _ _ _ (by omega) (by omega), h41] at y1
      cases y1
      exact ⟨_, y, pg_G_44 hgl _ _ _, y2, by omega⟩
    obtain ⟨cc, hcc, hrc⟩ := sx_w_get h1 (pj_c8 v)
    refine sx_w_setA h1 hcc ?_
    obtain ⟨zs, rfl, z1, z2, z3, z4⟩ := sx_rc_a hrc
    refine ⟨rfl, z1, (fun q => by cases q), (fun q => by cases q), fun q hq => ?_⟩
    rw [hk1] at hcc
    cases hcc
    rcases List.mem_cons.mp hq with rfl | hq
    case inr =>
      have z1 : as.length = 50 := z1
      have e9 : bs = as := by
        rw [hk1] at hk2
        cases hk2
        rfl
      subst e9
      rcases List.mem_append.mp hq with hq | hq
      · obtain ⟨j, hj, rfl⟩ := List.mem_map.mp hq
        have hj := List.mem_range.mp hj
        refine ⟨bs[10 + j], by rw [List.getElem?_eq_getElem], pz_s_ok (pg_G_K hgl _ _ _ (show j < 40 by omega)) ?_⟩
        rw [← (hk3 j hj).1, List.getD_eq_getElem?_getD, List.getElem?_eq_getElem (show 10 + j < bs.length by omega)]
        rfl
      · obtain ⟨j, hj, rfl⟩ := List.mem_map.mp hq
        have hj := List.mem_range.mp hj
        refine ⟨bs[30 + j], by rw [List.getElem?_eq_getElem], pz_s_ok (by rw [show 108 + j = 88 + (20 + j) by omega]; exact pg_G_K hgl _ _ _ (show 20 + j < 40 by omega)) ?_⟩
        rw [← (hk3 j hj).2, List.getD_eq_getElem?_getD, List.getElem?_eq_getElem (show 30 + j < bs.length by omega)]
        rfl
    obtain ⟨x, x1, x2⟩ := z4 _ List.mem_cons_self
    refine ⟨x, x1, ?_⟩
    obtain ⟨z, y, y1, y2, y3⟩ := x2
    simp only at y1 y3
    rw [pg_G_lo hgl _ _ _ (by omega) (by omega), hp] at y1
    cases y1
    refine ⟨0, y, ?_, y2, by omega⟩
    rw [pg_G_lo hgl _ _ _ (by omega) (by omega)]
    exact hn.2.1
  have key := pg_gen (sc := sc) (K := K) (qa := 45) (ba := 10) (qb := 45) (bb := 30) (x := (mm_139, 1, 0, mk_139)) (lv := [(0, .ref 42), (1, .int c)]) (pm_mt_ok (j := 139) (x := (mm_139, 1, 0, mk_139)) rfl).2 (Or.inr rfl) hr hw2 hw43 hT hi hn h8 (fun h => by cases h) hwi ⟨⟨rfl, rfl⟩, ⟨rfl, pz_s_ok (hL.1 0 (by omega)) hc⟩, trivial⟩
  refine pm_mono (fun r w' hP => ?_) key
  obtain ⟨hS, gA, a1, a2, a3, a4⟩ := hP
  obtain ⟨gF, f1, f2, f3, f4⟩ := pg_back hgl hn.2.1 a1 a2 a3 (pj_c1 v) (pj_c2 v) (pj_c3 v)
  obtain ⟨d1, d2⟩ := pj_c5 v
  refine ⟨gF, f1, f2, fun j hj hk => ?_, ?_⟩
  · by_cases h7 : j < 7
    · exact f3 j h7
    · rw [f4 j _ (by omega) hj (pj_c4 v j hj (by omega) hk), a1 j hj (by omega), List.getElem?_eq_getElem (show j < g.length by omega)]
      simp
  · cases hps : ps_i (pz_f xs sz i) p with
    | none =>
      rw [hps] at a4
      exact a4
    | some t =>
      rw [hps] at a4
      obtain ⟨b1, b2, b3, b4⟩ := a4
      refine ⟨b1, ?_, ?_, hS t hps⟩
      · rw [f4 41 _ (by omega) (by omega) d1, b2]
        simp
      · rw [f4 43 _ (by omega) (by omega) d2, b3]
        simp
end PS
