/-! from the run of an item to what it says -/
def pg_F (e : Nat → Int) (i : Int) (K : Nat → Int) (k : Nat) : Int := if k = 0 then i else if k ≤ 16 then e (k - 1) else if k ≤ 30 then (ps_D e (k - 17) : Int) else if k ≤ 43 then ps_V e (k - 30) else K (k - 44)
def pg_G (g : List Int) (e : Nat → Int) (i : Int) (K : Nat → Int) : List Int := ((g.take 44).set 1 (-1)) ++ (List.range 84).map (pg_F e i K)
theorem pg_G_len {g : List Int} (hg : g.length = 44) (e : Nat → Int) (i : Int) (K : Nat → Int) : (pg_G g e i K).length = 128 := by
  unfold pg_G
  simp [hg]
theorem pg_G_lo {g : List Int} (hg : g.length = 44) (e : Nat → Int) (i : Int) (K : Nat → Int) {j : Nat} (hj : j < 44) (h1 : j ≠ 1) : (pg_G g e i K)[j]? = g[j]? := by
  unfold pg_G
  rw [List.getElem?_append_left (by simp [hg]; omega), List.getElem?_set_ne (fun q => h1 q.symm), List.getElem?_take_of_lt hj]
theorem pg_G_1 {g : List Int} (hg : g.length = 44) (e : Nat → Int) (i : Int) (K : Nat → Int) : (pg_G g e i K)[1]? = some (-1) := by
  unfold pg_G
  rw [List.getElem?_append_left (by simp [hg]), List.getElem?_set_self (by simp [hg])]
theorem pg_G_hi {g : List Int} (hg : g.length = 44) (e : Nat → Int) (i : Int) (K : Nat → Int) {k : Nat} (hk : k < 84) : (pg_G g e i K)[44 + k]? = some (pg_F e i K k) := by
  unfold pg_G
  rw [List.getElem?_append_right (by simp [hg])]
  have : 44 + k - ((g.take 44).set 1 (-1)).length = k := by simp [hg]
  rw [this, List.getElem?_map, List.getElem?_range hk]
  rfl
theorem pg_G_44 {g : List Int} (hg : g.length = 44) (e : Nat → Int) (i : Int) (K : Nat → Int) : (pg_G g e i K)[44]? = some i := pg_G_hi hg e i K (k := 0) (by omega)
theorem pg_G_K {g : List Int} (hg : g.length = 44) (e : Nat → Int) (i : Int) (K : Nat → Int) {j : Nat} (hj : j < 40) : (pg_G g e i K)[88 + j]? = some (K j) := by
  rw [show 88 + j = 44 + (44 + j) by omega, pg_G_hi hg e i K (by omega)]
  unfold pg_F
  rw [if_neg (by omega), if_neg (by omega), if_neg (by omega), if_neg (by omega)]
  congr 2
  omega
theorem pg_G_L {g : List Int} (hg : g.length = 44) (e : Nat → Int) (i : Int) (K : Nat → Int) : pz_L e (pg_G g e i K) := by
  refine ⟨fun o ho => ?_, fun o h1 h2 => ⟨?_, ?_⟩⟩
  · rw [show 45 + o = 44 + (o + 1) by omega, pg_G_hi hg e i K (by omega)]
    unfold pg_F
    rw [if_neg (by omega), if_pos (by omega)]
    rfl
  · rw [show 61 + o = 44 + (o + 17) by omega, pg_G_hi hg e i K (by omega)]
    unfold pg_F
    rw [if_neg (by omega), if_neg (by omega), if_pos (by omega)]
    rfl
  · rw [show 74 + o = 44 + (o + 30) by omega, pg_G_hi hg e i K (by omega)]
    unfold pg_F
    rw [if_neg (by omega), if_neg (by omega), if_neg (by omega), if_pos (by omega)]
    rfl
theorem ps_V_rng {e : Nat → Int} (he : ∀ o, 0 ≤ e o ∧ e o ≤ 126) (o : Nat) : -48 ≤ ps_V e o ∧ ps_V e o ≤ 99 := by
  have a := he o
  have b := he (o + 1)
  have c := ps_D2 e o
  unfold ps_V
  split
  · rename_i h
    unfold ps_D at h
    split at h
    · split at h
      · omega
      · omega
    · omega
  · rename_i h
    unfold ps_D at h
    split at h
    · omega
    · omega
theorem pi_ob_ok {w0 : pm_W} {g : List Int} {aw : List sx_C} {w : pm_W} (hw : sx_w w0 g aw w) {q f : Nat} {y : sx_V} (h : ∀ o a, aw[q]? = some (.inr o) → o.2[f]? = some a → ∀ x, sx_r g a x → sx_r g y x) : sx_w w0 g (pi_ob aw q f y) w := by
  unfold pi_ob
  split
  · rename_i o ho
    obtain ⟨c, hc, hr⟩ := sx_w_get hw ho
    refine sx_w_setA hw hc ?_
    obtain ⟨fs, rfl, hf⟩ := sx_rc_o hr
    refine ⟨rfl, ?_⟩
    simp only
    cases ha : o.2[f]? with
    | none =>
      rw [List.set_eq_of_length_le (by exact List.getElem?_eq_none_iff.mp ha)]
      exact hf
    | some a =>
      obtain ⟨x, hx, hax⟩ := sx_f2_get hf ha
      have h1 := sx_f2_set hf f (h o a ho ha x hax)
      have e : fs.set f x = fs := by
        apply List.ext_getElem?
        intro k
        rw [List.getElem?_set]
        by_cases hk : f = k
        · subst hk
          have := (List.getElem?_eq_some_iff.mp hx).1
          rw [if_pos rfl, hx]
          simp [this]
        · rw [if_neg hk]
      rw [e] at h1
      exact h1
  · exact hw
theorem sx_rho_len {al : sx_L} {aw : List sx_C} : ∀ {pl : List sx_Pl} {r : List (Nat × Int)}, sx_rho al aw pl = some r → r.length = pl.length
  | [], r, h => by
    cases h
    rfl
  | p :: pl, r, h => by
    unfold sx_rho at h
    split at h
    · rename_i hr
      cases h
      simp only [List.length_cons]
      rw [sx_rho_len hr]
    · cases h
theorem pg_iv {g : List Int} {n : Nat} {env : sx_N} (hn : sx_n g n env) {b : Nat × Int} {iv : Int × Int} (h : sx_iv env b = some iv) (hd : 0 ≤ iv.1 ∧ iv.2 ≤ 9) : 0 ≤ (g[b.1]?).getD 0 + b.2 ∧ (g[b.1]?).getD 0 + b.2 ≤ 9 := by
  obtain ⟨z, h1, h2, h3⟩ := sx_iv_int hn h
  rw [h1]
  simp only [Option.getD_some]
  omega
section PG
variable {sc : pm_Z} {w0 : pm_W} {xs ys : List Int32} {sz i p : Int} {g : List Int} {w : pm_W}
/-- what is known behind an item -/
def pg_P (w0 : pm_W) (v : Bool) (g : List Int) (e : Nat → Int) (i p : Int) (wg : List sx_C) (nw : sx_N) (ban : Bool) (m : Nat) (K : Nat → Int) (qa ba qb bb : Nat) : Option Value → pm_W → Prop := fun r w' => (∀ t, ps_i e p = some t → ∃ as bs, w'[qa]? = some (.inl (0, as)) ∧ w'[qb]? = some (.inl (0, bs)) ∧ ∀ j : Nat, j < 20 → (as.getD (ba + j) 0).toInt = pK K e j ∧ (bs.getD (bb + j) 0).toInt = pK K e (20 + j)) ∧ ∃ gA : List Int, (∀ j, j < 44 → j ≠ 1 → gA[j]? = g[j]?) ∧ sx_n gA (44 + m) (nw ++ lh_f v) ∧ sx_w w0 gA wg w' ∧ (match ps_i e p with
  | none => r = some (.int 0)
  | some t => r = some (.int 1) ∧ gA[44]? = some (i + t.1) ∧ gA[45]? = some (p + t.2) ∧ (ban = true → ∃ z, gA[47]? = some z ∧ 0 ≤ z ∧ z ≤ 9))
/-- a row with what is known of it -/
theorem pk_sp_ok {w0 : pm_W} {g : List Int} {q b s : Nat} {x : Option (Nat × Nat)} {K : Nat → Int} {ca : sx_A} {c : pm_C} (hr : sx_rc w0 g q (.inl ca) c) (h : pk_sp ca.2.2.2 b s x = true) (hK : ∀ j : Nat, j < 20 → ∃ z, g[pk_jx x s j]? = some z ∧ z = K j) : ∃ zs, c = .inl (ca.1, zs) ∧ ∀ j : Nat, j < 20 → (zs.getD (b + j) 0).toInt = K j := by
  obtain ⟨zs, rfl, -, -, -, z4⟩ := sx_rc_a hr
  refine ⟨zs, rfl, fun j hj => ?_⟩
  have h9 := of_decide_eq_true (List.all_eq_true.mp h j (List.mem_range.mpr hj))
  obtain ⟨x9, x1, z, y, y1, y2, y3⟩ := z4 _ (sx_spl_mem h9)
  obtain ⟨z0, k1, k2⟩ := hK j hj
  cases y2
  simp only at y1 y3 x1
  rw [k1] at y1
  cases y1
  rw [List.getD_eq_getElem?_getD, x1]
  simp only [Option.getD_some]
  omega
theorem pg_gen {x : pm_X} {an : List (Nat × sx_An)} {al : sx_L} {lv : pm_L} {wi wg : List sx_C} {pl : List sx_Pl} {nw : sx_N} {ban v : Bool} {K : Nat → Int} {qa ba qb bb : Nat} (hx : pm_kb x.1 x.2.2.2 = true) (hpl : 4 ≤ pl.length ∨ ban = false)
    (hrun : sx_runF pi_A (fun _ => none) pi_O 100000 x an [] false 0 0 0 128 (pi_e ban v) al [] wi (pg_kF pl wg nw ban qa ba qb bb p) = true)
    (hw2 : w0[2]? = some (.inl (1, xs))) (hw43 : w0[43]? = some (.inl (0, ys))) (hT : pz_T xs ys sz) (hi : 0 ≤ i ∧ i ≤ 199) (hn : sx_n g 44 (lh_f v)) (h8 : g[7]? = some sz) (hban : ban = true → ∃ z, g[bif v then 13 else 18]? = some z ∧ 0 ≤ z ∧ z ≤ 9)
    (hw : sx_w w0 (pg_G g (pz_f xs sz i) i K) wi w) (hl : sx_l (pg_G g (pz_f xs sz i) i K) al lv) : pm_Good sc x.1 0 lv [] w 0 0 (pg_P w0 v g (pz_f xs sz i) i p wg nw ban pl.length K qa ba qb bb) := by
  rw [pg_kF_eq, sx_runF_eq] at hrun
  have hgl := hn.1
  have hG : pz_G w0 xs ys sz i (pg_G g (pz_f xs sz i) i K) := ⟨hw2, hw43, hT, ⟨hi.1, by omega⟩, by rw [pg_G_lo hgl _ _ K (by omega) (by omega)]; exact h8, pg_G_44 hgl _ _ K, pg_G_L hgl _ _ K⟩
  have hO : sx_orOK sc (pz_G w0 xs ys sz i) w0 pi_O := ⟨(fun j y n env as aw alts g As w h => by cases h), pz_O_ok⟩
  have hnG : sx_n (pg_G g (pz_f xs sz i) i K) 128 (pi_e ban v) := by
    refine ⟨pg_G_len hgl _ _ K, by rw [pg_G_lo hgl _ _ K (by omega) (by omega)]; exact hn.2.1, fun q hq => ?_⟩
    have hL := pg_G_L hgl (pz_f xs sz i) i K
    have hr : ∀ o, 0 ≤ pz_f xs sz i o ∧ pz_f xs sz i o ≤ 126 := fun o => pz_e_rng hT _
    have base : ∀ q ∈ pi_x ++ lh_f v, ∃ z, (pg_G g (pz_f xs sz i) i K)[q.1]? = some z ∧ q.2.1 ≤ z ∧ z ≤ q.2.2 := by
      intro q hq
      rcases List.mem_append.mp hq with hq | hq
      · unfold pi_x at hq
        rcases List.mem_append.mp hq with hq | hq
        · rcases List.mem_append.mp hq with hq | hq
          · rcases List.mem_cons.mp hq with rfl | hq
            · exact ⟨i, pg_G_44 hgl _ _ K, hi⟩
            · obtain ⟨o, ho, rfl⟩ := List.mem_map.mp hq
              have ho := List.mem_range.mp ho
              exact ⟨_, hL.1 o (by omega), hr o⟩
          · obtain ⟨o, ho, rfl⟩ := List.mem_map.mp hq
            have ho := List.mem_range.mp ho
            have h1 := (hL.2 (o + 1) (by omega) (by omega)).1
            refine ⟨_, by rw [show 62 + o = 61 + (o + 1) by omega]; exact h1, ?_⟩
            have := ps_D2 (pz_f xs sz i) (o + 1)
            simp only
            omega
        · obtain ⟨o, ho, rfl⟩ := List.mem_map.mp hq
          have ho := List.mem_range.mp ho
          have h1 := (hL.2 (o + 1) (by omega) (by omega)).2
          refine ⟨_, by rw [show 75 + o = 74 + (o + 1) by omega]; exact h1, ?_⟩
          exact ps_V_rng hr (o + 1)
      · obtain ⟨z, z1, z2⟩ := hn.2.2 q hq
        have h7 := (ll_f7 v).1 q hq
        exact ⟨z, by rw [pg_G_lo hgl _ _ K h7.2 (by omega)]; exact z1, z2⟩
    unfold pi_e at hq
    cases hb : ban with
    | false =>
      rw [hb] at hq
      exact base q hq
    | true =>
      rw [hb] at hq
      simp only [cond_true] at hq
      rcases List.mem_cons.mp hq with rfl | hq
      · obtain ⟨z, z1, z2⟩ := hban hb
        refine ⟨z, ?_, z2⟩
        rw [pg_G_lo hgl _ _ K (by cases v <;> decide) (by cases v <;> decide)]
        exact z1
      · exact base q hq
  refine sx_run_ok hO 100000 x _ _ _ _ _ _ _ _ _ _ _ _ (pg_G g (pz_f xs sz i) i K) (pg_G g (pz_f xs sz i) i K) lv [] w _ hrun hx ⟨Or.inl ⟨-1, pg_G_1 hgl _ _ K, by decide⟩, _, List.prefix_rfl, hG⟩ List.prefix_rfl ⟨hnG, hl, trivial, hw⟩ (fun h hh => by cases hh) (fun g' o r w' hp hk hmo => ?_)
  unfold pg_k at hk
  cases hpk : pk_i o.2.1 p with
  | none => rw [hpk] at hk; cases hk
  | some rr =>
    rw [hpk] at hk
    simp only [Bool.and_eq_true, decide_eq_true_eq] at hk
    obtain ⟨k1, k2⟩ := hk
    cases hq : sx_rho [] o.2.2.2 pl with
    | none => rw [hq] at k2; cases k2
    | some q =>
      rw [hq] at k2
      simp only [Bool.and_eq_true] at k2
      obtain ⟨k3, k4, kS, k5⟩ := k2
      obtain ⟨m1, m2, m3⟩ := hmo
      have hLg : pz_L (pz_f xs sz i) g' := pz_L_pre hp (pg_G_L hgl _ _ K)
      have hps := pk_i_ok m1 hLg hpk
      have hlen : 128 ≤ g'.length := by rw [← pg_G_len hgl (pz_f xs sz i) i K]; exact hp.length_le
      have hpre : ∀ j, j < 44 → j ≠ 1 → g'[j]? = g[j]? := fun j hj h1 => by
        rw [← pg_G_lo hgl (pz_f xs sz i) i K hj h1]
        have h9 := List.getElem?_eq_getElem (show j < (pg_G g (pz_f xs sz i) i K).length by rw [pg_G_len hgl]; omega)
        rw [h9]
        exact sx_get_pre hp h9
      have h44 : g'[44]? = some i := sx_get_pre hp (pg_G_44 hgl _ _ K)
      have h0 : g'[0]? = some 0 := m1.2.1
      have hn44 : sx_n (g'.take 44) 44 (lh_f v) := by
        refine ⟨by rw [List.length_take]; omega, by rw [List.getElem?_take_of_lt (by omega)]; exact h0, fun q hq => ?_⟩
        obtain ⟨z, z1, z2⟩ := hn.2.2 q hq
        have h7 := (ll_f7 v).1 q hq
        exact ⟨z, by rw [List.getElem?_take_of_lt h7.2, hpre _ h7.2 (by omega)]; exact z1, z2⟩
      have hqlen : q.length = pl.length := sx_rho_len hq
      have hnA := sx_fn_ok (n0 := 44) (by omega) (by omega) m1 k4 hn44
      rw [hqlen] at hnA
      refine ⟨?_, ?_⟩
      · intro t0 ht0
        rw [hps] at ht0
        subst ht0
        simp only [pk_s] at kS
        split at kS
        · rename_i x ca cb hex hqa hqb
          simp only [Bool.and_eq_true] at kS
          obtain ⟨s0, s1, s2, s3⟩ := kS
          have s0 := Nat.eq_of_beq_eq_true s0
          have s1 := Nat.eq_of_beq_eq_true s1
          obtain ⟨cv, hcv, hrc⟩ := sx_w_get m3 hqa
          obtain ⟨cv2, hcv2, hrc2⟩ := sx_w_get m3 hqb
          have hKs : ∀ j : Nat, j < 40 → g'[88 + j]? = some (K j) := fun j hj => sx_get_pre hp (pg_G_K hgl (pz_f xs sz i) i K hj)
          have hx3 : ∀ j : Nat, j < 20 → (∃ z, g'[pk_jx (x.map fun t => (t.1, t.2.1)) 88 j]? = some z ∧ z = pK K (pz_f xs sz i) j) ∧ ∃ z, g'[pk_jx (x.map fun t => (t.1, t.2.2)) 108 j]? = some z ∧ z = pK K (pz_f xs sz i) (20 + j) := by
            intro j hj
            unfold pk_ex at hex
            cases hb : sx_bd 45 o.2.1 with
            | none => rw [hb] at hex; cases hex
            | some b =>
              rw [hb] at hex
              simp only at hex
              have hB := pz_bd m1 (hLg.1 0 (by omega)) hb
              have h108 : g'[108 + j]? = some (K (20 + j)) := by
                have := hKs (20 + j) (by omega)
                rw [show 88 + (20 + j) = 108 + j by omega] at this
                exact this
              by_cases hc : b.1 = 104 ∧ b.2 = 104
              · rw [if_pos hc] at hex
                cases hsl : pk_sl o.2.1 with
                | none => rw [hsl] at hex; cases hex
                | some t =>
                  rw [hsl] at hex
                  cases hex
                  obtain ⟨t1, t2, t3, t4⟩ := pk_sl_ok m1 hLg hsl
                  have e0 : pz_f xs sz i 0 = 104 := by omega
                  simp only [Option.map_some, pk_jx]
                  unfold pK
                  rw [if_pos e0, if_pos e0]
                  by_cases hj1 : j = t.1
                  · rw [if_pos hj1, if_pos hj1, if_pos (by omega), if_neg (by omega), if_pos (by omega)]
                    exact ⟨⟨_, t3, rfl⟩, ⟨_, t4, rfl⟩⟩
                  · rw [if_neg hj1, if_neg hj1, if_neg (by omega), if_neg (by omega), if_neg (by omega), if_neg (by omega)]
                    exact ⟨⟨_, hKs j (by omega), rfl⟩, ⟨_, h108, rfl⟩⟩
              · rw [if_neg hc] at hex
                by_cases hd : 104 < b.1 ∨ b.2 < 104
                · rw [if_pos hd] at hex
                  cases hex
                  have e0 : ¬ pz_f xs sz i 0 = 104 := by omega
                  simp only [Option.map_none, pk_jx]
                  unfold pK
                  rw [if_neg e0, if_neg e0]
                  exact ⟨⟨_, hKs j (by omega), rfl⟩, ⟨_, h108, rfl⟩⟩
                · rw [if_neg hd] at hex
                  cases hex
          obtain ⟨as, rfl, a2⟩ := pk_sp_ok (K := pK K (pz_f xs sz i)) hrc s2 (fun j hj => (hx3 j hj).1)
          obtain ⟨bs, rfl, b2⟩ := pk_sp_ok (K := fun j => pK K (pz_f xs sz i) (20 + j)) hrc2 s3 (fun j hj => (hx3 j hj).2)
          rw [s0] at hcv
          rw [s1] at hcv2
          exact ⟨as, bs, hcv, hcv2, fun j hj => ⟨a2 j hj, b2 j hj⟩⟩
        · cases kS
      refine ⟨sx_gg g' 44 q, fun j hj h1 => by rw [sx_gg_lo (by omega) hj]; exact hpre j hj h1, hnA, sx_fw_ok (by omega) k5 m3, ?_⟩
      rw [hps]
      rw [k1] at m2
      cases r with
      | none => cases m2
      | some u =>
        obtain ⟨y, x9, e1, e2, e3⟩ := m2
        simp only at e1 e3
        rw [h0] at e1
        cases e1
        subst e2
        cases rr with
        | none =>
          simp only at e3 ⊢
          have : x9 = 0 := Int32.toInt_inj.mp (by rw [e3]; rfl)
          rw [this]
        | some t =>
          simp only at e3 ⊢
          have : x9 = 1 := Int32.toInt_inj.mp (by rw [e3]; rfl)
          unfold pi_q at k3
          simp only [Bool.and_eq_true] at k3
          obtain ⟨k6, k7⟩ := k3
          cases q0 : q[0]? with
          | none => rw [q0] at k6; cases k6
          | some a =>
            cases q1 : q[1]? with
            | none => rw [q0, q1] at k6; cases k6
            | some b =>
              rw [q0, q1] at k6
              simp only [Bool.and_eq_true, decide_eq_true_eq] at k6
              obtain ⟨⟨a1, a2⟩, b1, b2⟩ := k6
              have a1 := Nat.eq_of_beq_eq_true a1
              have b1 := Nat.eq_of_beq_eq_true b1
              refine ⟨by rw [this], ?_, ?_, fun hb => ?_⟩
              · rw [sx_gg_hi (by omega) (by omega) (i := 44) (b := a) (by simpa using q0), a1, h44, a2]
                rfl
              · rw [sx_gg_hi (by omega) (by omega) (i := 45) (b := b) (by simpa using q1), b1, h0, b2]
                simp
              · rw [hb] at k7
                simp only [cond_true] at k7
                cases q3 : q[3]? with
                | none => rw [q3] at k7; cases k7
                | some b3 =>
                  rw [q3] at k7
                  simp only at k7
                  refine ⟨_, sx_gg_hi (by omega) (by omega) (i := 47) (b := b3) (by simpa using q3), ?_⟩
                  unfold sx_fits at k7
                  split at k7
                  · rename_i iv hiv
                    have hd := of_decide_eq_true k7
                    exact pg_iv m1 hiv hd
                  · cases k7
end PG
