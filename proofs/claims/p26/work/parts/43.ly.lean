/-! fault and lay of both sides -/
/-- rows that are as they were -/
def ly_fb (aw : List sx_C) (q : Nat) : Bool := match (aw[q]? : Option sx_C) with
  | some (.inl a) => a.2.2.1
  | _ => false
theorem ly_same {wb : pm_W} {g : List Int} {aw : List sx_C} {w : pm_W} (hw : sx_w wb g aw w) {q : Nat} (h : ly_fb aw q = true) : w[q]? = wb[q]? := by
  unfold ly_fb at h
  split at h
  · rename_i a ha
    obtain ⟨c, hc, hr⟩ := sx_w_get hw ha
    obtain ⟨xs, rfl, -, f, -⟩ := sx_rc_a hr
    rw [hc, f h]
  · cases h
theorem ly_self {w0 : pm_W} {g : List Int} {aw : List sx_C} {w : pm_W} (hw : sx_w w0 g aw w) : sx_w w g aw w := by
  refine ⟨hw.1, fun q a c h1 h2 => ?_⟩
  have h3 := hw.2 q a c h1 h2
  cases a with
  | inl a =>
    cases c with
    | inl c =>
      obtain ⟨c1, c2, c3, c4⟩ := h3
      exact ⟨c1, c2, fun _ => h2, c4⟩
    | inr c => cases h3
  | inr a =>
    cases c with
    | inl c => cases h3
    | inr c => exact h3
def ly_Q : List Nat := [2, 43, 44, 23, 24, 25, 50]
theorem ly_uQ (v : Bool) : ∀ q ∈ ly_Q, ly_fb (lh_u v) q = true := by cases v <;> decide +kernel
theorem ly_o0 (v : Bool) : ∃ l, (lh_u v)[0]? = some (.inr (7, l)) ∧ l[0]? = some (.inr (.ref 1)) ∧ l[2]? = some (.inr (.ref (pi_dq v))) := by cases v <;> exact ⟨_, rfl, rfl, rfl⟩
theorem ly_o1 (v : Bool) : ∃ l, (lh_u v)[pi_dq v]? = some (.inr (6, l)) ∧ l[4]? = some (.inl (pi_ps v, 0)) := by cases v <;> exact ⟨_, rfl, rfl⟩
theorem ly_x0 {wb : pm_W} {g : List Int} {v : Bool} {w : pm_W} (hw : sx_w wb g (lh_u v) w) : ∃ fs, w[0]? = some (.inr (7, fs)) ∧ fs[0]? = some (.ref 1) ∧ fs[2]? = some (.ref (pi_dq v)) := by
  obtain ⟨l, h1, h2, h3⟩ := ly_o0 v
  obtain ⟨c, hc, hr⟩ := sx_w_get hw h1
  obtain ⟨fs, rfl, hf⟩ := sx_rc_o hr
  obtain ⟨a, a1, a2⟩ := sx_f2_get hf h2
  obtain ⟨b, b1, b2⟩ := sx_f2_get hf h3
  have a2 : a = .ref 1 := a2
  have b2 : b = .ref (pi_dq v) := b2
  subst a2 b2
  exact ⟨fs, hc, a1, b1⟩
theorem ly_x1 {wb : pm_W} {g : List Int} {v : Bool} {w : pm_W} (hw : sx_w wb g (lh_u v) w) {p : Int} (hp : g[pi_ps v]? = some p) : ∃ fs x, w[pi_dq v]? = some (.inr (6, fs)) ∧ fs[4]? = some (.int x) ∧ x.toInt = p := by
  obtain ⟨l, h1, h2⟩ := ly_o1 v
  obtain ⟨c, hc, hr⟩ := sx_w_get hw h1
  obtain ⟨fs, rfl, hf⟩ := sx_rc_o hr
  obtain ⟨a, a1, z, x, y1, y2, y3⟩ := sx_f2_get hf h2
  simp only at y1 y3
  rw [hp] at y1
  cases y1
  subst y2
  exact ⟨fs, x, hc, a1, by omega⟩
theorem ly_m4 : (-4 : Int32).toInt = -4 := by decide
/-- a town is told -/
def ly_Y (xs : List Int32) (sz : Int) : Prop := (pf xs sz 200 0 0 pf_z).1 = -4 ∧ (pf xs sz 200 0 0 pf_z).2.1 ≠ 0
/-- nothing is laid: the class, the reference -/
def ly_F (v : Bool) (kp : Nat → Bool) (g : List Int) (w w1 : pm_W) : Prop := ∃ g' : List Int, sx_n g' 44 (lh_f v) ∧ sx_w w1 g' (lh_u v) w1 ∧ (∀ j, j < 44 → kp j = true → g'[j]? = g[j]?) ∧ ∀ q, ly_fb (lh_u v) q = true → w1[q]? = w[q]?
/-- a town is laid: the class, the reference -/
def ly_S (v : Bool) (g : List Int) (w : pm_W) (p : Int) (K : Nat → Int) (w1 : pm_W) : Prop := ∃ g' : List Int, sx_n g' 44 (lh_f (!v)) ∧ sx_w w1 g' (lh_u (!v)) w1 ∧ (∀ j, j < 8 → g'[j]? = g[j]?) ∧ g'[8]? = some p ∧ g'[9]? = some 0 ∧ g'[27]? = some 0 ∧ g'[39]? = g[39]? ∧ g'[40]? = g[40]? ∧ g'[42]? = g[42]? ∧ (∀ q ∈ ly_Q, w1[q]? = w[q]?) ∧ pi_H w1 (pi_ka v) (pi_kb v) 0 0 K
def ly_T (v : Bool) (g : List Int) (w : pm_W) (p : Int) (K : Nat → Int) (w1 : pm_W) : Prop := ∃ g' : List Int, sx_n g' 44 (lh_f v) ∧ sx_w w1 g' (lh_u v) w1 ∧ (∀ j, j < 10 → g'[j]? = g[j]?) ∧ g'[27]? = g[27]? ∧ g'[39]? = some 0 ∧ g'[40]? = some 0 ∧ g'[42]? = some p ∧ (∀ q, ly_fb (lh_u v) q = true → q ≠ 44 → w1[q]? = w[q]?) ∧ pi_H w1 44 44 10 30 K
/-- what stands behind the reading, run by signs -/
def ly_w (v : Bool) : List sx_C := ((lh_u v).set (pi_ka v) (.inl (0, 20, true, []))).set (pi_kb v) (.inl (0, 20, true, []))
def ly_in : Option sx_V → Bool
  | some (.inl _) => true
  | _ => false
def ly_k (v : Bool) : sx_O → Bool := fun o => ly_in o.2.2.1 && (match sx_rho [] o.2.2.2 (lh_v (!v)) with
  | none => false
  | some q => sx_fw 7 q (lh_u (!v)) o.2.2.2 && (sx_fnw 7 q o.2.1 (lh_f (!v)) && (Nat.beq q.length 37 && decide (q[0]? = some (7, 0) ∧ q[1]? = some (pi_ps v, 0) ∧ q[2]? = some (0, 0) ∧ q[20]? = some (0, 0) ∧ q[32]? = some (39, 0) ∧ q[33]? = some (40, 0) ∧ q[35]? = some (42, 0)))))
theorem ly_r (v : Bool) : sx_runF sx_AN sx_CU sx_O1 100000 (mm_74, 0, 0, mk_74) [] [] false 11 0 0 44 ((pi_ps v, 1, 5) :: (pi_bn v, 0, 9) :: lh_f v) [(0, .inr (.ref 0))] [.inl (0, (-4))] (ly_w v) (ly_k v) = true := by cases v <;> decide +kernel
def ly_v (v : Bool) : List sx_C := (lh_u v).set 45 (.inl (0, 50, false, (0, .inl (43, 0)) :: (pi_ks 10 44 ++ pi_ks 30 64)))
def ly_x (v : Bool) : List sx_C := (lh_u v).set 44 (.inl (0, 50, false, [(0, .inl (42, 0))]))
def ly_tk (aw : List sx_C) : Bool := match (aw[44]? : Option sx_C) with
  | some (.inl c) => Nat.beq c.1 0 && (pk_sp c.2.2.2 10 44 none && pk_sp c.2.2.2 30 64 none)
  | _ => false
def ly_l (v : Bool) : sx_O → Bool := fun o => ly_in o.2.2.1 && (match sx_rho [] o.2.2.2 (lh_v v) with
  | none => false
  | some q => sx_fw 7 q (ly_x v) o.2.2.2 && (sx_fnw 7 q o.2.1 (lh_f v) && (Nat.beq q.length 37 && (decide (q[0]? = some (7, 0) ∧ q[1]? = some (8, 0) ∧ q[2]? = some (9, 0) ∧ q[20]? = some (27, 0) ∧ q[32]? = some (0, 0) ∧ q[33]? = some (0, 0) ∧ q[35]? = some (43, 0)) && ly_tk o.2.2.2))))
theorem ly_s (v : Bool) : sx_runF sx_AN sx_CU sx_O1 100000 (mm_152, 0, 0, mk_152) [] [] false 4 0 0 84 ((43, 1, 5) :: lh_f v) [(0, .inr (.ref 42))] [.inl (0, (-4))] (ly_v v) (ly_l v) = true := by cases v <;> decide +kernel
theorem ly_all (v : Bool) : ∀ j, j < 44 → 7 ≤ j → (lh_f v).any (fun e => Nat.beq e.1 j) = true := by cases v <;> decide +kernel
theorem ly_rg {v : Bool} {g : List Int} (hn : sx_n g 44 (lh_f v)) {j : Nat} (h7 : 7 ≤ j) (hj : j < 44) : ∃ z, g[j]? = some z ∧ True := by
  obtain ⟨e, e1, e2⟩ := List.any_eq_true.mp (ly_all v j hj h7)
  have e2 := Nat.eq_of_beq_eq_true e2
  obtain ⟨z, z1, z2, z3⟩ := hn.2.2 e e1
  rw [e2] at z1
  exact ⟨z, z1, trivial⟩
theorem ly_tw (v : Bool) : ly_fb (lh_u (!v)) (pi_ka v) = true ∧ ly_fb (lh_u (!v)) (pi_kb v) = true := by cases v <;> decide +kernel
theorem ly_x44 (v : Bool) : (ly_x v)[44]? = some (.inl (0, 50, false, [(0, .inl (42, 0))])) := by cases v <;> rfl
theorem ly_xu (v : Bool) : (ly_x v).set 44 (.inl (0, 50, true, [(0, .inl (42, 0))])) = lh_u v := by cases v <;> rfl
theorem ly_xf (v : Bool) {q : Nat} (h : ly_fb (lh_u v) q = true) (hq : q ≠ 44) : ly_fb (ly_x v) q = true := by
  unfold ly_fb ly_x
  rw [List.getElem?_set_ne (fun e => hq e.symm)]
  exact h
def ly_ks (K : Nat → Int) : List Int := (List.range 40).map K
theorem ly_int {g : List Int} {a : Option sx_V} {r : Option Value} (h : sx_ro g a r) (hi : ly_in a = true) : ∃ x, r = some (.int x) := by
  unfold ly_in at hi
  split at hi
  · cases r with
    | none => cases h
    | some u =>
      obtain ⟨x, rfl⟩ := sx_int_ok h
      exact ⟨x, rfl⟩
  · cases hi
theorem ly_gg {wb : pm_W} {g' gE : List Int} {n : Nat} {env : sx_N} {aw wu : List sx_C} {w2 : pm_W} {q : List (Nat × Int)} {fs : sx_N} (hl : g'.length ≤ gE.length) (h44 : g'.length = 44) (m1 : sx_n gE n env) (m3 : sx_w wb gE aw w2) (q1 : sx_fw 7 q wu aw = true) (q2 : sx_fnw 7 q env fs = true) (q3 : q.length = 37) : sx_n (sx_gg gE 7 q) 44 fs ∧ sx_w wb (sx_gg gE 7 q) wu w2 ∧ (∀ j, j < 7 → (sx_gg gE 7 q)[j]? = gE[j]?) ∧ ∀ (j : Nat) (b : Nat × Int) (y : Int), 7 ≤ j → q[j - 7]? = some b → gE[b.1]? = some y → (sx_gg gE 7 q)[j]? = some (y + b.2) := by
  have h7 : sx_n (gE.take 7) 7 [] := ⟨by rw [List.length_take]; omega, by rw [List.getElem?_take_of_lt (by omega)]; exact m1.2.1, fun q hq => by cases hq⟩
  have hN := sx_fn_ok (n0 := 7) (by omega) (by omega) m1 q2 h7
  rw [q3, List.append_nil] at hN
  refine ⟨hN, sx_fw_ok (n0 := 7) (by omega) q1 m3, fun j hj => sx_gg_lo (by omega) hj, fun j b y hj hb hy => ?_⟩
  rw [sx_gg_hi (by omega) hj hb, hy]
  rfl
theorem ly_told {wb : pm_W} {g : List Int} {aw : List sx_C} {w : pm_W} {K : Nat → Int} (hw : sx_w wb g aw w) (h : ly_tk aw = true) (hK : ∀ j : Nat, j < 40 → g[44 + j]? = some (K j)) : ∃ zs, w[44]? = some (.inl (0, zs)) ∧ ∀ j : Nat, j < 20 → (zs.getD (10 + j) 0).toInt = K j ∧ (zs.getD (30 + j) 0).toInt = K (20 + j) := by
  unfold ly_tk at h
  split at h
  · rename_i c hc
    simp only [Bool.and_eq_true] at h
    obtain ⟨h0, h1, h2⟩ := h
    have h0 := Nat.eq_of_beq_eq_true h0
    obtain ⟨cc, hcc, hr⟩ := sx_w_get hw hc
    obtain ⟨zs, e1, z1⟩ := pk_sp_ok (K := K) hr h1 (fun j hj => ⟨_, hK j (by omega), rfl⟩)
    obtain ⟨zs2, e2, z2⟩ := pk_sp_ok (K := fun j => K (20 + j)) hr h2 (fun j hj => ⟨_, by unfold pk_jx; rw [show 64 + j = 44 + (20 + j) by omega]; exact hK (20 + j) (by omega), rfl⟩)
    rw [e1] at hcc e2
    cases e2
    rw [h0] at hcc
    exact ⟨zs, hcc, fun j hj => ⟨z1 j hj, z2 j hj⟩⟩
  · cases h
section LY
variable {sc : pm_Z} {xs ys : List Int32} {sz : Int} {g : List Int} {w : pm_W}
theorem ly_57 (v : Bool) (hr : ∀ p : Int, 0 ≤ p ∧ p ≤ 5 → pi_r v p = true) (hw2 : w[2]? = some (.inl (1, xs))) (hw43 : w[43]? = some (.inl (0, ys))) (hT : pz_T xs ys sz) (hn : sx_n g 44 (lh_f v)) (h1 : g[1]? = some (-1)) (h8 : g[7]? = some sz) (hw : sx_w w g (lh_u v) w) : pm_GoodM sc mm_57 [.ref 0] w (fun r w1 => (∃ x, r = some (.int x)) ∧ ly_F v (pi_kp v) g w w1) := by
  have hx : pm_kb mm_57 mk_57 = true := (pm_mt_ok (j := 57) (x := (mm_57, 0, 0, mk_57)) rfl).2
  obtain ⟨fs, f0, f1, f2⟩ := ly_x0 hw
  unfold pm_GoodM
  show pm_Good sc mm_57 0 [(0, .ref 0)] [] w 0 0 _
  refine pm_ld_ok (i := .aload_n 0) (x := 0) (k := 2) (n := 1) (v := .ref 0) (pe_d hx (show pm_fetch mk_57 0 = some (.aload_n 0, 1, 0, 0, 0) from rfl)) rfl rfl rfl ?_
  refine pe_getf hx (show pm_fetch mk_57 1 = some (.getfield 10, 3, 7, 0, 376) from rfl) (by decide) f0 f1 ?_
  refine pm_ld_ok (i := .aload_n 0) (x := 0) (k := 2) (n := 1) (v := .ref 0) (pe_d hx (show pm_fetch mk_57 4 = some (.aload_n 0, 1, 0, 0, 0) from rfl)) rfl rfl rfl ?_
  refine pe_getf hx (show pm_fetch mk_57 5 = some (.getfield 23, 3, 7, 2, 378) from rfl) (by decide) f0 f2 ?_
  obtain ⟨ct, hct, hrt⟩ := sx_w_get hw (pc_t v)
  obtain ⟨ft, rfl, -⟩ := sx_rc_o hrt
  refine pe_callV (y := (mm_32, 1, 0, mk_32)) (As := [.ref (pi_dq v)]) (rest := []) (P1 := pc_P w v g (pf xs sz 200 0 0 pf_z)) hx (show pm_fetch mk_57 8 = some (.invokevirtual 84, 3, 32, 0, 305) from rfl) rfl rfl rfl (fun v hv => by simp only [List.mem_cons, List.not_mem_nil, or_false] at hv; rcases hv with rfl <;> rfl) hct (show pm_cl[5]? = some _ from rfl) rfl (Nat.le_of_ble_eq_true rfl) (Nat.le_of_ble_eq_true rfl) (Nat.le_of_ble_eq_true rfl) (Nat.le_of_ble_eq_true rfl) (pc_all v hr hw2 hw43 hT hn h1 h8 hw) (fun r w' q => by obtain ⟨g', -, q, -⟩ := q; rw [← q.1, ← hw.1]) (fun r w' q => ?_)
  obtain ⟨g', n1, w1, k1, ⟨x, rfl, hx9⟩, p1⟩ := q
  show pm_Good sc mm_57 11 [(0, .ref 0)] [.int x] w' 0 0 _
  exact pm_iret (ty := .int) (pe_d hx (show pm_fetch mk_57 11 = some (.ireturn, 1, 0, 0, 0) from rfl)) rfl rfl ⟨⟨x, rfl⟩, g', n1, ly_self w1, k1, fun q hq => ly_same w1 hq⟩
theorem ly_74 (v : Bool) (hr : ∀ p : Int, 0 ≤ p ∧ p ≤ 5 → pi_r v p = true) (hw2 : w[2]? = some (.inl (1, xs))) (hw43 : w[43]? = some (.inl (0, ys))) (hT : pz_T xs ys sz) (hn : sx_n g 44 (lh_f v)) (h1 : g[1]? = some (-1)) (h8 : g[7]? = some sz) (hw : sx_w w g (lh_u v) w) : pm_GoodM sc mm_74 [.ref 0] w (fun r w1 => (∃ x, r = some (.int x)) ∧ ((¬ ly_Y xs sz ∧ ly_F v (pi_kp v) g w w1) ∨ (ly_Y xs sz ∧ ly_S v g w (pf xs sz 200 0 0 pf_z).2.1 (pf xs sz 200 0 0 pf_z).2.2 w1))) := by
  have hx : pm_kb mm_74 mk_74 = true := (pm_mt_ok (j := 74) (x := (mm_74, 0, 0, mk_74)) rfl).2
  obtain ⟨fs, f0, f1, f2⟩ := ly_x0 hw
  unfold pm_GoodM
  show pm_Good sc mm_74 0 [(0, .ref 0)] [] w 0 0 _
  refine pm_ld_ok (i := .aload_n 0) (x := 0) (k := 2) (n := 1) (v := .ref 0) (pe_d hx (show pm_fetch mk_74 0 = some (.aload_n 0, 1, 0, 0, 0) from rfl)) rfl rfl rfl ?_
  refine pe_getf hx (show pm_fetch mk_74 1 = some (.getfield 10, 3, 7, 0, 376) from rfl) (by decide) f0 f1 ?_
  refine pm_ld_ok (i := .aload_n 0) (x := 0) (k := 2) (n := 1) (v := .ref 0) (pe_d hx (show pm_fetch mk_74 4 = some (.aload_n 0, 1, 0, 0, 0) from rfl)) rfl rfl rfl ?_
  refine pe_getf hx (show pm_fetch mk_74 5 = some (.getfield 23, 3, 7, 2, 378) from rfl) (by decide) f0 f2 ?_
  obtain ⟨ct, hct, hrt⟩ := sx_w_get hw (pc_t v)
  obtain ⟨ft, rfl, -⟩ := sx_rc_o hrt
  refine pe_callV (y := (mm_32, 1, 0, mk_32)) (As := [.ref (pi_dq v)]) (rest := []) (P1 := pc_P w v g (pf xs sz 200 0 0 pf_z)) hx (show pm_fetch mk_74 8 = some (.invokevirtual 84, 3, 32, 0, 305) from rfl) rfl rfl rfl (fun v hv => by simp only [List.mem_cons, List.not_mem_nil, or_false] at hv; rcases hv with rfl <;> rfl) hct (show pm_cl[5]? = some _ from rfl) rfl (Nat.le_of_ble_eq_true rfl) (Nat.le_of_ble_eq_true rfl) (Nat.le_of_ble_eq_true rfl) (Nat.le_of_ble_eq_true rfl) (pc_all v hr hw2 hw43 hT hn h1 h8 hw) (fun r w' q => by obtain ⟨g', -, q, -⟩ := q; rw [← q.1, ← hw.1]) (fun r w' q => ?_)
  obtain ⟨g', n1, w1, k1, ⟨x, rfl, hx9⟩, p1⟩ := q
  show pm_Good sc mm_74 11 [(0, .ref 0)] [.int x] w' 0 0 _
  have rng := pf_rng (xs := xs) (sz := sz) 200 0 0 pf_z (Int.le_refl _) ⟨by decide, by decide⟩
  by_cases h4 : (pf xs sz 200 0 0 pf_z).1 = -4
  · obtain ⟨e1, ⟨zb, eb, eb2⟩, e3⟩ := p1 h4
    have ex : x = -4 := Int32.toInt_inj.mp (by rw [hx9, h4, ly_m4])
    subst ex
    obtain ⟨fd, pe, d1, d2, d3⟩ := ly_x1 w1 e1
    by_cases h0 : (pf xs sz 200 0 0 pf_z).2.1 = 0
    · obtain ⟨gs, a0, a1, a2⟩ := ly_x0 w1
      have ep : pe = 0 := Int32.toInt_inj.mp (by rw [d3, h0]; rfl)
      subst ep
      refine pm_op_ok (i := .bipush (-4)) (st' := [.int (-4), .int (-4)]) (pe_d hx (show pm_fetch mk_74 11 = some (.bipush (-4), 2, 0, 0, 0) from rfl)) rfl ?_
      refine wy_ne (off := 13) (pe_d hx (show pm_fetch mk_74 13 = some (.if_icmp .ne 13, 3, 0, 0, 0) from rfl)) (by decide) (fun h => absurd rfl h) (fun _ => ?_)
      refine pm_ld_ok (i := .aload_n 0) (x := 0) (k := 2) (n := 1) (v := .ref 0) (pe_d hx (show pm_fetch mk_74 16 = some (.aload_n 0, 1, 0, 0, 0) from rfl)) rfl rfl rfl ?_
      refine pe_getf hx (show pm_fetch mk_74 17 = some (.getfield 23, 3, 7, 2, 378) from rfl) (by decide) a0 a2 ?_
      refine pe_getf hx (show pm_fetch mk_74 20 = some (.getfield 91, 3, 6, 4, 110) from rfl) (by decide) d1 d2 ?_
      refine pm_br (c := .ne) (off := 6) (x := 0) (pe_d hx (show pm_fetch mk_74 23 = some (.ifCond .ne 6, 3, 0, 0, 0) from rfl)) (by decide) (fun q => absurd q (by decide)) (fun _ => ?_)
      show pm_Good sc mm_74 26 _ [] w' 0 0 _
      refine pm_op_ok (i := .bipush (-2)) (st' := [.int (-2)]) (pe_d hx (show pm_fetch mk_74 26 = some (.bipush (-2), 2, 0, 0, 0) from rfl)) rfl ?_
      exact pm_iret (ty := .int) (pe_d hx (show pm_fetch mk_74 28 = some (.ireturn, 1, 0, 0, 0) from rfl)) rfl rfl ⟨⟨_, rfl⟩, Or.inl ⟨fun q => q.2 h0, g', n1, ly_self w1, k1, fun q hq => ly_same w1 hq⟩⟩
    · have hrun := ly_r v
      rw [sx_runF_eq] at hrun
      obtain ⟨as, bs, hka, hkb, hK⟩ := id e3
      have hs := ly_self w1
      obtain ⟨ca, hca, hra⟩ := sx_w_get hs (pi_c9 v).1
      rw [hka] at hca
      cases hca
      have hs2 := sx_w_setA hs hka (a := .inl (0, 20, true, [])) ⟨rfl, hra.2.1, fun _ => hka, (fun q => by cases q), (fun q hq => by cases hq)⟩
      obtain ⟨cb, hcb, hrb⟩ := sx_w_get hs (pi_c9 v).2
      rw [hkb] at hcb
      cases hcb
      have hs3 : sx_w w' g' (ly_w v) w' := sx_w_setA hs2 hkb (a := .inl (0, 20, true, [])) ⟨rfl, hrb.2.1, fun _ => hkb, (fun q => by cases q), (fun q hq => by cases hq)⟩
      have hps : 7 ≤ pi_ps v ∧ pi_ps v < 44 := by cases v <;> decide
      have hn2 : sx_n g' 44 ((pi_ps v, 1, 5) :: (pi_bn v, 0, 9) :: lh_f v) := ⟨n1.1, n1.2.1, fun q hq => by
        rcases List.mem_cons.mp hq with rfl | hq
        · exact ⟨_, e1, by simp only; omega, by simp only; omega⟩
        rcases List.mem_cons.mp hq with rfl | hq
        · exact ⟨_, eb, eb2⟩
        · exact n1.2.2 q hq⟩
      have g'1 : g'[1]? = some (-1) := by rw [k1 1 (by omega) (by cases v <;> rfl)]; exact h1
      refine sx_run_ok (lo_O1 (Ψ := lo_tr) (w0 := w')) 100000 (mm_74, 0, 0, mk_74) _ _ _ _ _ _ _ _ _ _ _ _ g' g' _ _ w' _ hrun hx ⟨Or.inl ⟨-1, g'1, by decide⟩, g', List.prefix_rfl, trivial⟩ List.prefix_rfl ⟨hn2, ⟨⟨rfl, rfl⟩, trivial⟩, ⟨⟨0, -4, n1.2.1, rfl, by rw [ly_m4]; rfl⟩, trivial⟩, hs3⟩ (fun h hh => by cases hh) (fun gE oo r w2 hp hk hmo => ?_)
      unfold ly_k at hk
      simp only [Bool.and_eq_true] at hk
      obtain ⟨ki, hk⟩ := hk
      obtain ⟨m1, m2, m3⟩ := hmo
      cases hq : sx_rho [] oo.2.2.2 (lh_v (!v)) with
      | none => rw [hq] at hk; cases hk
      | some q =>
        rw [hq] at hk
        simp only [Bool.and_eq_true, decide_eq_true_eq] at hk
        obtain ⟨q1, q2, q3, c0, c1, c2, c3, c4, c5, c6⟩ := hk
        obtain ⟨hN, hW, lo, hi⟩ := ly_gg (hp.length_le) n1.1 m1 m3 q1 q2 (Nat.eq_of_beq_eq_true q3)
        have e9 : ∀ j z, g'[j]? = some z → gE[j]? = some z := fun j z h => sx_get_pre hp h
        have eg : ∀ j, j < 44 → gE[j]? = g'[j]? := fun j hj => by
          have h9 := List.getElem?_eq_getElem (show j < g'.length by rw [n1.1]; exact hj)
          rw [h9]
          exact e9 j _ h9
        have z0 : gE[0]? = some 0 := e9 0 0 n1.2.1
        have kk : ∀ j, j < 44 → pi_kp v j = true → gE[j]? = g[j]? := fun j hj hk => by rw [eg j hj]; exact k1 j hj hk
        have hv0 : ∀ j, j < 44 → (gE[j]?).getD 0 + 0 = (gE[j]?).getD 0 := fun j _ => by omega
        refine ⟨ly_int m2 ki, Or.inr ⟨⟨h4, h0⟩, sx_gg gE 7 q, hN, ly_self hW, fun j hj => ?_, ?_, ?_, ?_, ?_, ?_, ?_, fun q9 hq9 => ?_, as, bs, ?_, ?_, hK⟩⟩
        · by_cases h7 : j < 7
          · rw [lo j h7]
            exact kk j (by omega) (by have : j = 0 ∨ j = 1 ∨ j = 2 ∨ j = 3 ∨ j = 4 ∨ j = 5 ∨ j = 6 := by omega
                                      rcases this with rfl | rfl | rfl | rfl | rfl | rfl | rfl <;> cases v <;> rfl)
          · have : j = 7 := by omega
            subst this
            rw [hi 7 _ _ (by omega) c0 (kk 7 (by omega) (by cases v <;> rfl) ▸ h8), h8]
            simp
        · rw [hi 8 _ _ (by omega) c1 (e9 _ _ e1)]; simp
        · rw [hi 9 _ _ (by omega) c2 z0]; rfl
        · rw [hi 27 _ _ (by omega) c3 z0]; rfl
        · obtain ⟨z, hz, -⟩ := ly_rg hn (j := 39) (by omega) (by omega)
          rw [hi 39 _ _ (by omega) c4 ((kk 39 (by omega) (by cases v <;> rfl)).trans hz), hz]; simp
        · obtain ⟨z, hz, -⟩ := ly_rg hn (j := 40) (by omega) (by omega)
          rw [hi 40 _ _ (by omega) c5 ((kk 40 (by omega) (by cases v <;> rfl)).trans hz), hz]; simp
        · obtain ⟨z, hz, -⟩ := ly_rg hn (j := 42) (by omega) (by omega)
          rw [hi 42 _ _ (by omega) c6 ((kk 42 (by omega) (by cases v <;> rfl)).trans hz), hz]; simp
        · rw [ly_same hW (ly_uQ (!v) q9 hq9), ly_same w1 (ly_uQ v q9 hq9)]
        · rw [ly_same hW (ly_tw v).1]; exact hka
        · rw [ly_same hW (ly_tw v).2]; exact hkb
  · refine pm_op_ok (i := .bipush (-4)) (st' := [.int (-4), .int x]) (pe_d hx (show pm_fetch mk_74 11 = some (.bipush (-4), 2, 0, 0, 0) from rfl)) rfl ?_
    refine wy_ne (off := 13) (pe_d hx (show pm_fetch mk_74 13 = some (.if_icmp .ne 13, 3, 0, 0, 0) from rfl)) (by decide) (fun _ => ?_) (fun h => absurd (by rw [← hx9, h, ly_m4]) h4)
    show pm_Good sc mm_74 26 _ [] w' 0 0 _
    refine pm_op_ok (i := .bipush (-2)) (st' := [.int (-2)]) (pe_d hx (show pm_fetch mk_74 26 = some (.bipush (-2), 2, 0, 0, 0) from rfl)) rfl ?_
    exact pm_iret (ty := .int) (pe_d hx (show pm_fetch mk_74 28 = some (.ireturn, 1, 0, 0, 0) from rfl)) rfl rfl ⟨⟨_, rfl⟩, Or.inl ⟨fun q => h4 q.1, g', n1, ly_self w1, k1, fun q hq => ly_same w1 hq⟩⟩
theorem ly_141 (v : Bool) (hr : ∀ p : Int, 0 ≤ p ∧ p ≤ 5 → pj_r v p = true) (hw2 : w[2]? = some (.inl (1, xs))) (hw43 : w[43]? = some (.inl (0, ys))) (hT : pz_T xs ys sz) (hn : sx_n g 44 (lh_f v)) (h1 : g[1]? = some (-1)) (h8 : g[7]? = some sz) (hw : sx_w w g (lh_u v) w) : pm_GoodM sc mm_141 [.ref 42] w (fun r w1 => (∃ x, r = some (.int x)) ∧ ly_F v pj_kp g w w1) := by
  have hx : pm_kb mm_141 mk_141 = true := (pm_mt_ok (j := 141) (x := (mm_141, 0, 0, mk_141)) rfl).2
  unfold pm_GoodM
  show pm_Good sc mm_141 0 [(0, .ref 42)] [] w 0 0 _
  refine pm_ld_ok (i := .aload_n 0) (x := 0) (k := 2) (n := 1) (v := .ref 42) (pe_d hx (show pm_fetch mk_141 0 = some (.aload_n 0, 1, 0, 0, 0) from rfl)) rfl rfl rfl ?_
  obtain ⟨ct, hct, hrt⟩ := sx_w_get hw (pd_t v)
  obtain ⟨ft, rfl, -⟩ := sx_rc_o hrt
  refine pe_callV (y := (mm_140, 0, 0, mk_140)) (As := []) (rest := []) (P1 := pd_P w v g (pf xs sz 200 0 0 pf_y)) hx (show pm_fetch mk_141 1 = some (.invokevirtual 97, 3, 140, 0, 828) from rfl) rfl rfl rfl (fun v hv => by cases hv) hct (show pm_cl[8]? = some _ from rfl) rfl (Nat.le_of_ble_eq_true rfl) (Nat.le_of_ble_eq_true rfl) (Nat.le_of_ble_eq_true rfl) (Nat.le_of_ble_eq_true rfl) (pd_all v hr hw2 hw43 hT hn h1 h8 hw) (fun r w' q => by obtain ⟨g', -, q, -⟩ := q; rw [← q.1, ← hw.1]) (fun r w' q => ?_)
  obtain ⟨g', n1, w1, k1, ⟨x, rfl, hx9⟩, p1⟩ := q
  show pm_Good sc mm_141 4 [(0, .ref 42)] [.int x] w' 0 0 _
  exact pm_iret (ty := .int) (pe_d hx (show pm_fetch mk_141 4 = some (.ireturn, 1, 0, 0, 0) from rfl)) rfl rfl ⟨⟨x, rfl⟩, g', n1, ly_self w1, k1, fun q hq => ly_same w1 hq⟩
theorem ly_152 (v : Bool) (hr : ∀ p : Int, 0 ≤ p ∧ p ≤ 5 → pj_r v p = true) (hw2 : w[2]? = some (.inl (1, xs))) (hw43 : w[43]? = some (.inl (0, ys))) (hT : pz_T xs ys sz) (hn : sx_n g 44 (lh_f v)) (h1 : g[1]? = some (-1)) (h8 : g[7]? = some sz) (hw : sx_w w g (lh_u v) w) : pm_GoodM sc mm_152 [.ref 42] w (fun r w1 => (∃ x, r = some (.int x)) ∧ ((¬ ly_Y xs sz ∧ ly_F v pj_kp g w w1) ∨ (ly_Y xs sz ∧ ly_T v g w (pf xs sz 200 0 0 pf_z).2.1 (pf xs sz 200 0 0 pf_y).2.2 w1))) := by
  have hx : pm_kb mm_152 mk_152 = true := (pm_mt_ok (j := 152) (x := (mm_152, 0, 0, mk_152)) rfl).2
  unfold pm_GoodM
  show pm_Good sc mm_152 0 [(0, .ref 42)] [] w 0 0 _
  refine pm_ld_ok (i := .aload_n 0) (x := 0) (k := 2) (n := 1) (v := .ref 42) (pe_d hx (show pm_fetch mk_152 0 = some (.aload_n 0, 1, 0, 0, 0) from rfl)) rfl rfl rfl ?_
  obtain ⟨ct, hct, hrt⟩ := sx_w_get hw (pd_t v)
  obtain ⟨ft, rfl, -⟩ := sx_rc_o hrt
  refine pe_callV (y := (mm_140, 0, 0, mk_140)) (As := []) (rest := []) (P1 := pd_P w v g (pf xs sz 200 0 0 pf_y)) hx (show pm_fetch mk_152 1 = some (.invokevirtual 97, 3, 140, 0, 828) from rfl) rfl rfl rfl (fun v hv => by cases hv) hct (show pm_cl[8]? = some _ from rfl) rfl (Nat.le_of_ble_eq_true rfl) (Nat.le_of_ble_eq_true rfl) (Nat.le_of_ble_eq_true rfl) (Nat.le_of_ble_eq_true rfl) (pd_all v hr hw2 hw43 hT hn h1 h8 hw) (fun r w' q => by obtain ⟨g', -, q, -⟩ := q; rw [← q.1, ← hw.1]) (fun r w' q => ?_)
  obtain ⟨g', n1, w1, k1, ⟨x, rfl, hx9⟩, p1⟩ := q
  show pm_Good sc mm_152 4 [(0, .ref 42)] [.int x] w' 0 0 _
  have rng := pf_rng (xs := xs) (sz := sz) 200 0 0 pf_z (Int.le_refl _) ⟨by decide, by decide⟩
  obtain ⟨eR1, eR2, -⟩ := pf_RR (xs := xs) (sz := sz) 200 0 0 pf_z pf_y ⟨by decide, by decide⟩ pf_R0
  by_cases h4 : (pf xs sz 200 0 0 pf_z).1 = -4
  · obtain ⟨e1, e3⟩ := p1 (by rw [eR1]; exact h4)
    rw [eR2] at e1
    have ex : x = -4 := Int32.toInt_inj.mp (by rw [hx9, eR1, h4, ly_m4])
    subst ex
    obtain ⟨cd, hcd, hrd⟩ := sx_w_get w1 (pj_c9 v)
    obtain ⟨ds, rfl, l50, -, -, s45⟩ := sx_rc_a hrd
    have l50 : ds.length = 50 := l50
    have hcd : w'[45]? = some (.inl (0, ds)) := hcd
    by_cases h0 : (pf xs sz 200 0 0 pf_z).2.1 = 0
    · obtain ⟨p9, p91, z9, y9, u1, u2, u3⟩ := s45 _ List.mem_cons_self
      simp only at p91 u1 u3
      rw [e1, h0] at u1
      cases u1
      cases u2
      have ep : p9 = 0 := Int32.toInt_inj.mp (by rw [u3]; rfl)
      subst ep
      obtain ⟨cm, hcm, hrm⟩ := sx_w_get w1 (pd_t v)
      obtain ⟨fm, rfl, hfm⟩ := sx_rc_o hrm
      obtain ⟨a3, b3, c3⟩ := sx_f2_get hfm (k := 3) (a := .inr (.ref 45)) rfl
      have c3 : a3 = .ref 45 := c3
      subst c3
      refine pm_op_ok (i := .bipush (-4)) (st' := [.int (-4), .int (-4)]) (pe_d hx (show pm_fetch mk_152 4 = some (.bipush (-4), 2, 0, 0, 0) from rfl)) rfl ?_
      refine wy_ne (off := 12) (pe_d hx (show pm_fetch mk_152 6 = some (.if_icmp .ne 12, 3, 0, 0, 0) from rfl)) (by decide) (fun h => absurd rfl h) (fun _ => ?_)
      refine pm_ld_ok (i := .aload_n 0) (x := 0) (k := 2) (n := 1) (v := .ref 42) (pe_d hx (show pm_fetch mk_152 9 = some (.aload_n 0, 1, 0, 0, 0) from rfl)) rfl rfl rfl ?_
      refine pe_getf hx (show pm_fetch mk_152 10 = some (.getfield 16, 3, 8, 3, 776) from rfl) (by decide) hcm b3 ?_
      refine pm_op_ok (i := .iconst 0) (st' := [.int 0, .ref 45]) (pe_d hx (show pm_fetch mk_152 13 = some (.iconst 0, 1, 0, 0, 0) from rfl)) rfl ?_
      refine wy_ld (k := 0) (pe_d hx (show pm_fetch mk_152 14 = some (.iaload, 1, 0, 0, 0) from rfl)) hcd (by omega) (by omega) ?_
      refine wy_eq (y := 0) (by rw [List.getD_eq_getElem?_getD, p91]; rfl) ?_
      refine pm_br (c := .ne) (off := 6) (x := 0) (pe_d hx (show pm_fetch mk_152 15 = some (.ifCond .ne 6, 3, 0, 0, 0) from rfl)) (by decide) (fun q => absurd q (by decide)) (fun _ => ?_)
      show pm_Good sc mm_152 18 _ [] w' 0 0 _
      refine pm_op_ok (i := .bipush (-2)) (st' := [.int (-2)]) (pe_d hx (show pm_fetch mk_152 18 = some (.bipush (-2), 2, 0, 0, 0) from rfl)) rfl ?_
      exact pm_iret (ty := .int) (pe_d hx (show pm_fetch mk_152 20 = some (.ireturn, 1, 0, 0, 0) from rfl)) rfl rfl ⟨⟨_, rfl⟩, Or.inl ⟨fun q => q.2 h0, g', n1, ly_self w1, k1, fun q hq => ly_same w1 hq⟩⟩
    · have hrun := ly_s v
      rw [sx_runF_eq] at hrun
      obtain ⟨as, bs, hka, hkb, hK⟩ := id e3
      rw [hcd] at hka hkb
      cases hka
      cases hkb
      have hs := ly_self w1
      have hGl : (g' ++ ly_ks (pf xs sz 200 0 0 pf_y).2.2).length = 84 := by rw [List.length_append, n1.1]; unfold ly_ks; rw [List.length_map, List.length_range]
      have hpre : g' <+: g' ++ ly_ks (pf xs sz 200 0 0 pf_y).2.2 := List.prefix_append _ _
      have hGk : ∀ j : Nat, j < 40 → (g' ++ ly_ks (pf xs sz 200 0 0 pf_y).2.2)[44 + j]? = some ((pf xs sz 200 0 0 pf_y).2.2 j) := fun j hj => by
        rw [List.getElem?_append_right (by rw [n1.1]; omega), n1.1, show 44 + j - 44 = j by omega]
        unfold ly_ks
        rw [List.getElem?_map, List.getElem?_range hj]
        rfl
      have hs3 : sx_w w' (g' ++ ly_ks (pf xs sz 200 0 0 pf_y).2.2) (ly_v v) w' := by
        refine sx_w_setA (sx_w_pre hpre hs) hcd ⟨rfl, l50, (fun q => by cases q), (fun q => by cases q), fun s hs9 => ?_⟩
        rcases List.mem_cons.mp hs9 with rfl | hs9
        · obtain ⟨p9, p91, p92⟩ := s45 _ List.mem_cons_self
          exact ⟨p9, p91, sx_r_pre hpre p92⟩
        · rcases List.mem_append.mp hs9 with hs9 | hs9
          · obtain ⟨j, hj, rfl⟩ := List.mem_map.mp hs9
            have hj := List.mem_range.mp hj
            refine ⟨ds[10 + j], by rw [List.getElem?_eq_getElem], pz_s_ok (hGk j (by omega)) ?_⟩
            rw [← (hK j hj).1, List.getD_eq_getElem?_getD, List.getElem?_eq_getElem (show 10 + j < ds.length by omega)]
            rfl
          · obtain ⟨j, hj, rfl⟩ := List.mem_map.mp hs9
            have hj := List.mem_range.mp hj
            refine ⟨ds[30 + j], by rw [List.getElem?_eq_getElem], pz_s_ok ((by rw [show 64 + j = 44 + (20 + j) by omega]; exact hGk (20 + j) (by omega))) ?_⟩
            rw [← (hK j hj).2, List.getD_eq_getElem?_getD, List.getElem?_eq_getElem (show 30 + j < ds.length by omega)]
            rfl
      have hn2 : sx_n (g' ++ ly_ks (pf xs sz 200 0 0 pf_y).2.2) 84 ((43, 1, 5) :: lh_f v) := ⟨hGl, sx_get_pre hpre n1.2.1, fun q hq => by
        rcases List.mem_cons.mp hq with rfl | hq
        · exact ⟨_, sx_get_pre hpre e1, by simp only; omega, by simp only; omega⟩
        · obtain ⟨z, z1, z2⟩ := n1.2.2 q hq
          exact ⟨z, sx_get_pre hpre z1, z2⟩⟩
      have g'1 : (g' ++ ly_ks (pf xs sz 200 0 0 pf_y).2.2)[1]? = some (-1) := sx_get_pre hpre (by rw [k1 1 (by omega) rfl]; exact h1)
      refine sx_run_ok (lo_O1 (Ψ := lo_tr) (w0 := w')) 100000 (mm_152, 0, 0, mk_152) _ _ _ _ _ _ _ _ _ _ _ _ _ _ _ _ w' _ hrun hx ⟨Or.inl ⟨-1, g'1, by decide⟩, _, List.prefix_rfl, trivial⟩ List.prefix_rfl ⟨hn2, ⟨⟨rfl, rfl⟩, trivial⟩, ⟨⟨0, -4, sx_get_pre hpre n1.2.1, rfl, by rw [ly_m4]; rfl⟩, trivial⟩, hs3⟩ (fun h hh => by cases hh) (fun gE oo r w2 hp hk hmo => ?_)
      unfold ly_l at hk
      simp only [Bool.and_eq_true] at hk
      obtain ⟨ki, hk⟩ := hk
      obtain ⟨m1, m2, m3⟩ := hmo
      cases hq : sx_rho [] oo.2.2.2 (lh_v v) with
      | none => rw [hq] at hk; cases hk
      | some q =>
        rw [hq] at hk
        simp only [Bool.and_eq_true, decide_eq_true_eq] at hk
        obtain ⟨q1, q2, q3, ⟨c0, c1, c2, c3, c4, c5, c6⟩, qt⟩ := hk
        have hlen : g'.length ≤ gE.length := Nat.le_trans hpre.length_le hp.length_le
        obtain ⟨hN, hW, lo, hi⟩ := ly_gg hlen n1.1 m1 m3 q1 q2 (Nat.eq_of_beq_eq_true q3)
        have e9 : ∀ j z, g'[j]? = some z → gE[j]? = some z := fun j z h => sx_get_pre hp (sx_get_pre hpre h)
        have eg : ∀ j, j < 44 → gE[j]? = g'[j]? := fun j hj => by
          have h9 := List.getElem?_eq_getElem (show j < g'.length by rw [n1.1]; exact hj)
          rw [h9]
          exact e9 j _ h9
        have z0 : gE[0]? = some 0 := e9 0 0 n1.2.1
        have kk : ∀ j, j < 44 → pj_kp j = true → gE[j]? = g[j]? := fun j hj hk => by rw [eg j hj]; exact k1 j hj hk
        have hold : ∀ (j : Nat) (b : Nat × Int), 7 ≤ j → j < 44 → pj_kp j = true → b = (j, 0) → q[j - 7]? = some b → (sx_gg gE 7 q)[j]? = g[j]? := fun j b h7 hj hk hb hq9 => by
          subst hb
          obtain ⟨z, hz, -⟩ := ly_rg hn h7 hj
          rw [hi j _ _ h7 hq9 ((kk j hj hk).trans hz), hz]
          simp
        obtain ⟨ct9, hT9, hT8⟩ := ly_told m3 qt (fun j hj => sx_get_pre hp (hGk j hj))
        refine ⟨ly_int m2 ki, Or.inr ⟨⟨h4, h0⟩, sx_gg gE 7 q, hN, ?_, fun j hj => ?_, ?_, ?_, ?_, ?_, fun q9 hq9 hne => ?_, ct9, ct9, hT9, hT9, hT8⟩⟩
        · have hW2 := ly_self hW
          have ht := sx_w_get hW2 (ly_x44 v)
          obtain ⟨c9, hc9, hr9⟩ := ht
          rw [hT9] at hc9
          cases hc9
          have h5 := sx_w_setA hW2 hT9 (a := .inl (0, 50, true, [(0, .inl (42, 0))])) ⟨rfl, hr9.2.1, fun _ => hT9, (fun q => by cases q), hr9.2.2.2.2⟩
          rw [ly_xu] at h5
          exact h5
        · by_cases h7 : j < 7
          · rw [lo j h7]
            exact kk j (by omega) (by have : j = 0 ∨ j = 1 ∨ j = 2 ∨ j = 3 ∨ j = 4 ∨ j = 5 ∨ j = 6 := by omega
                                      rcases this with rfl | rfl | rfl | rfl | rfl | rfl | rfl <;> rfl)
          · have : j = 7 ∨ j = 8 ∨ j = 9 := by omega
            rcases this with rfl | rfl | rfl
            · exact hold 7 _ (by omega) (by omega) rfl rfl c0
            · exact hold 8 _ (by omega) (by omega) rfl rfl c1
            · exact hold 9 _ (by omega) (by omega) rfl rfl c2
        · exact hold 27 _ (by omega) (by omega) rfl rfl c3
        · rw [hi 39 _ _ (by omega) c4 z0]; rfl
        · rw [hi 40 _ _ (by omega) c5 z0]; rfl
        · rw [hi 42 _ _ (by omega) c6 (e9 _ _ e1)]; simp
        · rw [ly_same hW (ly_xf v hq9 hne), ly_same w1 hq9]
  · refine pm_op_ok (i := .bipush (-4)) (st' := [.int (-4), .int x]) (pe_d hx (show pm_fetch mk_152 4 = some (.bipush (-4), 2, 0, 0, 0) from rfl)) rfl ?_
    refine wy_ne (off := 12) (pe_d hx (show pm_fetch mk_152 6 = some (.if_icmp .ne 12, 3, 0, 0, 0) from rfl)) (by decide) (fun _ => ?_) (fun h => absurd (by rw [← eR1, ← hx9, h, ly_m4]) h4)
    show pm_Good sc mm_152 18 _ [] w' 0 0 _
    refine pm_op_ok (i := .bipush (-2)) (st' := [.int (-2)]) (pe_d hx (show pm_fetch mk_152 18 = some (.bipush (-2), 2, 0, 0, 0) from rfl)) rfl ?_
    exact pm_iret (ty := .int) (pe_d hx (show pm_fetch mk_152 20 = some (.ireturn, 1, 0, 0, 0) from rfl)) rfl rfl ⟨⟨_, rfl⟩, Or.inl ⟨fun q => h4 q.1, g', n1, ly_self w1, k1, fun q hq => ly_same w1 hq⟩⟩
end LY
