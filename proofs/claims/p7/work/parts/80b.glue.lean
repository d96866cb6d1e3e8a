/-! write: a letter more on both sides -/
theorem lw_t1 (v : Bool) : (lh_w v)[1]? = some (.inr (5, [.inr (.ref 2), .inr (.ref 3), .inl (7, 0), .inl (10, 0)])) := by cases v <;> rfl
theorem lw_t42 (v : Bool) : (lh_w v)[42]? = some (.inr (8, [.inr (.ref 43), .inl (7, 0), .inr (.ref 44), .inr (.ref 45), .inr (.ref 46), .inr (.ref 47), .inr (.ref 48), .inl (38, 0), .inr (.ref 49), .inl (9, 0), .inr (.ref 50), .inl (27, 0), .inl (41, 0), .inr (.ref 51)])) := by cases v <;> rfl
theorem lw_t0 (v : Bool) : ∃ l, (lh_w v)[0]? = some (.inr (7, .inr (.ref 1) :: l)) := by cases v <;> exact ⟨_, rfl⟩
theorem lw_f44 (v : Bool) : ∃ a : sx_A, (lh_w v)[44]? = some (.inl a) ∧ a.2.2.1 = true := by cases v <;> exact ⟨_, rfl, rfl⟩
theorem lw_ftq (v : Bool) : ∃ a : sx_A, (lh_w v)[px_tq v]? = some (.inl a) ∧ a.2.2.1 = true := by cases v <;> exact ⟨_, rfl, rfl⟩
theorem lw_nq (v : Bool) : px_tq v ≠ 1 ∧ px_tq v ≠ 2 ∧ px_tq v ≠ 42 ∧ px_tq v ≠ 43 := by cases v <;> decide
theorem lw_fl (v : Bool) : pz_fl (lh_w v) 43 0 = true ∧ pz_fl (lh_w v) 2 1 = true := by cases v <;> decide +kernel
theorem li_self {w0 : pm_W} {g : List Int} {aw : List sx_C} {w : pm_W} (hw : sx_w w0 g aw w) : sx_w w g aw w := by
  refine ⟨hw.1, fun q a c h1 h2 => ?_⟩
  have h3 := hw.2 q a c h1 h2
  cases a with
  | inl a =>
    cases c with
    | inl c =>
      obtain ⟨c1, c2, c3, c4⟩ := h3
      exact ⟨c1, c2, fun _ => h2, c4⟩
    | inr c => cases h3
  | inr a =>
    cases c with
    | inl c => cases h3
    | inr c => exact h3
def li_A0 (v : Bool) : List sx_C := ((((lh_w v).set 1 (.inr (5, []))).set 42 (.inr (8, []))).set 2 (.inl (1, 200, false, []))).set 43 (.inl (0, 200, false, []))
theorem li_A1 (v : Bool) : lo_w li_o7 (li_A0 v) = true := by cases v <;> decide +kernel
theorem li_A2 (v : Bool) : (((((li_A0 v).set 1 (.inr (5, [.inr (.ref 2), .inr (.ref 3), .inl (7, 0), .inl (10, 0)]))).set 42 (.inr (8, [.inr (.ref 43), .inl (7, 0), .inr (.ref 44), .inr (.ref 45), .inr (.ref 46), .inr (.ref 47), .inr (.ref 48), .inl (38, 0), .inr (.ref 49), .inl (9, 0), .inr (.ref 50), .inl (27, 0), .inl (41, 0), .inr (.ref 51)]))).set 2 (.inl (1, 200, true, []))).set 43 (.inl (0, 200, true, []))) = lh_w v := by cases v <;> rfl
theorem li_chs {xs : List Int32} (h : sx_ch xs) {i : Nat} {c : Int32} (hc : 0 ≤ c.toInt ∧ c.toInt ≤ 65535) : sx_ch (xs.set i c) := fun x hx => by
  rcases List.mem_or_eq_of_mem_set hx with h1 | h1
  · exact h x h1
  · rw [h1]
    exact hc
theorem li_wn {v : Bool} {w0 : pm_W} {g : List Int} {w : pm_W} {xs ys : List Int32} {s nx c : Int32} {m7 m9 m11 m12 : Value} {sz : Int} (hgl : g.length = 44) (hw : sx_w w0 g (lh_w v) w) (t1 : w[1]? = some (.inr (5, [.ref 2, .ref 3, .int s, .int nx]))) (t42 : w[42]? = some (.inr (8, [.ref 43, .int s, .ref 44, .ref 45, .ref 46, .ref 47, .ref 48, m7, .ref 49, m9, .ref 50, m11, m12, .ref 51]))) (hxl : xs.length = 200) (hyl : ys.length = 200) (hch : sx_ch xs) (hs : s.toInt = sz) (hsz : 0 ≤ sz ∧ sz < 200) (hc : 0 ≤ c.toInt ∧ c.toInt ≤ 65535) : sx_w ((((w.set 2 (.inl (1, xs.set s.toNatClampNeg c))).set 1 (.inr (5, [.ref 2, .ref 3, .int (s + 1), .int nx]))).set 43 (.inl (0, ys.set s.toNatClampNeg c))).set 42 (.inr (8, [.ref 43, .int (s + 1), .ref 44, .ref 45, .ref 46, .ref 47, .ref 48, m7, .ref 49, m9, .ref 50, m11, m12, .ref 51]))) (g.set 7 (sz + 1)) (lh_w v) ((((w.set 2 (.inl (1, xs.set s.toNatClampNeg c))).set 1 (.inr (5, [.ref 2, .ref 3, .int (s + 1), .int nx]))).set 43 (.inl (0, ys.set s.toNatClampNeg c))).set 42 (.inr (8, [.ref 43, .int (s + 1), .ref 44, .ref 45, .ref 46, .ref 47, .ref 48, m7, .ref 49, m9, .ref 50, m11, m12, .ref 51]))) := by
  have hlen : 44 ≤ w.length := by
    have := hw.1
    have h9 : (lh_w v).length = 52 := by cases v <;> rfl
    omega
  have e1 : (s + 1).toInt = sz + 1 := by rw [pl_p1 (by omega) (by omega), hs]
  have hg : ∀ j, j ≠ 7 → (g.set 7 (sz + 1))[j]? = g[j]? := fun j hj => List.getElem?_set_ne (fun e => hj e.symm)
  have h7 : (g.set 7 (sz + 1))[7]? = some (sz + 1) := List.getElem?_set_self (by omega)
  have tr : ∀ {j : Nat} {x : Value}, j ≠ 7 → sx_r g (.inl (j, 0)) x → sx_r (g.set 7 (sz + 1)) (.inl (j, 0)) x := fun hj ⟨z, y, y1, y2, y3⟩ => ⟨z, y, by rw [hg _ hj]; exact y1, y2, y3⟩
  obtain ⟨c1, hc1, hr1⟩ := sx_w_get hw (lw_t1 v)
  rw [t1] at hc1
  cases hc1
  obtain ⟨-, -, -, -, a4, -⟩ := hr1
  obtain ⟨c2, hc2, hr2⟩ := sx_w_get hw (lw_t42 v)
  rw [t42] at hc2
  cases hc2
  obtain ⟨-, -, -, -, -, -, -, -, r8, -, r10, -, r12, r13, -, -⟩ := hr2
  have k2 : sx_rc w0 g 2 (.inl (1, 200, false, [])) (.inl (1, xs.set s.toNatClampNeg c)) := ⟨rfl, by simp only; rw [List.length_set]; exact hxl, (fun q => by cases q), fun _ => li_chs hch hc, (fun q hq => by cases hq)⟩
  have k43 : sx_rc w0 g 43 (.inl (0, 200, false, [])) (.inl (0, ys.set s.toNatClampNeg c)) := ⟨rfl, by simp only; rw [List.length_set]; exact hyl, (fun q => by cases q), (fun q => by cases q), (fun q hq => by cases hq)⟩
  have k1 : sx_rc w0 g 1 (.inr (5, [])) (.inr (5, [])) := ⟨rfl, trivial⟩
  have k42 : sx_rc w0 g 42 (.inr (8, [])) (.inr (8, [])) := ⟨rfl, trivial⟩
  have h1 := sx_w_set (sx_w_set (sx_w_set (sx_w_set hw k1) k42) k2) k43
  have h2 : sx_w w0 (g.set 7 (sz + 1)) (li_A0 v) _ := lo_w_ok (fun j hj => hg j (fun e => by subst e; cases hj)) (li_A1 v) h1
  have n1 : sx_rc w0 (g.set 7 (sz + 1)) 1 (.inr (5, [.inr (.ref 2), .inr (.ref 3), .inl (7, 0), .inl (10, 0)])) (.inr (5, [.ref 2, .ref 3, .int (s + 1), .int nx])) := ⟨rfl, rfl, rfl, pz_s_ok h7 e1, tr (by decide) a4, trivial⟩
  have n42 : sx_rc w0 (g.set 7 (sz + 1)) 42 (.inr (8, [.inr (.ref 43), .inl (7, 0), .inr (.ref 44), .inr (.ref 45), .inr (.ref 46), .inr (.ref 47), .inr (.ref 48), .inl (38, 0), .inr (.ref 49), .inl (9, 0), .inr (.ref 50), .inl (27, 0), .inl (41, 0), .inr (.ref 51)])) (.inr (8, [.ref 43, .int (s + 1), .ref 44, .ref 45, .ref 46, .ref 47, .ref 48, m7, .ref 49, m9, .ref 50, m11, m12, .ref 51])) := ⟨rfl, rfl, pz_s_ok h7 e1, rfl, rfl, rfl, rfl, rfl, tr (by decide) r8, rfl, tr (by decide) r10, rfl, tr (by decide) r12, tr (by decide) r13, rfl, trivial⟩
  have h3 := sx_w_set (sx_w_set h2 n1) n42
  have eW : ((((((w.set 1 (.inr (5, []))).set 42 (.inr (8, []))).set 2 (.inl (1, xs.set s.toNatClampNeg c))).set 43 (.inl (0, ys.set s.toNatClampNeg c))).set 1 (.inr (5, [.ref 2, .ref 3, .int (s + 1), .int nx]))).set 42 (.inr (8, [.ref 43, .int (s + 1), .ref 44, .ref 45, .ref 46, .ref 47, .ref 48, m7, .ref 49, m9, .ref 50, m11, m12, .ref 51]))) = ((((w.set 2 (.inl (1, xs.set s.toNatClampNeg c))).set 1 (.inr (5, [.ref 2, .ref 3, .int (s + 1), .int nx]))).set 43 (.inl (0, ys.set s.toNatClampNeg c))).set 42 (.inr (8, [.ref 43, .int (s + 1), .ref 44, .ref 45, .ref 46, .ref 47, .ref 48, m7, .ref 49, m9, .ref 50, m11, m12, .ref 51]))) := by
    rw [List.set_comm (i := 42) (j := 2) _ _ (by decide), List.set_comm (i := 42) (j := 43) _ _ (by decide), List.set_comm (i := 42) (j := 1) _ _ (by decide), List.set_set, List.set_comm (i := 1) (j := 2) _ _ (by decide), List.set_comm (i := 1) (j := 43) _ _ (by decide), List.set_set, List.set_comm (i := 43) (j := 1) _ _ (by decide)]
  rw [eW] at h3
  have h4 := li_self h3
  have g2 : (((((w.set 2 (.inl (1, xs.set s.toNatClampNeg c))).set 1 (.inr (5, [.ref 2, .ref 3, .int (s + 1), .int nx]))).set 43 (.inl (0, ys.set s.toNatClampNeg c))).set 42 (.inr (8, [.ref 43, .int (s + 1), .ref 44, .ref 45, .ref 46, .ref 47, .ref 48, m7, .ref 49, m9, .ref 50, m11, m12, .ref 51]))))[2]? = some (.inl (1, xs.set s.toNatClampNeg c)) := by
    rw [List.getElem?_set_ne (by decide), List.getElem?_set_ne (by decide), List.getElem?_set_ne (by decide), List.getElem?_set_self (by omega)]
  have g43 : (((((w.set 2 (.inl (1, xs.set s.toNatClampNeg c))).set 1 (.inr (5, [.ref 2, .ref 3, .int (s + 1), .int nx]))).set 43 (.inl (0, ys.set s.toNatClampNeg c))).set 42 (.inr (8, [.ref 43, .int (s + 1), .ref 44, .ref 45, .ref 46, .ref 47, .ref 48, m7, .ref 49, m9, .ref 50, m11, m12, .ref 51]))))[43]? = some (.inl (0, ys.set s.toNatClampNeg c)) := by
    rw [List.getElem?_set_ne (by decide), List.getElem?_set_self (by simp only [List.length_set]; omega)]
  have h5 := sx_w_setA (sx_w_setA h4 g2 (a := .inl (1, 200, true, [])) ⟨rfl, by simp only; rw [List.length_set]; exact hxl, fun _ => g2, fun _ => li_chs hch hc, (fun q hq => by cases hq)⟩) g43 (a := .inl (0, 200, true, [])) ⟨rfl, by simp only; rw [List.length_set]; exact hyl, fun _ => g43, (fun q => by cases q), (fun q hq => by cases hq)⟩
  rw [li_A2 v] at h5
  exact h5
theorem li_Tn {xs ys : List Int32} {sz : Int} {c : Int32} {n : Nat} (h : pz_T xs ys sz) (hn : (n : Int) = sz) (hs : sz < 200) (hc : 32 ≤ c.toInt ∧ c.toInt ≤ 126) : pz_T (xs.set n c) (ys.set n c) (sz + 1) := by
  obtain ⟨a, b, d, e, f, k⟩ := h
  refine ⟨by rw [List.length_set]; exact a, by rw [List.length_set]; exact b, by omega, by omega, li_chs f ⟨by omega, by omega⟩, fun j hj => ?_⟩
  by_cases hjn : j = n
  · subst hjn
    rw [List.getD_eq_getElem?_getD, List.getD_eq_getElem?_getD, List.getElem?_set_self (by omega), List.getElem?_set_self (by omega)]
    exact ⟨rfl, hc⟩
  · have := k j (by omega)
    rw [List.getD_eq_getElem?_getD, List.getD_eq_getElem?_getD, List.getElem?_set_ne (fun e => hjn e.symm), List.getElem?_set_ne (fun e => hjn e.symm), ← List.getD_eq_getElem?_getD, ← List.getD_eq_getElem?_getD]
    exact this
set_option maxHeartbeats 4000000 in
theorem li_wr {sc : pm_Z} {z : Int} (hB : ∀ u, li_B sc z u 1008) (v : Bool) : li_B sc z v 168 := by
  intro w0 g lv w hs hz hT hm
  have hm0 := hm
  obtain ⟨hn, hl, -, hw⟩ := hm
  have hgl : g.length = 44 := hn.1
  obtain ⟨x, rfl, hx⟩ := li_lv hz hl
  obtain ⟨z', b1, b2, b3⟩ := hn.2.2 (1, 0, 395) (List.mem_append_right _ (by decide))
  rw [hz] at b1
  cases b1
  simp only at b2 b3
  have hsl : z + 4 < sc.1 ∧ sc.1 < 2 ^ 31 := by
    rcases hs with ⟨z9, h1, h2⟩ | ⟨i, h1, h2, h3, h4⟩
    · rw [hz] at h1
      cases h1
      omega
    · rw [hz] at h1
      cases h1
      omega
  have ex : (x + 1).toInt = z + 1 := by rw [pl_p1 (by omega) (by omega), hx]
  have hvi : vp_in (x + 1) sc.1 := pl_in (by omega) (by omega)
  obtain ⟨xs, ys, sz, a1, a2, a3, a4, aK⟩ := id hT
  have hw2 := pz_fl_ok hw (lw_fl v).2 a1
  have hw43 := pz_fl_ok hw (lw_fl v).1 a2
  have hT4 := a4.2.2.2.1
  have hT3 := a4.2.2.1
  obtain ⟨l0, hl0⟩ := lw_t0 v
  obtain ⟨cc, hc0, hr0⟩ := sx_w_get hw hl0
  obtain ⟨fs, rfl, hf⟩ := sx_rc_o hr0
  obtain ⟨v1, fs, rfl, r1, -⟩ := sx_f2_cons hf
  have r1 : v1 = .ref 1 := r1
  subst r1
  obtain ⟨cc, hc1, hr1⟩ := sx_w_get hw (lw_t1 v)
  obtain ⟨f1, rfl, hf1⟩ := sx_rc_o hr1
  obtain ⟨v1, m, rfl, r1, hf1⟩ := sx_f2_cons hf1
  obtain ⟨v2, m, rfl, r2, hf1⟩ := sx_f2_cons hf1
  obtain ⟨v3, m, rfl, r3, hf1⟩ := sx_f2_cons hf1
  obtain ⟨v4, m, rfl, r4, hf1⟩ := sx_f2_cons hf1
  cases m with
  | cons _ _ => cases hf1
  | nil =>
  have r1 : v1 = .ref 2 := r1
  have r2 : v2 = .ref 3 := r2
  obtain ⟨z3, s, u1, u2, u3⟩ := r3
  obtain ⟨z4, nx, u4, u5, u6⟩ := r4
  simp only at u1 u3
  rw [a3] at u1
  cases u1
  subst r1 r2 u2 u5
  have hs0 : s.toInt = sz := by omega
  obtain ⟨cc, hc42, hr42⟩ := sx_w_get hw (lw_t42 v)
  obtain ⟨f2, rfl, hf2⟩ := sx_rc_o hr42
  obtain ⟨y1, m, rfl, p1, hf2⟩ := sx_f2_cons hf2
  obtain ⟨y2, m, rfl, p2, hf2⟩ := sx_f2_cons hf2
  obtain ⟨y3, m, rfl, p3, hf2⟩ := sx_f2_cons hf2
  obtain ⟨y4, m, rfl, p4, hf2⟩ := sx_f2_cons hf2
  obtain ⟨y5, m, rfl, p5, hf2⟩ := sx_f2_cons hf2
  obtain ⟨y6, m, rfl, p6, hf2⟩ := sx_f2_cons hf2
  obtain ⟨y7, m, rfl, p7, hf2⟩ := sx_f2_cons hf2
  obtain ⟨y8, m, rfl, p8, hf2⟩ := sx_f2_cons hf2
  obtain ⟨y9, m, rfl, p9, hf2⟩ := sx_f2_cons hf2
  obtain ⟨y10, m, rfl, p10, hf2⟩ := sx_f2_cons hf2
  obtain ⟨y11, m, rfl, p11, hf2⟩ := sx_f2_cons hf2
  obtain ⟨y12, m, rfl, p12, hf2⟩ := sx_f2_cons hf2
  obtain ⟨y13, m, rfl, p13, hf2⟩ := sx_f2_cons hf2
  obtain ⟨y14, m, rfl, p14, hf2⟩ := sx_f2_cons hf2
  cases m with
  | cons _ _ => cases hf2
  | nil =>
  have p1 : y1 = .ref 43 := p1
  have p3 : y3 = .ref 44 := p3
  have p4 : y4 = .ref 45 := p4
  have p5 : y5 = .ref 46 := p5
  have p6 : y6 = .ref 47 := p6
  have p7 : y7 = .ref 48 := p7
  have p9 : y9 = .ref 49 := p9
  have p11 : y11 = .ref 50 := p11
  have p14 : y14 = .ref 51 := p14
  obtain ⟨z5, s9, w1, w2, w3⟩ := p2
  simp only at w1 w3
  rw [a3] at w1
  cases w1
  subst p1 p3 p4 p5 p6 p7 p9 p11 p14 w2
  have es : s = s9 := Int32.toInt_inj.mp (by omega)
  subst es
  generalize hcd : sc.2 (x + 1).toNatClampNeg = c

  by_cases hC : 32 ≤ c.toInt ∧ c.toInt ≤ 126 ∧ s.toInt < 200
  · refine pm_ld_ok (i := .aload_n 1) (x := 1) (k := 2) (n := 1) (v := .ref 0) (pe_d mv_L (show pm_fetch mk_L 168 = some (.aload_n 1, 1, 0, 0, 0) from rfl)) rfl rfl rfl ?_
    refine pm_ld_ok (i := .aload_n 0) (x := 0) (k := 2) (n := 1) (v := .retAddr 3) (pe_d mv_L (show pm_fetch mk_L 169 = some (.aload_n 0, 1, 0, 0, 0) from rfl)) rfl rfl rfl ?_
    refine pm_ld_ok (i := .iload_n 3) (x := 3) (k := 0) (n := 1) (v := .int x) (pe_d mv_L (show pm_fetch mk_L 170 = some (.iload_n 3, 1, 0, 0, 0) from rfl)) rfl rfl rfl ?_
    refine pm_op_ok (i := .iconst 1) (st' := [.int 1, .int x, .retAddr 3, .ref 0]) (pe_d mv_L (show pm_fetch mk_L 171 = some (.iconst 1, 1, 0, 0, 0) from rfl)) rfl ?_
    refine pm_op_ok (i := .iadd) (st' := [.int (x + 1), .retAddr 3, .ref 0]) (pe_d mv_L (show pm_fetch mk_L 172 = some (.iadd, 1, 0, 0, 0) from rfl)) rfl ?_
    refine pm_scd (pe_d mv_L (show pm_fetch mk_L 173 = some (.iaload, 1, 0, 0, 0) from rfl)) hvi ?_
    rw [hcd]
    refine pe_callV (y := (mm_107, 1, 0, mk_107)) (As := [.int c]) (rest := []) (P1 := fun r w' => ∃ xr, r = some (.int xr) ∧ w' = ((w.set 2 (.inl (1, xs.set s.toNatClampNeg c))).set 1 (.inr (5, [.ref 2, .ref 3, .int (s + 1), .int nx])))) mv_L (show pm_fetch mk_L 174 = some (.invokevirtual 13, 3, 107, 0, 408) from rfl) rfl rfl rfl (fun v hv => by simp only [List.mem_cons, List.not_mem_nil, or_false] at hv; rcases hv with rfl <;> rfl) hc0 (show pm_cl[7]? = some _ from rfl) rfl (Nat.le_of_ble_eq_true rfl) (Nat.le_of_ble_eq_true rfl) (Nat.le_of_ble_eq_true rfl) (Nat.le_of_ble_eq_true rfl) (pw_107 hc0 rfl hc1 hw2 a4.1 (by omega) (fun q xr => absurd hC q) (fun q xr => ⟨xr, rfl, rfl⟩)) (fun r w' q => by obtain ⟨xr, -, q⟩ := q; rw [q]; simp only [List.length_set]) (fun r w' q => ?_)
    obtain ⟨xr, rfl, hww⟩ := q
    rw [hww]
    show pm_Good sc mm_L 177 _ [.int xr] ((w.set 2 (.inl (1, xs.set s.toNatClampNeg c))).set 1 (.inr (5, [.ref 2, .ref 3, .int (s + 1), .int nx]))) 52 7858 _
    refine pm_op_ok (i := .pop) (st' := []) (pe_d mv_L (show pm_fetch mk_L 177 = some (.pop, 1, 0, 0, 0) from rfl)) rfl ?_
    refine pm_ld_ok (i := .aload_n 2) (x := 2) (k := 2) (n := 1) (v := .ref 42) (pe_d mv_L (show pm_fetch mk_L 178 = some (.aload_n 2, 1, 0, 0, 0) from rfl)) rfl rfl rfl ?_
    refine pm_ld_ok (i := .aload_n 0) (x := 0) (k := 2) (n := 1) (v := .retAddr 3) (pe_d mv_L (show pm_fetch mk_L 179 = some (.aload_n 0, 1, 0, 0, 0) from rfl)) rfl rfl rfl ?_
    refine pm_ld_ok (i := .iload_n 3) (x := 3) (k := 0) (n := 1) (v := .int x) (pe_d mv_L (show pm_fetch mk_L 180 = some (.iload_n 3, 1, 0, 0, 0) from rfl)) rfl rfl rfl ?_
    refine pm_op_ok (i := .iconst 1) (st' := [.int 1, .int x, .retAddr 3, .ref 42]) (pe_d mv_L (show pm_fetch mk_L 181 = some (.iconst 1, 1, 0, 0, 0) from rfl)) rfl ?_
    refine pm_op_ok (i := .iadd) (st' := [.int (x + 1), .retAddr 3, .ref 42]) (pe_d mv_L (show pm_fetch mk_L 182 = some (.iadd, 1, 0, 0, 0) from rfl)) rfl ?_
    refine pm_scd (pe_d mv_L (show pm_fetch mk_L 183 = some (.iaload, 1, 0, 0, 0) from rfl)) hvi ?_
    rw [hcd]
    have d42 : (((w.set 2 (.inl (1, xs.set s.toNatClampNeg c))).set 1 (.inr (5, [.ref 2, .ref 3, .int (s + 1), .int nx]))))[42]? = some (.inr (8, [.ref 43, .int s, .ref 44, .ref 45, .ref 46, .ref 47, .ref 48, y8, .ref 49, y10, .ref 50, y12, y13, .ref 51])) := by rw [List.getElem?_set_ne (by decide), List.getElem?_set_ne (by decide)]; exact hc42
    have d43 : (((w.set 2 (.inl (1, xs.set s.toNatClampNeg c))).set 1 (.inr (5, [.ref 2, .ref 3, .int (s + 1), .int nx]))))[43]? = some (.inl (0, ys)) := by rw [List.getElem?_set_ne (by decide), List.getElem?_set_ne (by decide)]; exact hw43
    refine pe_callV (y := (mm_169, 1, 0, mk_169)) (As := [.int c]) (rest := []) (P1 := fun r w' => ∃ xr, r = some (.int xr) ∧ w' = ((((w.set 2 (.inl (1, xs.set s.toNatClampNeg c))).set 1 (.inr (5, [.ref 2, .ref 3, .int (s + 1), .int nx]))).set 43 (.inl (0, ys.set s.toNatClampNeg c))).set 42 (.inr (8, [.ref 43, .int (s + 1), .ref 44, .ref 45, .ref 46, .ref 47, .ref 48, y8, .ref 49, y10, .ref 50, y12, y13, .ref 51])))) mv_L (show pm_fetch mk_L 184 = some (.invokevirtual 17, 3, 169, 0, 816) from rfl) rfl rfl rfl (fun v hv => by simp only [List.mem_cons, List.not_mem_nil, or_false] at hv; rcases hv with rfl <;> rfl) d42 (show pm_cl[8]? = some _ from rfl) rfl (Nat.le_of_ble_eq_true rfl) (Nat.le_of_ble_eq_true rfl) (Nat.le_of_ble_eq_true rfl) (Nat.le_of_ble_eq_true rfl) (pw_169 d42 d43 a4.2.1 (by omega) (fun q xr => absurd hC q) (fun q xr => ⟨xr, rfl, rfl⟩)) (fun r w' q => by obtain ⟨xr, -, q⟩ := q; rw [q]; simp only [List.length_set]) (fun r w' q => ?_)
    obtain ⟨xr2, rfl, hww2⟩ := q
    rw [hww2]
    show pm_Good sc mm_L 187 _ [.int xr2] ((((w.set 2 (.inl (1, xs.set s.toNatClampNeg c))).set 1 (.inr (5, [.ref 2, .ref 3, .int (s + 1), .int nx]))).set 43 (.inl (0, ys.set s.toNatClampNeg c))).set 42 (.inr (8, [.ref 43, .int (s + 1), .ref 44, .ref 45, .ref 46, .ref 47, .ref 48, y8, .ref 49, y10, .ref 50, y12, y13, .ref 51]))) 52 7858 _
    refine pm_op_ok (i := .pop) (st' := []) (pe_d mv_L (show pm_fetch mk_L 187 = some (.pop, 1, 0, 0, 0) from rfl)) rfl ?_
    refine pm_goto (off := 820) (pe_d mv_L (show pm_fetch mk_L 188 = some (.goto 820, 3, 0, 0, 0) from rfl)) (by decide) ?_
    show pm_Good sc mm_L 1008 _ _ _ _ _ _
    have hs7 : ∀ j, j ≠ 7 → (g.set 7 (sz + 1))[j]? = g[j]? := fun j hj => List.getElem?_set_ne (fun e => hj e.symm)
    have hlen : 44 ≤ w.length := (List.getElem?_eq_some_iff.mp hw43).1
    have eN : ((s.toNatClampNeg : Nat) : Int) = sz := by rw [pz_cl]; omega
    refine hB v _ (g.set 7 (sz + 1)) _ _ (li_scr hs (fun i hi => hs7 i (by omega))) (by rw [hs7 1 (by omega)]; exact hz) ⟨xs.set s.toNatClampNeg c, ys.set s.toNatClampNeg c, sz + 1, ?_, ?_, List.getElem?_set_self (by omega), li_Tn a4 eN (by omega) ⟨hC.1, hC.2.1⟩, ?_⟩ ⟨li_n7 hn (by show 7 < 44; decide) ⟨by omega, by omega⟩ (li_b7 v), li_l7 hl, trivial, li_wn hgl hw hc1 hc42 a4.1 a4.2.1 a4.2.2.2.2.1 hs0 ⟨by omega, by omega⟩ ⟨by omega, by omega⟩⟩
    · rw [List.getElem?_set_ne (by decide), List.getElem?_set_ne (by decide), List.getElem?_set_ne (by decide), List.getElem?_set_self (by omega)]
    · rw [List.getElem?_set_ne (by decide), List.getElem?_set_self (by simp only [List.length_set]; omega)]
    · obtain ⟨ks, ts, p9, f1, f2, f3, f4⟩ := aK
      have nq := lw_nq v
      refine ⟨ks, ts, p9, ?_, ?_, by rw [hs7 8 (by omega)]; exact f3, f4⟩
      · rw [List.getElem?_set_ne (fun e => nq.2.2.1 e.symm), List.getElem?_set_ne (fun e => nq.2.2.2 e.symm), List.getElem?_set_ne (fun e => nq.1 e.symm), List.getElem?_set_ne (fun e => nq.2.1 e.symm), px_same hw (lw_ftq v)]; exact f1
      · rw [List.getElem?_set_ne (by decide), List.getElem?_set_ne (by decide), List.getElem?_set_ne (by decide), List.getElem?_set_ne (by decide), px_same hw (lw_f44 v)]; exact f2
  · refine pm_ld_ok (i := .aload_n 1) (x := 1) (k := 2) (n := 1) (v := .ref 0) (pe_d mv_L (show pm_fetch mk_L 168 = some (.aload_n 1, 1, 0, 0, 0) from rfl)) rfl rfl rfl ?_
    refine pm_ld_ok (i := .aload_n 0) (x := 0) (k := 2) (n := 1) (v := .retAddr 3) (pe_d mv_L (show pm_fetch mk_L 169 = some (.aload_n 0, 1, 0, 0, 0) from rfl)) rfl rfl rfl ?_
    refine pm_ld_ok (i := .iload_n 3) (x := 3) (k := 0) (n := 1) (v := .int x) (pe_d mv_L (show pm_fetch mk_L 170 = some (.iload_n 3, 1, 0, 0, 0) from rfl)) rfl rfl rfl ?_
    refine pm_op_ok (i := .iconst 1) (st' := [.int 1, .int x, .retAddr 3, .ref 0]) (pe_d mv_L (show pm_fetch mk_L 171 = some (.iconst 1, 1, 0, 0, 0) from rfl)) rfl ?_
    refine pm_op_ok (i := .iadd) (st' := [.int (x + 1), .retAddr 3, .ref 0]) (pe_d mv_L (show pm_fetch mk_L 172 = some (.iadd, 1, 0, 0, 0) from rfl)) rfl ?_
    refine pm_scd (pe_d mv_L (show pm_fetch mk_L 173 = some (.iaload, 1, 0, 0, 0) from rfl)) hvi ?_
    rw [hcd]
    refine pe_callV (y := (mm_107, 1, 0, mk_107)) (As := [.int c]) (rest := []) (P1 := fun r w' => ∃ xr, r = some (.int xr) ∧ w' = w) mv_L (show pm_fetch mk_L 174 = some (.invokevirtual 13, 3, 107, 0, 408) from rfl) rfl rfl rfl (fun v hv => by simp only [List.mem_cons, List.not_mem_nil, or_false] at hv; rcases hv with rfl <;> rfl) hc0 (show pm_cl[7]? = some _ from rfl) rfl (Nat.le_of_ble_eq_true rfl) (Nat.le_of_ble_eq_true rfl) (Nat.le_of_ble_eq_true rfl) (Nat.le_of_ble_eq_true rfl) (pw_107 hc0 rfl hc1 hw2 a4.1 (by omega) (fun q xr => ⟨xr, rfl, rfl⟩) (fun q xr => absurd q hC)) (fun r w' q => by obtain ⟨xr, -, q⟩ := q; rw [q]) (fun r w' q => ?_)
    obtain ⟨xr, rfl, hww⟩ := q
    rw [hww]
    show pm_Good sc mm_L 177 _ [.int xr] w 52 7858 _
    refine pm_op_ok (i := .pop) (st' := []) (pe_d mv_L (show pm_fetch mk_L 177 = some (.pop, 1, 0, 0, 0) from rfl)) rfl ?_
    refine pm_ld_ok (i := .aload_n 2) (x := 2) (k := 2) (n := 1) (v := .ref 42) (pe_d mv_L (show pm_fetch mk_L 178 = some (.aload_n 2, 1, 0, 0, 0) from rfl)) rfl rfl rfl ?_
    refine pm_ld_ok (i := .aload_n 0) (x := 0) (k := 2) (n := 1) (v := .retAddr 3) (pe_d mv_L (show pm_fetch mk_L 179 = some (.aload_n 0, 1, 0, 0, 0) from rfl)) rfl rfl rfl ?_
    refine pm_ld_ok (i := .iload_n 3) (x := 3) (k := 0) (n := 1) (v := .int x) (pe_d mv_L (show pm_fetch mk_L 180 = some (.iload_n 3, 1, 0, 0, 0) from rfl)) rfl rfl rfl ?_
    refine pm_op_ok (i := .iconst 1) (st' := [.int 1, .int x, .retAddr 3, .ref 42]) (pe_d mv_L (show pm_fetch mk_L 181 = some (.iconst 1, 1, 0, 0, 0) from rfl)) rfl ?_
    refine pm_op_ok (i := .iadd) (st' := [.int (x + 1), .retAddr 3, .ref 42]) (pe_d mv_L (show pm_fetch mk_L 182 = some (.iadd, 1, 0, 0, 0) from rfl)) rfl ?_
    refine pm_scd (pe_d mv_L (show pm_fetch mk_L 183 = some (.iaload, 1, 0, 0, 0) from rfl)) hvi ?_
    rw [hcd]
    refine pe_callV (y := (mm_169, 1, 0, mk_169)) (As := [.int c]) (rest := []) (P1 := fun r w' => ∃ xr, r = some (.int xr) ∧ w' = w) mv_L (show pm_fetch mk_L 184 = some (.invokevirtual 17, 3, 169, 0, 816) from rfl) rfl rfl rfl (fun v hv => by simp only [List.mem_cons, List.not_mem_nil, or_false] at hv; rcases hv with rfl <;> rfl) hc42 (show pm_cl[8]? = some _ from rfl) rfl (Nat.le_of_ble_eq_true rfl) (Nat.le_of_ble_eq_true rfl) (Nat.le_of_ble_eq_true rfl) (Nat.le_of_ble_eq_true rfl) (pw_169 hc42 hw43 a4.2.1 (by omega) (fun q xr => ⟨xr, rfl, rfl⟩) (fun q xr => absurd q hC)) (fun r w' q => by obtain ⟨xr, -, q⟩ := q; rw [q]) (fun r w' q => ?_)
    obtain ⟨xr2, rfl, hww2⟩ := q
    rw [hww2]
    show pm_Good sc mm_L 187 _ [.int xr2] w 52 7858 _
    refine pm_op_ok (i := .pop) (st' := []) (pe_d mv_L (show pm_fetch mk_L 187 = some (.pop, 1, 0, 0, 0) from rfl)) rfl ?_
    refine pm_goto (off := 820) (pe_d mv_L (show pm_fetch mk_L 188 = some (.goto 820, 3, 0, 0, 0) from rfl)) (by decide) ?_
    show pm_Good sc mm_L 1008 _ _ _ _ _ _
    exact hB v w0 g _ w hs hz hT hm0
/-! lay: the town that was told becomes the town -/
theorem li_hF {sc : pm_Z} {z : Int} {v : Bool} (hB : li_B sc z v 1008) : ∀ (w0 : pm_W) (g gh : List Int), sx_scr0 sc g → g[1]? = some z → li_T v w0 g → gh.take 9 = g.take 9 → sx_n (g.take 9) 9 ((7, 0, 200) :: (8, 0, 5) :: lh_j) → 9 ≤ gh.length → ∀ h ∈ [lh_m8 1008 v], sx_hOK sc mm_L w0 li_Q gh h := by
  intro w0 g gh hs hz hT hgh hn9 hl h hh
  have e := List.mem_singleton.mp hh
  subst e
  exact li_h8 hs hz hT hgh hn9 hl hB
theorem li_lg {g g2 : List Int} {lv : pm_L} (e : g2[1]? = g[1]?) (h : sx_l g lh_l lv) : sx_l g2 lh_l lv := by
  obtain ⟨⟨i0, v0⟩, m0, rfl, ⟨e0, r0⟩, h⟩ := sx_f2_cons h
  obtain ⟨⟨i1, v1⟩, m1, rfl, ⟨e1, r1⟩, h⟩ := sx_f2_cons h
  obtain ⟨⟨i2, v2⟩, m2, rfl, ⟨e2, r2⟩, h⟩ := sx_f2_cons h
  obtain ⟨⟨i3, v3⟩, m3, rfl, ⟨e3, r3⟩, h⟩ := sx_f2_cons h
  cases m3 with
  | cons _ _ => cases h
  | nil =>
    obtain ⟨zz, y, y1, y2, y3⟩ := r3
    exact ⟨⟨e0, r0⟩, ⟨e1, r1⟩, ⟨e2, r2⟩, ⟨e3, ⟨zz, y, by rw [e]; exact y1, y2, y3⟩⟩, trivial⟩
def li_LA (p : Nat) (u : Bool) : List sx_C := ((pi_ob (lh_w u) (li_tw u) 4 (.inl (0, (p : Int)))).set (px_tq u) (.inl (0, 5, false, []))).set 44 (.inl (0, 50, false, []))
theorem li_LA1 (p : Nat) (u : Bool) : ((lh_Lw p u).set (px_tq u) (.inl (0, 5, false, []))).set 44 (.inl (0, 50, false, [])) = li_LA p u := by cases u <;> rfl
def li_o8 (j : Nat) : Bool := ll_ok j && !Nat.beq j 8
theorem li_o8_i {j : Nat} (h : li_o8 j = true) : j < 44 ∧ j ≠ 8 := by
  unfold li_o8 at h
  have h1 := (Bool.and_eq_true _ _ ▸ h : ll_ok j = true ∧ (!Nat.beq j 8) = true)
  refine ⟨?_, fun e => ?_⟩
  · rcases ll_ok_i h1.1 with h | h <;> omega
  · subst e
    exact absurd h1.2 (by decide)
theorem li_LAo (u : Bool) : ∀ p, p < 6 → lo_w li_o8 (li_LA p u) = true := by cases u <;> decide +kernel
theorem li_LAt (p : Nat) (u : Bool) : ∃ o, (li_LA p u)[li_tw u]? = some (.inr o) ∧ o.2[4]? = some (.inl (0, (p : Int))) := by cases u <;> exact ⟨_, rfl, rfl⟩
theorem li_LAe (p : Nat) (u : Bool) : ((pi_ob (li_LA p u) (li_tw u) 4 (.inl (8, 0))).set (px_tq u) (.inl (0, 5, true, []))).set 44 (.inl (0, 50, true, [(0, .inl (8, 0))])) = lh_w u := by cases u <;> rfl
theorem li_Lq (p : Nat) (u : Bool) : (lh_Lw p u)[px_tq u]? = some (.inl (0, 5, false, (List.range p).map fun j => (j, .inl (44 + j, 0)))) ∧ (lh_Lw p u)[44]? = some (.inl (0, 50, false, (0, .inl (0, (p : Int))) :: (List.range p).map fun j => (5 + j, .inl (44 + j, 0)))) := by cases u <;> exact ⟨rfl, rfl⟩
theorem li_Lf (p : Nat) (u : Bool) : (∃ a : sx_A, (lh_Lw p u)[2]? = some (.inl a) ∧ a.2.2.1 = true) ∧ ∃ a : sx_A, (lh_Lw p u)[43]? = some (.inl a) ∧ a.2.2.1 = true := by cases u <;> exact ⟨⟨_, rfl, rfl⟩, ⟨_, rfl, rfl⟩⟩
theorem li_wL {p : Nat} {u : Bool} {w0 : pm_W} {g2 G : List Int} {w2 : pm_W} (hp : p < 6) (hG : ∀ j, li_o8 j = true → G[j]? = g2[j]?) (h0 : G[0]? = some 0) (h8 : G[8]? = some (p : Int)) (hw : sx_w w0 g2 (lh_Lw p u) w2) : sx_w w2 G (lh_w u) w2 ∧ ∃ ks ts, w2[px_tq u]? = some (.inl (0, ks)) ∧ w2[44]? = some (.inl (0, ts)) ∧ ∀ j : Nat, (j : Int) < (p : Int) → ts.getD (5 + j) 0 = ks.getD j 0 := by
  have h1 := li_self hw
  obtain ⟨c5, k5, r5⟩ := sx_w_get h1 (li_Lq p u).1
  obtain ⟨ks, rfl, l5, -, -, s5⟩ := sx_rc_a r5
  obtain ⟨c44, k44, r44⟩ := sx_w_get h1 (li_Lq p u).2
  obtain ⟨ts, rfl, l44, -, -, s44⟩ := sx_rc_a r44
  simp only at k5 k44 l5 l44 s5 s44
  have h20 : g2[0]? = some 0 := by rw [← hG 0 (by decide)]; exact h0
  have h2 := sx_w_setA (sx_w_setA h1 k5 (a := .inl (0, 5, false, [])) ⟨rfl, l5, (fun q => by cases q), (fun q => by cases q), (fun q hq => by cases hq)⟩) k44 (a := .inl (0, 50, false, [])) ⟨rfl, l44, (fun q => by cases q), (fun q => by cases q), (fun q hq => by cases hq)⟩
  rw [li_LA1] at h2
  have h3 := lo_w_ok hG (li_LAo u p hp) h2
  have h4 : sx_w w2 G (pi_ob (li_LA p u) (li_tw u) 4 (.inl (8, 0))) w2 := pi_ob_ok h3 (fun o a ho ha x hx => by
    obtain ⟨o', a1, a2⟩ := li_LAt p u
    rw [a1] at ho
    cases ho
    rw [a2] at ha
    cases ha
    obtain ⟨z, y, y1, y2, y3⟩ := hx
    simp only at y1 y3
    rw [h0] at y1
    cases y1
    exact ⟨(p : Int), y, h8, y2, by simp only; omega⟩)
  obtain ⟨x0, x1, z, y, y1, y2, y3⟩ := s44 _ List.mem_cons_self
  simp only at x1 y1 y3
  rw [h20] at y1
  cases y1
  cases y2
  have sp : ∀ s ∈ [((0 : Nat), (Sum.inl (8, 0) : sx_V))], ∃ x, ts[s.1]? = some x ∧ sx_r G s.2 (.int x) := fun s hs => by
    have e := List.mem_singleton.mp hs
    subst e
    exact ⟨x0, x1, (p : Int), x0, h8, rfl, by simp only; omega⟩
  have h5 := sx_w_setA (sx_w_setA h4 k5 (a := .inl (0, 5, true, [])) ⟨rfl, l5, fun _ => k5, (fun q => by cases q), (fun q hq => by cases hq)⟩) k44 (a := .inl (0, 50, true, [(0, .inl (8, 0))])) ⟨rfl, l44, fun _ => k44, (fun q => by cases q), sp⟩
  rw [li_LAe] at h5
  refine ⟨h5, ks, ts, k5, k44, fun j hj => ?_⟩
  have hj' : j < p := by omega
  obtain ⟨xa, xa1, z1, y1, u1, u2, u3⟩ := s5 (j, .inl (44 + j, 0)) (List.mem_map.mpr ⟨j, List.mem_range.mpr hj', rfl⟩)
  obtain ⟨xb, xb1, z2, y2, v1, v2, v3⟩ := s44 (5 + j, .inl (44 + j, 0)) (List.mem_cons_of_mem _ (List.mem_map.mpr ⟨j, List.mem_range.mpr hj', rfl⟩))
  simp only at xa1 xb1 u1 u3 v1 v3
  cases u2
  cases v2
  rw [u1] at v1
  cases v1
  have e : xb = xa := Int32.toInt_inj.mp (by omega)
  rw [List.getD_eq_getElem?_getD, List.getD_eq_getElem?_getD, xa1, xb1, e]
theorem li_j8 : ∀ q ∈ (7, 0, 200) :: lh_j, q ∈ (7, 0, 200) :: (8, 0, 5) :: lh_j ∧ q.1 < 8 := by decide +kernel
theorem li_b8 (v : Bool) : ∀ q ∈ lh_b v, q.1 = 8 → q.2.1 ≤ 0 ∧ 5 ≤ q.2.2 := by cases v <;> decide +kernel
theorem li_e8 (v : Bool) : ∀ q ∈ lh_e v, q.1 = 8 → q.2.1 ≤ 0 ∧ 5 ≤ q.2.2 := by cases v <;> decide +kernel
theorem li_bl (v : Bool) : ∀ q ∈ lh_b v, q.1 < 44 := by cases v <;> decide +kernel
theorem li_bj8 (v : Bool) : ∀ q ∈ lh_b v, q ∈ (lh_f v).drop 1 ∨ q ∈ (7, 0, 200) :: lh_j := by cases v <;> decide +kernel
set_option maxHeartbeats 1000000 in
theorem li_hL {sc : pm_Z} {z : Int} {v : Bool} {p : Nat} (hp : p < 6) {w0 : pm_W} {g gh : List Int} (hs : sx_scr0 sc g) (hz : g[1]? = some z) (hT : li_T v w0 g) (hgh : gh.take 9 = g.take 9) (hn9 : sx_n (g.take 9) 9 ((7, 0, 200) :: (8, 0, 5) :: lh_j)) (hl : 9 ≤ gh.length) (hB : li_B sc z (!v) 1008) : sx_hOK sc mm_L w0 li_Q gh (lh_L p (!v)) := by
  have e9 : ∀ i, i < 9 → gh[i]? = g[i]? := fun i hi => by rw [← List.getElem?_take_of_lt (l := gh) hi, hgh, List.getElem?_take_of_lt hi]
  refine ⟨gh, List.prefix_rfl, by decide, by show 8 ≤ _; omega, ?_, Or.inl rfl, fun g2 lv2 w2 t2 hm2 _ => ?_⟩
  · show sx_n (gh.take 8) 8 ((7, 0, 200) :: lh_j)
    have e : gh.take 8 = (g.take 9).take 8 := by rw [← hgh, List.take_take]; rfl
    rw [e]
    exact ll_take hn9 (by omega) (by decide) li_j8
  · obtain ⟨hn, hlv, -, hw⟩ := hm2
    have hlen : g2.length = 44 + p := hn.1
    have t2 : g2.take 8 = gh.take 8 := t2
    have e : ∀ i, i < 8 → g2[i]? = g[i]? := fun i hi => by
      rw [← List.getElem?_take_of_lt (l := g2) hi, t2, List.getElem?_take_of_lt hi]
      exact e9 i (by omega)
    have hG : ∀ j, j < 44 → j ≠ 8 → ((g2.take 44).set 8 (p : Int))[j]? = g2[j]? := fun j hj h8 => by
      rw [List.getElem?_set_ne (fun e => h8 e.symm), List.getElem?_take_of_lt hj]
    have h8 : ((g2.take 44).set 8 (p : Int))[8]? = some (p : Int) := List.getElem?_set_self (by rw [List.length_take]; omega)
    have h0 : ((g2.take 44).set 8 (p : Int))[0]? = some 0 := by
      rw [hG 0 (by omega) (by omega)]
      exact hn.2.1
    obtain ⟨hw2, ks, ts, k1, k2, k3⟩ := li_wL (G := (g2.take 44).set 8 (p : Int)) hp (fun j hj => hG j (li_o8_i hj).1 (li_o8_i hj).2) h0 h8 hw
    obtain ⟨xs, ys, sz, a, b, c, dd, -⟩ := hT
    refine hB w2 ((g2.take 44).set 8 (p : Int)) lv2 w2 (li_scr hs (fun i hi => by rw [hG i (by omega) (by omega)]; exact e i (by omega))) (by rw [hG 1 (by omega) (by omega), e 1 (by omega)]; exact hz) ⟨xs, ys, sz, ?_, ?_, ?_, dd, ks, ts, p, k1, k2, h8, k3⟩ ⟨⟨?_, h0, fun q hq => ?_⟩, li_lg (hG 1 (by omega) (by omega)) hlv, trivial, hw2⟩
    · rw [px_same hw (li_Lf p _).1]
      exact a
    · rw [px_same hw (li_Lf p _).2]
      exact b
    · rw [hG 7 (by omega) (by omega), e 7 (by omega)]
      exact c
    · show ((g2.take 44).set 8 (p : Int)).length = 44
      rw [List.length_set, List.length_take]
      omega
    · by_cases h88 : q.1 = 8
      · have := li_b8 (!v) q hq h88
        exact ⟨(p : Int), by rw [h88]; exact h8, by omega, by omega⟩
      · have hq3 : q ∈ ((lh_f (!v)).drop 1 ++ (List.range p).map (fun j => (44 + j, (-2147483648 : Int), (2147483647 : Int)))) ++ ((7, 0, 200) :: lh_j) := by
          rcases li_bj8 (!v) q hq with hq2 | hq2
          · exact List.mem_append_left _ (List.mem_append_left _ hq2)
          · exact List.mem_append_right _ hq2
        obtain ⟨y, y1, y2⟩ := hn.2.2 q hq3
        exact ⟨y, by rw [hG _ (li_bl (!v) q hq) h88]; exact y1, y2⟩
theorem li_hS {sc : pm_Z} {z : Int} {v : Bool} (hB : li_B sc z v 1008) (hB2 : li_B sc z (!v) 1008) : ∀ (w0 : pm_W) (g gh : List Int), sx_scr0 sc g → g[1]? = some z → li_T v w0 g → gh.take 9 = g.take 9 → sx_n (g.take 9) 9 ((7, 0, 200) :: (8, 0, 5) :: lh_j) → 9 ≤ gh.length → ∀ h ∈ lh_Ls v, sx_hOK sc mm_L w0 li_Q gh h := by
  intro w0 g gh hs hz hT hgh hn9 hl h hh
  unfold lh_Ls at hh
  rcases List.mem_cons.mp hh with rfl | hh
  · exact li_h8 hs hz hT hgh hn9 hl hB
  · obtain ⟨p, hp, rfl⟩ := List.mem_map.mp hh
    exact li_hL (List.mem_range.mp hp) hs hz hT hgh hn9 hl hB2

theorem lw_o0 (v : Bool) : ∃ l, (lh_w v)[0]? = some (.inr (7, l)) ∧ l[1]? = some (.inr (.ref (li_tw v))) := by cases v <;> exact ⟨_, rfl, rfl⟩
theorem lw_o4 (v : Bool) : ∃ l, (lh_w v)[li_tw v]? = some (.inr (6, l)) ∧ l[0]? = some (.inr (.ref (px_tq v))) ∧ l[4]? = some (.inl (8, 0)) := by cases v <;> exact ⟨_, rfl, rfl, rfl⟩
theorem lw_tq (v : Bool) : (lh_w v)[px_tq v]? = some (.inl (0, 5, true, [])) := by cases v <;> rfl
theorem lw_t44 (v : Bool) : (lh_w v)[44]? = some (.inl (0, 50, true, [(0, .inl (8, 0))])) := by cases v <;> rfl
theorem lw_b8 (v : Bool) : (8, 0, 5) ∈ lh_b v := by cases v <;> decide +kernel
set_option maxHeartbeats 4000000 in
theorem li_kd {sc : pm_Z} {z : Int} {v : Bool} (hB : li_B sc z v 1008) : li_B sc z v 273 := by
  intro w0 g lv w hs hz hT hm
  have hm0 := hm
  obtain ⟨hn, hl, -, hw⟩ := hm
  have hgl : g.length = 44 := hn.1
  obtain ⟨x, rfl, hx⟩ := li_lv hz hl
  obtain ⟨z', b1, b2, b3⟩ := hn.2.2 (1, 0, 395) (List.mem_append_right _ (by decide))
  rw [hz] at b1
  cases b1
  simp only at b2 b3
  have hsl : z + 4 < sc.1 ∧ sc.1 < 2 ^ 31 := by
    rcases hs with ⟨z9, h1, h2⟩ | ⟨i, h1, h2, h3, h4⟩
    · rw [hz] at h1
      cases h1
      omega
    · rw [hz] at h1
      cases h1
      omega
  have ex : (x + 1).toInt = z + 1 := by rw [pl_p1 (by omega) (by omega), hx]
  have hvi : vp_in (x + 1) sc.1 := pl_in (by omega) (by omega)
  obtain ⟨xs, ys, sz, a1, a2, a3, a4, ks, ts, p9, f1, f2, f3, f4⟩ := id hT
  have k1 : w[px_tq v]? = some (.inl (0, ks)) := by rw [px_same hw (lw_ftq v)]; exact f1
  have k2 : w[44]? = some (.inl (0, ts)) := by rw [px_same hw (lw_f44 v)]; exact f2
  obtain ⟨o0, q1, q2⟩ := lw_o0 v
  obtain ⟨cc, hc0, hr0⟩ := sx_w_get hw q1
  obtain ⟨fs, rfl, hf⟩ := sx_rc_o hr0
  obtain ⟨e0, hb1, hb2⟩ := sx_f2_get hf q2
  have hb2 : e0 = .ref (li_tw v) := hb2
  subst hb2
  obtain ⟨o4, q3, q4, q5⟩ := lw_o4 v
  obtain ⟨cc, hc4, hr4⟩ := sx_w_get hw q3
  obtain ⟨f4s, rfl, hf4⟩ := sx_rc_o hr4
  obtain ⟨e1, hb3, hb4⟩ := sx_f2_get hf4 q4
  have hb4 : e1 = .ref (px_tq v) := hb4
  subst hb4
  obtain ⟨e2, hb5, z8, pers, u1, u2, u3⟩ := sx_f2_get hf4 q5
  simp only at u1 u3
  rw [f3] at u1
  cases u1
  subst u2
  obtain ⟨cc, hc42, hr42⟩ := sx_w_get hw (lw_t42 v)
  obtain ⟨fm, rfl, hfm⟩ := sx_rc_o hr42
  obtain ⟨e3, hb7, hb8⟩ := sx_f2_get hfm (k := 2) (a := .inr (.ref 44)) rfl
  have hb8 : e3 = .ref 44 := hb8
  subst hb8
  obtain ⟨z8, g1, g2, g3⟩ := hn.2.2 (8, 0, 5) (lw_b8 v)
  simp only at g1 g2 g3
  rw [f3] at g1
  cases g1
  have hp : 0 ≤ pers.toInt ∧ pers.toInt ≤ 5 := ⟨by omega, by omega⟩
  obtain ⟨cq, e5, r5⟩ := sx_w_get hw (lw_tq v)
  rw [k1] at e5
  cases e5
  have l5 : ks.length = 5 := r5.2.1
  obtain ⟨ct, e6, r6⟩ := sx_w_get hw (lw_t44 v)
  rw [k2] at e6
  cases e6
  have l44 : ts.length = 50 := r6.2.1
  obtain ⟨t0, t1, zt, yt, v1, v2, v3⟩ := r6.2.2.2.2 _ List.mem_cons_self
  simp only at t1 v1 v3
  rw [f3] at v1
  cases v1
  cases v2
  have et : t0 = pers := Int32.toInt_inj.mp (by omega)
  have hk0 : ts.getD 0 0 = pers := by rw [List.getD_eq_getElem?_getD, t1, et]; rfl
  generalize hcd : sc.2 (x + 1).toNatClampNeg = c
  obtain ⟨A, hA1, hA2⟩ : ∃ A : Int32, (kd_in c pers → ks.getD c.toNatClampNeg 0 = A ∧ ts.getD (5 + c).toNatClampNeg 0 = A) ∧ (¬ kd_in c pers → (-1 : Int32) = A) := by
    by_cases hin : kd_in c pers
    · have h1 := hin.1
      have h2 := hin.2
      refine ⟨ks.getD c.toNatClampNeg 0, fun _ => ⟨rfl, ?_⟩, fun h => absurd hin h⟩
      have e : (5 + c).toNatClampNeg = 5 + c.toNatClampNeg := by
        rw [pz_cl, pz_cl, kd_5 (by omega)]
        omega
      rw [e]
      exact f4 _ (by rw [pz_cl]; omega)
    · exact ⟨-1, fun h => absurd h hin, fun _ => rfl⟩

  refine pm_ld_ok (i := .aload_n 1) (x := 1) (k := 2) (n := 1) (v := .ref 0) (pe_d mv_L (show pm_fetch mk_L 273 = some (.aload_n 1, 1, 0, 0, 0) from rfl)) rfl rfl rfl ?_
  refine pm_ld_ok (i := .aload_n 0) (x := 0) (k := 2) (n := 1) (v := .retAddr 3) (pe_d mv_L (show pm_fetch mk_L 274 = some (.aload_n 0, 1, 0, 0, 0) from rfl)) rfl rfl rfl ?_
  refine pm_ld_ok (i := .iload_n 3) (x := 3) (k := 0) (n := 1) (v := .int x) (pe_d mv_L (show pm_fetch mk_L 275 = some (.iload_n 3, 1, 0, 0, 0) from rfl)) rfl rfl rfl ?_
  refine pm_op_ok (i := .iconst 1) (st' := [.int 1, .int x, .retAddr 3, .ref 0]) (pe_d mv_L (show pm_fetch mk_L 276 = some (.iconst 1, 1, 0, 0, 0) from rfl)) rfl ?_
  refine pm_op_ok (i := .iadd) (st' := [.int (x + 1), .retAddr 3, .ref 0]) (pe_d mv_L (show pm_fetch mk_L 277 = some (.iadd, 1, 0, 0, 0) from rfl)) rfl ?_
  refine pm_scd (pe_d mv_L (show pm_fetch mk_L 278 = some (.iaload, 1, 0, 0, 0) from rfl)) hvi ?_
  rw [hcd]
  refine pe_callV (y := (mm_65, 1, 0, mk_65)) (As := [.int c]) (rest := []) (P1 := fun r w' => r = some (.int A) ∧ w' = w) mv_L (show pm_fetch mk_L 279 = some (.invokevirtual 36, 3, 65, 0, 443) from rfl) rfl rfl rfl (fun v hv => by simp only [List.mem_cons, List.not_mem_nil, or_false] at hv; rcases hv with rfl <;> rfl) hc0 (show pm_cl[7]? = some _ from rfl) rfl (Nat.le_of_ble_eq_true rfl) (Nat.le_of_ble_eq_true rfl) (Nat.le_of_ble_eq_true rfl) (Nat.le_of_ble_eq_true rfl) (kd_65 hc0 hb1 hc4 hb3 hb5 k1 l5 hp (fun q => ⟨by rw [(hA1 q).1], rfl⟩) (fun q => ⟨by rw [hA2 q], rfl⟩)) (fun r w' q => by rw [q.2]) (fun r w' q => ?_)
  obtain ⟨rfl, hww⟩ := q
  rw [hww]
  show pm_Good sc mm_L 282 _ [.int A] w 52 7858 _
  refine pm_ld_ok (i := .aload_n 2) (x := 2) (k := 2) (n := 1) (v := .ref 42) (pe_d mv_L (show pm_fetch mk_L 282 = some (.aload_n 2, 1, 0, 0, 0) from rfl)) rfl rfl rfl ?_
  refine pm_ld_ok (i := .aload_n 0) (x := 0) (k := 2) (n := 1) (v := .retAddr 3) (pe_d mv_L (show pm_fetch mk_L 283 = some (.aload_n 0, 1, 0, 0, 0) from rfl)) rfl rfl rfl ?_
  refine pm_ld_ok (i := .iload_n 3) (x := 3) (k := 0) (n := 1) (v := .int x) (pe_d mv_L (show pm_fetch mk_L 284 = some (.iload_n 3, 1, 0, 0, 0) from rfl)) rfl rfl rfl ?_
  refine pm_op_ok (i := .iconst 1) (st' := [.int 1, .int x, .retAddr 3, .ref 42, .int A]) (pe_d mv_L (show pm_fetch mk_L 285 = some (.iconst 1, 1, 0, 0, 0) from rfl)) rfl ?_
  refine pm_op_ok (i := .iadd) (st' := [.int (x + 1), .retAddr 3, .ref 42, .int A]) (pe_d mv_L (show pm_fetch mk_L 286 = some (.iadd, 1, 0, 0, 0) from rfl)) rfl ?_
  refine pm_scd (pe_d mv_L (show pm_fetch mk_L 287 = some (.iaload, 1, 0, 0, 0) from rfl)) hvi ?_
  rw [hcd]
  refine pe_callV (y := (mm_148, 1, 0, mk_148)) (As := [.int c]) (rest := [.int A]) (P1 := fun r w' => r = some (.int A) ∧ w' = w) mv_L (show pm_fetch mk_L 288 = some (.invokevirtual 39, 3, 148, 0, 874) from rfl) rfl rfl rfl (fun v hv => by simp only [List.mem_cons, List.not_mem_nil, or_false] at hv; rcases hv with rfl <;> rfl) hc42 (show pm_cl[8]? = some _ from rfl) rfl (Nat.le_of_ble_eq_true rfl) (Nat.le_of_ble_eq_true rfl) (Nat.le_of_ble_eq_true rfl) (Nat.le_of_ble_eq_true rfl) (kd_148 hc42 hb7 k2 l44 hk0 hp (fun q => ⟨by rw [(hA1 q).2], rfl⟩) (fun q => ⟨by rw [hA2 q], rfl⟩)) (fun r w' q => by rw [q.2]) (fun r w' q => ?_)
  obtain ⟨rfl, hww2⟩ := q
  rw [hww2]
  show pm_Good sc mm_L 291 _ [.int A, .int A] w 52 7858 _
  refine pm_br2 (c := .eq) (off := 717) (x := A) (y := A) (pe_d mv_L (show pm_fetch mk_L 291 = some (.if_icmp .eq 717, 3, 0, 0, 0) from rfl)) (by decide) (fun _ => ?_) (fun h => ?_)
  · show pm_Good sc mm_L 1008 _ _ _ _ _ _
    exact hB w0 g _ w hs hz hT hm0
  · exact absurd (decide_eq_true (rfl : A = A)) (by rw [show decide (A = A) = pm_cmp .eq A A from rfl, h]; decide)
theorem li_26 {sc : pm_Z} {z : Int} (hB : ∀ pc ∈ li_cs, ∀ v, li_B sc z v pc) (v : Bool) : li_B sc z v 26 := by
  intro w0 g lv w hs hz hT hm
  have h : sx_run sx_AN sx_CU sx_O1 100000 lh_x li_an (li_cs.map (lh_c v)) false 26 52 7858 lh_n (lh_b v) lh_l [] (lh_w v) lh_k = true := by
    rw [← sx_runF_eq]
    cases v
    · exact rd_0
    · exact rd_1
  have hl : g.length = 44 := hm.1.1
  refine sx_run_ok (lo_O1 (Ψ := lo_tr) (w0 := w0)) 100000 lh_x _ _ _ _ _ _ _ _ _ _ _ _ g g lv [] w li_Q h mv_L ⟨hs, g, List.prefix_rfl, trivial⟩ List.prefix_rfl hm (fun h9 hh => ?_) (fun g' o r w' _ hk hmo => li_k hk hmo)
  obtain ⟨pc, hpc, rfl⟩ := List.mem_map.mp hh
  have ht : g.take 44 = g := by rw [← hl, List.take_length]
  refine ⟨g, List.prefix_rfl, by decide, by show 44 ≤ _; omega, by show sx_n (g.take 44) 44 (lh_b v); rw [ht]; exact hm.1, Or.inl rfl, fun g2 lv2 w2 t2 hm2 _ => ?_⟩
  have hl2 : g2.length = 44 := hm2.1.1
  have t2 : g2.take 44 = g.take 44 := t2
  rw [ht, ← hl2, List.take_length] at t2
  subst t2
  exact hB pc hpc v w0 g2 lv2 w2 hs hz hT hm2
theorem li_c0 {sc : pm_Z} {z : Int} (hI : li_I sc z) (v : Bool) : li_B sc z v 168 := li_wr (li_tail hI) v
theorem li_c1 {sc : pm_Z} {z : Int} (hI : li_I sc z) (v : Bool) : li_B sc z v 191 := by
  cases v
  · exact li_rw (li_tail hI false) rb_1_0
  · exact li_rw (li_tail hI true) rb_1_1
theorem li_c2 {sc : pm_Z} {z : Int} (hI : li_I sc z) (v : Bool) : li_B sc z v 204 := by
  cases v
  · exact li_rp (li_hF (li_tail hI false)) rb_2_0
  · exact li_rp (li_hF (li_tail hI true)) rb_2_1
theorem li_c3 {sc : pm_Z} {z : Int} (hI : li_I sc z) (v : Bool) : li_B sc z v 217 := by
  cases v
  · exact li_rp (li_hS (li_tail hI false) (li_tail hI true)) rb_3_0
  · exact li_rp (li_hS (li_tail hI true) (li_tail hI false)) rb_3_1
theorem li_c4 {sc : pm_Z} {z : Int} (hI : li_I sc z) (v : Bool) : li_B sc z v 230 := by
  have hB : ∀ u, li_B sc z u 250 := by
    intro u
    cases u
    · exact li_rm (fun _ => lo_O1) (li_tail hI false) rb_4_0
    · exact li_rm (fun _ => lo_O1) (li_tail hI true) rb_4_1
  cases v
  · exact li_rm (fun _ => lo_O1) (hB false) ra_4_0
  · exact li_rm (fun _ => lo_O1) (hB true) ra_4_1
theorem li_c5 {sc : pm_Z} {z : Int} (hI : li_I sc z) (v : Bool) : li_B sc z v 273 := li_kd (li_tail hI v)
theorem li_c6 {sc : pm_Z} {z : Int} (hI : li_I sc z) (v : Bool) : li_B sc z v 296 := by
  have hB : ∀ u, li_B sc z u 311 := by
    intro u
    cases u
    · exact li_rm (fun _ => lo_O1) (li_tail hI false) rb_6_0
    · exact li_rm (fun _ => lo_O1) (li_tail hI true) rb_6_1
  cases v
  · exact li_rm (fun _ => lo_O1) (hB false) ra_6_0
  · exact li_rm (fun _ => lo_O1) (hB true) ra_6_1
theorem li_c7 {sc : pm_Z} {z : Int} (hI : li_I sc z) (v : Bool) : li_B sc z v 329 := by
  have hB : ∀ u, li_B sc z u 339 := by
    intro u
    cases u
    · exact li_rm (fun _ => lo_O1) (li_tail hI false) rb_7_0
    · exact li_rm (fun _ => lo_O1) (li_tail hI true) rb_7_1
  cases v
  · exact li_rm (fun _ => lo_O1) (hB false) ra_7_0
  · exact li_rm (fun _ => lo_O1) (hB true) ra_7_1
theorem li_c8 {sc : pm_Z} {z : Int} (hI : li_I sc z) (v : Bool) : li_B sc z v 352 := by
  have hB : ∀ u, li_B sc z u 367 := by
    intro u
    cases u
    · exact li_rm (fun _ => lo_O1) (li_tail hI false) rb_8_0
    · exact li_rm (fun _ => lo_O1) (li_tail hI true) rb_8_1
  cases v
  · exact li_rm (fun _ => lo_O1) (hB false) ra_8_0
  · exact li_rm (fun _ => lo_O1) (hB true) ra_8_1
theorem li_c9 {sc : pm_Z} {z : Int} (hI : li_I sc z) (v : Bool) : li_B sc z v 385 := by
  have hB : ∀ u, li_B sc z u 405 := by
    intro u
    cases u
    · exact li_rm (fun _ => lo_O1) (li_tail hI false) rb_9_0
    · exact li_rm (fun _ => lo_O1) (li_tail hI true) rb_9_1
  cases v
  · exact li_rm (fun _ => lo_O1) (hB false) ra_9_0
  · exact li_rm (fun _ => lo_O1) (hB true) ra_9_1
theorem li_c10 {sc : pm_Z} {z : Int} (hI : li_I sc z) (v : Bool) : li_B sc z v 428 := by
  have hB : ∀ u, li_B sc z u 433 := by
    intro u
    cases u
    · exact li_rm (fun _ => lo_O1) (li_tail hI false) rb_10_0
    · exact li_rm (fun _ => lo_O1) (li_tail hI true) rb_10_1
  cases v
  · exact li_rm (fun _ => lo_O1) (hB false) ra_10_0
  · exact li_rm (fun _ => lo_O1) (hB true) ra_10_1
theorem li_c11 {sc : pm_Z} {z : Int} (hI : li_I sc z) (v : Bool) : li_B sc z v 441 := by
  have hB : ∀ u, li_B sc z u 461 := by
    intro u
    cases u
    · exact li_rm (fun _ => lo_O1) (li_tail hI false) rb_11_0
    · exact li_rm (fun _ => lo_O1) (li_tail hI true) rb_11_1
  cases v
  · exact li_rm (fun _ => lo_O1) (hB false) ra_11_0
  · exact li_rm (fun _ => lo_O1) (hB true) ra_11_1
theorem li_c12 {sc : pm_Z} {z : Int} (hI : li_I sc z) (v : Bool) : li_B sc z v 484 := by
  have hB : ∀ u, li_B sc z u 494 := by
    intro u
    cases u
    · exact li_rm (fun _ => lo_O1) (li_tail hI false) rb_12_0
    · exact li_rm (fun _ => lo_O1) (li_tail hI true) rb_12_1
  cases v
  · exact li_rm (fun _ => lo_O1) (hB false) ra_12_0
  · exact li_rm (fun _ => lo_O1) (hB true) ra_12_1
theorem li_c13 {sc : pm_Z} {z : Int} (hI : li_I sc z) (v : Bool) : li_B sc z v 507 := by
  have hB : ∀ u, li_B sc z u 512 := by
    intro u
    cases u
    · exact li_rm (fun _ => lo_O1) (li_tail hI false) rb_13_0
    · exact li_rm (fun _ => lo_O1) (li_tail hI true) rb_13_1
  cases v
  · exact li_rm (fun _ => lo_O1) (hB false) ra_13_0
  · exact li_rm (fun _ => lo_O1) (hB true) ra_13_1
theorem li_c14 {sc : pm_Z} {z : Int} (hI : li_I sc z) (v : Bool) : li_B sc z v 520 := by
  have hB : ∀ u, li_B sc z u 535 := by
    intro u
    cases u
    · exact li_rm (fun _ => lo_O1) (li_tail hI false) rb_14_0
    · exact li_rm (fun _ => lo_O1) (li_tail hI true) rb_14_1
  cases v
  · exact li_rm (fun _ => lo_O1) (hB false) ra_14_0
  · exact li_rm (fun _ => lo_O1) (hB true) ra_14_1
theorem li_c15 {sc : pm_Z} {z : Int} (hI : li_I sc z) (v : Bool) : li_B sc z v 553 := by
  have hB : ∀ u, li_B sc z u 578 := by
    intro u
    cases u
    · exact li_rm (fun _ => lo_O1) (li_tail hI false) rb_15_0
    · exact li_rm (fun _ => lo_O1) (li_tail hI true) rb_15_1
  cases v
  · exact li_rm (fun _ => lo_O1) (hB false) ra_15_0
  · exact li_rm (fun _ => lo_O1) (hB true) ra_15_1
theorem li_c16 {sc : pm_Z} {z : Int} (hI : li_I sc z) (v : Bool) : li_B sc z v 606 := by
  have hB : ∀ u, li_B sc z u 626 := by
    intro u
    cases u
    · exact li_rm (fun _ => lo_O1) (li_tail hI false) rb_16_0
    · exact li_rm (fun _ => lo_O1) (li_tail hI true) rb_16_1
  cases v
  · exact li_rm (fun _ => lo_O1) (hB false) ra_16_0
  · exact li_rm (fun _ => lo_O1) (hB true) ra_16_1
theorem li_c17 {sc : pm_Z} {z : Int} (hI : li_I sc z) (v : Bool) : li_B sc z v 649 := by
  have hB : ∀ u, li_B sc z u 659 := by
    intro u
    cases u
    · exact li_rm (fun _ => lo_O1) (li_tail hI false) rb_17_0
    · exact li_rm (fun _ => lo_O1) (li_tail hI true) rb_17_1
  cases v
  · exact li_rm (fun _ => lo_O1) (hB false) ra_17_0
  · exact li_rm (fun _ => lo_O1) (hB true) ra_17_1
theorem li_c18 {sc : pm_Z} {z : Int} (hI : li_I sc z) (v : Bool) : li_B sc z v 672 := by
  have hB : ∀ u, li_B sc z u 697 := by
    intro u
    cases u
    · exact li_rm (fun _ => lo_O1) (li_tail hI false) rb_18_0
    · exact li_rm (fun _ => lo_O1) (li_tail hI true) rb_18_1
  cases v
  · exact li_rm (fun _ => lo_O_ok) (hB false) ra_18_0
  · exact li_rm (fun _ => lo_O_ok) (hB true) ra_18_1
theorem li_c19 {sc : pm_Z} {z : Int} (hI : li_I sc z) (v : Bool) : li_B sc z v 725 := by
  have hB : ∀ u, li_B sc z u 735 := by
    intro u
    cases u
    · exact li_rm (fun _ => lo_O1) (li_tail hI false) rb_19_0
    · exact li_rm (fun _ => lo_O1) (li_tail hI true) rb_19_1
  cases v
  · exact li_rm (fun _ => lo_O1) (hB false) ra_19_0
  · exact li_rm (fun _ => lo_O1) (hB true) ra_19_1
theorem li_c20 {sc : pm_Z} {z : Int} (hI : li_I sc z) (v : Bool) : li_B sc z v 748 := by
  have hB : ∀ u, li_B sc z u 758 := by
    intro u
    cases u
    · exact li_rm (fun _ => lo_O1) (li_tail hI false) rb_20_0
    · exact li_rm (fun _ => lo_O1) (li_tail hI true) rb_20_1
  cases v
  · exact li_rm (fun _ => lo_O1) (hB false) ra_20_0
  · exact li_rm (fun _ => lo_O1) (hB true) ra_20_1
theorem li_c21 {sc : pm_Z} {z : Int} (hI : li_I sc z) (v : Bool) : li_B sc z v 771 := by
  cases v
  · exact li_rm (fun _ => lo_O1) (li_tail hI false) rb_21_0
  · exact li_rm (fun _ => lo_O1) (li_tail hI true) rb_21_1
theorem li_c22 {sc : pm_Z} {z : Int} (hI : li_I sc z) (v : Bool) : li_B sc z v 814 := by
  cases v
  · exact li_rm (fun _ => lo_O1) (li_tail hI false) rb_22_0
  · exact li_rm (fun _ => lo_O1) (li_tail hI true) rb_22_1
theorem li_c23 {sc : pm_Z} {z : Int} (hI : li_I sc z) (v : Bool) : li_B sc z v 827 := by
  have hB : ∀ u, li_B sc z u 837 := by
    intro u
    cases u
    · exact li_rm (fun _ => lo_O1) (li_tail hI false) rb_23_0
    · exact li_rm (fun _ => lo_O1) (li_tail hI true) rb_23_1
  cases v
  · exact li_rm (fun _ => lo_O1) (hB false) ra_23_0
  · exact li_rm (fun _ => lo_O1) (hB true) ra_23_1
theorem li_c24 {sc : pm_Z} {z : Int} (hI : li_I sc z) (v : Bool) : li_B sc z v 850 := by
  have hB : ∀ u, li_B sc z u 865 := by
    intro u
    cases u
    · exact li_rm (fun _ => lo_O1) (li_tail hI false) rb_24_0
    · exact li_rm (fun _ => lo_O1) (li_tail hI true) rb_24_1
  cases v
  · exact li_rm (fun _ => lo_O1) (hB false) ra_24_0
  · exact li_rm (fun _ => lo_O1) (hB true) ra_24_1
theorem li_c25 {sc : pm_Z} {z : Int} (hI : li_I sc z) (v : Bool) : li_B sc z v 883 := by
  have hB : ∀ u, li_B sc z u 898 := by
    intro u
    cases u
    · exact li_rm (fun _ => lo_O1) (li_tail hI false) rb_25_0
    · exact li_rm (fun _ => lo_O1) (li_tail hI true) rb_25_1
  cases v
  · exact li_rm (fun _ => lo_O1) (hB false) ra_25_0
  · exact li_rm (fun _ => lo_O1) (hB true) ra_25_1
theorem li_c26 {sc : pm_Z} {z : Int} (hI : li_I sc z) (v : Bool) : li_B sc z v 916 := by
  have hB : ∀ u, li_B sc z u 936 := by
    intro u
    cases u
    · exact li_rm (fun _ => lo_O1) (li_tail hI false) rb_26_0
    · exact li_rm (fun _ => lo_O1) (li_tail hI true) rb_26_1
  cases v
  · exact li_rm (fun _ => lo_O1) (hB false) ra_26_0
  · exact li_rm (fun _ => lo_O1) (hB true) ra_26_1
theorem li_c27 {sc : pm_Z} {z : Int} (hI : li_I sc z) (v : Bool) : li_B sc z v 959 := by
  cases v
  · exact li_rm (fun _ => lo_O1) (li_tail hI false) rb_27_0
  · exact li_rm (fun _ => lo_O1) (li_tail hI true) rb_27_1
theorem li_c28 {sc : pm_Z} {z : Int} (hI : li_I sc z) (v : Bool) : li_B sc z v 972 := by
  cases v
  · exact li_rm (fun _ => lo_O1) (li_tail hI false) rb_28_0
  · exact li_rm (fun _ => lo_O1) (li_tail hI true) rb_28_1
theorem li_c29 {sc : pm_Z} {z : Int} (hI : li_I sc z) (v : Bool) : li_B sc z v 985 := by
  have hB : ∀ u, li_B sc z u 995 := by
    intro u
    cases u
    · exact li_rm (fun _ => lo_O1) (li_tail hI false) rb_29_0
    · exact li_rm (fun _ => lo_O1) (li_tail hI true) rb_29_1
  cases v
  · exact li_rm (fun _ => lo_O1) (hB false) ra_29_0
  · exact li_rm (fun _ => lo_O1) (hB true) ra_29_1
theorem li_c30 {sc : pm_Z} {z : Int} (hI : li_I sc z) (v : Bool) : li_B sc z v 1008 := li_tail hI v
theorem li_all {sc : pm_Z} {z : Int} (hI : li_I sc z) : ∀ pc ∈ li_cs, ∀ v, li_B sc z v pc := by
  intro pc hpc
  simp only [li_cs, List.mem_cons, List.not_mem_nil, or_false] at hpc
  rcases hpc with rfl | rfl | rfl | rfl | rfl | rfl | rfl | rfl | rfl | rfl | rfl | rfl | rfl | rfl | rfl | rfl | rfl | rfl | rfl | rfl | rfl | rfl | rfl | rfl | rfl | rfl | rfl | rfl | rfl | rfl | rfl
  · exact li_c0 hI
  · exact li_c1 hI
  · exact li_c2 hI
  · exact li_c3 hI
  · exact li_c4 hI
  · exact li_c5 hI
  · exact li_c6 hI
  · exact li_c7 hI
  · exact li_c8 hI
  · exact li_c9 hI
  · exact li_c10 hI
  · exact li_c11 hI
  · exact li_c12 hI
  · exact li_c13 hI
  · exact li_c14 hI
  · exact li_c15 hI
  · exact li_c16 hI
  · exact li_c17 hI
  · exact li_c18 hI
  · exact li_c19 hI
  · exact li_c20 hI
  · exact li_c21 hI
  · exact li_c22 hI
  · exact li_c23 hI
  · exact li_c24 hI
  · exact li_c25 hI
  · exact li_c26 hI
  · exact li_c27 hI
  · exact li_c28 hI
  · exact li_c29 hI
  · exact li_c30 hI
/-- the numbers of the script put into the signs -/
def li_up (g : List Int) (f : Nat → Int) : List Int := g.mapIdx (fun i z => if 2 ≤ i ∧ i < 7 then f (i - 2) else z)
theorem li_up_get (g : List Int) (f : Nat → Int) (i : Nat) : (li_up g f)[i]? = (g[i]?).map (fun z => if 2 ≤ i ∧ i < 7 then f (i - 2) else z) := by
  unfold li_up
  rw [List.getElem?_mapIdx]
theorem li_up_o {g : List Int} {f : Nat → Int} {i : Nat} (h : ¬ (2 ≤ i ∧ i < 7)) : (li_up g f)[i]? = g[i]? := by
  rw [li_up_get]
  simp only [h, if_false]
  cases g[i]? <;> rfl
theorem li_up_n {g : List Int} {f : Nat → Int} {o : Nat} (ho : o < 5) (hl : g.length = 44) : (li_up g f)[2 + o]? = some (f o) := by
  rw [li_up_get, List.getElem?_eq_getElem (show 2 + o < g.length by omega)]
  simp only [Option.map_some]
  rw [if_pos (by omega)]
  congr 2
  omega
set_option maxHeartbeats 4000000 in
theorem li_18 {sc : pm_Z} (hsc : sc.1 ≤ 320) : ∀ (N : Nat) (v : Bool) (w0 : pm_W) (g : List Int) (lv : pm_L) (w : pm_W) (z : Int), sx_m w0 g (lh_n, lh_e v, lh_l, [], lh_w v) lv [] w → g[1]? = some z → li_T v w0 g → (400 - z).toNat < N → pm_Good sc mm_L 18 lv [] w 52 7858 li_Q := by
  intro N
  induction N with
  | zero => intro v w0 g lv w z _ _ _ hN; exact absurd hN (Nat.not_lt_zero _)
  | succ N ih =>
    intro v w0 g lv w z hm hz hT hN
    have hI : li_I sc z := fun u w1 g1 lv1 w2 y hy hgy hT1 hm1 => by
      obtain ⟨y', c1, c2, c3⟩ := hm1.1.2.2 (1, 0, 400) (List.mem_append_right _ (by decide))
      rw [hgy] at c1
      cases c1
      simp only at c2 c3
      exact ih u w1 g1 lv1 w2 y hm1 hgy hT1 (by omega)
    obtain ⟨z', b1, b2, b3⟩ := hm.1.2.2 (1, 0, 400) (List.mem_append_right _ (by decide))
    rw [hz] at b1
    cases b1
    simp only at b2 b3
    obtain ⟨hn, hl, hst, hw⟩ := hm
    have hgl : g.length = 44 := hn.1
    obtain ⟨x, rfl, y3⟩ := li_lv hz hl
    refine pm_ld_ok (i := .iload_n 3) (x := 3) (k := 0) (n := 1) (v := .int x) (by decide +kernel) rfl rfl rfl ?_
    refine pm_ld_ok (i := .aload_n 0) (x := 0) (k := 2) (n := 1) (v := .retAddr 3) (by decide +kernel) rfl rfl rfl ?_
    refine pm_scl (by decide +kernel) ?_
    refine pm_op_ok (i := .iconst 5) (st' := [.int 5, .int (Int32.ofNat sc.1), .int x]) (by decide +kernel) rfl ?_
    refine pm_op_ok (i := .isub) (st' := [.int (Int32.ofNat sc.1 - 5), .int x]) (by decide +kernel) rfl ?_
    refine pm_br2 (c := .gt) (off := 991) (by decide +kernel) (by decide) (fun _ => ?_) (fun hf => ?_)
    · show pm_Good sc mm_L 1014 _ _ _ _ _ _
      refine pm_op_ok (i := .iconst 1) (st' := [.int 1]) (by decide +kernel) rfl ?_
      exact pm_iret (ty := .boolean) (by decide +kernel) rfl rfl rfl
    · show pm_Good sc mm_L 26 _ _ _ _ _ _
      have hs1 : (Int32.ofNat sc.1).toInt = sc.1 := Int32.toInt_ofNat_of_lt (by omega)
      have hs5 : (5 : Int32).toInt = 5 := rfl
      have hs2 : (Int32.ofNat sc.1 - 5).toInt = sc.1 - 5 := by
        rw [sx_sub (by rw [hs1, hs5]; omega) (by rw [hs1, hs5]; omega), hs1, hs5]
      have hle : z ≤ sc.1 - 5 := by
        have h1 : ¬ (Int32.ofNat sc.1 - 5 < x) := of_decide_eq_false hf
        have h2 := Int32.not_lt.mp h1
        have h3 := Int32.le_iff_toInt_le.mp h2
        rw [hs2, y3] at h3
        exact h3
      have hup1 : (li_up g (fun o => (sc.2 (z.toNat + o)).toInt))[1]? = some z := by rw [li_up_o (by omega)]; exact hz
      refine li_26 (li_all hI) v w0 (li_up g (fun o => (sc.2 (z.toNat + o)).toInt)) _ w ?_ hup1 (li_Tg hT (li_up_o (by omega)) (li_up_o (by omega))) ⟨⟨?_, ?_, ?_⟩, li_ll hup1 y3, trivial, ?_⟩
      · refine Or.inr ⟨z.toNat, by rw [hup1]; congr 1; omega, by omega, by omega, fun o ho => ?_⟩
        rw [li_up_n ho hgl]
      · show (li_up g _).length = 44
        unfold li_up
        rw [List.length_mapIdx]
        exact hgl
      · rw [li_up_o (by omega)]
        exact hn.2.1
      · intro q hq
        rcases List.mem_append.mp hq with hq | hq
        · have h7 := (ll_f7 v).1 q hq
          obtain ⟨y, c1, c2⟩ := hn.2.2 q (List.mem_append_left _ hq)
          exact ⟨y, by rw [li_up_o (by omega)]; exact c1, c2⟩
        · simp only [lh_j, List.mem_cons, List.not_mem_nil, or_false] at hq
          rcases hq with rfl | rfl | rfl | rfl | rfl | rfl
          · exact ⟨z, hup1, b2, by simp only; omega⟩
          · exact ⟨_, li_up_n (o := 0) (by omega) hgl, sx_rng _⟩
          · exact ⟨_, li_up_n (o := 1) (by omega) hgl, sx_rng _⟩
          · exact ⟨_, li_up_n (o := 2) (by omega) hgl, sx_rng _⟩
          · exact ⟨_, li_up_n (o := 3) (by omega) hgl, sx_rng _⟩
          · exact ⟨_, li_up_n (o := 4) (by omega) hgl, sx_rng _⟩
      · refine lo_w_ok (fun i hi => ?_) (ll_ok_w v) hw
        rcases ll_ok_i hi with h | h
        · exact li_up_o (by omega)
        · exact li_up_o (by omega)
def li_Z : List sx_C := ((pi_ob (lh_z false) 4 4 (.inl (0, 4))).set 5 (.inl (0, 5, false, []))).set 44 (.inl (0, 50, false, []))
theorem li_ZA : (((lh_z0.set 2 (.inl (1, 200, true, []))).set 43 (.inl (0, 200, true, []))).set 5 (.inl (0, 5, false, []))).set 44 (.inl (0, 50, false, [])) = li_Z := rfl
theorem li_Zo : lo_w li_o8 li_Z = true := by decide +kernel
theorem li_Zt : ∃ o, li_Z[4]? = some (.inr o) ∧ o.2[4]? = some (.inl (0, 4)) := ⟨_, rfl, rfl⟩
theorem li_Ze : ((pi_ob li_Z 4 4 (.inl (8, 0))).set 5 (.inl (0, 5, true, []))).set 44 (.inl (0, 50, true, [(0, .inl (8, 0))])) = lh_z false := rfl
theorem li_Zq : lh_z0[2]? = some (.inl (1, 200, false, [])) ∧ lh_z0[43]? = some (.inl (0, 200, false, [])) ∧ lh_z0[5]? = some (.inl (0, 5, false, lh_k0 0)) ∧ lh_z0[44]? = some (.inl (0, 50, false, (0, .inl (0, 4)) :: lh_k0 5)) := ⟨rfl, rfl, rfl, rfl⟩
theorem li_n8s {g : List Int} {n : Nat} {env : sx_N} (h : sx_n g n env) (h8 : 8 < n) {z : Int} (hz : 0 ≤ z ∧ z ≤ 5) (hb : ∀ q ∈ env, q.1 = 8 → q.2.1 ≤ 0 ∧ 5 ≤ q.2.2) : sx_n (g.set 8 z) n env := by
  refine ⟨by rw [List.length_set]; exact h.1, by rw [List.getElem?_set_ne (by decide)]; exact h.2.1, fun q hq => ?_⟩
  by_cases e : q.1 = 8
  · have := hb q hq e
    exact ⟨z, by rw [e, List.getElem?_set_self (by rw [h.1]; exact h8)], by omega, by omega⟩
  · rw [List.getElem?_set_ne (fun e' => e e'.symm)]
    exact h.2.2 q hq
set_option maxHeartbeats 4000000 in
theorem li_0 {sc : pm_Z} (hsc : sc.1 ≤ 320) : pm_Good sc mm_L 0 [(0, .retAddr 3)] [] [] 0 0 li_Q := by
  have h : sx_run (fun _ => []) (fun _ => none) (fun _ _ _ _ => none, fun _ _ _ _ _ => none) 100000 lh_x (lh_a 18) [lh_h0] false 0 0 0 7 [(1, (-1), (-1)), (2, 0, 0), (3, 0, 0), (4, 0, 0), (5, 0, 0), (6, 0, 0)] [(0, .inr (.retAddr 3))] [] [] lh_k = true := by
    rw [← sx_runF_eq]
    exact rs_0
  have hO : sx_orOK sc lo_tr [] (fun _ _ _ _ => none, fun _ _ _ _ _ => none) := ⟨(fun j y n env as aw alts g As w h => by cases h), (fun j y n env as aw outs g As w h => by cases h)⟩
  refine sx_run_ok hO 100000 lh_x _ _ _ _ _ _ _ _ _ _ _ _ [0, -1, 0, 0, 0, 0, 0] [0, -1, 0, 0, 0, 0, 0] _ [] [] li_Q h mv_L ⟨Or.inl ⟨-1, rfl, by decide⟩, [0, -1, 0, 0, 0, 0, 0], List.prefix_rfl, trivial⟩ List.prefix_rfl ⟨⟨rfl, rfl, ?_⟩, ⟨⟨rfl, rfl⟩, trivial⟩, trivial, ⟨rfl, fun q a c h1 => by cases h1⟩⟩ (fun h9 hh => ?_) (fun g' o r w' _ hk hmo => li_k hk hmo)
  · intro q hq
    simp only [List.mem_cons, List.not_mem_nil, or_false] at hq
    rcases hq with rfl | rfl | rfl | rfl | rfl | rfl
    · exact ⟨-1, rfl, by decide, by decide⟩
    all_goals exact ⟨0, rfl, by decide, by decide⟩
  · have e := List.mem_singleton.mp hh
    subst e
    refine ⟨[0, -1, 0, 0, 0, 0, 0], List.prefix_rfl, by decide, by decide, ⟨rfl, rfl, fun q hq => by cases hq⟩, Or.inl rfl, fun g2 lv2 w2 t2 hm2 _ => ?_⟩
    rw [List.append_nil] at hm2
    obtain ⟨hn, hl, -, hw⟩ := hm2
    have hgl : g2.length = 44 := hn.1
    have h20 : g2[0]? = some 0 := hn.2.1
    obtain ⟨z, z1, -, -⟩ := hn.2.2 (1, 0, 400) (List.mem_append_right _ (by decide))
    obtain ⟨y1, y2, y3, y4⟩ := li_Zq
    have hw := li_self hw
    obtain ⟨c2, k2, q2⟩ := sx_w_get hw y1
    obtain ⟨xs, rfl, l2, -, ch, -⟩ := sx_rc_a q2
    obtain ⟨c43, k43, q43⟩ := sx_w_get hw y2
    obtain ⟨ys, rfl, l43, -, -, -⟩ := sx_rc_a q43
    obtain ⟨c5, k5, q5⟩ := sx_w_get hw y3
    obtain ⟨ks, rfl, l5, -, -, s5⟩ := sx_rc_a q5
    obtain ⟨c44, k44, q44⟩ := sx_w_get hw y4
    obtain ⟨ts, rfl, l44, -, -, s44⟩ := sx_rc_a q44
    simp only at k2 k43 k5 k44 l2 l43 l5 l44 ch s5 s44
    have h5 := sx_w_setA (sx_w_setA (sx_w_setA (sx_w_setA hw k2 (a := .inl (1, 200, true, [])) ⟨rfl, l2, fun _ => k2, fun _ => ch trivial, (fun q hq => by cases hq)⟩) k43 (a := .inl (0, 200, true, [])) ⟨rfl, l43, fun _ => k43, (fun q => by cases q), (fun q hq => by cases hq)⟩) k5 (a := .inl (0, 5, false, [])) ⟨rfl, l5, (fun q => by cases q), (fun q => by cases q), (fun q hq => by cases hq)⟩) k44 (a := .inl (0, 50, false, [])) ⟨rfl, l44, (fun q => by cases q), (fun q => by cases q), (fun q hq => by cases hq)⟩
    rw [li_ZA] at h5
    have hs8 : ∀ j, j ≠ 8 → (g2.set 8 4)[j]? = g2[j]? := fun j hj => List.getElem?_set_ne (fun e => hj e.symm)
    have h88 : (g2.set 8 4)[8]? = some 4 := List.getElem?_set_self (by omega)
    have h6 := lo_w_ok (g' := g2.set 8 4) (fun j hj => hs8 j (li_o8_i hj).2) li_Zo h5
    have h7 : sx_w w2 (g2.set 8 4) (pi_ob li_Z 4 4 (.inl (8, 0))) w2 := pi_ob_ok h6 (fun o a ho ha x hx => by
      obtain ⟨o', a1, a2⟩ := li_Zt
      rw [a1] at ho
      cases ho
      rw [a2] at ha
      cases ha
      obtain ⟨z9, y9, u1, u2, u3⟩ := hx
      simp only at u1 u3
      rw [hs8 0 (by omega), h20] at u1
      cases u1
      exact ⟨4, y9, h88, u2, by simp only; omega⟩)
    obtain ⟨x0, x1, z9, y9, u1, u2, u3⟩ := s44 _ List.mem_cons_self
    simp only at x1 u1 u3
    rw [h20] at u1
    cases u1
    cases u2
    have sp : ∀ s ∈ [((0 : Nat), (Sum.inl (8, 0) : sx_V))], ∃ x, ts[s.1]? = some x ∧ sx_r (g2.set 8 4) s.2 (.int x) := fun s hs => by
      have e := List.mem_singleton.mp hs
      subst e
      exact ⟨x0, x1, 4, x0, h88, rfl, by simp only; omega⟩
    have h10 := sx_w_setA (sx_w_setA h7 k5 (a := .inl (0, 5, true, [])) ⟨rfl, l5, fun _ => k5, (fun q => by cases q), (fun q hq => by cases hq)⟩) k44 (a := .inl (0, 50, true, [(0, .inl (8, 0))])) ⟨rfl, l44, fun _ => k44, (fun q => by cases q), sp⟩
    rw [li_Ze] at h10
    have hgl8 : (g2.set 8 4).length = 44 := by rw [List.length_set]; exact hgl
    have h11 := li_z hgl8 (by rw [hs8 0 (by omega)]; exact h20) h10
    have key : ∀ (j : Nat) (c : Int), (j, (Sum.inl (0, c) : sx_V)) ∈ lh_k0 0 → (5 + j, (Sum.inl (0, c) : sx_V)) ∈ lh_k0 5 → ts.getD (5 + j) 0 = ks.getD j 0 := fun j c m1 m2 => by
      obtain ⟨xa, xa1, za, ya, a1, a2, a3⟩ := s5 _ m1
      obtain ⟨xb, xb1, zb, yb, b1, b2, b3⟩ := s44 _ (List.mem_cons_of_mem _ m2)
      simp only at xa1 xb1 a1 a3 b1 b3
      cases a2
      cases b2
      rw [h20] at a1 b1
      cases a1
      cases b1
      have e : xb = xa := Int32.toInt_inj.mp (by omega)
      rw [List.getD_eq_getElem?_getD, List.getD_eq_getElem?_getD, xa1, xb1, e]
    have kk : ∀ j : Nat, (j : Int) < 4 → ts.getD (5 + j) 0 = ks.getD j 0 := fun j hj => by
      have hj4 : j = 0 ∨ j = 1 ∨ j = 2 ∨ j = 3 := by omega
      rcases hj4 with rfl | rfl | rfl | rfl
      · exact key 0 0 (List.mem_cons_self) (List.mem_cons_self)
      · exact key 1 0 (List.mem_cons_of_mem _ List.mem_cons_self) (List.mem_cons_of_mem _ List.mem_cons_self)
      · exact key 2 2 (List.mem_cons_of_mem _ (List.mem_cons_of_mem _ List.mem_cons_self)) (List.mem_cons_of_mem _ (List.mem_cons_of_mem _ List.mem_cons_self))
      · exact key 3 3 (List.mem_cons_of_mem _ (List.mem_cons_of_mem _ (List.mem_cons_of_mem _ List.mem_cons_self))) (List.mem_cons_of_mem _ (List.mem_cons_of_mem _ (List.mem_cons_of_mem _ List.mem_cons_self)))
    have hs7 : ∀ j, j ≠ 7 → ((g2.set 8 4).set 7 0)[j]? = (g2.set 8 4)[j]? := fun j hj => List.getElem?_set_ne (fun e => hj e.symm)
    exact li_18 hsc _ false w2 ((g2.set 8 4).set 7 0) lv2 w2 z ⟨li_n7 (li_n8s hn (by show 8 < 44; decide) ⟨by decide, by decide⟩ (li_e8 false)) (by show 7 < 44; decide) ⟨Int.le_refl _, by decide⟩ (li_e7 false), li_lg (by rw [hs7 1 (by omega), hs8 1 (by omega)]) hl, trivial, h11⟩ (by rw [hs7 1 (by omega), hs8 1 (by omega)]; exact z1) ⟨xs, ys, 0, k2, k43, List.getElem?_set_self (by rw [hgl8]; decide), ⟨l2, l43, Int.le_refl _, by decide, ch trivial, fun k hk => by omega⟩, ks, ts, 4, k5, k44, by rw [hs7 8 (by omega)]; exact h88, kk⟩ (Nat.lt_succ_self _)
