/-! write: a letter more on both sides -/
theorem lw_t1 (v : Bool) : (lh_w v)[1]? = some (.inr (5, [.inr (.ref 2), .inr (.ref 3), .inl (7, 0), .inl (9, 0)])) := by cases v <;> rfl
theorem lw_t42 (v : Bool) : (lh_w v)[42]? = some (.inr (8, [.inr (.ref 43), .inl (7, 0), .inr (.ref 44), .inr (.ref 45), .inr (.ref 46), .inr (.ref 47), .inr (.ref 48), .inl (38, 0), .inr (.ref 49), .inl (8, 0), .inr (.ref 50), .inl (27, 0), .inl (41, 0), .inr (.ref 51)])) := by cases v <;> rfl
theorem lw_t0 (v : Bool) : ∃ l, (lh_w v)[0]? = some (.inr (7, .inr (.ref 1) :: l)) := by cases v <;> exact ⟨_, rfl⟩
theorem lw_fl (v : Bool) : pz_fl (lh_w v) 43 0 = true ∧ pz_fl (lh_w v) 2 1 = true := by cases v <;> decide +kernel
theorem li_self {w0 : pm_W} {g : List Int} {aw : List sx_C} {w : pm_W} (hw : sx_w w0 g aw w) : sx_w w g aw w := by
  refine ⟨hw.1, fun q a c h1 h2 => ?_⟩
  have h3 := hw.2 q a c h1 h2
  cases a with
  | inl a =>
    cases c with
    | inl c =>
      obtain ⟨c1, c2, c3, c4⟩ := h3
      exact ⟨c1, c2, fun _ => h2, c4⟩
    | inr c => cases h3
  | inr a =>
    cases c with
    | inl c => cases h3
    | inr c => exact h3
def li_A0 (v : Bool) : List sx_C := ((((lh_w v).set 1 (.inr (5, []))).set 42 (.inr (8, []))).set 2 (.inl (1, 200, false, []))).set 43 (.inl (0, 200, false, []))
theorem li_A1 (v : Bool) : lo_w li_o7 (li_A0 v) = true := by cases v <;> decide +kernel
theorem li_A2 (v : Bool) : (((((li_A0 v).set 1 (.inr (5, [.inr (.ref 2), .inr (.ref 3), .inl (7, 0), .inl (9, 0)]))).set 42 (.inr (8, [.inr (.ref 43), .inl (7, 0), .inr (.ref 44), .inr (.ref 45), .inr (.ref 46), .inr (.ref 47), .inr (.ref 48), .inl (38, 0), .inr (.ref 49), .inl (8, 0), .inr (.ref 50), .inl (27, 0), .inl (41, 0), .inr (.ref 51)]))).set 2 (.inl (1, 200, true, []))).set 43 (.inl (0, 200, true, []))) = lh_w v := by cases v <;> rfl
theorem li_chs {xs : List Int32} (h : sx_ch xs) {i : Nat} {c : Int32} (hc : 0 ≤ c.toInt ∧ c.toInt ≤ 65535) : sx_ch (xs.set i c) := fun x hx => by
  rcases List.mem_or_eq_of_mem_set hx with h1 | h1
  · exact h x h1
  · rw [h1]
    exact hc
theorem li_wn {v : Bool} {w0 : pm_W} {g : List Int} {w : pm_W} {xs ys : List Int32} {s nx c : Int32} {m7 m9 m11 m12 : Value} {sz : Int} (hgl : g.length = 44) (hw : sx_w w0 g (lh_w v) w) (t1 : w[1]? = some (.inr (5, [.ref 2, .ref 3, .int s, .int nx]))) (t42 : w[42]? = some (.inr (8, [.ref 43, .int s, .ref 44, .ref 45, .ref 46, .ref 47, .ref 48, m7, .ref 49, m9, .ref 50, m11, m12, .ref 51]))) (hxl : xs.length = 200) (hyl : ys.length = 200) (hch : sx_ch xs) (hs : s.toInt = sz) (hsz : 0 ≤ sz ∧ sz < 200) (hc : 0 ≤ c.toInt ∧ c.toInt ≤ 65535) : sx_w ((((w.set 2 (.inl (1, xs.set s.toNatClampNeg c))).set 1 (.inr (5, [.ref 2, .ref 3, .int (s + 1), .int nx]))).set 43 (.inl (0, ys.set s.toNatClampNeg c))).set 42 (.inr (8, [.ref 43, .int (s + 1), .ref 44, .ref 45, .ref 46, .ref 47, .ref 48, m7, .ref 49, m9, .ref 50, m11, m12, .ref 51]))) (g.set 7 (sz + 1)) (lh_w v) ((((w.set 2 (.inl (1, xs.set s.toNatClampNeg c))).set 1 (.inr (5, [.ref 2, .ref 3, .int (s + 1), .int nx]))).set 43 (.inl (0, ys.set s.toNatClampNeg c))).set 42 (.inr (8, [.ref 43, .int (s + 1), .ref 44, .ref 45, .ref 46, .ref 47, .ref 48, m7, .ref 49, m9, .ref 50, m11, m12, .ref 51]))) := by
  have hlen : 44 ≤ w.length := by
    have := hw.1
    have h9 : (lh_w v).length = 52 := by cases v <;> rfl
    omega
  have e1 : (s + 1).toInt = sz + 1 := by rw [pl_p1 (by omega) (by omega), hs]
  have hg : ∀ j, j ≠ 7 → (g.set 7 (sz + 1))[j]? = g[j]? := fun j hj => List.getElem?_set_ne (fun e => hj e.symm)
  have h7 : (g.set 7 (sz + 1))[7]? = some (sz + 1) := List.getElem?_set_self (by omega)
  have tr : ∀ {j : Nat} {x : Value}, j ≠ 7 → sx_r g (.inl (j, 0)) x → sx_r (g.set 7 (sz + 1)) (.inl (j, 0)) x := fun hj ⟨z, y, y1, y2, y3⟩ => ⟨z, y, by rw [hg _ hj]; exact y1, y2, y3⟩
  obtain ⟨c1, hc1, hr1⟩ := sx_w_get hw (lw_t1 v)
  rw [t1] at hc1
  cases hc1
  obtain ⟨-, -, -, -, a4, -⟩ := hr1
  obtain ⟨c2, hc2, hr2⟩ := sx_w_get hw (lw_t42 v)
  rw [t42] at hc2
  cases hc2
  obtain ⟨-, -, -, -, -, -, -, -, r8, -, r10, -, r12, r13, -, -⟩ := hr2
  have k2 : sx_rc w0 g 2 (.inl (1, 200, false, [])) (.inl (1, xs.set s.toNatClampNeg c)) := ⟨rfl, by simp only; rw [List.length_set]; exact hxl, (fun q => by cases q), fun _ => li_chs hch hc, (fun q hq => by cases hq)⟩
  have k43 : sx_rc w0 g 43 (.inl (0, 200, false, [])) (.inl (0, ys.set s.toNatClampNeg c)) := ⟨rfl, by simp only; rw [List.length_set]; exact hyl, (fun q => by cases q), (fun q => by cases q), (fun q hq => by cases hq)⟩
  have k1 : sx_rc w0 g 1 (.inr (5, [])) (.inr (5, [])) := ⟨rfl, trivial⟩
  have k42 : sx_rc w0 g 42 (.inr (8, [])) (.inr (8, [])) := ⟨rfl, trivial⟩
  have h1 := sx_w_set (sx_w_set (sx_w_set (sx_w_set hw k1) k42) k2) k43
  have h2 : sx_w w0 (g.set 7 (sz + 1)) (li_A0 v) _ := lo_w_ok (fun j hj => hg j (fun e => by subst e; cases hj)) (li_A1 v) h1
  have n1 : sx_rc w0 (g.set 7 (sz + 1)) 1 (.inr (5, [.inr (.ref 2), .inr (.ref 3), .inl (7, 0), .inl (9, 0)])) (.inr (5, [.ref 2, .ref 3, .int (s + 1), .int nx])) := ⟨rfl, rfl, rfl, pz_s_ok h7 e1, tr (by decide) a4, trivial⟩
  have n42 : sx_rc w0 (g.set 7 (sz + 1)) 42 (.inr (8, [.inr (.ref 43), .inl (7, 0), .inr (.ref 44), .inr (.ref 45), .inr (.ref 46), .inr (.ref 47), .inr (.ref 48), .inl (38, 0), .inr (.ref 49), .inl (8, 0), .inr (.ref 50), .inl (27, 0), .inl (41, 0), .inr (.ref 51)])) (.inr (8, [.ref 43, .int (s + 1), .ref 44, .ref 45, .ref 46, .ref 47, .ref 48, m7, .ref 49, m9, .ref 50, m11, m12, .ref 51])) := ⟨rfl, rfl, pz_s_ok h7 e1, rfl, rfl, rfl, rfl, rfl, tr (by decide) r8, rfl, tr (by decide) r10, rfl, tr (by decide) r12, tr (by decide) r13, rfl, trivial⟩
  have h3 := sx_w_set (sx_w_set h2 n1) n42
  have eW : ((((((w.set 1 (.inr (5, []))).set 42 (.inr (8, []))).set 2 (.inl (1, xs.set s.toNatClampNeg c))).set 43 (.inl (0, ys.set s.toNatClampNeg c))).set 1 (.inr (5, [.ref 2, .ref 3, .int (s + 1), .int nx]))).set 42 (.inr (8, [.ref 43, .int (s + 1), .ref 44, .ref 45, .ref 46, .ref 47, .ref 48, m7, .ref 49, m9, .ref 50, m11, m12, .ref 51]))) = ((((w.set 2 (.inl (1, xs.set s.toNatClampNeg c))).set 1 (.inr (5, [.ref 2, .ref 3, .int (s + 1), .int nx]))).set 43 (.inl (0, ys.set s.toNatClampNeg c))).set 42 (.inr (8, [.ref 43, .int (s + 1), .ref 44, .ref 45, .ref 46, .ref 47, .ref 48, m7, .ref 49, m9, .ref 50, m11, m12, .ref 51]))) := by
    rw [List.set_comm (i := 42) (j := 2) _ _ (by decide), List.set_comm (i := 42) (j := 43) _ _ (by decide), List.set_comm (i := 42) (j := 1) _ _ (by decide), List.set_set, List.set_comm (i := 1) (j := 2) _ _ (by decide), List.set_comm (i := 1) (j := 43) _ _ (by decide), List.set_set, List.set_comm (i := 43) (j := 1) _ _ (by decide)]
  rw [eW] at h3
  have h4 := li_self h3
  have g2 : (((((w.set 2 (.inl (1, xs.set s.toNatClampNeg c))).set 1 (.inr (5, [.ref 2, .ref 3, .int (s + 1), .int nx]))).set 43 (.inl (0, ys.set s.toNatClampNeg c))).set 42 (.inr (8, [.ref 43, .int (s + 1), .ref 44, .ref 45, .ref 46, .ref 47, .ref 48, m7, .ref 49, m9, .ref 50, m11, m12, .ref 51]))))[2]? = some (.inl (1, xs.set s.toNatClampNeg c)) := by
    rw [List.getElem?_set_ne (by decide), List.getElem?_set_ne (by decide), List.getElem?_set_ne (by decide), List.getElem?_set_self (by omega)]
  have g43 : (((((w.set 2 (.inl (1, xs.set s.toNatClampNeg c))).set 1 (.inr (5, [.ref 2, .ref 3, .int (s + 1), .int nx]))).set 43 (.inl (0, ys.set s.toNatClampNeg c))).set 42 (.inr (8, [.ref 43, .int (s + 1), .ref 44, .ref 45, .ref 46, .ref 47, .ref 48, m7, .ref 49, m9, .ref 50, m11, m12, .ref 51]))))[43]? = some (.inl (0, ys.set s.toNatClampNeg c)) := by
    rw [List.getElem?_set_ne (by decide), List.getElem?_set_self (by simp only [List.length_set]; omega)]
  have h5 := sx_w_setA (sx_w_setA h4 g2 (a := .inl (1, 200, true, [])) ⟨rfl, by simp only; rw [List.length_set]; exact hxl, fun _ => g2, fun _ => li_chs hch hc, (fun q hq => by cases hq)⟩) g43 (a := .inl (0, 200, true, [])) ⟨rfl, by simp only; rw [List.length_set]; exact hyl, fun _ => g43, (fun q => by cases q), (fun q hq => by cases hq)⟩
  rw [li_A2 v] at h5
  exact h5
theorem li_Tn {xs ys : List Int32} {sz : Int} {c : Int32} {n : Nat} (h : pz_T xs ys sz) (hn : (n : Int) = sz) (hs : sz < 200) (hc : 32 ≤ c.toInt ∧ c.toInt ≤ 126) : pz_T (xs.set n c) (ys.set n c) (sz + 1) := by
  obtain ⟨a, b, d, e, f, k⟩ := h
  refine ⟨by rw [List.length_set]; exact a, by rw [List.length_set]; exact b, by omega, by omega, li_chs f ⟨by omega, by omega⟩, fun j hj => ?_⟩
  by_cases hjn : j = n
  · subst hjn
    rw [List.getD_eq_getElem?_getD, List.getD_eq_getElem?_getD, List.getElem?_set_self (by omega), List.getElem?_set_self (by omega)]
    exact ⟨rfl, hc⟩
  · have := k j (by omega)
    rw [List.getD_eq_getElem?_getD, List.getD_eq_getElem?_getD, List.getElem?_set_ne (fun e => hjn e.symm), List.getElem?_set_ne (fun e => hjn e.symm), ← List.getD_eq_getElem?_getD, ← List.getD_eq_getElem?_getD]
    exact this
set_option maxHeartbeats 4000000 in
theorem li_wr {sc : pm_Z} {z : Int} (hB : ∀ u, li_B sc z u 1008) (v : Bool) : li_B sc z v 168 := by
  intro w0 g lv w hs hz hT hm
  have hm0 := hm
  obtain ⟨hn, hl, -, hw⟩ := hm
  have hgl : g.length = 44 := hn.1
  obtain ⟨x, rfl, hx⟩ := li_lv hz hl
  obtain ⟨z', b1, b2, b3⟩ := hn.2.2 (1, 0, 395) (List.mem_append_right _ (by decide))
  rw [hz] at b1
  cases b1
  simp only at b2 b3
  have hsl : z + 4 < sc.1 ∧ sc.1 < 2 ^ 31 := by
    rcases hs with ⟨z9, h1, h2⟩ | ⟨i, h1, h2, h3, h4⟩
    · rw [hz] at h1
      cases h1
      omega
    · rw [hz] at h1
      cases h1
      omega
  have ex : (x + 1).toInt = z + 1 := by rw [pl_p1 (by omega) (by omega), hx]
  have hvi : vp_in (x + 1) sc.1 := pl_in (by omega) (by omega)
  obtain ⟨xs, ys, sz, a1, a2, a3, a4⟩ := id hT
  have hw2 := pz_fl_ok hw (lw_fl v).2 a1
  have hw43 := pz_fl_ok hw (lw_fl v).1 a2
  have hT4 := a4.2.2.2.1
  have hT3 := a4.2.2.1
  obtain ⟨l0, hl0⟩ := lw_t0 v
  obtain ⟨cc, hc0, hr0⟩ := sx_w_get hw hl0
  obtain ⟨fs, rfl, hf⟩ := sx_rc_o hr0
  obtain ⟨v1, fs, rfl, r1, -⟩ := sx_f2_cons hf
  have r1 : v1 = .ref 1 := r1
  subst r1
  obtain ⟨cc, hc1, hr1⟩ := sx_w_get hw (lw_t1 v)
  obtain ⟨f1, rfl, hf1⟩ := sx_rc_o hr1
  obtain ⟨v1, m, rfl, r1, hf1⟩ := sx_f2_cons hf1
  obtain ⟨v2, m, rfl, r2, hf1⟩ := sx_f2_cons hf1
  obtain ⟨v3, m, rfl, r3, hf1⟩ := sx_f2_cons hf1
  obtain ⟨v4, m, rfl, r4, hf1⟩ := sx_f2_cons hf1
  cases m with
  | cons _ _ => cases hf1
  | nil =>
  have r1 : v1 = .ref 2 := r1
  have r2 : v2 = .ref 3 := r2
  obtain ⟨z3, s, u1, u2, u3⟩ := r3
  obtain ⟨z4, nx, u4, u5, u6⟩ := r4
  simp only at u1 u3
  rw [a3] at u1
  cases u1
  subst r1 r2 u2 u5
  have hs0 : s.toInt = sz := by omega
  obtain ⟨cc, hc42, hr42⟩ := sx_w_get hw (lw_t42 v)
  obtain ⟨f2, rfl, hf2⟩ := sx_rc_o hr42
  obtain ⟨y1, m, rfl, p1, hf2⟩ := sx_f2_cons hf2
  obtain ⟨y2, m, rfl, p2, hf2⟩ := sx_f2_cons hf2
  obtain ⟨y3, m, rfl, p3, hf2⟩ := sx_f2_cons hf2
  obtain ⟨y4, m, rfl, p4, hf2⟩ := sx_f2_cons hf2
  obtain ⟨y5, m, rfl, p5, hf2⟩ := sx_f2_cons hf2
  obtain ⟨y6, m, rfl, p6, hf2⟩ := sx_f2_cons hf2
  obtain ⟨y7, m, rfl, p7, hf2⟩ := sx_f2_cons hf2
  obtain ⟨y8, m, rfl, p8, hf2⟩ := sx_f2_cons hf2
  obtain ⟨y9, m, rfl, p9, hf2⟩ := sx_f2_cons hf2
  obtain ⟨y10, m, rfl, p10, hf2⟩ := sx_f2_cons hf2
  obtain ⟨y11, m, rfl, p11, hf2⟩ := sx_f2_cons hf2
  obtain ⟨y12, m, rfl, p12, hf2⟩ := sx_f2_cons hf2
  obtain ⟨y13, m, rfl, p13, hf2⟩ := sx_f2_cons hf2
  obtain ⟨y14, m, rfl, p14, hf2⟩ := sx_f2_cons hf2
  cases m with
  | cons _ _ => cases hf2
  | nil =>
  have p1 : y1 = .ref 43 := p1
  have p3 : y3 = .ref 44 := p3
  have p4 : y4 = .ref 45 := p4
  have p5 : y5 = .ref 46 := p5
  have p6 : y6 = .ref 47 := p6
  have p7 : y7 = .ref 48 := p7
  have p9 : y9 = .ref 49 := p9
  have p11 : y11 = .ref 50 := p11
  have p14 : y14 = .ref 51 := p14
  obtain ⟨z5, s9, w1, w2, w3⟩ := p2
  simp only at w1 w3
  rw [a3] at w1
  cases w1
  subst p1 p3 p4 p5 p6 p7 p9 p11 p14 w2
  have es : s = s9 := Int32.toInt_inj.mp (by omega)
  subst es
  generalize hcd : sc.2 (x + 1).toNatClampNeg = c

  by_cases hC : 32 ≤ c.toInt ∧ c.toInt ≤ 126 ∧ s.toInt < 200
  · refine pm_ld_ok (i := .aload_n 1) (x := 1) (k := 2) (n := 1) (v := .ref 0) (pe_d mv_L (show pm_fetch mk_L 168 = some (.aload_n 1, 1, 0, 0, 0) from rfl)) rfl rfl rfl ?_
    refine pm_ld_ok (i := .aload_n 0) (x := 0) (k := 2) (n := 1) (v := .retAddr 3) (pe_d mv_L (show pm_fetch mk_L 169 = some (.aload_n 0, 1, 0, 0, 0) from rfl)) rfl rfl rfl ?_
    refine pm_ld_ok (i := .iload_n 3) (x := 3) (k := 0) (n := 1) (v := .int x) (pe_d mv_L (show pm_fetch mk_L 170 = some (.iload_n 3, 1, 0, 0, 0) from rfl)) rfl rfl rfl ?_
    refine pm_op_ok (i := .iconst 1) (st' := [.int 1, .int x, .retAddr 3, .ref 0]) (pe_d mv_L (show pm_fetch mk_L 171 = some (.iconst 1, 1, 0, 0, 0) from rfl)) rfl ?_
    refine pm_op_ok (i := .iadd) (st' := [.int (x + 1), .retAddr 3, .ref 0]) (pe_d mv_L (show pm_fetch mk_L 172 = some (.iadd, 1, 0, 0, 0) from rfl)) rfl ?_
    refine pm_scd (pe_d mv_L (show pm_fetch mk_L 173 = some (.iaload, 1, 0, 0, 0) from rfl)) hvi ?_
    rw [hcd]
    refine pe_callV (y := (mm_107, 1, 0, mk_107)) (As := [.int c]) (rest := []) (P1 := fun r w' => ∃ xr, r = some (.int xr) ∧ w' = ((w.set 2 (.inl (1, xs.set s.toNatClampNeg c))).set 1 (.inr (5, [.ref 2, .ref 3, .int (s + 1), .int nx])))) mv_L (show pm_fetch mk_L 174 = some (.invokevirtual 13, 3, 107, 0, 408) from rfl) rfl rfl rfl (fun v hv => by simp only [List.mem_cons, List.not_mem_nil, or_false] at hv; rcases hv with rfl <;> rfl) hc0 (show pm_cl[7]? = some _ from rfl) rfl (Nat.le_of_ble_eq_true rfl) (Nat.le_of_ble_eq_true rfl) (Nat.le_of_ble_eq_true rfl) (Nat.le_of_ble_eq_true rfl) (pw_107 hc0 rfl hc1 hw2 a4.1 (by omega) (fun q xr => absurd hC q) (fun q xr => ⟨xr, rfl, rfl⟩)) (fun r w' q => by obtain ⟨xr, -, q⟩ := q; rw [q]; simp only [List.length_set]) (fun r w' q => ?_)
    obtain ⟨xr, rfl, hww⟩ := q
    rw [hww]
    show pm_Good sc mm_L 177 _ [.int xr] ((w.set 2 (.inl (1, xs.set s.toNatClampNeg c))).set 1 (.inr (5, [.ref 2, .ref 3, .int (s + 1), .int nx]))) 52 7858 _
    refine pm_op_ok (i := .pop) (st' := []) (pe_d mv_L (show pm_fetch mk_L 177 = some (.pop, 1, 0, 0, 0) from rfl)) rfl ?_
    refine pm_ld_ok (i := .aload_n 2) (x := 2) (k := 2) (n := 1) (v := .ref 42) (pe_d mv_L (show pm_fetch mk_L 178 = some (.aload_n 2, 1, 0, 0, 0) from rfl)) rfl rfl rfl ?_
    refine pm_ld_ok (i := .aload_n 0) (x := 0) (k := 2) (n := 1) (v := .retAddr 3) (pe_d mv_L (show pm_fetch mk_L 179 = some (.aload_n 0, 1, 0, 0, 0) from rfl)) rfl rfl rfl ?_
    refine pm_ld_ok (i := .iload_n 3) (x := 3) (k := 0) (n := 1) (v := .int x) (pe_d mv_L (show pm_fetch mk_L 180 = some (.iload_n 3, 1, 0, 0, 0) from rfl)) rfl rfl rfl ?_
    refine pm_op_ok (i := .iconst 1) (st' := [.int 1, .int x, .retAddr 3, .ref 42]) (pe_d mv_L (show pm_fetch mk_L 181 = some (.iconst 1, 1, 0, 0, 0) from rfl)) rfl ?_
    refine pm_op_ok (i := .iadd) (st' := [.int (x + 1), .retAddr 3, .ref 42]) (pe_d mv_L (show pm_fetch mk_L 182 = some (.iadd, 1, 0, 0, 0) from rfl)) rfl ?_
    refine pm_scd (pe_d mv_L (show pm_fetch mk_L 183 = some (.iaload, 1, 0, 0, 0) from rfl)) hvi ?_
    rw [hcd]
    have d42 : (((w.set 2 (.inl (1, xs.set s.toNatClampNeg c))).set 1 (.inr (5, [.ref 2, .ref 3, .int (s + 1), .int nx]))))[42]? = some (.inr (8, [.ref 43, .int s, .ref 44, .ref 45, .ref 46, .ref 47, .ref 48, y8, .ref 49, y10, .ref 50, y12, y13, .ref 51])) := by rw [List.getElem?_set_ne (by decide), List.getElem?_set_ne (by decide)]; exact hc42
    have d43 : (((w.set 2 (.inl (1, xs.set s.toNatClampNeg c))).set 1 (.inr (5, [.ref 2, .ref 3, .int (s + 1), .int nx]))))[43]? = some (.inl (0, ys)) := by rw [List.getElem?_set_ne (by decide), List.getElem?_set_ne (by decide)]; exact hw43
    refine pe_callV (y := (mm_169, 1, 0, mk_169)) (As := [.int c]) (rest := []) (P1 := fun r w' => ∃ xr, r = some (.int xr) ∧ w' = ((((w.set 2 (.inl (1, xs.set s.toNatClampNeg c))).set 1 (.inr (5, [.ref 2, .ref 3, .int (s + 1), .int nx]))).set 43 (.inl (0, ys.set s.toNatClampNeg c))).set 42 (.inr (8, [.ref 43, .int (s + 1), .ref 44, .ref 45, .ref 46, .ref 47, .ref 48, y8, .ref 49, y10, .ref 50, y12, y13, .ref 51])))) mv_L (show pm_fetch mk_L 184 = some (.invokevirtual 17, 3, 169, 0, 816) from rfl) rfl rfl rfl (fun v hv => by simp only [List.mem_cons, List.not_mem_nil, or_false] at hv; rcases hv with rfl <;> rfl) d42 (show pm_cl[8]? = some _ from rfl) rfl (Nat.le_of_ble_eq_true rfl) (Nat.le_of_ble_eq_true rfl) (Nat.le_of_ble_eq_true rfl) (Nat.le_of_ble_eq_true rfl) (pw_169 d42 d43 a4.2.1 (by omega) (fun q xr => absurd hC q) (fun q xr => ⟨xr, rfl, rfl⟩)) (fun r w' q => by obtain ⟨xr, -, q⟩ := q; rw [q]; simp only [List.length_set]) (fun r w' q => ?_)
    obtain ⟨xr2, rfl, hww2⟩ := q
    rw [hww2]
    show pm_Good sc mm_L 187 _ [.int xr2] ((((w.set 2 (.inl (1, xs.set s.toNatClampNeg c))).set 1 (.inr (5, [.ref 2, .ref 3, .int (s + 1), .int nx]))).set 43 (.inl (0, ys.set s.toNatClampNeg c))).set 42 (.inr (8, [.ref 43, .int (s + 1), .ref 44, .ref 45, .ref 46, .ref 47, .ref 48, y8, .ref 49, y10, .ref 50, y12, y13, .ref 51]))) 52 7858 _
    refine pm_op_ok (i := .pop) (st' := []) (pe_d mv_L (show pm_fetch mk_L 187 = some (.pop, 1, 0, 0, 0) from rfl)) rfl ?_
    refine pm_goto (off := 820) (pe_d mv_L (show pm_fetch mk_L 188 = some (.goto 820, 3, 0, 0, 0) from rfl)) (by decide) ?_
    show pm_Good sc mm_L 1008 _ _ _ _ _ _
    have hs7 : ∀ j, j ≠ 7 → (g.set 7 (sz + 1))[j]? = g[j]? := fun j hj => List.getElem?_set_ne (fun e => hj e.symm)
    have hlen : 44 ≤ w.length := (List.getElem?_eq_some_iff.mp hw43).1
    have eN : ((s.toNatClampNeg : Nat) : Int) = sz := by rw [pz_cl]; omega
    refine hB v _ (g.set 7 (sz + 1)) _ _ (li_scr hs (fun i hi => hs7 i (by omega))) (by rw [hs7 1 (by omega)]; exact hz) ⟨xs.set s.toNatClampNeg c, ys.set s.toNatClampNeg c, sz + 1, ?_, ?_, List.getElem?_set_self (by omega), li_Tn a4 eN (by omega) ⟨hC.1, hC.2.1⟩⟩ ⟨li_n7 hn (by show 7 < 44; decide) ⟨by omega, by omega⟩ (li_b7 v), li_l7 hl, trivial, li_wn hgl hw hc1 hc42 a4.1 a4.2.1 a4.2.2.2.2.1 hs0 ⟨by omega, by omega⟩ ⟨by omega, by omega⟩⟩
    · rw [List.getElem?_set_ne (by decide), List.getElem?_set_ne (by decide), List.getElem?_set_ne (by decide), List.getElem?_set_self (by omega)]
    · rw [List.getElem?_set_ne (by decide), List.getElem?_set_self (by simp only [List.length_set]; omega)]
  · refine pm_ld_ok (i := .aload_n 1) (x := 1) (k := 2) (n := 1) (v := .ref 0) (pe_d mv_L (show pm_fetch mk_L 168 = some (.aload_n 1, 1, 0, 0, 0) from rfl)) rfl rfl rfl ?_
    refine pm_ld_ok (i := .aload_n 0) (x := 0) (k := 2) (n := 1) (v := .retAddr 3) (pe_d mv_L (show pm_fetch mk_L 169 = some (.aload_n 0, 1, 0, 0, 0) from rfl)) rfl rfl rfl ?_
    refine pm_ld_ok (i := .iload_n 3) (x := 3) (k := 0) (n := 1) (v := .int x) (pe_d mv_L (show pm_fetch mk_L 170 = some (.iload_n 3, 1, 0, 0, 0) from rfl)) rfl rfl rfl ?_
    refine pm_op_ok (i := .iconst 1) (st' := [.int 1, .int x, .retAddr 3, .ref 0]) (pe_d mv_L (show pm_fetch mk_L 171 = some (.iconst 1, 1, 0, 0, 0) from rfl)) rfl ?_
    refine pm_op_ok (i := .iadd) (st' := [.int (x + 1), .retAddr 3, .ref 0]) (pe_d mv_L (show pm_fetch mk_L 172 = some (.iadd, 1, 0, 0, 0) from rfl)) rfl ?_
    refine pm_scd (pe_d mv_L (show pm_fetch mk_L 173 = some (.iaload, 1, 0, 0, 0) from rfl)) hvi ?_
    rw [hcd]
    refine pe_callV (y := (mm_107, 1, 0, mk_107)) (As := [.int c]) (rest := []) (P1 := fun r w' => ∃ xr, r = some (.int xr) ∧ w' = w) mv_L (show pm_fetch mk_L 174 = some (.invokevirtual 13, 3, 107, 0, 408) from rfl) rfl rfl rfl (fun v hv => by simp only [List.mem_cons, List.not_mem_nil, or_false] at hv; rcases hv with rfl <;> rfl) hc0 (show pm_cl[7]? = some _ from rfl) rfl (Nat.le_of_ble_eq_true rfl) (Nat.le_of_ble_eq_true rfl) (Nat.le_of_ble_eq_true rfl) (Nat.le_of_ble_eq_true rfl) (pw_107 hc0 rfl hc1 hw2 a4.1 (by omega) (fun q xr => ⟨xr, rfl, rfl⟩) (fun q xr => absurd q hC)) (fun r w' q => by obtain ⟨xr, -, q⟩ := q; rw [q]) (fun r w' q => ?_)
    obtain ⟨xr, rfl, hww⟩ := q
    rw [hww]
    show pm_Good sc mm_L 177 _ [.int xr] w 52 7858 _
    refine pm_op_ok (i := .pop) (st' := []) (pe_d mv_L (show pm_fetch mk_L 177 = some (.pop, 1, 0, 0, 0) from rfl)) rfl ?_
    refine pm_ld_ok (i := .aload_n 2) (x := 2) (k := 2) (n := 1) (v := .ref 42) (pe_d mv_L (show pm_fetch mk_L 178 = some (.aload_n 2, 1, 0, 0, 0) from rfl)) rfl rfl rfl ?_
    refine pm_ld_ok (i := .aload_n 0) (x := 0) (k := 2) (n := 1) (v := .retAddr 3) (pe_d mv_L (show pm_fetch mk_L 179 = some (.aload_n 0, 1, 0, 0, 0) from rfl)) rfl rfl rfl ?_
    refine pm_ld_ok (i := .iload_n 3) (x := 3) (k := 0) (n := 1) (v := .int x) (pe_d mv_L (show pm_fetch mk_L 180 = some (.iload_n 3, 1, 0, 0, 0) from rfl)) rfl rfl rfl ?_
    refine pm_op_ok (i := .iconst 1) (st' := [.int 1, .int x, .retAddr 3, .ref 42]) (pe_d mv_L (show pm_fetch mk_L 181 = some (.iconst 1, 1, 0, 0, 0) from rfl)) rfl ?_
    refine pm_op_ok (i := .iadd) (st' := [.int (x + 1), .retAddr 3, .ref 42]) (pe_d mv_L (show pm_fetch mk_L 182 = some (.iadd, 1, 0, 0, 0) from rfl)) rfl ?_
    refine pm_scd (pe_d mv_L (show pm_fetch mk_L 183 = some (.iaload, 1, 0, 0, 0) from rfl)) hvi ?_
    rw [hcd]
    refine pe_callV (y := (mm_169, 1, 0, mk_169)) (As := [.int c]) (rest := []) (P1 := fun r w' => ∃ xr, r = some (.int xr) ∧ w' = w) mv_L (show pm_fetch mk_L 184 = some (.invokevirtual 17, 3, 169, 0, 816) from rfl) rfl rfl rfl (fun v hv => by simp only [List.mem_cons, List.not_mem_nil, or_false] at hv; rcases hv with rfl <;> rfl) hc42 (show pm_cl[8]? = some _ from rfl) rfl (Nat.le_of_ble_eq_true rfl) (Nat.le_of_ble_eq_true rfl) (Nat.le_of_ble_eq_true rfl) (Nat.le_of_ble_eq_true rfl) (pw_169 hc42 hw43 a4.2.1 (by omega) (fun q xr => ⟨xr, rfl, rfl⟩) (fun q xr => absurd q hC)) (fun r w' q => by obtain ⟨xr, -, q⟩ := q; rw [q]) (fun r w' q => ?_)
    obtain ⟨xr2, rfl, hww2⟩ := q
    rw [hww2]
    show pm_Good sc mm_L 187 _ [.int xr2] w 52 7858 _
    refine pm_op_ok (i := .pop) (st' := []) (pe_d mv_L (show pm_fetch mk_L 187 = some (.pop, 1, 0, 0, 0) from rfl)) rfl ?_
    refine pm_goto (off := 820) (pe_d mv_L (show pm_fetch mk_L 188 = some (.goto 820, 3, 0, 0, 0) from rfl)) (by decide) ?_
    show pm_Good sc mm_L 1008 _ _ _ _ _ _
    exact hB v w0 g _ w hs hz hT hm0
theorem li_26 {sc : pm_Z} {z : Int} (hB : ∀ pc ∈ li_cs, ∀ v, li_B sc z v pc) (v : Bool) : li_B sc z v 26 := by
  intro w0 g lv w hs hz hT hm
  have h : sx_run sx_AN sx_CU sx_O1 100000 lh_x li_an (li_cs.map (lh_c v)) false 26 52 7858 lh_n (lh_b v) lh_l [] (lh_w v) lh_k = true := by
    rw [← sx_runF_eq]
    cases v
    · exact rd_0
    · exact rd_1
  have hl : g.length = 44 := hm.1.1
  refine sx_run_ok (lo_O1 (Ψ := lo_tr) (w0 := w0)) 100000 lh_x _ _ _ _ _ _ _ _ _ _ _ _ g g lv [] w li_Q h mv_L ⟨hs, g, List.prefix_rfl, trivial⟩ List.prefix_rfl hm (fun h9 hh => ?_) (fun g' o r w' _ hk hmo => li_k hk hmo)
  obtain ⟨pc, hpc, rfl⟩ := List.mem_map.mp hh
  have ht : g.take 44 = g := by rw [← hl, List.take_length]
  refine ⟨g, List.prefix_rfl, by decide, by show 44 ≤ _; omega, by show sx_n (g.take 44) 44 (lh_b v); rw [ht]; exact hm.1, Or.inl rfl, fun g2 lv2 w2 t2 hm2 _ => ?_⟩
  have hl2 : g2.length = 44 := hm2.1.1
  have t2 : g2.take 44 = g.take 44 := t2
  rw [ht, ← hl2, List.take_length] at t2
  subst t2
  exact hB pc hpc v w0 g2 lv2 w2 hs hz hT hm2
theorem li_c0 {sc : pm_Z} {z : Int} (hI : li_I sc z) (v : Bool) : li_B sc z v 168 := li_wr (li_tail hI) v
theorem li_c1 {sc : pm_Z} {z : Int} (hI : li_I sc z) (v : Bool) : li_B sc z v 191 := by
  cases v
  · exact li_rw (li_tail hI) rb_1_0
  · exact li_rw (li_tail hI) rb_1_1
theorem li_c2 {sc : pm_Z} {z : Int} (hI : li_I sc z) (v : Bool) : li_B sc z v 204 := by
  cases v
  · exact li_rp (li_tail hI) rb_2_0
  · exact li_rp (li_tail hI) rb_2_1
theorem li_c3 {sc : pm_Z} {z : Int} (hI : li_I sc z) (v : Bool) : li_B sc z v 217 := by
  cases v
  · exact li_rp (li_tail hI) rb_3_0
  · exact li_rp (li_tail hI) rb_3_1
theorem li_c4 {sc : pm_Z} {z : Int} (hI : li_I sc z) (v : Bool) : li_B sc z v 230 := by
  have hB : ∀ u, li_B sc z u 250 := by
    intro u
    cases u
    · exact li_rm (fun _ => lo_O1) (li_tail hI) rb_4_0
    · exact li_rm (fun _ => lo_O1) (li_tail hI) rb_4_1
  cases v
  · exact li_rm (fun _ => lo_O1) hB ra_4_0
  · exact li_rm (fun _ => lo_O1) hB ra_4_1
theorem li_c5 {sc : pm_Z} {z : Int} (hI : li_I sc z) (v : Bool) : li_B sc z v 273 := by
  have hB : ∀ u, li_B sc z u 283 := by
    intro u
    cases u
    · exact li_rm (fun _ => lo_O1) (li_tail hI) rb_5_0
    · exact li_rm (fun _ => lo_O1) (li_tail hI) rb_5_1
  cases v
  · exact li_rm (fun _ => lo_O1) hB ra_5_0
  · exact li_rm (fun _ => lo_O1) hB ra_5_1
theorem li_c6 {sc : pm_Z} {z : Int} (hI : li_I sc z) (v : Bool) : li_B sc z v 296 := by
  have hB : ∀ u, li_B sc z u 311 := by
    intro u
    cases u
    · exact li_rm (fun _ => lo_O1) (li_tail hI) rb_6_0
    · exact li_rm (fun _ => lo_O1) (li_tail hI) rb_6_1
  cases v
  · exact li_rm (fun _ => lo_O1) hB ra_6_0
  · exact li_rm (fun _ => lo_O1) hB ra_6_1
theorem li_c7 {sc : pm_Z} {z : Int} (hI : li_I sc z) (v : Bool) : li_B sc z v 329 := by
  have hB : ∀ u, li_B sc z u 339 := by
    intro u
    cases u
    · exact li_rm (fun _ => lo_O1) (li_tail hI) rb_7_0
    · exact li_rm (fun _ => lo_O1) (li_tail hI) rb_7_1
  cases v
  · exact li_rm (fun _ => lo_O1) hB ra_7_0
  · exact li_rm (fun _ => lo_O1) hB ra_7_1
theorem li_c8 {sc : pm_Z} {z : Int} (hI : li_I sc z) (v : Bool) : li_B sc z v 352 := by
  have hB : ∀ u, li_B sc z u 367 := by
    intro u
    cases u
    · exact li_rm (fun _ => lo_O1) (li_tail hI) rb_8_0
    · exact li_rm (fun _ => lo_O1) (li_tail hI) rb_8_1
  cases v
  · exact li_rm (fun _ => lo_O1) hB ra_8_0
  · exact li_rm (fun _ => lo_O1) hB ra_8_1
theorem li_c9 {sc : pm_Z} {z : Int} (hI : li_I sc z) (v : Bool) : li_B sc z v 385 := by
  have hB : ∀ u, li_B sc z u 405 := by
    intro u
    cases u
    · exact li_rm (fun _ => lo_O1) (li_tail hI) rb_9_0
    · exact li_rm (fun _ => lo_O1) (li_tail hI) rb_9_1
  cases v
  · exact li_rm (fun _ => lo_O1) hB ra_9_0
  · exact li_rm (fun _ => lo_O1) hB ra_9_1
theorem li_c10 {sc : pm_Z} {z : Int} (hI : li_I sc z) (v : Bool) : li_B sc z v 428 := by
  have hB : ∀ u, li_B sc z u 433 := by
    intro u
    cases u
    · exact li_rm (fun _ => lo_O1) (li_tail hI) rb_10_0
    · exact li_rm (fun _ => lo_O1) (li_tail hI) rb_10_1
  cases v
  · exact li_rm (fun _ => lo_O1) hB ra_10_0
  · exact li_rm (fun _ => lo_O1) hB ra_10_1
theorem li_c11 {sc : pm_Z} {z : Int} (hI : li_I sc z) (v : Bool) : li_B sc z v 441 := by
  have hB : ∀ u, li_B sc z u 461 := by
    intro u
    cases u
    · exact li_rm (fun _ => lo_O1) (li_tail hI) rb_11_0
    · exact li_rm (fun _ => lo_O1) (li_tail hI) rb_11_1
  cases v
  · exact li_rm (fun _ => lo_O1) hB ra_11_0
  · exact li_rm (fun _ => lo_O1) hB ra_11_1
theorem li_c12 {sc : pm_Z} {z : Int} (hI : li_I sc z) (v : Bool) : li_B sc z v 484 := by
  have hB : ∀ u, li_B sc z u 494 := by
    intro u
    cases u
    · exact li_rm (fun _ => lo_O1) (li_tail hI) rb_12_0
    · exact li_rm (fun _ => lo_O1) (li_tail hI) rb_12_1
  cases v
  · exact li_rm (fun _ => lo_O1) hB ra_12_0
  · exact li_rm (fun _ => lo_O1) hB ra_12_1
theorem li_c13 {sc : pm_Z} {z : Int} (hI : li_I sc z) (v : Bool) : li_B sc z v 507 := by
  have hB : ∀ u, li_B sc z u 512 := by
    intro u
    cases u
    · exact li_rm (fun _ => lo_O1) (li_tail hI) rb_13_0
    · exact li_rm (fun _ => lo_O1) (li_tail hI) rb_13_1
  cases v
  · exact li_rm (fun _ => lo_O1) hB ra_13_0
  · exact li_rm (fun _ => lo_O1) hB ra_13_1
theorem li_c14 {sc : pm_Z} {z : Int} (hI : li_I sc z) (v : Bool) : li_B sc z v 520 := by
  have hB : ∀ u, li_B sc z u 535 := by
    intro u
    cases u
    · exact li_rm (fun _ => lo_O1) (li_tail hI) rb_14_0
    · exact li_rm (fun _ => lo_O1) (li_tail hI) rb_14_1
  cases v
  · exact li_rm (fun _ => lo_O1) hB ra_14_0
  · exact li_rm (fun _ => lo_O1) hB ra_14_1
theorem li_c15 {sc : pm_Z} {z : Int} (hI : li_I sc z) (v : Bool) : li_B sc z v 553 := by
  have hB : ∀ u, li_B sc z u 578 := by
    intro u
    cases u
    · exact li_rm (fun _ => lo_O1) (li_tail hI) rb_15_0
    · exact li_rm (fun _ => lo_O1) (li_tail hI) rb_15_1
  cases v
  · exact li_rm (fun _ => lo_O1) hB ra_15_0
  · exact li_rm (fun _ => lo_O1) hB ra_15_1
theorem li_c16 {sc : pm_Z} {z : Int} (hI : li_I sc z) (v : Bool) : li_B sc z v 606 := by
  have hB : ∀ u, li_B sc z u 626 := by
    intro u
    cases u
    · exact li_rm (fun _ => lo_O1) (li_tail hI) rb_16_0
    · exact li_rm (fun _ => lo_O1) (li_tail hI) rb_16_1
  cases v
  · exact li_rm (fun _ => lo_O1) hB ra_16_0
  · exact li_rm (fun _ => lo_O1) hB ra_16_1
theorem li_c17 {sc : pm_Z} {z : Int} (hI : li_I sc z) (v : Bool) : li_B sc z v 649 := by
  have hB : ∀ u, li_B sc z u 659 := by
    intro u
    cases u
    · exact li_rm (fun _ => lo_O1) (li_tail hI) rb_17_0
    · exact li_rm (fun _ => lo_O1) (li_tail hI) rb_17_1
  cases v
  · exact li_rm (fun _ => lo_O1) hB ra_17_0
  · exact li_rm (fun _ => lo_O1) hB ra_17_1
theorem li_c18 {sc : pm_Z} {z : Int} (hI : li_I sc z) (v : Bool) : li_B sc z v 672 := by
  have hB : ∀ u, li_B sc z u 697 := by
    intro u
    cases u
    · exact li_rm (fun _ => lo_O1) (li_tail hI) rb_18_0
    · exact li_rm (fun _ => lo_O1) (li_tail hI) rb_18_1
  cases v
  · exact li_rm (fun _ => lo_O_ok) hB ra_18_0
  · exact li_rm (fun _ => lo_O_ok) hB ra_18_1
theorem li_c19 {sc : pm_Z} {z : Int} (hI : li_I sc z) (v : Bool) : li_B sc z v 725 := by
  have hB : ∀ u, li_B sc z u 735 := by
    intro u
    cases u
    · exact li_rm (fun _ => lo_O1) (li_tail hI) rb_19_0
    · exact li_rm (fun _ => lo_O1) (li_tail hI) rb_19_1
  cases v
  · exact li_rm (fun _ => lo_O1) hB ra_19_0
  · exact li_rm (fun _ => lo_O1) hB ra_19_1
theorem li_c20 {sc : pm_Z} {z : Int} (hI : li_I sc z) (v : Bool) : li_B sc z v 748 := by
  have hB : ∀ u, li_B sc z u 758 := by
    intro u
    cases u
    · exact li_rm (fun _ => lo_O1) (li_tail hI) rb_20_0
    · exact li_rm (fun _ => lo_O1) (li_tail hI) rb_20_1
  cases v
  · exact li_rm (fun _ => lo_O1) hB ra_20_0
  · exact li_rm (fun _ => lo_O1) hB ra_20_1
theorem li_c21 {sc : pm_Z} {z : Int} (hI : li_I sc z) (v : Bool) : li_B sc z v 771 := by
  cases v
  · exact li_rm (fun _ => lo_O1) (li_tail hI) rb_21_0
  · exact li_rm (fun _ => lo_O1) (li_tail hI) rb_21_1
theorem li_c22 {sc : pm_Z} {z : Int} (hI : li_I sc z) (v : Bool) : li_B sc z v 814 := by
  cases v
  · exact li_rm (fun _ => lo_O1) (li_tail hI) rb_22_0
  · exact li_rm (fun _ => lo_O1) (li_tail hI) rb_22_1
theorem li_c23 {sc : pm_Z} {z : Int} (hI : li_I sc z) (v : Bool) : li_B sc z v 827 := by
  have hB : ∀ u, li_B sc z u 837 := by
    intro u
    cases u
    · exact li_rm (fun _ => lo_O1) (li_tail hI) rb_23_0
    · exact li_rm (fun _ => lo_O1) (li_tail hI) rb_23_1
  cases v
  · exact li_rm (fun _ => lo_O1) hB ra_23_0
  · exact li_rm (fun _ => lo_O1) hB ra_23_1
theorem li_c24 {sc : pm_Z} {z : Int} (hI : li_I sc z) (v : Bool) : li_B sc z v 850 := by
  have hB : ∀ u, li_B sc z u 865 := by
    intro u
    cases u
    · exact li_rm (fun _ => lo_O1) (li_tail hI) rb_24_0
    · exact li_rm (fun _ => lo_O1) (li_tail hI) rb_24_1
  cases v
  · exact li_rm (fun _ => lo_O1) hB ra_24_0
  · exact li_rm (fun _ => lo_O1) hB ra_24_1
theorem li_c25 {sc : pm_Z} {z : Int} (hI : li_I sc z) (v : Bool) : li_B sc z v 883 := by
  have hB : ∀ u, li_B sc z u 898 := by
    intro u
    cases u
    · exact li_rm (fun _ => lo_O1) (li_tail hI) rb_25_0
    · exact li_rm (fun _ => lo_O1) (li_tail hI) rb_25_1
  cases v
  · exact li_rm (fun _ => lo_O1) hB ra_25_0
  · exact li_rm (fun _ => lo_O1) hB ra_25_1
theorem li_c26 {sc : pm_Z} {z : Int} (hI : li_I sc z) (v : Bool) : li_B sc z v 916 := by
  have hB : ∀ u, li_B sc z u 936 := by
    intro u
    cases u
    · exact li_rm (fun _ => lo_O1) (li_tail hI) rb_26_0
    · exact li_rm (fun _ => lo_O1) (li_tail hI) rb_26_1
  cases v
  · exact li_rm (fun _ => lo_O1) hB ra_26_0
  · exact li_rm (fun _ => lo_O1) hB ra_26_1
theorem li_c27 {sc : pm_Z} {z : Int} (hI : li_I sc z) (v : Bool) : li_B sc z v 959 := by
  cases v
  · exact li_rm (fun _ => lo_O1) (li_tail hI) rb_27_0
  · exact li_rm (fun _ => lo_O1) (li_tail hI) rb_27_1
theorem li_c28 {sc : pm_Z} {z : Int} (hI : li_I sc z) (v : Bool) : li_B sc z v 972 := by
  cases v
  · exact li_rm (fun _ => lo_O1) (li_tail hI) rb_28_0
  · exact li_rm (fun _ => lo_O1) (li_tail hI) rb_28_1
theorem li_c29 {sc : pm_Z} {z : Int} (hI : li_I sc z) (v : Bool) : li_B sc z v 985 := by
  have hB : ∀ u, li_B sc z u 995 := by
    intro u
    cases u
    · exact li_rm (fun _ => lo_O1) (li_tail hI) rb_29_0
    · exact li_rm (fun _ => lo_O1) (li_tail hI) rb_29_1
  cases v
  · exact li_rm (fun _ => lo_O1) hB ra_29_0
  · exact li_rm (fun _ => lo_O1) hB ra_29_1
theorem li_c30 {sc : pm_Z} {z : Int} (hI : li_I sc z) (v : Bool) : li_B sc z v 1008 := li_tail hI v
theorem li_all {sc : pm_Z} {z : Int} (hI : li_I sc z) : ∀ pc ∈ li_cs, ∀ v, li_B sc z v pc := by
  intro pc hpc
  simp only [li_cs, List.mem_cons, List.not_mem_nil, or_false] at hpc
  rcases hpc with rfl | rfl | rfl | rfl | rfl | rfl | rfl | rfl | rfl | rfl | rfl | rfl | rfl | rfl | rfl | rfl | rfl | rfl | rfl | rfl | rfl | rfl | rfl | rfl | rfl | rfl | rfl | rfl | rfl | rfl | rfl
  · exact li_c0 hI
  · exact li_c1 hI
  · exact li_c2 hI
  · exact li_c3 hI
  · exact li_c4 hI
  · exact li_c5 hI
  · exact li_c6 hI
  · exact li_c7 hI
  · exact li_c8 hI
  · exact li_c9 hI
  · exact li_c10 hI
  · exact li_c11 hI
  · exact li_c12 hI
  · exact li_c13 hI
  · exact li_c14 hI
  · exact li_c15 hI
  · exact li_c16 hI
  · exact li_c17 hI
  · exact li_c18 hI
  · exact li_c19 hI
  · exact li_c20 hI
  · exact li_c21 hI
  · exact li_c22 hI
  · exact li_c23 hI
  · exact li_c24 hI
  · exact li_c25 hI
  · exact li_c26 hI
  · exact li_c27 hI
  · exact li_c28 hI
  · exact li_c29 hI
  · exact li_c30 hI
/-- the numbers of the script put into the signs -/
def li_up (g : List Int) (f : Nat → Int) : List Int := g.mapIdx (fun i z => if 2 ≤ i ∧ i < 7 then f (i - 2) else z)
theorem li_up_get (g : List Int) (f : Nat → Int) (i : Nat) : (li_up g f)[i]? = (g[i]?).map (fun z => if 2 ≤ i ∧ i < 7 then f (i - 2) else z) := by
  unfold li_up
  rw [List.getElem?_mapIdx]
theorem li_up_o {g : List Int} {f : Nat → Int} {i : Nat} (h : ¬ (2 ≤ i ∧ i < 7)) : (li_up g f)[i]? = g[i]? := by
  rw [li_up_get]
  simp only [h, if_false]
  cases g[i]? <;> rfl
theorem li_up_n {g : List Int} {f : Nat → Int} {o : Nat} (ho : o < 5) (hl : g.length = 44) : (li_up g f)[2 + o]? = some (f o) := by
  rw [li_up_get, List.getElem?_eq_getElem (show 2 + o < g.length by omega)]
  simp only [Option.map_some]
  rw [if_pos (by omega)]
  congr 2
  omega
set_option maxHeartbeats 4000000 in
theorem li_18 {sc : pm_Z} (hsc : sc.1 ≤ 320) : ∀ (N : Nat) (v : Bool) (w0 : pm_W) (g : List Int) (lv : pm_L) (w : pm_W) (z : Int), sx_m w0 g (lh_n, lh_e v, lh_l, [], lh_w v) lv [] w → g[1]? = some z → li_T w0 g → (400 - z).toNat < N → pm_Good sc mm_L 18 lv [] w 52 7858 li_Q := by
  intro N
  induction N with
  | zero => intro v w0 g lv w z _ _ _ hN; exact absurd hN (Nat.not_lt_zero _)
  | succ N ih =>
    intro v w0 g lv w z hm hz hT hN
    have hI : li_I sc z := fun u w1 g1 lv1 w2 y hy hgy hT1 hm1 => by
      obtain ⟨y', c1, c2, c3⟩ := hm1.1.2.2 (1, 0, 400) (List.mem_append_right _ (by decide))
      rw [hgy] at c1
      cases c1
      simp only at c2 c3
      exact ih u w1 g1 lv1 w2 y hm1 hgy hT1 (by omega)
    obtain ⟨z', b1, b2, b3⟩ := hm.1.2.2 (1, 0, 400) (List.mem_append_right _ (by decide))
    rw [hz] at b1
    cases b1
    simp only at b2 b3
    obtain ⟨hn, hl, hst, hw⟩ := hm
    have hgl : g.length = 44 := hn.1
    obtain ⟨x, rfl, y3⟩ := li_lv hz hl
    refine pm_ld_ok (i := .iload_n 3) (x := 3) (k := 0) (n := 1) (v := .int x) (by decide +kernel) rfl rfl rfl ?_
    refine pm_ld_ok (i := .aload_n 0) (x := 0) (k := 2) (n := 1) (v := .retAddr 3) (by decide +kernel) rfl rfl rfl ?_
    refine pm_scl (by decide +kernel) ?_
    refine pm_op_ok (i := .iconst 5) (st' := [.int 5, .int (Int32.ofNat sc.1), .int x]) (by decide +kernel) rfl ?_
    refine pm_op_ok (i := .isub) (st' := [.int (Int32.ofNat sc.1 - 5), .int x]) (by decide +kernel) rfl ?_
    refine pm_br2 (c := .gt) (off := 991) (by decide +kernel) (by decide) (fun _ => ?_) (fun hf => ?_)
    · show pm_Good sc mm_L 1014 _ _ _ _ _ _
      refine pm_op_ok (i := .iconst 1) (st' := [.int 1]) (by decide +kernel) rfl ?_
      exact pm_iret (ty := .boolean) (by decide +kernel) rfl rfl rfl
    · show pm_Good sc mm_L 26 _ _ _ _ _ _
      have hs1 : (Int32.ofNat sc.1).toInt = sc.1 := Int32.toInt_ofNat_of_lt (by omega)
      have hs5 : (5 : Int32).toInt = 5 := rfl
      have hs2 : (Int32.ofNat sc.1 - 5).toInt = sc.1 - 5 := by
        rw [sx_sub (by rw [hs1, hs5]; omega) (by rw [hs1, hs5]; omega), hs1, hs5]
      have hle : z ≤ sc.1 - 5 := by
        have h1 : ¬ (Int32.ofNat sc.1 - 5 < x) := of_decide_eq_false hf
        have h2 := Int32.not_lt.mp h1
        have h3 := Int32.le_iff_toInt_le.mp h2
        rw [hs2, y3] at h3
        exact h3
      have hup1 : (li_up g (fun o => (sc.2 (z.toNat + o)).toInt))[1]? = some z := by rw [li_up_o (by omega)]; exact hz
      refine li_26 (li_all hI) v w0 (li_up g (fun o => (sc.2 (z.toNat + o)).toInt)) _ w ?_ hup1 (li_Tg hT (li_up_o (by omega))) ⟨⟨?_, ?_, ?_⟩, li_ll hup1 y3, trivial, ?_⟩
      · refine Or.inr ⟨z.toNat, by rw [hup1]; congr 1; omega, by omega, by omega, fun o ho => ?_⟩
        rw [li_up_n ho hgl]
      · show (li_up g _).length = 44
        unfold li_up
        rw [List.length_mapIdx]
        exact hgl
      · rw [li_up_o (by omega)]
        exact hn.2.1
      · intro q hq
        rcases List.mem_append.mp hq with hq | hq
        · have h7 := (ll_f7 v).1 q hq
          obtain ⟨y, c1, c2⟩ := hn.2.2 q (List.mem_append_left _ hq)
          exact ⟨y, by rw [li_up_o (by omega)]; exact c1, c2⟩
        · simp only [lh_j, List.mem_cons, List.not_mem_nil, or_false] at hq
          rcases hq with rfl | rfl | rfl | rfl | rfl | rfl
          · exact ⟨z, hup1, b2, by simp only; omega⟩
          · exact ⟨_, li_up_n (o := 0) (by omega) hgl, sx_rng _⟩
          · exact ⟨_, li_up_n (o := 1) (by omega) hgl, sx_rng _⟩
          · exact ⟨_, li_up_n (o := 2) (by omega) hgl, sx_rng _⟩
          · exact ⟨_, li_up_n (o := 3) (by omega) hgl, sx_rng _⟩
          · exact ⟨_, li_up_n (o := 4) (by omega) hgl, sx_rng _⟩
      · refine lo_w_ok (fun i hi => ?_) (ll_ok_w v) hw
        rcases ll_ok_i hi with h | h
        · exact li_up_o (by omega)
        · exact li_up_o (by omega)
theorem li_y2 : lh_z0[2]? = some (.inl (1, 200, false, [])) ∧ lh_z0[43]? = some (.inl (0, 200, false, [])) ∧ (lh_z0.set 2 (.inl (1, 200, true, []))).set 43 (.inl (0, 200, true, [])) = lh_z false := ⟨rfl, rfl, rfl⟩
set_option maxHeartbeats 4000000 in
theorem li_0 {sc : pm_Z} (hsc : sc.1 ≤ 320) : pm_Good sc mm_L 0 [(0, .retAddr 3)] [] [] 0 0 li_Q := by
  have h : sx_run (fun _ => []) (fun _ => none) (fun _ _ _ _ => none, fun _ _ _ _ _ => none) 100000 lh_x (lh_a 18) [lh_h0] false 0 0 0 7 [(1, (-1), (-1)), (2, 0, 0), (3, 0, 0), (4, 0, 0), (5, 0, 0), (6, 0, 0)] [(0, .inr (.retAddr 3))] [] [] lh_k = true := by
    rw [← sx_runF_eq]
    exact rs_0
  have hO : sx_orOK sc lo_tr [] (fun _ _ _ _ => none, fun _ _ _ _ _ => none) := ⟨(fun j y n env as aw alts g As w h => by cases h), (fun j y n env as aw outs g As w h => by cases h)⟩
  refine sx_run_ok hO 100000 lh_x _ _ _ _ _ _ _ _ _ _ _ _ [0, -1, 0, 0, 0, 0, 0] [0, -1, 0, 0, 0, 0, 0] _ [] [] li_Q h mv_L ⟨Or.inl ⟨-1, rfl, by decide⟩, [0, -1, 0, 0, 0, 0, 0], List.prefix_rfl, trivial⟩ List.prefix_rfl ⟨⟨rfl, rfl, ?_⟩, ⟨⟨rfl, rfl⟩, trivial⟩, trivial, ⟨rfl, fun q a c h1 => by cases h1⟩⟩ (fun h9 hh => ?_) (fun g' o r w' _ hk hmo => li_k hk hmo)
  · intro q hq
    simp only [List.mem_cons, List.not_mem_nil, or_false] at hq
    rcases hq with rfl | rfl | rfl | rfl | rfl | rfl
    · exact ⟨-1, rfl, by decide, by decide⟩
    all_goals exact ⟨0, rfl, by decide, by decide⟩
  · have e := List.mem_singleton.mp hh
    subst e
    refine ⟨[0, -1, 0, 0, 0, 0, 0], List.prefix_rfl, by decide, by decide, ⟨rfl, rfl, fun q hq => by cases hq⟩, Or.inl rfl, fun g2 lv2 w2 t2 hm2 _ => ?_⟩
    rw [List.append_nil] at hm2
    obtain ⟨hn, hl, -, hw⟩ := hm2
    have hgl : g2.length = 44 := hn.1
    obtain ⟨z, z1, -, -⟩ := hn.2.2 (1, 0, 400) (List.mem_append_right _ (by decide))
    obtain ⟨y1, y2, y3⟩ := li_y2
    have hw := li_self hw
    obtain ⟨c2, k2, q2⟩ := sx_w_get hw y1
    obtain ⟨xs, rfl, l2, -, ch, -⟩ := sx_rc_a q2
    obtain ⟨c43, k43, q43⟩ := sx_w_get hw y2
    obtain ⟨ys, rfl, l43, -, -, -⟩ := sx_rc_a q43
    simp only at k2 k43 l2 l43 ch
    have h5 := sx_w_setA (sx_w_setA hw k2 (a := .inl (1, 200, true, [])) ⟨rfl, l2, fun _ => k2, fun _ => ch trivial, (fun q hq => by cases hq)⟩) k43 (a := .inl (0, 200, true, [])) ⟨rfl, l43, fun _ => k43, (fun q => by cases q), (fun q hq => by cases hq)⟩
    rw [y3] at h5
    have h6 := li_z hgl hn.2.1 h5
    have hs7 : (g2.set 7 0)[1]? = g2[1]? := List.getElem?_set_ne (by decide)
    exact li_18 hsc _ false w2 (g2.set 7 0) lv2 w2 z ⟨li_n7 hn (by show 7 < 44; decide) ⟨Int.le_refl _, by decide⟩ (li_e7 false), li_l7 hl, trivial, h6⟩ (by rw [hs7]; exact z1) ⟨xs, ys, 0, k2, k43, List.getElem?_set_self (by omega), l2, l43, Int.le_refl _, by decide, ch trivial, fun k hk => by omega⟩ (Nat.lt_succ_self _)
