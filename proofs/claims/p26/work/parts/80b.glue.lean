/-! write: a letter more on both sides -/
theorem lw_t1 (v : Bool) : (lh_w v)[1]? = some (.inr (5, [.inr (.ref 2), .inr (.ref 3), .inl (7, 0), .inl (10, 0)])) := by cases v <;> rfl
theorem lw_t42 (v : Bool) : (lh_w v)[42]? = some (.inr (8, [.inr (.ref 43), .inl (7, 0), .inr (.ref 44), .inr (.ref 45), .inr (.ref 46), .inr (.ref 47), .inr (.ref 48), .inl (38, 0), .inr (.ref 49), .inl (9, 0), .inr (.ref 50), .inl (27, 0), .inl (41, 0), .inr (.ref 51)])) := by cases v <;> rfl
theorem lw_t0 (v : Bool) : ∃ l, (lh_w v)[0]? = some (.inr (7, .inr (.ref 1) :: l)) := by cases v <;> exact ⟨_, rfl⟩
theorem lw_fb (v : Bool) : ∀ q ∈ [px_tA v, px_tB v, 44, 23, 24, 25, 50], ly_fb (lh_w v) q = true ∧ q ≠ 1 ∧ q ≠ 2 ∧ q ≠ 42 ∧ q ≠ 43 := by cases v <;> decide +kernel
/-- rows that are as they were: the habits and the stamps stay -/
theorem li_KS {v : Bool} {w0 w1 : pm_W} (h : ∀ q ∈ [px_tA v, px_tB v, 44, 23, 24, 25, 50], w1[q]? = w0[q]?) (hk : li_Kd v w0 ∧ li_Sd w0) : li_Kd v w1 ∧ li_Sd w1 := by
  obtain ⟨⟨as, bs, ts, a1, a2, a3, a4⟩, Hs, Ps, Ks, sts, b1, b2, b3, b4, b5⟩ := hk
  simp only [List.mem_cons, List.not_mem_nil, or_false, forall_eq_or_imp, forall_eq] at h
  obtain ⟨c1, c2, c3, c4, c5, c6, c7⟩ := h
  exact ⟨⟨as, bs, ts, by rw [c1]; exact a1, by rw [c2]; exact a2, by rw [c3]; exact a3, a4⟩, Hs, Ps, Ks, sts, by rw [c4]; exact b1, by rw [c5]; exact b2, by rw [c6]; exact b3, by rw [c7]; exact b4, b5⟩
theorem lw_fl (v : Bool) : pz_fl (lh_w v) 43 0 = true ∧ pz_fl (lh_w v) 2 1 = true := by cases v <;> decide +kernel
def li_A0 (v : Bool) : List sx_C := ((((lh_w v).set 1 (.inr (5, []))).set 42 (.inr (8, []))).set 2 (.inl (1, 200, false, []))).set 43 (.inl (0, 200, false, []))
theorem li_A1 (v : Bool) : lo_w li_o7 (li_A0 v) = true := by cases v <;> decide +kernel
theorem li_A2 (v : Bool) : (((((li_A0 v).set 1 (.inr (5, [.inr (.ref 2), .inr (.ref 3), .inl (7, 0), .inl (10, 0)]))).set 42 (.inr (8, [.inr (.ref 43), .inl (7, 0), .inr (.ref 44), .inr (.ref 45), .inr (.ref 46), .inr (.ref 47), .inr (.ref 48), .inl (38, 0), .inr (.ref 49), .inl (9, 0), .inr (.ref 50), .inl (27, 0), .inl (41, 0), .inr (.ref 51)]))).set 2 (.inl (1, 200, true, []))).set 43 (.inl (0, 200, true, []))) = lh_w v := by cases v <;> rfl
theorem li_chs {xs : List Int32} (h : sx_ch xs) {i : Nat} {c : Int32} (hc : 0 ≤ c.toInt ∧ c.toInt ≤ 65535) : sx_ch (xs.set i c) := fun x hx => by
  rcases List.mem_or_eq_of_mem_set hx with h1 | h1
  · exact h x h1
  · rw [h1]
    exact hc
theorem li_wn {v : Bool} {w0 : pm_W} {g : List Int} {w : pm_W} {xs ys : List Int32} {s nx c : Int32} {m7 m9 m11 m12 : Value} {sz : Int} (hgl : g.length = 44) (hw : sx_w w0 g (lh_w v) w) (t1 : w[1]? = some (.inr (5, [.ref 2, .ref 3, .int s, .int nx]))) (t42 : w[42]? = some (.inr (8, [.ref 43, .int s, .ref 44, .ref 45, .ref 46, .ref 47, .ref 48, m7, .ref 49, m9, .ref 50, m11, m12, .ref 51]))) (hxl : xs.length = 200) (hyl : ys.length = 200) (hch : sx_ch xs) (hs : s.toInt = sz) (hsz : 0 ≤ sz ∧ sz < 200) (hc : 0 ≤ c.toInt ∧ c.toInt ≤ 65535) : sx_w ((((w.set 2 (.inl (1, xs.set s.toNatClampNeg c))).set 1 (.inr (5, [.ref 2, .ref 3, .int (s + 1), .int nx]))).set 43 (.inl (0, ys.set s.toNatClampNeg c))).set 42 (.inr (8, [.ref 43, .int (s + 1), .ref 44, .ref 45, .ref 46, .ref 47, .ref 48, m7, .ref 49, m9, .ref 50, m11, m12, .ref 51]))) (g.set 7 (sz + 1)) (lh_w v) ((((w.set 2 (.inl (1, xs.set s.toNatClampNeg c))).set 1 (.inr (5, [.ref 2, .ref 3, .int (s + 1), .int nx]))).set 43 (.inl (0, ys.set s.toNatClampNeg c))).set 42 (.inr (8, [.ref 43, .int (s + 1), .ref 44, .ref 45, .ref 46, .ref 47, .ref 48, m7, .ref 49, m9, .ref 50, m11, m12, .ref 51]))) := by
  have hlen : 44 ≤ w.length := by
    have := hw.1
    have h9 : (lh_w v).length = 52 := by cases v <;> rfl
    omega
  have e1 : (s + 1).toInt = sz + 1 := by rw [pl_p1 (by omega) (by omega), hs]
  have hg : ∀ j, j ≠ 7 → (g.set 7 (sz + 1))[j]? = g[j]? := fun j hj => List.getElem?_set_ne (fun e => hj e.symm)
  have h7 : (g.set 7 (sz + 1))[7]? = some (sz + 1) := List.getElem?_set_self (by omega)
  have tr : ∀ {j : Nat} {x : Value}, j ≠ 7 → sx_r g (.inl (j, 0)) x → sx_r (g.set 7 (sz + 1)) (.inl (j, 0)) x := fun hj ⟨z, y, y1, y2, y3⟩ => ⟨z, y, by rw [hg _ hj]; exact y1, y2, y3⟩
  obtain ⟨c1, hc1, hr1⟩ := sx_w_get hw (lw_t1 v)
  rw [t1] at hc1
  cases hc1
  obtain ⟨-, -, -, -, a4, -⟩ := hr1
  obtain ⟨c2, hc2, hr2⟩ := sx_w_get hw (lw_t42 v)
  rw [t42] at hc2
  cases hc2
  obtain ⟨-, -, -, -, -, -, -, -, r8, -, r10, -, r12, r13, -, -⟩ := hr2
  have k2 : sx_rc w0 g 2 (.inl (1, 200, false, [])) (.inl (1, xs.set s.toNatClampNeg c)) := ⟨rfl, by simp only; rw [List.length_set]; exact hxl, (fun q => by cases q), fun _ => li_chs hch hc, (fun q hq => by cases hq)⟩
  have k43 : sx_rc w0 g 43 (.inl (0, 200, false, [])) (.inl (0, ys.set s.toNatClampNeg c)) := ⟨rfl, by simp only; rw [List.length_set]; exact hyl, (fun q => by cases q), (fun q => by cases q), (fun q hq => by cases hq)⟩
  have k1 : sx_rc w0 g 1 (.inr (5, [])) (.inr (5, [])) := ⟨rfl, trivial⟩
  have k42 : sx_rc w0 g 42 (.inr (8, [])) (.inr (8, [])) := ⟨rfl, trivial⟩
  have h1 := sx_w_set (sx_w_set (sx_w_set (sx_w_set hw k1) k42) k2) k43
  have h2 : sx_w w0 (g.set 7 (sz + 1)) (li_A0 v) _ := lo_w_ok (fun j hj => hg j (fun e => by subst e; cases hj)) (li_A1 v) h1
  have n1 : sx_rc w0 (g.set 7 (sz + 1)) 1 (.inr (5, [.inr (.ref 2), .inr (.ref 3), .inl (7, 0), .inl (10, 0)])) (.inr (5, [.ref 2, .ref 3, .int (s + 1), .int nx])) := ⟨rfl, rfl, rfl, pz_s_ok h7 e1, tr (by decide) a4, trivial⟩
  have n42 : sx_rc w0 (g.set 7 (sz + 1)) 42 (.inr (8, [.inr (.ref 43), .inl (7, 0), .inr (.ref 44), .inr (.ref 45), .inr (.ref 46), .inr (.ref 47), .inr (.ref 48), .inl (38, 0), .inr (.ref 49), .inl (9, 0), .inr (.ref 50), .inl (27, 0), .inl (41, 0), .inr (.ref 51)])) (.inr (8, [.ref 43, .int (s + 1), .ref 44, .ref 45, .ref 46, .ref 47, .ref 48, m7, .ref 49, m9, .ref 50, m11, m12, .ref 51])) := ⟨rfl, rfl, pz_s_ok h7 e1, rfl, rfl, rfl, rfl, rfl, tr (by decide) r8, rfl, tr (by decide) r10, rfl, tr (by decide) r12, tr (by decide) r13, rfl, trivial⟩
  have h3 := sx_w_set (sx_w_set h2 n1) n42
  have eW : ((((((w.set 1 (.inr (5, []))).set 42 (.inr (8, []))).set 2 (.inl (1, xs.set s.toNatClampNeg c))).set 43 (.inl (0, ys.set s.toNatClampNeg c))).set 1 (.inr (5, [.ref 2, .ref 3, .int (s + 1), .int nx]))).set 42 (.inr (8, [.ref 43, .int (s + 1), .ref 44, .ref 45, .ref 46, .ref 47, .ref 48, m7, .ref 49, m9, .ref 50, m11, m12, .ref 51]))) = ((((w.set 2 (.inl (1, xs.set s.toNatClampNeg c))).set 1 (.inr (5, [.ref 2, .ref 3, .int (s + 1), .int nx]))).set 43 (.inl (0, ys.set s.toNatClampNeg c))).set 42 (.inr (8, [.ref 43, .int (s + 1), .ref 44, .ref 45, .ref 46, .ref 47, .ref 48, m7, .ref 49, m9, .ref 50, m11, m12, .ref 51]))) := by
    rw [List.set_comm (i := 42) (j := 2) _ _ (by decide), List.set_comm (i := 42) (j := 43) _ _ (by decide), List.set_comm (i := 42) (j := 1) _ _ (by decide), List.set_set, List.set_comm (i := 1) (j := 2) _ _ (by decide), List.set_comm (i := 1) (j := 43) _ _ (by decide), List.set_set, List.set_comm (i := 43) (j := 1) _ _ (by decide)]
  rw [eW] at h3
  have h4 := ly_self h3
  have g2 : (((((w.set 2 (.inl (1, xs.set s.toNatClampNeg c))).set 1 (.inr (5, [.ref 2, .ref 3, .int (s + 1), .int nx]))).set 43 (.inl (0, ys.set s.toNatClampNeg c))).set 42 (.inr (8, [.ref 43, .int (s + 1), .ref 44, .ref 45, .ref 46, .ref 47, .ref 48, m7, .ref 49, m9, .ref 50, m11, m12, .ref 51]))))[2]? = some (.inl (1, xs.set s.toNatClampNeg c)) := by
    rw [List.getElem?_set_ne (by decide), List.getElem?_set_ne (by decide), List.getElem?_set_ne (by decide), List.getElem?_set_self (by omega)]
  have g43 : (((((w.set 2 (.inl (1, xs.set s.toNatClampNeg c))).set 1 (.inr (5, [.ref 2, .ref 3, .int (s + 1), .int nx]))).set 43 (.inl (0, ys.set s.toNatClampNeg c))).set 42 (.inr (8, [.ref 43, .int (s + 1), .ref 44, .ref 45, .ref 46, .ref 47, .ref 48, m7, .ref 49, m9, .ref 50, m11, m12, .ref 51]))))[43]? = some (.inl (0, ys.set s.toNatClampNeg c)) := by
    rw [List.getElem?_set_ne (by decide), List.getElem?_set_self (by simp only [List.length_set]; omega)]
  have h5 := sx_w_setA (sx_w_setA h4 g2 (a := .inl (1, 200, true, [])) ⟨rfl, by simp only; rw [List.length_set]; exact hxl, fun _ => g2, fun _ => li_chs hch hc, (fun q hq => by cases hq)⟩) g43 (a := .inl (0, 200, true, [])) ⟨rfl, by simp only; rw [List.length_set]; exact hyl, fun _ => g43, (fun q => by cases q), (fun q hq => by cases hq)⟩
  rw [li_A2 v] at h5
  exact h5
theorem li_Tn {xs ys : List Int32} {sz : Int} {c : Int32} {n : Nat} (h : pz_T xs ys sz) (hn : (n : Int) = sz) (hs : sz < 200) (hc : 32 ≤ c.toInt ∧ c.toInt ≤ 126) : pz_T (xs.set n c) (ys.set n c) (sz + 1) := by
  obtain ⟨a, b, d, e, f, k⟩ := h
  refine ⟨by rw [List.length_set]; exact a, by rw [List.length_set]; exact b, by omega, by omega, li_chs f ⟨by omega, by omega⟩, fun j hj => ?_⟩
  by_cases hjn : j = n
  · subst hjn
    rw [List.getD_eq_getElem?_getD, List.getD_eq_getElem?_getD, List.getElem?_set_self (by omega), List.getElem?_set_self (by omega)]
    exact ⟨rfl, hc⟩
  · have := k j (by omega)
    rw [List.getD_eq_getElem?_getD, List.getD_eq_getElem?_getD, List.getElem?_set_ne (fun e => hjn e.symm), List.getElem?_set_ne (fun e => hjn e.symm), ← List.getD_eq_getElem?_getD, ← List.getD_eq_getElem?_getD]
    exact this
set_option maxHeartbeats 4000000 in
theorem li_wr {sc : pm_Z} {z : Int} (hB : ∀ u, li_B sc z u 1008) (v : Bool) : li_B sc z v 168 := by
  intro w0 g lv w hs hz hT hm
  have hm0 := hm
  obtain ⟨hn, hl, -, hw⟩ := hm
  have hgl : g.length = 44 := hn.1
  obtain ⟨x, rfl, hx⟩ := li_lv hz hl
  obtain ⟨z', b1, b2, b3⟩ := hn.2.2 (1, 0, 395) (List.mem_append_right _ (by decide))
  rw [hz] at b1
  cases b1
  simp only at b2 b3
  have hsl : z + 4 < sc.1 ∧ sc.1 < 2 ^ 31 := by
    rcases hs with ⟨z9, h1, h2⟩ | ⟨i, h1, h2, h3, h4⟩
    · rw [hz] at h1
      cases h1
      omega
    · rw [hz] at h1
      cases h1
      omega
  have ex : (x + 1).toInt = z + 1 := by rw [pl_p1 (by omega) (by omega), hx]
  have hvi : vp_in (x + 1) sc.1 := pl_in (by omega) (by omega)
  obtain ⟨xs, ys, sz, a1, a2, a3, a4, aK⟩ := id hT
  have hw2 := pz_fl_ok hw (lw_fl v).2 a1
  have hw43 := pz_fl_ok hw (lw_fl v).1 a2
  have hT4 := a4.2.2.2.1
  have hT3 := a4.2.2.1
  obtain ⟨l0, hl0⟩ := lw_t0 v
  obtain ⟨cc, hc0, hr0⟩ := sx_w_get hw hl0
  obtain ⟨fs, rfl, hf⟩ := sx_rc_o hr0
  obtain ⟨v1, fs, rfl, r1, -⟩ := sx_f2_cons hf
  have r1 : v1 = .ref 1 := r1
  subst r1
  obtain ⟨cc, hc1, hr1⟩ := sx_w_get hw (lw_t1 v)
  obtain ⟨f1, rfl, hf1⟩ := sx_rc_o hr1
  obtain ⟨v1, m, rfl, r1, hf1⟩ := sx_f2_cons hf1
  obtain ⟨v2, m, rfl, r2, hf1⟩ := sx_f2_cons hf1
  obtain ⟨v3, m, rfl, r3, hf1⟩ := sx_f2_cons hf1
  obtain ⟨v4, m, rfl, r4, hf1⟩ := sx_f2_cons hf1
  cases m with
  | cons _ _ => cases hf1
  | nil =>
  have r1 : v1 = .ref 2 := r1
  have r2 : v2 = .ref 3 := r2
  obtain ⟨z3, s, u1, u2, u3⟩ := r3
  obtain ⟨z4, nx, u4, u5, u6⟩ := r4
  simp only at u1 u3
  rw [a3] at u1
  cases u1
  subst r1 r2 u2 u5
  have hs0 : s.toInt = sz := by omega
  obtain ⟨cc, hc42, hr42⟩ := sx_w_get hw (lw_t42 v)
  obtain ⟨f2, rfl, hf2⟩ := sx_rc_o hr42
  obtain ⟨y1, m, rfl, p1, hf2⟩ := sx_f2_cons hf2
  obtain ⟨y2, m, rfl, p2, hf2⟩ := sx_f2_cons hf2
  obtain ⟨y3, m, rfl, p3, hf2⟩ := sx_f2_cons hf2
  obtain ⟨y4, m, rfl, p4, hf2⟩ := sx_f2_cons hf2
  obtain ⟨y5, m, rfl, p5, hf2⟩ := sx_f2_cons hf2
  obtain ⟨y6, m, rfl, p6, hf2⟩ := sx_f2_cons hf2
  obtain ⟨y7, m, rfl, p7, hf2⟩ := sx_f2_cons hf2
  obtain ⟨y8, m, rfl, p8, hf2⟩ := sx_f2_cons hf2
  obtain ⟨y9, m, rfl, p9, hf2⟩ := sx_f2_cons hf2
  obtain ⟨y10, m, rfl, p10, hf2⟩ := sx_f2_cons hf2
  obtain ⟨y11, m, rfl, p11, hf2⟩ := sx_f2_cons hf2
  obtain ⟨y12, m, rfl, p12, hf2⟩ := sx_f2_cons hf2
  obtain ⟨y13, m, rfl, p13, hf2⟩ := sx_f2_cons hf2
  obtain ⟨y14, m, rfl, p14, hf2⟩ := sx_f2_cons hf2
  cases m with
  | cons _ _ => cases hf2
  | nil =>
  have p1 : y1 = .ref 43 := p1
  have p3 : y3 = .ref 44 := p3
  have p4 : y4 = .ref 45 := p4
  have p5 : y5 = .ref 46 := p5
  have p6 : y6 = .ref 47 := p6
  have p7 : y7 = .ref 48 := p7
  have p9 : y9 = .ref 49 := p9
  have p11 : y11 = .ref 50 := p11
  have p14 : y14 = .ref 51 := p14
  obtain ⟨z5, s9, w1, w2, w3⟩ := p2
  simp only at w1 w3
  rw [a3] at w1
  cases w1
  subst p1 p3 p4 p5 p6 p7 p9 p11 p14 w2
  have es : s = s9 := Int32.toInt_inj.mp (by omega)
  subst es
  generalize hcd : sc.2 (x + 1).toNatClampNeg = c

  by_cases hC : 32 ≤ c.toInt ∧ c.toInt ≤ 126 ∧ s.toInt < 200
  · refine pm_ld_ok (i := .aload_n 1) (x := 1) (k := 2) (n := 1) (v := .ref 0) (pe_d mv_L (show pm_fetch mk_L 168 = some (.aload_n 1, 1, 0, 0, 0) from rfl)) rfl rfl rfl ?_
    refine pm_ld_ok (i := .aload_n 0) (x := 0) (k := 2) (n := 1) (v := .retAddr 3) (pe_d mv_L (show pm_fetch mk_L 169 = some (.aload_n 0, 1, 0, 0, 0) from rfl)) rfl rfl rfl ?_
    refine pm_ld_ok (i := .iload_n 3) (x := 3) (k := 0) (n := 1) (v := .int x) (pe_d mv_L (show pm_fetch mk_L 170 = some (.iload_n 3, 1, 0, 0, 0) from rfl)) rfl rfl rfl ?_
    refine pm_op_ok (i := .iconst 1) (st' := [.int 1, .int x, .retAddr 3, .ref 0]) (pe_d mv_L (show pm_fetch mk_L 171 = some (.iconst 1, 1, 0, 0, 0) from rfl)) rfl ?_
    refine pm_op_ok (i := .iadd) (st' := [.int (x + 1), .retAddr 3, .ref 0]) (pe_d mv_L (show pm_fetch mk_L 172 = some (.iadd, 1, 0, 0, 0) from rfl)) rfl ?_
    refine pm_scd (pe_d mv_L (show pm_fetch mk_L 173 = some (.iaload, 1, 0, 0, 0) from rfl)) hvi ?_
    rw [hcd]
    refine pe_callV (y := (mm_107, 1, 0, mk_107)) (As := [.int c]) (rest := []) (P1 := fun r w' => ∃ xr, r = some (.int xr) ∧ w' = ((w.set 2 (.inl (1, xs.set s.toNatClampNeg c))).set 1 (.inr (5, [.ref 2, .ref 3, .int (s + 1), .int nx])))) mv_L (show pm_fetch mk_L 174 = some (.invokevirtual 13, 3, 107, 0, 408) from rfl) rfl rfl rfl (fun v hv => by simp only [List.mem_cons, List.not_mem_nil, or_false] at hv; rcases hv with rfl <;> rfl) hc0 (show pm_cl[7]? = some _ from rfl) rfl (Nat.le_of_ble_eq_true rfl) (Nat.le_of_ble_eq_true rfl) (Nat.le_of_ble_eq_true rfl) (Nat.le_of_ble_eq_true rfl) (pw_107 hc0 rfl hc1 hw2 a4.1 (by omega) (fun q xr => absurd hC q) (fun q xr => ⟨xr, rfl, rfl⟩)) (fun r w' q => by obtain ⟨xr, -, q⟩ := q; rw [q]; simp only [List.length_set]) (fun r w' q => ?_)
    obtain ⟨xr, rfl, hww⟩ := q
    rw [hww]
    show pm_Good sc mm_L 177 _ [.int xr] ((w.set 2 (.inl (1, xs.set s.toNatClampNeg c))).set 1 (.inr (5, [.ref 2, .ref 3, .int (s + 1), .int nx]))) 52 7858 _
    refine pm_op_ok (i := .pop) (st' := []) (pe_d mv_L (show pm_fetch mk_L 177 = some (.pop, 1, 0, 0, 0) from rfl)) rfl ?_
    refine pm_ld_ok (i := .aload_n 2) (x := 2) (k := 2) (n := 1) (v := .ref 42) (pe_d mv_L (show pm_fetch mk_L 178 = some (.aload_n 2, 1, 0, 0, 0) from rfl)) rfl rfl rfl ?_
    refine pm_ld_ok (i := .aload_n 0) (x := 0) (k := 2) (n := 1) (v := .retAddr 3) (pe_d mv_L (show pm_fetch mk_L 179 = some (.aload_n 0, 1, 0, 0, 0) from rfl)) rfl rfl rfl ?_
    refine pm_ld_ok (i := .iload_n 3) (x := 3) (k := 0) (n := 1) (v := .int x) (pe_d mv_L (show pm_fetch mk_L 180 = some (.iload_n 3, 1, 0, 0, 0) from rfl)) rfl rfl rfl ?_
    refine pm_op_ok (i := .iconst 1) (st' := [.int 1, .int x, .retAddr 3, .ref 42]) (pe_d mv_L (show pm_fetch mk_L 181 = some (.iconst 1, 1, 0, 0, 0) from rfl)) rfl ?_
    refine pm_op_ok (i := .iadd) (st' := [.int (x + 1), .retAddr 3, .ref 42]) (pe_d mv_L (show pm_fetch mk_L 182 = some (.iadd, 1, 0, 0, 0) from rfl)) rfl ?_
    refine pm_scd (pe_d mv_L (show pm_fetch mk_L 183 = some (.iaload, 1, 0, 0, 0) from rfl)) hvi ?_
    rw [hcd]
    have d42 : (((w.set 2 (.inl (1, xs.set s.toNatClampNeg c))).set 1 (.inr (5, [.ref 2, .ref 3, .int (s + 1), .int nx]))))[42]? = some (.inr (8, [.ref 43, .int s, .ref 44, .ref 45, .ref 46, .ref 47, .ref 48, y8, .ref 49, y10, .ref 50, y12, y13, .ref 51])) := by rw [List.getElem?_set_ne (by decide), List.getElem?_set_ne (by decide)]; exact hc42
    have d43 : (((w.set 2 (.inl (1, xs.set s.toNatClampNeg c))).set 1 (.inr (5, [.ref 2, .ref 3, .int (s + 1), .int nx]))))[43]? = some (.inl (0, ys)) := by rw [List.getElem?_set_ne (by decide), List.getElem?_set_ne (by decide)]; exact hw43
    refine pe_callV (y := (mm_169, 1, 0, mk_169)) (As := [.int c]) (rest := []) (P1 := fun r w' => ∃ xr, r = some (.int xr) ∧ w' = ((((w.set 2 (.inl (1, xs.set s.toNatClampNeg c))).set 1 (.inr (5, [.ref 2, .ref 3, .int (s + 1), .int nx]))).set 43 (.inl (0, ys.set s.toNatClampNeg c))).set 42 (.inr (8, [.ref 43, .int (s + 1), .ref 44, .ref 45, .ref 46, .ref 47, .ref 48, y8, .ref 49, y10, .ref 50, y12, y13, .ref 51])))) mv_L (show pm_fetch mk_L 184 = some (.invokevirtual 17, 3, 169, 0, 816) from rfl) rfl rfl rfl (fun v hv => by simp only [List.mem_cons, List.not_mem_nil, or_false] at hv; rcases hv with rfl <;> rfl) d42 (show pm_cl[8]? = some _ from rfl) rfl (Nat.le_of_ble_eq_true rfl) (Nat.le_of_ble_eq_true rfl) (Nat.le_of_ble_eq_true rfl) (Nat.le_of_ble_eq_true rfl) (pw_169 d42 d43 a4.2.1 (by omega) (fun q xr => absurd hC q) (fun q xr => ⟨xr, rfl, rfl⟩)) (fun r w' q => by obtain ⟨xr, -, q⟩ := q; rw [q]; simp only [List.length_set]) (fun r w' q => ?_)
    obtain ⟨xr2, rfl, hww2⟩ := q
    rw [hww2]
    show pm_Good sc mm_L 187 _ [.int xr2] ((((w.set 2 (.inl (1, xs.set s.toNatClampNeg c))).set 1 (.inr (5, [.ref 2, .ref 3, .int (s + 1), .int nx]))).set 43 (.inl (0, ys.set s.toNatClampNeg c))).set 42 (.inr (8, [.ref 43, .int (s + 1), .ref 44, .ref 45, .ref 46, .ref 47, .ref 48, y8, .ref 49, y10, .ref 50, y12, y13, .ref 51]))) 52 7858 _
    refine pm_op_ok (i := .pop) (st' := []) (pe_d mv_L (show pm_fetch mk_L 187 = some (.pop, 1, 0, 0, 0) from rfl)) rfl ?_
    refine pm_goto (off := 820) (pe_d mv_L (show pm_fetch mk_L 188 = some (.goto 820, 3, 0, 0, 0) from rfl)) (by decide) ?_
    show pm_Good sc mm_L 1008 _ _ _ _ _ _
    have hs7 : ∀ j, j ≠ 7 → (g.set 7 (sz + 1))[j]? = g[j]? := fun j hj => List.getElem?_set_ne (fun e => hj e.symm)
    have hlen : 44 ≤ w.length := (List.getElem?_eq_some_iff.mp hw43).1
    have eN : ((s.toNatClampNeg : Nat) : Int) = sz := by rw [pz_cl]; omega
    refine hB v _ (g.set 7 (sz + 1)) _ _ (li_scr hs (fun i hi => hs7 i (by omega))) (by rw [hs7 1 (by omega)]; exact hz) ⟨xs.set s.toNatClampNeg c, ys.set s.toNatClampNeg c, sz + 1, ?_, ?_, List.getElem?_set_self (by omega), li_Tn a4 eN (by omega) ⟨hC.1, hC.2.1⟩, ?_⟩ ⟨li_n7 hn (by show 7 < 44; decide) ⟨by omega, by omega⟩ (li_b7 v), li_l7 hl, trivial, li_wn hgl hw hc1 hc42 a4.1 a4.2.1 a4.2.2.2.2.1 hs0 ⟨by omega, by omega⟩ ⟨by omega, by omega⟩⟩
    · rw [List.getElem?_set_ne (by decide), List.getElem?_set_ne (by decide), List.getElem?_set_ne (by decide), List.getElem?_set_self (by omega)]
    · rw [List.getElem?_set_ne (by decide), List.getElem?_set_self (by simp only [List.length_set]; omega)]
    · refine li_KS (fun q hq => ?_) aK
      obtain ⟨q1, q2, q3, q4, q5⟩ := lw_fb v q hq
      rw [List.getElem?_set_ne (fun e => q4 e.symm), List.getElem?_set_ne (fun e => q5 e.symm), List.getElem?_set_ne (fun e => q2 e.symm), List.getElem?_set_ne (fun e => q3 e.symm)]
      exact ly_same hw q1
  · refine pm_ld_ok (i := .aload_n 1) (x := 1) (k := 2) (n := 1) (v := .ref 0) (pe_d mv_L (show pm_fetch mk_L 168 = some (.aload_n 1, 1, 0, 0, 0) from rfl)) rfl rfl rfl ?_
    refine pm_ld_ok (i := .aload_n 0) (x := 0) (k := 2) (n := 1) (v := .retAddr 3) (pe_d mv_L (show pm_fetch mk_L 169 = some (.aload_n 0, 1, 0, 0, 0) from rfl)) rfl rfl rfl ?_
    refine pm_ld_ok (i := .iload_n 3) (x := 3) (k := 0) (n := 1) (v := .int x) (pe_d mv_L (show pm_fetch mk_L 170 = some (.iload_n 3, 1, 0, 0, 0) from rfl)) rfl rfl rfl ?_
    refine pm_op_ok (i := .iconst 1) (st' := [.int 1, .int x, .retAddr 3, .ref 0]) (pe_d mv_L (show pm_fetch mk_L 171 = some (.iconst 1, 1, 0, 0, 0) from rfl)) rfl ?_
    refine pm_op_ok (i := .iadd) (st' := [.int (x + 1), .retAddr 3, .ref 0]) (pe_d mv_L (show pm_fetch mk_L 172 = some (.iadd, 1, 0, 0, 0) from rfl)) rfl ?_
    refine pm_scd (pe_d mv_L (show pm_fetch mk_L 173 = some (.iaload, 1, 0, 0, 0) from rfl)) hvi ?_
    rw [hcd]
    refine pe_callV (y := (mm_107, 1, 0, mk_107)) (As := [.int c]) (rest := []) (P1 := fun r w' => ∃ xr, r = some (.int xr) ∧ w' = w) mv_L (show pm_fetch mk_L 174 = some (.invokevirtual 13, 3, 107, 0, 408) from rfl) rfl rfl rfl (fun v hv => by simp only [List.mem_cons, List.not_mem_nil, or_false] at hv; rcases hv with rfl <;> rfl) hc0 (show pm_cl[7]? = some _ from rfl) rfl (Nat.le_of_ble_eq_true rfl) (Nat.le_of_ble_eq_true rfl) (Nat.le_of_ble_eq_true rfl) (Nat.le_of_ble_eq_true rfl) (pw_107 hc0 rfl hc1 hw2 a4.1 (by omega) (fun q xr => ⟨xr, rfl, rfl⟩) (fun q xr => absurd q hC)) (fun r w' q => by obtain ⟨xr, -, q⟩ := q; rw [q]) (fun r w' q => ?_)
    obtain ⟨xr, rfl, hww⟩ := q
    rw [hww]
    show pm_Good sc mm_L 177 _ [.int xr] w 52 7858 _
    refine pm_op_ok (i := .pop) (st' := []) (pe_d mv_L (show pm_fetch mk_L 177 = some (.pop, 1, 0, 0, 0) from rfl)) rfl ?_
    refine pm_ld_ok (i := .aload_n 2) (x := 2) (k := 2) (n := 1) (v := .ref 42) (pe_d mv_L (show pm_fetch mk_L 178 = some (.aload_n 2, 1, 0, 0, 0) from rfl)) rfl rfl rfl ?_
    refine pm_ld_ok (i := .aload_n 0) (x := 0) (k := 2) (n := 1) (v := .retAddr 3) (pe_d mv_L (show pm_fetch mk_L 179 = some (.aload_n 0, 1, 0, 0, 0) from rfl)) rfl rfl rfl ?_
    refine pm_ld_ok (i := .iload_n 3) (x := 3) (k := 0) (n := 1) (v := .int x) (pe_d mv_L (show pm_fetch mk_L 180 = some (.iload_n 3, 1, 0, 0, 0) from rfl)) rfl rfl rfl ?_
    refine pm_op_ok (i := .iconst 1) (st' := [.int 1, .int x, .retAddr 3, .ref 42]) (pe_d mv_L (show pm_fetch mk_L 181 = some (.iconst 1, 1, 0, 0, 0) from rfl)) rfl ?_
    refine pm_op_ok (i := .iadd) (st' := [.int (x + 1), .retAddr 3, .ref 42]) (pe_d mv_L (show pm_fetch mk_L 182 = some (.iadd, 1, 0, 0, 0) from rfl)) rfl ?_
    refine pm_scd (pe_d mv_L (show pm_fetch mk_L 183 = some (.iaload, 1, 0, 0, 0) from rfl)) hvi ?_
    rw [hcd]
    refine pe_callV (y := (mm_169, 1, 0, mk_169)) (As := [.int c]) (rest := []) (P1 := fun r w' => ∃ xr, r = some (.int xr) ∧ w' = w) mv_L (show pm_fetch mk_L 184 = some (.invokevirtual 17, 3, 169, 0, 816) from rfl) rfl rfl rfl (fun v hv => by simp only [List.mem_cons, List.not_mem_nil, or_false] at hv; rcases hv with rfl <;> rfl) hc42 (show pm_cl[8]? = some _ from rfl) rfl (Nat.le_of_ble_eq_true rfl) (Nat.le_of_ble_eq_true rfl) (Nat.le_of_ble_eq_true rfl) (Nat.le_of_ble_eq_true rfl) (pw_169 hc42 hw43 a4.2.1 (by omega) (fun q xr => ⟨xr, rfl, rfl⟩) (fun q xr => absurd q hC)) (fun r w' q => by obtain ⟨xr, -, q⟩ := q; rw [q]) (fun r w' q => ?_)
    obtain ⟨xr2, rfl, hww2⟩ := q
    rw [hww2]
    show pm_Good sc mm_L 187 _ [.int xr2] w 52 7858 _
    refine pm_op_ok (i := .pop) (st' := []) (pe_d mv_L (show pm_fetch mk_L 187 = some (.pop, 1, 0, 0, 0) from rfl)) rfl ?_
    refine pm_goto (off := 820) (pe_d mv_L (show pm_fetch mk_L 188 = some (.goto 820, 3, 0, 0, 0) from rfl)) (by decide) ?_
    show pm_Good sc mm_L 1008 _ _ _ _ _ _
    exact hB v w0 g _ w hs hz hT hm0
