theorem li_S6 {Hs Ps Ks sts : List Int32} {sz : Nat} (h : wy_SS Hs Ps Ks sts 6) (hs : sz ≤ 6) : wy_SS Hs Ps Ks sts sz := fun k hk => h k (by omega)
theorem lw_o4 (v : Bool) : ∃ l, (lh_w v)[li_tw v]? = some (.inr (6, l)) ∧ l[1]? = some (.inr (.ref (px_tA v))) ∧ l[2]? = some (.inr (.ref (px_tB v))) ∧ l[4]? = some (.inl (8, 0)) := by cases v <;> exact ⟨_, rfl, rfl, rfl, rfl⟩
theorem lw_tA (v : Bool) : (lh_w v)[px_tA v]? = some (.inl (0, 20, true, [])) ∧ (lh_w v)[px_tB v]? = some (.inl (0, 20, true, [])) := by cases v <;> exact ⟨rfl, rfl⟩
theorem lw_t44 (v : Bool) : (lh_w v)[44]? = some (.inl (0, 50, true, [(0, .inl (8, 0))])) := by cases v <;> rfl
set_option maxHeartbeats 4000000 in
theorem li_cp {sc : pm_Z} {z : Int} {v : Bool} (hB : li_B sc z v 1008) : li_B sc z v 850 := by
  intro w0 g lv w hs hz hT hm
  have hm0 := hm
  obtain ⟨hn, hl, -, hw⟩ := hm
  have hgl : g.length = 44 := hn.1
  obtain ⟨x, rfl, hx⟩ := li_lv hz hl
  obtain ⟨z', b1, b2, b3⟩ := hn.2.2 (1, 0, 395) (List.mem_append_right _ (by decide))
  rw [hz] at b1
  cases b1
  simp only at b2 b3
  have hsl : z + 4 < sc.1 ∧ sc.1 < 2 ^ 31 := by
    rcases hs with ⟨z9, h1, h2⟩ | ⟨i, h1, h2, h3, h4⟩
    · rw [hz] at h1
      cases h1
      omega
    · rw [hz] at h1
      cases h1
      omega
  have ex : ∀ (a : Int32), 1 ≤ a.toInt → a.toInt ≤ 4 → (x + a).toInt = z + a.toInt := fun a h1 h2 => by
    rw [sx_add (by omega) (by omega), hx]
  have hv1 : vp_in (x + 1) sc.1 := pl_in (by rw [ex 1 (by decide) (by decide)]; have : (1 : Int32).toInt = 1 := rfl; omega) (by rw [ex 1 (by decide) (by decide)]; have : (1 : Int32).toInt = 1 := rfl; omega)
  have hv2 : vp_in (x + 2) sc.1 := pl_in (by rw [ex 2 (by decide) (by decide)]; have : (2 : Int32).toInt = 2 := rfl; omega) (by rw [ex 2 (by decide) (by decide)]; have : (2 : Int32).toInt = 2 := rfl; omega)
  have hv3 : vp_in (x + 3) sc.1 := pl_in (by rw [ex 3 (by decide) (by decide)]; have : (3 : Int32).toInt = 3 := rfl; omega) (by rw [ex 3 (by decide) (by decide)]; have : (3 : Int32).toInt = 3 := rfl; omega)
  obtain ⟨xs, ys, szt, a1, a2, a3, a4, aK⟩ := id hT
  obtain ⟨⟨as, bs, ts, d1, d2, d3, dK⟩, Hs, Ps, Ks, sts, e1, e2, e3, e4, eS⟩ := id aK
  have mq := li_q7 v
  have q23 : w[23]? = some (.inl (0, Hs)) := by rw [ly_same hw (lw_fb v 23 mq.1).1]; exact e1
  have q24 : w[24]? = some (.inl (0, Ps)) := by rw [ly_same hw (lw_fb v 24 mq.2.1).1]; exact e2
  have q25 : w[25]? = some (.inl (0, Ks)) := by rw [ly_same hw (lw_fb v 25 mq.2.2.1).1]; exact e3
  have q50 : w[50]? = some (.inl (0, sts)) := by rw [ly_same hw (lw_fb v 50 mq.2.2.2).1]; exact e4
  have len6 : ∀ {q : Nat} {zs : List Int32}, q ∈ [23, 24, 25, 50] → w[q]? = some (.inl (0, zs)) → zs.length = 6 := fun hq hc => by
    obtain ⟨c, hc9, hr⟩ := sx_w_get hw (lw_ts v _ hq)
    rw [hc] at hc9
    cases hc9
    exact hr.2.1
  have lH := len6 (by decide) q23
  have lP := len6 (by decide) q24
  have lK := len6 (by decide) q25
  have lS := len6 (by decide) q50
  obtain ⟨z27, y27, r27⟩ := hn.2.2 _ (li_b4 v).2.1
  simp only at y27 r27
  obtain ⟨sz, rfl⟩ : ∃ s : Nat, z27 = (s : Int) := ⟨z27.toNat, by omega⟩
  have isz : ∀ u : Int32, u.toInt = (sz : Int) → u = Int32.ofNat sz := fun u hu => Int32.toInt_inj.mp (by rw [hu, wy_t (by omega)])
  obtain ⟨cc, hc22, hr22⟩ := sx_w_get hw (lw_t22 v)
  obtain ⟨fq, rfl, hfq⟩ := sx_rc_o hr22
  obtain ⟨v1, m, rfl, p1, hfq⟩ := sx_f2_cons hfq
  obtain ⟨v2, m, rfl, p2, hfq⟩ := sx_f2_cons hfq
  obtain ⟨v3, m, rfl, p3, hfq⟩ := sx_f2_cons hfq
  obtain ⟨v4, m, rfl, p4, hfq⟩ := sx_f2_cons hfq
  cases m with
  | cons _ _ => cases hfq
  | nil =>
  have p1 : v1 = .ref 23 := p1
  have p2 : v2 = .ref 24 := p2
  have p3 : v3 = .ref 25 := p3
  obtain ⟨z4, s4, u1, u2, u3⟩ := p4
  simp only at u1 u3
  rw [y27] at u1
  cases u1
  have es4 := isz s4 (by omega)
  subst p1 p2 p3 u2 es4
  obtain ⟨cc, hc42, hr42⟩ := sx_w_get hw (lw_t42 v)
  obtain ⟨f2, rfl, hf2⟩ := sx_rc_o hr42
  obtain ⟨y1, m, rfl, p1, hf2⟩ := sx_f2_cons hf2
  obtain ⟨y2, m, rfl, p2, hf2⟩ := sx_f2_cons hf2
  obtain ⟨y3, m, rfl, p3, hf2⟩ := sx_f2_cons hf2
  obtain ⟨y4, m, rfl, p4, hf2⟩ := sx_f2_cons hf2
  obtain ⟨y5, m, rfl, p5, hf2⟩ := sx_f2_cons hf2
  obtain ⟨y6, m, rfl, p6, hf2⟩ := sx_f2_cons hf2
  obtain ⟨y7, m, rfl, p7, hf2⟩ := sx_f2_cons hf2
  obtain ⟨y8, m, rfl, p8, hf2⟩ := sx_f2_cons hf2
  obtain ⟨y9, m, rfl, p9, hf2⟩ := sx_f2_cons hf2
  obtain ⟨y10, m, rfl, p10, hf2⟩ := sx_f2_cons hf2
  obtain ⟨y11, m, rfl, p11, hf2⟩ := sx_f2_cons hf2
  obtain ⟨y12, m, rfl, p12, hf2⟩ := sx_f2_cons hf2
  obtain ⟨y13, m, rfl, p13, hf2⟩ := sx_f2_cons hf2
  obtain ⟨y14, m, rfl, p14, hf2⟩ := sx_f2_cons hf2
  cases m with
  | cons _ _ => cases hf2
  | nil =>
  have p1 : y1 = .ref 43 := p1
  have p3 : y3 = .ref 44 := p3
  have p4 : y4 = .ref 45 := p4
  have p5 : y5 = .ref 46 := p5
  have p6 : y6 = .ref 47 := p6
  have p7 : y7 = .ref 48 := p7
  have p9 : y9 = .ref 49 := p9
  have p11 : y11 = .ref 50 := p11
  have p14 : y14 = .ref 51 := p14
  obtain ⟨z5, s5, w1, w2, w3⟩ := p12
  simp only at w1 w3
  rw [y27] at w1
  cases w1
  have es5 := isz s5 (by omega)
  subst p1 p3 p4 p5 p6 p7 p9 p11 p14 w2 es5
  obtain ⟨o0, q1, q2⟩ := lw_o0 v
  obtain ⟨cc, hc0, hr0⟩ := sx_w_get hw q1
  obtain ⟨fs, rfl, hf⟩ := sx_rc_o hr0
  obtain ⟨e0, hb1, hb2⟩ := sx_f2_get hf q2.1
  have hb2 : e0 = .ref 22 := hb2
  subst hb2
  obtain ⟨e0, hb3, hb4⟩ := sx_f2_get hf q2.2
  have hb4 : e0 = .ref (li_tw v) := hb4
  subst hb4
  generalize hc1 : sc.2 (x + 1).toNatClampNeg = c1
  generalize hc2 : sc.2 (x + 2).toNatClampNeg = c2
  generalize hc3 : sc.2 (x + 3).toNatClampNeg = c3
  obtain ⟨o4, q3, q4, q5, q6⟩ := lw_o4 v
  obtain ⟨cc, hc4, hr4⟩ := sx_w_get hw q3
  obtain ⟨tf, rfl, hf4⟩ := sx_rc_o hr4
  obtain ⟨e0, hA1, hA2⟩ := sx_f2_get hf4 q4
  have hA2 : e0 = .ref (px_tA v) := hA2
  subst hA2
  obtain ⟨e0, hB1, hB2⟩ := sx_f2_get hf4 q5
  have hB2 : e0 = .ref (px_tB v) := hB2
  subst hB2
  obtain ⟨z8, y8q, r8q⟩ := hn.2.2 _ (li_b4 v).2.2
  simp only at y8q r8q
  obtain ⟨p, rfl⟩ : ∃ s : Nat, z8 = (s : Int) := ⟨z8.toNat, by omega⟩
  obtain ⟨e0, hp1, z6, pe, u1, u2, u3⟩ := sx_f2_get hf4 q6
  simp only at u1 u3
  rw [y8q] at u1
  cases u1
  have epe : pe = Int32.ofNat p := Int32.toInt_inj.mp (by rw [wy_t (by omega)]; omega)
  subst u2 epe
  have qA : w[px_tA v]? = some (.inl (0, as)) := by rw [ly_same hw (lw_fb v _ List.mem_cons_self).1]; exact d1
  have qB : w[px_tB v]? = some (.inl (0, bs)) := by rw [ly_same hw (lw_fb v _ (List.mem_cons_of_mem _ List.mem_cons_self)).1]; exact d2
  have q44 : w[44]? = some (.inl (0, ts)) := by rw [ly_same hw (lw_fb v 44 (List.mem_cons_of_mem _ (List.mem_cons_of_mem _ List.mem_cons_self))).1]; exact d3
  obtain ⟨cq, e5, r5⟩ := sx_w_get hw (lw_tA v).1
  rw [qA] at e5
  cases e5
  have lA : as.length = 20 := r5.2.1
  obtain ⟨cq, e5, r5⟩ := sx_w_get hw (lw_tA v).2
  rw [qB] at e5
  cases e5
  have lB : bs.length = 20 := r5.2.1
  obtain ⟨cq, e5, r5⟩ := sx_w_get hw (lw_t44 v)
  rw [q44] at e5
  cases e5
  have lT : ts.length = 50 := r5.2.1
  obtain ⟨t0, t1, zt, yt, v1, v2, v3⟩ := r5.2.2.2.2 _ List.mem_cons_self
  simp only at t1 v1 v3
  rw [y8q] at v1
  cases v1
  cases v2
  have et : t0 = Int32.ofNat p := Int32.toInt_inj.mp (by rw [wy_t (by omega)]; omega)
  have hT0 : ts.getD 0 0 = Int32.ofNat p := by rw [List.getD_eq_getElem?_getD, t1, et]; rfl
  have tn : ∀ x : Int32, 0 ≤ x.toInt → x.toInt ≤ 5 → x = Int32.ofNat x.toInt.toNat := fun x h1 h2 => Int32.toInt_inj.mp (by rw [wy_t (by omega)]; omega)
  obtain ⟨A, hA9, hB9⟩ : ∃ A : Int32, pm_GoodM sc mm_98 [.ref 0, .int c1, .int c2] w (wy_R w A) ∧ pm_GoodM sc mm_162 [.ref 42, .int c1, .int c2] w (wy_R w A) := by
    by_cases hin : (0 ≤ c1.toInt ∧ c1.toInt ≤ 3) ∧ 0 ≤ c2.toInt ∧ c2.toInt ≤ 5
    · have e9 := tn c1 hin.1.1 (by omega)
      have f9 := tn c2 hin.2.1 hin.2.2
      obtain ⟨m, hm9⟩ : ∃ m, m = c1.toInt.toNat := ⟨_, rfl⟩
      obtain ⟨pl, hpl⟩ : ∃ m, m = c2.toInt.toNat := ⟨_, rfl⟩
      rw [← hm9] at e9
      rw [← hpl] at f9
      have hm4 : m < 4 := by omega
      have hb9 := wy_162 (sc := sc) (m := m) (pl := pl) hc42 rfl q44 lT (by omega) hT0 (by omega) rfl rfl q50 lS (by omega) (by omega)
      have ha9 := wy_98 (sc := sc) (m := m) (pl := pl) hc4 hA1 hB1 hp1 qA lA qB lB (by omega) (by omega) hc22 rfl rfl rfl rfl q23 lH q24 lP q25 lK (by omega) hc0 hb3 hb1 (by omega)
      rw [wy_q8 dK (li_S6 eS (by omega)) hm4 (by omega) (by omega)] at ha9
      rw [e9, f9]
      exact ⟨_, ha9, hb9⟩
    · exact ⟨-1, wy_98n hin, wy_162n hin⟩
  refine pm_ld_ok (i := .aload_n 1) (x := 1) (k := 2) (n := 1) (v := .ref 0) (pe_d mv_L (show pm_fetch mk_L 850 = some (.aload_n 1, 1, 0, 0, 0) from rfl)) rfl rfl rfl ?_
  refine pm_ld_ok (i := .aload_n 0) (x := 0) (k := 2) (n := 1) (v := .retAddr 3) (pe_d mv_L (show pm_fetch mk_L 851 = some (.aload_n 0, 1, 0, 0, 0) from rfl)) rfl rfl rfl ?_
  refine pm_ld_ok (i := .iload_n 3) (x := 3) (k := 0) (n := 1) (v := .int x) (pe_d mv_L (show pm_fetch mk_L 852 = some (.iload_n 3, 1, 0, 0, 0) from rfl)) rfl rfl rfl ?_
  refine pm_op_ok (i := .iconst 1) (st' := [.int 1, .int x, .retAddr 3, .ref 0]) (pe_d mv_L (show pm_fetch mk_L 853 = some (.iconst 1, 1, 0, 0, 0) from rfl)) rfl ?_
  refine pm_op_ok (i := .iadd) (st' := [.int (x + 1), .retAddr 3, .ref 0]) (pe_d mv_L (show pm_fetch mk_L 854 = some (.iadd, 1, 0, 0, 0) from rfl)) rfl ?_
  refine pm_scd (pe_d mv_L (show pm_fetch mk_L 855 = some (.iaload, 1, 0, 0, 0) from rfl)) hv1 ?_
  rw [hc1]
  show pm_Good sc mm_L 856 _ [.int c1, .ref 0] _ 52 7858 _
  refine pm_ld_ok (i := .aload_n 0) (x := 0) (k := 2) (n := 1) (v := .retAddr 3) (pe_d mv_L (show pm_fetch mk_L 856 = some (.aload_n 0, 1, 0, 0, 0) from rfl)) rfl rfl rfl ?_
  refine pm_ld_ok (i := .iload_n 3) (x := 3) (k := 0) (n := 1) (v := .int x) (pe_d mv_L (show pm_fetch mk_L 857 = some (.iload_n 3, 1, 0, 0, 0) from rfl)) rfl rfl rfl ?_
  refine pm_op_ok (i := .iconst 2) (st' := [.int 2, .int x, .retAddr 3, .int c1, .ref 0]) (pe_d mv_L (show pm_fetch mk_L 858 = some (.iconst 2, 1, 0, 0, 0) from rfl)) rfl ?_
  refine pm_op_ok (i := .iadd) (st' := [.int (x + 2), .retAddr 3, .int c1, .ref 0]) (pe_d mv_L (show pm_fetch mk_L 859 = some (.iadd, 1, 0, 0, 0) from rfl)) rfl ?_
  refine pm_scd (pe_d mv_L (show pm_fetch mk_L 860 = some (.iaload, 1, 0, 0, 0) from rfl)) hv2 ?_
  rw [hc2]
  show pm_Good sc mm_L 861 _ [.int c2, .int c1, .ref 0] _ 52 7858 _
  refine wy_cV (y := (mm_98, 2, 0, mk_98)) (As := [.int c1, .int c2]) (rest := []) (X := A) mv_L (show pm_fetch mk_L 861 = some (.invokevirtual 114, 3, 98, 0, 685) from rfl) rfl rfl rfl (fun v hv => by simp only [List.mem_cons, List.not_mem_nil, or_false] at hv; rcases hv with rfl | rfl <;> rfl) hc0 (show pm_cl[7]? = some _ from rfl) rfl (Nat.le_of_ble_eq_true rfl) (Nat.le_of_ble_eq_true rfl) (Nat.le_of_ble_eq_true rfl) (Nat.le_of_ble_eq_true rfl) hA9 ?_
  show pm_Good sc mm_L 864 _ [.int A] w 52 7858 _
  refine pm_ld_ok (i := .aload_n 2) (x := 2) (k := 2) (n := 1) (v := .ref 42) (pe_d mv_L (show pm_fetch mk_L 864 = some (.aload_n 2, 1, 0, 0, 0) from rfl)) rfl rfl rfl ?_
  refine pm_ld_ok (i := .aload_n 0) (x := 0) (k := 2) (n := 1) (v := .retAddr 3) (pe_d mv_L (show pm_fetch mk_L 865 = some (.aload_n 0, 1, 0, 0, 0) from rfl)) rfl rfl rfl ?_
  refine pm_ld_ok (i := .iload_n 3) (x := 3) (k := 0) (n := 1) (v := .int x) (pe_d mv_L (show pm_fetch mk_L 866 = some (.iload_n 3, 1, 0, 0, 0) from rfl)) rfl rfl rfl ?_
  refine pm_op_ok (i := .iconst 1) (st' := [.int 1, .int x, .retAddr 3, .ref 42, .int A]) (pe_d mv_L (show pm_fetch mk_L 867 = some (.iconst 1, 1, 0, 0, 0) from rfl)) rfl ?_
  refine pm_op_ok (i := .iadd) (st' := [.int (x + 1), .retAddr 3, .ref 42, .int A]) (pe_d mv_L (show pm_fetch mk_L 868 = some (.iadd, 1, 0, 0, 0) from rfl)) rfl ?_
  refine pm_scd (pe_d mv_L (show pm_fetch mk_L 869 = some (.iaload, 1, 0, 0, 0) from rfl)) hv1 ?_
  rw [hc1]
  show pm_Good sc mm_L 870 _ [.int c1, .ref 42, .int A] _ 52 7858 _
  refine pm_ld_ok (i := .aload_n 0) (x := 0) (k := 2) (n := 1) (v := .retAddr 3) (pe_d mv_L (show pm_fetch mk_L 870 = some (.aload_n 0, 1, 0, 0, 0) from rfl)) rfl rfl rfl ?_
  refine pm_ld_ok (i := .iload_n 3) (x := 3) (k := 0) (n := 1) (v := .int x) (pe_d mv_L (show pm_fetch mk_L 871 = some (.iload_n 3, 1, 0, 0, 0) from rfl)) rfl rfl rfl ?_
  refine pm_op_ok (i := .iconst 2) (st' := [.int 2, .int x, .retAddr 3, .int c1, .ref 42, .int A]) (pe_d mv_L (show pm_fetch mk_L 872 = some (.iconst 2, 1, 0, 0, 0) from rfl)) rfl ?_
  refine pm_op_ok (i := .iadd) (st' := [.int (x + 2), .retAddr 3, .int c1, .ref 42, .int A]) (pe_d mv_L (show pm_fetch mk_L 873 = some (.iadd, 1, 0, 0, 0) from rfl)) rfl ?_
  refine pm_scd (pe_d mv_L (show pm_fetch mk_L 874 = some (.iaload, 1, 0, 0, 0) from rfl)) hv2 ?_
  rw [hc2]
  show pm_Good sc mm_L 875 _ [.int c2, .int c1, .ref 42, .int A] _ 52 7858 _
  refine wy_cV (y := (mm_162, 2, 0, mk_162)) (As := [.int c1, .int c2]) (rest := [.int A]) (X := A) mv_L (show pm_fetch mk_L 875 = some (.invokevirtual 117, 3, 162, 0, 1008) from rfl) rfl rfl rfl (fun v hv => by simp only [List.mem_cons, List.not_mem_nil, or_false] at hv; rcases hv with rfl | rfl <;> rfl) hc42 (show pm_cl[8]? = some _ from rfl) rfl (Nat.le_of_ble_eq_true rfl) (Nat.le_of_ble_eq_true rfl) (Nat.le_of_ble_eq_true rfl) (Nat.le_of_ble_eq_true rfl) hB9 ?_
  show pm_Good sc mm_L 878 _ [.int A, .int A] w 52 7858 _
  refine wy_qe (off := 130) (pe_d mv_L (show pm_fetch mk_L 878 = some (.if_icmp .eq 130, 3, 0, 0, 0) from rfl)) (by decide) (fun _ => ?_) (fun h => absurd rfl h)
  show pm_Good sc mm_L 1008 _ _ _ _ _ _
  exact hB w0 g _ w hs hz hT hm0
