theorem li_26 {sc : pm_Z} {z : Int} (hB : ∀ pc ∈ li_cs, ∀ v, li_B sc z v pc) (v : Bool) : li_B sc z v 26 := by
  intro w0 g lv w hs hz hT hm
  have h : sx_run sx_AN sx_CU sx_O1 100000 lh_x li_an (li_cs.map (lh_c v)) false 26 52 7858 lh_n (lh_b v) lh_l [] (lh_w v) lh_k = true := by
    rw [← sx_runF_eq]
    cases v
    · exact rd_0
    · exact rd_1
  have hl : g.length = 44 := hm.1.1
  refine sx_run_ok (lo_O1 (Ψ := lo_tr) (w0 := w0)) 100000 lh_x _ _ _ _ _ _ _ _ _ _ _ _ g g lv [] w li_Q h mv_L ⟨hs, g, List.prefix_rfl, trivial⟩ List.prefix_rfl hm (fun h9 hh => ?_) (fun g' o r w' _ hk hmo => li_k hk hmo)
  obtain ⟨pc, hpc, rfl⟩ := List.mem_map.mp hh
  have ht : g.take 44 = g := by rw [← hl, List.take_length]
  refine ⟨g, List.prefix_rfl, by decide, by show 44 ≤ _; omega, by show sx_n (g.take 44) 44 (lh_b v); rw [ht]; exact hm.1, Or.inl rfl, fun g2 lv2 w2 t2 hm2 _ => ?_⟩
  have hl2 : g2.length = 44 := hm2.1.1
  have t2 : g2.take 44 = g.take 44 := t2
  rw [ht, ← hl2, List.take_length] at t2
  subst t2
  exact hB pc hpc v w0 g2 lv2 w2 hs hz hT hm2
theorem li_c0 {sc : pm_Z} {z : Int} (hI : li_I sc z) (v : Bool) : li_B sc z v 168 := li_wr (li_tail hI) v
theorem li_c1 {sc : pm_Z} {z : Int} (hI : li_I sc z) (v : Bool) : li_B sc z v 191 := by
  cases v
  · exact li_rw (li_tail hI false) rb_1_0
  · exact li_rw (li_tail hI true) rb_1_1
theorem li_c2 {sc : pm_Z} {z : Int} (hI : li_I sc z) (v : Bool) : li_B sc z v 204 := by
  exact li_ft (li_tail hI v)
theorem li_c3 {sc : pm_Z} {z : Int} (hI : li_I sc z) (v : Bool) : li_B sc z v 217 := by
  exact li_ly (li_tail hI v) (li_tail hI (!v))
theorem li_c4 {sc : pm_Z} {z : Int} (hI : li_I sc z) (v : Bool) : li_B sc z v 230 := by
  have hB : ∀ u, li_B sc z u 250 := by
    intro u
    cases u
    · exact li_rm (fun _ => lo_O1) (li_tail hI false) rb_4_0
    · exact li_rm (fun _ => lo_O1) (li_tail hI true) rb_4_1
  cases v
  · exact li_rm (fun _ => lo_O1) (hB false) ra_4_0
  · exact li_rm (fun _ => lo_O1) (hB true) ra_4_1
theorem li_c5 {sc : pm_Z} {z : Int} (hI : li_I sc z) (v : Bool) : li_B sc z v 273 := by
  have hB : ∀ u, li_B sc z u 283 := by
    intro u
    cases u
    · exact li_rm (fun _ => lo_O1) (li_tail hI false) rb_5_0
    · exact li_rm (fun _ => lo_O1) (li_tail hI true) rb_5_1
  cases v
  · exact li_rm (fun _ => lo_O1) (hB false) ra_5_0
  · exact li_rm (fun _ => lo_O1) (hB true) ra_5_1
theorem li_c6 {sc : pm_Z} {z : Int} (hI : li_I sc z) (v : Bool) : li_B sc z v 296 := by
  have hB : ∀ u, li_B sc z u 311 := by
    intro u
    cases u
    · exact li_rm (fun _ => lo_O1) (li_tail hI false) rb_6_0
    · exact li_rm (fun _ => lo_O1) (li_tail hI true) rb_6_1
  cases v
  · exact li_rm (fun _ => lo_O1) (hB false) ra_6_0
  · exact li_rm (fun _ => lo_O1) (hB true) ra_6_1
theorem li_c7 {sc : pm_Z} {z : Int} (hI : li_I sc z) (v : Bool) : li_B sc z v 329 := by
  have hB : ∀ u, li_B sc z u 339 := by
    intro u
    cases u
    · exact li_rm (fun _ => lo_O1) (li_tail hI false) rb_7_0
    · exact li_rm (fun _ => lo_O1) (li_tail hI true) rb_7_1
  cases v
  · exact li_rm (fun _ => lo_O1) (hB false) ra_7_0
  · exact li_rm (fun _ => lo_O1) (hB true) ra_7_1
theorem li_c8 {sc : pm_Z} {z : Int} (hI : li_I sc z) (v : Bool) : li_B sc z v 352 := by
  have hB : ∀ u, li_B sc z u 367 := by
    intro u
    cases u
    · exact li_rm (fun _ => lo_O1) (li_tail hI false) rb_8_0
    · exact li_rm (fun _ => lo_O1) (li_tail hI true) rb_8_1
  cases v
  · exact li_rm (fun _ => lo_O1) (hB false) ra_8_0
  · exact li_rm (fun _ => lo_O1) (hB true) ra_8_1
theorem li_c9 {sc : pm_Z} {z : Int} (hI : li_I sc z) (v : Bool) : li_B sc z v 385 := by
  have hB : ∀ u, li_B sc z u 405 := by
    intro u
    cases u
    · exact li_rm (fun _ => lo_O1) (li_tail hI false) rb_9_0
    · exact li_rm (fun _ => lo_O1) (li_tail hI true) rb_9_1
  cases v
  · exact li_rm (fun _ => lo_O1) (hB false) ra_9_0
  · exact li_rm (fun _ => lo_O1) (hB true) ra_9_1
theorem li_c10 {sc : pm_Z} {z : Int} (hI : li_I sc z) (v : Bool) : li_B sc z v 428 := by
  have hB : ∀ u, li_B sc z u 433 := by
    intro u
    cases u
    · exact li_rm (fun _ => lo_O1) (li_tail hI false) rb_10_0
    · exact li_rm (fun _ => lo_O1) (li_tail hI true) rb_10_1
  cases v
  · exact li_rm (fun _ => lo_O1) (hB false) ra_10_0
  · exact li_rm (fun _ => lo_O1) (hB true) ra_10_1
theorem li_c11 {sc : pm_Z} {z : Int} (hI : li_I sc z) (v : Bool) : li_B sc z v 441 := by
  have hB : ∀ u, li_B sc z u 461 := by
    intro u
    cases u
    · exact li_rm (fun _ => lo_O1) (li_tail hI false) rb_11_0
    · exact li_rm (fun _ => lo_O1) (li_tail hI true) rb_11_1
  cases v
  · exact li_rm (fun _ => lo_O1) (hB false) ra_11_0
  · exact li_rm (fun _ => lo_O1) (hB true) ra_11_1
theorem li_c12 {sc : pm_Z} {z : Int} (hI : li_I sc z) (v : Bool) : li_B sc z v 484 := by
  have hB : ∀ u, li_B sc z u 494 := by
    intro u
    cases u
    · exact li_rm (fun _ => lo_O1) (li_tail hI false) rb_12_0
    · exact li_rm (fun _ => lo_O1) (li_tail hI true) rb_12_1
  cases v
  · exact li_rm (fun _ => lo_O1) (hB false) ra_12_0
  · exact li_rm (fun _ => lo_O1) (hB true) ra_12_1
theorem li_c13 {sc : pm_Z} {z : Int} (hI : li_I sc z) (v : Bool) : li_B sc z v 507 := by
  have hB : ∀ u, li_B sc z u 512 := by
    intro u
    cases u
    · exact li_rm (fun _ => lo_O1) (li_tail hI false) rb_13_0
    · exact li_rm (fun _ => lo_O1) (li_tail hI true) rb_13_1
  cases v
  · exact li_rm (fun _ => lo_O1) (hB false) ra_13_0
  · exact li_rm (fun _ => lo_O1) (hB true) ra_13_1
theorem li_c14 {sc : pm_Z} {z : Int} (hI : li_I sc z) (v : Bool) : li_B sc z v 520 := by
  have hB : ∀ u, li_B sc z u 535 := by
    intro u
    cases u
    · exact li_rm (fun _ => lo_O1) (li_tail hI false) rb_14_0
    · exact li_rm (fun _ => lo_O1) (li_tail hI true) rb_14_1
  cases v
  · exact li_rm (fun _ => lo_O1) (hB false) ra_14_0
  · exact li_rm (fun _ => lo_O1) (hB true) ra_14_1
theorem li_c15 {sc : pm_Z} {z : Int} (hI : li_I sc z) (v : Bool) : li_B sc z v 553 := by
  have hB : ∀ u, li_B sc z u 578 := by
    intro u
    cases u
    · exact li_rm (fun _ => lo_O1) (li_tail hI false) rb_15_0
    · exact li_rm (fun _ => lo_O1) (li_tail hI true) rb_15_1
  cases v
  · exact li_rm (fun _ => lo_O1) (hB false) ra_15_0
  · exact li_rm (fun _ => lo_O1) (hB true) ra_15_1
theorem li_c16 {sc : pm_Z} {z : Int} (hI : li_I sc z) (v : Bool) : li_B sc z v 606 := by
  have hB : ∀ u, li_B sc z u 626 := by
    intro u
    cases u
    · exact li_rm (fun _ => lo_O1) (li_tail hI false) rb_16_0
    · exact li_rm (fun _ => lo_O1) (li_tail hI true) rb_16_1
  cases v
  · exact li_rm (fun _ => lo_O1) (hB false) ra_16_0
  · exact li_rm (fun _ => lo_O1) (hB true) ra_16_1
theorem li_c17 {sc : pm_Z} {z : Int} (hI : li_I sc z) (v : Bool) : li_B sc z v 649 := by
  have hB : ∀ u, li_B sc z u 659 := by
    intro u
    cases u
    · exact li_rm (fun _ => lo_O1) (li_tail hI false) rb_17_0
    · exact li_rm (fun _ => lo_O1) (li_tail hI true) rb_17_1
  cases v
  · exact li_rm (fun _ => lo_O1) (hB false) ra_17_0
  · exact li_rm (fun _ => lo_O1) (hB true) ra_17_1
theorem li_c18 {sc : pm_Z} {z : Int} (hI : li_I sc z) (v : Bool) : li_B sc z v 672 := by
  have hB : ∀ u, li_B sc z u 697 := by
    intro u
    cases u
    · exact li_rm (fun _ => lo_O1) (li_tail hI false) rb_18_0
    · exact li_rm (fun _ => lo_O1) (li_tail hI true) rb_18_1
  cases v
  · exact li_rm (fun _ => lo_O_ok) (hB false) ra_18_0
  · exact li_rm (fun _ => lo_O_ok) (hB true) ra_18_1
theorem li_c19 {sc : pm_Z} {z : Int} (hI : li_I sc z) (v : Bool) : li_B sc z v 725 := by
  have hB : ∀ u, li_B sc z u 735 := by
    intro u
    cases u
    · exact li_rm (fun _ => lo_O1) (li_tail hI false) rb_19_0
    · exact li_rm (fun _ => lo_O1) (li_tail hI true) rb_19_1
  cases v
  · exact li_rm (fun _ => lo_O1) (hB false) ra_19_0
  · exact li_rm (fun _ => lo_O1) (hB true) ra_19_1
theorem li_c20 {sc : pm_Z} {z : Int} (hI : li_I sc z) (v : Bool) : li_B sc z v 748 := by
  have hB : ∀ u, li_B sc z u 758 := by
    intro u
    cases u
    · exact li_rm (fun _ => lo_O1) (li_tail hI false) rb_20_0
    · exact li_rm (fun _ => lo_O1) (li_tail hI true) rb_20_1
  cases v
  · exact li_rm (fun _ => lo_O1) (hB false) ra_20_0
  · exact li_rm (fun _ => lo_O1) (hB true) ra_20_1
theorem li_c21 {sc : pm_Z} {z : Int} (hI : li_I sc z) (v : Bool) : li_B sc z v 771 := by
  exact li_sp (li_tail hI v)
theorem li_c22 {sc : pm_Z} {z : Int} (hI : li_I sc z) (v : Bool) : li_B sc z v 814 := by
  cases v
  · exact li_rm (fun _ => lo_O1) (li_tail hI false) rb_22_0
  · exact li_rm (fun _ => lo_O1) (li_tail hI true) rb_22_1
theorem li_c23 {sc : pm_Z} {z : Int} (hI : li_I sc z) (v : Bool) : li_B sc z v 827 := by
  have hB : ∀ u, li_B sc z u 837 := by
    intro u
    cases u
    · exact li_rm (fun _ => lo_O1) (li_tail hI false) rb_23_0
    · exact li_rm (fun _ => lo_O1) (li_tail hI true) rb_23_1
  cases v
  · exact li_rm (fun _ => lo_O1) (hB false) ra_23_0
  · exact li_rm (fun _ => lo_O1) (hB true) ra_23_1
theorem li_c24 {sc : pm_Z} {z : Int} (hI : li_I sc z) (v : Bool) : li_B sc z v 850 := by
  exact li_cp (li_tail hI v)
theorem li_c25 {sc : pm_Z} {z : Int} (hI : li_I sc z) (v : Bool) : li_B sc z v 883 := by
  have hB : ∀ u, li_B sc z u 898 := by
    intro u
    cases u
    · exact li_rm (fun _ => lo_O1) (li_tail hI false) rb_25_0
    · exact li_rm (fun _ => lo_O1) (li_tail hI true) rb_25_1
  cases v
  · exact li_rm (fun _ => lo_O1) (hB false) ra_25_0
  · exact li_rm (fun _ => lo_O1) (hB true) ra_25_1
theorem li_c26 {sc : pm_Z} {z : Int} (hI : li_I sc z) (v : Bool) : li_B sc z v 916 := by
  have hB : ∀ u, li_B sc z u 936 := by
    intro u
    cases u
    · exact li_rm (fun _ => lo_O1) (li_tail hI false) rb_26_0
    · exact li_rm (fun _ => lo_O1) (li_tail hI true) rb_26_1
  cases v
  · exact li_rm (fun _ => lo_O1) (hB false) ra_26_0
  · exact li_rm (fun _ => lo_O1) (hB true) ra_26_1
theorem li_c27 {sc : pm_Z} {z : Int} (hI : li_I sc z) (v : Bool) : li_B sc z v 959 := by
  cases v
  · exact li_rm (fun _ => lo_O1) (li_tail hI false) rb_27_0
  · exact li_rm (fun _ => lo_O1) (li_tail hI true) rb_27_1
theorem li_c28 {sc : pm_Z} {z : Int} (hI : li_I sc z) (v : Bool) : li_B sc z v 972 := by
  cases v
  · exact li_rm (fun _ => lo_O1) (li_tail hI false) rb_28_0
  · exact li_rm (fun _ => lo_O1) (li_tail hI true) rb_28_1
theorem li_c29 {sc : pm_Z} {z : Int} (hI : li_I sc z) (v : Bool) : li_B sc z v 985 := by
  have hB : ∀ u, li_B sc z u 995 := by
    intro u
    cases u
    · exact li_rm (fun _ => lo_O1) (li_tail hI false) rb_29_0
    · exact li_rm (fun _ => lo_O1) (li_tail hI true) rb_29_1
  cases v
  · exact li_rm (fun _ => lo_O1) (hB false) ra_29_0
  · exact li_rm (fun _ => lo_O1) (hB true) ra_29_1
theorem li_c30 {sc : pm_Z} {z : Int} (hI : li_I sc z) (v : Bool) : li_B sc z v 1008 := li_tail hI v
theorem li_all {sc : pm_Z} {z : Int} (hI : li_I sc z) : ∀ pc ∈ li_cs, ∀ v, li_B sc z v pc := by
  intro pc hpc
  simp only [li_cs, List.mem_cons, List.not_mem_nil, or_false] at hpc
  rcases hpc with rfl | rfl | rfl | rfl | rfl | rfl | rfl | rfl | rfl | rfl | rfl | rfl | rfl | rfl | rfl | rfl | rfl | rfl | rfl | rfl | rfl | rfl | rfl | rfl | rfl | rfl | rfl | rfl | rfl | rfl | rfl
  · exact li_c0 hI
  · exact li_c1 hI
  · exact li_c2 hI
  · exact li_c3 hI
  · exact li_c4 hI
  · exact li_c5 hI
  · exact li_c6 hI
  · exact li_c7 hI
  · exact li_c8 hI
  · exact li_c9 hI
  · exact li_c10 hI
  · exact li_c11 hI
  · exact li_c12 hI
  · exact li_c13 hI
  · exact li_c14 hI
  · exact li_c15 hI
  · exact li_c16 hI
  · exact li_c17 hI
  · exact li_c18 hI
  · exact li_c19 hI
  · exact li_c20 hI
  · exact li_c21 hI
  · exact li_c22 hI
  · exact li_c23 hI
  · exact li_c24 hI
  · exact li_c25 hI
  · exact li_c26 hI
  · exact li_c27 hI
  · exact li_c28 hI
  · exact li_c29 hI
  · exact li_c30 hI
/-- the numbers of the script put into the signs -/
def li_up (g : List Int) (f : Nat → Int) : List Int := g.mapIdx (fun i z => if 2 ≤ i ∧ i < 7 then f (i - 2) else z)
theorem li_up_get (g : List Int) (f : Nat → Int) (i : Nat) : (li_up g f)[i]? = (g[i]?).map (fun z => if 2 ≤ i ∧ i < 7 then f (i - 2) else z) := by
  unfold li_up
  rw [List.getElem?_mapIdx]
theorem li_up_o {g : List Int} {f : Nat → Int} {i : Nat} (h : ¬ (2 ≤ i ∧ i < 7)) : (li_up g f)[i]? = g[i]? := by
  rw [li_up_get]
  simp only [h, if_false]
  cases g[i]? <;> rfl
theorem li_up_n {g : List Int} {f : Nat → Int} {o : Nat} (ho : o < 5) (hl : g.length = 44) : (li_up g f)[2 + o]? = some (f o) := by
  rw [li_up_get, List.getElem?_eq_getElem (show 2 + o < g.length by omega)]
  simp only [Option.map_some]
  rw [if_pos (by omega)]
  congr 2
  omega
set_option maxHeartbeats 4000000 in
theorem li_18 {sc : pm_Z} (hsc : sc.1 ≤ 320) : ∀ (N : Nat) (v : Bool) (w0 : pm_W) (g : List Int) (lv : pm_L) (w : pm_W) (z : Int), sx_m w0 g (lh_n, lh_e v, lh_l, [], lh_w v) lv [] w → g[1]? = some z → li_T v w0 g → (400 - z).toNat < N → pm_Good sc mm_L 18 lv [] w 52 7858 li_Q := by
  intro N
  induction N with
  | zero => intro v w0 g lv w z _ _ _ hN; exact absurd hN (Nat.not_lt_zero _)
  | succ N ih =>
    intro v w0 g lv w z hm hz hT hN
    have hI : li_I sc z := fun u w1 g1 lv1 w2 y hy hgy hT1 hm1 => by
      obtain ⟨y', c1, c2, c3⟩ := hm1.1.2.2 (1, 0, 400) (List.mem_append_right _ (by decide))
      rw [hgy] at c1
      cases c1
      simp only at c2 c3
      exact ih u w1 g1 lv1 w2 y hm1 hgy hT1 (by omega)
    obtain ⟨z', b1, b2, b3⟩ := hm.1.2.2 (1, 0, 400) (List.mem_append_right _ (by decide))
    rw [hz] at b1
    cases b1
    simp only at b2 b3
    obtain ⟨hn, hl, hst, hw⟩ := hm
    have hgl : g.length = 44 := hn.1
    obtain ⟨x, rfl, y3⟩ := li_lv hz hl
    refine pm_ld_ok (i := .iload_n 3) (x := 3) (k := 0) (n := 1) (v := .int x) (by decide +kernel) rfl rfl rfl ?_
    refine pm_ld_ok (i := .aload_n 0) (x := 0) (k := 2) (n := 1) (v := .retAddr 3) (by decide +kernel) rfl rfl rfl ?_
    refine pm_scl (by decide +kernel) ?_
    refine pm_op_ok (i := .iconst 5) (st' := [.int 5, .int (Int32.ofNat sc.1), .int x]) (by decide +kernel) rfl ?_
    refine pm_op_ok (i := .isub) (st' := [.int (Int32.ofNat sc.1 - 5), .int x]) (by decide +kernel) rfl ?_
    refine pm_br2 (c := .gt) (off := 991) (by decide +kernel) (by decide) (fun _ => ?_) (fun hf => ?_)
    · show pm_Good sc mm_L 1014 _ _ _ _ _ _
      refine pm_op_ok (i := .iconst 1) (st' := [.int 1]) (by decide +kernel) rfl ?_
      exact pm_iret (ty := .boolean) (by decide +kernel) rfl rfl rfl
    · show pm_Good sc mm_L 26 _ _ _ _ _ _
      have hs1 : (Int32.ofNat sc.1).toInt = sc.1 := Int32.toInt_ofNat_of_lt (by omega)
      have hs5 : (5 : Int32).toInt = 5 := rfl
      have hs2 : (Int32.ofNat sc.1 - 5).toInt = sc.1 - 5 := by
        rw [sx_sub (by rw [hs1, hs5]; omega) (by rw [hs1, hs5]; omega), hs1, hs5]
      have hle : z ≤ sc.1 - 5 := by
        have h1 : ¬ (Int32.ofNat sc.1 - 5 < x) := of_decide_eq_false hf
        have h2 := Int32.not_lt.mp h1
        have h3 := Int32.le_iff_toInt_le.mp h2
        rw [hs2, y3] at h3
        exact h3
      have hup1 : (li_up g (fun o => (sc.2 (z.toNat + o)).toInt))[1]? = some z := by rw [li_up_o (by omega)]; exact hz
      refine li_26 (li_all hI) v w0 (li_up g (fun o => (sc.2 (z.toNat + o)).toInt)) _ w ?_ hup1 (li_Tg hT (li_up_o (by omega))) ⟨⟨?_, ?_, ?_⟩, li_ll hup1 y3, trivial, ?_⟩
      · refine Or.inr ⟨z.toNat, by rw [hup1]; congr 1; omega, by omega, by omega, fun o ho => ?_⟩
        rw [li_up_n ho hgl]
      · show (li_up g _).length = 44
        unfold li_up
        rw [List.length_mapIdx]
        exact hgl
      · rw [li_up_o (by omega)]
        exact hn.2.1
      · intro q hq
        rcases List.mem_append.mp hq with hq | hq
        · have h7 := (ll_f7 v).1 q hq
          obtain ⟨y, c1, c2⟩ := hn.2.2 q (List.mem_append_left _ hq)
          exact ⟨y, by rw [li_up_o (by omega)]; exact c1, c2⟩
        · simp only [lh_j, List.mem_cons, List.not_mem_nil, or_false] at hq
          rcases hq with rfl | rfl | rfl | rfl | rfl | rfl
          · exact ⟨z, hup1, b2, by simp only; omega⟩
          · exact ⟨_, li_up_n (o := 0) (by omega) hgl, sx_rng _⟩
          · exact ⟨_, li_up_n (o := 1) (by omega) hgl, sx_rng _⟩
          · exact ⟨_, li_up_n (o := 2) (by omega) hgl, sx_rng _⟩
          · exact ⟨_, li_up_n (o := 3) (by omega) hgl, sx_rng _⟩
          · exact ⟨_, li_up_n (o := 4) (by omega) hgl, sx_rng _⟩
      · refine lo_w_ok (fun i hi => ?_) (ll_ok_w v) hw
        rcases ll_ok_i hi with h | h
        · exact li_up_o (by omega)
        · exact li_up_o (by omega)

