/-! the soundness of calls, new cells and returns by signs -/
section SC0
variable {sc : pm_Z}
section SXD
variable {M : pm_M} {w0 : pm_W} {g0 g : List Int} {P : Option Value → pm_W → Prop} {go : sx_Go} {cal : sx_Ca} {k : sx_O → Bool} {i : Instr} {pc ca sl n : Nat} {env : sx_N} {al : sx_L} {ast : List sx_V} {aw : List sx_C} {lv : pm_L} {st : List Value} {w : pm_W}
theorem sx_cc_ok {y : pm_X} {as rest : List sx_V} (h : sx_cc M y as rest ca sl = true) {As crest : List Value} (ha : sx_f2 (sx_r g) as As) (hr : sx_f2 (sx_r g) rest crest) : as.all (fun a => Nat.beq (sx_cat a) 1) = true ∧ (lg_sl As).length ≤ y.1.2.2.1 ∧ (crest.map fun v => v.category).sum ≤ 8 ∧ ca + y.1.2.2.2.2.cells ≤ M.2.2.2.2.cells ∧ sl + y.1.2.2.2.2.slots ≤ M.2.2.2.2.slots := by
  simp only [sx_cc, Bool.and_eq_true, Nat.ble_eq] at h
  obtain ⟨h1, h2, h3, h4, h5⟩ := h
  refine ⟨h1, ?_, ?_, h4, h5⟩
  · rw [sx_sl1 (sx_cats_ok ha h1), ← sx_f2_len ha]
    exact h2
  · rw [sx_sum_ok hr]
    exact h3
/-- the stack before a call: the arguments, and the rest -/
theorem sx_split {m : Nat} (hs : sx_f2 (sx_r g) ast st) : ∃ As crest, st = As.reverse ++ crest ∧ sx_f2 (sx_r g) (ast.take m).reverse As ∧ sx_f2 (sx_r g) (ast.drop m) crest ∧ As.length = (ast.take m).length := by
  obtain ⟨h1, h2⟩ := sx_f2_take hs m
  refine ⟨(st.take m).reverse, st.drop m, by simp, sx_f2_rev h1, h2, ?_⟩
  rw [List.length_reverse, sx_f2_len h1]
set_option maxHeartbeats 8000000 in
theorem sx_insC_ok {nx : Bool} {Ψ : List Int → Prop} (hsc : sx_scr sc Ψ g0) (hgo : sx_goOK sc M w0 g0 P go) (hca : sx_caOK sc Ψ w0 cal) (hk : ∀ g' o r w', g0 <+: g' → k o = true → sx_mo w0 g' o r w' → P r w') {a b p : Nat} (h : sx_insC M go cal k nx i a b pc ca sl n env al ast aw = true) (hd : decode M.2.1 pc = .ok (i, sx_ln i)) (hlb : pm_lb M pc (i, sx_ln i, a, b, p) = true) (hp : g0 <+: g) (hm : sx_m w0 g (n, env, al, ast, aw) lv st w) (hnx : nx = true → pm_Good sc M pc lv st w ca sl P) : pm_Good sc M pc lv st w ca sl P := by
  obtain ⟨hn, hl, hs, hw⟩ := hm
  simp only at hn hl hs hw
  unfold sx_insC at h
  split at h
  · -- return
    split at h
    · split at h
      · rename_i hM
        cases st with
        | nil => exact pm_ret hd hM (hk g _ none w hp h ⟨hn, trivial, hw⟩)
        | cons v st => cases hs
      · cases h
    · cases h
  · -- ireturn
    split at h
    · obtain ⟨v, m, rfl, h1, h2⟩ := sx_f2_cons hs
      obtain ⟨x, rfl⟩ := sx_int_ok h1
      cases m with
      | cons v m => cases h2
      | nil =>
        split at h
        · rename_i ty c hty hc
          have hb := sx_iv_ok hn hc h1
          split at h
          · rename_i hr
            exact pm_iret hd hty (sx_rt_ok hr hb.1 hb.2) (hk g _ (some (.int x)) w hp h ⟨hn, h1, hw⟩)
          · cases h
        · cases h
    · cases h
  · -- areturn
    split at h
    · obtain ⟨v, m, rfl, h1, h2⟩ := sx_f2_cons hs
      have e : v = .ref _ := h1
      subst e
      cases m with
      | cons v m => cases h2
      | nil =>
        split at h
        · rename_i nm hty
          exact pm_aret hd hty (hk g _ (some (.ref _)) w hp h ⟨hn, h1, hw⟩)
        · cases h
    · cases h
  · -- new
    rename_i idx
    split at h
    · rename_i r l hr hdl
      split at h
      · rename_i hc
        obtain ⟨c1, c2, c3, c4, c5⟩ := hc
        have hlb' : pm_is p (.classLink M.1.cls idx r.1) = true := by simpa [pm_lb, hr] using hlb
        have hi := pm_cl_i hr
        rw [hw.1] at c3 c4 c5 h
        refine pm_new hd hr (pm_is_ok hlb') hi.1 hi.2 c1 c2 (sx_wfw_ok hw c3) (sx_wfl_ok hl c4) (sx_wfs_ok hs c5) (hgo _ _ _ _ _ _ _ _ _ _ _ _ h hp ⟨hn, hl, ⟨rfl, hs⟩, sx_w_app hw ⟨rfl, sx_dl_ok hr hdl hn⟩⟩)
      · cases h
    · cases h
  · -- newarray
    rename_i aty
    split at h
    · obtain ⟨v, m, rfl, h1, h2⟩ := sx_f2_cons hs
      obtain ⟨x, rfl⟩ := sx_int_ok h1
      split at h
      · rename_i c hc
        have hb := sx_iv_ok hn hc h1
        split at h
        · rename_i hcc
          obtain ⟨c1, c2, c3, c4, c5, c6, c7, c8⟩ := hcc
          rw [sx_fn_eq] at h
          simp only [pm_lb, Bool.and_eq_true, Bool.or_eq_true, decide_eq_true_eq] at hlb
          rw [hw.1] at c6 c7 c8 h
          refine pm_newa (kd := b) (N := c.1.toNat) hd hlb.2 (pm_is_ok hlb.1) ?_ ?_ (by omega) c4 c5 (sx_wfw_ok hw c6) (sx_wfl_ok hl c7) (sx_wfs_ok h2 c8) (hgo _ _ _ _ _ _ _ _ _ _ _ _ h hp ⟨hn, hl, ⟨rfl, h2⟩, sx_w_app hw ⟨rfl, by simp, (fun z => by cases z), (fun _ u hu => by rw [(List.mem_replicate.mp hu).2]; decide), fun s hsm => ?_⟩⟩)
          · intro q
            have := Int32.lt_iff_toInt_lt.mp q
            have h0 : (0 : Int32).toInt = 0 := rfl
            omega
          · rw [sx_clamp]
            omega
          · obtain ⟨j, hj, rfl⟩ := List.mem_map.mp hsm
            have hj2 := (List.mem_filter.mp hj).2
            simp only [Nat.blt_eq] at hj2
            refine ⟨0, ?_, sx_const hn rfl⟩
            rw [List.getElem?_replicate, if_pos hj2]
        · cases h
      · cases h
    · cases h
  · -- invokevirtual
    rename_i idx
    split at h
    · rename_i y hy
      have hok := pm_mt_ok hy
      obtain ⟨hme, hnp, hk0, -, -⟩ := pm_ok_meth hok
      simp only [pm_lb, hy, Bool.and_eq_true, decide_eq_true_eq] at hlb
      obtain ⟨⟨⟨hrm, hlk⟩, hkd⟩, hb4⟩ := hlb
      obtain ⟨hin, hse⟩ := hk0 hkd
      split at h
      · rename_i hlen
        obtain ⟨As, crest, rfl, hA, hR, hAl⟩ := sx_split (m := y.2.1) hs
        rw [hlen] at hAl
        have hnp' : pm_np y.1 As.length := by rw [hAl]; exact hnp
        split at h
        · rename_i q rest hdr
          rw [hdr] at hR
          obtain ⟨v, crest, rfl, hv, hR2⟩ := sx_f2_cons hR
          have e : v = .ref q := hv
          subst e
          split at h
          · rename_i o ho
            obtain ⟨c, hc, hrc⟩ := sx_w_get hw ho
            obtain ⟨fs, rfl, hf⟩ := sx_rc_o hrc
            split at h
            · rename_i r hr
              split at h
              · rename_i hcc
                obtain ⟨e1, e2, e3⟩ := hcc
                have hAA : sx_f2 (sx_r g) (.inr (.ref q) :: (ast.take y.2.1).reverse) (.ref q :: As) := ⟨rfl, hA⟩
                obtain ⟨f1, f2, f3, f4, f5⟩ := sx_cc_ok e3 hAA hR2
                have hG := hca _ _ _ _ _ _ _ _ _ _ h hy f1 (sx_scr_pre hp hsc) hn hAA hw
                by_cases hb1 : b = 1
                · rw [if_pos hb1] at hlk
                  exact pm_callVN hd hme (pm_isn_ok hlk) hin hse hnp' hc hr e1 f2 (pm_rmb_ok hrm) f3 f4 f5 (sx_cont_wf hl hR2 hw) hG (sx_cont_ok hgo hp hl hR2)
                · rw [if_neg hb1] at hlk
                  exact pm_callV hd hme (pm_is_ok hlk) hin hse hnp' hc hr e1 f2 (pm_rmb_ok hrm) f3 f4 f5 (sx_cont_wf hl hR2 hw) hG (sx_cont_ok hgo hp hl hR2)
              · cases h
            · cases h
          · cases h
        · rename_i rest hdr
          rw [hdr] at hR
          obtain ⟨v, crest, rfl, hv, hR2⟩ := sx_f2_cons hR
          have e : v = .retAddr 0 := hv
          subst e
          split at h
          · rename_i hcc
            obtain ⟨e2, e3⟩ := hcc
            have hAA : sx_f2 (sx_r g) (.inr (.retAddr 0) :: (ast.take y.2.1).reverse) (.retAddr 0 :: As) := ⟨rfl, hA⟩
            obtain ⟨f1, f2, f3, f4, f5⟩ := sx_cc_ok e3 hAA hR2
            have hG := hca _ _ _ _ _ _ _ _ _ _ h hy f1 (sx_scr_pre hp hsc) hn hAA hw
            rw [if_neg (by omega)] at hlk
            rw [if_pos e2] at hb4
            exact pm_callVS hd hme (pm_is_ok hlk) hin hse hnp' (of_decide_eq_true hb4) f2 (pm_rmb_ok hrm) f3 f4 f5 (sx_cont_wf hl hR2 hw) hG (sx_cont_ok hgo hp hl hR2)
          · cases h
        · cases h
      · cases h
    · cases h
  · -- invokespecial
    rename_i idx
    split at h
    · rename_i hb2
      split at h
      · obtain ⟨v, m, rfl, h1, h2⟩ := sx_f2_cons hs
        have e : v = .ref _ := h1
        subst e
        split at h
        · rename_i hcc
          have hlb' : pm_is p (.methodLink M.1.cls idx objectInit) = true := by simpa [pm_lb, hb2] using hlb
          refine pm_obj hd (pm_is_ok hlb') pm_objw.1 pm_objw.2 hcc.1 ?_ (hgo _ _ _ _ _ _ _ _ _ _ _ _ h hp ⟨hn, hl, h2, hw⟩)
          rw [sx_sum_ok h2]
          exact hcc.2
        · cases h
      · cases h
    · rename_i hb2
      split at h
      · rename_i y hy
        have hok := pm_mt_ok hy
        obtain ⟨hme, hnp, -, -, hk2⟩ := pm_ok_meth hok
        simp only [pm_lb, hy, if_neg hb2, Bool.and_eq_true, decide_eq_true_eq] at hlb
        obtain ⟨⟨hrm, hlk⟩, hkd⟩ := hlb
        obtain ⟨hin, hnm, hrt⟩ := hk2 hkd
        split at h
        · rename_i hlen
          obtain ⟨As, crest, rfl, hA, hR, hAl⟩ := sx_split (m := y.2.1) hs
          rw [hlen] at hAl
          have hnp' : pm_np y.1 As.length := by rw [hAl]; exact hnp
          split at h
          · rename_i q rest hdr
            rw [hdr] at hR
            obtain ⟨v, crest, rfl, hv, hR2⟩ := sx_f2_cons hR
            have e : v = .ref q := hv
            subst e
            split at h
            · rename_i e3
              have hAA : sx_f2 (sx_r g) (.inr (.ref q) :: (ast.take y.2.1).reverse) (.ref q :: As) := ⟨rfl, hA⟩
              obtain ⟨f1, f2, f3, f4, f5⟩ := sx_cc_ok e3 hAA hR2
              have hG := hca _ _ _ _ _ _ _ _ _ _ h hy f1 (sx_scr_pre hp hsc) hn hAA hw
              by_cases hb1 : b = 1
              · rw [if_pos hb1] at hlk
                exact pm_callIN hd hme (pm_isn_ok hlk) hin hnm hrt hnp' f2 (pm_rmb_ok hrm) f3 f4 f5 (sx_cont_wf hl hR2 hw) hG (sx_cont_ok hgo hp hl hR2)
              · rw [if_neg hb1] at hlk
                exact pm_callI hd hme (pm_is_ok hlk) hin hnm hrt hnp' f2 (pm_rmb_ok hrm) f3 f4 f5 (sx_cont_wf hl hR2 hw) hG (sx_cont_ok hgo hp hl hR2)
            · cases h
          · cases h
        · cases h
      · cases h
  · -- invokestatic
    rename_i idx
    split at h
    · rename_i hb3
      split at h
      · obtain ⟨v1, m, rfl, h1, h2⟩ := sx_f2_cons hs
        obtain ⟨v2, m, rfl, h3, h4⟩ := sx_f2_cons h2
        obtain ⟨v3, m, rfl, h5, h6⟩ := sx_f2_cons h4
        obtain ⟨v4, m, rfl, h7, h8⟩ := sx_f2_cons h6
        obtain ⟨v5, m, rfl, h9, h10⟩ := sx_f2_cons h8
        obtain ⟨z, rfl⟩ := sx_int_ok h1
        obtain ⟨dp, rfl⟩ := sx_int_ok h3
        obtain ⟨sp, rfl⟩ := sx_int_ok h7
        have e3 : v3 = .ref _ := h5
        subst e3
        have e5 : v5 = .ref _ := h9
        subst e5
        split at h
        · rename_i cz cd cs a0 a1 hz hdp hsp hq0 hq1
          have bz := sx_iv_ok hn hz h1
          have bd := sx_iv_ok hn hdp h3
          have bs := sx_iv_ok hn hsp h7
          split at h
          · rename_i hcc
            obtain ⟨c1, c2, c3, c4, c5, c6, c7, c8, c9⟩ := hcc
            obtain ⟨d0, hd0, hr0⟩ := sx_w_get hw hq0
            obtain ⟨xs, rfl, hl0, -⟩ := sx_rc_a hr0
            obtain ⟨d1, hd1, hr1⟩ := sx_w_get hw hq1
            obtain ⟨ys, rfl, hl1, -⟩ := sx_rc_a hr1
            rw [c6] at hd0
            rw [c7] at hd1
            have hlb' : pm_is p (.methodLink M.1.cls idx arraycopyName) = true := by simpa [pm_lb, hb3] using hlb
            have np : ∀ t : Int32, 0 ≤ t.toInt → ¬ t < 0 := fun t ht q => by
              have := Int32.lt_iff_toInt_lt.mp q
              have h0 : (0 : Int32).toInt = 0 := rfl
              omega
            refine pm_acp hd (pm_is_ok hlb') pm_acpw.1 pm_acpw.2.1 pm_acpw.2.2 hd0 hd1 (np _ (by omega)) (np _ (by omega)) (np _ (by omega)) (by rw [sx_clamp, sx_clamp]; omega) (by rw [sx_clamp, sx_clamp]; omega) c8 ?_ (hgo _ _ _ _ _ _ _ _ _ _ _ _ h hp ⟨hn, hl, h10, sx_w_set hw ⟨rfl, ?_, (fun z => by cases z), (fun z => absurd (show (0 : Nat) = 1 from z) (by decide)), fun s hsm => by cases hsm⟩⟩)
            · rw [sx_sum_ok h10]
              exact c9
            · simp [pm_cpy, hl1]
          · cases h
        · cases h
      · cases h
    · rename_i hb3
      split at h
      · rename_i hb5
        split at h
        · obtain ⟨v1, m, rfl, h1, h2⟩ := sx_f2_cons hs
          obtain ⟨v2, m, rfl, h3, h4⟩ := sx_f2_cons h2
          obtain ⟨y, rfl⟩ := sx_int_ok h1
          obtain ⟨x, rfl⟩ := sx_int_ok h3
          split at h
          · rename_i c d hc hdd
            have bx := sx_iv_ok hn hc h3
            have by' := sx_iv_ok hn hdd h1
            split at h
            · rename_i hcc
              have hlb' : pm_is p (.methodLink M.1.cls idx Lib.Math.max.name) = true := by simpa [pm_lb, hb5] using hlb
              have hv : sx_mx c.1 d.1 ≤ (if x < y then y else x).toInt ∧ (if x < y then y else x).toInt ≤ sx_mx c.2 d.2 := by
                unfold sx_mx
                by_cases q : x < y
                · rw [if_pos q]
                  have := Int32.lt_iff_toInt_lt.mp q
                  constructor <;> split <;> omega
                · rw [if_neg q]
                  have : ¬ x.toInt < y.toInt := fun z => q (Int32.lt_iff_toInt_lt.mpr z)
                  constructor <;> split <;> omega
              obtain ⟨n', env', v, g', q1, q2, q3, q4⟩ := sx_push_ok h hn hv.1 hv.2
              refine pm_mmax hd (pm_is_ok hlb') hcc.1 ?_ (hgo _ _ _ _ _ _ _ _ _ _ _ _ q4 (hp.trans q1) ⟨q2, sx_l_pre q1 hl, ⟨q3, sx_st_pre q1 h4⟩, sx_w_pre q1 hw⟩)
              rw [sx_sum_ok h4]
              exact hcc.2
            · cases h
          · cases h
        · cases h
      · rename_i hb5
        split at h
        · rename_i hb6
          split at h
          · obtain ⟨v1, m, rfl, h1, h2⟩ := sx_f2_cons hs
            obtain ⟨v2, m, rfl, h3, h4⟩ := sx_f2_cons h2
            obtain ⟨y, rfl⟩ := sx_int_ok h1
            obtain ⟨x, rfl⟩ := sx_int_ok h3
            split at h
            · rename_i c d hc hdd
              have bx := sx_iv_ok hn hc h3
              have by' := sx_iv_ok hn hdd h1
              split at h
              · rename_i hcc
                have hlb' : pm_is p (.methodLink M.1.cls idx Lib.Math.min.name) = true := by simpa [pm_lb, hb6] using hlb
                have hv : sx_mn c.1 d.1 ≤ (if y < x then y else x).toInt ∧ (if y < x then y else x).toInt ≤ sx_mn c.2 d.2 := by
                  unfold sx_mn
                  by_cases q : y < x
                  · rw [if_pos q]
                    have := Int32.lt_iff_toInt_lt.mp q
                    constructor <;> split <;> omega
                  · rw [if_neg q]
                    have : ¬ y.toInt < x.toInt := fun z => q (Int32.lt_iff_toInt_lt.mpr z)
                    constructor <;> split <;> omega
                obtain ⟨n', env', v, g', q1, q2, q3, q4⟩ := sx_push_ok h hn hv.1 hv.2
                refine pm_mmin hd (pm_is_ok hlb') hcc.1 ?_ (hgo _ _ _ _ _ _ _ _ _ _ _ _ q4 (hp.trans q1) ⟨q2, sx_l_pre q1 hl, ⟨q3, sx_st_pre q1 h4⟩, sx_w_pre q1 hw⟩)
                rw [sx_sum_ok h4]
                exact hcc.2
              · cases h
            · cases h
          · cases h
        · rename_i hb6
          split at h
          · rename_i hb7
            split at h
            · obtain ⟨v1, m, rfl, h1, h2⟩ := sx_f2_cons hs
              obtain ⟨x, rfl⟩ := sx_int_ok h1
              split at h
              · rename_i c hc
                have bx := sx_iv_ok hn hc h1
                split at h
                · rename_i hcc
                  have hlb' : pm_is p (.methodLink M.1.cls idx Lib.Math.abs.name) = true := by simpa [pm_lb, hb7] using hlb
                  refine pm_mabs hd (pm_is_ok hlb') hcc.1 (by rw [sx_sum_ok h2]; exact hcc.2) ?_
                  split at h
                  · rw [if_pos (Int32.le_iff_toInt_le.mpr (by have h0 : (0 : Int32).toInt = 0 := rfl; omega))]
                    exact hgo _ _ _ _ _ _ _ _ _ _ _ _ h hp ⟨hn, hl, ⟨h1, h2⟩, hw⟩
                  · have hr := sx_rng (if 0 ≤ x then x else 0 - x)
                    obtain ⟨n', env', v, g', q1, q2, q3, q4⟩ := sx_push_ok h hn hr.1 hr.2
                    exact hgo _ _ _ _ _ _ _ _ _ _ _ _ q4 (hp.trans q1) ⟨q2, sx_l_pre q1 hl, ⟨q3, sx_st_pre q1 h2⟩, sx_w_pre q1 hw⟩
                · cases h
              · cases h
            · cases h
          · rename_i hb7
            split at h
            · rename_i y hy
              have hok := pm_mt_ok hy
              obtain ⟨hme, hnp, -, hk1, -⟩ := pm_ok_meth hok
              simp only [pm_lb, hy, if_neg hb3, if_neg hb5, if_neg hb6, if_neg hb7, Bool.and_eq_true, decide_eq_true_eq] at hlb
              obtain ⟨⟨hrm, hlk⟩, hkd⟩ := hlb
              have hst := hk1 hkd
              split at h
              · rename_i hcc
                obtain ⟨hlen, e3⟩ := hcc
                obtain ⟨As, crest, rfl, hA, hR, hAl⟩ := sx_split (m := y.2.1) hs
                rw [hlen] at hAl
                have hnp' : pm_np y.1 As.length := by rw [hAl]; exact hnp
                obtain ⟨f1, f2, f3, f4, f5⟩ := sx_cc_ok e3 hA hR
                have hG := hca _ _ _ _ _ _ _ _ _ _ h hy f1 (sx_scr_pre hp hsc) hn hA hw
                by_cases hb1 : b = 1
                · rw [if_pos hb1] at hlk
                  exact pm_callSN hd hme (pm_isn_ok hlk) hst hnp' f2 (pm_rmb_ok hrm) f3 f4 f5 (sx_cont_wf hl hR hw) hG (sx_cont_ok hgo hp hl hR)
                · rw [if_neg hb1] at hlk
                  exact pm_callS hd hme (pm_is_ok hlk) hst hnp' f2 (pm_rmb_ok hrm) f3 f4 f5 (sx_cont_wf hl hR hw) hG (sx_cont_ok hgo hp hl hR)
              · cases h
            · cases h
  · exact hnx h
end SXD
end SC0
