theorem ll_dec {z : Int} {N : Nat} (h1 : z ≤ 7) (h2 : (8 - z).toNat < N + 1) : (8 - (z + 1)).toNat < N := by omega
section LM
variable {sc : pm_Z} {w0 : pm_W} {v : Bool} {gb : List Int}
set_option maxHeartbeats 4000000 in
theorem ll_out (hl : gb.length = 47) (hg1 : gb[1]? = some (-1)) :
    ∀ (N : Nat) (g2 : List Int) (lv2 : pm_L) (w2 : pm_W) (z f : Int), g2.take 47 = gb → sx_m w0 g2 (50, (49, (-2147483648), 2147483647) :: ll_G v, ll_l (47, 0), [], lh_w v) lv2 [] w2 → g2[47]? = some z → (8 - z).toNat < N → g2[48]? = some f → ll_S f → pm_Good sc mm_78 11 lv2 [] w2 0 0 (ll_P w0 v gb)
  | 0, g2, lv2, w2, z, f, ht, hm, hz, hN, hf, hS => absurd hN (Nat.not_lt_zero _)
  | N + 1, g2, lv2, w2, z, f, ht, hm, hz, hN, hf, hS => by
    have hrun : sx_run sx_AN sx_CU sx_O1 100000 ll_x [(61, .inl ([], 0, 1))] [ll_c v 0] false 11 0 0 50 ((49, (-2147483648), 2147483647) :: ll_G v) (ll_l (47, 0)) [] (lh_w v) (ll_k v) = true := by
      rw [← sx_runF_eq]
      exact ll_1_ok v
    have hlen : g2.length = 50 := hm.1.1
    refine sx_run_ok (lo_O1 (w0 := w0)) 100000 ll_x _ _ _ _ _ _ _ _ _ _ _ _ g2 g2 lv2 [] w2 (ll_P w0 v gb) hrun ll_kb (ll_scr hl hg1 ht) List.prefix_rfl hm (fun h hh => ?_) (fun g' o r w' hp hk hmo => ?_)
    · have e := List.mem_singleton.mp hh
      subst e
      refine ⟨g2, List.prefix_rfl, by decide, by omega, ?_, Or.inl rfl, fun g3 lv3 w3 t3 hm3 _ => ?_⟩
      · refine ll_take hm.1 (by omega) (by decide) (fun q hq => ⟨List.mem_cons_of_mem _ hq, ?_⟩)
        rcases List.mem_cons.mp hq with rfl | hq
        · decide
        · rcases List.mem_cons.mp hq with rfl | hq
          · decide
          · exact Nat.lt_trans (ll_E_lt v q hq) (by decide)
      · have h47 : g3[47]? = some z := by
          rw [ll_get t3 (by omega), List.getElem?_take_of_lt (by omega)]
          exact hz
        obtain ⟨y, y1, y2, y3⟩ := hm3.1.2.2 (47, 0, 7) (List.mem_append_left _ (by decide))
        rw [h47] at y1
        cases y1
        simp only at y2 y3
        have hN' : (8 - (z + 1)).toNat < N := ll_dec y3 hN
        obtain ⟨c, c1, c2, c3⟩ := hm3.1.2.2 (54, 0, 11) (List.mem_append_left _ (by decide))
        refine ll_in hl hg1 y2 y3 ?_ _ g3 lv3 w3 c f (by rw [ll_tt t3 (show 47 ≤ 49 by omega), ht]) hm3 h47 c1 (Nat.lt_succ_self _) ?_ hS
        · intro g4 lv4 w4 f4 q1 q2 q3 q4 q5
          exact ll_out hl hg1 N g4 lv4 w4 (z + 1) f4 q1 q2 q3 hN' q4 q5
        · rw [ll_get t3 (by omega), List.getElem?_take_of_lt (by omega)]
          exact hf
    · unfold ll_k at hk
      simp only [Bool.and_eq_true, decide_eq_true_eq] at hk
      obtain ⟨hk1, hk2⟩ := hk
      obtain ⟨m1, m2, m3⟩ := hmo
      rw [hk1] at m2
      cases r with
      | none => cases m2
      | some u =>
        obtain ⟨y, x, e1, e2, e3⟩ := m2
        subst e2
        have h48 : g'[48]? = some f := sx_get_pre hp hf
        simp only at e1 e3
        rw [h48] at e1
        cases e1
        have hgl : 50 ≤ g'.length := by rw [← hlen]; exact hp.length_le
        have hw := sx_fw_ok (by omega) hk2 m3
        refine ⟨x, rfl, by rw [e3, Int.add_zero]; exact hS, ?_⟩
        refine lo_w_ok (fun i hi => ?_) (ll_ok_w v) hw
        have hi44 : i < 44 := by
          rcases ll_ok_i hi with h | h
          · omega
          · exact h.2
        have e9 : gb[i]? = g2[i]? := by rw [ll_get ht (by omega)]
        rw [e9, sx_gg_lo (by omega) hi44]
        have h9 := List.getElem?_eq_getElem (show i < g2.length by omega)
        rw [h9]
        exact (sx_get_pre hp h9).symm
end LM
/-- what is known of the answer -/
def lo_q (v : Bool) (env : sx_N) (a b : Nat × Int) (aw : List sx_C) : Bool := (sx_fits env a 0 4 && sx_fits env b 0 4) && (sx_fnw 44 [] env (lh_f v) && (sx_fw 44 [] (lh_w v) aw && (sx_fw 44 [] aw (lh_w v) && lo_w ll_ok aw)))
def lo_Oa : sx_OA := fun j env as aw => bif Nat.beq j 78 then (match as with
  | [.inr (.ref 0), .inl a, .inl b, .inl _] => bif lo_q false env a b aw || lo_q true env a b aw then some (lo_S.map (fun t => (t, []))) else none
  | _ => none) else sx_O1a j env as aw
theorem ll_f7 (v : Bool) : (∀ q ∈ lh_f v, 7 ≤ q.1 ∧ q.1 < 44) ∧ (43, 0, 5) ∈ lh_f v := by cases v <;> decide +kernel
theorem ll_fnw {g : List Int} {n : Nat} {env : sx_N} (hn : sx_n g n env) {v : Bool} (h : sx_fnw 44 [] env (lh_f v) = true) : ∀ q ∈ lh_f v, ∃ z, g[q.1]? = some z ∧ q.2.1 ≤ z ∧ z ≤ q.2.2 := by
  intro q hq
  have h1 := List.all_eq_true.mp h q hq
  have h2 := (ll_f7 v).1 q hq
  rw [if_pos h2.2] at h1
  split at h1
  · rename_i b hb
    obtain ⟨z, z1, z2, z3⟩ := sx_bd_ok (n := n) hn.2.2 hb
    have h1 := of_decide_eq_true h1
    exact ⟨z, z1, by omega, by omega⟩
  · cases h1
theorem ll_fits {g : List Int} {n : Nat} {env : sx_N} (hn : sx_n g n env) {a : Nat × Int} {lo hi : Int} (h : sx_fits env a lo hi = true) {x : Int32} (hr : sx_r g (.inl a) (.int x)) : lo ≤ x.toInt ∧ x.toInt ≤ hi := by
  unfold sx_fits at h
  split at h
  · rename_i b hb
    have := sx_iv_ok hn hb hr
    have h := of_decide_eq_true h
    omega
  · cases h
set_option maxHeartbeats 4000000 in
theorem ll_all {sc : pm_Z} {w0 : pm_W} (v : Bool) {g : List Int} {n : Nat} {env : sx_N} {a b c : Nat × Int} {aw : List sx_C} {lo hi en : Int32} {w : pm_W} (hq : lo_q v env a b aw = true) (hn : sx_n g n env) (h1 : sx_r g (.inl a) (.int lo)) (h2 : sx_r g (.inl b) (.int hi)) (h3 : sx_r g (.inl c) (.int en)) (hw : sx_w w0 g aw w) :
    pm_GoodM sc mm_78 [.ref 0, .int lo, .int hi, .int en] w (fun r w' => ∃ x : Int32, r = some (.int x) ∧ ll_S x.toInt ∧ sx_w w0 g aw w') := by
  unfold lo_q at hq
  simp only [Bool.and_eq_true] at hq
  obtain ⟨⟨q1, q2⟩, q3, q4, q5, q6⟩ := hq
  have b1 := ll_fits hn q1 h1
  have b2 := ll_fits hn q2 h2
  have bf := ll_fnw hn q3
  have hgl : 44 ≤ g.length := by
    obtain ⟨z, z1, -⟩ := bf _ (ll_f7 v).2
    exact (List.getElem?_eq_some_iff.mp z1).1
  have hw4 := sx_fw_ok hgl q4 hw
  have ht : ((g.take 44).set 1 (-1)).length = 44 := by rw [List.length_set, List.length_take]; omega
  have hgb : ∀ i, i < 44 → i ≠ 1 → (((g.take 44).set 1 (-1)) ++ [lo.toInt, hi.toInt, en.toInt])[i]? = g[i]? := fun i hi1 hi2 => by
    rw [List.getElem?_append_left (by omega), List.getElem?_set_ne (fun e => hi2 e.symm), List.getElem?_take_of_lt hi1]
  have hg1 : (((g.take 44).set 1 (-1)) ++ [lo.toInt, hi.toInt, en.toInt])[1]? = some (-1) := by
    rw [List.getElem?_append_left (by omega), List.getElem?_set_self (by rw [List.length_take]; omega)]
  have hgh : ∀ i, i < 3 → (((g.take 44).set 1 (-1)) ++ [lo.toInt, hi.toInt, en.toInt])[44 + i]? = [lo.toInt, hi.toInt, en.toInt][i]? := fun i hi3 => by
    rw [List.getElem?_append_right (by omega), ht]
    congr 1
    omega
  have hlen : (((g.take 44).set 1 (-1)) ++ [lo.toInt, hi.toInt, en.toInt]).length = 47 := by rw [List.length_append, ht]; rfl
  generalize hG : (((g.take 44).set 1 (-1)) ++ [lo.toInt, hi.toInt, en.toInt]) = gb at hgb hg1 hgh hlen
  have hwb : sx_w w0 gb (lh_w v) w := by
    refine lo_w_ok (fun i hi => ?_) (ll_ok_w v) hw4
    rcases ll_ok_i hi with h | h
    · rw [hgb i (by omega) (by omega), sx_gg_lo hgl (by omega)]
    · rw [hgb i (by omega) (by omega), sx_gg_lo hgl (by omega)]
  have hrun : sx_run sx_AN sx_CU sx_O1 100000 ll_x [(11, .inl ([], 0, 1))] [ll_a v] false 0 0 0 47 (ll_E v) [(0, .inr (.ref 0)), (1, .inl (44, 0)), (2, .inl (45, 0)), (3, .inl (46, 0))] [] (lh_w v) (fun _ => false) = true := by
    rw [← sx_runF_eq]
    exact ll_0_ok v
  have hnE : sx_n gb 47 (ll_E v) := by
    refine ⟨hlen, by rw [hgb 0 (by omega) (by omega)]; exact hn.2.1, fun q hq => ?_⟩
    rcases List.mem_cons.mp hq with rfl | hq
    · exact ⟨lo.toInt, hgh 0 (by omega), b1⟩
    · rcases List.mem_cons.mp hq with rfl | hq
      · exact ⟨hi.toInt, hgh 1 (by omega), b2⟩
      · rcases List.mem_cons.mp hq with rfl | hq
        · exact ⟨en.toInt, hgh 2 (by omega), sx_rng en⟩
        · obtain ⟨z, z1, z2⟩ := bf q hq
          have h7 := (ll_f7 v).1 q hq
          exact ⟨z, by rw [hgb _ h7.2 (by omega)]; exact z1, z2⟩
  have hm : sx_m w0 gb (47, ll_E v, [(0, .inr (.ref 0)), (1, .inl (44, 0)), (2, .inl (45, 0)), (3, .inl (46, 0))], [], lh_w v) (lv_args 0 [.ref 0, .int lo, .int hi, .int en]) [] w :=
    ⟨hnE, ⟨⟨rfl, rfl⟩, ⟨rfl, ⟨_, lo, hgh 0 (by omega), rfl, by simp⟩⟩, ⟨rfl, ⟨_, hi, hgh 1 (by omega), rfl, by simp⟩⟩, ⟨rfl, ⟨_, en, hgh 2 (by omega), rfl, by simp⟩⟩, trivial⟩, trivial, hwb⟩
  have key : pm_Good sc mm_78 0 (lv_args 0 [.ref 0, .int lo, .int hi, .int en]) [] w 0 0 (ll_P w0 v gb) := by
    refine sx_run_ok (lo_O1 (w0 := w0)) 100000 ll_x _ _ _ _ _ _ _ _ _ _ _ _ gb gb _ [] w (ll_P w0 v gb) hrun ll_kb (ll_scr hlen hg1 (by rw [← hlen, List.take_length])) List.prefix_rfl hm (fun h hh => ?_) (fun g' o r w' _ hk _ => by cases hk)
    have e := List.mem_singleton.mp hh
    subst e
    refine ⟨gb, List.prefix_rfl, by decide, by omega, ?_, Or.inl rfl, fun g2 lv2 w2 t2 hm2 _ => ?_⟩
    · rw [← hlen, List.take_length, hlen]
      exact hnE
    · have t2' : g2.take 47 = gb := by rw [t2, ← hlen, List.take_length]
      obtain ⟨z, z1, z2, z3⟩ := hm2.1.2.2 (47, 0, 0) (by exact List.mem_cons_self)
      obtain ⟨f, f1, f2, f3⟩ := hm2.1.2.2 (48, (-4), (-4)) (by exact List.mem_cons_of_mem _ List.mem_cons_self)
      simp only at z2 z3 f2 f3
      refine ll_out hlen hg1 _ g2 lv2 w2 z f t2' ⟨⟨hm2.1.1, hm2.1.2.1, fun q hq => ?_⟩, hm2.2⟩ z1 (Nat.lt_succ_self _) f1 ⟨(-4, -4), by decide, f2, f3⟩
      rcases List.mem_cons.mp hq with rfl | hq
      · exact hm2.1.2.2 _ (List.mem_cons_of_mem _ (List.mem_cons_of_mem _ List.mem_cons_self))
      · rcases List.mem_cons.mp hq with rfl | hq
        · exact ⟨f, f1, by simp only; omega, by simp only; omega⟩
        · rcases List.mem_cons.mp hq with rfl | hq
          · exact ⟨z, z1, by simp only; omega, by simp only; omega⟩
          · exact hm2.1.2.2 q (List.mem_append_right _ hq)
  refine pm_mono (fun r w' hp => ?_) key
  obtain ⟨x, e1, e2, e3⟩ := hp
  refine ⟨x, e1, e2, ?_⟩
  have h5 := sx_fw_ok (n0 := 44) (r := []) (g := gb) (by omega) q5 e3
  refine lo_w_ok (fun i hi => ?_) q6 h5
  have hi2 : i < 44 ∧ i ≠ 1 := by
    rcases ll_ok_i hi with h | h
    · omega
    · omega
  rw [sx_gg_lo (by omega) hi2.1, hgb i hi2.1 hi2.2]
theorem lo_Oa_ok {sc : pm_Z} {w0 : pm_W} : sx_orA sc w0 lo_Oa := by
  intro j y n env as aw alts g As w h hy hn hA hw
  unfold lo_Oa at h
  cases hb : Nat.beq j 78 with
  | false =>
    rw [hb] at h
    exact lo_O1a j y n env as aw alts g As w h hy hn hA hw
  | true =>
    rw [hb] at h
    simp only [cond_true] at h
    have e1 : j = 78 := Nat.eq_of_beq_eq_true hb
    subst e1
    have e2 : pm_mt 78 = some (mm_78, 3, 0, mk_78) := rfl
    rw [e2] at hy
    cases hy
    split at h
    · rename_i a b c
      obtain ⟨v0, m0, rfl, h0, hA⟩ := sx_f2_cons hA
      obtain ⟨v1, m1, rfl, h1, hA⟩ := sx_f2_cons hA
      obtain ⟨v2, m2, rfl, h2, hA⟩ := sx_f2_cons hA
      obtain ⟨v3, m3, rfl, h3, hA⟩ := sx_f2_cons hA
      cases m3 with
      | cons _ _ => cases hA
      | nil =>
        have e0 : v0 = .ref 0 := h0
        subst e0
        obtain ⟨x1, rfl⟩ := sx_int_ok h1
        obtain ⟨x2, rfl⟩ := sx_int_ok h2
        obtain ⟨x3, rfl⟩ := sx_int_ok h3
        cases hq : (lo_q false env a b aw || lo_q true env a b aw) with
        | false => rw [hq] at h; cases h
        | true =>
          rw [hq] at h
          cases h
          have key : ∃ v, lo_q v env a b aw = true := by
            simp only [Bool.or_eq_true] at hq
            rcases hq with hq | hq
            · exact ⟨false, hq⟩
            · exact ⟨true, hq⟩
          obtain ⟨v, hv⟩ := key
          refine pm_mono (fun r w' hp => ?_) (ll_all v hv hn h1 h2 h3 hw)
          obtain ⟨x, f1, ⟨b9, f2, f3, f4⟩, f5⟩ := hp
          exact ⟨(b9, []), List.mem_map.mpr ⟨b9, f2, rfl⟩, x, f1, f3, f4, f5⟩
    · cases h
def lo_O : sx_OR := (lo_Oa, fun _ _ _ _ _ => none)
theorem lo_O_ok {sc : pm_Z} {Ψ : List Int → Prop} {w0 : pm_W} : sx_orOK sc Ψ w0 lo_O := ⟨lo_Oa_ok, fun j y n env as aw outs g As w h => by cases h⟩
