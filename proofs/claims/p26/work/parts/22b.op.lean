theorem ll_kb : pm_kb ll_x.1 ll_x.2.2.2 = true := (pm_mt_ok (j := 78) (x := (mm_78, 3, 0, mk_78)) rfl).2
def ll_S (z : Int) : Prop := ∃ b ∈ lo_S, b.1 ≤ z ∧ z ≤ b.2
theorem ll_take {g : List Int} {n m : Nat} {env env' : sx_N} (h : sx_n g n env) (hm : m ≤ n) (h0 : 0 < m) (he : ∀ q ∈ env', q ∈ env ∧ q.1 < m) : sx_n (g.take m) m env' := by
  refine ⟨by rw [List.length_take, h.1]; omega, ?_, fun q hq => ?_⟩
  · rw [List.getElem?_take_of_lt h0]
    exact h.2.1
  · obtain ⟨h1, h2⟩ := he q hq
    obtain ⟨z, h3, h4⟩ := h.2.2 q h1
    exact ⟨z, by rw [List.getElem?_take_of_lt h2]; exact h3, h4⟩
/-- the signs that the world between two calls uses -/
def ll_ok (i : Nat) : Bool := Nat.beq i 0 || (Nat.ble 7 i && Nat.ble (Nat.succ i) 44)
theorem ll_ok_w (v : Bool) : lo_w ll_ok (lh_w v) = true := by cases v <;> decide +kernel
theorem ll_ok_i {i : Nat} (h : ll_ok i = true) : i = 0 ∨ (7 ≤ i ∧ i < 44) := by
  unfold ll_ok at h
  simp only [Bool.or_eq_true, Bool.and_eq_true, Nat.ble_eq] at h
  rcases h with h | h
  · exact Or.inl (Nat.eq_of_beq_eq_true h)
  · exact Or.inr ⟨h.1, h.2⟩
theorem ll_get {g g' : List Int} {m : Nat} (h : g'.take m = g) {i : Nat} (hi : i < m) : g'[i]? = g[i]? := by
  rw [← h, List.getElem?_take_of_lt hi]
theorem ll_tt {g g' : List Int} {m k : Nat} (h : g'.take m = g.take m) (hk : k ≤ m) : g'.take k = g.take k := by
  have := congrArg (List.take k) h
  rwa [List.take_take, List.take_take, Nat.min_eq_left hk] at this
theorem ll_E_lt (v : Bool) : ∀ q ∈ ll_E v, q.1 < 47 := by cases v <;> decide +kernel
section LL
variable {sc : pm_Z} {w0 : pm_W} {v : Bool} {gb : List Int}
def ll_P (w0 : pm_W) (v : Bool) (gb : List Int) : Option Value → pm_W → Prop := fun r w' => ∃ x : Int32, r = some (.int x) ∧ ll_S x.toInt ∧ sx_w w0 gb (lh_w v) w'
theorem ll_scr (hl : gb.length = 47) (h1 : gb[1]? = some (-1)) {g : List Int} (h : g.take 47 = gb) : sx_scr sc lo_tr g := ⟨Or.inl ⟨-1, by rw [ll_get h (by omega)]; exact h1, by decide⟩, [], List.nil_prefix, trivial⟩
set_option maxHeartbeats 4000000 in
theorem ll_in (hl : gb.length = 47) (hg1 : gb[1]? = some (-1)) {z : Int} (hz0 : 0 ≤ z) (hz7 : z ≤ 7)
    (ih : ∀ (g2 : List Int) (lv2 : pm_L) (w2 : pm_W) (f : Int), g2.take 47 = gb → sx_m w0 g2 (50, (49, (-2147483648), 2147483647) :: ll_G v, ll_l (47, 0), [], lh_w v) lv2 [] w2 → g2[47]? = some (z + 1) → g2[48]? = some f → ll_S f → pm_Good sc mm_78 11 lv2 [] w2 0 0 (ll_P w0 v gb)) :
    ∀ (M : Nat) (g3 : List Int) (lv3 : pm_L) (w3 : pm_W) (c f : Int), g3.take 47 = gb → sx_m w0 g3 (55, ll_n ++ ll_G v, ll_m, [], lh_w v) lv3 [] w3 → g3[47]? = some z → g3[54]? = some c → (11 - c).toNat < M → g3[48]? = some f → ll_S f → pm_Good sc mm_78 61 lv3 [] w3 0 0 (ll_P w0 v gb)
  | 0, g3, lv3, w3, c, f, ht, hm, hz, hc, hM, hf, hS => absurd hM (Nat.not_lt_zero _)
  | M + 1, g3, lv3, w3, c, f, ht, hm, hz, hc, hM, hf, hS => by
    have hrun : sx_run sx_AN sx_CU sx_O1 100000 ll_x [(61, .inl ([], 0, 1)), (11, .inl ([], 0, 1)), (118, .inr [7, 8])] (ll_c v 1 :: ll_b v :: lo_S.map (ll_d v)) true 61 0 0 55 (ll_n ++ ll_G v) ll_m [] (lh_w v) (fun _ => false) = true := by
      rw [← sx_runF_eq]
      exact ll_2_ok v
    have hlen : g3.length = 55 := hm.1.1
    have hc11 : c ≤ 11 := by
      obtain ⟨y, y1, y2, y3⟩ := hm.1.2.2 (54, 0, 11) (List.mem_append_left _ (by decide))
      rw [hc] at y1
      cases y1
      exact y3
    refine sx_run_ok (lo_O1 (w0 := w0)) 100000 ll_x _ _ _ _ _ _ _ _ _ _ _ _ g3 g3 lv3 [] w3 (ll_P w0 v gb) hrun ll_kb (ll_scr hl hg1 ht) List.prefix_rfl hm (fun h hh => ?_) (fun g' o r w' _ hk _ => by cases hk)
    rcases List.mem_cons.mp hh with rfl | hh
    · refine ⟨g3, List.prefix_rfl, by decide, by omega, ?_, Or.inr (by omega), fun g4 lv4 w4 t4 hm4 hd4 => ?_⟩
      · refine ll_take hm.1 (by omega) (by decide) (fun q hq => ⟨List.mem_append_right _ hq, ?_⟩)
        rcases List.mem_cons.mp hq with rfl | hq
        · decide
        · rcases List.mem_cons.mp hq with rfl | hq
          · decide
          · exact Nat.lt_trans (ll_E_lt v q hq) (by decide)
      · rcases hd4 with hd4 | ⟨zm, z2, e1, e2, e3⟩
        · exact absurd hd4 (by decide)
        · rw [hc] at e1
          cases e1
          have hb := hm4.1.2.2 (54, 0, 11) (List.mem_append_left _ (by decide))
          obtain ⟨y, y1, y2, y3⟩ := hb
          rw [e2] at y1
          cases y1
          simp only at y2 y3
          refine ll_in hl hg1 hz0 hz7 ih M g4 lv4 w4 z2 f ?_ hm4 ?_ e2 (by omega) ?_ hS
          · rw [ll_tt t4 (show 47 ≤ 49 by omega), ht]
          · rw [ll_get t4 (by omega), List.getElem?_take_of_lt (by omega)]
            exact hz
          · rw [ll_get t4 (by omega), List.getElem?_take_of_lt (by omega)]
            exact hf
    · rcases List.mem_cons.mp hh with rfl | hh
      · refine ⟨g3, List.prefix_rfl, by decide, by omega, ?_, Or.inl rfl, fun g4 lv4 w4 t4 hm4 hd4 => ?_⟩
        · refine ll_take hm.1 (by omega) (by decide) (fun q hq => ⟨List.mem_append_right _ hq, ?_⟩)
          rcases List.mem_cons.mp hq with rfl | hq
          · decide
          · rcases List.mem_cons.mp hq with rfl | hq
            · decide
            · exact Nat.lt_trans (ll_E_lt v q hq) (by decide)
        · have h47 : g4[47]? = some z := by
            rw [ll_get t4 (by omega), List.getElem?_take_of_lt (by omega)]
            exact hz
          have h4l : g4.length = 50 := hm4.1.1
          have hset : ∀ i, i ≠ 47 → (g4.set 47 (z + 1))[i]? = g4[i]? := fun i hi => List.getElem?_set_ne (fun e => hi e.symm)
          have hs47 : (g4.set 47 (z + 1))[47]? = some (z + 1) := by
            rw [List.getElem?_set_self (by omega)]
          refine ih (g4.set 47 (z + 1)) lv4 w4 f ?_ ⟨⟨by rw [List.length_set]; exact h4l, by rw [hset 0 (by decide)]; exact hm4.1.2.1, fun q hq => ?_⟩, ?_, trivial, ?_⟩ hs47 ?_ hS
          · rw [List.take_set_of_le (by omega), ll_tt t4 (show 47 ≤ 49 by omega), ht]
          · by_cases h9 : q.1 = 47
            · have : q = (47, 0, 8) := by
                rcases List.mem_cons.mp hq with rfl | hq
                · exact absurd h9 (by decide)
                · rcases List.mem_cons.mp hq with rfl | hq
                  · exact absurd h9 (by decide)
                  · rcases List.mem_cons.mp hq with rfl | hq
                    · rfl
                    · exact absurd h9 (Nat.ne_of_lt (ll_E_lt v q hq))
              subst this
              exact ⟨z + 1, hs47, by simp only; omega, by simp only; omega⟩
            · rw [hset _ h9]
              refine hm4.1.2.2 q ?_
              rcases List.mem_cons.mp hq with rfl | hq
              · exact List.mem_cons_self
              · exact List.mem_cons_of_mem _ (List.mem_cons_of_mem _ hq)
          · obtain ⟨-, hl4, -, -⟩ := hm4
            simp only at hl4
            match lv4, hl4 with
            | [b0, b1, b2, b3, b4, b5, b6], ⟨c0, c1, c2, c3, c4, c5, c6, _⟩ =>
              refine ⟨⟨c0.1, ?_⟩, ⟨c1.1, ?_⟩, ⟨c2.1, ?_⟩, ⟨c3.1, ?_⟩, ⟨c4.1, ?_⟩, ⟨c5.1, ?_⟩, ⟨c6.1, ?_⟩, trivial⟩
              · exact c0.2
              · obtain ⟨y, x, e1, e2, e3⟩ := c1.2
                exact ⟨y, x, by rw [hset _ (by decide)]; exact e1, e2, e3⟩
              · obtain ⟨y, x, e1, e2, e3⟩ := c2.2
                exact ⟨y, x, by rw [hset _ (by decide)]; exact e1, e2, e3⟩
              · obtain ⟨y, x, e1, e2, e3⟩ := c3.2
                exact ⟨y, x, by rw [hset _ (by decide)]; exact e1, e2, e3⟩
              · obtain ⟨y, x, e1, e2, e3⟩ := c4.2
                exact ⟨y, x, by rw [hset _ (by decide)]; exact e1, e2, e3⟩
              · obtain ⟨y, x, e1, e2, e3⟩ := c5.2
                exact ⟨y, x, by rw [hset _ (by decide)]; exact e1, e2, e3⟩
              · obtain ⟨y, x, e1, e2, e3⟩ := c6.2
                simp only at e1 e3
                rw [h47] at e1
                cases e1
                exact ⟨z + 1, x, hs47, e2, by simp only; omega⟩
          · refine lo_w_ok (fun i hi => ?_) (ll_ok_w v) hm4.2.2.2
            rcases ll_ok_i hi with h | h
            · exact hset _ (by omega)
            · exact hset _ (by omega)
          · rw [hset _ (by decide), ll_get t4 (by omega), List.getElem?_take_of_lt (by omega)]
            exact hf
      · obtain ⟨b, hb, rfl⟩ := List.mem_map.mp hh
        refine ⟨g3, List.prefix_rfl, by decide, by omega, ?_, Or.inr (by omega), fun g4 lv4 w4 t4 hm4 hd4 => ?_⟩
        · refine ll_take hm.1 (by omega) (by decide) (fun q hq => ⟨List.mem_append_right _ (List.mem_cons_of_mem _ hq), ?_⟩)
          rcases List.mem_cons.mp hq with rfl | hq
          · decide
          · exact Nat.lt_trans (ll_E_lt v q hq) (by decide)
        · rcases hd4 with hd4 | ⟨zm, z2, e1, e2, e3⟩
          · exact absurd hd4 (by decide)
          · rw [hc] at e1
            cases e1
            have hb54 := hm4.1.2.2 (54, 0, 11) (List.mem_append_left _ (List.mem_cons_of_mem _ (by decide)))
            obtain ⟨y, y1, y2, y3⟩ := hb54
            rw [e2] at y1
            cases y1
            simp only at y2 y3
            obtain ⟨f2, f1, f3⟩ := hm4.1.2.2 (48, b.1, b.2) (List.mem_append_left _ List.mem_cons_self)
            refine ll_in hl hg1 hz0 hz7 ih M g4 lv4 w4 z2 f2 ?_ ⟨⟨hm4.1.1, hm4.1.2.1, fun q hq => ?_⟩, hm4.2⟩ ?_ e2 (by omega) f1 ⟨b, hb, f3⟩
            · rw [ll_tt t4 (show 47 ≤ 48 by omega), ht]
            · rcases List.mem_append.mp hq with hq | hq
              · exact hm4.1.2.2 q (List.mem_append_left _ (List.mem_cons_of_mem _ hq))
              · rcases List.mem_cons.mp hq with rfl | hq
                · refine ⟨f2, f1, ?_⟩
                  have : -4 ≤ b.1 ∧ b.2 ≤ 4310 := by
                    have h : ∀ b ∈ lo_S, -4 ≤ b.1 ∧ b.2 ≤ 4310 := by decide
                    exact h b hb
                  simp only at f3 ⊢
                  omega
                · exact hm4.1.2.2 q (List.mem_append_right _ hq)
            · rw [ll_get t4 (by omega), List.getElem?_take_of_lt (by omega)]
              exact hz
end LL
