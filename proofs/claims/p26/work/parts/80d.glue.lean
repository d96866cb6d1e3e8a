/-! stamp: one more on both sides -/
theorem lw_t22 (v : Bool) : (lh_w v)[22]? = some (.inr (4, [.inr (.ref 23), .inr (.ref 24), .inr (.ref 25), .inl (27, 0)])) := by cases v <;> rfl
theorem lw_ts (v : Bool) : ∀ q ∈ [23, 24, 25, 50], (lh_w v)[q]? = some (.inl (0, 6, true, [])) := by
  intro q hq
  simp only [List.mem_cons, List.not_mem_nil, or_false] at hq
  rcases hq with rfl | rfl | rfl | rfl <;> cases v <;> rfl
def li_o27 (j : Nat) : Bool := ll_ok j && !Nat.beq j 27
def li_q0 (v : Bool) (s : Int) : List sx_C := pi_ob (pi_ob (lh_w v) 22 3 (.inl (0, s))) 42 11 (.inl (0, s))
theorem li_q1 (v : Bool) (s : Int) : lo_w li_o27 (li_q0 v s) = true := by cases v <;> rfl
theorem li_q2 (v : Bool) (s : Int) : (((((((((((li_q0 v s).set 23 (.inl (0, 6, false, []))).set 24 (.inl (0, 6, false, []))).set 25 (.inl (0, 6, false, []))).set 22 (.inr (4, [.inr (.ref 23), .inr (.ref 24), .inr (.ref 25), .inl (27, 0)]))).set 50 (.inl (0, 6, false, []))).set 42 (.inr (8, [.inr (.ref 43), .inl (7, 0), .inr (.ref 44), .inr (.ref 45), .inr (.ref 46), .inr (.ref 47), .inr (.ref 48), .inl (38, 0), .inr (.ref 49), .inl (9, 0), .inr (.ref 50), .inl (27, 0), .inl (41, 0), .inr (.ref 51)]))).set 23 (.inl (0, 6, true, []))).set 24 (.inl (0, 6, true, []))).set 25 (.inl (0, 6, true, []))).set 50 (.inl (0, 6, true, []))) = lh_w v := by cases v <;> rfl
theorem li_q3 (v : Bool) : ∃ o, (lh_w v)[22]? = some (.inr o) ∧ o.2[3]? = some (.inl (27, 0)) := by cases v <;> exact ⟨_, rfl, rfl⟩
theorem li_q4 (v : Bool) (s : Int) : ∃ o, (pi_ob (lh_w v) 22 3 (.inl (0, s)))[42]? = some (.inr o) ∧ o.2[11]? = some (.inl (27, 0)) := by cases v <;> exact ⟨_, rfl, rfl⟩
theorem li_q5 {wb : pm_W} {g : List Int} {aw : List sx_C} {w : pm_W} (hw : sx_w wb g aw w) {q f i : Nat} {s : Int} (h0 : g[0]? = some 0) (hi : g[i]? = some s) (ho : ∃ o, aw[q]? = some (.inr o) ∧ o.2[f]? = some (.inl (i, 0))) : sx_w wb g (pi_ob aw q f (.inl (0, s))) w :=
  pi_ob_ok hw (fun o a h1 h2 x hx => by
    obtain ⟨o', c1, c2⟩ := ho
    rw [c1] at h1
    cases h1
    rw [c2] at h2
    cases h2
    obtain ⟨z, y, y1, y2, y3⟩ := hx
    simp only at y1 y3
    rw [hi] at y1
    cases y1
    exact ⟨0, y, h0, y2, by simp only; omega⟩)
theorem li_n27 {v : Bool} {g : List Int} (h : sx_n g 44 (lh_b v)) {z : Int} (hz : 0 ≤ z ∧ z ≤ 6) : sx_n (g.set 27 z) 44 (lh_b v) := by
  have hb : ∀ q ∈ lh_b v, q.1 = 27 → q.2.1 ≤ 0 ∧ 6 ≤ q.2.2 := by cases v <;> decide +kernel
  refine ⟨by rw [List.length_set]; exact h.1, by rw [List.getElem?_set_ne (by decide)]; exact h.2.1, fun q hq => ?_⟩
  by_cases e : q.1 = 27
  · have := hb q hq e
    exact ⟨z, by rw [e, List.getElem?_set_self (by rw [h.1]; decide)], by omega, by omega⟩
  · rw [List.getElem?_set_ne (fun e' => e e'.symm)]
    exact h.2.2 q hq
theorem li_SS {Hs Ps Ks sts : List Int32} {sz : Nat} {k l n : Int32} (h : wy_SS Hs Ps Ks sts 6) (hH : Hs.length = 6) (hP : Ps.length = 6) (hK : Ks.length = 6) (hS : sts.length = 6) (hk : sp_ok k l n sz) : wy_SS (Hs.set sz k) (Ps.set sz l) (Ks.set sz n) (sts.set sz (100 * k + 10 * l + n)) 6 := by
  obtain ⟨k1, k2, k3, k4⟩ := hk
  have tn : ∀ x : Int32, 0 ≤ x.toInt → x.toInt ≤ 5 → x = Int32.ofNat x.toInt.toNat := fun x h1 h2 => Int32.toInt_inj.mp (by rw [wy_t (by omega)]; omega)
  intro j hj
  by_cases e : j = sz
  · subst e
    refine ⟨k.toInt.toNat, l.toInt.toNat, n.toInt.toNat, by omega, by omega, by omega, ?_, ?_, ?_, ?_⟩
    · rw [List.getD_eq_getElem?_getD, List.getElem?_set_self (by omega)]
      exact tn k k1.1 (by omega)
    · rw [List.getD_eq_getElem?_getD, List.getElem?_set_self (by omega)]
      exact tn l k2.1 k2.2
    · rw [List.getD_eq_getElem?_getD, List.getElem?_set_self (by omega)]
      exact tn n k3.1 k3.2
    · rw [List.getD_eq_getElem?_getD, List.getElem?_set_self (by omega), Int32.ofNat_add, Int32.ofNat_add, Int32.ofNat_mul, Int32.ofNat_mul, ← tn k k1.1 (by omega), ← tn l k2.1 k2.2, ← tn n k3.1 k3.2]
      rfl
  · obtain ⟨h9, q, m, a1, a2, a3, e1, e2, e3, e4⟩ := h j hj
    refine ⟨h9, q, m, a1, a2, a3, ?_, ?_, ?_, ?_⟩
    · rw [List.getD_eq_getElem?_getD, List.getElem?_set_ne (fun e' => e e'.symm), ← List.getD_eq_getElem?_getD]; exact e1
    · rw [List.getD_eq_getElem?_getD, List.getElem?_set_ne (fun e' => e e'.symm), ← List.getD_eq_getElem?_getD]; exact e2
    · rw [List.getD_eq_getElem?_getD, List.getElem?_set_ne (fun e' => e e'.symm), ← List.getD_eq_getElem?_getD]; exact e3
    · rw [List.getD_eq_getElem?_getD, List.getElem?_set_ne (fun e' => e e'.symm), ← List.getD_eq_getElem?_getD]; exact e4
theorem li_sw (w : pm_W) (fm : List Value) (Hs Ps Ks sts : List Int32) (sz : Nat) (k l n u : Int32) {q : Nat} (h : q ≠ 22 ∧ q ≠ 23 ∧ q ≠ 24 ∧ q ≠ 25 ∧ q ≠ 42 ∧ q ≠ 50) : (sp_V (sp_W w Hs Ps Ks sz k l n) fm sts sz u)[q]? = w[q]? := by
  unfold sp_V sp_W
  rw [List.getElem?_set_ne (fun e => h.2.2.2.2.1 e.symm), List.getElem?_set_ne (fun e => h.2.2.2.2.2 e.symm), List.getElem?_set_ne (fun e => h.1 e.symm), List.getElem?_set_ne (fun e => h.2.2.2.1 e.symm), List.getElem?_set_ne (fun e => h.2.2.1 e.symm), List.getElem?_set_ne (fun e => h.2.1 e.symm)]
theorem li_tq6 (v : Bool) : ∀ q ∈ [2, 43, px_tA v, px_tB v, 44], q ≠ 22 ∧ q ≠ 23 ∧ q ≠ 24 ∧ q ≠ 25 ∧ q ≠ 42 ∧ q ≠ 50 := by cases v <;> decide
theorem li_swn {v : Bool} {w0 : pm_W} {g : List Int} {w : pm_W} {Hs Ps Ks sts : List Int32} {sz : Nat} {k l n : Int32} {y2 y8 y10 y13 : Value} (hn : sx_n g 44 (lh_b v)) (hw : sx_w w0 g (lh_w v) w) (h27 : g[27]? = some (sz : Int)) (hsz : sz < 6) (hH : Hs.length = 6) (hP : Ps.length = 6) (hK : Ks.length = 6) (hS : sts.length = 6) (t42 : w[42]? = some (.inr (8, [.ref 43, y2, .ref 44, .ref 45, .ref 46, .ref 47, .ref 48, y8, .ref 49, y10, .ref 50, .int (Int32.ofNat sz), y13, .ref 51]))) : sx_w (sp_V (sp_W w Hs Ps Ks sz k l n) [.ref 43, y2, .ref 44, .ref 45, .ref 46, .ref 47, .ref 48, y8, .ref 49, y10, .ref 50, .int (Int32.ofNat sz), y13, .ref 51] sts sz (100 * k + 10 * l + n)) (g.set 27 ((sz : Int) + 1)) (lh_w v) (sp_V (sp_W w Hs Ps Ks sz k l n) [.ref 43, y2, .ref 44, .ref 45, .ref 46, .ref 47, .ref 48, y8, .ref 49, y10, .ref 50, .int (Int32.ofNat sz), y13, .ref 51] sts sz (100 * k + 10 * l + n)) := by
  have hgl : g.length = 44 := hn.1
  have hlen : w.length = 52 := by
    have h9 : (lh_w v).length = 52 := by cases v <;> rfl
    rw [← hw.1, h9]
  have h1 := li_q5 (li_q5 hw hn.2.1 h27 (li_q3 v)) hn.2.1 h27 (li_q4 v _)
  have hg : ∀ j, j ≠ 27 → (g.set 27 ((sz : Int) + 1))[j]? = g[j]? := fun j hj => List.getElem?_set_ne (fun e => hj e.symm)
  have e27 : (g.set 27 ((sz : Int) + 1))[27]? = some ((sz : Int) + 1) := List.getElem?_set_self (by omega)
  have h2 := lo_w_ok (g' := g.set 27 ((sz : Int) + 1)) (fun j hj => hg j (fun e => by subst e; cases hj)) (li_q1 v _) h1
  have e1 : (Int32.ofNat (sz + 1)).toInt = (sz : Int) + 1 := by rw [wy_t (by omega)]; omega
  have tr : ∀ {j : Nat} {x : Value}, j ≠ 27 → sx_r g (.inl (j, 0)) x → sx_r (g.set 27 ((sz : Int) + 1)) (.inl (j, 0)) x := fun hj ⟨z, y, y1, y2, y3⟩ => ⟨z, y, by rw [hg _ hj]; exact y1, y2, y3⟩
  obtain ⟨c2, hc2, hr2⟩ := sx_w_get hw (lw_t42 v)
  rw [t42] at hc2
  cases hc2
  obtain ⟨-, -, r2, -, -, -, -, -, r8, -, r10, -, r12, r13, -, -⟩ := hr2
  have k23 : sx_rc w0 (g.set 27 ((sz : Int) + 1)) 23 (.inl (0, 6, false, [])) (.inl (0, Hs.set sz k)) := ⟨rfl, by simp only; rw [List.length_set]; exact hH, (fun q => by cases q), (fun q => by cases q), (fun q hq => by cases hq)⟩
  have k24 : sx_rc w0 (g.set 27 ((sz : Int) + 1)) 24 (.inl (0, 6, false, [])) (.inl (0, Ps.set sz l)) := ⟨rfl, by simp only; rw [List.length_set]; exact hP, (fun q => by cases q), (fun q => by cases q), (fun q hq => by cases hq)⟩
  have k25 : sx_rc w0 (g.set 27 ((sz : Int) + 1)) 25 (.inl (0, 6, false, [])) (.inl (0, Ks.set sz n)) := ⟨rfl, by simp only; rw [List.length_set]; exact hK, (fun q => by cases q), (fun q => by cases q), (fun q hq => by cases hq)⟩
  have k50 : sx_rc w0 (g.set 27 ((sz : Int) + 1)) 50 (.inl (0, 6, false, [])) (.inl (0, sts.set sz (100 * k + 10 * l + n))) := ⟨rfl, by simp only; rw [List.length_set]; exact hS, (fun q => by cases q), (fun q => by cases q), (fun q hq => by cases hq)⟩
  have k22 : sx_rc w0 (g.set 27 ((sz : Int) + 1)) 22 (.inr (4, [.inr (.ref 23), .inr (.ref 24), .inr (.ref 25), .inl (27, 0)])) (.inr (4, [.ref 23, .ref 24, .ref 25, .int (Int32.ofNat (sz + 1))])) := ⟨rfl, rfl, rfl, rfl, pz_s_ok e27 e1, trivial⟩
  have k42 : sx_rc w0 (g.set 27 ((sz : Int) + 1)) 42 (.inr (8, [.inr (.ref 43), .inl (7, 0), .inr (.ref 44), .inr (.ref 45), .inr (.ref 46), .inr (.ref 47), .inr (.ref 48), .inl (38, 0), .inr (.ref 49), .inl (9, 0), .inr (.ref 50), .inl (27, 0), .inl (41, 0), .inr (.ref 51)])) (.inr (8, [.ref 43, y2, .ref 44, .ref 45, .ref 46, .ref 47, .ref 48, y8, .ref 49, y10, .ref 50, .int (Int32.ofNat (sz + 1)), y13, .ref 51])) := ⟨rfl, rfl, tr (by decide) r2, rfl, rfl, rfl, rfl, rfl, tr (by decide) r8, rfl, tr (by decide) r10, rfl, pz_s_ok e27 e1, tr (by decide) r13, rfl, trivial⟩
  have h3 : sx_w w0 (g.set 27 ((sz : Int) + 1)) _ (sp_V (sp_W w Hs Ps Ks sz k l n) [.ref 43, y2, .ref 44, .ref 45, .ref 46, .ref 47, .ref 48, y8, .ref 49, y10, .ref 50, .int (Int32.ofNat sz), y13, .ref 51] sts sz (100 * k + 10 * l + n)) := sx_w_set (sx_w_set (sx_w_set (sx_w_set (sx_w_set (sx_w_set h2 k23) k24) k25) k22) k50) k42
  have h4 := ly_self h3
  have g50 : (sp_V (sp_W w Hs Ps Ks sz k l n) [.ref 43, y2, .ref 44, .ref 45, .ref 46, .ref 47, .ref 48, y8, .ref 49, y10, .ref 50, .int (Int32.ofNat sz), y13, .ref 51] sts sz (100 * k + 10 * l + n))[50]? = some (.inl (0, sts.set sz (100 * k + 10 * l + n))) := by
    unfold sp_V
    rw [List.getElem?_set_ne (by decide), List.getElem?_set_self (by unfold sp_W; simp only [List.length_set]; omega)]
  have g23 : (sp_V (sp_W w Hs Ps Ks sz k l n) [.ref 43, y2, .ref 44, .ref 45, .ref 46, .ref 47, .ref 48, y8, .ref 49, y10, .ref 50, .int (Int32.ofNat sz), y13, .ref 51] sts sz (100 * k + 10 * l + n))[23]? = some (.inl (0, Hs.set sz k)) := by
    unfold sp_V sp_W
    rw [List.getElem?_set_ne (by decide), List.getElem?_set_ne (by decide), List.getElem?_set_ne (by decide), List.getElem?_set_ne (by decide), List.getElem?_set_ne (by decide), List.getElem?_set_self (by omega)]
  have g24 : (sp_V (sp_W w Hs Ps Ks sz k l n) [.ref 43, y2, .ref 44, .ref 45, .ref 46, .ref 47, .ref 48, y8, .ref 49, y10, .ref 50, .int (Int32.ofNat sz), y13, .ref 51] sts sz (100 * k + 10 * l + n))[24]? = some (.inl (0, Ps.set sz l)) := by
    unfold sp_V sp_W
    rw [List.getElem?_set_ne (by decide), List.getElem?_set_ne (by decide), List.getElem?_set_ne (by decide), List.getElem?_set_ne (by decide), List.getElem?_set_self (by simp only [List.length_set]; omega)]
  have g25 : (sp_V (sp_W w Hs Ps Ks sz k l n) [.ref 43, y2, .ref 44, .ref 45, .ref 46, .ref 47, .ref 48, y8, .ref 49, y10, .ref 50, .int (Int32.ofNat sz), y13, .ref 51] sts sz (100 * k + 10 * l + n))[25]? = some (.inl (0, Ks.set sz n)) := by
    unfold sp_V sp_W
    rw [List.getElem?_set_ne (by decide), List.getElem?_set_ne (by decide), List.getElem?_set_ne (by decide), List.getElem?_set_self (by simp only [List.length_set]; omega)]
  have fl : ∀ {q : Nat} {zs : List Int32}, (sp_V (sp_W w Hs Ps Ks sz k l n) [.ref 43, y2, .ref 44, .ref 45, .ref 46, .ref 47, .ref 48, y8, .ref 49, y10, .ref 50, .int (Int32.ofNat sz), y13, .ref 51] sts sz (100 * k + 10 * l + n))[q]? = some (.inl (0, zs)) → zs.length = 6 → sx_rc (sp_V (sp_W w Hs Ps Ks sz k l n) [.ref 43, y2, .ref 44, .ref 45, .ref 46, .ref 47, .ref 48, y8, .ref 49, y10, .ref 50, .int (Int32.ofNat sz), y13, .ref 51] sts sz (100 * k + 10 * l + n)) (g.set 27 ((sz : Int) + 1)) q (.inl (0, 6, true, [])) (.inl (0, zs)) := fun h hl => ⟨rfl, hl, fun _ => h, (fun q => by cases q), (fun q hq => by cases hq)⟩
  have h5 := sx_w_setA (sx_w_setA (sx_w_setA (sx_w_setA h4 g23 (fl g23 (by rw [List.length_set]; exact hH))) g24 (fl g24 (by rw [List.length_set]; exact hP))) g25 (fl g25 (by rw [List.length_set]; exact hK))) g50 (fl g50 (by rw [List.length_set]; exact hS))
  rw [li_q2] at h5
  exact h5
def li_tw (v : Bool) : Nat := bif v then 9 else 4
theorem lw_o0 (v : Bool) : ∃ l, (lh_w v)[0]? = some (.inr (7, l)) ∧ l[5]? = some (.inr (.ref 22)) ∧ l[1]? = some (.inr (.ref (li_tw v))) := by cases v <;> exact ⟨_, rfl, rfl, rfl⟩
set_option maxHeartbeats 4000000 in
theorem li_sp {sc : pm_Z} {z : Int} {v : Bool} (hB : li_B sc z v 1008) : li_B sc z v 771 := by
  intro w0 g lv w hs hz hT hm
  have hm0 := hm
  obtain ⟨hn, hl, -, hw⟩ := hm
  have hgl : g.length = 44 := hn.1
  obtain ⟨x, rfl, hx⟩ := li_lv hz hl
  obtain ⟨z', b1, b2, b3⟩ := hn.2.2 (1, 0, 395) (List.mem_append_right _ (by decide))
  rw [hz] at b1
  cases b1
  simp only at b2 b3
  have hsl : z + 4 < sc.1 ∧ sc.1 < 2 ^ 31 := by
    rcases hs with ⟨z9, h1, h2⟩ | ⟨i, h1, h2, h3, h4⟩
    · rw [hz] at h1
      cases h1
      omega
    · rw [hz] at h1
      cases h1
      omega
  have ex : ∀ (a : Int32), 1 ≤ a.toInt → a.toInt ≤ 4 → (x + a).toInt = z + a.toInt := fun a h1 h2 => by
    rw [sx_add (by omega) (by omega), hx]
  have hv1 : vp_in (x + 1) sc.1 := pl_in (by rw [ex 1 (by decide) (by decide)]; have : (1 : Int32).toInt = 1 := rfl; omega) (by rw [ex 1 (by decide) (by decide)]; have : (1 : Int32).toInt = 1 := rfl; omega)
  have hv2 : vp_in (x + 2) sc.1 := pl_in (by rw [ex 2 (by decide) (by decide)]; have : (2 : Int32).toInt = 2 := rfl; omega) (by rw [ex 2 (by decide) (by decide)]; have : (2 : Int32).toInt = 2 := rfl; omega)
  have hv3 : vp_in (x + 3) sc.1 := pl_in (by rw [ex 3 (by decide) (by decide)]; have : (3 : Int32).toInt = 3 := rfl; omega) (by rw [ex 3 (by decide) (by decide)]; have : (3 : Int32).toInt = 3 := rfl; omega)
  obtain ⟨xs, ys, szt, a1, a2, a3, a4, aK⟩ := id hT
  obtain ⟨⟨as, bs, ts, d1, d2, d3, dK⟩, Hs, Ps, Ks, sts, e1, e2, e3, e4, eS⟩ := id aK
  have mq := li_q7 v
  have q23 : w[23]? = some (.inl (0, Hs)) := by rw [ly_same hw (lw_fb v 23 mq.1).1]; exact e1
  have q24 : w[24]? = some (.inl (0, Ps)) := by rw [ly_same hw (lw_fb v 24 mq.2.1).1]; exact e2
  have q25 : w[25]? = some (.inl (0, Ks)) := by rw [ly_same hw (lw_fb v 25 mq.2.2.1).1]; exact e3
  have q50 : w[50]? = some (.inl (0, sts)) := by rw [ly_same hw (lw_fb v 50 mq.2.2.2).1]; exact e4
  have len6 : ∀ {q : Nat} {zs : List Int32}, q ∈ [23, 24, 25, 50] → w[q]? = some (.inl (0, zs)) → zs.length = 6 := fun hq hc => by
    obtain ⟨c, hc9, hr⟩ := sx_w_get hw (lw_ts v _ hq)
    rw [hc] at hc9
    cases hc9
    exact hr.2.1
  have lH := len6 (by decide) q23
  have lP := len6 (by decide) q24
  have lK := len6 (by decide) q25
  have lS := len6 (by decide) q50
  obtain ⟨z27, y27, r27⟩ := hn.2.2 _ (li_b4 v).2.1
  simp only at y27 r27
  obtain ⟨sz, rfl⟩ : ∃ s : Nat, z27 = (s : Int) := ⟨z27.toNat, by omega⟩
  have isz : ∀ u : Int32, u.toInt = (sz : Int) → u = Int32.ofNat sz := fun u hu => Int32.toInt_inj.mp (by rw [hu, wy_t (by omega)])
  obtain ⟨cc, hc22, hr22⟩ := sx_w_get hw (lw_t22 v)
  obtain ⟨fq, rfl, hfq⟩ := sx_rc_o hr22
  obtain ⟨v1, m, rfl, p1, hfq⟩ := sx_f2_cons hfq
  obtain ⟨v2, m, rfl, p2, hfq⟩ := sx_f2_cons hfq
  obtain ⟨v3, m, rfl, p3, hfq⟩ := sx_f2_cons hfq
  obtain ⟨v4, m, rfl, p4, hfq⟩ := sx_f2_cons hfq
  cases m with
  | cons _ _ => cases hfq
  | nil =>
  have p1 : v1 = .ref 23 := p1
  have p2 : v2 = .ref 24 := p2
  have p3 : v3 = .ref 25 := p3
  obtain ⟨z4, s4, u1, u2, u3⟩ := p4
  simp only at u1 u3
  rw [y27] at u1
  cases u1
  have es4 := isz s4 (by omega)
  subst p1 p2 p3 u2 es4
  obtain ⟨cc, hc42, hr42⟩ := sx_w_get hw (lw_t42 v)
  obtain ⟨f2, rfl, hf2⟩ := sx_rc_o hr42
  obtain ⟨y1, m, rfl, p1, hf2⟩ := sx_f2_cons hf2
  obtain ⟨y2, m, rfl, p2, hf2⟩ := sx_f2_cons hf2
  obtain ⟨y3, m, rfl, p3, hf2⟩ := sx_f2_cons hf2
  obtain ⟨y4, m, rfl, p4, hf2⟩ := sx_f2_cons hf2
  obtain ⟨y5, m, rfl, p5, hf2⟩ := sx_f2_cons hf2
  obtain ⟨y6, m, rfl, p6, hf2⟩ := sx_f2_cons hf2
  obtain ⟨y7, m, rfl, p7, hf2⟩ := sx_f2_cons hf2
  obtain ⟨y8, m, rfl, p8, hf2⟩ := sx_f2_cons hf2
  obtain ⟨y9, m, rfl, p9, hf2⟩ := sx_f2_cons hf2
  obtain ⟨y10, m, rfl, p10, hf2⟩ := sx_f2_cons hf2
  obtain ⟨y11, m, rfl, p11, hf2⟩ := sx_f2_cons hf2
  obtain ⟨y12, m, rfl, p12, hf2⟩ := sx_f2_cons hf2
  obtain ⟨y13, m, rfl, p13, hf2⟩ := sx_f2_cons hf2
  obtain ⟨y14, m, rfl, p14, hf2⟩ := sx_f2_cons hf2
  cases m with
  | cons _ _ => cases hf2
  | nil =>
  have p1 : y1 = .ref 43 := p1
  have p3 : y3 = .ref 44 := p3
  have p4 : y4 = .ref 45 := p4
  have p5 : y5 = .ref 46 := p5
  have p6 : y6 = .ref 47 := p6
  have p7 : y7 = .ref 48 := p7
  have p9 : y9 = .ref 49 := p9
  have p11 : y11 = .ref 50 := p11
  have p14 : y14 = .ref 51 := p14
  obtain ⟨z5, s5, w1, w2, w3⟩ := p12
  simp only at w1 w3
  rw [y27] at w1
  cases w1
  have es5 := isz s5 (by omega)
  subst p1 p3 p4 p5 p6 p7 p9 p11 p14 w2 es5
  obtain ⟨o0, q1, q2⟩ := lw_o0 v
  obtain ⟨cc, hc0, hr0⟩ := sx_w_get hw q1
  obtain ⟨fs, rfl, hf⟩ := sx_rc_o hr0
  obtain ⟨e0, hb1, hb2⟩ := sx_f2_get hf q2.1
  have hb2 : e0 = .ref 22 := hb2
  subst hb2
  obtain ⟨e0, hb3, hb4⟩ := sx_f2_get hf q2.2
  have hb4 : e0 = .ref (li_tw v) := hb4
  subst hb4
  generalize hc1 : sc.2 (x + 1).toNatClampNeg = c1
  generalize hc2 : sc.2 (x + 2).toNatClampNeg = c2
  generalize hc3 : sc.2 (x + 3).toNatClampNeg = c3
  refine pm_ld_ok (i := .aload_n 1) (x := 1) (k := 2) (n := 1) (v := .ref 0) (pe_d mv_L (show pm_fetch mk_L 771 = some (.aload_n 1, 1, 0, 0, 0) from rfl)) rfl rfl rfl ?_
  refine pm_ld_ok (i := .aload_n 0) (x := 0) (k := 2) (n := 1) (v := .retAddr 3) (pe_d mv_L (show pm_fetch mk_L 772 = some (.aload_n 0, 1, 0, 0, 0) from rfl)) rfl rfl rfl ?_
  refine pm_ld_ok (i := .iload_n 3) (x := 3) (k := 0) (n := 1) (v := .int x) (pe_d mv_L (show pm_fetch mk_L 773 = some (.iload_n 3, 1, 0, 0, 0) from rfl)) rfl rfl rfl ?_
  refine pm_op_ok (i := .iconst 1) (st' := [.int 1, .int x, .retAddr 3, .ref 0]) (pe_d mv_L (show pm_fetch mk_L 774 = some (.iconst 1, 1, 0, 0, 0) from rfl)) rfl ?_
  refine pm_op_ok (i := .iadd) (st' := [.int (x + 1), .retAddr 3, .ref 0]) (pe_d mv_L (show pm_fetch mk_L 775 = some (.iadd, 1, 0, 0, 0) from rfl)) rfl ?_
  refine pm_scd (pe_d mv_L (show pm_fetch mk_L 776 = some (.iaload, 1, 0, 0, 0) from rfl)) hv1 ?_
  rw [hc1]
  show pm_Good sc mm_L 777 _ [.int c1, .ref 0] _ 52 7858 _
  refine pm_ld_ok (i := .aload_n 0) (x := 0) (k := 2) (n := 1) (v := .retAddr 3) (pe_d mv_L (show pm_fetch mk_L 777 = some (.aload_n 0, 1, 0, 0, 0) from rfl)) rfl rfl rfl ?_
  refine pm_ld_ok (i := .iload_n 3) (x := 3) (k := 0) (n := 1) (v := .int x) (pe_d mv_L (show pm_fetch mk_L 778 = some (.iload_n 3, 1, 0, 0, 0) from rfl)) rfl rfl rfl ?_
  refine pm_op_ok (i := .iconst 2) (st' := [.int 2, .int x, .retAddr 3, .int c1, .ref 0]) (pe_d mv_L (show pm_fetch mk_L 779 = some (.iconst 2, 1, 0, 0, 0) from rfl)) rfl ?_
  refine pm_op_ok (i := .iadd) (st' := [.int (x + 2), .retAddr 3, .int c1, .ref 0]) (pe_d mv_L (show pm_fetch mk_L 780 = some (.iadd, 1, 0, 0, 0) from rfl)) rfl ?_
  refine pm_scd (pe_d mv_L (show pm_fetch mk_L 781 = some (.iaload, 1, 0, 0, 0) from rfl)) hv2 ?_
  rw [hc2]
  show pm_Good sc mm_L 782 _ [.int c2, .int c1, .ref 0] _ 52 7858 _
  refine pm_ld_ok (i := .aload_n 0) (x := 0) (k := 2) (n := 1) (v := .retAddr 3) (pe_d mv_L (show pm_fetch mk_L 782 = some (.aload_n 0, 1, 0, 0, 0) from rfl)) rfl rfl rfl ?_
  refine pm_ld_ok (i := .iload_n 3) (x := 3) (k := 0) (n := 1) (v := .int x) (pe_d mv_L (show pm_fetch mk_L 783 = some (.iload_n 3, 1, 0, 0, 0) from rfl)) rfl rfl rfl ?_
  refine pm_op_ok (i := .iconst 3) (st' := [.int 3, .int x, .retAddr 3, .int c2, .int c1, .ref 0]) (pe_d mv_L (show pm_fetch mk_L 784 = some (.iconst 3, 1, 0, 0, 0) from rfl)) rfl ?_
  refine pm_op_ok (i := .iadd) (st' := [.int (x + 3), .retAddr 3, .int c2, .int c1, .ref 0]) (pe_d mv_L (show pm_fetch mk_L 785 = some (.iadd, 1, 0, 0, 0) from rfl)) rfl ?_
  refine pm_scd (pe_d mv_L (show pm_fetch mk_L 786 = some (.iaload, 1, 0, 0, 0) from rfl)) hv3 ?_
  rw [hc3]
  show pm_Good sc mm_L 787 _ [.int c3, .int c2, .int c1, .ref 0] _ 52 7858 _
  refine pe_callV (y := (mm_94, 3, 0, mk_94)) (As := [.int c1, .int c2, .int c3]) (rest := []) (P1 := fun r w1 => (∃ x, r = some (.int x)) ∧ ((sp_ok c1 c2 c3 sz ∧ w1 = (sp_W w Hs Ps Ks sz c1 c2 c3)) ∨ (¬ sp_ok c1 c2 c3 sz ∧ w1 = w))) mv_L (show pm_fetch mk_L 787 = some (.invokevirtual 102, 3, 94, 0, 655) from rfl) rfl rfl rfl (fun v hv => by simp only [List.mem_cons, List.not_mem_nil, or_false] at hv; rcases hv with rfl | rfl | rfl <;> rfl) hc0 (show pm_cl[7]? = some _ from rfl) rfl (Nat.le_of_ble_eq_true rfl) (Nat.le_of_ble_eq_true rfl) (Nat.le_of_ble_eq_true rfl) (Nat.le_of_ble_eq_true rfl) (sp_94 hc22 q23 lH q24 lP q25 lK (by omega) hc0 hb1) (fun r w' q => ?_) (fun r w' q => ?_)
  · rcases q with ⟨-, ⟨-, q⟩ | ⟨-, q⟩⟩
    · rw [q]; unfold sp_W; simp only [List.length_set]
    · rw [q]
  obtain ⟨⟨xr, rfl⟩, q⟩ := q
  rcases q with ⟨hok, hww⟩ | ⟨hok, hww⟩
  · rw [hww]
    show pm_Good sc mm_L 790 _ [.int xr] (sp_W w Hs Ps Ks sz c1 c2 c3) 52 7858 _
    refine pm_op_ok (i := .pop) (st' := []) (pe_d mv_L (show pm_fetch mk_L 790 = some (.pop, 1, 0, 0, 0) from rfl)) rfl ?_
    refine pm_ld_ok (i := .aload_n 2) (x := 2) (k := 2) (n := 1) (v := .ref 42) (pe_d mv_L (show pm_fetch mk_L 791 = some (.aload_n 2, 1, 0, 0, 0) from rfl)) rfl rfl rfl ?_
    refine pm_ld_ok (i := .aload_n 0) (x := 0) (k := 2) (n := 1) (v := .retAddr 3) (pe_d mv_L (show pm_fetch mk_L 792 = some (.aload_n 0, 1, 0, 0, 0) from rfl)) rfl rfl rfl ?_
    refine pm_ld_ok (i := .iload_n 3) (x := 3) (k := 0) (n := 1) (v := .int x) (pe_d mv_L (show pm_fetch mk_L 793 = some (.iload_n 3, 1, 0, 0, 0) from rfl)) rfl rfl rfl ?_
    refine pm_op_ok (i := .iconst 1) (st' := [.int 1, .int x, .retAddr 3, .ref 42]) (pe_d mv_L (show pm_fetch mk_L 794 = some (.iconst 1, 1, 0, 0, 0) from rfl)) rfl ?_
    refine pm_op_ok (i := .iadd) (st' := [.int (x + 1), .retAddr 3, .ref 42]) (pe_d mv_L (show pm_fetch mk_L 795 = some (.iadd, 1, 0, 0, 0) from rfl)) rfl ?_
    refine pm_scd (pe_d mv_L (show pm_fetch mk_L 796 = some (.iaload, 1, 0, 0, 0) from rfl)) hv1 ?_
    rw [hc1]
    show pm_Good sc mm_L 797 _ [.int c1, .ref 42] _ 52 7858 _
    refine pm_ld_ok (i := .aload_n 0) (x := 0) (k := 2) (n := 1) (v := .retAddr 3) (pe_d mv_L (show pm_fetch mk_L 797 = some (.aload_n 0, 1, 0, 0, 0) from rfl)) rfl rfl rfl ?_
    refine pm_ld_ok (i := .iload_n 3) (x := 3) (k := 0) (n := 1) (v := .int x) (pe_d mv_L (show pm_fetch mk_L 798 = some (.iload_n 3, 1, 0, 0, 0) from rfl)) rfl rfl rfl ?_
    refine pm_op_ok (i := .iconst 2) (st' := [.int 2, .int x, .retAddr 3, .int c1, .ref 42]) (pe_d mv_L (show pm_fetch mk_L 799 = some (.iconst 2, 1, 0, 0, 0) from rfl)) rfl ?_
    refine pm_op_ok (i := .iadd) (st' := [.int (x + 2), .retAddr 3, .int c1, .ref 42]) (pe_d mv_L (show pm_fetch mk_L 800 = some (.iadd, 1, 0, 0, 0) from rfl)) rfl ?_
    refine pm_scd (pe_d mv_L (show pm_fetch mk_L 801 = some (.iaload, 1, 0, 0, 0) from rfl)) hv2 ?_
    rw [hc2]
    show pm_Good sc mm_L 802 _ [.int c2, .int c1, .ref 42] _ 52 7858 _
    refine pm_ld_ok (i := .aload_n 0) (x := 0) (k := 2) (n := 1) (v := .retAddr 3) (pe_d mv_L (show pm_fetch mk_L 802 = some (.aload_n 0, 1, 0, 0, 0) from rfl)) rfl rfl rfl ?_
    refine pm_ld_ok (i := .iload_n 3) (x := 3) (k := 0) (n := 1) (v := .int x) (pe_d mv_L (show pm_fetch mk_L 803 = some (.iload_n 3, 1, 0, 0, 0) from rfl)) rfl rfl rfl ?_
    refine pm_op_ok (i := .iconst 3) (st' := [.int 3, .int x, .retAddr 3, .int c2, .int c1, .ref 42]) (pe_d mv_L (show pm_fetch mk_L 804 = some (.iconst 3, 1, 0, 0, 0) from rfl)) rfl ?_
    refine pm_op_ok (i := .iadd) (st' := [.int (x + 3), .retAddr 3, .int c2, .int c1, .ref 42]) (pe_d mv_L (show pm_fetch mk_L 805 = some (.iadd, 1, 0, 0, 0) from rfl)) rfl ?_
    refine pm_scd (pe_d mv_L (show pm_fetch mk_L 806 = some (.iaload, 1, 0, 0, 0) from rfl)) hv3 ?_
    rw [hc3]
    show pm_Good sc mm_L 807 _ [.int c3, .int c2, .int c1, .ref 42] _ 52 7858 _
    have d42 : (sp_W w Hs Ps Ks sz c1 c2 c3)[42]? = some (.inr (8, [.ref 43, y2, .ref 44, .ref 45, .ref 46, .ref 47, .ref 48, y8, .ref 49, y10, .ref 50, .int (Int32.ofNat sz), y13, .ref 51])) := by unfold sp_W; rw [List.getElem?_set_ne (by decide), List.getElem?_set_ne (by decide), List.getElem?_set_ne (by decide), List.getElem?_set_ne (by decide)]; exact hc42
    have d50 : (sp_W w Hs Ps Ks sz c1 c2 c3)[50]? = some (.inl (0, sts)) := by unfold sp_W; rw [List.getElem?_set_ne (by decide), List.getElem?_set_ne (by decide), List.getElem?_set_ne (by decide), List.getElem?_set_ne (by decide)]; exact q50
    refine pe_callV (y := (mm_161, 3, 0, mk_161)) (As := [.int c1, .int c2, .int c3]) (rest := []) (P1 := fun r w1 => (∃ x, r = some (.int x)) ∧ ((sp_ok c1 c2 c3 sz ∧ w1 = sp_V (sp_W w Hs Ps Ks sz c1 c2 c3) [.ref 43, y2, .ref 44, .ref 45, .ref 46, .ref 47, .ref 48, y8, .ref 49, y10, .ref 50, .int (Int32.ofNat sz), y13, .ref 51] sts sz (100 * c1 + 10 * c2 + c3)) ∨ (¬ sp_ok c1 c2 c3 sz ∧ w1 = (sp_W w Hs Ps Ks sz c1 c2 c3)))) mv_L (show pm_fetch mk_L 807 = some (.invokevirtual 105, 3, 161, 0, 988) from rfl) rfl rfl rfl (fun v hv => by simp only [List.mem_cons, List.not_mem_nil, or_false] at hv; rcases hv with rfl | rfl | rfl <;> rfl) d42 (show pm_cl[8]? = some _ from rfl) rfl (Nat.le_of_ble_eq_true rfl) (Nat.le_of_ble_eq_true rfl) (Nat.le_of_ble_eq_true rfl) (Nat.le_of_ble_eq_true rfl) (sp_161 d42 rfl rfl d50 lS (by omega)) (fun r w2 q => ?_) (fun r w2 q => ?_)
    · rcases q with ⟨-, ⟨-, q⟩ | ⟨-, q⟩⟩
      · rw [q]; unfold sp_V; simp only [List.length_set]
      · rw [q]
    obtain ⟨⟨xr2, rfl⟩, q⟩ := q
    have hww2 : w2 = (sp_V (sp_W w Hs Ps Ks sz c1 c2 c3) [.ref 43, y2, .ref 44, .ref 45, .ref 46, .ref 47, .ref 48, y8, .ref 49, y10, .ref 50, .int (Int32.ofNat sz), y13, .ref 51] sts sz (100 * c1 + 10 * c2 + c3)) := by
      rcases q with ⟨h9, q⟩ | ⟨h9, q⟩
      · exact q
      · exact absurd hok h9
    rw [hww2]
    show pm_Good sc mm_L 810 _ [.int xr2] (sp_V (sp_W w Hs Ps Ks sz c1 c2 c3) [.ref 43, y2, .ref 44, .ref 45, .ref 46, .ref 47, .ref 48, y8, .ref 49, y10, .ref 50, .int (Int32.ofNat sz), y13, .ref 51] sts sz (100 * c1 + 10 * c2 + c3)) 52 7858 _
    refine pm_op_ok (i := .pop) (st' := []) (pe_d mv_L (show pm_fetch mk_L 810 = some (.pop, 1, 0, 0, 0) from rfl)) rfl ?_
    refine pm_goto (off := 197) (pe_d mv_L (show pm_fetch mk_L 811 = some (.goto 197, 3, 0, 0, 0) from rfl)) (by decide) ?_
    show pm_Good sc mm_L 1008 _ _ _ _ _ _
    have hg : ∀ j, j ≠ 27 → (g.set 27 ((sz : Int) + 1))[j]? = g[j]? := fun j hj => List.getElem?_set_ne (fun e => hj e.symm)
    have hsw := li_swn (k := c1) (l := c2) (n := c3) hn hw y27 hok.2.2.2 lH lP lK lS hc42
    have t6 := li_tq6 v
    have rows : (sp_V (sp_W w Hs Ps Ks sz c1 c2 c3) [.ref 43, y2, .ref 44, .ref 45, .ref 46, .ref 47, .ref 48, y8, .ref 49, y10, .ref 50, .int (Int32.ofNat sz), y13, .ref 51] sts sz (100 * c1 + 10 * c2 + c3))[23]? = some (.inl (0, Hs.set sz c1)) ∧ (sp_V (sp_W w Hs Ps Ks sz c1 c2 c3) [.ref 43, y2, .ref 44, .ref 45, .ref 46, .ref 47, .ref 48, y8, .ref 49, y10, .ref 50, .int (Int32.ofNat sz), y13, .ref 51] sts sz (100 * c1 + 10 * c2 + c3))[24]? = some (.inl (0, Ps.set sz c2)) ∧ (sp_V (sp_W w Hs Ps Ks sz c1 c2 c3) [.ref 43, y2, .ref 44, .ref 45, .ref 46, .ref 47, .ref 48, y8, .ref 49, y10, .ref 50, .int (Int32.ofNat sz), y13, .ref 51] sts sz (100 * c1 + 10 * c2 + c3))[25]? = some (.inl (0, Ks.set sz c3)) ∧ (sp_V (sp_W w Hs Ps Ks sz c1 c2 c3) [.ref 43, y2, .ref 44, .ref 45, .ref 46, .ref 47, .ref 48, y8, .ref 49, y10, .ref 50, .int (Int32.ofNat sz), y13, .ref 51] sts sz (100 * c1 + 10 * c2 + c3))[50]? = some (.inl (0, sts.set sz (100 * c1 + 10 * c2 + c3))) := by
      have hlen : 50 < w.length := (List.getElem?_eq_some_iff.mp q50).1
      refine ⟨?_, ?_, ?_, ?_⟩
      · unfold sp_V sp_W; rw [List.getElem?_set_ne (by decide), List.getElem?_set_ne (by decide), List.getElem?_set_ne (by decide), List.getElem?_set_ne (by decide), List.getElem?_set_ne (by decide), List.getElem?_set_self (by omega)]
      · unfold sp_V sp_W; rw [List.getElem?_set_ne (by decide), List.getElem?_set_ne (by decide), List.getElem?_set_ne (by decide), List.getElem?_set_ne (by decide), List.getElem?_set_self (by simp only [List.length_set]; omega)]
      · unfold sp_V sp_W; rw [List.getElem?_set_ne (by decide), List.getElem?_set_ne (by decide), List.getElem?_set_ne (by decide), List.getElem?_set_self (by simp only [List.length_set]; omega)]
      · unfold sp_V; rw [List.getElem?_set_ne (by decide), List.getElem?_set_self (by unfold sp_W; simp only [List.length_set]; omega)]
    refine hB _ (g.set 27 ((sz : Int) + 1)) _ _ (li_scr hs (fun i hi => hg i (by omega))) (by rw [hg 1 (by omega)]; exact hz) ⟨xs, ys, szt, ?_, ?_, by rw [hg 7 (by omega)]; exact a3, a4, ⟨as, bs, ts, ?_, ?_, ?_, dK⟩, Hs.set sz c1, Ps.set sz c2, Ks.set sz c3, sts.set sz (100 * c1 + 10 * c2 + c3), rows.1, rows.2.1, rows.2.2.1, rows.2.2.2, li_SS eS lH lP lK lS hok⟩ ⟨li_n27 hn ⟨by omega, by have := hok.2.2.2; omega⟩, li_ll (by rw [hg 1 (by omega)]; exact hz) hx, trivial, hsw⟩
    · rw [li_sw _ _ _ _ _ _ _ _ _ _ _ (t6 2 List.mem_cons_self)]; exact pz_fl_ok hw (lw_fl v).2 a1
    · rw [li_sw _ _ _ _ _ _ _ _ _ _ _ (t6 43 (List.mem_cons_of_mem _ List.mem_cons_self))]; exact pz_fl_ok hw (lw_fl v).1 a2
    · rw [li_sw _ _ _ _ _ _ _ _ _ _ _ (t6 _ (List.mem_cons_of_mem _ (List.mem_cons_of_mem _ List.mem_cons_self))), ly_same hw (lw_fb v _ List.mem_cons_self).1]; exact d1
    · rw [li_sw _ _ _ _ _ _ _ _ _ _ _ (t6 _ (List.mem_cons_of_mem _ (List.mem_cons_of_mem _ (List.mem_cons_of_mem _ List.mem_cons_self)))), ly_same hw (lw_fb v _ (List.mem_cons_of_mem _ List.mem_cons_self)).1]; exact d2
    · rw [li_sw _ _ _ _ _ _ _ _ _ _ _ (t6 44 (List.mem_cons_of_mem _ (List.mem_cons_of_mem _ (List.mem_cons_of_mem _ (List.mem_cons_of_mem _ List.mem_cons_self))))), ly_same hw (lw_fb v 44 (List.mem_cons_of_mem _ (List.mem_cons_of_mem _ List.mem_cons_self))).1]; exact d3
  · rw [hww]
    show pm_Good sc mm_L 790 _ [.int xr] w 52 7858 _
    refine pm_op_ok (i := .pop) (st' := []) (pe_d mv_L (show pm_fetch mk_L 790 = some (.pop, 1, 0, 0, 0) from rfl)) rfl ?_
    refine pm_ld_ok (i := .aload_n 2) (x := 2) (k := 2) (n := 1) (v := .ref 42) (pe_d mv_L (show pm_fetch mk_L 791 = some (.aload_n 2, 1, 0, 0, 0) from rfl)) rfl rfl rfl ?_
    refine pm_ld_ok (i := .aload_n 0) (x := 0) (k := 2) (n := 1) (v := .retAddr 3) (pe_d mv_L (show pm_fetch mk_L 792 = some (.aload_n 0, 1, 0, 0, 0) from rfl)) rfl rfl rfl ?_
    refine pm_ld_ok (i := .iload_n 3) (x := 3) (k := 0) (n := 1) (v := .int x) (pe_d mv_L (show pm_fetch mk_L 793 = some (.iload_n 3, 1, 0, 0, 0) from rfl)) rfl rfl rfl ?_
    refine pm_op_ok (i := .iconst 1) (st' := [.int 1, .int x, .retAddr 3, .ref 42]) (pe_d mv_L (show pm_fetch mk_L 794 = some (.iconst 1, 1, 0, 0, 0) from rfl)) rfl ?_
    refine pm_op_ok (i := .iadd) (st' := [.int (x + 1), .retAddr 3, .ref 42]) (pe_d mv_L (show pm_fetch mk_L 795 = some (.iadd, 1, 0, 0, 0) from rfl)) rfl ?_
    refine pm_scd (pe_d mv_L (show pm_fetch mk_L 796 = some (.iaload, 1, 0, 0, 0) from rfl)) hv1 ?_
    rw [hc1]
    show pm_Good sc mm_L 797 _ [.int c1, .ref 42] _ 52 7858 _
    refine pm_ld_ok (i := .aload_n 0) (x := 0) (k := 2) (n := 1) (v := .retAddr 3) (pe_d mv_L (show pm_fetch mk_L 797 = some (.aload_n 0, 1, 0, 0, 0) from rfl)) rfl rfl rfl ?_
    refine pm_ld_ok (i := .iload_n 3) (x := 3) (k := 0) (n := 1) (v := .int x) (pe_d mv_L (show pm_fetch mk_L 798 = some (.iload_n 3, 1, 0, 0, 0) from rfl)) rfl rfl rfl ?_
    refine pm_op_ok (i := .iconst 2) (st' := [.int 2, .int x, .retAddr 3, .int c1, .ref 42]) (pe_d mv_L (show pm_fetch mk_L 799 = some (.iconst 2, 1, 0, 0, 0) from rfl)) rfl ?_
    refine pm_op_ok (i := .iadd) (st' := [.int (x + 2), .retAddr 3, .int c1, .ref 42]) (pe_d mv_L (show pm_fetch mk_L 800 = some (.iadd, 1, 0, 0, 0) from rfl)) rfl ?_
    refine pm_scd (pe_d mv_L (show pm_fetch mk_L 801 = some (.iaload, 1, 0, 0, 0) from rfl)) hv2 ?_
    rw [hc2]
    show pm_Good sc mm_L 802 _ [.int c2, .int c1, .ref 42] _ 52 7858 _
    refine pm_ld_ok (i := .aload_n 0) (x := 0) (k := 2) (n := 1) (v := .retAddr 3) (pe_d mv_L (show pm_fetch mk_L 802 = some (.aload_n 0, 1, 0, 0, 0) from rfl)) rfl rfl rfl ?_
    refine pm_ld_ok (i := .iload_n 3) (x := 3) (k := 0) (n := 1) (v := .int x) (pe_d mv_L (show pm_fetch mk_L 803 = some (.iload_n 3, 1, 0, 0, 0) from rfl)) rfl rfl rfl ?_
    refine pm_op_ok (i := .iconst 3) (st' := [.int 3, .int x, .retAddr 3, .int c2, .int c1, .ref 42]) (pe_d mv_L (show pm_fetch mk_L 804 = some (.iconst 3, 1, 0, 0, 0) from rfl)) rfl ?_
    refine pm_op_ok (i := .iadd) (st' := [.int (x + 3), .retAddr 3, .int c2, .int c1, .ref 42]) (pe_d mv_L (show pm_fetch mk_L 805 = some (.iadd, 1, 0, 0, 0) from rfl)) rfl ?_
    refine pm_scd (pe_d mv_L (show pm_fetch mk_L 806 = some (.iaload, 1, 0, 0, 0) from rfl)) hv3 ?_
    rw [hc3]
    show pm_Good sc mm_L 807 _ [.int c3, .int c2, .int c1, .ref 42] _ 52 7858 _
    refine pe_callV (y := (mm_161, 3, 0, mk_161)) (As := [.int c1, .int c2, .int c3]) (rest := []) (P1 := fun r w1 => (∃ x, r = some (.int x)) ∧ ((sp_ok c1 c2 c3 sz ∧ w1 = sp_V w [.ref 43, y2, .ref 44, .ref 45, .ref 46, .ref 47, .ref 48, y8, .ref 49, y10, .ref 50, .int (Int32.ofNat sz), y13, .ref 51] sts sz (100 * c1 + 10 * c2 + c3)) ∨ (¬ sp_ok c1 c2 c3 sz ∧ w1 = w))) mv_L (show pm_fetch mk_L 807 = some (.invokevirtual 105, 3, 161, 0, 988) from rfl) rfl rfl rfl (fun v hv => by simp only [List.mem_cons, List.not_mem_nil, or_false] at hv; rcases hv with rfl | rfl | rfl <;> rfl) hc42 (show pm_cl[8]? = some _ from rfl) rfl (Nat.le_of_ble_eq_true rfl) (Nat.le_of_ble_eq_true rfl) (Nat.le_of_ble_eq_true rfl) (Nat.le_of_ble_eq_true rfl) (sp_161 hc42 rfl rfl q50 lS (by omega)) (fun r w2 q => ?_) (fun r w2 q => ?_)
    · rcases q with ⟨-, ⟨-, q⟩ | ⟨-, q⟩⟩
      · rw [q]; unfold sp_V; simp only [List.length_set]
      · rw [q]
    obtain ⟨⟨xr2, rfl⟩, q⟩ := q
    have hww2 : w2 = w := by
      rcases q with ⟨h9, q⟩ | ⟨h9, q⟩
      · exact absurd h9 hok
      · exact q
    rw [hww2]
    show pm_Good sc mm_L 810 _ [.int xr2] w 52 7858 _
    refine pm_op_ok (i := .pop) (st' := []) (pe_d mv_L (show pm_fetch mk_L 810 = some (.pop, 1, 0, 0, 0) from rfl)) rfl ?_
    refine pm_goto (off := 197) (pe_d mv_L (show pm_fetch mk_L 811 = some (.goto 197, 3, 0, 0, 0) from rfl)) (by decide) ?_
    show pm_Good sc mm_L 1008 _ _ _ _ _ _
    exact hB w0 g _ w hs hz hT hm0
