/-! the oracles hold: the reference's number -/
section PZ3
variable {sc : pm_Z} {w0 : pm_W} {xs ys : List Int32} {sz i : Int}
theorem pz_mob_ok {w0 : pm_W} {g : List Int} {aw : List sx_C} {w : pm_W} (hw : sx_w w0 g aw w) {d sz i : Int} (h : aw[42]? = some (pz_mob d)) (h8 : g[7]? = some sz) (h44 : g[44]? = some i) : ∃ (s a : Int32) (m7 m9 m11 : Value), w[42]? = some (.inr (8, [.ref 43, .int s, .ref 44, .ref 45, .ref 46, .ref 47, .ref 48, m7, .ref 49, m9, .ref 50, m11, .int a, .ref 51])) ∧ s.toInt = sz ∧ a.toInt = i + d ∧ sx_r g (.inl (38, 0)) m7 ∧ sx_r g (.inl (39, 0)) m9 ∧ sx_r g (.inl (40, 0)) m11 := by
  obtain ⟨c, hc, hr⟩ := sx_w_get hw h
  obtain ⟨fs, rfl, hf⟩ := sx_rc_o hr
  obtain ⟨v1, m, rfl, r1, hf⟩ := sx_f2_cons hf
  obtain ⟨v2, m, rfl, r2, hf⟩ := sx_f2_cons hf
  obtain ⟨v3, m, rfl, r3, hf⟩ := sx_f2_cons hf
  obtain ⟨v4, m, rfl, r4, hf⟩ := sx_f2_cons hf
  obtain ⟨v5, m, rfl, r5, hf⟩ := sx_f2_cons hf
  obtain ⟨v6, m, rfl, r6, hf⟩ := sx_f2_cons hf
  obtain ⟨v7, m, rfl, r7, hf⟩ := sx_f2_cons hf
  obtain ⟨v8, m, rfl, r8, hf⟩ := sx_f2_cons hf
  obtain ⟨v9, m, rfl, r9, hf⟩ := sx_f2_cons hf
  obtain ⟨v10, m, rfl, r10, hf⟩ := sx_f2_cons hf
  obtain ⟨v11, m, rfl, r11, hf⟩ := sx_f2_cons hf
  obtain ⟨v12, m, rfl, r12, hf⟩ := sx_f2_cons hf
  obtain ⟨v13, m, rfl, r13, hf⟩ := sx_f2_cons hf
  obtain ⟨v14, m, rfl, r14, hf⟩ := sx_f2_cons hf
  cases m with
  | cons _ _ => cases hf
  | nil =>
    have r1 : v1 = .ref 43 := r1
    have r3 : v3 = .ref 44 := r3
    have r4 : v4 = .ref 45 := r4
    have r5 : v5 = .ref 46 := r5
    have r6 : v6 = .ref 47 := r6
    have r7 : v7 = .ref 48 := r7
    have r9 : v9 = .ref 49 := r9
    have r11 : v11 = .ref 50 := r11
    have r14 : v14 = .ref 51 := r14
    obtain ⟨z3, s, a1, a2, a3⟩ := r2
    obtain ⟨z4, a, b1, b2, b3⟩ := r13
    simp only at a1 a3 b1 b3
    rw [h8] at a1
    rw [h44] at b1
    cases a1
    cases b1
    subst r1 r3 r4 r5 r6 r7 r9 r11 r14 a2 b2
    exact ⟨s, a, v8, v10, v12, hc, by omega, b3, r8, r10, r12⟩
theorem pz_mn (a b : Int) : sx_mn a b ≤ a ∧ sx_mn a b ≤ b ∧ (sx_mn a b = a ∨ sx_mn a b = b) := by
  unfold sx_mn
  split <;> omega
theorem pz_mx (a b : Int) : a ≤ sx_mx a b ∧ b ≤ sx_mx a b ∧ (sx_mx a b = a ∨ sx_mx a b = b) := by
  unfold sx_mx
  split <;> omega
set_option maxHeartbeats 4000000 in
theorem pz_136 {n : Nat} {env : sx_N} {as : List sx_V} {aw : List sx_C} {outs : List sx_O} {g : List Int} {As : List Value} {w : pm_W} (h : pz_o136 n env as aw = some outs) (hG : pz_G w0 xs ys sz i g) (hn : sx_n g n env) (hA : sx_f2 (sx_r g) as As) (hw : sx_w w0 g aw w) : pm_GoodM sc mm_136 As w (fun r w' => ∃ o ∈ outs, ∃ g', g <+: g' ∧ sx_mo w0 g' o r w') := by
  obtain ⟨g1, g2, hT, hi, g8, g44, hL⟩ := hG
  unfold pz_o136 at h
  split at h
  · rename_i r l hh c d _
    split at h
    · rename_i hc
      obtain ⟨c1, c2, c3, c4, c5, c6, c7, c8, c9, c10⟩ := hc
      cases h
      obtain ⟨v1, m, rfl, r1, hA⟩ := sx_f2_cons hA
      obtain ⟨v2, m, rfl, r2, hA⟩ := sx_f2_cons hA
      obtain ⟨v3, m, rfl, r3, hA⟩ := sx_f2_cons hA
      obtain ⟨v4, m, rfl, r4, hA⟩ := sx_f2_cons hA
      cases m with
      | cons _ _ => cases hA
      | nil =>
        subst c1
        have r1 : v1 = .ref 42 := r1
        subst r1
        obtain ⟨z2, lo, k1, rfl, k3⟩ := r2
        rw [c4, hn.2.1] at k1
        cases k1
        obtain ⟨z3, hi', k1, rfl, k4⟩ := r3
        rw [c5, hn.2.1] at k1
        cases k1
        obtain ⟨z4, en, k1, rfl, k5⟩ := r4
        rw [c6, hn.2.1] at k1
        cases k1
        have elo : lo.toInt = l.2 := by omega
        have ehi : hi'.toInt = hh.2 := by omega
        have een : en.toInt = c.2 := by omega
        obtain ⟨s, a, m7, m9, m11, t1, t2, t3, rr7, rr9, rr11⟩ := pz_mob_ok hw (pz_is_ok c2) g8 g44
        have hw2 := pz_fl_ok hw c3 g2
        have hlw : 43 ≤ w.length := (List.getElem?_eq_some_iff.mp t1).1
        obtain ⟨o, rfl⟩ : ∃ o : Nat, d = (o : Int) := ⟨d.toNat, by omega⟩
        have ho : 1 ≤ o ∧ o ≤ 13 := by omega
        subst t2
        have hsz : s.toInt ≤ 200 := hT.2.2.2.1
        have ha0 : 0 ≤ a.toInt := by omega
        have ex1 := pl_p1 (a := a) ha0 (by omega)
        have ha1 : 0 ≤ (a + 1).toInt := by omega
        have ex2 := pl_p1 (a := a + 1) ha1 (by omega)
        have ha2 : 0 ≤ (a + 1 + 1).toInt := by omega
        have ex3 := pl_p1 (a := a + 1 + 1) ha2 (by omega)
        have p0 : pz_e xs s.toInt a.toInt = pz_f xs s.toInt i o := by rw [t3]; rfl
        have p1 : pz_e xs s.toInt (a + 1).toInt = pz_f xs s.toInt i (o + 1) := by
          rw [ex1, t3]
          unfold pz_f
          congr 1
          omega
        have p2 : pz_e xs s.toInt (a + 1 + 1).toInt = pz_f xs s.toInt i (o + 2) := by
          rw [ex2, ex1, t3]
          unfold pz_f
          congr 1
          omega
        have q0 := pl_F_fig (k := a) hT ha0
        have q1 := pl_F_fig (k := a + 1) hT ha1
        rw [p0] at q0
        rw [p1] at q1
        obtain ⟨l1, l2⟩ := hL.2 o ho.1 ho.2
        obtain ⟨f0, f1, f2⟩ := pz_fD (e := pz_f xs s.toInt i) (o := o)
        have b0 : 0 ≤ pz_f xs s.toInt i o ∧ pz_f xs s.toInt i o ≤ 126 := pz_e_rng hT _
        have bb : ∀ o', 0 ≤ pz_f xs s.toInt i o' ∧ pz_f xs s.toInt i o' ≤ 126 := fun o' => pz_e_rng hT _
        have hw0 : w.set 42 (.inr (8, [.ref 43, .int s, .ref 44, .ref 45, .ref 46, .ref 47, .ref 48, m7, .ref 49, m9, .ref 50, m11, .int a, .ref 51])) = w := pz_set_self t1
        have wd : ∀ (a' : Int32) (dd : Nat), a'.toInt = i + ((o : Int) + dd + 1) → sx_w w0 g (aw.set 42 (pz_mob ((o : Int) + dd + 1))) (w.set 42 (.inr (8, [.ref 43, .int s, .ref 44, .ref 45, .ref 46, .ref 47, .ref 48, m7, .ref 49, m9, .ref 50, m11, .int a', .ref 51]))) := by
          intro a' dd ha'
          have r1 : sx_rc w0 g 42 (pz_mob ((o : Int) + dd + 1)) (.inr (8, [.ref 43, .int s, .ref 44, .ref 45, .ref 46, .ref 47, .ref 48, m7, .ref 49, m9, .ref 50, m11, .int a', .ref 51])) := ⟨rfl, rfl, pz_s_ok g8 rfl, rfl, rfl, rfl, rfl, rfl, rr7, rfl, rr9, rfl, rr11, ⟨i, a', g44, rfl, ha'⟩, rfl, trivial⟩
          exact sx_w_set hw r1
        have fin1 : ∀ (a' : Int32) (dd : Nat) (x : Int32) (m : Int), 1 ≤ dd → dd ≤ 2 → a'.toInt = i + ((o : Int) + dd + 1) → x.toInt = ps_V (pz_f xs s.toInt i) o → (ps_D (pz_f xs s.toInt i) o : Int) = dd → (0 ≤ x.toInt ∧ x.toInt ≤ m) → pz_f xs s.toInt i (o + dd) = c.2 → l.2 ≤ x.toInt → x.toInt ≤ hh.2 → ∃ o' ∈ pz_r136 n env aw l.2 hh.2 c.2 o dd m, ∃ g', g <+: g' ∧ sx_mo w0 g' o' (some (.int x)) (w.set 42 (.inr (8, [.ref 43, .int s, .ref 44, .ref 45, .ref 46, .ref 47, .ref 48, m7, .ref 49, m9, .ref 50, m11, .int a', .ref 51]))) := by
          intro a' dd x m d1 d2 ha' hx hD hm he hl hu
          refine ⟨_, List.mem_append_left _ List.mem_cons_self, g, List.prefix_rfl, pz_n_ok (pz_n_ok (pz_n_ok hn l2 ?_) (hL.1 (o + dd) (by omega)) (by simp only; omega)) l1 (by simp only; omega), pz_s_ok l2 hx, wd a' dd ha'⟩
          have := pz_mn hh.2 m
          simp only
          omega
        have fin2 : ∀ (a' : Int32) (dd : Nat) (x : Int) (m : Int), 1 ≤ dd → dd ≤ 2 → a'.toInt = i + ((o : Int) + dd + 1) → x = ps_V (pz_f xs s.toInt i) o → (ps_D (pz_f xs s.toInt i) o : Int) = dd → (0 ≤ x ∧ x ≤ m) → ¬ (pz_f xs s.toInt i (o + dd) = c.2 ∧ l.2 ≤ x ∧ x ≤ hh.2) → ∃ o' ∈ pz_r136 n env aw l.2 hh.2 c.2 o dd m, ∃ g', g <+: g' ∧ sx_mo w0 g' o' (some (.int (-1))) (w.set 42 (.inr (8, [.ref 43, .int s, .ref 44, .ref 45, .ref 46, .ref 47, .ref 48, m7, .ref 49, m9, .ref 50, m11, .int a', .ref 51]))) := by
          intro a' dd x m d1 d2 ha' hx hD hm hne
          have hb := bb (o + dd)
          have hle := hL.1 (o + dd) (by omega)
          unfold pz_r136
          by_cases e1 : pz_f xs s.toInt i (o + dd) < c.2
          · exact ⟨_, List.mem_append_left _ (List.mem_cons_of_mem _ List.mem_cons_self), g, List.prefix_rfl, pz_n_ok (pz_n_ok hn hle (by simp only; omega)) l1 (by simp only; omega), pz_r_ok hn rfl, wd a' dd ha'⟩
          · by_cases e2 : c.2 < pz_f xs s.toInt i (o + dd)
            · exact ⟨_, List.mem_append_left _ (List.mem_cons_of_mem _ (List.mem_cons_of_mem _ List.mem_cons_self)), g, List.prefix_rfl, pz_n_ok (pz_n_ok hn hle (by simp only; omega)) l1 (by simp only; omega), pz_r_ok hn rfl, wd a' dd ha'⟩
            · by_cases e3 : x < l.2
              · refine ⟨(n, (61 + o, (dd : Int), (dd : Int)) :: (74 + o, 0, l.2 - 1) :: env, some (.inl (0, -1)), aw.set 42 (pz_mob ((o : Int) + dd + 1))), List.mem_append_right _ (List.mem_append_left _ (by rw [if_pos (by omega)]; exact List.mem_cons_self)), g, List.prefix_rfl, pz_n_ok (pz_n_ok hn l2 (by simp only; omega)) l1 (by simp only; omega), pz_r_ok hn rfl, wd a' dd ha'⟩
              · refine ⟨(n, (61 + o, (dd : Int), (dd : Int)) :: (74 + o, sx_mx 0 (hh.2 + 1), m) :: env, some (.inl (0, -1)), aw.set 42 (pz_mob ((o : Int) + dd + 1))), List.mem_append_right _ (List.mem_append_right _ (by rw [if_pos (by omega)]; exact List.mem_cons_self)), g, List.prefix_rfl, pz_n_ok (pz_n_ok hn l2 ?_) l1 (by simp only; omega), pz_r_ok hn rfl, wd a' dd ha'⟩
                have := pz_mx 0 (hh.2 + 1)
                simp only
                omega
        have key : pm_GoodM sc mm_136 [.ref 42, .int lo, .int hi', .int en] (w.set 42 (.inr (8, [.ref 43, .int s, .ref 44, .ref 45, .ref 46, .ref 47, .ref 48, m7, .ref 49, m9, .ref 50, m11, .int a, .ref 51]))) (fun r w' => ∃ o' ∈ ((n, (61 + (o : Int).toNat, 0, 0) :: env, some (.inl (0, -1)), aw) :: (pz_r136 n env aw l.2 hh.2 c.2 (o : Int).toNat 1 9 ++ pz_r136 n env aw l.2 hh.2 c.2 (o : Int).toNat 2 99) : List sx_O), ∃ g', g <+: g' ∧ sx_mo w0 g' o' r w') := by
          rw [Int.toNat_natCast]
          have lf : ∀ {r : Option Value} {w' : pm_W}, (∃ o' ∈ pz_r136 n env aw l.2 hh.2 c.2 o 1 9, ∃ g', g <+: g' ∧ sx_mo w0 g' o' r w') → ∃ o' ∈ ((n, (61 + o, 0, 0) :: env, some (.inl (0, -1)), aw) :: (pz_r136 n env aw l.2 hh.2 c.2 o 1 9 ++ pz_r136 n env aw l.2 hh.2 c.2 o 2 99) : List sx_O), ∃ g', g <+: g' ∧ sx_mo w0 g' o' r w' := fun ⟨o', h1, h2⟩ => ⟨o', List.mem_cons_of_mem _ (List.mem_append_left _ h1), h2⟩
          have rg : ∀ {r : Option Value} {w' : pm_W}, (∃ o' ∈ pz_r136 n env aw l.2 hh.2 c.2 o 2 99, ∃ g', g <+: g' ∧ sx_mo w0 g' o' r w') → ∃ o' ∈ ((n, (61 + o, 0, 0) :: env, some (.inl (0, -1)), aw) :: (pz_r136 n env aw l.2 hh.2 c.2 o 1 9 ++ pz_r136 n env aw l.2 hh.2 c.2 o 2 99) : List sx_O), ∃ g', g <+: g' ∧ sx_mo w0 g' o' r w' := fun ⟨o', h1, h2⟩ => ⟨o', List.mem_cons_of_mem _ (List.mem_append_right _ h1), h2⟩
          have V1 : pl_fig (pl_F ys s a) → ¬ pl_fig (pl_F ys s (a + 1)) → ps_D (pz_f xs s.toInt i) o = 1 ∧ (pl_F ys s a - 48).toInt = ps_V (pz_f xs s.toInt i) o ∧ 0 ≤ ps_V (pz_f xs s.toInt i) o ∧ ps_V (pz_f xs s.toInt i) o ≤ 9 := by
            intro x1 x2
            obtain ⟨hD, hV⟩ := f1 (q0.mp x1) (fun z => x2 (q1.mpr z))
            have hv := pl_F_val hT ha0 x1
            rw [p0] at hv
            have h9 := q0.mp x1
            have := pz_v1 (a := pl_F ys s a) (by omega)
            exact ⟨hD, by omega, by omega, by omega⟩
          have V2 : pl_fig (pl_F ys s a) → pl_fig (pl_F ys s (a + 1)) → ps_D (pz_f xs s.toInt i) o = 2 ∧ (10 * (pl_F ys s a - 48) + pl_F ys s (a + 1) - 48).toInt = ps_V (pz_f xs s.toInt i) o ∧ 0 ≤ ps_V (pz_f xs s.toInt i) o ∧ ps_V (pz_f xs s.toInt i) o ≤ 99 := by
            intro x1 x2
            obtain ⟨hD, hV⟩ := f2 (q0.mp x1) (q1.mp x2)
            have hv := pl_F_val hT ha0 x1
            have hv2 := pl_F_val hT ha1 x2
            rw [p0] at hv
            rw [p1] at hv2
            have h9 := q0.mp x1
            have h8 := q1.mp x2
            have := pz_v2 (a := pl_F ys s a) (b := pl_F ys s (a + 1)) (by omega) (by omega)
            exact ⟨hD, by omega, by omega, by omega⟩
          have E1 := pl_F_en (k := a + 1) (en := en) hT ha1 (by omega)
          have E2 := pl_F_en (k := a + 1 + 1) (en := en) hT ha2 (by omega)
          rw [p1] at E1
          rw [p2] at E2
          refine pl_136 (Wd := fun b => w.set 42 (.inr (8, [.ref 43, .int s, .ref 44, .ref 45, .ref 46, .ref 47, .ref 48, m7, .ref 49, m9, .ref 50, m11, .int b, .ref 51]))) (ys := ys) (m7 := m7) (m9 := m9) (m11 := m11) (fun b => ?_) (fun b => ?_) (fun b b' => ?_) hT.2.1 hsz ha0 (by omega) (fun q => ?_) (fun x1 x2 x3 => ?_) (fun x1 x2 x3 => ?_) (fun x1 x2 x3 => ?_) (fun x1 x2 x3 => ?_)
          · rw [List.getElem?_set_self (by omega)]
          · rw [List.getElem?_set_ne (by decide)]
            exact hw2
          · rw [List.set_set]
          · have hD := f0 (fun z => q (q0.mpr z))
            refine ⟨_, List.mem_cons_self, g, List.prefix_rfl, pz_n_ok hn l1 (by rw [hD]; exact ⟨Int.le_refl _, Int.le_refl _⟩), pz_r_ok hn rfl, ?_⟩
            simp only
            rw [hw0]
            exact hw
          · obtain ⟨hD, hV, hV0, hV9⟩ := V1 x1 x2
            exact lf (fin1 (a + 1 + 1) 1 _ 9 (by omega) (by omega) (by omega) hV (by omega) (by omega) (by have := E1.mp x3.1; omega) (by omega) (by omega))
          · obtain ⟨hD, hV, hV0, hV9⟩ := V1 x1 x2
            exact lf (fin2 (a + 1 + 1) 1 _ 9 (by omega) (by omega) (by omega) rfl (by omega) ⟨hV0, hV9⟩ (fun z => x3 ⟨E1.mpr (by omega), by omega, by omega⟩))
          · obtain ⟨hD, hV, hV0, hV9⟩ := V2 x1 x2
            exact rg (fin1 (a + 1 + 1 + 1) 2 _ 99 (by omega) (by omega) (by omega) hV (by omega) (by omega) (by have := E2.mp x3.1; omega) (by omega) (by omega))
          · obtain ⟨hD, hV, hV0, hV9⟩ := V2 x1 x2
            exact rg (fin2 (a + 1 + 1 + 1) 2 _ 99 (by omega) (by omega) (by omega) rfl (by omega) ⟨hV0, hV9⟩ (fun z => x3 ⟨E2.mpr (by omega), by omega, by omega⟩))
        rw [hw0] at key
        exact key
    · cases h
  · cases h
theorem pz_O_ok {w0 : pm_W} : sx_orB sc (pz_G w0 xs ys sz i) w0 pz_O := by
  intro j y n env as aw outs g As w h hy hG hn hA hw
  have hG := pz_G_pre hG
  unfold pz_O at h
  cases h17 : Nat.beq j 17 with
  | true =>
    rw [h17] at h
    have e := Nat.eq_of_beq_eq_true h17
    subst e
    have e2 : pm_mt 17 = some (mm_17, 1, 0, mk_17) := rfl
    rw [e2] at hy
    cases hy
    exact pz_17 h hG hn hA hw
  | false =>
    rw [h17] at h
    cases h20 : Nat.beq j 20 with
    | true =>
      rw [h20] at h
      have e := Nat.eq_of_beq_eq_true h20
      subst e
      have e2 : pm_mt 20 = some (mm_20, 1, 0, mk_20) := rfl
      rw [e2] at hy
      cases hy
      exact pz_20 h hG hn hA hw
    | false =>
      rw [h20] at h
      cases h136 : Nat.beq j 136 with
      | true =>
        rw [h136] at h
        have e := Nat.eq_of_beq_eq_true h136
        subst e
        have e2 : pm_mt 136 = some (mm_136, 3, 0, mk_136) := rfl
        rw [e2] at hy
        cases hy
        exact pz_136 h hG hn hA hw
      | false =>
        rw [h136] at h
        cases h
end PZ3
