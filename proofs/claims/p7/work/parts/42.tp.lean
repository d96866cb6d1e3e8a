/-! the reading of all, from its beginning; and as it is seen from the law -/
theorem pf_rng {xs : List Int32} {sz : Int} : ∀ (f : Nat) (i p : Int) (K : Nat → Int), 0 ≤ i → (0 ≤ p ∧ p ≤ 5) → ((pf xs sz f i p K).1 = -4 ∨ (0 ≤ (pf xs sz f i p K).1 ∧ (pf xs sz f i p K).1 < sz)) ∧ 0 ≤ (pf xs sz f i p K).2.1 ∧ (pf xs sz f i p K).2.1 ≤ 5
  | 0, i, p, K, hi, hp => ⟨Or.inl rfl, hp⟩
  | f + 1, i, p, K, hi, hp => by
    unfold pf
    by_cases h : i < sz
    · rw [if_pos h]
      cases hps : ps_i (pz_f xs sz i) p with
      | none => exact ⟨Or.inr ⟨hi, h⟩, hp⟩
      | some t =>
        have := ps_i_lt hp hps
        exact pf_rng f (i + t.1) (p + t.2) _ (by omega) ⟨this.2.1, this.2.2⟩
    · rw [if_neg h]
      exact ⟨Or.inl rfl, hp⟩
theorem pf_K {xs ys : List Int32} {sz : Int} (hT : pz_T xs ys sz) : ∀ (f : Nat) (i p : Int) (K : Nat → Int), (∀ j, -48 ≤ K j ∧ K j ≤ 99) → ∀ j, -48 ≤ (pf xs sz f i p K).2.2 j ∧ (pf xs sz f i p K).2.2 j ≤ 99
  | 0, i, p, K, hK => hK
  | f + 1, i, p, K, hK => by
    unfold pf
    by_cases h : i < sz
    · rw [if_pos h]
      cases hps : ps_i (pz_f xs sz i) p with
      | none => exact hK
      | some t =>
        refine pf_K hT f (i + t.1) (p + t.2) _ (fun j => ?_)
        unfold pK
        split
        · exact ps_V_rng (fun o => pz_e_rng hT _) 1
        · exact hK j
    · rw [if_neg h]
      exact hK
theorem pj_c9 (v : Bool) : (lh_u v)[45]? = some (.inl (0, 50, false, [(0, .inl (43, 0))])) := by cases v <;> rfl
theorem pi_H0 {w0 : pm_W} {g : List Int} {v : Bool} {w : pm_W} (hw : sx_w w0 g (lh_u v) w) (K : Nat → Int) : pi_H w (pi_kc v) 0 0 K ∧ pi_H w 45 5 0 K := by
  obtain ⟨c, hc, hr⟩ := sx_w_get hw (pi_c9 v).1
  obtain ⟨zs, rfl, -⟩ := sx_rc_a hr
  obtain ⟨c2, hc2, hr2⟩ := sx_w_get hw (pj_c9 v)
  obtain ⟨zs2, rfl, -⟩ := sx_rc_a hr2
  exact ⟨⟨zs, hc, fun j hj => by omega⟩, ⟨zs2, hc2, fun j hj => by omega⟩⟩
def pf_z : Nat → Int := fun _ => 0
section TP
variable {sc : pm_Z} {w0 : pm_W} {xs ys : List Int32} {sz : Int}
theorem pc_all (v : Bool) (hr : ∀ p : Int, 0 ≤ p ∧ p ≤ 5 → pi_r v p = true) (hw2 : w0[2]? = some (.inl (1, xs))) (hw43 : w0[43]? = some (.inl (0, ys))) (hT : pz_T xs ys sz) {g : List Int} {w : pm_W} (hn : sx_n g 44 (lh_f v)) (h1 : g[1]? = some (-1)) (h8 : g[7]? = some sz) (hw : sx_w w0 g (lh_u v) w) : pm_GoodM sc mm_32 [.ref 1, .ref (pi_dq v)] w (pc_P w0 v g (pf xs sz 200 0 0 pf_z)) := by
  have hrun := pc_r v
  rw [sx_runF_eq] at hrun
  have hgl : g.length = 44 := hn.1
  unfold pm_GoodM
  show pm_Good sc mm_32 0 [(0, .ref 1), (1, .ref (pi_dq v))] [] w 0 0 _
  refine sx_run_ok (lo_O1 (Ψ := lo_tr) (w0 := w0)) 100000 (mm_32, 1, 0, mk_32) _ _ _ _ _ _ _ _ _ _ _ _ g g _ [] w _ hrun (pm_mt_ok (j := 32) (x := (mm_32, 1, 0, mk_32)) rfl).2 ⟨Or.inl ⟨-1, h1, by decide⟩, g, List.prefix_rfl, trivial⟩ List.prefix_rfl ⟨hn, ⟨⟨rfl, rfl⟩, ⟨rfl, rfl⟩, trivial⟩, trivial, hw⟩ (fun h hh => ?_) (fun g' o r w' _ hk _ => by cases hk)
  have e := List.mem_singleton.mp hh
  subst e
  have ht : g.take 44 = g := by rw [← hgl, List.take_length]
  refine ⟨g, List.prefix_rfl, by decide, by show 44 ≤ _; omega, by show sx_n (g.take 44) 44 (lh_f v); rw [ht]; exact hn, Or.inl rfl, fun g2 lv2 w2 t2 hm2 _ => ?_⟩
  have hl2 : g2.length = 44 := hm2.1.1
  have t2 : g2.take 44 = g.take 44 := t2
  rw [ht, ← hl2, List.take_length] at t2
  subst t2
  obtain ⟨m1, m2, -, m4⟩ := hm2
  obtain ⟨gF, f1, f2, f3, f4⟩ := pg_back (m := 0) (nw := []) hgl hn.2.1 (fun j _ _ => rfl) m1 m4 (pc_c1 v) (pc_c2 v) (pc_c3 v)
  obtain ⟨d1, d2, d3⟩ := pc_c5 v
  have hv : 7 ≤ pi_ps v ∧ pi_ps v < 44 ∧ 7 ≤ pi_bn v ∧ pi_bn v < 44 := by cases v <;> decide
  have h0 : (g2[0]?).getD 0 = 0 := by rw [hn.2.1]; rfl
  have kp : ∀ j, j < 44 → pi_kp v j = true → gF[j]? = g2[j]? := fun j hj hk => by
    by_cases h7 : j < 7
    · exact f3 j h7
    · rw [f4 j _ (by omega) hj (pc_c4 v j hj (by omega) hk), List.getElem?_eq_getElem (show j < g2.length by omega)]
      simp
  obtain ⟨⟨i0, v0⟩, m, rfl, ⟨e0, r0⟩, m2⟩ := sx_f2_cons m2
  obtain ⟨⟨i1, v1⟩, m, rfl, ⟨e1, r1⟩, m2⟩ := sx_f2_cons m2
  obtain ⟨⟨i2, v2⟩, m, rfl, ⟨e2, r2⟩, m2⟩ := sx_f2_cons m2
  cases m with
  | cons _ _ => cases m2
  | nil =>
    have r0 : v0 = .ref 1 := r0
    have r1 : v1 = .ref (pi_dq v) := r1
    obtain ⟨z, x, y1, y2, y3⟩ := r2
    simp only at e0 e1 e2 y1 y2 y3
    rw [hn.2.1] at y1
    cases y1
    subst e0 e1 e2 r0 r1 y2
    refine pc_loop v hr hw2 hw43 hT 200 x 0 0 pf_z gF w2 (by omega) (by omega) f1 f2 kp (by rw [kp 7 (by omega) (by cases v <;> rfl)]; exact h8) ?_ (Int.le_refl _) ?_ ⟨by decide, by decide⟩ ⟨3, ?_, by decide, by decide⟩ (pi_H0 f2 pf_z).1
    · rw [f4 10 _ (by omega) (by omega) d1]
      simp only [h0]
      rfl
    · rw [f4 _ _ hv.1 hv.2.1 d2]
      simp only [h0]
      rfl
    · rw [f4 _ _ hv.2.2.1 hv.2.2.2 d3]
      simp only [h0]
      rfl
theorem pd_all (v : Bool) (hr : ∀ p : Int, 0 ≤ p ∧ p ≤ 5 → pj_r v p = true) (hw2 : w0[2]? = some (.inl (1, xs))) (hw43 : w0[43]? = some (.inl (0, ys))) (hT : pz_T xs ys sz) {g : List Int} {w : pm_W} (hn : sx_n g 44 (lh_f v)) (h1 : g[1]? = some (-1)) (h8 : g[7]? = some sz) (hw : sx_w w0 g (lh_u v) w) : pm_GoodM sc mm_140 [.ref 42] w (pd_P w0 v g (pf xs sz 200 0 0 pf_z)) := by
  have hrun := pd_r v
  rw [sx_runF_eq] at hrun
  have hgl : g.length = 44 := hn.1
  unfold pm_GoodM
  show pm_Good sc mm_140 0 [(0, .ref 42)] [] w 0 0 _
  refine sx_run_ok (lo_O1 (Ψ := lo_tr) (w0 := w0)) 100000 (mm_140, 0, 0, mk_140) _ _ _ _ _ _ _ _ _ _ _ _ g g _ [] w _ hrun (pm_mt_ok (j := 140) (x := (mm_140, 0, 0, mk_140)) rfl).2 ⟨Or.inl ⟨-1, h1, by decide⟩, g, List.prefix_rfl, trivial⟩ List.prefix_rfl ⟨hn, ⟨⟨rfl, rfl⟩, trivial⟩, trivial, hw⟩ (fun h hh => ?_) (fun g' o r w' _ hk _ => by cases hk)
  have e := List.mem_singleton.mp hh
  subst e
  have ht : g.take 44 = g := by rw [← hgl, List.take_length]
  refine ⟨g, List.prefix_rfl, by decide, by show 44 ≤ _; omega, by show sx_n (g.take 44) 44 (lh_f v); rw [ht]; exact hn, Or.inl rfl, fun g2 lv2 w2 t2 hm2 _ => ?_⟩
  have hl2 : g2.length = 44 := hm2.1.1
  have t2 : g2.take 44 = g.take 44 := t2
  rw [ht, ← hl2, List.take_length] at t2
  subst t2
  obtain ⟨m1, m2, -, m4⟩ := hm2
  obtain ⟨gF, f1, f2, f3, f4⟩ := pg_back (m := 0) (nw := []) hgl hn.2.1 (fun j _ _ => rfl) m1 m4 (pd_c1 v) (pd_c2 v) (pd_c3 v)
  obtain ⟨d1, d2⟩ := pd_c5 v
  have h0 : (g2[0]?).getD 0 = 0 := by rw [hn.2.1]; rfl
  have kp : ∀ j, j < 44 → pj_kp j = true → gF[j]? = g2[j]? := fun j hj hk => by
    by_cases h7 : j < 7
    · exact f3 j h7
    · rw [f4 j _ (by omega) hj (pd_c4 v j hj (by omega) hk), List.getElem?_eq_getElem (show j < g2.length by omega)]
      simp
  obtain ⟨⟨i0, v0⟩, m, rfl, ⟨e0, r0⟩, m2⟩ := sx_f2_cons m2
  cases m with
  | cons _ _ => cases m2
  | nil =>
    have r0 : v0 = .ref 42 := r0
    simp only at e0
    subst e0 r0
    have hT4 := hT.2.2.2.1
    refine pd_loop v hr hw2 hw43 hT 200 0 0 pf_z gF w2 (by omega) f1 f2 kp (by rw [kp 7 (by omega) rfl]; exact h8) ?_ (Int.le_refl _) ?_ ⟨by decide, by decide⟩ (pi_H0 f2 pf_z).2
    · rw [f4 41 _ (by omega) (by omega) d1]
      simp only [h0]
      rfl
    · rw [f4 43 _ (by omega) (by omega) d2]
      simp only [h0]
      rfl
end TP
/-! signs put in the place of signs -/
def px_s (σ : Nat → Nat × Int) : sx_V → sx_V
  | .inl a => .inl ((σ a.1).1, (σ a.1).2 + a.2)
  | .inr u => .inr u
def px_c (σ : Nat → Nat × Int) : sx_C → sx_C
  | .inl a => .inl (a.1, a.2.1, a.2.2.1, a.2.2.2.map fun q => (q.1, px_s σ q.2))
  | .inr o => .inr (o.1, o.2.map (px_s σ))
theorem px_s_ok {ok : Nat → Bool} {g G : List Int} {σ : Nat → Nat × Int} (hσ : ∀ j z, ok j = true → g[j]? = some z → ∃ y, G[(σ j).1]? = some y ∧ z = y + (σ j).2) {a : sx_V} {x : Value} (ha : lo_v ok a = true) (h : sx_r g a x) : sx_r G (px_s σ a) x := by
  cases a with
  | inl a =>
    obtain ⟨z, y, h1, h2, h3⟩ := h
    obtain ⟨u, u1, u2⟩ := hσ a.1 z ha h1
    exact ⟨u, y, u1, h2, by simp only; omega⟩
  | inr u =>
    cases u <;> exact h
theorem px_f_ok {ok : Nat → Bool} {g G : List Int} {σ : Nat → Nat × Int} (hσ : ∀ j z, ok j = true → g[j]? = some z → ∃ y, G[(σ j).1]? = some y ∧ z = y + (σ j).2) : ∀ {l : List sx_V} {m : List Value}, l.all (lo_v ok) = true → sx_f2 (sx_r g) l m → sx_f2 (sx_r G) (l.map (px_s σ)) m
  | [], [], _, _ => trivial
  | a :: l, b :: m, h, hr => by
    simp only [List.all_cons, Bool.and_eq_true] at h
    exact ⟨px_s_ok hσ h.1 hr.1, px_f_ok hσ h.2 hr.2⟩
  | [], _ :: _, _, h => by cases h
  | _ :: _, [], _, h => by cases h
theorem px_w_ok {ok : Nat → Bool} {w0 : pm_W} {g G : List Int} {σ : Nat → Nat × Int} (hσ : ∀ j z, ok j = true → g[j]? = some z → ∃ y, G[(σ j).1]? = some y ∧ z = y + (σ j).2) {aw : List sx_C} {w : pm_W} (h : lo_w ok aw = true) (hw : sx_w w0 g aw w) : sx_w w0 G (aw.map (px_c σ)) w := by
  refine ⟨by rw [List.length_map]; exact hw.1, fun q a c h1 h2 => ?_⟩
  rw [List.getElem?_map] at h1
  cases ha : aw[q]? with
  | none => rw [ha] at h1; cases h1
  | some a0 =>
    rw [ha] at h1
    cases h1
    have h3 := hw.2 q a0 c ha h2
    have h4 := List.all_eq_true.mp h a0 (List.mem_of_getElem? ha)
    cases a0 with
    | inl a =>
      cases c with
      | inl c =>
        obtain ⟨c1, c2, c3, c5, c4⟩ := h3
        refine ⟨c1, c2, c3, c5, fun s hs => ?_⟩
        obtain ⟨s0, hs0, rfl⟩ := List.mem_map.mp hs
        obtain ⟨x, d1, d2⟩ := c4 s0 hs0
        exact ⟨x, d1, px_s_ok hσ (List.all_eq_true.mp h4 s0 hs0) d2⟩
      | inr c => cases h3
    | inr a =>
      cases c with
      | inl c => cases h3
      | inr c =>
        obtain ⟨c1, c2⟩ := h3
        exact ⟨c1, px_f_ok hσ h4 c2⟩
