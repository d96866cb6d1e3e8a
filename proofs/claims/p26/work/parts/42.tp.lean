/-! the reading of all, from its beginning; and as it is seen from the law -/
theorem pf_rng {xs : List Int32} {sz : Int} : ∀ (f : Nat) (i p : Int) (K : Nat → Int), 0 ≤ i → (0 ≤ p ∧ p ≤ 5) → ((pf xs sz f i p K).1 = -4 ∨ (0 ≤ (pf xs sz f i p K).1 ∧ (pf xs sz f i p K).1 < sz)) ∧ 0 ≤ (pf xs sz f i p K).2.1 ∧ (pf xs sz f i p K).2.1 ≤ 5
  | 0, i, p, K, hi, hp => ⟨Or.inl rfl, hp⟩
  | f + 1, i, p, K, hi, hp => by
    unfold pf
    by_cases h : i < sz
    · rw [if_pos h]
      cases hps : ps_i (pz_f xs sz i) p with
      | none => exact ⟨Or.inr ⟨hi, h⟩, hp⟩
      | some t =>
        have := ps_i_lt hp hps
        exact pf_rng f (i + t.1) (p + t.2) _ (by omega) ⟨this.2.1, this.2.2⟩
    · rw [if_neg h]
      exact ⟨Or.inl rfl, hp⟩
/-- before anything is told: the class, the reference -/
def pf_z : Nat → Int := fun _ => -1
def pf_y : Nat → Int := fun j => if j < 20 then -1 else 0
theorem ps_n1 {e : Nat → Int} {q : Int × Int × Int} {l : List (Int × Int × Int)} {o : Nat} {t : List Int × Nat} (h : ps_n e (q :: l) o = some t) : (q.1 ≤ ps_V e o ∧ ps_V e o ≤ q.2.1) ∧ ∃ t', ps_n e l (o + ps_D e o + 1) = some t' := by
  unfold ps_n at h
  split at h
  · cases h
  · split at h
    · rename_i hc
      split at h
      · rename_i t' h1
        exact ⟨⟨hc.2.1, hc.2.2⟩, t', h1⟩
      · cases h
    · cases h
theorem ps_h {e : Nat → Int} {p : Int} {t : Nat × Int} (h : ps_i e p = some t) (h0 : e 0 = 104) : (0 ≤ ps_V e (ps_o e 0) ∧ ps_V e (ps_o e 0) ≤ p - 1) ∧ (0 ≤ ps_V e (ps_o e 1) ∧ ps_V e (ps_o e 1) ≤ 3) ∧ (0 ≤ ps_V e (ps_o e 2) ∧ ps_V e (ps_o e 2) ≤ 5) ∧ 0 ≤ ps_V e (ps_o e 3) ∧ ps_V e (ps_o e 3) ≤ 5 := by
  unfold ps_i at h
  rw [h0] at h
  have hl : ps_l 104 p = some [(0, p - 1, 44), (0, 3, 44), (0, 5, 44), (0, 5, 44), (0, 10, 59)] := by
    unfold ps_l
    rw [if_neg (by decide), if_pos rfl]
  rw [hl] at h
  simp only at h
  split at h
  · cases h
  · rename_i t1 ht
    obtain ⟨a1, t2, ht⟩ := ps_n1 ht
    obtain ⟨a2, t3, ht⟩ := ps_n1 ht
    obtain ⟨a3, t4, ht⟩ := ps_n1 ht
    obtain ⟨a4, t5, ht⟩ := ps_n1 ht
    exact ⟨a1, a2, a3, a4⟩
/-- what both sides know of the habits -/
def pf_R (K L : Nat → Int) : Prop := ∀ j : Nat, j < 20 → L j = K j ∧ (0 ≤ K j → L (20 + j) = K (20 + j)) ∧ (K j < 0 → K (20 + j) = K j)
theorem pf_R0 : pf_R pf_z pf_y := by
  intro j hj
  unfold pf_z pf_y
  rw [if_pos hj]
  exact ⟨rfl, fun h => absurd h (by decide), fun _ => rfl⟩
theorem pK_R {K L e : Nat → Int} {p : Int} (hp : p ≤ 5) {t : Nat × Int} (ht : ps_i e p = some t) (h : pf_R K L) : pf_R (pK K e) (pK L e) := by
  intro j hj
  unfold pK
  by_cases h0 : e 0 = 104
  · obtain ⟨b0, b1, b2, b3⟩ := ps_h ht h0
    rw [if_pos h0, if_pos h0, if_pos h0, if_pos h0]
    by_cases hs : (j : Int) = 4 * ps_V e (ps_o e 0) + ps_V e (ps_o e 1)
    · rw [if_pos hs, if_pos hs, if_neg (by omega), if_pos (by omega), if_neg (by omega), if_pos (by omega)]
      exact ⟨rfl, fun _ => rfl, fun h => by omega⟩
    · rw [if_neg hs, if_neg (by omega), if_neg hs, if_neg (by omega), if_neg (by omega), if_neg (by omega), if_neg (by omega), if_neg (by omega)]
      exact h j hj
  · rw [if_neg h0, if_neg h0, if_neg h0, if_neg h0]
    exact h j hj
theorem pf_RR {xs : List Int32} {sz : Int} : ∀ (f : Nat) (i p : Int) (K L : Nat → Int), (0 ≤ p ∧ p ≤ 5) → pf_R K L → (pf xs sz f i p L).1 = (pf xs sz f i p K).1 ∧ (pf xs sz f i p L).2.1 = (pf xs sz f i p K).2.1 ∧ pf_R (pf xs sz f i p K).2.2 (pf xs sz f i p L).2.2
  | 0, i, p, K, L, hp, h => ⟨rfl, rfl, h⟩
  | f + 1, i, p, K, L, hp, h => by
    unfold pf
    by_cases hi : i < sz
    · rw [if_pos hi, if_pos hi]
      cases hps : ps_i (pz_f xs sz i) p with
      | none => exact ⟨rfl, rfl, h⟩
      | some t =>
        have h5 := ps_i_lt hp hps
        exact pf_RR f (i + t.1) (p + t.2) _ _ ⟨h5.2.1, h5.2.2⟩ (pK_R hp.2 hps h)
    · rw [if_neg hi, if_neg hi]
      exact ⟨rfl, rfl, h⟩
theorem pj_c9 (v : Bool) : (lh_u v)[45]? = some (.inl (0, 50, false, [(0, .inl (43, 0))])) := by cases v <;> rfl
theorem pc_cA (v : Bool) : (pc_w v)[pi_ka v]? = some (.inl (0, 20, false, pi_cs 0 (-1))) ∧ (pc_w v)[pi_kb v]? = some (.inl (0, 20, false, pi_cs 0 (-1))) := by cases v <;> exact ⟨rfl, rfl⟩
theorem pd_cA (v : Bool) : (pd_w v)[45]? = some (.inl (0, 50, false, (0, .inl (0, 0)) :: (pi_cs 10 (-1) ++ pi_cs 30 0))) := by cases v <;> rfl
/-- a row of constants -/
theorem pi_cs_ok {w0 : pm_W} {g : List Int} {q b : Nat} {c : Int} {a : sx_A} {cc : pm_C} (h0 : g[0]? = some 0) (hr : sx_rc w0 g q (.inl a) cc) (hs : ∀ s ∈ pi_cs b c, s ∈ a.2.2.2) : ∃ zs, cc = .inl (a.1, zs) ∧ ∀ j : Nat, j < 20 → (zs.getD (b + j) 0).toInt = c := by
  obtain ⟨zs, rfl, -, -, -, z4⟩ := sx_rc_a hr
  refine ⟨zs, rfl, fun j hj => ?_⟩
  obtain ⟨x9, x1, z, y, y1, y2, y3⟩ := z4 _ (hs (b + j, .inl (0, c)) (List.mem_map.mpr ⟨j, List.mem_range.mpr hj, rfl⟩))
  cases y2
  simp only at y1 y3 x1
  rw [h0] at y1
  cases y1
  rw [List.getD_eq_getElem?_getD, x1]
  simp only [Option.getD_some]
  omega
theorem pc_H0 {w0 : pm_W} {g : List Int} {v : Bool} {w : pm_W} (h0 : g[0]? = some 0) (hw : sx_w w0 g (pc_w v) w) : pi_H w (pi_ka v) (pi_kb v) 0 0 pf_z := by
  obtain ⟨c, hc, hr⟩ := sx_w_get hw (pc_cA v).1
  obtain ⟨zs, rfl, z1⟩ := pi_cs_ok (b := 0) (c := -1) h0 hr (fun s hs => hs)
  obtain ⟨c2, hc2, hr2⟩ := sx_w_get hw (pc_cA v).2
  obtain ⟨zs2, rfl, z2⟩ := pi_cs_ok (b := 0) (c := -1) h0 hr2 (fun s hs => hs)
  exact ⟨zs, zs2, hc, hc2, fun j hj => ⟨z1 j hj, z2 j hj⟩⟩
theorem pd_H0 {w0 : pm_W} {g : List Int} {v : Bool} {w : pm_W} (h0 : g[0]? = some 0) (hw : sx_w w0 g (pd_w v) w) : pi_H w 45 45 10 30 pf_y := by
  obtain ⟨c, hc, hr⟩ := sx_w_get hw (pd_cA v)
  obtain ⟨zs, e1, z1⟩ := pi_cs_ok (b := 10) (c := -1) h0 hr (fun s hs => List.mem_cons_of_mem _ (List.mem_append_left _ hs))
  obtain ⟨zs2, e2, z2⟩ := pi_cs_ok (b := 30) (c := 0) h0 hr (fun s hs => List.mem_cons_of_mem _ (List.mem_append_right _ hs))
  rw [e1] at hc
  rw [e1] at e2
  cases e2
  refine ⟨zs, zs, hc, hc, fun j hj => ⟨?_, ?_⟩⟩
  · rw [z1 j hj]
    unfold pf_y
    rw [if_pos hj]
  · rw [z2 j hj]
    unfold pf_y
    rw [if_neg (by omega)]
section TP
variable {sc : pm_Z} {w0 : pm_W} {xs ys : List Int32} {sz : Int}
theorem pc_all (v : Bool) (hr : ∀ p : Int, 0 ≤ p ∧ p ≤ 5 → pi_r v p = true) (hw2 : w0[2]? = some (.inl (1, xs))) (hw43 : w0[43]? = some (.inl (0, ys))) (hT : pz_T xs ys sz) {g : List Int} {w : pm_W} (hn : sx_n g 44 (lh_f v)) (h1 : g[1]? = some (-1)) (h8 : g[7]? = some sz) (hw : sx_w w0 g (lh_u v) w) : pm_GoodM sc mm_32 [.ref 1, .ref (pi_dq v)] w (pc_P w0 v g (pf xs sz 200 0 0 pf_z)) := by
  have hrun := pc_r v
  rw [sx_runF_eq] at hrun
  have hgl : g.length = 44 := hn.1
  unfold pm_GoodM
  show pm_Good sc mm_32 0 [(0, .ref 1), (1, .ref (pi_dq v))] [] w 0 0 _
  refine sx_run_ok (lo_O1 (Ψ := lo_tr) (w0 := w0)) 100000 (mm_32, 1, 0, mk_32) _ _ _ _ _ _ _ _ _ _ _ _ g g _ [] w _ hrun (pm_mt_ok (j := 32) (x := (mm_32, 1, 0, mk_32)) rfl).2 ⟨Or.inl ⟨-1, h1, by decide⟩, g, List.prefix_rfl, trivial⟩ List.prefix_rfl ⟨hn, ⟨⟨rfl, rfl⟩, ⟨rfl, rfl⟩, trivial⟩, trivial, hw⟩ (fun h hh => ?_) (fun g' o r w' _ hk _ => by cases hk)
  have e := List.mem_singleton.mp hh
  subst e
  have ht : g.take 44 = g := by rw [← hgl, List.take_length]
  refine ⟨g, List.prefix_rfl, by decide, by show 44 ≤ _; omega, by show sx_n (g.take 44) 44 (lh_f v); rw [ht]; exact hn, Or.inl rfl, fun g2 lv2 w2 t2 hm2 _ => ?_⟩
  have hl2 : g2.length = 44 := hm2.1.1
  have t2 : g2.take 44 = g.take 44 := t2
  rw [ht, ← hl2, List.take_length] at t2
  subst t2
  obtain ⟨m1, m2, -, m4⟩ := hm2
  obtain ⟨gF, f1, f2, f3, f4⟩ := pg_back (m := 0) (nw := []) hgl hn.2.1 (fun j _ _ => rfl) m1 m4 (pc_c1 v) (pc_c2 v) (pc_c3 v)
  obtain ⟨d1, d2, d3⟩ := pc_c5 v
  have hv : 7 ≤ pi_ps v ∧ pi_ps v < 44 ∧ 7 ≤ pi_bn v ∧ pi_bn v < 44 := by cases v <;> decide
  have h0 : (g2[0]?).getD 0 = 0 := by rw [hn.2.1]; rfl
  have kp : ∀ j, j < 44 → pi_kp v j = true → gF[j]? = g2[j]? := fun j hj hk => by
    by_cases h7 : j < 7
    · exact f3 j h7
    · rw [f4 j _ (by omega) hj (pc_c4 v j hj (by omega) hk), List.getElem?_eq_getElem (show j < g2.length by omega)]
      simp
  obtain ⟨⟨i0, v0⟩, m, rfl, ⟨e0, r0⟩, m2⟩ := sx_f2_cons m2
  obtain ⟨⟨i1, v1⟩, m, rfl, ⟨e1, r1⟩, m2⟩ := sx_f2_cons m2
  obtain ⟨⟨i2, v2⟩, m, rfl, ⟨e2, r2⟩, m2⟩ := sx_f2_cons m2
  cases m with
  | cons _ _ => cases m2
  | nil =>
    have r0 : v0 = .ref 1 := r0
    have r1 : v1 = .ref (pi_dq v) := r1
    obtain ⟨z, x, y1, y2, y3⟩ := r2
    simp only at e0 e1 e2 y1 y2 y3
    rw [hn.2.1] at y1
    cases y1
    subst e0 e1 e2 r0 r1 y2
    refine pc_loop v hr hw2 hw43 hT 200 x 0 0 pf_z gF w2 (by omega) (by omega) f1 f2 kp (by rw [kp 7 (by omega) (by cases v <;> rfl)]; exact h8) ?_ (Int.le_refl _) ?_ ⟨by decide, by decide⟩ ⟨3, ?_, by decide, by decide⟩ (pc_H0 hn.2.1 m4)
    · rw [f4 10 _ (by omega) (by omega) d1]
      simp only [h0]
      rfl
    · rw [f4 _ _ hv.1 hv.2.1 d2]
      simp only [h0]
      rfl
    · rw [f4 _ _ hv.2.2.1 hv.2.2.2 d3]
      simp only [h0]
      rfl
theorem pd_all (v : Bool) (hr : ∀ p : Int, 0 ≤ p ∧ p ≤ 5 → pj_r v p = true) (hw2 : w0[2]? = some (.inl (1, xs))) (hw43 : w0[43]? = some (.inl (0, ys))) (hT : pz_T xs ys sz) {g : List Int} {w : pm_W} (hn : sx_n g 44 (lh_f v)) (h1 : g[1]? = some (-1)) (h8 : g[7]? = some sz) (hw : sx_w w0 g (lh_u v) w) : pm_GoodM sc mm_140 [.ref 42] w (pd_P w0 v g (pf xs sz 200 0 0 pf_y)) := by
  have hrun := pd_r v
  rw [sx_runF_eq] at hrun
  have hgl : g.length = 44 := hn.1
  unfold pm_GoodM
  show pm_Good sc mm_140 0 [(0, .ref 42)] [] w 0 0 _
  refine sx_run_ok (lo_O1 (Ψ := lo_tr) (w0 := w0)) 100000 (mm_140, 0, 0, mk_140) _ _ _ _ _ _ _ _ _ _ _ _ g g _ [] w _ hrun (pm_mt_ok (j := 140) (x := (mm_140, 0, 0, mk_140)) rfl).2 ⟨Or.inl ⟨-1, h1, by decide⟩, g, List.prefix_rfl, trivial⟩ List.prefix_rfl ⟨hn, ⟨⟨rfl, rfl⟩, trivial⟩, trivial, hw⟩ (fun h hh => ?_) (fun g' o r w' _ hk _ => by cases hk)
  have e := List.mem_singleton.mp hh
  subst e
  have ht : g.take 44 = g := by rw [← hgl, List.take_length]
  refine ⟨g, List.prefix_rfl, by decide, by show 44 ≤ _; omega, by show sx_n (g.take 44) 44 (lh_f v); rw [ht]; exact hn, Or.inl rfl, fun g2 lv2 w2 t2 hm2 _ => ?_⟩
  have hl2 : g2.length = 44 := hm2.1.1
  have t2 : g2.take 44 = g.take 44 := t2
  rw [ht, ← hl2, List.take_length] at t2
  subst t2
  obtain ⟨m1, m2, -, m4⟩ := hm2
  obtain ⟨gF, f1, f2, f3, f4⟩ := pg_back (m := 0) (nw := []) hgl hn.2.1 (fun j _ _ => rfl) m1 m4 (pd_c1 v) (pd_c2 v) (pd_c3 v)
  obtain ⟨d1, d2⟩ := pd_c5 v
  have h0 : (g2[0]?).getD 0 = 0 := by rw [hn.2.1]; rfl
  have kp : ∀ j, j < 44 → pj_kp j = true → gF[j]? = g2[j]? := fun j hj hk => by
    by_cases h7 : j < 7
    · exact f3 j h7
    · rw [f4 j _ (by omega) hj (pd_c4 v j hj (by omega) hk), List.getElem?_eq_getElem (show j < g2.length by omega)]
      simp
  obtain ⟨⟨i0, v0⟩, m, rfl, ⟨e0, r0⟩, m2⟩ := sx_f2_cons m2
  cases m with
  | cons _ _ => cases m2
  | nil =>
    have r0 : v0 = .ref 42 := r0
    simp only at e0
    subst e0 r0
    have hT4 := hT.2.2.2.1
    refine pd_loop v hr hw2 hw43 hT 200 0 0 pf_y gF w2 (by omega) f1 f2 kp (by rw [kp 7 (by omega) rfl]; exact h8) ?_ (Int.le_refl _) ?_ ⟨by decide, by decide⟩ (pd_H0 hn.2.1 m4)
    · rw [f4 41 _ (by omega) (by omega) d1]
      simp only [h0]
      rfl
    · rw [f4 43 _ (by omega) (by omega) d2]
      simp only [h0]
      rfl
end TP
/-! signs put in the place of signs -/
def px_s (σ : Nat → Nat × Int) : sx_V → sx_V
  | .inl a => .inl ((σ a.1).1, (σ a.1).2 + a.2)
  | .inr u => .inr u
def px_c (σ : Nat → Nat × Int) : sx_C → sx_C
  | .inl a => .inl (a.1, a.2.1, a.2.2.1, a.2.2.2.map fun q => (q.1, px_s σ q.2))
  | .inr o => .inr (o.1, o.2.map (px_s σ))
theorem px_s_ok {ok : Nat → Bool} {g G : List Int} {σ : Nat → Nat × Int} (hσ : ∀ j z, ok j = true → g[j]? = some z → ∃ y, G[(σ j).1]? = some y ∧ z = y + (σ j).2) {a : sx_V} {x : Value} (ha : lo_v ok a = true) (h : sx_r g a x) : sx_r G (px_s σ a) x := by
  cases a with
  | inl a =>
    obtain ⟨z, y, h1, h2, h3⟩ := h
    obtain ⟨u, u1, u2⟩ := hσ a.1 z ha h1
    exact ⟨u, y, u1, h2, by simp only; omega⟩
  | inr u =>
    cases u <;> exact h
theorem px_f_ok {ok : Nat → Bool} {g G : List Int} {σ : Nat → Nat × Int} (hσ : ∀ j z, ok j = true → g[j]? = some z → ∃ y, G[(σ j).1]? = some y ∧ z = y + (σ j).2) : ∀ {l : List sx_V} {m : List Value}, l.all (lo_v ok) = true → sx_f2 (sx_r g) l m → sx_f2 (sx_r G) (l.map (px_s σ)) m
  | [], [], _, _ => trivial
  | a :: l, b :: m, h, hr => by
    simp only [List.all_cons, Bool.and_eq_true] at h
    exact ⟨px_s_ok hσ h.1 hr.1, px_f_ok hσ h.2 hr.2⟩
  | [], _ :: _, _, h => by cases h
  | _ :: _, [], _, h => by cases h
theorem px_w_ok {ok : Nat → Bool} {w0 : pm_W} {g G : List Int} {σ : Nat → Nat × Int} (hσ : ∀ j z, ok j = true → g[j]? = some z → ∃ y, G[(σ j).1]? = some y ∧ z = y + (σ j).2) {aw : List sx_C} {w : pm_W} (h : lo_w ok aw = true) (hw : sx_w w0 g aw w) : sx_w w0 G (aw.map (px_c σ)) w := by
  refine ⟨by rw [List.length_map]; exact hw.1, fun q a c h1 h2 => ?_⟩
  rw [List.getElem?_map] at h1
  cases ha : aw[q]? with
  | none => rw [ha] at h1; cases h1
  | some a0 =>
    rw [ha] at h1
    cases h1
    have h3 := hw.2 q a0 c ha h2
    have h4 := List.all_eq_true.mp h a0 (List.mem_of_getElem? ha)
    cases a0 with
    | inl a =>
      cases c with
      | inl c =>
        obtain ⟨c1, c2, c3, c5, c4⟩ := h3
        refine ⟨c1, c2, c3, c5, fun s hs => ?_⟩
        obtain ⟨s0, hs0, rfl⟩ := List.mem_map.mp hs
        obtain ⟨x, d1, d2⟩ := c4 s0 hs0
        exact ⟨x, d1, px_s_ok hσ (List.all_eq_true.mp h4 s0 hs0) d2⟩
      | inr c => cases h3
    | inr a =>
      cases c with
      | inl c => cases h3
      | inr c =>
        obtain ⟨c1, c2⟩ := h3
        exact ⟨c1, px_f_ok hσ h4 c2⟩
