/-! the reading of all, told by two signs: 44 what it answers, 45 how many people it told -/
/-- the town's kinds; a world without flags; the cells that stay as they are, with what is known of them -/
def px_tq (v : Bool) : Nat := bif v then 10 else 5
def px_uf : sx_C → sx_C
  | .inl a => .inl (a.1, a.2.1, false, a.2.2.2)
  | .inr o => .inr o
def px_pt (aw : List sx_C) (q : Nat) (b : List sx_C) : List sx_C := match (aw[q]? : Option sx_C) with
  | some a => b.set q a
  | none => b
def px_put (v : Bool) (aw b : List sx_C) : List sx_C := px_pt aw (px_tq v) (px_pt aw 44 (px_pt aw 43 (px_pt aw 2 b)))
theorem px_uf_ok {w0 w1 : pm_W} {g : List Int} {aw : List sx_C} {w : pm_W} (h : sx_w w1 g aw w) : sx_w w0 g (aw.map px_uf) w := by
  refine ⟨by rw [List.length_map]; exact h.1, fun q a c h1 h2 => ?_⟩
  rw [List.getElem?_map] at h1
  cases ha : aw[q]? with
  | none => rw [ha] at h1; cases h1
  | some a0 =>
    rw [ha] at h1
    cases h1
    have h3 := h.2 q a0 c ha h2
    cases a0 with
    | inl a =>
      cases c with
      | inl c =>
        obtain ⟨c1, c2, c3, c4⟩ := h3
        exact ⟨c1, c2, (fun z => by cases z), c4⟩
      | inr c => cases h3
    | inr a =>
      cases c with
      | inl c => cases h3
      | inr c => exact h3
theorem px_re {w0 : pm_W} {g : List Int} {aw : List sx_C} {w : pm_W} (h : sx_w w0 g (aw.map px_uf) w) : sx_w w g aw w := by
  refine ⟨by rw [← h.1, List.length_map], fun q a c h1 h2 => ?_⟩
  have h3 := h.2 q (px_uf a) c (by rw [List.getElem?_map, h1]; rfl) h2
  cases a with
  | inl a =>
    cases c with
    | inl c =>
      obtain ⟨c1, c2, c3, c4⟩ := h3
      exact ⟨c1, c2, fun _ => h2, c4⟩
    | inr c => cases h3
  | inr a =>
    cases c with
    | inl c => cases h3
    | inr c => exact h3
theorem px_same {w1 : pm_W} {g : List Int} {aw : List sx_C} {w : pm_W} (hw : sx_w w1 g aw w) {q : Nat} (h : ∃ a : sx_A, aw[q]? = some (.inl a) ∧ a.2.2.1 = true) : w[q]? = w1[q]? := by
  obtain ⟨a, ha, hf⟩ := h
  obtain ⟨c, hc, hr⟩ := sx_w_get hw ha
  obtain ⟨xs, rfl, -, f, -⟩ := sx_rc_a hr
  rw [hc, f hf]
theorem px_pt_ok {w0 : pm_W} {g G : List Int} (hG : g <+: G) {aw b : List sx_C} {w w' : pm_W} {q : Nat} (hw : sx_w w0 g aw w) (hb : sx_w w0 G b w') (he : w'[q]? = w[q]?) : sx_w w0 G (px_pt aw q b) w' := by
  unfold px_pt
  cases ha : aw[q]? with
  | none => exact hb
  | some a =>
    obtain ⟨c, hc, hr⟩ := sx_w_get hw ha
    exact sx_w_setA hb (by rw [he]; exact hc) (sx_rc_pre hG hr)
theorem px_f2 (v : Bool) : ∃ a : sx_A, (lh_u v)[2]? = some (.inl a) ∧ a.2.2.1 = true := by cases v <;> exact ⟨_, rfl, rfl⟩
theorem px_f43 (v : Bool) : ∃ a : sx_A, (lh_u v)[43]? = some (.inl a) ∧ a.2.2.1 = true := by cases v <;> exact ⟨_, rfl, rfl⟩
theorem px_f44 (v : Bool) : ∃ a : sx_A, (lh_u v)[44]? = some (.inl a) ∧ a.2.2.1 = true := by cases v <;> exact ⟨_, rfl, rfl⟩
theorem px_ftq (v : Bool) : ∃ a : sx_A, (lh_u v)[px_tq v]? = some (.inl a) ∧ a.2.2.1 = true := by cases v <;> exact ⟨_, rfl, rfl⟩
theorem px_put_ok {w0 : pm_W} {g G g' : List Int} {v : Bool} (hG : g <+: G) {aw b : List sx_C} {w w' : pm_W} (hw : sx_w w0 g aw w) (w1 : sx_w w g' (lh_u v) w') (hb : sx_w w0 G b w') : sx_w w0 G (px_put v aw b) w' :=
  px_pt_ok hG hw (px_pt_ok hG hw (px_pt_ok hG hw (px_pt_ok hG hw hb (px_same w1 (px_f2 v))) (px_same w1 (px_f43 v))) (px_same w1 (px_f44 v))) (px_same w1 (px_ftq v))
def px_ok (v : Bool) (env : sx_N) (aw : List sx_C) (q : List (Nat × Int)) : Bool := sx_fw 7 q ((lh_u v).map px_uf) aw && (sx_fnw 7 q env (lh_f v) && (decide (q[0]? = some (7, 0)) && (Nat.beq q.length 37 && (pz_fl aw 2 1 && pz_fl aw 43 0))))
theorem px_okf {v : Bool} {env : sx_N} {aw : List sx_C} {q : List (Nat × Int)} (h : px_ok v env aw q = true) : pz_fl aw 2 1 = true ∧ pz_fl aw 43 0 = true := by
  unfold px_ok at h
  simp only [Bool.and_eq_true] at h
  exact h.2.2.2.2
def px_t (v : Bool) (q : List (Nat × Int)) (n : Nat) (pers : Nat × Int) (j : Nat) : Nat × Int := bif pi_kp v j then (bif Nat.ble 7 j then q.getD (j - 7) (0, 0) else (j, 0)) else bif Nat.beq j 10 then (n, 0) else bif Nat.beq j (pi_ps v) then pers else (n + (j - pi_ps v), 0)
def px_u (q : List (Nat × Int)) (n : Nat) (pers : Nat × Int) (j : Nat) : Nat × Int := bif pj_kp j then (bif Nat.ble 7 j then q.getD (j - 7) (0, 0) else (j, 0)) else bif Nat.beq j 41 then (n, 0) else pers
def px_n (n : Nat) (lo hi : Int) : sx_N := [(n, (-2147483648), 2147483647), (n + 1, (-2147483648), 2147483647), (n + 2, lo, hi), (n + 3, (-2147483648), 2147483647), (n + 4, (-2147483648), 2147483647), (n + 5, (-2147483648), 2147483647), (n + 6, 0, 5)]
def px_i (env : sx_N) (i : Nat) (z : Int) : Bool := match sx_bd i env with
  | some q => decide (q.1 ≤ z ∧ z ≤ q.2)
  | none => true
def px_ge (env : sx_N) : Bool := match sx_bd 44 env with
  | some q => decide (0 ≤ q.2)
  | none => true
def px_sel (env : sx_N) (f : Nat → sx_O) (b : sx_O) : List sx_O := (bif px_i env 44 (-4) then ((List.range 6).filter (fun (p : Nat) => px_i env 45 (p : Int))).map f else []) ++ (bif px_ge env then [b] else [])
theorem px_i_ok {g : List Int} {n : Nat} {env : sx_N} (hn : sx_n g n env) {i : Nat} {z : Int} (hg : g[i]? = some z) : px_i env i z = true := by
  unfold px_i
  cases hq : sx_bd i env with
  | none => rfl
  | some q => exact decide_eq_true (pz_bd hn hg hq)
theorem px_selA {g : List Int} {n : Nat} {env : sx_N} (hn : sx_n g n env) (hg : g[44]? = some (-4)) {p : Nat} (hp : p < 6) (h45 : g[45]? = some (p : Int)) (f : Nat → sx_O) (b : sx_O) : f p ∈ px_sel env f b := by
  unfold px_sel
  rw [px_i_ok hn hg]
  exact List.mem_append_left _ (List.mem_map.mpr ⟨p, List.mem_filter.mpr ⟨List.mem_range.mpr hp, px_i_ok hn h45⟩, rfl⟩)
theorem px_selB {g : List Int} {n : Nat} {env : sx_N} (hn : sx_n g n env) {z : Int} (hg : g[44]? = some z) (hz : 0 ≤ z) (f : Nat → sx_O) (b : sx_O) : b ∈ px_sel env f b := by
  unfold px_sel
  have : px_ge env = true := by
    unfold px_ge
    cases hq : sx_bd 44 env with
    | none => rfl
    | some q =>
      have := pz_bd hn hg hq
      exact decide_eq_true (by omega)
  rw [this]
  exact List.mem_append_right _ List.mem_cons_self
def px_ks (b p : Nat) : List (Nat × sx_V) := (List.range p).map fun j => (b + j, .inl (46 + j, 0))
def px_o32 (v : Bool) (n : Nat) (env : sx_N) (aw : List sx_C) (q : List (Nat × Int)) : List sx_O := px_sel env
  (fun p => (n + 7, (44, (-4), (-4)) :: (45, (p : Int), (p : Int)) :: (px_n n 0 9 ++ env), some (.inl (44, 0)), (px_put v aw (((lh_u v).map (px_c (px_t v q n (0, (p : Int))))).map px_uf)).set (pi_kc v) (.inl (0, 5, false, px_ks 0 p))))
  (n + 7, (44, 0, 199) :: (px_n n (-2147483648) 2147483647 ++ env), some (.inl (44, 0)), px_put v aw (((lh_u v).map (px_c (px_t v q n (n + 6, 0)))).map px_uf))
def px_o140 (v : Bool) (n : Nat) (env : sx_N) (aw : List sx_C) (q : List (Nat × Int)) : List sx_O := px_sel env
  (fun p => (n + 2, (44, (-4), (-4)) :: (45, (p : Int), (p : Int)) :: (n, (-2147483648), 2147483647) :: (n + 1, 0, 5) :: env, some (.inl (44, 0)), (px_put v aw (((lh_u v).map (px_c (px_u q n (0, (p : Int))))).map px_uf)).set 45 (.inl (0, 50, false, (0, .inl (0, (p : Int))) :: px_ks 5 p))))
  (n + 2, (44, 0, 199) :: (n, (-2147483648), 2147483647) :: (n + 1, 0, 5) :: env, some (.inl (44, 0)), px_put v aw (((lh_u v).map (px_c (px_u q n (n + 1, 0)))).map px_uf))
def px_a32 (n : Nat) (env : sx_N) (as : List sx_V) (aw : List sx_C) : Option (List sx_O) := match as, sx_rho [] aw (lh_v false), sx_rho [] aw (lh_v true) with
  | [r, d], some q, some q2 => if r = .inr (.ref 1) ∧ d = .inr (.ref (pi_dq false)) ∧ px_ok false env aw q = true then some (px_o32 false n env aw q) else if r = .inr (.ref 1) ∧ d = .inr (.ref (pi_dq true)) ∧ px_ok true env aw q2 = true then some (px_o32 true n env aw q2) else none
  | _, _, _ => none
def px_a140 (n : Nat) (env : sx_N) (as : List sx_V) (aw : List sx_C) : Option (List sx_O) := match as, sx_rho [] aw (lh_v false), sx_rho [] aw (lh_v true) with
  | [r], some q, some q2 => if r = .inr (.ref 42) ∧ px_ok false env aw q = true then some (px_o140 false n env aw q) else if r = .inr (.ref 42) ∧ px_ok true env aw q2 = true then some (px_o140 true n env aw q2) else none
  | _, _, _ => none
def px_O : sx_OB := fun j n env as aw => bif Nat.beq j 32 then px_a32 n env as aw else bif Nat.beq j 140 then px_a140 n env as aw else none
def px_G (w0 : pm_W) (xs ys : List Int32) (sz : Int) (g : List Int) : Prop := w0[2]? = some (.inl (1, xs)) ∧ w0[43]? = some (.inl (0, ys)) ∧ pz_T xs ys sz ∧ g[7]? = some sz ∧ g[44]? = some (pf xs sz 200 0 0 pf_z).1 ∧ g[45]? = some (pf xs sz 200 0 0 pf_z).2.1 ∧ ∀ j, j < 5 → g[46 + j]? = some ((pf xs sz 200 0 0 pf_z).2.2 j)
theorem px_G_pre {w0 : pm_W} {xs ys : List Int32} {sz : Int} {g : List Int} (h : ∃ g0, g0 <+: g ∧ px_G w0 xs ys sz g0) : px_G w0 xs ys sz g := by
  obtain ⟨g0, h1, a, b, c, d, e, f, k⟩ := h
  exact ⟨a, b, c, sx_get_pre h1 d, sx_get_pre h1 e, sx_get_pre h1 f, fun j hj => sx_get_pre h1 (k j hj)⟩
theorem px_all (v : Bool) : ∀ j, j < 44 → 7 ≤ j → (lh_f v).any (fun e => Nat.beq e.1 j) = true := by cases v <;> decide +kernel
theorem px_full (v : Bool) : ∀ e ∈ lh_f v, -2147483648 ≤ e.2.1 ∧ e.2.2 ≤ 2147483647 := by cases v <;> decide +kernel
theorem px_k1 (v : Bool) : ∀ j, j < 44 → pi_kp v j = false → j = 10 ∨ (pi_ps v ≤ j ∧ j ≤ pi_ps v + 5) := by cases v <;> decide +kernel
theorem px_k2 : ∀ j, j < 44 → pj_kp j = false → j = 41 ∨ j = 43 := by decide +kernel
theorem px_5 (v : Bool) : (pi_ps v, 0, 5) ∈ lh_f v ∧ (43, 0, 5) ∈ lh_f v := by cases v <;> decide +kernel
section OX
variable {sc : pm_Z} {w0 : pm_W} {xs ys : List Int32} {sz : Int} {g : List Int} {n : Nat} {env : sx_N} {aw : List sx_C} {w : pm_W}
theorem px_rg {v : Bool} {g' : List Int} (hn : sx_n g' 44 (lh_f v)) {j : Nat} (h7 : 7 ≤ j) (hj : j < 44) : ∃ z, g'[j]? = some z ∧ -2147483648 ≤ z ∧ z ≤ 2147483647 := by
  obtain ⟨e, e1, e2⟩ := List.any_eq_true.mp (px_all v j hj h7)
  have e2 := Nat.eq_of_beq_eq_true e2
  obtain ⟨z, z1, z2, z3⟩ := hn.2.2 e e1
  rw [e2] at z1
  have := px_full v e e1
  exact ⟨z, z1, by omega, by omega⟩
theorem px_gx {v : Bool} {q : List (Nat × Int)} (hn : sx_n g n env) (h46 : 46 ≤ n) (hw : sx_w w0 g aw w) (h : px_ok v env aw q = true) : ∃ gX : List Int, sx_n gX 44 (lh_f v) ∧ sx_w w gX (lh_u v) w ∧ gX[1]? = some (-1) ∧ gX[7]? = g[7]? ∧ ∀ j, 7 ≤ j → j < 44 → ∃ b y, q[j - 7]? = some b ∧ g[b.1]? = some y ∧ gX[j]? = some (y + b.2) := by
  unfold px_ok at h
  simp only [Bool.and_eq_true, decide_eq_true_eq] at h
  obtain ⟨h1, h2, h3, h4, -⟩ := h
  have h4 := Nat.eq_of_beq_eq_true h4
  have hgl : g.length = n := hn.1
  have h7 : sx_n (g.take 7) 7 [] := ⟨by rw [List.length_take]; omega, by rw [List.getElem?_take_of_lt (by omega)]; exact hn.2.1, fun q hq => by cases hq⟩
  have hN := sx_fn_ok (n0 := 7) (by omega) (by omega) hn h2 h7
  rw [h4] at hN
  have hW := sx_fw_ok (n0 := 7) (by omega) h1 hw
  have hs : ∀ j, j ≠ 1 → ((sx_gg g 7 q).set 1 (-1))[j]? = (sx_gg g 7 q)[j]? := fun j hj => List.getElem?_set_ne (fun q => hj q.symm)
  have hq : ∀ j, 7 ≤ j → j < 44 → ∃ b y, q[j - 7]? = some b ∧ g[b.1]? = some y ∧ ((sx_gg g 7 q).set 1 (-1))[j]? = some (y + b.2) := by
    intro j hj7 hj
    obtain ⟨e, e1, e2⟩ := List.any_eq_true.mp (px_all v j hj hj7)
    have e2 := Nat.eq_of_beq_eq_true e2
    have h5 := List.all_eq_true.mp h2 e e1
    rw [if_neg (by omega), e2] at h5
    cases hb : q[j - 7]? with
    | none => rw [hb] at h5; cases h5
    | some b =>
      rw [hb] at h5
      simp only at h5
      unfold sx_fits at h5
      split at h5
      · rename_i iv hiv
        obtain ⟨y, y1, -, -⟩ := sx_iv_int hn hiv
        refine ⟨b, y, rfl, y1, ?_⟩
        rw [hs j (by omega), sx_gg_hi (by omega) hj7 hb, y1]
        rfl
      · cases h5
  refine ⟨(sx_gg g 7 q).set 1 (-1), ⟨by rw [List.length_set]; exact hN.1, by rw [hs 0 (by omega)]; exact hN.2.1, fun e he => ?_⟩, ?_, List.getElem?_set_self (by rw [hN.1]; omega), ?_, hq⟩
  · obtain ⟨z, z1, z2⟩ := hN.2.2 e (List.mem_append_left _ he)
    have := (ll_f7 v).1 e he
    exact ⟨z, by rw [hs _ (by omega)]; exact z1, z2⟩
  · refine lo_w_ok (fun j hj => ?_) (lh_u_ok v) (px_re hW)
    rcases ll_ok_i hj with h | h
    · exact hs j (by omega)
    · exact hs j (by omega)
  · obtain ⟨b, y, b1, b2, b3⟩ := hq 7 (by omega) (by omega)
    rw [h3] at b1
    cases b1
    simp only at b2
    rw [b3, b2]
    simp
theorem px_env {G : List Int} (hG : g <+: G) (hn : sx_n g n env) {m : Nat} (hm : G.length = m) {l : sx_N} (hl : ∀ q ∈ l, ∃ z, G[q.1]? = some z ∧ q.2.1 ≤ z ∧ z ≤ q.2.2) : sx_n G m (l ++ env) := by
  refine ⟨hm, sx_get_pre hG hn.2.1, fun q hq => ?_⟩
  rcases List.mem_append.mp hq with hq | hq
  · exact hl q hq
  · obtain ⟨z, z1, z2⟩ := hn.2.2 q hq
    exact ⟨z, sx_get_pre hG z1, z2⟩
theorem px_app {l : List Int} (hg : g.length = n) (k : Nat) : (g ++ l)[n + k]? = l[k]? := by
  rw [List.getElem?_append_right (by omega)]
  congr 1
  omega
theorem px_app0 {l : List Int} (hg : g.length = n) : (g ++ l)[n]? = l[0]? := px_app hg 0
set_option maxHeartbeats 4000000 in
theorem px_32 (v : Bool) (hr : ∀ p : Int, 0 ≤ p ∧ p ≤ 5 → pi_r v p = true) {q : List (Nat × Int)} (hG : px_G w0 xs ys sz g) (hn : sx_n g n env) (hw : sx_w w0 g aw w) (h : px_ok v env aw q = true) : pm_GoodM sc mm_32 [.ref 1, .ref (pi_dq v)] w (fun r w' => ∃ o ∈ px_o32 v n env aw q, ∃ g', g <+: g' ∧ sx_mo w0 g' o r w') := by
  obtain ⟨g1, g2, hT, g8, g44, g45, gK⟩ := hG
  have hgl : g.length = n := hn.1
  have h46 : 46 ≤ n := by rw [← hgl]; exact (List.getElem?_eq_some_iff.mp g45).1
  obtain ⟨gX, x1, x2, x3, x4, x5⟩ := px_gx hn h46 hw h
  refine pm_mono (fun r w' hP => ?_) (pc_all v hr (pz_fl_ok hw (px_okf h).1 g1) (pz_fl_ok hw (px_okf h).2 g2) hT x1 x3 (by rw [x4]; exact g8) x2)
  obtain ⟨g', n1, w1, k1, ⟨x, rfl, hx⟩, p1⟩ := hP
  have hv : 7 ≤ pi_ps v ∧ pi_ps v + 5 < 44 ∧ pi_bn v = pi_ps v + 2 := by cases v <;> decide
  obtain ⟨z9, a9, b9⟩ := px_rg n1 (j := 10) (by omega) (by omega)
  obtain ⟨zp, ap, bp⟩ := n1.2.2 (pi_ps v, 0, 5) (px_5 v).1
  obtain ⟨z1, a1, b1⟩ := px_rg n1 (j := pi_ps v + 1) (by omega) (by omega)
  obtain ⟨z2, a2, b2⟩ := px_rg n1 (j := pi_ps v + 2) (by omega) (by omega)
  obtain ⟨z3, a3, b3⟩ := px_rg n1 (j := pi_ps v + 3) (by omega) (by omega)
  obtain ⟨z4, a4, b4⟩ := px_rg n1 (j := pi_ps v + 4) (by omega) (by omega)
  obtain ⟨z5, a5, b5⟩ := px_rg n1 (j := pi_ps v + 5) (by omega) (by omega)
  simp only at ap bp
  have hpre : g <+: g ++ [z9, z1, z2, z3, z4, z5, zp] := List.prefix_append _ _
  have e44 := sx_get_pre hpre g44
  have e45 := sx_get_pre hpre g45
  have hlen : (g ++ [z9, z1, z2, z3, z4, z5, zp]).length = n + 7 := by rw [List.length_append, hgl]; rfl
  have rng := pf_rng (xs := xs) (sz := sz) 200 0 0 pf_z (Int.le_refl _) ⟨by decide, by decide⟩
  have sub : ∀ pers : Nat × Int, (∃ y, (g ++ [z9, z1, z2, z3, z4, z5, zp])[pers.1]? = some y ∧ zp = y + pers.2) → sx_w w0 (g ++ [z9, z1, z2, z3, z4, z5, zp]) (px_put v aw (((lh_u v).map (px_c (px_t v q n pers))).map px_uf)) w' := by
    intro pers hpers
    refine px_put_ok hpre hw w1 (px_uf_ok (px_w_ok (fun j z hj hz => ?_) (lh_u_ok v) w1))
    unfold px_t
    cases hk : pi_kp v j with
    | true =>
      simp only [cond_true]
      rcases ll_ok_i hj with h0 | h0
      · subst h0
        refine ⟨0, sx_get_pre hpre hn.2.1, ?_⟩
        rw [n1.2.1] at hz
        cases hz
        rfl
      · have h7 : Nat.ble 7 j = true := by rw [Nat.ble_eq]; exact h0.1
        rw [h7]
        simp only [cond_true]
        obtain ⟨b, y, y1, y2, y3⟩ := x5 j h0.1 h0.2
        rw [k1 j h0.2 hk, y3] at hz
        cases hz
        rw [List.getD_eq_getElem?_getD, y1]
        exact ⟨y, sx_get_pre hpre y2, rfl⟩
    | false =>
      simp only [cond_false]
      have hj44 : j < 44 := by rcases ll_ok_i hj with h0 | h0 <;> omega
      have hcase := px_k1 v j hj44 hk
      have h9 : ¬ (pi_ps v ≤ 10 ∧ 10 ≤ pi_ps v + 5) := by cases v <;> decide
      rcases hcase with rfl | ⟨c1, c2⟩
      · simp only [Nat.beq_refl, cond_true]
        rw [a9] at hz
        cases hz
        exact ⟨_, by rw [px_app0 hgl]; rfl, by omega⟩
      · have hb9 : Nat.beq j 10 = false := by
          cases hb : Nat.beq j 10 with
          | false => rfl
          | true => exact absurd ⟨by have := Nat.eq_of_beq_eq_true hb; omega, by have := Nat.eq_of_beq_eq_true hb; omega⟩ h9
        rw [hb9]
        simp only [cond_false]
        by_cases c0 : j = pi_ps v
        · subst c0
          simp only [Nat.beq_refl, cond_true]
          rw [ap] at hz
          cases hz
          exact hpers
        · have hbp : Nat.beq j (pi_ps v) = false := by
            cases hb : Nat.beq j (pi_ps v) with
            | false => rfl
            | true => exact absurd (Nat.eq_of_beq_eq_true hb) c0
          rw [hbp]
          simp only [cond_false]
          obtain ⟨d, rfl⟩ : ∃ d, j = pi_ps v + d := ⟨j - pi_ps v, by omega⟩
          rw [show pi_ps v + d - pi_ps v = d by omega, px_app hgl]
          have hd : d = 1 ∨ d = 2 ∨ d = 3 ∨ d = 4 ∨ d = 5 := by omega
          rcases hd with rfl | rfl | rfl | rfl | rfl
          · rw [a1] at hz; cases hz; exact ⟨_, rfl, by omega⟩
          · rw [a2] at hz; cases hz; exact ⟨_, rfl, by omega⟩
          · rw [a3] at hz; cases hz; exact ⟨_, rfl, by omega⟩
          · rw [a4] at hz; cases hz; exact ⟨_, rfl, by omega⟩
          · rw [a5] at hz; cases hz; exact ⟨_, rfl, by omega⟩
  have nw : ∀ lo hi : Int, lo ≤ z2 → z2 ≤ hi → ∀ e ∈ px_n n lo hi, ∃ z, (g ++ [z9, z1, z2, z3, z4, z5, zp])[e.1]? = some z ∧ e.2.1 ≤ z ∧ z ≤ e.2.2 := by
    intro lo hi hlo hhi e he
    simp only [px_n, List.mem_cons, List.not_mem_nil, or_false] at he
    rcases he with rfl | rfl | rfl | rfl | rfl | rfl | rfl
    · exact ⟨z9, by rw [px_app0 hgl]; rfl, b9⟩
    · exact ⟨z1, by rw [px_app hgl]; rfl, b1⟩
    · exact ⟨z2, by rw [px_app hgl]; rfl, hlo, hhi⟩
    · exact ⟨z3, by rw [px_app hgl]; rfl, b3⟩
    · exact ⟨z4, by rw [px_app hgl]; rfl, b4⟩
    · exact ⟨z5, by rw [px_app hgl]; rfl, b5⟩
    · exact ⟨zp, by rw [px_app hgl]; rfl, bp⟩
  by_cases h4 : (pf xs sz 200 0 0 pf_z).1 = -4
  · obtain ⟨p2, ⟨zb, p3, p4⟩, zs, y1, y2⟩ := p1 h4
    rw [ap] at p2
    rw [hv.2.2, a2] at p3
    cases p3
    have ezp : zp = (pf xs sz 200 0 0 pf_z).2.1 := Option.some.inj p2
    obtain ⟨pn, hpn⟩ : ∃ pn : Nat, (pf xs sz 200 0 0 pf_z).2.1 = (pn : Int) := ⟨(pf xs sz 200 0 0 pf_z).2.1.toNat, by omega⟩
    have hsub := sub (0, (pn : Int)) ⟨0, sx_get_pre hpre hn.2.1, by simp only; omega⟩
    obtain ⟨cc, hcc, hrc⟩ := sx_w_get w1 (pi_c9 v).1
    rw [y1] at hcc
    cases hcc
    have hl5 : zs.length = 5 := hrc.2.1
    have hset : sx_w w0 (g ++ [z9, z1, z2, z3, z4, z5, zp]) ((px_put v aw (((lh_u v).map (px_c (px_t v q n (0, (pn : Int))))).map px_uf)).set (pi_kc v) (.inl (0, 5, false, px_ks 0 pn))) w' := by
      refine sx_w_setA hsub y1 ⟨rfl, hl5, (fun q => by cases q), (fun q => by cases q), fun s hs => ?_⟩
      obtain ⟨j, hj, rfl⟩ := List.mem_map.mp hs
      have hj := List.mem_range.mp hj
      refine ⟨zs[0 + j], by rw [List.getElem?_eq_getElem], pz_s_ok (sx_get_pre hpre (gK j (by omega))) ?_⟩
      rw [← y2 j (by omega), List.getD_eq_getElem?_getD, List.getElem?_eq_getElem (show 0 + j < zs.length by omega)]
      rfl
    rw [h4] at g44 e44 hx
    rw [hpn] at g45 e45
    refine ⟨_, px_selA hn g44 (p := pn) (by omega) g45 _ _, _, hpre, ?_, pz_s_ok e44 hx, hset⟩
    have := px_env hpre hn hlen (l := (44, (-4), (-4)) :: (45, (pn : Int), (pn : Int)) :: px_n n 0 9) (fun e he => by
      rcases List.mem_cons.mp he with rfl | he
      · exact ⟨_, e44, by simp only; omega, by simp only; omega⟩
      · rcases List.mem_cons.mp he with rfl | he
        · exact ⟨_, e45, by simp only; omega, by simp only; omega⟩
        · exact nw 0 9 p4.1 p4.2 e he)
    exact this
  · have hsz := hT.2.2.2.1
    refine ⟨_, px_selB hn g44 (by omega) _ _, _, hpre, ?_, pz_s_ok e44 hx, sub _ ⟨zp, by rw [px_app hgl]; rfl, by simp only; omega⟩⟩
    have := px_env hpre hn hlen (l := (44, 0, 199) :: px_n n (-2147483648) 2147483647) (fun e he => by
      rcases List.mem_cons.mp he with rfl | he
      · exact ⟨_, e44, by simp only; omega, by simp only; omega⟩
      · exact nw _ _ b2.1 b2.2 e he)
    exact this
set_option maxHeartbeats 4000000 in
theorem px_140 (v : Bool) (hr : ∀ p : Int, 0 ≤ p ∧ p ≤ 5 → pj_r v p = true) {q : List (Nat × Int)} (hG : px_G w0 xs ys sz g) (hn : sx_n g n env) (hw : sx_w w0 g aw w) (h : px_ok v env aw q = true) : pm_GoodM sc mm_140 [.ref 42] w (fun r w' => ∃ o ∈ px_o140 v n env aw q, ∃ g', g <+: g' ∧ sx_mo w0 g' o r w') := by
  obtain ⟨g1, g2, hT, g8, g44, g45, gK⟩ := hG
  have hgl : g.length = n := hn.1
  have h46 : 46 ≤ n := by rw [← hgl]; exact (List.getElem?_eq_some_iff.mp g45).1
  obtain ⟨gX, x1, x2, x3, x4, x5⟩ := px_gx hn h46 hw h
  refine pm_mono (fun r w' hP => ?_) (pd_all v hr (pz_fl_ok hw (px_okf h).1 g1) (pz_fl_ok hw (px_okf h).2 g2) hT x1 x3 (by rw [x4]; exact g8) x2)
  obtain ⟨g', n1, w1, k1, ⟨x, rfl, hx⟩, p1⟩ := hP
  obtain ⟨z9, a9, b9⟩ := px_rg n1 (j := 41) (by omega) (by omega)
  obtain ⟨zp, ap, bp⟩ := n1.2.2 (43, 0, 5) (px_5 v).2
  simp only at ap bp
  have hpre : g <+: g ++ [z9, zp] := List.prefix_append _ _
  have e44 := sx_get_pre hpre g44
  have e45 := sx_get_pre hpre g45
  have hlen : (g ++ [z9, zp]).length = n + 2 := by rw [List.length_append, hgl]; rfl
  have rng := pf_rng (xs := xs) (sz := sz) 200 0 0 pf_z (Int.le_refl _) ⟨by decide, by decide⟩
  have sub : ∀ pers : Nat × Int, (∃ y, (g ++ [z9, zp])[pers.1]? = some y ∧ zp = y + pers.2) → sx_w w0 (g ++ [z9, zp]) (px_put v aw (((lh_u v).map (px_c (px_u q n pers))).map px_uf)) w' := by
    intro pers hpers
    refine px_put_ok hpre hw w1 (px_uf_ok (px_w_ok (fun j z hj hz => ?_) (lh_u_ok v) w1))
    unfold px_u
    cases hk : pj_kp j with
    | true =>
      simp only [cond_true]
      rcases ll_ok_i hj with h0 | h0
      · subst h0
        refine ⟨0, sx_get_pre hpre hn.2.1, ?_⟩
        rw [n1.2.1] at hz
        cases hz
        rfl
      · have h7 : Nat.ble 7 j = true := by rw [Nat.ble_eq]; exact h0.1
        rw [h7]
        simp only [cond_true]
        obtain ⟨b, y, y1, y2, y3⟩ := x5 j h0.1 h0.2
        rw [k1 j h0.2 hk, y3] at hz
        cases hz
        rw [List.getD_eq_getElem?_getD, y1]
        exact ⟨y, sx_get_pre hpre y2, rfl⟩
    | false =>
      simp only [cond_false]
      have hj44 : j < 44 := by rcases ll_ok_i hj with h0 | h0 <;> omega
      have hcase := px_k2 j hj44 hk
      rcases hcase with rfl | rfl
      · simp only [Nat.beq_refl, cond_true]
        rw [a9] at hz
        cases hz
        exact ⟨_, by rw [px_app0 hgl]; rfl, by omega⟩
      · rw [ap] at hz
        cases hz
        exact hpers
  have nw : ∀ e ∈ [(n, (-2147483648 : Int), (2147483647 : Int)), (n + 1, 0, 5)], ∃ z, (g ++ [z9, zp])[e.1]? = some z ∧ e.2.1 ≤ z ∧ z ≤ e.2.2 := by
    intro e he
    simp only [List.mem_cons, List.not_mem_nil, or_false] at he
    rcases he with rfl | rfl
    · exact ⟨z9, by rw [px_app0 hgl]; rfl, b9⟩
    · exact ⟨zp, by rw [px_app hgl]; rfl, bp⟩
  by_cases h4 : (pf xs sz 200 0 0 pf_z).1 = -4
  · obtain ⟨p2, zs, y1, y2⟩ := p1 h4
    rw [ap] at p2
    have ezp : zp = (pf xs sz 200 0 0 pf_z).2.1 := Option.some.inj p2
    obtain ⟨pn, hpn⟩ : ∃ pn : Nat, (pf xs sz 200 0 0 pf_z).2.1 = (pn : Int) := ⟨(pf xs sz 200 0 0 pf_z).2.1.toNat, by omega⟩
    have hsub := sub (0, (pn : Int)) ⟨0, sx_get_pre hpre hn.2.1, by simp only; omega⟩
    obtain ⟨cc, hcc, hrc⟩ := sx_w_get w1 (pj_c9 v)
    rw [y1] at hcc
    cases hcc
    have hl5 : zs.length = 50 := hrc.2.1
    have hset : sx_w w0 (g ++ [z9, zp]) ((px_put v aw (((lh_u v).map (px_c (px_u q n (0, (pn : Int))))).map px_uf)).set 45 (.inl (0, 50, false, (0, .inl (0, (pn : Int))) :: px_ks 5 pn))) w' := by
      refine sx_w_setA hsub y1 ⟨rfl, hl5, (fun q => by cases q), (fun q => by cases q), fun s hs => ?_⟩
      rcases List.mem_cons.mp hs with rfl | hs
      · obtain ⟨x9, x1, x2⟩ := hrc.2.2.2.2 _ List.mem_cons_self
        refine ⟨x9, x1, ?_⟩
        obtain ⟨zz, yy, u1, u2, u3⟩ := x2
        simp only at u1 u3
        rw [ap] at u1
        cases u1
        exact ⟨0, yy, sx_get_pre hpre hn.2.1, u2, by simp only; omega⟩
      · obtain ⟨j, hj, rfl⟩ := List.mem_map.mp hs
        have hj := List.mem_range.mp hj
        refine ⟨zs[5 + j], by rw [List.getElem?_eq_getElem], pz_s_ok (sx_get_pre hpre (gK j (by omega))) ?_⟩
        rw [← y2 j (by omega), List.getD_eq_getElem?_getD, List.getElem?_eq_getElem (show 5 + j < zs.length by omega)]
        rfl
    rw [h4] at g44 e44 hx
    rw [hpn] at g45 e45
    refine ⟨_, px_selA hn g44 (p := pn) (by omega) g45 _ _, _, hpre, ?_, pz_s_ok e44 hx, hset⟩
    have := px_env hpre hn hlen (l := (44, (-4), (-4)) :: (45, (pn : Int), (pn : Int)) :: [(n, (-2147483648), 2147483647), (n + 1, 0, 5)]) (fun e he => by
      rcases List.mem_cons.mp he with rfl | he
      · exact ⟨_, e44, by simp only; omega, by simp only; omega⟩
      · rcases List.mem_cons.mp he with rfl | he
        · exact ⟨_, e45, by simp only; omega, by simp only; omega⟩
        · exact nw e he)
    exact this
  · have hsz := hT.2.2.2.1
    refine ⟨_, px_selB hn g44 (by omega) _ _, _, hpre, ?_, pz_s_ok e44 hx, sub _ ⟨zp, by rw [px_app hgl]; rfl, by simp only; omega⟩⟩
    have := px_env hpre hn hlen (l := (44, 0, 199) :: [(n, (-2147483648), 2147483647), (n + 1, 0, 5)]) (fun e he => by
      rcases List.mem_cons.mp he with rfl | he
      · exact ⟨_, e44, by simp only; omega, by simp only; omega⟩
      · exact nw e he)
    exact this
theorem px_O_ok (hr : ∀ (v : Bool) (p : Int), 0 ≤ p ∧ p ≤ 5 → pi_r v p = true) (hr2 : ∀ (v : Bool) (p : Int), 0 ≤ p ∧ p ≤ 5 → pj_r v p = true) : sx_orB sc (px_G w0 xs ys sz) w0 px_O := by
  intro j y n env as aw outs g As w h hy hG hn hA hw
  have hG := px_G_pre hG
  unfold px_O at h
  cases h32 : Nat.beq j 32 with
  | true =>
    rw [h32] at h
    have e := Nat.eq_of_beq_eq_true h32
    subst e
    have e2 : pm_mt 32 = some (mm_32, 1, 0, mk_32) := rfl
    rw [e2] at hy
    cases hy
    simp only [cond_true] at h
    unfold px_a32 at h
    split at h
    · rename_i r d q q2 _ _
      obtain ⟨v1, m, rfl, r1, hA⟩ := sx_f2_cons hA
      obtain ⟨v2, m, rfl, r2, hA⟩ := sx_f2_cons hA
      cases m with
      | cons _ _ => cases hA
      | nil =>
        split at h
        · rename_i hc
          obtain ⟨c1, c2, c3⟩ := hc
          cases h
          subst c1 c2
          have r1 : v1 = .ref 1 := r1
          have r2 : v2 = .ref (pi_dq false) := r2
          subst r1 r2
          exact px_32 false (hr false) hG hn hw c3
        · split at h
          · rename_i hc
            obtain ⟨c1, c2, c3⟩ := hc
            cases h
            subst c1 c2
            have r1 : v1 = .ref 1 := r1
            have r2 : v2 = .ref (pi_dq true) := r2
            subst r1 r2
            exact px_32 true (hr true) hG hn hw c3
          · cases h
    · cases h
  | false =>
    rw [h32] at h
    simp only [cond_false] at h
    cases h140 : Nat.beq j 140 with
    | true =>
      rw [h140] at h
      have e := Nat.eq_of_beq_eq_true h140
      subst e
      have e2 : pm_mt 140 = some (mm_140, 0, 0, mk_140) := rfl
      rw [e2] at hy
      cases hy
      simp only [cond_true] at h
      unfold px_a140 at h
      split at h
      · rename_i r q q2 _ _
        obtain ⟨v1, m, rfl, r1, hA⟩ := sx_f2_cons hA
        cases m with
        | cons _ _ => cases hA
        | nil =>
          split at h
          · rename_i hc
            obtain ⟨c1, c3⟩ := hc
            cases h
            subst c1
            have r1 : v1 = .ref 42 := r1
            subst r1
            exact px_140 false (hr2 false) hG hn hw c3
          · split at h
            · rename_i hc
              obtain ⟨c1, c3⟩ := hc
              cases h
              subst c1
              have r1 : v1 = .ref 42 := r1
              subst r1
              exact px_140 true (hr2 true) hG hn hw c3
            · cases h
      · cases h
    | false =>
      rw [h140] at h
      cases h
end OX
