/-! what the letters and the numbers are, by signs: 44 is the place, 45 .. 60 the letters from there on, 62 .. 74 how many figures, 75 .. 87 the numbers -/
def pz_e (xs : List Int32) (sz k : Int) : Int := if 0 ≤ k ∧ k < sz then (xs.getD k.toNat 0).toInt else 0
def pz_T (xs ys : List Int32) (sz : Int) : Prop := xs.length = 200 ∧ ys.length = 200 ∧ 0 ≤ sz ∧ sz ≤ 200 ∧ sx_ch xs ∧ ∀ k : Nat, (k : Int) < sz → ys.getD k 0 = xs.getD k 0 ∧ 32 ≤ (xs.getD k 0).toInt ∧ (xs.getD k 0).toInt ≤ 126
def pz_f (xs : List Int32) (sz i : Int) : Nat → Int := fun o => pz_e xs sz (i + o)
def pz_G (w0 : pm_W) (xs ys : List Int32) (sz i : Int) (g : List Int) : Prop := w0[2]? = some (.inl (1, xs)) ∧ w0[43]? = some (.inl (0, ys)) ∧ pz_T xs ys sz ∧ (0 ≤ i ∧ i ≤ 200) ∧ g[7]? = some sz ∧ g[44]? = some i ∧ pz_L (pz_f xs sz i) g
theorem pz_L_pre {e : Nat → Int} {g g' : List Int} (h : g <+: g') (hL : pz_L e g) : pz_L e g' := ⟨fun o ho => sx_get_pre h (hL.1 o ho), fun o h1 h2 => ⟨sx_get_pre h (hL.2 o h1 h2).1, sx_get_pre h (hL.2 o h1 h2).2⟩⟩
theorem pz_G_pre {w0 : pm_W} {xs ys : List Int32} {sz i : Int} {g : List Int} (h : ∃ g0, g0 <+: g ∧ pz_G w0 xs ys sz i g0) : pz_G w0 xs ys sz i g := by
  obtain ⟨g0, h1, a, b, c, d, e, f, k⟩ := h
  exact ⟨a, b, c, d, sx_get_pre h1 e, sx_get_pre h1 f, pz_L_pre h1 k⟩
theorem pz_cl (k : Int32) : k.toNatClampNeg = k.toInt.toNat := rfl
theorem pl_E_e (xs : List Int32) (s k : Int32) : (pl_E xs s k).toInt = pz_e xs s.toInt k.toInt := by
  unfold pl_E pz_e
  by_cases h : 0 ≤ k.toInt ∧ k.toInt < s.toInt
  · rw [if_pos h, if_pos h, pz_cl]
  · rw [if_neg h, if_neg h]
    rfl
theorem pz_e_rng {xs ys : List Int32} {sz : Int} (hT : pz_T xs ys sz) (k : Int) : 0 ≤ pz_e xs sz k ∧ pz_e xs sz k ≤ 126 := by
  unfold pz_e
  by_cases h : 0 ≤ k ∧ k < sz
  · rw [if_pos h]
    have := hT.2.2.2.2.2 k.toNat (by omega)
    omega
  · rw [if_neg h]
    omega
/-- the reference's letter -/
theorem pl_F_e {xs ys : List Int32} {s k : Int32} (hT : pz_T xs ys s.toInt) (hk : 0 ≤ k.toInt) : (pl_F ys s k).toInt = (if k.toInt < s.toInt then pz_e xs s.toInt k.toInt else -1) := by
  unfold pl_F pz_e
  by_cases h : k.toInt < s.toInt
  · rw [if_pos h, if_pos h, if_pos ⟨hk, h⟩, pz_cl, (hT.2.2.2.2.2 k.toInt.toNat (by omega)).1]
  · rw [if_neg h, if_neg h]
    rfl
theorem pl_F_fig {xs ys : List Int32} {s k : Int32} (hT : pz_T xs ys s.toInt) (hk : 0 ≤ k.toInt) : pl_fig (pl_F ys s k) ↔ (48 ≤ pz_e xs s.toInt k.toInt ∧ pz_e xs s.toInt k.toInt ≤ 57) := by
  unfold pl_fig
  rw [pl_F_e hT hk]
  by_cases h : k.toInt < s.toInt
  · rw [if_pos h]
  · rw [if_neg h]
    unfold pz_e
    rw [if_neg (by omega)]
    omega
theorem pl_F_val {xs ys : List Int32} {s k : Int32} (hT : pz_T xs ys s.toInt) (hk : 0 ≤ k.toInt) (hf : pl_fig (pl_F ys s k)) : (pl_F ys s k).toInt = pz_e xs s.toInt k.toInt := by
  have h := pl_F_e hT hk
  unfold pl_fig at hf
  by_cases h1 : k.toInt < s.toInt
  · rw [if_pos h1] at h
    exact h
  · rw [if_neg h1] at h
    omega
theorem pl_F_en {xs ys : List Int32} {s k en : Int32} (hT : pz_T xs ys s.toInt) (hk : 0 ≤ k.toInt) (he : 1 ≤ en.toInt) : pl_F ys s k = en ↔ pz_e xs s.toInt k.toInt = en.toInt := by
  rw [← Int32.toInt_inj, pl_F_e hT hk]
  by_cases h : k.toInt < s.toInt
  · rw [if_pos h]
  · rw [if_neg h]
    unfold pz_e
    rw [if_neg (by omega)]
    omega
def pz_txt (d : Int) : sx_C := .inr (5, [.inr (.ref 2), .inr (.ref 3), .inl (7, 0), .inl (44, d)])
def pz_mob (d : Int) : sx_C := .inr (8, [.inr (.ref 43), .inl (7, 0), .inr (.ref 44), .inr (.ref 45), .inr (.ref 46), .inr (.ref 47), .inr (.ref 48), .inl (38, 0), .inr (.ref 49), .inl (39, 0), .inr (.ref 50), .inl (40, 0), .inl (44, d), .inr (.ref 51)])
def pz_nx (aw : List sx_C) : Option Int := match (aw[1]? : Option sx_C) with
  | some (.inr (_, [_, _, _, .inl a])) => some a.2
  | _ => none
def pz_at (aw : List sx_C) : Option Int := match (aw[42]? : Option sx_C) with
  | some (.inr (_, [_, _, _, _, _, _, _, _, _, _, _, _, .inl a, _])) => some a.2
  | _ => none
def pz_fl (aw : List sx_C) (q k : Nat) : Bool := match (aw[q]? : Option sx_C) with
  | some (.inl c) => decide (c.1 = k ∧ c.2.1 = 200 ∧ c.2.2.1 = true)
  | _ => false
def pz_is (aw : List sx_C) (q : Nat) (c : sx_C) : Bool := match (aw[q]? : Option sx_C), c with
  | some (.inr x), .inr y => decide (x.1 = y.1) && decide (x.2 = y.2)
  | _, _ => false
theorem pz_is_ok {aw : List sx_C} {q : Nat} {c : sx_C} (h : pz_is aw q c = true) : aw[q]? = some c := by
  unfold pz_is at h
  split at h
  · rename_i x y hx
    simp only [Bool.and_eq_true, decide_eq_true_eq] at h
    rw [hx]
    obtain ⟨x1, x2⟩ := x
    obtain ⟨y1, y2⟩ := y
    simp only at h
    rw [h.1, h.2]
  · cases h
def pz_o17 (n : Nat) (env : sx_N) (as : List sx_V) (aw : List sx_C) : Option (List sx_O) := match as, pz_nx aw with
  | [r, .inl a], some d => if r = .inr (.ref 1) ∧ pz_is aw 1 (pz_txt d) = true ∧ pz_fl aw 2 1 = true ∧ a.1 = 44 ∧ 0 ≤ a.2 ∧ a.2 ≤ 15 then some [(n, env, some (.inl (45 + a.2.toNat, 0)), aw)] else none
  | _, _ => none
def pz_r20 (n : Nat) (env : sx_N) (aw : List sx_C) (k o : Nat) (sp : List (Nat × sx_V)) : List sx_O :=
  [(n, (61 + o, 0, 0) :: env, some (.inl (0, 0)), aw),
   (n, (61 + o, 1, 1) :: (74 + o, 0, 9) :: env, some (.inl (0, 1)), (aw.set 1 (pz_txt (o + 1))).set 3 (.inl (0, 5, false, (k, .inl (74 + o, 0)) :: sp.filter (fun q => !Nat.beq q.1 k)))),
   (n, (61 + o, 2, 2) :: (74 + o, 0, 99) :: env, some (.inl (0, 1)), (aw.set 1 (pz_txt (o + 2))).set 3 (.inl (0, 5, false, (k, .inl (74 + o, 0)) :: sp.filter (fun q => !Nat.beq q.1 k))))]
def pz_o20 (n : Nat) (env : sx_N) (as : List sx_V) (aw : List sx_C) : Option (List sx_O) := match as, pz_nx aw, (aw[3]? : Option sx_C) with
  | [r, .inl k], some d, some (.inl c) => if r = .inr (.ref 1) ∧ pz_is aw 1 (pz_txt d) = true ∧ pz_fl aw 2 1 = true ∧ c.1 = 0 ∧ c.2.1 = 5 ∧ k.1 = 0 ∧ 0 ≤ k.2 ∧ k.2 < 5 ∧ 1 ≤ d ∧ d ≤ 13 then some (pz_r20 n env aw k.2.toNat d.toNat c.2.2.2) else none
  | _, _, _ => none
def pz_r136 (n : Nat) (env : sx_N) (aw : List sx_C) (l h c : Int) (o dd : Nat) (m : Int) : List sx_O :=
  ([(n, (61 + o, (dd : Int), (dd : Int)) :: (45 + (o + dd), c, c) :: (74 + o, l, sx_mn h m) :: env, some (.inl (74 + o, 0)), aw.set 42 (pz_mob (o + dd + 1))),
   (n, (61 + o, (dd : Int), (dd : Int)) :: (45 + (o + dd), 0, c - 1) :: env, some (.inl (0, -1)), aw.set 42 (pz_mob (o + dd + 1))),
   (n, (61 + o, (dd : Int), (dd : Int)) :: (45 + (o + dd), c + 1, 126) :: env, some (.inl (0, -1)), aw.set 42 (pz_mob (o + dd + 1)))] : List sx_O) ++
  ((if 0 < l then [(n, (61 + o, (dd : Int), (dd : Int)) :: (74 + o, 0, l - 1) :: env, some (.inl (0, -1)), aw.set 42 (pz_mob (o + dd + 1)))] else [] : List sx_O) ++
  (if h < m then [(n, (61 + o, (dd : Int), (dd : Int)) :: (74 + o, sx_mx 0 (h + 1), m) :: env, some (.inl (0, -1)), aw.set 42 (pz_mob (o + dd + 1)))] else [] : List sx_O))
def pz_o136 (n : Nat) (env : sx_N) (as : List sx_V) (aw : List sx_C) : Option (List sx_O) := match as, pz_at aw with
  | [r, .inl l, .inl h, .inl c], some d => if r = .inr (.ref 42) ∧ pz_is aw 42 (pz_mob d) = true ∧ pz_fl aw 43 0 = true ∧ l.1 = 0 ∧ h.1 = 0 ∧ c.1 = 0 ∧ 0 ≤ l.2 ∧ 1 ≤ c.2 ∧ 1 ≤ d ∧ d ≤ 13 then some ((n, (61 + d.toNat, 0, 0) :: env, some (.inl (0, -1)), aw) :: (pz_r136 n env aw l.2 h.2 c.2 d.toNat 1 9 ++ pz_r136 n env aw l.2 h.2 c.2 d.toNat 2 99)) else none
  | _, _ => none
def pz_O : sx_OB := fun j n env as aw => bif Nat.beq j 17 then pz_o17 n env as aw else bif Nat.beq j 20 then pz_o20 n env as aw else bif Nat.beq j 136 then pz_o136 n env as aw else none
theorem pz_fl_ok {w0 : pm_W} {g : List Int} {aw : List sx_C} {w : pm_W} (hw : sx_w w0 g aw w) {q k : Nat} (h : pz_fl aw q k = true) {xs : List Int32} (h0 : w0[q]? = some (.inl (k, xs))) : w[q]? = some (.inl (k, xs)) := by
  unfold pz_fl at h
  split at h
  · rename_i c hc
    obtain ⟨e1, e2, e3⟩ := of_decide_eq_true h
    obtain ⟨c', hc', hr⟩ := sx_w_get hw hc
    obtain ⟨ys, rfl, -, h3, -⟩ := sx_rc_a hr
    have h4 := h3 e3
    rw [h0] at h4
    rw [hc', ← h4]
  · cases h
theorem pz_txt_ok {w0 : pm_W} {g : List Int} {aw : List sx_C} {w : pm_W} (hw : sx_w w0 g aw w) {d sz i : Int} (h : aw[1]? = some (pz_txt d)) (h8 : g[7]? = some sz) (h44 : g[44]? = some i) : ∃ s nx : Int32, w[1]? = some (.inr (5, [.ref 2, .ref 3, .int s, .int nx])) ∧ s.toInt = sz ∧ nx.toInt = i + d := by
  obtain ⟨c, hc, hr⟩ := sx_w_get hw h
  obtain ⟨fs, rfl, hf⟩ := sx_rc_o hr
  obtain ⟨v1, m, rfl, r1, hf⟩ := sx_f2_cons hf
  obtain ⟨v2, m, rfl, r2, hf⟩ := sx_f2_cons hf
  obtain ⟨v3, m, rfl, r3, hf⟩ := sx_f2_cons hf
  obtain ⟨v4, m, rfl, r4, hf⟩ := sx_f2_cons hf
  cases m with
  | cons _ _ => cases hf
  | nil =>
    have r1 : v1 = .ref 2 := r1
    have r2 : v2 = .ref 3 := r2
    obtain ⟨z3, s, a1, a2, a3⟩ := r3
    obtain ⟨z4, nx, b1, b2, b3⟩ := r4
    simp only at a1 a3 b1 b3
    rw [h8] at a1
    rw [h44] at b1
    cases a1
    cases b1
    subst r1 r2 a2 b2
    exact ⟨s, nx, hc, by omega, b3⟩
theorem pz_r_ok {g : List Int} {n : Nat} {env : sx_N} (hn : sx_n g n env) {c : Int} {x : Int32} (h : x.toInt = c) : sx_r g (.inl (0, c)) (.int x) := ⟨0, x, hn.2.1, rfl, by omega⟩
theorem pz_s_ok {g : List Int} {k : Nat} {z : Int} (hg : g[k]? = some z) {x : Int32} (h : x.toInt = z) : sx_r g (.inl (k, 0)) (.int x) := ⟨z, x, hg, rfl, by omega⟩
theorem pz_n_ok {g : List Int} {n : Nat} {env : sx_N} (hn : sx_n g n env) {q : Nat × Int × Int} {z : Int} (hg : g[q.1]? = some z) (h : q.2.1 ≤ z ∧ z ≤ q.2.2) : sx_n g n (q :: env) := ⟨hn.1, hn.2.1, fun p hp => by
  rcases List.mem_cons.mp hp with rfl | hp
  · exact ⟨z, hg, h⟩
  · exact hn.2.2 p hp⟩
section PZ
variable {sc : pm_Z} {w0 : pm_W} {xs ys : List Int32} {sz i : Int}
theorem pz_17 {n : Nat} {env : sx_N} {as : List sx_V} {aw : List sx_C} {outs : List sx_O} {g : List Int} {As : List Value} {w : pm_W} (h : pz_o17 n env as aw = some outs) (hG : pz_G w0 xs ys sz i g) (hn : sx_n g n env) (hA : sx_f2 (sx_r g) as As) (hw : sx_w w0 g aw w) : pm_GoodM sc mm_17 As w (fun r w' => ∃ o ∈ outs, ∃ g', g <+: g' ∧ sx_mo w0 g' o r w') := by
  obtain ⟨g1, g2, hT, hi, g8, g44, hL⟩ := hG
  unfold pz_o17 at h
  split at h
  · rename_i r a d _
    split at h
    · rename_i hc
      obtain ⟨c1, c2, c3, c4, c5, c6⟩ := hc
      cases h
      obtain ⟨v1, m, rfl, r1, hA⟩ := sx_f2_cons hA
      obtain ⟨v2, m, rfl, r2, hA⟩ := sx_f2_cons hA
      cases m with
      | cons _ _ => cases hA
      | nil =>
        subst c1
        have r1 : v1 = .ref 1 := r1
        subst r1
        obtain ⟨z, k, k1, rfl, k3⟩ := r2
        rw [c4, g44] at k1
        cases k1
        obtain ⟨s, nx, t1, t2, t3⟩ := pz_txt_ok hw (pz_is_ok c2) g8 g44
        have hw2 := pz_fl_ok hw c3 g1
        refine pl_17 t1 hw2 hT.1 hT.2.2.2.2.1 (by have := hT.2.2.2.1; omega) ⟨_, List.mem_cons_self, g, List.prefix_rfl, hn, ?_, hw⟩
        refine pz_s_ok (hL.1 a.2.toNat (by omega)) ?_
        rw [pl_E_e, t2, k3]
        unfold pz_f
        congr 1
        omega
    · cases h
  · cases h
end PZ
