/-! what a loop or a call may change: the state made general, and a state found to be one of a general one -/
abbrev sx_Op : Type := Nat × Nat × List Nat × Nat × Int × Int
abbrev sx_Pl : Type := Nat × Nat × Nat
abbrev sx_Gs : Type := Nat × sx_N × sx_L × List sx_C × List sx_Pl
def sx_wk (aw : List sx_C) : List Nat → sx_V → Option Nat
  | [], .inr (.ref q) => some q
  | f :: p, .inr (.ref q) => (match aw[q]? with
    | some (.inr o) => (match o.2[f]? with
      | some u => sx_wk aw p u
      | none => none)
    | _ => none)
  | _, _ => none
def sx_stl (x : Nat) (v : sx_V) : sx_L → sx_L
  | [] => []
  | q :: l => bif Nat.beq q.1 x then (q.1, v) :: l else q :: sx_stl x v l
def sx_ob (al : sx_L) (aw : List sx_C) (x : Nat) (p : List Nat) : Option Nat := match sx_lkl x al with
  | some v => sx_wk aw p v
  | none => none
/-- one place more that may be anything within bounds (0: a local, 1: a field, 3: a place of an array), or an array that may hold anything (2) -/
def sx_g1 (env : sx_N) (op : sx_Op) (s : sx_Gs) : Option sx_Gs := match op with
  | (0, x, _, _, lo, hi) => (match sx_lkl x s.2.2.1 with
    | some (.inl a) => if sx_fits env a lo hi = true then some (s.1 + 1, (s.1, lo, hi) :: s.2.1, sx_stl x (.inl (s.1, 0)) s.2.2.1, s.2.2.2.1, s.2.2.2.2 ++ [(0, x, 0)]) else none
    | _ => none)
  | (1, x, p, f, lo, hi) => (match sx_ob s.2.2.1 s.2.2.2.1 x p with
    | some q => (match s.2.2.2.1[q]? with
      | some (.inr o) => (match o.2[f]? with
        | some (.inl a) => if sx_fits env a lo hi = true then some (s.1 + 1, (s.1, lo, hi) :: s.2.1, s.2.2.1, s.2.2.2.1.set q (.inr (o.1, o.2.set f (.inl (s.1, 0)))), s.2.2.2.2 ++ [(1, q, f)]) else none
        | _ => none)
      | _ => none)
    | none => none)
  | (2, x, p, f, _, _) => (match sx_ob s.2.2.1 s.2.2.2.1 x p with
    | some q => (match s.2.2.2.1[q]? with
      | some (.inl c) => some (s.1, s.2.1, s.2.2.1, s.2.2.2.1.set q (.inl (c.1, c.2.1, false, c.2.2.2.filter (fun t => Nat.blt t.1 f))), s.2.2.2.2)
      | _ => none)
    | none => none)
  | (_, x, p, f, lo, hi) => (match sx_ob s.2.2.1 s.2.2.2.1 x p with
    | some q => (match s.2.2.2.1[q]? with
      | some (.inl c) => (match sx_lkl f c.2.2.2 with
        | some (.inl a) => if sx_fits env a lo hi = true then some (s.1 + 1, (s.1, lo, hi) :: s.2.1, s.2.2.1, s.2.2.2.1.set q (.inl (c.1, c.2.1, c.2.2.1, sx_stl f (.inl (s.1, 0)) c.2.2.2)), s.2.2.2.2 ++ [(3, q, f)]) else none
        | _ => none)
      | _ => none)
    | none => none)
def sx_gl (env : sx_N) : List sx_Op → sx_Gs → Option sx_Gs
  | [], s => some s
  | op :: l, s => match sx_g1 env op s with
    | some s' => sx_gl env l s'
    | none => none
def sx_gm (w0 : pm_W) (g : List Int) (env : sx_N) (s : sx_Gs) (lv : pm_L) (w : pm_W) : Prop := sx_n g s.1 (s.2.1 ++ env) ∧ sx_l g s.2.2.1 lv ∧ sx_w w0 g s.2.2.2.1 w
theorem sx_n_sub {g : List Int} {n : Nat} {env env' : sx_N} (h : sx_n g n env) (hs : ∀ q ∈ env', q ∈ env) : sx_n g n env' := ⟨h.1, h.2.1, fun q hq => h.2.2 q (hs q hq)⟩
theorem sx_fits_ok {g : List Int} {n : Nat} {env : sx_N} {a : Nat × Int} {lo hi : Int} (h : sx_fits env a lo hi = true) (hn : sx_n g n env) {x : Int32} (hr : sx_r g (.inl a) (.int x)) : lo ≤ x.toInt ∧ x.toInt ≤ hi := by
  unfold sx_fits at h
  split at h
  · rename_i b hb
    have h := of_decide_eq_true h
    have := sx_iv_ok hn hb hr
    omega
  · cases h
theorem sx_new_r {g : List Int} {n : Nat} {env : sx_N} (hn : sx_n g n env) (x : Int32) : sx_r (g ++ [x.toInt]) (.inl (n, 0)) (.int x) := ⟨x.toInt, x, by rw [← hn.1]; simp, rfl, by simp⟩
theorem sx_stl_ok {g : List Int} {x : Nat} {a b : sx_V} {v : Value} (hb : sx_r g b v) : ∀ {al : sx_L} {lv : pm_L}, sx_l g al lv → sx_lkl x al = some a → pm_lk x lv = some v → sx_l g (sx_stl x b al) lv
  | [], _, _, h, _ => by cases h
  | q :: al, [], hl, _, _ => by cases hl
  | q :: al, c :: lv, hl, h, hv => by
    obtain ⟨⟨h1, h2⟩, h3⟩ := hl
    unfold sx_lkl at h
    unfold pm_lk at hv
    unfold sx_stl
    rw [← h1] at hv
    cases hq : Nat.beq q.1 x with
    | true =>
      rw [hq] at hv
      have e : c.2 = v := Option.some.inj hv
      simp only [cond_true]
      exact ⟨⟨h1, by rw [e]; exact hb⟩, h3⟩
    | false =>
      rw [hq] at h hv
      simp only [cond_false]
      exact ⟨⟨h1, h2⟩, sx_stl_ok hb h3 h hv⟩
theorem sx_stl_mem {x : Nat} {b : sx_V} : ∀ {l : sx_L} {s : Nat × sx_V}, s ∈ sx_stl x b l → s ∈ l ∨ s = (x, b)
  | [], s, h => by cases h
  | q :: l, s, h => by
    unfold sx_stl at h
    cases hq : Nat.beq q.1 x with
    | true =>
      rw [hq] at h
      simp only [cond_true] at h
      have e1 : q.1 = x := Nat.eq_of_beq_eq_true hq
      rcases List.mem_cons.mp h with rfl | h
      · rw [e1]; exact Or.inr rfl
      · exact Or.inl (List.mem_cons_of_mem _ h)
    | false =>
      rw [hq] at h
      simp only [cond_false] at h
      rcases List.mem_cons.mp h with rfl | h
      · exact Or.inl List.mem_cons_self
      · rcases sx_stl_mem h with h | h
        · exact Or.inl (List.mem_cons_of_mem _ h)
        · exact Or.inr h
theorem sx_lkl_mem {i : Nat} {a : sx_V} : ∀ {l : sx_L}, sx_lkl i l = some a → (i, a) ∈ l
  | [], h => by cases h
  | q :: l, h => by
    unfold sx_lkl at h
    cases hq : Nat.beq q.1 i with
    | true =>
      rw [hq] at h
      have e1 : q.1 = i := Nat.eq_of_beq_eq_true hq
      have e2 : q.2 = a := Option.some.inj h
      rw [← e1, ← e2]
      exact List.mem_cons_self
    | false =>
      rw [hq] at h
      exact List.mem_cons_of_mem _ (sx_lkl_mem h)
theorem sx_g1_ok {w0 : pm_W} {g : List Int} {env : sx_N} {op : sx_Op} {s s' : sx_Gs} {lv : pm_L} {w : pm_W} (h : sx_g1 env op s = some s') (hm : sx_gm w0 g env s lv w) : ∃ g', g <+: g' ∧ sx_gm w0 g' env s' lv w := by
  obtain ⟨hn, hl, hw⟩ := hm
  have hne : sx_n g s.1 env := sx_n_sub hn (fun q hq => List.mem_append_right _ hq)
  unfold sx_g1 at h
  split at h
  · split at h
    · rename_i a ha
      split at h
      · rename_i hf
        cases h
        obtain ⟨v, h1, h2⟩ := sx_lkl_ok hl ha
        obtain ⟨x, rfl⟩ := sx_int_ok h2
        have hb := sx_fits_ok hf hne h2
        have hp := List.prefix_append g [x.toInt]
        exact ⟨_, hp, sx_n_push hn hb.1 hb.2, sx_stl_ok (sx_new_r hn x) (sx_l_pre hp hl) ha h1, sx_w_pre hp hw⟩
      · cases h
    · cases h
  · rename_i x9 p9 f lo9 hi9
    split at h
    · split at h
      · rename_i o ho
        split at h
        · rename_i a ha
          split at h
          · rename_i hf
            cases h
            obtain ⟨c, hc, hrc⟩ := sx_w_get hw ho
            obtain ⟨fs, rfl, hff⟩ := sx_rc_o hrc
            obtain ⟨v, h1, h2⟩ := sx_f2_get hff ha
            obtain ⟨x, rfl⟩ := sx_int_ok h2
            have hb := sx_fits_ok hf hne h2
            have hp := List.prefix_append g [x.toInt]
            refine ⟨_, hp, sx_n_push hn hb.1 hb.2, sx_l_pre hp hl, ?_⟩
            refine sx_w_setA (sx_w_pre hp hw) hc ⟨rfl, ?_⟩
            have h9 := sx_f2_set (sx_st_pre hp hff) f (sx_new_r hn x)
            have e : fs.set f (.int x) = fs := by
              apply List.ext_getElem?
              intro k
              rw [List.getElem?_set]
              by_cases hk : f = k
              · subst hk
                rw [if_pos rfl, if_pos (List.getElem?_eq_some_iff.mp h1).1, h1]
              · rw [if_neg hk]
            rw [e] at h9
            exact h9
          · cases h
        · cases h
      · cases h
    · cases h
  · split at h
    · split at h
      · rename_i c hc0
        cases h
        obtain ⟨d, hd, hrc⟩ := sx_w_get hw hc0
        obtain ⟨xs, rfl, hxl, -, hch, hsp⟩ := sx_rc_a hrc
        refine ⟨g, List.prefix_rfl, hn, hl, ?_⟩
        exact sx_w_setA hw hd ⟨rfl, hxl, (fun z => by cases z), hch, fun t ht => hsp t (List.mem_filter.mp ht).1⟩
      · cases h
    · cases h
  · split at h
    · split at h
      · rename_i c hc0
        split at h
        · rename_i a ha
          split at h
          · rename_i hf
            cases h
            obtain ⟨d, hd, hrc⟩ := sx_w_get hw hc0
            obtain ⟨xs, rfl, hxl, hsm, hch, hsp⟩ := sx_rc_a hrc
            obtain ⟨x, h1, h2⟩ := hsp _ (sx_lkl_mem ha)
            have hb := sx_fits_ok hf hne h2
            have hp := List.prefix_append g [x.toInt]
            refine ⟨_, hp, sx_n_push hn hb.1 hb.2, sx_l_pre hp hl, ?_⟩
            refine sx_w_setA (sx_w_pre hp hw) hd ⟨rfl, hxl, hsm, hch, fun t ht => ?_⟩
            rcases sx_stl_mem ht with ht | rfl
            · obtain ⟨y, e1, e2⟩ := hsp t ht
              exact ⟨y, e1, sx_r_pre hp e2⟩
            · exact ⟨x, h1, sx_new_r hn x⟩
          · cases h
        · cases h
      · cases h
    · cases h
theorem sx_gl_ok {w0 : pm_W} {env : sx_N} {lv : pm_L} {w : pm_W} : ∀ {ops : List sx_Op} {s s' : sx_Gs} {g : List Int}, sx_gl env ops s = some s' → sx_gm w0 g env s lv w → ∃ g', g <+: g' ∧ sx_gm w0 g' env s' lv w
  | [], s, s', g, h, hm => by
    cases h
    exact ⟨g, List.prefix_rfl, hm⟩
  | op :: l, s, s', g, h, hm => by
    unfold sx_gl at h
    split at h
    · rename_i s1 h1
      obtain ⟨g1, p1, m1⟩ := sx_g1_ok h1 hm
      obtain ⟨g2, p2, m2⟩ := sx_gl_ok h m1
      exact ⟨g2, p1.trans p2, m2⟩
    · cases h
/-- what a state holds at the places -/
def sx_rd (al : sx_L) (aw : List sx_C) (p : sx_Pl) : Option (Nat × Int) := match p with
  | (0, x, _) => (match sx_lkl x al with
    | some (.inl a) => some a
    | _ => none)
  | (1, q, f) => (match aw[q]? with
    | some (.inr o) => (match o.2[f]? with
      | some (.inl a) => some a
      | _ => none)
    | _ => none)
  | (_, q, f) => (match aw[q]? with
    | some (.inl c) => (match sx_lkl f c.2.2.2 with
      | some (.inl a) => some a
      | _ => none)
    | _ => none)
def sx_rho (al : sx_L) (aw : List sx_C) : List sx_Pl → Option (List (Nat × Int))
  | [] => some []
  | p :: l => match sx_rd al aw p, sx_rho al aw l with
    | some a, some r => some (a :: r)
    | _, _ => none
/-- a general value, read with what stands at the places -/
def sx_sb (n0 : Nat) (r : List (Nat × Int)) : sx_V → Option sx_V
  | .inl a => bif Nat.blt a.1 n0 then some (.inl a) else match r[a.1 - n0]? with
    | some b => some (.inl (b.1, b.2 + a.2))
    | none => none
  | .inr u => some (.inr u)
def sx_fv (n0 : Nat) (r : List (Nat × Int)) (a b : sx_V) : Bool := decide (sx_sb n0 r a = some b)
def sx_fvs (n0 : Nat) (r : List (Nat × Int)) : List sx_V → List sx_V → Bool
  | [], [] => true
  | a :: l, b :: m => sx_fv n0 r a b && sx_fvs n0 r l m
  | _, _ => false
def sx_fsp (n0 : Nat) (r : List (Nat × Int)) (l m : sx_L) : Bool := l.all fun s => match sx_lkl s.1 m with
  | some v => sx_fv n0 r s.2 v
  | none => false
def sx_fc (n0 : Nat) (r : List (Nat × Int)) : sx_C → sx_C → Bool
  | .inl a, .inl c => Nat.beq a.1 c.1 && (Nat.beq a.2.1 c.2.1 && ((!a.2.2.1 || c.2.2.1) && sx_fsp n0 r a.2.2.2 c.2.2.2))
  | .inr a, .inr c => Nat.beq a.1 c.1 && sx_fvs n0 r a.2 c.2
  | _, _ => false
def sx_fw (n0 : Nat) (r : List (Nat × Int)) : List sx_C → List sx_C → Bool
  | [], [] => true
  | a :: l, b :: m => sx_fc n0 r a b && sx_fw n0 r l m
  | _, _ => false
def sx_fnw (n0 : Nat) (r : List (Nat × Int)) (env news : sx_N) : Bool := news.all fun q => if q.1 < n0 then (match sx_bd q.1 env with
    | some b => decide (q.2.1 ≤ b.1 ∧ b.2 ≤ q.2.2)
    | none => false) else (match r[q.1 - n0]? with
    | some b => sx_fits env b q.2.1 q.2.2
    | none => false)
/-- the numbers of the signs of a general state -/
def sx_gg (g : List Int) (n0 : Nat) (r : List (Nat × Int)) : List Int := g.take n0 ++ r.map (fun b => (g[b.1]?).getD 0 + b.2)
theorem sx_gg_lo {g : List Int} {n0 : Nat} {r : List (Nat × Int)} (hl : n0 ≤ g.length) {i : Nat} (hi : i < n0) : (sx_gg g n0 r)[i]? = g[i]? := by
  unfold sx_gg
  rw [List.getElem?_append_left (by simp; omega), List.getElem?_take_of_lt hi]
theorem sx_gg_hi {g : List Int} {n0 : Nat} {r : List (Nat × Int)} (hl : n0 ≤ g.length) {i : Nat} (hi : n0 ≤ i) {b : Nat × Int} (hb : r[i - n0]? = some b) : (sx_gg g n0 r)[i]? = some ((g[b.1]?).getD 0 + b.2) := by
  unfold sx_gg
  have hm : min n0 g.length = n0 := Nat.min_eq_left hl
  rw [List.getElem?_append_right (by simp; omega)]
  simp [hm, hb]
theorem sx_fv_ok {g : List Int} {n0 : Nat} {r : List (Nat × Int)} (hl : n0 ≤ g.length) {a b : sx_V} {v : Value} (h : sx_fv n0 r a b = true) (hb : sx_r g b v) : sx_r (sx_gg g n0 r) a v := by
  have h := of_decide_eq_true h
  cases a with
  | inr u =>
    have e : b = .inr u := (Option.some.inj h).symm
    subst e
    cases u <;> exact hb
  | inl a =>
    unfold sx_sb at h
    dsimp only at h
    cases hq : Nat.blt a.1 n0 with
    | true =>
      rw [hq] at h
      simp only [cond_true] at h
      have e : b = .inl a := (Option.some.inj h).symm
      subst e
      obtain ⟨z, x, h1, h2, h3⟩ := hb
      exact ⟨z, x, by rw [sx_gg_lo hl (by simpa [Nat.blt_eq] using hq)]; exact h1, h2, h3⟩
    | false =>
      rw [hq] at h
      simp only [cond_false] at h
      have hge : n0 ≤ a.1 := by
        rcases Nat.lt_or_ge a.1 n0 with q | q
        · have : Nat.blt a.1 n0 = true := by rw [Nat.blt_eq]; exact q
          rw [this] at hq
          cases hq
        · exact q
      cases hr : r[a.1 - n0]? with
      | none => rw [hr] at h; cases h
      | some c =>
        rw [hr] at h
        have e : b = .inl (c.1, c.2 + a.2) := (Option.some.inj h).symm
        subst e
        obtain ⟨z, x, h1, h2, h3⟩ := hb
        refine ⟨_, x, sx_gg_hi hl hge hr, h2, ?_⟩
        simp only at h1 h3
        rw [h1]
        simp only [Option.getD_some]
        omega
theorem sx_fvs_ok {g : List Int} {n0 : Nat} {r : List (Nat × Int)} (hl : n0 ≤ g.length) : ∀ {as bs : List sx_V} {vs : List Value}, sx_fvs n0 r as bs = true → sx_f2 (sx_r g) bs vs → sx_f2 (sx_r (sx_gg g n0 r)) as vs
  | [], [], [], _, _ => trivial
  | a :: as, b :: bs, v :: vs, h, hb => by
    simp only [sx_fvs, Bool.and_eq_true] at h
    exact ⟨sx_fv_ok hl h.1 hb.1, sx_fvs_ok hl h.2 hb.2⟩
  | [], [], _ :: _, _, hb => by cases hb
  | _ :: _, _ :: _, [], _, hb => by cases hb
  | [], _ :: _, _, h, _ => by cases h
  | _ :: _, [], _, h, _ => by cases h
theorem sx_fc_ok {w0 : pm_W} {g : List Int} {n0 : Nat} {r : List (Nat × Int)} (hl : n0 ≤ g.length) {q : Nat} {a b : sx_C} {c : pm_C} (h : sx_fc n0 r a b = true) (hb : sx_rc w0 g q b c) : sx_rc w0 (sx_gg g n0 r) q a c := by
  cases a with
  | inl a =>
    cases b with
    | inr b => cases h
    | inl b =>
      obtain ⟨xs, rfl, h1, h2, h5, h3⟩ := sx_rc_a hb
      simp only [sx_fc, Bool.and_eq_true, Bool.or_eq_true, Bool.not_eq_true'] at h
      obtain ⟨k1, k2, k3, k4⟩ := h
      have k1 := Nat.eq_of_beq_eq_true k1
      have k2 := Nat.eq_of_beq_eq_true k2
      refine ⟨k1, by rw [k2]; exact h1, fun z => ?_, (fun z => h5 (by rw [← k1]; exact z)), fun s hs => ?_⟩
      · rcases k3 with q | q
        · rw [z] at q; cases q
        · exact h2 q
      · have h4 := List.all_eq_true.mp k4 s hs
        split at h4
        · rename_i v hv
          obtain ⟨x, e1, e2⟩ := h3 _ (sx_lkl_mem hv)
          exact ⟨x, e1, sx_fv_ok hl h4 e2⟩
        · cases h4
  | inr a =>
    cases b with
    | inl b => cases h
    | inr b =>
      obtain ⟨fs, rfl, h2⟩ := sx_rc_o hb
      simp only [sx_fc, Bool.and_eq_true] at h
      exact ⟨Nat.eq_of_beq_eq_true h.1, sx_fvs_ok hl h.2 h2⟩
theorem sx_fw_get {n0 : Nat} {r : List (Nat × Int)} : ∀ {as bs : List sx_C}, sx_fw n0 r as bs = true → as.length = bs.length ∧ ∀ (q : Nat) (a : sx_C), as[q]? = some a → ∃ b, bs[q]? = some b ∧ sx_fc n0 r a b = true
  | [], [], _ => ⟨rfl, fun q a h => by simp at h⟩
  | a :: as, b :: bs, h => by
    simp only [sx_fw, Bool.and_eq_true] at h
    obtain ⟨h1, h2⟩ := sx_fw_get h.2
    refine ⟨by simp [h1], fun q c hq => ?_⟩
    cases q with
    | zero =>
      simp at hq
      subst hq
      exact ⟨b, rfl, h.1⟩
    | succ q =>
      simp at hq
      obtain ⟨d, e1, e2⟩ := h2 q c hq
      exact ⟨d, by simpa using e1, e2⟩
  | [], _ :: _, h => by cases h
  | _ :: _, [], h => by cases h
theorem sx_fw_ok {w0 : pm_W} {g : List Int} {n0 : Nat} {r : List (Nat × Int)} (hl : n0 ≤ g.length) {as bs : List sx_C} {w : pm_W} (h : sx_fw n0 r as bs = true) (hb : sx_w w0 g bs w) : sx_w w0 (sx_gg g n0 r) as w := by
  obtain ⟨h1, h2⟩ := sx_fw_get h
  refine ⟨h1.trans hb.1, fun q a c ha hc => ?_⟩
  obtain ⟨b, e1, e2⟩ := h2 q a ha
  exact sx_fc_ok hl e2 (hb.2 q b c e1 hc)
theorem sx_fn_ok {g : List Int} {n n0 : Nat} {env env0 news : sx_N} {r : List (Nat × Int)} (hl : n0 ≤ g.length) (h0 : 0 < n0) (hn : sx_n g n env) (h : sx_fnw n0 r env news = true) (he : sx_n (g.take n0) n0 env0) : sx_n (sx_gg g n0 r) (n0 + r.length) (news ++ env0) := by
  refine ⟨?_, ?_, fun q hq => ?_⟩
  · unfold sx_gg
    simp
    omega
  · rw [sx_gg_lo hl h0]
    exact hn.2.1
  · rcases List.mem_append.mp hq with hq | hq
    · have h1 := List.all_eq_true.mp h q hq
      split at h1
      · rename_i hlt
        split at h1
        · rename_i b hb
          obtain ⟨z, e1, e2, e3⟩ := sx_bd_ok (n := n) hn.2.2 hb
          have h1 := of_decide_eq_true h1
          exact ⟨z, by rw [sx_gg_lo hl hlt]; exact e1, by omega, by omega⟩
        · cases h1
      · rename_i hge
        split at h1
        · rename_i b hb
          unfold sx_fits at h1
          split at h1
          · rename_i c hc
            obtain ⟨z, e1, e2, e3⟩ := sx_iv_int hn hc
            have h1 := of_decide_eq_true h1
            refine ⟨_, sx_gg_hi hl (by omega) hb, ?_⟩
            rw [e1]
            simp only [Option.getD_some]
            omega
          · cases h1
        · cases h1
    · obtain ⟨z, e1, e2⟩ := he.2.2 q hq
      have hlt : q.1 < n0 := by
        have := (List.getElem?_eq_some_iff.mp e1).1
        simp at this
        omega
      exact ⟨z, by rw [sx_gg_lo hl hlt, ← e1, List.getElem?_take_of_lt hlt], e2⟩
/-- of the locals those that the general state knows -/
theorem sx_fsp_ok {g : List Int} {n0 : Nat} {r : List (Nat × Int)} (hl : n0 ≤ g.length) {cur : sx_L} {lv : pm_L} (hc : sx_l g cur lv) : ∀ {al : sx_L}, sx_fsp n0 r al cur = true → ∃ lv', sx_l (sx_gg g n0 r) al lv' ∧ ∀ q ∈ lv', q ∈ lv
  | [], _ => ⟨[], trivial, fun q h => by cases h⟩
  | a :: al, h => by
    unfold sx_fsp at h
    simp only [List.all_cons, Bool.and_eq_true] at h
    obtain ⟨lv', h1, h2⟩ := sx_fsp_ok hl hc (al := al) h.2
    have h3 := h.1
    split at h3
    · rename_i v hv
      obtain ⟨u, e1, e2⟩ := sx_lkl_ok hc hv
      exact ⟨(a.1, u) :: lv', ⟨⟨rfl, sx_fv_ok hl h3 e2⟩, h1⟩, fun q hq => by
        rcases List.mem_cons.mp hq with rfl | hq
        · exact pm_lk_mem e1
        · exact h2 q hq⟩
    · cases h3
