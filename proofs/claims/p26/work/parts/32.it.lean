/-! an item, told by its letters -/
def ps_D (e : Nat → Int) (o : Nat) : Nat := if 48 ≤ e o ∧ e o ≤ 57 then (if 48 ≤ e (o + 1) ∧ e (o + 1) ≤ 57 then 2 else 1) else 0
def ps_V (e : Nat → Int) (o : Nat) : Int := if ps_D e o = 2 then 10 * (e o - 48) + e (o + 1) - 48 else e o - 48
/-- numbers one behind another, each within its bounds and with its end: what they are, and where they end -/
def ps_n (e : Nat → Int) : List (Int × Int × Int) → Nat → Option (List Int × Nat)
  | [], o => some ([], o)
  | q :: l, o => if ps_D e o = 0 then none else if e (o + ps_D e o) = q.2.2 ∧ q.1 ≤ ps_V e o ∧ ps_V e o ≤ q.2.1 then (match ps_n e l (o + ps_D e o + 1) with
    | some t => some (ps_V e o :: t.1, t.2)
    | none => none) else none
def ps_l (c p : Int) : Option (List (Int × Int × Int)) := if c = 112 then some [(0, 3, 59)] else if c = 104 then some [(0, p - 1, 44), (0, 3, 44), (0, 5, 44), (0, 5, 44), (0, 10, 59)] else if c = 108 then some [(0, p - 1, 44), (0, p - 1, 59)] else if c = 110 then some [(0, 9, 59)] else if c = 99 then some [(2, 6, 59)] else if c = 102 then some [(0, 20, 59)] else if c = 122 then some [(0, 99, 59)] else none
def ps_x (c p : Int) (vs : List Int) : Bool := if c = 112 then decide (p < 5) else if c = 108 then (match vs with
  | [a, b] => decide (¬ a = b)
  | _ => false) else true
/-- the item that begins at 0: where it ends, and how many people it tells; or nothing -/
def ps_i (e : Nat → Int) (p : Int) : Option (Nat × Int) := match ps_l (e 0) p with
  | none => none
  | some l => match ps_n e l 1 with
    | none => none
    | some t => if ps_x (e 0) p t.1 = true then some (t.2, if e 0 = 112 then 1 else 0) else none
/-- the same by bounds alone: nothing known; no; or yes -/
def pk_n (env : sx_N) : List (Int × Int × Int) → Nat → Option (Option (List (Int × Int) × Nat))
  | [], o => some (some ([], o))
  | q :: l, o => match sx_bd (61 + o) env with
    | none => none
    | some d => if 1 ≤ o ∧ o ≤ 13 then (if d.1 = 0 ∧ d.2 = 0 then some none else if d.1 = d.2 ∧ (d.1 = 1 ∨ d.1 = 2) then (match sx_bd (45 + (o + d.1.toNat)) env, sx_bd (74 + o) env with
      | some b, some v => if b.2 < q.2.2 ∨ q.2.2 < b.1 ∨ v.2 < q.1 ∨ q.2.1 < v.1 then some none else (match pk_n env l (o + d.1.toNat + 1) with
        | none => none
        | some none => some none
        | some (some t) => if b.1 = q.2.2 ∧ b.2 = q.2.2 ∧ q.1 ≤ v.1 ∧ v.2 ≤ q.2.1 then some (some (v :: t.1, t.2)) else none)
      | _, _ => none) else none) else none
def pk_x (c p : Int) (vs : List (Int × Int)) : Option Bool := if c = 112 then some (decide (p < 5)) else if c = 108 then (match vs with
  | [a, b] => if a.1 = a.2 ∧ b.1 = b.2 then some (decide (¬ a.1 = b.1)) else if a.2 < b.1 ∨ b.2 < a.1 then some true else none
  | _ => none) else some true
def pk_i (env : sx_N) (p : Int) : Option (Option (Nat × Int)) := match sx_bd 45 env with
  | none => none
  | some b => if b.1 = b.2 then (match ps_l b.1 p with
    | none => some none
    | some l => if b.1 = 112 ∧ 5 ≤ p then some none else match pk_n env l 1 with
      | none => none
      | some none => some none
      | some (some t) => match pk_x b.1 p t.1 with
        | none => none
        | some true => some (some (t.2, if b.1 = 112 then 1 else 0))
        | some false => some none)
    else if [112, 104, 108, 110, 99, 102, 122].all (fun c => decide (b.2 < c ∨ c < b.1)) = true then some none else none
def pz_L (e : Nat → Int) (g : List Int) : Prop := (∀ o : Nat, o ≤ 15 → g[45 + o]? = some (e o)) ∧ ∀ o : Nat, 1 ≤ o → o ≤ 13 → g[61 + o]? = some (ps_D e o : Int) ∧ g[74 + o]? = some (ps_V e o)
theorem pz_bd {g : List Int} {n : Nat} {env : sx_N} (hn : sx_n g n env) {i : Nat} {z : Int} (hg : g[i]? = some z) {b : Int × Int} (hb : sx_bd i env = some b) : b.1 ≤ z ∧ z ≤ b.2 := by
  obtain ⟨y, y1, y2, y3⟩ := sx_bd_ok (n := n) hn.2.2 hb
  rw [hg] at y1
  cases y1
  exact ⟨y2, y3⟩
theorem ps_D2 (e : Nat → Int) (o : Nat) : ps_D e o ≤ 2 := by
  unfold ps_D
  split
  · split <;> omega
  · omega
def pk_f (vs : List (Int × Int)) (zs : List Int) : Prop := sx_f2 (fun b z => b.1 ≤ z ∧ z ≤ b.2) vs zs
theorem pk_n_ok {e : Nat → Int} {g : List Int} {n : Nat} {env : sx_N} (hn : sx_n g n env) (hL : pz_L e g) : ∀ (l : List (Int × Int × Int)) (o : Nat), (pk_n env l o = some none → ps_n e l o = none) ∧ (∀ t, pk_n env l o = some (some t) → ∃ zs, ps_n e l o = some (zs, t.2) ∧ pk_f t.1 zs) := by
  intro l
  induction l with
  | nil =>
    intro o
    refine ⟨(fun h => by cases h), fun t h => ?_⟩
    cases h
    exact ⟨[], rfl, trivial⟩
  | cons q l ih =>
    intro o
    unfold pk_n
    cases hd : sx_bd (61 + o) env with
    | none => exact ⟨(fun h => by cases h), (fun t h => by cases h)⟩
    | some d =>
      simp only
      by_cases ho : 1 ≤ o ∧ o ≤ 13
      · rw [if_pos ho]
        obtain ⟨l1, l2⟩ := hL.2 o ho.1 ho.2
        have hD := pz_bd hn l1 hd
        by_cases h0 : d.1 = 0 ∧ d.2 = 0
        · rw [if_pos h0]
          refine ⟨fun _ => ?_, (fun t h => by cases h)⟩
          unfold ps_n
          rw [if_pos (by omega)]
        · rw [if_neg h0]
          by_cases h1 : d.1 = d.2 ∧ (d.1 = 1 ∨ d.1 = 2)
          · rw [if_pos h1]
            have eD : ps_D e o = d.1.toNat := by omega
            have hne : ¬ ps_D e o = 0 := by omega
            cases hb : sx_bd (45 + (o + d.1.toNat)) env with
            | none => exact ⟨(fun h => by cases h), (fun t h => by cases h)⟩
            | some b =>
              cases hv : sx_bd (74 + o) env with
              | none => exact ⟨(fun h => by cases h), (fun t h => by cases h)⟩
              | some v =>
                simp only
                have hB := pz_bd hn (hL.1 (o + d.1.toNat) (by omega)) hb
                have hV := pz_bd hn l2 hv
                rw [← eD] at hB ⊢
                unfold ps_n
                rw [if_neg hne]
                by_cases hf : b.2 < q.2.2 ∨ q.2.2 < b.1 ∨ v.2 < q.1 ∨ q.2.1 < v.1
                · rw [if_pos hf]
                  refine ⟨fun _ => ?_, (fun t h => by cases h)⟩
                  rw [if_neg (by omega)]
                · rw [if_neg hf]
                  obtain ⟨i1, i2⟩ := ih (o + ps_D e o + 1)
                  cases hr : pk_n env l (o + ps_D e o + 1) with
                  | none => exact ⟨(fun h => by cases h), (fun t h => by cases h)⟩
                  | some r =>
                    cases r with
                    | none =>
                      refine ⟨fun _ => ?_, (fun t h => by cases h)⟩
                      rw [i1 hr]
                      split <;> rfl
                    | some t =>
                      simp only
                      by_cases hk : b.1 = q.2.2 ∧ b.2 = q.2.2 ∧ q.1 ≤ v.1 ∧ v.2 ≤ q.2.1
                      · rw [if_pos hk]
                        refine ⟨(fun h => by cases h), fun t' h => ?_⟩
                        cases h
                        obtain ⟨zs, z1, z2⟩ := i2 t hr
                        refine ⟨ps_V e o :: zs, ?_, ⟨hV, z2⟩⟩
                        rw [if_pos (by omega), z1]
                      · rw [if_neg hk]
                        exact ⟨(fun h => by cases h), (fun t h => by cases h)⟩
          · rw [if_neg h1]
            exact ⟨(fun h => by cases h), (fun t h => by cases h)⟩
      · rw [if_neg ho]
        exact ⟨(fun h => by cases h), (fun t h => by cases h)⟩
theorem pk_x_ok {c p : Int} {vs : List (Int × Int)} {zs : List Int} (hf : pk_f vs zs) {r : Bool} (h : pk_x c p vs = some r) : ps_x c p zs = r := by
  unfold pk_x at h
  unfold ps_x
  by_cases h1 : c = 112
  · rw [if_pos h1] at h ⊢
    cases h
    rfl
  · rw [if_neg h1] at h ⊢
    by_cases h2 : c = 108
    · rw [if_pos h2] at h ⊢
      split at h
      · rename_i a b
        obtain ⟨x, m, rfl, ha, hf⟩ := sx_f2_cons hf
        obtain ⟨y, m, rfl, hb, hf⟩ := sx_f2_cons hf
        cases m with
        | cons _ _ => cases hf
        | nil =>
          simp only at ha hb ⊢
          split at h
          · rename_i hc
            cases h
            rw [Bool.eq_iff_iff, decide_eq_true_eq, decide_eq_true_eq]
            constructor
            · intro q e; exact q (by omega)
            · intro q e; exact q (by omega)
          · split at h
            · cases h
              rw [decide_eq_true_eq]
              omega
            · cases h
      · cases h
    · rw [if_neg h2] at h ⊢
      cases h
      rfl
theorem pk_i_ok {e : Nat → Int} {g : List Int} {n : Nat} {env : sx_N} {p : Int} (hn : sx_n g n env) (hL : pz_L e g) {r : Option (Nat × Int)} (h : pk_i env p = some r) : ps_i e p = r := by
  unfold pk_i at h
  cases hb : sx_bd 45 env with
  | none => rw [hb] at h; cases h
  | some b =>
    rw [hb] at h
    simp only at h
    have hB := pz_bd hn (hL.1 0 (by omega)) hb
    by_cases hc : b.1 = b.2
    · rw [if_pos hc] at h
      have e0 : e 0 = b.1 := by omega
      unfold ps_i
      rw [e0]
      cases hl : ps_l b.1 p with
      | none =>
        rw [hl] at h
        cases h
        rfl
      | some l =>
        rw [hl] at h
        simp only at h ⊢
        obtain ⟨n1, n2⟩ := pk_n_ok hn hL l 1
        by_cases h5 : b.1 = 112 ∧ 5 ≤ p
        · rw [if_pos h5] at h
          cases h
          cases ps_n e l 1 with
          | none => rfl
          | some t =>
            simp only
            rw [if_neg]
            unfold ps_x
            rw [if_pos h5.1, decide_eq_true_eq]
            omega
        · rw [if_neg h5] at h
          cases hk : pk_n env l 1 with
          | none => rw [hk] at h; cases h
          | some t =>
            rw [hk] at h
            cases t with
            | none =>
              cases h
              rw [n1 hk]
            | some t =>
              simp only at h
              obtain ⟨zs, z1, z2⟩ := n2 t hk
              rw [z1]
              simp only
              cases hx : pk_x b.1 p t.1 with
              | none => rw [hx] at h; cases h
              | some y =>
                rw [hx] at h
                rw [pk_x_ok z2 hx]
                cases y with
                | true =>
                  cases h
                  rfl
                | false =>
                  cases h
                  rfl
    · rw [if_neg hc] at h
      split at h
      · rename_i ha
        cases h
        simp only [List.all_cons, List.all_nil, Bool.and_true, Bool.and_eq_true, decide_eq_true_eq] at ha
        unfold ps_i ps_l
        rw [if_neg (by omega), if_neg (by omega), if_neg (by omega), if_neg (by omega), if_neg (by omega), if_neg (by omega), if_neg (by omega)]
      · cases h
