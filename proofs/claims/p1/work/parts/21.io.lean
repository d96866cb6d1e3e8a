/-! ANSWERS THAT ARE KNOWN: a method is run once over a world of which only some cells are told; from there on it is an oracle for just these arguments and cells -/
section IO
variable {sc : pm_Z}
def io_tr : List Int → Prop := fun _ => True
/-- a cell that is as it was -/
def io_op : sx_C := .inr (100, [])
def io_fl : sx_C → sx_C
  | .inl a => .inl (a.1, a.2.1, true, a.2.2.2)
  | .inr o => .inr o
def io_w (N : List (Nat × sx_C)) : List sx_C := N.foldr (fun q w => w.set q.1 (io_fl q.2)) (List.replicate 52 io_op)
noncomputable def io_chk (r : List (Nat × Int)) (N : List (Nat × sx_C)) (aw : List sx_C) : Bool := List.rec (motive := fun _ => Bool) true (fun q _ ih => Bool.rec (motive := fun _ => Bool) false ih (Option.rec (motive := fun _ => Bool) false (fun b => sx_fcF 1 r q.2 b) (sx_nth aw q.1))) N
theorem io_chk_cons {r : List (Nat × Int)} {q : Nat × sx_C} {N : List (Nat × sx_C)} {aw : List sx_C} (h : io_chk r (q :: N) aw = true) : ∃ b, aw[q.1]? = some b ∧ sx_fc 1 r q.2 b = true ∧ io_chk r N aw = true := by
  have h : Bool.rec (motive := fun _ => Bool) false (io_chk r N aw) (Option.rec (motive := fun _ => Bool) false (fun b => sx_fcF 1 r q.2 b) (sx_nth aw q.1)) = true := h
  rw [sx_nth_eq] at h
  cases hb : aw[q.1]? with
  | none =>
    rw [hb] at h
    cases h
  | some b =>
    rw [hb] at h
    have h : Bool.rec (motive := fun _ => Bool) false (io_chk r N aw) (sx_fcF 1 r q.2 b) = true := h
    rw [sx_fcF_eq] at h
    cases hf : sx_fc 1 r q.2 b with
    | false =>
      rw [hf] at h
      cases h
    | true =>
      rw [hf] at h
      exact ⟨b, rfl, hf, h⟩
theorem io_chk_mem {r : List (Nat × Int)} {aw : List sx_C} : ∀ {N : List (Nat × sx_C)}, io_chk r N aw = true → ∀ q ∈ N, ∃ b, aw[q.1]? = some b ∧ sx_fc 1 r q.2 b = true
  | [], _, q, hq => by cases hq
  | t :: N, h, q, hq => by
    obtain ⟨b, h1, h2, h3⟩ := io_chk_cons h
    rcases List.mem_cons.mp hq with rfl | hq
    · exact ⟨b, h1, h2⟩
    · exact io_chk_mem h3 q hq
theorem io_rc {w0 w : pm_W} {g : List Int} {q : Nat} {a : sx_C} {c : pm_C} (h : sx_rc w0 g q a c) (hc : w[q]? = some c) : sx_rc w g q (io_fl a) c := by
  cases a with
  | inl a =>
    cases c with
    | inl c => exact ⟨h.1, h.2.1, fun _ => hc, h.2.2.2.1, h.2.2.2.2⟩
    | inr c => cases h
  | inr o =>
    rcases h with h | h
    · exact Or.inl ⟨h.1, hc⟩
    · exact Or.inr h
theorem io_w_ok {w0 w : pm_W} {g : List Int} {aw : List sx_C} {r : List (Nat × Int)} (hw : sx_w w0 g aw w) (hl : w.length = 52) (h1 : 1 ≤ g.length) : ∀ {N : List (Nat × sx_C)}, io_chk r N aw = true → sx_w w (sx_gg g 1 r) (io_w N) w
  | [], _ => by
    refine ⟨by rw [hl]; rfl, fun q a c ha hc => ?_⟩
    have e : a = io_op := List.eq_of_mem_replicate (List.mem_of_getElem? ha)
    rw [e]
    exact Or.inl ⟨rfl, hc⟩
  | q :: N, h => by
    obtain ⟨b, hb, hf, hN⟩ := io_chk_cons h
    obtain ⟨c, hc, hr⟩ := sx_w_get hw hb
    exact sx_w_setA (io_w_ok hw hl h1 hN) hc (io_rc (sx_fc_ok h1 hf hr) hc)
/-- numbers made before they are handed on -/
noncomputable def io_fz {α : Type} (z : Int) (f : Int → α) : α := Int.rec (motive := fun _ => α) (fun n => Nat.rec (motive := fun _ => α) (f (.ofNat 0)) (fun k _ => f (.ofNat (Nat.succ k))) n) (fun n => Nat.rec (motive := fun _ => α) (f (.negSucc 0)) (fun k _ => f (.negSucc (Nat.succ k))) n) z
theorem io_fz_eq {α : Type} (z : Int) (f : Int → α) : io_fz z f = f z := by
  cases z with
  | ofNat n => cases n <;> rfl
  | negSucc n => cases n <;> rfl
noncomputable def io_fp {α : Type} (n : Nat) (f : Nat → α) : α := Nat.rec (motive := fun _ => α) (f 0) (fun k _ => f (Nat.succ k)) n
theorem io_fp_eq {α : Type} (n : Nat) (f : Nat → α) : io_fp n f = f n := by
  cases n <;> rfl
/-- the arguments: cells that are told, or ints that are known -/
noncomputable def io_args (env : sx_N) : List (Option Nat) → List sx_V → Option (List Int)
  | [], [] => some []
  | some r :: P, .inr (.ref q) :: as => bif Nat.beq q r then io_args env P as else none
  | none :: P, .inl a :: as => (match sx_iv env a with
    | some b => bif sx_ieq b.1 b.2 then io_fz b.1 (fun z => match io_args env P as with
      | some zs => some (z :: zs)
      | none => none) else none
    | none => none)
  | _, _ => none
def io_abs : List (Option Nat) → List Int → List sx_V
  | some r :: P, zs => .inr (.ref r) :: io_abs P zs
  | none :: P, z :: zs => .inl (0, z) :: io_abs P zs
  | _, _ => []
theorem io_args_ok {g g1 : List Int} {n : Nat} {env : sx_N} (hn : sx_n g n env) (h0 : g1[0]? = some 0) : ∀ {P : List (Option Nat)} {as : List sx_V} {As : List Value} {zs : List Int}, io_args env P as = some zs → sx_f2 (sx_r g) as As → sx_f2 (sx_r g1) (io_abs P zs) As ∧ (io_abs P zs).all (fun a => Nat.beq (sx_cat a) 1) = true := by
  intro P
  induction P with
  | nil =>
    intro as As zs h hA
    cases as with
    | cons a as => simp [io_args] at h
    | nil =>
      cases As with
      | cons a As => cases hA
      | nil => exact ⟨trivial, rfl⟩
  | cons p P ih =>
    intro as As zs h hA
    cases as with
    | nil => cases p <;> simp [io_args] at h
    | cons a as =>
      obtain ⟨v, As, rfl, h1, h2⟩ := sx_f2_cons hA
      cases p with
      | some r =>
        cases a with
        | inl a => simp [io_args] at h
        | inr u =>
          cases u with
          | ref q =>
            simp only [io_args] at h
            cases hq : Nat.beq q r with
            | false => rw [hq] at h; cases h
            | true =>
              rw [hq] at h
              obtain ⟨e1, e2⟩ := ih h h2
              have e : q = r := Nat.eq_of_beq_eq_true hq
              subst e
              exact ⟨⟨h1, e1⟩, e2⟩
          | _ => simp [io_args] at h
      | none =>
        cases a with
        | inr u => cases u <;> simp [io_args] at h
        | inl a =>
          simp only [io_args] at h
          cases hb : sx_iv env a with
          | none => rw [hb] at h; cases h
          | some b =>
            rw [hb] at h
            simp only at h
            cases he : sx_ieq b.1 b.2 with
            | false => rw [he] at h; cases h
            | true =>
              rw [he] at h
              simp only [cond_true, io_fz_eq] at h
              rw [sx_ieq_eq, decide_eq_true_eq] at he
              cases hz : io_args env P as with
              | none => rw [hz] at h; cases h
              | some ys =>
                rw [hz] at h
                cases h
                obtain ⟨e1, e2⟩ := ih hz h2
                obtain ⟨x, rfl⟩ := sx_int_ok h1
                have hx := sx_iv_ok hn hb h1
                exact ⟨⟨⟨0, x, h0, rfl, by simp only; omega⟩, e1⟩, e2⟩
/-- what the rows hold at some places (only to find the number of the answer) -/
noncomputable def io_rd (env : sx_N) (aw : List sx_C) : List (Nat × Nat) → Option (List Int)
  | [] => some []
  | (q, i) :: l => match sx_nth aw q with
    | some (.inl c) => (match sx_lklF i c.2.2.2 with
      | some (.inl a) => (match sx_ivF env a with
        | some b => io_fz b.1 (fun z => match io_rd env aw l with
          | some zs => some (z :: zs)
          | none => none)
        | none => none)
      | _ => none)
    | _ => none
def io_set (CH : List (Nat × sx_C)) (aw : List sx_C) : List sx_C := CH.foldr (fun t w => w.set t.1 t.2) aw
def io_in (CH : List (Nat × sx_C)) (q : Nat) : Bool := CH.any fun t => Nat.beq t.1 q
def io_un (CH : List (Nat × sx_C)) : Bool := CH.all fun t => match t.2 with
  | .inl a => !a.2.2.1
  | .inr _ => false
theorem io_set_get {aw : List sx_C} {q : Nat} {a : sx_C} : ∀ {CH : List (Nat × sx_C)}, (io_set CH aw)[q]? = some a → (∃ t ∈ CH, t.1 = q ∧ t.2 = a) ∨ (io_in CH q = false ∧ aw[q]? = some a)
  | [], h => Or.inr ⟨rfl, h⟩
  | t :: CH, h => by
    have h : ((io_set CH aw).set t.1 t.2)[q]? = some a := h
    rw [List.getElem?_set] at h
    by_cases e : t.1 = q
    · rw [if_pos e] at h
      split at h
      · cases h
        exact Or.inl ⟨t, List.mem_cons_self, e, rfl⟩
      · cases h
    · rw [if_neg e] at h
      rcases io_set_get h with ⟨s, h1, h2⟩ | ⟨h1, h2⟩
      · exact Or.inl ⟨s, List.mem_cons_of_mem _ h1, h2⟩
      · refine Or.inr ⟨?_, h2⟩
        have e2 : Nat.beq t.1 q = false := by
          cases hb : Nat.beq t.1 q with
          | false => rfl
          | true => exact absurd (Nat.eq_of_beq_eq_true hb) e
        show (Nat.beq t.1 q || io_in CH q) = false
        rw [e2, h1]
        rfl
theorem io_set_len {aw : List sx_C} : ∀ {CH : List (Nat × sx_C)}, (io_set CH aw).length = aw.length
  | [] => rfl
  | t :: CH => by
    show ((io_set CH aw).set t.1 t.2).length = aw.length
    rw [List.length_set]
    exact io_set_len
/-- the end of such a run: the answer, all cells as they were but for those that are told anew -/
noncomputable def io_v : sx_V → sx_V → Bool
  | .inl a, .inl b => Nat.beq a.1 b.1 && sx_ieq a.2 b.2
  | .inr (.ref a), .inr (.ref b) => Nat.beq a b
  | _, _ => false
noncomputable def io_vs : List sx_V → List sx_V → Bool
  | [], [] => true
  | a :: l, b :: m => io_v a b && io_vs l m
  | _, _ => false
noncomputable def io_c : sx_C → sx_C → Bool
  | .inl _, .inl b => b.2.2.1
  | .inr a, .inr b => Nat.beq a.1 b.1 && io_vs a.2 b.2
  | _, _ => false
noncomputable def io_cs (CH : List (Nat × sx_C)) : Nat → List sx_C → List sx_C → Bool
  | _, [], [] => true
  | q, a :: l, b :: m => (io_in CH q || io_c a b) && io_cs CH (q + 1) l m
  | _, _, _ => false
noncomputable def io_an (v : Int) : Option sx_V → Bool
  | some (.inl a) => Nat.beq a.1 0 && sx_ieq a.2 v
  | _ => false
noncomputable def io_K (v : Int) (N CH : List (Nat × sx_C)) (o : sx_O) : Bool := io_an v o.2.2.1 && (io_cs CH 0 (io_w N) o.2.2.2 && io_chk [] CH o.2.2.2)
theorem io_v_ok {g g' : List Int} (hp : g <+: g') {a b : sx_V} {x y : Value} (h : io_v a b = true) (hx : sx_r g a x) (hy : sx_r g' b y) : x = y := by
  cases a with
  | inl a =>
    cases b with
    | inl b =>
      simp only [io_v, Bool.and_eq_true] at h
      have e1 := Nat.eq_of_beq_eq_true h.1
      have e2 := h.2
      rw [sx_ieq_eq, decide_eq_true_eq] at e2
      obtain ⟨z, x, a1, rfl, a3⟩ := sx_r_pre hp hx
      obtain ⟨z', y, b1, rfl, b3⟩ := hy
      rw [e1, b1] at a1
      cases a1
      exact congrArg Value.int (Int32.toInt_inj.mp (by omega))
    | inr b => simp [io_v] at h
  | inr a =>
    cases b with
    | inl b => cases a <;> simp [io_v] at h
    | inr b =>
      cases a with
      | ref k =>
        cases b with
        | ref m =>
          simp only [io_v] at h
          have e1 := Nat.eq_of_beq_eq_true h
          have hx : x = .ref k := hx
          have hy : y = .ref m := hy
          rw [hx, hy, e1]
        | _ => simp [io_v] at h
      | _ => simp [io_v] at h
theorem io_vs_ok {g g' : List Int} (hp : g <+: g') : ∀ {a b : List sx_V} {x y : List Value}, io_vs a b = true → sx_f2 (sx_r g) a x → sx_f2 (sx_r g') b y → x = y
  | [], [], [], [], _, _, _ => rfl
  | a :: l, b :: m, x :: xs, y :: ys, h, hx, hy => by
    simp only [io_vs, Bool.and_eq_true] at h
    rw [io_v_ok hp h.1 hx.1 hy.1, io_vs_ok hp h.2 hx.2 hy.2]
  | [], _ :: _, _, _, h, _, _ => by cases h
  | _ :: _, [], _, _, h, _, _ => by cases h
  | [], [], _ :: _, _, _, hx, _ => by cases hx
  | [], [], [], _ :: _, _, _, hy => by cases hy
  | _ :: _, _ :: _, [], _, _, hx, _ => by cases hx
  | _ :: _, _ :: _, _ :: _, [], _, _, hy => by cases hy
theorem io_c_ok {w : pm_W} {g g' : List Int} (hp : g <+: g') {q : Nat} {a b : sx_C} {c d : pm_C} (h : io_c a b = true) (hc : w[q]? = some c) (ha : sx_rc w g q a c) (hb : sx_rc w g' q b d) : w[q]? = some d := by
  cases a with
  | inl a =>
    cases b with
    | inr b => cases h
    | inl b =>
      obtain ⟨xs, rfl, -, h3, -⟩ := sx_rc_a hb
      exact h3 h
  | inr a =>
    cases b with
    | inl b => cases h
    | inr b =>
      simp only [io_c, Bool.and_eq_true] at h
      have e1 := Nat.eq_of_beq_eq_true h.1
      rcases hb with hb | ⟨nb, fs, rfl, fb⟩
      · exact hb.2
      · rcases ha with ha | ⟨na, fa, rfl, ga⟩
        · rw [ha.1] at e1
          exact absurd e1.symm nb
        · rw [hc, io_vs_ok hp h.2 ga fb, e1]
theorem io_cs_ok {CH : List (Nat × sx_C)} : ∀ {as bs : List sx_C} {q0 : Nat}, io_cs CH q0 as bs = true → as.length = bs.length ∧ ∀ q a b, as[q]? = some a → bs[q]? = some b → io_in CH (q0 + q) = false → io_c a b = true
  | [], [], _, _ => ⟨rfl, fun q a b h => by simp at h⟩
  | a :: l, b :: m, q0, h => by
    simp only [io_cs, Bool.and_eq_true, Bool.or_eq_true] at h
    obtain ⟨h1, h2⟩ := io_cs_ok h.2
    refine ⟨by simp [h1], fun q x y hx hy hi => ?_⟩
    cases q with
    | zero =>
      simp at hx hy
      subst hx hy
      rcases h.1 with k | k
      · rw [Nat.add_zero] at hi
        rw [hi] at k
        cases k
      · exact k
    | succ q =>
      simp at hx hy
      exact h2 q x y hx hy (by rw [show q0 + 1 + q = q0 + (q + 1) by omega]; exact hi)
  | [], _ :: _, _, h => by cases h
  | _ :: _, [], _, h => by cases h
/-- by its number: the arguments, the cells that are told, the answer, the cells that are other behind it -/
abbrev io_M : Type := List Int × List (Nat × sx_C) × Int × List (Nat × sx_C)
noncomputable def io_run (AN : Nat → List (Nat × sx_An)) (CU : Nat → Option (List sx_Cu)) (ora : sx_OR) (y : pm_X) (J : Nat) (P : List (Option Nat)) (m : Nat) (mk : Nat → Option io_M) (p : Nat) : Bool := match mk p with
  | none => true
  | some t => sx_runF AN CU ora 100000 y (AN J) [] false 0 0 0 (2 + m) [] (sx_args 0 (io_abs P t.1)) [] (io_w t.2.1) (io_K t.2.2.1 t.2.1 t.2.2.2)
noncomputable def io_zq : List Int → List Int → Bool
  | [], [] => true
  | a :: l, b :: m => sx_ieq a b && io_zq l m
  | _, _ => false
theorem io_zq_ok : ∀ {a b : List Int}, io_zq a b = true → a = b
  | [], [], _ => rfl
  | a :: l, b :: m, h => by
    simp only [io_zq, Bool.and_eq_true] at h
    have e := h.1
    rw [sx_ieq_eq, decide_eq_true_eq] at e
    rw [e, io_zq_ok h.2]
  | [], _ :: _, h => by cases h
  | _ :: _, [], h => by cases h
noncomputable def io_orb (J : Nat) (P : List (Option Nat)) (pl : List sx_Pl) (rds : List Int → List (Nat × Nat)) (idx : List Int → List Int → Nat) (mk : Nat → Option io_M) : sx_OB := fun j n env as aw =>
  bif Nat.beq j J then (match io_args env P as with
    | some zs => (match io_rd env aw (rds zs) with
      | some ys => io_fp (idx zs ys) (fun p => match mk p with
        | some t => (match sx_rho [] aw pl with
          | some r => bif io_zq t.1 zs && (Nat.beq aw.length 52 && (Nat.beq r.length pl.length && (io_un t.2.2.2 && io_chk ((0, (-1)) :: r) t.2.1 aw))) then io_fz t.2.2.1 (fun v => some [(n, env, some (.inl (0, v)), io_set t.2.2.2 aw)]) else none
          | none => none)
        | none => none)
      | none => none)
    | none => none) else none
theorem io_g0 {g : List Int} {n : Nat} {env : sx_N} (hn : sx_n g n env) : [0] <+: g ∧ 1 ≤ g.length ∧ sx_gg g 1 [] = [0] := by
  cases g with
  | nil => exact absurd hn.2.1 (by simp)
  | cons z l =>
    have e : z = 0 := by
      have := hn.2.1
      simp at this
      exact this
    subst e
    exact ⟨⟨l, rfl⟩, by simp, rfl⟩
theorem io_an_ok {v : Int} {g g' : List Int} (h0 : g'[0]? = some 0) (hg : g[0]? = some 0) {a : Option sx_V} {r : Option Value} (h : io_an v a = true) (hr : sx_ro g' a r) : sx_ro g (some (.inl (0, v))) r := by
  cases a with
  | none => simp [io_an] at h
  | some a =>
    cases a with
    | inr u => simp [io_an] at h
    | inl a =>
      simp only [io_an, Bool.and_eq_true] at h
      have e1 := Nat.eq_of_beq_eq_true h.1
      have e2 := h.2
      rw [sx_ieq_eq, decide_eq_true_eq] at e2
      cases r with
      | none => cases hr
      | some u =>
        obtain ⟨z, x, a1, rfl, a3⟩ := hr
        rw [e1, h0] at a1
        cases a1
        exact ⟨0, x, hg, rfl, by simp only; omega⟩
theorem io_un1 {w w0 : pm_W} {g : List Int} {q : Nat} {a : sx_C} {c : pm_C} (h : (match a with
  | .inl a => !a.2.2.1
  | .inr _ => false) = true) (z : sx_rc w g q a c) : sx_rc w0 g q a c := by
  cases a with
  | inr a => cases h
  | inl a =>
    cases c with
    | inr c => cases z
    | inl c =>
      refine ⟨z.1, z.2.1, fun e => ?_, z.2.2.2.1, z.2.2.2.2⟩
      have h : (!a.2.2.1) = true := h
      rw [e] at h
      cases h
set_option maxHeartbeats 4000000 in
theorem io_ok {AN : Nat → List (Nat × sx_An)} {CU : Nat → Option (List sx_Cu)} {ora : sx_OR} (hO : ∀ w, sx_orOK sc io_tr w ora) {J : Nat} {y : pm_X} {P : List (Option Nat)} {pl : List sx_Pl} {rds : List Int → List (Nat × Nat)} {idx : List Int → List Int → Nat} {mk : Nat → Option io_M} (hy : pm_mt J = some y) (hR : ∀ p, io_run AN CU ora y J P pl.length mk p = true) (w0 : pm_W) : sx_orB sc io_tr w0 (io_orb J P pl rds idx mk) := by
  intro j y' n env as aw outs g As w h hy' hΨ hn hA hw
  unfold io_orb at h
  cases hj : Nat.beq j J with
  | false => rw [hj] at h; cases h
  | true =>
    rw [hj] at h
    simp only [cond_true] at h
    have ej : j = J := Nat.eq_of_beq_eq_true hj
    subst ej
    rw [hy] at hy'
    cases hy'
    split at h
    · rename_i zs hzs
      split at h
      · rename_i ys hys
        rw [io_fp_eq] at h
        split at h
        · rename_i t ht
          split at h
          · rename_i r hr
            cases hb : (io_zq t.1 zs && (Nat.beq aw.length 52 && (Nat.beq r.length pl.length && (io_un t.2.2.2 && io_chk ((0, (-1)) :: r) t.2.1 aw)))) with
            | false => rw [hb] at h; cases h
            | true =>
              rw [hb] at h
              simp only [cond_true, io_fz_eq] at h
              cases h
              simp only [Bool.and_eq_true] at hb
              obtain ⟨b1, b2, b3, b4, b5⟩ := hb
              have e1 := io_zq_ok b1
              have hl : w.length = 52 := by rw [← hw.1]; exact Nat.eq_of_beq_eq_true b2
              have hrl := Nat.eq_of_beq_eq_true b3
              obtain ⟨p0, p1, p2⟩ := io_g0 hn
              have hW := io_w_ok hw hl p1 b5
              have hrun := hR (idx zs ys)
              unfold io_run at hrun
              rw [ht] at hrun
              simp only at hrun
              rw [sx_runF_eq] at hrun
              have g10 : (sx_gg g 1 ((0, (-1)) :: r))[0]? = some 0 := by rw [sx_gg_lo p1 (by decide)]; exact hn.2.1
              have g11 : (sx_gg g 1 ((0, (-1)) :: r))[1]? = some (-1) := by
                rw [sx_gg_hi p1 (by decide) (b := (0, (-1))) rfl]
                simp only
                rw [hn.2.1]
                rfl
              have hn1 : sx_n (sx_gg g 1 ((0, (-1)) :: r)) (2 + pl.length) [] := by
                refine ⟨?_, g10, fun q hq => by cases hq⟩
                unfold sx_gg
                rw [List.length_append, List.length_take, List.length_map, List.length_cons]
                omega
              obtain ⟨a1, a2⟩ := io_args_ok hn g10 hzs hA
              rw [← e1] at a1 a2
              have hm : sx_m w (sx_gg g 1 ((0, (-1)) :: r)) (2 + pl.length, [], sx_args 0 (io_abs P t.1), [], io_w t.2.1) (lv_args 0 As) [] w := ⟨hn1, sx_args_ok 0 a1 a2, trivial, hW⟩
              refine pm_mono ?_ (sx_run_ok (hO w) 100000 y _ [] false 0 0 0 (2 + pl.length) [] (sx_args 0 (io_abs P t.1)) [] (io_w t.2.1) (io_K t.2.2.1 t.2.1 t.2.2.2) (sx_gg g 1 ((0, (-1)) :: r)) (sx_gg g 1 ((0, (-1)) :: r)) (lv_args 0 As) [] w (fun r' w' => ∃ g' o, sx_gg g 1 ((0, (-1)) :: r) <+: g' ∧ io_K t.2.2.1 t.2.1 t.2.2.2 o = true ∧ sx_mo w g' o r' w') hrun (pm_mt_ok hy).2 ⟨Or.inl ⟨-1, g11, by decide⟩, _, List.prefix_rfl, trivial⟩ List.prefix_rfl hm (fun h9 hh => by cases hh) (fun g' o r' w' q1 q2 q3 => ⟨g', o, q1, q2, q3⟩))
              intro r' w' hq
              obtain ⟨g', o, q1, q2, q3⟩ := hq
              simp only [io_K, Bool.and_eq_true] at q2
              obtain ⟨k1, k2, k3⟩ := q2
              obtain ⟨m1, m2, m3⟩ := q3
              have hlen : w'.length = w.length := by rw [← m3.1, ← (io_cs_ok k2).1, hW.1]
              have same : ∀ q c, io_in t.2.2.2 q = false → w'[q]? = some c → w[q]? = some c := fun q c hi hc => by
                have hql : q < w'.length := (List.getElem?_eq_some_iff.mp hc).1
                have l1 : q < (io_w t.2.1).length := by rw [hW.1, ← hlen]; exact hql
                have l2 : q < o.2.2.2.length := by rw [m3.1]; exact hql
                have l3 : q < w.length := by rw [← hlen]; exact hql
                have x1 := List.getElem?_eq_getElem l1
                have x2 := List.getElem?_eq_getElem l2
                have x3 := List.getElem?_eq_getElem l3
                have k := (io_cs_ok k2).2 q _ _ x1 x2 (by rw [Nat.zero_add]; exact hi)
                exact io_c_ok q1 k x3 (hW.2 q _ _ x1 x3) (m3.2 q _ _ x2 hc)
              refine ⟨_, List.mem_singleton.mpr rfl, g, List.prefix_rfl, hn, io_an_ok m1.2.1 hn.2.1 k1 m2, ?_⟩
              refine ⟨by rw [io_set_len, hw.1, hlen], fun q a c ha hc => ?_⟩
              rcases io_set_get ha with ⟨s, s1, s2, s3⟩ | ⟨s1, s2⟩
              · subst s2 s3
                obtain ⟨b, c1, c2⟩ := io_chk_mem k3 s s1
                have z1 := sx_fc_ok (io_g0 m1).2.1 c2 (m3.2 s.1 b c c1 hc)
                rw [(io_g0 m1).2.2] at z1
                exact sx_rc_pre p0 (io_un1 (List.all_eq_true.mp b4 s s1) z1)
              · exact hw.2 q a c s2 (same q c s1 hc)
          · cases h
        · cases h
      · cases h
    · cases h
/-- two oracles, one behind the other -/
def io_2 (a b : sx_OB) : sx_OB := fun j n env as aw => match a j n env as aw with
  | some o => some o
  | none => b j n env as aw
theorem io_2_ok {Ψ : List Int → Prop} {w0 : pm_W} {a b : sx_OB} (ha : sx_orB sc Ψ w0 a) (hb : sx_orB sc Ψ w0 b) : sx_orB sc Ψ w0 (io_2 a b) := by
  intro j y n env as aw outs g As w h hy hΨ hn hA hw
  unfold io_2 at h
  split at h
  · rename_i o ho
    cases h
    exact ha j y n env as aw _ g As w ho hy hΨ hn hA hw
  · exact hb j y n env as aw outs g As w h hy hΨ hn hA hw
def io_no : sx_OR := (fun _ _ _ _ => none, fun _ _ _ _ _ => none)
theorem io_no_ok {Ψ : List Int → Prop} {w0 : pm_W} : sx_orOK sc Ψ w0 io_no := ⟨(fun j y n env as aw alts g As w h => by cases h), (fun j y n env as aw outs g As w h => by cases h)⟩
theorem io_or {w0 : pm_W} {b : sx_OB} (hb : sx_orB sc io_tr w0 b) : sx_orOK sc io_tr w0 (fun _ _ _ _ => none, b) := ⟨(fun j y n env as aw alts g As w h => by cases h), hb⟩
end IO
