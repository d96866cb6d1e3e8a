/-! the run by signs, and that it is sound -/
section SC0
variable {sc : pm_Z}
def sx_ins (M : pm_M) (go : sx_Go) (cal : sx_Ca) (k : sx_O → Bool) (pc ca sl n : Nat) (env : sx_N) (al : sx_L) (ast : List sx_V) (aw : List sx_C) (e : pm_E) : Bool := match e.1 with
  | .tableswitch d lo hi os => (match ast with
    | .inl a :: ast => if hi = lo + os.size - 1 then sx_sw (os.toList.zipIdx.map (fun q => (lo + q.2, q.1))) d env a (fun o env => go (pm_to pc o) ca sl n env al ast aw) else false
    | _ => false)
  | .lookupswitch d ps => (match ast with
    | .inl a :: ast => sx_sw ps.toList d env a (fun o env => go (pm_to pc o) ca sl n env al ast aw)
    | _ => false)
  | i => bif Nat.beq e.2.1 (sx_ln i) then sx_insA M go (sx_insB M go (sx_insC M go cal k (sx_insE M go i pc ca sl n env al ast aw) i e.2.2.1 e.2.2.2.1 pc ca sl n env al ast aw) i e.2.2.1 e.2.2.2.1 pc ca sl n env al ast aw) i pc ca sl n env al ast aw else false
theorem sx_swo_in {P : Int → Prop} {d : Int} (hd : P d) : ∀ {l : List (Int × Int)}, (∀ q ∈ l, P q.2) → ∀ z, P (sx_swo l d z)
  | [], _, _ => hd
  | q :: l, h, z => by
    unfold sx_swo
    split
    · exact h q List.mem_cons_self
    · exact sx_swo_in hd (fun q hq => h q (List.mem_cons_of_mem _ hq)) z
theorem sx_swo_lk : ∀ (l : List (Int × Int)) (d z : Int), Op.lookupswitch.offset l d z = sx_swo l d z
  | [], d, z => rfl
  | q :: l, d, z => by
    obtain ⟨a, o⟩ := q
    rw [Op.lookupswitch.offset_cons, sx_swo, sx_swo_lk l]
    by_cases h : a = z
    · rw [if_pos h, if_pos h.symm]
    · rw [if_neg h, if_neg (fun q => h q.symm)]
theorem sx_swo_tb (d lo : Int) (os : List Int) (k : Nat) (z : Int) : sx_swo ((os.zipIdx k).map (fun q => (lo + q.2, q.1))) d z = if z < lo + k ∨ lo + k + os.length - 1 < z then d else (os[(z - lo - k).toNat]?).getD d := by
  induction os generalizing k with
  | nil =>
    simp [sx_swo]
  | cons o os ih =>
    rw [List.zipIdx_cons, List.map_cons, sx_swo, ih]
    simp only [List.length_cons]
    by_cases hz : z = lo + k
    · rw [if_pos hz, if_neg (by omega)]
      have : (z - lo - k).toNat = 0 := by omega
      rw [this]
      rfl
    · rw [if_neg hz]
      by_cases hlt : z < lo + k
      · rw [if_pos (by omega), if_pos (by omega)]
      · by_cases hgt : lo + k + (os.length + 1 : Nat) - 1 < z
        · rw [if_pos (by omega), if_pos (by omega)]
        · rw [if_neg (by omega), if_neg (by omega)]
          have e : (z - lo - k).toNat = (z - lo - (k + 1 : Nat)).toNat + 1 := by omega
          rw [e]
          rfl
section SXR
variable {M : pm_M} {w0 : pm_W} {g0 g : List Int} {P : Option Value → pm_W → Prop} {go : sx_Go} {cal : sx_Ca} {k : sx_O → Bool} {pc ca sl n : Nat} {env : sx_N} {al : sx_L} {ast : List sx_V} {aw : List sx_C} {lv : pm_L} {st : List Value} {w : pm_W}
theorem sx_ins_ok {Ψ : List Int → Prop} {e : pm_E} (hsc : sx_scr sc Ψ g0) (hgo : sx_goOK sc M w0 g0 P go) (hca : sx_caOK sc Ψ w0 cal) (hk : ∀ g' o r w', g0 <+: g' → k o = true → sx_mo w0 g' o r w' → P r w') (h : sx_ins M go cal k pc ca sl n env al ast aw e = true) (he : pm_eb M pc e = true) (hp : g0 <+: g) (hm : sx_m w0 g (n, env, al, ast, aw) lv st w) : pm_Good sc M pc lv st w ca sl P := by
  obtain ⟨i, ln, a, b, p⟩ := e
  simp only [pm_eb, Bool.and_eq_true, decide_eq_true_eq] at he
  obtain ⟨hd, hlb⟩ := he
  unfold sx_ins at h
  simp only at h
  split at h
  · rename_i d lo hi os
    obtain ⟨hn, hl, hs, hw⟩ := hm
    simp only at hn hl hs hw
    split at h
    · obtain ⟨v, m, rfl, h1, h2⟩ := sx_f2_cons hs
      obtain ⟨x, rfl⟩ := sx_int_ok h1
      split at h
      · rename_i hhi
        obtain ⟨env', e1, e2⟩ := sx_sw_ok h1 h hn
        simp only [pm_lb, Bool.and_eq_true, decide_eq_true_eq] at hlb
        have hge := sx_swo_in (P := fun o => 0 ≤ (pc : Int) + o) hlb.1 (l := os.toList.zipIdx.map (fun q => (lo + q.2, q.1))) (fun q hq => by
          obtain ⟨t, ht, rfl⟩ := List.mem_map.mp hq
          have := List.all_eq_true.mp hlb.2 t.1 (List.fst_mem_of_mem_zipIdx ht)
          exact of_decide_eq_true this) x.toInt
        refine pm_tab hd (off := sx_swo (os.toList.zipIdx.map (fun q => (lo + q.2, q.1))) d x.toInt) ?_ hge (hgo _ _ _ _ _ _ _ _ _ _ _ _ e2 hp ⟨e1, hl, h2, hw⟩)
        rw [sx_swo_tb]
        unfold pm_tsw
        have hlen : os.toList.length = os.size := Array.length_toList
        by_cases hc : x.toInt < lo ∨ hi < x.toInt
        · rw [if_pos hc, if_pos (by omega)]
        · rw [if_neg hc, if_neg (by omega)]
          have hlt : (x.toInt - lo).toNat < os.size := by omega
          have e3 : (x.toInt - lo - (0 : Nat)).toNat = (x.toInt - lo).toNat := by omega
          rw [e3, Array.getElem?_toList, Array.getElem?_eq_getElem hlt]
          rfl
      · cases h
    · cases h
  · rename_i d ps
    obtain ⟨hn, hl, hs, hw⟩ := hm
    simp only at hn hl hs hw
    split at h
    · obtain ⟨v, m, rfl, h1, h2⟩ := sx_f2_cons hs
      obtain ⟨x, rfl⟩ := sx_int_ok h1
      obtain ⟨env', e1, e2⟩ := sx_sw_ok h1 h hn
      simp only [pm_lb, Bool.and_eq_true, decide_eq_true_eq] at hlb
      have hge := sx_swo_in (P := fun o => 0 ≤ (pc : Int) + o) hlb.1.1 (l := ps.toList) (fun q hq => of_decide_eq_true (List.all_eq_true.mp hlb.1.2 q hq)) x.toInt
      exact pm_lkp hd hlb.2 (sx_swo_lk _ _ _) hge (hgo _ _ _ _ _ _ _ _ _ _ _ _ e2 hp ⟨e1, hl, h2, hw⟩)
    · cases h
  · cases hb : Nat.beq ln (sx_ln i) with
    | false => rw [hb] at h; cases h
    | true =>
      rw [hb] at h
      simp only [cond_true] at h
      have e1 : ln = sx_ln i := Nat.eq_of_beq_eq_true hb
      rw [e1] at hd hlb
      exact sx_insA_ok hgo h hd hlb hp hm (fun h => sx_insB_ok hsc.1 hgo h hd hlb hp hm (fun h => sx_insC_ok hsc hgo hca hk h hd hlb hp hm (fun h => sx_insE_ok hgo h hd hp hm)))
end SXR
/-- a loop, or locals to be told apart -/
abbrev sx_An : Type := (List sx_Op × Nat × Int) ⊕ List Nat
abbrev sx_Ad : Type := Nat × List Nat × Nat × Int × Int × Int
abbrev sx_Cu : Type := List sx_Ad × List sx_Op × Nat × Int × Int × Nat
/-- a loop that is being run: where, signs before it, places, new bounds, signs, bounds before, locals, world; what rises or falls, within which bounds; cells and slots -/
abbrev sx_H : Type := Nat × Nat × List sx_Pl × sx_N × Nat × sx_N × sx_L × List sx_C × Nat × Int × Int × Int × Nat × Nat
def sx_bk (h : sx_H) (ca sl : Nat) (env : sx_N) (al : sx_L) (ast : List sx_V) (aw : List sx_C) : Bool := match h, ast with
  | (_, n0, pl, news, nG, _, alG, awG, m, dir, _, _, ca0, sl0), [] => (match sx_rho al aw pl with
    | some r => (Nat.beq ca ca0 && Nat.beq sl sl0) && (Nat.beq (n0 + r.length) nG && (sx_fsp n0 r alG al && (sx_fw n0 r awG aw && (sx_fnw n0 r env news && (decide (dir = 0) || (match r[m - n0]? with
      | some b => decide (b.1 = m ∧ 1 ≤ dir * b.2 ∧ n0 ≤ m)
      | none => false))))))
    | none => false)
  | _, _ => false
def sx_hOK (sc : pm_Z) (M : pm_M) (w0 : pm_W) (P : Option Value → pm_W → Prop) (g : List Int) (h : sx_H) : Prop := match h with
  | (pc, n0, _, news, nG, env0, alG, awG, m, dir, _, _, ca, sl) => ∃ gh, gh <+: g ∧ 0 < n0 ∧ n0 ≤ gh.length ∧ sx_n (gh.take n0) n0 env0 ∧ (dir = 0 ∨ m < gh.length) ∧ ∀ g2 lv2 w2, g2.take n0 = gh.take n0 → sx_m w0 g2 (nG, news ++ env0, alG, [], awG) lv2 [] w2 → (dir = 0 ∨ ∃ zm z2, gh[m]? = some zm ∧ g2[m]? = some z2 ∧ 1 ≤ dir * (z2 - zm)) → pm_Good sc M pc lv2 [] w2 ca sl P
theorem sx_hOK_mono {M : pm_M} {w0 : pm_W} {P : Option Value → pm_W → Prop} {g g' : List Int} {h : sx_H} (hp : g <+: g') (hh : sx_hOK sc M w0 P g h) : sx_hOK sc M w0 P g' h := by
  obtain ⟨pc, n0, pl, news, nG, env0, alG, awG, m, dir, lo, hi, ca, sl⟩ := h
  obtain ⟨gh, h1, h2⟩ := hh
  exact ⟨gh, h1.trans hp, h2⟩
theorem sx_take_pre {g g' : List Int} (h : g <+: g') {n : Nat} (hn : n ≤ g.length) : g'.take n = g.take n := by
  obtain ⟨t, rfl⟩ := h
  rw [List.take_append_of_le_length hn]
theorem sx_gg_take {g : List Int} {n0 : Nat} {r : List (Nat × Int)} (hl : n0 ≤ g.length) : (sx_gg g n0 r).take n0 = g.take n0 := by
  unfold sx_gg
  rw [List.take_append_of_le_length (by simp; omega), List.take_take, Nat.min_self]
theorem sx_bk_ok {M : pm_M} {w0 : pm_W} {P : Option Value → pm_W → Prop} {g : List Int} {h : sx_H} {ca sl n : Nat} {env : sx_N} {al : sx_L} {ast : List sx_V} {aw : List sx_C} {lv : pm_L} {st : List Value} {w : pm_W} (hb : sx_bk h ca sl env al ast aw = true) (hh : sx_hOK sc M w0 P g h) (hm : sx_m w0 g (n, env, al, ast, aw) lv st w) : pm_Good sc M h.1 lv st w ca sl P := by
  obtain ⟨pc, n0, pl, news, nG, env0, alG, awG, m, dir, lo, hi, ca0, sl0⟩ := h
  obtain ⟨gh, h1, h3, h4, h5, h6, h7⟩ := hh
  obtain ⟨hn, hl, hs, hw⟩ := hm
  simp only at hn hl hs hw
  cases ast with
  | cons a ast => simp [sx_bk] at hb
  | nil =>
    cases st with
    | cons v st => cases hs
    | nil =>
      unfold sx_bk at hb
      simp only at hb
      split at hb
      · rename_i r hr
        simp only [Bool.and_eq_true, Bool.or_eq_true, decide_eq_true_eq] at hb
        obtain ⟨⟨c1, c2⟩, c3, c4, c5, c6, c7⟩ := hb
        have c1 := Nat.eq_of_beq_eq_true c1
        have c2 := Nat.eq_of_beq_eq_true c2
        have c3 := Nat.eq_of_beq_eq_true c3
        have hgl : gh.length ≤ g.length := h1.length_le
        have hlg : n0 ≤ g.length := by omega
        have ht : g.take n0 = gh.take n0 := sx_take_pre h1 (by omega)
        obtain ⟨lv', e1, e2⟩ := sx_fsp_ok hlg hl c4
        rw [c1, c2]
        refine pm_sub e2 ?_
        refine h7 (sx_gg g n0 r) lv' w ?_ ⟨?_, e1, trivial, sx_fw_ok hlg c5 hw⟩ ?_
        · rw [sx_gg_take hlg, ht]
        · have := sx_fn_ok hlg h3 hn c6 (by rw [ht]; exact h5)
          rw [c3] at this
          exact this
        · rcases c7 with c7 | c7
          · exact Or.inl c7
          · rcases h6 with h6 | h6
            · exact Or.inl h6
            right
            split at c7
            · rename_i b hb
              obtain ⟨d1, d2, d3⟩ := of_decide_eq_true c7
              have hml : m - n0 < r.length := (List.getElem?_eq_some_iff.mp hb).1
              have hgm : gh[m]? = some gh[m] := List.getElem?_eq_getElem h6
              refine ⟨gh[m], gh[m] + b.2, hgm, ?_, ?_⟩
              · rw [sx_gg_hi hlg d3 hb, d1, sx_get_pre h1 hgm]
                rfl
              · have : gh[m] + b.2 - gh[m] = b.2 := by omega
                rw [this]
                exact d2
            · cases c7
      · cases hb
def sx_lka : Nat → List (Nat × sx_An) → Option sx_An
  | _, [] => none
  | i, q :: l => bif Nat.beq q.1 i then some q.2 else sx_lka i l
def sx_spf (env : sx_N) (al : sx_L) : List Nat → Option ((Nat × Int) × Int × Int)
  | [] => none
  | x :: xs => match sx_lkl x al with
    | some (.inl a) => (match sx_iv env a with
      | some b => if b.1 = b.2 then sx_spf env al xs else some (a, b.1, b.2)
      | none => none)
    | _ => none
theorem sx_spf_ok {g : List Int} {n : Nat} {env : sx_N} {al : sx_L} {lv : pm_L} (hn : sx_n g n env) (hl : sx_l g al lv) {a : Nat × Int} {lo hi : Int} : ∀ {xs : List Nat}, sx_spf env al xs = some (a, lo, hi) → ∃ x : Int32, sx_r g (.inl a) (.int x) ∧ lo ≤ x.toInt ∧ x.toInt ≤ hi
  | [], h => by cases h
  | y :: xs, h => by
    unfold sx_spf at h
    split at h
    · rename_i c hc
      split at h
      · rename_i b hb
        split at h
        · exact sx_spf_ok hn hl h
        · cases h
          obtain ⟨v, h1, h2⟩ := sx_lkl_ok hl hc
          obtain ⟨x, rfl⟩ := sx_int_ok h2
          exact ⟨x, h2, sx_iv_ok hn hb h2⟩
      · cases h
    · cases h
def sx_args : Nat → List sx_V → sx_L
  | _, [] => []
  | i, v :: l => (i, v) :: sx_args (i + 1) l
theorem sx_args_ok {g : List Int} : ∀ {as : List sx_V} {As : List Value} (i : Nat), sx_f2 (sx_r g) as As → as.all (fun a => Nat.beq (sx_cat a) 1) = true → sx_l g (sx_args i as) (lv_args i As)
  | [], [], _, _, _ => trivial
  | a :: as, b :: bs, i, h, hc => by
    simp only [List.all_cons, Bool.and_eq_true] at hc
    have h1 : b.category = 1 := by rw [sx_cat_ok h.1]; exact Nat.eq_of_beq_eq_true hc.1
    unfold sx_args lv_args
    rw [if_neg (by omega)]
    exact ⟨⟨rfl, h.1⟩, sx_args_ok (i + 1) h.2 hc.2⟩
  | [], _ :: _, _, h, _ => by cases h
  | _ :: _, [], _, h, _ => by cases h
/-- a call cut: what comes of it, in general -/
def sx_add1 (as : sx_L) : List sx_Ad → sx_N × List sx_C → Option (sx_N × List sx_C)
  | [], s => some s
  | (x, p, f, c, lo, hi) :: l, s => match sx_ob as s.2 x p with
    | some q => (match s.2[q]? with
      | some (.inr o) => (match o.2[f]? with
        | some (.inl v) => if v.1 = 0 then none else sx_add1 as l ((v.1, lo - v.2 - c, hi - v.2 - c) :: s.1, s.2.set q (.inr (o.1, o.2.set f (.inl (v.1, v.2 + c)))))
        | _ => none)
      | _ => none)
    | none => none
abbrev sx_CG : Type := Nat × sx_N × List sx_C × List sx_Pl × Option sx_V
def sx_capp (n : Nat) (env : sx_N) (as : sx_L) (aw : List sx_C) (c : sx_Cu) : Option sx_CG := match sx_add1 as c.1 ([], aw) with
  | some s => (match sx_gl env c.2.1 (n, s.1, as, s.2, []) with
    | some t => (match c.2.2.1 with
      | 0 => some (t.1, t.2.1, t.2.2.2.1, t.2.2.2.2, none)
      | 1 => some (t.1 + 1, (t.1, c.2.2.2.1, c.2.2.2.2.1) :: t.2.1, t.2.2.2.1, t.2.2.2.2, some (.inl (t.1, 0)))
      | _ => (match sx_lkl c.2.2.2.2.2 as with
        | some (.inl v) => (match sx_iv env v with
          | some b => some (t.1 + 1, (t.1, c.2.2.2.1, b.2) :: t.2.1, t.2.2.2.1, t.2.2.2.2, some (.inl (t.1, 0)))
          | none => none)
        | _ => none))
    | none => none)
  | none => none
def sx_cf1 (n : Nat) (G : sx_CG) (o : sx_O) (r : List (Nat × Int)) : Bool := Nat.beq (n + r.length) G.1 && (sx_fw n r G.2.2.1 o.2.2.2 && sx_fnw n r o.2.1 G.2.1)
def sx_cfit (n : Nat) (as : sx_L) (o : sx_O) (G : sx_CG) : Bool := match sx_rho as o.2.2.2 G.2.2.2.1, G.2.2.2.2, o.2.2.1 with
  | some r, none, none => sx_cf1 n G o r
  | some r, some a, some (.inl b) => sx_cf1 n G o (r ++ [b]) && sx_fv n (r ++ [b]) a (.inl b)
  | _, _, _ => false
theorem sx_cf1_ok {w0 : pm_W} {g g2 : List Int} {n : Nat} {env : sx_N} {G : sx_CG} {o : sx_O} {r : List (Nat × Int)} {v : Option Value} {w : pm_W} (h : sx_cf1 n G o r = true) (hn : sx_n g n env) (hp : g <+: g2) (hm : sx_mo w0 g2 o v w) : n ≤ g2.length ∧ g <+: sx_gg g2 n r ∧ sx_n (sx_gg g2 n r) G.1 (G.2.1 ++ env) ∧ sx_w w0 (sx_gg g2 n r) G.2.2.1 w := by
  simp only [sx_cf1, Bool.and_eq_true] at h
  obtain ⟨h1, h2, h3⟩ := h
  have h1 := Nat.eq_of_beq_eq_true h1
  have hl : n ≤ g2.length := by rw [← hn.1]; exact hp.length_le
  have ht : g2.take n = g := by
    rw [sx_take_pre hp (by rw [hn.1]; exact Nat.le_refl _), ← hn.1, List.take_length]
  have h0 : 0 < n := by
    have := (List.getElem?_eq_some_iff.mp hn.2.1).1
    rw [hn.1] at this
    exact this
  refine ⟨hl, ?_, ?_, sx_fw_ok hl h2 hm.2.2⟩
  · have := List.take_prefix n (sx_gg g2 n r)
    rw [sx_gg_take hl, ht] at this
    exact this
  · have := sx_fn_ok hl h0 hm.1 h3 (by rw [ht]; exact hn)
    rw [h1] at this
    exact this
theorem sx_cfit_ok {w0 : pm_W} {g g2 : List Int} {n : Nat} {env : sx_N} {as : sx_L} {G : sx_CG} {o : sx_O} {v : Option Value} {w : pm_W} (h : sx_cfit n as o G = true) (hn : sx_n g n env) (hp : g <+: g2) (hm : sx_mo w0 g2 o v w) : ∃ g', g <+: g' ∧ sx_mo w0 g' (G.1, G.2.1 ++ env, G.2.2.2.2, G.2.2.1) v w := by
  unfold sx_cfit at h
  split at h
  · rename_i r _ hr hG ho
    obtain ⟨-, h2, h3, h4⟩ := sx_cf1_ok h hn hp hm
    have hv := hm.2.1
    rw [ho] at hv
    refine ⟨_, h2, h3, ?_, h4⟩
    show sx_ro _ G.2.2.2.2 v
    rw [hG]
    cases v with
    | none => trivial
    | some v => cases hv
  · rename_i r a b hr hG ho
    simp only [Bool.and_eq_true] at h
    obtain ⟨h1, h2, h3, h4⟩ := sx_cf1_ok h.1 hn hp hm
    have hv := hm.2.1
    rw [ho] at hv
    refine ⟨_, h2, h3, ?_, h4⟩
    show sx_ro _ G.2.2.2.2 v
    rw [hG]
    cases v with
    | none => cases hv
    | some v => exact sx_fv_ok h1 h.2 hv
  · cases h
/-- methods whose answers are known otherwise -/
abbrev sx_OA : Type := Nat → sx_N → List sx_V → List sx_C → Option (List ((Int × Int) × List Nat))
abbrev sx_OB : Type := Nat → Nat → sx_N → List sx_V → List sx_C → Option (List sx_O)
abbrev sx_OR : Type := sx_OA × sx_OB
def sx_fg1 (aw : List sx_C) (q : Nat) : List sx_C := match aw[q]? with
  | some (.inl c) => aw.set q (.inl (c.1, c.2.1, false, []))
  | _ => aw
def sx_fgt (aw : List sx_C) (l : List Nat) : List sx_C := l.foldl sx_fg1 aw
def sx_orA (sc : pm_Z) (w0 : pm_W) (ora : sx_OA) : Prop := ∀ j y n env as aw alts g As w, ora j env as aw = some alts → pm_mt j = some y → sx_n g n env → sx_f2 (sx_r g) as As → sx_w w0 g aw w → pm_GoodM sc y.1 As w (fun r w' => ∃ t ∈ alts, ∃ x : Int32, r = some (.int x) ∧ t.1.1 ≤ x.toInt ∧ x.toInt ≤ t.1.2 ∧ sx_w w0 g (sx_fgt aw t.2) w')
/-- what comes of a call, told by the first signs -/
def sx_orB (sc : pm_Z) (Ψ : List Int → Prop) (w0 : pm_W) (orb : sx_OB) : Prop := ∀ j y n env as aw outs g As w, orb j n env as aw = some outs → pm_mt j = some y → (∃ g0, g0 <+: g ∧ Ψ g0) → sx_n g n env → sx_f2 (sx_r g) as As → sx_w w0 g aw w → pm_GoodM sc y.1 As w (fun r w' => ∃ o ∈ outs, ∃ g', g <+: g' ∧ sx_mo w0 g' o r w')
def sx_orOK (sc : pm_Z) (Ψ : List Int → Prop) (w0 : pm_W) (ora : sx_OR) : Prop := sx_orA sc w0 ora.1 ∧ sx_orB sc Ψ w0 ora.2
abbrev sx_Rn : Type := pm_X → List (Nat × sx_An) → List sx_H → Bool → Nat → Nat → Nat → Nat → sx_N → sx_L → List sx_V → List sx_C → (sx_O → Bool) → Bool
def sx_cal (AN : Nat → List (Nat × sx_An)) (CU : Nat → Option (List sx_Cu)) (ora : sx_OR) (R : sx_Rn) : sx_Ca := fun j y n env as aw k => match CU j with
  | some cs => R y (AN j) [] false 0 0 0 n env (sx_args 0 as) [] aw (fun o => cs.any (fun c => match sx_capp n env (sx_args 0 as) aw c with
      | some G => sx_cfit n (sx_args 0 as) o G
      | none => false)) && cs.all (fun c => match sx_capp n env (sx_args 0 as) aw c with
      | some G => k (G.1, G.2.1 ++ env, G.2.2.2.2, G.2.2.1)
      | none => true)
  | none => match ora.1 j env as aw with
    | some alts => alts.all fun t => sx_push t.1.1 t.1.2 n env fun n env v => k (n, env, some v, sx_fgt aw t.2)
    | none => match ora.2 j n env as aw with
      | some outs => outs.all k
      | none => R y (AN j) [] false 0 0 0 n env (sx_args 0 as) [] aw k
def sx_run (AN : Nat → List (Nat × sx_An)) (CU : Nat → Option (List sx_Cu)) (ora : sx_OR) : Nat → sx_Rn
  | 0 => fun _ _ _ _ _ _ _ _ _ _ _ _ _ => false
  | f + 1 => fun x an act fl pc ca sl n env al ast aw k => match (bif fl then none else sx_lka pc an) with
    | some (.inl (ops, j, dir)) => (bif act.any (fun h => Nat.beq h.1 pc) then act.any (fun h => Nat.beq h.1 pc && sx_bk h ca sl env al ast aw) else (match ast, sx_gl env ops (n, [], al, aw, []) with
        | [], some s => (match sx_bd (n + j) s.2.1 with
          | some b => if n ≤ s.1 ∧ (dir = 1 ∨ dir = -1) then sx_run AN CU ora f x an ((pc, n, s.2.2.2.2, s.2.1, s.1, env, s.2.2.1, s.2.2.2.1, n + j, dir, b.1, b.2, ca, sl) :: act) true pc ca sl s.1 (s.2.1 ++ env) s.2.2.1 [] s.2.2.2.1 k else false
          | none => false)
        | _, _ => false))
    | some (.inr xs) => (match sx_spf env al xs with
      | some (a, lo, hi) => (List.range (hi - lo + 1).toNat).all fun t => sx_run AN CU ora f x an act false pc ca sl n (sx_rf env a (lo + t) (lo + t)) al ast aw k
      | none => sx_run AN CU ora f x an act true pc ca sl n env al ast aw k)
    | none => (match pm_fetch x.2.2.2 pc with
      | some e => sx_ins x.1 (fun pc ca sl n env al ast aw => sx_run AN CU ora f x an act false pc ca sl n env al ast aw k) (sx_cal AN CU ora (sx_run AN CU ora f)) k pc ca sl n env al ast aw e
      | none => false)
def sx_rnOK (sc : pm_Z) (Ψ : List Int → Prop) (w0 : pm_W) (R : sx_Rn) : Prop := ∀ x an act fl pc ca sl n env al ast aw k g0 g lv st w (P : Option Value → pm_W → Prop), R x an act fl pc ca sl n env al ast aw k = true → pm_kb x.1 x.2.2.2 = true → sx_scr sc Ψ g0 → g0 <+: g → sx_m w0 g (n, env, al, ast, aw) lv st w → (∀ h ∈ act, sx_hOK sc x.1 w0 P g h) → (∀ g' o r w', g0 <+: g' → k o = true → sx_mo w0 g' o r w' → P r w') → pm_Good sc x.1 pc lv st w ca sl P
theorem sx_fgt_pre {w0 : pm_W} {g g' : List Int} (h : g <+: g') {aw : List sx_C} {l : List Nat} {w : pm_W} (hw : sx_w w0 g (sx_fgt aw l) w) : sx_w w0 g' (sx_fgt aw l) w := sx_w_pre h hw
theorem sx_cal_ok {Ψ : List Int → Prop} {w0 : pm_W} {AN : Nat → List (Nat × sx_An)} {CU : Nat → Option (List sx_Cu)} {ora : sx_OR} {R : sx_Rn} (hR : sx_rnOK sc Ψ w0 R) (hO : sx_orOK sc Ψ w0 ora) : sx_caOK sc Ψ w0 (sx_cal AN CU ora R) := by
  intro j y n env as aw k g As w h hy hc hsg hn hA hw
  have hm : sx_m w0 g (n, env, sx_args 0 as, [], aw) (lv_args 0 As) [] w := ⟨hn, sx_args_ok 0 hA hc, trivial, hw⟩
  unfold sx_cal at h
  split at h
  · rename_i cs hcs
    simp only [Bool.and_eq_true] at h
    refine pm_mono ?_ (hR _ _ _ _ _ _ _ _ _ _ _ _ _ g g _ _ _ (sx_P w0 g _) h.1 (pm_mt_ok hy).2 hsg List.prefix_rfl hm (fun h9 hh => by cases hh) (fun g' o r w' p1 p2 p3 => ⟨g', o, p1, p2, p3⟩))
    intro r w' hp
    obtain ⟨g2, o, p1, p2, p3⟩ := hp
    obtain ⟨c, hc1, hc2⟩ := List.any_eq_true.mp p2
    have hc3 := List.all_eq_true.mp h.2 c hc1
    split at hc2
    · rename_i G hG
      rw [hG] at hc3
      obtain ⟨g', q1, q2⟩ := sx_cfit_ok hc2 hn p1 p3
      exact ⟨g', _, q1, hc3, q2⟩
    · cases hc2
  · split at h
    · rename_i alts ha
      refine pm_mono ?_ (hO.1 j y n env as aw alts g As w ha hy hn hA hw)
      intro r w' hp
      obtain ⟨t, ht, x, rfl, e1, e2, e3⟩ := hp
      have h1 := List.all_eq_true.mp h t ht
      obtain ⟨n', env', v, g', q1, q2, q3, q4⟩ := sx_push_ok h1 hn e1 e2
      exact ⟨g', _, q1, q4, q2, q3, sx_w_pre q1 e3⟩
    · split at h
      · rename_i outs ho
        refine pm_mono ?_ (hO.2 j y n env as aw outs g As w ho hy hsg.2 hn hA hw)
        intro r w' hp
        obtain ⟨o, ho1, g', q1, q2⟩ := hp
        exact ⟨g', o, q1, List.all_eq_true.mp h o ho1, q2⟩
      · exact hR _ _ _ _ _ _ _ _ _ _ _ _ _ g g _ _ _ (sx_P w0 g k) h (pm_mt_ok hy).2 hsg List.prefix_rfl hm (fun h9 hh => by cases hh) (fun g' o r w' p1 p2 p3 => ⟨g', o, p1, p2, p3⟩)
set_option maxHeartbeats 4000000 in
theorem sx_run_ok {Ψ : List Int → Prop} {w0 : pm_W} {AN : Nat → List (Nat × sx_An)} {CU : Nat → Option (List sx_Cu)} {ora : sx_OR} (hO : sx_orOK sc Ψ w0 ora) : ∀ f, sx_rnOK sc Ψ w0 (sx_run AN CU ora f)
  | 0 => fun x an act fl pc ca sl n env al ast aw k g0 g lv st w P h => by cases h
  | f + 1 => by
    have ih := sx_run_ok (AN := AN) (CU := CU) hO f
    intro x an act fl pc ca sl n env al ast aw k g0 g lv st w P h hx hsc hp hm hact hkP
    unfold sx_run at h
    split at h
    · rename_i ops j dir _
      cases hany : act.any (fun h => Nat.beq h.1 pc) with
      | true =>
        rw [hany] at h
        simp only [cond_true] at h
        obtain ⟨h9, e1, e2⟩ := List.any_eq_true.mp h
        simp only [Bool.and_eq_true] at e2
        have := sx_bk_ok e2.2 (hact h9 e1) hm
        rw [Nat.eq_of_beq_eq_true e2.1] at this
        exact this
      | false =>
        rw [hany] at h
        simp only [cond_false] at h
        split at h
        · rename_i s hgl
          split at h
          · rename_i b hbd
            split at h
            · rename_i hcc
              obtain ⟨hn, hl, hs, hw⟩ := hm
              simp only at hn hl hs hw
              cases st with
              | cons v st => cases hs
              | nil =>
                obtain ⟨g1, p1, m1, m2, m3⟩ := sx_gl_ok hgl ⟨hn, hl, hw⟩
                have hgn : g.length = n := hn.1
                have h0 : 0 < n := by
                  have := (List.getElem?_eq_some_iff.mp hn.2.1).1
                  omega
                have key : ∀ (N : Nat) (gh : List Int) (lv : pm_L) (w : pm_W) (z : Int), gh.take n = g → sx_m w0 gh (s.1, s.2.1 ++ env, s.2.2.1, [], s.2.2.2.1) lv [] w → gh[n + j]? = some z → (if dir = 1 then (b.2 - z).toNat else (z - b.1).toNat) < N → pm_Good sc x.1 pc lv [] w ca sl P := by
                  intro N
                  induction N with
                  | zero => intro gh lv w z _ _ _ hN; exact absurd hN (Nat.not_lt_zero _)
                  | succ N ihN =>
                    intro gh lv w z ht hgm hz hN
                    have hgp : g <+: gh := by
                      rw [← ht]
                      exact List.take_prefix _ _
                    refine ih x an _ true pc ca sl s.1 (s.2.1 ++ env) s.2.2.1 [] s.2.2.2.1 k g0 gh lv [] w P h hx hsc (hp.trans hgp) hgm (fun h9 hh => ?_) hkP
                    rcases List.mem_cons.mp hh with rfl | hh
                    · have hbz : ∀ {g2 : List Int} {lv2 : pm_L} {w2 : pm_W}, sx_m w0 g2 (s.1, s.2.1 ++ env, s.2.2.1, [], s.2.2.2.1) lv2 [] w2 → ∀ {z2 : Int}, g2[n + j]? = some z2 → b.1 ≤ z2 ∧ z2 ≤ b.2 := by
                        intro g2 lv2 w2 hm2 z2 hz2
                        obtain ⟨y, y1, y2, y3⟩ := sx_bd_ok (n := s.1) (fun q hq => hm2.1.2.2 q (List.mem_append_left _ hq)) hbd
                        rw [hz2] at y1
                        cases y1
                        exact ⟨y2, y3⟩
                      refine ⟨gh, List.prefix_rfl, h0, by rw [hgm.1.1]; exact hcc.1, by rw [ht]; exact hn, Or.inr (List.getElem?_eq_some_iff.mp hz).1, ?_⟩
                      intro g2 lv2 w2 t2 hm2 hd0
                      rcases hd0 with hd0 | ⟨zm, z2, hzm, hz2, hd2⟩
                      · exfalso
                        rcases hcc.2 with hd | hd <;> omega
                      rw [hz] at hzm
                      cases hzm
                      refine ihN g2 lv2 w2 z2 (t2.trans ht) hm2 hz2 ?_
                      have b1 := hbz hgm hz
                      have b2 := hbz hm2 hz2
                      rcases hcc.2 with hd | hd
                      · rw [if_pos hd] at hN ⊢
                        rw [hd] at hd2
                        omega
                      · have hnd : ¬ dir = 1 := by omega
                        rw [if_neg hnd] at hN ⊢
                        rw [hd] at hd2
                        omega
                    · exact sx_hOK_mono hgp (hact h9 hh)
                obtain ⟨z, hz1, hz2, hz3⟩ := sx_bd_ok (n := s.1) (fun q hq => m1.2.2 q (List.mem_append_left _ hq)) hbd
                have ht1 : g1.take n = g := by
                  rw [sx_take_pre p1 (by omega), ← hgn, List.take_length]
                exact key _ g1 lv w z ht1 ⟨m1, m2, trivial, m3⟩ hz1 (Nat.lt_succ_self _)
            · cases h
          · cases h
        · cases h
    · rename_i xs _
      obtain ⟨hn, hl, hs, hw⟩ := id hm
      simp only at hn hl hs hw
      split at h
      · rename_i a lo hi hsp
        obtain ⟨v, r1, r2, r3⟩ := sx_spf_ok hn hl hsp
        have h1 := List.all_eq_true.mp h (v.toInt - lo).toNat (List.mem_range.mpr (by omega))
        have e : lo + ((v.toInt - lo).toNat : Int) = v.toInt := by omega
        rw [e] at h1
        exact ih _ _ _ _ _ _ _ _ _ _ _ _ _ g0 g lv st w P h1 hx hsc hp ⟨sx_rf_ok hn r1 (Int.le_refl _) (Int.le_refl _), hl, hs, hw⟩ hact hkP
      · exact ih _ _ _ _ _ _ _ _ _ _ _ _ _ g0 g lv st w P h hx hsc hp hm hact hkP
    · split at h
      · rename_i e he
        refine sx_ins_ok (g0 := g) (sx_scr_pre hp hsc) ?_ (sx_cal_ok ih hO) ?_ h (pm_kb_ok hx he) List.prefix_rfl hm
        · intro pc' ca' sl' n' env' al' ast' aw' g' lv' st' w' hg hp' hm'
          exact ih _ _ _ _ _ _ _ _ _ _ _ _ _ g0 g' lv' st' w' P hg hx hsc (hp.trans hp') hm' (fun h9 hh => sx_hOK_mono hp' (hact h9 hh)) hkP
        · intro g' o r w' hp' hk hmo
          exact hkP g' o r w' (hp.trans hp') hk hmo
      · cases h
end SC0
