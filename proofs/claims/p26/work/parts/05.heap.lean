/-! rows: fields, arrays, new cells -/
section SC0
variable {sc : pm_Z}
def pm_fty (r : vw_C) (k : Nat) : FieldType := (parseFieldDescriptor (r.2.1 k).2.2.1).getD .int
theorem pm_cl_w0 : ∀ r ∈ pm_cl, ∀ w ∈ u_ws r.1 r.2.1 r.2.2, w ∈ lw_tbl := by decide +kernel
theorem pm_cl_g0 : ∀ r ∈ pm_cl, ∀ w ∈ u_ws r.1 r.2.1 r.2.2, goodWord w = true := by decide +kernel
theorem pm_cl_t0 : ∀ r ∈ pm_cl, ∀ k, k < r.2.2 → parseFieldDescriptor (r.2.1 k).2.2.1 = some (pm_fty r k) := by decide +kernel
theorem pm_cl_n0 : ∀ r ∈ pm_cl, ∀ a, a < r.2.2 → ∀ b, b < r.2.2 → a ≠ b → (r.2.1 a).2.1 ≠ (r.2.1 b).2.1 := by decide +kernel
theorem pm_cl_w {ci : Nat} {r : vw_C} (h : pm_cl[ci]? = some r) : ∀ w ∈ u_ws r.1 r.2.1 r.2.2, w ∈ pm_T := fun w hw => List.mem_filter.mpr ⟨pm_cl_w0 r (List.mem_of_getElem? h) w hw, pm_cl_g0 r (List.mem_of_getElem? h) w hw⟩
theorem pm_upd_set {xs : List Int32} {i : Nat} (x : Int32) (h : i < xs.length) : upd (fun j => xs.getD j 0) i x = fun j => (xs.set i x).getD j 0 := by
  funext j
  unfold upd
  by_cases hj : j = i
  · subst hj
    rw [if_pos rfl]
    simp [List.getD, h]
  · rw [if_neg hj]
    simp [List.getD, List.getElem?_set, Ne.symm hj]
def pm_fit : FieldType → Value → Bool
  | .int, .int _ => true
  | .object _, .ref _ => true
  | .array _, .ref _ => true
  | _, _ => false
theorem pm_fit_ok {ty : FieldType} {v : Value} (G : pm_G) (ad : Nat → Nat) (h : pm_fit ty v = true) : narrow ty (pm_tv G ad v) = pm_tv G ad v ∧ fits ty (pm_tv G ad v) = true := by
  unfold pm_fit at h
  split at h
  · exact ⟨rfl, rfl⟩
  · exact ⟨rfl, rfl⟩
  · exact ⟨rfl, rfl⟩
  · cases h
/-- the references of a value, of a world, are cells that there are -/
def pm_wfv (n : Nat) : Value → Bool
  | .ref k => Nat.blt k n
  | _ => true
def pm_wfc (n : Nat) : pm_C → Bool
  | .inl _ => true
  | .inr o => o.2.all (pm_wfv n)
def pm_wfw (n : Nat) (w : pm_W) : Bool := w.all (pm_wfc n)
def pm_wfl (n : Nat) (lv : pm_L) : Bool := lv.all (fun q => pm_wfv n q.2)
theorem pm_tv_eq {n : Nat} {v : Value} {G : pm_G} {ad ad' : Nat → Nat} (ha : ∀ k, k < n → ad' k = ad k) (h : pm_wfv n v = true) : pm_tv G ad' v = pm_tv G ad v := by
  cases v with
  | ref k =>
    have hk : k < n := by simpa [pm_wfv, Nat.blt_eq] using h
    show Value.ref _ = Value.ref _
    rw [ha k hk]
  | retAddr k =>
    match k with
    | 0 => rfl
    | 1 => rfl
    | 3 => rfl
    | 2 => rfl
    | k + 4 => rfl
  | _ => rfl
theorem pm_st_eq {n : Nat} {st : List Value} {G : pm_G} {ad ad' : Nat → Nat} (ha : ∀ k, k < n → ad' k = ad k) (h : st.all (pm_wfv n) = true) : st.map (pm_tv G ad') = st.map (pm_tv G ad) := by
  apply List.map_congr_left
  intro v hv
  exact pm_tv_eq ha (List.all_eq_true.mp h v hv)
theorem pm_lt_eq {n : Nat} {lv : pm_L} {G : pm_G} {ad ad' : Nat → Nat} (ha : ∀ k, k < n → ad' k = ad k) (h : pm_wfl n lv = true) : pm_lt G ad' lv = pm_lt G ad lv := by
  unfold pm_lt
  apply List.map_congr_left
  intro q hq
  rw [pm_tv_eq ha (List.all_eq_true.mp h q hq)]
theorem pm_ce_r (G : pm_G) (ad : Nat → Nat) (ci : Nat) (fs : List Value) : pm_ce G ad (.inr (ci, fs)) = .inr (ci, fs.map (pm_tv G ad)) := rfl
theorem pm_ce_l (G : pm_G) (ad : Nat → Nat) (k : Nat) (xs : List Int32) : pm_ce G ad (.inl (k, xs)) = .inl (if k = 0 then G.2.1 else G.2.2.1, xs.length, .inl (fun j => xs.getD j 0)) := rfl
theorem pm_ce_eq {n : Nat} {c : pm_C} {G : pm_G} {ad ad' : Nat → Nat} (ha : ∀ k, k < n → ad' k = ad k) (h : pm_wfc n c = true) : pm_ce G ad' c = pm_ce G ad c := by
  cases c with
  | inl a => rfl
  | inr o =>
    show (Sum.inr (o.1, o.2.map (pm_tv G ad')) : va_E) = Sum.inr (o.1, o.2.map (pm_tv G ad))
    rw [pm_st_eq ha h]
theorem pm_cw_push {w : pm_W} {c : pm_C} {G : pm_G} {ad ad' : Nat → Nat} {q : Nat} (ha : ∀ k, k < w.length → ad' k = ad k) (hq : ad' w.length = q) (h : pm_wfw w.length w = true) (hc : pm_wfc w.length c = true) : pm_cw G ad' (w ++ [c]) = pm_cw G ad w ++ [(q, pm_ce G ad c)] := by
  unfold pm_cw
  rw [List.mapIdx_append]
  congr 1
  · apply List.ext_getElem?
    intro k
    rw [List.getElem?_mapIdx, List.getElem?_mapIdx]
    cases hk : w[k]? with
    | none => rfl
    | some c9 =>
      have hl : k < w.length := (List.getElem?_eq_some_iff.mp hk).1
      simp only [Option.map_some]
      rw [ha k hl, pm_ce_eq ha (List.all_eq_true.mp h c9 (List.mem_of_getElem? hk))]
  · simp [hq, pm_ce_eq ha hc]
section PMH
variable {M : pm_M} {pc : Nat} {lv : pm_L} {st : List Value} {w : pm_W} {ca sl : Nat} {P : Option Value → pm_W → Prop}
theorem pm_getf {idx q ci k : Nat} {fs : List Value} {r : vw_C} {v : Value} (hd : decode M.2.1 pc = .ok (.getfield idx, 3)) (hw : w[q]? = some (.inr (ci, fs))) (hc : pm_cl[ci]? = some r) (hk : k < r.2.2) (hlk : Cond.fieldLink M.1.cls idx (r.2.1 k).1 (r.2.1 k).2.1 (r.2.1 k).2.2.1 ∈ pm_T) (hv : fs[k]? = some v)
    (h : pm_Good sc M (pc + 3) lv (v :: st) w ca sl P) : pm_Good sc M pc lv (.ref q :: st) w ca sl P := by
  intro l p e s m args below meth c9 G A ad0 ad n0 H locs ls h1 h2 h3 h4 h5 h6
  have hk9 := h l p e s m args below meth c9 G A ad0 ad n0 H locs ls h1 h2 h3 h4 h5 h6
  obtain ⟨hx, hb, -, -, hown, hts, -⟩ := h1
  obtain ⟨hK, hP, -⟩ := h2
  exact va_get (D := G.1) (ci := ci) (v := pm_tv G ad v) (C := r.1) (T := r.2.1) (N := r.2.2) hx hb hts (pm_cl_w hc) hown hK hP q (pm_cw_at hw) hc k hk (hts _ hlk) (fun _ h9 => h9) (by rw [List.getElem?_map, hv]; rfl) hd hk9
theorem pm_putf {idx q ci k : Nat} {fs : List Value} {r : vw_C} {v : Value} (hd : decode M.2.1 pc = .ok (.putfield idx, 3)) (hw : w[q]? = some (.inr (ci, fs))) (hc : pm_cl[ci]? = some r) (hk : k < r.2.2) (hlk : Cond.fieldLink M.1.cls idx (r.2.1 k).1 (r.2.1 k).2.1 (r.2.1 k).2.2.1 ∈ pm_T)
    (hfin : (r.2.1 k).2.2.2 = false ∨ ((r.2.1 k).2.2.2 = true ∧ M.1.name = "<init>" ∧ (r.2.1 k).1 = M.1.cls)) (hfit : pm_fit (pm_fty r k) v = true) (hl : k < fs.length)
    (h : pm_Good sc M (pc + 3) lv st (w.set q (.inr (ci, fs.set k v))) ca sl P) : pm_Good sc M pc lv (v :: .ref q :: st) w ca sl P := by
  intro l p e s m args below meth c9 G A ad0 ad n0 H locs ls h1 h2 h3 h4 h5 h6
  have hk9 := fun H1 locs1 z => h l p e s m args below meth c9 G A ad0 ad n0 H1 locs1 ls h1 z (by rw [List.length_set]; exact h3) h4 h5 h6
  obtain ⟨hx, hb, -, -, hown, hts, -, hnm⟩ := h1
  obtain ⟨hK, hP, hD, hS, hA, hN, hT⟩ := h2
  have e1 : (pm_cw G ad w).set q (ad q, .inr (ci, (fs.map (pm_tv G ad)).set k (pm_tv G ad v))) = pm_cw G ad (w.set q (.inr (ci, fs.set k v))) := by
    rw [← pm_cw_set, pm_ce_r, List.map_set]
  have hm := List.mem_of_getElem? hc
  have hf := pm_fit_ok G ad hfit
  have hl9 : k < (fs.map (pm_tv G ad)).length := by rw [List.length_map]; exact hl
  rcases hfin with hfin | ⟨hfin, hi, ho⟩
  · refine va_put (D := G.1) (ci := ci) (v := pm_tv G ad v) (ty := pm_fty r k) (C := r.1) (T := r.2.1) (N := r.2.2) hx hb hts (pm_cl_w hc) (pm_fty r) (pm_cl_t0 r hm) (pm_cl_n0 r hm) hown hK hP hD hS q (pm_cw_at hw) hc k hk (hts _ hlk) (fun _ h9 => h9) hfin (pm_cl_t0 r hm k hk) hf.1 hf.2 hl9 hd (fun H1 locs1 a1 a2 a3 => ?_)
    exact hk9 H1 locs1 ⟨hK, e1 ▸ a1, e1 ▸ a2, a3, hA, hN, hT⟩
  · refine va_putF (D := G.1) (ci := ci) (v := pm_tv G ad v) (ty := pm_fty r k) (C := r.1) (T := r.2.1) (N := r.2.2) hx hb hts (pm_cl_w hc) (pm_fty r) (pm_cl_t0 r hm) (pm_cl_n0 r hm) hown hK hP hD hS q (pm_cw_at hw) hc k hk (hts _ hlk) (fun _ h9 => h9) hfin (hnm hi) ho (pm_cl_t0 r hm k hk) hf.1 hf.2 hl9 hd (fun H1 locs1 a1 a2 a3 => ?_)
    exact hk9 H1 locs1 ⟨hK, e1 ▸ a1, e1 ▸ a2, a3, hA, hN, hT⟩
theorem pm_iald {q : Nat} {xs : List Int32} {i : Int32} (hd : decode M.2.1 pc = .ok (.iaload, 1)) (hw : w[q]? = some (.inl (0, xs))) (hi : vp_in i xs.length) (h : pm_Good sc M (pc + 1) lv (.int (xs.getD i.toNatClampNeg 0) :: st) w ca sl P) : pm_Good sc M pc lv (.int i :: .ref q :: st) w ca sl P := by
  intro l p e s m args below meth c9 G A ad0 ad n0 H locs ls h1 h2 h3 h4 h5 h6
  have hk9 := h l p e s m args below meth c9 G A ad0 ad n0 H locs ls h1 h2 h3 h4 h5 h6
  obtain ⟨hx, hb, -⟩ := h1
  obtain ⟨hK, hP, -⟩ := h2
  exact va_iald (D := G.1) hx hb hK hP q 0 (pm_cw_at hw) rfl hi hd hk9
theorem pm_cald {q k : Nat} {xs : List Int32} {i : Int32} (hd : decode M.2.1 pc = .ok (.caload, 1)) (hw : w[q]? = some (.inl (k + 1, xs))) (hi : vp_in i xs.length) (h : pm_Good sc M (pc + 1) lv (.int (xs.getD i.toNatClampNeg 0) :: st) w ca sl P) : pm_Good sc M pc lv (.int i :: .ref q :: st) w ca sl P := by
  intro l p e s m args below meth c9 G A ad0 ad n0 H locs ls h1 h2 h3 h4 h5 h6
  have hk9 := h l p e s m args below meth c9 G A ad0 ad n0 H locs ls h1 h2 h3 h4 h5 h6
  obtain ⟨hx, hb, -⟩ := h1
  obtain ⟨hK, hP, -⟩ := h2
  exact va_cald (D := G.1) hx hb hK hP q 1 (pm_cw_at hw) rfl hi hd hk9
theorem pm_in_lt {i : Int32} {n : Nat} (h : vp_in i n) : i.toNatClampNeg < n := Nat.not_le.mp fun q => h (Or.inr q)
theorem pm_iast {q : Nat} {xs : List Int32} {i x : Int32} (hd : decode M.2.1 pc = .ok (.iastore, 1)) (hw : w[q]? = some (.inl (0, xs))) (hi : vp_in i xs.length) (h : pm_Good sc M (pc + 1) lv st (w.set q (.inl (0, xs.set i.toNatClampNeg x))) ca sl P) : pm_Good sc M pc lv (.int x :: .int i :: .ref q :: st) w ca sl P := by
  intro l p e s m args below meth c9 G A ad0 ad n0 H locs ls h1 h2 h3 h4 h5 h6
  have hk9 := fun H1 locs1 z => h l p e s m args below meth c9 G A ad0 ad n0 H1 locs1 ls h1 z (by rw [List.length_set]; exact h3) h4 h5 h6
  obtain ⟨hx, hb, -⟩ := h1
  obtain ⟨hK, hP, hD, hS, hA, hN, hT⟩ := h2
  refine va_iast (D := G.1) hx hb hK hP hD hS q 0 (pm_cw_at hw) rfl hi hd (fun H1 locs1 a1 a2 a3 => ?_)
  have e1 : (pm_cw G ad w).set q (ad q, .inl (G.2.1, xs.length, .inl (upd (fun j => xs.getD j 0) i.toNatClampNeg x))) = pm_cw G ad (w.set q (.inl (0, xs.set i.toNatClampNeg x))) := by
    rw [← pm_cw_set, pm_upd_set x (pm_in_lt hi)]
    unfold pm_ce
    simp
  exact hk9 H1 locs1 ⟨hK, e1 ▸ a1, e1 ▸ a2, a3, hA, hN, hT⟩
theorem pm_cast {q k : Nat} {xs : List Int32} {i x : Int32} (hd : decode M.2.1 pc = .ok (.castore, 1)) (hw : w[q]? = some (.inl (k + 1, xs))) (hi : vp_in i xs.length) (h : pm_Good sc M (pc + 1) lv st (w.set q (.inl (k + 1, xs.set i.toNatClampNeg (vp_nar .char x)))) ca sl P) : pm_Good sc M pc lv (.int x :: .int i :: .ref q :: st) w ca sl P := by
  intro l p e s m args below meth c9 G A ad0 ad n0 H locs ls h1 h2 h3 h4 h5 h6
  have hk9 := fun H1 locs1 z => h l p e s m args below meth c9 G A ad0 ad n0 H1 locs1 ls h1 z (by rw [List.length_set]; exact h3) h4 h5 h6
  obtain ⟨hx, hb, -⟩ := h1
  obtain ⟨hK, hP, hD, hS, hA, hN, hT⟩ := h2
  refine va_cast (D := G.1) hx hb hK hP hD hS q 1 (pm_cw_at hw) rfl hi hd (fun H1 locs1 a1 a2 a3 => ?_)
  have e1 : (pm_cw G ad w).set q (ad q, .inl (G.2.2.1, xs.length, .inl (upd (fun j => xs.getD j 0) i.toNatClampNeg (vp_nar .char x)))) = pm_cw G ad (w.set q (.inl (k + 1, xs.set i.toNatClampNeg (vp_nar .char x)))) := by
    rw [← pm_cw_set, pm_upd_set (vp_nar .char x) (pm_in_lt hi)]
    unfold pm_ce
    simp
  exact hk9 H1 locs1 ⟨hK, e1 ▸ a1, e1 ▸ a2, a3, hA, hN, hT⟩
theorem pm_alen {q k : Nat} {xs : List Int32} (hd : decode M.2.1 pc = .ok (.arraylength, 1)) (hw : w[q]? = some (.inl (k, xs))) (h : pm_Good sc M (pc + 1) lv (.int (Int32.ofNat xs.length) :: st) w ca sl P) : pm_Good sc M pc lv (.ref q :: st) w ca sl P := by
  intro l p e s m args below meth c9 G A ad0 ad n0 H locs ls h1 h2 h3 h4 h5 h6
  have hk9 := h l p e s m args below meth c9 G A ad0 ad n0 H locs ls h1 h2 h3 h4 h5 h6
  obtain ⟨hx, hb, -⟩ := h1
  obtain ⟨hK, hP, -⟩ := h2
  by_cases hk0 : k = 0
  · have hw9 := pm_cw_at (G := G) (ad := ad) hw
    rw [pm_ce_l, if_pos hk0] at hw9
    exact va_alen (D := G.1) hx hb hK hP q 0 hw9 rfl rfl hd hk9
  · have hw9 := pm_cw_at (G := G) (ad := ad) hw
    rw [pm_ce_l, if_neg hk0] at hw9
    exact va_alen (D := G.1) hx hb hK hP q 1 hw9 rfl rfl hd hk9
theorem pm_rep (N : Nat) : (fun j => (List.replicate N (0 : Int32)).getD j 0) = fun _ => 0 := by
  funext j
  simp [List.getD, List.getElem?_replicate]
  split <;> rfl
theorem pm_newa {aty : ArrayType} {kd N : Nat} {n : Int32} (hd : decode M.2.1 pc = .ok (.newarray aty, 2)) (hty : (aty = .int ∧ kd = 0) ∨ (aty = .char ∧ kd = 1)) (harr : Cond.arrayClass (newarray.typeOf aty) ∈ pm_T) (hn : ¬ n < 0) (hN : n.toNatClampNeg = N) (hN2 : N ≤ 10000) (hca : ca + 1 ≤ M.2.2.2.2.cells) (hsl : sl + N ≤ M.2.2.2.2.slots)
    (hf1 : pm_wfw w.length w = true) (hf2 : pm_wfl w.length lv = true) (hf3 : st.all (pm_wfv w.length) = true) (h : pm_Good sc M (pc + 2) lv (.ref w.length :: st) (w ++ [.inl (kd, List.replicate N 0)]) (ca + 1) (sl + N) P) : pm_Good sc M pc lv (.int n :: st) w ca sl P := by
  intro l p e s m args below meth c9 G A ad0 ad n0 H locs ls h1 h2 h3 h4 h5 h6
  have h19 := id h1
  obtain ⟨hx, hb, -, -, -, hts, -⟩ := h1
  obtain ⟨hK, hP, hD, hS, hA, hNs, hT⟩ := h2
  have key : ∀ (ty : FieldType) (cI : ClassId), newarray.typeOf aty = ty → (cI, ty) ∈ pm_tys G → (ty = .int ∨ ty = .char) → pm_ce G ad (.inl (kd, List.replicate N 0)) = .inl (cI, N, .inl (fun _ => 0)) →
      W p l e M.2.2.2.2 s m args below meth c9 H locs ca sl (MQ below (pm_Q P G A ad0 n0) args s M.2.2.2.2.cells M.2.2.2.2.slots A) (F0 m pc ls ((Value.int n :: st).map (pm_tv G ad))) := by
    intro ty cI e1 hm hic hce
    refine va_newa (D := G.1) (ty := ty) (N' := N) (a0 := (N, .inl (fun _ => 0))) hx hb (hts _ harr) e1 hK hP hD hS hA ?_ hn hN ?_ hca hsl hd (fun q cA H1 b1 b2 b3 b4 => ?_)
    · intro cA
      rw [vp_cell_i]
      rcases hic with rfl | rfl <;> rfl
    · rcases hic with rfl | rfl <;> simp [componentBytes] <;> omega
    · have hcA : cA = cI := by
        obtain ⟨i, hi⟩ := List.getElem?_of_mem hm
        have g1 := (hK.2 i _ hi).2
        have g2 := (b1.2 2 (cA, ty) (by simp [pm_tys])).2
        rcases hic with rfl | rfl
        · exact Option.some.inj (g2.symm.trans g1)
        · exact Option.some.inj (g2.symm.trans g1)
      subst hcA
      have ha : ∀ k, k < w.length → (fun k => if k = w.length then q else ad k) k = ad k := fun k hk => if_neg (Nat.ne_of_lt hk)
      have e2 := pm_cw_push (G := G) (w := w) (c := .inl (kd, List.replicate N 0)) (q := q) ha (if_pos rfl) hf1 rfl
      rw [hce] at e2
      have hk9 := h l p e s m args below meth c9 G A ad0 (fun k => if k = w.length then q else ad k) n0 H1 locs ls h19 ⟨hK, by rw [e2]; exact b2, by rw [e2]; exact b3, b4, hA, hNs, hT⟩ ⟨by simp; have := h3.1; omega, fun k hk => by
        have hk2 : k < n0 ∨ w.length + 1 ≤ k := by simpa using hk
        have hne : k ≠ w.length := by have := h3.1; omega
        show (if k = w.length then q else ad k) = ad0 k
        rw [if_neg hne]
        exact h3.2 k (by omega)⟩ (by rw [pm_lt_eq ha hf2]; exact h4) hca hsl
      have e3 : ((Value.ref w.length :: st).map (pm_tv G (fun k => if k = w.length then q else ad k))) = Value.ref q :: st.map (pm_tv G ad) := by
        rw [List.map_cons, pm_st_eq ha hf3]
        show Value.ref (if w.length = w.length then q else _) :: _ = _
        rw [if_pos rfl]
      rw [e3] at hk9
      exact hk9
  rcases hty with ⟨rfl, rfl⟩ | ⟨rfl, rfl⟩
  · exact key .int G.2.1 rfl (by simp [pm_tys]) (Or.inl rfl) (by rw [pm_ce_l, pm_rep, List.length_replicate]; rfl)
  · exact key .char G.2.2.1 rfl (by simp [pm_tys]) (Or.inr rfl) (by rw [pm_ce_l, pm_rep, List.length_replicate]; rfl)
def pm_dfs (r : vw_C) : List Value := (List.range r.2.2).map (fun k => defaultValue (pm_fty r k))
theorem pm_dv (ty : FieldType) (G : pm_G) (ad : Nat → Nat) : pm_tv G ad (defaultValue ty) = defaultValue ty := by cases ty <;> rfl
theorem pm_dfs_tv (r : vw_C) (G : pm_G) (ad : Nat → Nat) : (pm_dfs r).map (pm_tv G ad) = pm_dfs r := by
  unfold pm_dfs
  rw [List.map_map]
  apply List.map_congr_left
  intro k _
  exact pm_dv _ G ad
theorem pm_dfs_wf (r : vw_C) (n : Nat) : (pm_dfs r).all (pm_wfv n) = true := by
  rw [List.all_eq_true]
  intro v hv
  unfold pm_dfs at hv
  obtain ⟨k, -, rfl⟩ := List.mem_map.mp hv
  cases pm_fty r k <;> rfl
theorem pm_new {idx ci : Nat} {r : vw_C} (hd : decode M.2.1 pc = .ok (.new idx, 3)) (hc : pm_cl[ci]? = some r) (hcl : Cond.classLink M.1.cls idx r.1 ∈ pm_T) (hins : Cond.instantiable r.1 r.2.2 ∈ pm_T) (hini : Cond.initialized r.1 ∈ pm_T) (hca : ca + 1 ≤ M.2.2.2.2.cells) (hsl : sl + r.2.2 ≤ M.2.2.2.2.slots)
    (hf1 : pm_wfw w.length w = true) (hf2 : pm_wfl w.length lv = true) (hf3 : st.all (pm_wfv w.length) = true) (h : pm_Good sc M (pc + 3) lv (.ref w.length :: st) (w ++ [.inr (ci, pm_dfs r)]) (ca + 1) (sl + r.2.2) P) : pm_Good sc M pc lv st w ca sl P := by
  intro l p e s m args below meth c9 G A ad0 ad n0 H locs ls h1 h2 h3 h4 h5 h6
  have h19 := id h1
  obtain ⟨hx, hb, -, -, hown, hts, -⟩ := h1
  obtain ⟨hK, hP, hD, hS, hA, hNs, hT⟩ := h2
  have hm := List.mem_of_getElem? hc
  refine va_new (D := G.1) (ci := ci) (fs := pm_dfs r) (C := r.1) (T := r.2.1) (N := r.2.2) hx hb hts (pm_cl_w hc) (pm_fty r) (pm_cl_t0 r hm) hown (hts _ hcl) (hts _ hins) (hts _ hini) hK hP hD hS hA hc ?_ hca hsl hd (fun q H1 b2 b3 b4 => ?_)
  · intro j hj
    simp [vp_V, pm_dfs, hj]
  · have ha : ∀ k, k < w.length → (fun k => if k = w.length then q else ad k) k = ad k := fun k hk => if_neg (Nat.ne_of_lt hk)
    have e2 := pm_cw_push (G := G) (w := w) (c := .inr (ci, pm_dfs r)) (q := q) ha (if_pos rfl) hf1 (pm_dfs_wf r _)
    have hce : pm_ce G ad (.inr (ci, pm_dfs r)) = .inr (ci, pm_dfs r) := by
      rw [pm_ce_r, pm_dfs_tv]
    rw [hce] at e2
    have hk9 := h l p e s m args below meth c9 G A ad0 (fun k => if k = w.length then q else ad k) n0 H1 locs ls h19 ⟨hK, by rw [e2]; exact b2, by rw [e2]; exact b3, b4, hA, hNs, hT⟩ ⟨by simp; have := h3.1; omega, fun k hk => by
      have hk2 : k < n0 ∨ w.length + 1 ≤ k := by simpa using hk
      have hne : k ≠ w.length := by have := h3.1; omega
      show (if k = w.length then q else ad k) = ad0 k
      rw [if_neg hne]
      exact h3.2 k (by omega)⟩ (by rw [pm_lt_eq ha hf2]; exact h4) hca hsl
    have e3 : ((Value.ref w.length :: st).map (pm_tv G (fun k => if k = w.length then q else ad k))) = Value.ref q :: st.map (pm_tv G ad) := by
      rw [List.map_cons, pm_st_eq ha hf3]
      show Value.ref (if w.length = w.length then q else _) :: _ = _
      rw [if_pos rfl]
    rw [e3] at hk9
    exact hk9
/-- Object's constructor -/
theorem pm_obj {idx q : Nat} (hd : decode M.2.1 pc = .ok (.invokespecial idx, 3)) (hlk : Cond.methodLink M.1.cls idx objectInit ∈ pm_T) (h8 : Cond.instanceMethod objectInit ∈ pm_T) (h9 : Cond.code objectInit ⟨#[0xb1]⟩ 1 none ∈ pm_T) (hfr : 1 ≤ M.2.2.2.2.frames) (hlo : (st.map fun v => v.category).sum + 12 ≤ M.2.2.2.2.locals) (h : pm_Good sc M (pc + 3) lv st w ca sl P) : pm_Good sc M pc lv (.ref q :: st) w ca sl P := by
  intro l p e s m args below meth c9 G A ad0 ad n0 H locs ls h1 h2 h3 h4 h5 h6
  have hk9 := h l p e s m args below meth c9 G A ad0 ad n0 H locs ls h1 h2 h3 h4 h5 h6
  obtain ⟨hx, hb, -, hml, hown, hts, -⟩ := h1
  refine W.objInit hx hb hown (hts _ hlk) (hts _ h8) (hts _ h9) rfl (by rw [hml]; exact h4.1) rfl hd hfr ?_ hk9
  rw [pm_cats]
  show 2 * 0 + _ + 12 ≤ _
  omega
/-- System.arraycopy over int arrays -/
def pm_cpy (xs ys : List Int32) (sp dp n : Nat) : List Int32 := (List.range ys.length).map (fun k => if dp ≤ k ∧ k < dp + n then xs.getD (sp + (k - dp)) 0 else ys.getD k 0)
theorem pm_cpy_fn {xs ys : List Int32} {sp dp n : Nat} (h : dp + n ≤ ys.length) : va_cpy (fun j => xs.getD j 0) (fun j => ys.getD j 0) sp dp n = fun j => (pm_cpy xs ys sp dp n).getD j 0 := by
  funext j
  unfold va_cpy pm_cpy
  by_cases hj : j < ys.length
  · simp [List.getD, hj]
  · have h1 : ¬ (dp ≤ j ∧ j < dp + n) := by omega
    rw [if_neg h1]
    simp [List.getD, hj, List.getElem?_eq_none (Nat.not_lt.mp hj)]
theorem pm_acp {idx q0 q1 : Nat} {xs ys : List Int32} {sp dp n : Int32} (hd : decode M.2.1 pc = .ok (.invokestatic idx, 3)) (hlk : Cond.methodLink M.1.cls idx arraycopyName ∈ pm_T) (hnat : Cond.native arraycopyName ∈ pm_T) (hstat : Cond.static arraycopyName ∈ pm_T) (hini : Cond.initialized "java/lang/System" ∈ pm_T)
    (hw0 : w[q0]? = some (.inl (0, xs))) (hw1 : w[q1]? = some (.inl (0, ys))) (h1 : ¬ sp < 0) (h2 : ¬ dp < 0) (h3 : ¬ n < 0) (h4 : sp.toNatClampNeg + n.toNatClampNeg ≤ xs.length) (h5 : dp.toNatClampNeg + n.toNatClampNeg ≤ ys.length) (hfr : 1 ≤ M.2.2.2.2.frames) (hlo : (st.map fun v => v.category).sum + 18 ≤ M.2.2.2.2.locals)
    (h : pm_Good sc M (pc + 3) lv st (w.set q1 (.inl (0, pm_cpy xs ys sp.toNatClampNeg dp.toNatClampNeg n.toNatClampNeg))) ca sl P) : pm_Good sc M pc lv (.int n :: .int dp :: .ref q1 :: .int sp :: .ref q0 :: st) w ca sl P := by
  intro l p e s m args below meth c9 G A ad0 ad n0 H locs ls g1 g2 g3 g4 g5 g6
  have hk9 := fun H1 locs1 z => h l p e s m args below meth c9 G A ad0 ad n0 H1 locs1 ls g1 z (by rw [List.length_set]; exact g3) g4 g5 g6
  obtain ⟨hx, hb, -, hml, hown, hts, -⟩ := g1
  obtain ⟨hK, hP, hD, hS, hA, hN, hT⟩ := g2
  refine va_copyi (D := G.1) (ty := .int) hx hb (by rw [hml]; exact g4.1.symm) hown (hts _ hlk) (hts _ hnat) (hts _ hstat) (hts _ hini) hK hP hD hS q0 q1 0 0 (pm_cw_at hw0) (pm_cw_at hw1) rfl rfl rfl h1 h2 h3 h4 h5 (fun _ _ => rfl) hfr ?_ hd (fun H1 locs1 a1 a2 a3 => ?_)
  · rw [pm_cats]
    have e0 : nativeFrameWords "java/lang/System" "arraycopy" 5 = 7 := by decide +kernel
    omega
  · have e1 : (pm_cw G ad w).set q1 (ad q1, .inl (G.2.1, ys.length, .inl (va_cpy (fun j => xs.getD j 0) (fun j => ys.getD j 0) sp.toNatClampNeg dp.toNatClampNeg n.toNatClampNeg))) = pm_cw G ad (w.set q1 (.inl (0, pm_cpy xs ys sp.toNatClampNeg dp.toNatClampNeg n.toNatClampNeg))) := by
      rw [← pm_cw_set, pm_cpy_fn h5]
      unfold pm_ce
      simp [pm_cpy]
    exact hk9 H1 locs1 ⟨hK, e1 ▸ a1, e1 ▸ a2, a3, hA, hN, hT⟩
end PMH
end SC0
