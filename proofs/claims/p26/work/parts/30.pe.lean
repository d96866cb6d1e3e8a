/-! rules by the tables -/
section PE
variable {sc : pm_Z} {M : pm_M} {mk : pm_K} {pc : Nat} {lv : pm_L} {st : List Value} {w : pm_W} {ca sl : Nat} {P : Option Value → pm_W → Prop}
theorem pe_d {i : Instr} {ln a b p : Nat} (hx : pm_kb M mk = true) (he : pm_fetch mk pc = some (i, ln, a, b, p)) : decode M.2.1 pc = .ok (i, ln) := by
  have hb := pm_kb_ok hx he
  simp only [pm_eb, Bool.and_eq_true, decide_eq_true_eq] at hb
  exact hb.1
theorem pe_lb {e : pm_E} (hx : pm_kb M mk = true) (he : pm_fetch mk pc = some e) : pm_lb M pc e = true := by
  have hb := pm_kb_ok hx he
  simp only [pm_eb, Bool.and_eq_true, decide_eq_true_eq] at hb
  exact hb.2
theorem pe_getf {idx a b p q : Nat} {fs : List Value} {v : Value} (hx : pm_kb M mk = true) (he : pm_fetch mk pc = some (.getfield idx, 3, a, b, p)) (ha : a < 100) (hw : w[q]? = some (.inr (a, fs))) (hv : fs[b]? = some v) (h : pm_Good sc M (pc + 3) lv (v :: st) w ca sl P) : pm_Good sc M pc lv (.ref q :: st) w ca sl P := by
  have hlb := pe_lb hx he
  simp only [pm_lb] at hlb
  rw [if_neg (by omega), if_neg (by omega)] at hlb
  split at hlb
  · rename_i r hr
    simp only [Bool.and_eq_true, Nat.blt_eq] at hlb
    exact pm_getf (pe_d hx he) hw hr hlb.1 (pm_is_ok hlb.2) hv h
  · cases hlb
theorem pe_putf {idx a b p q : Nat} {fs : List Value} {v : Value} (hx : pm_kb M mk = true) (he : pm_fetch mk pc = some (.putfield idx, 3, a, b, p)) (hw : w[q]? = some (.inr (a, fs))) (hl : b < fs.length) {r : vw_C} (hr : pm_cl[a]? = some r) (hf : pm_fit (pm_fty r b) v = true) (h : pm_Good sc M (pc + 3) lv st (w.set q (.inr (a, fs.set b v))) ca sl P) : pm_Good sc M pc lv (v :: .ref q :: st) w ca sl P := by
  have hlb := pe_lb hx he
  simp only [pm_lb, hr, Bool.and_eq_true, Bool.or_eq_true, Bool.not_eq_true', Nat.blt_eq, decide_eq_true_eq] at hlb
  refine pm_putf (pe_d hx he) hw hr hlb.1.1 (pm_is_ok hlb.1.2) ?_ hf hl h
  cases hfin : (r.2.1 b).2.2.2 with
  | false => exact Or.inl rfl
  | true =>
    rcases hlb.2 with q | q
    · rw [hfin] at q; cases q
    · exact Or.inr ⟨rfl, q⟩
/-- a call of an object's method that leaves the world as big as it was -/
theorem pe_callV {idx j b0 p q ci : Nat} {y : pm_X} {As rest : List Value} {fs : List Value} {r : vw_C} {P1 : Option Value → pm_W → Prop} (hx : pm_kb M mk = true) (he : pm_fetch mk pc = some (.invokevirtual idx, 3, j, b0, p)) (hy : pm_mt j = some y) (hb : b0 = 0) (hAl : As.length = y.2.1) (hA : ∀ v ∈ As, v.category = 1) (hw : w[q]? = some (.inr (ci, fs))) (hr : pm_cl[ci]? = some r) (hrc : r.1 = y.1.1.cls) (hlen : As.length + 1 ≤ y.1.2.2.1) (hcat : (rest.map fun v => v.category).sum ≤ 8) (hca : ca + y.1.2.2.2.2.cells ≤ M.2.2.2.2.cells) (hsl : sl + y.1.2.2.2.2.slots ≤ M.2.2.2.2.slots)
    (hG : pm_GoodM sc y.1 (.ref q :: As) w P1) (hwl : ∀ r w', P1 r w' → w'.length = w.length) (hk : ∀ r w', P1 r w' → pm_Good sc M (pc + 3) lv (r.toList ++ rest) w' (ca + y.1.2.2.2.2.cells) (sl + y.1.2.2.2.2.slots) P) : pm_Good sc M pc lv (As.reverse ++ .ref q :: rest) w ca sl P := by
  have hok := pm_mt_ok hy
  obtain ⟨hme, hnp, hk0, -, -⟩ := pm_ok_meth hok
  have hlb := pe_lb hx he
  simp only [pm_lb, hy, Bool.and_eq_true, decide_eq_true_eq] at hlb
  obtain ⟨⟨⟨hrm, hlk⟩, hkd⟩, hb4⟩ := hlb
  obtain ⟨hin, hse⟩ := hk0 hkd
  rw [if_neg (by omega)] at hlk
  refine pm_callV (pe_d hx he) hme (pm_is_ok hlk) hin hse (by rw [hAl]; exact hnp) hw hr hrc ?_ (pm_rmb_ok hrm) hcat hca hsl (Or.inl hwl) hG hk
  rw [sx_sl1 (As := .ref q :: As) (fun v hv => ?_)]
  · exact hlen
  · rcases List.mem_cons.mp hv with rfl | hv
    · rfl
    · exact hA v hv
theorem pe_callS {idx j b0 p : Nat} {y : pm_X} {As rest : List Value} {P1 : Option Value → pm_W → Prop} (hx : pm_kb M mk = true) (he : pm_fetch mk pc = some (.invokestatic idx, 3, j, b0, p)) (hy : pm_mt j = some y) (hb : b0 = 0) (hAl : As.length = y.2.1) (hA : ∀ v ∈ As, v.category = 1) (hlen : As.length ≤ y.1.2.2.1) (hcat : (rest.map fun v => v.category).sum ≤ 8) (hca : ca + y.1.2.2.2.2.cells ≤ M.2.2.2.2.cells) (hsl : sl + y.1.2.2.2.2.slots ≤ M.2.2.2.2.slots)
    (hG : pm_GoodM sc y.1 As w P1) (hwl : ∀ r w', P1 r w' → w'.length = w.length) (hk : ∀ r w', P1 r w' → pm_Good sc M (pc + 3) lv (r.toList ++ rest) w' (ca + y.1.2.2.2.2.cells) (sl + y.1.2.2.2.2.slots) P) : pm_Good sc M pc lv (As.reverse ++ rest) w ca sl P := by
  have hok := pm_mt_ok hy
  obtain ⟨hme, hnp, -, hk1, -⟩ := pm_ok_meth hok
  have hlb := pe_lb hx he
  simp only [pm_lb, hy, hb] at hlb
  rw [if_neg (by decide), if_neg (by decide), if_neg (by decide), if_neg (by decide)] at hlb
  simp only [Bool.and_eq_true, decide_eq_true_eq] at hlb
  obtain ⟨⟨hrm, hlk⟩, hkd⟩ := hlb
  rw [if_neg (by decide)] at hlk
  refine pm_callS (pe_d hx he) hme (pm_is_ok hlk) (hk1 hkd) (by rw [hAl]; exact hnp) ?_ (pm_rmb_ok hrm) hcat hca hsl (Or.inl hwl) hG hk
  rw [sx_sl1 hA]
  exact hlen
end PE
