/-! rows: calls -/
section SC0
variable {sc : pm_Z}
def pm_ws (M : pm_M) : List Cond := Cond.code M.1 M.2.1 M.2.2.1 M.2.2.2.1 :: pm_T
/-- the world that a method begins with -/
def pm_Pc (sc : pm_Z) (As : List Value) (w : pm_W) (G : pm_G) (ad : Nat → Nat) (sz : Nat) : Array Value → State → Prop := va_Pc (As.map (pm_tv G ad)) (fun U => U.heap.size = sz ∧ va_P G.1 pm_cl (pm_cw G ad w) U.heap ∧ va_K G.1 pm_cl (pm_tys G) U ∧ va_D (fun _ => True) (pm_cw G ad w) ∧ pm_nest U ∧ pm_str sc G (va_A (pm_cw G ad w) sz) U U.heap)
theorem pm_args_tv (G : pm_G) (ad : Nat → Nat) : ∀ (As : List Value) (i : Nat), lv_args i (As.map (pm_tv G ad)) = pm_lt G ad (lv_args i As)
  | [], _ => rfl
  | v :: As, i => by
    rw [List.map_cons, lv_args, lv_args, pm_cat, pm_args_tv G ad As]
    rfl
theorem pm_sl_len (G : pm_G) (ad : Nat → Nat) : ∀ (As : List Value), (lg_sl (As.map (pm_tv G ad))).length = (lg_sl As).length
  | [] => rfl
  | v :: As => by
    have h := pm_sl_len G ad As
    unfold lg_sl at h ⊢
    rw [List.map_cons, List.flatMap_cons, List.flatMap_cons, List.length_append, List.length_append, h, pm_cat]
    split <;> rfl
theorem pm_met {M : pm_M} {As : List Value} {w : pm_W} {P : Option Value → pm_W → Prop} (hG : pm_GoodM sc M As w P) (hpl : plainName M.1.cls = true) (hlen : (lg_sl As).length ≤ M.2.2.1) (l : Launch) (G : pm_G) (ad : Nat → Nat) (sz : Nat) :
    Met l M.1 (pm_ws M) M.2.2.2.2 (pm_Pc sc As w G ad sz) (pm_Q P G (va_A (pm_cw G ad w) sz) ad w.length) M.2.2.2.2.cells M.2.2.2.2.slots (va_A (pm_cw G ad w) sz) := by
  refine Met.ofW (cc := M.2.1) (maxL := M.2.2.1) (ret := M.2.2.2.1) hpl rfl ?_
  intro p e s m args below meth c s₁ B hml hv
  obtain ⟨rfl, hsz, hP, hK, hD0, hN, hS⟩ := hv
  have hts := atoms_spec (ws := pm_ws M) B.pre
  have hown : s.vm.findClass M.1.cls = some m.cls := findClass_of_methodNamed B.named
  subst hsz
  rw [lg_entry_eq]
  have hl := lv_entry (As.map (pm_tv G ad)) (n := M.2.2.1) (by rw [pm_sl_len]; exact hlen)
  rw [pm_args_tv] at hl
  exact hG l p e s m _ below meth c G _ ad ad w.length s.heap [] _ ⟨B.exec, B.bytes, B.returns, hml, hown, fun w h => hts w (List.mem_cons_of_mem _ h), B.notSynchronized, fun h => (name_of_methodNamed B.named B.method).1.trans h⟩ ⟨hK, hP, hD0.self, va_S.rf, fun q h => Or.inr h, hN, hS⟩ ⟨Nat.le_refl _, fun _ _ => rfl⟩ hl (Nat.zero_le _) (Nat.zero_le _)
theorem pm_A1 {G : pm_G} {A : Nat → Prop} {ad : Nat → Nat} {w : pm_W} {s : State} {H : Heap} {locs : List Loc} (h : pm_at sc G A ad w s H locs) : ∀ q : Nat, va_A (pm_cw G ad w) H.size q → A q := by
  obtain ⟨hK, hP, hD, hS, hA, -⟩ := h
  intro q hq
  rcases hq with ⟨k, e, hk⟩ | hq
  · exact hD.2 k (q, e) hk
  · exact hA q (Nat.le_trans hS.1 hq)
theorem pm_blind (As : List Value) (w : pm_W) (G : pm_G) (ad : Nat → Nat) (sz : Nat) : FrameBlind (pm_Pc sc As w G ad sz) := by
  intro a U g mk q
  obtain ⟨q0, q1, qP, qK, qD, qN, qS⟩ := q
  exact ⟨q0, q1, qP, va_K.moved (u := U) (U := U.calling g mk a) (Vm.Alike.refl U.vm) qK, qD, pm_nest_same (s := U) (U := U.calling g mk a) rfl qN, pm_str_same (s := U) (U := U.calling g mk a) rfl qS⟩
theorem pm_pre {G : pm_G} {A : Nat → Prop} {ad : Nat → Nat} {w : pm_W} {s : State} {H : Heap} {locs : List Loc} (h : pm_at sc G A ad w s H locs) (As : List Value) : ∀ U : State, U.heap = H → s.WarmedH U.vm → pm_Pc sc As w G ad H.size (As.map (pm_tv G ad)).toArray U := by
  intro U hU hW
  have hA1 := pm_A1 h
  obtain ⟨hK, hP, hD, hS, hA, hN, hT⟩ := h
  exact ⟨rfl, by rw [hU], by rw [hU]; exact hP, va_K.moved hW.alike hK, hD.weaken (fun _ _ _ _ => trivial), pm_nest_warm hW hN, pm_str_to hW (fun a h1 h2 => by rw [hU]; exact hS.2.1 a h1 h2) hA1 hT⟩
section PMC
variable {M Mj : pm_M} {pc : Nat} {lv : pm_L} {w : pm_W} {ca sl : Nat} {P P1 : Option Value → pm_W → Prop}
theorem pm_after {p : Program} {l : Launch} {e : Env} {s : State} {m : MethodId} {args a : Array Value} {below : List Frame} {meth : Method} {c : Code} {G : pm_G} {A A1 : Nat → Prop} {ad0 ad : Nat → Nat} {n0 mc ms : Nat} {H : Heap} {locs : List Loc} {ls : Array Slot} {st0 rest : List Value}
    (hr : va_Run p l e M.2.2.2.2 s m args below meth c H locs ca sl mc ms (F0 m pc ls st0) (rest.map (pm_tv G ad)) (pm_Q P1 G A1 ad w.length a) A1) (h1 : pm_ctx M p s m args meth c) (h2 : pm_at sc G A ad w s H locs) (h3 : pm_ag ad0 ad n0 w.length) (h4 : lv_has ls M.2.2.1 (pm_lt G ad lv)) (hA1 : ∀ q : Nat, A1 q → A q)
    (hca : ca + mc ≤ M.2.2.2.2.cells) (hsl : sl + ms ≤ M.2.2.2.2.slots) (hwf : (∀ r w', P1 r w' → w'.length = w.length) ∨ (pm_wfl w.length lv = true ∧ rest.all (pm_wfv w.length) = true))
    (hk : ∀ r w', P1 r w' → pm_Good sc M (pc + 3) lv (r.toList ++ rest) w' (ca + mc) (sl + ms) P) :
    W p l e M.2.2.2.2 s m args below meth c H locs ca sl (MQ below (pm_Q P G A ad0 n0) args s M.2.2.2.2.cells M.2.2.2.2.slots A) (F0 m pc ls st0) := by
  intro T hT X
  obtain ⟨v, st₀, t, T', L, g0, X', hL, e1, e2, ⟨⟨ad9, r, w9, hv, hp, hag, hP9, hD9, hK9⟩, hF⟩, st⟩ := hr T hT X
  have hv : v = r.map (pm_tv G ad9) := by injection hv
  subst hv
  obtain ⟨hK, hP, hD, hS, hA, hN, hStr⟩ := h2
  rw [← g0] at hS
  have hle : ∀ k, k < w.length → ad9 k = ad k := fun k hk => hag.2 k (Or.inl hk)
  have e3 : pm_lt G ad9 lv = pm_lt G ad lv ∧ rest.map (pm_tv G ad9) = rest.map (pm_tv G ad) := by
    rcases hwf with hq | hq
    · have : ad9 = ad := by
        funext k
        apply hag.2 k
        rw [hq r w9 hp]
        omega
      rw [this]
      exact ⟨rfl, rfl⟩
    · exact ⟨pm_lt_eq hle hq.1, pm_st_eq hle hq.2⟩
  have e4 : ((r.toList ++ rest).map (pm_tv G ad9)) = (r.map (pm_tv G ad9)).toList ++ rest.map (pm_tv G ad) := by
    rw [List.map_append, e3.2]
    cases r <;> rfl
  have hk9 := hk r w9 hp l p e s m args below meth c G A ad0 ad9 n0 T'.heap (locs ++ L) ls h1 ⟨hK, by rw [e1]; exact hP9, hD9.weaken (fun _ q _ h => hA1 _ h), ⟨Nat.le_trans hS.1 (by rw [e1]; exact hF.1), fun q z1 z2 => by
      rw [e1, hF.2 q (Nat.lt_of_lt_of_le z1 hS.1) (fun z => z2 (hA1 q z))]
      exact hS.2.1 q z1 z2, fun q hq => by
      rcases List.mem_append.mp hq with h | h
      · exact hS.2.2 q h
      · exact hA1 _ (hL q h)⟩, hA, hN, hStr⟩ ⟨Nat.le_trans h3.1 hag.1, fun k hk => by
      have hl := hag.1
      have hl3 := h3.1
      rw [hag.2 k (by omega)]
      exact h3.2 k (by omega)⟩ (by rw [e3.1]; exact h4) hca hsl T' rfl X'
  obtain ⟨t2, a1, b1⟩ := hk9
  rw [e4] at a1
  exact ⟨t2, st t2 a1, b1⟩
/-- what the tables say of a method that is called -/
def pm_meth (Mj : pm_M) : Prop := Cond.code Mj.1 Mj.2.1 Mj.2.2.1 Mj.2.2.2.1 ∈ pm_T ∧ Cond.initialized Mj.1.cls ∈ pm_T ∧ (Mj.1.cls ≠ "java/lang/invoke/MethodHandle" ∧ Mj.1.cls ≠ "java/lang/invoke/VarHandle") ∧ plainName Mj.1.cls = true
def pm_np (Mj : pm_M) (n : Nat) : Prop := (parseMethodDescriptor Mj.1.desc).map (fun d => d.parameters.length) = some n
def pm_rm (M Mj : pm_M) : Prop := Mj.2.2.2.2.frames + 1 ≤ M.2.2.2.2.frames ∧ 8 + (Mj.2.2.1 + 11) + Mj.2.2.2.2.locals ≤ M.2.2.2.2.locals
theorem pm_goodIn (hc : Cond.code Mj.1 Mj.2.1 Mj.2.2.1 Mj.2.2.2.1 ∈ pm_T) : GoodIn pm_T (pm_ws Mj) := by
  intro w hw
  rcases List.mem_cons.mp hw with rfl | h
  · exact ⟨hc, good_of_word (pm_T_good _ hc)⟩
  · exact ⟨h, good_of_word (pm_T_good _ h)⟩
theorem pm_callV {As rest : List Value} {b ci idx : Nat} {fs : List Value} {r : vw_C} (hd : decode M.2.1 pc = .ok (.invokevirtual idx, 3)) (hm : pm_meth Mj) (hlk : Cond.methodLink M.1.cls idx Mj.1 ∈ pm_T) (hin : Cond.instanceMethod Mj.1 ∈ pm_T) (hse : Cond.selects Mj.1.cls Mj.1 Mj.1 ∈ pm_T) (hnp : pm_np Mj As.length) (hw : w[b]? = some (.inr (ci, fs))) (hc : pm_cl[ci]? = some r) (hrc : r.1 = Mj.1.cls)
    (hlen : (lg_sl (.ref b :: As)).length ≤ Mj.2.2.1) (hrm : pm_rm M Mj) (hcat : (rest.map fun v => v.category).sum ≤ 8) (hca : ca + Mj.2.2.2.2.cells ≤ M.2.2.2.2.cells) (hsl : sl + Mj.2.2.2.2.slots ≤ M.2.2.2.2.slots) (hwf : (∀ r w', P1 r w' → w'.length = w.length) ∨ (pm_wfl w.length lv = true ∧ rest.all (pm_wfv w.length) = true))
    (hG : pm_GoodM sc Mj (.ref b :: As) w P1) (hk : ∀ r w', P1 r w' → pm_Good sc M (pc + 3) lv (r.toList ++ rest) w' (ca + Mj.2.2.2.2.cells) (sl + Mj.2.2.2.2.slots) P) : pm_Good sc M pc lv (As.reverse ++ .ref b :: rest) w ca sl P := by
  intro l p e s m args below meth c9 G A ad0 ad n0 H locs ls h1 h2 h3 h4 h5 h6
  have hM := pm_met hG hm.2.2.2 hlen l G ad H.size
  obtain ⟨hx, hb, -, hml, hown, hts, -⟩ := id h1
  have cw : CallW M.2.2.2.2 s args M.1.cls Mj.1.cls idx Mj.1 Mj.2.1 Mj.2.2.1 Mj.2.2.2.1 (pm_ws Mj) Mj.2.2.2.2 Mj.2.2.2.2.cells Mj.2.2.2.2.slots As.length := ⟨callB_of As.length hts (pm_goodIn hm.1) rfl rfl rfl (hts _ hm.2.1) (hts _ hlk) ⟨hm.2.2.1.1, hm.2.2.1.2, hnp⟩ hrm, hts _ hin, hts _ hse⟩
  have hrecv := va_recv h2.1 h2.2.1 hc (pm_cw_at (G := G) (ad := ad) hw)
  rw [hrc] at hrecv
  refine pm_after (va_runV (As := As.map (pm_tv G ad)) (rest := rest.map (pm_tv G ad)) (b := ad b) ⟨hx, hb, hml, hown, hts⟩ hM cw ⟨pm_blind _ _ _ _ _, hrecv, pm_pre h2 (.ref b :: As)⟩ rfl (List.length_map ..) h4.1 ?_ (lv_room (by rw [pm_cats]; exact hcat)) hd ⟨hca, hsl⟩) h1 h2 h3 h4 (pm_A1 h2) hca hsl hwf hk
  simp [pm_tv]
theorem pm_callVN {As rest : List Value} {b ci idx : Nat} {fs : List Value} {r : vw_C} {host : String} (hd : decode M.2.1 pc = .ok (.invokevirtual idx, 3)) (hm : pm_meth Mj) (hlk : Cond.methodLinkNest M.1.cls idx Mj.1 host ∈ pm_N) (hin : Cond.instanceMethod Mj.1 ∈ pm_T) (hse : Cond.selects Mj.1.cls Mj.1 Mj.1 ∈ pm_T) (hnp : pm_np Mj As.length) (hw : w[b]? = some (.inr (ci, fs))) (hc : pm_cl[ci]? = some r) (hrc : r.1 = Mj.1.cls)
    (hlen : (lg_sl (.ref b :: As)).length ≤ Mj.2.2.1) (hrm : pm_rm M Mj) (hcat : (rest.map fun v => v.category).sum ≤ 8) (hca : ca + Mj.2.2.2.2.cells ≤ M.2.2.2.2.cells) (hsl : sl + Mj.2.2.2.2.slots ≤ M.2.2.2.2.slots) (hwf : (∀ r w', P1 r w' → w'.length = w.length) ∨ (pm_wfl w.length lv = true ∧ rest.all (pm_wfv w.length) = true))
    (hG : pm_GoodM sc Mj (.ref b :: As) w P1) (hk : ∀ r w', P1 r w' → pm_Good sc M (pc + 3) lv (r.toList ++ rest) w' (ca + Mj.2.2.2.2.cells) (sl + Mj.2.2.2.2.slots) P) : pm_Good sc M pc lv (As.reverse ++ .ref b :: rest) w ca sl P := by
  intro l p e s m args below meth c9 G A ad0 ad n0 H locs ls h1 h2 h3 h4 h5 h6
  have hM := pm_met hG hm.2.2.2 hlen l G ad H.size
  obtain ⟨hx, hb, -, hml, hown, hts, -⟩ := id h1
  have cw := va_cnB (R := M.2.2.2.2) (rm := Mj.2.2.2.2) (ws := pm_ws Mj) (bytes := Mj.2.1) (maxL := Mj.2.2.1) (ret := Mj.2.2.2.1) As.length hts (pm_goodIn hm.1) rfl rfl rfl (h2.2.2.2.2.2.1 _ hlk) (hts _ hm.2.1) ⟨hm.2.2.1.1, hm.2.2.1.2, hnp⟩ hrm
  have hrecv := va_recv h2.1 h2.2.1 hc (pm_cw_at (G := G) (ad := ad) hw)
  rw [hrc] at hrecv
  refine pm_after (va_runVN (As := As.map (pm_tv G ad)) (rest := rest.map (pm_tv G ad)) (b := ad b) ⟨hx, hb, hml, hown, hts⟩ hM ⟨cw, hts _ hin, hts _ hse⟩ ⟨pm_blind _ _ _ _ _, hrecv, pm_pre h2 (.ref b :: As)⟩ rfl (List.length_map ..) h4.1 ?_ (lv_room (by rw [pm_cats]; exact hcat)) hd ⟨hca, hsl⟩) h1 h2 h3 h4 (pm_A1 h2) hca hsl hwf hk
  simp [pm_tv]
/-- a method of the String constant -/
theorem pm_callVS {As rest : List Value} {idx : Nat} (hd : decode M.2.1 pc = .ok (.invokevirtual idx, 3)) (hm : pm_meth Mj) (hlk : Cond.methodLink M.1.cls idx Mj.1 ∈ pm_T) (hin : Cond.instanceMethod Mj.1 ∈ pm_T) (hse : Cond.selects Mj.1.cls Mj.1 Mj.1 ∈ pm_T) (hnp : pm_np Mj As.length) (hrc : Mj.1.cls = "java/lang/String")
    (hlen : (lg_sl (.retAddr 0 :: As)).length ≤ Mj.2.2.1) (hrm : pm_rm M Mj) (hcat : (rest.map fun v => v.category).sum ≤ 8) (hca : ca + Mj.2.2.2.2.cells ≤ M.2.2.2.2.cells) (hsl : sl + Mj.2.2.2.2.slots ≤ M.2.2.2.2.slots) (hwf : (∀ r w', P1 r w' → w'.length = w.length) ∨ (pm_wfl w.length lv = true ∧ rest.all (pm_wfv w.length) = true))
    (hG : pm_GoodM sc Mj (.retAddr 0 :: As) w P1) (hk : ∀ r w', P1 r w' → pm_Good sc M (pc + 3) lv (r.toList ++ rest) w' (ca + Mj.2.2.2.2.cells) (sl + Mj.2.2.2.2.slots) P) : pm_Good sc M pc lv (As.reverse ++ .retAddr 0 :: rest) w ca sl P := by
  intro l p e s m args below meth c9 G A ad0 ad n0 H locs ls h1 h2 h3 h4 h5 h6
  have hM := pm_met hG hm.2.2.2 hlen l G ad H.size
  obtain ⟨hx, hb, -, hml, hown, hts, -⟩ := id h1
  have cw : CallW M.2.2.2.2 s args M.1.cls Mj.1.cls idx Mj.1 Mj.2.1 Mj.2.2.1 Mj.2.2.2.1 (pm_ws Mj) Mj.2.2.2.2 Mj.2.2.2.2.cells Mj.2.2.2.2.slots As.length := ⟨callB_of As.length hts (pm_goodIn hm.1) rfl rfl rfl (hts _ hm.2.1) (hts _ hlk) ⟨hm.2.2.1.1, hm.2.2.1.2, hnp⟩ hrm, hts _ hin, hts _ hse⟩
  have hrecv := vk_recv h2.2.2.2.2.2.2.1 (i := 0) (by decide) h2.2.2.2.1
  rw [← hrc] at hrecv
  refine pm_after (va_runV (As := As.map (pm_tv G ad)) (rest := rest.map (pm_tv G ad)) (b := G.2.2.2.1) ⟨hx, hb, hml, hown, hts⟩ hM cw ⟨pm_blind _ _ _ _ _, hrecv, pm_pre h2 (.retAddr 0 :: As)⟩ rfl (List.length_map ..) h4.1 ?_ (lv_room (by rw [pm_cats]; exact hcat)) hd ⟨hca, hsl⟩) h1 h2 h3 h4 (pm_A1 h2) hca hsl hwf hk
  simp [pm_tv]
theorem pm_callS {As rest : List Value} {idx : Nat} (hd : decode M.2.1 pc = .ok (.invokestatic idx, 3)) (hm : pm_meth Mj) (hlk : Cond.methodLink M.1.cls idx Mj.1 ∈ pm_T) (hst : Cond.static Mj.1 ∈ pm_T) (hnp : pm_np Mj As.length)
    (hlen : (lg_sl As).length ≤ Mj.2.2.1) (hrm : pm_rm M Mj) (hcat : (rest.map fun v => v.category).sum ≤ 8) (hca : ca + Mj.2.2.2.2.cells ≤ M.2.2.2.2.cells) (hsl : sl + Mj.2.2.2.2.slots ≤ M.2.2.2.2.slots) (hwf : (∀ r w', P1 r w' → w'.length = w.length) ∨ (pm_wfl w.length lv = true ∧ rest.all (pm_wfv w.length) = true))
    (hG : pm_GoodM sc Mj As w P1) (hk : ∀ r w', P1 r w' → pm_Good sc M (pc + 3) lv (r.toList ++ rest) w' (ca + Mj.2.2.2.2.cells) (sl + Mj.2.2.2.2.slots) P) : pm_Good sc M pc lv (As.reverse ++ rest) w ca sl P := by
  intro l p e s m args below meth c9 G A ad0 ad n0 H locs ls h1 h2 h3 h4 h5 h6
  have hM := pm_met hG hm.2.2.2 hlen l G ad H.size
  obtain ⟨hx, hb, -, hml, hown, hts, -⟩ := id h1
  have cw : CallB M.2.2.2.2 s args M.1.cls idx Mj.1 Mj.2.1 Mj.2.2.1 Mj.2.2.2.1 (pm_ws Mj) Mj.2.2.2.2 Mj.2.2.2.2.cells Mj.2.2.2.2.slots As.length := callB_of As.length hts (pm_goodIn hm.1) rfl rfl rfl (hts _ hm.2.1) (hts _ hlk) ⟨hm.2.2.1.1, hm.2.2.1.2, hnp⟩ hrm
  refine pm_after (va_runS (As := As.map (pm_tv G ad)) (rest := rest.map (pm_tv G ad)) ⟨hx, hb, hml, hown, hts⟩ hM ⟨cw, hts _ hst⟩ ⟨pm_blind _ _ _ _ _, pm_pre h2 As⟩ rfl (List.length_map ..) h4.1 ?_ (lv_room (by rw [pm_cats]; exact hcat)) hd ⟨hca, hsl⟩) h1 h2 h3 h4 (pm_A1 h2) hca hsl hwf hk
  simp
theorem pm_callSN {As rest : List Value} {idx : Nat} {host : String} (hd : decode M.2.1 pc = .ok (.invokestatic idx, 3)) (hm : pm_meth Mj) (hlk : Cond.methodLinkNest M.1.cls idx Mj.1 host ∈ pm_N) (hst : Cond.static Mj.1 ∈ pm_T) (hnp : pm_np Mj As.length)
    (hlen : (lg_sl As).length ≤ Mj.2.2.1) (hrm : pm_rm M Mj) (hcat : (rest.map fun v => v.category).sum ≤ 8) (hca : ca + Mj.2.2.2.2.cells ≤ M.2.2.2.2.cells) (hsl : sl + Mj.2.2.2.2.slots ≤ M.2.2.2.2.slots) (hwf : (∀ r w', P1 r w' → w'.length = w.length) ∨ (pm_wfl w.length lv = true ∧ rest.all (pm_wfv w.length) = true))
    (hG : pm_GoodM sc Mj As w P1) (hk : ∀ r w', P1 r w' → pm_Good sc M (pc + 3) lv (r.toList ++ rest) w' (ca + Mj.2.2.2.2.cells) (sl + Mj.2.2.2.2.slots) P) : pm_Good sc M pc lv (As.reverse ++ rest) w ca sl P := by
  intro l p e s m args below meth c9 G A ad0 ad n0 H locs ls h1 h2 h3 h4 h5 h6
  have hM := pm_met hG hm.2.2.2 hlen l G ad H.size
  obtain ⟨hx, hb, -, hml, hown, hts, -⟩ := id h1
  have cw := va_cnB (R := M.2.2.2.2) (rm := Mj.2.2.2.2) (ws := pm_ws Mj) (bytes := Mj.2.1) (maxL := Mj.2.2.1) (ret := Mj.2.2.2.1) As.length hts (pm_goodIn hm.1) rfl rfl rfl (h2.2.2.2.2.2.1 _ hlk) (hts _ hm.2.1) ⟨hm.2.2.1.1, hm.2.2.1.2, hnp⟩ hrm
  refine pm_after (va_runSN (As := As.map (pm_tv G ad)) (rest := rest.map (pm_tv G ad)) ⟨hx, hb, hml, hown, hts⟩ hM ⟨cw, hts _ hst, trivial⟩ ⟨pm_blind _ _ _ _ _, pm_pre h2 As⟩ rfl (List.length_map ..) h4.1 ?_ (lv_room (by rw [pm_cats]; exact hcat)) hd ⟨hca, hsl⟩) h1 h2 h3 h4 (pm_A1 h2) hca hsl hwf hk
  simp
theorem pm_callI {As rest : List Value} {b idx : Nat} (hd : decode M.2.1 pc = .ok (.invokespecial idx, 3)) (hm : pm_meth Mj) (hlk : Cond.methodLink M.1.cls idx Mj.1 ∈ pm_T) (hin : Cond.instanceMethod Mj.1 ∈ pm_T) (hi : Mj.1.name = "<init>") (hrt : Mj.2.2.2.1 = none) (hnp : pm_np Mj As.length)
    (hlen : (lg_sl (.ref b :: As)).length ≤ Mj.2.2.1) (hrm : pm_rm M Mj) (hcat : (rest.map fun v => v.category).sum ≤ 8) (hca : ca + Mj.2.2.2.2.cells ≤ M.2.2.2.2.cells) (hsl : sl + Mj.2.2.2.2.slots ≤ M.2.2.2.2.slots) (hwf : (∀ r w', P1 r w' → w'.length = w.length) ∨ (pm_wfl w.length lv = true ∧ rest.all (pm_wfv w.length) = true))
    (hG : pm_GoodM sc Mj (.ref b :: As) w P1) (hk : ∀ r w', P1 r w' → pm_Good sc M (pc + 3) lv (r.toList ++ rest) w' (ca + Mj.2.2.2.2.cells) (sl + Mj.2.2.2.2.slots) P) : pm_Good sc M pc lv (As.reverse ++ .ref b :: rest) w ca sl P := by
  intro l p e s m args below meth c9 G A ad0 ad n0 H locs ls h1 h2 h3 h4 h5 h6
  have hM := pm_met hG hm.2.2.2 hlen l G ad H.size
  obtain ⟨hx, hb, -, hml, hown, hts, -⟩ := id h1
  have cw : CallB M.2.2.2.2 s args M.1.cls idx Mj.1 Mj.2.1 Mj.2.2.1 none (pm_ws Mj) Mj.2.2.2.2 Mj.2.2.2.2.cells Mj.2.2.2.2.slots As.length := callB_of As.length hts (pm_goodIn hm.1) (by rw [pm_ws, hrt]) rfl rfl (hts _ hm.2.1) (hts _ hlk) ⟨hm.2.2.1.1, hm.2.2.1.2, hnp⟩ hrm
  refine pm_after (va_runI (As := As.map (pm_tv G ad)) (rest := rest.map (pm_tv G ad)) (b := ad b) ⟨hx, hb, hml, hown, hts⟩ hM ⟨cw, hi, hts _ hin⟩ ⟨pm_blind _ _ _ _ _, pm_pre h2 (.ref b :: As)⟩ rfl (List.length_map ..) h4.1 ?_ (lv_room (by rw [pm_cats]; exact hcat)) hd ⟨hca, hsl⟩) h1 h2 h3 h4 (pm_A1 h2) hca hsl hwf hk
  simp [pm_tv]
theorem pm_callIN {As rest : List Value} {b idx : Nat} {host : String} (hd : decode M.2.1 pc = .ok (.invokespecial idx, 3)) (hm : pm_meth Mj) (hlk : Cond.methodLinkNest M.1.cls idx Mj.1 host ∈ pm_N) (hin : Cond.instanceMethod Mj.1 ∈ pm_T) (hi : Mj.1.name = "<init>") (hrt : Mj.2.2.2.1 = none) (hnp : pm_np Mj As.length)
    (hlen : (lg_sl (.ref b :: As)).length ≤ Mj.2.2.1) (hrm : pm_rm M Mj) (hcat : (rest.map fun v => v.category).sum ≤ 8) (hca : ca + Mj.2.2.2.2.cells ≤ M.2.2.2.2.cells) (hsl : sl + Mj.2.2.2.2.slots ≤ M.2.2.2.2.slots) (hwf : (∀ r w', P1 r w' → w'.length = w.length) ∨ (pm_wfl w.length lv = true ∧ rest.all (pm_wfv w.length) = true))
    (hG : pm_GoodM sc Mj (.ref b :: As) w P1) (hk : ∀ r w', P1 r w' → pm_Good sc M (pc + 3) lv (r.toList ++ rest) w' (ca + Mj.2.2.2.2.cells) (sl + Mj.2.2.2.2.slots) P) : pm_Good sc M pc lv (As.reverse ++ .ref b :: rest) w ca sl P := by
  intro l p e s m args below meth c9 G A ad0 ad n0 H locs ls h1 h2 h3 h4 h5 h6
  have hM := pm_met hG hm.2.2.2 hlen l G ad H.size
  obtain ⟨hx, hb, -, hml, hown, hts, -⟩ := id h1
  have cw := va_cnB (R := M.2.2.2.2) (rm := Mj.2.2.2.2) (ws := pm_ws Mj) (bytes := Mj.2.1) (maxL := Mj.2.2.1) (ret := none) As.length hts (pm_goodIn hm.1) (by rw [pm_ws, hrt]) rfl rfl (h2.2.2.2.2.2.1 _ hlk) (hts _ hm.2.1) ⟨hm.2.2.1.1, hm.2.2.1.2, hnp⟩ hrm
  refine pm_after (va_runIN (As := As.map (pm_tv G ad)) (rest := rest.map (pm_tv G ad)) (b := ad b) ⟨hx, hb, hml, hown, hts⟩ hM ⟨cw, hi, hts _ hin⟩ ⟨pm_blind _ _ _ _ _, pm_pre h2 (.ref b :: As)⟩ rfl (List.length_map ..) h4.1 ?_ (lv_room (by rw [pm_cats]; exact hcat)) hd ⟨hca, hsl⟩) h1 h2 h3 h4 (pm_A1 h2) hca hsl hwf hk
  simp [pm_tv]
end PMC
end SC0
