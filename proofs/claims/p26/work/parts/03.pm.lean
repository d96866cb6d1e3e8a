/-! A picture of the machine that can be computed with: cells by their numbers, a frame's locals and stack, and what it is for a frame to go well. -/
def pm_T : List Cond := lw_tbl.filter goodWord
def pm_isN : Cond → Bool
  | .methodLinkNest .. => true
  | _ => false
def pm_N : List Cond := tables_1.filter pm_isN
theorem pm_T_good : ∀ w ∈ pm_T, goodWord w = true := fun _ h => (List.mem_filter.mp h).2
theorem pm_T_of {w : Cond} (i : Nat) (h : lw_tbl[i]? = some w) (hg : goodWord w = true) : w ∈ pm_T := List.mem_filter.mpr ⟨List.mem_of_getElem? h, hg⟩
/-- a cell: an array (0: of int, else of char) with its contents, or an object of a class (by its number in pm_cl) with its fields -/
abbrev pm_C : Type := (Nat × List Int32) ⊕ (Nat × List Value)
abbrev pm_W : Type := List pm_C
abbrev pm_L : Type := List (Nat × Value)
/-- a method: name, code, locals, answer, room -/
abbrev pm_M : Type := MethodName × ByteArray × Nat × Option FieldType × Room
/-- class numbers; the array classes of int and of char; the String constant and its bytes; a static of the JDK's -/
abbrev pm_G : Type := va_G × ClassId × ClassId × Nat × Nat × Option Nat × Nat
/-- the script: how long it is, and what it holds -/
abbrev pm_Z : Type := Nat × (Nat → Int32)
def pm_tv (G : pm_G) (ad : Nat → Nat) : Value → Value
  | .ref k => .ref (ad k)
  | .retAddr 0 => .ref G.2.2.2.1
  | .retAddr 1 => .ref G.2.2.2.2.1
  | .retAddr 3 => .ref G.2.2.2.2.2.2
  | .retAddr _ => va_rf G.2.2.2.2.2.1
  | v => v
def pm_ce (G : pm_G) (ad : Nat → Nat) : pm_C → va_E
  | .inl a => .inl (if a.1 = 0 then G.2.1 else G.2.2.1, a.2.length, .inl (fun j => a.2.getD j 0))
  | .inr o => .inr (o.1, o.2.map (pm_tv G ad))
def pm_cw (G : pm_G) (ad : Nat → Nat) (w : pm_W) : va_W := w.mapIdx (fun k c => (ad k, pm_ce G ad c))
def pm_lt (G : pm_G) (ad : Nat → Nat) (lv : pm_L) : List (Nat × Value) := lv.map (fun q => (q.1, pm_tv G ad q.2))
def pm_tys (G : pm_G) : List (ClassId × FieldType) := [(G.2.1, .int), (G.2.2.1, .char)]
def pm_tx : String := "p0;p0;p2;p3;h0,0,1,2,5;h0,1,3,3,0;h1,0,1,4,4;h1,1,3,0,7;h2,0,2,1,5;h2,2,5,5,1;h3,0,1,1,9;h3,2,5,0,2;l0,3;n3;c4;f5;z2;"
def pm_bt : List Int32 := [112, 48, 59, 112, 48, 59, 112, 50, 59, 112, 51, 59, 104, 48, 44, 48, 44, 49, 44, 50, 44, 53, 59, 104, 48, 44, 49, 44, 51, 44, 51, 44, 48, 59, 104, 49, 44, 48, 44, 49, 44, 52, 44, 52, 59, 104, 49, 44, 49, 44, 51, 44, 48, 44, 55, 59, 104, 50, 44, 48, 44, 50, 44, 49, 44, 53, 59, 104, 50, 44, 50, 44, 53, 44, 53, 44, 49, 59, 104, 51, 44, 48, 44, 49, 44, 49, 44, 57, 59, 104, 51, 44, 50, 44, 53, 44, 48, 44, 50, 59, 108, 48, 44, 51, 59, 110, 51, 59, 99, 52, 59, 102, 53, 59, 122, 50, 59]
/-- what stands outside the world and stays: the String constant, and that Strings are compact -/
def pm_str (sc : pm_Z) (G : pm_G) (A : Nat → Prop) (U : State) (H : Heap) : Prop := vk_S 1 [117] [pm_bt] (fun _ => G.2.2.2.1) (fun _ => G.2.2.2.2.1) A U H ∧ vk_R "CoincidenceBureau" 68 pm_tx G.2.2.2.1 U ∧ va_Z "java/lang/String" "COMPACT_STRINGS" "Z" (.int 1) A U H ∧ va_Z "jdk/internal/util/Preconditions" "SIOOBE_FORMATTER" "Ljava/util/function/BiFunction;" (va_rf G.2.2.2.2.2.1) A U H ∧ va_X G.2.2.2.2.2.2 sc.1 sc.2 U H ∧ G.2.2.2.2.2.2 < H.size ∧ ¬ A G.2.2.2.2.2.2
def pm_nest (U : State) : Prop := ∀ w ∈ pm_N, va_Nw w U
theorem pm_str_to {sc : pm_Z} {G : pm_G} {A B : Nat → Prop} {s U : State} {H H1 : Heap} (hW : s.WarmedH U.vm) (hq : ∀ a : Nat, a < H.size → ¬ A a → H1[a]? = H[a]?) (hAB : ∀ q, B q → A q) (h : pm_str sc G A s H) : pm_str sc G B U H1 :=
  ⟨((h.1.kept hq).narrow hAB).moved hW.alike, h.2.1.warm hW, ((h.2.2.1.kept hq).narrow hAB).moved hW.alike, ((h.2.2.2.1.kept hq).narrow hAB).moved hW.alike, (h.2.2.2.2.1.kept (hq _ h.2.2.2.2.2.1 h.2.2.2.2.2.2)).moved hW.alike, by
    obtain ⟨scr, h1, -⟩ := h.2.2.2.2.1.kept (hq _ h.2.2.2.2.2.1 h.2.2.2.2.2.2)
    exact (Array.getElem?_eq_some_iff.mp h1).1, fun z => h.2.2.2.2.2.2 (hAB _ z)⟩
theorem pm_str_same {sc : pm_Z} {G : pm_G} {A : Nat → Prop} {s U : State} {H : Heap} (hv : U.vm = s.vm) (h : pm_str sc G A s H) : pm_str sc G A U H :=
  ⟨h.1.moved (by rw [hv]; exact Vm.Alike.refl _), h.2.1.same hv, h.2.2.1.moved (by rw [hv]; exact Vm.Alike.refl _), h.2.2.2.1.moved (by rw [hv]; exact Vm.Alike.refl _), h.2.2.2.2.1.moved (by rw [hv]; exact Vm.Alike.refl _), h.2.2.2.2.2⟩
theorem pm_nest_warm {s U : State} (hW : s.WarmedH U.vm) (h : pm_nest s) : pm_nest U := by
  intro w hw
  have h1 := h w hw
  have h2 := (List.mem_filter.mp hw).2
  cases w <;> simp [pm_isN] at h2
  exact va_Nw.warmM hW h1
theorem pm_nest_same {s U : State} (hv : s.vm = U.vm) (h : pm_nest s) : pm_nest U := by
  intro w hw
  have h1 := h w hw
  have h2 := (List.mem_filter.mp hw).2
  cases w <;> simp [pm_isN] at h2
  exact va_Nw.same rfl hv h1
/-- the frame's method, and what the tables say -/
def pm_ctx (M : pm_M) (p : Program) (s : State) (m : MethodId) (args : Array Value) (meth : Method) (c : Code) : Prop :=
  p.tables.exec = Jvm.exec ∧ c.code = M.2.1 ∧ meth.sig.returnType = M.2.2.2.1 ∧ c.maxLocals = M.2.2.1 ∧ s.vm.findClass M.1.cls = some m.cls ∧ (∀ w ∈ pm_T, w.before args s = true) ∧ meth.locks = false ∧ (M.1.name = "<init>" → meth.name = "<init>")
/-- the heap holds the picture w at the addresses ad; outside A nothing has changed -/
def pm_at (sc : pm_Z) (G : pm_G) (A : Nat → Prop) (ad : Nat → Nat) (w : pm_W) (s : State) (H : Heap) (locs : List Loc) : Prop :=
  va_K G.1 pm_cl (pm_tys G) s ∧ va_P G.1 pm_cl (pm_cw G ad w) H ∧ va_D A (pm_cw G ad w) ∧ va_S A s.heap H locs ∧ (∀ q : Nat, s.heap.size ≤ q → A q) ∧ pm_nest s ∧ pm_str sc G A s s.heap
/-- the addresses ad go on from those that the frame began with -/
def pm_ag (ad0 ad : Nat → Nat) (n0 n : Nat) : Prop := n0 ≤ n ∧ ∀ k : Nat, k < n0 ∨ n ≤ k → ad k = ad0 k
def pm_Q (P : Option Value → pm_W → Prop) (G : pm_G) (A : Nat → Prop) (ad0 : Nat → Nat) (n0 : Nat) : Array Value → State → Outcome → State → Prop := fun _ st oc t =>
  (∃ (ad : Nat → Nat) (r : Option Value) (w : pm_W), oc = .returned (r.map (pm_tv G ad)) ∧ P r w ∧ pm_ag ad0 ad n0 w.length ∧ va_P G.1 pm_cl (pm_cw G ad w) t.heap ∧ va_D A (pm_cw G ad w) ∧ va_K G.1 pm_cl (pm_tys G) t) ∧ va_F A st t
/-- THE FRAME GOES WELL: from pc, with these locals, this stack and this world, the method returns, and P holds of its answer and the world behind it -/
def pm_Good (sc : pm_Z) (M : pm_M) (pc : Nat) (lv : pm_L) (st : List Value) (w : pm_W) (ca sl : Nat) (P : Option Value → pm_W → Prop) : Prop :=
  ∀ (l : Launch) (p : Program) (e : Env) (s : State) (m : MethodId) (args : Array Value) (below : List Frame) (meth : Method) (c : Code) (G : pm_G) (A : Nat → Prop) (ad0 ad : Nat → Nat) (n0 : Nat) (H : Heap) (locs : List Loc) (ls : Array Slot),
    pm_ctx M p s m args meth c → pm_at sc G A ad w s H locs → pm_ag ad0 ad n0 w.length → lv_has ls M.2.2.1 (pm_lt G ad lv) → ca ≤ M.2.2.2.2.cells → sl ≤ M.2.2.2.2.slots →
    W p l e M.2.2.2.2 s m args below meth c H locs ca sl (MQ below (pm_Q P G A ad0 n0) args s M.2.2.2.2.cells M.2.2.2.2.slots A) (F0 m pc ls (st.map (pm_tv G ad)))
def pm_GoodM (sc : pm_Z) (M : pm_M) (As : List Value) (w : pm_W) (P : Option Value → pm_W → Prop) : Prop := pm_Good sc M 0 (lv_args 0 As) [] w 0 0 P
theorem pm_W_mono {p : Program} {l : Launch} {e : Env} {R : Room} {s : State} {m : MethodId} {args : Array Value} {below : List Frame} {meth : Method} {c : Code} {H : Heap} {locs : List Loc} {ca sl : Nat} {Q Q' : State → Prop} {g : JFrame} (hQ : ∀ t, Q t → Q' t) (h : W p l e R s m args below meth c H locs ca sl Q g) : W p l e R s m args below meth c H locs ca sl Q' g := by
  intro T hT X
  obtain ⟨t, a, b⟩ := h T hT X
  exact ⟨t, a, hQ t b⟩
theorem pm_mono {sc : pm_Z} {M : pm_M} {pc : Nat} {lv : pm_L} {st : List Value} {w : pm_W} {ca sl : Nat} {P P' : Option Value → pm_W → Prop} (hP : ∀ r w', P r w' → P' r w') (h : pm_Good sc M pc lv st w ca sl P) : pm_Good sc M pc lv st w ca sl P' := by
  intro l p e s m args below meth c G A ad0 ad n0 H locs ls h1 h2 h3 h4 h5 h6
  refine pm_W_mono ?_ (h l p e s m args below meth c G A ad0 ad n0 H locs ls h1 h2 h3 h4 h5 h6)
  intro t ht
  obtain ⟨o, a1, a2, ⟨⟨ad9, r, w9, b1, b2, b3⟩, b4⟩, a3⟩ := ht
  exact ⟨o, a1, a2, ⟨⟨ad9, r, w9, b1, hP _ _ b2, b3⟩, b4⟩, a3⟩
theorem pm_cw_get (G : pm_G) (ad : Nat → Nat) (w : pm_W) (k : Nat) : (pm_cw G ad w)[k]? = (w[k]?).map (fun c => (ad k, pm_ce G ad c)) := by
  unfold pm_cw
  rw [List.getElem?_mapIdx]
theorem pm_cw_at {G : pm_G} {ad : Nat → Nat} {w : pm_W} {k : Nat} {c : pm_C} (h : w[k]? = some c) : (pm_cw G ad w)[k]? = some (ad k, pm_ce G ad c) := by
  rw [pm_cw_get, h]
  rfl
theorem pm_cw_set (G : pm_G) (ad : Nat → Nat) (w : pm_W) (q : Nat) (c : pm_C) : (pm_cw G ad w).set q (ad q, pm_ce G ad c) = pm_cw G ad (w.set q c) := by
  apply List.ext_getElem?
  intro k
  rw [pm_cw_get, List.getElem?_set, List.getElem?_set, pm_cw_get]
  have hl : (pm_cw G ad w).length = w.length := by unfold pm_cw; simp
  by_cases hqk : q = k
  · subst hqk
    by_cases hlt : q < w.length
    · simp [hl, hlt]
    · simp [hl, hlt]
  · simp [hqk]
theorem pm_cat (G : pm_G) (ad : Nat → Nat) (v : Value) : (pm_tv G ad v).category = v.category := by
  cases v with
  | retAddr n =>
    match n with
    | 0 => rfl
    | 1 => rfl
    | 3 => rfl
    | 2 =>
      show (va_rf G.2.2.2.2.2.1).category = 1
      cases G.2.2.2.2.2.1 <;> rfl
    | n + 4 =>
      show (va_rf G.2.2.2.2.2.1).category = 1
      cases G.2.2.2.2.2.1 <;> rfl
  | _ => rfl
theorem pm_cats (G : pm_G) (ad : Nat → Nat) (st : List Value) : ((st.map (pm_tv G ad)).map fun v => v.category) = st.map fun v => v.category := by
  rw [List.map_map]
  apply List.map_congr_left
  intro v _
  exact pm_cat G ad v
/-- the local variable i -/
def pm_lk : Nat → pm_L → Option Value
  | _, [] => none
  | i, q :: l => bif Nat.beq q.1 i then some q.2 else pm_lk i l
theorem pm_lk_mem {i : Nat} {v : Value} : ∀ {lv : pm_L}, pm_lk i lv = some v → (i, v) ∈ lv
  | [], h => by simp [pm_lk] at h
  | q :: l, h => by
    unfold pm_lk at h
    cases hb : Nat.beq q.1 i with
    | true =>
      rw [hb] at h
      have e1 : q.1 = i := Nat.eq_of_beq_eq_true hb
      have e2 : q.2 = v := Option.some.inj h
      rw [← e1, ← e2]
      exact List.mem_cons_self
    | false =>
      rw [hb] at h
      exact List.mem_cons_of_mem _ (pm_lk_mem h)
theorem pm_lk_has {G : pm_G} {ad : Nat → Nat} {ls : Array Slot} {nL i : Nat} {lv : pm_L} {v : Value} (h : lv_has ls nL (pm_lt G ad lv)) (hk : pm_lk i lv = some v) : ls[i]? = some (.val (pm_tv G ad v)) :=
  h.2.2 (i, pm_tv G ad v) (List.mem_map.mpr ⟨(i, v), pm_lk_mem hk, rfl⟩)
def pm_s1 (i : Nat) (v : Value) (lv : pm_L) : pm_L := (i, v) :: lv.filter (fun q => !(q.1 == i) && !(q.1 + 1 == i && q.2.category == 2))
def pm_s2 (i : Nat) (v : Value) (lv : pm_L) : pm_L := (i, v) :: lv.filter (fun q => !(q.1 == i) && (!(q.1 == i + 1) && !(q.1 + 1 == i && q.2.category == 2)))
theorem pm_s1_lt (G : pm_G) (ad : Nat → Nat) (i : Nat) (v : Value) (lv : pm_L) : (i, pm_tv G ad v) :: (pm_lt G ad lv).filter (fun q => !(q.1 == i) && !(q.1 + 1 == i && q.2.category == 2)) = pm_lt G ad (pm_s1 i v lv) := by
  unfold pm_s1 pm_lt
  rw [List.map_cons, List.filter_map]
  congr 2
  apply List.filter_congr
  intro q _
  simp [pm_cat]
theorem pm_s2_lt (G : pm_G) (ad : Nat → Nat) (i : Nat) (v : Value) (lv : pm_L) : (i, pm_tv G ad v) :: (pm_lt G ad lv).filter (fun q => !(q.1 == i) && (!(q.1 == i + 1) && !(q.1 + 1 == i && q.2.category == 2))) = pm_lt G ad (pm_s2 i v lv) := by
  unfold pm_s2 pm_lt
  rw [List.map_cons, List.filter_map]
  congr 2
  apply List.filter_congr
  intro q _
  simp [pm_cat]
