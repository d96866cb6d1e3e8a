/-! rows: an instruction each, over the picture -/
section SC0
variable {sc : pm_Z}
section PMR
variable {M : pm_M} {pc : Nat} {lv : pm_L} {st : List Value} {w : pm_W} {ca sl : Nat} {P : Option Value → pm_W → Prop}
/-- an instruction that touches no heap -/
theorem pm_step {pc' : Nat} {lv' : pm_L} {st' : List Value}
    (hs : ∀ (l : Launch) (p : Program) (e : Env) (s : State) (m : MethodId) (args : Array Value) (below : List Frame) (meth : Method) (c : Code) (G : pm_G) (ad : Nat → Nat) (H : Heap) (locs : List Loc) (ls : Array Slot) (Q : State → Prop), pm_ctx M p s m args meth c → lv_has ls M.2.2.1 (pm_lt G ad lv) →
      (∀ ls' : Array Slot, lv_has ls' M.2.2.1 (pm_lt G ad lv') → W p l e M.2.2.2.2 s m args below meth c H locs ca sl Q (F0 m pc' ls' (st'.map (pm_tv G ad)))) → W p l e M.2.2.2.2 s m args below meth c H locs ca sl Q (F0 m pc ls (st.map (pm_tv G ad))))
    (h : pm_Good sc M pc' lv' st' w ca sl P) : pm_Good sc M pc lv st w ca sl P := by
  intro l p e s m args below meth c G A ad0 ad n0 H locs ls h1 h2 h3 h4 h5 h6
  exact hs l p e s m args below meth c G ad H locs ls _ h1 h4 (fun ls' hl => h l p e s m args below meth c G A ad0 ad n0 H locs ls' h1 h2 h3 hl h5 h6)
/-- the instructions that touch the stack alone -/
def pm_op : Instr → List Value → Option (List Value)
  | .iconst n, st => some (.int (Int32.ofInt n) :: st)
  | .bipush n, st => some (.int (Int8.ofInt n).toInt32 :: st)
  | .sipush n, st => some (.int (Int16.ofInt n).toInt32 :: st)
  | .lconst n, st => some (.long (Int64.ofNat (n : Nat)) :: st)
  | .iadd, .int y :: .int x :: st => some (.int (x + y) :: st)
  | .isub, .int y :: .int x :: st => some (.int (x - y) :: st)
  | .imul, .int y :: .int x :: st => some (.int (x * y) :: st)
  | .iand, .int y :: .int x :: st => some (.int (x &&& y) :: st)
  | .ior, .int y :: .int x :: st => some (.int (x ||| y) :: st)
  | .ixor, .int y :: .int x :: st => some (.int (x ^^^ y) :: st)
  | .idiv, .int y :: .int x :: st => if y = 0 then none else some (.int (x / y) :: st)
  | .irem, .int y :: .int x :: st => if y = 0 then none else some (.int (x - x / y * y) :: st)
  | .ineg, .int x :: st => some (.int (-x) :: st)
  | .ishl, .int y :: .int x :: st => some (.int (x <<< (y &&& 31)) :: st)
  | .ishr, .int y :: .int x :: st => some (.int (x >>> (y &&& 31)) :: st)
  | .iushr, .int y :: .int x :: st => some (.int (x.toUInt32 >>> (y.toUInt32 &&& Int32.toUInt32 31)).toInt32 :: st)
  | .ladd, .long y :: .long x :: st => some (.long (x + y) :: st)
  | .lmul, .long y :: .long x :: st => some (.long (x * y) :: st)
  | .ldiv, .long y :: .long x :: st => if y = 0 then none else some (.long (x / y) :: st)
  | .lrem, .long y :: .long x :: st => if y = 0 then none else some (.long (x - x / y * y) :: st)
  | .i2l, .int x :: st => some (.long x.toInt64 :: st)
  | .l2i, .long x :: st => some (.int x.toInt32 :: st)
  | .i2c, .int x :: st => some (.int (x.toUInt32 % 65536).toInt32 :: st)
  | .dup, v :: st => if v.category = 1 then some (v :: v :: st) else none
  | .pop, v :: st => if v.category = 1 then some st else none
  | .dup2, v :: u :: st => if v.category = 1 ∧ u.category = 1 then some (v :: u :: v :: u :: st) else none
  | _, _ => none
/-- how long they are -/
def pm_len : Instr → Nat
  | .bipush _ => 2
  | .sipush _ => 3
  | _ => 1
set_option maxHeartbeats 4000000 in
theorem pm_op_ok {i : Instr} {st' : List Value} (hd : decode M.2.1 pc = .ok (i, pm_len i)) (ho : pm_op i st = some st') (h : pm_Good sc M (pc + pm_len i) lv st' w ca sl P) : pm_Good sc M pc lv st w ca sl P := by
  refine pm_step ?_ h
  intro l p e s m args below meth c G ad H locs ls Q hC hl hk
  have hk := hk ls hl
  obtain ⟨hx, hb, -⟩ := hC
  unfold pm_op at ho
  split at ho
  all_goals first
    | (cases ho)
    | skip
  all_goals simp only [pm_len] at hd hk
  · exact lv_iconst hx hb hd rfl hk
  · exact lv_bipush hx hb hd rfl hk
  · exact lv_sipush hx hb hd rfl hk
  · exact lv_lconst hx hb hd rfl hk
  · exact lv_iadd hx hb hd hk
  · exact lv_isub hx hb hd hk
  · exact lv_imul hx hb hd hk
  · exact lv_iand hx hb hd hk
  · exact lv_ior hx hb hd hk
  · exact lv_ixor hx hb hd hk
  · split at ho
    · cases ho
    · cases ho; exact lv_idiv hx hb hd (by assumption) hk
  · split at ho
    · cases ho
    · cases ho; exact lv_irem hx hb hd (by assumption) hk
  · exact lv_ineg hx hb hd hk
  · exact lv_ishl hx hb hd hk
  · exact lv_ishr hx hb hd hk
  · exact lv_iushr hx hb hd rfl hk
  · exact lv_ladd hx hb hd hk
  · exact lv_lmul hx hb hd hk
  · split at ho
    · cases ho
    · cases ho; exact lv_ldiv hx hb hd (by assumption) hk
  · split at ho
    · cases ho
    · cases ho; exact lv_lrem hx hb hd (by assumption) hk
  · exact lv_i2l hx hb hd rfl hk
  · exact lv_l2i hx hb hd rfl hk
  · exact lv_i2c hx hb hd rfl hk
  · split at ho
    · cases ho; exact lv_dup hx hb hd (by rw [pm_cat]; assumption) hk
    · cases ho
  · split at ho
    · cases ho; exact lv_pop hx hb hd (by rw [pm_cat]; assumption) hk
    · cases ho
  · split at ho
    · rename_i hcc
      cases ho; exact lv_dup2_11 hx hb hd (by rw [pm_cat]; exact hcc.1) (by rw [pm_cat]; exact hcc.2) hk
    · cases ho
/-- loads -/
def pm_ld : Instr → Option (Nat × Nat × Nat)
  | .iload_n k => some (k.val, 0, 1)
  | .iload i => some (i, 0, 2)
  | .lload_n k => some (k.val, 1, 1)
  | .lload i => some (i, 1, 2)
  | .aload_n k => some (k.val, 2, 1)
  | .aload i => some (i, 2, 2)
  | _ => none
def pm_kind : Value → Nat
  | .int _ => 0
  | .long _ => 1
  | .ref _ => 2
  | .retAddr 0 => 2
  | .retAddr 1 => 2
  | .retAddr 3 => 2
  | _ => 3
theorem pm_kind2 {v : Value} (h : pm_kind v = 2) (G : pm_G) (ad : Nat → Nat) : ∃ a, pm_tv G ad v = .ref a := by
  cases v with
  | ref k => exact ⟨_, rfl⟩
  | retAddr n =>
    match n, h with
    | 0, _ => exact ⟨_, rfl⟩
    | 1, _ => exact ⟨_, rfl⟩
    | 3, _ => exact ⟨_, rfl⟩
    | 2, h => simp [pm_kind] at h
    | n + 4, h => simp [pm_kind] at h
  | _ => simp [pm_kind] at h
theorem pm_kind0 {v : Value} (h : pm_kind v = 0) : ∃ x, v = .int x := by
  cases v with
  | int x => exact ⟨x, rfl⟩
  | retAddr n =>
    match n, h with
    | 2, h => simp [pm_kind] at h
    | n + 4, h => simp [pm_kind] at h
  | _ => simp [pm_kind] at h
theorem pm_kind1 {v : Value} (h : pm_kind v = 1) : ∃ x, v = .long x := by
  cases v with
  | long x => exact ⟨x, rfl⟩
  | retAddr n =>
    match n, h with
    | 2, h => simp [pm_kind] at h
    | n + 4, h => simp [pm_kind] at h
  | _ => simp [pm_kind] at h
theorem pm_ld_ok {i : Instr} {x k n : Nat} {v : Value} (hd : decode M.2.1 pc = .ok (i, n)) (ho : pm_ld i = some (x, k, n)) (hv : pm_lk x lv = some v) (hk : pm_kind v = k) (h : pm_Good sc M (pc + n) lv (v :: st) w ca sl P) : pm_Good sc M pc lv st w ca sl P := by
  refine pm_step ?_ h
  intro l p e s m args below meth c G ad H locs ls Q hC hl hk2
  have hk2 := hk2 ls hl
  have hg := pm_lk_has hl hv
  obtain ⟨hx, hb, -⟩ := hC
  unfold pm_ld at ho
  split at ho <;> first | (cases ho) | skip
  · obtain ⟨y, rfl⟩ := pm_kind0 hk
    exact lv_iload_n hx hb hd rfl hg hk2
  · obtain ⟨y, rfl⟩ := pm_kind0 hk
    exact lv_iload hx hb hd hg hk2
  · obtain ⟨y, rfl⟩ := pm_kind1 hk
    exact lv_lload_n hx hb hd rfl hg hk2
  · obtain ⟨y, rfl⟩ := pm_kind1 hk
    exact lv_lload hx hb hd hg hk2
  · obtain ⟨y, hy⟩ := pm_kind2 hk G ad
    rw [List.map_cons, hy] at hk2
    rw [hy] at hg
    exact lv_aload_n hx hb hd rfl hg hk2
  · obtain ⟨y, hy⟩ := pm_kind2 hk G ad
    rw [List.map_cons, hy] at hk2
    rw [hy] at hg
    exact lv_aload hx hb hd hg hk2
/-- stores of one word -/
def pm_sto : Instr → Option (Nat × Nat × Nat)
  | .istore_n k => some (k.val, 0, 1)
  | .istore i => some (i, 0, 2)
  | .astore_n k => some (k.val, 2, 1)
  | .astore i => some (i, 2, 2)
  | _ => none
theorem pm_sto_ok {i : Instr} {x k n : Nat} {v : Value} (hd : decode M.2.1 pc = .ok (i, n)) (ho : pm_sto i = some (x, k, n)) (hk : pm_kind v = k) (hn : x < M.2.2.1) (h : pm_Good sc M (pc + n) (pm_s1 x v lv) st w ca sl P) : pm_Good sc M pc lv (v :: st) w ca sl P := by
  refine pm_step ?_ h
  intro l p e s m args below meth c G ad H locs ls Q hC hl hk2
  obtain ⟨hx, hb, -⟩ := hC
  have e1 := pm_s1_lt G ad x v lv
  unfold pm_sto at ho
  split at ho <;> first | (cases ho) | skip
  · obtain ⟨y, rfl⟩ := pm_kind0 hk
    exact lv_istore_n hx hb hd rfl hl hn e1 hk2
  · obtain ⟨y, rfl⟩ := pm_kind0 hk
    exact lv_istore hx hb hd hl hn e1 hk2
  · obtain ⟨y, hy⟩ := pm_kind2 hk G ad
    rw [List.map_cons, hy]
    rw [hy] at e1
    exact lv_astore_n hx hb hd rfl hl hn e1 hk2
  · obtain ⟨y, hy⟩ := pm_kind2 hk G ad
    rw [List.map_cons, hy]
    rw [hy] at e1
    exact lv_astore hx hb hd hl hn e1 hk2
theorem pm_lst {i : Nat} {x : Int64} (hd : decode M.2.1 pc = .ok (.lstore i, 2)) (hn : i + 1 < M.2.2.1) (h : pm_Good sc M (pc + 2) (pm_s2 i (.long x) lv) st w ca sl P) : pm_Good sc M pc lv (.long x :: st) w ca sl P := by
  refine pm_step ?_ h
  intro l p e s m args below meth c G ad H locs ls Q hC hl hk2
  obtain ⟨hx, hb, -⟩ := hC
  exact lv_lstore hx hb hd hl hn (pm_s2_lt G ad i (.long x) lv) hk2
theorem pm_lstn {k : Fin 4} {x : Int64} (hd : decode M.2.1 pc = .ok (.lstore_n k, 1)) (hn : k.val + 1 < M.2.2.1) (h : pm_Good sc M (pc + 1) (pm_s2 k.val (.long x) lv) st w ca sl P) : pm_Good sc M pc lv (.long x :: st) w ca sl P := by
  refine pm_step ?_ h
  intro l p e s m args below meth c G ad H locs ls Q hC hl hk2
  obtain ⟨hx, hb, -⟩ := hC
  exact lv_lstore_n hx hb hd rfl hl hn (pm_s2_lt G ad k.val (.long x) lv) hk2
theorem pm_inc {i : Nat} {n : Int} {x : Int32} (hd : decode M.2.1 pc = .ok (.iinc i n, 3)) (hv : pm_lk i lv = some (.int x)) (hn : i < M.2.2.1) (h : pm_Good sc M (pc + 3) (pm_s1 i (.int (x + Int32.ofInt n)) lv) st w ca sl P) : pm_Good sc M pc lv st w ca sl P := by
  refine pm_step ?_ h
  intro l p e s m args below meth c G ad H locs ls Q hC hl hk2
  obtain ⟨hx, hb, -⟩ := hC
  have hm : (i, pm_tv G ad (.int x)) ∈ pm_lt G ad lv := List.mem_map.mpr ⟨(i, .int x), pm_lk_mem hv, rfl⟩
  obtain ⟨k, hk⟩ := List.getElem?_of_mem hm
  exact lv_iinc hx hb hd hl hk rfl hn (pm_s1_lt G ad i (.int (x + Int32.ofInt n)) lv) hk2
/-- branches -/
def pm_cmp : ClassFile.Cond → Int32 → Int32 → Bool
  | .eq, x, y => decide (x = y)
  | .ne, x, y => !decide (x = y)
  | .lt, x, y => decide (x < y)
  | .ge, x, y => decide (y ≤ x)
  | .gt, x, y => decide (y < x)
  | .le, x, y => decide (x ≤ y)
def pm_to (pc : Nat) (off : Int) : Nat := ((pc : Int) + off).toNat
theorem pm_to_ok {pc : Nat} {off : Int} (h : 0 ≤ (pc : Int) + off) : (pc : Int) + off = (pm_to pc off : Int) := (Int.toNat_of_nonneg h).symm
theorem pm_goto {off : Int} (hd : decode M.2.1 pc = .ok (.goto off, 3)) (ho : 0 ≤ (pc : Int) + off) (h : pm_Good sc M (pm_to pc off) lv st w ca sl P) : pm_Good sc M pc lv st w ca sl P := by
  refine pm_step ?_ h
  intro l p e s m args below meth c G ad H locs ls Q hC hl hk2
  obtain ⟨hx, hb, -⟩ := hC
  exact lv_goto hx hb hd (pm_to_ok ho) (hk2 ls hl)
theorem pm_br {c : ClassFile.Cond} {off : Int} {x : Int32} (hd : decode M.2.1 pc = .ok (.ifCond c off, 3)) (ho : 0 ≤ (pc : Int) + off) (ht : pm_cmp c x 0 = true → pm_Good sc M (pm_to pc off) lv st w ca sl P) (hf : pm_cmp c x 0 = false → pm_Good sc M (pc + 3) lv st w ca sl P) : pm_Good sc M pc lv (.int x :: st) w ca sl P := by
  intro l p e s m args below meth c9 G A ad0 ad n0 H locs ls h1 h2 h3 h4 h5 h6
  have ht := fun q => ht q l p e s m args below meth c9 G A ad0 ad n0 H locs ls h1 h2 h3 h4 h5 h6
  have hf := fun q => hf q l p e s m args below meth c9 G A ad0 ad n0 H locs ls h1 h2 h3 h4 h5 h6
  obtain ⟨hx, hb, -⟩ := h1
  have ho := pm_to_ok ho
  cases c
  · exact lv_if_eq hx hb hd ho (fun q => ht (by simp [pm_cmp, q])) (fun q => hf (by simp [pm_cmp, q]))
  · exact lv_if_ne hx hb hd ho (fun q => ht (by simp [pm_cmp, q])) (fun q => hf (by simpa [pm_cmp] using q))
  · exact lv_if_lt hx hb hd ho (fun q => ht (by simp [pm_cmp, q])) (fun q => hf (by simpa [pm_cmp] using q))
  · exact lv_if_ge hx hb hd ho (fun q => ht (by simp [pm_cmp, q])) (fun q => hf (by simpa [pm_cmp] using q))
  · exact lv_if_gt hx hb hd ho (fun q => ht (by simp [pm_cmp, q])) (fun q => hf (by simpa [pm_cmp] using q))
  · exact lv_if_le hx hb hd ho (fun q => ht (by simp [pm_cmp, q])) (fun q => hf (by simpa [pm_cmp] using q))
theorem pm_br2 {c : ClassFile.Cond} {off : Int} {x y : Int32} (hd : decode M.2.1 pc = .ok (.if_icmp c off, 3)) (ho : 0 ≤ (pc : Int) + off) (ht : pm_cmp c x y = true → pm_Good sc M (pm_to pc off) lv st w ca sl P) (hf : pm_cmp c x y = false → pm_Good sc M (pc + 3) lv st w ca sl P) : pm_Good sc M pc lv (.int y :: .int x :: st) w ca sl P := by
  intro l p e s m args below meth c9 G A ad0 ad n0 H locs ls h1 h2 h3 h4 h5 h6
  have ht := fun q => ht q l p e s m args below meth c9 G A ad0 ad n0 H locs ls h1 h2 h3 h4 h5 h6
  have hf := fun q => hf q l p e s m args below meth c9 G A ad0 ad n0 H locs ls h1 h2 h3 h4 h5 h6
  obtain ⟨hx, hb, -⟩ := h1
  have ho := pm_to_ok ho
  cases c
  · exact lv_icmp_eq hx hb hd ho (fun q => ht (by simp [pm_cmp, q])) (fun q => hf (by simp [pm_cmp, q]))
  · exact lv_icmp_ne hx hb hd ho (fun q => ht (by simp [pm_cmp, q])) (fun q => hf (by simpa [pm_cmp] using q))
  · exact lv_icmp_lt hx hb hd ho (fun q => ht (by simp [pm_cmp, q])) (fun q => hf (by simpa [pm_cmp] using q))
  · exact lv_icmp_ge hx hb hd ho (fun q => ht (by simp [pm_cmp, q])) (fun q => hf (by simpa [pm_cmp] using q))
  · exact lv_icmp_gt hx hb hd ho (fun q => ht (by simp [pm_cmp, q])) (fun q => hf (by simpa [pm_cmp] using q))
  · exact lv_icmp_le hx hb hd ho (fun q => ht (by simp [pm_cmp, q])) (fun q => hf (by simpa [pm_cmp] using q))
/-- where a switch goes -/
def pm_tsw (dflt lo hi : Int) (offs : Array Int) (x : Int32) : Option Int :=
  if x.toInt < lo ∨ hi < x.toInt then some dflt else offs[(x.toInt - lo).toNat]?
theorem pm_tab {dflt lo hi : Int} {offs : Array Int} {len : Nat} {x : Int32} {off : Int} (hd : decode M.2.1 pc = .ok (.tableswitch dflt lo hi offs, len)) (hs : pm_tsw dflt lo hi offs x = some off) (ho : 0 ≤ (pc : Int) + off) (h : pm_Good sc M (pm_to pc off) lv st w ca sl P) : pm_Good sc M pc lv (.int x :: st) w ca sl P := by
  refine pm_step ?_ h
  intro l p e s m args below meth c G ad H locs ls Q hC hl hk2
  obtain ⟨hx, hb, -⟩ := hC
  have ho := pm_to_ok ho
  unfold pm_tsw at hs
  split at hs
  · rename_i hc
    cases hs
    exact lv_tableOut hx hb hd hc ho (hk2 ls hl)
  · rename_i hc
    exact lv_tableIn hx hb hd (fun q => hc (Or.inl q)) (fun q => hc (Or.inr q)) hs ho (hk2 ls hl)
theorem pm_lkp {dflt : Int} {ps : Array (Int × Int)} {len : Nat} {x : Int32} {off : Int} (hd : decode M.2.1 pc = .ok (.lookupswitch dflt ps, len)) (hp : (ps.toList.zip (ps.toList.drop 1)).all (fun (a, next) => a.1 < next.1) = true) (hs : Op.lookupswitch.offset ps.toList dflt x.toInt = off) (ho : 0 ≤ (pc : Int) + off) (h : pm_Good sc M (pm_to pc off) lv st w ca sl P) : pm_Good sc M pc lv (.int x :: st) w ca sl P := by
  refine pm_step ?_ h
  intro l p e s m args below meth c G ad H locs ls Q hC hl hk2
  obtain ⟨hx, hb, -⟩ := hC
  exact lv_lookup hx hb hd hp hs (pm_to_ok ho) (hk2 ls hl)
/-- constants of the pool -/
theorem pm_ldc {idx : Nat} {v : Int32} (hd : decode M.2.1 pc = .ok (.ldc idx, 2)) (hc : Cond.constant M.1.cls idx v ∈ pm_T) (h : pm_Good sc M (pc + 2) lv (.int v :: st) w ca sl P) : pm_Good sc M pc lv st w ca sl P := by
  refine pm_step ?_ h
  intro l p e s m args below meth c G ad H locs ls Q hC hl hk2
  obtain ⟨hx, hb, -, -, hown, hts, -⟩ := hC
  exact lv_ldc hx hb hown (hts _ hc) hd (hk2 ls hl)
theorem pm_ldcw {idx : Nat} {v : Int32} (hd : decode M.2.1 pc = .ok (.ldc_w idx, 3)) (hc : Cond.constant M.1.cls idx v ∈ pm_T) (h : pm_Good sc M (pc + 3) lv (.int v :: st) w ca sl P) : pm_Good sc M pc lv st w ca sl P := by
  refine pm_step ?_ h
  intro l p e s m args below meth c G ad H locs ls Q hC hl hk2
  obtain ⟨hx, hb, -, -, hown, hts, -⟩ := hC
  exact lv_ldcw hx hb hown (hts _ hc) hd (hk2 ls hl)
theorem pm_ldc2 {idx : Nat} {v : Int64} (hd : decode M.2.1 pc = .ok (.ldc2_w idx, 3)) (hc : Cond.constantLong M.1.cls idx v ∈ pm_T) (h : pm_Good sc M (pc + 3) lv (.long v :: st) w ca sl P) : pm_Good sc M pc lv st w ca sl P := by
  refine pm_step ?_ h
  intro l p e s m args below meth c G ad H locs ls Q hC hl hk2
  obtain ⟨hx, hb, -, -, hown, hts, -⟩ := hC
  exact lv_ldc2 hx hb hown (hts _ hc) hd (hk2 ls hl)
theorem pm_ldcS (hd : decode M.2.1 pc = .ok (.ldc 68, 2)) (hM : M.1.cls = "CoincidenceBureau") (h : pm_Good sc M (pc + 2) lv (.retAddr 0 :: st) w ca sl P) : pm_Good sc M pc lv st w ca sl P := by
  intro l p e s m args below meth c9 G A ad0 ad n0 H locs ls h1 h2 h3 h4 h5 h6
  have hk := h l p e s m args below meth c9 G A ad0 ad n0 H locs ls h1 h2 h3 h4 h5 h6
  obtain ⟨hx, hb, -, -, hown, -⟩ := h1
  obtain ⟨-, -, -, -, -, -, hstr⟩ := h2
  rw [hM] at hown
  exact va_ldcS hx hb hown hstr.2.1 hd hk
/-- the String constant's fields and bytes, two statics -/
theorem pm_gsv {idx : Nat} (hd : decode M.2.1 pc = .ok (.getfield idx, 3)) (hlk : Cond.fieldLink M.1.cls idx "java/lang/String" "value" "[B" ∈ pm_T) (h : pm_Good sc M (pc + 3) lv (.retAddr 1 :: st) w ca sl P) : pm_Good sc M pc lv (.retAddr 0 :: st) w ca sl P := by
  intro l p e s m args below meth c9 G A ad0 ad n0 H locs ls h1 h2 h3 h4 h5 h6
  have hk := h l p e s m args below meth c9 G A ad0 ad n0 H locs ls h1 h2 h3 h4 h5 h6
  obtain ⟨hx, hb, -, -, hown, hts, -⟩ := h1
  obtain ⟨-, -, -, hS, -, -, hstr⟩ := h2
  exact vk_getf hx hb (hstr.1.1 0 (by decide)).2.2.1 hS hown (hts _ hlk) (fun _ h9 => h9) hd hk
theorem pm_gsc {idx : Nat} (hd : decode M.2.1 pc = .ok (.getfield idx, 3)) (hlk : Cond.fieldLink M.1.cls idx "java/lang/String" "coder" "B" ∈ pm_T) (h : pm_Good sc M (pc + 3) lv (.int 0 :: st) w ca sl P) : pm_Good sc M pc lv (.retAddr 0 :: st) w ca sl P := by
  intro l p e s m args below meth c9 G A ad0 ad n0 H locs ls h1 h2 h3 h4 h5 h6
  have hk := h l p e s m args below meth c9 G A ad0 ad n0 H locs ls h1 h2 h3 h4 h5 h6
  obtain ⟨hx, hb, -, -, hown, hts, -⟩ := h1
  obtain ⟨-, -, -, hS, -, -, hstr⟩ := h2
  exact vk_getf hx hb (hstr.1.1 0 (by decide)).2.1 hS hown (hts _ hlk) (fun _ h9 => h9) hd hk
theorem pm_gst {idx : Nat} (hd : decode M.2.1 pc = .ok (.getstatic idx, 3)) (hlk : Cond.fieldLink M.1.cls idx "java/lang/String" "COMPACT_STRINGS" "Z" ∈ pm_T) (h : pm_Good sc M (pc + 3) lv (.int 1 :: st) w ca sl P) : pm_Good sc M pc lv st w ca sl P := by
  intro l p e s m args below meth c9 G A ad0 ad n0 H locs ls h1 h2 h3 h4 h5 h6
  have hk := h l p e s m args below meth c9 G A ad0 ad n0 H locs ls h1 h2 h3 h4 h5 h6
  obtain ⟨hx, hb, -, -, hown, hts, -⟩ := h1
  obtain ⟨-, -, -, hS, -, -, hstr⟩ := h2
  exact va_gets hx hb hstr.2.2.1 hS hown (hts _ hlk) (fun _ h9 => h9) hd hk
theorem pm_gsf {idx : Nat} (hd : decode M.2.1 pc = .ok (.getstatic idx, 3)) (hlk : Cond.fieldLink M.1.cls idx "jdk/internal/util/Preconditions" "SIOOBE_FORMATTER" "Ljava/util/function/BiFunction;" ∈ pm_T) (h : pm_Good sc M (pc + 3) lv (.retAddr 2 :: st) w ca sl P) : pm_Good sc M pc lv st w ca sl P := by
  intro l p e s m args below meth c9 G A ad0 ad n0 H locs ls h1 h2 h3 h4 h5 h6
  have hk := h l p e s m args below meth c9 G A ad0 ad n0 H locs ls h1 h2 h3 h4 h5 h6
  obtain ⟨hx, hb, -, -, hown, hts, -⟩ := h1
  obtain ⟨-, -, -, hS, -, -, hstr⟩ := h2
  exact va_gets hx hb hstr.2.2.2.1 hS hown (hts _ hlk) (fun _ h9 => h9) hd hk
theorem pm_slen (hd : decode M.2.1 pc = .ok (.arraylength, 1)) (h : pm_Good sc M (pc + 1) lv (.int 117 :: st) w ca sl P) : pm_Good sc M pc lv (.retAddr 1 :: st) w ca sl P := by
  intro l p e s m args below meth c9 G A ad0 ad n0 H locs ls h1 h2 h3 h4 h5 h6
  have hk := h l p e s m args below meth c9 G A ad0 ad n0 H locs ls h1 h2 h3 h4 h5 h6
  obtain ⟨hx, hb, -, -, hown, hts, -⟩ := h1
  obtain ⟨-, -, -, hS, -, -, hstr⟩ := h2
  obtain ⟨cell, q1, q2, q3, q4, q5, q6, q7⟩ := (hstr.1.1 0 (by decide)).2.2.2
  exact W.alen (n := 117) hx hb (by rw [hS.2.1 _ (Array.getElem?_eq_some_iff.mp q1).1 q7]; exact q1) q2 q5 rfl rfl hd hk
theorem pm_sbl {i : Int32} (hd : decode M.2.1 pc = .ok (.baload, 1)) (hi : vp_in i 117) (h : pm_Good sc M (pc + 1) lv (.int (pm_bt.getD i.toNatClampNeg 0) :: st) w ca sl P) : pm_Good sc M pc lv (.int i :: .retAddr 1 :: st) w ca sl P := by
  intro l p e s m args below meth c9 G A ad0 ad n0 H locs ls h1 h2 h3 h4 h5 h6
  have hk := h l p e s m args below meth c9 G A ad0 ad n0 H locs ls h1 h2 h3 h4 h5 h6
  obtain ⟨hx, hb, -, -, hown, hts, -⟩ := h1
  obtain ⟨-, -, -, hS, -, -, hstr⟩ := h2
  have hZ := (hstr.1.1 0 (by decide)).2.2.2
  exact va_tb hx hb hZ hS hi rfl hd hk
/-- the script -/
theorem pm_scl (hd : decode M.2.1 pc = .ok (.arraylength, 1)) (h : pm_Good sc M (pc + 1) lv (.int (Int32.ofNat sc.1) :: st) w ca sl P) : pm_Good sc M pc lv (.retAddr 3 :: st) w ca sl P := by
  intro l p e s m args below meth c9 G A ad0 ad n0 H locs ls h1 h2 h3 h4 h5 h6
  have hk := h l p e s m args below meth c9 G A ad0 ad n0 H locs ls h1 h2 h3 h4 h5 h6
  obtain ⟨hx, hb, -⟩ := h1
  obtain ⟨-, -, -, hS, -, -, hstr⟩ := h2
  exact va_slen hx hb hstr.2.2.2.2.1 hstr.2.2.2.2.2.1 hstr.2.2.2.2.2.2 hS hd hk
theorem pm_scd {i : Int32} (hd : decode M.2.1 pc = .ok (.iaload, 1)) (hi : vp_in i sc.1) (h : pm_Good sc M (pc + 1) lv (.int (sc.2 i.toNatClampNeg) :: st) w ca sl P) : pm_Good sc M pc lv (.int i :: .retAddr 3 :: st) w ca sl P := by
  intro l p e s m args below meth c9 G A ad0 ad n0 H locs ls h1 h2 h3 h4 h5 h6
  have hk := h l p e s m args below meth c9 G A ad0 ad n0 H locs ls h1 h2 h3 h4 h5 h6
  obtain ⟨hx, hb, -⟩ := h1
  obtain ⟨-, -, -, hS, -, -, hstr⟩ := h2
  exact va_sld hx hb hstr.2.2.2.2.1 hstr.2.2.2.2.2.1 hstr.2.2.2.2.2.2 hS hi hd hk
/-- returns -/
theorem pm_ret (hd : decode M.2.1 pc = .ok (.return_, 1)) (hM : M.2.2.2.1 = none) (h : P none w) : pm_Good sc M pc lv [] w ca sl P := by
  intro l p e s m args below meth c9 G A ad0 ad n0 H locs ls h1 h2 h3 h4 h5 h6
  obtain ⟨hx, hb, hr, -, -, -, hlocks, -⟩ := h1
  obtain ⟨hK, hP, hD, hS, hA, -⟩ := h2
  refine W.widen h5 h6 ?_
  exact W.vret hx hb (hr.trans hM) (fun t ht hW => ⟨⟨ad, none, w, rfl, h, h3, by rw [ht]; exact hP, hD, va_K.moved hW.alike hK⟩, hS.F ht⟩) hS.2.2 hd
theorem pm_iret {ty : FieldType} {v : Int32} (hd : decode M.2.1 pc = .ok (.ireturn, 1)) (hM : M.2.2.2.1 = some ty) (hn : narrow ty (.int v) = .int v) (h : P (some (.int v)) w) : pm_Good sc M pc lv [.int v] w ca sl P := by
  intro l p e s m args below meth c9 G A ad0 ad n0 H locs ls h1 h2 h3 h4 h5 h6
  obtain ⟨hx, hb, hr, -, -, -, hlocks, -⟩ := h1
  obtain ⟨hK, hP, hD, hS, hA, -⟩ := h2
  refine W.widen h5 h6 ?_
  exact W.zret hx hb (hr.trans hM) hn (fun t ht hW => ⟨⟨ad, some (.int v), w, rfl, h, h3, by rw [ht]; exact hP, hD, va_K.moved hW.alike hK⟩, hS.F ht⟩) hS.2.2 hd
theorem pm_aret {n : String} {q : Nat} (hd : decode M.2.1 pc = .ok (.areturn, 1)) (hM : M.2.2.2.1 = some (.object n)) (h : P (some (.ref q)) w) : pm_Good sc M pc lv [.ref q] w ca sl P := by
  intro l p e s m args below meth c9 G A ad0 ad n0 H locs ls h1 h2 h3 h4 h5 h6
  obtain ⟨hx, hb, hr, -, -, -, hlocks, -⟩ := h1
  obtain ⟨hK, hP, hD, hS, hA, -⟩ := h2
  refine W.widen h5 h6 ?_
  exact W.aret hx hb (hr.trans hM) (Or.inl ⟨n, rfl⟩) (Or.inr ⟨_, rfl⟩) (fun t ht hW => ⟨⟨ad, some (.ref q), w, rfl, h, h3, by rw [ht]; exact hP, hD, va_K.moved hW.alike hK⟩, hS.F ht⟩) hS.2.2 hd
end PMR
end SC0
