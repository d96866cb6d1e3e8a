/-! checks of the code tables -/
def pm_is (i : Nat) (w : Cond) : Bool := decide (lw_tbl[i]? = some w) && goodWord w
theorem pm_is_ok {i : Nat} {w : Cond} (h : pm_is i w = true) : w ∈ pm_T := by
  simp only [pm_is, Bool.and_eq_true, decide_eq_true_eq] at h
  exact pm_T_of i h.1 h.2
def pm_isn (i : Nat) (w : Cond) : Bool := decide (tables_1[i]? = some w) && pm_isN w
theorem pm_isn_ok {i : Nat} {w : Cond} (h : pm_isn i w = true) : w ∈ pm_N := by
  simp only [pm_isn, Bool.and_eq_true, decide_eq_true_eq] at h
  exact List.mem_filter.mpr ⟨List.mem_of_getElem? h.1, h.2⟩
def pm_rmb (M Mj : pm_M) : Bool := Nat.ble (Mj.2.2.2.2.frames + 1) M.2.2.2.2.frames && Nat.ble (8 + (Mj.2.2.1 + 11) + Mj.2.2.2.2.locals) M.2.2.2.2.locals
theorem pm_rmb_ok {M Mj : pm_M} (h : pm_rmb M Mj = true) : pm_rm M Mj := by
  simp only [pm_rmb, Bool.and_eq_true, Nat.ble_eq] at h
  exact h
/-- what an entry of a code table must say truly -/
def pm_lb (M : pm_M) (pc : Nat) : pm_E → Bool
  | (.getfield idx, _, a, b, p) => if a = 100 then pm_is p (.fieldLink M.1.cls idx "java/lang/String" "value" "[B") else if a = 101 then pm_is p (.fieldLink M.1.cls idx "java/lang/String" "coder" "B") else match pm_cl[a]? with
    | some r => Nat.blt b r.2.2 && pm_is p (.fieldLink M.1.cls idx (r.2.1 b).1 (r.2.1 b).2.1 (r.2.1 b).2.2.1)
    | none => false
  | (.putfield idx, _, a, b, p) => match pm_cl[a]? with
    | some r => (Nat.blt b r.2.2 && pm_is p (.fieldLink M.1.cls idx (r.2.1 b).1 (r.2.1 b).2.1 (r.2.1 b).2.2.1)) && (!(r.2.1 b).2.2.2 || (decide (M.1.name = "<init>") && decide ((r.2.1 b).1 = M.1.cls)))
    | none => false
  | (.getstatic idx, _, a, _, p) => if a = 0 then pm_is p (.fieldLink M.1.cls idx "java/lang/String" "COMPACT_STRINGS" "Z") else pm_is p (.fieldLink M.1.cls idx "jdk/internal/util/Preconditions" "SIOOBE_FORMATTER" "Ljava/util/function/BiFunction;")
  | (.new idx, _, a, _, p) => match pm_cl[a]? with
    | some r => pm_is p (.classLink M.1.cls idx r.1)
    | none => false
  | (.newarray aty, _, _, b, p) => pm_is p (.arrayClass (newarray.typeOf aty)) && (decide (aty = .int ∧ b = 0) || decide (aty = .char ∧ b = 1))
  | (.ldc idx, _, a, b, p) => if b = 0 then pm_is p (.constant M.1.cls idx (Int32.ofNat a)) else decide (M.1.cls = "CoincidenceBureau" ∧ idx = 68)
  | (.ldc_w idx, _, a, _, p) => pm_is p (.constant M.1.cls idx (Int32.ofNat a))
  | (.ldc2_w idx, _, a, _, p) => pm_is p (.constantLong M.1.cls idx (Int64.ofNat a))
  | (.invokevirtual idx, _, a, b, p) => match pm_mt a with
    | some x => pm_rmb M x.1 && (if b = 1 then pm_isn p (.methodLinkNest M.1.cls idx x.1.1 "CoincidenceBureau") else pm_is p (.methodLink M.1.cls idx x.1.1)) && decide (x.2.2.1 = 0) && (if b = 4 then decide (x.1.1.cls = "java/lang/String") else true)
    | none => false
  | (.invokestatic idx, _, a, b, p) => if b = 3 then pm_is p (.methodLink M.1.cls idx arraycopyName) else if b = 5 then pm_is p (.methodLink M.1.cls idx Lib.Math.max.name) else if b = 6 then pm_is p (.methodLink M.1.cls idx Lib.Math.min.name) else if b = 7 then pm_is p (.methodLink M.1.cls idx Lib.Math.abs.name) else match pm_mt a with
    | some x => pm_rmb M x.1 && (if b = 1 then pm_isn p (.methodLinkNest M.1.cls idx x.1.1 "CoincidenceBureau") else pm_is p (.methodLink M.1.cls idx x.1.1)) && decide (x.2.2.1 = 1)
    | none => false
  | (.invokespecial idx, _, a, b, p) => if b = 2 then pm_is p (.methodLink M.1.cls idx objectInit) else match pm_mt a with
    | some x => pm_rmb M x.1 && (if b = 1 then pm_isn p (.methodLinkNest M.1.cls idx x.1.1 "CoincidenceBureau") else pm_is p (.methodLink M.1.cls idx x.1.1)) && decide (x.2.2.1 = 2)
    | none => false
  | (.goto o, _) => decide (0 ≤ (pc : Int) + o)
  | (.ifCond _ o, _) => decide (0 ≤ (pc : Int) + o)
  | (.if_icmp _ o, _) => decide (0 ≤ (pc : Int) + o)
  | (.tableswitch d _ _ os, _) => decide (0 ≤ (pc : Int) + d) && os.toList.all (fun o => decide (0 ≤ (pc : Int) + o))
  | (.lookupswitch d ps, _) => decide (0 ≤ (pc : Int) + d) && ps.toList.all (fun o => decide (0 ≤ (pc : Int) + o.2)) && (ps.toList.zip (ps.toList.drop 1)).all (fun (a, next) => a.1 < next.1)
  | _ => true
def pm_eb (M : pm_M) (pc : Nat) (e : pm_E) : Bool := decide (decode M.2.1 pc = .ok (e.1, e.2.1)) && pm_lb M pc e
def pm_kb (M : pm_M) (c : pm_K) : Bool := (List.range c.length).all fun i => (List.range 16).all fun j => match pm_fetch c (16 * i + j) with
  | none => true
  | some e => pm_eb M (16 * i + j) e
theorem pm_kb_ok {M : pm_M} {c : pm_K} (h : pm_kb M c = true) {pc : Nat} {e : pm_E} (he : pm_fetch c pc = some e) : pm_eb M pc e = true := by
  have hl : pc / 16 < c.length := by
    rcases Nat.lt_or_ge (pc / 16) c.length with q | q
    · exact q
    · have : pm_fetch c pc = none := by
        have h9 : c.getD (pc / 16) [] = [] := by
          rw [List.getD_eq_getElem?_getD, List.getElem?_eq_none q]
          rfl
        unfold pm_fetch
        rw [h9]
        rfl
      rw [this] at he
      cases he
  have h1 := List.all_eq_true.mp h (pc / 16) (List.mem_range.mpr hl)
  have h2 := List.all_eq_true.mp h1 (pc % 16) (List.mem_range.mpr (Nat.mod_lt _ (by decide)))
  rw [Nat.div_add_mod] at h2
  rw [he] at h2
  exact h2
/-- a method's own words: its code, its class begun, its kind -/
def pm_xb (x : pm_X) (p1 p2 p3 p4 : Nat) : Bool := pm_is p1 (.code x.1.1 x.1.2.1 x.1.2.2.1 x.1.2.2.2.1) && pm_is p2 (.initialized x.1.1.cls) && decide (x.1.1.cls ≠ "java/lang/invoke/MethodHandle" ∧ x.1.1.cls ≠ "java/lang/invoke/VarHandle") && plainName x.1.1.cls && decide ((parseMethodDescriptor x.1.1.desc).map (fun d => d.parameters.length) = some x.2.1) &&
  (match x.2.2.1 with
  | 0 => pm_is p3 (.instanceMethod x.1.1) && pm_is p4 (.selects x.1.1.cls x.1.1 x.1.1)
  | 1 => pm_is p3 (.static x.1.1)
  | _ => pm_is p3 (.instanceMethod x.1.1) && decide (x.1.1.name = "<init>" ∧ x.1.2.2.2.1 = none))
def pm_ok (x : pm_X) : Prop := (∃ p1 p2 p3 p4, pm_xb x p1 p2 p3 p4 = true) ∧ pm_kb x.1 x.2.2.2 = true
theorem mv_0 : pm_ok (mm_0, 0, 2, mk_0) := ⟨⟨74, 46, 73, 0, by decide +kernel⟩, by decide +kernel⟩
theorem mv_1 : pm_ok (mm_1, 0, 2, mk_1) := ⟨⟨96, 47, 95, 0, by decide +kernel⟩, by decide +kernel⟩
theorem mv_2 : pm_ok (mm_2, 0, 2, mk_2) := ⟨⟨148, 48, 147, 0, by decide +kernel⟩, by decide +kernel⟩
theorem mv_3 : pm_ok (mm_3, 0, 2, mk_3) := ⟨⟨182, 49, 181, 0, by decide +kernel⟩, by decide +kernel⟩
theorem mv_4 : pm_ok (mm_4, 0, 2, mk_4) := ⟨⟨202, 50, 201, 0, by decide +kernel⟩, by decide +kernel⟩
theorem mv_5 : pm_ok (mm_5, 0, 2, mk_5) := ⟨⟨222, 51, 221, 0, by decide +kernel⟩, by decide +kernel⟩
theorem mv_6 : pm_ok (mm_6, 0, 2, mk_6) := ⟨⟨240, 52, 239, 0, by decide +kernel⟩, by decide +kernel⟩
theorem mv_7 : pm_ok (mm_7, 0, 0, mk_7) := ⟨⟨260, 53, 258, 259, by decide +kernel⟩, by decide +kernel⟩
theorem mv_8 : pm_ok (mm_8, 0, 0, mk_8) := ⟨⟨256, 53, 254, 255, by decide +kernel⟩, by decide +kernel⟩
theorem mv_9 : pm_ok (mm_9, 0, 0, mk_9) := ⟨⟨270, 53, 268, 269, by decide +kernel⟩, by decide +kernel⟩
theorem mv_10 : pm_ok (mm_10, 3, 1, mk_10) := ⟨⟨281, 55, 280, 0, by decide +kernel⟩, by decide +kernel⟩
theorem mv_11 : pm_ok (mm_11, 2, 1, mk_11) := ⟨⟨276, 53, 275, 0, by decide +kernel⟩, by decide +kernel⟩
theorem mv_12 : pm_ok (mm_12, 2, 1, mk_12) := ⟨⟨273, 54, 272, 0, by decide +kernel⟩, by decide +kernel⟩
theorem mv_13 : pm_ok (mm_13, 1, 0, mk_13) := ⟨⟨266, 53, 264, 265, by decide +kernel⟩, by decide +kernel⟩
theorem mv_14 : pm_ok (mm_14, 1, 0, mk_14) := ⟨⟨304, 46, 302, 303, by decide +kernel⟩, by decide +kernel⟩
theorem mv_15 : pm_ok (mm_15, 2, 1, mk_15) := ⟨⟨315, 57, 314, 0, by decide +kernel⟩, by decide +kernel⟩
theorem mv_16 : pm_ok (mm_16, 0, 0, mk_16) := ⟨⟨312, 47, 310, 311, by decide +kernel⟩, by decide +kernel⟩
theorem mv_17 : pm_ok (mm_17, 1, 0, mk_17) := ⟨⟨323, 46, 322, 1, by decide +kernel⟩, by decide +kernel⟩
theorem mv_18 : pm_ok (mm_18, 1, 1, mk_18) := ⟨⟨326, 46, 325, 0, by decide +kernel⟩, by decide +kernel⟩
theorem mv_19 : pm_ok (mm_19, 1, 1, mk_19) := ⟨⟨333, 46, 332, 0, by decide +kernel⟩, by decide +kernel⟩
theorem mv_20 : pm_ok (mm_20, 1, 0, mk_20) := ⟨⟨330, 46, 329, 2, by decide +kernel⟩, by decide +kernel⟩
theorem mv_21 : pm_ok (mm_21, 3, 1, mk_21) := ⟨⟨344, 45, 343, 0, by decide +kernel⟩, by decide +kernel⟩
theorem mv_22 : pm_ok (mm_22, 1, 0, mk_22) := ⟨⟨341, 47, 340, 3, by decide +kernel⟩, by decide +kernel⟩
theorem mv_23 : pm_ok (mm_23, 1, 0, mk_23) := ⟨⟨352, 47, 351, 5, by decide +kernel⟩, by decide +kernel⟩
theorem mv_24 : pm_ok (mm_24, 1, 1, mk_24) := ⟨⟨355, 45, 354, 0, by decide +kernel⟩, by decide +kernel⟩
theorem mv_25 : pm_ok (mm_25, 1, 1, mk_25) := ⟨⟨359, 45, 358, 0, by decide +kernel⟩, by decide +kernel⟩
theorem mv_26 : pm_ok (mm_26, 2, 1, mk_26) := ⟨⟨362, 45, 361, 0, by decide +kernel⟩, by decide +kernel⟩
theorem mv_27 : pm_ok (mm_27, 1, 0, mk_27) := ⟨⟨348, 47, 347, 4, by decide +kernel⟩, by decide +kernel⟩
theorem mv_28 : pm_ok (mm_28, 2, 1, mk_28) := ⟨⟨369, 45, 368, 0, by decide +kernel⟩, by decide +kernel⟩
theorem mv_29 : pm_ok (mm_29, 2, 0, mk_29) := ⟨⟨366, 47, 365, 6, by decide +kernel⟩, by decide +kernel⟩
theorem mv_30 : pm_ok (mm_30, 2, 0, mk_30) := ⟨⟨337, 47, 335, 336, by decide +kernel⟩, by decide +kernel⟩
theorem mv_31 : pm_ok (mm_31, 1, 0, mk_31) := ⟨⟨319, 46, 318, 0, by decide +kernel⟩, by decide +kernel⟩
theorem mv_32 : pm_ok (mm_32, 1, 0, mk_32) := ⟨⟨308, 46, 306, 307, by decide +kernel⟩, by decide +kernel⟩
theorem mv_33 : pm_ok (mm_33, 0, 2, mk_33) := ⟨⟨66, 45, 65, 0, by decide +kernel⟩, by decide +kernel⟩
theorem mv_34 : pm_ok (mm_34, 1, 0, mk_34) := ⟨⟨436, 45, 435, 7, by decide +kernel⟩, by decide +kernel⟩
theorem mv_35 : pm_ok (mm_35, 2, 0, mk_35) := ⟨⟨454, 45, 453, 8, by decide +kernel⟩, by decide +kernel⟩
theorem mv_36 : pm_ok (mm_36, 3, 0, mk_36) := ⟨⟨480, 47, 479, 11, by decide +kernel⟩, by decide +kernel⟩
theorem mv_37 : pm_ok (mm_37, 3, 0, mk_37) := ⟨⟨476, 47, 474, 475, by decide +kernel⟩, by decide +kernel⟩
theorem mv_38 : pm_ok (mm_38, 3, 0, mk_38) := ⟨⟨471, 52, 470, 10, by decide +kernel⟩, by decide +kernel⟩
theorem mv_39 : pm_ok (mm_39, 3, 0, mk_39) := ⟨⟨467, 52, 466, 9, by decide +kernel⟩, by decide +kernel⟩
theorem mv_40 : pm_ok (mm_40, 2, 0, mk_40) := ⟨⟨463, 52, 461, 462, by decide +kernel⟩, by decide +kernel⟩
theorem mv_41 : pm_ok (mm_41, 3, 0, mk_41) := ⟨⟨709, 45, 707, 708, by decide +kernel⟩, by decide +kernel⟩
theorem mv_42 : pm_ok (mm_42, 1, 0, mk_42) := ⟨⟨442, 47, 440, 441, by decide +kernel⟩, by decide +kernel⟩
theorem mv_43 : pm_ok (mm_43, 0, 0, mk_43) := ⟨⟨531, 49, 530, 15, by decide +kernel⟩, by decide +kernel⟩
theorem mv_44 : pm_ok (mm_44, 3, 0, mk_44) := ⟨⟨527, 49, 526, 14, by decide +kernel⟩, by decide +kernel⟩
theorem mv_45 : pm_ok (mm_45, 2, 0, mk_45) := ⟨⟨550, 49, 548, 549, by decide +kernel⟩, by decide +kernel⟩
theorem mv_46 : pm_ok (mm_46, 3, 0, mk_46) := ⟨⟨546, 45, 544, 545, by decide +kernel⟩, by decide +kernel⟩
theorem mv_47 : pm_ok (mm_47, 3, 0, mk_47) := ⟨⟨595, 47, 594, 16, by decide +kernel⟩, by decide +kernel⟩
theorem mv_48 : pm_ok (mm_48, 3, 0, mk_48) := ⟨⟨650, 47, 649, 18, by decide +kernel⟩, by decide +kernel⟩
theorem mv_49 : pm_ok (mm_49, 2, 0, mk_49) := ⟨⟨645, 47, 643, 644, by decide +kernel⟩, by decide +kernel⟩
theorem mv_50 : pm_ok (mm_50, 1, 0, mk_50) := ⟨⟨641, 45, 639, 640, by decide +kernel⟩, by decide +kernel⟩
theorem mv_51 : pm_ok (mm_51, 1, 0, mk_51) := ⟨⟨717, 45, 716, 19, by decide +kernel⟩, by decide +kernel⟩
theorem mv_52 : pm_ok (mm_52, 1, 0, mk_52) := ⟨⟨725, 48, 723, 724, by decide +kernel⟩, by decide +kernel⟩
theorem mv_53 : pm_ok (mm_53, 2, 0, mk_53) := ⟨⟨737, 51, 735, 736, by decide +kernel⟩, by decide +kernel⟩
theorem mv_54 : pm_ok (mm_54, 0, 0, mk_54) := ⟨⟨733, 45, 731, 732, by decide +kernel⟩, by decide +kernel⟩
theorem mv_55 : pm_ok (mm_55, 2, 1, mk_55) := ⟨⟨601, 45, 600, 0, by decide +kernel⟩, by decide +kernel⟩
theorem mv_56 : pm_ok (mm_56, 1, 0, mk_56) := ⟨⟨741, 45, 739, 740, by decide +kernel⟩, by decide +kernel⟩
theorem mv_57 : pm_ok (mm_57, 0, 0, mk_57) := ⟨⟨419, 45, 417, 418, by decide +kernel⟩, by decide +kernel⟩
theorem mv_58 : pm_ok (mm_58, 1, 0, mk_58) := ⟨⟨572, 45, 570, 571, by decide +kernel⟩, by decide +kernel⟩
theorem mv_59 : pm_ok (mm_59, 0, 0, mk_59) := ⟨⟨576, 45, 574, 575, by decide +kernel⟩, by decide +kernel⟩
theorem mv_60 : pm_ok (mm_60, 0, 0, mk_60) := ⟨⟨667, 45, 665, 666, by decide +kernel⟩, by decide +kernel⟩
theorem mv_61 : pm_ok (mm_61, 3, 0, mk_61) := ⟨⟨432, 45, 430, 431, by decide +kernel⟩, by decide +kernel⟩
theorem mv_62 : pm_ok (mm_62, 1, 1, mk_62) := ⟨⟨587, 45, 586, 0, by decide +kernel⟩, by decide +kernel⟩
theorem mv_63 : pm_ok (mm_63, 2, 0, mk_63) := ⟨⟨721, 51, 719, 720, by decide +kernel⟩, by decide +kernel⟩
theorem mv_64 : pm_ok (mm_64, 0, 0, mk_64) := ⟨⟨713, 45, 711, 712, by decide +kernel⟩, by decide +kernel⟩
theorem mv_65 : pm_ok (mm_65, 1, 0, mk_65) := ⟨⟨446, 45, 444, 445, by decide +kernel⟩, by decide +kernel⟩
theorem mv_66 : pm_ok (mm_66, 1, 0, mk_66) := ⟨⟨497, 48, 495, 496, by decide +kernel⟩, by decide +kernel⟩
theorem mv_67 : pm_ok (mm_67, 3, 0, mk_67) := ⟨⟨697, 52, 695, 696, by decide +kernel⟩, by decide +kernel⟩
theorem mv_68 : pm_ok (mm_68, 3, 0, mk_68) := ⟨⟨505, 47, 504, 12, by decide +kernel⟩, by decide +kernel⟩
theorem mv_69 : pm_ok (mm_69, 2, 0, mk_69) := ⟨⟨501, 47, 499, 500, by decide +kernel⟩, by decide +kernel⟩
theorem mv_70 : pm_ok (mm_70, 1, 1, mk_70) := ⟨⟨516, 60, 515, 0, by decide +kernel⟩, by decide +kernel⟩
theorem mv_71 : pm_ok (mm_71, 3, 0, mk_71) := ⟨⟨703, 52, 701, 702, by decide +kernel⟩, by decide +kernel⟩
theorem mv_72 : pm_ok (mm_72, 2, 0, mk_72) := ⟨⟨693, 45, 691, 692, by decide +kernel⟩, by decide +kernel⟩
theorem mv_73 : pm_ok (mm_73, 0, 0, mk_73) := ⟨⟨427, 48, 425, 426, by decide +kernel⟩, by decide +kernel⟩
theorem mv_74 : pm_ok (mm_74, 0, 0, mk_74) := ⟨⟨423, 45, 421, 422, by decide +kernel⟩, by decide +kernel⟩
theorem mv_75 : pm_ok (mm_75, 3, 0, mk_75) := ⟨⟨591, 47, 589, 590, by decide +kernel⟩, by decide +kernel⟩
theorem mv_76 : pm_ok (mm_76, 2, 0, mk_76) := ⟨⟨609, 47, 607, 608, by decide +kernel⟩, by decide +kernel⟩
theorem mv_77 : pm_ok (mm_77, 4, 0, mk_77) := ⟨⟨636, 47, 634, 635, by decide +kernel⟩, by decide +kernel⟩
theorem mv_78 : pm_ok (mm_78, 3, 0, mk_78) := ⟨⟨629, 45, 628, 17, by decide +kernel⟩, by decide +kernel⟩
theorem mv_79 : pm_ok (mm_79, 4, 0, mk_79) := ⟨⟨624, 45, 622, 623, by decide +kernel⟩, by decide +kernel⟩
theorem mv_80 : pm_ok (mm_80, 2, 0, mk_80) := ⟨⟨450, 45, 448, 449, by decide +kernel⟩, by decide +kernel⟩
theorem mv_81 : pm_ok (mm_81, 2, 0, mk_81) := ⟨⟨620, 47, 618, 619, by decide +kernel⟩, by decide +kernel⟩
theorem mv_82 : pm_ok (mm_82, 3, 1, mk_82) := ⟨⟨598, 45, 597, 0, by decide +kernel⟩, by decide +kernel⟩
theorem mv_83 : pm_ok (mm_83, 1, 0, mk_83) := ⟨⟨616, 45, 614, 615, by decide +kernel⟩, by decide +kernel⟩
theorem mv_84 : pm_ok (mm_84, 3, 0, mk_84) := ⟨⟨605, 45, 603, 604, by decide +kernel⟩, by decide +kernel⟩
theorem mv_85 : pm_ok (mm_85, 2, 0, mk_85) := ⟨⟨580, 45, 578, 579, by decide +kernel⟩, by decide +kernel⟩
theorem mv_86 : pm_ok (mm_86, 1, 0, mk_86) := ⟨⟨493, 48, 491, 492, by decide +kernel⟩, by decide +kernel⟩
theorem mv_87 : pm_ok (mm_87, 3, 0, mk_87) := ⟨⟨513, 48, 512, 13, by decide +kernel⟩, by decide +kernel⟩
theorem mv_88 : pm_ok (mm_88, 2, 0, mk_88) := ⟨⟨509, 48, 507, 508, by decide +kernel⟩, by decide +kernel⟩
theorem mv_89 : pm_ok (mm_89, 0, 0, mk_89) := ⟨⟨523, 49, 521, 522, by decide +kernel⟩, by decide +kernel⟩
theorem mv_90 : pm_ok (mm_90, 1, 0, mk_90) := ⟨⟨459, 45, 457, 458, by decide +kernel⟩, by decide +kernel⟩
theorem mv_91 : pm_ok (mm_91, 1, 0, mk_91) := ⟨⟨542, 49, 540, 541, by decide +kernel⟩, by decide +kernel⟩
theorem mv_92 : pm_ok (mm_92, 2, 0, mk_92) := ⟨⟨538, 45, 536, 537, by decide +kernel⟩, by decide +kernel⟩
theorem mv_93 : pm_ok (mm_93, 3, 0, mk_93) := ⟨⟨663, 50, 661, 662, by decide +kernel⟩, by decide +kernel⟩
theorem mv_94 : pm_ok (mm_94, 3, 0, mk_94) := ⟨⟨658, 45, 656, 657, by decide +kernel⟩, by decide +kernel⟩
theorem mv_95 : pm_ok (mm_95, 2, 0, mk_95) := ⟨⟨679, 47, 677, 678, by decide +kernel⟩, by decide +kernel⟩
theorem mv_96 : pm_ok (mm_96, 3, 0, mk_96) := ⟨⟨683, 47, 681, 682, by decide +kernel⟩, by decide +kernel⟩
theorem mv_97 : pm_ok (mm_97, 3, 0, mk_97) := ⟨⟨675, 50, 673, 674, by decide +kernel⟩, by decide +kernel⟩
theorem mv_98 : pm_ok (mm_98, 2, 0, mk_98) := ⟨⟨688, 45, 686, 687, by decide +kernel⟩, by decide +kernel⟩
theorem mv_99 : pm_ok (mm_99, 4, 0, mk_99) := ⟨⟨584, 45, 582, 583, by decide +kernel⟩, by decide +kernel⟩
theorem mv_100 : pm_ok (mm_100, 0, 0, mk_100) := ⟨⟨562, 48, 560, 561, by decide +kernel⟩, by decide +kernel⟩
theorem mv_101 : pm_ok (mm_101, 2, 0, mk_101) := ⟨⟨558, 49, 556, 557, by decide +kernel⟩, by decide +kernel⟩
theorem mv_102 : pm_ok (mm_102, 0, 0, mk_102) := ⟨⟨554, 45, 552, 553, by decide +kernel⟩, by decide +kernel⟩
theorem mv_103 : pm_ok (mm_103, 1, 0, mk_103) := ⟨⟨654, 45, 652, 653, by decide +kernel⟩, by decide +kernel⟩
theorem mv_104 : pm_ok (mm_104, 1, 0, mk_104) := ⟨⟨671, 45, 669, 670, by decide +kernel⟩, by decide +kernel⟩
theorem mv_105 : pm_ok (mm_105, 3, 0, mk_105) := ⟨⟨567, 45, 565, 566, by decide +kernel⟩, by decide +kernel⟩
theorem mv_106 : pm_ok (mm_106, 0, 0, mk_106) := ⟨⟨415, 45, 413, 414, by decide +kernel⟩, by decide +kernel⟩
theorem mv_107 : pm_ok (mm_107, 1, 0, mk_107) := ⟨⟨411, 45, 409, 410, by decide +kernel⟩, by decide +kernel⟩
theorem mv_108 : pm_ok (mm_108, 3, 1, mk_108) := ⟨⟨754, 59, 753, 0, by decide +kernel⟩, by decide +kernel⟩
theorem mv_109 : pm_ok (mm_109, 0, 0, mk_109) := ⟨⟨751, 59, 750, 20, by decide +kernel⟩, by decide +kernel⟩
theorem mv_110 : pm_ok (mm_110, 1, 0, mk_110) := ⟨⟨758, 59, 757, 21, by decide +kernel⟩, by decide +kernel⟩
theorem mv_111 : pm_ok (mm_111, 5, 0, mk_111) := ⟨⟨762, 59, 761, 22, by decide +kernel⟩, by decide +kernel⟩
theorem mv_112 : pm_ok (mm_112, 2, 1, mk_112) := ⟨⟨768, 59, 767, 0, by decide +kernel⟩, by decide +kernel⟩
theorem mv_113 : pm_ok (mm_113, 2, 1, mk_113) := ⟨⟨765, 59, 764, 0, by decide +kernel⟩, by decide +kernel⟩
theorem mv_114 : pm_ok (mm_114, 0, 0, mk_114) := ⟨⟨772, 59, 771, 23, by decide +kernel⟩, by decide +kernel⟩
theorem mv_115 : pm_ok (mm_115, 0, 2, mk_115) := ⟨⟨746, 59, 745, 0, by decide +kernel⟩, by decide +kernel⟩
theorem mv_116 : pm_ok (mm_116, 1, 0, mk_116) := ⟨⟨866, 59, 865, 30, by decide +kernel⟩, by decide +kernel⟩
theorem mv_117 : pm_ok (mm_117, 2, 0, mk_117) := ⟨⟨885, 59, 884, 32, by decide +kernel⟩, by decide +kernel⟩
theorem mv_118 : pm_ok (mm_118, 2, 0, mk_118) := ⟨⟨873, 59, 872, 31, by decide +kernel⟩, by decide +kernel⟩
theorem mv_119 : pm_ok (mm_119, 3, 0, mk_119) := ⟨⟨905, 59, 904, 36, by decide +kernel⟩, by decide +kernel⟩
theorem mv_120 : pm_ok (mm_120, 3, 0, mk_120) := ⟨⟨901, 59, 900, 35, by decide +kernel⟩, by decide +kernel⟩
theorem mv_121 : pm_ok (mm_121, 3, 0, mk_121) := ⟨⟨1023, 59, 1021, 1022, by decide +kernel⟩, by decide +kernel⟩
theorem mv_122 : pm_ok (mm_122, 1, 1, mk_122) := ⟨⟨869, 59, 868, 0, by decide +kernel⟩, by decide +kernel⟩
theorem mv_123 : pm_ok (mm_123, 0, 0, mk_123) := ⟨⟨893, 59, 892, 33, by decide +kernel⟩, by decide +kernel⟩
theorem mv_124 : pm_ok (mm_124, 3, 0, mk_124) := ⟨⟨923, 59, 921, 922, by decide +kernel⟩, by decide +kernel⟩
theorem mv_125 : pm_ok (mm_125, 3, 0, mk_125) := ⟨⟨955, 59, 954, 39, by decide +kernel⟩, by decide +kernel⟩
theorem mv_126 : pm_ok (mm_126, 3, 0, mk_126) := ⟨⟨951, 59, 950, 38, by decide +kernel⟩, by decide +kernel⟩
theorem mv_127 : pm_ok (mm_127, 2, 0, mk_127) := ⟨⟨969, 59, 968, 40, by decide +kernel⟩, by decide +kernel⟩
theorem mv_128 : pm_ok (mm_128, 1, 0, mk_128) := ⟨⟨983, 59, 981, 982, by decide +kernel⟩, by decide +kernel⟩
theorem mv_129 : pm_ok (mm_129, 0, 0, mk_129) := ⟨⟨1031, 59, 1029, 1030, by decide +kernel⟩, by decide +kernel⟩
theorem mv_130 : pm_ok (mm_130, 3, 0, mk_130) := ⟨⟨1007, 59, 1006, 42, by decide +kernel⟩, by decide +kernel⟩
theorem mv_131 : pm_ok (mm_131, 2, 0, mk_131) := ⟨⟨1003, 59, 1002, 41, by decide +kernel⟩, by decide +kernel⟩
theorem mv_132 : pm_ok (mm_132, 2, 1, mk_132) := ⟨⟨961, 59, 960, 0, by decide +kernel⟩, by decide +kernel⟩
theorem mv_133 : pm_ok (mm_133, 1, 0, mk_133) := ⟨⟨1035, 59, 1033, 1034, by decide +kernel⟩, by decide +kernel⟩
theorem mv_134 : pm_ok (mm_134, 1, 0, mk_134) := ⟨⟨843, 59, 842, 27, by decide +kernel⟩, by decide +kernel⟩
theorem mv_135 : pm_ok (mm_135, 1, 1, mk_135) := ⟨⟨846, 59, 845, 0, by decide +kernel⟩, by decide +kernel⟩
theorem mv_136 : pm_ok (mm_136, 3, 0, mk_136) := ⟨⟨839, 59, 838, 26, by decide +kernel⟩, by decide +kernel⟩
theorem mv_137 : pm_ok (mm_137, 0, 0, mk_137) := ⟨⟨850, 59, 849, 28, by decide +kernel⟩, by decide +kernel⟩
theorem mv_138 : pm_ok (mm_138, 3, 0, mk_138) := ⟨⟨854, 59, 853, 29, by decide +kernel⟩, by decide +kernel⟩
theorem mv_139 : pm_ok (mm_139, 1, 0, mk_139) := ⟨⟨835, 59, 834, 25, by decide +kernel⟩, by decide +kernel⟩
theorem mv_140 : pm_ok (mm_140, 0, 0, mk_140) := ⟨⟨831, 59, 830, 24, by decide +kernel⟩, by decide +kernel⟩
theorem mv_141 : pm_ok (mm_141, 0, 0, mk_141) := ⟨⟨827, 59, 825, 826, by decide +kernel⟩, by decide +kernel⟩
theorem mv_142 : pm_ok (mm_142, 1, 0, mk_142) := ⟨⟨935, 59, 933, 934, by decide +kernel⟩, by decide +kernel⟩
theorem mv_143 : pm_ok (mm_143, 0, 0, mk_143) := ⟨⟨939, 59, 937, 938, by decide +kernel⟩, by decide +kernel⟩
theorem mv_144 : pm_ok (mm_144, 0, 0, mk_144) := ⟨⟨995, 59, 993, 994, by decide +kernel⟩, by decide +kernel⟩
theorem mv_145 : pm_ok (mm_145, 3, 0, mk_145) := ⟨⟨862, 59, 860, 861, by decide +kernel⟩, by decide +kernel⟩
theorem mv_146 : pm_ok (mm_146, 3, 0, mk_146) := ⟨⟨914, 59, 913, 37, by decide +kernel⟩, by decide +kernel⟩
theorem mv_147 : pm_ok (mm_147, 0, 0, mk_147) := ⟨⟨1027, 59, 1025, 1026, by decide +kernel⟩, by decide +kernel⟩
theorem mv_148 : pm_ok (mm_148, 1, 0, mk_148) := ⟨⟨877, 59, 875, 876, by decide +kernel⟩, by decide +kernel⟩
theorem mv_149 : pm_ok (mm_149, 1, 0, mk_149) := ⟨⟨897, 59, 896, 34, by decide +kernel⟩, by decide +kernel⟩
theorem mv_150 : pm_ok (mm_150, 2, 0, mk_150) := ⟨⟨1019, 59, 1018, 43, by decide +kernel⟩, by decide +kernel⟩
theorem mv_151 : pm_ok (mm_151, 2, 0, mk_151) := ⟨⟨1015, 59, 1013, 1014, by decide +kernel⟩, by decide +kernel⟩
theorem mv_152 : pm_ok (mm_152, 0, 0, mk_152) := ⟨⟨858, 59, 856, 857, by decide +kernel⟩, by decide +kernel⟩
theorem mv_153 : pm_ok (mm_153, 4, 0, mk_153) := ⟨⟨978, 59, 976, 977, by decide +kernel⟩, by decide +kernel⟩
theorem mv_154 : pm_ok (mm_154, 2, 0, mk_154) := ⟨⟨881, 59, 879, 880, by decide +kernel⟩, by decide +kernel⟩
theorem mv_155 : pm_ok (mm_155, 3, 1, mk_155) := ⟨⟨958, 59, 957, 0, by decide +kernel⟩, by decide +kernel⟩
theorem mv_156 : pm_ok (mm_156, 1, 0, mk_156) := ⟨⟨974, 59, 972, 973, by decide +kernel⟩, by decide +kernel⟩
theorem mv_157 : pm_ok (mm_157, 3, 0, mk_157) := ⟨⟨965, 59, 963, 964, by decide +kernel⟩, by decide +kernel⟩
theorem mv_158 : pm_ok (mm_158, 2, 0, mk_158) := ⟨⟨943, 59, 941, 942, by decide +kernel⟩, by decide +kernel⟩
theorem mv_159 : pm_ok (mm_159, 1, 0, mk_159) := ⟨⟨889, 59, 887, 888, by decide +kernel⟩, by decide +kernel⟩
theorem mv_160 : pm_ok (mm_160, 2, 0, mk_160) := ⟨⟨918, 59, 916, 917, by decide +kernel⟩, by decide +kernel⟩
theorem mv_161 : pm_ok (mm_161, 3, 0, mk_161) := ⟨⟨991, 59, 989, 990, by decide +kernel⟩, by decide +kernel⟩
theorem mv_162 : pm_ok (mm_162, 2, 0, mk_162) := ⟨⟨1011, 59, 1009, 1010, by decide +kernel⟩, by decide +kernel⟩
theorem mv_163 : pm_ok (mm_163, 4, 0, mk_163) := ⟨⟨947, 59, 945, 946, by decide +kernel⟩, by decide +kernel⟩
theorem mv_164 : pm_ok (mm_164, 0, 0, mk_164) := ⟨⟨927, 59, 925, 926, by decide +kernel⟩, by decide +kernel⟩
theorem mv_165 : pm_ok (mm_165, 1, 0, mk_165) := ⟨⟨987, 59, 985, 986, by decide +kernel⟩, by decide +kernel⟩
theorem mv_166 : pm_ok (mm_166, 1, 0, mk_166) := ⟨⟨999, 59, 997, 998, by decide +kernel⟩, by decide +kernel⟩
theorem mv_167 : pm_ok (mm_167, 3, 0, mk_167) := ⟨⟨931, 59, 929, 930, by decide +kernel⟩, by decide +kernel⟩
theorem mv_168 : pm_ok (mm_168, 0, 0, mk_168) := ⟨⟨823, 59, 821, 822, by decide +kernel⟩, by decide +kernel⟩
theorem mv_169 : pm_ok (mm_169, 1, 0, mk_169) := ⟨⟨819, 59, 817, 818, by decide +kernel⟩, by decide +kernel⟩
theorem pm_mtabv_0 : ∀ x ∈ pm_mtab_0, pm_ok x := List.forall_mem_cons.mpr ⟨mv_0, List.forall_mem_cons.mpr ⟨mv_1, List.forall_mem_cons.mpr ⟨mv_2, List.forall_mem_cons.mpr ⟨mv_3, List.forall_mem_cons.mpr ⟨mv_4, List.forall_mem_cons.mpr ⟨mv_5, List.forall_mem_cons.mpr ⟨mv_6, List.forall_mem_cons.mpr ⟨mv_7, List.forall_mem_cons.mpr ⟨mv_8, List.forall_mem_cons.mpr ⟨mv_9, List.forall_mem_cons.mpr ⟨mv_10, List.forall_mem_cons.mpr ⟨mv_11, List.forall_mem_cons.mpr ⟨mv_12, List.forall_mem_cons.mpr ⟨mv_13, List.forall_mem_cons.mpr ⟨mv_14, List.forall_mem_cons.mpr ⟨mv_15, fun _ h => absurd h List.not_mem_nil⟩⟩⟩⟩⟩⟩⟩⟩⟩⟩⟩⟩⟩⟩⟩⟩
theorem pm_mtabv_1 : ∀ x ∈ pm_mtab_1, pm_ok x := List.forall_mem_cons.mpr ⟨mv_16, List.forall_mem_cons.mpr ⟨mv_17, List.forall_mem_cons.mpr ⟨mv_18, List.forall_mem_cons.mpr ⟨mv_19, List.forall_mem_cons.mpr ⟨mv_20, List.forall_mem_cons.mpr ⟨mv_21, List.forall_mem_cons.mpr ⟨mv_22, List.forall_mem_cons.mpr ⟨mv_23, List.forall_mem_cons.mpr ⟨mv_24, List.forall_mem_cons.mpr ⟨mv_25, List.forall_mem_cons.mpr ⟨mv_26, List.forall_mem_cons.mpr ⟨mv_27, List.forall_mem_cons.mpr ⟨mv_28, List.forall_mem_cons.mpr ⟨mv_29, List.forall_mem_cons.mpr ⟨mv_30, List.forall_mem_cons.mpr ⟨mv_31, fun _ h => absurd h List.not_mem_nil⟩⟩⟩⟩⟩⟩⟩⟩⟩⟩⟩⟩⟩⟩⟩⟩
theorem pm_mtabv_2 : ∀ x ∈ pm_mtab_2, pm_ok x := List.forall_mem_cons.mpr ⟨mv_32, List.forall_mem_cons.mpr ⟨mv_33, List.forall_mem_cons.mpr ⟨mv_34, List.forall_mem_cons.mpr ⟨mv_35, List.forall_mem_cons.mpr ⟨mv_36, List.forall_mem_cons.mpr ⟨mv_37, List.forall_mem_cons.mpr ⟨mv_38, List.forall_mem_cons.mpr ⟨mv_39, List.forall_mem_cons.mpr ⟨mv_40, List.forall_mem_cons.mpr ⟨mv_41, List.forall_mem_cons.mpr ⟨mv_42, List.forall_mem_cons.mpr ⟨mv_43, List.forall_mem_cons.mpr ⟨mv_44, List.forall_mem_cons.mpr ⟨mv_45, List.forall_mem_cons.mpr ⟨mv_46, List.forall_mem_cons.mpr ⟨mv_47, fun _ h => absurd h List.not_mem_nil⟩⟩⟩⟩⟩⟩⟩⟩⟩⟩⟩⟩⟩⟩⟩⟩
theorem pm_mtabv_3 : ∀ x ∈ pm_mtab_3, pm_ok x := List.forall_mem_cons.mpr ⟨mv_48, List.forall_mem_cons.mpr ⟨mv_49, List.forall_mem_cons.mpr ⟨mv_50, List.forall_mem_cons.mpr ⟨mv_51, List.forall_mem_cons.mpr ⟨mv_52, List.forall_mem_cons.mpr ⟨mv_53, List.forall_mem_cons.mpr ⟨mv_54, List.forall_mem_cons.mpr ⟨mv_55, List.forall_mem_cons.mpr ⟨mv_56, List.forall_mem_cons.mpr ⟨mv_57, List.forall_mem_cons.mpr ⟨mv_58, List.forall_mem_cons.mpr ⟨mv_59, List.forall_mem_cons.mpr ⟨mv_60, List.forall_mem_cons.mpr ⟨mv_61, List.forall_mem_cons.mpr ⟨mv_62, List.forall_mem_cons.mpr ⟨mv_63, fun _ h => absurd h List.not_mem_nil⟩⟩⟩⟩⟩⟩⟩⟩⟩⟩⟩⟩⟩⟩⟩⟩
theorem pm_mtabv_4 : ∀ x ∈ pm_mtab_4, pm_ok x := List.forall_mem_cons.mpr ⟨mv_64, List.forall_mem_cons.mpr ⟨mv_65, List.forall_mem_cons.mpr ⟨mv_66, List.forall_mem_cons.mpr ⟨mv_67, List.forall_mem_cons.mpr ⟨mv_68, List.forall_mem_cons.mpr ⟨mv_69, List.forall_mem_cons.mpr ⟨mv_70, List.forall_mem_cons.mpr ⟨mv_71, List.forall_mem_cons.mpr ⟨mv_72, List.forall_mem_cons.mpr ⟨mv_73, List.forall_mem_cons.mpr ⟨mv_74, List.forall_mem_cons.mpr ⟨mv_75, List.forall_mem_cons.mpr ⟨mv_76, List.forall_mem_cons.mpr ⟨mv_77, List.forall_mem_cons.mpr ⟨mv_78, List.forall_mem_cons.mpr ⟨mv_79, fun _ h => absurd h List.not_mem_nil⟩⟩⟩⟩⟩⟩⟩⟩⟩⟩⟩⟩⟩⟩⟩⟩
theorem pm_mtabv_5 : ∀ x ∈ pm_mtab_5, pm_ok x := List.forall_mem_cons.mpr ⟨mv_80, List.forall_mem_cons.mpr ⟨mv_81, List.forall_mem_cons.mpr ⟨mv_82, List.forall_mem_cons.mpr ⟨mv_83, List.forall_mem_cons.mpr ⟨mv_84, List.forall_mem_cons.mpr ⟨mv_85, List.forall_mem_cons.mpr ⟨mv_86, List.forall_mem_cons.mpr ⟨mv_87, List.forall_mem_cons.mpr ⟨mv_88, List.forall_mem_cons.mpr ⟨mv_89, List.forall_mem_cons.mpr ⟨mv_90, List.forall_mem_cons.mpr ⟨mv_91, List.forall_mem_cons.mpr ⟨mv_92, List.forall_mem_cons.mpr ⟨mv_93, List.forall_mem_cons.mpr ⟨mv_94, List.forall_mem_cons.mpr ⟨mv_95, fun _ h => absurd h List.not_mem_nil⟩⟩⟩⟩⟩⟩⟩⟩⟩⟩⟩⟩⟩⟩⟩⟩
theorem pm_mtabv_6 : ∀ x ∈ pm_mtab_6, pm_ok x := List.forall_mem_cons.mpr ⟨mv_96, List.forall_mem_cons.mpr ⟨mv_97, List.forall_mem_cons.mpr ⟨mv_98, List.forall_mem_cons.mpr ⟨mv_99, List.forall_mem_cons.mpr ⟨mv_100, List.forall_mem_cons.mpr ⟨mv_101, List.forall_mem_cons.mpr ⟨mv_102, List.forall_mem_cons.mpr ⟨mv_103, List.forall_mem_cons.mpr ⟨mv_104, List.forall_mem_cons.mpr ⟨mv_105, List.forall_mem_cons.mpr ⟨mv_106, List.forall_mem_cons.mpr ⟨mv_107, List.forall_mem_cons.mpr ⟨mv_108, List.forall_mem_cons.mpr ⟨mv_109, List.forall_mem_cons.mpr ⟨mv_110, List.forall_mem_cons.mpr ⟨mv_111, fun _ h => absurd h List.not_mem_nil⟩⟩⟩⟩⟩⟩⟩⟩⟩⟩⟩⟩⟩⟩⟩⟩
theorem pm_mtabv_7 : ∀ x ∈ pm_mtab_7, pm_ok x := List.forall_mem_cons.mpr ⟨mv_112, List.forall_mem_cons.mpr ⟨mv_113, List.forall_mem_cons.mpr ⟨mv_114, List.forall_mem_cons.mpr ⟨mv_115, List.forall_mem_cons.mpr ⟨mv_116, List.forall_mem_cons.mpr ⟨mv_117, List.forall_mem_cons.mpr ⟨mv_118, List.forall_mem_cons.mpr ⟨mv_119, List.forall_mem_cons.mpr ⟨mv_120, List.forall_mem_cons.mpr ⟨mv_121, List.forall_mem_cons.mpr ⟨mv_122, List.forall_mem_cons.mpr ⟨mv_123, List.forall_mem_cons.mpr ⟨mv_124, List.forall_mem_cons.mpr ⟨mv_125, List.forall_mem_cons.mpr ⟨mv_126, List.forall_mem_cons.mpr ⟨mv_127, fun _ h => absurd h List.not_mem_nil⟩⟩⟩⟩⟩⟩⟩⟩⟩⟩⟩⟩⟩⟩⟩⟩
theorem pm_mtabv_8 : ∀ x ∈ pm_mtab_8, pm_ok x := List.forall_mem_cons.mpr ⟨mv_128, List.forall_mem_cons.mpr ⟨mv_129, List.forall_mem_cons.mpr ⟨mv_130, List.forall_mem_cons.mpr ⟨mv_131, List.forall_mem_cons.mpr ⟨mv_132, List.forall_mem_cons.mpr ⟨mv_133, List.forall_mem_cons.mpr ⟨mv_134, List.forall_mem_cons.mpr ⟨mv_135, List.forall_mem_cons.mpr ⟨mv_136, List.forall_mem_cons.mpr ⟨mv_137, List.forall_mem_cons.mpr ⟨mv_138, List.forall_mem_cons.mpr ⟨mv_139, List.forall_mem_cons.mpr ⟨mv_140, List.forall_mem_cons.mpr ⟨mv_141, List.forall_mem_cons.mpr ⟨mv_142, List.forall_mem_cons.mpr ⟨mv_143, fun _ h => absurd h List.not_mem_nil⟩⟩⟩⟩⟩⟩⟩⟩⟩⟩⟩⟩⟩⟩⟩⟩
theorem pm_mtabv_9 : ∀ x ∈ pm_mtab_9, pm_ok x := List.forall_mem_cons.mpr ⟨mv_144, List.forall_mem_cons.mpr ⟨mv_145, List.forall_mem_cons.mpr ⟨mv_146, List.forall_mem_cons.mpr ⟨mv_147, List.forall_mem_cons.mpr ⟨mv_148, List.forall_mem_cons.mpr ⟨mv_149, List.forall_mem_cons.mpr ⟨mv_150, List.forall_mem_cons.mpr ⟨mv_151, List.forall_mem_cons.mpr ⟨mv_152, List.forall_mem_cons.mpr ⟨mv_153, List.forall_mem_cons.mpr ⟨mv_154, List.forall_mem_cons.mpr ⟨mv_155, List.forall_mem_cons.mpr ⟨mv_156, List.forall_mem_cons.mpr ⟨mv_157, List.forall_mem_cons.mpr ⟨mv_158, List.forall_mem_cons.mpr ⟨mv_159, fun _ h => absurd h List.not_mem_nil⟩⟩⟩⟩⟩⟩⟩⟩⟩⟩⟩⟩⟩⟩⟩⟩
theorem pm_mtabv_10 : ∀ x ∈ pm_mtab_10, pm_ok x := List.forall_mem_cons.mpr ⟨mv_160, List.forall_mem_cons.mpr ⟨mv_161, List.forall_mem_cons.mpr ⟨mv_162, List.forall_mem_cons.mpr ⟨mv_163, List.forall_mem_cons.mpr ⟨mv_164, List.forall_mem_cons.mpr ⟨mv_165, List.forall_mem_cons.mpr ⟨mv_166, List.forall_mem_cons.mpr ⟨mv_167, List.forall_mem_cons.mpr ⟨mv_168, List.forall_mem_cons.mpr ⟨mv_169, fun _ h => absurd h List.not_mem_nil⟩⟩⟩⟩⟩⟩⟩⟩⟩⟩
theorem pm_mtabv : ∀ l ∈ pm_mtab, ∀ x ∈ l, pm_ok x := List.forall_mem_cons.mpr ⟨pm_mtabv_0, List.forall_mem_cons.mpr ⟨pm_mtabv_1, List.forall_mem_cons.mpr ⟨pm_mtabv_2, List.forall_mem_cons.mpr ⟨pm_mtabv_3, List.forall_mem_cons.mpr ⟨pm_mtabv_4, List.forall_mem_cons.mpr ⟨pm_mtabv_5, List.forall_mem_cons.mpr ⟨pm_mtabv_6, List.forall_mem_cons.mpr ⟨pm_mtabv_7, List.forall_mem_cons.mpr ⟨pm_mtabv_8, List.forall_mem_cons.mpr ⟨pm_mtabv_9, List.forall_mem_cons.mpr ⟨pm_mtabv_10, fun _ h => absurd h List.not_mem_nil⟩⟩⟩⟩⟩⟩⟩⟩⟩⟩⟩
theorem pm_mt_ok {j : Nat} {x : pm_X} (h : pm_mt j = some x) : pm_ok x := by
  unfold pm_mt at h
  have hm := List.mem_of_getElem? h
  rw [List.getD_eq_getElem?_getD] at hm
  cases hc : pm_mtab[j / 16]? with
  | none => rw [hc] at hm; exact absurd hm List.not_mem_nil
  | some l =>
    rw [hc] at hm
    exact pm_mtabv l (List.mem_of_getElem? hc) x hm
theorem pm_cl_i0 : ∀ r ∈ pm_cl, Cond.instantiable r.1 r.2.2 ∈ lw_tbl ∧ Cond.initialized r.1 ∈ lw_tbl := by decide +kernel
theorem pm_cl_i {ci : Nat} {r : vw_C} (h : pm_cl[ci]? = some r) : Cond.instantiable r.1 r.2.2 ∈ pm_T ∧ Cond.initialized r.1 ∈ pm_T := ⟨List.mem_filter.mpr ⟨(pm_cl_i0 r (List.mem_of_getElem? h)).1, rfl⟩, List.mem_filter.mpr ⟨(pm_cl_i0 r (List.mem_of_getElem? h)).2, rfl⟩⟩
theorem pm_objw : Cond.instanceMethod objectInit ∈ pm_T ∧ Cond.code objectInit ⟨#[0xb1]⟩ 1 none ∈ pm_T := ⟨pm_is_ok (i := 68) (by decide +kernel), pm_is_ok (i := 69) (by decide +kernel)⟩
theorem pm_acpw : Cond.native arraycopyName ∈ pm_T ∧ Cond.static arraycopyName ∈ pm_T ∧ Cond.initialized "java/lang/System" ∈ pm_T := ⟨pm_is_ok (i := 534) (by decide +kernel), pm_is_ok (i := 533) (by decide +kernel), pm_is_ok (i := 61) (by decide +kernel)⟩
theorem pm_mmaxw : Cond.static Lib.Math.max.name ∈ pm_T ∧ Cond.initialized "java/lang/Math" ∈ pm_T ∧ Cond.code Lib.Math.max.name Lib.Math.max.code 2 (some .int) ∈ pm_T := ⟨pm_is_ok (i := 371) (by decide +kernel), pm_is_ok (i := 58) (by decide +kernel), pm_is_ok (i := 372) (by decide +kernel)⟩
theorem pm_mminw : Cond.static Lib.Math.min.name ∈ pm_T ∧ Cond.initialized "java/lang/Math" ∈ pm_T ∧ Cond.code Lib.Math.min.name Lib.Math.min.code 2 (some .int) ∈ pm_T := ⟨pm_is_ok (i := 374) (by decide +kernel), pm_is_ok (i := 58) (by decide +kernel), pm_is_ok (i := 375) (by decide +kernel)⟩
theorem pm_mabsw : Cond.static Lib.Math.abs.name ∈ pm_T ∧ Cond.initialized "java/lang/Math" ∈ pm_T ∧ Cond.code Lib.Math.abs.name Lib.Math.abs.code 1 (some .int) ∈ pm_T := ⟨pm_is_ok (i := 631) (by decide +kernel), pm_is_ok (i := 58) (by decide +kernel), pm_is_ok (i := 632) (by decide +kernel)⟩
