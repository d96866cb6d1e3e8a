/-! the oracles are sound -/
section IOS
variable {sc : pm_Z}
theorem r119 (p : Nat) : io_run an1 cu1 io_no (mm_119, 3, 0, mk_119) 119 [some 42, none, none, none] 5 m119 p = true := by
  by_cases h : p < 496
  · exact List.all_eq_true.mp r119_0 p (List.mem_range'_1.mpr (by omega))
  · exact io_run_no (io_b_no h)
theorem o119_ok (w0 : pm_W) : sx_orB sc io_tr w0 o119 := io_ok (AN := an1) (CU := cu1) (ora := io_no) (fun _ => io_no_ok) (y := (mm_119, 3, 0, mk_119)) (pl := pl_42) rfl r119 w0
theorem r120 (p : Nat) : io_run an1 cu1 OR2 (mm_120, 3, 0, mk_120) 120 [some 42, none, none, none] 5 m120 p = true := by
  by_cases h : p < 496
  · have h9 : (0 ≤ p ∧ p < 96) ∨ (96 ≤ p ∧ p < 192) ∨ (192 ≤ p ∧ p < 257) ∨ (257 ≤ p ∧ p < 353) ∨ (353 ≤ p ∧ p < 418) ∨ (418 ≤ p ∧ p < 496) := by omega
    rcases h9 with h9 | h9 | h9 | h9 | h9 | h9
    · exact List.all_eq_true.mp r120_0 p (List.mem_range'_1.mpr (by omega))
    · exact List.all_eq_true.mp r120_1 p (List.mem_range'_1.mpr (by omega))
    · exact List.all_eq_true.mp r120_2 p (List.mem_range'_1.mpr (by omega))
    · exact List.all_eq_true.mp r120_3 p (List.mem_range'_1.mpr (by omega))
    · exact List.all_eq_true.mp r120_4 p (List.mem_range'_1.mpr (by omega))
    · exact List.all_eq_true.mp r120_5 p (List.mem_range'_1.mpr (by omega))
  · exact io_run_no (io_b_no h)
theorem o120_ok (w0 : pm_W) : sx_orB sc io_tr w0 o120 := io_ok (AN := an1) (CU := cu1) (ora := OR2) (fun w => io_or (o119_ok w)) (y := (mm_120, 3, 0, mk_120)) (pl := pl_42) rfl r120 w0
theorem r149 (p : Nat) : io_run an1 cu1 OR3 (mm_149, 1, 0, mk_149) 149 [some 42, none] 5 m149 p = true := by
  by_cases h : p < 310
  · have h9 : (0 ≤ p ∧ p < 34) ∨ (34 ≤ p ∧ p < 68) ∨ (68 ≤ p ∧ p < 102) ∨ (102 ≤ p ∧ p < 136) ∨ (136 ≤ p ∧ p < 170) ∨ (170 ≤ p ∧ p < 204) ∨ (204 ≤ p ∧ p < 238) ∨ (238 ≤ p ∧ p < 271) ∨ (271 ≤ p ∧ p < 305) ∨ (305 ≤ p ∧ p < 310) := by omega
    rcases h9 with h9 | h9 | h9 | h9 | h9 | h9 | h9 | h9 | h9 | h9
    · exact List.all_eq_true.mp r149_0 p (List.mem_range'_1.mpr (by omega))
    · exact List.all_eq_true.mp r149_1 p (List.mem_range'_1.mpr (by omega))
    · exact List.all_eq_true.mp r149_2 p (List.mem_range'_1.mpr (by omega))
    · exact List.all_eq_true.mp r149_3 p (List.mem_range'_1.mpr (by omega))
    · exact List.all_eq_true.mp r149_4 p (List.mem_range'_1.mpr (by omega))
    · exact List.all_eq_true.mp r149_5 p (List.mem_range'_1.mpr (by omega))
    · exact List.all_eq_true.mp r149_6 p (List.mem_range'_1.mpr (by omega))
    · exact List.all_eq_true.mp r149_7 p (List.mem_range'_1.mpr (by omega))
    · exact List.all_eq_true.mp r149_8 p (List.mem_range'_1.mpr (by omega))
    · exact List.all_eq_true.mp r149_9 p (List.mem_range'_1.mpr (by omega))
  · exact io_run_no (io_b_no h)
theorem o149_ok (w0 : pm_W) : sx_orB sc io_tr w0 o149 := io_ok (AN := an1) (CU := cu1) (ora := OR3) (fun w => io_or (o120_ok w)) (y := (mm_149, 1, 0, mk_149)) (pl := pl_42) rfl r149 w0
theorem r150 (p : Nat) : io_run an1 cu1 OR4 (mm_150, 2, 0, mk_150) 150 [some 42, none, none] 5 m150 p = true := by
  by_cases h : p < 310
  · have h9 : (0 ≤ p ∧ p < 15) ∨ (15 ≤ p ∧ p < 28) ∨ (28 ≤ p ∧ p < 43) ∨ (43 ≤ p ∧ p < 56) ∨ (56 ≤ p ∧ p < 71) ∨ (71 ≤ p ∧ p < 85) ∨ (85 ≤ p ∧ p < 99) ∨ (99 ≤ p ∧ p < 113) ∨ (113 ≤ p ∧ p < 127) ∨ (127 ≤ p ∧ p < 141) ∨ (141 ≤ p ∧ p < 154) ∨ (154 ≤ p ∧ p < 169) ∨ (169 ≤ p ∧ p < 182) ∨ (182 ≤ p ∧ p < 197) ∨ (197 ≤ p ∧ p < 210) ∨ (210 ≤ p ∧ p < 225) ∨ (225 ≤ p ∧ p < 239) ∨ (239 ≤ p ∧ p < 253) ∨ (253 ≤ p ∧ p < 267) ∨ (267 ≤ p ∧ p < 281) ∨ (281 ≤ p ∧ p < 295) ∨ (295 ≤ p ∧ p < 308) ∨ (308 ≤ p ∧ p < 310) := by omega
    rcases h9 with h9 | h9 | h9 | h9 | h9 | h9 | h9 | h9 | h9 | h9 | h9 | h9 | h9 | h9 | h9 | h9 | h9 | h9 | h9 | h9 | h9 | h9 | h9
    · exact List.all_eq_true.mp r150_0 p (List.mem_range'_1.mpr (by omega))
    · exact List.all_eq_true.mp r150_1 p (List.mem_range'_1.mpr (by omega))
    · exact List.all_eq_true.mp r150_2 p (List.mem_range'_1.mpr (by omega))
    · exact List.all_eq_true.mp r150_3 p (List.mem_range'_1.mpr (by omega))
    · exact List.all_eq_true.mp r150_4 p (List.mem_range'_1.mpr (by omega))
    · exact List.all_eq_true.mp r150_5 p (List.mem_range'_1.mpr (by omega))
    · exact List.all_eq_true.mp r150_6 p (List.mem_range'_1.mpr (by omega))
    · exact List.all_eq_true.mp r150_7 p (List.mem_range'_1.mpr (by omega))
    · exact List.all_eq_true.mp r150_8 p (List.mem_range'_1.mpr (by omega))
    · exact List.all_eq_true.mp r150_9 p (List.mem_range'_1.mpr (by omega))
    · exact List.all_eq_true.mp r150_10 p (List.mem_range'_1.mpr (by omega))
    · exact List.all_eq_true.mp r150_11 p (List.mem_range'_1.mpr (by omega))
    · exact List.all_eq_true.mp r150_12 p (List.mem_range'_1.mpr (by omega))
    · exact List.all_eq_true.mp r150_13 p (List.mem_range'_1.mpr (by omega))
    · exact List.all_eq_true.mp r150_14 p (List.mem_range'_1.mpr (by omega))
    · exact List.all_eq_true.mp r150_15 p (List.mem_range'_1.mpr (by omega))
    · exact List.all_eq_true.mp r150_16 p (List.mem_range'_1.mpr (by omega))
    · exact List.all_eq_true.mp r150_17 p (List.mem_range'_1.mpr (by omega))
    · exact List.all_eq_true.mp r150_18 p (List.mem_range'_1.mpr (by omega))
    · exact List.all_eq_true.mp r150_19 p (List.mem_range'_1.mpr (by omega))
    · exact List.all_eq_true.mp r150_20 p (List.mem_range'_1.mpr (by omega))
    · exact List.all_eq_true.mp r150_21 p (List.mem_range'_1.mpr (by omega))
    · exact List.all_eq_true.mp r150_22 p (List.mem_range'_1.mpr (by omega))
  · exact io_run_no (io_b_no h)
theorem o150_ok (w0 : pm_W) : sx_orB sc io_tr w0 o150 := io_ok (AN := an1) (CU := cu1) (ora := OR4) (fun w => io_or (o149_ok w)) (y := (mm_150, 2, 0, mk_150)) (pl := pl_42) rfl r150 w0
theorem r40 (p : Nat) : io_run an1 cu1 io_no (mm_40, 2, 0, mk_40) 40 [some 38, some 4, none] 0 m40 p = true := by
  by_cases h : p < 30
  · have h9 : (0 ≤ p ∧ p < 11) ∨ (11 ≤ p ∧ p < 22) ∨ (22 ≤ p ∧ p < 30) := by omega
    rcases h9 with h9 | h9 | h9
    · exact List.all_eq_true.mp r40_0 p (List.mem_range'_1.mpr (by omega))
    · exact List.all_eq_true.mp r40_1 p (List.mem_range'_1.mpr (by omega))
    · exact List.all_eq_true.mp r40_2 p (List.mem_range'_1.mpr (by omega))
  · exact io_run_no (io_b_no h)
theorem o40_ok (w0 : pm_W) : sx_orB sc io_tr w0 o40 := io_ok (AN := an1) (CU := cu1) (ora := io_no) (fun _ => io_no_ok) (y := (mm_40, 2, 0, mk_40)) (pl := []) rfl r40 w0
theorem r75 (p : Nat) : io_run an1 cu1 io_no (mm_75, 3, 0, mk_75) 75 [some 4, none, none, none] 0 m75 p = true := by
  by_cases h : p < 7744
  · have h9 : (0 ≤ p ∧ p < 1033) ∨ (1033 ≤ p ∧ p < 1683) ∨ (1683 ≤ p ∧ p < 2942) ∨ (2942 ≤ p ∧ p < 3496) ∨ (3496 ≤ p ∧ p < 4147) ∨ (4147 ≤ p ∧ p < 5381) ∨ (5381 ≤ p ∧ p < 5930) ∨ (5930 ≤ p ∧ p < 6600) ∨ (6600 ≤ p ∧ p < 7744) := by omega
    rcases h9 with h9 | h9 | h9 | h9 | h9 | h9 | h9 | h9 | h9
    · exact List.all_eq_true.mp r75_0 p (List.mem_range'_1.mpr (by omega))
    · exact List.all_eq_true.mp r75_1 p (List.mem_range'_1.mpr (by omega))
    · exact List.all_eq_true.mp r75_2 p (List.mem_range'_1.mpr (by omega))
    · exact List.all_eq_true.mp r75_3 p (List.mem_range'_1.mpr (by omega))
    · exact List.all_eq_true.mp r75_4 p (List.mem_range'_1.mpr (by omega))
    · exact List.all_eq_true.mp r75_5 p (List.mem_range'_1.mpr (by omega))
    · exact List.all_eq_true.mp r75_6 p (List.mem_range'_1.mpr (by omega))
    · exact List.all_eq_true.mp r75_7 p (List.mem_range'_1.mpr (by omega))
    · exact List.all_eq_true.mp r75_8 p (List.mem_range'_1.mpr (by omega))
  · exact io_run_no (io_b_no h)
theorem o75_ok (w0 : pm_W) : sx_orB sc io_tr w0 o75 := io_ok (AN := an1) (CU := cu1) (ora := io_no) (fun _ => io_no_ok) (y := (mm_75, 3, 0, mk_75)) (pl := []) rfl r75 w0
theorem r76 (p : Nat) : io_run an1 cu1 OR5 (mm_76, 2, 0, mk_76) 76 [some 4, none, none] 0 m76 p = true := by
  by_cases h : p < 1600
  · have h9 : (0 ≤ p ∧ p < 1257) ∨ (1257 ≤ p ∧ p < 1600) := by omega
    rcases h9 with h9 | h9
    · exact List.all_eq_true.mp r76_0 p (List.mem_range'_1.mpr (by omega))
    · exact List.all_eq_true.mp r76_1 p (List.mem_range'_1.mpr (by omega))
  · exact io_run_no (io_b_no h)
theorem o76_ok (w0 : pm_W) : sx_orB sc io_tr w0 o76 := io_ok (AN := an1) (CU := cu1) (ora := OR5) (fun w => io_or (o75_ok w)) (y := (mm_76, 2, 0, mk_76)) (pl := []) rfl r76 w0
theorem r126 (p : Nat) : io_run an1 cu1 io_no (mm_126, 3, 0, mk_126) 126 [some 42, none, none, none] 5 m126 p = true := by
  by_cases h : p < 7744
  · have h9 : (0 ≤ p ∧ p < 973) ∨ (973 ≤ p ∧ p < 1507) ∨ (1507 ≤ p ∧ p < 1986) ∨ (1986 ≤ p ∧ p < 2954) ∨ (2954 ≤ p ∧ p < 3452) ∨ (3452 ≤ p ∧ p < 3987) ∨ (3987 ≤ p ∧ p < 4482) ∨ (4482 ≤ p ∧ p < 5584) ∨ (5584 ≤ p ∧ p < 6061) ∨ (6061 ≤ p ∧ p < 6622) ∨ (6622 ≤ p ∧ p < 7118) ∨ (7118 ≤ p ∧ p < 7744) := by omega
    rcases h9 with h9 | h9 | h9 | h9 | h9 | h9 | h9 | h9 | h9 | h9 | h9 | h9
    · exact List.all_eq_true.mp r126_0 p (List.mem_range'_1.mpr (by omega))
    · exact List.all_eq_true.mp r126_1 p (List.mem_range'_1.mpr (by omega))
    · exact List.all_eq_true.mp r126_2 p (List.mem_range'_1.mpr (by omega))
    · exact List.all_eq_true.mp r126_3 p (List.mem_range'_1.mpr (by omega))
    · exact List.all_eq_true.mp r126_4 p (List.mem_range'_1.mpr (by omega))
    · exact List.all_eq_true.mp r126_5 p (List.mem_range'_1.mpr (by omega))
    · exact List.all_eq_true.mp r126_6 p (List.mem_range'_1.mpr (by omega))
    · exact List.all_eq_true.mp r126_7 p (List.mem_range'_1.mpr (by omega))
    · exact List.all_eq_true.mp r126_8 p (List.mem_range'_1.mpr (by omega))
    · exact List.all_eq_true.mp r126_9 p (List.mem_range'_1.mpr (by omega))
    · exact List.all_eq_true.mp r126_10 p (List.mem_range'_1.mpr (by omega))
    · exact List.all_eq_true.mp r126_11 p (List.mem_range'_1.mpr (by omega))
  · exact io_run_no (io_b_no h)
theorem o126_ok (w0 : pm_W) : sx_orB sc io_tr w0 o126 := io_ok (AN := an1) (CU := cu1) (ora := io_no) (fun _ => io_no_ok) (y := (mm_126, 3, 0, mk_126)) (pl := pl_42) rfl r126 w0
theorem r127 (p : Nat) : io_run an1 cu1 OR6 (mm_127, 2, 0, mk_127) 127 [some 42, none, none] 5 m127 p = true := by
  by_cases h : p < 1600
  · have h9 : (0 ≤ p ∧ p < 960) ∨ (960 ≤ p ∧ p < 1600) := by omega
    rcases h9 with h9 | h9
    · exact List.all_eq_true.mp r127_0 p (List.mem_range'_1.mpr (by omega))
    · exact List.all_eq_true.mp r127_1 p (List.mem_range'_1.mpr (by omega))
  · exact io_run_no (io_b_no h)
theorem o127_ok (w0 : pm_W) : sx_orB sc io_tr w0 o127 := io_ok (AN := an1) (CU := cu1) (ora := OR6) (fun w => io_or (o126_ok w)) (y := (mm_127, 2, 0, mk_127)) (pl := pl_42) rfl r127 w0
theorem r69 (p : Nat) : io_run an1 cu1 io_no (mm_69, 2, 0, mk_69) 69 [some 4, none, none] 0 m69 p = true := by
  by_cases h : p < 89
  · have h9 : (0 ≤ p ∧ p < 74) ∨ (74 ≤ p ∧ p < 89) := by omega
    rcases h9 with h9 | h9
    · exact List.all_eq_true.mp r69_0 p (List.mem_range'_1.mpr (by omega))
    · exact List.all_eq_true.mp r69_1 p (List.mem_range'_1.mpr (by omega))
  · exact io_run_no (io_b_no h)
theorem o69_ok (w0 : pm_W) : sx_orB sc io_tr w0 o69 := io_ok (AN := an1) (CU := cu1) (ora := io_no) (fun _ => io_no_ok) (y := (mm_69, 2, 0, mk_69)) (pl := []) rfl r69 w0
theorem OR1_ok (w0 : pm_W) : sx_orOK sc io_tr w0 OR1 := io_or (io_2_ok (o119_ok w0) (io_2_ok (o120_ok w0) (io_2_ok (o149_ok w0) (io_2_ok (o150_ok w0) (io_2_ok (o40_ok w0) (io_2_ok (o75_ok w0) (io_2_ok (o76_ok w0) (io_2_ok (o126_ok w0) (io_2_ok (o127_ok w0) (o69_ok w0))))))))))
end IOS
