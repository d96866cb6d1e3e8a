theorem r120_1 : (List.range' 96 96).all (io_run an1 cu1 OR2 (mm_120, 3, 0, mk_120) 120 [some 42, none, none, none] 5 m120) = true := by decide +kernel
theorem r120_2 : (List.range' 192 65).all (io_run an1 cu1 OR2 (mm_120, 3, 0, mk_120) 120 [some 42, none, none, none] 5 m120) = true := by decide +kernel
