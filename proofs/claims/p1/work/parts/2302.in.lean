theorem r120_3 : (List.range' 257 96).all (io_run an1 cu1 OR2 (mm_120, 3, 0, mk_120) 120 [some 42, none, none, none] 5 m120) = true := by decide +kernel
theorem r120_4 : (List.range' 353 65).all (io_run an1 cu1 OR2 (mm_120, 3, 0, mk_120) 120 [some 42, none, none, none] 5 m120) = true := by decide +kernel
