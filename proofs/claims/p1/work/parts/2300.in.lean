theorem r119_0 : (List.range' 0 496).all (io_run an1 cu1 io_no (mm_119, 3, 0, mk_119) 119 [some 42, none, none, none] 5 m119) = true := by decide +kernel
theorem r120_0 : (List.range' 0 96).all (io_run an1 cu1 OR2 (mm_120, 3, 0, mk_120) 120 [some 42, none, none, none] 5 m120) = true := by decide +kernel
