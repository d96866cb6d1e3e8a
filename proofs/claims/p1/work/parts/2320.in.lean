theorem r40_0 : (List.range' 0 11).all (io_run an1 cu1 io_no (mm_40, 2, 0, mk_40) 40 [some 38, some 4, none] 0 m40) = true := by decide +kernel
theorem r40_1 : (List.range' 11 11).all (io_run an1 cu1 io_no (mm_40, 2, 0, mk_40) 40 [some 38, some 4, none] 0 m40) = true := by decide +kernel
