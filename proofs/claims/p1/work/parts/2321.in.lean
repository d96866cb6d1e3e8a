theorem r40_2 : (List.range' 22 8).all (io_run an1 cu1 io_no (mm_40, 2, 0, mk_40) 40 [some 38, some 4, none] 0 m40) = true := by decide +kernel
theorem r75_0 : (List.range' 0 1033).all (io_run an1 cu1 io_no (mm_75, 3, 0, mk_75) 75 [some 4, none, none, none] 0 m75) = true := by decide +kernel
