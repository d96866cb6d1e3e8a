theorem r126_10 : (List.range' 6622 496).all (io_run an1 cu1 io_no (mm_126, 3, 0, mk_126) 126 [some 42, none, none, none] 5 m126) = true := by decide +kernel
theorem r126_11 : (List.range' 7118 626).all (io_run an1 cu1 io_no (mm_126, 3, 0, mk_126) 126 [some 42, none, none, none] 5 m126) = true := by decide +kernel
