theorem r126_4 : (List.range' 2954 498).all (io_run an1 cu1 io_no (mm_126, 3, 0, mk_126) 126 [some 42, none, none, none] 5 m126) = true := by decide +kernel
theorem r126_5 : (List.range' 3452 535).all (io_run an1 cu1 io_no (mm_126, 3, 0, mk_126) 126 [some 42, none, none, none] 5 m126) = true := by decide +kernel
