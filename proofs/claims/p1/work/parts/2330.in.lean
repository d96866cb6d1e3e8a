theorem r126_6 : (List.range' 3987 495).all (io_run an1 cu1 io_no (mm_126, 3, 0, mk_126) 126 [some 42, none, none, none] 5 m126) = true := by decide +kernel
theorem r126_7 : (List.range' 4482 1102).all (io_run an1 cu1 io_no (mm_126, 3, 0, mk_126) 126 [some 42, none, none, none] 5 m126) = true := by decide +kernel
