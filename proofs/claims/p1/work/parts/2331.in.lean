theorem r126_8 : (List.range' 5584 477).all (io_run an1 cu1 io_no (mm_126, 3, 0, mk_126) 126 [some 42, none, none, none] 5 m126) = true := by decide +kernel
theorem r126_9 : (List.range' 6061 561).all (io_run an1 cu1 io_no (mm_126, 3, 0, mk_126) 126 [some 42, none, none, none] 5 m126) = true := by decide +kernel
