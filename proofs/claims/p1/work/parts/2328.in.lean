theorem r126_2 : (List.range' 1507 479).all (io_run an1 cu1 io_no (mm_126, 3, 0, mk_126) 126 [some 42, none, none, none] 5 m126) = true := by decide +kernel
theorem r126_3 : (List.range' 1986 968).all (io_run an1 cu1 io_no (mm_126, 3, 0, mk_126) 126 [some 42, none, none, none] 5 m126) = true := by decide +kernel
