theorem r75_7 : (List.range' 5930 670).all (io_run an1 cu1 io_no (mm_75, 3, 0, mk_75) 75 [some 4, none, none, none] 0 m75) = true := by decide +kernel
theorem r75_8 : (List.range' 6600 1144).all (io_run an1 cu1 io_no (mm_75, 3, 0, mk_75) 75 [some 4, none, none, none] 0 m75) = true := by decide +kernel
