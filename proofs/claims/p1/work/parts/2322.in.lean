theorem r75_1 : (List.range' 1033 650).all (io_run an1 cu1 io_no (mm_75, 3, 0, mk_75) 75 [some 4, none, none, none] 0 m75) = true := by decide +kernel
theorem r75_2 : (List.range' 1683 1259).all (io_run an1 cu1 io_no (mm_75, 3, 0, mk_75) 75 [some 4, none, none, none] 0 m75) = true := by decide +kernel
