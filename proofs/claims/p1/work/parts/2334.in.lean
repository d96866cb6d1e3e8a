theorem r69_0 : (List.range' 0 74).all (io_run an1 cu1 io_no (mm_69, 2, 0, mk_69) 69 [some 4, none, none] 0 m69) = true := by decide +kernel
theorem r69_1 : (List.range' 74 15).all (io_run an1 cu1 io_no (mm_69, 2, 0, mk_69) 69 [some 4, none, none] 0 m69) = true := by decide +kernel
