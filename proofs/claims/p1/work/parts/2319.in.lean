theorem r150_21 : (List.range' 295 13).all (io_run an1 cu1 OR4 (mm_150, 2, 0, mk_150) 150 [some 42, none, none] 5 m150) = true := by decide +kernel
theorem r150_22 : (List.range' 308 2).all (io_run an1 cu1 OR4 (mm_150, 2, 0, mk_150) 150 [some 42, none, none] 5 m150) = true := by decide +kernel
