theorem r150_3 : (List.range' 43 13).all (io_run an1 cu1 OR4 (mm_150, 2, 0, mk_150) 150 [some 42, none, none] 5 m150) = true := by decide +kernel
theorem r150_4 : (List.range' 56 15).all (io_run an1 cu1 OR4 (mm_150, 2, 0, mk_150) 150 [some 42, none, none] 5 m150) = true := by decide +kernel
