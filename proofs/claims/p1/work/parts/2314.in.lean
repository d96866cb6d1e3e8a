theorem r150_11 : (List.range' 154 15).all (io_run an1 cu1 OR4 (mm_150, 2, 0, mk_150) 150 [some 42, none, none] 5 m150) = true := by decide +kernel
theorem r150_12 : (List.range' 169 13).all (io_run an1 cu1 OR4 (mm_150, 2, 0, mk_150) 150 [some 42, none, none] 5 m150) = true := by decide +kernel
