theorem r149_9 : (List.range' 305 5).all (io_run an1 cu1 OR3 (mm_149, 1, 0, mk_149) 149 [some 42, none] 5 m149) = true := by decide +kernel
theorem r150_0 : (List.range' 0 15).all (io_run an1 cu1 OR4 (mm_150, 2, 0, mk_150) 150 [some 42, none, none] 5 m150) = true := by decide +kernel
