theorem r149_1 : (List.range' 34 34).all (io_run an1 cu1 OR3 (mm_149, 1, 0, mk_149) 149 [some 42, none] 5 m149) = true := by decide +kernel
theorem r149_2 : (List.range' 68 34).all (io_run an1 cu1 OR3 (mm_149, 1, 0, mk_149) 149 [some 42, none] 5 m149) = true := by decide +kernel
