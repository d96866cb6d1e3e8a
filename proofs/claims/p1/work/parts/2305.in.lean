theorem r149_3 : (List.range' 102 34).all (io_run an1 cu1 OR3 (mm_149, 1, 0, mk_149) 149 [some 42, none] 5 m149) = true := by decide +kernel
theorem r149_4 : (List.range' 136 34).all (io_run an1 cu1 OR3 (mm_149, 1, 0, mk_149) 149 [some 42, none] 5 m149) = true := by decide +kernel
