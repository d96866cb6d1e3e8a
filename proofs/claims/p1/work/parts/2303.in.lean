theorem r120_5 : (List.range' 418 78).all (io_run an1 cu1 OR2 (mm_120, 3, 0, mk_120) 120 [some 42, none, none, none] 5 m120) = true := by decide +kernel
theorem r149_0 : (List.range' 0 34).all (io_run an1 cu1 OR3 (mm_149, 1, 0, mk_149) 149 [some 42, none] 5 m149) = true := by decide +kernel
