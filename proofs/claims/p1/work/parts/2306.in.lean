theorem r149_5 : (List.range' 170 34).all (io_run an1 cu1 OR3 (mm_149, 1, 0, mk_149) 149 [some 42, none] 5 m149) = true := by decide +kernel
theorem r149_6 : (List.range' 204 34).all (io_run an1 cu1 OR3 (mm_149, 1, 0, mk_149) 149 [some 42, none] 5 m149) = true := by decide +kernel
