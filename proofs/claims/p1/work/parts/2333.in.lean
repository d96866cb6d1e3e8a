theorem r127_0 : (List.range' 0 960).all (io_run an1 cu1 OR6 (mm_127, 2, 0, mk_127) 127 [some 42, none, none] 5 m127) = true := by decide +kernel
theorem r127_1 : (List.range' 960 640).all (io_run an1 cu1 OR6 (mm_127, 2, 0, mk_127) 127 [some 42, none, none] 5 m127) = true := by decide +kernel
