theorem r76_0 : (List.range' 0 1257).all (io_run an1 cu1 OR5 (mm_76, 2, 0, mk_76) 76 [some 4, none, none] 0 m76) = true := by decide +kernel
theorem r76_1 : (List.range' 1257 343).all (io_run an1 cu1 OR5 (mm_76, 2, 0, mk_76) 76 [some 4, none, none] 0 m76) = true := by decide +kernel
