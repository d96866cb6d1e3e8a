theorem r75_5 : (List.range' 4147 1234).all (io_run an1 cu1 io_no (mm_75, 3, 0, mk_75) 75 [some 4, none, none, none] 0 m75) = true := by decide +kernel
theorem r75_6 : (List.range' 5381 549).all (io_run an1 cu1 io_no (mm_75, 3, 0, mk_75) 75 [some 4, none, none, none] 0 m75) = true := by decide +kernel
