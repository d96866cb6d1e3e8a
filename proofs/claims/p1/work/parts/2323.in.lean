theorem r75_3 : (List.range' 2942 554).all (io_run an1 cu1 io_no (mm_75, 3, 0, mk_75) 75 [some 4, none, none, none] 0 m75) = true := by decide +kernel
theorem r75_4 : (List.range' 3496 651).all (io_run an1 cu1 io_no (mm_75, 3, 0, mk_75) 75 [some 4, none, none, none] 0 m75) = true := by decide +kernel
