/-! the law: its code by places (by program: wip/gen/law.py) -/
def mm_L : pm_M := (x, code, 4, ret, room_1)
def mk_L : pm_K := [[some (.new 7, 3, 7, 0, 62), none, none, some (.dup, 1, 0, 0, 0), some (.invokespecial 9, 3, 33, 0, 64), none, none, some (.astore_n 1, 1, 0, 0, 0), some (.new 10, 3, 8, 0, 742), none, none, some (.dup, 1, 0, 0, 0), some (.invokespecial 12, 3, 115, 0, 744), none, none, some (.astore_n 2, 1, 0, 0, 0)],
  [some (.iconst 0, 1, 0, 0, 0), some (.istore_n 3, 1, 0, 0, 0), some (.iload_n 3, 1, 0, 0, 0), some (.aload_n 0, 1, 0, 0, 0), some (.arraylength, 1, 0, 0, 0), some (.iconst 5, 1, 0, 0, 0), some (.isub, 1, 0, 0, 0), some (.if_icmp .gt 991, 3, 0, 0, 0), none, none, some (.aload_n 0, 1, 0, 0, 0), some (.iload_n 3, 1, 0, 0, 0), some (.iaload, 1, 0, 0, 0), some (.bipush 31, 2, 0, 0, 0), none, some (.iand, 1, 0, 0, 0)],
  [some (.tableswitch 976 0 29 #[136, 159, 172, 185, 198, 241, 264, 297, 320, 353, 396, 409, 452, 475, 488, 521, 574, 617, 640, 693, 716, 739, 782, 795, 818, 851, 884, 927, 940, 953], 136, 0, 0, 0), none, none, none, none, none, none, none, none, none, none, none, none, none, none, none],
  [none, none, none, none, none, none, none, none, none, none, none, none, none, none, none, none],
  [none, none, none, none, none, none, none, none, none, none, none, none, none, none, none, none],
  [none, none, none, none, none, none, none, none, none, none, none, none, none, none, none, none],
  [none, none, none, none, none, none, none, none, none, none, none, none, none, none, none, none],
  [none, none, none, none, none, none, none, none, none, none, none, none, none, none, none, none],
  [none, none, none, none, none, none, none, none, none, none, none, none, none, none, none, none],
  [none, none, none, none, none, none, none, none, none, none, none, none, none, none, none, none],
  [none, none, none, none, none, none, none, none, some (.aload_n 1, 1, 0, 0, 0), some (.aload_n 0, 1, 0, 0, 0), some (.iload_n 3, 1, 0, 0, 0), some (.iconst 1, 1, 0, 0, 0), some (.iadd, 1, 0, 0, 0), some (.iaload, 1, 0, 0, 0), some (.invokevirtual 13, 3, 107, 0, 408), none],
  [none, some (.pop, 1, 0, 0, 0), some (.aload_n 2, 1, 0, 0, 0), some (.aload_n 0, 1, 0, 0, 0), some (.iload_n 3, 1, 0, 0, 0), some (.iconst 1, 1, 0, 0, 0), some (.iadd, 1, 0, 0, 0), some (.iaload, 1, 0, 0, 0), some (.invokevirtual 17, 3, 169, 0, 816), none, none, some (.pop, 1, 0, 0, 0), some (.goto 820, 3, 0, 0, 0), none, none, some (.aload_n 1, 1, 0, 0, 0)],
  [some (.invokevirtual 18, 3, 106, 0, 412), none, none, some (.pop, 1, 0, 0, 0), some (.aload_n 2, 1, 0, 0, 0), some (.invokevirtual 22, 3, 168, 0, 820), none, none, some (.pop, 1, 0, 0, 0), some (.goto 807, 3, 0, 0, 0), none, none, some (.aload_n 1, 1, 0, 0, 0), some (.invokevirtual 23, 3, 57, 0, 416), none, none],
  [some (.pop, 1, 0, 0, 0), some (.aload_n 2, 1, 0, 0, 0), some (.invokevirtual 26, 3, 141, 0, 824), none, none, some (.pop, 1, 0, 0, 0), some (.goto 794, 3, 0, 0, 0), none, none, some (.aload_n 1, 1, 0, 0, 0), some (.invokevirtual 27, 3, 74, 0, 420), none, none, some (.pop, 1, 0, 0, 0), some (.aload_n 2, 1, 0, 0, 0), some (.invokevirtual 30, 3, 152, 0, 855)],
  [none, none, some (.pop, 1, 0, 0, 0), some (.goto 781, 3, 0, 0, 0), none, none, some (.aload_n 1, 1, 0, 0, 0), some (.aload_n 0, 1, 0, 0, 0), some (.iload_n 3, 1, 0, 0, 0), some (.iconst 1, 1, 0, 0, 0), some (.iadd, 1, 0, 0, 0), some (.iaload, 1, 0, 0, 0), some (.aload_n 0, 1, 0, 0, 0), some (.iload_n 3, 1, 0, 0, 0), some (.iconst 2, 1, 0, 0, 0), some (.iadd, 1, 0, 0, 0)],
  [some (.iaload, 1, 0, 0, 0), some (.aload_n 0, 1, 0, 0, 0), some (.iload_n 3, 1, 0, 0, 0), some (.iconst 3, 1, 0, 0, 0), some (.iadd, 1, 0, 0, 0), some (.iaload, 1, 0, 0, 0), some (.invokevirtual 31, 3, 61, 0, 429), none, none, some (.pop, 1, 0, 0, 0), some (.aload_n 2, 1, 0, 0, 0), some (.aload_n 0, 1, 0, 0, 0), some (.iload_n 3, 1, 0, 0, 0), some (.iconst 1, 1, 0, 0, 0), some (.iadd, 1, 0, 0, 0), some (.iaload, 1, 0, 0, 0)],
  [some (.aload_n 0, 1, 0, 0, 0), some (.iload_n 3, 1, 0, 0, 0), some (.iconst 2, 1, 0, 0, 0), some (.iadd, 1, 0, 0, 0), some (.iaload, 1, 0, 0, 0), some (.aload_n 0, 1, 0, 0, 0), some (.iload_n 3, 1, 0, 0, 0), some (.iconst 3, 1, 0, 0, 0), some (.iadd, 1, 0, 0, 0), some (.iaload, 1, 0, 0, 0), some (.invokevirtual 35, 3, 145, 0, 859), none, none, some (.pop, 1, 0, 0, 0), some (.goto 738, 3, 0, 0, 0), none],
  [none, some (.aload_n 1, 1, 0, 0, 0), some (.aload_n 0, 1, 0, 0, 0), some (.iload_n 3, 1, 0, 0, 0), some (.iconst 1, 1, 0, 0, 0), some (.iadd, 1, 0, 0, 0), some (.iaload, 1, 0, 0, 0), some (.invokevirtual 36, 3, 65, 0, 443), none, none, some (.pop, 1, 0, 0, 0), some (.aload_n 2, 1, 0, 0, 0), some (.aload_n 0, 1, 0, 0, 0), some (.iload_n 3, 1, 0, 0, 0), some (.iconst 1, 1, 0, 0, 0), some (.iadd, 1, 0, 0, 0)],
  [some (.iaload, 1, 0, 0, 0), some (.invokevirtual 39, 3, 148, 0, 874), none, none, some (.pop, 1, 0, 0, 0), some (.goto 715, 3, 0, 0, 0), none, none, some (.aload_n 1, 1, 0, 0, 0), some (.aload_n 0, 1, 0, 0, 0), some (.iload_n 3, 1, 0, 0, 0), some (.iconst 1, 1, 0, 0, 0), some (.iadd, 1, 0, 0, 0), some (.iaload, 1, 0, 0, 0), some (.aload_n 0, 1, 0, 0, 0), some (.iload_n 3, 1, 0, 0, 0)],
  [some (.iconst 2, 1, 0, 0, 0), some (.iadd, 1, 0, 0, 0), some (.iaload, 1, 0, 0, 0), some (.invokevirtual 40, 3, 80, 0, 447), none, none, some (.pop, 1, 0, 0, 0), some (.aload_n 2, 1, 0, 0, 0), some (.aload_n 0, 1, 0, 0, 0), some (.iload_n 3, 1, 0, 0, 0), some (.iconst 1, 1, 0, 0, 0), some (.iadd, 1, 0, 0, 0), some (.iaload, 1, 0, 0, 0), some (.aload_n 0, 1, 0, 0, 0), some (.iload_n 3, 1, 0, 0, 0), some (.iconst 2, 1, 0, 0, 0)],
  [some (.iadd, 1, 0, 0, 0), some (.iaload, 1, 0, 0, 0), some (.invokevirtual 44, 3, 154, 0, 878), none, none, some (.pop, 1, 0, 0, 0), some (.goto 682, 3, 0, 0, 0), none, none, some (.aload_n 1, 1, 0, 0, 0), some (.aload_n 0, 1, 0, 0, 0), some (.iload_n 3, 1, 0, 0, 0), some (.iconst 1, 1, 0, 0, 0), some (.iadd, 1, 0, 0, 0), some (.iaload, 1, 0, 0, 0), some (.invokevirtual 45, 3, 90, 0, 456)],
  [none, none, some (.pop, 1, 0, 0, 0), some (.aload_n 2, 1, 0, 0, 0), some (.aload_n 0, 1, 0, 0, 0), some (.iload_n 3, 1, 0, 0, 0), some (.iconst 1, 1, 0, 0, 0), some (.iadd, 1, 0, 0, 0), some (.iaload, 1, 0, 0, 0), some (.invokevirtual 48, 3, 159, 0, 886), none, none, some (.pop, 1, 0, 0, 0), some (.goto 659, 3, 0, 0, 0), none, none],
  [some (.aload_n 1, 1, 0, 0, 0), some (.aload_n 0, 1, 0, 0, 0), some (.iload_n 3, 1, 0, 0, 0), some (.iconst 1, 1, 0, 0, 0), some (.iadd, 1, 0, 0, 0), some (.iaload, 1, 0, 0, 0), some (.aload_n 0, 1, 0, 0, 0), some (.iload_n 3, 1, 0, 0, 0), some (.iconst 2, 1, 0, 0, 0), some (.iadd, 1, 0, 0, 0), some (.iaload, 1, 0, 0, 0), some (.invokevirtual 49, 3, 92, 0, 535), none, none, some (.pop, 1, 0, 0, 0), some (.aload_n 2, 1, 0, 0, 0)],
  [some (.aload_n 0, 1, 0, 0, 0), some (.iload_n 3, 1, 0, 0, 0), some (.iconst 1, 1, 0, 0, 0), some (.iadd, 1, 0, 0, 0), some (.iaload, 1, 0, 0, 0), some (.aload_n 0, 1, 0, 0, 0), some (.iload_n 3, 1, 0, 0, 0), some (.iconst 2, 1, 0, 0, 0), some (.iadd, 1, 0, 0, 0), some (.iaload, 1, 0, 0, 0), some (.invokevirtual 52, 3, 160, 0, 915), none, none, some (.pop, 1, 0, 0, 0), some (.goto 626, 3, 0, 0, 0), none],
  [none, some (.aload_n 1, 1, 0, 0, 0), some (.aload_n 0, 1, 0, 0, 0), some (.iload_n 3, 1, 0, 0, 0), some (.iconst 1, 1, 0, 0, 0), some (.iadd, 1, 0, 0, 0), some (.iaload, 1, 0, 0, 0), some (.aload_n 0, 1, 0, 0, 0), some (.iload_n 3, 1, 0, 0, 0), some (.iconst 2, 1, 0, 0, 0), some (.iadd, 1, 0, 0, 0), some (.iaload, 1, 0, 0, 0), some (.aload_n 0, 1, 0, 0, 0), some (.iload_n 3, 1, 0, 0, 0), some (.iconst 3, 1, 0, 0, 0), some (.iadd, 1, 0, 0, 0)],
  [some (.iaload, 1, 0, 0, 0), some (.invokevirtual 53, 3, 46, 0, 543), none, none, some (.pop, 1, 0, 0, 0), some (.aload_n 2, 1, 0, 0, 0), some (.aload_n 0, 1, 0, 0, 0), some (.iload_n 3, 1, 0, 0, 0), some (.iconst 1, 1, 0, 0, 0), some (.iadd, 1, 0, 0, 0), some (.iaload, 1, 0, 0, 0), some (.aload_n 0, 1, 0, 0, 0), some (.iload_n 3, 1, 0, 0, 0), some (.iconst 2, 1, 0, 0, 0), some (.iadd, 1, 0, 0, 0), some (.iaload, 1, 0, 0, 0)],
  [some (.aload_n 0, 1, 0, 0, 0), some (.iload_n 3, 1, 0, 0, 0), some (.iconst 3, 1, 0, 0, 0), some (.iadd, 1, 0, 0, 0), some (.iaload, 1, 0, 0, 0), some (.invokevirtual 56, 3, 124, 0, 920), none, none, some (.pop, 1, 0, 0, 0), some (.goto 583, 3, 0, 0, 0), none, none, some (.aload_n 1, 1, 0, 0, 0), some (.invokevirtual 57, 3, 102, 0, 551), none, none],
  [some (.pop, 1, 0, 0, 0), some (.aload_n 2, 1, 0, 0, 0), some (.invokevirtual 60, 3, 164, 0, 924), none, none, some (.pop, 1, 0, 0, 0), some (.goto 570, 3, 0, 0, 0), none, none, some (.aload_n 1, 1, 0, 0, 0), some (.aload_n 0, 1, 0, 0, 0), some (.iload_n 3, 1, 0, 0, 0), some (.iconst 1, 1, 0, 0, 0), some (.iadd, 1, 0, 0, 0), some (.iaload, 1, 0, 0, 0), some (.aload_n 0, 1, 0, 0, 0)],
  [some (.iload_n 3, 1, 0, 0, 0), some (.iconst 2, 1, 0, 0, 0), some (.iadd, 1, 0, 0, 0), some (.iaload, 1, 0, 0, 0), some (.aload_n 0, 1, 0, 0, 0), some (.iload_n 3, 1, 0, 0, 0), some (.iconst 3, 1, 0, 0, 0), some (.iadd, 1, 0, 0, 0), some (.iaload, 1, 0, 0, 0), some (.invokevirtual 61, 3, 105, 0, 564), none, none, some (.pop, 1, 0, 0, 0), some (.aload_n 2, 1, 0, 0, 0), some (.aload_n 0, 1, 0, 0, 0), some (.iload_n 3, 1, 0, 0, 0)],
  [some (.iconst 1, 1, 0, 0, 0), some (.iadd, 1, 0, 0, 0), some (.iaload, 1, 0, 0, 0), some (.aload_n 0, 1, 0, 0, 0), some (.iload_n 3, 1, 0, 0, 0), some (.iconst 2, 1, 0, 0, 0), some (.iadd, 1, 0, 0, 0), some (.iaload, 1, 0, 0, 0), some (.aload_n 0, 1, 0, 0, 0), some (.iload_n 3, 1, 0, 0, 0), some (.iconst 3, 1, 0, 0, 0), some (.iadd, 1, 0, 0, 0), some (.iaload, 1, 0, 0, 0), some (.invokevirtual 64, 3, 167, 0, 928), none, none],
  [some (.pop, 1, 0, 0, 0), some (.goto 527, 3, 0, 0, 0), none, none, some (.aload_n 1, 1, 0, 0, 0), some (.aload_n 0, 1, 0, 0, 0), some (.iload_n 3, 1, 0, 0, 0), some (.iconst 1, 1, 0, 0, 0), some (.iadd, 1, 0, 0, 0), some (.iaload, 1, 0, 0, 0), some (.invokevirtual 65, 3, 58, 0, 569), none, none, some (.pop, 1, 0, 0, 0), some (.aload_n 2, 1, 0, 0, 0), some (.aload_n 0, 1, 0, 0, 0)],
  [some (.iload_n 3, 1, 0, 0, 0), some (.iconst 1, 1, 0, 0, 0), some (.iadd, 1, 0, 0, 0), some (.iaload, 1, 0, 0, 0), some (.invokevirtual 68, 3, 142, 0, 932), none, none, some (.pop, 1, 0, 0, 0), some (.goto 504, 3, 0, 0, 0), none, none, some (.aload_n 1, 1, 0, 0, 0), some (.invokevirtual 69, 3, 59, 0, 573), none, none, some (.pop, 1, 0, 0, 0)],
  [some (.aload_n 2, 1, 0, 0, 0), some (.invokevirtual 72, 3, 143, 0, 936), none, none, some (.pop, 1, 0, 0, 0), some (.goto 491, 3, 0, 0, 0), none, none, some (.aload_n 1, 1, 0, 0, 0), some (.aload_n 0, 1, 0, 0, 0), some (.iload_n 3, 1, 0, 0, 0), some (.iconst 1, 1, 0, 0, 0), some (.iadd, 1, 0, 0, 0), some (.iaload, 1, 0, 0, 0), some (.aload_n 0, 1, 0, 0, 0), some (.iload_n 3, 1, 0, 0, 0)],
  [some (.iconst 2, 1, 0, 0, 0), some (.iadd, 1, 0, 0, 0), some (.iaload, 1, 0, 0, 0), some (.invokevirtual 73, 3, 85, 0, 577), none, none, some (.pop, 1, 0, 0, 0), some (.aload_n 2, 1, 0, 0, 0), some (.aload_n 0, 1, 0, 0, 0), some (.iload_n 3, 1, 0, 0, 0), some (.iconst 1, 1, 0, 0, 0), some (.iadd, 1, 0, 0, 0), some (.iaload, 1, 0, 0, 0), some (.aload_n 0, 1, 0, 0, 0), some (.iload_n 3, 1, 0, 0, 0), some (.iconst 2, 1, 0, 0, 0)],
  [some (.iadd, 1, 0, 0, 0), some (.iaload, 1, 0, 0, 0), some (.invokevirtual 76, 3, 158, 0, 940), none, none, some (.pop, 1, 0, 0, 0), some (.goto 458, 3, 0, 0, 0), none, none, some (.aload_n 1, 1, 0, 0, 0), some (.aload_n 0, 1, 0, 0, 0), some (.iload_n 3, 1, 0, 0, 0), some (.iconst 1, 1, 0, 0, 0), some (.iadd, 1, 0, 0, 0), some (.iaload, 1, 0, 0, 0), some (.aload_n 0, 1, 0, 0, 0)],
  [some (.iload_n 3, 1, 0, 0, 0), some (.iconst 2, 1, 0, 0, 0), some (.iadd, 1, 0, 0, 0), some (.iaload, 1, 0, 0, 0), some (.aload_n 0, 1, 0, 0, 0), some (.iload_n 3, 1, 0, 0, 0), some (.iconst 3, 1, 0, 0, 0), some (.iadd, 1, 0, 0, 0), some (.iaload, 1, 0, 0, 0), some (.aload_n 0, 1, 0, 0, 0), some (.iload_n 3, 1, 0, 0, 0), some (.iconst 4, 1, 0, 0, 0), some (.iadd, 1, 0, 0, 0), some (.iaload, 1, 0, 0, 0), some (.invokevirtual 77, 3, 99, 0, 581), none],
  [none, some (.pop, 1, 0, 0, 0), some (.aload_n 2, 1, 0, 0, 0), some (.aload_n 0, 1, 0, 0, 0), some (.iload_n 3, 1, 0, 0, 0), some (.iconst 1, 1, 0, 0, 0), some (.iadd, 1, 0, 0, 0), some (.iaload, 1, 0, 0, 0), some (.aload_n 0, 1, 0, 0, 0), some (.iload_n 3, 1, 0, 0, 0), some (.iconst 2, 1, 0, 0, 0), some (.iadd, 1, 0, 0, 0), some (.iaload, 1, 0, 0, 0), some (.aload_n 0, 1, 0, 0, 0), some (.iload_n 3, 1, 0, 0, 0), some (.iconst 3, 1, 0, 0, 0)],
  [some (.iadd, 1, 0, 0, 0), some (.iaload, 1, 0, 0, 0), some (.aload_n 0, 1, 0, 0, 0), some (.iload_n 3, 1, 0, 0, 0), some (.iconst 4, 1, 0, 0, 0), some (.iadd, 1, 0, 0, 0), some (.iaload, 1, 0, 0, 0), some (.invokevirtual 81, 3, 163, 0, 944), none, none, some (.pop, 1, 0, 0, 0), some (.goto 405, 3, 0, 0, 0), none, none, some (.aload_n 1, 1, 0, 0, 0), some (.aload_n 0, 1, 0, 0, 0)],
  [some (.iload_n 3, 1, 0, 0, 0), some (.iconst 1, 1, 0, 0, 0), some (.iadd, 1, 0, 0, 0), some (.iaload, 1, 0, 0, 0), some (.aload_n 0, 1, 0, 0, 0), some (.iload_n 3, 1, 0, 0, 0), some (.iconst 2, 1, 0, 0, 0), some (.iadd, 1, 0, 0, 0), some (.iaload, 1, 0, 0, 0), some (.aload_n 0, 1, 0, 0, 0), some (.iload_n 3, 1, 0, 0, 0), some (.iconst 3, 1, 0, 0, 0), some (.iadd, 1, 0, 0, 0), some (.iaload, 1, 0, 0, 0), some (.invokevirtual 82, 3, 84, 0, 602), none],
  [none, some (.pop, 1, 0, 0, 0), some (.aload_n 2, 1, 0, 0, 0), some (.aload_n 0, 1, 0, 0, 0), some (.iload_n 3, 1, 0, 0, 0), some (.iconst 1, 1, 0, 0, 0), some (.iadd, 1, 0, 0, 0), some (.iaload, 1, 0, 0, 0), some (.aload_n 0, 1, 0, 0, 0), some (.iload_n 3, 1, 0, 0, 0), some (.iconst 2, 1, 0, 0, 0), some (.iadd, 1, 0, 0, 0), some (.iaload, 1, 0, 0, 0), some (.aload_n 0, 1, 0, 0, 0), some (.iload_n 3, 1, 0, 0, 0), some (.iconst 3, 1, 0, 0, 0)],
  [some (.iadd, 1, 0, 0, 0), some (.iaload, 1, 0, 0, 0), some (.invokevirtual 85, 3, 157, 0, 962), none, none, some (.pop, 1, 0, 0, 0), some (.goto 362, 3, 0, 0, 0), none, none, some (.aload_n 1, 1, 0, 0, 0), some (.aload_n 0, 1, 0, 0, 0), some (.iload_n 3, 1, 0, 0, 0), some (.iconst 1, 1, 0, 0, 0), some (.iadd, 1, 0, 0, 0), some (.iaload, 1, 0, 0, 0), some (.invokevirtual 86, 3, 83, 0, 613)],
  [none, none, some (.pop, 1, 0, 0, 0), some (.aload_n 2, 1, 0, 0, 0), some (.aload_n 0, 1, 0, 0, 0), some (.iload_n 3, 1, 0, 0, 0), some (.iconst 1, 1, 0, 0, 0), some (.iadd, 1, 0, 0, 0), some (.iaload, 1, 0, 0, 0), some (.invokevirtual 89, 3, 156, 0, 971), none, none, some (.pop, 1, 0, 0, 0), some (.goto 339, 3, 0, 0, 0), none, none],
  [some (.aload_n 1, 1, 0, 0, 0), some (.aload_n 0, 1, 0, 0, 0), some (.iload_n 3, 1, 0, 0, 0), some (.iconst 1, 1, 0, 0, 0), some (.iadd, 1, 0, 0, 0), some (.iaload, 1, 0, 0, 0), some (.aload_n 0, 1, 0, 0, 0), some (.iload_n 3, 1, 0, 0, 0), some (.iconst 2, 1, 0, 0, 0), some (.iadd, 1, 0, 0, 0), some (.iaload, 1, 0, 0, 0), some (.aload_n 0, 1, 0, 0, 0), some (.iload_n 3, 1, 0, 0, 0), some (.iconst 3, 1, 0, 0, 0), some (.iadd, 1, 0, 0, 0), some (.iaload, 1, 0, 0, 0)],
  [some (.aload_n 0, 1, 0, 0, 0), some (.iload_n 3, 1, 0, 0, 0), some (.iconst 4, 1, 0, 0, 0), some (.iadd, 1, 0, 0, 0), some (.iaload, 1, 0, 0, 0), some (.invokevirtual 90, 3, 79, 0, 621), none, none, some (.pop, 1, 0, 0, 0), some (.aload_n 2, 1, 0, 0, 0), some (.aload_n 0, 1, 0, 0, 0), some (.iload_n 3, 1, 0, 0, 0), some (.iconst 1, 1, 0, 0, 0), some (.iadd, 1, 0, 0, 0), some (.iaload, 1, 0, 0, 0), some (.aload_n 0, 1, 0, 0, 0)],
  [some (.iload_n 3, 1, 0, 0, 0), some (.iconst 2, 1, 0, 0, 0), some (.iadd, 1, 0, 0, 0), some (.iaload, 1, 0, 0, 0), some (.aload_n 0, 1, 0, 0, 0), some (.iload_n 3, 1, 0, 0, 0), some (.iconst 3, 1, 0, 0, 0), some (.iadd, 1, 0, 0, 0), some (.iaload, 1, 0, 0, 0), some (.aload_n 0, 1, 0, 0, 0), some (.iload_n 3, 1, 0, 0, 0), some (.iconst 4, 1, 0, 0, 0), some (.iadd, 1, 0, 0, 0), some (.iaload, 1, 0, 0, 0), some (.invokevirtual 93, 3, 153, 0, 975), none],
  [none, some (.pop, 1, 0, 0, 0), some (.goto 286, 3, 0, 0, 0), none, none, some (.aload_n 1, 1, 0, 0, 0), some (.aload_n 0, 1, 0, 0, 0), some (.iload_n 3, 1, 0, 0, 0), some (.iconst 1, 1, 0, 0, 0), some (.iadd, 1, 0, 0, 0), some (.iaload, 1, 0, 0, 0), some (.invokevirtual 94, 3, 50, 0, 638), none, none, some (.pop, 1, 0, 0, 0), some (.aload_n 2, 1, 0, 0, 0)],
  [some (.aload_n 0, 1, 0, 0, 0), some (.iload_n 3, 1, 0, 0, 0), some (.iconst 1, 1, 0, 0, 0), some (.iadd, 1, 0, 0, 0), some (.iaload, 1, 0, 0, 0), some (.invokevirtual 97, 3, 128, 0, 980), none, none, some (.pop, 1, 0, 0, 0), some (.goto 263, 3, 0, 0, 0), none, none, some (.aload_n 1, 1, 0, 0, 0), some (.aload_n 0, 1, 0, 0, 0), some (.iload_n 3, 1, 0, 0, 0), some (.iconst 1, 1, 0, 0, 0)],
  [some (.iadd, 1, 0, 0, 0), some (.iaload, 1, 0, 0, 0), some (.invokevirtual 98, 3, 103, 0, 651), none, none, some (.pop, 1, 0, 0, 0), some (.aload_n 2, 1, 0, 0, 0), some (.aload_n 0, 1, 0, 0, 0), some (.iload_n 3, 1, 0, 0, 0), some (.iconst 1, 1, 0, 0, 0), some (.iadd, 1, 0, 0, 0), some (.iaload, 1, 0, 0, 0), some (.invokevirtual 101, 3, 165, 0, 984), none, none, some (.pop, 1, 0, 0, 0)],
  [some (.goto 240, 3, 0, 0, 0), none, none, some (.aload_n 1, 1, 0, 0, 0), some (.aload_n 0, 1, 0, 0, 0), some (.iload_n 3, 1, 0, 0, 0), some (.iconst 1, 1, 0, 0, 0), some (.iadd, 1, 0, 0, 0), some (.iaload, 1, 0, 0, 0), some (.aload_n 0, 1, 0, 0, 0), some (.iload_n 3, 1, 0, 0, 0), some (.iconst 2, 1, 0, 0, 0), some (.iadd, 1, 0, 0, 0), some (.iaload, 1, 0, 0, 0), some (.aload_n 0, 1, 0, 0, 0), some (.iload_n 3, 1, 0, 0, 0)],
  [some (.iconst 3, 1, 0, 0, 0), some (.iadd, 1, 0, 0, 0), some (.iaload, 1, 0, 0, 0), some (.invokevirtual 102, 3, 94, 0, 655), none, none, some (.pop, 1, 0, 0, 0), some (.aload_n 2, 1, 0, 0, 0), some (.aload_n 0, 1, 0, 0, 0), some (.iload_n 3, 1, 0, 0, 0), some (.iconst 1, 1, 0, 0, 0), some (.iadd, 1, 0, 0, 0), some (.iaload, 1, 0, 0, 0), some (.aload_n 0, 1, 0, 0, 0), some (.iload_n 3, 1, 0, 0, 0), some (.iconst 2, 1, 0, 0, 0)],
  [some (.iadd, 1, 0, 0, 0), some (.iaload, 1, 0, 0, 0), some (.aload_n 0, 1, 0, 0, 0), some (.iload_n 3, 1, 0, 0, 0), some (.iconst 3, 1, 0, 0, 0), some (.iadd, 1, 0, 0, 0), some (.iaload, 1, 0, 0, 0), some (.invokevirtual 105, 3, 161, 0, 988), none, none, some (.pop, 1, 0, 0, 0), some (.goto 197, 3, 0, 0, 0), none, none, some (.aload_n 1, 1, 0, 0, 0), some (.invokevirtual 106, 3, 60, 0, 664)],
  [none, none, some (.pop, 1, 0, 0, 0), some (.aload_n 2, 1, 0, 0, 0), some (.invokevirtual 109, 3, 144, 0, 992), none, none, some (.pop, 1, 0, 0, 0), some (.goto 184, 3, 0, 0, 0), none, none, some (.aload_n 1, 1, 0, 0, 0), some (.aload_n 0, 1, 0, 0, 0), some (.iload_n 3, 1, 0, 0, 0), some (.iconst 1, 1, 0, 0, 0), some (.iadd, 1, 0, 0, 0)],
  [some (.iaload, 1, 0, 0, 0), some (.invokevirtual 110, 3, 104, 0, 668), none, none, some (.pop, 1, 0, 0, 0), some (.aload_n 2, 1, 0, 0, 0), some (.aload_n 0, 1, 0, 0, 0), some (.iload_n 3, 1, 0, 0, 0), some (.iconst 1, 1, 0, 0, 0), some (.iadd, 1, 0, 0, 0), some (.iaload, 1, 0, 0, 0), some (.invokevirtual 113, 3, 166, 0, 996), none, none, some (.pop, 1, 0, 0, 0), some (.goto 161, 3, 0, 0, 0)],
  [none, none, some (.aload_n 1, 1, 0, 0, 0), some (.aload_n 0, 1, 0, 0, 0), some (.iload_n 3, 1, 0, 0, 0), some (.iconst 1, 1, 0, 0, 0), some (.iadd, 1, 0, 0, 0), some (.iaload, 1, 0, 0, 0), some (.aload_n 0, 1, 0, 0, 0), some (.iload_n 3, 1, 0, 0, 0), some (.iconst 2, 1, 0, 0, 0), some (.iadd, 1, 0, 0, 0), some (.iaload, 1, 0, 0, 0), some (.invokevirtual 114, 3, 98, 0, 685), none, none],
  [some (.aload_n 2, 1, 0, 0, 0), some (.aload_n 0, 1, 0, 0, 0), some (.iload_n 3, 1, 0, 0, 0), some (.iconst 1, 1, 0, 0, 0), some (.iadd, 1, 0, 0, 0), some (.iaload, 1, 0, 0, 0), some (.aload_n 0, 1, 0, 0, 0), some (.iload_n 3, 1, 0, 0, 0), some (.iconst 2, 1, 0, 0, 0), some (.iadd, 1, 0, 0, 0), some (.iaload, 1, 0, 0, 0), some (.invokevirtual 117, 3, 162, 0, 1008), none, none, some (.if_icmp .eq 130, 3, 0, 0, 0), none],
  [none, some (.iconst 0, 1, 0, 0, 0), some (.ireturn, 1, 0, 0, 0), some (.aload_n 1, 1, 0, 0, 0), some (.aload_n 0, 1, 0, 0, 0), some (.iload_n 3, 1, 0, 0, 0), some (.iconst 1, 1, 0, 0, 0), some (.iadd, 1, 0, 0, 0), some (.iaload, 1, 0, 0, 0), some (.aload_n 0, 1, 0, 0, 0), some (.iload_n 3, 1, 0, 0, 0), some (.iconst 2, 1, 0, 0, 0), some (.iadd, 1, 0, 0, 0), some (.iaload, 1, 0, 0, 0), some (.invokevirtual 118, 3, 72, 0, 690), none],
  [none, some (.pop, 1, 0, 0, 0), some (.aload_n 2, 1, 0, 0, 0), some (.aload_n 0, 1, 0, 0, 0), some (.iload_n 3, 1, 0, 0, 0), some (.iconst 1, 1, 0, 0, 0), some (.iadd, 1, 0, 0, 0), some (.iaload, 1, 0, 0, 0), some (.aload_n 0, 1, 0, 0, 0), some (.iload_n 3, 1, 0, 0, 0), some (.iconst 2, 1, 0, 0, 0), some (.iadd, 1, 0, 0, 0), some (.iaload, 1, 0, 0, 0), some (.invokevirtual 121, 3, 151, 0, 1012), none, none],
  [some (.pop, 1, 0, 0, 0), some (.goto 95, 3, 0, 0, 0), none, none, some (.aload_n 1, 1, 0, 0, 0), some (.aload_n 0, 1, 0, 0, 0), some (.iload_n 3, 1, 0, 0, 0), some (.iconst 1, 1, 0, 0, 0), some (.iadd, 1, 0, 0, 0), some (.iaload, 1, 0, 0, 0), some (.aload_n 0, 1, 0, 0, 0), some (.iload_n 3, 1, 0, 0, 0), some (.iconst 2, 1, 0, 0, 0), some (.iadd, 1, 0, 0, 0), some (.iaload, 1, 0, 0, 0), some (.aload_n 0, 1, 0, 0, 0)],
  [some (.iload_n 3, 1, 0, 0, 0), some (.iconst 3, 1, 0, 0, 0), some (.iadd, 1, 0, 0, 0), some (.iaload, 1, 0, 0, 0), some (.invokevirtual 122, 3, 41, 0, 706), none, none, some (.pop, 1, 0, 0, 0), some (.aload_n 2, 1, 0, 0, 0), some (.aload_n 0, 1, 0, 0, 0), some (.iload_n 3, 1, 0, 0, 0), some (.iconst 1, 1, 0, 0, 0), some (.iadd, 1, 0, 0, 0), some (.iaload, 1, 0, 0, 0), some (.aload_n 0, 1, 0, 0, 0), some (.iload_n 3, 1, 0, 0, 0)],
  [some (.iconst 2, 1, 0, 0, 0), some (.iadd, 1, 0, 0, 0), some (.iaload, 1, 0, 0, 0), some (.aload_n 0, 1, 0, 0, 0), some (.iload_n 3, 1, 0, 0, 0), some (.iconst 3, 1, 0, 0, 0), some (.iadd, 1, 0, 0, 0), some (.iaload, 1, 0, 0, 0), some (.invokevirtual 125, 3, 121, 0, 1020), none, none, some (.pop, 1, 0, 0, 0), some (.goto 52, 3, 0, 0, 0), none, none, some (.aload_n 1, 1, 0, 0, 0)],
  [some (.invokevirtual 126, 3, 64, 0, 710), none, none, some (.pop, 1, 0, 0, 0), some (.aload_n 2, 1, 0, 0, 0), some (.invokevirtual 129, 3, 147, 0, 1024), none, none, some (.pop, 1, 0, 0, 0), some (.goto 39, 3, 0, 0, 0), none, none, some (.aload_n 1, 1, 0, 0, 0), some (.invokevirtual 130, 3, 54, 0, 730), none, none],
  [some (.pop, 1, 0, 0, 0), some (.aload_n 2, 1, 0, 0, 0), some (.invokevirtual 133, 3, 129, 0, 1028), none, none, some (.pop, 1, 0, 0, 0), some (.goto 26, 3, 0, 0, 0), none, none, some (.aload_n 1, 1, 0, 0, 0), some (.aload_n 0, 1, 0, 0, 0), some (.iload_n 3, 1, 0, 0, 0), some (.iconst 1, 1, 0, 0, 0), some (.iadd, 1, 0, 0, 0), some (.iaload, 1, 0, 0, 0), some (.invokevirtual 134, 3, 56, 0, 738)],
  [none, none, some (.pop, 1, 0, 0, 0), some (.aload_n 2, 1, 0, 0, 0), some (.aload_n 0, 1, 0, 0, 0), some (.iload_n 3, 1, 0, 0, 0), some (.iconst 1, 1, 0, 0, 0), some (.iadd, 1, 0, 0, 0), some (.iaload, 1, 0, 0, 0), some (.invokevirtual 137, 3, 133, 0, 1032), none, none, some (.pop, 1, 0, 0, 0), some (.goto 3, 3, 0, 0, 0), none, none],
  [some (.iinc 3 5, 3, 0, 0, 0), none, none, some (.goto (-993), 3, 0, 0, 0), none, none, some (.iconst 1, 1, 0, 0, 0), some (.ireturn, 1, 0, 0, 0), none, none, none, none, none, none, none, none]]
def lk_b (i : Nat) : Bool := (List.range 16).all fun j => match pm_fetch mk_L (16 * i + j) with
  | none => true
  | some e => pm_eb mm_L (16 * i + j) e
theorem lk_0 : (List.range' 0 4).all lk_b = true := by decide +kernel
theorem lk_4 : (List.range' 4 4).all lk_b = true := by decide +kernel
theorem lk_8 : (List.range' 8 4).all lk_b = true := by decide +kernel
theorem lk_12 : (List.range' 12 4).all lk_b = true := by decide +kernel
theorem lk_16 : (List.range' 16 4).all lk_b = true := by decide +kernel
theorem lk_20 : (List.range' 20 4).all lk_b = true := by decide +kernel
theorem lk_24 : (List.range' 24 4).all lk_b = true := by decide +kernel
theorem lk_28 : (List.range' 28 4).all lk_b = true := by decide +kernel
theorem lk_32 : (List.range' 32 4).all lk_b = true := by decide +kernel
theorem lk_36 : (List.range' 36 4).all lk_b = true := by decide +kernel
theorem lk_40 : (List.range' 40 4).all lk_b = true := by decide +kernel
theorem lk_44 : (List.range' 44 4).all lk_b = true := by decide +kernel
theorem lk_48 : (List.range' 48 4).all lk_b = true := by decide +kernel
theorem lk_52 : (List.range' 52 4).all lk_b = true := by decide +kernel
theorem lk_56 : (List.range' 56 4).all lk_b = true := by decide +kernel
theorem lk_60 : (List.range' 60 4).all lk_b = true := by decide +kernel
theorem mv_L : pm_kb mm_L mk_L = true := by
  show (List.range 64).all lk_b = true
  have e : List.range 64 = List.range' 0 4 ++ List.range' 4 4 ++ List.range' 8 4 ++ List.range' 12 4 ++ List.range' 16 4 ++ List.range' 20 4 ++ List.range' 24 4 ++ List.range' 28 4 ++ List.range' 32 4 ++ List.range' 36 4 ++ List.range' 40 4 ++ List.range' 44 4 ++ List.range' 48 4 ++ List.range' 52 4 ++ List.range' 56 4 ++ List.range' 60 4 := by decide +kernel
  rw [e]
  simp only [List.all_append, lk_0, lk_4, lk_8, lk_12, lk_16, lk_20, lk_24, lk_28, lk_32, lk_36, lk_40, lk_44, lk_48, lk_52, lk_56, lk_60, Bool.and_self]
def lh_w0 : List sx_C := [
  .inr (7, [.inr (.ref 1), .inr (.ref 4), .inr (.ref 9), .inr (.ref 14), .inr (.ref 18), .inr (.ref 22), .inr (.ref 26), .inr (.ref 32), .inl (9, 0), .inr (.ref 38)]),
  .inr (5, [.inr (.ref 2), .inr (.ref 3), .inl (7, 0), .inl (10, 0)]),
  .inl (1, 200, true, []),
  .inl (0, 5, false, []),
  .inr (6, [.inr (.ref 5), .inr (.ref 6), .inr (.ref 7), .inr (.ref 8), .inl (8, 0), .inl (11, 0), .inl (12, 0), .inl (13, 0), .inl (14, 0), .inl (15, 0)]),
  .inl (0, 5, false, []),
  .inl (0, 20, true, []),
  .inl (0, 20, true, []),
  .inl (0, 20, false, []),
  .inr (6, [.inr (.ref 10), .inr (.ref 11), .inr (.ref 12), .inr (.ref 13), .inl (16, 0), .inl (17, 0), .inl (18, 0), .inl (19, 0), .inl (20, 0), .inl (21, 0)]),
  .inl (0, 5, false, []),
  .inl (0, 20, false, []),
  .inl (0, 20, false, []),
  .inl (0, 20, false, []),
  .inr (1, [.inr (.ref 15), .inr (.ref 16), .inr (.ref 17), .inl (22, 0), .inl (23, 0), .inl (24, 0), .inl (25, 0)]),
  .inl (0, 999, false, []),
  .inl (0, 999, false, []),
  .inl (0, 10, false, []),
  .inr (0, [.inr (.ref 19), .inr (.ref 20), .inr (.ref 21), .inl (26, 0)]),
  .inl (0, 8, false, []),
  .inl (0, 8, false, []),
  .inl (0, 8, false, []),
  .inr (4, [.inr (.ref 23), .inr (.ref 24), .inr (.ref 25), .inl (27, 0)]),
  .inl (0, 6, true, []),
  .inl (0, 6, true, []),
  .inl (0, 6, true, []),
  .inr (2, [.inr (.ref 27), .inr (.ref 31), .inl (28, 0)]),
  .inr (1, [.inr (.ref 28), .inr (.ref 29), .inr (.ref 30), .inl (29, 0), .inl (30, 0), .inl (31, 0), .inl (32, 0)]),
  .inl (0, 999, false, []),
  .inl (0, 999, false, []),
  .inl (0, 10, false, []),
  .inl (0, 20, false, []),
  .inr (2, [.inr (.ref 33), .inr (.ref 37), .inl (33, 0)]),
  .inr (1, [.inr (.ref 34), .inr (.ref 35), .inr (.ref 36), .inl (34, 0), .inl (35, 0), .inl (36, 0), .inl (37, 0)]),
  .inl (0, 999, false, []),
  .inl (0, 999, false, []),
  .inl (0, 10, false, []),
  .inl (0, 20, false, []),
  .inr (3, [.inr (.ref 39), .inr (.ref 40), .inr (.ref 41)]),
  .inl (0, 5, false, []),
  .inl (0, 6, false, []),
  .inl (0, 39, false, []),
  .inr (8, [.inr (.ref 43), .inl (7, 0), .inr (.ref 44), .inr (.ref 45), .inr (.ref 46), .inr (.ref 47), .inr (.ref 48), .inl (38, 0), .inr (.ref 49), .inl (9, 0), .inr (.ref 50), .inl (27, 0), .inl (41, 0), .inr (.ref 51)]),
  .inl (0, 200, true, []),
  .inl (0, 50, true, [(0, .inl (8, 0))]),
  .inl (0, 50, false, [(0, .inl (43, 0))]),
  .inl (0, 75, false, []),
  .inl (0, 75, false, []),
  .inl (0, 600, false, []),
  .inl (0, 150, false, []),
  .inl (0, 6, true, []),
  .inl (0, 75, false, [])]
def lh_p0 : List sx_Pl := [(0, 3, 0), (0, 3, 0), (0, 3, 0), (0, 3, 0), (0, 3, 0), (0, 3, 0), (1, 1, 2), (1, 4, 4), (1, 0, 8), (1, 1, 3), (1, 4, 5), (1, 4, 6), (1, 4, 7), (1, 4, 8), (1, 4, 9), (1, 9, 4), (1, 9, 5), (1, 9, 6), (1, 9, 7), (1, 9, 8), (1, 9, 9), (1, 14, 3), (1, 14, 4), (1, 14, 5), (1, 14, 6), (1, 18, 3), (1, 22, 3), (1, 26, 2), (1, 27, 3), (1, 27, 4), (1, 27, 5), (1, 27, 6), (1, 32, 2), (1, 33, 3), (1, 33, 4), (1, 33, 5), (1, 33, 6), (1, 42, 7), (1, 0, 8), (1, 22, 3), (1, 42, 12), (1, 4, 4), (3, 45, 0)]
def lh_f0 : sx_N := [(7, 0, 200), (8, 0, 5), (9, 0, 2), (10, (-2147483648), 2147483647), (11, (-2147483648), 2147483647), (12, 0, 9), (13, (-2147483648), 2147483647), (14, (-2147483648), 2147483647), (15, (-2147483648), 2147483647), (16, 0, 5), (17, (-2147483648), 2147483647), (18, (-2147483648), 2147483647), (19, (-2147483648), 2147483647), (20, (-2147483648), 2147483647), (21, (-2147483648), 2147483647), (22, 0, 999), (23, (-2147483648), 2147483647), (24, (-2147483648), 2147483647), (25, (-2147483648), 2147483647), (26, 0, 8), (27, 0, 6), (28, (-2147483648), 2147483647), (29, 0, 999), (30, (-2147483648), 2147483647), (31, (-2147483648), 2147483647), (32, (-2147483648), 2147483647), (33, (-2147483648), 2147483647), (34, 0, 999), (35, (-2147483648), 2147483647), (36, (-2147483648), 2147483647), (37, (-2147483648), 2147483647), (38, 0, 8), (39, 0, 2), (40, 0, 6), (41, (-2147483648), 2147483647), (42, 0, 5), (43, 0, 5)]
def lh_w1 : List sx_C := [
  .inr (7, [.inr (.ref 1), .inr (.ref 9), .inr (.ref 4), .inr (.ref 14), .inr (.ref 18), .inr (.ref 22), .inr (.ref 26), .inr (.ref 32), .inl (9, 0), .inr (.ref 38)]),
  .inr (5, [.inr (.ref 2), .inr (.ref 3), .inl (7, 0), .inl (10, 0)]),
  .inl (1, 200, true, []),
  .inl (0, 5, false, []),
  .inr (6, [.inr (.ref 5), .inr (.ref 6), .inr (.ref 7), .inr (.ref 8), .inl (11, 0), .inl (12, 0), .inl (13, 0), .inl (14, 0), .inl (15, 0), .inl (16, 0)]),
  .inl (0, 5, false, []),
  .inl (0, 20, false, []),
  .inl (0, 20, false, []),
  .inl (0, 20, false, []),
  .inr (6, [.inr (.ref 10), .inr (.ref 11), .inr (.ref 12), .inr (.ref 13), .inl (8, 0), .inl (17, 0), .inl (18, 0), .inl (19, 0), .inl (20, 0), .inl (21, 0)]),
  .inl (0, 5, false, []),
  .inl (0, 20, true, []),
  .inl (0, 20, true, []),
  .inl (0, 20, false, []),
  .inr (1, [.inr (.ref 15), .inr (.ref 16), .inr (.ref 17), .inl (22, 0), .inl (23, 0), .inl (24, 0), .inl (25, 0)]),
  .inl (0, 999, false, []),
  .inl (0, 999, false, []),
  .inl (0, 10, false, []),
  .inr (0, [.inr (.ref 19), .inr (.ref 20), .inr (.ref 21), .inl (26, 0)]),
  .inl (0, 8, false, []),
  .inl (0, 8, false, []),
  .inl (0, 8, false, []),
  .inr (4, [.inr (.ref 23), .inr (.ref 24), .inr (.ref 25), .inl (27, 0)]),
  .inl (0, 6, true, []),
  .inl (0, 6, true, []),
  .inl (0, 6, true, []),
  .inr (2, [.inr (.ref 27), .inr (.ref 31), .inl (28, 0)]),
  .inr (1, [.inr (.ref 28), .inr (.ref 29), .inr (.ref 30), .inl (29, 0), .inl (30, 0), .inl (31, 0), .inl (32, 0)]),
  .inl (0, 999, false, []),
  .inl (0, 999, false, []),
  .inl (0, 10, false, []),
  .inl (0, 20, false, []),
  .inr (2, [.inr (.ref 33), .inr (.ref 37), .inl (33, 0)]),
  .inr (1, [.inr (.ref 34), .inr (.ref 35), .inr (.ref 36), .inl (34, 0), .inl (35, 0), .inl (36, 0), .inl (37, 0)]),
  .inl (0, 999, false, []),
  .inl (0, 999, false, []),
  .inl (0, 10, false, []),
  .inl (0, 20, false, []),
  .inr (3, [.inr (.ref 39), .inr (.ref 40), .inr (.ref 41)]),
  .inl (0, 5, false, []),
  .inl (0, 6, false, []),
  .inl (0, 39, false, []),
  .inr (8, [.inr (.ref 43), .inl (7, 0), .inr (.ref 44), .inr (.ref 45), .inr (.ref 46), .inr (.ref 47), .inr (.ref 48), .inl (38, 0), .inr (.ref 49), .inl (9, 0), .inr (.ref 50), .inl (27, 0), .inl (41, 0), .inr (.ref 51)]),
  .inl (0, 200, true, []),
  .inl (0, 50, true, [(0, .inl (8, 0))]),
  .inl (0, 50, false, [(0, .inl (43, 0))]),
  .inl (0, 75, false, []),
  .inl (0, 75, false, []),
  .inl (0, 600, false, []),
  .inl (0, 150, false, []),
  .inl (0, 6, true, []),
  .inl (0, 75, false, [])]
def lh_p1 : List sx_Pl := [(0, 3, 0), (0, 3, 0), (0, 3, 0), (0, 3, 0), (0, 3, 0), (0, 3, 0), (1, 1, 2), (1, 9, 4), (1, 0, 8), (1, 1, 3), (1, 4, 4), (1, 4, 5), (1, 4, 6), (1, 4, 7), (1, 4, 8), (1, 4, 9), (1, 9, 5), (1, 9, 6), (1, 9, 7), (1, 9, 8), (1, 9, 9), (1, 14, 3), (1, 14, 4), (1, 14, 5), (1, 14, 6), (1, 18, 3), (1, 22, 3), (1, 26, 2), (1, 27, 3), (1, 27, 4), (1, 27, 5), (1, 27, 6), (1, 32, 2), (1, 33, 3), (1, 33, 4), (1, 33, 5), (1, 33, 6), (1, 42, 7), (1, 0, 8), (1, 22, 3), (1, 42, 12), (1, 9, 4), (3, 45, 0)]
def lh_f1 : sx_N := [(7, 0, 200), (8, 0, 5), (9, 0, 2), (10, (-2147483648), 2147483647), (11, 0, 5), (12, (-2147483648), 2147483647), (13, (-2147483648), 2147483647), (14, (-2147483648), 2147483647), (15, (-2147483648), 2147483647), (16, (-2147483648), 2147483647), (17, (-2147483648), 2147483647), (18, 0, 9), (19, (-2147483648), 2147483647), (20, (-2147483648), 2147483647), (21, (-2147483648), 2147483647), (22, 0, 999), (23, (-2147483648), 2147483647), (24, (-2147483648), 2147483647), (25, (-2147483648), 2147483647), (26, 0, 8), (27, 0, 6), (28, (-2147483648), 2147483647), (29, 0, 999), (30, (-2147483648), 2147483647), (31, (-2147483648), 2147483647), (32, (-2147483648), 2147483647), (33, (-2147483648), 2147483647), (34, 0, 999), (35, (-2147483648), 2147483647), (36, (-2147483648), 2147483647), (37, (-2147483648), 2147483647), (38, 0, 8), (39, 0, 2), (40, 0, 6), (41, (-2147483648), 2147483647), (42, 0, 5), (43, 0, 5)]
def lh_i : sx_N := [(1, 0, 400), (2, 0, 400), (3, 0, 400), (4, 0, 400), (5, 0, 400), (6, 0, 400)]
def lh_j : sx_N := [(1, 0, 395), (2, (-2147483648), 2147483647), (3, (-2147483648), 2147483647), (4, (-2147483648), 2147483647), (5, (-2147483648), 2147483647), (6, (-2147483648), 2147483647)]
def lh_n : Nat := 44
def lh_p : Bool → List sx_Pl
  | false => lh_p0
  | true => lh_p1
def lh_l : sx_L := [(0, .inr (.retAddr 3)), (1, .inr (.ref 0)), (2, .inr (.ref 42)), (3, .inl (1, 0))]
def lh_w : Bool → List sx_C
  | false => lh_w0
  | true => lh_w1
def lh_f : Bool → sx_N
  | false => lh_f0
  | true => lh_f1
def lh_e (v : Bool) : sx_N := lh_f v ++ lh_i
def lh_b (v : Bool) : sx_N := lh_f v ++ lh_j
/-- the head of the loop; between the two calls of a case; at a case -/
def lh_h (v : Bool) (dir : Int) : sx_H := (18, 1, (lh_p v), lh_e v, lh_n, [], lh_l, lh_w v, 1, dir, 0, 400, 52, 7858)
def lh_m (pc : Nat) (v : Bool) : sx_H := (pc, 7, (lh_p v).drop 6, lh_f v, lh_n, lh_j, lh_l, lh_w v, 1, 0, 0, 400, 52, 7858)
def lh_c (v : Bool) (pc : Nat) : sx_H := (pc, lh_n, [], [], lh_n, lh_b v, lh_l, lh_w v, 1, 0, 0, 400, 52, 7858)
def lh_a (pc : Nat) : List (Nat × sx_An) := [(pc, .inl ([], 0, 1))]
def lh_k : sx_O → Bool := fun o => decide (o.2.2.1 = some (.inl (0, 1)))
def lh_x : pm_X := (mm_L, 0, 0, mk_L)
