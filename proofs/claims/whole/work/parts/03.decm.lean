theorem dX2_init_0 : decode cX2_init 0 = .ok (.aload_n 0, 1) := by decide +kernel
theorem dX2_init_1 : decode cX2_init 1 = .ok (.invokespecial 1, 3) := by decide +kernel
theorem dX2_init_4 : decode cX2_init 4 = .ok (.aload_n 0, 1) := by decide +kernel
theorem dX2_init_5 : decode cX2_init 5 = .ok (.bipush 60, 2) := by decide +kernel
theorem dX2_init_7 : decode cX2_init 7 = .ok (.newarray .int, 2) := by decide +kernel
theorem dX2_init_9 : decode cX2_init 9 = .ok (.putfield 7, 3) := by decide +kernel
theorem dX2_init_12 : decode cX2_init 12 = .ok (.aload_n 0, 1) := by decide +kernel
theorem dX2_init_13 : decode cX2_init 13 = .ok (.bipush 60, 2) := by decide +kernel
theorem dX2_init_15 : decode cX2_init 15 = .ok (.newarray .int, 2) := by decide +kernel
theorem dX2_init_17 : decode cX2_init 17 = .ok (.putfield 13, 3) := by decide +kernel
theorem dX2_init_20 : decode cX2_init 20 = .ok (.aload_n 0, 1) := by decide +kernel
theorem dX2_init_21 : decode cX2_init 21 = .ok (.bipush 60, 2) := by decide +kernel
theorem dX2_init_23 : decode cX2_init 23 = .ok (.newarray .boolean, 2) := by decide +kernel
theorem dX2_init_25 : decode cX2_init 25 = .ok (.putfield 16, 3) := by decide +kernel
theorem dX2_init_28 : decode cX2_init 28 = .ok (.aload_n 0, 1) := by decide +kernel
theorem dX2_init_29 : decode cX2_init 29 = .ok (.sipush 480, 3) := by decide +kernel
theorem dX2_init_32 : decode cX2_init 32 = .ok (.newarray .long, 2) := by decide +kernel
theorem dX2_init_34 : decode cX2_init 34 = .ok (.putfield 20, 3) := by decide +kernel
theorem dX2_init_37 : decode cX2_init 37 = .ok (.aload_n 0, 1) := by decide +kernel
theorem dX2_init_38 : decode cX2_init 38 = .ok (.bipush 12, 2) := by decide +kernel
theorem dX2_init_40 : decode cX2_init 40 = .ok (.newarray .int, 2) := by decide +kernel
theorem dX2_init_42 : decode cX2_init 42 = .ok (.putfield 24, 3) := by decide +kernel
theorem dX2_init_45 : decode cX2_init 45 = .ok (.aload_n 0, 1) := by decide +kernel
theorem dX2_init_46 : decode cX2_init 46 = .ok (.iconst (-1), 1) := by decide +kernel
theorem dX2_init_47 : decode cX2_init 47 = .ok (.putfield 27, 3) := by decide +kernel
theorem dX2_init_50 : decode cX2_init 50 = .ok (.aload_n 0, 1) := by decide +kernel
theorem dX2_init_51 : decode cX2_init 51 = .ok (.iconst (-1), 1) := by decide +kernel
theorem dX2_init_52 : decode cX2_init 52 = .ok (.putfield 31, 3) := by decide +kernel
theorem dX2_init_55 : decode cX2_init 55 = .ok (.iconst 0, 1) := by decide +kernel
theorem dX2_init_56 : decode cX2_init 56 = .ok (.istore_n 1, 1) := by decide +kernel
theorem dX2_init_57 : decode cX2_init 57 = .ok (.iload_n 1, 1) := by decide +kernel
theorem dX2_init_58 : decode cX2_init 58 = .ok (.bipush 12, 2) := by decide +kernel
theorem dX2_init_60 : decode cX2_init 60 = .ok (.if_icmp .ge 16, 3) := by decide +kernel
theorem dX2_init_63 : decode cX2_init 63 = .ok (.aload_n 0, 1) := by decide +kernel
theorem dX2_init_64 : decode cX2_init 64 = .ok (.getfield 24, 3) := by decide +kernel
theorem dX2_init_67 : decode cX2_init 67 = .ok (.iload_n 1, 1) := by decide +kernel
theorem dX2_init_68 : decode cX2_init 68 = .ok (.iconst (-1), 1) := by decide +kernel
theorem dX2_init_69 : decode cX2_init 69 = .ok (.iastore, 1) := by decide +kernel
theorem dX2_init_70 : decode cX2_init 70 = .ok (.iinc 1 1, 3) := by decide +kernel
theorem dX2_init_73 : decode cX2_init 73 = .ok (.goto (-16), 3) := by decide +kernel
theorem dX2_init_76 : decode cX2_init 76 = .ok (.return_, 1) := by decide +kernel
theorem dX2_isIn_0 : decode cX2_isIn 0 = .ok (.iload_n 0, 1) := by decide +kernel
theorem dX2_isIn_1 : decode cX2_isIn 1 = .ok (.iload_n 1, 1) := by decide +kernel
theorem dX2_isIn_2 : decode cX2_isIn 2 = .ok (.if_icmp .lt 12, 3) := by decide +kernel
theorem dX2_isIn_5 : decode cX2_isIn 5 = .ok (.iload_n 0, 1) := by decide +kernel
theorem dX2_isIn_6 : decode cX2_isIn 6 = .ok (.iload_n 2, 1) := by decide +kernel
theorem dX2_isIn_7 : decode cX2_isIn 7 = .ok (.if_icmp .gt 7, 3) := by decide +kernel
theorem dX2_isIn_10 : decode cX2_isIn 10 = .ok (.iconst 1, 1) := by decide +kernel
theorem dX2_isIn_11 : decode cX2_isIn 11 = .ok (.goto 4, 3) := by decide +kernel
theorem dX2_isIn_14 : decode cX2_isIn 14 = .ok (.iconst 0, 1) := by decide +kernel
theorem dX2_isIn_15 : decode cX2_isIn 15 = .ok (.ireturn, 1) := by decide +kernel
set_option maxRecDepth 20000 in
theorem ggX2_isSlot_X2_isIn : GoodIn wsX2_isSlot wsX2_isIn := goodIn_r _ [4] (by decide +kernel) (by decide +kernel)
set_option maxRecDepth 20000 in
theorem gX2_isSlot_X2_isIn : GoodIn wsX2_isSlot (va_wsS RX2 34 yX2_isIn wsX2_isIn) := goodIn_app (goodIn_of _ (by decide +kernel)) ggX2_isSlot_X2_isIn
theorem dX2_isSlot_0 : decode cX2_isSlot 0 = .ok (.iload_n 0, 1) := by decide +kernel
theorem dX2_isSlot_1 : decode cX2_isSlot 1 = .ok (.iconst 0, 1) := by decide +kernel
theorem dX2_isSlot_2 : decode cX2_isSlot 2 = .ok (.bipush 11, 2) := by decide +kernel
theorem dX2_isSlot_4 : decode cX2_isSlot 4 = .ok (.invokestatic 34, 3) := by decide +kernel
theorem dX2_isSlot_7 : decode cX2_isSlot 7 = .ok (.ireturn, 1) := by decide +kernel
theorem dX2_goes_0 : decode cX2_goes 0 = .ok (.iload_n 1, 1) := by decide +kernel
theorem dX2_goes_1 : decode cX2_goes 1 = .ok (.iload_n 0, 1) := by decide +kernel
theorem dX2_goes_2 : decode cX2_goes 2 = .ok (.if_icmp .ne 5, 3) := by decide +kernel
theorem dX2_goes_5 : decode cX2_goes 5 = .ok (.iconst 1, 1) := by decide +kernel
theorem dX2_goes_6 : decode cX2_goes 6 = .ok (.ireturn, 1) := by decide +kernel
theorem dX2_goes_7 : decode cX2_goes 7 = .ok (.iload_n 0, 1) := by decide +kernel
theorem dX2_goes_8 : decode cX2_goes 8 = .ok (.tableswitch 119 4 11 #[95, 78, 119, 119, 107, 66, 48, 66], 48) := by decide +kernel
theorem dX2_goes_56 : decode cX2_goes 56 = .ok (.iload_n 1, 1) := by decide +kernel
theorem dX2_goes_57 : decode cX2_goes 57 = .ok (.bipush 9, 2) := by decide +kernel
theorem dX2_goes_59 : decode cX2_goes 59 = .ok (.if_icmp .eq 9, 3) := by decide +kernel
theorem dX2_goes_62 : decode cX2_goes 62 = .ok (.iload_n 1, 1) := by decide +kernel
theorem dX2_goes_63 : decode cX2_goes 63 = .ok (.bipush 12, 2) := by decide +kernel
theorem dX2_goes_65 : decode cX2_goes 65 = .ok (.if_icmp .ne 7, 3) := by decide +kernel
theorem dX2_goes_68 : decode cX2_goes 68 = .ok (.iconst 1, 1) := by decide +kernel
theorem dX2_goes_69 : decode cX2_goes 69 = .ok (.goto 4, 3) := by decide +kernel
theorem dX2_goes_72 : decode cX2_goes 72 = .ok (.iconst 0, 1) := by decide +kernel
theorem dX2_goes_73 : decode cX2_goes 73 = .ok (.ireturn, 1) := by decide +kernel
theorem dX2_goes_74 : decode cX2_goes 74 = .ok (.iload_n 1, 1) := by decide +kernel
theorem dX2_goes_75 : decode cX2_goes 75 = .ok (.bipush 12, 2) := by decide +kernel
theorem dX2_goes_77 : decode cX2_goes 77 = .ok (.if_icmp .ne 7, 3) := by decide +kernel
theorem dX2_goes_80 : decode cX2_goes 80 = .ok (.iconst 1, 1) := by decide +kernel
theorem dX2_goes_81 : decode cX2_goes 81 = .ok (.goto 4, 3) := by decide +kernel
theorem dX2_goes_84 : decode cX2_goes 84 = .ok (.iconst 0, 1) := by decide +kernel
theorem dX2_goes_85 : decode cX2_goes 85 = .ok (.ireturn, 1) := by decide +kernel
theorem dX2_goes_86 : decode cX2_goes 86 = .ok (.iload_n 1, 1) := by decide +kernel
theorem dX2_goes_87 : decode cX2_goes 87 = .ok (.iconst 4, 1) := by decide +kernel
theorem dX2_goes_88 : decode cX2_goes 88 = .ok (.if_icmp .eq 9, 3) := by decide +kernel
theorem dX2_goes_91 : decode cX2_goes 91 = .ok (.iload_n 1, 1) := by decide +kernel
theorem dX2_goes_92 : decode cX2_goes 92 = .ok (.bipush 6, 2) := by decide +kernel
theorem dX2_goes_94 : decode cX2_goes 94 = .ok (.if_icmp .ne 7, 3) := by decide +kernel
theorem dX2_goes_97 : decode cX2_goes 97 = .ok (.iconst 1, 1) := by decide +kernel
theorem dX2_goes_98 : decode cX2_goes 98 = .ok (.goto 4, 3) := by decide +kernel
theorem dX2_goes_101 : decode cX2_goes 101 = .ok (.iconst 0, 1) := by decide +kernel
theorem dX2_goes_102 : decode cX2_goes 102 = .ok (.ireturn, 1) := by decide +kernel
theorem dX2_goes_103 : decode cX2_goes 103 = .ok (.iload_n 1, 1) := by decide +kernel
theorem dX2_goes_104 : decode cX2_goes 104 = .ok (.bipush 6, 2) := by decide +kernel
theorem dX2_goes_106 : decode cX2_goes 106 = .ok (.if_icmp .ne 7, 3) := by decide +kernel
theorem dX2_goes_109 : decode cX2_goes 109 = .ok (.iconst 1, 1) := by decide +kernel
theorem dX2_goes_110 : decode cX2_goes 110 = .ok (.goto 4, 3) := by decide +kernel
theorem dX2_goes_113 : decode cX2_goes 113 = .ok (.iconst 0, 1) := by decide +kernel
theorem dX2_goes_114 : decode cX2_goes 114 = .ok (.ireturn, 1) := by decide +kernel
theorem dX2_goes_115 : decode cX2_goes 115 = .ok (.iload_n 1, 1) := by decide +kernel
theorem dX2_goes_116 : decode cX2_goes 116 = .ok (.bipush 7, 2) := by decide +kernel
theorem dX2_goes_118 : decode cX2_goes 118 = .ok (.if_icmp .ne 7, 3) := by decide +kernel
theorem dX2_goes_121 : decode cX2_goes 121 = .ok (.iconst 1, 1) := by decide +kernel
theorem dX2_goes_122 : decode cX2_goes 122 = .ok (.goto 4, 3) := by decide +kernel
theorem dX2_goes_125 : decode cX2_goes 125 = .ok (.iconst 0, 1) := by decide +kernel
theorem dX2_goes_126 : decode cX2_goes 126 = .ok (.ireturn, 1) := by decide +kernel
theorem dX2_goes_127 : decode cX2_goes 127 = .ok (.iconst 0, 1) := by decide +kernel
theorem dX2_goes_128 : decode cX2_goes 128 = .ok (.ireturn, 1) := by decide +kernel
set_option maxRecDepth 20000 in
theorem ggX2_fitsAt_X2_goes : GoodIn wsX2_fitsAt wsX2_goes := goodIn_r _ [6] (by decide +kernel) (by decide +kernel)
set_option maxRecDepth 20000 in
theorem gX2_fitsAt_X2_goes : GoodIn wsX2_fitsAt (va_wsS RX2 38 yX2_goes wsX2_goes) := goodIn_app (goodIn_of _ (by decide +kernel)) ggX2_fitsAt_X2_goes
theorem dX2_fitsAt_0 : decode cX2_fitsAt 0 = .ok (.aload_n 0, 1) := by decide +kernel
theorem dX2_fitsAt_1 : decode cX2_fitsAt 1 = .ok (.getfield 24, 3) := by decide +kernel
theorem dX2_fitsAt_4 : decode cX2_fitsAt 4 = .ok (.iload_n 1, 1) := by decide +kernel
theorem dX2_fitsAt_5 : decode cX2_fitsAt 5 = .ok (.iaload, 1) := by decide +kernel
theorem dX2_fitsAt_6 : decode cX2_fitsAt 6 = .ok (.iconst (-1), 1) := by decide +kernel
theorem dX2_fitsAt_7 : decode cX2_fitsAt 7 = .ok (.if_icmp .eq 25, 3) := by decide +kernel
theorem dX2_fitsAt_10 : decode cX2_fitsAt 10 = .ok (.aload_n 0, 1) := by decide +kernel
theorem dX2_fitsAt_11 : decode cX2_fitsAt 11 = .ok (.getfield 7, 3) := by decide +kernel
theorem dX2_fitsAt_14 : decode cX2_fitsAt 14 = .ok (.aload_n 0, 1) := by decide +kernel
theorem dX2_fitsAt_15 : decode cX2_fitsAt 15 = .ok (.getfield 24, 3) := by decide +kernel
theorem dX2_fitsAt_18 : decode cX2_fitsAt 18 = .ok (.iload_n 1, 1) := by decide +kernel
theorem dX2_fitsAt_19 : decode cX2_fitsAt 19 = .ok (.iaload, 1) := by decide +kernel
theorem dX2_fitsAt_20 : decode cX2_fitsAt 20 = .ok (.iaload, 1) := by decide +kernel
theorem dX2_fitsAt_21 : decode cX2_fitsAt 21 = .ok (.iload_n 2, 1) := by decide +kernel
theorem dX2_fitsAt_22 : decode cX2_fitsAt 22 = .ok (.invokestatic 38, 3) := by decide +kernel
theorem dX2_fitsAt_25 : decode cX2_fitsAt 25 = .ok (.ifCond .eq 7, 3) := by decide +kernel
theorem dX2_fitsAt_28 : decode cX2_fitsAt 28 = .ok (.iconst 1, 1) := by decide +kernel
theorem dX2_fitsAt_29 : decode cX2_fitsAt 29 = .ok (.goto 4, 3) := by decide +kernel
theorem dX2_fitsAt_32 : decode cX2_fitsAt 32 = .ok (.iconst 0, 1) := by decide +kernel
theorem dX2_fitsAt_33 : decode cX2_fitsAt 33 = .ok (.ireturn, 1) := by decide +kernel
set_option maxRecDepth 20000 in
theorem ggX2_holdsThings_X2_isIn : GoodIn wsX2_holdsThings wsX2_isIn := goodIn_r _ [4] (by decide +kernel) (by decide +kernel)
set_option maxRecDepth 20000 in
theorem gX2_holdsThings_X2_isIn : GoodIn wsX2_holdsThings (va_wsS RX2 34 yX2_isIn wsX2_isIn) := goodIn_app (goodIn_of _ (by decide +kernel)) ggX2_holdsThings_X2_isIn
theorem dX2_holdsThings_0 : decode cX2_holdsThings 0 = .ok (.iload_n 0, 1) := by decide +kernel
theorem dX2_holdsThings_1 : decode cX2_holdsThings 1 = .ok (.iconst 3, 1) := by decide +kernel
theorem dX2_holdsThings_2 : decode cX2_holdsThings 2 = .ok (.bipush 8, 2) := by decide +kernel
theorem dX2_holdsThings_4 : decode cX2_holdsThings 4 = .ok (.invokestatic 34, 3) := by decide +kernel
theorem dX2_holdsThings_7 : decode cX2_holdsThings 7 = .ok (.ireturn, 1) := by decide +kernel
theorem dX2_fails_0 : decode cX2_fails 0 = .ok (.aload_n 0, 1) := by decide +kernel
theorem dX2_fails_1 : decode cX2_fails 1 = .ok (.iload_n 1, 1) := by decide +kernel
theorem dX2_fails_2 : decode cX2_fails 2 = .ok (.putfield 42, 3) := by decide +kernel
theorem dX2_fails_5 : decode cX2_fails 5 = .ok (.iconst 0, 1) := by decide +kernel
theorem dX2_fails_6 : decode cX2_fails 6 = .ok (.ireturn, 1) := by decide +kernel
theorem dX2_turn_0 : decode cX2_turn 0 = .ok (.aload_n 0, 1) := by decide +kernel
theorem dX2_turn_1 : decode cX2_turn 1 = .ok (.dup, 1) := by decide +kernel
theorem dX2_turn_2 : decode cX2_turn 2 = .ok (.getfield 45, 3) := by decide +kernel
theorem dX2_turn_5 : decode cX2_turn 5 = .ok (.iconst 1, 1) := by decide +kernel
theorem dX2_turn_6 : decode cX2_turn 6 = .ok (.iadd, 1) := by decide +kernel
theorem dX2_turn_7 : decode cX2_turn 7 = .ok (.putfield 45, 3) := by decide +kernel
theorem dX2_turn_10 : decode cX2_turn 10 = .ok (.aload_n 0, 1) := by decide +kernel
theorem dX2_turn_11 : decode cX2_turn 11 = .ok (.iload_n 1, 1) := by decide +kernel
theorem dX2_turn_12 : decode cX2_turn 12 = .ok (.putfield 27, 3) := by decide +kernel
theorem dX2_turn_15 : decode cX2_turn 15 = .ok (.aload_n 0, 1) := by decide +kernel
theorem dX2_turn_16 : decode cX2_turn 16 = .ok (.iload_n 2, 1) := by decide +kernel
theorem dX2_turn_17 : decode cX2_turn 17 = .ok (.putfield 31, 3) := by decide +kernel
theorem dX2_turn_20 : decode cX2_turn 20 = .ok (.return_, 1) := by decide +kernel
set_option maxRecDepth 20000 in
theorem ggX2_turns_X2_turn : GoodIn wsX2_turns wsX2_turn := goodIn_r _ [5, 6, 7, 8, 14, 15, 16, 17, 18, 19, 20, 21, 22, 23] (by decide +kernel) (by decide +kernel)
set_option maxRecDepth 20000 in
theorem gX2_turns_X2_turn : GoodIn wsX2_turns (wsV RX2 48 RX2 yX2_turn wsX2_turn) := goodIn_app (goodIn_of _ (by decide +kernel)) ggX2_turns_X2_turn
set_option maxRecDepth 20000 in
theorem ggX2_turns_X2_fails : GoodIn wsX2_turns wsX2_fails := goodIn_r _ [12, 13, 14, 15, 16, 17, 18, 19, 20, 21, 22, 23] (by decide +kernel) (by decide +kernel)
set_option maxRecDepth 20000 in
theorem gX2_turns_X2_fails : GoodIn wsX2_turns (wsV RX2 52 RX2 yX2_fails wsX2_fails) := goodIn_app (goodIn_of _ (by decide +kernel)) ggX2_turns_X2_fails
theorem dX2_turns_0 : decode cX2_turns 0 = .ok (.aload_n 0, 1) := by decide +kernel
theorem dX2_turns_1 : decode cX2_turns 1 = .ok (.iload_n 1, 1) := by decide +kernel
theorem dX2_turns_2 : decode cX2_turns 2 = .ok (.iload_n 2, 1) := by decide +kernel
theorem dX2_turns_3 : decode cX2_turns 3 = .ok (.invokevirtual 48, 3) := by decide +kernel
theorem dX2_turns_6 : decode cX2_turns 6 = .ok (.aload_n 0, 1) := by decide +kernel
theorem dX2_turns_7 : decode cX2_turns 7 = .ok (.iconst 1, 1) := by decide +kernel
theorem dX2_turns_8 : decode cX2_turns 8 = .ok (.invokevirtual 52, 3) := by decide +kernel
theorem dX2_turns_11 : decode cX2_turns 11 = .ok (.ireturn, 1) := by decide +kernel
theorem dX2_bad_0 : decode cX2_bad 0 = .ok (.aload_n 0, 1) := by decide +kernel
theorem dX2_bad_1 : decode cX2_bad 1 = .ok (.iconst 0, 1) := by decide +kernel
theorem dX2_bad_2 : decode cX2_bad 2 = .ok (.putfield 42, 3) := by decide +kernel
theorem dX2_bad_5 : decode cX2_bad 5 = .ok (.bipush (-2), 2) := by decide +kernel
theorem dX2_bad_7 : decode cX2_bad 7 = .ok (.ireturn, 1) := by decide +kernel
set_option maxRecDepth 20000 in
theorem ggX2_make_X2_isIn : GoodIn wsX2_make wsX2_isIn := goodIn_r _ [13] (by decide +kernel) (by decide +kernel)
set_option maxRecDepth 20000 in
theorem gX2_make_X2_isIn : GoodIn wsX2_make (va_wsS RX2 34 yX2_isIn wsX2_isIn) := goodIn_app (goodIn_of _ (by decide +kernel)) ggX2_make_X2_isIn
set_option maxRecDepth 20000 in
theorem ggX2_make_X2_isSlot : GoodIn wsX2_make wsX2_isSlot := goodIn_r _ [16, 10, 11, 12, 13] (by decide +kernel) (by decide +kernel)
set_option maxRecDepth 20000 in
theorem gX2_make_X2_isSlot : GoodIn wsX2_make (va_wsS RX2 57 yX2_isSlot wsX2_isSlot) := goodIn_app (goodIn_of _ (by decide +kernel)) ggX2_make_X2_isSlot
set_option maxRecDepth 20000 in
theorem ggX2_make_X2_holdsThings : GoodIn wsX2_make wsX2_holdsThings := goodIn_r _ [19, 10, 11, 12, 13] (by decide +kernel) (by decide +kernel)
set_option maxRecDepth 20000 in
theorem gX2_make_X2_holdsThings : GoodIn wsX2_make (va_wsS RX2 64 yX2_holdsThings wsX2_holdsThings) := goodIn_app (goodIn_of _ (by decide +kernel)) ggX2_make_X2_holdsThings
theorem dX2_make_0 : decode cX2_make 0 = .ok (.aload_n 0, 1) := by decide +kernel
theorem dX2_make_1 : decode cX2_make 1 = .ok (.iconst 0, 1) := by decide +kernel
theorem dX2_make_2 : decode cX2_make 2 = .ok (.putfield 42, 3) := by decide +kernel
theorem dX2_make_5 : decode cX2_make 5 = .ok (.iload_n 1, 1) := by decide +kernel
theorem dX2_make_6 : decode cX2_make 6 = .ok (.iconst 0, 1) := by decide +kernel
theorem dX2_make_7 : decode cX2_make 7 = .ok (.bipush 11, 2) := by decide +kernel
theorem dX2_make_9 : decode cX2_make 9 = .ok (.invokestatic 34, 3) := by decide +kernel
theorem dX2_make_12 : decode cX2_make 12 = .ok (.ifCond .eq 31, 3) := by decide +kernel
theorem dX2_make_15 : decode cX2_make 15 = .ok (.iload_n 2, 1) := by decide +kernel
theorem dX2_make_16 : decode cX2_make 16 = .ok (.iconst 0, 1) := by decide +kernel
theorem dX2_make_17 : decode cX2_make 17 = .ok (.iload_n 1, 1) := by decide +kernel
theorem dX2_make_18 : decode cX2_make 18 = .ok (.bipush 9, 2) := by decide +kernel
theorem dX2_make_20 : decode cX2_make 20 = .ok (.if_icmp .ge 8, 3) := by decide +kernel
theorem dX2_make_23 : decode cX2_make 23 = .ok (.bipush 8, 2) := by decide +kernel
theorem dX2_make_25 : decode cX2_make 25 = .ok (.goto 5, 3) := by decide +kernel
theorem dX2_make_28 : decode cX2_make 28 = .ok (.ldc 56, 2) := by decide +kernel
theorem dX2_make_30 : decode cX2_make 30 = .ok (.invokestatic 34, 3) := by decide +kernel
theorem dX2_make_33 : decode cX2_make 33 = .ok (.ifCond .eq 10, 3) := by decide +kernel
theorem dX2_make_36 : decode cX2_make 36 = .ok (.iload_n 3, 1) := by decide +kernel
theorem dX2_make_37 : decode cX2_make 37 = .ok (.invokestatic 57, 3) := by decide +kernel
theorem dX2_make_40 : decode cX2_make 40 = .ok (.ifCond .ne 6, 3) := by decide +kernel
theorem dX2_make_43 : decode cX2_make 43 = .ok (.bipush (-2), 2) := by decide +kernel
theorem dX2_make_45 : decode cX2_make 45 = .ok (.ireturn, 1) := by decide +kernel
theorem dX2_make_46 : decode cX2_make 46 = .ok (.aload_n 0, 1) := by decide +kernel
theorem dX2_make_47 : decode cX2_make 47 = .ok (.getfield 61, 3) := by decide +kernel
theorem dX2_make_50 : decode cX2_make 50 = .ok (.bipush 60, 2) := by decide +kernel
theorem dX2_make_52 : decode cX2_make 52 = .ok (.if_icmp .ne 6, 3) := by decide +kernel
theorem dX2_make_55 : decode cX2_make 55 = .ok (.bipush (-3), 2) := by decide +kernel
theorem dX2_make_57 : decode cX2_make 57 = .ok (.ireturn, 1) := by decide +kernel
theorem dX2_make_58 : decode cX2_make 58 = .ok (.aload_n 0, 1) := by decide +kernel
theorem dX2_make_59 : decode cX2_make 59 = .ok (.getfield 7, 3) := by decide +kernel
theorem dX2_make_62 : decode cX2_make 62 = .ok (.aload_n 0, 1) := by decide +kernel
theorem dX2_make_63 : decode cX2_make 63 = .ok (.getfield 61, 3) := by decide +kernel
theorem dX2_make_66 : decode cX2_make 66 = .ok (.iload_n 1, 1) := by decide +kernel
theorem dX2_make_67 : decode cX2_make 67 = .ok (.iastore, 1) := by decide +kernel
theorem dX2_make_68 : decode cX2_make 68 = .ok (.aload_n 0, 1) := by decide +kernel
theorem dX2_make_69 : decode cX2_make 69 = .ok (.getfield 13, 3) := by decide +kernel
theorem dX2_make_72 : decode cX2_make 72 = .ok (.aload_n 0, 1) := by decide +kernel
theorem dX2_make_73 : decode cX2_make 73 = .ok (.getfield 61, 3) := by decide +kernel
theorem dX2_make_76 : decode cX2_make 76 = .ok (.iload_n 2, 1) := by decide +kernel
theorem dX2_make_77 : decode cX2_make 77 = .ok (.iastore, 1) := by decide +kernel
theorem dX2_make_78 : decode cX2_make 78 = .ok (.aload_n 0, 1) := by decide +kernel
theorem dX2_make_79 : decode cX2_make 79 = .ok (.getfield 16, 3) := by decide +kernel
theorem dX2_make_82 : decode cX2_make 82 = .ok (.aload_n 0, 1) := by decide +kernel
theorem dX2_make_83 : decode cX2_make 83 = .ok (.getfield 61, 3) := by decide +kernel
theorem dX2_make_86 : decode cX2_make 86 = .ok (.iconst 0, 1) := by decide +kernel
theorem dX2_make_87 : decode cX2_make 87 = .ok (.bastore, 1) := by decide +kernel
theorem dX2_make_88 : decode cX2_make 88 = .ok (.iconst 0, 1) := by decide +kernel
theorem dX2_make_89 : decode cX2_make 89 = .ok (.istore 4, 2) := by decide +kernel
theorem dX2_make_91 : decode cX2_make 91 = .ok (.iload 4, 2) := by decide +kernel
theorem dX2_make_93 : decode cX2_make 93 = .ok (.bipush 8, 2) := by decide +kernel
theorem dX2_make_95 : decode cX2_make 95 = .ok (.if_icmp .ge 38, 3) := by decide +kernel
theorem dX2_make_98 : decode cX2_make 98 = .ok (.aload_n 0, 1) := by decide +kernel
theorem dX2_make_99 : decode cX2_make 99 = .ok (.getfield 20, 3) := by decide +kernel
theorem dX2_make_102 : decode cX2_make 102 = .ok (.bipush 8, 2) := by decide +kernel
theorem dX2_make_104 : decode cX2_make 104 = .ok (.aload_n 0, 1) := by decide +kernel
theorem dX2_make_105 : decode cX2_make 105 = .ok (.getfield 61, 3) := by decide +kernel
theorem dX2_make_108 : decode cX2_make 108 = .ok (.imul, 1) := by decide +kernel
theorem dX2_make_109 : decode cX2_make 109 = .ok (.iload 4, 2) := by decide +kernel
theorem dX2_make_111 : decode cX2_make 111 = .ok (.iadd, 1) := by decide +kernel
theorem dX2_make_112 : decode cX2_make 112 = .ok (.iload_n 1, 1) := by decide +kernel
theorem dX2_make_113 : decode cX2_make 113 = .ok (.invokestatic 64, 3) := by decide +kernel
theorem dX2_make_116 : decode cX2_make 116 = .ok (.ifCond .eq 9, 3) := by decide +kernel
theorem dX2_make_119 : decode cX2_make 119 = .ok (.ldc2_w 67, 3) := by decide +kernel
theorem dX2_make_122 : decode cX2_make 122 = .ok (.goto 4, 3) := by decide +kernel
theorem dX2_make_125 : decode cX2_make 125 = .ok (.lconst 0, 1) := by decide +kernel
theorem dX2_make_126 : decode cX2_make 126 = .ok (.lastore, 1) := by decide +kernel
theorem dX2_make_127 : decode cX2_make 127 = .ok (.iinc 4 1, 3) := by decide +kernel
theorem dX2_make_130 : decode cX2_make 130 = .ok (.goto (-39), 3) := by decide +kernel
theorem dX2_make_133 : decode cX2_make 133 = .ok (.aload_n 0, 1) := by decide +kernel
theorem dX2_make_134 : decode cX2_make 134 = .ok (.getfield 24, 3) := by decide +kernel
theorem dX2_make_137 : decode cX2_make 137 = .ok (.iload_n 3, 1) := by decide +kernel
theorem dX2_make_138 : decode cX2_make 138 = .ok (.aload_n 0, 1) := by decide +kernel
theorem dX2_make_139 : decode cX2_make 139 = .ok (.getfield 61, 3) := by decide +kernel
theorem dX2_make_142 : decode cX2_make 142 = .ok (.iastore, 1) := by decide +kernel
theorem dX2_make_143 : decode cX2_make 143 = .ok (.aload_n 0, 1) := by decide +kernel
theorem dX2_make_144 : decode cX2_make 144 = .ok (.dup, 1) := by decide +kernel
theorem dX2_make_145 : decode cX2_make 145 = .ok (.getfield 61, 3) := by decide +kernel
theorem dX2_make_148 : decode cX2_make 148 = .ok (.iconst 1, 1) := by decide +kernel
theorem dX2_make_149 : decode cX2_make 149 = .ok (.iadd, 1) := by decide +kernel
theorem dX2_make_150 : decode cX2_make 150 = .ok (.putfield 61, 3) := by decide +kernel
theorem dX2_make_153 : decode cX2_make 153 = .ok (.aload_n 0, 1) := by decide +kernel
theorem dX2_make_154 : decode cX2_make 154 = .ok (.getfield 61, 3) := by decide +kernel
theorem dX2_make_157 : decode cX2_make 157 = .ok (.iconst 1, 1) := by decide +kernel
theorem dX2_make_158 : decode cX2_make 158 = .ok (.isub, 1) := by decide +kernel
theorem dX2_make_159 : decode cX2_make 159 = .ok (.ireturn, 1) := by decide +kernel
set_option maxRecDepth 20000 in
theorem ggX2_fits_X2_isSlot : GoodIn wsX2_fits wsX2_isSlot := goodIn_r _ [5, 6, 7, 4, 8] (by decide +kernel) (by decide +kernel)
set_option maxRecDepth 20000 in
theorem gX2_fits_X2_isSlot : GoodIn wsX2_fits (va_wsS RX2 57 yX2_isSlot wsX2_isSlot) := goodIn_app (goodIn_of _ (by decide +kernel)) ggX2_fits_X2_isSlot
set_option maxRecDepth 20000 in
theorem ggX2_fits_X2_isIn : GoodIn wsX2_fits wsX2_isIn := goodIn_r _ [8] (by decide +kernel) (by decide +kernel)
set_option maxRecDepth 20000 in
theorem gX2_fits_X2_isIn : GoodIn wsX2_fits (va_wsS RX2 34 yX2_isIn wsX2_isIn) := goodIn_app (goodIn_of _ (by decide +kernel)) ggX2_fits_X2_isIn
set_option maxRecDepth 20000 in
theorem ggX2_fits_X2_fitsAt : GoodIn wsX2_fits wsX2_fitsAt := goodIn_r _ [12, 13, 14, 15, 16, 4, 17, 18, 19, 20, 21, 22, 23, 24, 25, 26, 27] (by decide +kernel) (by decide +kernel)
set_option maxRecDepth 20000 in
theorem gX2_fits_X2_fitsAt : GoodIn wsX2_fits (wsV RX2 69 RX2 yX2_fitsAt wsX2_fitsAt) := goodIn_app (goodIn_of _ (by decide +kernel)) ggX2_fits_X2_fitsAt
theorem dX2_fits_0 : decode cX2_fits 0 = .ok (.aload_n 0, 1) := by decide +kernel
theorem dX2_fits_1 : decode cX2_fits 1 = .ok (.iconst 0, 1) := by decide +kernel
theorem dX2_fits_2 : decode cX2_fits 2 = .ok (.putfield 42, 3) := by decide +kernel
theorem dX2_fits_5 : decode cX2_fits 5 = .ok (.iload_n 1, 1) := by decide +kernel
theorem dX2_fits_6 : decode cX2_fits 6 = .ok (.invokestatic 57, 3) := by decide +kernel
theorem dX2_fits_9 : decode cX2_fits 9 = .ok (.ifCond .eq 13, 3) := by decide +kernel
theorem dX2_fits_12 : decode cX2_fits 12 = .ok (.iload_n 2, 1) := by decide +kernel
theorem dX2_fits_13 : decode cX2_fits 13 = .ok (.iconst 0, 1) := by decide +kernel
theorem dX2_fits_14 : decode cX2_fits 14 = .ok (.bipush 12, 2) := by decide +kernel
theorem dX2_fits_16 : decode cX2_fits 16 = .ok (.invokestatic 34, 3) := by decide +kernel
theorem dX2_fits_19 : decode cX2_fits 19 = .ok (.ifCond .ne 8, 3) := by decide +kernel
theorem dX2_fits_22 : decode cX2_fits 22 = .ok (.bipush (-2), 2) := by decide +kernel
theorem dX2_fits_24 : decode cX2_fits 24 = .ok (.goto 17, 3) := by decide +kernel
theorem dX2_fits_27 : decode cX2_fits 27 = .ok (.aload_n 0, 1) := by decide +kernel
theorem dX2_fits_28 : decode cX2_fits 28 = .ok (.iload_n 1, 1) := by decide +kernel
theorem dX2_fits_29 : decode cX2_fits 29 = .ok (.iload_n 2, 1) := by decide +kernel
theorem dX2_fits_30 : decode cX2_fits 30 = .ok (.invokevirtual 69, 3) := by decide +kernel
theorem dX2_fits_33 : decode cX2_fits 33 = .ok (.ifCond .eq 7, 3) := by decide +kernel
theorem dX2_fits_36 : decode cX2_fits 36 = .ok (.iconst 1, 1) := by decide +kernel
theorem dX2_fits_37 : decode cX2_fits 37 = .ok (.goto 4, 3) := by decide +kernel
theorem dX2_fits_40 : decode cX2_fits 40 = .ok (.iconst 0, 1) := by decide +kernel
theorem dX2_fits_41 : decode cX2_fits 41 = .ok (.ireturn, 1) := by decide +kernel
theorem dX2_weighs_0 : decode cX2_weighs 0 = .ok (.aload_n 0, 1) := by decide +kernel
theorem dX2_weighs_1 : decode cX2_weighs 1 = .ok (.getfield 7, 3) := by decide +kernel
theorem dX2_weighs_4 : decode cX2_weighs 4 = .ok (.iload_n 1, 1) := by decide +kernel
theorem dX2_weighs_5 : decode cX2_weighs 5 = .ok (.iaload, 1) := by decide +kernel
theorem dX2_weighs_6 : decode cX2_weighs 6 = .ok (.bipush 11, 2) := by decide +kernel
theorem dX2_weighs_8 : decode cX2_weighs 8 = .ok (.if_icmp .ne 14, 3) := by decide +kernel
theorem dX2_weighs_11 : decode cX2_weighs 11 = .ok (.iconst 2, 1) := by decide +kernel
theorem dX2_weighs_12 : decode cX2_weighs 12 = .ok (.aload_n 0, 1) := by decide +kernel
theorem dX2_weighs_13 : decode cX2_weighs 13 = .ok (.getfield 13, 3) := by decide +kernel
theorem dX2_weighs_16 : decode cX2_weighs 16 = .ok (.iload_n 1, 1) := by decide +kernel
theorem dX2_weighs_17 : decode cX2_weighs 17 = .ok (.iaload, 1) := by decide +kernel
theorem dX2_weighs_18 : decode cX2_weighs 18 = .ok (.imul, 1) := by decide +kernel
theorem dX2_weighs_19 : decode cX2_weighs 19 = .ok (.goto 24, 3) := by decide +kernel
theorem dX2_weighs_22 : decode cX2_weighs 22 = .ok (.aload_n 0, 1) := by decide +kernel
theorem dX2_weighs_23 : decode cX2_weighs 23 = .ok (.getfield 13, 3) := by decide +kernel
theorem dX2_weighs_26 : decode cX2_weighs 26 = .ok (.iload_n 1, 1) := by decide +kernel
theorem dX2_weighs_27 : decode cX2_weighs 27 = .ok (.iaload, 1) := by decide +kernel
theorem dX2_weighs_28 : decode cX2_weighs 28 = .ok (.aload_n 0, 1) := by decide +kernel
theorem dX2_weighs_29 : decode cX2_weighs 29 = .ok (.getfield 16, 3) := by decide +kernel
theorem dX2_weighs_32 : decode cX2_weighs 32 = .ok (.iload_n 1, 1) := by decide +kernel
theorem dX2_weighs_33 : decode cX2_weighs 33 = .ok (.baload, 1) := by decide +kernel
theorem dX2_weighs_34 : decode cX2_weighs 34 = .ok (.ifCond .eq 7, 3) := by decide +kernel
theorem dX2_weighs_37 : decode cX2_weighs 37 = .ok (.iconst 1, 1) := by decide +kernel
theorem dX2_weighs_38 : decode cX2_weighs 38 = .ok (.goto 4, 3) := by decide +kernel
theorem dX2_weighs_41 : decode cX2_weighs 41 = .ok (.iconst 0, 1) := by decide +kernel
theorem dX2_weighs_42 : decode cX2_weighs 42 = .ok (.iadd, 1) := by decide +kernel
theorem dX2_weighs_43 : decode cX2_weighs 43 = .ok (.ireturn, 1) := by decide +kernel
theorem dX2_sumOf_0 : decode cX2_sumOf 0 = .ok (.lconst 0, 1) := by decide +kernel
theorem dX2_sumOf_1 : decode cX2_sumOf 1 = .ok (.lstore_n 2, 1) := by decide +kernel
theorem dX2_sumOf_2 : decode cX2_sumOf 2 = .ok (.iconst 0, 1) := by decide +kernel
theorem dX2_sumOf_3 : decode cX2_sumOf 3 = .ok (.istore 4, 2) := by decide +kernel
theorem dX2_sumOf_5 : decode cX2_sumOf 5 = .ok (.iload 4, 2) := by decide +kernel
theorem dX2_sumOf_7 : decode cX2_sumOf 7 = .ok (.aload_n 0, 1) := by decide +kernel
theorem dX2_sumOf_8 : decode cX2_sumOf 8 = .ok (.getfield 13, 3) := by decide +kernel
theorem dX2_sumOf_11 : decode cX2_sumOf 11 = .ok (.iload_n 1, 1) := by decide +kernel
theorem dX2_sumOf_12 : decode cX2_sumOf 12 = .ok (.iaload, 1) := by decide +kernel
theorem dX2_sumOf_13 : decode cX2_sumOf 13 = .ok (.if_icmp .ge 24, 3) := by decide +kernel
theorem dX2_sumOf_16 : decode cX2_sumOf 16 = .ok (.lload_n 2, 1) := by decide +kernel
theorem dX2_sumOf_17 : decode cX2_sumOf 17 = .ok (.aload_n 0, 1) := by decide +kernel
theorem dX2_sumOf_18 : decode cX2_sumOf 18 = .ok (.getfield 20, 3) := by decide +kernel
theorem dX2_sumOf_21 : decode cX2_sumOf 21 = .ok (.bipush 8, 2) := by decide +kernel
theorem dX2_sumOf_23 : decode cX2_sumOf 23 = .ok (.iload_n 1, 1) := by decide +kernel
theorem dX2_sumOf_24 : decode cX2_sumOf 24 = .ok (.imul, 1) := by decide +kernel
theorem dX2_sumOf_25 : decode cX2_sumOf 25 = .ok (.iload 4, 2) := by decide +kernel
theorem dX2_sumOf_27 : decode cX2_sumOf 27 = .ok (.iadd, 1) := by decide +kernel
theorem dX2_sumOf_28 : decode cX2_sumOf 28 = .ok (.laload, 1) := by decide +kernel
theorem dX2_sumOf_29 : decode cX2_sumOf 29 = .ok (.ladd, 1) := by decide +kernel
theorem dX2_sumOf_30 : decode cX2_sumOf 30 = .ok (.lstore_n 2, 1) := by decide +kernel
theorem dX2_sumOf_31 : decode cX2_sumOf 31 = .ok (.iinc 4 1, 3) := by decide +kernel
theorem dX2_sumOf_34 : decode cX2_sumOf 34 = .ok (.goto (-29), 3) := by decide +kernel
theorem dX2_sumOf_37 : decode cX2_sumOf 37 = .ok (.aload_n 0, 1) := by decide +kernel
theorem dX2_sumOf_38 : decode cX2_sumOf 38 = .ok (.getfield 7, 3) := by decide +kernel
theorem dX2_sumOf_41 : decode cX2_sumOf 41 = .ok (.iload_n 1, 1) := by decide +kernel
theorem dX2_sumOf_42 : decode cX2_sumOf 42 = .ok (.iaload, 1) := by decide +kernel
theorem dX2_sumOf_43 : decode cX2_sumOf 43 = .ok (.iconst 2, 1) := by decide +kernel
theorem dX2_sumOf_44 : decode cX2_sumOf 44 = .ok (.if_icmp .ne 7, 3) := by decide +kernel
theorem dX2_sumOf_47 : decode cX2_sumOf 47 = .ok (.lload_n 2, 1) := by decide +kernel
theorem dX2_sumOf_48 : decode cX2_sumOf 48 = .ok (.goto 6, 3) := by decide +kernel
theorem dX2_sumOf_51 : decode cX2_sumOf 51 = .ok (.lload_n 2, 1) := by decide +kernel
theorem dX2_sumOf_52 : decode cX2_sumOf 52 = .ok (.l2i, 1) := by decide +kernel
theorem dX2_sumOf_53 : decode cX2_sumOf 53 = .ok (.i2l, 1) := by decide +kernel
theorem dX2_sumOf_54 : decode cX2_sumOf 54 = .ok (.lreturn, 1) := by decide +kernel
set_option maxRecDepth 20000 in
theorem ggX2_insideOf_X2_weighs : GoodIn wsX2_insideOf wsX2_weighs := goodIn_r _ [9, 10, 1, 4, 11, 12, 13, 14, 15, 16, 17, 18, 19, 20] (by decide +kernel) (by decide +kernel)
set_option maxRecDepth 20000 in
theorem gX2_insideOf_X2_weighs : GoodIn wsX2_insideOf (wsV RX2 72 RX2 yX2_weighs wsX2_weighs) := goodIn_app (goodIn_of _ (by decide +kernel)) ggX2_insideOf_X2_weighs
theorem dX2_insideOf_0 : decode cX2_insideOf 0 = .ok (.iconst 0, 1) := by decide +kernel
theorem dX2_insideOf_1 : decode cX2_insideOf 1 = .ok (.istore_n 3, 1) := by decide +kernel
theorem dX2_insideOf_2 : decode cX2_insideOf 2 = .ok (.iconst 0, 1) := by decide +kernel
theorem dX2_insideOf_3 : decode cX2_insideOf 3 = .ok (.istore 4, 2) := by decide +kernel
theorem dX2_insideOf_5 : decode cX2_insideOf 5 = .ok (.iload 4, 2) := by decide +kernel
theorem dX2_insideOf_7 : decode cX2_insideOf 7 = .ok (.aload_n 0, 1) := by decide +kernel
theorem dX2_insideOf_8 : decode cX2_insideOf 8 = .ok (.getfield 13, 3) := by decide +kernel
theorem dX2_insideOf_11 : decode cX2_insideOf 11 = .ok (.iload_n 1, 1) := by decide +kernel
theorem dX2_insideOf_12 : decode cX2_insideOf 12 = .ok (.iaload, 1) := by decide +kernel
theorem dX2_insideOf_13 : decode cX2_insideOf 13 = .ok (.if_icmp .ge 69, 3) := by decide +kernel
theorem dX2_insideOf_16 : decode cX2_insideOf 16 = .ok (.aload_n 0, 1) := by decide +kernel
theorem dX2_insideOf_17 : decode cX2_insideOf 17 = .ok (.getfield 20, 3) := by decide +kernel
theorem dX2_insideOf_20 : decode cX2_insideOf 20 = .ok (.bipush 8, 2) := by decide +kernel
theorem dX2_insideOf_22 : decode cX2_insideOf 22 = .ok (.iload_n 1, 1) := by decide +kernel
theorem dX2_insideOf_23 : decode cX2_insideOf 23 = .ok (.imul, 1) := by decide +kernel
theorem dX2_insideOf_24 : decode cX2_insideOf 24 = .ok (.iload 4, 2) := by decide +kernel
theorem dX2_insideOf_26 : decode cX2_insideOf 26 = .ok (.iadd, 1) := by decide +kernel
theorem dX2_insideOf_27 : decode cX2_insideOf 27 = .ok (.laload, 1) := by decide +kernel
theorem dX2_insideOf_28 : decode cX2_insideOf 28 = .ok (.l2i, 1) := by decide +kernel
theorem dX2_insideOf_29 : decode cX2_insideOf 29 = .ok (.istore 5, 2) := by decide +kernel
theorem dX2_insideOf_31 : decode cX2_insideOf 31 = .ok (.iload 5, 2) := by decide +kernel
theorem dX2_insideOf_33 : decode cX2_insideOf 33 = .ok (.iconst (-1), 1) := by decide +kernel
theorem dX2_insideOf_34 : decode cX2_insideOf 34 = .ok (.if_icmp .ne 11, 3) := by decide +kernel
theorem dX2_insideOf_37 : decode cX2_insideOf 37 = .ok (.aload_n 0, 1) := by decide +kernel
theorem dX2_insideOf_38 : decode cX2_insideOf 38 = .ok (.iconst 4, 1) := by decide +kernel
theorem dX2_insideOf_39 : decode cX2_insideOf 39 = .ok (.putfield 42, 3) := by decide +kernel
theorem dX2_insideOf_42 : decode cX2_insideOf 42 = .ok (.goto 34, 3) := by decide +kernel
theorem dX2_insideOf_45 : decode cX2_insideOf 45 = .ok (.iload_n 3, 1) := by decide +kernel
theorem dX2_insideOf_46 : decode cX2_insideOf 46 = .ok (.iload_n 2, 1) := by decide +kernel
theorem dX2_insideOf_47 : decode cX2_insideOf 47 = .ok (.ifCond .eq 21, 3) := by decide +kernel
theorem dX2_insideOf_50 : decode cX2_insideOf 50 = .ok (.aload_n 0, 1) := by decide +kernel
theorem dX2_insideOf_51 : decode cX2_insideOf 51 = .ok (.getfield 16, 3) := by decide +kernel
theorem dX2_insideOf_54 : decode cX2_insideOf 54 = .ok (.iload 5, 2) := by decide +kernel
theorem dX2_insideOf_56 : decode cX2_insideOf 56 = .ok (.baload, 1) := by decide +kernel
theorem dX2_insideOf_57 : decode cX2_insideOf 57 = .ok (.ifCond .eq 7, 3) := by decide +kernel
theorem dX2_insideOf_60 : decode cX2_insideOf 60 = .ok (.iconst 1, 1) := by decide +kernel
theorem dX2_insideOf_61 : decode cX2_insideOf 61 = .ok (.goto 13, 3) := by decide +kernel
theorem dX2_insideOf_64 : decode cX2_insideOf 64 = .ok (.iconst 0, 1) := by decide +kernel
theorem dX2_insideOf_65 : decode cX2_insideOf 65 = .ok (.goto 9, 3) := by decide +kernel
theorem dX2_insideOf_68 : decode cX2_insideOf 68 = .ok (.aload_n 0, 1) := by decide +kernel
theorem dX2_insideOf_69 : decode cX2_insideOf 69 = .ok (.iload 5, 2) := by decide +kernel
theorem dX2_insideOf_71 : decode cX2_insideOf 71 = .ok (.invokevirtual 72, 3) := by decide +kernel
theorem dX2_insideOf_74 : decode cX2_insideOf 74 = .ok (.iadd, 1) := by decide +kernel
theorem dX2_insideOf_75 : decode cX2_insideOf 75 = .ok (.istore_n 3, 1) := by decide +kernel
theorem dX2_insideOf_76 : decode cX2_insideOf 76 = .ok (.iinc 4 1, 3) := by decide +kernel
theorem dX2_insideOf_79 : decode cX2_insideOf 79 = .ok (.goto (-74), 3) := by decide +kernel
theorem dX2_insideOf_82 : decode cX2_insideOf 82 = .ok (.iload_n 3, 1) := by decide +kernel
theorem dX2_insideOf_83 : decode cX2_insideOf 83 = .ok (.ireturn, 1) := by decide +kernel
set_option maxRecDepth 20000 in
theorem ggX2_rowsOf_X2_sumOf : GoodIn wsX2_rowsOf wsX2_sumOf := goodIn_r _ [8, 1, 2, 9, 19, 20, 21, 22, 23, 24, 25, 26, 27, 28] (by decide +kernel) (by decide +kernel)
set_option maxRecDepth 20000 in
theorem gX2_rowsOf_X2_sumOf : GoodIn wsX2_rowsOf (wsV RX2 75 RX2 yX2_sumOf wsX2_sumOf) := goodIn_app (goodIn_of _ (by decide +kernel)) ggX2_rowsOf_X2_sumOf
set_option maxRecDepth 20000 in
theorem ggX2_rowsOf_X2_insideOf : GoodIn wsX2_rowsOf wsX2_insideOf := goodIn_r _ [13, 1, 2, 3, 14, 15, 16, 17, 7, 18, 9, 19, 20, 21, 22, 23, 24, 25, 26, 27, 28] (by decide +kernel) (by decide +kernel)
set_option maxRecDepth 20000 in
theorem gX2_rowsOf_X2_insideOf : GoodIn wsX2_rowsOf (wsV RX2 79 RX2 yX2_insideOf wsX2_insideOf) := goodIn_app (goodIn_of _ (by decide +kernel)) ggX2_rowsOf_X2_insideOf
theorem dX2_rowsOf_0 : decode cX2_rowsOf 0 = .ok (.iconst 0, 1) := by decide +kernel
theorem dX2_rowsOf_1 : decode cX2_rowsOf 1 = .ok (.istore_n 3, 1) := by decide +kernel
theorem dX2_rowsOf_2 : decode cX2_rowsOf 2 = .ok (.iconst 0, 1) := by decide +kernel
theorem dX2_rowsOf_3 : decode cX2_rowsOf 3 = .ok (.istore 4, 2) := by decide +kernel
theorem dX2_rowsOf_5 : decode cX2_rowsOf 5 = .ok (.iload 4, 2) := by decide +kernel
theorem dX2_rowsOf_7 : decode cX2_rowsOf 7 = .ok (.aload_n 0, 1) := by decide +kernel
theorem dX2_rowsOf_8 : decode cX2_rowsOf 8 = .ok (.getfield 13, 3) := by decide +kernel
theorem dX2_rowsOf_11 : decode cX2_rowsOf 11 = .ok (.iload_n 1, 1) := by decide +kernel
theorem dX2_rowsOf_12 : decode cX2_rowsOf 12 = .ok (.iaload, 1) := by decide +kernel
theorem dX2_rowsOf_13 : decode cX2_rowsOf 13 = .ok (.if_icmp .ge 73, 3) := by decide +kernel
theorem dX2_rowsOf_16 : decode cX2_rowsOf 16 = .ok (.aload_n 0, 1) := by decide +kernel
theorem dX2_rowsOf_17 : decode cX2_rowsOf 17 = .ok (.getfield 20, 3) := by decide +kernel
theorem dX2_rowsOf_20 : decode cX2_rowsOf 20 = .ok (.bipush 8, 2) := by decide +kernel
theorem dX2_rowsOf_22 : decode cX2_rowsOf 22 = .ok (.iload_n 1, 1) := by decide +kernel
theorem dX2_rowsOf_23 : decode cX2_rowsOf 23 = .ok (.imul, 1) := by decide +kernel
theorem dX2_rowsOf_24 : decode cX2_rowsOf 24 = .ok (.iload 4, 2) := by decide +kernel
theorem dX2_rowsOf_26 : decode cX2_rowsOf 26 = .ok (.iadd, 1) := by decide +kernel
theorem dX2_rowsOf_27 : decode cX2_rowsOf 27 = .ok (.laload, 1) := by decide +kernel
theorem dX2_rowsOf_28 : decode cX2_rowsOf 28 = .ok (.l2i, 1) := by decide +kernel
theorem dX2_rowsOf_29 : decode cX2_rowsOf 29 = .ok (.istore 5, 2) := by decide +kernel
theorem dX2_rowsOf_31 : decode cX2_rowsOf 31 = .ok (.iload 5, 2) := by decide +kernel
theorem dX2_rowsOf_33 : decode cX2_rowsOf 33 = .ok (.iconst (-1), 1) := by decide +kernel
theorem dX2_rowsOf_34 : decode cX2_rowsOf 34 = .ok (.if_icmp .ne 11, 3) := by decide +kernel
theorem dX2_rowsOf_37 : decode cX2_rowsOf 37 = .ok (.aload_n 0, 1) := by decide +kernel
theorem dX2_rowsOf_38 : decode cX2_rowsOf 38 = .ok (.iconst 4, 1) := by decide +kernel
theorem dX2_rowsOf_39 : decode cX2_rowsOf 39 = .ok (.putfield 42, 3) := by decide +kernel
theorem dX2_rowsOf_42 : decode cX2_rowsOf 42 = .ok (.goto 38, 3) := by decide +kernel
theorem dX2_rowsOf_45 : decode cX2_rowsOf 45 = .ok (.iload_n 3, 1) := by decide +kernel
theorem dX2_rowsOf_46 : decode cX2_rowsOf 46 = .ok (.iload_n 2, 1) := by decide +kernel
theorem dX2_rowsOf_47 : decode cX2_rowsOf 47 = .ok (.iconst 3, 1) := by decide +kernel
theorem dX2_rowsOf_48 : decode cX2_rowsOf 48 = .ok (.if_icmp .ne 13, 3) := by decide +kernel
theorem dX2_rowsOf_51 : decode cX2_rowsOf 51 = .ok (.aload_n 0, 1) := by decide +kernel
theorem dX2_rowsOf_52 : decode cX2_rowsOf 52 = .ok (.iload 5, 2) := by decide +kernel
theorem dX2_rowsOf_54 : decode cX2_rowsOf 54 = .ok (.invokevirtual 75, 3) := by decide +kernel
theorem dX2_rowsOf_57 : decode cX2_rowsOf 57 = .ok (.l2i, 1) := by decide +kernel
theorem dX2_rowsOf_58 : decode cX2_rowsOf 58 = .ok (.goto 20, 3) := by decide +kernel
theorem dX2_rowsOf_61 : decode cX2_rowsOf 61 = .ok (.aload_n 0, 1) := by decide +kernel
theorem dX2_rowsOf_62 : decode cX2_rowsOf 62 = .ok (.iload 5, 2) := by decide +kernel
theorem dX2_rowsOf_64 : decode cX2_rowsOf 64 = .ok (.iload_n 2, 1) := by decide +kernel
theorem dX2_rowsOf_65 : decode cX2_rowsOf 65 = .ok (.bipush 8, 2) := by decide +kernel
theorem dX2_rowsOf_67 : decode cX2_rowsOf 67 = .ok (.if_icmp .ne 7, 3) := by decide +kernel
theorem dX2_rowsOf_70 : decode cX2_rowsOf 70 = .ok (.iconst 1, 1) := by decide +kernel
theorem dX2_rowsOf_71 : decode cX2_rowsOf 71 = .ok (.goto 4, 3) := by decide +kernel
theorem dX2_rowsOf_74 : decode cX2_rowsOf 74 = .ok (.iconst 0, 1) := by decide +kernel
theorem dX2_rowsOf_75 : decode cX2_rowsOf 75 = .ok (.invokevirtual 79, 3) := by decide +kernel
theorem dX2_rowsOf_78 : decode cX2_rowsOf 78 = .ok (.iadd, 1) := by decide +kernel
theorem dX2_rowsOf_79 : decode cX2_rowsOf 79 = .ok (.istore_n 3, 1) := by decide +kernel
theorem dX2_rowsOf_80 : decode cX2_rowsOf 80 = .ok (.iinc 4 1, 3) := by decide +kernel
theorem dX2_rowsOf_83 : decode cX2_rowsOf 83 = .ok (.goto (-78), 3) := by decide +kernel
theorem dX2_rowsOf_86 : decode cX2_rowsOf 86 = .ok (.iload_n 3, 1) := by decide +kernel
theorem dX2_rowsOf_87 : decode cX2_rowsOf 87 = .ok (.ireturn, 1) := by decide +kernel
set_option maxRecDepth 20000 in
theorem ggX2_toldBy_X2_sumOf : GoodIn wsX2_toldBy wsX2_sumOf := goodIn_r _ [7, 1, 8, 9, 23, 24, 25, 26, 27, 28, 29, 30, 31, 32] (by decide +kernel) (by decide +kernel)
set_option maxRecDepth 20000 in
theorem gX2_toldBy_X2_sumOf : GoodIn wsX2_toldBy (wsV RX2 75 RX2 yX2_sumOf wsX2_sumOf) := goodIn_app (goodIn_of _ (by decide +kernel)) ggX2_toldBy_X2_sumOf
set_option maxRecDepth 20000 in
theorem ggX2_toldBy_X2_rowsOf : GoodIn wsX2_toldBy wsX2_rowsOf := goodIn_r _ [13, 1, 8, 14, 3, 4, 5, 6, 7, 9, 15, 16, 17, 18, 2, 19, 20, 21, 22, 23, 24, 25, 26, 27, 28, 29, 30, 31, 32] (by decide +kernel) (by decide +kernel)
set_option maxRecDepth 20000 in
theorem gX2_toldBy_X2_rowsOf : GoodIn wsX2_toldBy (wsV RX2 83 RX2 yX2_rowsOf wsX2_rowsOf) := goodIn_app (goodIn_of _ (by decide +kernel)) ggX2_toldBy_X2_rowsOf
set_option maxRecDepth 20000 in
theorem ggX2_toldBy_X2_insideOf : GoodIn wsX2_toldBy wsX2_insideOf := goodIn_r _ [18, 1, 8, 14, 2, 19, 20, 21, 6, 22, 9, 23, 24, 25, 26, 27, 28, 29, 30, 31, 32] (by decide +kernel) (by decide +kernel)
set_option maxRecDepth 20000 in
theorem gX2_toldBy_X2_insideOf : GoodIn wsX2_toldBy (wsV RX2 79 RX2 yX2_insideOf wsX2_insideOf) := goodIn_app (goodIn_of _ (by decide +kernel)) ggX2_toldBy_X2_insideOf
set_option maxRecDepth 20000 in
theorem ggX2_toldBy_X2_weighs : GoodIn wsX2_toldBy wsX2_weighs := goodIn_r _ [22, 9, 1, 2, 23, 24, 25, 26, 27, 28, 29, 30, 31, 32] (by decide +kernel) (by decide +kernel)
set_option maxRecDepth 20000 in
theorem gX2_toldBy_X2_weighs : GoodIn wsX2_toldBy (wsV RX2 72 RX2 yX2_weighs wsX2_weighs) := goodIn_app (goodIn_of _ (by decide +kernel)) ggX2_toldBy_X2_weighs
theorem dX2_toldBy_0 : decode cX2_toldBy 0 = .ok (.iload_n 2, 1) := by decide +kernel
theorem dX2_toldBy_1 : decode cX2_toldBy 1 = .ok (.tableswitch 116 0 11 #[63, 63, 63, 69, 77, 85, 77, 69, 69, 93, 101, 93], 63) := by decide +kernel
theorem dX2_toldBy_64 : decode cX2_toldBy 64 = .ok (.aload_n 0, 1) := by decide +kernel
theorem dX2_toldBy_65 : decode cX2_toldBy 65 = .ok (.iload_n 1, 1) := by decide +kernel
theorem dX2_toldBy_66 : decode cX2_toldBy 66 = .ok (.invokevirtual 75, 3) := by decide +kernel
theorem dX2_toldBy_69 : decode cX2_toldBy 69 = .ok (.lreturn, 1) := by decide +kernel
theorem dX2_toldBy_70 : decode cX2_toldBy 70 = .ok (.aload_n 0, 1) := by decide +kernel
theorem dX2_toldBy_71 : decode cX2_toldBy 71 = .ok (.iload_n 1, 1) := by decide +kernel
theorem dX2_toldBy_72 : decode cX2_toldBy 72 = .ok (.iload_n 2, 1) := by decide +kernel
theorem dX2_toldBy_73 : decode cX2_toldBy 73 = .ok (.invokevirtual 83, 3) := by decide +kernel
theorem dX2_toldBy_76 : decode cX2_toldBy 76 = .ok (.i2l, 1) := by decide +kernel
theorem dX2_toldBy_77 : decode cX2_toldBy 77 = .ok (.lreturn, 1) := by decide +kernel
theorem dX2_toldBy_78 : decode cX2_toldBy 78 = .ok (.aload_n 0, 1) := by decide +kernel
theorem dX2_toldBy_79 : decode cX2_toldBy 79 = .ok (.iload_n 1, 1) := by decide +kernel
theorem dX2_toldBy_80 : decode cX2_toldBy 80 = .ok (.iconst 0, 1) := by decide +kernel
theorem dX2_toldBy_81 : decode cX2_toldBy 81 = .ok (.invokevirtual 79, 3) := by decide +kernel
theorem dX2_toldBy_84 : decode cX2_toldBy 84 = .ok (.i2l, 1) := by decide +kernel
theorem dX2_toldBy_85 : decode cX2_toldBy 85 = .ok (.lreturn, 1) := by decide +kernel
theorem dX2_toldBy_86 : decode cX2_toldBy 86 = .ok (.aload_n 0, 1) := by decide +kernel
theorem dX2_toldBy_87 : decode cX2_toldBy 87 = .ok (.iload_n 1, 1) := by decide +kernel
theorem dX2_toldBy_88 : decode cX2_toldBy 88 = .ok (.iconst 1, 1) := by decide +kernel
theorem dX2_toldBy_89 : decode cX2_toldBy 89 = .ok (.invokevirtual 79, 3) := by decide +kernel
theorem dX2_toldBy_92 : decode cX2_toldBy 92 = .ok (.i2l, 1) := by decide +kernel
theorem dX2_toldBy_93 : decode cX2_toldBy 93 = .ok (.lreturn, 1) := by decide +kernel
theorem dX2_toldBy_94 : decode cX2_toldBy 94 = .ok (.aload_n 0, 1) := by decide +kernel
theorem dX2_toldBy_95 : decode cX2_toldBy 95 = .ok (.getfield 13, 3) := by decide +kernel
theorem dX2_toldBy_98 : decode cX2_toldBy 98 = .ok (.iload_n 1, 1) := by decide +kernel
theorem dX2_toldBy_99 : decode cX2_toldBy 99 = .ok (.iaload, 1) := by decide +kernel
theorem dX2_toldBy_100 : decode cX2_toldBy 100 = .ok (.i2l, 1) := by decide +kernel
theorem dX2_toldBy_101 : decode cX2_toldBy 101 = .ok (.lreturn, 1) := by decide +kernel
theorem dX2_toldBy_102 : decode cX2_toldBy 102 = .ok (.aload_n 0, 1) := by decide +kernel
theorem dX2_toldBy_103 : decode cX2_toldBy 103 = .ok (.getfield 16, 3) := by decide +kernel
theorem dX2_toldBy_106 : decode cX2_toldBy 106 = .ok (.iload_n 1, 1) := by decide +kernel
theorem dX2_toldBy_107 : decode cX2_toldBy 107 = .ok (.baload, 1) := by decide +kernel
theorem dX2_toldBy_108 : decode cX2_toldBy 108 = .ok (.ifCond .eq 7, 3) := by decide +kernel
theorem dX2_toldBy_111 : decode cX2_toldBy 111 = .ok (.lconst 1, 1) := by decide +kernel
theorem dX2_toldBy_112 : decode cX2_toldBy 112 = .ok (.goto 4, 3) := by decide +kernel
theorem dX2_toldBy_115 : decode cX2_toldBy 115 = .ok (.lconst 0, 1) := by decide +kernel
theorem dX2_toldBy_116 : decode cX2_toldBy 116 = .ok (.lreturn, 1) := by decide +kernel
theorem dX2_toldBy_117 : decode cX2_toldBy 117 = .ok (.aload_n 0, 1) := by decide +kernel
theorem dX2_toldBy_118 : decode cX2_toldBy 118 = .ok (.iload_n 1, 1) := by decide +kernel
theorem dX2_toldBy_119 : decode cX2_toldBy 119 = .ok (.invokevirtual 72, 3) := by decide +kernel
theorem dX2_toldBy_122 : decode cX2_toldBy 122 = .ok (.i2l, 1) := by decide +kernel
theorem dX2_toldBy_123 : decode cX2_toldBy 123 = .ok (.lreturn, 1) := by decide +kernel
set_option maxRecDepth 20000 in
theorem ggX2_pass_X2_isSlot : GoodIn wsX2_pass wsX2_isSlot := goodIn_r _ [6, 7, 8, 5, 9] (by decide +kernel) (by decide +kernel)
set_option maxRecDepth 20000 in
theorem gX2_pass_X2_isSlot : GoodIn wsX2_pass (va_wsS RX2 57 yX2_isSlot wsX2_isSlot) := goodIn_app (goodIn_of _ (by decide +kernel)) ggX2_pass_X2_isSlot
set_option maxRecDepth 20000 in
theorem ggX2_pass_X2_isIn : GoodIn wsX2_pass wsX2_isIn := goodIn_r _ [9] (by decide +kernel) (by decide +kernel)
set_option maxRecDepth 20000 in
theorem gX2_pass_X2_isIn : GoodIn wsX2_pass (va_wsS RX2 34 yX2_isIn wsX2_isIn) := goodIn_app (goodIn_of _ (by decide +kernel)) ggX2_pass_X2_isIn
set_option maxRecDepth 20000 in
theorem ggX2_pass_X2_fails : GoodIn wsX2_pass wsX2_fails := goodIn_r _ [13, 1, 56, 57, 58, 59, 60, 61, 62, 63, 64, 65] (by decide +kernel) (by decide +kernel)
set_option maxRecDepth 20000 in
theorem gX2_pass_X2_fails : GoodIn wsX2_pass (wsV RX2 52 RX2 yX2_fails wsX2_fails) := goodIn_app (goodIn_of _ (by decide +kernel)) ggX2_pass_X2_fails
set_option maxRecDepth 20000 in
theorem ggX2_pass_X2_fitsAt : GoodIn wsX2_pass wsX2_fitsAt := goodIn_r _ [17, 2, 18, 19, 20, 5, 21, 56, 57, 58, 59, 60, 61, 62, 63, 64, 65] (by decide +kernel) (by decide +kernel)
set_option maxRecDepth 20000 in
theorem gX2_pass_X2_fitsAt : GoodIn wsX2_pass (wsV RX2 69 RX2 yX2_fitsAt wsX2_fitsAt) := goodIn_app (goodIn_of _ (by decide +kernel)) ggX2_pass_X2_fitsAt
set_option maxRecDepth 20000 in
theorem ggX2_pass_X2_turns : GoodIn wsX2_pass wsX2_turns := goodIn_r _ [25, 26, 27, 28, 5, 29, 30, 31, 32, 10, 11, 12, 13, 1, 56, 57, 58, 59, 60, 61, 62, 63, 64, 65] (by decide +kernel) (by decide +kernel)
set_option maxRecDepth 20000 in
theorem gX2_pass_X2_turns : GoodIn wsX2_pass (wsV RX2 87 RX2 yX2_turns wsX2_turns) := goodIn_app (goodIn_of _ (by decide +kernel)) ggX2_pass_X2_turns
set_option maxRecDepth 20000 in
theorem ggX2_pass_X2_toldBy : GoodIn wsX2_pass wsX2_toldBy := goodIn_r _ [36, 37, 38, 39, 40, 41, 5, 42, 43, 18, 44, 45, 46, 47, 1, 48, 49, 50, 51, 52, 53, 54, 55, 56, 57, 58, 59, 60, 61, 62, 63, 64, 65] (by decide +kernel) (by decide +kernel)
set_option maxRecDepth 20000 in
theorem gX2_pass_X2_toldBy : GoodIn wsX2_pass (wsV RX2 90 RX2 yX2_toldBy wsX2_toldBy) := goodIn_app (goodIn_of _ (by decide +kernel)) ggX2_pass_X2_toldBy
theorem dX2_pass_0 : decode cX2_pass 0 = .ok (.aload_n 0, 1) := by decide +kernel
theorem dX2_pass_1 : decode cX2_pass 1 = .ok (.iconst 0, 1) := by decide +kernel
theorem dX2_pass_2 : decode cX2_pass 2 = .ok (.putfield 42, 3) := by decide +kernel
theorem dX2_pass_5 : decode cX2_pass 5 = .ok (.iload_n 1, 1) := by decide +kernel
theorem dX2_pass_6 : decode cX2_pass 6 = .ok (.invokestatic 57, 3) := by decide +kernel
theorem dX2_pass_9 : decode cX2_pass 9 = .ok (.ifCond .eq 13, 3) := by decide +kernel
theorem dX2_pass_12 : decode cX2_pass 12 = .ok (.iload_n 2, 1) := by decide +kernel
theorem dX2_pass_13 : decode cX2_pass 13 = .ok (.iconst 0, 1) := by decide +kernel
theorem dX2_pass_14 : decode cX2_pass 14 = .ok (.bipush 12, 2) := by decide +kernel
theorem dX2_pass_16 : decode cX2_pass 16 = .ok (.invokestatic 34, 3) := by decide +kernel
theorem dX2_pass_19 : decode cX2_pass 19 = .ok (.ifCond .ne 11, 3) := by decide +kernel
theorem dX2_pass_22 : decode cX2_pass 22 = .ok (.aload_n 0, 1) := by decide +kernel
theorem dX2_pass_23 : decode cX2_pass 23 = .ok (.bipush (-2), 2) := by decide +kernel
theorem dX2_pass_25 : decode cX2_pass 25 = .ok (.invokevirtual 52, 3) := by decide +kernel
theorem dX2_pass_28 : decode cX2_pass 28 = .ok (.i2l, 1) := by decide +kernel
theorem dX2_pass_29 : decode cX2_pass 29 = .ok (.lreturn, 1) := by decide +kernel
theorem dX2_pass_30 : decode cX2_pass 30 = .ok (.aload_n 0, 1) := by decide +kernel
theorem dX2_pass_31 : decode cX2_pass 31 = .ok (.getfield 24, 3) := by decide +kernel
theorem dX2_pass_34 : decode cX2_pass 34 = .ok (.iload_n 1, 1) := by decide +kernel
theorem dX2_pass_35 : decode cX2_pass 35 = .ok (.iaload, 1) := by decide +kernel
theorem dX2_pass_36 : decode cX2_pass 36 = .ok (.iconst (-1), 1) := by decide +kernel
theorem dX2_pass_37 : decode cX2_pass 37 = .ok (.if_icmp .ne 10, 3) := by decide +kernel
theorem dX2_pass_40 : decode cX2_pass 40 = .ok (.aload_n 0, 1) := by decide +kernel
theorem dX2_pass_41 : decode cX2_pass 41 = .ok (.iconst 2, 1) := by decide +kernel
theorem dX2_pass_42 : decode cX2_pass 42 = .ok (.invokevirtual 52, 3) := by decide +kernel
theorem dX2_pass_45 : decode cX2_pass 45 = .ok (.i2l, 1) := by decide +kernel
theorem dX2_pass_46 : decode cX2_pass 46 = .ok (.lreturn, 1) := by decide +kernel
theorem dX2_pass_47 : decode cX2_pass 47 = .ok (.aload_n 0, 1) := by decide +kernel
theorem dX2_pass_48 : decode cX2_pass 48 = .ok (.iload_n 1, 1) := by decide +kernel
theorem dX2_pass_49 : decode cX2_pass 49 = .ok (.iload_n 2, 1) := by decide +kernel
theorem dX2_pass_50 : decode cX2_pass 50 = .ok (.invokevirtual 69, 3) := by decide +kernel
theorem dX2_pass_53 : decode cX2_pass 53 = .ok (.ifCond .ne 11, 3) := by decide +kernel
theorem dX2_pass_56 : decode cX2_pass 56 = .ok (.aload_n 0, 1) := by decide +kernel
theorem dX2_pass_57 : decode cX2_pass 57 = .ok (.iload_n 1, 1) := by decide +kernel
theorem dX2_pass_58 : decode cX2_pass 58 = .ok (.iload_n 2, 1) := by decide +kernel
theorem dX2_pass_59 : decode cX2_pass 59 = .ok (.invokevirtual 87, 3) := by decide +kernel
theorem dX2_pass_62 : decode cX2_pass 62 = .ok (.i2l, 1) := by decide +kernel
theorem dX2_pass_63 : decode cX2_pass 63 = .ok (.lreturn, 1) := by decide +kernel
theorem dX2_pass_64 : decode cX2_pass 64 = .ok (.aload_n 0, 1) := by decide +kernel
theorem dX2_pass_65 : decode cX2_pass 65 = .ok (.aload_n 0, 1) := by decide +kernel
theorem dX2_pass_66 : decode cX2_pass 66 = .ok (.getfield 24, 3) := by decide +kernel
theorem dX2_pass_69 : decode cX2_pass 69 = .ok (.iload_n 1, 1) := by decide +kernel
theorem dX2_pass_70 : decode cX2_pass 70 = .ok (.iaload, 1) := by decide +kernel
theorem dX2_pass_71 : decode cX2_pass 71 = .ok (.iload_n 2, 1) := by decide +kernel
theorem dX2_pass_72 : decode cX2_pass 72 = .ok (.invokevirtual 90, 3) := by decide +kernel
theorem dX2_pass_75 : decode cX2_pass 75 = .ok (.lstore_n 3, 1) := by decide +kernel
theorem dX2_pass_76 : decode cX2_pass 76 = .ok (.aload_n 0, 1) := by decide +kernel
theorem dX2_pass_77 : decode cX2_pass 77 = .ok (.getfield 42, 3) := by decide +kernel
theorem dX2_pass_80 : decode cX2_pass 80 = .ok (.ifCond .ne 7, 3) := by decide +kernel
theorem dX2_pass_83 : decode cX2_pass 83 = .ok (.lload_n 3, 1) := by decide +kernel
theorem dX2_pass_84 : decode cX2_pass 84 = .ok (.goto 4, 3) := by decide +kernel
theorem dX2_pass_87 : decode cX2_pass 87 = .ok (.lconst 0, 1) := by decide +kernel
theorem dX2_pass_88 : decode cX2_pass 88 = .ok (.lreturn, 1) := by decide +kernel
set_option maxRecDepth 20000 in
theorem ggX2_seek_X2_isSlot : GoodIn wsX2_seek wsX2_isSlot := goodIn_r _ [5, 6, 7, 4, 8] (by decide +kernel) (by decide +kernel)
set_option maxRecDepth 20000 in
theorem gX2_seek_X2_isSlot : GoodIn wsX2_seek (va_wsS RX2 57 yX2_isSlot wsX2_isSlot) := goodIn_app (goodIn_of _ (by decide +kernel)) ggX2_seek_X2_isSlot
set_option maxRecDepth 20000 in
theorem ggX2_seek_X2_isIn : GoodIn wsX2_seek wsX2_isIn := goodIn_r _ [8] (by decide +kernel) (by decide +kernel)
set_option maxRecDepth 20000 in
theorem gX2_seek_X2_isIn : GoodIn wsX2_seek (va_wsS RX2 34 yX2_isIn wsX2_isIn) := goodIn_app (goodIn_of _ (by decide +kernel)) ggX2_seek_X2_isIn
set_option maxRecDepth 20000 in
theorem ggX2_seek_X2_bad : GoodIn wsX2_seek wsX2_bad := goodIn_r _ [12, 1, 29, 30, 31, 32, 33, 34, 35, 36, 37, 38] (by decide +kernel) (by decide +kernel)
set_option maxRecDepth 20000 in
theorem gX2_seek_X2_bad : GoodIn wsX2_seek (wsV RX2 94 RX2 yX2_bad wsX2_bad) := goodIn_app (goodIn_of _ (by decide +kernel)) ggX2_seek_X2_bad
set_option maxRecDepth 20000 in
theorem ggX2_seek_X2_fitsAt : GoodIn wsX2_seek wsX2_fitsAt := goodIn_r _ [16, 17, 18, 19, 20, 4, 21, 29, 30, 31, 32, 33, 34, 35, 36, 37, 38] (by decide +kernel) (by decide +kernel)
set_option maxRecDepth 20000 in
theorem gX2_seek_X2_fitsAt : GoodIn wsX2_seek (wsV RX2 69 RX2 yX2_fitsAt wsX2_fitsAt) := goodIn_app (goodIn_of _ (by decide +kernel)) ggX2_seek_X2_fitsAt
set_option maxRecDepth 20000 in
theorem ggX2_seek_X2_turn : GoodIn wsX2_seek wsX2_turn := goodIn_r _ [25, 26, 27, 28, 29, 30, 31, 32, 33, 34, 35, 36, 37, 38] (by decide +kernel) (by decide +kernel)
set_option maxRecDepth 20000 in
theorem gX2_seek_X2_turn : GoodIn wsX2_seek (wsV RX2 48 RX2 yX2_turn wsX2_turn) := goodIn_app (goodIn_of _ (by decide +kernel)) ggX2_seek_X2_turn
theorem dX2_seek_0 : decode cX2_seek 0 = .ok (.iload_n 1, 1) := by decide +kernel
theorem dX2_seek_1 : decode cX2_seek 1 = .ok (.invokestatic 57, 3) := by decide +kernel
theorem dX2_seek_4 : decode cX2_seek 4 = .ok (.ifCond .eq 23, 3) := by decide +kernel
theorem dX2_seek_7 : decode cX2_seek 7 = .ok (.iload_n 2, 1) := by decide +kernel
theorem dX2_seek_8 : decode cX2_seek 8 = .ok (.iconst 0, 1) := by decide +kernel
theorem dX2_seek_9 : decode cX2_seek 9 = .ok (.bipush 12, 2) := by decide +kernel
theorem dX2_seek_11 : decode cX2_seek 11 = .ok (.invokestatic 34, 3) := by decide +kernel
theorem dX2_seek_14 : decode cX2_seek 14 = .ok (.ifCond .eq 13, 3) := by decide +kernel
theorem dX2_seek_17 : decode cX2_seek 17 = .ok (.iload_n 3, 1) := by decide +kernel
theorem dX2_seek_18 : decode cX2_seek 18 = .ok (.iload_n 2, 1) := by decide +kernel
theorem dX2_seek_19 : decode cX2_seek 19 = .ok (.bipush 12, 2) := by decide +kernel
theorem dX2_seek_21 : decode cX2_seek 21 = .ok (.invokestatic 34, 3) := by decide +kernel
theorem dX2_seek_24 : decode cX2_seek 24 = .ok (.ifCond .ne 8, 3) := by decide +kernel
theorem dX2_seek_27 : decode cX2_seek 27 = .ok (.aload_n 0, 1) := by decide +kernel
theorem dX2_seek_28 : decode cX2_seek 28 = .ok (.invokevirtual 94, 3) := by decide +kernel
theorem dX2_seek_31 : decode cX2_seek 31 = .ok (.ireturn, 1) := by decide +kernel
theorem dX2_seek_32 : decode cX2_seek 32 = .ok (.aload_n 0, 1) := by decide +kernel
theorem dX2_seek_33 : decode cX2_seek 33 = .ok (.iconst 0, 1) := by decide +kernel
theorem dX2_seek_34 : decode cX2_seek 34 = .ok (.putfield 42, 3) := by decide +kernel
theorem dX2_seek_37 : decode cX2_seek 37 = .ok (.iload_n 2, 1) := by decide +kernel
theorem dX2_seek_38 : decode cX2_seek 38 = .ok (.istore 4, 2) := by decide +kernel
theorem dX2_seek_40 : decode cX2_seek 40 = .ok (.iload 4, 2) := by decide +kernel
theorem dX2_seek_42 : decode cX2_seek 42 = .ok (.iload_n 3, 1) := by decide +kernel
theorem dX2_seek_43 : decode cX2_seek 43 = .ok (.if_icmp .gt 29, 3) := by decide +kernel
theorem dX2_seek_46 : decode cX2_seek 46 = .ok (.aload_n 0, 1) := by decide +kernel
theorem dX2_seek_47 : decode cX2_seek 47 = .ok (.iload_n 1, 1) := by decide +kernel
theorem dX2_seek_48 : decode cX2_seek 48 = .ok (.iload 4, 2) := by decide +kernel
theorem dX2_seek_50 : decode cX2_seek 50 = .ok (.invokevirtual 69, 3) := by decide +kernel
theorem dX2_seek_53 : decode cX2_seek 53 = .ok (.ifCond .eq 6, 3) := by decide +kernel
theorem dX2_seek_56 : decode cX2_seek 56 = .ok (.iload 4, 2) := by decide +kernel
theorem dX2_seek_58 : decode cX2_seek 58 = .ok (.ireturn, 1) := by decide +kernel
theorem dX2_seek_59 : decode cX2_seek 59 = .ok (.aload_n 0, 1) := by decide +kernel
theorem dX2_seek_60 : decode cX2_seek 60 = .ok (.iload_n 1, 1) := by decide +kernel
theorem dX2_seek_61 : decode cX2_seek 61 = .ok (.iload 4, 2) := by decide +kernel
theorem dX2_seek_63 : decode cX2_seek 63 = .ok (.invokevirtual 48, 3) := by decide +kernel
theorem dX2_seek_66 : decode cX2_seek 66 = .ok (.iinc 4 1, 3) := by decide +kernel
theorem dX2_seek_69 : decode cX2_seek 69 = .ok (.goto (-29), 3) := by decide +kernel
theorem dX2_seek_72 : decode cX2_seek 72 = .ok (.iconst (-1), 1) := by decide +kernel
theorem dX2_seek_73 : decode cX2_seek 73 = .ok (.ireturn, 1) := by decide +kernel
set_option maxRecDepth 20000 in
theorem ggX2_isNumberAt_X2_fails : GoodIn wsX2_isNumberAt wsX2_fails := goodIn_r _ [9, 4, 24, 25, 26, 27, 28, 29, 30, 31, 32, 33] (by decide +kernel) (by decide +kernel)
set_option maxRecDepth 20000 in
theorem gX2_isNumberAt_X2_fails : GoodIn wsX2_isNumberAt (wsV RX2 52 RX2 yX2_fails wsX2_fails) := goodIn_app (goodIn_of _ (by decide +kernel)) ggX2_isNumberAt_X2_fails
set_option maxRecDepth 20000 in
theorem ggX2_isNumberAt_X2_turns : GoodIn wsX2_isNumberAt wsX2_turns := goodIn_r _ [13, 14, 15, 16, 8, 17, 18, 19, 20, 5, 6, 7, 9, 4, 24, 25, 26, 27, 28, 29, 30, 31, 32, 33] (by decide +kernel) (by decide +kernel)
set_option maxRecDepth 20000 in
theorem gX2_isNumberAt_X2_turns : GoodIn wsX2_isNumberAt (wsV RX2 87 RX2 yX2_turns wsX2_turns) := goodIn_app (goodIn_of _ (by decide +kernel)) ggX2_isNumberAt_X2_turns
set_option maxRecDepth 20000 in
theorem ggX2_isNumberAt_X2_isIn : GoodIn wsX2_isNumberAt wsX2_isIn := goodIn_r _ [23] (by decide +kernel) (by decide +kernel)
set_option maxRecDepth 20000 in
theorem gX2_isNumberAt_X2_isIn : GoodIn wsX2_isNumberAt (va_wsS RX2 34 yX2_isIn wsX2_isIn) := goodIn_app (goodIn_of _ (by decide +kernel)) ggX2_isNumberAt_X2_isIn
theorem dX2_isNumberAt_0 : decode cX2_isNumberAt 0 = .ok (.aload_n 0, 1) := by decide +kernel
theorem dX2_isNumberAt_1 : decode cX2_isNumberAt 1 = .ok (.getfield 24, 3) := by decide +kernel
theorem dX2_isNumberAt_4 : decode cX2_isNumberAt 4 = .ok (.iload_n 1, 1) := by decide +kernel
theorem dX2_isNumberAt_5 : decode cX2_isNumberAt 5 = .ok (.iaload, 1) := by decide +kernel
theorem dX2_isNumberAt_6 : decode cX2_isNumberAt 6 = .ok (.istore_n 3, 1) := by decide +kernel
theorem dX2_isNumberAt_7 : decode cX2_isNumberAt 7 = .ok (.iload_n 3, 1) := by decide +kernel
theorem dX2_isNumberAt_8 : decode cX2_isNumberAt 8 = .ok (.iconst (-1), 1) := by decide +kernel
theorem dX2_isNumberAt_9 : decode cX2_isNumberAt 9 = .ok (.if_icmp .ne 12, 3) := by decide +kernel
theorem dX2_isNumberAt_12 : decode cX2_isNumberAt 12 = .ok (.aload_n 0, 1) := by decide +kernel
theorem dX2_isNumberAt_13 : decode cX2_isNumberAt 13 = .ok (.iconst 2, 1) := by decide +kernel
theorem dX2_isNumberAt_14 : decode cX2_isNumberAt 14 = .ok (.invokevirtual 52, 3) := by decide +kernel
theorem dX2_isNumberAt_17 : decode cX2_isNumberAt 17 = .ok (.pop, 1) := by decide +kernel
theorem dX2_isNumberAt_18 : decode cX2_isNumberAt 18 = .ok (.goto 45, 3) := by decide +kernel
theorem dX2_isNumberAt_21 : decode cX2_isNumberAt 21 = .ok (.aload_n 0, 1) := by decide +kernel
theorem dX2_isNumberAt_22 : decode cX2_isNumberAt 22 = .ok (.getfield 7, 3) := by decide +kernel
theorem dX2_isNumberAt_25 : decode cX2_isNumberAt 25 = .ok (.iload_n 3, 1) := by decide +kernel
theorem dX2_isNumberAt_26 : decode cX2_isNumberAt 26 = .ok (.iaload, 1) := by decide +kernel
theorem dX2_isNumberAt_27 : decode cX2_isNumberAt 27 = .ok (.iconst 2, 1) := by decide +kernel
theorem dX2_isNumberAt_28 : decode cX2_isNumberAt 28 = .ok (.if_icmp .le 13, 3) := by decide +kernel
theorem dX2_isNumberAt_31 : decode cX2_isNumberAt 31 = .ok (.aload_n 0, 1) := by decide +kernel
theorem dX2_isNumberAt_32 : decode cX2_isNumberAt 32 = .ok (.iload_n 1, 1) := by decide +kernel
theorem dX2_isNumberAt_33 : decode cX2_isNumberAt 33 = .ok (.iconst 2, 1) := by decide +kernel
theorem dX2_isNumberAt_34 : decode cX2_isNumberAt 34 = .ok (.invokevirtual 87, 3) := by decide +kernel
theorem dX2_isNumberAt_37 : decode cX2_isNumberAt 37 = .ok (.pop, 1) := by decide +kernel
theorem dX2_isNumberAt_38 : decode cX2_isNumberAt 38 = .ok (.goto 25, 3) := by decide +kernel
theorem dX2_isNumberAt_41 : decode cX2_isNumberAt 41 = .ok (.iload_n 2, 1) := by decide +kernel
theorem dX2_isNumberAt_42 : decode cX2_isNumberAt 42 = .ok (.iconst 0, 1) := by decide +kernel
theorem dX2_isNumberAt_43 : decode cX2_isNumberAt 43 = .ok (.aload_n 0, 1) := by decide +kernel
theorem dX2_isNumberAt_44 : decode cX2_isNumberAt 44 = .ok (.getfield 13, 3) := by decide +kernel
theorem dX2_isNumberAt_47 : decode cX2_isNumberAt 47 = .ok (.iload_n 3, 1) := by decide +kernel
theorem dX2_isNumberAt_48 : decode cX2_isNumberAt 48 = .ok (.iaload, 1) := by decide +kernel
theorem dX2_isNumberAt_49 : decode cX2_isNumberAt 49 = .ok (.iconst 1, 1) := by decide +kernel
theorem dX2_isNumberAt_50 : decode cX2_isNumberAt 50 = .ok (.isub, 1) := by decide +kernel
theorem dX2_isNumberAt_51 : decode cX2_isNumberAt 51 = .ok (.invokestatic 34, 3) := by decide +kernel
theorem dX2_isNumberAt_54 : decode cX2_isNumberAt 54 = .ok (.ifCond .ne 9, 3) := by decide +kernel
theorem dX2_isNumberAt_57 : decode cX2_isNumberAt 57 = .ok (.aload_n 0, 1) := by decide +kernel
theorem dX2_isNumberAt_58 : decode cX2_isNumberAt 58 = .ok (.iconst 3, 1) := by decide +kernel
theorem dX2_isNumberAt_59 : decode cX2_isNumberAt 59 = .ok (.invokevirtual 52, 3) := by decide +kernel
theorem dX2_isNumberAt_62 : decode cX2_isNumberAt 62 = .ok (.pop, 1) := by decide +kernel
theorem dX2_isNumberAt_63 : decode cX2_isNumberAt 63 = .ok (.aload_n 0, 1) := by decide +kernel
theorem dX2_isNumberAt_64 : decode cX2_isNumberAt 64 = .ok (.getfield 42, 3) := by decide +kernel
theorem dX2_isNumberAt_67 : decode cX2_isNumberAt 67 = .ok (.ifCond .ne 7, 3) := by decide +kernel
theorem dX2_isNumberAt_70 : decode cX2_isNumberAt 70 = .ok (.iconst 1, 1) := by decide +kernel
theorem dX2_isNumberAt_71 : decode cX2_isNumberAt 71 = .ok (.goto 4, 3) := by decide +kernel
theorem dX2_isNumberAt_74 : decode cX2_isNumberAt 74 = .ok (.iconst 0, 1) := by decide +kernel
theorem dX2_isNumberAt_75 : decode cX2_isNumberAt 75 = .ok (.ireturn, 1) := by decide +kernel
set_option maxRecDepth 20000 in
theorem ggX2_put_X2_isSlot : GoodIn wsX2_put wsX2_isSlot := goodIn_r _ [8, 9, 10, 7, 11] (by decide +kernel) (by decide +kernel)
set_option maxRecDepth 20000 in
theorem gX2_put_X2_isSlot : GoodIn wsX2_put (va_wsS RX2 57 yX2_isSlot wsX2_isSlot) := goodIn_app (goodIn_of _ (by decide +kernel)) ggX2_put_X2_isSlot
set_option maxRecDepth 20000 in
theorem ggX2_put_X2_isNumberAt : GoodIn wsX2_put wsX2_isNumberAt := goodIn_r _ [15, 3, 2, 16, 1, 17, 18, 19, 7, 20, 21, 22, 23, 24, 25, 26, 27, 28, 29, 30, 31, 9, 10, 11, 32, 33, 34, 35, 36, 37, 38, 39, 40, 41] (by decide +kernel) (by decide +kernel)
set_option maxRecDepth 20000 in
theorem gX2_put_X2_isNumberAt : GoodIn wsX2_put (wsV RX2 98 RX2 yX2_isNumberAt wsX2_isNumberAt) := goodIn_app (goodIn_of _ (by decide +kernel)) ggX2_put_X2_isNumberAt
theorem dX2_put_0 : decode cX2_put 0 = .ok (.aload_n 0, 1) := by decide +kernel
theorem dX2_put_1 : decode cX2_put 1 = .ok (.iconst 0, 1) := by decide +kernel
theorem dX2_put_2 : decode cX2_put 2 = .ok (.putfield 42, 3) := by decide +kernel
theorem dX2_put_5 : decode cX2_put 5 = .ok (.iload_n 1, 1) := by decide +kernel
theorem dX2_put_6 : decode cX2_put 6 = .ok (.invokestatic 57, 3) := by decide +kernel
theorem dX2_put_9 : decode cX2_put 9 = .ok (.ifCond .ne 6, 3) := by decide +kernel
theorem dX2_put_12 : decode cX2_put 12 = .ok (.bipush (-2), 2) := by decide +kernel
theorem dX2_put_14 : decode cX2_put 14 = .ok (.ireturn, 1) := by decide +kernel
theorem dX2_put_15 : decode cX2_put 15 = .ok (.aload_n 0, 1) := by decide +kernel
theorem dX2_put_16 : decode cX2_put 16 = .ok (.iload_n 1, 1) := by decide +kernel
theorem dX2_put_17 : decode cX2_put 17 = .ok (.iload_n 2, 1) := by decide +kernel
theorem dX2_put_18 : decode cX2_put 18 = .ok (.invokevirtual 98, 3) := by decide +kernel
theorem dX2_put_21 : decode cX2_put 21 = .ok (.ifCond .ne 5, 3) := by decide +kernel
theorem dX2_put_24 : decode cX2_put 24 = .ok (.iconst 0, 1) := by decide +kernel
theorem dX2_put_25 : decode cX2_put 25 = .ok (.ireturn, 1) := by decide +kernel
theorem dX2_put_26 : decode cX2_put 26 = .ok (.aload_n 0, 1) := by decide +kernel
theorem dX2_put_27 : decode cX2_put 27 = .ok (.getfield 7, 3) := by decide +kernel
theorem dX2_put_30 : decode cX2_put 30 = .ok (.aload_n 0, 1) := by decide +kernel
theorem dX2_put_31 : decode cX2_put 31 = .ok (.getfield 24, 3) := by decide +kernel
theorem dX2_put_34 : decode cX2_put 34 = .ok (.iload_n 1, 1) := by decide +kernel
theorem dX2_put_35 : decode cX2_put 35 = .ok (.iaload, 1) := by decide +kernel
theorem dX2_put_36 : decode cX2_put 36 = .ok (.iaload, 1) := by decide +kernel
theorem dX2_put_37 : decode cX2_put 37 = .ok (.istore 5, 2) := by decide +kernel
theorem dX2_put_39 : decode cX2_put 39 = .ok (.aload_n 0, 1) := by decide +kernel
theorem dX2_put_40 : decode cX2_put 40 = .ok (.getfield 20, 3) := by decide +kernel
theorem dX2_put_43 : decode cX2_put 43 = .ok (.bipush 8, 2) := by decide +kernel
theorem dX2_put_45 : decode cX2_put 45 = .ok (.aload_n 0, 1) := by decide +kernel
theorem dX2_put_46 : decode cX2_put 46 = .ok (.getfield 24, 3) := by decide +kernel
theorem dX2_put_49 : decode cX2_put 49 = .ok (.iload_n 1, 1) := by decide +kernel
theorem dX2_put_50 : decode cX2_put 50 = .ok (.iaload, 1) := by decide +kernel
theorem dX2_put_51 : decode cX2_put 51 = .ok (.imul, 1) := by decide +kernel
theorem dX2_put_52 : decode cX2_put 52 = .ok (.iload_n 2, 1) := by decide +kernel
theorem dX2_put_53 : decode cX2_put 53 = .ok (.iadd, 1) := by decide +kernel
theorem dX2_put_54 : decode cX2_put 54 = .ok (.iload 5, 2) := by decide +kernel
theorem dX2_put_56 : decode cX2_put 56 = .ok (.ifCond .ne 9, 3) := by decide +kernel
theorem dX2_put_59 : decode cX2_put 59 = .ok (.lload_n 3, 1) := by decide +kernel
theorem dX2_put_60 : decode cX2_put 60 = .ok (.l2i, 1) := by decide +kernel
theorem dX2_put_61 : decode cX2_put 61 = .ok (.i2l, 1) := by decide +kernel
theorem dX2_put_62 : decode cX2_put 62 = .ok (.goto 17, 3) := by decide +kernel
theorem dX2_put_65 : decode cX2_put 65 = .ok (.iload 5, 2) := by decide +kernel
theorem dX2_put_67 : decode cX2_put 67 = .ok (.iconst 1, 1) := by decide +kernel
theorem dX2_put_68 : decode cX2_put 68 = .ok (.if_icmp .ne 10, 3) := by decide +kernel
theorem dX2_put_71 : decode cX2_put 71 = .ok (.lload_n 3, 1) := by decide +kernel
theorem dX2_put_72 : decode cX2_put 72 = .ok (.l2i, 1) := by decide +kernel
theorem dX2_put_73 : decode cX2_put 73 = .ok (.i2b, 1) := by decide +kernel
theorem dX2_put_74 : decode cX2_put 74 = .ok (.i2l, 1) := by decide +kernel
theorem dX2_put_75 : decode cX2_put 75 = .ok (.goto 4, 3) := by decide +kernel
theorem dX2_put_78 : decode cX2_put 78 = .ok (.lload_n 3, 1) := by decide +kernel
theorem dX2_put_79 : decode cX2_put 79 = .ok (.lastore, 1) := by decide +kernel
theorem dX2_put_80 : decode cX2_put 80 = .ok (.iconst 1, 1) := by decide +kernel
theorem dX2_put_81 : decode cX2_put 81 = .ok (.ireturn, 1) := by decide +kernel
set_option maxRecDepth 20000 in
theorem ggX2_get_X2_isSlot : GoodIn wsX2_get wsX2_isSlot := goodIn_r _ [7, 8, 9, 6, 10] (by decide +kernel) (by decide +kernel)
set_option maxRecDepth 20000 in
theorem gX2_get_X2_isSlot : GoodIn wsX2_get (va_wsS RX2 57 yX2_isSlot wsX2_isSlot) := goodIn_app (goodIn_of _ (by decide +kernel)) ggX2_get_X2_isSlot
set_option maxRecDepth 20000 in
theorem ggX2_get_X2_fails : GoodIn wsX2_get wsX2_fails := goodIn_r _ [14, 1, 32, 33, 34, 35, 36, 37, 38, 39, 40, 41] (by decide +kernel) (by decide +kernel)
set_option maxRecDepth 20000 in
theorem gX2_get_X2_fails : GoodIn wsX2_get (wsV RX2 52 RX2 yX2_fails wsX2_fails) := goodIn_app (goodIn_of _ (by decide +kernel)) ggX2_get_X2_fails
set_option maxRecDepth 20000 in
theorem ggX2_get_X2_isNumberAt : GoodIn wsX2_get wsX2_isNumberAt := goodIn_r _ [18, 3, 19, 20, 1, 11, 12, 13, 6, 14, 21, 22, 23, 24, 25, 26, 27, 28, 29, 30, 31, 8, 9, 10, 32, 33, 34, 35, 36, 37, 38, 39, 40, 41] (by decide +kernel) (by decide +kernel)
set_option maxRecDepth 20000 in
theorem gX2_get_X2_isNumberAt : GoodIn wsX2_get (wsV RX2 98 RX2 yX2_isNumberAt wsX2_isNumberAt) := goodIn_app (goodIn_of _ (by decide +kernel)) ggX2_get_X2_isNumberAt
theorem dX2_get_0 : decode cX2_get 0 = .ok (.aload_n 0, 1) := by decide +kernel
theorem dX2_get_1 : decode cX2_get 1 = .ok (.iconst 0, 1) := by decide +kernel
theorem dX2_get_2 : decode cX2_get 2 = .ok (.putfield 42, 3) := by decide +kernel
theorem dX2_get_5 : decode cX2_get 5 = .ok (.iload_n 1, 1) := by decide +kernel
theorem dX2_get_6 : decode cX2_get 6 = .ok (.invokestatic 57, 3) := by decide +kernel
theorem dX2_get_9 : decode cX2_get 9 = .ok (.ifCond .ne 11, 3) := by decide +kernel
theorem dX2_get_12 : decode cX2_get 12 = .ok (.aload_n 0, 1) := by decide +kernel
theorem dX2_get_13 : decode cX2_get 13 = .ok (.bipush (-2), 2) := by decide +kernel
theorem dX2_get_15 : decode cX2_get 15 = .ok (.invokevirtual 52, 3) := by decide +kernel
theorem dX2_get_18 : decode cX2_get 18 = .ok (.i2l, 1) := by decide +kernel
theorem dX2_get_19 : decode cX2_get 19 = .ok (.lreturn, 1) := by decide +kernel
theorem dX2_get_20 : decode cX2_get 20 = .ok (.aload_n 0, 1) := by decide +kernel
theorem dX2_get_21 : decode cX2_get 21 = .ok (.iload_n 1, 1) := by decide +kernel
theorem dX2_get_22 : decode cX2_get 22 = .ok (.iload_n 2, 1) := by decide +kernel
theorem dX2_get_23 : decode cX2_get 23 = .ok (.invokevirtual 98, 3) := by decide +kernel
theorem dX2_get_26 : decode cX2_get 26 = .ok (.ifCond .eq 22, 3) := by decide +kernel
theorem dX2_get_29 : decode cX2_get 29 = .ok (.aload_n 0, 1) := by decide +kernel
theorem dX2_get_30 : decode cX2_get 30 = .ok (.getfield 20, 3) := by decide +kernel
theorem dX2_get_33 : decode cX2_get 33 = .ok (.bipush 8, 2) := by decide +kernel
theorem dX2_get_35 : decode cX2_get 35 = .ok (.aload_n 0, 1) := by decide +kernel
theorem dX2_get_36 : decode cX2_get 36 = .ok (.getfield 24, 3) := by decide +kernel
theorem dX2_get_39 : decode cX2_get 39 = .ok (.iload_n 1, 1) := by decide +kernel
theorem dX2_get_40 : decode cX2_get 40 = .ok (.iaload, 1) := by decide +kernel
theorem dX2_get_41 : decode cX2_get 41 = .ok (.imul, 1) := by decide +kernel
theorem dX2_get_42 : decode cX2_get 42 = .ok (.iload_n 2, 1) := by decide +kernel
theorem dX2_get_43 : decode cX2_get 43 = .ok (.iadd, 1) := by decide +kernel
theorem dX2_get_44 : decode cX2_get 44 = .ok (.laload, 1) := by decide +kernel
theorem dX2_get_45 : decode cX2_get 45 = .ok (.goto 4, 3) := by decide +kernel
theorem dX2_get_48 : decode cX2_get 48 = .ok (.lconst 0, 1) := by decide +kernel
theorem dX2_get_49 : decode cX2_get 49 = .ok (.lreturn, 1) := by decide +kernel
theorem dX2_canHold_0 : decode cX2_canHold 0 = .ok (.iload_n 0, 1) := by decide +kernel
theorem dX2_canHold_1 : decode cX2_canHold 1 = .ok (.tableswitch 70 4 8 #[35, 47, 70, 70, 59], 35) := by decide +kernel
theorem dX2_canHold_36 : decode cX2_canHold 36 = .ok (.iload_n 1, 1) := by decide +kernel
theorem dX2_canHold_37 : decode cX2_canHold 37 = .ok (.bipush 11, 2) := by decide +kernel
theorem dX2_canHold_39 : decode cX2_canHold 39 = .ok (.if_icmp .eq 7, 3) := by decide +kernel
theorem dX2_canHold_42 : decode cX2_canHold 42 = .ok (.iconst 1, 1) := by decide +kernel
theorem dX2_canHold_43 : decode cX2_canHold 43 = .ok (.goto 4, 3) := by decide +kernel
theorem dX2_canHold_46 : decode cX2_canHold 46 = .ok (.iconst 0, 1) := by decide +kernel
theorem dX2_canHold_47 : decode cX2_canHold 47 = .ok (.ireturn, 1) := by decide +kernel
theorem dX2_canHold_48 : decode cX2_canHold 48 = .ok (.iload_n 1, 1) := by decide +kernel
theorem dX2_canHold_49 : decode cX2_canHold 49 = .ok (.bipush 10, 2) := by decide +kernel
theorem dX2_canHold_51 : decode cX2_canHold 51 = .ok (.if_icmp .ne 7, 3) := by decide +kernel
theorem dX2_canHold_54 : decode cX2_canHold 54 = .ok (.iconst 1, 1) := by decide +kernel
theorem dX2_canHold_55 : decode cX2_canHold 55 = .ok (.goto 4, 3) := by decide +kernel
theorem dX2_canHold_58 : decode cX2_canHold 58 = .ok (.iconst 0, 1) := by decide +kernel
theorem dX2_canHold_59 : decode cX2_canHold 59 = .ok (.ireturn, 1) := by decide +kernel
theorem dX2_canHold_60 : decode cX2_canHold 60 = .ok (.iload_n 1, 1) := by decide +kernel
theorem dX2_canHold_61 : decode cX2_canHold 61 = .ok (.iconst 5, 1) := by decide +kernel
theorem dX2_canHold_62 : decode cX2_canHold 62 = .ok (.if_icmp .ne 7, 3) := by decide +kernel
theorem dX2_canHold_65 : decode cX2_canHold 65 = .ok (.iconst 1, 1) := by decide +kernel
theorem dX2_canHold_66 : decode cX2_canHold 66 = .ok (.goto 4, 3) := by decide +kernel
theorem dX2_canHold_69 : decode cX2_canHold 69 = .ok (.iconst 0, 1) := by decide +kernel
theorem dX2_canHold_70 : decode cX2_canHold 70 = .ok (.ireturn, 1) := by decide +kernel
theorem dX2_canHold_71 : decode cX2_canHold 71 = .ok (.iconst 1, 1) := by decide +kernel
theorem dX2_canHold_72 : decode cX2_canHold 72 = .ok (.ireturn, 1) := by decide +kernel
set_option maxRecDepth 20000 in
theorem ggX2_lay_X2_isSlot : GoodIn wsX2_lay wsX2_isSlot := goodIn_r _ [9, 10, 11, 8, 12] (by decide +kernel) (by decide +kernel)
set_option maxRecDepth 20000 in
theorem gX2_lay_X2_isSlot : GoodIn wsX2_lay (va_wsS RX2 57 yX2_isSlot wsX2_isSlot) := goodIn_app (goodIn_of _ (by decide +kernel)) ggX2_lay_X2_isSlot
set_option maxRecDepth 20000 in
theorem ggX2_lay_X2_fails : GoodIn wsX2_lay wsX2_fails := goodIn_r _ [16, 1, 37, 38, 39, 40, 41, 42, 43, 44, 45, 46] (by decide +kernel) (by decide +kernel)
set_option maxRecDepth 20000 in
theorem gX2_lay_X2_fails : GoodIn wsX2_lay (wsV RX2 52 RX2 yX2_fails wsX2_fails) := goodIn_app (goodIn_of _ (by decide +kernel)) ggX2_lay_X2_fails
set_option maxRecDepth 20000 in
theorem ggX2_lay_X2_holdsThings : GoodIn wsX2_lay wsX2_holdsThings := goodIn_r _ [19, 10, 11, 8, 12] (by decide +kernel) (by decide +kernel)
set_option maxRecDepth 20000 in
theorem gX2_lay_X2_holdsThings : GoodIn wsX2_lay (va_wsS RX2 64 yX2_holdsThings wsX2_holdsThings) := goodIn_app (goodIn_of _ (by decide +kernel)) ggX2_lay_X2_holdsThings
set_option maxRecDepth 20000 in
theorem ggX2_lay_X2_turns : GoodIn wsX2_lay wsX2_turns := goodIn_r _ [23, 24, 25, 26, 8, 27, 28, 29, 30, 13, 14, 15, 16, 1, 37, 38, 39, 40, 41, 42, 43, 44, 45, 46] (by decide +kernel) (by decide +kernel)
set_option maxRecDepth 20000 in
theorem gX2_lay_X2_turns : GoodIn wsX2_lay (wsV RX2 87 RX2 yX2_turns wsX2_turns) := goodIn_app (goodIn_of _ (by decide +kernel)) ggX2_lay_X2_turns
set_option maxRecDepth 20000 in
theorem ggX2_lay_X2_goes : GoodIn wsX2_lay wsX2_goes := goodIn_r _ [33] (by decide +kernel) (by decide +kernel)
set_option maxRecDepth 20000 in
theorem gX2_lay_X2_goes : GoodIn wsX2_lay (va_wsS RX2 38 yX2_goes wsX2_goes) := goodIn_app (goodIn_of _ (by decide +kernel)) ggX2_lay_X2_goes
set_option maxRecDepth 20000 in
theorem ggX2_lay_X2_isIn : GoodIn wsX2_lay wsX2_isIn := goodIn_r _ [12] (by decide +kernel) (by decide +kernel)
set_option maxRecDepth 20000 in
theorem gX2_lay_X2_isIn : GoodIn wsX2_lay (va_wsS RX2 34 yX2_isIn wsX2_isIn) := goodIn_app (goodIn_of _ (by decide +kernel)) ggX2_lay_X2_isIn
set_option maxRecDepth 20000 in
theorem ggX2_lay_X2_canHold : GoodIn wsX2_lay wsX2_canHold := goodIn_r _ [36] (by decide +kernel) (by decide +kernel)
set_option maxRecDepth 20000 in
theorem gX2_lay_X2_canHold : GoodIn wsX2_lay (va_wsS RX2 101 yX2_canHold wsX2_canHold) := goodIn_app (goodIn_of _ (by decide +kernel)) ggX2_lay_X2_canHold
theorem dX2_lay_0 : decode cX2_lay 0 = .ok (.aload_n 0, 1) := by decide +kernel
theorem dX2_lay_1 : decode cX2_lay 1 = .ok (.iconst 0, 1) := by decide +kernel
theorem dX2_lay_2 : decode cX2_lay 2 = .ok (.putfield 42, 3) := by decide +kernel
theorem dX2_lay_5 : decode cX2_lay 5 = .ok (.iload_n 1, 1) := by decide +kernel
theorem dX2_lay_6 : decode cX2_lay 6 = .ok (.invokestatic 57, 3) := by decide +kernel
theorem dX2_lay_9 : decode cX2_lay 9 = .ok (.ifCond .eq 10, 3) := by decide +kernel
theorem dX2_lay_12 : decode cX2_lay 12 = .ok (.iload_n 3, 1) := by decide +kernel
theorem dX2_lay_13 : decode cX2_lay 13 = .ok (.invokestatic 57, 3) := by decide +kernel
theorem dX2_lay_16 : decode cX2_lay 16 = .ok (.ifCond .ne 6, 3) := by decide +kernel
theorem dX2_lay_19 : decode cX2_lay 19 = .ok (.bipush (-2), 2) := by decide +kernel
theorem dX2_lay_21 : decode cX2_lay 21 = .ok (.ireturn, 1) := by decide +kernel
theorem dX2_lay_22 : decode cX2_lay 22 = .ok (.aload_n 0, 1) := by decide +kernel
theorem dX2_lay_23 : decode cX2_lay 23 = .ok (.getfield 24, 3) := by decide +kernel
theorem dX2_lay_26 : decode cX2_lay 26 = .ok (.iload_n 1, 1) := by decide +kernel
theorem dX2_lay_27 : decode cX2_lay 27 = .ok (.iaload, 1) := by decide +kernel
theorem dX2_lay_28 : decode cX2_lay 28 = .ok (.istore 4, 2) := by decide +kernel
theorem dX2_lay_30 : decode cX2_lay 30 = .ok (.aload_n 0, 1) := by decide +kernel
theorem dX2_lay_31 : decode cX2_lay 31 = .ok (.getfield 24, 3) := by decide +kernel
theorem dX2_lay_34 : decode cX2_lay 34 = .ok (.iload_n 3, 1) := by decide +kernel
theorem dX2_lay_35 : decode cX2_lay 35 = .ok (.iaload, 1) := by decide +kernel
theorem dX2_lay_36 : decode cX2_lay 36 = .ok (.istore 5, 2) := by decide +kernel
theorem dX2_lay_38 : decode cX2_lay 38 = .ok (.iload 4, 2) := by decide +kernel
theorem dX2_lay_40 : decode cX2_lay 40 = .ok (.iconst (-1), 1) := by decide +kernel
theorem dX2_lay_41 : decode cX2_lay 41 = .ok (.if_icmp .ne 9, 3) := by decide +kernel
theorem dX2_lay_44 : decode cX2_lay 44 = .ok (.aload_n 0, 1) := by decide +kernel
theorem dX2_lay_45 : decode cX2_lay 45 = .ok (.iconst 2, 1) := by decide +kernel
theorem dX2_lay_46 : decode cX2_lay 46 = .ok (.invokevirtual 52, 3) := by decide +kernel
theorem dX2_lay_49 : decode cX2_lay 49 = .ok (.ireturn, 1) := by decide +kernel
theorem dX2_lay_50 : decode cX2_lay 50 = .ok (.aload_n 0, 1) := by decide +kernel
theorem dX2_lay_51 : decode cX2_lay 51 = .ok (.getfield 7, 3) := by decide +kernel
theorem dX2_lay_54 : decode cX2_lay 54 = .ok (.iload 4, 2) := by decide +kernel
theorem dX2_lay_56 : decode cX2_lay 56 = .ok (.iaload, 1) := by decide +kernel
theorem dX2_lay_57 : decode cX2_lay 57 = .ok (.invokestatic 64, 3) := by decide +kernel
theorem dX2_lay_60 : decode cX2_lay 60 = .ok (.ifCond .ne 11, 3) := by decide +kernel
theorem dX2_lay_63 : decode cX2_lay 63 = .ok (.aload_n 0, 1) := by decide +kernel
theorem dX2_lay_64 : decode cX2_lay 64 = .ok (.iload_n 1, 1) := by decide +kernel
theorem dX2_lay_65 : decode cX2_lay 65 = .ok (.bipush 6, 2) := by decide +kernel
theorem dX2_lay_67 : decode cX2_lay 67 = .ok (.invokevirtual 87, 3) := by decide +kernel
theorem dX2_lay_70 : decode cX2_lay 70 = .ok (.ireturn, 1) := by decide +kernel
theorem dX2_lay_71 : decode cX2_lay 71 = .ok (.aload_n 0, 1) := by decide +kernel
theorem dX2_lay_72 : decode cX2_lay 72 = .ok (.getfield 7, 3) := by decide +kernel
theorem dX2_lay_75 : decode cX2_lay 75 = .ok (.iload 4, 2) := by decide +kernel
theorem dX2_lay_77 : decode cX2_lay 77 = .ok (.iaload, 1) := by decide +kernel
theorem dX2_lay_78 : decode cX2_lay 78 = .ok (.iconst 3, 1) := by decide +kernel
theorem dX2_lay_79 : decode cX2_lay 79 = .ok (.if_icmp .ne 7, 3) := by decide +kernel
theorem dX2_lay_82 : decode cX2_lay 82 = .ok (.iconst 0, 1) := by decide +kernel
theorem dX2_lay_83 : decode cX2_lay 83 = .ok (.goto 33, 3) := by decide +kernel
theorem dX2_lay_86 : decode cX2_lay 86 = .ok (.aload_n 0, 1) := by decide +kernel
theorem dX2_lay_87 : decode cX2_lay 87 = .ok (.getfield 7, 3) := by decide +kernel
theorem dX2_lay_90 : decode cX2_lay 90 = .ok (.iload 4, 2) := by decide +kernel
theorem dX2_lay_92 : decode cX2_lay 92 = .ok (.iaload, 1) := by decide +kernel
theorem dX2_lay_93 : decode cX2_lay 93 = .ok (.bipush 7, 2) := by decide +kernel
theorem dX2_lay_95 : decode cX2_lay 95 = .ok (.if_icmp .eq 15, 3) := by decide +kernel
theorem dX2_lay_98 : decode cX2_lay 98 = .ok (.aload_n 0, 1) := by decide +kernel
theorem dX2_lay_99 : decode cX2_lay 99 = .ok (.getfield 7, 3) := by decide +kernel
theorem dX2_lay_102 : decode cX2_lay 102 = .ok (.iload 4, 2) := by decide +kernel
theorem dX2_lay_104 : decode cX2_lay 104 = .ok (.iaload, 1) := by decide +kernel
theorem dX2_lay_105 : decode cX2_lay 105 = .ok (.bipush 8, 2) := by decide +kernel
theorem dX2_lay_107 : decode cX2_lay 107 = .ok (.if_icmp .ne 7, 3) := by decide +kernel
theorem dX2_lay_110 : decode cX2_lay 110 = .ok (.iconst 4, 1) := by decide +kernel
theorem dX2_lay_111 : decode cX2_lay 111 = .ok (.goto 5, 3) := by decide +kernel
theorem dX2_lay_114 : decode cX2_lay 114 = .ok (.bipush 12, 2) := by decide +kernel
theorem dX2_lay_116 : decode cX2_lay 116 = .ok (.istore 6, 2) := by decide +kernel
theorem dX2_lay_118 : decode cX2_lay 118 = .ok (.iload 5, 2) := by decide +kernel
theorem dX2_lay_120 : decode cX2_lay 120 = .ok (.iconst (-1), 1) := by decide +kernel
theorem dX2_lay_121 : decode cX2_lay 121 = .ok (.if_icmp .eq 26, 3) := by decide +kernel
theorem dX2_lay_124 : decode cX2_lay 124 = .ok (.aload_n 0, 1) := by decide +kernel
theorem dX2_lay_125 : decode cX2_lay 125 = .ok (.getfield 7, 3) := by decide +kernel
theorem dX2_lay_128 : decode cX2_lay 128 = .ok (.iload 5, 2) := by decide +kernel
theorem dX2_lay_130 : decode cX2_lay 130 = .ok (.iaload, 1) := by decide +kernel
theorem dX2_lay_131 : decode cX2_lay 131 = .ok (.iload 6, 2) := by decide +kernel
theorem dX2_lay_133 : decode cX2_lay 133 = .ok (.invokestatic 38, 3) := by decide +kernel
theorem dX2_lay_136 : decode cX2_lay 136 = .ok (.ifCond .ne 11, 3) := by decide +kernel
theorem dX2_lay_139 : decode cX2_lay 139 = .ok (.aload_n 0, 1) := by decide +kernel
theorem dX2_lay_140 : decode cX2_lay 140 = .ok (.iload_n 3, 1) := by decide +kernel
theorem dX2_lay_141 : decode cX2_lay 141 = .ok (.iload 6, 2) := by decide +kernel
theorem dX2_lay_143 : decode cX2_lay 143 = .ok (.invokevirtual 87, 3) := by decide +kernel
theorem dX2_lay_146 : decode cX2_lay 146 = .ok (.ireturn, 1) := by decide +kernel
theorem dX2_lay_147 : decode cX2_lay 147 = .ok (.iload_n 2, 1) := by decide +kernel
theorem dX2_lay_148 : decode cX2_lay 148 = .ok (.iconst 0, 1) := by decide +kernel
theorem dX2_lay_149 : decode cX2_lay 149 = .ok (.aload_n 0, 1) := by decide +kernel
theorem dX2_lay_150 : decode cX2_lay 150 = .ok (.getfield 13, 3) := by decide +kernel
theorem dX2_lay_153 : decode cX2_lay 153 = .ok (.iload 4, 2) := by decide +kernel
theorem dX2_lay_155 : decode cX2_lay 155 = .ok (.iaload, 1) := by decide +kernel
theorem dX2_lay_156 : decode cX2_lay 156 = .ok (.iconst 1, 1) := by decide +kernel
theorem dX2_lay_157 : decode cX2_lay 157 = .ok (.isub, 1) := by decide +kernel
theorem dX2_lay_158 : decode cX2_lay 158 = .ok (.invokestatic 34, 3) := by decide +kernel
theorem dX2_lay_161 : decode cX2_lay 161 = .ok (.ifCond .ne 9, 3) := by decide +kernel
theorem dX2_lay_164 : decode cX2_lay 164 = .ok (.aload_n 0, 1) := by decide +kernel
theorem dX2_lay_165 : decode cX2_lay 165 = .ok (.iconst 3, 1) := by decide +kernel
theorem dX2_lay_166 : decode cX2_lay 166 = .ok (.invokevirtual 52, 3) := by decide +kernel
theorem dX2_lay_169 : decode cX2_lay 169 = .ok (.ireturn, 1) := by decide +kernel
theorem dX2_lay_170 : decode cX2_lay 170 = .ok (.iload 5, 2) := by decide +kernel
theorem dX2_lay_172 : decode cX2_lay 172 = .ok (.iconst (-1), 1) := by decide +kernel
theorem dX2_lay_173 : decode cX2_lay 173 = .ok (.if_icmp .eq 29, 3) := by decide +kernel
theorem dX2_lay_176 : decode cX2_lay 176 = .ok (.aload_n 0, 1) := by decide +kernel
theorem dX2_lay_177 : decode cX2_lay 177 = .ok (.getfield 7, 3) := by decide +kernel
theorem dX2_lay_180 : decode cX2_lay 180 = .ok (.iload 4, 2) := by decide +kernel
theorem dX2_lay_182 : decode cX2_lay 182 = .ok (.iaload, 1) := by decide +kernel
theorem dX2_lay_183 : decode cX2_lay 183 = .ok (.aload_n 0, 1) := by decide +kernel
theorem dX2_lay_184 : decode cX2_lay 184 = .ok (.getfield 7, 3) := by decide +kernel
theorem dX2_lay_187 : decode cX2_lay 187 = .ok (.iload 5, 2) := by decide +kernel
theorem dX2_lay_189 : decode cX2_lay 189 = .ok (.iaload, 1) := by decide +kernel
theorem dX2_lay_190 : decode cX2_lay 190 = .ok (.invokestatic 101, 3) := by decide +kernel
theorem dX2_lay_193 : decode cX2_lay 193 = .ok (.ifCond .ne 9, 3) := by decide +kernel
theorem dX2_lay_196 : decode cX2_lay 196 = .ok (.aload_n 0, 1) := by decide +kernel
theorem dX2_lay_197 : decode cX2_lay 197 = .ok (.iconst 5, 1) := by decide +kernel
theorem dX2_lay_198 : decode cX2_lay 198 = .ok (.invokevirtual 52, 3) := by decide +kernel
theorem dX2_lay_201 : decode cX2_lay 201 = .ok (.ireturn, 1) := by decide +kernel
theorem dX2_lay_202 : decode cX2_lay 202 = .ok (.aload_n 0, 1) := by decide +kernel
theorem dX2_lay_203 : decode cX2_lay 203 = .ok (.getfield 20, 3) := by decide +kernel
theorem dX2_lay_206 : decode cX2_lay 206 = .ok (.bipush 8, 2) := by decide +kernel
theorem dX2_lay_208 : decode cX2_lay 208 = .ok (.iload 4, 2) := by decide +kernel
theorem dX2_lay_210 : decode cX2_lay 210 = .ok (.imul, 1) := by decide +kernel
theorem dX2_lay_211 : decode cX2_lay 211 = .ok (.iload_n 2, 1) := by decide +kernel
theorem dX2_lay_212 : decode cX2_lay 212 = .ok (.iadd, 1) := by decide +kernel
theorem dX2_lay_213 : decode cX2_lay 213 = .ok (.iload 5, 2) := by decide +kernel
theorem dX2_lay_215 : decode cX2_lay 215 = .ok (.i2l, 1) := by decide +kernel
theorem dX2_lay_216 : decode cX2_lay 216 = .ok (.lastore, 1) := by decide +kernel
theorem dX2_lay_217 : decode cX2_lay 217 = .ok (.iconst 1, 1) := by decide +kernel
theorem dX2_lay_218 : decode cX2_lay 218 = .ok (.ireturn, 1) := by decide +kernel
set_option maxRecDepth 20000 in
theorem ggX2_take_X2_isSlot : GoodIn wsX2_take wsX2_isSlot := goodIn_r _ [9, 10, 11, 8, 12] (by decide +kernel) (by decide +kernel)
set_option maxRecDepth 20000 in
theorem gX2_take_X2_isSlot : GoodIn wsX2_take (va_wsS RX2 57 yX2_isSlot wsX2_isSlot) := goodIn_app (goodIn_of _ (by decide +kernel)) ggX2_take_X2_isSlot
set_option maxRecDepth 20000 in
theorem ggX2_take_X2_fails : GoodIn wsX2_take wsX2_fails := goodIn_r _ [16, 1, 31, 32, 33, 34, 35, 36, 37, 38, 39, 40] (by decide +kernel) (by decide +kernel)
set_option maxRecDepth 20000 in
theorem gX2_take_X2_fails : GoodIn wsX2_take (wsV RX2 52 RX2 yX2_fails wsX2_fails) := goodIn_app (goodIn_of _ (by decide +kernel)) ggX2_take_X2_fails
set_option maxRecDepth 20000 in
theorem ggX2_take_X2_holdsThings : GoodIn wsX2_take wsX2_holdsThings := goodIn_r _ [19, 10, 11, 8, 12] (by decide +kernel) (by decide +kernel)
set_option maxRecDepth 20000 in
theorem gX2_take_X2_holdsThings : GoodIn wsX2_take (va_wsS RX2 64 yX2_holdsThings wsX2_holdsThings) := goodIn_app (goodIn_of _ (by decide +kernel)) ggX2_take_X2_holdsThings
set_option maxRecDepth 20000 in
theorem ggX2_take_X2_turns : GoodIn wsX2_take wsX2_turns := goodIn_r _ [23, 24, 25, 26, 8, 27, 28, 29, 30, 13, 14, 15, 16, 1, 31, 32, 33, 34, 35, 36, 37, 38, 39, 40] (by decide +kernel) (by decide +kernel)
set_option maxRecDepth 20000 in
theorem gX2_take_X2_turns : GoodIn wsX2_take (wsV RX2 87 RX2 yX2_turns wsX2_turns) := goodIn_app (goodIn_of _ (by decide +kernel)) ggX2_take_X2_turns
set_option maxRecDepth 20000 in
theorem ggX2_take_X2_isIn : GoodIn wsX2_take wsX2_isIn := goodIn_r _ [12] (by decide +kernel) (by decide +kernel)
set_option maxRecDepth 20000 in
theorem gX2_take_X2_isIn : GoodIn wsX2_take (va_wsS RX2 34 yX2_isIn wsX2_isIn) := goodIn_app (goodIn_of _ (by decide +kernel)) ggX2_take_X2_isIn
theorem dX2_take_0 : decode cX2_take 0 = .ok (.aload_n 0, 1) := by decide +kernel
theorem dX2_take_1 : decode cX2_take 1 = .ok (.iconst 0, 1) := by decide +kernel
theorem dX2_take_2 : decode cX2_take 2 = .ok (.putfield 42, 3) := by decide +kernel
theorem dX2_take_5 : decode cX2_take 5 = .ok (.iload_n 1, 1) := by decide +kernel
theorem dX2_take_6 : decode cX2_take 6 = .ok (.invokestatic 57, 3) := by decide +kernel
theorem dX2_take_9 : decode cX2_take 9 = .ok (.ifCond .eq 10, 3) := by decide +kernel
theorem dX2_take_12 : decode cX2_take 12 = .ok (.iload_n 3, 1) := by decide +kernel
theorem dX2_take_13 : decode cX2_take 13 = .ok (.invokestatic 57, 3) := by decide +kernel
theorem dX2_take_16 : decode cX2_take 16 = .ok (.ifCond .ne 6, 3) := by decide +kernel
theorem dX2_take_19 : decode cX2_take 19 = .ok (.bipush (-2), 2) := by decide +kernel
theorem dX2_take_21 : decode cX2_take 21 = .ok (.ireturn, 1) := by decide +kernel
theorem dX2_take_22 : decode cX2_take 22 = .ok (.aload_n 0, 1) := by decide +kernel
theorem dX2_take_23 : decode cX2_take 23 = .ok (.getfield 24, 3) := by decide +kernel
theorem dX2_take_26 : decode cX2_take 26 = .ok (.iload_n 1, 1) := by decide +kernel
theorem dX2_take_27 : decode cX2_take 27 = .ok (.iaload, 1) := by decide +kernel
theorem dX2_take_28 : decode cX2_take 28 = .ok (.istore 4, 2) := by decide +kernel
theorem dX2_take_30 : decode cX2_take 30 = .ok (.iload 4, 2) := by decide +kernel
theorem dX2_take_32 : decode cX2_take 32 = .ok (.iconst (-1), 1) := by decide +kernel
theorem dX2_take_33 : decode cX2_take 33 = .ok (.if_icmp .ne 9, 3) := by decide +kernel
theorem dX2_take_36 : decode cX2_take 36 = .ok (.aload_n 0, 1) := by decide +kernel
theorem dX2_take_37 : decode cX2_take 37 = .ok (.iconst 2, 1) := by decide +kernel
theorem dX2_take_38 : decode cX2_take 38 = .ok (.invokevirtual 52, 3) := by decide +kernel
theorem dX2_take_41 : decode cX2_take 41 = .ok (.ireturn, 1) := by decide +kernel
theorem dX2_take_42 : decode cX2_take 42 = .ok (.aload_n 0, 1) := by decide +kernel
theorem dX2_take_43 : decode cX2_take 43 = .ok (.getfield 7, 3) := by decide +kernel
theorem dX2_take_46 : decode cX2_take 46 = .ok (.iload 4, 2) := by decide +kernel
theorem dX2_take_48 : decode cX2_take 48 = .ok (.iaload, 1) := by decide +kernel
theorem dX2_take_49 : decode cX2_take 49 = .ok (.invokestatic 64, 3) := by decide +kernel
theorem dX2_take_52 : decode cX2_take 52 = .ok (.ifCond .ne 11, 3) := by decide +kernel
theorem dX2_take_55 : decode cX2_take 55 = .ok (.aload_n 0, 1) := by decide +kernel
theorem dX2_take_56 : decode cX2_take 56 = .ok (.iload_n 1, 1) := by decide +kernel
theorem dX2_take_57 : decode cX2_take 57 = .ok (.bipush 6, 2) := by decide +kernel
theorem dX2_take_59 : decode cX2_take 59 = .ok (.invokevirtual 87, 3) := by decide +kernel
theorem dX2_take_62 : decode cX2_take 62 = .ok (.ireturn, 1) := by decide +kernel
theorem dX2_take_63 : decode cX2_take 63 = .ok (.iload_n 2, 1) := by decide +kernel
theorem dX2_take_64 : decode cX2_take 64 = .ok (.iconst 0, 1) := by decide +kernel
theorem dX2_take_65 : decode cX2_take 65 = .ok (.aload_n 0, 1) := by decide +kernel
theorem dX2_take_66 : decode cX2_take 66 = .ok (.getfield 13, 3) := by decide +kernel
theorem dX2_take_69 : decode cX2_take 69 = .ok (.iload 4, 2) := by decide +kernel
theorem dX2_take_71 : decode cX2_take 71 = .ok (.iaload, 1) := by decide +kernel
theorem dX2_take_72 : decode cX2_take 72 = .ok (.iconst 1, 1) := by decide +kernel
theorem dX2_take_73 : decode cX2_take 73 = .ok (.isub, 1) := by decide +kernel
theorem dX2_take_74 : decode cX2_take 74 = .ok (.invokestatic 34, 3) := by decide +kernel
theorem dX2_take_77 : decode cX2_take 77 = .ok (.ifCond .ne 9, 3) := by decide +kernel
theorem dX2_take_80 : decode cX2_take 80 = .ok (.aload_n 0, 1) := by decide +kernel
theorem dX2_take_81 : decode cX2_take 81 = .ok (.iconst 3, 1) := by decide +kernel
theorem dX2_take_82 : decode cX2_take 82 = .ok (.invokevirtual 52, 3) := by decide +kernel
theorem dX2_take_85 : decode cX2_take 85 = .ok (.ireturn, 1) := by decide +kernel
theorem dX2_take_86 : decode cX2_take 86 = .ok (.aload_n 0, 1) := by decide +kernel
theorem dX2_take_87 : decode cX2_take 87 = .ok (.getfield 24, 3) := by decide +kernel
theorem dX2_take_90 : decode cX2_take 90 = .ok (.iload_n 3, 1) := by decide +kernel
theorem dX2_take_91 : decode cX2_take 91 = .ok (.aload_n 0, 1) := by decide +kernel
theorem dX2_take_92 : decode cX2_take 92 = .ok (.getfield 20, 3) := by decide +kernel
theorem dX2_take_95 : decode cX2_take 95 = .ok (.bipush 8, 2) := by decide +kernel
theorem dX2_take_97 : decode cX2_take 97 = .ok (.iload 4, 2) := by decide +kernel
theorem dX2_take_99 : decode cX2_take 99 = .ok (.imul, 1) := by decide +kernel
theorem dX2_take_100 : decode cX2_take 100 = .ok (.iload_n 2, 1) := by decide +kernel
theorem dX2_take_101 : decode cX2_take 101 = .ok (.iadd, 1) := by decide +kernel
theorem dX2_take_102 : decode cX2_take 102 = .ok (.laload, 1) := by decide +kernel
theorem dX2_take_103 : decode cX2_take 103 = .ok (.l2i, 1) := by decide +kernel
theorem dX2_take_104 : decode cX2_take 104 = .ok (.iastore, 1) := by decide +kernel
theorem dX2_take_105 : decode cX2_take 105 = .ok (.aload_n 0, 1) := by decide +kernel
theorem dX2_take_106 : decode cX2_take 106 = .ok (.getfield 24, 3) := by decide +kernel
theorem dX2_take_109 : decode cX2_take 109 = .ok (.iload_n 3, 1) := by decide +kernel
theorem dX2_take_110 : decode cX2_take 110 = .ok (.iaload, 1) := by decide +kernel
theorem dX2_take_111 : decode cX2_take 111 = .ok (.ireturn, 1) := by decide +kernel
set_option maxRecDepth 20000 in
theorem ggX2_share_X2_isSlot : GoodIn wsX2_share wsX2_isSlot := goodIn_r _ [6, 7, 8, 5, 9] (by decide +kernel) (by decide +kernel)
set_option maxRecDepth 20000 in
theorem gX2_share_X2_isSlot : GoodIn wsX2_share (va_wsS RX2 57 yX2_isSlot wsX2_isSlot) := goodIn_app (goodIn_of _ (by decide +kernel)) ggX2_share_X2_isSlot
theorem dX2_share_0 : decode cX2_share 0 = .ok (.aload_n 0, 1) := by decide +kernel
theorem dX2_share_1 : decode cX2_share 1 = .ok (.iconst 0, 1) := by decide +kernel
theorem dX2_share_2 : decode cX2_share 2 = .ok (.putfield 42, 3) := by decide +kernel
theorem dX2_share_5 : decode cX2_share 5 = .ok (.iload_n 1, 1) := by decide +kernel
theorem dX2_share_6 : decode cX2_share 6 = .ok (.invokestatic 57, 3) := by decide +kernel
theorem dX2_share_9 : decode cX2_share 9 = .ok (.ifCond .eq 10, 3) := by decide +kernel
theorem dX2_share_12 : decode cX2_share 12 = .ok (.iload_n 2, 1) := by decide +kernel
theorem dX2_share_13 : decode cX2_share 13 = .ok (.invokestatic 57, 3) := by decide +kernel
theorem dX2_share_16 : decode cX2_share 16 = .ok (.ifCond .ne 6, 3) := by decide +kernel
theorem dX2_share_19 : decode cX2_share 19 = .ok (.bipush (-2), 2) := by decide +kernel
theorem dX2_share_21 : decode cX2_share 21 = .ok (.ireturn, 1) := by decide +kernel
theorem dX2_share_22 : decode cX2_share 22 = .ok (.aload_n 0, 1) := by decide +kernel
theorem dX2_share_23 : decode cX2_share 23 = .ok (.getfield 24, 3) := by decide +kernel
theorem dX2_share_26 : decode cX2_share 26 = .ok (.iload_n 2, 1) := by decide +kernel
theorem dX2_share_27 : decode cX2_share 27 = .ok (.aload_n 0, 1) := by decide +kernel
theorem dX2_share_28 : decode cX2_share 28 = .ok (.getfield 24, 3) := by decide +kernel
theorem dX2_share_31 : decode cX2_share 31 = .ok (.iload_n 1, 1) := by decide +kernel
theorem dX2_share_32 : decode cX2_share 32 = .ok (.iaload, 1) := by decide +kernel
theorem dX2_share_33 : decode cX2_share 33 = .ok (.iastore, 1) := by decide +kernel
theorem dX2_share_34 : decode cX2_share 34 = .ok (.aload_n 0, 1) := by decide +kernel
theorem dX2_share_35 : decode cX2_share 35 = .ok (.getfield 24, 3) := by decide +kernel
theorem dX2_share_38 : decode cX2_share 38 = .ok (.iload_n 2, 1) := by decide +kernel
theorem dX2_share_39 : decode cX2_share 39 = .ok (.iaload, 1) := by decide +kernel
theorem dX2_share_40 : decode cX2_share 40 = .ok (.ireturn, 1) := by decide +kernel
set_option maxRecDepth 20000 in
theorem ggX2_empty_X2_isSlot : GoodIn wsX2_empty wsX2_isSlot := goodIn_r _ [6, 7, 8, 5, 9] (by decide +kernel) (by decide +kernel)
set_option maxRecDepth 20000 in
theorem gX2_empty_X2_isSlot : GoodIn wsX2_empty (va_wsS RX2 57 yX2_isSlot wsX2_isSlot) := goodIn_app (goodIn_of _ (by decide +kernel)) ggX2_empty_X2_isSlot
theorem dX2_empty_0 : decode cX2_empty 0 = .ok (.aload_n 0, 1) := by decide +kernel
theorem dX2_empty_1 : decode cX2_empty 1 = .ok (.iconst 0, 1) := by decide +kernel
theorem dX2_empty_2 : decode cX2_empty 2 = .ok (.putfield 42, 3) := by decide +kernel
theorem dX2_empty_5 : decode cX2_empty 5 = .ok (.iload_n 1, 1) := by decide +kernel
theorem dX2_empty_6 : decode cX2_empty 6 = .ok (.invokestatic 57, 3) := by decide +kernel
theorem dX2_empty_9 : decode cX2_empty 9 = .ok (.ifCond .ne 6, 3) := by decide +kernel
theorem dX2_empty_12 : decode cX2_empty 12 = .ok (.bipush (-2), 2) := by decide +kernel
theorem dX2_empty_14 : decode cX2_empty 14 = .ok (.ireturn, 1) := by decide +kernel
theorem dX2_empty_15 : decode cX2_empty 15 = .ok (.aload_n 0, 1) := by decide +kernel
theorem dX2_empty_16 : decode cX2_empty 16 = .ok (.getfield 24, 3) := by decide +kernel
theorem dX2_empty_19 : decode cX2_empty 19 = .ok (.iload_n 1, 1) := by decide +kernel
theorem dX2_empty_20 : decode cX2_empty 20 = .ok (.iaload, 1) := by decide +kernel
theorem dX2_empty_21 : decode cX2_empty 21 = .ok (.istore_n 2, 1) := by decide +kernel
theorem dX2_empty_22 : decode cX2_empty 22 = .ok (.aload_n 0, 1) := by decide +kernel
theorem dX2_empty_23 : decode cX2_empty 23 = .ok (.getfield 24, 3) := by decide +kernel
theorem dX2_empty_26 : decode cX2_empty 26 = .ok (.iload_n 1, 1) := by decide +kernel
theorem dX2_empty_27 : decode cX2_empty 27 = .ok (.iconst (-1), 1) := by decide +kernel
theorem dX2_empty_28 : decode cX2_empty 28 = .ok (.iastore, 1) := by decide +kernel
theorem dX2_empty_29 : decode cX2_empty 29 = .ok (.iload_n 2, 1) := by decide +kernel
theorem dX2_empty_30 : decode cX2_empty 30 = .ok (.ireturn, 1) := by decide +kernel
set_option maxRecDepth 20000 in
theorem ggX2_isLetThrough_X2_fails : GoodIn wsX2_isLetThrough wsX2_fails := goodIn_r _ [7, 2, 27, 28, 29, 30, 31, 32, 33, 34, 35, 36] (by decide +kernel) (by decide +kernel)
set_option maxRecDepth 20000 in
theorem gX2_isLetThrough_X2_fails : GoodIn wsX2_isLetThrough (wsV RX2 52 RX2 yX2_fails wsX2_fails) := goodIn_app (goodIn_of _ (by decide +kernel)) ggX2_isLetThrough_X2_fails
set_option maxRecDepth 20000 in
theorem ggX2_isLetThrough_X2_fitsAt : GoodIn wsX2_isLetThrough wsX2_fitsAt := goodIn_r _ [11, 1, 12, 13, 14, 6, 15, 27, 28, 29, 30, 31, 32, 33, 34, 35, 36] (by decide +kernel) (by decide +kernel)
set_option maxRecDepth 20000 in
theorem gX2_isLetThrough_X2_fitsAt : GoodIn wsX2_isLetThrough (wsV RX2 69 RX2 yX2_fitsAt wsX2_fitsAt) := goodIn_app (goodIn_of _ (by decide +kernel)) ggX2_isLetThrough_X2_fitsAt
set_option maxRecDepth 20000 in
theorem ggX2_isLetThrough_X2_turns : GoodIn wsX2_isLetThrough wsX2_turns := goodIn_r _ [19, 20, 21, 22, 6, 23, 24, 25, 26, 3, 4, 5, 7, 2, 27, 28, 29, 30, 31, 32, 33, 34, 35, 36] (by decide +kernel) (by decide +kernel)
set_option maxRecDepth 20000 in
theorem gX2_isLetThrough_X2_turns : GoodIn wsX2_isLetThrough (wsV RX2 87 RX2 yX2_turns wsX2_turns) := goodIn_app (goodIn_of _ (by decide +kernel)) ggX2_isLetThrough_X2_turns
theorem dX2_isLetThrough_0 : decode cX2_isLetThrough 0 = .ok (.aload_n 0, 1) := by decide +kernel
theorem dX2_isLetThrough_1 : decode cX2_isLetThrough 1 = .ok (.getfield 24, 3) := by decide +kernel
theorem dX2_isLetThrough_4 : decode cX2_isLetThrough 4 = .ok (.iload_n 1, 1) := by decide +kernel
theorem dX2_isLetThrough_5 : decode cX2_isLetThrough 5 = .ok (.iaload, 1) := by decide +kernel
theorem dX2_isLetThrough_6 : decode cX2_isLetThrough 6 = .ok (.iconst (-1), 1) := by decide +kernel
theorem dX2_isLetThrough_7 : decode cX2_isLetThrough 7 = .ok (.if_icmp .ne 12, 3) := by decide +kernel
theorem dX2_isLetThrough_10 : decode cX2_isLetThrough 10 = .ok (.aload_n 0, 1) := by decide +kernel
theorem dX2_isLetThrough_11 : decode cX2_isLetThrough 11 = .ok (.iconst 2, 1) := by decide +kernel
theorem dX2_isLetThrough_12 : decode cX2_isLetThrough 12 = .ok (.invokevirtual 52, 3) := by decide +kernel
theorem dX2_isLetThrough_15 : decode cX2_isLetThrough 15 = .ok (.pop, 1) := by decide +kernel
theorem dX2_isLetThrough_16 : decode cX2_isLetThrough 16 = .ok (.goto 19, 3) := by decide +kernel
theorem dX2_isLetThrough_19 : decode cX2_isLetThrough 19 = .ok (.aload_n 0, 1) := by decide +kernel
theorem dX2_isLetThrough_20 : decode cX2_isLetThrough 20 = .ok (.iload_n 1, 1) := by decide +kernel
theorem dX2_isLetThrough_21 : decode cX2_isLetThrough 21 = .ok (.iload_n 2, 1) := by decide +kernel
theorem dX2_isLetThrough_22 : decode cX2_isLetThrough 22 = .ok (.invokevirtual 69, 3) := by decide +kernel
theorem dX2_isLetThrough_25 : decode cX2_isLetThrough 25 = .ok (.ifCond .ne 10, 3) := by decide +kernel
theorem dX2_isLetThrough_28 : decode cX2_isLetThrough 28 = .ok (.aload_n 0, 1) := by decide +kernel
theorem dX2_isLetThrough_29 : decode cX2_isLetThrough 29 = .ok (.iload_n 1, 1) := by decide +kernel
theorem dX2_isLetThrough_30 : decode cX2_isLetThrough 30 = .ok (.iload_n 2, 1) := by decide +kernel
theorem dX2_isLetThrough_31 : decode cX2_isLetThrough 31 = .ok (.invokevirtual 87, 3) := by decide +kernel
theorem dX2_isLetThrough_34 : decode cX2_isLetThrough 34 = .ok (.pop, 1) := by decide +kernel
theorem dX2_isLetThrough_35 : decode cX2_isLetThrough 35 = .ok (.aload_n 0, 1) := by decide +kernel
theorem dX2_isLetThrough_36 : decode cX2_isLetThrough 36 = .ok (.getfield 42, 3) := by decide +kernel
theorem dX2_isLetThrough_39 : decode cX2_isLetThrough 39 = .ok (.ifCond .ne 7, 3) := by decide +kernel
theorem dX2_isLetThrough_42 : decode cX2_isLetThrough 42 = .ok (.iconst 1, 1) := by decide +kernel
theorem dX2_isLetThrough_43 : decode cX2_isLetThrough 43 = .ok (.goto 4, 3) := by decide +kernel
theorem dX2_isLetThrough_46 : decode cX2_isLetThrough 46 = .ok (.iconst 0, 1) := by decide +kernel
theorem dX2_isLetThrough_47 : decode cX2_isLetThrough 47 = .ok (.ireturn, 1) := by decide +kernel
set_option maxRecDepth 20000 in
theorem ggX2_lid_X2_isSlot : GoodIn wsX2_lid wsX2_isSlot := goodIn_r _ [7, 8, 9, 6, 10] (by decide +kernel) (by decide +kernel)
set_option maxRecDepth 20000 in
theorem gX2_lid_X2_isSlot : GoodIn wsX2_lid (va_wsS RX2 57 yX2_isSlot wsX2_isSlot) := goodIn_app (goodIn_of _ (by decide +kernel)) ggX2_lid_X2_isSlot
set_option maxRecDepth 20000 in
theorem ggX2_lid_X2_isLetThrough : GoodIn wsX2_lid wsX2_isLetThrough := goodIn_r _ [14, 3, 1, 15, 16, 17, 6, 18, 19, 20, 21, 22, 23, 24, 25, 26, 27, 28, 29, 30, 31, 32, 33, 34, 35, 36, 37, 38, 39, 40, 41, 42, 43, 44, 45, 46, 47] (by decide +kernel) (by decide +kernel)
set_option maxRecDepth 20000 in
theorem gX2_lid_X2_isLetThrough : GoodIn wsX2_lid (wsV RX2 104 RX2 yX2_isLetThrough wsX2_isLetThrough) := goodIn_app (goodIn_of _ (by decide +kernel)) ggX2_lid_X2_isLetThrough
theorem dX2_lid_0 : decode cX2_lid 0 = .ok (.aload_n 0, 1) := by decide +kernel
theorem dX2_lid_1 : decode cX2_lid 1 = .ok (.iconst 0, 1) := by decide +kernel
theorem dX2_lid_2 : decode cX2_lid 2 = .ok (.putfield 42, 3) := by decide +kernel
theorem dX2_lid_5 : decode cX2_lid 5 = .ok (.iload_n 1, 1) := by decide +kernel
theorem dX2_lid_6 : decode cX2_lid 6 = .ok (.invokestatic 57, 3) := by decide +kernel
theorem dX2_lid_9 : decode cX2_lid 9 = .ok (.ifCond .ne 6, 3) := by decide +kernel
theorem dX2_lid_12 : decode cX2_lid 12 = .ok (.bipush (-2), 2) := by decide +kernel
theorem dX2_lid_14 : decode cX2_lid 14 = .ok (.ireturn, 1) := by decide +kernel
theorem dX2_lid_15 : decode cX2_lid 15 = .ok (.aload_n 0, 1) := by decide +kernel
theorem dX2_lid_16 : decode cX2_lid 16 = .ok (.iload_n 1, 1) := by decide +kernel
theorem dX2_lid_17 : decode cX2_lid 17 = .ok (.bipush 10, 2) := by decide +kernel
theorem dX2_lid_19 : decode cX2_lid 19 = .ok (.invokevirtual 104, 3) := by decide +kernel
theorem dX2_lid_22 : decode cX2_lid 22 = .ok (.ifCond .ne 5, 3) := by decide +kernel
theorem dX2_lid_25 : decode cX2_lid 25 = .ok (.iconst 0, 1) := by decide +kernel
theorem dX2_lid_26 : decode cX2_lid 26 = .ok (.ireturn, 1) := by decide +kernel
theorem dX2_lid_27 : decode cX2_lid 27 = .ok (.aload_n 0, 1) := by decide +kernel
theorem dX2_lid_28 : decode cX2_lid 28 = .ok (.getfield 16, 3) := by decide +kernel
theorem dX2_lid_31 : decode cX2_lid 31 = .ok (.aload_n 0, 1) := by decide +kernel
theorem dX2_lid_32 : decode cX2_lid 32 = .ok (.getfield 24, 3) := by decide +kernel
theorem dX2_lid_35 : decode cX2_lid 35 = .ok (.iload_n 1, 1) := by decide +kernel
theorem dX2_lid_36 : decode cX2_lid 36 = .ok (.iaload, 1) := by decide +kernel
theorem dX2_lid_37 : decode cX2_lid 37 = .ok (.baload, 1) := by decide +kernel
theorem dX2_lid_38 : decode cX2_lid 38 = .ok (.ifCond .eq 7, 3) := by decide +kernel
theorem dX2_lid_41 : decode cX2_lid 41 = .ok (.iconst 1, 1) := by decide +kernel
theorem dX2_lid_42 : decode cX2_lid 42 = .ok (.goto 4, 3) := by decide +kernel
theorem dX2_lid_45 : decode cX2_lid 45 = .ok (.iconst 0, 1) := by decide +kernel
theorem dX2_lid_46 : decode cX2_lid 46 = .ok (.istore_n 3, 1) := by decide +kernel
theorem dX2_lid_47 : decode cX2_lid 47 = .ok (.aload_n 0, 1) := by decide +kernel
theorem dX2_lid_48 : decode cX2_lid 48 = .ok (.getfield 16, 3) := by decide +kernel
theorem dX2_lid_51 : decode cX2_lid 51 = .ok (.aload_n 0, 1) := by decide +kernel
theorem dX2_lid_52 : decode cX2_lid 52 = .ok (.getfield 24, 3) := by decide +kernel
theorem dX2_lid_55 : decode cX2_lid 55 = .ok (.iload_n 1, 1) := by decide +kernel
theorem dX2_lid_56 : decode cX2_lid 56 = .ok (.iaload, 1) := by decide +kernel
theorem dX2_lid_57 : decode cX2_lid 57 = .ok (.iload_n 2, 1) := by decide +kernel
theorem dX2_lid_58 : decode cX2_lid 58 = .ok (.bastore, 1) := by decide +kernel
theorem dX2_lid_59 : decode cX2_lid 59 = .ok (.iload_n 3, 1) := by decide +kernel
theorem dX2_lid_60 : decode cX2_lid 60 = .ok (.ireturn, 1) := by decide +kernel
set_option maxRecDepth 20000 in
theorem ggX2_weigh_X2_isSlot : GoodIn wsX2_weigh wsX2_isSlot := goodIn_r _ [8, 9, 10, 7, 11] (by decide +kernel) (by decide +kernel)
set_option maxRecDepth 20000 in
theorem gX2_weigh_X2_isSlot : GoodIn wsX2_weigh (va_wsS RX2 57 yX2_isSlot wsX2_isSlot) := goodIn_app (goodIn_of _ (by decide +kernel)) ggX2_weigh_X2_isSlot
set_option maxRecDepth 20000 in
theorem ggX2_weigh_X2_isIn : GoodIn wsX2_weigh wsX2_isIn := goodIn_r _ [11] (by decide +kernel) (by decide +kernel)
set_option maxRecDepth 20000 in
theorem gX2_weigh_X2_isIn : GoodIn wsX2_weigh (va_wsS RX2 34 yX2_isIn wsX2_isIn) := goodIn_app (goodIn_of _ (by decide +kernel)) ggX2_weigh_X2_isIn
set_option maxRecDepth 20000 in
theorem ggX2_weigh_X2_isLetThrough : GoodIn wsX2_weigh wsX2_isLetThrough := goodIn_r _ [15, 4, 1, 16, 17, 18, 7, 19, 20, 21, 22, 23, 24, 25, 26, 27, 28, 29, 30, 31, 32, 33, 34, 35, 36, 37, 38, 39, 40, 41, 42, 43, 44, 45, 46, 47, 48] (by decide +kernel) (by decide +kernel)
set_option maxRecDepth 20000 in
theorem gX2_weigh_X2_isLetThrough : GoodIn wsX2_weigh (wsV RX2 104 RX2 yX2_isLetThrough wsX2_isLetThrough) := goodIn_app (goodIn_of _ (by decide +kernel)) ggX2_weigh_X2_isLetThrough
theorem dX2_weigh_0 : decode cX2_weigh 0 = .ok (.aload_n 0, 1) := by decide +kernel
theorem dX2_weigh_1 : decode cX2_weigh 1 = .ok (.iconst 0, 1) := by decide +kernel
theorem dX2_weigh_2 : decode cX2_weigh 2 = .ok (.putfield 42, 3) := by decide +kernel
theorem dX2_weigh_5 : decode cX2_weigh 5 = .ok (.iload_n 1, 1) := by decide +kernel
theorem dX2_weigh_6 : decode cX2_weigh 6 = .ok (.invokestatic 57, 3) := by decide +kernel
theorem dX2_weigh_9 : decode cX2_weigh 9 = .ok (.ifCond .eq 13, 3) := by decide +kernel
theorem dX2_weigh_12 : decode cX2_weigh 12 = .ok (.iload_n 2, 1) := by decide +kernel
theorem dX2_weigh_13 : decode cX2_weigh 13 = .ok (.iconst 0, 1) := by decide +kernel
theorem dX2_weigh_14 : decode cX2_weigh 14 = .ok (.ldc 56, 2) := by decide +kernel
theorem dX2_weigh_16 : decode cX2_weigh 16 = .ok (.invokestatic 34, 3) := by decide +kernel
theorem dX2_weigh_19 : decode cX2_weigh 19 = .ok (.ifCond .ne 6, 3) := by decide +kernel
theorem dX2_weigh_22 : decode cX2_weigh 22 = .ok (.bipush (-2), 2) := by decide +kernel
theorem dX2_weigh_24 : decode cX2_weigh 24 = .ok (.ireturn, 1) := by decide +kernel
theorem dX2_weigh_25 : decode cX2_weigh 25 = .ok (.aload_n 0, 1) := by decide +kernel
theorem dX2_weigh_26 : decode cX2_weigh 26 = .ok (.iload_n 1, 1) := by decide +kernel
theorem dX2_weigh_27 : decode cX2_weigh 27 = .ok (.bipush 9, 2) := by decide +kernel
theorem dX2_weigh_29 : decode cX2_weigh 29 = .ok (.invokevirtual 104, 3) := by decide +kernel
theorem dX2_weigh_32 : decode cX2_weigh 32 = .ok (.ifCond .ne 5, 3) := by decide +kernel
theorem dX2_weigh_35 : decode cX2_weigh 35 = .ok (.iconst 0, 1) := by decide +kernel
theorem dX2_weigh_36 : decode cX2_weigh 36 = .ok (.ireturn, 1) := by decide +kernel
theorem dX2_weigh_37 : decode cX2_weigh 37 = .ok (.aload_n 0, 1) := by decide +kernel
theorem dX2_weigh_38 : decode cX2_weigh 38 = .ok (.getfield 13, 3) := by decide +kernel
theorem dX2_weigh_41 : decode cX2_weigh 41 = .ok (.aload_n 0, 1) := by decide +kernel
theorem dX2_weigh_42 : decode cX2_weigh 42 = .ok (.getfield 24, 3) := by decide +kernel
theorem dX2_weigh_45 : decode cX2_weigh 45 = .ok (.iload_n 1, 1) := by decide +kernel
theorem dX2_weigh_46 : decode cX2_weigh 46 = .ok (.iaload, 1) := by decide +kernel
theorem dX2_weigh_47 : decode cX2_weigh 47 = .ok (.iaload, 1) := by decide +kernel
theorem dX2_weigh_48 : decode cX2_weigh 48 = .ok (.istore_n 3, 1) := by decide +kernel
theorem dX2_weigh_49 : decode cX2_weigh 49 = .ok (.aload_n 0, 1) := by decide +kernel
theorem dX2_weigh_50 : decode cX2_weigh 50 = .ok (.getfield 13, 3) := by decide +kernel
theorem dX2_weigh_53 : decode cX2_weigh 53 = .ok (.aload_n 0, 1) := by decide +kernel
theorem dX2_weigh_54 : decode cX2_weigh 54 = .ok (.getfield 24, 3) := by decide +kernel
theorem dX2_weigh_57 : decode cX2_weigh 57 = .ok (.iload_n 1, 1) := by decide +kernel
theorem dX2_weigh_58 : decode cX2_weigh 58 = .ok (.iaload, 1) := by decide +kernel
theorem dX2_weigh_59 : decode cX2_weigh 59 = .ok (.iload_n 2, 1) := by decide +kernel
theorem dX2_weigh_60 : decode cX2_weigh 60 = .ok (.iastore, 1) := by decide +kernel
theorem dX2_weigh_61 : decode cX2_weigh 61 = .ok (.iload_n 3, 1) := by decide +kernel
theorem dX2_weigh_62 : decode cX2_weigh 62 = .ok (.ireturn, 1) := by decide +kernel
set_option maxRecDepth 20000 in
theorem ggX2_size_X2_isSlot : GoodIn wsX2_size wsX2_isSlot := goodIn_r _ [8, 9, 10, 7, 11] (by decide +kernel) (by decide +kernel)
set_option maxRecDepth 20000 in
theorem gX2_size_X2_isSlot : GoodIn wsX2_size (va_wsS RX2 57 yX2_isSlot wsX2_isSlot) := goodIn_app (goodIn_of _ (by decide +kernel)) ggX2_size_X2_isSlot
set_option maxRecDepth 20000 in
theorem ggX2_size_X2_fails : GoodIn wsX2_size wsX2_fails := goodIn_r _ [15, 1, 27, 28, 29, 30, 31, 32, 33, 34, 35, 36] (by decide +kernel) (by decide +kernel)
set_option maxRecDepth 20000 in
theorem gX2_size_X2_fails : GoodIn wsX2_size (wsV RX2 52 RX2 yX2_fails wsX2_fails) := goodIn_app (goodIn_of _ (by decide +kernel)) ggX2_size_X2_fails
set_option maxRecDepth 20000 in
theorem ggX2_size_X2_turns : GoodIn wsX2_size wsX2_turns := goodIn_r _ [19, 20, 21, 22, 7, 23, 24, 25, 26, 12, 13, 14, 15, 1, 27, 28, 29, 30, 31, 32, 33, 34, 35, 36] (by decide +kernel) (by decide +kernel)
set_option maxRecDepth 20000 in
theorem gX2_size_X2_turns : GoodIn wsX2_size (wsV RX2 87 RX2 yX2_turns wsX2_turns) := goodIn_app (goodIn_of _ (by decide +kernel)) ggX2_size_X2_turns
theorem dX2_size_0 : decode cX2_size 0 = .ok (.aload_n 0, 1) := by decide +kernel
theorem dX2_size_1 : decode cX2_size 1 = .ok (.iconst 0, 1) := by decide +kernel
theorem dX2_size_2 : decode cX2_size 2 = .ok (.putfield 42, 3) := by decide +kernel
theorem dX2_size_5 : decode cX2_size 5 = .ok (.iload_n 1, 1) := by decide +kernel
theorem dX2_size_6 : decode cX2_size 6 = .ok (.invokestatic 57, 3) := by decide +kernel
theorem dX2_size_9 : decode cX2_size 9 = .ok (.ifCond .ne 6, 3) := by decide +kernel
theorem dX2_size_12 : decode cX2_size 12 = .ok (.bipush (-2), 2) := by decide +kernel
theorem dX2_size_14 : decode cX2_size 14 = .ok (.ireturn, 1) := by decide +kernel
theorem dX2_size_15 : decode cX2_size 15 = .ok (.aload_n 0, 1) := by decide +kernel
theorem dX2_size_16 : decode cX2_size 16 = .ok (.getfield 24, 3) := by decide +kernel
theorem dX2_size_19 : decode cX2_size 19 = .ok (.iload_n 1, 1) := by decide +kernel
theorem dX2_size_20 : decode cX2_size 20 = .ok (.iaload, 1) := by decide +kernel
theorem dX2_size_21 : decode cX2_size 21 = .ok (.iconst (-1), 1) := by decide +kernel
theorem dX2_size_22 : decode cX2_size 22 = .ok (.if_icmp .ne 9, 3) := by decide +kernel
theorem dX2_size_25 : decode cX2_size 25 = .ok (.aload_n 0, 1) := by decide +kernel
theorem dX2_size_26 : decode cX2_size 26 = .ok (.iconst 2, 1) := by decide +kernel
theorem dX2_size_27 : decode cX2_size 27 = .ok (.invokevirtual 52, 3) := by decide +kernel
theorem dX2_size_30 : decode cX2_size 30 = .ok (.ireturn, 1) := by decide +kernel
theorem dX2_size_31 : decode cX2_size 31 = .ok (.aload_n 0, 1) := by decide +kernel
theorem dX2_size_32 : decode cX2_size 32 = .ok (.getfield 7, 3) := by decide +kernel
theorem dX2_size_35 : decode cX2_size 35 = .ok (.aload_n 0, 1) := by decide +kernel
theorem dX2_size_36 : decode cX2_size 36 = .ok (.getfield 24, 3) := by decide +kernel
theorem dX2_size_39 : decode cX2_size 39 = .ok (.iload_n 1, 1) := by decide +kernel
theorem dX2_size_40 : decode cX2_size 40 = .ok (.iaload, 1) := by decide +kernel
theorem dX2_size_41 : decode cX2_size 41 = .ok (.iaload, 1) := by decide +kernel
theorem dX2_size_42 : decode cX2_size 42 = .ok (.bipush 9, 2) := by decide +kernel
theorem dX2_size_44 : decode cX2_size 44 = .ok (.if_icmp .ge 17, 3) := by decide +kernel
theorem dX2_size_47 : decode cX2_size 47 = .ok (.aload_n 0, 1) := by decide +kernel
theorem dX2_size_48 : decode cX2_size 48 = .ok (.getfield 13, 3) := by decide +kernel
theorem dX2_size_51 : decode cX2_size 51 = .ok (.aload_n 0, 1) := by decide +kernel
theorem dX2_size_52 : decode cX2_size 52 = .ok (.getfield 24, 3) := by decide +kernel
theorem dX2_size_55 : decode cX2_size 55 = .ok (.iload_n 1, 1) := by decide +kernel
theorem dX2_size_56 : decode cX2_size 56 = .ok (.iaload, 1) := by decide +kernel
theorem dX2_size_57 : decode cX2_size 57 = .ok (.iaload, 1) := by decide +kernel
theorem dX2_size_58 : decode cX2_size 58 = .ok (.goto 10, 3) := by decide +kernel
theorem dX2_size_61 : decode cX2_size 61 = .ok (.aload_n 0, 1) := by decide +kernel
theorem dX2_size_62 : decode cX2_size 62 = .ok (.iload_n 1, 1) := by decide +kernel
theorem dX2_size_63 : decode cX2_size 63 = .ok (.bipush 8, 2) := by decide +kernel
theorem dX2_size_65 : decode cX2_size 65 = .ok (.invokevirtual 87, 3) := by decide +kernel
theorem dX2_size_68 : decode cX2_size 68 = .ok (.ireturn, 1) := by decide +kernel
set_option maxRecDepth 20000 in
theorem ggX2_at_X2_isSlot : GoodIn wsX2_at wsX2_isSlot := goodIn_r _ [5, 6, 7, 4, 8] (by decide +kernel) (by decide +kernel)
set_option maxRecDepth 20000 in
theorem gX2_at_X2_isSlot : GoodIn wsX2_at (va_wsS RX2 57 yX2_isSlot wsX2_isSlot) := goodIn_app (goodIn_of _ (by decide +kernel)) ggX2_at_X2_isSlot
theorem dX2_at_0 : decode cX2_at 0 = .ok (.iload_n 1, 1) := by decide +kernel
theorem dX2_at_1 : decode cX2_at 1 = .ok (.invokestatic 57, 3) := by decide +kernel
theorem dX2_at_4 : decode cX2_at 4 = .ok (.ifCond .eq 12, 3) := by decide +kernel
theorem dX2_at_7 : decode cX2_at 7 = .ok (.aload_n 0, 1) := by decide +kernel
theorem dX2_at_8 : decode cX2_at 8 = .ok (.getfield 24, 3) := by decide +kernel
theorem dX2_at_11 : decode cX2_at 11 = .ok (.iload_n 1, 1) := by decide +kernel
theorem dX2_at_12 : decode cX2_at 12 = .ok (.iaload, 1) := by decide +kernel
theorem dX2_at_13 : decode cX2_at 13 = .ok (.goto 5, 3) := by decide +kernel
theorem dX2_at_16 : decode cX2_at 16 = .ok (.bipush (-2), 2) := by decide +kernel
theorem dX2_at_18 : decode cX2_at 18 = .ok (.ireturn, 1) := by decide +kernel
theorem dX2_fault_0 : decode cX2_fault 0 = .ok (.aload_n 0, 1) := by decide +kernel
theorem dX2_fault_1 : decode cX2_fault 1 = .ok (.getfield 42, 3) := by decide +kernel
theorem dX2_fault_4 : decode cX2_fault 4 = .ok (.ireturn, 1) := by decide +kernel
theorem dX2_told_0 : decode cX2_told 0 = .ok (.iload_n 1, 1) := by decide +kernel
theorem dX2_told_1 : decode cX2_told 1 = .ok (.ifCond .ne 10, 3) := by decide +kernel
theorem dX2_told_4 : decode cX2_told 4 = .ok (.aload_n 0, 1) := by decide +kernel
theorem dX2_told_5 : decode cX2_told 5 = .ok (.getfield 45, 3) := by decide +kernel
theorem dX2_told_8 : decode cX2_told 8 = .ok (.goto 29, 3) := by decide +kernel
theorem dX2_told_11 : decode cX2_told 11 = .ok (.iload_n 1, 1) := by decide +kernel
theorem dX2_told_12 : decode cX2_told 12 = .ok (.iconst 1, 1) := by decide +kernel
theorem dX2_told_13 : decode cX2_told 13 = .ok (.if_icmp .ne 10, 3) := by decide +kernel
theorem dX2_told_16 : decode cX2_told 16 = .ok (.aload_n 0, 1) := by decide +kernel
theorem dX2_told_17 : decode cX2_told 17 = .ok (.getfield 27, 3) := by decide +kernel
theorem dX2_told_20 : decode cX2_told 20 = .ok (.goto 17, 3) := by decide +kernel
theorem dX2_told_23 : decode cX2_told 23 = .ok (.iload_n 1, 1) := by decide +kernel
theorem dX2_told_24 : decode cX2_told 24 = .ok (.iconst 2, 1) := by decide +kernel
theorem dX2_told_25 : decode cX2_told 25 = .ok (.if_icmp .ne 10, 3) := by decide +kernel
theorem dX2_told_28 : decode cX2_told 28 = .ok (.aload_n 0, 1) := by decide +kernel
theorem dX2_told_29 : decode cX2_told 29 = .ok (.getfield 31, 3) := by decide +kernel
theorem dX2_told_32 : decode cX2_told 32 = .ok (.goto 5, 3) := by decide +kernel
theorem dX2_told_35 : decode cX2_told 35 = .ok (.bipush (-2), 2) := by decide +kernel
theorem dX2_told_37 : decode cX2_told 37 = .ok (.ireturn, 1) := by decide +kernel
theorem dX2_count_0 : decode cX2_count 0 = .ok (.aload_n 0, 1) := by decide +kernel
theorem dX2_count_1 : decode cX2_count 1 = .ok (.getfield 61, 3) := by decide +kernel
theorem dX2_count_4 : decode cX2_count 4 = .ok (.ireturn, 1) := by decide +kernel
