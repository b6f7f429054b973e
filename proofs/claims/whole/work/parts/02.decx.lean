set_option maxRecDepth 20000 in
theorem ggX0_init_X1_holdsNumbers : GoodIn wsX0_init wsX1_holdsNumbers := goodIn_r _ [14] (by decide +kernel) (by decide +kernel)
set_option maxRecDepth 20000 in
theorem gX0_init_X1_holdsNumbers_n16 : GoodIn wsX0_init (wsX1_holdsNumbers) := ggX0_init_X1_holdsNumbers
set_option maxRecDepth 20000 in
theorem ggX0_init_X1_holdsThings : GoodIn wsX0_init wsX1_holdsThings := goodIn_r _ [16] (by decide +kernel) (by decide +kernel)
set_option maxRecDepth 20000 in
theorem gX0_init_X1_holdsThings_n22 : GoodIn wsX0_init (wsX1_holdsThings) := ggX0_init_X1_holdsThings
theorem dX0_init_0 : decode cX0_init 0 = .ok (.aload_n 0, 1) := by decide +kernel
theorem dX0_init_1 : decode cX0_init 1 = .ok (.invokespecial 1, 3) := by decide +kernel
theorem dX0_init_4 : decode cX0_init 4 = .ok (.aload_n 0, 1) := by decide +kernel
theorem dX0_init_5 : decode cX0_init 5 = .ok (.iload_n 1, 1) := by decide +kernel
theorem dX0_init_6 : decode cX0_init 6 = .ok (.putfield 7, 3) := by decide +kernel
theorem dX0_init_9 : decode cX0_init 9 = .ok (.aload_n 0, 1) := by decide +kernel
theorem dX0_init_10 : decode cX0_init 10 = .ok (.iload_n 2, 1) := by decide +kernel
theorem dX0_init_11 : decode cX0_init 11 = .ok (.putfield 13, 3) := by decide +kernel
theorem dX0_init_14 : decode cX0_init 14 = .ok (.iload_n 2, 1) := by decide +kernel
theorem dX0_init_15 : decode cX0_init 15 = .ok (.invokestatic 16, 3) := by decide +kernel
theorem dX0_init_18 : decode cX0_init 18 = .ok (.istore 4, 2) := by decide +kernel
theorem dX0_init_20 : decode cX0_init 20 = .ok (.iload_n 2, 1) := by decide +kernel
theorem dX0_init_21 : decode cX0_init 21 = .ok (.invokestatic 22, 3) := by decide +kernel
theorem dX0_init_24 : decode cX0_init 24 = .ok (.istore 5, 2) := by decide +kernel
theorem dX0_init_26 : decode cX0_init 26 = .ok (.aload_n 0, 1) := by decide +kernel
theorem dX0_init_27 : decode cX0_init 27 = .ok (.iload 4, 2) := by decide +kernel
theorem dX0_init_29 : decode cX0_init 29 = .ok (.ifCond .eq 7, 3) := by decide +kernel
theorem dX0_init_32 : decode cX0_init 32 = .ok (.iload_n 3, 1) := by decide +kernel
theorem dX0_init_33 : decode cX0_init 33 = .ok (.goto 4, 3) := by decide +kernel
theorem dX0_init_36 : decode cX0_init 36 = .ok (.iconst 0, 1) := by decide +kernel
theorem dX0_init_37 : decode cX0_init 37 = .ok (.newarray .long, 2) := by decide +kernel
theorem dX0_init_39 : decode cX0_init 39 = .ok (.putfield 25, 3) := by decide +kernel
theorem dX0_init_42 : decode cX0_init 42 = .ok (.aload_n 0, 1) := by decide +kernel
theorem dX0_init_43 : decode cX0_init 43 = .ok (.iload 5, 2) := by decide +kernel
theorem dX0_init_45 : decode cX0_init 45 = .ok (.ifCond .eq 7, 3) := by decide +kernel
theorem dX0_init_48 : decode cX0_init 48 = .ok (.iload_n 3, 1) := by decide +kernel
theorem dX0_init_49 : decode cX0_init 49 = .ok (.goto 4, 3) := by decide +kernel
theorem dX0_init_52 : decode cX0_init 52 = .ok (.iconst 0, 1) := by decide +kernel
theorem dX0_init_53 : decode cX0_init 53 = .ok (.anewarray 8, 3) := by decide +kernel
theorem dX0_init_56 : decode cX0_init 56 = .ok (.putfield 29, 3) := by decide +kernel
theorem dX0_init_59 : decode cX0_init 59 = .ok (.aload_n 0, 1) := by decide +kernel
theorem dX0_init_60 : decode cX0_init 60 = .ok (.iload 4, 2) := by decide +kernel
theorem dX0_init_62 : decode cX0_init 62 = .ok (.ifCond .ne 8, 3) := by decide +kernel
theorem dX0_init_65 : decode cX0_init 65 = .ok (.iload 5, 2) := by decide +kernel
theorem dX0_init_67 : decode cX0_init 67 = .ok (.ifCond .eq 7, 3) := by decide +kernel
theorem dX0_init_70 : decode cX0_init 70 = .ok (.iconst 0, 1) := by decide +kernel
theorem dX0_init_71 : decode cX0_init 71 = .ok (.goto 4, 3) := by decide +kernel
theorem dX0_init_74 : decode cX0_init 74 = .ok (.iload_n 3, 1) := by decide +kernel
theorem dX0_init_75 : decode cX0_init 75 = .ok (.putfield 33, 3) := by decide +kernel
theorem dX0_init_78 : decode cX0_init 78 = .ok (.aload_n 0, 1) := by decide +kernel
theorem dX0_init_79 : decode cX0_init 79 = .ok (.iconst 0, 1) := by decide +kernel
theorem dX0_init_80 : decode cX0_init 80 = .ok (.putfield 36, 3) := by decide +kernel
theorem dX0_init_83 : decode cX0_init 83 = .ok (.return_, 1) := by decide +kernel
theorem dX1_init_0 : decode cX1_init 0 = .ok (.aload_n 0, 1) := by decide +kernel
theorem dX1_init_1 : decode cX1_init 1 = .ok (.invokespecial 1, 3) := by decide +kernel
theorem dX1_init_4 : decode cX1_init 4 = .ok (.aload_n 0, 1) := by decide +kernel
theorem dX1_init_5 : decode cX1_init 5 = .ok (.bipush 12, 2) := by decide +kernel
theorem dX1_init_7 : decode cX1_init 7 = .ok (.anewarray 9, 3) := by decide +kernel
theorem dX1_init_10 : decode cX1_init 10 = .ok (.putfield 11, 3) := by decide +kernel
theorem dX1_init_13 : decode cX1_init 13 = .ok (.aload_n 0, 1) := by decide +kernel
theorem dX1_init_14 : decode cX1_init 14 = .ok (.iconst 0, 1) := by decide +kernel
theorem dX1_init_15 : decode cX1_init 15 = .ok (.putfield 15, 3) := by decide +kernel
theorem dX1_init_18 : decode cX1_init 18 = .ok (.aload_n 0, 1) := by decide +kernel
theorem dX1_init_19 : decode cX1_init 19 = .ok (.iconst 0, 1) := by decide +kernel
theorem dX1_init_20 : decode cX1_init 20 = .ok (.putfield 19, 3) := by decide +kernel
theorem dX1_init_23 : decode cX1_init 23 = .ok (.aload_n 0, 1) := by decide +kernel
theorem dX1_init_24 : decode cX1_init 24 = .ok (.iconst 0, 1) := by decide +kernel
theorem dX1_init_25 : decode cX1_init 25 = .ok (.putfield 22, 3) := by decide +kernel
theorem dX1_init_28 : decode cX1_init 28 = .ok (.aload_n 0, 1) := by decide +kernel
theorem dX1_init_29 : decode cX1_init 29 = .ok (.iconst (-1), 1) := by decide +kernel
theorem dX1_init_30 : decode cX1_init 30 = .ok (.putfield 25, 3) := by decide +kernel
theorem dX1_init_33 : decode cX1_init 33 = .ok (.aload_n 0, 1) := by decide +kernel
theorem dX1_init_34 : decode cX1_init 34 = .ok (.iconst (-1), 1) := by decide +kernel
theorem dX1_init_35 : decode cX1_init 35 = .ok (.putfield 28, 3) := by decide +kernel
theorem dX1_init_38 : decode cX1_init 38 = .ok (.return_, 1) := by decide +kernel
set_option maxRecDepth 20000 in
theorem ggX1_make_X1_isKind : GoodIn wsX1_make wsX1_isKind := goodIn_r _ [10] (by decide +kernel) (by decide +kernel)
set_option maxRecDepth 20000 in
theorem gX1_make_X1_isKind : GoodIn wsX1_make (va_wsS RX1 31 yX1_isKind wsX1_isKind) := goodIn_app (goodIn_of _ (by decide +kernel)) ggX1_make_X1_isKind
set_option maxRecDepth 20000 in
theorem ggX1_make_X1_isSlot : GoodIn wsX1_make wsX1_isSlot := goodIn_r _ [13] (by decide +kernel) (by decide +kernel)
set_option maxRecDepth 20000 in
theorem gX1_make_X1_isSlot : GoodIn wsX1_make (va_wsS RX1 35 yX1_isSlot wsX1_isSlot) := goodIn_app (goodIn_of _ (by decide +kernel)) ggX1_make_X1_isSlot
set_option maxRecDepth 20000 in
theorem ggX1_make_X1_mostOf : GoodIn wsX1_make wsX1_mostOf := goodIn_r _ [16, 17, 18, 19, 9, 20, 21, 22, 23] (by decide +kernel) (by decide +kernel)
set_option maxRecDepth 20000 in
theorem gX1_make_X1_mostOf : GoodIn wsX1_make (va_wsS RX1 38 yX1_mostOf wsX1_mostOf) := goodIn_app (goodIn_of _ (by decide +kernel)) ggX1_make_X1_mostOf
set_option maxRecDepth 20000 in
theorem ggX1_make_X0_init : GoodIn wsX1_make wsX0_init := goodIn_r _ [26, 27, 28, 29, 30, 31, 32, 33, 34, 35, 36, 37, 19, 9, 20, 22, 23, 44, 45, 46, 47, 48, 49] (by decide +kernel) (by decide +kernel)
set_option maxRecDepth 20000 in
theorem gX1_make_X0_init : GoodIn wsX1_make (wsX0_init) := ggX1_make_X0_init
theorem dX1_make_0 : decode cX1_make 0 = .ok (.aload_n 0, 1) := by decide +kernel
theorem dX1_make_1 : decode cX1_make 1 = .ok (.iconst 0, 1) := by decide +kernel
theorem dX1_make_2 : decode cX1_make 2 = .ok (.putfield 19, 3) := by decide +kernel
theorem dX1_make_5 : decode cX1_make 5 = .ok (.iload_n 1, 1) := by decide +kernel
theorem dX1_make_6 : decode cX1_make 6 = .ok (.invokestatic 31, 3) := by decide +kernel
theorem dX1_make_9 : decode cX1_make 9 = .ok (.ifCond .eq 22, 3) := by decide +kernel
theorem dX1_make_12 : decode cX1_make 12 = .ok (.iload_n 3, 1) := by decide +kernel
theorem dX1_make_13 : decode cX1_make 13 = .ok (.invokestatic 35, 3) := by decide +kernel
theorem dX1_make_16 : decode cX1_make 16 = .ok (.ifCond .eq 15, 3) := by decide +kernel
theorem dX1_make_19 : decode cX1_make 19 = .ok (.iload_n 2, 1) := by decide +kernel
theorem dX1_make_20 : decode cX1_make 20 = .ok (.ifCond .lt 11, 3) := by decide +kernel
theorem dX1_make_23 : decode cX1_make 23 = .ok (.iload_n 2, 1) := by decide +kernel
theorem dX1_make_24 : decode cX1_make 24 = .ok (.iload_n 1, 1) := by decide +kernel
theorem dX1_make_25 : decode cX1_make 25 = .ok (.invokestatic 38, 3) := by decide +kernel
theorem dX1_make_28 : decode cX1_make 28 = .ok (.if_icmp .le 6, 3) := by decide +kernel
theorem dX1_make_31 : decode cX1_make 31 = .ok (.bipush (-2), 2) := by decide +kernel
theorem dX1_make_33 : decode cX1_make 33 = .ok (.ireturn, 1) := by decide +kernel
theorem dX1_make_34 : decode cX1_make 34 = .ok (.aload_n 0, 1) := by decide +kernel
theorem dX1_make_35 : decode cX1_make 35 = .ok (.getfield 15, 3) := by decide +kernel
theorem dX1_make_38 : decode cX1_make 38 = .ok (.bipush 60, 2) := by decide +kernel
theorem dX1_make_40 : decode cX1_make 40 = .ok (.if_icmp .lt 6, 3) := by decide +kernel
theorem dX1_make_43 : decode cX1_make 43 = .ok (.bipush (-3), 2) := by decide +kernel
theorem dX1_make_45 : decode cX1_make 45 = .ok (.ireturn, 1) := by decide +kernel
theorem dX1_make_46 : decode cX1_make 46 = .ok (.aload_n 0, 1) := by decide +kernel
theorem dX1_make_47 : decode cX1_make 47 = .ok (.getfield 15, 3) := by decide +kernel
theorem dX1_make_50 : decode cX1_make 50 = .ok (.istore 4, 2) := by decide +kernel
theorem dX1_make_52 : decode cX1_make 52 = .ok (.aload_n 0, 1) := by decide +kernel
theorem dX1_make_53 : decode cX1_make 53 = .ok (.getfield 11, 3) := by decide +kernel
theorem dX1_make_56 : decode cX1_make 56 = .ok (.iload_n 3, 1) := by decide +kernel
theorem dX1_make_57 : decode cX1_make 57 = .ok (.new 9, 3) := by decide +kernel
theorem dX1_make_60 : decode cX1_make 60 = .ok (.dup, 1) := by decide +kernel
theorem dX1_make_61 : decode cX1_make 61 = .ok (.iload 4, 2) := by decide +kernel
theorem dX1_make_63 : decode cX1_make 63 = .ok (.iload_n 1, 1) := by decide +kernel
theorem dX1_make_64 : decode cX1_make 64 = .ok (.iload_n 2, 1) := by decide +kernel
theorem dX1_make_65 : decode cX1_make 65 = .ok (.invokespecial 42, 3) := by decide +kernel
theorem dX1_make_68 : decode cX1_make 68 = .ok (.aastore, 1) := by decide +kernel
theorem dX1_make_69 : decode cX1_make 69 = .ok (.aload_n 0, 1) := by decide +kernel
theorem dX1_make_70 : decode cX1_make 70 = .ok (.dup, 1) := by decide +kernel
theorem dX1_make_71 : decode cX1_make 71 = .ok (.getfield 15, 3) := by decide +kernel
theorem dX1_make_74 : decode cX1_make 74 = .ok (.iconst 1, 1) := by decide +kernel
theorem dX1_make_75 : decode cX1_make 75 = .ok (.iadd, 1) := by decide +kernel
theorem dX1_make_76 : decode cX1_make 76 = .ok (.putfield 15, 3) := by decide +kernel
theorem dX1_make_79 : decode cX1_make 79 = .ok (.iload 4, 2) := by decide +kernel
theorem dX1_make_81 : decode cX1_make 81 = .ok (.ireturn, 1) := by decide +kernel
set_option maxRecDepth 20000 in
theorem ggX1_fits_X1_isSlot : GoodIn wsX1_fits wsX1_isSlot := goodIn_r _ [6] (by decide +kernel) (by decide +kernel)
set_option maxRecDepth 20000 in
theorem gX1_fits_X1_isSlot : GoodIn wsX1_fits (va_wsS RX1 35 yX1_isSlot wsX1_isSlot) := goodIn_app (goodIn_of _ (by decide +kernel)) ggX1_fits_X1_isSlot
set_option maxRecDepth 20000 in
theorem ggX1_fits_X1_isGate : GoodIn wsX1_fits wsX1_isGate := goodIn_r _ [9] (by decide +kernel) (by decide +kernel)
set_option maxRecDepth 20000 in
theorem gX1_fits_X1_isGate : GoodIn wsX1_fits (va_wsS RX1 45 yX1_isGate wsX1_isGate) := goodIn_app (goodIn_of _ (by decide +kernel)) ggX1_fits_X1_isGate
set_option maxRecDepth 20000 in
theorem ggX1_fits_X1_letsThrough : GoodIn wsX1_fits wsX1_letsThrough := goodIn_r _ [12, 13, 20, 21, 22, 23, 24, 25] (by decide +kernel) (by decide +kernel)
set_option maxRecDepth 20000 in
theorem gX1_fits_X1_letsThrough : GoodIn wsX1_fits (va_wsS RX1 48 yX1_letsThrough wsX1_letsThrough) := goodIn_app (goodIn_of _ (by decide +kernel)) ggX1_fits_X1_letsThrough
theorem dX1_fits_0 : decode cX1_fits 0 = .ok (.aload_n 0, 1) := by decide +kernel
theorem dX1_fits_1 : decode cX1_fits 1 = .ok (.iconst 0, 1) := by decide +kernel
theorem dX1_fits_2 : decode cX1_fits 2 = .ok (.putfield 19, 3) := by decide +kernel
theorem dX1_fits_5 : decode cX1_fits 5 = .ok (.iload_n 1, 1) := by decide +kernel
theorem dX1_fits_6 : decode cX1_fits 6 = .ok (.invokestatic 35, 3) := by decide +kernel
theorem dX1_fits_9 : decode cX1_fits 9 = .ok (.ifCond .eq 10, 3) := by decide +kernel
theorem dX1_fits_12 : decode cX1_fits 12 = .ok (.iload_n 2, 1) := by decide +kernel
theorem dX1_fits_13 : decode cX1_fits 13 = .ok (.invokestatic 45, 3) := by decide +kernel
theorem dX1_fits_16 : decode cX1_fits 16 = .ok (.ifCond .ne 6, 3) := by decide +kernel
theorem dX1_fits_19 : decode cX1_fits 19 = .ok (.bipush (-2), 2) := by decide +kernel
theorem dX1_fits_21 : decode cX1_fits 21 = .ok (.ireturn, 1) := by decide +kernel
theorem dX1_fits_22 : decode cX1_fits 22 = .ok (.iload_n 2, 1) := by decide +kernel
theorem dX1_fits_23 : decode cX1_fits 23 = .ok (.aload_n 0, 1) := by decide +kernel
theorem dX1_fits_24 : decode cX1_fits 24 = .ok (.getfield 11, 3) := by decide +kernel
theorem dX1_fits_27 : decode cX1_fits 27 = .ok (.iload_n 1, 1) := by decide +kernel
theorem dX1_fits_28 : decode cX1_fits 28 = .ok (.aaload, 1) := by decide +kernel
theorem dX1_fits_29 : decode cX1_fits 29 = .ok (.invokestatic 48, 3) := by decide +kernel
theorem dX1_fits_32 : decode cX1_fits 32 = .ok (.ifCond .eq 7, 3) := by decide +kernel
theorem dX1_fits_35 : decode cX1_fits 35 = .ok (.iconst 1, 1) := by decide +kernel
theorem dX1_fits_36 : decode cX1_fits 36 = .ok (.goto 4, 3) := by decide +kernel
theorem dX1_fits_39 : decode cX1_fits 39 = .ok (.iconst 0, 1) := by decide +kernel
theorem dX1_fits_40 : decode cX1_fits 40 = .ok (.ireturn, 1) := by decide +kernel
set_option maxRecDepth 20000 in
theorem ggX1_pass_X1_isSlot : GoodIn wsX1_pass wsX1_isSlot := goodIn_r _ [5] (by decide +kernel) (by decide +kernel)
set_option maxRecDepth 20000 in
theorem gX1_pass_X1_isSlot : GoodIn wsX1_pass (va_wsS RX1 35 yX1_isSlot wsX1_isSlot) := goodIn_app (goodIn_of _ (by decide +kernel)) ggX1_pass_X1_isSlot
set_option maxRecDepth 20000 in
theorem ggX1_pass_X1_isGate : GoodIn wsX1_pass wsX1_isGate := goodIn_r _ [8] (by decide +kernel) (by decide +kernel)
set_option maxRecDepth 20000 in
theorem gX1_pass_X1_isGate : GoodIn wsX1_pass (va_wsS RX1 45 yX1_isGate wsX1_isGate) := goodIn_app (goodIn_of _ (by decide +kernel)) ggX1_pass_X1_isGate
set_option maxRecDepth 20000 in
theorem ggX1_pass_X1_failed : GoodIn wsX1_pass wsX1_failed := goodIn_r _ [12, 1, 64, 65, 66, 67, 68, 69] (by decide +kernel) (by decide +kernel)
set_option maxRecDepth 20000 in
theorem gX1_pass_X1_failed : GoodIn wsX1_pass (wsV RX1 52 RX1 yX1_failed wsX1_failed) := goodIn_app (goodIn_of _ (by decide +kernel)) ggX1_pass_X1_failed
set_option maxRecDepth 20000 in
theorem ggX1_pass_X1_broughtThrough : GoodIn wsX1_pass wsX1_broughtThrough := goodIn_r _ [16, 17, 9, 10, 11, 4, 12, 1, 18, 19, 20, 21, 22, 23, 24, 25, 26, 27, 28, 29, 30, 31, 32, 64, 65, 66, 67, 68, 69, 70, 71, 72, 73, 74, 75] (by decide +kernel) (by decide +kernel)
set_option maxRecDepth 20000 in
theorem gX1_pass_X1_broughtThrough : GoodIn wsX1_pass (wsV RX1 55 RX1 yX1_broughtThrough wsX1_broughtThrough) := goodIn_app (goodIn_of _ (by decide +kernel)) ggX1_pass_X1_broughtThrough
set_option maxRecDepth 20000 in
theorem ggX1_pass_X1_hasHole : GoodIn wsX1_pass wsX1_hasHole := goodIn_r _ [35, 36, 37, 38, 4, 39, 70, 71, 72, 73, 74, 75] (by decide +kernel) (by decide +kernel)
set_option maxRecDepth 20000 in
theorem gX1_pass_X1_hasHole : GoodIn wsX1_pass (va_wsS RX1 59 yX1_hasHole wsX1_hasHole) := goodIn_app (goodIn_of _ (by decide +kernel)) ggX1_pass_X1_hasHole
set_option maxRecDepth 20000 in
theorem ggX1_pass_X1_toldBy : GoodIn wsX1_pass wsX1_toldBy := goodIn_r _ [42, 43, 44, 4, 45, 36, 46, 47, 48, 49, 50, 51, 52, 53, 54, 55, 56, 57, 58, 21, 59, 60, 61, 62, 63, 70, 71, 72, 73, 74, 75] (by decide +kernel) (by decide +kernel)
set_option maxRecDepth 20000 in
theorem gX1_pass_X1_toldBy : GoodIn wsX1_pass (va_wsS RX1 63 yX1_toldBy wsX1_toldBy) := goodIn_app (goodIn_of _ (by decide +kernel)) ggX1_pass_X1_toldBy
theorem dX1_pass_0 : decode cX1_pass 0 = .ok (.aload_n 0, 1) := by decide +kernel
theorem dX1_pass_1 : decode cX1_pass 1 = .ok (.iconst 0, 1) := by decide +kernel
theorem dX1_pass_2 : decode cX1_pass 2 = .ok (.putfield 19, 3) := by decide +kernel
theorem dX1_pass_5 : decode cX1_pass 5 = .ok (.iload_n 1, 1) := by decide +kernel
theorem dX1_pass_6 : decode cX1_pass 6 = .ok (.invokestatic 35, 3) := by decide +kernel
theorem dX1_pass_9 : decode cX1_pass 9 = .ok (.ifCond .eq 10, 3) := by decide +kernel
theorem dX1_pass_12 : decode cX1_pass 12 = .ok (.iload_n 2, 1) := by decide +kernel
theorem dX1_pass_13 : decode cX1_pass 13 = .ok (.invokestatic 45, 3) := by decide +kernel
theorem dX1_pass_16 : decode cX1_pass 16 = .ok (.ifCond .ne 11, 3) := by decide +kernel
theorem dX1_pass_19 : decode cX1_pass 19 = .ok (.aload_n 0, 1) := by decide +kernel
theorem dX1_pass_20 : decode cX1_pass 20 = .ok (.bipush (-2), 2) := by decide +kernel
theorem dX1_pass_22 : decode cX1_pass 22 = .ok (.invokevirtual 52, 3) := by decide +kernel
theorem dX1_pass_25 : decode cX1_pass 25 = .ok (.i2l, 1) := by decide +kernel
theorem dX1_pass_26 : decode cX1_pass 26 = .ok (.lreturn, 1) := by decide +kernel
theorem dX1_pass_27 : decode cX1_pass 27 = .ok (.aload_n 0, 1) := by decide +kernel
theorem dX1_pass_28 : decode cX1_pass 28 = .ok (.iload_n 2, 1) := by decide +kernel
theorem dX1_pass_29 : decode cX1_pass 29 = .ok (.iload_n 1, 1) := by decide +kernel
theorem dX1_pass_30 : decode cX1_pass 30 = .ok (.invokevirtual 55, 3) := by decide +kernel
theorem dX1_pass_33 : decode cX1_pass 33 = .ok (.astore_n 3, 1) := by decide +kernel
theorem dX1_pass_34 : decode cX1_pass 34 = .ok (.aload_n 3, 1) := by decide +kernel
theorem dX1_pass_35 : decode cX1_pass 35 = .ok (.ifnonnull 5, 3) := by decide +kernel
theorem dX1_pass_38 : decode cX1_pass 38 = .ok (.lconst 0, 1) := by decide +kernel
theorem dX1_pass_39 : decode cX1_pass 39 = .ok (.lreturn, 1) := by decide +kernel
theorem dX1_pass_40 : decode cX1_pass 40 = .ok (.aload_n 3, 1) := by decide +kernel
theorem dX1_pass_41 : decode cX1_pass 41 = .ok (.invokestatic 59, 3) := by decide +kernel
theorem dX1_pass_44 : decode cX1_pass 44 = .ok (.ifCond .eq 10, 3) := by decide +kernel
theorem dX1_pass_47 : decode cX1_pass 47 = .ok (.aload_n 0, 1) := by decide +kernel
theorem dX1_pass_48 : decode cX1_pass 48 = .ok (.iconst 4, 1) := by decide +kernel
theorem dX1_pass_49 : decode cX1_pass 49 = .ok (.invokevirtual 52, 3) := by decide +kernel
theorem dX1_pass_52 : decode cX1_pass 52 = .ok (.i2l, 1) := by decide +kernel
theorem dX1_pass_53 : decode cX1_pass 53 = .ok (.lreturn, 1) := by decide +kernel
theorem dX1_pass_54 : decode cX1_pass 54 = .ok (.aload_n 3, 1) := by decide +kernel
theorem dX1_pass_55 : decode cX1_pass 55 = .ok (.iload_n 2, 1) := by decide +kernel
theorem dX1_pass_56 : decode cX1_pass 56 = .ok (.invokestatic 63, 3) := by decide +kernel
theorem dX1_pass_59 : decode cX1_pass 59 = .ok (.lreturn, 1) := by decide +kernel
set_option maxRecDepth 20000 in
theorem ggX1_seek_X1_isSlot : GoodIn wsX1_seek wsX1_isSlot := goodIn_r _ [6] (by decide +kernel) (by decide +kernel)
set_option maxRecDepth 20000 in
theorem gX1_seek_X1_isSlot : GoodIn wsX1_seek (va_wsS RX1 35 yX1_isSlot wsX1_isSlot) := goodIn_app (goodIn_of _ (by decide +kernel)) ggX1_seek_X1_isSlot
set_option maxRecDepth 20000 in
theorem ggX1_seek_X1_isGate : GoodIn wsX1_seek wsX1_isGate := goodIn_r _ [9] (by decide +kernel) (by decide +kernel)
set_option maxRecDepth 20000 in
theorem gX1_seek_X1_isGate : GoodIn wsX1_seek (va_wsS RX1 45 yX1_isGate wsX1_isGate) := goodIn_app (goodIn_of _ (by decide +kernel)) ggX1_seek_X1_isGate
set_option maxRecDepth 20000 in
theorem ggX1_seek_X1_letsThrough : GoodIn wsX1_seek wsX1_letsThrough := goodIn_r _ [12, 13, 27, 28, 29, 30, 31, 32] (by decide +kernel) (by decide +kernel)
set_option maxRecDepth 20000 in
theorem gX1_seek_X1_letsThrough : GoodIn wsX1_seek (va_wsS RX1 48 yX1_letsThrough wsX1_letsThrough) := goodIn_app (goodIn_of _ (by decide +kernel)) ggX1_seek_X1_letsThrough
set_option maxRecDepth 20000 in
theorem ggX1_seek_X1_turnBack : GoodIn wsX1_seek wsX1_turnBack := goodIn_r _ [17, 18, 19, 20, 21, 22, 23, 24, 25, 26] (by decide +kernel) (by decide +kernel)
set_option maxRecDepth 20000 in
theorem gX1_seek_X1_turnBack : GoodIn wsX1_seek (wsV RX1 67 RX1 yX1_turnBack wsX1_turnBack) := goodIn_app (goodIn_of _ (by decide +kernel)) ggX1_seek_X1_turnBack
theorem dX1_seek_0 : decode cX1_seek 0 = .ok (.aload_n 0, 1) := by decide +kernel
theorem dX1_seek_1 : decode cX1_seek 1 = .ok (.iconst 0, 1) := by decide +kernel
theorem dX1_seek_2 : decode cX1_seek 2 = .ok (.putfield 19, 3) := by decide +kernel
theorem dX1_seek_5 : decode cX1_seek 5 = .ok (.iload_n 1, 1) := by decide +kernel
theorem dX1_seek_6 : decode cX1_seek 6 = .ok (.invokestatic 35, 3) := by decide +kernel
theorem dX1_seek_9 : decode cX1_seek 9 = .ok (.ifCond .eq 22, 3) := by decide +kernel
theorem dX1_seek_12 : decode cX1_seek 12 = .ok (.iload_n 2, 1) := by decide +kernel
theorem dX1_seek_13 : decode cX1_seek 13 = .ok (.invokestatic 45, 3) := by decide +kernel
theorem dX1_seek_16 : decode cX1_seek 16 = .ok (.ifCond .eq 15, 3) := by decide +kernel
theorem dX1_seek_19 : decode cX1_seek 19 = .ok (.iload_n 3, 1) := by decide +kernel
theorem dX1_seek_20 : decode cX1_seek 20 = .ok (.invokestatic 45, 3) := by decide +kernel
theorem dX1_seek_23 : decode cX1_seek 23 = .ok (.ifCond .eq 8, 3) := by decide +kernel
theorem dX1_seek_26 : decode cX1_seek 26 = .ok (.iload_n 3, 1) := by decide +kernel
theorem dX1_seek_27 : decode cX1_seek 27 = .ok (.iload_n 2, 1) := by decide +kernel
theorem dX1_seek_28 : decode cX1_seek 28 = .ok (.if_icmp .ge 6, 3) := by decide +kernel
theorem dX1_seek_31 : decode cX1_seek 31 = .ok (.bipush (-2), 2) := by decide +kernel
theorem dX1_seek_33 : decode cX1_seek 33 = .ok (.ireturn, 1) := by decide +kernel
theorem dX1_seek_34 : decode cX1_seek 34 = .ok (.iload_n 2, 1) := by decide +kernel
theorem dX1_seek_35 : decode cX1_seek 35 = .ok (.istore 4, 2) := by decide +kernel
theorem dX1_seek_37 : decode cX1_seek 37 = .ok (.iload 4, 2) := by decide +kernel
theorem dX1_seek_39 : decode cX1_seek 39 = .ok (.iload_n 3, 1) := by decide +kernel
theorem dX1_seek_40 : decode cX1_seek 40 = .ok (.if_icmp .gt 33, 3) := by decide +kernel
theorem dX1_seek_43 : decode cX1_seek 43 = .ok (.iload 4, 2) := by decide +kernel
theorem dX1_seek_45 : decode cX1_seek 45 = .ok (.aload_n 0, 1) := by decide +kernel
theorem dX1_seek_46 : decode cX1_seek 46 = .ok (.getfield 11, 3) := by decide +kernel
theorem dX1_seek_49 : decode cX1_seek 49 = .ok (.iload_n 1, 1) := by decide +kernel
theorem dX1_seek_50 : decode cX1_seek 50 = .ok (.aaload, 1) := by decide +kernel
theorem dX1_seek_51 : decode cX1_seek 51 = .ok (.invokestatic 48, 3) := by decide +kernel
theorem dX1_seek_54 : decode cX1_seek 54 = .ok (.ifCond .eq 6, 3) := by decide +kernel
theorem dX1_seek_57 : decode cX1_seek 57 = .ok (.iload 4, 2) := by decide +kernel
theorem dX1_seek_59 : decode cX1_seek 59 = .ok (.ireturn, 1) := by decide +kernel
theorem dX1_seek_60 : decode cX1_seek 60 = .ok (.aload_n 0, 1) := by decide +kernel
theorem dX1_seek_61 : decode cX1_seek 61 = .ok (.iload_n 1, 1) := by decide +kernel
theorem dX1_seek_62 : decode cX1_seek 62 = .ok (.iload 4, 2) := by decide +kernel
theorem dX1_seek_64 : decode cX1_seek 64 = .ok (.invokevirtual 67, 3) := by decide +kernel
theorem dX1_seek_67 : decode cX1_seek 67 = .ok (.iinc 4 1, 3) := by decide +kernel
theorem dX1_seek_70 : decode cX1_seek 70 = .ok (.goto (-33), 3) := by decide +kernel
theorem dX1_seek_73 : decode cX1_seek 73 = .ok (.iconst (-1), 1) := by decide +kernel
theorem dX1_seek_74 : decode cX1_seek 74 = .ok (.ireturn, 1) := by decide +kernel
set_option maxRecDepth 20000 in
theorem ggX1_put_X1_isSlot : GoodIn wsX1_put wsX1_isSlot := goodIn_r _ [7] (by decide +kernel) (by decide +kernel)
set_option maxRecDepth 20000 in
theorem gX1_put_X1_isSlot : GoodIn wsX1_put (va_wsS RX1 35 yX1_isSlot wsX1_isSlot) := goodIn_app (goodIn_of _ (by decide +kernel)) ggX1_put_X1_isSlot
set_option maxRecDepth 20000 in
theorem ggX1_put_X1_rowOfNumbers : GoodIn wsX1_put wsX1_rowOfNumbers := goodIn_r _ [11, 12, 3, 13, 14, 6, 15, 16, 17, 18, 19, 20, 21, 22, 23, 1, 24, 25, 26, 27, 28, 29, 30, 31, 32, 33, 34, 35, 36, 37, 41, 42, 43, 44, 45, 46, 47, 48, 49, 50, 51, 52] (by decide +kernel) (by decide +kernel)
set_option maxRecDepth 20000 in
theorem gX1_put_X1_rowOfNumbers : GoodIn wsX1_put (wsV RX1 71 RX1 yX1_rowOfNumbers wsX1_rowOfNumbers) := goodIn_app (goodIn_of _ (by decide +kernel)) ggX1_put_X1_rowOfNumbers
set_option maxRecDepth 20000 in
theorem ggX1_put_X1_failed : GoodIn wsX1_put wsX1_failed := goodIn_r _ [23, 1, 41, 42, 43, 44, 45, 46] (by decide +kernel) (by decide +kernel)
set_option maxRecDepth 20000 in
theorem gX1_put_X1_failed : GoodIn wsX1_put (wsV RX1 52 RX1 yX1_failed wsX1_failed) := goodIn_app (goodIn_of _ (by decide +kernel)) ggX1_put_X1_failed
set_option maxRecDepth 20000 in
theorem ggX1_put_X1_narrowed : GoodIn wsX1_put wsX1_narrowed := goodIn_r _ [40] (by decide +kernel) (by decide +kernel)
set_option maxRecDepth 20000 in
theorem gX1_put_X1_narrowed : GoodIn wsX1_put (va_wsS RX1 82 yX1_narrowed wsX1_narrowed) := goodIn_app (goodIn_of _ (by decide +kernel)) ggX1_put_X1_narrowed
theorem dX1_put_0 : decode cX1_put 0 = .ok (.aload_n 0, 1) := by decide +kernel
theorem dX1_put_1 : decode cX1_put 1 = .ok (.iconst 0, 1) := by decide +kernel
theorem dX1_put_2 : decode cX1_put 2 = .ok (.putfield 19, 3) := by decide +kernel
theorem dX1_put_5 : decode cX1_put 5 = .ok (.iload_n 1, 1) := by decide +kernel
theorem dX1_put_6 : decode cX1_put 6 = .ok (.invokestatic 35, 3) := by decide +kernel
theorem dX1_put_9 : decode cX1_put 9 = .ok (.ifCond .ne 6, 3) := by decide +kernel
theorem dX1_put_12 : decode cX1_put 12 = .ok (.bipush (-2), 2) := by decide +kernel
theorem dX1_put_14 : decode cX1_put 14 = .ok (.ireturn, 1) := by decide +kernel
theorem dX1_put_15 : decode cX1_put 15 = .ok (.aload_n 0, 1) := by decide +kernel
theorem dX1_put_16 : decode cX1_put 16 = .ok (.iload_n 1, 1) := by decide +kernel
theorem dX1_put_17 : decode cX1_put 17 = .ok (.invokevirtual 71, 3) := by decide +kernel
theorem dX1_put_20 : decode cX1_put 20 = .ok (.astore 5, 2) := by decide +kernel
theorem dX1_put_22 : decode cX1_put 22 = .ok (.aload 5, 2) := by decide +kernel
theorem dX1_put_24 : decode cX1_put 24 = .ok (.ifnonnull 5, 3) := by decide +kernel
theorem dX1_put_27 : decode cX1_put 27 = .ok (.iconst 0, 1) := by decide +kernel
theorem dX1_put_28 : decode cX1_put 28 = .ok (.ireturn, 1) := by decide +kernel
theorem dX1_put_29 : decode cX1_put 29 = .ok (.iload_n 2, 1) := by decide +kernel
theorem dX1_put_30 : decode cX1_put 30 = .ok (.ifCond .lt 13, 3) := by decide +kernel
theorem dX1_put_33 : decode cX1_put 33 = .ok (.iload_n 2, 1) := by decide +kernel
theorem dX1_put_34 : decode cX1_put 34 = .ok (.aload 5, 2) := by decide +kernel
theorem dX1_put_36 : decode cX1_put 36 = .ok (.getfield 75, 3) := by decide +kernel
theorem dX1_put_39 : decode cX1_put 39 = .ok (.arraylength, 1) := by decide +kernel
theorem dX1_put_40 : decode cX1_put 40 = .ok (.if_icmp .lt 9, 3) := by decide +kernel
theorem dX1_put_43 : decode cX1_put 43 = .ok (.aload_n 0, 1) := by decide +kernel
theorem dX1_put_44 : decode cX1_put 44 = .ok (.iconst 3, 1) := by decide +kernel
theorem dX1_put_45 : decode cX1_put 45 = .ok (.invokevirtual 52, 3) := by decide +kernel
theorem dX1_put_48 : decode cX1_put 48 = .ok (.ireturn, 1) := by decide +kernel
theorem dX1_put_49 : decode cX1_put 49 = .ok (.aload 5, 2) := by decide +kernel
theorem dX1_put_51 : decode cX1_put 51 = .ok (.getfield 75, 3) := by decide +kernel
theorem dX1_put_54 : decode cX1_put 54 = .ok (.iload_n 2, 1) := by decide +kernel
theorem dX1_put_55 : decode cX1_put 55 = .ok (.aload 5, 2) := by decide +kernel
theorem dX1_put_57 : decode cX1_put 57 = .ok (.getfield 79, 3) := by decide +kernel
theorem dX1_put_60 : decode cX1_put 60 = .ok (.lload_n 3, 1) := by decide +kernel
theorem dX1_put_61 : decode cX1_put 61 = .ok (.invokestatic 82, 3) := by decide +kernel
theorem dX1_put_64 : decode cX1_put 64 = .ok (.lastore, 1) := by decide +kernel
theorem dX1_put_65 : decode cX1_put 65 = .ok (.iconst 1, 1) := by decide +kernel
theorem dX1_put_66 : decode cX1_put 66 = .ok (.ireturn, 1) := by decide +kernel
set_option maxRecDepth 20000 in
theorem ggX1_get_X1_isSlot : GoodIn wsX1_get wsX1_isSlot := goodIn_r _ [6] (by decide +kernel) (by decide +kernel)
set_option maxRecDepth 20000 in
theorem gX1_get_X1_isSlot : GoodIn wsX1_get (va_wsS RX1 35 yX1_isSlot wsX1_isSlot) := goodIn_app (goodIn_of _ (by decide +kernel)) ggX1_get_X1_isSlot
set_option maxRecDepth 20000 in
theorem ggX1_get_X1_failed : GoodIn wsX1_get wsX1_failed := goodIn_r _ [10, 1, 38, 39, 40, 41, 42, 43] (by decide +kernel) (by decide +kernel)
set_option maxRecDepth 20000 in
theorem gX1_get_X1_failed : GoodIn wsX1_get (wsV RX1 52 RX1 yX1_failed wsX1_failed) := goodIn_app (goodIn_of _ (by decide +kernel)) ggX1_get_X1_failed
set_option maxRecDepth 20000 in
theorem ggX1_get_X1_rowOfNumbers : GoodIn wsX1_get wsX1_rowOfNumbers := goodIn_r _ [14, 15, 16, 17, 18, 5, 19, 20, 21, 22, 23, 7, 8, 9, 10, 1, 24, 25, 26, 27, 28, 29, 30, 31, 32, 33, 34, 35, 36, 37, 38, 39, 40, 41, 42, 43, 44, 45, 46, 47, 48, 49] (by decide +kernel) (by decide +kernel)
set_option maxRecDepth 20000 in
theorem gX1_get_X1_rowOfNumbers : GoodIn wsX1_get (wsV RX1 71 RX1 yX1_rowOfNumbers wsX1_rowOfNumbers) := goodIn_app (goodIn_of _ (by decide +kernel)) ggX1_get_X1_rowOfNumbers
theorem dX1_get_0 : decode cX1_get 0 = .ok (.aload_n 0, 1) := by decide +kernel
theorem dX1_get_1 : decode cX1_get 1 = .ok (.iconst 0, 1) := by decide +kernel
theorem dX1_get_2 : decode cX1_get 2 = .ok (.putfield 19, 3) := by decide +kernel
theorem dX1_get_5 : decode cX1_get 5 = .ok (.iload_n 1, 1) := by decide +kernel
theorem dX1_get_6 : decode cX1_get 6 = .ok (.invokestatic 35, 3) := by decide +kernel
theorem dX1_get_9 : decode cX1_get 9 = .ok (.ifCond .ne 11, 3) := by decide +kernel
theorem dX1_get_12 : decode cX1_get 12 = .ok (.aload_n 0, 1) := by decide +kernel
theorem dX1_get_13 : decode cX1_get 13 = .ok (.bipush (-2), 2) := by decide +kernel
theorem dX1_get_15 : decode cX1_get 15 = .ok (.invokevirtual 52, 3) := by decide +kernel
theorem dX1_get_18 : decode cX1_get 18 = .ok (.i2l, 1) := by decide +kernel
theorem dX1_get_19 : decode cX1_get 19 = .ok (.lreturn, 1) := by decide +kernel
theorem dX1_get_20 : decode cX1_get 20 = .ok (.aload_n 0, 1) := by decide +kernel
theorem dX1_get_21 : decode cX1_get 21 = .ok (.iload_n 1, 1) := by decide +kernel
theorem dX1_get_22 : decode cX1_get 22 = .ok (.invokevirtual 71, 3) := by decide +kernel
theorem dX1_get_25 : decode cX1_get 25 = .ok (.astore_n 3, 1) := by decide +kernel
theorem dX1_get_26 : decode cX1_get 26 = .ok (.aload_n 3, 1) := by decide +kernel
theorem dX1_get_27 : decode cX1_get 27 = .ok (.ifnonnull 5, 3) := by decide +kernel
theorem dX1_get_30 : decode cX1_get 30 = .ok (.lconst 0, 1) := by decide +kernel
theorem dX1_get_31 : decode cX1_get 31 = .ok (.lreturn, 1) := by decide +kernel
theorem dX1_get_32 : decode cX1_get 32 = .ok (.iload_n 2, 1) := by decide +kernel
theorem dX1_get_33 : decode cX1_get 33 = .ok (.ifCond .lt 12, 3) := by decide +kernel
theorem dX1_get_36 : decode cX1_get 36 = .ok (.iload_n 2, 1) := by decide +kernel
theorem dX1_get_37 : decode cX1_get 37 = .ok (.aload_n 3, 1) := by decide +kernel
theorem dX1_get_38 : decode cX1_get 38 = .ok (.getfield 75, 3) := by decide +kernel
theorem dX1_get_41 : decode cX1_get 41 = .ok (.arraylength, 1) := by decide +kernel
theorem dX1_get_42 : decode cX1_get 42 = .ok (.if_icmp .lt 10, 3) := by decide +kernel
theorem dX1_get_45 : decode cX1_get 45 = .ok (.aload_n 0, 1) := by decide +kernel
theorem dX1_get_46 : decode cX1_get 46 = .ok (.iconst 3, 1) := by decide +kernel
theorem dX1_get_47 : decode cX1_get 47 = .ok (.invokevirtual 52, 3) := by decide +kernel
theorem dX1_get_50 : decode cX1_get 50 = .ok (.i2l, 1) := by decide +kernel
theorem dX1_get_51 : decode cX1_get 51 = .ok (.lreturn, 1) := by decide +kernel
theorem dX1_get_52 : decode cX1_get 52 = .ok (.aload_n 3, 1) := by decide +kernel
theorem dX1_get_53 : decode cX1_get 53 = .ok (.getfield 75, 3) := by decide +kernel
theorem dX1_get_56 : decode cX1_get 56 = .ok (.iload_n 2, 1) := by decide +kernel
theorem dX1_get_57 : decode cX1_get 57 = .ok (.laload, 1) := by decide +kernel
theorem dX1_get_58 : decode cX1_get 58 = .ok (.lreturn, 1) := by decide +kernel
set_option maxRecDepth 20000 in
theorem ggX1_lay_X1_isSlot : GoodIn wsX1_lay wsX1_isSlot := goodIn_r _ [8] (by decide +kernel) (by decide +kernel)
set_option maxRecDepth 20000 in
theorem gX1_lay_X1_isSlot : GoodIn wsX1_lay (va_wsS RX1 35 yX1_isSlot wsX1_isSlot) := goodIn_app (goodIn_of _ (by decide +kernel)) ggX1_lay_X1_isSlot
set_option maxRecDepth 20000 in
theorem ggX1_lay_X1_rowOfThings : GoodIn wsX1_lay wsX1_rowOfThings := goodIn_r _ [12, 2, 3, 13, 14, 7, 15, 16, 17, 18, 19, 20, 21, 22, 23, 1, 24, 25, 26, 27, 28, 29, 30, 31, 32, 33, 34, 35, 36, 37, 44, 45, 46, 47, 48, 49, 50, 51, 52, 53, 54, 55] (by decide +kernel) (by decide +kernel)
set_option maxRecDepth 20000 in
theorem gX1_lay_X1_rowOfThings : GoodIn wsX1_lay (wsV RX1 86 RX1 yX1_rowOfThings wsX1_rowOfThings) := goodIn_app (goodIn_of _ (by decide +kernel)) ggX1_lay_X1_rowOfThings
set_option maxRecDepth 20000 in
theorem ggX1_lay_X1_gateOfLaying : GoodIn wsX1_lay wsX1_gateOfLaying := goodIn_r _ [40] (by decide +kernel) (by decide +kernel)
set_option maxRecDepth 20000 in
theorem gX1_lay_X1_gateOfLaying : GoodIn wsX1_lay (va_wsS RX1 89 yX1_gateOfLaying wsX1_gateOfLaying) := goodIn_app (goodIn_of _ (by decide +kernel)) ggX1_lay_X1_gateOfLaying
set_option maxRecDepth 20000 in
theorem ggX1_lay_X1_letsThrough : GoodIn wsX1_lay wsX1_letsThrough := goodIn_r _ [26, 3, 50, 51, 52, 53, 54, 55] (by decide +kernel) (by decide +kernel)
set_option maxRecDepth 20000 in
theorem gX1_lay_X1_letsThrough : GoodIn wsX1_lay (va_wsS RX1 48 yX1_letsThrough wsX1_letsThrough) := goodIn_app (goodIn_of _ (by decide +kernel)) ggX1_lay_X1_letsThrough
set_option maxRecDepth 20000 in
theorem ggX1_lay_X1_failedAtGate : GoodIn wsX1_lay wsX1_failedAtGate := goodIn_r _ [30, 31, 32, 33, 7, 34, 35, 36, 37, 20, 21, 22, 23, 1, 44, 45, 46, 47, 48, 49] (by decide +kernel) (by decide +kernel)
set_option maxRecDepth 20000 in
theorem gX1_lay_X1_failedAtGate : GoodIn wsX1_lay (wsV RX1 92 RX1 yX1_failedAtGate wsX1_failedAtGate) := goodIn_app (goodIn_of _ (by decide +kernel)) ggX1_lay_X1_failedAtGate
set_option maxRecDepth 20000 in
theorem ggX1_lay_X1_failed : GoodIn wsX1_lay wsX1_failed := goodIn_r _ [23, 1, 44, 45, 46, 47, 48, 49] (by decide +kernel) (by decide +kernel)
set_option maxRecDepth 20000 in
theorem gX1_lay_X1_failed : GoodIn wsX1_lay (wsV RX1 52 RX1 yX1_failed wsX1_failed) := goodIn_app (goodIn_of _ (by decide +kernel)) ggX1_lay_X1_failed
set_option maxRecDepth 20000 in
theorem ggX1_lay_X1_gateOfPlaces : GoodIn wsX1_lay wsX1_gateOfPlaces := goodIn_r _ [43, 38, 39, 7, 40] (by decide +kernel) (by decide +kernel)
set_option maxRecDepth 20000 in
theorem gX1_lay_X1_gateOfPlaces : GoodIn wsX1_lay (va_wsS RX1 99 yX1_gateOfPlaces wsX1_gateOfPlaces) := goodIn_app (goodIn_of _ (by decide +kernel)) ggX1_lay_X1_gateOfPlaces
theorem dX1_lay_0 : decode cX1_lay 0 = .ok (.aload_n 0, 1) := by decide +kernel
theorem dX1_lay_1 : decode cX1_lay 1 = .ok (.iconst 0, 1) := by decide +kernel
theorem dX1_lay_2 : decode cX1_lay 2 = .ok (.putfield 19, 3) := by decide +kernel
theorem dX1_lay_5 : decode cX1_lay 5 = .ok (.iload_n 1, 1) := by decide +kernel
theorem dX1_lay_6 : decode cX1_lay 6 = .ok (.invokestatic 35, 3) := by decide +kernel
theorem dX1_lay_9 : decode cX1_lay 9 = .ok (.ifCond .eq 10, 3) := by decide +kernel
theorem dX1_lay_12 : decode cX1_lay 12 = .ok (.iload_n 3, 1) := by decide +kernel
theorem dX1_lay_13 : decode cX1_lay 13 = .ok (.invokestatic 35, 3) := by decide +kernel
theorem dX1_lay_16 : decode cX1_lay 16 = .ok (.ifCond .ne 6, 3) := by decide +kernel
theorem dX1_lay_19 : decode cX1_lay 19 = .ok (.bipush (-2), 2) := by decide +kernel
theorem dX1_lay_21 : decode cX1_lay 21 = .ok (.ireturn, 1) := by decide +kernel
theorem dX1_lay_22 : decode cX1_lay 22 = .ok (.aload_n 0, 1) := by decide +kernel
theorem dX1_lay_23 : decode cX1_lay 23 = .ok (.iload_n 1, 1) := by decide +kernel
theorem dX1_lay_24 : decode cX1_lay 24 = .ok (.invokevirtual 86, 3) := by decide +kernel
theorem dX1_lay_27 : decode cX1_lay 27 = .ok (.astore 4, 2) := by decide +kernel
theorem dX1_lay_29 : decode cX1_lay 29 = .ok (.aload 4, 2) := by decide +kernel
theorem dX1_lay_31 : decode cX1_lay 31 = .ok (.ifnonnull 5, 3) := by decide +kernel
theorem dX1_lay_34 : decode cX1_lay 34 = .ok (.iconst 0, 1) := by decide +kernel
theorem dX1_lay_35 : decode cX1_lay 35 = .ok (.ireturn, 1) := by decide +kernel
theorem dX1_lay_36 : decode cX1_lay 36 = .ok (.aload_n 0, 1) := by decide +kernel
theorem dX1_lay_37 : decode cX1_lay 37 = .ok (.getfield 11, 3) := by decide +kernel
theorem dX1_lay_40 : decode cX1_lay 40 = .ok (.iload_n 3, 1) := by decide +kernel
theorem dX1_lay_41 : decode cX1_lay 41 = .ok (.aaload, 1) := by decide +kernel
theorem dX1_lay_42 : decode cX1_lay 42 = .ok (.astore 5, 2) := by decide +kernel
theorem dX1_lay_44 : decode cX1_lay 44 = .ok (.aload 4, 2) := by decide +kernel
theorem dX1_lay_46 : decode cX1_lay 46 = .ok (.getfield 79, 3) := by decide +kernel
theorem dX1_lay_49 : decode cX1_lay 49 = .ok (.invokestatic 89, 3) := by decide +kernel
theorem dX1_lay_52 : decode cX1_lay 52 = .ok (.istore 6, 2) := by decide +kernel
theorem dX1_lay_54 : decode cX1_lay 54 = .ok (.aload 5, 2) := by decide +kernel
theorem dX1_lay_56 : decode cX1_lay 56 = .ok (.ifnull 21, 3) := by decide +kernel
theorem dX1_lay_59 : decode cX1_lay 59 = .ok (.iload 6, 2) := by decide +kernel
theorem dX1_lay_61 : decode cX1_lay 61 = .ok (.aload 5, 2) := by decide +kernel
theorem dX1_lay_63 : decode cX1_lay 63 = .ok (.invokestatic 48, 3) := by decide +kernel
theorem dX1_lay_66 : decode cX1_lay 66 = .ok (.ifCond .ne 11, 3) := by decide +kernel
theorem dX1_lay_69 : decode cX1_lay 69 = .ok (.aload_n 0, 1) := by decide +kernel
theorem dX1_lay_70 : decode cX1_lay 70 = .ok (.iload_n 3, 1) := by decide +kernel
theorem dX1_lay_71 : decode cX1_lay 71 = .ok (.iload 6, 2) := by decide +kernel
theorem dX1_lay_73 : decode cX1_lay 73 = .ok (.invokevirtual 92, 3) := by decide +kernel
theorem dX1_lay_76 : decode cX1_lay 76 = .ok (.ireturn, 1) := by decide +kernel
theorem dX1_lay_77 : decode cX1_lay 77 = .ok (.iload_n 2, 1) := by decide +kernel
theorem dX1_lay_78 : decode cX1_lay 78 = .ok (.ifCond .lt 13, 3) := by decide +kernel
theorem dX1_lay_81 : decode cX1_lay 81 = .ok (.iload_n 2, 1) := by decide +kernel
theorem dX1_lay_82 : decode cX1_lay 82 = .ok (.aload 4, 2) := by decide +kernel
theorem dX1_lay_84 : decode cX1_lay 84 = .ok (.getfield 96, 3) := by decide +kernel
theorem dX1_lay_87 : decode cX1_lay 87 = .ok (.arraylength, 1) := by decide +kernel
theorem dX1_lay_88 : decode cX1_lay 88 = .ok (.if_icmp .lt 9, 3) := by decide +kernel
theorem dX1_lay_91 : decode cX1_lay 91 = .ok (.aload_n 0, 1) := by decide +kernel
theorem dX1_lay_92 : decode cX1_lay 92 = .ok (.iconst 3, 1) := by decide +kernel
theorem dX1_lay_93 : decode cX1_lay 93 = .ok (.invokevirtual 52, 3) := by decide +kernel
theorem dX1_lay_96 : decode cX1_lay 96 = .ok (.ireturn, 1) := by decide +kernel
theorem dX1_lay_97 : decode cX1_lay 97 = .ok (.aload 5, 2) := by decide +kernel
theorem dX1_lay_99 : decode cX1_lay 99 = .ok (.ifnull 25, 3) := by decide +kernel
theorem dX1_lay_102 : decode cX1_lay 102 = .ok (.aload 4, 2) := by decide +kernel
theorem dX1_lay_104 : decode cX1_lay 104 = .ok (.getfield 79, 3) := by decide +kernel
theorem dX1_lay_107 : decode cX1_lay 107 = .ok (.invokestatic 99, 3) := by decide +kernel
theorem dX1_lay_110 : decode cX1_lay 110 = .ok (.aload 5, 2) := by decide +kernel
theorem dX1_lay_112 : decode cX1_lay 112 = .ok (.invokestatic 48, 3) := by decide +kernel
theorem dX1_lay_115 : decode cX1_lay 115 = .ok (.ifCond .ne 9, 3) := by decide +kernel
theorem dX1_lay_118 : decode cX1_lay 118 = .ok (.aload_n 0, 1) := by decide +kernel
theorem dX1_lay_119 : decode cX1_lay 119 = .ok (.iconst 5, 1) := by decide +kernel
theorem dX1_lay_120 : decode cX1_lay 120 = .ok (.invokevirtual 52, 3) := by decide +kernel
theorem dX1_lay_123 : decode cX1_lay 123 = .ok (.ireturn, 1) := by decide +kernel
theorem dX1_lay_124 : decode cX1_lay 124 = .ok (.aload 4, 2) := by decide +kernel
theorem dX1_lay_126 : decode cX1_lay 126 = .ok (.getfield 96, 3) := by decide +kernel
theorem dX1_lay_129 : decode cX1_lay 129 = .ok (.iload_n 2, 1) := by decide +kernel
theorem dX1_lay_130 : decode cX1_lay 130 = .ok (.aload 5, 2) := by decide +kernel
theorem dX1_lay_132 : decode cX1_lay 132 = .ok (.aastore, 1) := by decide +kernel
theorem dX1_lay_133 : decode cX1_lay 133 = .ok (.iconst 1, 1) := by decide +kernel
theorem dX1_lay_134 : decode cX1_lay 134 = .ok (.ireturn, 1) := by decide +kernel
set_option maxRecDepth 20000 in
theorem ggX1_take_X1_isSlot : GoodIn wsX1_take wsX1_isSlot := goodIn_r _ [7] (by decide +kernel) (by decide +kernel)
set_option maxRecDepth 20000 in
theorem gX1_take_X1_isSlot : GoodIn wsX1_take (va_wsS RX1 35 yX1_isSlot wsX1_isSlot) := goodIn_app (goodIn_of _ (by decide +kernel)) ggX1_take_X1_isSlot
set_option maxRecDepth 20000 in
theorem ggX1_take_X1_rowOfThings : GoodIn wsX1_take wsX1_rowOfThings := goodIn_r _ [11, 3, 12, 13, 14, 6, 15, 16, 17, 18, 19, 20, 21, 22, 23, 1, 24, 25, 26, 27, 28, 29, 30, 31, 32, 33, 34, 35, 36, 37, 42, 43, 44, 45, 46, 47, 48, 49, 50, 51, 52, 53] (by decide +kernel) (by decide +kernel)
set_option maxRecDepth 20000 in
theorem gX1_take_X1_rowOfThings : GoodIn wsX1_take (wsV RX1 86 RX1 yX1_rowOfThings wsX1_rowOfThings) := goodIn_app (goodIn_of _ (by decide +kernel)) ggX1_take_X1_rowOfThings
set_option maxRecDepth 20000 in
theorem ggX1_take_X1_failed : GoodIn wsX1_take wsX1_failed := goodIn_r _ [23, 1, 42, 43, 44, 45, 46, 47] (by decide +kernel) (by decide +kernel)
set_option maxRecDepth 20000 in
theorem gX1_take_X1_failed : GoodIn wsX1_take (wsV RX1 52 RX1 yX1_failed wsX1_failed) := goodIn_app (goodIn_of _ (by decide +kernel)) ggX1_take_X1_failed
set_option maxRecDepth 20000 in
theorem ggX1_take_X1_numberOf : GoodIn wsX1_take wsX1_numberOf := goodIn_r _ [40, 41, 48, 49, 50, 51, 52, 53] (by decide +kernel) (by decide +kernel)
set_option maxRecDepth 20000 in
theorem gX1_take_X1_numberOf : GoodIn wsX1_take (va_wsS RX1 102 yX1_numberOf wsX1_numberOf) := goodIn_app (goodIn_of _ (by decide +kernel)) ggX1_take_X1_numberOf
theorem dX1_take_0 : decode cX1_take 0 = .ok (.aload_n 0, 1) := by decide +kernel
theorem dX1_take_1 : decode cX1_take 1 = .ok (.iconst 0, 1) := by decide +kernel
theorem dX1_take_2 : decode cX1_take 2 = .ok (.putfield 19, 3) := by decide +kernel
theorem dX1_take_5 : decode cX1_take 5 = .ok (.iload_n 1, 1) := by decide +kernel
theorem dX1_take_6 : decode cX1_take 6 = .ok (.invokestatic 35, 3) := by decide +kernel
theorem dX1_take_9 : decode cX1_take 9 = .ok (.ifCond .eq 10, 3) := by decide +kernel
theorem dX1_take_12 : decode cX1_take 12 = .ok (.iload_n 3, 1) := by decide +kernel
theorem dX1_take_13 : decode cX1_take 13 = .ok (.invokestatic 35, 3) := by decide +kernel
theorem dX1_take_16 : decode cX1_take 16 = .ok (.ifCond .ne 6, 3) := by decide +kernel
theorem dX1_take_19 : decode cX1_take 19 = .ok (.bipush (-2), 2) := by decide +kernel
theorem dX1_take_21 : decode cX1_take 21 = .ok (.ireturn, 1) := by decide +kernel
theorem dX1_take_22 : decode cX1_take 22 = .ok (.aload_n 0, 1) := by decide +kernel
theorem dX1_take_23 : decode cX1_take 23 = .ok (.iload_n 1, 1) := by decide +kernel
theorem dX1_take_24 : decode cX1_take 24 = .ok (.invokevirtual 86, 3) := by decide +kernel
theorem dX1_take_27 : decode cX1_take 27 = .ok (.astore 4, 2) := by decide +kernel
theorem dX1_take_29 : decode cX1_take 29 = .ok (.aload 4, 2) := by decide +kernel
theorem dX1_take_31 : decode cX1_take 31 = .ok (.ifnonnull 5, 3) := by decide +kernel
theorem dX1_take_34 : decode cX1_take 34 = .ok (.iconst 0, 1) := by decide +kernel
theorem dX1_take_35 : decode cX1_take 35 = .ok (.ireturn, 1) := by decide +kernel
theorem dX1_take_36 : decode cX1_take 36 = .ok (.iload_n 2, 1) := by decide +kernel
theorem dX1_take_37 : decode cX1_take 37 = .ok (.ifCond .lt 13, 3) := by decide +kernel
theorem dX1_take_40 : decode cX1_take 40 = .ok (.iload_n 2, 1) := by decide +kernel
theorem dX1_take_41 : decode cX1_take 41 = .ok (.aload 4, 2) := by decide +kernel
theorem dX1_take_43 : decode cX1_take 43 = .ok (.getfield 96, 3) := by decide +kernel
theorem dX1_take_46 : decode cX1_take 46 = .ok (.arraylength, 1) := by decide +kernel
theorem dX1_take_47 : decode cX1_take 47 = .ok (.if_icmp .lt 9, 3) := by decide +kernel
theorem dX1_take_50 : decode cX1_take 50 = .ok (.aload_n 0, 1) := by decide +kernel
theorem dX1_take_51 : decode cX1_take 51 = .ok (.iconst 3, 1) := by decide +kernel
theorem dX1_take_52 : decode cX1_take 52 = .ok (.invokevirtual 52, 3) := by decide +kernel
theorem dX1_take_55 : decode cX1_take 55 = .ok (.ireturn, 1) := by decide +kernel
theorem dX1_take_56 : decode cX1_take 56 = .ok (.aload_n 0, 1) := by decide +kernel
theorem dX1_take_57 : decode cX1_take 57 = .ok (.getfield 11, 3) := by decide +kernel
theorem dX1_take_60 : decode cX1_take 60 = .ok (.iload_n 3, 1) := by decide +kernel
theorem dX1_take_61 : decode cX1_take 61 = .ok (.aload 4, 2) := by decide +kernel
theorem dX1_take_63 : decode cX1_take 63 = .ok (.getfield 96, 3) := by decide +kernel
theorem dX1_take_66 : decode cX1_take 66 = .ok (.iload_n 2, 1) := by decide +kernel
theorem dX1_take_67 : decode cX1_take 67 = .ok (.aaload, 1) := by decide +kernel
theorem dX1_take_68 : decode cX1_take 68 = .ok (.aastore, 1) := by decide +kernel
theorem dX1_take_69 : decode cX1_take 69 = .ok (.aload_n 0, 1) := by decide +kernel
theorem dX1_take_70 : decode cX1_take 70 = .ok (.getfield 11, 3) := by decide +kernel
theorem dX1_take_73 : decode cX1_take 73 = .ok (.iload_n 3, 1) := by decide +kernel
theorem dX1_take_74 : decode cX1_take 74 = .ok (.aaload, 1) := by decide +kernel
theorem dX1_take_75 : decode cX1_take 75 = .ok (.invokestatic 102, 3) := by decide +kernel
theorem dX1_take_78 : decode cX1_take 78 = .ok (.ireturn, 1) := by decide +kernel
set_option maxRecDepth 20000 in
theorem ggX1_share_X1_isSlot : GoodIn wsX1_share wsX1_isSlot := goodIn_r _ [6] (by decide +kernel) (by decide +kernel)
set_option maxRecDepth 20000 in
theorem gX1_share_X1_isSlot : GoodIn wsX1_share (va_wsS RX1 35 yX1_isSlot wsX1_isSlot) := goodIn_app (goodIn_of _ (by decide +kernel)) ggX1_share_X1_isSlot
set_option maxRecDepth 20000 in
theorem ggX1_share_X1_numberOf : GoodIn wsX1_share wsX1_numberOf := goodIn_r _ [9, 10, 17, 18, 19, 20, 21, 22] (by decide +kernel) (by decide +kernel)
set_option maxRecDepth 20000 in
theorem gX1_share_X1_numberOf : GoodIn wsX1_share (va_wsS RX1 102 yX1_numberOf wsX1_numberOf) := goodIn_app (goodIn_of _ (by decide +kernel)) ggX1_share_X1_numberOf
theorem dX1_share_0 : decode cX1_share 0 = .ok (.aload_n 0, 1) := by decide +kernel
theorem dX1_share_1 : decode cX1_share 1 = .ok (.iconst 0, 1) := by decide +kernel
theorem dX1_share_2 : decode cX1_share 2 = .ok (.putfield 19, 3) := by decide +kernel
theorem dX1_share_5 : decode cX1_share 5 = .ok (.iload_n 1, 1) := by decide +kernel
theorem dX1_share_6 : decode cX1_share 6 = .ok (.invokestatic 35, 3) := by decide +kernel
theorem dX1_share_9 : decode cX1_share 9 = .ok (.ifCond .eq 10, 3) := by decide +kernel
theorem dX1_share_12 : decode cX1_share 12 = .ok (.iload_n 2, 1) := by decide +kernel
theorem dX1_share_13 : decode cX1_share 13 = .ok (.invokestatic 35, 3) := by decide +kernel
theorem dX1_share_16 : decode cX1_share 16 = .ok (.ifCond .ne 6, 3) := by decide +kernel
theorem dX1_share_19 : decode cX1_share 19 = .ok (.bipush (-2), 2) := by decide +kernel
theorem dX1_share_21 : decode cX1_share 21 = .ok (.ireturn, 1) := by decide +kernel
theorem dX1_share_22 : decode cX1_share 22 = .ok (.aload_n 0, 1) := by decide +kernel
theorem dX1_share_23 : decode cX1_share 23 = .ok (.getfield 11, 3) := by decide +kernel
theorem dX1_share_26 : decode cX1_share 26 = .ok (.iload_n 2, 1) := by decide +kernel
theorem dX1_share_27 : decode cX1_share 27 = .ok (.aload_n 0, 1) := by decide +kernel
theorem dX1_share_28 : decode cX1_share 28 = .ok (.getfield 11, 3) := by decide +kernel
theorem dX1_share_31 : decode cX1_share 31 = .ok (.iload_n 1, 1) := by decide +kernel
theorem dX1_share_32 : decode cX1_share 32 = .ok (.aaload, 1) := by decide +kernel
theorem dX1_share_33 : decode cX1_share 33 = .ok (.aastore, 1) := by decide +kernel
theorem dX1_share_34 : decode cX1_share 34 = .ok (.aload_n 0, 1) := by decide +kernel
theorem dX1_share_35 : decode cX1_share 35 = .ok (.getfield 11, 3) := by decide +kernel
theorem dX1_share_38 : decode cX1_share 38 = .ok (.iload_n 2, 1) := by decide +kernel
theorem dX1_share_39 : decode cX1_share 39 = .ok (.aaload, 1) := by decide +kernel
theorem dX1_share_40 : decode cX1_share 40 = .ok (.invokestatic 102, 3) := by decide +kernel
theorem dX1_share_43 : decode cX1_share 43 = .ok (.ireturn, 1) := by decide +kernel
set_option maxRecDepth 20000 in
theorem ggX1_empty_X1_isSlot : GoodIn wsX1_empty wsX1_isSlot := goodIn_r _ [6] (by decide +kernel) (by decide +kernel)
set_option maxRecDepth 20000 in
theorem gX1_empty_X1_isSlot : GoodIn wsX1_empty (va_wsS RX1 35 yX1_isSlot wsX1_isSlot) := goodIn_app (goodIn_of _ (by decide +kernel)) ggX1_empty_X1_isSlot
set_option maxRecDepth 20000 in
theorem ggX1_empty_X1_numberOf : GoodIn wsX1_empty wsX1_numberOf := goodIn_r _ [9, 10, 17, 18, 19, 20, 21, 22] (by decide +kernel) (by decide +kernel)
set_option maxRecDepth 20000 in
theorem gX1_empty_X1_numberOf : GoodIn wsX1_empty (va_wsS RX1 102 yX1_numberOf wsX1_numberOf) := goodIn_app (goodIn_of _ (by decide +kernel)) ggX1_empty_X1_numberOf
theorem dX1_empty_0 : decode cX1_empty 0 = .ok (.aload_n 0, 1) := by decide +kernel
theorem dX1_empty_1 : decode cX1_empty 1 = .ok (.iconst 0, 1) := by decide +kernel
theorem dX1_empty_2 : decode cX1_empty 2 = .ok (.putfield 19, 3) := by decide +kernel
theorem dX1_empty_5 : decode cX1_empty 5 = .ok (.iload_n 1, 1) := by decide +kernel
theorem dX1_empty_6 : decode cX1_empty 6 = .ok (.invokestatic 35, 3) := by decide +kernel
theorem dX1_empty_9 : decode cX1_empty 9 = .ok (.ifCond .ne 6, 3) := by decide +kernel
theorem dX1_empty_12 : decode cX1_empty 12 = .ok (.bipush (-2), 2) := by decide +kernel
theorem dX1_empty_14 : decode cX1_empty 14 = .ok (.ireturn, 1) := by decide +kernel
theorem dX1_empty_15 : decode cX1_empty 15 = .ok (.aload_n 0, 1) := by decide +kernel
theorem dX1_empty_16 : decode cX1_empty 16 = .ok (.getfield 11, 3) := by decide +kernel
theorem dX1_empty_19 : decode cX1_empty 19 = .ok (.iload_n 1, 1) := by decide +kernel
theorem dX1_empty_20 : decode cX1_empty 20 = .ok (.aaload, 1) := by decide +kernel
theorem dX1_empty_21 : decode cX1_empty 21 = .ok (.invokestatic 102, 3) := by decide +kernel
theorem dX1_empty_24 : decode cX1_empty 24 = .ok (.istore_n 2, 1) := by decide +kernel
theorem dX1_empty_25 : decode cX1_empty 25 = .ok (.aload_n 0, 1) := by decide +kernel
theorem dX1_empty_26 : decode cX1_empty 26 = .ok (.getfield 11, 3) := by decide +kernel
theorem dX1_empty_29 : decode cX1_empty 29 = .ok (.iload_n 1, 1) := by decide +kernel
theorem dX1_empty_30 : decode cX1_empty 30 = .ok (.aconst_null, 1) := by decide +kernel
theorem dX1_empty_31 : decode cX1_empty 31 = .ok (.aastore, 1) := by decide +kernel
theorem dX1_empty_32 : decode cX1_empty 32 = .ok (.iload_n 2, 1) := by decide +kernel
theorem dX1_empty_33 : decode cX1_empty 33 = .ok (.ireturn, 1) := by decide +kernel
set_option maxRecDepth 20000 in
theorem ggX1_lid_X1_isSlot : GoodIn wsX1_lid wsX1_isSlot := goodIn_r _ [6] (by decide +kernel) (by decide +kernel)
set_option maxRecDepth 20000 in
theorem gX1_lid_X1_isSlot : GoodIn wsX1_lid (va_wsS RX1 35 yX1_isSlot wsX1_isSlot) := goodIn_app (goodIn_of _ (by decide +kernel)) ggX1_lid_X1_isSlot
set_option maxRecDepth 20000 in
theorem ggX1_lid_X1_broughtThrough : GoodIn wsX1_lid wsX1_broughtThrough := goodIn_r _ [10, 11, 12, 13, 14, 5, 15, 1, 16, 17, 18, 19, 20, 21, 22, 23, 24, 25, 26, 27, 28, 29, 30, 34, 35, 36, 37, 38, 39, 40, 41, 42, 43, 44, 45] (by decide +kernel) (by decide +kernel)
set_option maxRecDepth 20000 in
theorem gX1_lid_X1_broughtThrough : GoodIn wsX1_lid (wsV RX1 55 RX1 yX1_broughtThrough wsX1_broughtThrough) := goodIn_app (goodIn_of _ (by decide +kernel)) ggX1_lid_X1_broughtThrough
set_option maxRecDepth 20000 in
theorem ggX1_lid_X1_lidOf : GoodIn wsX1_lid wsX1_lidOf := goodIn_r _ [33, 2, 40, 41, 42, 43, 44, 45] (by decide +kernel) (by decide +kernel)
set_option maxRecDepth 20000 in
theorem gX1_lid_X1_lidOf : GoodIn wsX1_lid (va_wsS RX1 106 yX1_lidOf wsX1_lidOf) := goodIn_app (goodIn_of _ (by decide +kernel)) ggX1_lid_X1_lidOf
theorem dX1_lid_0 : decode cX1_lid 0 = .ok (.aload_n 0, 1) := by decide +kernel
theorem dX1_lid_1 : decode cX1_lid 1 = .ok (.iconst 0, 1) := by decide +kernel
theorem dX1_lid_2 : decode cX1_lid 2 = .ok (.putfield 19, 3) := by decide +kernel
theorem dX1_lid_5 : decode cX1_lid 5 = .ok (.iload_n 1, 1) := by decide +kernel
theorem dX1_lid_6 : decode cX1_lid 6 = .ok (.invokestatic 35, 3) := by decide +kernel
theorem dX1_lid_9 : decode cX1_lid 9 = .ok (.ifCond .ne 6, 3) := by decide +kernel
theorem dX1_lid_12 : decode cX1_lid 12 = .ok (.bipush (-2), 2) := by decide +kernel
theorem dX1_lid_14 : decode cX1_lid 14 = .ok (.ireturn, 1) := by decide +kernel
theorem dX1_lid_15 : decode cX1_lid 15 = .ok (.aload_n 0, 1) := by decide +kernel
theorem dX1_lid_16 : decode cX1_lid 16 = .ok (.bipush 10, 2) := by decide +kernel
theorem dX1_lid_18 : decode cX1_lid 18 = .ok (.iload_n 1, 1) := by decide +kernel
theorem dX1_lid_19 : decode cX1_lid 19 = .ok (.invokevirtual 55, 3) := by decide +kernel
theorem dX1_lid_22 : decode cX1_lid 22 = .ok (.astore_n 3, 1) := by decide +kernel
theorem dX1_lid_23 : decode cX1_lid 23 = .ok (.aload_n 3, 1) := by decide +kernel
theorem dX1_lid_24 : decode cX1_lid 24 = .ok (.ifnonnull 5, 3) := by decide +kernel
theorem dX1_lid_27 : decode cX1_lid 27 = .ok (.iconst 0, 1) := by decide +kernel
theorem dX1_lid_28 : decode cX1_lid 28 = .ok (.ireturn, 1) := by decide +kernel
theorem dX1_lid_29 : decode cX1_lid 29 = .ok (.aload_n 3, 1) := by decide +kernel
theorem dX1_lid_30 : decode cX1_lid 30 = .ok (.invokestatic 106, 3) := by decide +kernel
theorem dX1_lid_33 : decode cX1_lid 33 = .ok (.istore 4, 2) := by decide +kernel
theorem dX1_lid_35 : decode cX1_lid 35 = .ok (.aload_n 3, 1) := by decide +kernel
theorem dX1_lid_36 : decode cX1_lid 36 = .ok (.iload_n 2, 1) := by decide +kernel
theorem dX1_lid_37 : decode cX1_lid 37 = .ok (.putfield 109, 3) := by decide +kernel
theorem dX1_lid_40 : decode cX1_lid 40 = .ok (.iload 4, 2) := by decide +kernel
theorem dX1_lid_42 : decode cX1_lid 42 = .ok (.ireturn, 1) := by decide +kernel
set_option maxRecDepth 20000 in
theorem ggX1_weigh_X1_isSlot : GoodIn wsX1_weigh wsX1_isSlot := goodIn_r _ [7] (by decide +kernel) (by decide +kernel)
set_option maxRecDepth 20000 in
theorem gX1_weigh_X1_isSlot : GoodIn wsX1_weigh (va_wsS RX1 35 yX1_isSlot wsX1_isSlot) := goodIn_app (goodIn_of _ (by decide +kernel)) ggX1_weigh_X1_isSlot
set_option maxRecDepth 20000 in
theorem ggX1_weigh_X1_broughtThrough : GoodIn wsX1_weigh wsX1_broughtThrough := goodIn_r _ [11, 12, 13, 14, 15, 6, 16, 1, 17, 18, 19, 20, 21, 22, 23, 24, 25, 26, 27, 28, 29, 30, 31, 32, 33, 34, 35, 36, 37, 38, 39, 40, 41, 42, 43] (by decide +kernel) (by decide +kernel)
set_option maxRecDepth 20000 in
theorem gX1_weigh_X1_broughtThrough : GoodIn wsX1_weigh (wsV RX1 55 RX1 yX1_broughtThrough wsX1_broughtThrough) := goodIn_app (goodIn_of _ (by decide +kernel)) ggX1_weigh_X1_broughtThrough
theorem dX1_weigh_0 : decode cX1_weigh 0 = .ok (.aload_n 0, 1) := by decide +kernel
theorem dX1_weigh_1 : decode cX1_weigh 1 = .ok (.iconst 0, 1) := by decide +kernel
theorem dX1_weigh_2 : decode cX1_weigh 2 = .ok (.putfield 19, 3) := by decide +kernel
theorem dX1_weigh_5 : decode cX1_weigh 5 = .ok (.iload_n 1, 1) := by decide +kernel
theorem dX1_weigh_6 : decode cX1_weigh 6 = .ok (.invokestatic 35, 3) := by decide +kernel
theorem dX1_weigh_9 : decode cX1_weigh 9 = .ok (.ifCond .eq 13, 3) := by decide +kernel
theorem dX1_weigh_12 : decode cX1_weigh 12 = .ok (.iload_n 2, 1) := by decide +kernel
theorem dX1_weigh_13 : decode cX1_weigh 13 = .ok (.ifCond .lt 9, 3) := by decide +kernel
theorem dX1_weigh_16 : decode cX1_weigh 16 = .ok (.iload_n 2, 1) := by decide +kernel
theorem dX1_weigh_17 : decode cX1_weigh 17 = .ok (.ldc 113, 2) := by decide +kernel
theorem dX1_weigh_19 : decode cX1_weigh 19 = .ok (.if_icmp .le 6, 3) := by decide +kernel
theorem dX1_weigh_22 : decode cX1_weigh 22 = .ok (.bipush (-2), 2) := by decide +kernel
theorem dX1_weigh_24 : decode cX1_weigh 24 = .ok (.ireturn, 1) := by decide +kernel
theorem dX1_weigh_25 : decode cX1_weigh 25 = .ok (.aload_n 0, 1) := by decide +kernel
theorem dX1_weigh_26 : decode cX1_weigh 26 = .ok (.bipush 9, 2) := by decide +kernel
theorem dX1_weigh_28 : decode cX1_weigh 28 = .ok (.iload_n 1, 1) := by decide +kernel
theorem dX1_weigh_29 : decode cX1_weigh 29 = .ok (.invokevirtual 55, 3) := by decide +kernel
theorem dX1_weigh_32 : decode cX1_weigh 32 = .ok (.astore_n 3, 1) := by decide +kernel
theorem dX1_weigh_33 : decode cX1_weigh 33 = .ok (.aload_n 3, 1) := by decide +kernel
theorem dX1_weigh_34 : decode cX1_weigh 34 = .ok (.ifnonnull 5, 3) := by decide +kernel
theorem dX1_weigh_37 : decode cX1_weigh 37 = .ok (.iconst 0, 1) := by decide +kernel
theorem dX1_weigh_38 : decode cX1_weigh 38 = .ok (.ireturn, 1) := by decide +kernel
theorem dX1_weigh_39 : decode cX1_weigh 39 = .ok (.aload_n 3, 1) := by decide +kernel
theorem dX1_weigh_40 : decode cX1_weigh 40 = .ok (.getfield 114, 3) := by decide +kernel
theorem dX1_weigh_43 : decode cX1_weigh 43 = .ok (.istore 4, 2) := by decide +kernel
theorem dX1_weigh_45 : decode cX1_weigh 45 = .ok (.aload_n 3, 1) := by decide +kernel
theorem dX1_weigh_46 : decode cX1_weigh 46 = .ok (.iload_n 2, 1) := by decide +kernel
theorem dX1_weigh_47 : decode cX1_weigh 47 = .ok (.putfield 114, 3) := by decide +kernel
theorem dX1_weigh_50 : decode cX1_weigh 50 = .ok (.iload 4, 2) := by decide +kernel
theorem dX1_weigh_52 : decode cX1_weigh 52 = .ok (.ireturn, 1) := by decide +kernel
set_option maxRecDepth 20000 in
theorem ggX1_size_X1_isSlot : GoodIn wsX1_size wsX1_isSlot := goodIn_r _ [9] (by decide +kernel) (by decide +kernel)
set_option maxRecDepth 20000 in
theorem gX1_size_X1_isSlot : GoodIn wsX1_size (va_wsS RX1 35 yX1_isSlot wsX1_isSlot) := goodIn_app (goodIn_of _ (by decide +kernel)) ggX1_size_X1_isSlot
set_option maxRecDepth 20000 in
theorem ggX1_size_X1_failed : GoodIn wsX1_size wsX1_failed := goodIn_r _ [13, 1, 31, 32, 33, 34, 35, 36] (by decide +kernel) (by decide +kernel)
set_option maxRecDepth 20000 in
theorem gX1_size_X1_failed : GoodIn wsX1_size (wsV RX1 52 RX1 yX1_failed wsX1_failed) := goodIn_app (goodIn_of _ (by decide +kernel)) ggX1_size_X1_failed
set_option maxRecDepth 20000 in
theorem ggX1_size_X1_holdsNumbers : GoodIn wsX1_size wsX1_holdsNumbers := goodIn_r _ [16] (by decide +kernel) (by decide +kernel)
set_option maxRecDepth 20000 in
theorem gX1_size_X1_holdsNumbers : GoodIn wsX1_size (va_wsS RX1 117 yX1_holdsNumbers wsX1_holdsNumbers) := goodIn_app (goodIn_of _ (by decide +kernel)) ggX1_size_X1_holdsNumbers
set_option maxRecDepth 20000 in
theorem ggX1_size_X1_holdsThings : GoodIn wsX1_size wsX1_holdsThings := goodIn_r _ [19] (by decide +kernel) (by decide +kernel)
set_option maxRecDepth 20000 in
theorem gX1_size_X1_holdsThings : GoodIn wsX1_size (va_wsS RX1 120 yX1_holdsThings wsX1_holdsThings) := goodIn_app (goodIn_of _ (by decide +kernel)) ggX1_size_X1_holdsThings
set_option maxRecDepth 20000 in
theorem ggX1_size_X1_failedAtGate : GoodIn wsX1_size wsX1_failedAtGate := goodIn_r _ [23, 24, 25, 26, 8, 27, 28, 29, 30, 10, 11, 12, 13, 1, 31, 32, 33, 34, 35, 36] (by decide +kernel) (by decide +kernel)
set_option maxRecDepth 20000 in
theorem gX1_size_X1_failedAtGate : GoodIn wsX1_size (wsV RX1 92 RX1 yX1_failedAtGate wsX1_failedAtGate) := goodIn_app (goodIn_of _ (by decide +kernel)) ggX1_size_X1_failedAtGate
theorem dX1_size_0 : decode cX1_size 0 = .ok (.aload_n 0, 1) := by decide +kernel
theorem dX1_size_1 : decode cX1_size 1 = .ok (.iconst 0, 1) := by decide +kernel
theorem dX1_size_2 : decode cX1_size 2 = .ok (.putfield 19, 3) := by decide +kernel
theorem dX1_size_5 : decode cX1_size 5 = .ok (.iload_n 1, 1) := by decide +kernel
theorem dX1_size_6 : decode cX1_size 6 = .ok (.invokestatic 35, 3) := by decide +kernel
theorem dX1_size_9 : decode cX1_size 9 = .ok (.ifCond .ne 6, 3) := by decide +kernel
theorem dX1_size_12 : decode cX1_size 12 = .ok (.bipush (-2), 2) := by decide +kernel
theorem dX1_size_14 : decode cX1_size 14 = .ok (.ireturn, 1) := by decide +kernel
theorem dX1_size_15 : decode cX1_size 15 = .ok (.aload_n 0, 1) := by decide +kernel
theorem dX1_size_16 : decode cX1_size 16 = .ok (.getfield 11, 3) := by decide +kernel
theorem dX1_size_19 : decode cX1_size 19 = .ok (.iload_n 1, 1) := by decide +kernel
theorem dX1_size_20 : decode cX1_size 20 = .ok (.aaload, 1) := by decide +kernel
theorem dX1_size_21 : decode cX1_size 21 = .ok (.astore_n 2, 1) := by decide +kernel
theorem dX1_size_22 : decode cX1_size 22 = .ok (.aload_n 2, 1) := by decide +kernel
theorem dX1_size_23 : decode cX1_size 23 = .ok (.ifnonnull 9, 3) := by decide +kernel
theorem dX1_size_26 : decode cX1_size 26 = .ok (.aload_n 0, 1) := by decide +kernel
theorem dX1_size_27 : decode cX1_size 27 = .ok (.iconst 2, 1) := by decide +kernel
theorem dX1_size_28 : decode cX1_size 28 = .ok (.invokevirtual 52, 3) := by decide +kernel
theorem dX1_size_31 : decode cX1_size 31 = .ok (.ireturn, 1) := by decide +kernel
theorem dX1_size_32 : decode cX1_size 32 = .ok (.aload_n 2, 1) := by decide +kernel
theorem dX1_size_33 : decode cX1_size 33 = .ok (.getfield 79, 3) := by decide +kernel
theorem dX1_size_36 : decode cX1_size 36 = .ok (.invokestatic 117, 3) := by decide +kernel
theorem dX1_size_39 : decode cX1_size 39 = .ok (.ifCond .eq 9, 3) := by decide +kernel
theorem dX1_size_42 : decode cX1_size 42 = .ok (.aload_n 2, 1) := by decide +kernel
theorem dX1_size_43 : decode cX1_size 43 = .ok (.getfield 75, 3) := by decide +kernel
theorem dX1_size_46 : decode cX1_size 46 = .ok (.arraylength, 1) := by decide +kernel
theorem dX1_size_47 : decode cX1_size 47 = .ok (.ireturn, 1) := by decide +kernel
theorem dX1_size_48 : decode cX1_size 48 = .ok (.aload_n 2, 1) := by decide +kernel
theorem dX1_size_49 : decode cX1_size 49 = .ok (.getfield 79, 3) := by decide +kernel
theorem dX1_size_52 : decode cX1_size 52 = .ok (.invokestatic 120, 3) := by decide +kernel
theorem dX1_size_55 : decode cX1_size 55 = .ok (.ifCond .eq 9, 3) := by decide +kernel
theorem dX1_size_58 : decode cX1_size 58 = .ok (.aload_n 2, 1) := by decide +kernel
theorem dX1_size_59 : decode cX1_size 59 = .ok (.getfield 96, 3) := by decide +kernel
theorem dX1_size_62 : decode cX1_size 62 = .ok (.arraylength, 1) := by decide +kernel
theorem dX1_size_63 : decode cX1_size 63 = .ok (.ireturn, 1) := by decide +kernel
theorem dX1_size_64 : decode cX1_size 64 = .ok (.aload_n 0, 1) := by decide +kernel
theorem dX1_size_65 : decode cX1_size 65 = .ok (.iload_n 1, 1) := by decide +kernel
theorem dX1_size_66 : decode cX1_size 66 = .ok (.bipush 8, 2) := by decide +kernel
theorem dX1_size_68 : decode cX1_size 68 = .ok (.invokevirtual 92, 3) := by decide +kernel
theorem dX1_size_71 : decode cX1_size 71 = .ok (.ireturn, 1) := by decide +kernel
set_option maxRecDepth 20000 in
theorem ggX1_at_X1_isSlot : GoodIn wsX1_at wsX1_isSlot := goodIn_r _ [5] (by decide +kernel) (by decide +kernel)
set_option maxRecDepth 20000 in
theorem gX1_at_X1_isSlot : GoodIn wsX1_at (va_wsS RX1 35 yX1_isSlot wsX1_isSlot) := goodIn_app (goodIn_of _ (by decide +kernel)) ggX1_at_X1_isSlot
set_option maxRecDepth 20000 in
theorem ggX1_at_X1_numberOf : GoodIn wsX1_at wsX1_numberOf := goodIn_r _ [8, 9, 16, 17, 18, 19, 20, 21] (by decide +kernel) (by decide +kernel)
set_option maxRecDepth 20000 in
theorem gX1_at_X1_numberOf : GoodIn wsX1_at (va_wsS RX1 102 yX1_numberOf wsX1_numberOf) := goodIn_app (goodIn_of _ (by decide +kernel)) ggX1_at_X1_numberOf
theorem dX1_at_0 : decode cX1_at 0 = .ok (.iload_n 1, 1) := by decide +kernel
theorem dX1_at_1 : decode cX1_at 1 = .ok (.invokestatic 35, 3) := by decide +kernel
theorem dX1_at_4 : decode cX1_at 4 = .ok (.ifCond .eq 15, 3) := by decide +kernel
theorem dX1_at_7 : decode cX1_at 7 = .ok (.aload_n 0, 1) := by decide +kernel
theorem dX1_at_8 : decode cX1_at 8 = .ok (.getfield 11, 3) := by decide +kernel
theorem dX1_at_11 : decode cX1_at 11 = .ok (.iload_n 1, 1) := by decide +kernel
theorem dX1_at_12 : decode cX1_at 12 = .ok (.aaload, 1) := by decide +kernel
theorem dX1_at_13 : decode cX1_at 13 = .ok (.invokestatic 102, 3) := by decide +kernel
theorem dX1_at_16 : decode cX1_at 16 = .ok (.goto 5, 3) := by decide +kernel
theorem dX1_at_19 : decode cX1_at 19 = .ok (.bipush (-2), 2) := by decide +kernel
theorem dX1_at_21 : decode cX1_at 21 = .ok (.ireturn, 1) := by decide +kernel
theorem dX1_fault_0 : decode cX1_fault 0 = .ok (.aload_n 0, 1) := by decide +kernel
theorem dX1_fault_1 : decode cX1_fault 1 = .ok (.getfield 19, 3) := by decide +kernel
theorem dX1_fault_4 : decode cX1_fault 4 = .ok (.ireturn, 1) := by decide +kernel
theorem dX1_told_0 : decode cX1_told 0 = .ok (.iload_n 1, 1) := by decide +kernel
theorem dX1_told_1 : decode cX1_told 1 = .ok (.tableswitch 42 0 2 #[27, 32, 37], 27) := by decide +kernel
theorem dX1_told_28 : decode cX1_told 28 = .ok (.aload_n 0, 1) := by decide +kernel
theorem dX1_told_29 : decode cX1_told 29 = .ok (.getfield 22, 3) := by decide +kernel
theorem dX1_told_32 : decode cX1_told 32 = .ok (.ireturn, 1) := by decide +kernel
theorem dX1_told_33 : decode cX1_told 33 = .ok (.aload_n 0, 1) := by decide +kernel
theorem dX1_told_34 : decode cX1_told 34 = .ok (.getfield 25, 3) := by decide +kernel
theorem dX1_told_37 : decode cX1_told 37 = .ok (.ireturn, 1) := by decide +kernel
theorem dX1_told_38 : decode cX1_told 38 = .ok (.aload_n 0, 1) := by decide +kernel
theorem dX1_told_39 : decode cX1_told 39 = .ok (.getfield 28, 3) := by decide +kernel
theorem dX1_told_42 : decode cX1_told 42 = .ok (.ireturn, 1) := by decide +kernel
theorem dX1_told_43 : decode cX1_told 43 = .ok (.bipush (-2), 2) := by decide +kernel
theorem dX1_told_45 : decode cX1_told 45 = .ok (.ireturn, 1) := by decide +kernel
theorem dX1_count_0 : decode cX1_count 0 = .ok (.aload_n 0, 1) := by decide +kernel
theorem dX1_count_1 : decode cX1_count 1 = .ok (.getfield 15, 3) := by decide +kernel
theorem dX1_count_4 : decode cX1_count 4 = .ok (.ireturn, 1) := by decide +kernel
set_option maxRecDepth 20000 in
theorem ggX1_broughtThrough_X1_failed : GoodIn wsX1_broughtThrough wsX1_failed := goodIn_r _ [6, 7, 23, 24, 25, 26, 27, 28] (by decide +kernel) (by decide +kernel)
set_option maxRecDepth 20000 in
theorem gX1_broughtThrough_X1_failed : GoodIn wsX1_broughtThrough (wsV RX1 52 RX1 yX1_failed wsX1_failed) := goodIn_app (goodIn_of _ (by decide +kernel)) ggX1_broughtThrough_X1_failed
set_option maxRecDepth 20000 in
theorem ggX1_broughtThrough_X1_letsThrough : GoodIn wsX1_broughtThrough wsX1_letsThrough := goodIn_r _ [10, 11, 29, 30, 31, 32, 33, 34] (by decide +kernel) (by decide +kernel)
set_option maxRecDepth 20000 in
theorem gX1_broughtThrough_X1_letsThrough : GoodIn wsX1_broughtThrough (va_wsS RX1 48 yX1_letsThrough wsX1_letsThrough) := goodIn_app (goodIn_of _ (by decide +kernel)) ggX1_broughtThrough_X1_letsThrough
set_option maxRecDepth 20000 in
theorem ggX1_broughtThrough_X1_failedAtGate : GoodIn wsX1_broughtThrough wsX1_failedAtGate := goodIn_r _ [15, 16, 17, 18, 5, 19, 20, 21, 22, 2, 3, 4, 6, 7, 23, 24, 25, 26, 27, 28] (by decide +kernel) (by decide +kernel)
set_option maxRecDepth 20000 in
theorem gX1_broughtThrough_X1_failedAtGate : GoodIn wsX1_broughtThrough (wsV RX1 92 RX1 yX1_failedAtGate wsX1_failedAtGate) := goodIn_app (goodIn_of _ (by decide +kernel)) ggX1_broughtThrough_X1_failedAtGate
theorem dX1_broughtThrough_0 : decode cX1_broughtThrough 0 = .ok (.aload_n 0, 1) := by decide +kernel
theorem dX1_broughtThrough_1 : decode cX1_broughtThrough 1 = .ok (.getfield 11, 3) := by decide +kernel
theorem dX1_broughtThrough_4 : decode cX1_broughtThrough 4 = .ok (.iload_n 2, 1) := by decide +kernel
theorem dX1_broughtThrough_5 : decode cX1_broughtThrough 5 = .ok (.aaload, 1) := by decide +kernel
theorem dX1_broughtThrough_6 : decode cX1_broughtThrough 6 = .ok (.astore_n 3, 1) := by decide +kernel
theorem dX1_broughtThrough_7 : decode cX1_broughtThrough 7 = .ok (.aload_n 3, 1) := by decide +kernel
theorem dX1_broughtThrough_8 : decode cX1_broughtThrough 8 = .ok (.ifnonnull 11, 3) := by decide +kernel
theorem dX1_broughtThrough_11 : decode cX1_broughtThrough 11 = .ok (.aload_n 0, 1) := by decide +kernel
theorem dX1_broughtThrough_12 : decode cX1_broughtThrough 12 = .ok (.iconst 2, 1) := by decide +kernel
theorem dX1_broughtThrough_13 : decode cX1_broughtThrough 13 = .ok (.invokevirtual 52, 3) := by decide +kernel
theorem dX1_broughtThrough_16 : decode cX1_broughtThrough 16 = .ok (.pop, 1) := by decide +kernel
theorem dX1_broughtThrough_17 : decode cX1_broughtThrough 17 = .ok (.aconst_null, 1) := by decide +kernel
theorem dX1_broughtThrough_18 : decode cX1_broughtThrough 18 = .ok (.areturn, 1) := by decide +kernel
theorem dX1_broughtThrough_19 : decode cX1_broughtThrough 19 = .ok (.iload_n 1, 1) := by decide +kernel
theorem dX1_broughtThrough_20 : decode cX1_broughtThrough 20 = .ok (.aload_n 3, 1) := by decide +kernel
theorem dX1_broughtThrough_21 : decode cX1_broughtThrough 21 = .ok (.invokestatic 48, 3) := by decide +kernel
theorem dX1_broughtThrough_24 : decode cX1_broughtThrough 24 = .ok (.ifCond .ne 12, 3) := by decide +kernel
theorem dX1_broughtThrough_27 : decode cX1_broughtThrough 27 = .ok (.aload_n 0, 1) := by decide +kernel
theorem dX1_broughtThrough_28 : decode cX1_broughtThrough 28 = .ok (.iload_n 2, 1) := by decide +kernel
theorem dX1_broughtThrough_29 : decode cX1_broughtThrough 29 = .ok (.iload_n 1, 1) := by decide +kernel
theorem dX1_broughtThrough_30 : decode cX1_broughtThrough 30 = .ok (.invokevirtual 92, 3) := by decide +kernel
theorem dX1_broughtThrough_33 : decode cX1_broughtThrough 33 = .ok (.pop, 1) := by decide +kernel
theorem dX1_broughtThrough_34 : decode cX1_broughtThrough 34 = .ok (.aconst_null, 1) := by decide +kernel
theorem dX1_broughtThrough_35 : decode cX1_broughtThrough 35 = .ok (.areturn, 1) := by decide +kernel
theorem dX1_broughtThrough_36 : decode cX1_broughtThrough 36 = .ok (.aload_n 3, 1) := by decide +kernel
theorem dX1_broughtThrough_37 : decode cX1_broughtThrough 37 = .ok (.areturn, 1) := by decide +kernel
set_option maxRecDepth 20000 in
theorem ggX1_rowOfNumbers_X1_holdsNumbers : GoodIn wsX1_rowOfNumbers wsX1_holdsNumbers := goodIn_r _ [6] (by decide +kernel) (by decide +kernel)
set_option maxRecDepth 20000 in
theorem gX1_rowOfNumbers_X1_holdsNumbers : GoodIn wsX1_rowOfNumbers (va_wsS RX1 117 yX1_holdsNumbers wsX1_holdsNumbers) := goodIn_app (goodIn_of _ (by decide +kernel)) ggX1_rowOfNumbers_X1_holdsNumbers
set_option maxRecDepth 20000 in
theorem ggX1_rowOfNumbers_X1_broughtThrough : GoodIn wsX1_rowOfNumbers wsX1_broughtThrough := goodIn_r _ [10, 1, 11, 12, 13, 5, 14, 15, 16, 17, 18, 2, 19, 20, 21, 22, 23, 24, 25, 26, 27, 28, 29, 30, 31, 32, 33, 34, 35, 36, 37, 38, 39, 40, 41] (by decide +kernel) (by decide +kernel)
set_option maxRecDepth 20000 in
theorem gX1_rowOfNumbers_X1_broughtThrough : GoodIn wsX1_rowOfNumbers (wsV RX1 55 RX1 yX1_broughtThrough wsX1_broughtThrough) := goodIn_app (goodIn_of _ (by decide +kernel)) ggX1_rowOfNumbers_X1_broughtThrough
theorem dX1_rowOfNumbers_0 : decode cX1_rowOfNumbers 0 = .ok (.aload_n 0, 1) := by decide +kernel
theorem dX1_rowOfNumbers_1 : decode cX1_rowOfNumbers 1 = .ok (.getfield 11, 3) := by decide +kernel
theorem dX1_rowOfNumbers_4 : decode cX1_rowOfNumbers 4 = .ok (.iload_n 1, 1) := by decide +kernel
theorem dX1_rowOfNumbers_5 : decode cX1_rowOfNumbers 5 = .ok (.aaload, 1) := by decide +kernel
theorem dX1_rowOfNumbers_6 : decode cX1_rowOfNumbers 6 = .ok (.astore_n 2, 1) := by decide +kernel
theorem dX1_rowOfNumbers_7 : decode cX1_rowOfNumbers 7 = .ok (.aload_n 2, 1) := by decide +kernel
theorem dX1_rowOfNumbers_8 : decode cX1_rowOfNumbers 8 = .ok (.ifnull 17, 3) := by decide +kernel
theorem dX1_rowOfNumbers_11 : decode cX1_rowOfNumbers 11 = .ok (.aload_n 2, 1) := by decide +kernel
theorem dX1_rowOfNumbers_12 : decode cX1_rowOfNumbers 12 = .ok (.getfield 79, 3) := by decide +kernel
theorem dX1_rowOfNumbers_15 : decode cX1_rowOfNumbers 15 = .ok (.invokestatic 117, 3) := by decide +kernel
theorem dX1_rowOfNumbers_18 : decode cX1_rowOfNumbers 18 = .ok (.ifCond .eq 7, 3) := by decide +kernel
theorem dX1_rowOfNumbers_21 : decode cX1_rowOfNumbers 21 = .ok (.aload_n 2, 1) := by decide +kernel
theorem dX1_rowOfNumbers_22 : decode cX1_rowOfNumbers 22 = .ok (.goto 9, 3) := by decide +kernel
theorem dX1_rowOfNumbers_25 : decode cX1_rowOfNumbers 25 = .ok (.aload_n 0, 1) := by decide +kernel
theorem dX1_rowOfNumbers_26 : decode cX1_rowOfNumbers 26 = .ok (.iconst 2, 1) := by decide +kernel
theorem dX1_rowOfNumbers_27 : decode cX1_rowOfNumbers 27 = .ok (.iload_n 1, 1) := by decide +kernel
theorem dX1_rowOfNumbers_28 : decode cX1_rowOfNumbers 28 = .ok (.invokevirtual 55, 3) := by decide +kernel
theorem dX1_rowOfNumbers_31 : decode cX1_rowOfNumbers 31 = .ok (.areturn, 1) := by decide +kernel
set_option maxRecDepth 20000 in
theorem ggX1_rowOfThings_X1_holdsThings : GoodIn wsX1_rowOfThings wsX1_holdsThings := goodIn_r _ [6] (by decide +kernel) (by decide +kernel)
set_option maxRecDepth 20000 in
theorem gX1_rowOfThings_X1_holdsThings : GoodIn wsX1_rowOfThings (va_wsS RX1 120 yX1_holdsThings wsX1_holdsThings) := goodIn_app (goodIn_of _ (by decide +kernel)) ggX1_rowOfThings_X1_holdsThings
set_option maxRecDepth 20000 in
theorem ggX1_rowOfThings_X1_broughtThrough : GoodIn wsX1_rowOfThings wsX1_broughtThrough := goodIn_r _ [10, 1, 11, 12, 13, 5, 14, 15, 16, 17, 18, 2, 19, 20, 21, 22, 23, 24, 25, 26, 27, 28, 29, 30, 31, 32, 33, 34, 35, 36, 37, 38, 39, 40, 41] (by decide +kernel) (by decide +kernel)
set_option maxRecDepth 20000 in
theorem gX1_rowOfThings_X1_broughtThrough : GoodIn wsX1_rowOfThings (wsV RX1 55 RX1 yX1_broughtThrough wsX1_broughtThrough) := goodIn_app (goodIn_of _ (by decide +kernel)) ggX1_rowOfThings_X1_broughtThrough
theorem dX1_rowOfThings_0 : decode cX1_rowOfThings 0 = .ok (.aload_n 0, 1) := by decide +kernel
theorem dX1_rowOfThings_1 : decode cX1_rowOfThings 1 = .ok (.getfield 11, 3) := by decide +kernel
theorem dX1_rowOfThings_4 : decode cX1_rowOfThings 4 = .ok (.iload_n 1, 1) := by decide +kernel
theorem dX1_rowOfThings_5 : decode cX1_rowOfThings 5 = .ok (.aaload, 1) := by decide +kernel
theorem dX1_rowOfThings_6 : decode cX1_rowOfThings 6 = .ok (.astore_n 2, 1) := by decide +kernel
theorem dX1_rowOfThings_7 : decode cX1_rowOfThings 7 = .ok (.aload_n 2, 1) := by decide +kernel
theorem dX1_rowOfThings_8 : decode cX1_rowOfThings 8 = .ok (.ifnull 17, 3) := by decide +kernel
theorem dX1_rowOfThings_11 : decode cX1_rowOfThings 11 = .ok (.aload_n 2, 1) := by decide +kernel
theorem dX1_rowOfThings_12 : decode cX1_rowOfThings 12 = .ok (.getfield 79, 3) := by decide +kernel
theorem dX1_rowOfThings_15 : decode cX1_rowOfThings 15 = .ok (.invokestatic 120, 3) := by decide +kernel
theorem dX1_rowOfThings_18 : decode cX1_rowOfThings 18 = .ok (.ifCond .eq 7, 3) := by decide +kernel
theorem dX1_rowOfThings_21 : decode cX1_rowOfThings 21 = .ok (.aload_n 2, 1) := by decide +kernel
theorem dX1_rowOfThings_22 : decode cX1_rowOfThings 22 = .ok (.goto 10, 3) := by decide +kernel
theorem dX1_rowOfThings_25 : decode cX1_rowOfThings 25 = .ok (.aload_n 0, 1) := by decide +kernel
theorem dX1_rowOfThings_26 : decode cX1_rowOfThings 26 = .ok (.bipush 6, 2) := by decide +kernel
theorem dX1_rowOfThings_28 : decode cX1_rowOfThings 28 = .ok (.iload_n 1, 1) := by decide +kernel
theorem dX1_rowOfThings_29 : decode cX1_rowOfThings 29 = .ok (.invokevirtual 55, 3) := by decide +kernel
theorem dX1_rowOfThings_32 : decode cX1_rowOfThings 32 = .ok (.areturn, 1) := by decide +kernel
theorem dX1_failed_0 : decode cX1_failed 0 = .ok (.aload_n 0, 1) := by decide +kernel
theorem dX1_failed_1 : decode cX1_failed 1 = .ok (.iload_n 1, 1) := by decide +kernel
theorem dX1_failed_2 : decode cX1_failed 2 = .ok (.putfield 19, 3) := by decide +kernel
theorem dX1_failed_5 : decode cX1_failed 5 = .ok (.iconst 0, 1) := by decide +kernel
theorem dX1_failed_6 : decode cX1_failed 6 = .ok (.ireturn, 1) := by decide +kernel
set_option maxRecDepth 20000 in
theorem ggX1_failedAtGate_X1_turnBack : GoodIn wsX1_failedAtGate wsX1_turnBack := goodIn_r _ [5, 6, 7, 8, 14, 15, 16, 17, 18, 19] (by decide +kernel) (by decide +kernel)
set_option maxRecDepth 20000 in
theorem gX1_failedAtGate_X1_turnBack : GoodIn wsX1_failedAtGate (wsV RX1 67 RX1 yX1_turnBack wsX1_turnBack) := goodIn_app (goodIn_of _ (by decide +kernel)) ggX1_failedAtGate_X1_turnBack
set_option maxRecDepth 20000 in
theorem ggX1_failedAtGate_X1_failed : GoodIn wsX1_failedAtGate wsX1_failed := goodIn_r _ [12, 13, 14, 15, 16, 17, 18, 19] (by decide +kernel) (by decide +kernel)
set_option maxRecDepth 20000 in
theorem gX1_failedAtGate_X1_failed : GoodIn wsX1_failedAtGate (wsV RX1 52 RX1 yX1_failed wsX1_failed) := goodIn_app (goodIn_of _ (by decide +kernel)) ggX1_failedAtGate_X1_failed
theorem dX1_failedAtGate_0 : decode cX1_failedAtGate 0 = .ok (.aload_n 0, 1) := by decide +kernel
theorem dX1_failedAtGate_1 : decode cX1_failedAtGate 1 = .ok (.iload_n 1, 1) := by decide +kernel
theorem dX1_failedAtGate_2 : decode cX1_failedAtGate 2 = .ok (.iload_n 2, 1) := by decide +kernel
theorem dX1_failedAtGate_3 : decode cX1_failedAtGate 3 = .ok (.invokevirtual 67, 3) := by decide +kernel
theorem dX1_failedAtGate_6 : decode cX1_failedAtGate 6 = .ok (.aload_n 0, 1) := by decide +kernel
theorem dX1_failedAtGate_7 : decode cX1_failedAtGate 7 = .ok (.iconst 1, 1) := by decide +kernel
theorem dX1_failedAtGate_8 : decode cX1_failedAtGate 8 = .ok (.invokevirtual 52, 3) := by decide +kernel
theorem dX1_failedAtGate_11 : decode cX1_failedAtGate 11 = .ok (.ireturn, 1) := by decide +kernel
theorem dX1_turnBack_0 : decode cX1_turnBack 0 = .ok (.aload_n 0, 1) := by decide +kernel
theorem dX1_turnBack_1 : decode cX1_turnBack 1 = .ok (.dup, 1) := by decide +kernel
theorem dX1_turnBack_2 : decode cX1_turnBack 2 = .ok (.getfield 22, 3) := by decide +kernel
theorem dX1_turnBack_5 : decode cX1_turnBack 5 = .ok (.iconst 1, 1) := by decide +kernel
theorem dX1_turnBack_6 : decode cX1_turnBack 6 = .ok (.iadd, 1) := by decide +kernel
theorem dX1_turnBack_7 : decode cX1_turnBack 7 = .ok (.putfield 22, 3) := by decide +kernel
theorem dX1_turnBack_10 : decode cX1_turnBack 10 = .ok (.aload_n 0, 1) := by decide +kernel
theorem dX1_turnBack_11 : decode cX1_turnBack 11 = .ok (.iload_n 1, 1) := by decide +kernel
theorem dX1_turnBack_12 : decode cX1_turnBack 12 = .ok (.putfield 25, 3) := by decide +kernel
theorem dX1_turnBack_15 : decode cX1_turnBack 15 = .ok (.aload_n 0, 1) := by decide +kernel
theorem dX1_turnBack_16 : decode cX1_turnBack 16 = .ok (.iload_n 2, 1) := by decide +kernel
theorem dX1_turnBack_17 : decode cX1_turnBack 17 = .ok (.putfield 28, 3) := by decide +kernel
theorem dX1_turnBack_20 : decode cX1_turnBack 20 = .ok (.return_, 1) := by decide +kernel
theorem dX1_isSlot_0 : decode cX1_isSlot 0 = .ok (.iload_n 0, 1) := by decide +kernel
theorem dX1_isSlot_1 : decode cX1_isSlot 1 = .ok (.ifCond .lt 13, 3) := by decide +kernel
theorem dX1_isSlot_4 : decode cX1_isSlot 4 = .ok (.iload_n 0, 1) := by decide +kernel
theorem dX1_isSlot_5 : decode cX1_isSlot 5 = .ok (.bipush 12, 2) := by decide +kernel
theorem dX1_isSlot_7 : decode cX1_isSlot 7 = .ok (.if_icmp .ge 7, 3) := by decide +kernel
theorem dX1_isSlot_10 : decode cX1_isSlot 10 = .ok (.iconst 1, 1) := by decide +kernel
theorem dX1_isSlot_11 : decode cX1_isSlot 11 = .ok (.goto 4, 3) := by decide +kernel
theorem dX1_isSlot_14 : decode cX1_isSlot 14 = .ok (.iconst 0, 1) := by decide +kernel
theorem dX1_isSlot_15 : decode cX1_isSlot 15 = .ok (.ireturn, 1) := by decide +kernel
theorem dX1_isGate_0 : decode cX1_isGate 0 = .ok (.iload_n 0, 1) := by decide +kernel
theorem dX1_isGate_1 : decode cX1_isGate 1 = .ok (.ifCond .lt 13, 3) := by decide +kernel
theorem dX1_isGate_4 : decode cX1_isGate 4 = .ok (.iload_n 0, 1) := by decide +kernel
theorem dX1_isGate_5 : decode cX1_isGate 5 = .ok (.bipush 13, 2) := by decide +kernel
theorem dX1_isGate_7 : decode cX1_isGate 7 = .ok (.if_icmp .ge 7, 3) := by decide +kernel
theorem dX1_isGate_10 : decode cX1_isGate 10 = .ok (.iconst 1, 1) := by decide +kernel
theorem dX1_isGate_11 : decode cX1_isGate 11 = .ok (.goto 4, 3) := by decide +kernel
theorem dX1_isGate_14 : decode cX1_isGate 14 = .ok (.iconst 0, 1) := by decide +kernel
theorem dX1_isGate_15 : decode cX1_isGate 15 = .ok (.ireturn, 1) := by decide +kernel
theorem dX1_isKind_0 : decode cX1_isKind 0 = .ok (.iload_n 0, 1) := by decide +kernel
theorem dX1_isKind_1 : decode cX1_isKind 1 = .ok (.ifCond .lt 13, 3) := by decide +kernel
theorem dX1_isKind_4 : decode cX1_isKind 4 = .ok (.iload_n 0, 1) := by decide +kernel
theorem dX1_isKind_5 : decode cX1_isKind 5 = .ok (.bipush 12, 2) := by decide +kernel
theorem dX1_isKind_7 : decode cX1_isKind 7 = .ok (.if_icmp .ge 7, 3) := by decide +kernel
theorem dX1_isKind_10 : decode cX1_isKind 10 = .ok (.iconst 1, 1) := by decide +kernel
theorem dX1_isKind_11 : decode cX1_isKind 11 = .ok (.goto 4, 3) := by decide +kernel
theorem dX1_isKind_14 : decode cX1_isKind 14 = .ok (.iconst 0, 1) := by decide +kernel
theorem dX1_isKind_15 : decode cX1_isKind 15 = .ok (.ireturn, 1) := by decide +kernel
theorem dX1_holdsNumbers_0 : decode cX1_holdsNumbers 0 = .ok (.iload_n 0, 1) := by decide +kernel
theorem dX1_holdsNumbers_1 : decode cX1_holdsNumbers 1 = .ok (.ifCond .lt 12, 3) := by decide +kernel
theorem dX1_holdsNumbers_4 : decode cX1_holdsNumbers 4 = .ok (.iload_n 0, 1) := by decide +kernel
theorem dX1_holdsNumbers_5 : decode cX1_holdsNumbers 5 = .ok (.iconst 2, 1) := by decide +kernel
theorem dX1_holdsNumbers_6 : decode cX1_holdsNumbers 6 = .ok (.if_icmp .gt 7, 3) := by decide +kernel
theorem dX1_holdsNumbers_9 : decode cX1_holdsNumbers 9 = .ok (.iconst 1, 1) := by decide +kernel
theorem dX1_holdsNumbers_10 : decode cX1_holdsNumbers 10 = .ok (.goto 4, 3) := by decide +kernel
theorem dX1_holdsNumbers_13 : decode cX1_holdsNumbers 13 = .ok (.iconst 0, 1) := by decide +kernel
theorem dX1_holdsNumbers_14 : decode cX1_holdsNumbers 14 = .ok (.ireturn, 1) := by decide +kernel
theorem dX1_holdsThings_0 : decode cX1_holdsThings 0 = .ok (.iload_n 0, 1) := by decide +kernel
theorem dX1_holdsThings_1 : decode cX1_holdsThings 1 = .ok (.iconst 3, 1) := by decide +kernel
theorem dX1_holdsThings_2 : decode cX1_holdsThings 2 = .ok (.if_icmp .lt 13, 3) := by decide +kernel
theorem dX1_holdsThings_5 : decode cX1_holdsThings 5 = .ok (.iload_n 0, 1) := by decide +kernel
theorem dX1_holdsThings_6 : decode cX1_holdsThings 6 = .ok (.bipush 8, 2) := by decide +kernel
theorem dX1_holdsThings_8 : decode cX1_holdsThings 8 = .ok (.if_icmp .gt 7, 3) := by decide +kernel
theorem dX1_holdsThings_11 : decode cX1_holdsThings 11 = .ok (.iconst 1, 1) := by decide +kernel
theorem dX1_holdsThings_12 : decode cX1_holdsThings 12 = .ok (.goto 4, 3) := by decide +kernel
theorem dX1_holdsThings_15 : decode cX1_holdsThings 15 = .ok (.iconst 0, 1) := by decide +kernel
theorem dX1_holdsThings_16 : decode cX1_holdsThings 16 = .ok (.ireturn, 1) := by decide +kernel
set_option maxRecDepth 20000 in
theorem ggX1_mostOf_X1_holdsNumbers : GoodIn wsX1_mostOf wsX1_holdsNumbers := goodIn_r _ [5] (by decide +kernel) (by decide +kernel)
set_option maxRecDepth 20000 in
theorem gX1_mostOf_X1_holdsNumbers : GoodIn wsX1_mostOf (va_wsS RX1 117 yX1_holdsNumbers wsX1_holdsNumbers) := goodIn_app (goodIn_of _ (by decide +kernel)) ggX1_mostOf_X1_holdsNumbers
set_option maxRecDepth 20000 in
theorem ggX1_mostOf_X1_holdsThings : GoodIn wsX1_mostOf wsX1_holdsThings := goodIn_r _ [8] (by decide +kernel) (by decide +kernel)
set_option maxRecDepth 20000 in
theorem gX1_mostOf_X1_holdsThings : GoodIn wsX1_mostOf (va_wsS RX1 120 yX1_holdsThings wsX1_holdsThings) := goodIn_app (goodIn_of _ (by decide +kernel)) ggX1_mostOf_X1_holdsThings
theorem dX1_mostOf_0 : decode cX1_mostOf 0 = .ok (.iload_n 0, 1) := by decide +kernel
theorem dX1_mostOf_1 : decode cX1_mostOf 1 = .ok (.invokestatic 117, 3) := by decide +kernel
theorem dX1_mostOf_4 : decode cX1_mostOf 4 = .ok (.ifCond .ne 10, 3) := by decide +kernel
theorem dX1_mostOf_7 : decode cX1_mostOf 7 = .ok (.iload_n 0, 1) := by decide +kernel
theorem dX1_mostOf_8 : decode cX1_mostOf 8 = .ok (.invokestatic 120, 3) := by decide +kernel
theorem dX1_mostOf_11 : decode cX1_mostOf 11 = .ok (.ifCond .eq 8, 3) := by decide +kernel
theorem dX1_mostOf_14 : decode cX1_mostOf 14 = .ok (.bipush 8, 2) := by decide +kernel
theorem dX1_mostOf_16 : decode cX1_mostOf 16 = .ok (.goto 5, 3) := by decide +kernel
theorem dX1_mostOf_19 : decode cX1_mostOf 19 = .ok (.ldc 113, 2) := by decide +kernel
theorem dX1_mostOf_21 : decode cX1_mostOf 21 = .ok (.ireturn, 1) := by decide +kernel
theorem dX1_numberOf_0 : decode cX1_numberOf 0 = .ok (.aload_n 0, 1) := by decide +kernel
theorem dX1_numberOf_1 : decode cX1_numberOf 1 = .ok (.ifnonnull 7, 3) := by decide +kernel
theorem dX1_numberOf_4 : decode cX1_numberOf 4 = .ok (.iconst (-1), 1) := by decide +kernel
theorem dX1_numberOf_5 : decode cX1_numberOf 5 = .ok (.goto 7, 3) := by decide +kernel
theorem dX1_numberOf_8 : decode cX1_numberOf 8 = .ok (.aload_n 0, 1) := by decide +kernel
theorem dX1_numberOf_9 : decode cX1_numberOf 9 = .ok (.getfield 123, 3) := by decide +kernel
theorem dX1_numberOf_12 : decode cX1_numberOf 12 = .ok (.ireturn, 1) := by decide +kernel
theorem dX1_letsThrough_0 : decode cX1_letsThrough 0 = .ok (.aload_n 1, 1) := by decide +kernel
theorem dX1_letsThrough_1 : decode cX1_letsThrough 1 = .ok (.ifnonnull 5, 3) := by decide +kernel
theorem dX1_letsThrough_4 : decode cX1_letsThrough 4 = .ok (.iconst 0, 1) := by decide +kernel
theorem dX1_letsThrough_5 : decode cX1_letsThrough 5 = .ok (.ireturn, 1) := by decide +kernel
theorem dX1_letsThrough_6 : decode cX1_letsThrough 6 = .ok (.aload_n 1, 1) := by decide +kernel
theorem dX1_letsThrough_7 : decode cX1_letsThrough 7 = .ok (.getfield 79, 3) := by decide +kernel
theorem dX1_letsThrough_10 : decode cX1_letsThrough 10 = .ok (.istore_n 2, 1) := by decide +kernel
theorem dX1_letsThrough_11 : decode cX1_letsThrough 11 = .ok (.iload_n 2, 1) := by decide +kernel
theorem dX1_letsThrough_12 : decode cX1_letsThrough 12 = .ok (.iload_n 0, 1) := by decide +kernel
theorem dX1_letsThrough_13 : decode cX1_letsThrough 13 = .ok (.if_icmp .ne 5, 3) := by decide +kernel
theorem dX1_letsThrough_16 : decode cX1_letsThrough 16 = .ok (.iconst 1, 1) := by decide +kernel
theorem dX1_letsThrough_17 : decode cX1_letsThrough 17 = .ok (.ireturn, 1) := by decide +kernel
theorem dX1_letsThrough_18 : decode cX1_letsThrough 18 = .ok (.iload_n 0, 1) := by decide +kernel
theorem dX1_letsThrough_19 : decode cX1_letsThrough 19 = .ok (.tableswitch 124 4 12 #[49, 124, 60, 76, 124, 88, 124, 124, 100], 49) := by decide +kernel
theorem dX1_letsThrough_68 : decode cX1_letsThrough 68 = .ok (.iload_n 2, 1) := by decide +kernel
theorem dX1_letsThrough_69 : decode cX1_letsThrough 69 = .ok (.iconst 5, 1) := by decide +kernel
theorem dX1_letsThrough_70 : decode cX1_letsThrough 70 = .ok (.if_icmp .ne 7, 3) := by decide +kernel
theorem dX1_letsThrough_73 : decode cX1_letsThrough 73 = .ok (.iconst 1, 1) := by decide +kernel
theorem dX1_letsThrough_74 : decode cX1_letsThrough 74 = .ok (.goto 4, 3) := by decide +kernel
theorem dX1_letsThrough_77 : decode cX1_letsThrough 77 = .ok (.iconst 0, 1) := by decide +kernel
theorem dX1_letsThrough_78 : decode cX1_letsThrough 78 = .ok (.ireturn, 1) := by decide +kernel
theorem dX1_letsThrough_79 : decode cX1_letsThrough 79 = .ok (.iload_n 2, 1) := by decide +kernel
theorem dX1_letsThrough_80 : decode cX1_letsThrough 80 = .ok (.iconst 5, 1) := by decide +kernel
theorem dX1_letsThrough_81 : decode cX1_letsThrough 81 = .ok (.if_icmp .eq 8, 3) := by decide +kernel
theorem dX1_letsThrough_84 : decode cX1_letsThrough 84 = .ok (.iload_n 2, 1) := by decide +kernel
theorem dX1_letsThrough_85 : decode cX1_letsThrough 85 = .ok (.iconst 4, 1) := by decide +kernel
theorem dX1_letsThrough_86 : decode cX1_letsThrough 86 = .ok (.if_icmp .ne 7, 3) := by decide +kernel
theorem dX1_letsThrough_89 : decode cX1_letsThrough 89 = .ok (.iconst 1, 1) := by decide +kernel
theorem dX1_letsThrough_90 : decode cX1_letsThrough 90 = .ok (.goto 4, 3) := by decide +kernel
theorem dX1_letsThrough_93 : decode cX1_letsThrough 93 = .ok (.iconst 0, 1) := by decide +kernel
theorem dX1_letsThrough_94 : decode cX1_letsThrough 94 = .ok (.ireturn, 1) := by decide +kernel
theorem dX1_letsThrough_95 : decode cX1_letsThrough 95 = .ok (.iload_n 2, 1) := by decide +kernel
theorem dX1_letsThrough_96 : decode cX1_letsThrough 96 = .ok (.bipush 8, 2) := by decide +kernel
theorem dX1_letsThrough_98 : decode cX1_letsThrough 98 = .ok (.if_icmp .ne 7, 3) := by decide +kernel
theorem dX1_letsThrough_101 : decode cX1_letsThrough 101 = .ok (.iconst 1, 1) := by decide +kernel
theorem dX1_letsThrough_102 : decode cX1_letsThrough 102 = .ok (.goto 4, 3) := by decide +kernel
theorem dX1_letsThrough_105 : decode cX1_letsThrough 105 = .ok (.iconst 0, 1) := by decide +kernel
theorem dX1_letsThrough_106 : decode cX1_letsThrough 106 = .ok (.ireturn, 1) := by decide +kernel
theorem dX1_letsThrough_107 : decode cX1_letsThrough 107 = .ok (.iload_n 2, 1) := by decide +kernel
theorem dX1_letsThrough_108 : decode cX1_letsThrough 108 = .ok (.bipush 10, 2) := by decide +kernel
theorem dX1_letsThrough_110 : decode cX1_letsThrough 110 = .ok (.if_icmp .ne 7, 3) := by decide +kernel
theorem dX1_letsThrough_113 : decode cX1_letsThrough 113 = .ok (.iconst 1, 1) := by decide +kernel
theorem dX1_letsThrough_114 : decode cX1_letsThrough 114 = .ok (.goto 4, 3) := by decide +kernel
theorem dX1_letsThrough_117 : decode cX1_letsThrough 117 = .ok (.iconst 0, 1) := by decide +kernel
theorem dX1_letsThrough_118 : decode cX1_letsThrough 118 = .ok (.ireturn, 1) := by decide +kernel
theorem dX1_letsThrough_119 : decode cX1_letsThrough 119 = .ok (.iload_n 2, 1) := by decide +kernel
theorem dX1_letsThrough_120 : decode cX1_letsThrough 120 = .ok (.bipush 9, 2) := by decide +kernel
theorem dX1_letsThrough_122 : decode cX1_letsThrough 122 = .ok (.if_icmp .eq 15, 3) := by decide +kernel
theorem dX1_letsThrough_125 : decode cX1_letsThrough 125 = .ok (.iload_n 2, 1) := by decide +kernel
theorem dX1_letsThrough_126 : decode cX1_letsThrough 126 = .ok (.bipush 10, 2) := by decide +kernel
theorem dX1_letsThrough_128 : decode cX1_letsThrough 128 = .ok (.if_icmp .eq 9, 3) := by decide +kernel
theorem dX1_letsThrough_131 : decode cX1_letsThrough 131 = .ok (.iload_n 2, 1) := by decide +kernel
theorem dX1_letsThrough_132 : decode cX1_letsThrough 132 = .ok (.bipush 11, 2) := by decide +kernel
theorem dX1_letsThrough_134 : decode cX1_letsThrough 134 = .ok (.if_icmp .ne 7, 3) := by decide +kernel
theorem dX1_letsThrough_137 : decode cX1_letsThrough 137 = .ok (.iconst 1, 1) := by decide +kernel
theorem dX1_letsThrough_138 : decode cX1_letsThrough 138 = .ok (.goto 4, 3) := by decide +kernel
theorem dX1_letsThrough_141 : decode cX1_letsThrough 141 = .ok (.iconst 0, 1) := by decide +kernel
theorem dX1_letsThrough_142 : decode cX1_letsThrough 142 = .ok (.ireturn, 1) := by decide +kernel
theorem dX1_letsThrough_143 : decode cX1_letsThrough 143 = .ok (.iconst 0, 1) := by decide +kernel
theorem dX1_letsThrough_144 : decode cX1_letsThrough 144 = .ok (.ireturn, 1) := by decide +kernel
theorem dX1_gateOfLaying_0 : decode cX1_gateOfLaying 0 = .ok (.iload_n 0, 1) := by decide +kernel
theorem dX1_gateOfLaying_1 : decode cX1_gateOfLaying 1 = .ok (.lookupswitch 39 #[(3, 35), (7, 37), (8, 37)], 35) := by decide +kernel
theorem dX1_gateOfLaying_36 : decode cX1_gateOfLaying 36 = .ok (.iconst 0, 1) := by decide +kernel
theorem dX1_gateOfLaying_37 : decode cX1_gateOfLaying 37 = .ok (.ireturn, 1) := by decide +kernel
theorem dX1_gateOfLaying_38 : decode cX1_gateOfLaying 38 = .ok (.iconst 4, 1) := by decide +kernel
theorem dX1_gateOfLaying_39 : decode cX1_gateOfLaying 39 = .ok (.ireturn, 1) := by decide +kernel
theorem dX1_gateOfLaying_40 : decode cX1_gateOfLaying 40 = .ok (.bipush 12, 2) := by decide +kernel
theorem dX1_gateOfLaying_42 : decode cX1_gateOfLaying 42 = .ok (.ireturn, 1) := by decide +kernel
set_option maxRecDepth 20000 in
theorem ggX1_gateOfPlaces_X1_gateOfLaying : GoodIn wsX1_gateOfPlaces wsX1_gateOfLaying := goodIn_r _ [4] (by decide +kernel) (by decide +kernel)
set_option maxRecDepth 20000 in
theorem gX1_gateOfPlaces_X1_gateOfLaying : GoodIn wsX1_gateOfPlaces (va_wsS RX1 89 yX1_gateOfLaying wsX1_gateOfLaying) := goodIn_app (goodIn_of _ (by decide +kernel)) ggX1_gateOfPlaces_X1_gateOfLaying
theorem dX1_gateOfPlaces_0 : decode cX1_gateOfPlaces 0 = .ok (.iload_n 0, 1) := by decide +kernel
theorem dX1_gateOfPlaces_1 : decode cX1_gateOfPlaces 1 = .ok (.tableswitch 43 4 8 #[35, 38, 43, 43, 41], 35) := by decide +kernel
theorem dX1_gateOfPlaces_36 : decode cX1_gateOfPlaces 36 = .ok (.bipush 9, 2) := by decide +kernel
theorem dX1_gateOfPlaces_38 : decode cX1_gateOfPlaces 38 = .ok (.ireturn, 1) := by decide +kernel
theorem dX1_gateOfPlaces_39 : decode cX1_gateOfPlaces 39 = .ok (.bipush 10, 2) := by decide +kernel
theorem dX1_gateOfPlaces_41 : decode cX1_gateOfPlaces 41 = .ok (.ireturn, 1) := by decide +kernel
theorem dX1_gateOfPlaces_42 : decode cX1_gateOfPlaces 42 = .ok (.iconst 5, 1) := by decide +kernel
theorem dX1_gateOfPlaces_43 : decode cX1_gateOfPlaces 43 = .ok (.ireturn, 1) := by decide +kernel
theorem dX1_gateOfPlaces_44 : decode cX1_gateOfPlaces 44 = .ok (.iload_n 0, 1) := by decide +kernel
theorem dX1_gateOfPlaces_45 : decode cX1_gateOfPlaces 45 = .ok (.invokestatic 89, 3) := by decide +kernel
theorem dX1_gateOfPlaces_48 : decode cX1_gateOfPlaces 48 = .ok (.ireturn, 1) := by decide +kernel
theorem dX1_narrowed_0 : decode cX1_narrowed 0 = .ok (.iload_n 0, 1) := by decide +kernel
theorem dX1_narrowed_1 : decode cX1_narrowed 1 = .ok (.lookupswitch 36 #[(0, 27), (1, 31)], 27) := by decide +kernel
theorem dX1_narrowed_28 : decode cX1_narrowed 28 = .ok (.lload_n 1, 1) := by decide +kernel
theorem dX1_narrowed_29 : decode cX1_narrowed 29 = .ok (.l2i, 1) := by decide +kernel
theorem dX1_narrowed_30 : decode cX1_narrowed 30 = .ok (.i2l, 1) := by decide +kernel
theorem dX1_narrowed_31 : decode cX1_narrowed 31 = .ok (.lreturn, 1) := by decide +kernel
theorem dX1_narrowed_32 : decode cX1_narrowed 32 = .ok (.lload_n 1, 1) := by decide +kernel
theorem dX1_narrowed_33 : decode cX1_narrowed 33 = .ok (.l2i, 1) := by decide +kernel
theorem dX1_narrowed_34 : decode cX1_narrowed 34 = .ok (.i2b, 1) := by decide +kernel
theorem dX1_narrowed_35 : decode cX1_narrowed 35 = .ok (.i2l, 1) := by decide +kernel
theorem dX1_narrowed_36 : decode cX1_narrowed 36 = .ok (.lreturn, 1) := by decide +kernel
theorem dX1_narrowed_37 : decode cX1_narrowed 37 = .ok (.lload_n 1, 1) := by decide +kernel
theorem dX1_narrowed_38 : decode cX1_narrowed 38 = .ok (.lreturn, 1) := by decide +kernel
set_option maxRecDepth 20000 in
theorem ggX1_hasHole_X1_lacksPart : GoodIn wsX1_hasHole wsX1_lacksPart := goodIn_r _ [5, 1, 6, 7, 8, 9, 10, 11] (by decide +kernel) (by decide +kernel)
set_option maxRecDepth 20000 in
theorem gX1_hasHole_X1_lacksPart : GoodIn wsX1_hasHole (va_wsS RX1 126 yX1_lacksPart wsX1_lacksPart) := goodIn_app (goodIn_of _ (by decide +kernel)) ggX1_hasHole_X1_lacksPart
theorem dX1_hasHole_0 : decode cX1_hasHole 0 = .ok (.aload_n 0, 1) := by decide +kernel
theorem dX1_hasHole_1 : decode cX1_hasHole 1 = .ok (.getfield 96, 3) := by decide +kernel
theorem dX1_hasHole_4 : decode cX1_hasHole 4 = .ok (.astore_n 1, 1) := by decide +kernel
theorem dX1_hasHole_5 : decode cX1_hasHole 5 = .ok (.aload_n 1, 1) := by decide +kernel
theorem dX1_hasHole_6 : decode cX1_hasHole 6 = .ok (.arraylength, 1) := by decide +kernel
theorem dX1_hasHole_7 : decode cX1_hasHole 7 = .ok (.istore_n 2, 1) := by decide +kernel
theorem dX1_hasHole_8 : decode cX1_hasHole 8 = .ok (.iconst 0, 1) := by decide +kernel
theorem dX1_hasHole_9 : decode cX1_hasHole 9 = .ok (.istore_n 3, 1) := by decide +kernel
theorem dX1_hasHole_10 : decode cX1_hasHole 10 = .ok (.iload_n 3, 1) := by decide +kernel
theorem dX1_hasHole_11 : decode cX1_hasHole 11 = .ok (.iload_n 2, 1) := by decide +kernel
theorem dX1_hasHole_12 : decode cX1_hasHole 12 = .ok (.if_icmp .ge 29, 3) := by decide +kernel
theorem dX1_hasHole_15 : decode cX1_hasHole 15 = .ok (.aload_n 1, 1) := by decide +kernel
theorem dX1_hasHole_16 : decode cX1_hasHole 16 = .ok (.iload_n 3, 1) := by decide +kernel
theorem dX1_hasHole_17 : decode cX1_hasHole 17 = .ok (.aaload, 1) := by decide +kernel
theorem dX1_hasHole_18 : decode cX1_hasHole 18 = .ok (.astore 4, 2) := by decide +kernel
theorem dX1_hasHole_20 : decode cX1_hasHole 20 = .ok (.aload 4, 2) := by decide +kernel
theorem dX1_hasHole_22 : decode cX1_hasHole 22 = .ok (.ifnull 11, 3) := by decide +kernel
theorem dX1_hasHole_25 : decode cX1_hasHole 25 = .ok (.aload 4, 2) := by decide +kernel
theorem dX1_hasHole_27 : decode cX1_hasHole 27 = .ok (.invokestatic 126, 3) := by decide +kernel
theorem dX1_hasHole_30 : decode cX1_hasHole 30 = .ok (.ifCond .eq 5, 3) := by decide +kernel
theorem dX1_hasHole_33 : decode cX1_hasHole 33 = .ok (.iconst 1, 1) := by decide +kernel
theorem dX1_hasHole_34 : decode cX1_hasHole 34 = .ok (.ireturn, 1) := by decide +kernel
theorem dX1_hasHole_35 : decode cX1_hasHole 35 = .ok (.iinc 3 1, 3) := by decide +kernel
theorem dX1_hasHole_38 : decode cX1_hasHole 38 = .ok (.goto (-28), 3) := by decide +kernel
theorem dX1_hasHole_41 : decode cX1_hasHole 41 = .ok (.iconst 0, 1) := by decide +kernel
theorem dX1_hasHole_42 : decode cX1_hasHole 42 = .ok (.ireturn, 1) := by decide +kernel
theorem dX1_lacksPart_0 : decode cX1_lacksPart 0 = .ok (.aload_n 0, 1) := by decide +kernel
theorem dX1_lacksPart_1 : decode cX1_lacksPart 1 = .ok (.getfield 96, 3) := by decide +kernel
theorem dX1_lacksPart_4 : decode cX1_lacksPart 4 = .ok (.astore_n 1, 1) := by decide +kernel
theorem dX1_lacksPart_5 : decode cX1_lacksPart 5 = .ok (.aload_n 1, 1) := by decide +kernel
theorem dX1_lacksPart_6 : decode cX1_lacksPart 6 = .ok (.arraylength, 1) := by decide +kernel
theorem dX1_lacksPart_7 : decode cX1_lacksPart 7 = .ok (.istore_n 2, 1) := by decide +kernel
theorem dX1_lacksPart_8 : decode cX1_lacksPart 8 = .ok (.iconst 0, 1) := by decide +kernel
theorem dX1_lacksPart_9 : decode cX1_lacksPart 9 = .ok (.istore_n 3, 1) := by decide +kernel
theorem dX1_lacksPart_10 : decode cX1_lacksPart 10 = .ok (.iload_n 3, 1) := by decide +kernel
theorem dX1_lacksPart_11 : decode cX1_lacksPart 11 = .ok (.iload_n 2, 1) := by decide +kernel
theorem dX1_lacksPart_12 : decode cX1_lacksPart 12 = .ok (.if_icmp .ge 21, 3) := by decide +kernel
theorem dX1_lacksPart_15 : decode cX1_lacksPart 15 = .ok (.aload_n 1, 1) := by decide +kernel
theorem dX1_lacksPart_16 : decode cX1_lacksPart 16 = .ok (.iload_n 3, 1) := by decide +kernel
theorem dX1_lacksPart_17 : decode cX1_lacksPart 17 = .ok (.aaload, 1) := by decide +kernel
theorem dX1_lacksPart_18 : decode cX1_lacksPart 18 = .ok (.astore 4, 2) := by decide +kernel
theorem dX1_lacksPart_20 : decode cX1_lacksPart 20 = .ok (.aload 4, 2) := by decide +kernel
theorem dX1_lacksPart_22 : decode cX1_lacksPart 22 = .ok (.ifnonnull 5, 3) := by decide +kernel
theorem dX1_lacksPart_25 : decode cX1_lacksPart 25 = .ok (.iconst 1, 1) := by decide +kernel
theorem dX1_lacksPart_26 : decode cX1_lacksPart 26 = .ok (.ireturn, 1) := by decide +kernel
theorem dX1_lacksPart_27 : decode cX1_lacksPart 27 = .ok (.iinc 3 1, 3) := by decide +kernel
theorem dX1_lacksPart_30 : decode cX1_lacksPart 30 = .ok (.goto (-20), 3) := by decide +kernel
theorem dX1_lacksPart_33 : decode cX1_lacksPart 33 = .ok (.iconst 0, 1) := by decide +kernel
theorem dX1_lacksPart_34 : decode cX1_lacksPart 34 = .ok (.ireturn, 1) := by decide +kernel
set_option maxRecDepth 20000 in
theorem ggX1_toldBy_X1_toldByRows : GoodIn wsX1_toldBy wsX1_toldByRows := goodIn_r _ [4, 5, 6, 7, 3, 8, 9, 10, 11, 12, 13, 14, 15, 16, 17, 18, 19, 20, 21, 22, 23, 24, 25, 26, 27, 28, 29, 30] (by decide +kernel) (by decide +kernel)
set_option maxRecDepth 20000 in
theorem gX1_toldBy_X1_toldByRows : GoodIn wsX1_toldBy (va_wsS RX1 129 yX1_toldByRows wsX1_toldByRows) := goodIn_app (goodIn_of _ (by decide +kernel)) ggX1_toldBy_X1_toldByRows
set_option maxRecDepth 20000 in
theorem ggX1_toldBy_X1_toldByLoad : GoodIn wsX1_toldBy wsX1_toldByLoad := goodIn_r _ [18, 19, 20, 21, 22, 3, 23, 24, 25, 26, 27, 28, 29, 30] (by decide +kernel) (by decide +kernel)
set_option maxRecDepth 20000 in
theorem gX1_toldBy_X1_toldByLoad : GoodIn wsX1_toldBy (va_wsS RX1 132 yX1_toldByLoad wsX1_toldByLoad) := goodIn_app (goodIn_of _ (by decide +kernel)) ggX1_toldBy_X1_toldByLoad
set_option maxRecDepth 20000 in
theorem ggX1_toldBy_X1_toldByRow : GoodIn wsX1_toldBy wsX1_toldByRow := goodIn_r _ [8, 9, 10, 3, 11, 12, 13, 14, 15, 5, 16, 17, 18, 19, 20, 21, 22, 23, 24, 25, 26, 27, 28, 29, 30] (by decide +kernel) (by decide +kernel)
set_option maxRecDepth 20000 in
theorem gX1_toldBy_X1_toldByRow : GoodIn wsX1_toldBy (va_wsS RX1 136 yX1_toldByRow wsX1_toldByRow) := goodIn_app (goodIn_of _ (by decide +kernel)) ggX1_toldBy_X1_toldByRow
theorem dX1_toldBy_0 : decode cX1_toldBy 0 = .ok (.iload_n 1, 1) := by decide +kernel
theorem dX1_toldBy_1 : decode cX1_toldBy 1 = .ok (.tableswitch 82 3 12 #[55, 82, 82, 82, 63, 69, 75, 75, 75, 75], 55) := by decide +kernel
theorem dX1_toldBy_56 : decode cX1_toldBy 56 = .ok (.aload_n 0, 1) := by decide +kernel
theorem dX1_toldBy_57 : decode cX1_toldBy 57 = .ok (.iconst 0, 1) := by decide +kernel
theorem dX1_toldBy_58 : decode cX1_toldBy 58 = .ok (.invokestatic 129, 3) := by decide +kernel
theorem dX1_toldBy_61 : decode cX1_toldBy 61 = .ok (.l2i, 1) := by decide +kernel
theorem dX1_toldBy_62 : decode cX1_toldBy 62 = .ok (.i2l, 1) := by decide +kernel
theorem dX1_toldBy_63 : decode cX1_toldBy 63 = .ok (.lreturn, 1) := by decide +kernel
theorem dX1_toldBy_64 : decode cX1_toldBy 64 = .ok (.aload_n 0, 1) := by decide +kernel
theorem dX1_toldBy_65 : decode cX1_toldBy 65 = .ok (.iconst 4, 1) := by decide +kernel
theorem dX1_toldBy_66 : decode cX1_toldBy 66 = .ok (.invokestatic 129, 3) := by decide +kernel
theorem dX1_toldBy_69 : decode cX1_toldBy 69 = .ok (.lreturn, 1) := by decide +kernel
theorem dX1_toldBy_70 : decode cX1_toldBy 70 = .ok (.aload_n 0, 1) := by decide +kernel
theorem dX1_toldBy_71 : decode cX1_toldBy 71 = .ok (.iconst 5, 1) := by decide +kernel
theorem dX1_toldBy_72 : decode cX1_toldBy 72 = .ok (.invokestatic 129, 3) := by decide +kernel
theorem dX1_toldBy_75 : decode cX1_toldBy 75 = .ok (.lreturn, 1) := by decide +kernel
theorem dX1_toldBy_76 : decode cX1_toldBy 76 = .ok (.aload_n 0, 1) := by decide +kernel
theorem dX1_toldBy_77 : decode cX1_toldBy 77 = .ok (.iload_n 1, 1) := by decide +kernel
theorem dX1_toldBy_78 : decode cX1_toldBy 78 = .ok (.invokestatic 132, 3) := by decide +kernel
theorem dX1_toldBy_81 : decode cX1_toldBy 81 = .ok (.i2l, 1) := by decide +kernel
theorem dX1_toldBy_82 : decode cX1_toldBy 82 = .ok (.lreturn, 1) := by decide +kernel
theorem dX1_toldBy_83 : decode cX1_toldBy 83 = .ok (.aload_n 0, 1) := by decide +kernel
theorem dX1_toldBy_84 : decode cX1_toldBy 84 = .ok (.iload_n 1, 1) := by decide +kernel
theorem dX1_toldBy_85 : decode cX1_toldBy 85 = .ok (.invokestatic 136, 3) := by decide +kernel
theorem dX1_toldBy_88 : decode cX1_toldBy 88 = .ok (.lreturn, 1) := by decide +kernel
set_option maxRecDepth 20000 in
theorem ggX1_toldByRows_X1_toldByRow : GoodIn wsX1_toldByRows wsX1_toldByRow := goodIn_r _ [5, 6, 7, 4, 8, 9, 10, 11, 12, 1, 13, 14, 15, 16, 17, 18, 19, 20, 21, 22, 23, 24, 25, 26, 27] (by decide +kernel) (by decide +kernel)
set_option maxRecDepth 20000 in
theorem gX1_toldByRows_X1_toldByRow : GoodIn wsX1_toldByRows (va_wsS RX1 136 yX1_toldByRow wsX1_toldByRow) := goodIn_app (goodIn_of _ (by decide +kernel)) ggX1_toldByRows_X1_toldByRow
theorem dX1_toldByRows_0 : decode cX1_toldByRows 0 = .ok (.lconst 0, 1) := by decide +kernel
theorem dX1_toldByRows_1 : decode cX1_toldByRows 1 = .ok (.lstore_n 2, 1) := by decide +kernel
theorem dX1_toldByRows_2 : decode cX1_toldByRows 2 = .ok (.aload_n 0, 1) := by decide +kernel
theorem dX1_toldByRows_3 : decode cX1_toldByRows 3 = .ok (.getfield 96, 3) := by decide +kernel
theorem dX1_toldByRows_6 : decode cX1_toldByRows 6 = .ok (.astore 4, 2) := by decide +kernel
theorem dX1_toldByRows_8 : decode cX1_toldByRows 8 = .ok (.aload 4, 2) := by decide +kernel
theorem dX1_toldByRows_10 : decode cX1_toldByRows 10 = .ok (.arraylength, 1) := by decide +kernel
theorem dX1_toldByRows_11 : decode cX1_toldByRows 11 = .ok (.istore 5, 2) := by decide +kernel
theorem dX1_toldByRows_13 : decode cX1_toldByRows 13 = .ok (.iconst 0, 1) := by decide +kernel
theorem dX1_toldByRows_14 : decode cX1_toldByRows 14 = .ok (.istore 6, 2) := by decide +kernel
theorem dX1_toldByRows_16 : decode cX1_toldByRows 16 = .ok (.iload 6, 2) := by decide +kernel
theorem dX1_toldByRows_18 : decode cX1_toldByRows 18 = .ok (.iload 5, 2) := by decide +kernel
theorem dX1_toldByRows_20 : decode cX1_toldByRows 20 = .ok (.if_icmp .ge 30, 3) := by decide +kernel
theorem dX1_toldByRows_23 : decode cX1_toldByRows 23 = .ok (.aload 4, 2) := by decide +kernel
theorem dX1_toldByRows_25 : decode cX1_toldByRows 25 = .ok (.iload 6, 2) := by decide +kernel
theorem dX1_toldByRows_27 : decode cX1_toldByRows 27 = .ok (.aaload, 1) := by decide +kernel
theorem dX1_toldByRows_28 : decode cX1_toldByRows 28 = .ok (.astore 7, 2) := by decide +kernel
theorem dX1_toldByRows_30 : decode cX1_toldByRows 30 = .ok (.aload 7, 2) := by decide +kernel
theorem dX1_toldByRows_32 : decode cX1_toldByRows 32 = .ok (.ifnull 12, 3) := by decide +kernel
theorem dX1_toldByRows_35 : decode cX1_toldByRows 35 = .ok (.lload_n 2, 1) := by decide +kernel
theorem dX1_toldByRows_36 : decode cX1_toldByRows 36 = .ok (.aload 7, 2) := by decide +kernel
theorem dX1_toldByRows_38 : decode cX1_toldByRows 38 = .ok (.iload_n 1, 1) := by decide +kernel
theorem dX1_toldByRows_39 : decode cX1_toldByRows 39 = .ok (.invokestatic 136, 3) := by decide +kernel
theorem dX1_toldByRows_42 : decode cX1_toldByRows 42 = .ok (.ladd, 1) := by decide +kernel
theorem dX1_toldByRows_43 : decode cX1_toldByRows 43 = .ok (.lstore_n 2, 1) := by decide +kernel
theorem dX1_toldByRows_44 : decode cX1_toldByRows 44 = .ok (.iinc 6 1, 3) := by decide +kernel
theorem dX1_toldByRows_47 : decode cX1_toldByRows 47 = .ok (.goto (-31), 3) := by decide +kernel
theorem dX1_toldByRows_50 : decode cX1_toldByRows 50 = .ok (.lload_n 2, 1) := by decide +kernel
theorem dX1_toldByRows_51 : decode cX1_toldByRows 51 = .ok (.lreturn, 1) := by decide +kernel
set_option maxRecDepth 20000 in
theorem ggX1_toldByRow_X1_sumOfNumbers : GoodIn wsX1_toldByRow wsX1_sumOfNumbers := goodIn_r _ [4, 5, 19, 20, 21, 22, 23, 24] (by decide +kernel) (by decide +kernel)
set_option maxRecDepth 20000 in
theorem gX1_toldByRow_X1_sumOfNumbers : GoodIn wsX1_toldByRow (va_wsS RX1 139 yX1_sumOfNumbers wsX1_sumOfNumbers) := goodIn_app (goodIn_of _ (by decide +kernel)) ggX1_toldByRow_X1_sumOfNumbers
set_option maxRecDepth 20000 in
theorem ggX1_toldByRow_X1_toldByLoads : GoodIn wsX1_toldByRow wsX1_toldByLoads := goodIn_r _ [8, 9, 10, 11, 3, 12, 13, 14, 15, 16, 17, 18, 19, 20, 21, 22, 23, 24] (by decide +kernel) (by decide +kernel)
set_option maxRecDepth 20000 in
theorem gX1_toldByRow_X1_toldByLoads : GoodIn wsX1_toldByRow (va_wsS RX1 143 yX1_toldByLoads wsX1_toldByLoads) := goodIn_app (goodIn_of _ (by decide +kernel)) ggX1_toldByRow_X1_toldByLoads
theorem dX1_toldByRow_0 : decode cX1_toldByRow 0 = .ok (.iload_n 1, 1) := by decide +kernel
theorem dX1_toldByRow_1 : decode cX1_toldByRow 1 = .ok (.tableswitch 58 0 5 #[39, 39, 46, 58, 58, 51], 39) := by decide +kernel
theorem dX1_toldByRow_40 : decode cX1_toldByRow 40 = .ok (.aload_n 0, 1) := by decide +kernel
theorem dX1_toldByRow_41 : decode cX1_toldByRow 41 = .ok (.invokestatic 139, 3) := by decide +kernel
theorem dX1_toldByRow_44 : decode cX1_toldByRow 44 = .ok (.l2i, 1) := by decide +kernel
theorem dX1_toldByRow_45 : decode cX1_toldByRow 45 = .ok (.i2l, 1) := by decide +kernel
theorem dX1_toldByRow_46 : decode cX1_toldByRow 46 = .ok (.lreturn, 1) := by decide +kernel
theorem dX1_toldByRow_47 : decode cX1_toldByRow 47 = .ok (.aload_n 0, 1) := by decide +kernel
theorem dX1_toldByRow_48 : decode cX1_toldByRow 48 = .ok (.invokestatic 139, 3) := by decide +kernel
theorem dX1_toldByRow_51 : decode cX1_toldByRow 51 = .ok (.lreturn, 1) := by decide +kernel
theorem dX1_toldByRow_52 : decode cX1_toldByRow 52 = .ok (.aload_n 0, 1) := by decide +kernel
theorem dX1_toldByRow_53 : decode cX1_toldByRow 53 = .ok (.bipush 10, 2) := by decide +kernel
theorem dX1_toldByRow_55 : decode cX1_toldByRow 55 = .ok (.invokestatic 143, 3) := by decide +kernel
theorem dX1_toldByRow_58 : decode cX1_toldByRow 58 = .ok (.lreturn, 1) := by decide +kernel
theorem dX1_toldByRow_59 : decode cX1_toldByRow 59 = .ok (.aload_n 0, 1) := by decide +kernel
theorem dX1_toldByRow_60 : decode cX1_toldByRow 60 = .ok (.bipush 12, 2) := by decide +kernel
theorem dX1_toldByRow_62 : decode cX1_toldByRow 62 = .ok (.invokestatic 143, 3) := by decide +kernel
theorem dX1_toldByRow_65 : decode cX1_toldByRow 65 = .ok (.lreturn, 1) := by decide +kernel
theorem dX1_sumOfNumbers_0 : decode cX1_sumOfNumbers 0 = .ok (.lconst 0, 1) := by decide +kernel
theorem dX1_sumOfNumbers_1 : decode cX1_sumOfNumbers 1 = .ok (.lstore_n 1, 1) := by decide +kernel
theorem dX1_sumOfNumbers_2 : decode cX1_sumOfNumbers 2 = .ok (.aload_n 0, 1) := by decide +kernel
theorem dX1_sumOfNumbers_3 : decode cX1_sumOfNumbers 3 = .ok (.getfield 75, 3) := by decide +kernel
theorem dX1_sumOfNumbers_6 : decode cX1_sumOfNumbers 6 = .ok (.astore_n 3, 1) := by decide +kernel
theorem dX1_sumOfNumbers_7 : decode cX1_sumOfNumbers 7 = .ok (.aload_n 3, 1) := by decide +kernel
theorem dX1_sumOfNumbers_8 : decode cX1_sumOfNumbers 8 = .ok (.arraylength, 1) := by decide +kernel
theorem dX1_sumOfNumbers_9 : decode cX1_sumOfNumbers 9 = .ok (.istore 4, 2) := by decide +kernel
theorem dX1_sumOfNumbers_11 : decode cX1_sumOfNumbers 11 = .ok (.iconst 0, 1) := by decide +kernel
theorem dX1_sumOfNumbers_12 : decode cX1_sumOfNumbers 12 = .ok (.istore 5, 2) := by decide +kernel
theorem dX1_sumOfNumbers_14 : decode cX1_sumOfNumbers 14 = .ok (.iload 5, 2) := by decide +kernel
theorem dX1_sumOfNumbers_16 : decode cX1_sumOfNumbers 16 = .ok (.iload 4, 2) := by decide +kernel
theorem dX1_sumOfNumbers_18 : decode cX1_sumOfNumbers 18 = .ok (.if_icmp .ge 20, 3) := by decide +kernel
theorem dX1_sumOfNumbers_21 : decode cX1_sumOfNumbers 21 = .ok (.aload_n 3, 1) := by decide +kernel
theorem dX1_sumOfNumbers_22 : decode cX1_sumOfNumbers 22 = .ok (.iload 5, 2) := by decide +kernel
theorem dX1_sumOfNumbers_24 : decode cX1_sumOfNumbers 24 = .ok (.laload, 1) := by decide +kernel
theorem dX1_sumOfNumbers_25 : decode cX1_sumOfNumbers 25 = .ok (.lstore 6, 2) := by decide +kernel
theorem dX1_sumOfNumbers_27 : decode cX1_sumOfNumbers 27 = .ok (.lload_n 1, 1) := by decide +kernel
theorem dX1_sumOfNumbers_28 : decode cX1_sumOfNumbers 28 = .ok (.lload 6, 2) := by decide +kernel
theorem dX1_sumOfNumbers_30 : decode cX1_sumOfNumbers 30 = .ok (.ladd, 1) := by decide +kernel
theorem dX1_sumOfNumbers_31 : decode cX1_sumOfNumbers 31 = .ok (.lstore_n 1, 1) := by decide +kernel
theorem dX1_sumOfNumbers_32 : decode cX1_sumOfNumbers 32 = .ok (.iinc 5 1, 3) := by decide +kernel
theorem dX1_sumOfNumbers_35 : decode cX1_sumOfNumbers 35 = .ok (.goto (-21), 3) := by decide +kernel
theorem dX1_sumOfNumbers_38 : decode cX1_sumOfNumbers 38 = .ok (.lload_n 1, 1) := by decide +kernel
theorem dX1_sumOfNumbers_39 : decode cX1_sumOfNumbers 39 = .ok (.lreturn, 1) := by decide +kernel
set_option maxRecDepth 20000 in
theorem ggX1_toldByLoads_X1_toldByLoad : GoodIn wsX1_toldByLoads wsX1_toldByLoad := goodIn_r _ [5, 6, 7, 8, 9, 4, 10, 11, 12, 13, 14, 15, 16, 17] (by decide +kernel) (by decide +kernel)
set_option maxRecDepth 20000 in
theorem gX1_toldByLoads_X1_toldByLoad : GoodIn wsX1_toldByLoads (va_wsS RX1 132 yX1_toldByLoad wsX1_toldByLoad) := goodIn_app (goodIn_of _ (by decide +kernel)) ggX1_toldByLoads_X1_toldByLoad
theorem dX1_toldByLoads_0 : decode cX1_toldByLoads 0 = .ok (.lconst 0, 1) := by decide +kernel
theorem dX1_toldByLoads_1 : decode cX1_toldByLoads 1 = .ok (.lstore_n 2, 1) := by decide +kernel
theorem dX1_toldByLoads_2 : decode cX1_toldByLoads 2 = .ok (.aload_n 0, 1) := by decide +kernel
theorem dX1_toldByLoads_3 : decode cX1_toldByLoads 3 = .ok (.getfield 96, 3) := by decide +kernel
theorem dX1_toldByLoads_6 : decode cX1_toldByLoads 6 = .ok (.astore 4, 2) := by decide +kernel
theorem dX1_toldByLoads_8 : decode cX1_toldByLoads 8 = .ok (.aload 4, 2) := by decide +kernel
theorem dX1_toldByLoads_10 : decode cX1_toldByLoads 10 = .ok (.arraylength, 1) := by decide +kernel
theorem dX1_toldByLoads_11 : decode cX1_toldByLoads 11 = .ok (.istore 5, 2) := by decide +kernel
theorem dX1_toldByLoads_13 : decode cX1_toldByLoads 13 = .ok (.iconst 0, 1) := by decide +kernel
theorem dX1_toldByLoads_14 : decode cX1_toldByLoads 14 = .ok (.istore 6, 2) := by decide +kernel
theorem dX1_toldByLoads_16 : decode cX1_toldByLoads 16 = .ok (.iload 6, 2) := by decide +kernel
theorem dX1_toldByLoads_18 : decode cX1_toldByLoads 18 = .ok (.iload 5, 2) := by decide +kernel
theorem dX1_toldByLoads_20 : decode cX1_toldByLoads 20 = .ok (.if_icmp .ge 31, 3) := by decide +kernel
theorem dX1_toldByLoads_23 : decode cX1_toldByLoads 23 = .ok (.aload 4, 2) := by decide +kernel
theorem dX1_toldByLoads_25 : decode cX1_toldByLoads 25 = .ok (.iload 6, 2) := by decide +kernel
theorem dX1_toldByLoads_27 : decode cX1_toldByLoads 27 = .ok (.aaload, 1) := by decide +kernel
theorem dX1_toldByLoads_28 : decode cX1_toldByLoads 28 = .ok (.astore 7, 2) := by decide +kernel
theorem dX1_toldByLoads_30 : decode cX1_toldByLoads 30 = .ok (.aload 7, 2) := by decide +kernel
theorem dX1_toldByLoads_32 : decode cX1_toldByLoads 32 = .ok (.ifnull 13, 3) := by decide +kernel
theorem dX1_toldByLoads_35 : decode cX1_toldByLoads 35 = .ok (.lload_n 2, 1) := by decide +kernel
theorem dX1_toldByLoads_36 : decode cX1_toldByLoads 36 = .ok (.aload 7, 2) := by decide +kernel
theorem dX1_toldByLoads_38 : decode cX1_toldByLoads 38 = .ok (.iload_n 1, 1) := by decide +kernel
theorem dX1_toldByLoads_39 : decode cX1_toldByLoads 39 = .ok (.invokestatic 132, 3) := by decide +kernel
theorem dX1_toldByLoads_42 : decode cX1_toldByLoads 42 = .ok (.i2l, 1) := by decide +kernel
theorem dX1_toldByLoads_43 : decode cX1_toldByLoads 43 = .ok (.ladd, 1) := by decide +kernel
theorem dX1_toldByLoads_44 : decode cX1_toldByLoads 44 = .ok (.lstore_n 2, 1) := by decide +kernel
theorem dX1_toldByLoads_45 : decode cX1_toldByLoads 45 = .ok (.iinc 6 1, 3) := by decide +kernel
theorem dX1_toldByLoads_48 : decode cX1_toldByLoads 48 = .ok (.goto (-32), 3) := by decide +kernel
theorem dX1_toldByLoads_51 : decode cX1_toldByLoads 51 = .ok (.lload_n 2, 1) := by decide +kernel
theorem dX1_toldByLoads_52 : decode cX1_toldByLoads 52 = .ok (.lreturn, 1) := by decide +kernel
set_option maxRecDepth 20000 in
theorem ggX1_toldByLoad_X1_lidOf : GoodIn wsX1_toldByLoad wsX1_lidOf := goodIn_r _ [6, 7, 8, 9, 10, 11, 12, 13] (by decide +kernel) (by decide +kernel)
set_option maxRecDepth 20000 in
theorem gX1_toldByLoad_X1_lidOf : GoodIn wsX1_toldByLoad (va_wsS RX1 106 yX1_lidOf wsX1_lidOf) := goodIn_app (goodIn_of _ (by decide +kernel)) ggX1_toldByLoad_X1_lidOf
theorem dX1_toldByLoad_0 : decode cX1_toldByLoad 0 = .ok (.iload_n 1, 1) := by decide +kernel
theorem dX1_toldByLoad_1 : decode cX1_toldByLoad 1 = .ok (.lookupswitch 60 #[(10, 27), (12, 32)], 27) := by decide +kernel
theorem dX1_toldByLoad_28 : decode cX1_toldByLoad 28 = .ok (.aload_n 0, 1) := by decide +kernel
theorem dX1_toldByLoad_29 : decode cX1_toldByLoad 29 = .ok (.invokestatic 106, 3) := by decide +kernel
theorem dX1_toldByLoad_32 : decode cX1_toldByLoad 32 = .ok (.ireturn, 1) := by decide +kernel
theorem dX1_toldByLoad_33 : decode cX1_toldByLoad 33 = .ok (.aload_n 0, 1) := by decide +kernel
theorem dX1_toldByLoad_34 : decode cX1_toldByLoad 34 = .ok (.getfield 79, 3) := by decide +kernel
theorem dX1_toldByLoad_37 : decode cX1_toldByLoad 37 = .ok (.bipush 11, 2) := by decide +kernel
theorem dX1_toldByLoad_39 : decode cX1_toldByLoad 39 = .ok (.if_icmp .ne 12, 3) := by decide +kernel
theorem dX1_toldByLoad_42 : decode cX1_toldByLoad 42 = .ok (.iconst 2, 1) := by decide +kernel
theorem dX1_toldByLoad_43 : decode cX1_toldByLoad 43 = .ok (.aload_n 0, 1) := by decide +kernel
theorem dX1_toldByLoad_44 : decode cX1_toldByLoad 44 = .ok (.getfield 114, 3) := by decide +kernel
theorem dX1_toldByLoad_47 : decode cX1_toldByLoad 47 = .ok (.imul, 1) := by decide +kernel
theorem dX1_toldByLoad_48 : decode cX1_toldByLoad 48 = .ok (.goto 12, 3) := by decide +kernel
theorem dX1_toldByLoad_51 : decode cX1_toldByLoad 51 = .ok (.aload_n 0, 1) := by decide +kernel
theorem dX1_toldByLoad_52 : decode cX1_toldByLoad 52 = .ok (.getfield 114, 3) := by decide +kernel
theorem dX1_toldByLoad_55 : decode cX1_toldByLoad 55 = .ok (.aload_n 0, 1) := by decide +kernel
theorem dX1_toldByLoad_56 : decode cX1_toldByLoad 56 = .ok (.invokestatic 106, 3) := by decide +kernel
theorem dX1_toldByLoad_59 : decode cX1_toldByLoad 59 = .ok (.iadd, 1) := by decide +kernel
theorem dX1_toldByLoad_60 : decode cX1_toldByLoad 60 = .ok (.ireturn, 1) := by decide +kernel
theorem dX1_toldByLoad_61 : decode cX1_toldByLoad 61 = .ok (.aload_n 0, 1) := by decide +kernel
theorem dX1_toldByLoad_62 : decode cX1_toldByLoad 62 = .ok (.getfield 114, 3) := by decide +kernel
theorem dX1_toldByLoad_65 : decode cX1_toldByLoad 65 = .ok (.ireturn, 1) := by decide +kernel
theorem dX1_lidOf_0 : decode cX1_lidOf 0 = .ok (.aload_n 0, 1) := by decide +kernel
theorem dX1_lidOf_1 : decode cX1_lidOf 1 = .ok (.getfield 109, 3) := by decide +kernel
theorem dX1_lidOf_4 : decode cX1_lidOf 4 = .ok (.ifCond .eq 7, 3) := by decide +kernel
theorem dX1_lidOf_7 : decode cX1_lidOf 7 = .ok (.iconst 1, 1) := by decide +kernel
theorem dX1_lidOf_8 : decode cX1_lidOf 8 = .ok (.goto 4, 3) := by decide +kernel
theorem dX1_lidOf_11 : decode cX1_lidOf 11 = .ok (.iconst 0, 1) := by decide +kernel
theorem dX1_lidOf_12 : decode cX1_lidOf 12 = .ok (.ireturn, 1) := by decide +kernel
