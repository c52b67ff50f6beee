theorem dX0_init_0 : decode cX0_init 0 = .ok (.aload_n 0, 1) := by decide +kernel
theorem dX0_init_1 : decode cX0_init 1 = .ok (.invokespecial 3, 3) := by decide +kernel
theorem dX0_init_4 : decode cX0_init 4 = .ok (.aload_n 0, 1) := by decide +kernel
theorem dX0_init_5 : decode cX0_init 5 = .ok (.bipush 14, 2) := by decide +kernel
theorem dX0_init_7 : decode cX0_init 7 = .ok (.newarray .long, 2) := by decide +kernel
theorem dX0_init_9 : decode cX0_init 9 = .ok (.putfield 9, 3) := by decide +kernel
theorem dX0_init_12 : decode cX0_init 12 = .ok (.return_, 1) := by decide +kernel
set_option maxRecDepth 20000 in
theorem ggX0_add_X0_forgetFirst : GoodIn wsX0_add wsX0_forgetFirst := goodIn_r _ [7, 2, 1, 8, 9] (by decide +kernel) (by decide +kernel)
set_option maxRecDepth 20000 in
theorem gX0_add_X0_forgetFirst : GoodIn wsX0_add (wsV RX0 19 RX0 yX0_forgetFirst wsX0_forgetFirst) := goodIn_app (goodIn_of _ (by decide +kernel)) ggX0_add_X0_forgetFirst
theorem dX0_add_0 : decode cX0_add 0 = .ok (.aload_n 0, 1) := by decide +kernel
theorem dX0_add_1 : decode cX0_add 1 = .ok (.getfield 15, 3) := by decide +kernel
theorem dX0_add_4 : decode cX0_add 4 = .ok (.aload_n 0, 1) := by decide +kernel
theorem dX0_add_5 : decode cX0_add 5 = .ok (.getfield 9, 3) := by decide +kernel
theorem dX0_add_8 : decode cX0_add 8 = .ok (.arraylength, 1) := by decide +kernel
theorem dX0_add_9 : decode cX0_add 9 = .ok (.if_icmp .lt 7, 3) := by decide +kernel
theorem dX0_add_12 : decode cX0_add 12 = .ok (.aload_n 0, 1) := by decide +kernel
theorem dX0_add_13 : decode cX0_add 13 = .ok (.invokevirtual 19, 3) := by decide +kernel
theorem dX0_add_16 : decode cX0_add 16 = .ok (.aload_n 0, 1) := by decide +kernel
theorem dX0_add_17 : decode cX0_add 17 = .ok (.getfield 15, 3) := by decide +kernel
theorem dX0_add_20 : decode cX0_add 20 = .ok (.ifCond .lt 35, 3) := by decide +kernel
theorem dX0_add_23 : decode cX0_add 23 = .ok (.aload_n 0, 1) := by decide +kernel
theorem dX0_add_24 : decode cX0_add 24 = .ok (.getfield 15, 3) := by decide +kernel
theorem dX0_add_27 : decode cX0_add 27 = .ok (.aload_n 0, 1) := by decide +kernel
theorem dX0_add_28 : decode cX0_add 28 = .ok (.getfield 9, 3) := by decide +kernel
theorem dX0_add_31 : decode cX0_add 31 = .ok (.arraylength, 1) := by decide +kernel
theorem dX0_add_32 : decode cX0_add 32 = .ok (.if_icmp .ge 23, 3) := by decide +kernel
theorem dX0_add_35 : decode cX0_add 35 = .ok (.aload_n 0, 1) := by decide +kernel
theorem dX0_add_36 : decode cX0_add 36 = .ok (.getfield 9, 3) := by decide +kernel
theorem dX0_add_39 : decode cX0_add 39 = .ok (.aload_n 0, 1) := by decide +kernel
theorem dX0_add_40 : decode cX0_add 40 = .ok (.getfield 15, 3) := by decide +kernel
theorem dX0_add_43 : decode cX0_add 43 = .ok (.lload_n 1, 1) := by decide +kernel
theorem dX0_add_44 : decode cX0_add 44 = .ok (.lastore, 1) := by decide +kernel
theorem dX0_add_45 : decode cX0_add 45 = .ok (.aload_n 0, 1) := by decide +kernel
theorem dX0_add_46 : decode cX0_add 46 = .ok (.dup, 1) := by decide +kernel
theorem dX0_add_47 : decode cX0_add 47 = .ok (.getfield 15, 3) := by decide +kernel
theorem dX0_add_50 : decode cX0_add 50 = .ok (.iconst 1, 1) := by decide +kernel
theorem dX0_add_51 : decode cX0_add 51 = .ok (.iadd, 1) := by decide +kernel
theorem dX0_add_52 : decode cX0_add 52 = .ok (.putfield 15, 3) := by decide +kernel
theorem dX0_add_55 : decode cX0_add 55 = .ok (.return_, 1) := by decide +kernel
theorem dX0_forgetFirst_0 : decode cX0_forgetFirst 0 = .ok (.iconst 1, 1) := by decide +kernel
theorem dX0_forgetFirst_1 : decode cX0_forgetFirst 1 = .ok (.istore_n 1, 1) := by decide +kernel
theorem dX0_forgetFirst_2 : decode cX0_forgetFirst 2 = .ok (.iload_n 1, 1) := by decide +kernel
theorem dX0_forgetFirst_3 : decode cX0_forgetFirst 3 = .ok (.aload_n 0, 1) := by decide +kernel
theorem dX0_forgetFirst_4 : decode cX0_forgetFirst 4 = .ok (.getfield 9, 3) := by decide +kernel
theorem dX0_forgetFirst_7 : decode cX0_forgetFirst 7 = .ok (.arraylength, 1) := by decide +kernel
theorem dX0_forgetFirst_8 : decode cX0_forgetFirst 8 = .ok (.if_icmp .ge 23, 3) := by decide +kernel
theorem dX0_forgetFirst_11 : decode cX0_forgetFirst 11 = .ok (.aload_n 0, 1) := by decide +kernel
theorem dX0_forgetFirst_12 : decode cX0_forgetFirst 12 = .ok (.getfield 9, 3) := by decide +kernel
theorem dX0_forgetFirst_15 : decode cX0_forgetFirst 15 = .ok (.iload_n 1, 1) := by decide +kernel
theorem dX0_forgetFirst_16 : decode cX0_forgetFirst 16 = .ok (.iconst 1, 1) := by decide +kernel
theorem dX0_forgetFirst_17 : decode cX0_forgetFirst 17 = .ok (.isub, 1) := by decide +kernel
theorem dX0_forgetFirst_18 : decode cX0_forgetFirst 18 = .ok (.aload_n 0, 1) := by decide +kernel
theorem dX0_forgetFirst_19 : decode cX0_forgetFirst 19 = .ok (.getfield 9, 3) := by decide +kernel
theorem dX0_forgetFirst_22 : decode cX0_forgetFirst 22 = .ok (.iload_n 1, 1) := by decide +kernel
theorem dX0_forgetFirst_23 : decode cX0_forgetFirst 23 = .ok (.laload, 1) := by decide +kernel
theorem dX0_forgetFirst_24 : decode cX0_forgetFirst 24 = .ok (.lastore, 1) := by decide +kernel
theorem dX0_forgetFirst_25 : decode cX0_forgetFirst 25 = .ok (.iinc 1 1, 3) := by decide +kernel
theorem dX0_forgetFirst_28 : decode cX0_forgetFirst 28 = .ok (.goto (-26), 3) := by decide +kernel
theorem dX0_forgetFirst_31 : decode cX0_forgetFirst 31 = .ok (.aload_n 0, 1) := by decide +kernel
theorem dX0_forgetFirst_32 : decode cX0_forgetFirst 32 = .ok (.aload_n 0, 1) := by decide +kernel
theorem dX0_forgetFirst_33 : decode cX0_forgetFirst 33 = .ok (.getfield 9, 3) := by decide +kernel
theorem dX0_forgetFirst_36 : decode cX0_forgetFirst 36 = .ok (.arraylength, 1) := by decide +kernel
theorem dX0_forgetFirst_37 : decode cX0_forgetFirst 37 = .ok (.iconst 1, 1) := by decide +kernel
theorem dX0_forgetFirst_38 : decode cX0_forgetFirst 38 = .ok (.isub, 1) := by decide +kernel
theorem dX0_forgetFirst_39 : decode cX0_forgetFirst 39 = .ok (.putfield 15, 3) := by decide +kernel
theorem dX0_forgetFirst_42 : decode cX0_forgetFirst 42 = .ok (.return_, 1) := by decide +kernel
theorem dX0_takeLast_0 : decode cX0_takeLast 0 = .ok (.aload_n 0, 1) := by decide +kernel
theorem dX0_takeLast_1 : decode cX0_takeLast 1 = .ok (.getfield 15, 3) := by decide +kernel
theorem dX0_takeLast_4 : decode cX0_takeLast 4 = .ok (.ifCond .le 15, 3) := by decide +kernel
theorem dX0_takeLast_7 : decode cX0_takeLast 7 = .ok (.aload_n 0, 1) := by decide +kernel
theorem dX0_takeLast_8 : decode cX0_takeLast 8 = .ok (.getfield 15, 3) := by decide +kernel
theorem dX0_takeLast_11 : decode cX0_takeLast 11 = .ok (.aload_n 0, 1) := by decide +kernel
theorem dX0_takeLast_12 : decode cX0_takeLast 12 = .ok (.getfield 9, 3) := by decide +kernel
theorem dX0_takeLast_15 : decode cX0_takeLast 15 = .ok (.arraylength, 1) := by decide +kernel
theorem dX0_takeLast_16 : decode cX0_takeLast 16 = .ok (.if_icmp .le 5, 3) := by decide +kernel
theorem dX0_takeLast_19 : decode cX0_takeLast 19 = .ok (.lload_n 1, 1) := by decide +kernel
theorem dX0_takeLast_20 : decode cX0_takeLast 20 = .ok (.lreturn, 1) := by decide +kernel
theorem dX0_takeLast_21 : decode cX0_takeLast 21 = .ok (.aload_n 0, 1) := by decide +kernel
theorem dX0_takeLast_22 : decode cX0_takeLast 22 = .ok (.dup, 1) := by decide +kernel
theorem dX0_takeLast_23 : decode cX0_takeLast 23 = .ok (.getfield 15, 3) := by decide +kernel
theorem dX0_takeLast_26 : decode cX0_takeLast 26 = .ok (.iconst 1, 1) := by decide +kernel
theorem dX0_takeLast_27 : decode cX0_takeLast 27 = .ok (.isub, 1) := by decide +kernel
theorem dX0_takeLast_28 : decode cX0_takeLast 28 = .ok (.putfield 15, 3) := by decide +kernel
theorem dX0_takeLast_31 : decode cX0_takeLast 31 = .ok (.aload_n 0, 1) := by decide +kernel
theorem dX0_takeLast_32 : decode cX0_takeLast 32 = .ok (.getfield 9, 3) := by decide +kernel
theorem dX0_takeLast_35 : decode cX0_takeLast 35 = .ok (.aload_n 0, 1) := by decide +kernel
theorem dX0_takeLast_36 : decode cX0_takeLast 36 = .ok (.getfield 15, 3) := by decide +kernel
theorem dX0_takeLast_39 : decode cX0_takeLast 39 = .ok (.laload, 1) := by decide +kernel
theorem dX0_takeLast_40 : decode cX0_takeLast 40 = .ok (.lreturn, 1) := by decide +kernel
theorem dX0_forgetAll_0 : decode cX0_forgetAll 0 = .ok (.aload_n 0, 1) := by decide +kernel
theorem dX0_forgetAll_1 : decode cX0_forgetAll 1 = .ok (.iconst 0, 1) := by decide +kernel
theorem dX0_forgetAll_2 : decode cX0_forgetAll 2 = .ok (.putfield 15, 3) := by decide +kernel
theorem dX0_forgetAll_5 : decode cX0_forgetAll 5 = .ok (.return_, 1) := by decide +kernel
theorem dX1_init_0 : decode cX1_init 0 = .ok (.aload_n 0, 1) := by decide +kernel
theorem dX1_init_1 : decode cX1_init 1 = .ok (.invokespecial 3, 3) := by decide +kernel
theorem dX1_init_4 : decode cX1_init 4 = .ok (.aload_n 0, 1) := by decide +kernel
theorem dX1_init_5 : decode cX1_init 5 = .ok (.iconst 4, 1) := by decide +kernel
theorem dX1_init_6 : decode cX1_init 6 = .ok (.newarray .int, 2) := by decide +kernel
theorem dX1_init_8 : decode cX1_init 8 = .ok (.putfield 9, 3) := by decide +kernel
theorem dX1_init_11 : decode cX1_init 11 = .ok (.aload_n 0, 1) := by decide +kernel
theorem dX1_init_12 : decode cX1_init 12 = .ok (.iconst 4, 1) := by decide +kernel
theorem dX1_init_13 : decode cX1_init 13 = .ok (.newarray .long, 2) := by decide +kernel
theorem dX1_init_15 : decode cX1_init 15 = .ok (.putfield 15, 3) := by decide +kernel
theorem dX1_init_18 : decode cX1_init 18 = .ok (.return_, 1) := by decide +kernel
set_option maxRecDepth 20000 in
theorem ggX1_hold_X7_withHolder : GoodIn wsX1_hold wsX7_withHolder := goodIn_r _ [6, 7] (by decide +kernel) (by decide +kernel)
set_option maxRecDepth 20000 in
theorem gX1_hold_X7_withHolder : GoodIn wsX1_hold (va_wsS RX1 25 yX7_withHolder wsX7_withHolder) := goodIn_app (goodIn_of _ (by decide +kernel)) ggX1_hold_X7_withHolder
set_option maxRecDepth 20000 in
theorem ggX1_hold_X1_allTossed : GoodIn wsX1_hold wsX1_allTossed := goodIn_r _ [11, 12, 13, 14, 15, 16, 17, 18, 19, 20, 21, 22, 23, 24, 25, 26, 27, 28, 29, 5, 30, 31, 32, 33, 34, 35, 36, 37, 38, 39, 40, 41, 42, 43, 44, 45, 46, 47, 48, 49, 50, 51, 52, 53, 54, 55, 56, 57, 58, 59, 60, 61, 62, 63, 64, 65, 66, 67, 68, 69, 70, 71, 72, 73, 74, 75, 76, 77, 78, 79, 80, 81, 82, 83, 84, 105, 106, 107, 108, 109, 110, 111, 112, 113, 114, 115] (by decide +kernel) (by decide +kernel)
set_option maxRecDepth 20000 in
theorem gX1_hold_X1_allTossed : GoodIn wsX1_hold (va_wsS RX1 31 yX1_allTossed wsX1_allTossed) := goodIn_app (goodIn_of _ (by decide +kernel)) ggX1_hold_X1_allTossed
set_option maxRecDepth 20000 in
theorem ggX1_hold_X1_choiceOf : GoodIn wsX1_hold wsX1_choiceOf := goodIn_r _ [88, 2, 89, 90, 91, 15, 92, 93, 94, 95, 96, 17, 43, 44, 5, 45, 97, 98, 99, 100, 64, 65, 66, 67, 68, 101, 102, 103, 104, 69, 70, 71, 72, 73, 105, 106, 107, 108, 109, 110, 111, 112, 113, 114, 115, 116, 117] (by decide +kernel) (by decide +kernel)
set_option maxRecDepth 20000 in
theorem gX1_hold_X1_choiceOf : GoodIn wsX1_hold (wsV RX1 35 RX1 yX1_choiceOf wsX1_choiceOf) := goodIn_app (goodIn_of _ (by decide +kernel)) ggX1_hold_X1_choiceOf
theorem dX1_hold_0 : decode cX1_hold 0 = .ok (.iconst 0, 1) := by decide +kernel
theorem dX1_hold_1 : decode cX1_hold 1 = .ok (.istore 4, 2) := by decide +kernel
theorem dX1_hold_3 : decode cX1_hold 3 = .ok (.iload 4, 2) := by decide +kernel
theorem dX1_hold_5 : decode cX1_hold 5 = .ok (.aload_n 1, 1) := by decide +kernel
theorem dX1_hold_6 : decode cX1_hold 6 = .ok (.getfield 19, 3) := by decide +kernel
theorem dX1_hold_9 : decode cX1_hold 9 = .ok (.if_icmp .ge 54, 3) := by decide +kernel
theorem dX1_hold_12 : decode cX1_hold 12 = .ok (.iload 4, 2) := by decide +kernel
theorem dX1_hold_14 : decode cX1_hold 14 = .ok (.aload_n 0, 1) := by decide +kernel
theorem dX1_hold_15 : decode cX1_hold 15 = .ok (.getfield 9, 3) := by decide +kernel
theorem dX1_hold_18 : decode cX1_hold 18 = .ok (.arraylength, 1) := by decide +kernel
theorem dX1_hold_19 : decode cX1_hold 19 = .ok (.if_icmp .ge 44, 3) := by decide +kernel
theorem dX1_hold_22 : decode cX1_hold 22 = .ok (.iload 4, 2) := by decide +kernel
theorem dX1_hold_24 : decode cX1_hold 24 = .ok (.aload_n 0, 1) := by decide +kernel
theorem dX1_hold_25 : decode cX1_hold 25 = .ok (.getfield 15, 3) := by decide +kernel
theorem dX1_hold_28 : decode cX1_hold 28 = .ok (.arraylength, 1) := by decide +kernel
theorem dX1_hold_29 : decode cX1_hold 29 = .ok (.if_icmp .ge 34, 3) := by decide +kernel
theorem dX1_hold_32 : decode cX1_hold 32 = .ok (.aload_n 0, 1) := by decide +kernel
theorem dX1_hold_33 : decode cX1_hold 33 = .ok (.getfield 9, 3) := by decide +kernel
theorem dX1_hold_36 : decode cX1_hold 36 = .ok (.iload 4, 2) := by decide +kernel
theorem dX1_hold_38 : decode cX1_hold 38 = .ok (.iconst 0, 1) := by decide +kernel
theorem dX1_hold_39 : decode cX1_hold 39 = .ok (.iastore, 1) := by decide +kernel
theorem dX1_hold_40 : decode cX1_hold 40 = .ok (.aload_n 0, 1) := by decide +kernel
theorem dX1_hold_41 : decode cX1_hold 41 = .ok (.getfield 15, 3) := by decide +kernel
theorem dX1_hold_44 : decode cX1_hold 44 = .ok (.iload 4, 2) := by decide +kernel
theorem dX1_hold_46 : decode cX1_hold 46 = .ok (.aload_n 1, 1) := by decide +kernel
theorem dX1_hold_47 : decode cX1_hold 47 = .ok (.lload_n 2, 1) := by decide +kernel
theorem dX1_hold_48 : decode cX1_hold 48 = .ok (.iload 4, 2) := by decide +kernel
theorem dX1_hold_50 : decode cX1_hold 50 = .ok (.invokestatic 25, 3) := by decide +kernel
theorem dX1_hold_53 : decode cX1_hold 53 = .ok (.invokestatic 31, 3) := by decide +kernel
theorem dX1_hold_56 : decode cX1_hold 56 = .ok (.lastore, 1) := by decide +kernel
theorem dX1_hold_57 : decode cX1_hold 57 = .ok (.iinc 4 1, 3) := by decide +kernel
theorem dX1_hold_60 : decode cX1_hold 60 = .ok (.goto (-57), 3) := by decide +kernel
theorem dX1_hold_63 : decode cX1_hold 63 = .ok (.iconst 0, 1) := by decide +kernel
theorem dX1_hold_64 : decode cX1_hold 64 = .ok (.istore 4, 2) := by decide +kernel
theorem dX1_hold_66 : decode cX1_hold 66 = .ok (.iload 4, 2) := by decide +kernel
theorem dX1_hold_68 : decode cX1_hold 68 = .ok (.aload_n 1, 1) := by decide +kernel
theorem dX1_hold_69 : decode cX1_hold 69 = .ok (.getfield 19, 3) := by decide +kernel
theorem dX1_hold_72 : decode cX1_hold 72 = .ok (.if_icmp .ge 44, 3) := by decide +kernel
theorem dX1_hold_75 : decode cX1_hold 75 = .ok (.aload_n 0, 1) := by decide +kernel
theorem dX1_hold_76 : decode cX1_hold 76 = .ok (.aload_n 1, 1) := by decide +kernel
theorem dX1_hold_77 : decode cX1_hold 77 = .ok (.iload 4, 2) := by decide +kernel
theorem dX1_hold_79 : decode cX1_hold 79 = .ok (.invokevirtual 35, 3) := by decide +kernel
theorem dX1_hold_82 : decode cX1_hold 82 = .ok (.istore 5, 2) := by decide +kernel
theorem dX1_hold_84 : decode cX1_hold 84 = .ok (.iload 5, 2) := by decide +kernel
theorem dX1_hold_86 : decode cX1_hold 86 = .ok (.ifCond .lt 24, 3) := by decide +kernel
theorem dX1_hold_89 : decode cX1_hold 89 = .ok (.iload 5, 2) := by decide +kernel
theorem dX1_hold_91 : decode cX1_hold 91 = .ok (.aload_n 0, 1) := by decide +kernel
theorem dX1_hold_92 : decode cX1_hold 92 = .ok (.getfield 9, 3) := by decide +kernel
theorem dX1_hold_95 : decode cX1_hold 95 = .ok (.arraylength, 1) := by decide +kernel
theorem dX1_hold_96 : decode cX1_hold 96 = .ok (.if_icmp .ge 14, 3) := by decide +kernel
theorem dX1_hold_99 : decode cX1_hold 99 = .ok (.aload_n 0, 1) := by decide +kernel
theorem dX1_hold_100 : decode cX1_hold 100 = .ok (.getfield 9, 3) := by decide +kernel
theorem dX1_hold_103 : decode cX1_hold 103 = .ok (.iload 5, 2) := by decide +kernel
theorem dX1_hold_105 : decode cX1_hold 105 = .ok (.dup2, 1) := by decide +kernel
theorem dX1_hold_106 : decode cX1_hold 106 = .ok (.iaload, 1) := by decide +kernel
theorem dX1_hold_107 : decode cX1_hold 107 = .ok (.iconst 1, 1) := by decide +kernel
theorem dX1_hold_108 : decode cX1_hold 108 = .ok (.iadd, 1) := by decide +kernel
theorem dX1_hold_109 : decode cX1_hold 109 = .ok (.iastore, 1) := by decide +kernel
theorem dX1_hold_110 : decode cX1_hold 110 = .ok (.iinc 4 1, 3) := by decide +kernel
theorem dX1_hold_113 : decode cX1_hold 113 = .ok (.goto (-47), 3) := by decide +kernel
theorem dX1_hold_116 : decode cX1_hold 116 = .ok (.return_, 1) := by decide +kernel
theorem dX1_votesFor_0 : decode cX1_votesFor 0 = .ok (.iload_n 1, 1) := by decide +kernel
theorem dX1_votesFor_1 : decode cX1_votesFor 1 = .ok (.ifCond .lt 21, 3) := by decide +kernel
theorem dX1_votesFor_4 : decode cX1_votesFor 4 = .ok (.iload_n 1, 1) := by decide +kernel
theorem dX1_votesFor_5 : decode cX1_votesFor 5 = .ok (.aload_n 0, 1) := by decide +kernel
theorem dX1_votesFor_6 : decode cX1_votesFor 6 = .ok (.getfield 9, 3) := by decide +kernel
theorem dX1_votesFor_9 : decode cX1_votesFor 9 = .ok (.arraylength, 1) := by decide +kernel
theorem dX1_votesFor_10 : decode cX1_votesFor 10 = .ok (.if_icmp .ge 12, 3) := by decide +kernel
theorem dX1_votesFor_13 : decode cX1_votesFor 13 = .ok (.aload_n 0, 1) := by decide +kernel
theorem dX1_votesFor_14 : decode cX1_votesFor 14 = .ok (.getfield 9, 3) := by decide +kernel
theorem dX1_votesFor_17 : decode cX1_votesFor 17 = .ok (.iload_n 1, 1) := by decide +kernel
theorem dX1_votesFor_18 : decode cX1_votesFor 18 = .ok (.iaload, 1) := by decide +kernel
theorem dX1_votesFor_19 : decode cX1_votesFor 19 = .ok (.goto 4, 3) := by decide +kernel
theorem dX1_votesFor_22 : decode cX1_votesFor 22 = .ok (.iconst 0, 1) := by decide +kernel
theorem dX1_votesFor_23 : decode cX1_votesFor 23 = .ok (.ireturn, 1) := by decide +kernel
set_option maxRecDepth 20000 in
theorem ggX1_allTossed_X3_tossed : GoodIn wsX1_allTossed wsX3_tossed := goodIn_r _ [5, 6, 7, 8, 9, 4, 10, 11, 12, 13, 14, 15, 16, 17, 18, 19, 20, 21, 22, 23, 24, 25, 26, 27, 28, 29, 30, 31, 32, 33, 34, 35, 36, 37, 38, 39, 40, 41, 42, 43, 44, 45, 46, 47, 48, 49, 50, 51, 52, 53, 54, 55, 56, 57, 58, 59, 60, 61, 62, 63, 64, 65, 66, 67, 68, 69, 70, 71, 72, 73, 74, 75, 76, 77, 78, 79, 80, 81, 82, 83, 84, 85] (by decide +kernel) (by decide +kernel)
set_option maxRecDepth 20000 in
theorem gX1_allTossed_X3_tossed : GoodIn wsX1_allTossed (wsV RX1 39 RX3 yX3_tossed wsX3_tossed) := goodIn_app (goodIn_of _ (by decide +kernel)) ggX1_allTossed_X3_tossed
theorem dX1_allTossed_0 : decode cX1_allTossed 0 = .ok (.lload_n 1, 1) := by decide +kernel
theorem dX1_allTossed_1 : decode cX1_allTossed 1 = .ok (.lstore_n 3, 1) := by decide +kernel
theorem dX1_allTossed_2 : decode cX1_allTossed 2 = .ok (.iconst 0, 1) := by decide +kernel
theorem dX1_allTossed_3 : decode cX1_allTossed 3 = .ok (.istore 5, 2) := by decide +kernel
theorem dX1_allTossed_5 : decode cX1_allTossed 5 = .ok (.iload 5, 2) := by decide +kernel
theorem dX1_allTossed_7 : decode cX1_allTossed 7 = .ok (.aload_n 0, 1) := by decide +kernel
theorem dX1_allTossed_8 : decode cX1_allTossed 8 = .ok (.getfield 19, 3) := by decide +kernel
theorem dX1_allTossed_11 : decode cX1_allTossed 11 = .ok (.if_icmp .ge 17, 3) := by decide +kernel
theorem dX1_allTossed_14 : decode cX1_allTossed 14 = .ok (.aload_n 0, 1) := by decide +kernel
theorem dX1_allTossed_15 : decode cX1_allTossed 15 = .ok (.lload_n 3, 1) := by decide +kernel
theorem dX1_allTossed_16 : decode cX1_allTossed 16 = .ok (.iload 5, 2) := by decide +kernel
theorem dX1_allTossed_18 : decode cX1_allTossed 18 = .ok (.invokevirtual 39, 3) := by decide +kernel
theorem dX1_allTossed_21 : decode cX1_allTossed 21 = .ok (.lstore_n 3, 1) := by decide +kernel
theorem dX1_allTossed_22 : decode cX1_allTossed 22 = .ok (.iinc 5 1, 3) := by decide +kernel
theorem dX1_allTossed_25 : decode cX1_allTossed 25 = .ok (.goto (-20), 3) := by decide +kernel
theorem dX1_allTossed_28 : decode cX1_allTossed 28 = .ok (.lload_n 3, 1) := by decide +kernel
theorem dX1_allTossed_29 : decode cX1_allTossed 29 = .ok (.lreturn, 1) := by decide +kernel
set_option maxRecDepth 20000 in
theorem ggX1_choiceOf_X3_guiltOf : GoodIn wsX1_choiceOf wsX3_guiltOf := goodIn_r _ [6, 7, 8, 9, 5, 10, 11, 12, 13, 14, 15, 16, 17, 18, 19, 20, 21, 22, 23, 24, 25, 26, 27, 28, 29, 30, 31, 32, 33, 34, 35, 36, 37, 38, 39, 40, 41, 42, 43, 44] (by decide +kernel) (by decide +kernel)
set_option maxRecDepth 20000 in
theorem gX1_choiceOf_X3_guiltOf : GoodIn wsX1_choiceOf (wsV RX1 42 RX3 yX3_guiltOf wsX3_guiltOf) := goodIn_app (goodIn_of _ (by decide +kernel)) ggX1_choiceOf_X3_guiltOf
theorem dX1_choiceOf_0 : decode cX1_choiceOf 0 = .ok (.bipush (-9), 2) := by decide +kernel
theorem dX1_choiceOf_2 : decode cX1_choiceOf 2 = .ok (.istore_n 3, 1) := by decide +kernel
theorem dX1_choiceOf_3 : decode cX1_choiceOf 3 = .ok (.iconst 0, 1) := by decide +kernel
theorem dX1_choiceOf_4 : decode cX1_choiceOf 4 = .ok (.istore 4, 2) := by decide +kernel
theorem dX1_choiceOf_6 : decode cX1_choiceOf 6 = .ok (.iconst 0, 1) := by decide +kernel
theorem dX1_choiceOf_7 : decode cX1_choiceOf 7 = .ok (.istore 5, 2) := by decide +kernel
theorem dX1_choiceOf_9 : decode cX1_choiceOf 9 = .ok (.iload 5, 2) := by decide +kernel
theorem dX1_choiceOf_11 : decode cX1_choiceOf 11 = .ok (.aload_n 1, 1) := by decide +kernel
theorem dX1_choiceOf_12 : decode cX1_choiceOf 12 = .ok (.getfield 19, 3) := by decide +kernel
theorem dX1_choiceOf_15 : decode cX1_choiceOf 15 = .ok (.if_icmp .ge 53, 3) := by decide +kernel
theorem dX1_choiceOf_18 : decode cX1_choiceOf 18 = .ok (.iload 5, 2) := by decide +kernel
theorem dX1_choiceOf_20 : decode cX1_choiceOf 20 = .ok (.aload_n 0, 1) := by decide +kernel
theorem dX1_choiceOf_21 : decode cX1_choiceOf 21 = .ok (.getfield 15, 3) := by decide +kernel
theorem dX1_choiceOf_24 : decode cX1_choiceOf 24 = .ok (.arraylength, 1) := by decide +kernel
theorem dX1_choiceOf_25 : decode cX1_choiceOf 25 = .ok (.if_icmp .ge 43, 3) := by decide +kernel
theorem dX1_choiceOf_28 : decode cX1_choiceOf 28 = .ok (.aload_n 1, 1) := by decide +kernel
theorem dX1_choiceOf_29 : decode cX1_choiceOf 29 = .ok (.aload_n 0, 1) := by decide +kernel
theorem dX1_choiceOf_30 : decode cX1_choiceOf 30 = .ok (.getfield 15, 3) := by decide +kernel
theorem dX1_choiceOf_33 : decode cX1_choiceOf 33 = .ok (.iload 5, 2) := by decide +kernel
theorem dX1_choiceOf_35 : decode cX1_choiceOf 35 = .ok (.laload, 1) := by decide +kernel
theorem dX1_choiceOf_36 : decode cX1_choiceOf 36 = .ok (.iload_n 2, 1) := by decide +kernel
theorem dX1_choiceOf_37 : decode cX1_choiceOf 37 = .ok (.invokevirtual 42, 3) := by decide +kernel
theorem dX1_choiceOf_40 : decode cX1_choiceOf 40 = .ok (.istore 6, 2) := by decide +kernel
theorem dX1_choiceOf_42 : decode cX1_choiceOf 42 = .ok (.iload_n 3, 1) := by decide +kernel
theorem dX1_choiceOf_43 : decode cX1_choiceOf 43 = .ok (.bipush (-9), 2) := by decide +kernel
theorem dX1_choiceOf_45 : decode cX1_choiceOf 45 = .ok (.if_icmp .eq 10, 3) := by decide +kernel
theorem dX1_choiceOf_48 : decode cX1_choiceOf 48 = .ok (.iload 6, 2) := by decide +kernel
theorem dX1_choiceOf_50 : decode cX1_choiceOf 50 = .ok (.iload 4, 2) := by decide +kernel
theorem dX1_choiceOf_52 : decode cX1_choiceOf 52 = .ok (.if_icmp .ge 10, 3) := by decide +kernel
theorem dX1_choiceOf_55 : decode cX1_choiceOf 55 = .ok (.iload 5, 2) := by decide +kernel
theorem dX1_choiceOf_57 : decode cX1_choiceOf 57 = .ok (.istore_n 3, 1) := by decide +kernel
theorem dX1_choiceOf_58 : decode cX1_choiceOf 58 = .ok (.iload 6, 2) := by decide +kernel
theorem dX1_choiceOf_60 : decode cX1_choiceOf 60 = .ok (.istore 4, 2) := by decide +kernel
theorem dX1_choiceOf_62 : decode cX1_choiceOf 62 = .ok (.iinc 5 1, 3) := by decide +kernel
theorem dX1_choiceOf_65 : decode cX1_choiceOf 65 = .ok (.goto (-56), 3) := by decide +kernel
theorem dX1_choiceOf_68 : decode cX1_choiceOf 68 = .ok (.iload_n 3, 1) := by decide +kernel
theorem dX1_choiceOf_69 : decode cX1_choiceOf 69 = .ok (.ireturn, 1) := by decide +kernel
theorem dX2_rowSpan_0 : decode cX2_rowSpan 0 = .ok (.iconst 1, 1) := by decide +kernel
theorem dX2_rowSpan_1 : decode cX2_rowSpan 1 = .ok (.istore_n 1, 1) := by decide +kernel
theorem dX2_rowSpan_2 : decode cX2_rowSpan 2 = .ok (.iconst 0, 1) := by decide +kernel
theorem dX2_rowSpan_3 : decode cX2_rowSpan 3 = .ok (.istore_n 2, 1) := by decide +kernel
theorem dX2_rowSpan_4 : decode cX2_rowSpan 4 = .ok (.iload_n 2, 1) := by decide +kernel
theorem dX2_rowSpan_5 : decode cX2_rowSpan 5 = .ok (.iload_n 0, 1) := by decide +kernel
theorem dX2_rowSpan_6 : decode cX2_rowSpan 6 = .ok (.if_icmp .ge 19, 3) := by decide +kernel
theorem dX2_rowSpan_9 : decode cX2_rowSpan 9 = .ok (.iload_n 2, 1) := by decide +kernel
theorem dX2_rowSpan_10 : decode cX2_rowSpan 10 = .ok (.iconst 4, 1) := by decide +kernel
theorem dX2_rowSpan_11 : decode cX2_rowSpan 11 = .ok (.if_icmp .ge 14, 3) := by decide +kernel
theorem dX2_rowSpan_14 : decode cX2_rowSpan 14 = .ok (.iload_n 1, 1) := by decide +kernel
theorem dX2_rowSpan_15 : decode cX2_rowSpan 15 = .ok (.bipush 100, 2) := by decide +kernel
theorem dX2_rowSpan_17 : decode cX2_rowSpan 17 = .ok (.imul, 1) := by decide +kernel
theorem dX2_rowSpan_18 : decode cX2_rowSpan 18 = .ok (.istore_n 1, 1) := by decide +kernel
theorem dX2_rowSpan_19 : decode cX2_rowSpan 19 = .ok (.iinc 2 1, 3) := by decide +kernel
theorem dX2_rowSpan_22 : decode cX2_rowSpan 22 = .ok (.goto (-18), 3) := by decide +kernel
theorem dX2_rowSpan_25 : decode cX2_rowSpan 25 = .ok (.iload_n 1, 1) := by decide +kernel
theorem dX2_rowSpan_26 : decode cX2_rowSpan 26 = .ok (.ireturn, 1) := by decide +kernel
set_option maxRecDepth 20000 in
theorem ggX2_firstWrong_X2_pairAt : GoodIn wsX2_firstWrong wsX2_pairAt := goodIn_r _ [4] (by decide +kernel) (by decide +kernel)
set_option maxRecDepth 20000 in
theorem gX2_firstWrong_X2_pairAt : GoodIn wsX2_firstWrong (va_wsS RX2 9 yX2_pairAt wsX2_pairAt) := goodIn_app (goodIn_of _ (by decide +kernel)) ggX2_firstWrong_X2_pairAt
set_option maxRecDepth 20000 in
theorem ggX2_firstWrong_X2_canBe : GoodIn wsX2_firstWrong wsX2_canBe := goodIn_r _ [7, 8, 9, 10, 11, 12, 13, 14, 15, 16, 17, 18, 19, 20, 21, 22, 23, 24, 25, 26, 27, 28, 29, 30, 31, 32, 33, 34, 35, 36, 37, 38, 39, 40, 41, 42, 43, 44, 45, 46, 47, 48, 49, 50, 51, 52, 53, 54, 55, 56, 57, 58, 59, 60, 127, 128, 129, 130, 131, 132, 133, 134, 135, 136, 137] (by decide +kernel) (by decide +kernel)
set_option maxRecDepth 20000 in
theorem gX2_firstWrong_X2_canBe : GoodIn wsX2_firstWrong (va_wsS RX2 15 yX2_canBe wsX2_canBe) := goodIn_app (goodIn_of _ (by decide +kernel)) ggX2_firstWrong_X2_canBe
set_option maxRecDepth 20000 in
theorem ggX2_firstWrong_X2_behind : GoodIn wsX2_firstWrong wsX2_behind := goodIn_r _ [63, 64, 65, 66, 11, 67, 68, 69, 38, 70, 71, 72, 73, 74, 75, 26, 76, 77, 78, 79, 80, 81, 82, 83, 84, 85, 86, 87, 88, 89, 47, 48, 90, 91, 92, 93, 94, 36, 37, 39, 95, 96, 97, 98, 99, 100, 101, 102, 40, 41, 42, 43, 44, 13, 14, 15, 16, 17, 27, 28, 29, 30, 31, 103, 104, 105, 106, 107, 108, 109, 110, 111, 112, 113, 114, 115, 116, 117, 118, 119, 120, 121, 122, 123, 124, 125, 126, 127, 128, 129, 130, 131, 132, 133, 134, 135, 136, 137] (by decide +kernel) (by decide +kernel)
set_option maxRecDepth 20000 in
theorem gX2_firstWrong_X2_behind : GoodIn wsX2_firstWrong (va_wsS RX2 19 yX2_behind wsX2_behind) := goodIn_app (goodIn_of _ (by decide +kernel)) ggX2_firstWrong_X2_behind
theorem dX2_firstWrong_0 : decode cX2_firstWrong 0 = .ok (.lload_n 1, 1) := by decide +kernel
theorem dX2_firstWrong_1 : decode cX2_firstWrong 1 = .ok (.lstore 5, 2) := by decide +kernel
theorem dX2_firstWrong_3 : decode cX2_firstWrong 3 = .ok (.iconst 0, 1) := by decide +kernel
theorem dX2_firstWrong_4 : decode cX2_firstWrong 4 = .ok (.istore 7, 2) := by decide +kernel
theorem dX2_firstWrong_6 : decode cX2_firstWrong 6 = .ok (.iload 7, 2) := by decide +kernel
theorem dX2_firstWrong_8 : decode cX2_firstWrong 8 = .ok (.iload_n 3, 1) := by decide +kernel
theorem dX2_firstWrong_9 : decode cX2_firstWrong 9 = .ok (.if_icmp .ge 62, 3) := by decide +kernel
theorem dX2_firstWrong_12 : decode cX2_firstWrong 12 = .ok (.iload 4, 2) := by decide +kernel
theorem dX2_firstWrong_14 : decode cX2_firstWrong 14 = .ok (.iload_n 3, 1) := by decide +kernel
theorem dX2_firstWrong_15 : decode cX2_firstWrong 15 = .ok (.iconst 1, 1) := by decide +kernel
theorem dX2_firstWrong_16 : decode cX2_firstWrong 16 = .ok (.isub, 1) := by decide +kernel
theorem dX2_firstWrong_17 : decode cX2_firstWrong 17 = .ok (.iload 7, 2) := by decide +kernel
theorem dX2_firstWrong_19 : decode cX2_firstWrong 19 = .ok (.isub, 1) := by decide +kernel
theorem dX2_firstWrong_20 : decode cX2_firstWrong 20 = .ok (.invokestatic 9, 3) := by decide +kernel
theorem dX2_firstWrong_23 : decode cX2_firstWrong 23 = .ok (.istore 8, 2) := by decide +kernel
theorem dX2_firstWrong_25 : decode cX2_firstWrong 25 = .ok (.aload_n 0, 1) := by decide +kernel
theorem dX2_firstWrong_26 : decode cX2_firstWrong 26 = .ok (.lload 5, 2) := by decide +kernel
theorem dX2_firstWrong_28 : decode cX2_firstWrong 28 = .ok (.iload 8, 2) := by decide +kernel
theorem dX2_firstWrong_30 : decode cX2_firstWrong 30 = .ok (.bipush 10, 2) := by decide +kernel
theorem dX2_firstWrong_32 : decode cX2_firstWrong 32 = .ok (.idiv, 1) := by decide +kernel
theorem dX2_firstWrong_33 : decode cX2_firstWrong 33 = .ok (.iload 8, 2) := by decide +kernel
theorem dX2_firstWrong_35 : decode cX2_firstWrong 35 = .ok (.bipush 10, 2) := by decide +kernel
theorem dX2_firstWrong_37 : decode cX2_firstWrong 37 = .ok (.irem, 1) := by decide +kernel
theorem dX2_firstWrong_38 : decode cX2_firstWrong 38 = .ok (.invokestatic 15, 3) := by decide +kernel
theorem dX2_firstWrong_41 : decode cX2_firstWrong 41 = .ok (.ifCond .ne 6, 3) := by decide +kernel
theorem dX2_firstWrong_44 : decode cX2_firstWrong 44 = .ok (.iload 7, 2) := by decide +kernel
theorem dX2_firstWrong_46 : decode cX2_firstWrong 46 = .ok (.ireturn, 1) := by decide +kernel
theorem dX2_firstWrong_47 : decode cX2_firstWrong 47 = .ok (.aload_n 0, 1) := by decide +kernel
theorem dX2_firstWrong_48 : decode cX2_firstWrong 48 = .ok (.lload 5, 2) := by decide +kernel
theorem dX2_firstWrong_50 : decode cX2_firstWrong 50 = .ok (.iload 8, 2) := by decide +kernel
theorem dX2_firstWrong_52 : decode cX2_firstWrong 52 = .ok (.bipush 10, 2) := by decide +kernel
theorem dX2_firstWrong_54 : decode cX2_firstWrong 54 = .ok (.idiv, 1) := by decide +kernel
theorem dX2_firstWrong_55 : decode cX2_firstWrong 55 = .ok (.iload 8, 2) := by decide +kernel
theorem dX2_firstWrong_57 : decode cX2_firstWrong 57 = .ok (.bipush 10, 2) := by decide +kernel
theorem dX2_firstWrong_59 : decode cX2_firstWrong 59 = .ok (.irem, 1) := by decide +kernel
theorem dX2_firstWrong_60 : decode cX2_firstWrong 60 = .ok (.invokestatic 19, 3) := by decide +kernel
theorem dX2_firstWrong_63 : decode cX2_firstWrong 63 = .ok (.lstore 5, 2) := by decide +kernel
theorem dX2_firstWrong_65 : decode cX2_firstWrong 65 = .ok (.iinc 7 1, 3) := by decide +kernel
theorem dX2_firstWrong_68 : decode cX2_firstWrong 68 = .ok (.goto (-62), 3) := by decide +kernel
theorem dX2_firstWrong_71 : decode cX2_firstWrong 71 = .ok (.bipush (-9), 2) := by decide +kernel
theorem dX2_firstWrong_73 : decode cX2_firstWrong 73 = .ok (.ireturn, 1) := by decide +kernel
theorem dX2_pairAt_0 : decode cX2_pairAt 0 = .ok (.iload_n 0, 1) := by decide +kernel
theorem dX2_pairAt_1 : decode cX2_pairAt 1 = .ok (.istore_n 2, 1) := by decide +kernel
theorem dX2_pairAt_2 : decode cX2_pairAt 2 = .ok (.iconst 0, 1) := by decide +kernel
theorem dX2_pairAt_3 : decode cX2_pairAt 3 = .ok (.istore_n 3, 1) := by decide +kernel
theorem dX2_pairAt_4 : decode cX2_pairAt 4 = .ok (.iload_n 3, 1) := by decide +kernel
theorem dX2_pairAt_5 : decode cX2_pairAt 5 = .ok (.iload_n 1, 1) := by decide +kernel
theorem dX2_pairAt_6 : decode cX2_pairAt 6 = .ok (.if_icmp .ge 14, 3) := by decide +kernel
theorem dX2_pairAt_9 : decode cX2_pairAt 9 = .ok (.iload_n 2, 1) := by decide +kernel
theorem dX2_pairAt_10 : decode cX2_pairAt 10 = .ok (.bipush 100, 2) := by decide +kernel
theorem dX2_pairAt_12 : decode cX2_pairAt 12 = .ok (.idiv, 1) := by decide +kernel
theorem dX2_pairAt_13 : decode cX2_pairAt 13 = .ok (.istore_n 2, 1) := by decide +kernel
theorem dX2_pairAt_14 : decode cX2_pairAt 14 = .ok (.iinc 3 1, 3) := by decide +kernel
theorem dX2_pairAt_17 : decode cX2_pairAt 17 = .ok (.goto (-13), 3) := by decide +kernel
theorem dX2_pairAt_20 : decode cX2_pairAt 20 = .ok (.iload_n 2, 1) := by decide +kernel
theorem dX2_pairAt_21 : decode cX2_pairAt 21 = .ok (.bipush 100, 2) := by decide +kernel
theorem dX2_pairAt_23 : decode cX2_pairAt 23 = .ok (.irem, 1) := by decide +kernel
theorem dX2_pairAt_24 : decode cX2_pairAt 24 = .ok (.ireturn, 1) := by decide +kernel
set_option maxRecDepth 20000 in
theorem ggX2_canBe_X3_isTurn : GoodIn wsX2_canBe wsX3_isTurn := goodIn_r _ [5, 6, 7, 8, 4, 9, 10, 54, 55, 56, 57, 58, 59, 60, 61, 62, 63, 64] (by decide +kernel) (by decide +kernel)
set_option maxRecDepth 20000 in
theorem gX2_canBe_X3_isTurn : GoodIn wsX2_canBe (wsV RX2 23 RX3 yX3_isTurn wsX3_isTurn) := goodIn_app (goodIn_of _ (by decide +kernel)) ggX2_canBe_X3_isTurn
set_option maxRecDepth 20000 in
theorem ggX2_canBe_X3_canPick : GoodIn wsX2_canBe wsX3_canPick := goodIn_r _ [14, 15, 16, 17, 4, 18, 19, 20, 21, 22, 23, 24, 25, 26, 27, 28, 29, 30, 31, 32, 33, 34, 35, 36, 37, 54, 55, 56, 57, 58, 59, 60, 61, 62, 63, 64] (by decide +kernel) (by decide +kernel)
set_option maxRecDepth 20000 in
theorem gX2_canBe_X3_canPick : GoodIn wsX2_canBe (wsV RX2 29 RX3 yX3_canPick wsX3_canPick) := goodIn_app (goodIn_of _ (by decide +kernel)) ggX2_canBe_X3_canPick
set_option maxRecDepth 20000 in
theorem ggX2_canBe_X3_isPerson : GoodIn wsX2_canBe wsX3_isPerson := goodIn_r _ [9, 10, 54, 55, 56, 57, 58, 59, 60, 61, 62, 63, 64] (by decide +kernel) (by decide +kernel)
set_option maxRecDepth 20000 in
theorem gX2_canBe_X3_isPerson : GoodIn wsX2_canBe (wsV RX2 33 RX3 yX3_isPerson wsX3_isPerson) := goodIn_app (goodIn_of _ (by decide +kernel)) ggX2_canBe_X3_isPerson
set_option maxRecDepth 20000 in
theorem ggX2_canBe_X7_holderOf : GoodIn wsX2_canBe wsX7_holderOf := goodIn_r _ [41] (by decide +kernel) (by decide +kernel)
set_option maxRecDepth 20000 in
theorem gX2_canBe_X7_holderOf : GoodIn wsX2_canBe (va_wsS RX2 36 yX7_holderOf wsX7_holderOf) := goodIn_app (goodIn_of _ (by decide +kernel)) ggX2_canBe_X7_holderOf
set_option maxRecDepth 20000 in
theorem ggX2_canBe_X3_isClean : GoodIn wsX2_canBe wsX3_isClean := goodIn_r _ [45, 46, 47, 48, 4, 49, 19, 29, 30, 31, 32, 50, 51, 52, 53, 25, 26, 27, 28, 33, 34, 35, 36, 37, 54, 55, 56, 57, 58, 59, 60, 61, 62, 63, 64] (by decide +kernel) (by decide +kernel)
set_option maxRecDepth 20000 in
theorem gX2_canBe_X3_isClean : GoodIn wsX2_canBe (wsV RX2 42 RX3 yX3_isClean wsX3_isClean) := goodIn_app (goodIn_of _ (by decide +kernel)) ggX2_canBe_X3_isClean
theorem dX2_canBe_0 : decode cX2_canBe 0 = .ok (.iload_n 3, 1) := by decide +kernel
theorem dX2_canBe_1 : decode cX2_canBe 1 = .ok (.tableswitch 95 0 3 #[31, 38, 46, 70], 31) := by decide +kernel
theorem dX2_canBe_32 : decode cX2_canBe 32 = .ok (.aload_n 0, 1) := by decide +kernel
theorem dX2_canBe_33 : decode cX2_canBe 33 = .ok (.iload 4, 2) := by decide +kernel
theorem dX2_canBe_35 : decode cX2_canBe 35 = .ok (.invokevirtual 23, 3) := by decide +kernel
theorem dX2_canBe_38 : decode cX2_canBe 38 = .ok (.ireturn, 1) := by decide +kernel
theorem dX2_canBe_39 : decode cX2_canBe 39 = .ok (.aload_n 0, 1) := by decide +kernel
theorem dX2_canBe_40 : decode cX2_canBe 40 = .ok (.lload_n 1, 1) := by decide +kernel
theorem dX2_canBe_41 : decode cX2_canBe 41 = .ok (.iload 4, 2) := by decide +kernel
theorem dX2_canBe_43 : decode cX2_canBe 43 = .ok (.invokevirtual 29, 3) := by decide +kernel
theorem dX2_canBe_46 : decode cX2_canBe 46 = .ok (.ireturn, 1) := by decide +kernel
theorem dX2_canBe_47 : decode cX2_canBe 47 = .ok (.aload_n 0, 1) := by decide +kernel
theorem dX2_canBe_48 : decode cX2_canBe 48 = .ok (.iload 4, 2) := by decide +kernel
theorem dX2_canBe_50 : decode cX2_canBe 50 = .ok (.invokevirtual 33, 3) := by decide +kernel
theorem dX2_canBe_53 : decode cX2_canBe 53 = .ok (.ifCond .eq 16, 3) := by decide +kernel
theorem dX2_canBe_56 : decode cX2_canBe 56 = .ok (.lload_n 1, 1) := by decide +kernel
theorem dX2_canBe_57 : decode cX2_canBe 57 = .ok (.invokestatic 36, 3) := by decide +kernel
theorem dX2_canBe_60 : decode cX2_canBe 60 = .ok (.iload 4, 2) := by decide +kernel
theorem dX2_canBe_62 : decode cX2_canBe 62 = .ok (.if_icmp .eq 7, 3) := by decide +kernel
theorem dX2_canBe_65 : decode cX2_canBe 65 = .ok (.iconst 1, 1) := by decide +kernel
theorem dX2_canBe_66 : decode cX2_canBe 66 = .ok (.goto 4, 3) := by decide +kernel
theorem dX2_canBe_69 : decode cX2_canBe 69 = .ok (.iconst 0, 1) := by decide +kernel
theorem dX2_canBe_70 : decode cX2_canBe 70 = .ok (.ireturn, 1) := by decide +kernel
theorem dX2_canBe_71 : decode cX2_canBe 71 = .ok (.aload_n 0, 1) := by decide +kernel
theorem dX2_canBe_72 : decode cX2_canBe 72 = .ok (.iload 4, 2) := by decide +kernel
theorem dX2_canBe_74 : decode cX2_canBe 74 = .ok (.invokevirtual 33, 3) := by decide +kernel
theorem dX2_canBe_77 : decode cX2_canBe 77 = .ok (.ifCond .eq 17, 3) := by decide +kernel
theorem dX2_canBe_80 : decode cX2_canBe 80 = .ok (.aload_n 0, 1) := by decide +kernel
theorem dX2_canBe_81 : decode cX2_canBe 81 = .ok (.lload_n 1, 1) := by decide +kernel
theorem dX2_canBe_82 : decode cX2_canBe 82 = .ok (.iload 4, 2) := by decide +kernel
theorem dX2_canBe_84 : decode cX2_canBe 84 = .ok (.invokevirtual 42, 3) := by decide +kernel
theorem dX2_canBe_87 : decode cX2_canBe 87 = .ok (.ifCond .eq 7, 3) := by decide +kernel
theorem dX2_canBe_90 : decode cX2_canBe 90 = .ok (.iconst 1, 1) := by decide +kernel
theorem dX2_canBe_91 : decode cX2_canBe 91 = .ok (.goto 4, 3) := by decide +kernel
theorem dX2_canBe_94 : decode cX2_canBe 94 = .ok (.iconst 0, 1) := by decide +kernel
theorem dX2_canBe_95 : decode cX2_canBe 95 = .ok (.ireturn, 1) := by decide +kernel
theorem dX2_canBe_96 : decode cX2_canBe 96 = .ok (.iconst 0, 1) := by decide +kernel
theorem dX2_canBe_97 : decode cX2_canBe 97 = .ok (.ireturn, 1) := by decide +kernel
set_option maxRecDepth 20000 in
theorem ggX2_behind_X3_turned : GoodIn wsX2_behind wsX3_turned := goodIn_r _ [5, 6, 7, 8, 9, 10, 11, 12, 13, 4, 14, 15, 16, 17, 18, 19, 20, 21, 22, 23, 24, 25, 26, 27, 28, 29, 30, 31, 32, 33, 34, 35, 36, 37, 38, 39, 40, 41, 42, 43, 44, 45, 46, 47, 48, 49, 50, 51, 52, 53, 54, 55, 56, 57, 58, 59, 60, 61, 62, 63, 64, 65, 66, 67, 68, 69, 70, 71, 72, 73, 74, 75, 76, 77, 78, 87, 88, 89, 90, 91, 92, 93, 94, 95, 96, 97] (by decide +kernel) (by decide +kernel)
set_option maxRecDepth 20000 in
theorem gX2_behind_X3_turned : GoodIn wsX2_behind (wsV RX2 45 RX3 yX3_turned wsX3_turned) := goodIn_app (goodIn_of _ (by decide +kernel)) ggX2_behind_X3_turned
set_option maxRecDepth 20000 in
theorem ggX2_behind_X3_picked : GoodIn wsX2_behind wsX3_picked := goodIn_r _ [82, 48, 49, 50, 4, 51, 52, 74, 75, 8, 76, 77, 78, 87, 88, 89, 90, 91, 92, 93, 94, 95, 96, 97] (by decide +kernel) (by decide +kernel)
set_option maxRecDepth 20000 in
theorem gX2_behind_X3_picked : GoodIn wsX2_behind (wsV RX2 49 RX3 yX3_picked wsX3_picked) := goodIn_app (goodIn_of _ (by decide +kernel)) ggX2_behind_X3_picked
set_option maxRecDepth 20000 in
theorem ggX2_behind_X7_withHolder : GoodIn wsX2_behind wsX7_withHolder := goodIn_r _ [85, 86] (by decide +kernel) (by decide +kernel)
set_option maxRecDepth 20000 in
theorem gX2_behind_X7_withHolder : GoodIn wsX2_behind (va_wsS RX2 52 yX7_withHolder wsX7_withHolder) := goodIn_app (goodIn_of _ (by decide +kernel)) ggX2_behind_X7_withHolder
theorem dX2_behind_0 : decode cX2_behind 0 = .ok (.iload_n 3, 1) := by decide +kernel
theorem dX2_behind_1 : decode cX2_behind 1 = .ok (.tableswitch 50 0 2 #[27, 35, 43], 27) := by decide +kernel
theorem dX2_behind_28 : decode cX2_behind 28 = .ok (.aload_n 0, 1) := by decide +kernel
theorem dX2_behind_29 : decode cX2_behind 29 = .ok (.lload_n 1, 1) := by decide +kernel
theorem dX2_behind_30 : decode cX2_behind 30 = .ok (.iload 4, 2) := by decide +kernel
theorem dX2_behind_32 : decode cX2_behind 32 = .ok (.invokevirtual 45, 3) := by decide +kernel
theorem dX2_behind_35 : decode cX2_behind 35 = .ok (.lreturn, 1) := by decide +kernel
theorem dX2_behind_36 : decode cX2_behind 36 = .ok (.aload_n 0, 1) := by decide +kernel
theorem dX2_behind_37 : decode cX2_behind 37 = .ok (.lload_n 1, 1) := by decide +kernel
theorem dX2_behind_38 : decode cX2_behind 38 = .ok (.iload 4, 2) := by decide +kernel
theorem dX2_behind_40 : decode cX2_behind 40 = .ok (.invokevirtual 49, 3) := by decide +kernel
theorem dX2_behind_43 : decode cX2_behind 43 = .ok (.lreturn, 1) := by decide +kernel
theorem dX2_behind_44 : decode cX2_behind 44 = .ok (.lload_n 1, 1) := by decide +kernel
theorem dX2_behind_45 : decode cX2_behind 45 = .ok (.iload 4, 2) := by decide +kernel
theorem dX2_behind_47 : decode cX2_behind 47 = .ok (.invokestatic 52, 3) := by decide +kernel
theorem dX2_behind_50 : decode cX2_behind 50 = .ok (.lreturn, 1) := by decide +kernel
theorem dX2_behind_51 : decode cX2_behind 51 = .ok (.lload_n 1, 1) := by decide +kernel
theorem dX2_behind_52 : decode cX2_behind 52 = .ok (.lreturn, 1) := by decide +kernel
theorem dX3_init_0 : decode cX3_init 0 = .ok (.aload_n 0, 1) := by decide +kernel
theorem dX3_init_1 : decode cX3_init 1 = .ok (.invokespecial 3, 3) := by decide +kernel
theorem dX3_init_4 : decode cX3_init 4 = .ok (.aload_n 0, 1) := by decide +kernel
theorem dX3_init_5 : decode cX3_init 5 = .ok (.iconst 4, 1) := by decide +kernel
theorem dX3_init_6 : decode cX3_init 6 = .ok (.newarray .int, 2) := by decide +kernel
theorem dX3_init_8 : decode cX3_init 8 = .ok (.putfield 9, 3) := by decide +kernel
theorem dX3_init_11 : decode cX3_init 11 = .ok (.aload_n 0, 1) := by decide +kernel
theorem dX3_init_12 : decode cX3_init 12 = .ok (.bipush 6, 2) := by decide +kernel
theorem dX3_init_14 : decode cX3_init 14 = .ok (.newarray .int, 2) := by decide +kernel
theorem dX3_init_16 : decode cX3_init 16 = .ok (.putfield 15, 3) := by decide +kernel
theorem dX3_init_19 : decode cX3_init 19 = .ok (.aload_n 0, 1) := by decide +kernel
theorem dX3_init_20 : decode cX3_init 20 = .ok (.bipush 7, 2) := by decide +kernel
theorem dX3_init_22 : decode cX3_init 22 = .ok (.newarray .int, 2) := by decide +kernel
theorem dX3_init_24 : decode cX3_init 24 = .ok (.putfield 18, 3) := by decide +kernel
theorem dX3_init_27 : decode cX3_init 27 = .ok (.aload_n 0, 1) := by decide +kernel
theorem dX3_init_28 : decode cX3_init 28 = .ok (.bipush 7, 2) := by decide +kernel
theorem dX3_init_30 : decode cX3_init 30 = .ok (.newarray .int, 2) := by decide +kernel
theorem dX3_init_32 : decode cX3_init 32 = .ok (.putfield 21, 3) := by decide +kernel
theorem dX3_init_35 : decode cX3_init 35 = .ok (.aload_n 0, 1) := by decide +kernel
theorem dX3_init_36 : decode cX3_init 36 = .ok (.bipush 7, 2) := by decide +kernel
theorem dX3_init_38 : decode cX3_init 38 = .ok (.newarray .int, 2) := by decide +kernel
theorem dX3_init_40 : decode cX3_init 40 = .ok (.putfield 24, 3) := by decide +kernel
theorem dX3_init_43 : decode cX3_init 43 = .ok (.aload_n 0, 1) := by decide +kernel
theorem dX3_init_44 : decode cX3_init 44 = .ok (.bipush 7, 2) := by decide +kernel
theorem dX3_init_46 : decode cX3_init 46 = .ok (.newarray .int, 2) := by decide +kernel
theorem dX3_init_48 : decode cX3_init 48 = .ok (.putfield 27, 3) := by decide +kernel
theorem dX3_init_51 : decode cX3_init 51 = .ok (.return_, 1) := by decide +kernel
set_option maxRecDepth 20000 in
theorem ggX3_read_X3_takes : GoodIn wsX3_read wsX3_takes := goodIn_r _ [10, 4, 11, 12, 13, 9, 14, 5, 1, 2, 3, 15, 16, 17, 18, 19, 20, 21, 22, 23, 24, 25, 26, 27, 28, 29, 30, 31, 32, 33, 34, 35, 36, 37, 38, 39, 40, 41, 42, 43, 44, 45, 46, 47, 48, 49, 50, 51] (by decide +kernel) (by decide +kernel)
set_option maxRecDepth 20000 in
theorem gX3_read_X3_takes : GoodIn wsX3_read (wsV RX3 46 RX3 yX3_takes wsX3_takes) := goodIn_app (goodIn_of _ (by decide +kernel)) ggX3_read_X3_takes
theorem dX3_read_0 : decode cX3_read 0 = .ok (.aload_n 0, 1) := by decide +kernel
theorem dX3_read_1 : decode cX3_read 1 = .ok (.iconst 0, 1) := by decide +kernel
theorem dX3_read_2 : decode cX3_read 2 = .ok (.putfield 30, 3) := by decide +kernel
theorem dX3_read_5 : decode cX3_read 5 = .ok (.aload_n 0, 1) := by decide +kernel
theorem dX3_read_6 : decode cX3_read 6 = .ok (.iconst 0, 1) := by decide +kernel
theorem dX3_read_7 : decode cX3_read 7 = .ok (.putfield 34, 3) := by decide +kernel
theorem dX3_read_10 : decode cX3_read 10 = .ok (.aload_n 0, 1) := by decide +kernel
theorem dX3_read_11 : decode cX3_read 11 = .ok (.iconst 0, 1) := by decide +kernel
theorem dX3_read_12 : decode cX3_read 12 = .ok (.putfield 37, 3) := by decide +kernel
theorem dX3_read_15 : decode cX3_read 15 = .ok (.aload_n 0, 1) := by decide +kernel
theorem dX3_read_16 : decode cX3_read 16 = .ok (.iconst 0, 1) := by decide +kernel
theorem dX3_read_17 : decode cX3_read 17 = .ok (.putfield 40, 3) := by decide +kernel
theorem dX3_read_20 : decode cX3_read 20 = .ok (.aload_n 0, 1) := by decide +kernel
theorem dX3_read_21 : decode cX3_read 21 = .ok (.iconst 0, 1) := by decide +kernel
theorem dX3_read_22 : decode cX3_read 22 = .ok (.putfield 43, 3) := by decide +kernel
theorem dX3_read_25 : decode cX3_read 25 = .ok (.iconst 0, 1) := by decide +kernel
theorem dX3_read_26 : decode cX3_read 26 = .ok (.istore_n 3, 1) := by decide +kernel
theorem dX3_read_27 : decode cX3_read 27 = .ok (.iload_n 3, 1) := by decide +kernel
theorem dX3_read_28 : decode cX3_read 28 = .ok (.iload_n 2, 1) := by decide +kernel
theorem dX3_read_29 : decode cX3_read 29 = .ok (.if_icmp .ge 27, 3) := by decide +kernel
theorem dX3_read_32 : decode cX3_read 32 = .ok (.iload_n 3, 1) := by decide +kernel
theorem dX3_read_33 : decode cX3_read 33 = .ok (.aload_n 1, 1) := by decide +kernel
theorem dX3_read_34 : decode cX3_read 34 = .ok (.arraylength, 1) := by decide +kernel
theorem dX3_read_35 : decode cX3_read 35 = .ok (.if_icmp .ge 21, 3) := by decide +kernel
theorem dX3_read_38 : decode cX3_read 38 = .ok (.aload_n 0, 1) := by decide +kernel
theorem dX3_read_39 : decode cX3_read 39 = .ok (.aload_n 1, 1) := by decide +kernel
theorem dX3_read_40 : decode cX3_read 40 = .ok (.iload_n 3, 1) := by decide +kernel
theorem dX3_read_41 : decode cX3_read 41 = .ok (.iaload, 1) := by decide +kernel
theorem dX3_read_42 : decode cX3_read 42 = .ok (.invokevirtual 46, 3) := by decide +kernel
theorem dX3_read_45 : decode cX3_read 45 = .ok (.ifCond .ne 5, 3) := by decide +kernel
theorem dX3_read_48 : decode cX3_read 48 = .ok (.iload_n 3, 1) := by decide +kernel
theorem dX3_read_49 : decode cX3_read 49 = .ok (.ireturn, 1) := by decide +kernel
theorem dX3_read_50 : decode cX3_read 50 = .ok (.iinc 3 1, 3) := by decide +kernel
theorem dX3_read_53 : decode cX3_read 53 = .ok (.goto (-26), 3) := by decide +kernel
theorem dX3_read_56 : decode cX3_read 56 = .ok (.aload_n 0, 1) := by decide +kernel
theorem dX3_read_57 : decode cX3_read 57 = .ok (.getfield 40, 3) := by decide +kernel
theorem dX3_read_60 : decode cX3_read 60 = .ok (.bipush 87, 2) := by decide +kernel
theorem dX3_read_62 : decode cX3_read 62 = .ok (.if_icmp .ne 8, 3) := by decide +kernel
theorem dX3_read_65 : decode cX3_read 65 = .ok (.bipush (-9), 2) := by decide +kernel
theorem dX3_read_67 : decode cX3_read 67 = .ok (.goto 4, 3) := by decide +kernel
theorem dX3_read_70 : decode cX3_read 70 = .ok (.iload_n 2, 1) := by decide +kernel
theorem dX3_read_71 : decode cX3_read 71 = .ok (.ireturn, 1) := by decide +kernel
set_option maxRecDepth 20000 in
theorem ggX3_takes_X3_begins : GoodIn wsX3_takes wsX3_begins := goodIn_r _ [6, 1, 7, 8, 9, 10, 37, 38, 39, 40, 41, 42, 43, 44, 45, 46, 47] (by decide +kernel) (by decide +kernel)
set_option maxRecDepth 20000 in
theorem gX3_takes_X3_begins : GoodIn wsX3_takes (wsV RX3 50 RX3 yX3_begins wsX3_begins) := goodIn_app (goodIn_of _ (by decide +kernel)) ggX3_takes_X3_begins
set_option maxRecDepth 20000 in
theorem ggX3_takes_X3_tellsPerson : GoodIn wsX3_takes wsX3_tellsPerson := goodIn_r _ [14, 8, 15, 1, 37, 38, 39, 40, 41, 42, 43, 44, 45, 46, 47] (by decide +kernel) (by decide +kernel)
set_option maxRecDepth 20000 in
theorem gX3_takes_X3_tellsPerson : GoodIn wsX3_takes (wsV RX3 53 RX3 yX3_tellsPerson wsX3_tellsPerson) := goodIn_app (goodIn_of _ (by decide +kernel)) ggX3_takes_X3_tellsPerson
set_option maxRecDepth 20000 in
theorem ggX3_takes_X3_tellsHour : GoodIn wsX3_takes wsX3_tellsHour := goodIn_r _ [19, 9, 20, 1, 37, 38, 39, 40, 41, 42, 43, 44, 45, 46, 47] (by decide +kernel) (by decide +kernel)
set_option maxRecDepth 20000 in
theorem gX3_takes_X3_tellsHour : GoodIn wsX3_takes (wsV RX3 56 RX3 yX3_tellsHour wsX3_tellsHour) := goodIn_app (goodIn_of _ (by decide +kernel)) ggX3_takes_X3_tellsHour
set_option maxRecDepth 20000 in
theorem ggX3_takes_X3_tellsGrain : GoodIn wsX3_takes wsX3_tellsGrain := goodIn_r _ [24, 7, 25, 26, 27, 28, 10, 1, 29, 30, 31, 5, 32, 33, 34, 35, 36, 8, 37, 38, 39, 40, 41, 42, 43, 44, 45, 46, 47] (by decide +kernel) (by decide +kernel)
set_option maxRecDepth 20000 in
theorem gX3_takes_X3_tellsGrain : GoodIn wsX3_takes (wsV RX3 59 RX3 yX3_tellsGrain wsX3_tellsGrain) := goodIn_app (goodIn_of _ (by decide +kernel)) ggX3_takes_X3_tellsGrain
theorem dX3_takes_0 : decode cX3_takes 0 = .ok (.iload_n 1, 1) := by decide +kernel
theorem dX3_takes_1 : decode cX3_takes 1 = .ok (.bipush 48, 2) := by decide +kernel
theorem dX3_takes_3 : decode cX3_takes 3 = .ok (.isub, 1) := by decide +kernel
theorem dX3_takes_4 : decode cX3_takes 4 = .ok (.istore_n 2, 1) := by decide +kernel
theorem dX3_takes_5 : decode cX3_takes 5 = .ok (.aload_n 0, 1) := by decide +kernel
theorem dX3_takes_6 : decode cX3_takes 6 = .ok (.getfield 40, 3) := by decide +kernel
theorem dX3_takes_9 : decode cX3_takes 9 = .ok (.lookupswitch 67 #[(71, 61), (72, 55), (80, 49), (87, 43)], 43) := by decide +kernel
theorem dX3_takes_52 : decode cX3_takes 52 = .ok (.aload_n 0, 1) := by decide +kernel
theorem dX3_takes_53 : decode cX3_takes 53 = .ok (.iload_n 1, 1) := by decide +kernel
theorem dX3_takes_54 : decode cX3_takes 54 = .ok (.invokevirtual 50, 3) := by decide +kernel
theorem dX3_takes_57 : decode cX3_takes 57 = .ok (.ireturn, 1) := by decide +kernel
theorem dX3_takes_58 : decode cX3_takes 58 = .ok (.aload_n 0, 1) := by decide +kernel
theorem dX3_takes_59 : decode cX3_takes 59 = .ok (.iload_n 2, 1) := by decide +kernel
theorem dX3_takes_60 : decode cX3_takes 60 = .ok (.invokevirtual 53, 3) := by decide +kernel
theorem dX3_takes_63 : decode cX3_takes 63 = .ok (.ireturn, 1) := by decide +kernel
theorem dX3_takes_64 : decode cX3_takes 64 = .ok (.aload_n 0, 1) := by decide +kernel
theorem dX3_takes_65 : decode cX3_takes 65 = .ok (.iload_n 2, 1) := by decide +kernel
theorem dX3_takes_66 : decode cX3_takes 66 = .ok (.invokevirtual 56, 3) := by decide +kernel
theorem dX3_takes_69 : decode cX3_takes 69 = .ok (.ireturn, 1) := by decide +kernel
theorem dX3_takes_70 : decode cX3_takes 70 = .ok (.aload_n 0, 1) := by decide +kernel
theorem dX3_takes_71 : decode cX3_takes 71 = .ok (.iload_n 2, 1) := by decide +kernel
theorem dX3_takes_72 : decode cX3_takes 72 = .ok (.invokevirtual 59, 3) := by decide +kernel
theorem dX3_takes_75 : decode cX3_takes 75 = .ok (.ireturn, 1) := by decide +kernel
theorem dX3_takes_76 : decode cX3_takes 76 = .ok (.aload_n 0, 1) := by decide +kernel
theorem dX3_takes_77 : decode cX3_takes 77 = .ok (.bipush 87, 2) := by decide +kernel
theorem dX3_takes_79 : decode cX3_takes 79 = .ok (.putfield 40, 3) := by decide +kernel
theorem dX3_takes_82 : decode cX3_takes 82 = .ok (.iload_n 1, 1) := by decide +kernel
theorem dX3_takes_83 : decode cX3_takes 83 = .ok (.bipush 87, 2) := by decide +kernel
theorem dX3_takes_85 : decode cX3_takes 85 = .ok (.if_icmp .ne 7, 3) := by decide +kernel
theorem dX3_takes_88 : decode cX3_takes 88 = .ok (.iconst 1, 1) := by decide +kernel
theorem dX3_takes_89 : decode cX3_takes 89 = .ok (.goto 4, 3) := by decide +kernel
theorem dX3_takes_92 : decode cX3_takes 92 = .ok (.iconst 0, 1) := by decide +kernel
theorem dX3_takes_93 : decode cX3_takes 93 = .ok (.ireturn, 1) := by decide +kernel
theorem dX3_begins_0 : decode cX3_begins 0 = .ok (.aload_n 0, 1) := by decide +kernel
theorem dX3_begins_1 : decode cX3_begins 1 = .ok (.iload_n 1, 1) := by decide +kernel
theorem dX3_begins_2 : decode cX3_begins 2 = .ok (.putfield 40, 3) := by decide +kernel
theorem dX3_begins_5 : decode cX3_begins 5 = .ok (.aload_n 0, 1) := by decide +kernel
theorem dX3_begins_6 : decode cX3_begins 6 = .ok (.iconst 0, 1) := by decide +kernel
theorem dX3_begins_7 : decode cX3_begins 7 = .ok (.putfield 43, 3) := by decide +kernel
theorem dX3_begins_10 : decode cX3_begins 10 = .ok (.iload_n 1, 1) := by decide +kernel
theorem dX3_begins_11 : decode cX3_begins 11 = .ok (.lookupswitch 84 #[(71, 62), (72, 47), (80, 33)], 33) := by decide +kernel
theorem dX3_begins_44 : decode cX3_begins 44 = .ok (.aload_n 0, 1) := by decide +kernel
theorem dX3_begins_45 : decode cX3_begins 45 = .ok (.getfield 30, 3) := by decide +kernel
theorem dX3_begins_48 : decode cX3_begins 48 = .ok (.iconst 4, 1) := by decide +kernel
theorem dX3_begins_49 : decode cX3_begins 49 = .ok (.if_icmp .ge 7, 3) := by decide +kernel
theorem dX3_begins_52 : decode cX3_begins 52 = .ok (.iconst 1, 1) := by decide +kernel
theorem dX3_begins_53 : decode cX3_begins 53 = .ok (.goto 4, 3) := by decide +kernel
theorem dX3_begins_56 : decode cX3_begins 56 = .ok (.iconst 0, 1) := by decide +kernel
theorem dX3_begins_57 : decode cX3_begins 57 = .ok (.ireturn, 1) := by decide +kernel
theorem dX3_begins_58 : decode cX3_begins 58 = .ok (.aload_n 0, 1) := by decide +kernel
theorem dX3_begins_59 : decode cX3_begins 59 = .ok (.getfield 34, 3) := by decide +kernel
theorem dX3_begins_62 : decode cX3_begins 62 = .ok (.bipush 6, 2) := by decide +kernel
theorem dX3_begins_64 : decode cX3_begins 64 = .ok (.if_icmp .ge 7, 3) := by decide +kernel
theorem dX3_begins_67 : decode cX3_begins 67 = .ok (.iconst 1, 1) := by decide +kernel
theorem dX3_begins_68 : decode cX3_begins 68 = .ok (.goto 4, 3) := by decide +kernel
theorem dX3_begins_71 : decode cX3_begins 71 = .ok (.iconst 0, 1) := by decide +kernel
theorem dX3_begins_72 : decode cX3_begins 72 = .ok (.ireturn, 1) := by decide +kernel
theorem dX3_begins_73 : decode cX3_begins 73 = .ok (.aload_n 0, 1) := by decide +kernel
theorem dX3_begins_74 : decode cX3_begins 74 = .ok (.getfield 37, 3) := by decide +kernel
theorem dX3_begins_77 : decode cX3_begins 77 = .ok (.bipush 7, 2) := by decide +kernel
theorem dX3_begins_79 : decode cX3_begins 79 = .ok (.if_icmp .ge 14, 3) := by decide +kernel
theorem dX3_begins_82 : decode cX3_begins 82 = .ok (.aload_n 0, 1) := by decide +kernel
theorem dX3_begins_83 : decode cX3_begins 83 = .ok (.getfield 30, 3) := by decide +kernel
theorem dX3_begins_86 : decode cX3_begins 86 = .ok (.ifCond .le 7, 3) := by decide +kernel
theorem dX3_begins_89 : decode cX3_begins 89 = .ok (.iconst 1, 1) := by decide +kernel
theorem dX3_begins_90 : decode cX3_begins 90 = .ok (.goto 4, 3) := by decide +kernel
theorem dX3_begins_93 : decode cX3_begins 93 = .ok (.iconst 0, 1) := by decide +kernel
theorem dX3_begins_94 : decode cX3_begins 94 = .ok (.ireturn, 1) := by decide +kernel
theorem dX3_begins_95 : decode cX3_begins 95 = .ok (.iconst 0, 1) := by decide +kernel
theorem dX3_begins_96 : decode cX3_begins 96 = .ok (.ireturn, 1) := by decide +kernel
theorem dX3_tellsPerson_0 : decode cX3_tellsPerson 0 = .ok (.iload_n 1, 1) := by decide +kernel
theorem dX3_tellsPerson_1 : decode cX3_tellsPerson 1 = .ok (.ifCond .lt 27, 3) := by decide +kernel
theorem dX3_tellsPerson_4 : decode cX3_tellsPerson 4 = .ok (.iload_n 1, 1) := by decide +kernel
theorem dX3_tellsPerson_5 : decode cX3_tellsPerson 5 = .ok (.iconst 3, 1) := by decide +kernel
theorem dX3_tellsPerson_6 : decode cX3_tellsPerson 6 = .ok (.if_icmp .gt 22, 3) := by decide +kernel
theorem dX3_tellsPerson_9 : decode cX3_tellsPerson 9 = .ok (.aload_n 0, 1) := by decide +kernel
theorem dX3_tellsPerson_10 : decode cX3_tellsPerson 10 = .ok (.getfield 30, 3) := by decide +kernel
theorem dX3_tellsPerson_13 : decode cX3_tellsPerson 13 = .ok (.ifCond .lt 15, 3) := by decide +kernel
theorem dX3_tellsPerson_16 : decode cX3_tellsPerson 16 = .ok (.aload_n 0, 1) := by decide +kernel
theorem dX3_tellsPerson_17 : decode cX3_tellsPerson 17 = .ok (.getfield 30, 3) := by decide +kernel
theorem dX3_tellsPerson_20 : decode cX3_tellsPerson 20 = .ok (.aload_n 0, 1) := by decide +kernel
theorem dX3_tellsPerson_21 : decode cX3_tellsPerson 21 = .ok (.getfield 9, 3) := by decide +kernel
theorem dX3_tellsPerson_24 : decode cX3_tellsPerson 24 = .ok (.arraylength, 1) := by decide +kernel
theorem dX3_tellsPerson_25 : decode cX3_tellsPerson 25 = .ok (.if_icmp .lt 5, 3) := by decide +kernel
theorem dX3_tellsPerson_28 : decode cX3_tellsPerson 28 = .ok (.iconst 0, 1) := by decide +kernel
theorem dX3_tellsPerson_29 : decode cX3_tellsPerson 29 = .ok (.ireturn, 1) := by decide +kernel
theorem dX3_tellsPerson_30 : decode cX3_tellsPerson 30 = .ok (.aload_n 0, 1) := by decide +kernel
theorem dX3_tellsPerson_31 : decode cX3_tellsPerson 31 = .ok (.getfield 9, 3) := by decide +kernel
theorem dX3_tellsPerson_34 : decode cX3_tellsPerson 34 = .ok (.aload_n 0, 1) := by decide +kernel
theorem dX3_tellsPerson_35 : decode cX3_tellsPerson 35 = .ok (.getfield 30, 3) := by decide +kernel
theorem dX3_tellsPerson_38 : decode cX3_tellsPerson 38 = .ok (.iload_n 1, 1) := by decide +kernel
theorem dX3_tellsPerson_39 : decode cX3_tellsPerson 39 = .ok (.iastore, 1) := by decide +kernel
theorem dX3_tellsPerson_40 : decode cX3_tellsPerson 40 = .ok (.aload_n 0, 1) := by decide +kernel
theorem dX3_tellsPerson_41 : decode cX3_tellsPerson 41 = .ok (.dup, 1) := by decide +kernel
theorem dX3_tellsPerson_42 : decode cX3_tellsPerson 42 = .ok (.getfield 30, 3) := by decide +kernel
theorem dX3_tellsPerson_45 : decode cX3_tellsPerson 45 = .ok (.iconst 1, 1) := by decide +kernel
theorem dX3_tellsPerson_46 : decode cX3_tellsPerson 46 = .ok (.iadd, 1) := by decide +kernel
theorem dX3_tellsPerson_47 : decode cX3_tellsPerson 47 = .ok (.putfield 30, 3) := by decide +kernel
theorem dX3_tellsPerson_50 : decode cX3_tellsPerson 50 = .ok (.aload_n 0, 1) := by decide +kernel
theorem dX3_tellsPerson_51 : decode cX3_tellsPerson 51 = .ok (.bipush 87, 2) := by decide +kernel
theorem dX3_tellsPerson_53 : decode cX3_tellsPerson 53 = .ok (.putfield 40, 3) := by decide +kernel
theorem dX3_tellsPerson_56 : decode cX3_tellsPerson 56 = .ok (.iconst 1, 1) := by decide +kernel
theorem dX3_tellsPerson_57 : decode cX3_tellsPerson 57 = .ok (.ireturn, 1) := by decide +kernel
theorem dX3_tellsHour_0 : decode cX3_tellsHour 0 = .ok (.iload_n 1, 1) := by decide +kernel
theorem dX3_tellsHour_1 : decode cX3_tellsHour 1 = .ok (.ifCond .lt 28, 3) := by decide +kernel
theorem dX3_tellsHour_4 : decode cX3_tellsHour 4 = .ok (.iload_n 1, 1) := by decide +kernel
theorem dX3_tellsHour_5 : decode cX3_tellsHour 5 = .ok (.bipush 9, 2) := by decide +kernel
theorem dX3_tellsHour_7 : decode cX3_tellsHour 7 = .ok (.if_icmp .gt 22, 3) := by decide +kernel
theorem dX3_tellsHour_10 : decode cX3_tellsHour 10 = .ok (.aload_n 0, 1) := by decide +kernel
theorem dX3_tellsHour_11 : decode cX3_tellsHour 11 = .ok (.getfield 34, 3) := by decide +kernel
theorem dX3_tellsHour_14 : decode cX3_tellsHour 14 = .ok (.ifCond .lt 15, 3) := by decide +kernel
theorem dX3_tellsHour_17 : decode cX3_tellsHour 17 = .ok (.aload_n 0, 1) := by decide +kernel
theorem dX3_tellsHour_18 : decode cX3_tellsHour 18 = .ok (.getfield 34, 3) := by decide +kernel
theorem dX3_tellsHour_21 : decode cX3_tellsHour 21 = .ok (.aload_n 0, 1) := by decide +kernel
theorem dX3_tellsHour_22 : decode cX3_tellsHour 22 = .ok (.getfield 15, 3) := by decide +kernel
theorem dX3_tellsHour_25 : decode cX3_tellsHour 25 = .ok (.arraylength, 1) := by decide +kernel
theorem dX3_tellsHour_26 : decode cX3_tellsHour 26 = .ok (.if_icmp .lt 5, 3) := by decide +kernel
theorem dX3_tellsHour_29 : decode cX3_tellsHour 29 = .ok (.iconst 0, 1) := by decide +kernel
theorem dX3_tellsHour_30 : decode cX3_tellsHour 30 = .ok (.ireturn, 1) := by decide +kernel
theorem dX3_tellsHour_31 : decode cX3_tellsHour 31 = .ok (.aload_n 0, 1) := by decide +kernel
theorem dX3_tellsHour_32 : decode cX3_tellsHour 32 = .ok (.getfield 15, 3) := by decide +kernel
theorem dX3_tellsHour_35 : decode cX3_tellsHour 35 = .ok (.aload_n 0, 1) := by decide +kernel
theorem dX3_tellsHour_36 : decode cX3_tellsHour 36 = .ok (.getfield 34, 3) := by decide +kernel
theorem dX3_tellsHour_39 : decode cX3_tellsHour 39 = .ok (.iload_n 1, 1) := by decide +kernel
theorem dX3_tellsHour_40 : decode cX3_tellsHour 40 = .ok (.iastore, 1) := by decide +kernel
theorem dX3_tellsHour_41 : decode cX3_tellsHour 41 = .ok (.aload_n 0, 1) := by decide +kernel
theorem dX3_tellsHour_42 : decode cX3_tellsHour 42 = .ok (.dup, 1) := by decide +kernel
theorem dX3_tellsHour_43 : decode cX3_tellsHour 43 = .ok (.getfield 34, 3) := by decide +kernel
theorem dX3_tellsHour_46 : decode cX3_tellsHour 46 = .ok (.iconst 1, 1) := by decide +kernel
theorem dX3_tellsHour_47 : decode cX3_tellsHour 47 = .ok (.iadd, 1) := by decide +kernel
theorem dX3_tellsHour_48 : decode cX3_tellsHour 48 = .ok (.putfield 34, 3) := by decide +kernel
theorem dX3_tellsHour_51 : decode cX3_tellsHour 51 = .ok (.aload_n 0, 1) := by decide +kernel
theorem dX3_tellsHour_52 : decode cX3_tellsHour 52 = .ok (.bipush 87, 2) := by decide +kernel
theorem dX3_tellsHour_54 : decode cX3_tellsHour 54 = .ok (.putfield 40, 3) := by decide +kernel
theorem dX3_tellsHour_57 : decode cX3_tellsHour 57 = .ok (.iconst 1, 1) := by decide +kernel
theorem dX3_tellsHour_58 : decode cX3_tellsHour 58 = .ok (.ireturn, 1) := by decide +kernel
set_option maxRecDepth 20000 in
theorem ggX3_tellsGrain_X3_puts : GoodIn wsX3_tellsGrain wsX3_puts := goodIn_r _ [12, 6, 18, 19, 20, 21, 22, 23, 24, 25, 26, 27, 28] (by decide +kernel) (by decide +kernel)
set_option maxRecDepth 20000 in
theorem gX3_tellsGrain_X3_puts : GoodIn wsX3_tellsGrain (wsV RX3 62 RX3 yX3_puts wsX3_puts) := goodIn_app (goodIn_of _ (by decide +kernel)) ggX3_tellsGrain_X3_puts
set_option maxRecDepth 20000 in
theorem ggX3_tellsGrain_X3_isPerson : GoodIn wsX3_tellsGrain wsX3_isPerson := goodIn_r _ [16, 17, 18, 19, 20, 21, 22, 23, 24, 25, 26, 27, 28] (by decide +kernel) (by decide +kernel)
set_option maxRecDepth 20000 in
theorem gX3_tellsGrain_X3_isPerson : GoodIn wsX3_tellsGrain (wsV RX3 66 RX3 yX3_isPerson wsX3_isPerson) := goodIn_app (goodIn_of _ (by decide +kernel)) ggX3_tellsGrain_X3_isPerson
theorem dX3_tellsGrain_0 : decode cX3_tellsGrain 0 = .ok (.aload_n 0, 1) := by decide +kernel
theorem dX3_tellsGrain_1 : decode cX3_tellsGrain 1 = .ok (.dup, 1) := by decide +kernel
theorem dX3_tellsGrain_2 : decode cX3_tellsGrain 2 = .ok (.getfield 43, 3) := by decide +kernel
theorem dX3_tellsGrain_5 : decode cX3_tellsGrain 5 = .ok (.iconst 1, 1) := by decide +kernel
theorem dX3_tellsGrain_6 : decode cX3_tellsGrain 6 = .ok (.iadd, 1) := by decide +kernel
theorem dX3_tellsGrain_7 : decode cX3_tellsGrain 7 = .ok (.putfield 43, 3) := by decide +kernel
theorem dX3_tellsGrain_10 : decode cX3_tellsGrain 10 = .ok (.aload_n 0, 1) := by decide +kernel
theorem dX3_tellsGrain_11 : decode cX3_tellsGrain 11 = .ok (.getfield 43, 3) := by decide +kernel
theorem dX3_tellsGrain_14 : decode cX3_tellsGrain 14 = .ok (.tableswitch 108 1 3 #[26, 55, 82], 26) := by decide +kernel
theorem dX3_tellsGrain_40 : decode cX3_tellsGrain 40 = .ok (.iload_n 1, 1) := by decide +kernel
theorem dX3_tellsGrain_41 : decode cX3_tellsGrain 41 = .ok (.iconst 1, 1) := by decide +kernel
theorem dX3_tellsGrain_42 : decode cX3_tellsGrain 42 = .ok (.if_icmp .lt 25, 3) := by decide +kernel
theorem dX3_tellsGrain_45 : decode cX3_tellsGrain 45 = .ok (.iload_n 1, 1) := by decide +kernel
theorem dX3_tellsGrain_46 : decode cX3_tellsGrain 46 = .ok (.bipush 9, 2) := by decide +kernel
theorem dX3_tellsGrain_48 : decode cX3_tellsGrain 48 = .ok (.if_icmp .gt 19, 3) := by decide +kernel
theorem dX3_tellsGrain_51 : decode cX3_tellsGrain 51 = .ok (.aload_n 0, 1) := by decide +kernel
theorem dX3_tellsGrain_52 : decode cX3_tellsGrain 52 = .ok (.aload_n 0, 1) := by decide +kernel
theorem dX3_tellsGrain_53 : decode cX3_tellsGrain 53 = .ok (.getfield 18, 3) := by decide +kernel
theorem dX3_tellsGrain_56 : decode cX3_tellsGrain 56 = .ok (.iload_n 1, 1) := by decide +kernel
theorem dX3_tellsGrain_57 : decode cX3_tellsGrain 57 = .ok (.invokevirtual 62, 3) := by decide +kernel
theorem dX3_tellsGrain_60 : decode cX3_tellsGrain 60 = .ok (.ifCond .eq 7, 3) := by decide +kernel
theorem dX3_tellsGrain_63 : decode cX3_tellsGrain 63 = .ok (.iconst 1, 1) := by decide +kernel
theorem dX3_tellsGrain_64 : decode cX3_tellsGrain 64 = .ok (.goto 4, 3) := by decide +kernel
theorem dX3_tellsGrain_67 : decode cX3_tellsGrain 67 = .ok (.iconst 0, 1) := by decide +kernel
theorem dX3_tellsGrain_68 : decode cX3_tellsGrain 68 = .ok (.ireturn, 1) := by decide +kernel
theorem dX3_tellsGrain_69 : decode cX3_tellsGrain 69 = .ok (.iload_n 1, 1) := by decide +kernel
theorem dX3_tellsGrain_70 : decode cX3_tellsGrain 70 = .ok (.ifCond .lt 24, 3) := by decide +kernel
theorem dX3_tellsGrain_73 : decode cX3_tellsGrain 73 = .ok (.iload_n 1, 1) := by decide +kernel
theorem dX3_tellsGrain_74 : decode cX3_tellsGrain 74 = .ok (.iconst 3, 1) := by decide +kernel
theorem dX3_tellsGrain_75 : decode cX3_tellsGrain 75 = .ok (.if_icmp .gt 19, 3) := by decide +kernel
theorem dX3_tellsGrain_78 : decode cX3_tellsGrain 78 = .ok (.aload_n 0, 1) := by decide +kernel
theorem dX3_tellsGrain_79 : decode cX3_tellsGrain 79 = .ok (.aload_n 0, 1) := by decide +kernel
theorem dX3_tellsGrain_80 : decode cX3_tellsGrain 80 = .ok (.getfield 21, 3) := by decide +kernel
theorem dX3_tellsGrain_83 : decode cX3_tellsGrain 83 = .ok (.iload_n 1, 1) := by decide +kernel
theorem dX3_tellsGrain_84 : decode cX3_tellsGrain 84 = .ok (.invokevirtual 62, 3) := by decide +kernel
theorem dX3_tellsGrain_87 : decode cX3_tellsGrain 87 = .ok (.ifCond .eq 7, 3) := by decide +kernel
theorem dX3_tellsGrain_90 : decode cX3_tellsGrain 90 = .ok (.iconst 1, 1) := by decide +kernel
theorem dX3_tellsGrain_91 : decode cX3_tellsGrain 91 = .ok (.goto 4, 3) := by decide +kernel
theorem dX3_tellsGrain_94 : decode cX3_tellsGrain 94 = .ok (.iconst 0, 1) := by decide +kernel
theorem dX3_tellsGrain_95 : decode cX3_tellsGrain 95 = .ok (.ireturn, 1) := by decide +kernel
theorem dX3_tellsGrain_96 : decode cX3_tellsGrain 96 = .ok (.aload_n 0, 1) := by decide +kernel
theorem dX3_tellsGrain_97 : decode cX3_tellsGrain 97 = .ok (.iload_n 1, 1) := by decide +kernel
theorem dX3_tellsGrain_98 : decode cX3_tellsGrain 98 = .ok (.invokevirtual 66, 3) := by decide +kernel
theorem dX3_tellsGrain_101 : decode cX3_tellsGrain 101 = .ok (.ifCond .eq 19, 3) := by decide +kernel
theorem dX3_tellsGrain_104 : decode cX3_tellsGrain 104 = .ok (.aload_n 0, 1) := by decide +kernel
theorem dX3_tellsGrain_105 : decode cX3_tellsGrain 105 = .ok (.aload_n 0, 1) := by decide +kernel
theorem dX3_tellsGrain_106 : decode cX3_tellsGrain 106 = .ok (.getfield 24, 3) := by decide +kernel
theorem dX3_tellsGrain_109 : decode cX3_tellsGrain 109 = .ok (.iload_n 1, 1) := by decide +kernel
theorem dX3_tellsGrain_110 : decode cX3_tellsGrain 110 = .ok (.invokevirtual 62, 3) := by decide +kernel
theorem dX3_tellsGrain_113 : decode cX3_tellsGrain 113 = .ok (.ifCond .eq 7, 3) := by decide +kernel
theorem dX3_tellsGrain_116 : decode cX3_tellsGrain 116 = .ok (.iconst 1, 1) := by decide +kernel
theorem dX3_tellsGrain_117 : decode cX3_tellsGrain 117 = .ok (.goto 4, 3) := by decide +kernel
theorem dX3_tellsGrain_120 : decode cX3_tellsGrain 120 = .ok (.iconst 0, 1) := by decide +kernel
theorem dX3_tellsGrain_121 : decode cX3_tellsGrain 121 = .ok (.ireturn, 1) := by decide +kernel
theorem dX3_tellsGrain_122 : decode cX3_tellsGrain 122 = .ok (.aload_n 0, 1) := by decide +kernel
theorem dX3_tellsGrain_123 : decode cX3_tellsGrain 123 = .ok (.iload_n 1, 1) := by decide +kernel
theorem dX3_tellsGrain_124 : decode cX3_tellsGrain 124 = .ok (.invokevirtual 66, 3) := by decide +kernel
theorem dX3_tellsGrain_127 : decode cX3_tellsGrain 127 = .ok (.ifCond .eq 15, 3) := by decide +kernel
theorem dX3_tellsGrain_130 : decode cX3_tellsGrain 130 = .ok (.aload_n 0, 1) := by decide +kernel
theorem dX3_tellsGrain_131 : decode cX3_tellsGrain 131 = .ok (.aload_n 0, 1) := by decide +kernel
theorem dX3_tellsGrain_132 : decode cX3_tellsGrain 132 = .ok (.getfield 27, 3) := by decide +kernel
theorem dX3_tellsGrain_135 : decode cX3_tellsGrain 135 = .ok (.iload_n 1, 1) := by decide +kernel
theorem dX3_tellsGrain_136 : decode cX3_tellsGrain 136 = .ok (.invokevirtual 62, 3) := by decide +kernel
theorem dX3_tellsGrain_139 : decode cX3_tellsGrain 139 = .ok (.ifCond .ne 5, 3) := by decide +kernel
theorem dX3_tellsGrain_142 : decode cX3_tellsGrain 142 = .ok (.iconst 0, 1) := by decide +kernel
theorem dX3_tellsGrain_143 : decode cX3_tellsGrain 143 = .ok (.ireturn, 1) := by decide +kernel
theorem dX3_tellsGrain_144 : decode cX3_tellsGrain 144 = .ok (.aload_n 0, 1) := by decide +kernel
theorem dX3_tellsGrain_145 : decode cX3_tellsGrain 145 = .ok (.dup, 1) := by decide +kernel
theorem dX3_tellsGrain_146 : decode cX3_tellsGrain 146 = .ok (.getfield 37, 3) := by decide +kernel
theorem dX3_tellsGrain_149 : decode cX3_tellsGrain 149 = .ok (.iconst 1, 1) := by decide +kernel
theorem dX3_tellsGrain_150 : decode cX3_tellsGrain 150 = .ok (.iadd, 1) := by decide +kernel
theorem dX3_tellsGrain_151 : decode cX3_tellsGrain 151 = .ok (.putfield 37, 3) := by decide +kernel
theorem dX3_tellsGrain_154 : decode cX3_tellsGrain 154 = .ok (.aload_n 0, 1) := by decide +kernel
theorem dX3_tellsGrain_155 : decode cX3_tellsGrain 155 = .ok (.bipush 87, 2) := by decide +kernel
theorem dX3_tellsGrain_157 : decode cX3_tellsGrain 157 = .ok (.putfield 40, 3) := by decide +kernel
theorem dX3_tellsGrain_160 : decode cX3_tellsGrain 160 = .ok (.iconst 1, 1) := by decide +kernel
theorem dX3_tellsGrain_161 : decode cX3_tellsGrain 161 = .ok (.ireturn, 1) := by decide +kernel
theorem dX3_puts_0 : decode cX3_puts 0 = .ok (.aload_n 0, 1) := by decide +kernel
theorem dX3_puts_1 : decode cX3_puts 1 = .ok (.getfield 37, 3) := by decide +kernel
theorem dX3_puts_4 : decode cX3_puts 4 = .ok (.ifCond .lt 12, 3) := by decide +kernel
theorem dX3_puts_7 : decode cX3_puts 7 = .ok (.aload_n 0, 1) := by decide +kernel
theorem dX3_puts_8 : decode cX3_puts 8 = .ok (.getfield 37, 3) := by decide +kernel
theorem dX3_puts_11 : decode cX3_puts 11 = .ok (.aload_n 1, 1) := by decide +kernel
theorem dX3_puts_12 : decode cX3_puts 12 = .ok (.arraylength, 1) := by decide +kernel
theorem dX3_puts_13 : decode cX3_puts 13 = .ok (.if_icmp .lt 5, 3) := by decide +kernel
theorem dX3_puts_16 : decode cX3_puts 16 = .ok (.iconst 0, 1) := by decide +kernel
theorem dX3_puts_17 : decode cX3_puts 17 = .ok (.ireturn, 1) := by decide +kernel
theorem dX3_puts_18 : decode cX3_puts 18 = .ok (.aload_n 1, 1) := by decide +kernel
theorem dX3_puts_19 : decode cX3_puts 19 = .ok (.aload_n 0, 1) := by decide +kernel
theorem dX3_puts_20 : decode cX3_puts 20 = .ok (.getfield 37, 3) := by decide +kernel
theorem dX3_puts_23 : decode cX3_puts 23 = .ok (.iload_n 2, 1) := by decide +kernel
theorem dX3_puts_24 : decode cX3_puts 24 = .ok (.iastore, 1) := by decide +kernel
theorem dX3_puts_25 : decode cX3_puts 25 = .ok (.iconst 1, 1) := by decide +kernel
theorem dX3_puts_26 : decode cX3_puts 26 = .ok (.ireturn, 1) := by decide +kernel
set_option maxRecDepth 20000 in
theorem ggX3_firstScene_X7_withPlace : GoodIn wsX3_firstScene wsX7_withPlace := goodIn_r _ [7, 8, 9] (by decide +kernel) (by decide +kernel)
set_option maxRecDepth 20000 in
theorem gX3_firstScene_X7_withPlace : GoodIn wsX3_firstScene (va_wsS RX3 73 yX7_withPlace wsX7_withPlace) := goodIn_app (goodIn_of _ (by decide +kernel)) ggX3_firstScene_X7_withPlace
theorem dX3_firstScene_0 : decode cX3_firstScene 0 = .ok (.ldc2_w 71, 3) := by decide +kernel
theorem dX3_firstScene_3 : decode cX3_firstScene 3 = .ok (.lstore_n 1, 1) := by decide +kernel
theorem dX3_firstScene_4 : decode cX3_firstScene 4 = .ok (.iconst 0, 1) := by decide +kernel
theorem dX3_firstScene_5 : decode cX3_firstScene 5 = .ok (.istore_n 3, 1) := by decide +kernel
theorem dX3_firstScene_6 : decode cX3_firstScene 6 = .ok (.iload_n 3, 1) := by decide +kernel
theorem dX3_firstScene_7 : decode cX3_firstScene 7 = .ok (.aload_n 0, 1) := by decide +kernel
theorem dX3_firstScene_8 : decode cX3_firstScene 8 = .ok (.getfield 37, 3) := by decide +kernel
theorem dX3_firstScene_11 : decode cX3_firstScene 11 = .ok (.if_icmp .ge 30, 3) := by decide +kernel
theorem dX3_firstScene_14 : decode cX3_firstScene 14 = .ok (.iload_n 3, 1) := by decide +kernel
theorem dX3_firstScene_15 : decode cX3_firstScene 15 = .ok (.aload_n 0, 1) := by decide +kernel
theorem dX3_firstScene_16 : decode cX3_firstScene 16 = .ok (.getfield 27, 3) := by decide +kernel
theorem dX3_firstScene_19 : decode cX3_firstScene 19 = .ok (.arraylength, 1) := by decide +kernel
theorem dX3_firstScene_20 : decode cX3_firstScene 20 = .ok (.if_icmp .ge 21, 3) := by decide +kernel
theorem dX3_firstScene_23 : decode cX3_firstScene 23 = .ok (.lload_n 1, 1) := by decide +kernel
theorem dX3_firstScene_24 : decode cX3_firstScene 24 = .ok (.iload_n 3, 1) := by decide +kernel
theorem dX3_firstScene_25 : decode cX3_firstScene 25 = .ok (.aload_n 0, 1) := by decide +kernel
theorem dX3_firstScene_26 : decode cX3_firstScene 26 = .ok (.getfield 27, 3) := by decide +kernel
theorem dX3_firstScene_29 : decode cX3_firstScene 29 = .ok (.iload_n 3, 1) := by decide +kernel
theorem dX3_firstScene_30 : decode cX3_firstScene 30 = .ok (.iaload, 1) := by decide +kernel
theorem dX3_firstScene_31 : decode cX3_firstScene 31 = .ok (.invokestatic 73, 3) := by decide +kernel
theorem dX3_firstScene_34 : decode cX3_firstScene 34 = .ok (.lstore_n 1, 1) := by decide +kernel
theorem dX3_firstScene_35 : decode cX3_firstScene 35 = .ok (.iinc 3 1, 3) := by decide +kernel
theorem dX3_firstScene_38 : decode cX3_firstScene 38 = .ok (.goto (-32), 3) := by decide +kernel
theorem dX3_firstScene_41 : decode cX3_firstScene 41 = .ok (.lload_n 1, 1) := by decide +kernel
theorem dX3_firstScene_42 : decode cX3_firstScene 42 = .ok (.lreturn, 1) := by decide +kernel
theorem dX3_isPerson_0 : decode cX3_isPerson 0 = .ok (.iload_n 1, 1) := by decide +kernel
theorem dX3_isPerson_1 : decode cX3_isPerson 1 = .ok (.ifCond .lt 15, 3) := by decide +kernel
theorem dX3_isPerson_4 : decode cX3_isPerson 4 = .ok (.iload_n 1, 1) := by decide +kernel
theorem dX3_isPerson_5 : decode cX3_isPerson 5 = .ok (.aload_n 0, 1) := by decide +kernel
theorem dX3_isPerson_6 : decode cX3_isPerson 6 = .ok (.getfield 30, 3) := by decide +kernel
theorem dX3_isPerson_9 : decode cX3_isPerson 9 = .ok (.if_icmp .ge 7, 3) := by decide +kernel
theorem dX3_isPerson_12 : decode cX3_isPerson 12 = .ok (.iconst 1, 1) := by decide +kernel
theorem dX3_isPerson_13 : decode cX3_isPerson 13 = .ok (.goto 4, 3) := by decide +kernel
theorem dX3_isPerson_16 : decode cX3_isPerson 16 = .ok (.iconst 0, 1) := by decide +kernel
theorem dX3_isPerson_17 : decode cX3_isPerson 17 = .ok (.ireturn, 1) := by decide +kernel
theorem dX3_isGrain_0 : decode cX3_isGrain 0 = .ok (.iload_n 1, 1) := by decide +kernel
theorem dX3_isGrain_1 : decode cX3_isGrain 1 = .ok (.ifCond .lt 15, 3) := by decide +kernel
theorem dX3_isGrain_4 : decode cX3_isGrain 4 = .ok (.iload_n 1, 1) := by decide +kernel
theorem dX3_isGrain_5 : decode cX3_isGrain 5 = .ok (.aload_n 0, 1) := by decide +kernel
theorem dX3_isGrain_6 : decode cX3_isGrain 6 = .ok (.getfield 37, 3) := by decide +kernel
theorem dX3_isGrain_9 : decode cX3_isGrain 9 = .ok (.if_icmp .ge 7, 3) := by decide +kernel
theorem dX3_isGrain_12 : decode cX3_isGrain 12 = .ok (.iconst 1, 1) := by decide +kernel
theorem dX3_isGrain_13 : decode cX3_isGrain 13 = .ok (.goto 4, 3) := by decide +kernel
theorem dX3_isGrain_16 : decode cX3_isGrain 16 = .ok (.iconst 0, 1) := by decide +kernel
theorem dX3_isGrain_17 : decode cX3_isGrain 17 = .ok (.ireturn, 1) := by decide +kernel
theorem dX3_personKind_0 : decode cX3_personKind 0 = .ok (.iload_n 1, 1) := by decide +kernel
theorem dX3_personKind_1 : decode cX3_personKind 1 = .ok (.ifCond .lt 21, 3) := by decide +kernel
theorem dX3_personKind_4 : decode cX3_personKind 4 = .ok (.iload_n 1, 1) := by decide +kernel
theorem dX3_personKind_5 : decode cX3_personKind 5 = .ok (.aload_n 0, 1) := by decide +kernel
theorem dX3_personKind_6 : decode cX3_personKind 6 = .ok (.getfield 9, 3) := by decide +kernel
theorem dX3_personKind_9 : decode cX3_personKind 9 = .ok (.arraylength, 1) := by decide +kernel
theorem dX3_personKind_10 : decode cX3_personKind 10 = .ok (.if_icmp .ge 12, 3) := by decide +kernel
theorem dX3_personKind_13 : decode cX3_personKind 13 = .ok (.aload_n 0, 1) := by decide +kernel
theorem dX3_personKind_14 : decode cX3_personKind 14 = .ok (.getfield 9, 3) := by decide +kernel
theorem dX3_personKind_17 : decode cX3_personKind 17 = .ok (.iload_n 1, 1) := by decide +kernel
theorem dX3_personKind_18 : decode cX3_personKind 18 = .ok (.iaload, 1) := by decide +kernel
theorem dX3_personKind_19 : decode cX3_personKind 19 = .ok (.goto 5, 3) := by decide +kernel
theorem dX3_personKind_22 : decode cX3_personKind 22 = .ok (.bipush (-9), 2) := by decide +kernel
theorem dX3_personKind_24 : decode cX3_personKind 24 = .ok (.ireturn, 1) := by decide +kernel
theorem dX3_weightOf_0 : decode cX3_weightOf 0 = .ok (.iload_n 1, 1) := by decide +kernel
theorem dX3_weightOf_1 : decode cX3_weightOf 1 = .ok (.ifCond .lt 21, 3) := by decide +kernel
theorem dX3_weightOf_4 : decode cX3_weightOf 4 = .ok (.iload_n 1, 1) := by decide +kernel
theorem dX3_weightOf_5 : decode cX3_weightOf 5 = .ok (.aload_n 0, 1) := by decide +kernel
theorem dX3_weightOf_6 : decode cX3_weightOf 6 = .ok (.getfield 18, 3) := by decide +kernel
theorem dX3_weightOf_9 : decode cX3_weightOf 9 = .ok (.arraylength, 1) := by decide +kernel
theorem dX3_weightOf_10 : decode cX3_weightOf 10 = .ok (.if_icmp .ge 12, 3) := by decide +kernel
theorem dX3_weightOf_13 : decode cX3_weightOf 13 = .ok (.aload_n 0, 1) := by decide +kernel
theorem dX3_weightOf_14 : decode cX3_weightOf 14 = .ok (.getfield 18, 3) := by decide +kernel
theorem dX3_weightOf_17 : decode cX3_weightOf 17 = .ok (.iload_n 1, 1) := by decide +kernel
theorem dX3_weightOf_18 : decode cX3_weightOf 18 = .ok (.iaload, 1) := by decide +kernel
theorem dX3_weightOf_19 : decode cX3_weightOf 19 = .ok (.goto 4, 3) := by decide +kernel
theorem dX3_weightOf_22 : decode cX3_weightOf 22 = .ok (.iconst 0, 1) := by decide +kernel
theorem dX3_weightOf_23 : decode cX3_weightOf 23 = .ok (.ireturn, 1) := by decide +kernel
theorem dX3_grainKind_0 : decode cX3_grainKind 0 = .ok (.iload_n 1, 1) := by decide +kernel
theorem dX3_grainKind_1 : decode cX3_grainKind 1 = .ok (.ifCond .lt 21, 3) := by decide +kernel
theorem dX3_grainKind_4 : decode cX3_grainKind 4 = .ok (.iload_n 1, 1) := by decide +kernel
theorem dX3_grainKind_5 : decode cX3_grainKind 5 = .ok (.aload_n 0, 1) := by decide +kernel
theorem dX3_grainKind_6 : decode cX3_grainKind 6 = .ok (.getfield 21, 3) := by decide +kernel
theorem dX3_grainKind_9 : decode cX3_grainKind 9 = .ok (.arraylength, 1) := by decide +kernel
theorem dX3_grainKind_10 : decode cX3_grainKind 10 = .ok (.if_icmp .ge 12, 3) := by decide +kernel
theorem dX3_grainKind_13 : decode cX3_grainKind 13 = .ok (.aload_n 0, 1) := by decide +kernel
theorem dX3_grainKind_14 : decode cX3_grainKind 14 = .ok (.getfield 21, 3) := by decide +kernel
theorem dX3_grainKind_17 : decode cX3_grainKind 17 = .ok (.iload_n 1, 1) := by decide +kernel
theorem dX3_grainKind_18 : decode cX3_grainKind 18 = .ok (.iaload, 1) := by decide +kernel
theorem dX3_grainKind_19 : decode cX3_grainKind 19 = .ok (.goto 5, 3) := by decide +kernel
theorem dX3_grainKind_22 : decode cX3_grainKind 22 = .ok (.bipush (-9), 2) := by decide +kernel
theorem dX3_grainKind_24 : decode cX3_grainKind 24 = .ok (.ireturn, 1) := by decide +kernel
theorem dX3_ownerOf_0 : decode cX3_ownerOf 0 = .ok (.iload_n 1, 1) := by decide +kernel
theorem dX3_ownerOf_1 : decode cX3_ownerOf 1 = .ok (.ifCond .lt 21, 3) := by decide +kernel
theorem dX3_ownerOf_4 : decode cX3_ownerOf 4 = .ok (.iload_n 1, 1) := by decide +kernel
theorem dX3_ownerOf_5 : decode cX3_ownerOf 5 = .ok (.aload_n 0, 1) := by decide +kernel
theorem dX3_ownerOf_6 : decode cX3_ownerOf 6 = .ok (.getfield 24, 3) := by decide +kernel
theorem dX3_ownerOf_9 : decode cX3_ownerOf 9 = .ok (.arraylength, 1) := by decide +kernel
theorem dX3_ownerOf_10 : decode cX3_ownerOf 10 = .ok (.if_icmp .ge 12, 3) := by decide +kernel
theorem dX3_ownerOf_13 : decode cX3_ownerOf 13 = .ok (.aload_n 0, 1) := by decide +kernel
theorem dX3_ownerOf_14 : decode cX3_ownerOf 14 = .ok (.getfield 24, 3) := by decide +kernel
theorem dX3_ownerOf_17 : decode cX3_ownerOf 17 = .ok (.iload_n 1, 1) := by decide +kernel
theorem dX3_ownerOf_18 : decode cX3_ownerOf 18 = .ok (.iaload, 1) := by decide +kernel
theorem dX3_ownerOf_19 : decode cX3_ownerOf 19 = .ok (.goto 5, 3) := by decide +kernel
theorem dX3_ownerOf_22 : decode cX3_ownerOf 22 = .ok (.bipush (-9), 2) := by decide +kernel
theorem dX3_ownerOf_24 : decode cX3_ownerOf 24 = .ok (.ireturn, 1) := by decide +kernel
set_option maxRecDepth 20000 in
theorem ggX3_windAt_X7_clockOf : GoodIn wsX3_windAt wsX7_clockOf := goodIn_r _ [6] (by decide +kernel) (by decide +kernel)
set_option maxRecDepth 20000 in
theorem gX3_windAt_X7_clockOf : GoodIn wsX3_windAt (va_wsS RX3 77 yX7_clockOf wsX7_clockOf) := goodIn_app (goodIn_of _ (by decide +kernel)) ggX3_windAt_X7_clockOf
theorem dX3_windAt_0 : decode cX3_windAt 0 = .ok (.aload_n 0, 1) := by decide +kernel
theorem dX3_windAt_1 : decode cX3_windAt 1 = .ok (.getfield 34, 3) := by decide +kernel
theorem dX3_windAt_4 : decode cX3_windAt 4 = .ok (.ifCond .gt 5, 3) := by decide +kernel
theorem dX3_windAt_7 : decode cX3_windAt 7 = .ok (.iconst 0, 1) := by decide +kernel
theorem dX3_windAt_8 : decode cX3_windAt 8 = .ok (.ireturn, 1) := by decide +kernel
theorem dX3_windAt_9 : decode cX3_windAt 9 = .ok (.lload_n 1, 1) := by decide +kernel
theorem dX3_windAt_10 : decode cX3_windAt 10 = .ok (.invokestatic 77, 3) := by decide +kernel
theorem dX3_windAt_13 : decode cX3_windAt 13 = .ok (.aload_n 0, 1) := by decide +kernel
theorem dX3_windAt_14 : decode cX3_windAt 14 = .ok (.getfield 34, 3) := by decide +kernel
theorem dX3_windAt_17 : decode cX3_windAt 17 = .ok (.irem, 1) := by decide +kernel
theorem dX3_windAt_18 : decode cX3_windAt 18 = .ok (.istore_n 3, 1) := by decide +kernel
theorem dX3_windAt_19 : decode cX3_windAt 19 = .ok (.iload_n 3, 1) := by decide +kernel
theorem dX3_windAt_20 : decode cX3_windAt 20 = .ok (.ifCond .lt 21, 3) := by decide +kernel
theorem dX3_windAt_23 : decode cX3_windAt 23 = .ok (.iload_n 3, 1) := by decide +kernel
theorem dX3_windAt_24 : decode cX3_windAt 24 = .ok (.aload_n 0, 1) := by decide +kernel
theorem dX3_windAt_25 : decode cX3_windAt 25 = .ok (.getfield 15, 3) := by decide +kernel
theorem dX3_windAt_28 : decode cX3_windAt 28 = .ok (.arraylength, 1) := by decide +kernel
theorem dX3_windAt_29 : decode cX3_windAt 29 = .ok (.if_icmp .ge 12, 3) := by decide +kernel
theorem dX3_windAt_32 : decode cX3_windAt 32 = .ok (.aload_n 0, 1) := by decide +kernel
theorem dX3_windAt_33 : decode cX3_windAt 33 = .ok (.getfield 15, 3) := by decide +kernel
theorem dX3_windAt_36 : decode cX3_windAt 36 = .ok (.iload_n 3, 1) := by decide +kernel
theorem dX3_windAt_37 : decode cX3_windAt 37 = .ok (.iaload, 1) := by decide +kernel
theorem dX3_windAt_38 : decode cX3_windAt 38 = .ok (.goto 4, 3) := by decide +kernel
theorem dX3_windAt_41 : decode cX3_windAt 41 = .ok (.iconst 0, 1) := by decide +kernel
theorem dX3_windAt_42 : decode cX3_windAt 42 = .ok (.ireturn, 1) := by decide +kernel
set_option maxRecDepth 20000 in
theorem ggX3_liftAt_X3_windAt : GoodIn wsX3_liftAt wsX3_windAt := goodIn_r _ [5, 6, 7, 8, 9, 10, 11, 20, 21, 22, 23, 24, 25, 26, 27, 28, 29, 30] (by decide +kernel) (by decide +kernel)
set_option maxRecDepth 20000 in
theorem gX3_liftAt_X3_windAt : GoodIn wsX3_liftAt (wsV RX3 81 RX3 yX3_windAt wsX3_windAt) := goodIn_app (goodIn_of _ (by decide +kernel)) ggX3_liftAt_X3_windAt
set_option maxRecDepth 20000 in
theorem ggX3_liftAt_X7_holderOf : GoodIn wsX3_liftAt wsX7_holderOf := goodIn_r _ [14] (by decide +kernel) (by decide +kernel)
set_option maxRecDepth 20000 in
theorem gX3_liftAt_X7_holderOf : GoodIn wsX3_liftAt (va_wsS RX3 84 yX7_holderOf wsX7_holderOf) := goodIn_app (goodIn_of _ (by decide +kernel)) ggX3_liftAt_X7_holderOf
set_option maxRecDepth 20000 in
theorem ggX3_liftAt_X3_personKind : GoodIn wsX3_liftAt wsX3_personKind := goodIn_r _ [18, 19, 20, 21, 22, 23, 24, 25, 26, 27, 28, 29, 30] (by decide +kernel) (by decide +kernel)
set_option maxRecDepth 20000 in
theorem gX3_liftAt_X3_personKind : GoodIn wsX3_liftAt (wsV RX3 87 RX3 yX3_personKind wsX3_personKind) := goodIn_app (goodIn_of _ (by decide +kernel)) ggX3_liftAt_X3_personKind
theorem dX3_liftAt_0 : decode cX3_liftAt 0 = .ok (.aload_n 0, 1) := by decide +kernel
theorem dX3_liftAt_1 : decode cX3_liftAt 1 = .ok (.lload_n 1, 1) := by decide +kernel
theorem dX3_liftAt_2 : decode cX3_liftAt 2 = .ok (.invokevirtual 81, 3) := by decide +kernel
theorem dX3_liftAt_5 : decode cX3_liftAt 5 = .ok (.istore 4, 2) := by decide +kernel
theorem dX3_liftAt_7 : decode cX3_liftAt 7 = .ok (.lload_n 1, 1) := by decide +kernel
theorem dX3_liftAt_8 : decode cX3_liftAt 8 = .ok (.invokestatic 84, 3) := by decide +kernel
theorem dX3_liftAt_11 : decode cX3_liftAt 11 = .ok (.iload_n 3, 1) := by decide +kernel
theorem dX3_liftAt_12 : decode cX3_liftAt 12 = .ok (.if_icmp .ne 6, 3) := by decide +kernel
theorem dX3_liftAt_15 : decode cX3_liftAt 15 = .ok (.iinc 4 2, 3) := by decide +kernel
theorem dX3_liftAt_18 : decode cX3_liftAt 18 = .ok (.aload_n 0, 1) := by decide +kernel
theorem dX3_liftAt_19 : decode cX3_liftAt 19 = .ok (.iload_n 3, 1) := by decide +kernel
theorem dX3_liftAt_20 : decode cX3_liftAt 20 = .ok (.invokevirtual 87, 3) := by decide +kernel
theorem dX3_liftAt_23 : decode cX3_liftAt 23 = .ok (.iconst 1, 1) := by decide +kernel
theorem dX3_liftAt_24 : decode cX3_liftAt 24 = .ok (.if_icmp .ne 6, 3) := by decide +kernel
theorem dX3_liftAt_27 : decode cX3_liftAt 27 = .ok (.iinc 4 1, 3) := by decide +kernel
theorem dX3_liftAt_30 : decode cX3_liftAt 30 = .ok (.iload 4, 2) := by decide +kernel
theorem dX3_liftAt_32 : decode cX3_liftAt 32 = .ok (.ireturn, 1) := by decide +kernel
theorem dX3_ownLift_0 : decode cX3_ownLift 0 = .ok (.iload_n 0, 1) := by decide +kernel
theorem dX3_ownLift_1 : decode cX3_ownLift 1 = .ok (.iconst 1, 1) := by decide +kernel
theorem dX3_ownLift_2 : decode cX3_ownLift 2 = .ok (.if_icmp .ne 7, 3) := by decide +kernel
theorem dX3_ownLift_5 : decode cX3_ownLift 5 = .ok (.iload_n 1, 1) := by decide +kernel
theorem dX3_ownLift_6 : decode cX3_ownLift 6 = .ok (.iconst 2, 1) := by decide +kernel
theorem dX3_ownLift_7 : decode cX3_ownLift 7 = .ok (.iadd, 1) := by decide +kernel
theorem dX3_ownLift_8 : decode cX3_ownLift 8 = .ok (.ireturn, 1) := by decide +kernel
theorem dX3_ownLift_9 : decode cX3_ownLift 9 = .ok (.iload_n 0, 1) := by decide +kernel
theorem dX3_ownLift_10 : decode cX3_ownLift 10 = .ok (.iconst 3, 1) := by decide +kernel
theorem dX3_ownLift_11 : decode cX3_ownLift 11 = .ok (.if_icmp .ne 9, 3) := by decide +kernel
theorem dX3_ownLift_14 : decode cX3_ownLift 14 = .ok (.iload_n 1, 1) := by decide +kernel
theorem dX3_ownLift_15 : decode cX3_ownLift 15 = .ok (.iconst 2, 1) := by decide +kernel
theorem dX3_ownLift_16 : decode cX3_ownLift 16 = .ok (.idiv, 1) := by decide +kernel
theorem dX3_ownLift_17 : decode cX3_ownLift 17 = .ok (.goto 4, 3) := by decide +kernel
theorem dX3_ownLift_20 : decode cX3_ownLift 20 = .ok (.iload_n 1, 1) := by decide +kernel
theorem dX3_ownLift_21 : decode cX3_ownLift 21 = .ok (.ireturn, 1) := by decide +kernel
theorem dX3_flown_0 : decode cX3_flown 0 = .ok (.iload_n 0, 1) := by decide +kernel
theorem dX3_flown_1 : decode cX3_flown 1 = .ok (.iconst 2, 1) := by decide +kernel
theorem dX3_flown_2 : decode cX3_flown 2 = .ok (.if_icmp .eq 8, 3) := by decide +kernel
theorem dX3_flown_5 : decode cX3_flown 5 = .ok (.iload_n 2, 1) := by decide +kernel
theorem dX3_flown_6 : decode cX3_flown 6 = .ok (.iload_n 1, 1) := by decide +kernel
theorem dX3_flown_7 : decode cX3_flown 7 = .ok (.if_icmp .ge 5, 3) := by decide +kernel
theorem dX3_flown_10 : decode cX3_flown 10 = .ok (.iconst 0, 1) := by decide +kernel
theorem dX3_flown_11 : decode cX3_flown 11 = .ok (.ireturn, 1) := by decide +kernel
theorem dX3_flown_12 : decode cX3_flown 12 = .ok (.iload_n 2, 1) := by decide +kernel
theorem dX3_flown_13 : decode cX3_flown 13 = .ok (.iload_n 1, 1) := by decide +kernel
theorem dX3_flown_14 : decode cX3_flown 14 = .ok (.isub, 1) := by decide +kernel
theorem dX3_flown_15 : decode cX3_flown 15 = .ok (.iconst 3, 1) := by decide +kernel
theorem dX3_flown_16 : decode cX3_flown 16 = .ok (.idiv, 1) := by decide +kernel
theorem dX3_flown_17 : decode cX3_flown 17 = .ok (.iconst 1, 1) := by decide +kernel
theorem dX3_flown_18 : decode cX3_flown 18 = .ok (.iadd, 1) := by decide +kernel
theorem dX3_flown_19 : decode cX3_flown 19 = .ok (.iload_n 0, 1) := by decide +kernel
theorem dX3_flown_20 : decode cX3_flown 20 = .ok (.iconst 1, 1) := by decide +kernel
theorem dX3_flown_21 : decode cX3_flown 21 = .ok (.if_icmp .ne 7, 3) := by decide +kernel
theorem dX3_flown_24 : decode cX3_flown 24 = .ok (.iconst 1, 1) := by decide +kernel
theorem dX3_flown_25 : decode cX3_flown 25 = .ok (.goto 4, 3) := by decide +kernel
theorem dX3_flown_28 : decode cX3_flown 28 = .ok (.iconst 0, 1) := by decide +kernel
theorem dX3_flown_29 : decode cX3_flown 29 = .ok (.iadd, 1) := by decide +kernel
theorem dX3_flown_30 : decode cX3_flown 30 = .ok (.ireturn, 1) := by decide +kernel
set_option maxRecDepth 20000 in
theorem ggX3_flight_X3_ownerOf : GoodIn wsX3_flight wsX3_ownerOf := goodIn_r _ [5, 6, 33, 34, 35, 36, 37, 38, 39, 40, 41, 42, 43] (by decide +kernel) (by decide +kernel)
set_option maxRecDepth 20000 in
theorem gX3_flight_X3_ownerOf : GoodIn wsX3_flight (wsV RX3 91 RX3 yX3_ownerOf wsX3_ownerOf) := goodIn_app (goodIn_of _ (by decide +kernel)) ggX3_flight_X3_ownerOf
set_option maxRecDepth 20000 in
theorem ggX3_flight_X3_personKind : GoodIn wsX3_flight wsX3_personKind := goodIn_r _ [10, 11, 33, 34, 35, 36, 37, 38, 39, 40, 41, 42, 43] (by decide +kernel) (by decide +kernel)
set_option maxRecDepth 20000 in
theorem gX3_flight_X3_personKind : GoodIn wsX3_flight (wsV RX3 87 RX3 yX3_personKind wsX3_personKind) := goodIn_app (goodIn_of _ (by decide +kernel)) ggX3_flight_X3_personKind
set_option maxRecDepth 20000 in
theorem ggX3_flight_X3_isPerson : GoodIn wsX3_flight wsX3_isPerson := goodIn_r _ [15, 16, 33, 34, 35, 36, 37, 38, 39, 40, 41, 42, 43] (by decide +kernel) (by decide +kernel)
set_option maxRecDepth 20000 in
theorem gX3_flight_X3_isPerson : GoodIn wsX3_flight (wsV RX3 66 RX3 yX3_isPerson wsX3_isPerson) := goodIn_app (goodIn_of _ (by decide +kernel)) ggX3_flight_X3_isPerson
set_option maxRecDepth 20000 in
theorem ggX3_flight_X3_grainKind : GoodIn wsX3_flight wsX3_grainKind := goodIn_r _ [20, 21, 33, 34, 35, 36, 37, 38, 39, 40, 41, 42, 43] (by decide +kernel) (by decide +kernel)
set_option maxRecDepth 20000 in
theorem gX3_flight_X3_grainKind : GoodIn wsX3_flight (wsV RX3 94 RX3 yX3_grainKind wsX3_grainKind) := goodIn_app (goodIn_of _ (by decide +kernel)) ggX3_flight_X3_grainKind
set_option maxRecDepth 20000 in
theorem ggX3_flight_X3_weightOf : GoodIn wsX3_flight wsX3_weightOf := goodIn_r _ [25, 26, 33, 34, 35, 36, 37, 38, 39, 40, 41, 42, 43] (by decide +kernel) (by decide +kernel)
set_option maxRecDepth 20000 in
theorem gX3_flight_X3_weightOf : GoodIn wsX3_flight (wsV RX3 97 RX3 yX3_weightOf wsX3_weightOf) := goodIn_app (goodIn_of _ (by decide +kernel)) ggX3_flight_X3_weightOf
set_option maxRecDepth 20000 in
theorem ggX3_flight_X3_ownLift : GoodIn wsX3_flight wsX3_ownLift := goodIn_r _ [29] (by decide +kernel) (by decide +kernel)
set_option maxRecDepth 20000 in
theorem gX3_flight_X3_ownLift : GoodIn wsX3_flight (va_wsS RX3 100 yX3_ownLift wsX3_ownLift) := goodIn_app (goodIn_of _ (by decide +kernel)) ggX3_flight_X3_ownLift
set_option maxRecDepth 20000 in
theorem ggX3_flight_X3_flown : GoodIn wsX3_flight wsX3_flown := goodIn_r _ [32] (by decide +kernel) (by decide +kernel)
set_option maxRecDepth 20000 in
theorem gX3_flight_X3_flown : GoodIn wsX3_flight (va_wsS RX3 104 yX3_flown wsX3_flown) := goodIn_app (goodIn_of _ (by decide +kernel)) ggX3_flight_X3_flown
theorem dX3_flight_0 : decode cX3_flight 0 = .ok (.aload_n 0, 1) := by decide +kernel
theorem dX3_flight_1 : decode cX3_flight 1 = .ok (.iload_n 1, 1) := by decide +kernel
theorem dX3_flight_2 : decode cX3_flight 2 = .ok (.invokevirtual 91, 3) := by decide +kernel
theorem dX3_flight_5 : decode cX3_flight 5 = .ok (.iload_n 2, 1) := by decide +kernel
theorem dX3_flight_6 : decode cX3_flight 6 = .ok (.if_icmp .ne 16, 3) := by decide +kernel
theorem dX3_flight_9 : decode cX3_flight 9 = .ok (.aload_n 0, 1) := by decide +kernel
theorem dX3_flight_10 : decode cX3_flight 10 = .ok (.iload_n 2, 1) := by decide +kernel
theorem dX3_flight_11 : decode cX3_flight 11 = .ok (.invokevirtual 87, 3) := by decide +kernel
theorem dX3_flight_14 : decode cX3_flight 14 = .ok (.iconst 3, 1) := by decide +kernel
theorem dX3_flight_15 : decode cX3_flight 15 = .ok (.if_icmp .ne 7, 3) := by decide +kernel
theorem dX3_flight_18 : decode cX3_flight 18 = .ok (.iconst 1, 1) := by decide +kernel
theorem dX3_flight_19 : decode cX3_flight 19 = .ok (.goto 4, 3) := by decide +kernel
theorem dX3_flight_22 : decode cX3_flight 22 = .ok (.iconst 0, 1) := by decide +kernel
theorem dX3_flight_23 : decode cX3_flight 23 = .ok (.istore 4, 2) := by decide +kernel
theorem dX3_flight_25 : decode cX3_flight 25 = .ok (.aload_n 0, 1) := by decide +kernel
theorem dX3_flight_26 : decode cX3_flight 26 = .ok (.iload_n 2, 1) := by decide +kernel
theorem dX3_flight_27 : decode cX3_flight 27 = .ok (.invokevirtual 66, 3) := by decide +kernel
theorem dX3_flight_30 : decode cX3_flight 30 = .ok (.ifCond .eq 8, 3) := by decide +kernel
theorem dX3_flight_33 : decode cX3_flight 33 = .ok (.iload 4, 2) := by decide +kernel
theorem dX3_flight_35 : decode cX3_flight 35 = .ok (.ifCond .eq 5, 3) := by decide +kernel
theorem dX3_flight_38 : decode cX3_flight 38 = .ok (.iconst 0, 1) := by decide +kernel
theorem dX3_flight_39 : decode cX3_flight 39 = .ok (.ireturn, 1) := by decide +kernel
theorem dX3_flight_40 : decode cX3_flight 40 = .ok (.aload_n 0, 1) := by decide +kernel
theorem dX3_flight_41 : decode cX3_flight 41 = .ok (.iload_n 1, 1) := by decide +kernel
theorem dX3_flight_42 : decode cX3_flight 42 = .ok (.invokevirtual 94, 3) := by decide +kernel
theorem dX3_flight_45 : decode cX3_flight 45 = .ok (.istore 5, 2) := by decide +kernel
theorem dX3_flight_47 : decode cX3_flight 47 = .ok (.iload 5, 2) := by decide +kernel
theorem dX3_flight_49 : decode cX3_flight 49 = .ok (.aload_n 0, 1) := by decide +kernel
theorem dX3_flight_50 : decode cX3_flight 50 = .ok (.iload_n 1, 1) := by decide +kernel
theorem dX3_flight_51 : decode cX3_flight 51 = .ok (.invokevirtual 97, 3) := by decide +kernel
theorem dX3_flight_54 : decode cX3_flight 54 = .ok (.iload 5, 2) := by decide +kernel
theorem dX3_flight_56 : decode cX3_flight 56 = .ok (.iload_n 3, 1) := by decide +kernel
theorem dX3_flight_57 : decode cX3_flight 57 = .ok (.invokestatic 100, 3) := by decide +kernel
theorem dX3_flight_60 : decode cX3_flight 60 = .ok (.invokestatic 104, 3) := by decide +kernel
theorem dX3_flight_63 : decode cX3_flight 63 = .ok (.ireturn, 1) := by decide +kernel
set_option maxRecDepth 20000 in
theorem ggX3_landing_X3_flight : GoodIn wsX3_landing wsX3_flight := goodIn_r _ [5, 6, 7, 8, 4, 9, 10, 11, 12, 13, 14, 15, 16, 17, 18, 19, 20, 21, 22, 23, 24, 25, 26, 27, 28, 29, 30, 31, 32, 33, 34, 35, 36, 37, 38, 39, 40, 41, 42, 43, 44, 45, 46, 47] (by decide +kernel) (by decide +kernel)
set_option maxRecDepth 20000 in
theorem gX3_landing_X3_flight : GoodIn wsX3_landing (wsV RX3 108 RX3 yX3_flight wsX3_flight) := goodIn_app (goodIn_of _ (by decide +kernel)) ggX3_landing_X3_flight
set_option maxRecDepth 20000 in
theorem ggX3_landing_X3_isPerson : GoodIn wsX3_landing wsX3_isPerson := goodIn_r _ [19, 20, 37, 38, 39, 40, 41, 42, 43, 44, 45, 46, 47] (by decide +kernel) (by decide +kernel)
set_option maxRecDepth 20000 in
theorem gX3_landing_X3_isPerson : GoodIn wsX3_landing (wsV RX3 66 RX3 yX3_isPerson wsX3_isPerson) := goodIn_app (goodIn_of _ (by decide +kernel)) ggX3_landing_X3_isPerson
set_option maxRecDepth 20000 in
theorem ggX3_landing_X3_personKind : GoodIn wsX3_landing wsX3_personKind := goodIn_r _ [14, 15, 37, 38, 39, 40, 41, 42, 43, 44, 45, 46, 47] (by decide +kernel) (by decide +kernel)
set_option maxRecDepth 20000 in
theorem gX3_landing_X3_personKind : GoodIn wsX3_landing (wsV RX3 87 RX3 yX3_personKind wsX3_personKind) := goodIn_app (goodIn_of _ (by decide +kernel)) ggX3_landing_X3_personKind
set_option maxRecDepth 20000 in
theorem ggX3_landing_X3_grainKind : GoodIn wsX3_landing wsX3_grainKind := goodIn_r _ [24, 25, 37, 38, 39, 40, 41, 42, 43, 44, 45, 46, 47] (by decide +kernel) (by decide +kernel)
set_option maxRecDepth 20000 in
theorem gX3_landing_X3_grainKind : GoodIn wsX3_landing (wsV RX3 94 RX3 yX3_grainKind wsX3_grainKind) := goodIn_app (goodIn_of _ (by decide +kernel)) ggX3_landing_X3_grainKind
theorem dX3_landing_0 : decode cX3_landing 0 = .ok (.aload_n 0, 1) := by decide +kernel
theorem dX3_landing_1 : decode cX3_landing 1 = .ok (.iload_n 1, 1) := by decide +kernel
theorem dX3_landing_2 : decode cX3_landing 2 = .ok (.iload_n 2, 1) := by decide +kernel
theorem dX3_landing_3 : decode cX3_landing 3 = .ok (.iload_n 3, 1) := by decide +kernel
theorem dX3_landing_4 : decode cX3_landing 4 = .ok (.invokevirtual 108, 3) := by decide +kernel
theorem dX3_landing_7 : decode cX3_landing 7 = .ok (.istore 4, 2) := by decide +kernel
theorem dX3_landing_9 : decode cX3_landing 9 = .ok (.iload 4, 2) := by decide +kernel
theorem dX3_landing_11 : decode cX3_landing 11 = .ok (.ifCond .le 24, 3) := by decide +kernel
theorem dX3_landing_14 : decode cX3_landing 14 = .ok (.aload_n 0, 1) := by decide +kernel
theorem dX3_landing_15 : decode cX3_landing 15 = .ok (.iload_n 2, 1) := by decide +kernel
theorem dX3_landing_16 : decode cX3_landing 16 = .ok (.iload 4, 2) := by decide +kernel
theorem dX3_landing_18 : decode cX3_landing 18 = .ok (.iadd, 1) := by decide +kernel
theorem dX3_landing_19 : decode cX3_landing 19 = .ok (.invokevirtual 66, 3) := by decide +kernel
theorem dX3_landing_22 : decode cX3_landing 22 = .ok (.ifCond .eq 10, 3) := by decide +kernel
theorem dX3_landing_25 : decode cX3_landing 25 = .ok (.iload_n 2, 1) := by decide +kernel
theorem dX3_landing_26 : decode cX3_landing 26 = .ok (.iload 4, 2) := by decide +kernel
theorem dX3_landing_28 : decode cX3_landing 28 = .ok (.iadd, 1) := by decide +kernel
theorem dX3_landing_29 : decode cX3_landing 29 = .ok (.goto 5, 3) := by decide +kernel
theorem dX3_landing_32 : decode cX3_landing 32 = .ok (.bipush 8, 2) := by decide +kernel
theorem dX3_landing_34 : decode cX3_landing 34 = .ok (.ireturn, 1) := by decide +kernel
theorem dX3_landing_35 : decode cX3_landing 35 = .ok (.aload_n 0, 1) := by decide +kernel
theorem dX3_landing_36 : decode cX3_landing 36 = .ok (.iload_n 2, 1) := by decide +kernel
theorem dX3_landing_37 : decode cX3_landing 37 = .ok (.invokevirtual 66, 3) := by decide +kernel
theorem dX3_landing_40 : decode cX3_landing 40 = .ok (.ifCond .eq 25, 3) := by decide +kernel
theorem dX3_landing_43 : decode cX3_landing 43 = .ok (.aload_n 0, 1) := by decide +kernel
theorem dX3_landing_44 : decode cX3_landing 44 = .ok (.iload_n 2, 1) := by decide +kernel
theorem dX3_landing_45 : decode cX3_landing 45 = .ok (.invokevirtual 87, 3) := by decide +kernel
theorem dX3_landing_48 : decode cX3_landing 48 = .ok (.iconst 2, 1) := by decide +kernel
theorem dX3_landing_49 : decode cX3_landing 49 = .ok (.if_icmp .ne 16, 3) := by decide +kernel
theorem dX3_landing_52 : decode cX3_landing 52 = .ok (.aload_n 0, 1) := by decide +kernel
theorem dX3_landing_53 : decode cX3_landing 53 = .ok (.iload_n 1, 1) := by decide +kernel
theorem dX3_landing_54 : decode cX3_landing 54 = .ok (.invokevirtual 94, 3) := by decide +kernel
theorem dX3_landing_57 : decode cX3_landing 57 = .ok (.iconst 1, 1) := by decide +kernel
theorem dX3_landing_58 : decode cX3_landing 58 = .ok (.if_icmp .ne 7, 3) := by decide +kernel
theorem dX3_landing_61 : decode cX3_landing 61 = .ok (.iconst 1, 1) := by decide +kernel
theorem dX3_landing_62 : decode cX3_landing 62 = .ok (.goto 4, 3) := by decide +kernel
theorem dX3_landing_65 : decode cX3_landing 65 = .ok (.iconst 0, 1) := by decide +kernel
theorem dX3_landing_66 : decode cX3_landing 66 = .ok (.istore 5, 2) := by decide +kernel
theorem dX3_landing_68 : decode cX3_landing 68 = .ok (.iload 5, 2) := by decide +kernel
theorem dX3_landing_70 : decode cX3_landing 70 = .ok (.ifCond .eq 8, 3) := by decide +kernel
theorem dX3_landing_73 : decode cX3_landing 73 = .ok (.bipush 9, 2) := by decide +kernel
theorem dX3_landing_75 : decode cX3_landing 75 = .ok (.goto 4, 3) := by decide +kernel
theorem dX3_landing_78 : decode cX3_landing 78 = .ok (.iload_n 2, 1) := by decide +kernel
theorem dX3_landing_79 : decode cX3_landing 79 = .ok (.ireturn, 1) := by decide +kernel
set_option maxRecDepth 20000 in
theorem ggX3_tossed_X3_liftAt : GoodIn wsX3_tossed wsX3_liftAt := goodIn_r _ [6, 7, 8, 9, 5, 10, 11, 12, 13, 14, 15, 16, 17, 18, 19, 20, 21, 22, 23, 24, 71, 72, 73, 74, 75, 76, 77, 78, 79, 80, 81] (by decide +kernel) (by decide +kernel)
set_option maxRecDepth 20000 in
theorem gX3_tossed_X3_liftAt : GoodIn wsX3_tossed (wsV RX3 111 RX3 yX3_liftAt wsX3_liftAt) := goodIn_app (goodIn_of _ (by decide +kernel)) ggX3_tossed_X3_liftAt
set_option maxRecDepth 20000 in
theorem ggX3_tossed_X7_later : GoodIn wsX3_tossed wsX7_later := goodIn_r _ [27, 28] (by decide +kernel) (by decide +kernel)
set_option maxRecDepth 20000 in
theorem gX3_tossed_X7_later : GoodIn wsX3_tossed (va_wsS RX3 115 yX7_later wsX7_later) := goodIn_app (goodIn_of _ (by decide +kernel)) ggX3_tossed_X7_later
set_option maxRecDepth 20000 in
theorem ggX3_tossed_X7_placeOf : GoodIn wsX3_tossed wsX7_placeOf := goodIn_r _ [31] (by decide +kernel) (by decide +kernel)
set_option maxRecDepth 20000 in
theorem gX3_tossed_X7_placeOf : GoodIn wsX3_tossed (va_wsS RX3 119 yX7_placeOf wsX7_placeOf) := goodIn_app (goodIn_of _ (by decide +kernel)) ggX3_tossed_X7_placeOf
set_option maxRecDepth 20000 in
theorem ggX3_tossed_X3_landing : GoodIn wsX3_tossed wsX3_landing := goodIn_r _ [35, 36, 37, 38, 5, 39, 40, 41, 42, 43, 44, 20, 21, 22, 23, 24, 45, 46, 47, 48, 49, 50, 51, 52, 53, 54, 55, 56, 57, 58, 59, 60, 61, 62, 63, 64, 65, 71, 72, 73, 74, 75, 76, 77, 78, 79, 80, 81] (by decide +kernel) (by decide +kernel)
set_option maxRecDepth 20000 in
theorem gX3_tossed_X3_landing : GoodIn wsX3_tossed (wsV RX3 122 RX3 yX3_landing wsX3_landing) := goodIn_app (goodIn_of _ (by decide +kernel)) ggX3_tossed_X3_landing
set_option maxRecDepth 20000 in
theorem ggX3_tossed_X7_withPlace : GoodIn wsX3_tossed wsX7_withPlace := goodIn_r _ [68, 69, 70] (by decide +kernel) (by decide +kernel)
set_option maxRecDepth 20000 in
theorem gX3_tossed_X7_withPlace : GoodIn wsX3_tossed (va_wsS RX3 73 yX7_withPlace wsX7_withPlace) := goodIn_app (goodIn_of _ (by decide +kernel)) ggX3_tossed_X7_withPlace
theorem dX3_tossed_0 : decode cX3_tossed 0 = .ok (.aload_n 0, 1) := by decide +kernel
theorem dX3_tossed_1 : decode cX3_tossed 1 = .ok (.lload_n 1, 1) := by decide +kernel
theorem dX3_tossed_2 : decode cX3_tossed 2 = .ok (.iload_n 3, 1) := by decide +kernel
theorem dX3_tossed_3 : decode cX3_tossed 3 = .ok (.invokevirtual 111, 3) := by decide +kernel
theorem dX3_tossed_6 : decode cX3_tossed 6 = .ok (.istore 4, 2) := by decide +kernel
theorem dX3_tossed_8 : decode cX3_tossed 8 = .ok (.lload_n 1, 1) := by decide +kernel
theorem dX3_tossed_9 : decode cX3_tossed 9 = .ok (.invokestatic 115, 3) := by decide +kernel
theorem dX3_tossed_12 : decode cX3_tossed 12 = .ok (.lstore 5, 2) := by decide +kernel
theorem dX3_tossed_14 : decode cX3_tossed 14 = .ok (.iconst 0, 1) := by decide +kernel
theorem dX3_tossed_15 : decode cX3_tossed 15 = .ok (.istore 7, 2) := by decide +kernel
theorem dX3_tossed_17 : decode cX3_tossed 17 = .ok (.iload 7, 2) := by decide +kernel
theorem dX3_tossed_19 : decode cX3_tossed 19 = .ok (.aload_n 0, 1) := by decide +kernel
theorem dX3_tossed_20 : decode cX3_tossed 20 = .ok (.getfield 37, 3) := by decide +kernel
theorem dX3_tossed_23 : decode cX3_tossed 23 = .ok (.if_icmp .ge 37, 3) := by decide +kernel
theorem dX3_tossed_26 : decode cX3_tossed 26 = .ok (.lload_n 1, 1) := by decide +kernel
theorem dX3_tossed_27 : decode cX3_tossed 27 = .ok (.iload 7, 2) := by decide +kernel
theorem dX3_tossed_29 : decode cX3_tossed 29 = .ok (.invokestatic 119, 3) := by decide +kernel
theorem dX3_tossed_32 : decode cX3_tossed 32 = .ok (.iload_n 3, 1) := by decide +kernel
theorem dX3_tossed_33 : decode cX3_tossed 33 = .ok (.if_icmp .ne 21, 3) := by decide +kernel
theorem dX3_tossed_36 : decode cX3_tossed 36 = .ok (.lload 5, 2) := by decide +kernel
theorem dX3_tossed_38 : decode cX3_tossed 38 = .ok (.iload 7, 2) := by decide +kernel
theorem dX3_tossed_40 : decode cX3_tossed 40 = .ok (.aload_n 0, 1) := by decide +kernel
theorem dX3_tossed_41 : decode cX3_tossed 41 = .ok (.iload 7, 2) := by decide +kernel
theorem dX3_tossed_43 : decode cX3_tossed 43 = .ok (.iload_n 3, 1) := by decide +kernel
theorem dX3_tossed_44 : decode cX3_tossed 44 = .ok (.iload 4, 2) := by decide +kernel
theorem dX3_tossed_46 : decode cX3_tossed 46 = .ok (.invokevirtual 122, 3) := by decide +kernel
theorem dX3_tossed_49 : decode cX3_tossed 49 = .ok (.invokestatic 73, 3) := by decide +kernel
theorem dX3_tossed_52 : decode cX3_tossed 52 = .ok (.lstore 5, 2) := by decide +kernel
theorem dX3_tossed_54 : decode cX3_tossed 54 = .ok (.iinc 7 1, 3) := by decide +kernel
theorem dX3_tossed_57 : decode cX3_tossed 57 = .ok (.goto (-40), 3) := by decide +kernel
theorem dX3_tossed_60 : decode cX3_tossed 60 = .ok (.lload 5, 2) := by decide +kernel
theorem dX3_tossed_62 : decode cX3_tossed 62 = .ok (.lreturn, 1) := by decide +kernel
set_option maxRecDepth 20000 in
theorem ggX3_flyingBits_X3_liftAt : GoodIn wsX3_flyingBits wsX3_liftAt := goodIn_r _ [6, 7, 8, 9, 5, 10, 11, 12, 13, 14, 15, 16, 17, 18, 19, 20, 21, 22, 23, 24, 58, 59, 60, 61, 62, 63, 64, 65, 66, 67, 68] (by decide +kernel) (by decide +kernel)
set_option maxRecDepth 20000 in
theorem gX3_flyingBits_X3_liftAt : GoodIn wsX3_flyingBits (wsV RX3 111 RX3 yX3_liftAt wsX3_liftAt) := goodIn_app (goodIn_of _ (by decide +kernel)) ggX3_flyingBits_X3_liftAt
set_option maxRecDepth 20000 in
theorem ggX3_flyingBits_X7_placeOf : GoodIn wsX3_flyingBits wsX7_placeOf := goodIn_r _ [27] (by decide +kernel) (by decide +kernel)
set_option maxRecDepth 20000 in
theorem gX3_flyingBits_X7_placeOf : GoodIn wsX3_flyingBits (va_wsS RX3 119 yX7_placeOf wsX7_placeOf) := goodIn_app (goodIn_of _ (by decide +kernel)) ggX3_flyingBits_X7_placeOf
set_option maxRecDepth 20000 in
theorem ggX3_flyingBits_X3_flight : GoodIn wsX3_flyingBits wsX3_flight := goodIn_r _ [31, 32, 33, 34, 5, 35, 36, 20, 21, 22, 23, 24, 37, 38, 39, 40, 41, 42, 43, 44, 45, 46, 47, 48, 49, 50, 51, 52, 53, 54, 55, 56, 57, 58, 59, 60, 61, 62, 63, 64, 65, 66, 67, 68] (by decide +kernel) (by decide +kernel)
set_option maxRecDepth 20000 in
theorem gX3_flyingBits_X3_flight : GoodIn wsX3_flyingBits (wsV RX3 108 RX3 yX3_flight wsX3_flight) := goodIn_app (goodIn_of _ (by decide +kernel)) ggX3_flyingBits_X3_flight
theorem dX3_flyingBits_0 : decode cX3_flyingBits 0 = .ok (.aload_n 0, 1) := by decide +kernel
theorem dX3_flyingBits_1 : decode cX3_flyingBits 1 = .ok (.lload_n 1, 1) := by decide +kernel
theorem dX3_flyingBits_2 : decode cX3_flyingBits 2 = .ok (.iload_n 3, 1) := by decide +kernel
theorem dX3_flyingBits_3 : decode cX3_flyingBits 3 = .ok (.invokevirtual 111, 3) := by decide +kernel
theorem dX3_flyingBits_6 : decode cX3_flyingBits 6 = .ok (.istore 4, 2) := by decide +kernel
theorem dX3_flyingBits_8 : decode cX3_flyingBits 8 = .ok (.iconst 0, 1) := by decide +kernel
theorem dX3_flyingBits_9 : decode cX3_flyingBits 9 = .ok (.istore 5, 2) := by decide +kernel
theorem dX3_flyingBits_11 : decode cX3_flyingBits 11 = .ok (.iconst 0, 1) := by decide +kernel
theorem dX3_flyingBits_12 : decode cX3_flyingBits 12 = .ok (.istore 6, 2) := by decide +kernel
theorem dX3_flyingBits_14 : decode cX3_flyingBits 14 = .ok (.iload 6, 2) := by decide +kernel
theorem dX3_flyingBits_16 : decode cX3_flyingBits 16 = .ok (.aload_n 0, 1) := by decide +kernel
theorem dX3_flyingBits_17 : decode cX3_flyingBits 17 = .ok (.getfield 37, 3) := by decide +kernel
theorem dX3_flyingBits_20 : decode cX3_flyingBits 20 = .ok (.if_icmp .ge 40, 3) := by decide +kernel
theorem dX3_flyingBits_23 : decode cX3_flyingBits 23 = .ok (.lload_n 1, 1) := by decide +kernel
theorem dX3_flyingBits_24 : decode cX3_flyingBits 24 = .ok (.iload 6, 2) := by decide +kernel
theorem dX3_flyingBits_26 : decode cX3_flyingBits 26 = .ok (.invokestatic 119, 3) := by decide +kernel
theorem dX3_flyingBits_29 : decode cX3_flyingBits 29 = .ok (.iload_n 3, 1) := by decide +kernel
theorem dX3_flyingBits_30 : decode cX3_flyingBits 30 = .ok (.if_icmp .ne 24, 3) := by decide +kernel
theorem dX3_flyingBits_33 : decode cX3_flyingBits 33 = .ok (.aload_n 0, 1) := by decide +kernel
theorem dX3_flyingBits_34 : decode cX3_flyingBits 34 = .ok (.iload 6, 2) := by decide +kernel
theorem dX3_flyingBits_36 : decode cX3_flyingBits 36 = .ok (.iload_n 3, 1) := by decide +kernel
theorem dX3_flyingBits_37 : decode cX3_flyingBits 37 = .ok (.iload 4, 2) := by decide +kernel
theorem dX3_flyingBits_39 : decode cX3_flyingBits 39 = .ok (.invokevirtual 108, 3) := by decide +kernel
theorem dX3_flyingBits_42 : decode cX3_flyingBits 42 = .ok (.ifCond .le 12, 3) := by decide +kernel
theorem dX3_flyingBits_45 : decode cX3_flyingBits 45 = .ok (.iload 5, 2) := by decide +kernel
theorem dX3_flyingBits_47 : decode cX3_flyingBits 47 = .ok (.iconst 1, 1) := by decide +kernel
theorem dX3_flyingBits_48 : decode cX3_flyingBits 48 = .ok (.iload 6, 2) := by decide +kernel
theorem dX3_flyingBits_50 : decode cX3_flyingBits 50 = .ok (.ishl, 1) := by decide +kernel
theorem dX3_flyingBits_51 : decode cX3_flyingBits 51 = .ok (.ior, 1) := by decide +kernel
theorem dX3_flyingBits_52 : decode cX3_flyingBits 52 = .ok (.istore 5, 2) := by decide +kernel
theorem dX3_flyingBits_54 : decode cX3_flyingBits 54 = .ok (.iinc 6 1, 3) := by decide +kernel
theorem dX3_flyingBits_57 : decode cX3_flyingBits 57 = .ok (.goto (-43), 3) := by decide +kernel
theorem dX3_flyingBits_60 : decode cX3_flyingBits 60 = .ok (.iload 5, 2) := by decide +kernel
theorem dX3_flyingBits_62 : decode cX3_flyingBits 62 = .ok (.ireturn, 1) := by decide +kernel
set_option maxRecDepth 20000 in
theorem ggX3_isTurn_X3_isPerson : GoodIn wsX3_isTurn wsX3_isPerson := goodIn_r _ [5, 6, 7, 8, 9, 10, 11, 12, 13, 14, 15, 16, 17] (by decide +kernel) (by decide +kernel)
set_option maxRecDepth 20000 in
theorem gX3_isTurn_X3_isPerson : GoodIn wsX3_isTurn (wsV RX3 66 RX3 yX3_isPerson wsX3_isPerson) := goodIn_app (goodIn_of _ (by decide +kernel)) ggX3_isTurn_X3_isPerson
theorem dX3_isTurn_0 : decode cX3_isTurn 0 = .ok (.iload_n 1, 1) := by decide +kernel
theorem dX3_isTurn_1 : decode cX3_isTurn 1 = .ok (.iconst 4, 1) := by decide +kernel
theorem dX3_isTurn_2 : decode cX3_isTurn 2 = .ok (.if_icmp .eq 11, 3) := by decide +kernel
theorem dX3_isTurn_5 : decode cX3_isTurn 5 = .ok (.aload_n 0, 1) := by decide +kernel
theorem dX3_isTurn_6 : decode cX3_isTurn 6 = .ok (.iload_n 1, 1) := by decide +kernel
theorem dX3_isTurn_7 : decode cX3_isTurn 7 = .ok (.invokevirtual 66, 3) := by decide +kernel
theorem dX3_isTurn_10 : decode cX3_isTurn 10 = .ok (.ifCond .eq 7, 3) := by decide +kernel
theorem dX3_isTurn_13 : decode cX3_isTurn 13 = .ok (.iconst 1, 1) := by decide +kernel
theorem dX3_isTurn_14 : decode cX3_isTurn 14 = .ok (.goto 4, 3) := by decide +kernel
theorem dX3_isTurn_17 : decode cX3_isTurn 17 = .ok (.iconst 0, 1) := by decide +kernel
theorem dX3_isTurn_18 : decode cX3_isTurn 18 = .ok (.ireturn, 1) := by decide +kernel
set_option maxRecDepth 20000 in
theorem ggX3_turned_X7_later : GoodIn wsX3_turned wsX7_later := goodIn_r _ [4, 5] (by decide +kernel) (by decide +kernel)
set_option maxRecDepth 20000 in
theorem gX3_turned_X7_later : GoodIn wsX3_turned (va_wsS RX3 115 yX7_later wsX7_later) := goodIn_app (goodIn_of _ (by decide +kernel)) ggX3_turned_X7_later
set_option maxRecDepth 20000 in
theorem ggX3_turned_X3_tossed : GoodIn wsX3_turned wsX3_tossed := goodIn_r _ [10, 11, 12, 13, 14, 9, 15, 16, 17, 18, 19, 20, 21, 22, 23, 3, 24, 25, 26, 27, 28, 29, 30, 31, 32, 1, 2, 4, 5, 33, 34, 35, 36, 37, 38, 39, 40, 41, 42, 43, 44, 45, 46, 47, 48, 49, 50, 51, 52, 53, 54, 55, 56, 57, 58, 59, 60, 61, 62, 63, 64, 65, 66, 67, 68, 69, 70, 71, 72, 73, 74, 75, 76, 77, 78, 79, 80, 81, 82, 83, 84, 85] (by decide +kernel) (by decide +kernel)
set_option maxRecDepth 20000 in
theorem gX3_turned_X3_tossed : GoodIn wsX3_turned (wsV RX3 125 RX3 yX3_tossed wsX3_tossed) := goodIn_app (goodIn_of _ (by decide +kernel)) ggX3_turned_X3_tossed
theorem dX3_turned_0 : decode cX3_turned 0 = .ok (.iload_n 3, 1) := by decide +kernel
theorem dX3_turned_1 : decode cX3_turned 1 = .ok (.iconst 4, 1) := by decide +kernel
theorem dX3_turned_2 : decode cX3_turned 2 = .ok (.if_icmp .ne 10, 3) := by decide +kernel
theorem dX3_turned_5 : decode cX3_turned 5 = .ok (.lload_n 1, 1) := by decide +kernel
theorem dX3_turned_6 : decode cX3_turned 6 = .ok (.invokestatic 115, 3) := by decide +kernel
theorem dX3_turned_9 : decode cX3_turned 9 = .ok (.goto 9, 3) := by decide +kernel
theorem dX3_turned_12 : decode cX3_turned 12 = .ok (.aload_n 0, 1) := by decide +kernel
theorem dX3_turned_13 : decode cX3_turned 13 = .ok (.lload_n 1, 1) := by decide +kernel
theorem dX3_turned_14 : decode cX3_turned 14 = .ok (.iload_n 3, 1) := by decide +kernel
theorem dX3_turned_15 : decode cX3_turned 15 = .ok (.invokevirtual 125, 3) := by decide +kernel
theorem dX3_turned_18 : decode cX3_turned 18 = .ok (.lreturn, 1) := by decide +kernel
set_option maxRecDepth 20000 in
theorem ggX3_canPick_X3_isGrain : GoodIn wsX3_canPick wsX3_isGrain := goodIn_r _ [5, 6, 25, 26, 27, 28, 29, 30, 31, 32, 33, 34, 35] (by decide +kernel) (by decide +kernel)
set_option maxRecDepth 20000 in
theorem gX3_canPick_X3_isGrain : GoodIn wsX3_canPick (wsV RX3 129 RX3 yX3_isGrain wsX3_isGrain) := goodIn_app (goodIn_of _ (by decide +kernel)) ggX3_canPick_X3_isGrain
set_option maxRecDepth 20000 in
theorem ggX3_canPick_X3_grainKind : GoodIn wsX3_canPick wsX3_grainKind := goodIn_r _ [10, 11, 25, 26, 27, 28, 29, 30, 31, 32, 33, 34, 35] (by decide +kernel) (by decide +kernel)
set_option maxRecDepth 20000 in
theorem gX3_canPick_X3_grainKind : GoodIn wsX3_canPick (wsV RX3 94 RX3 yX3_grainKind wsX3_grainKind) := goodIn_app (goodIn_of _ (by decide +kernel)) ggX3_canPick_X3_grainKind
set_option maxRecDepth 20000 in
theorem ggX3_canPick_X3_isRight : GoodIn wsX3_canPick wsX3_isRight := goodIn_r _ [15, 16, 17, 18, 19, 20, 21, 22, 4, 23, 24, 25, 26, 27, 28, 29, 30, 31, 32, 33, 34, 35] (by decide +kernel) (by decide +kernel)
set_option maxRecDepth 20000 in
theorem gX3_canPick_X3_isRight : GoodIn wsX3_canPick (wsV RX3 132 RX3 yX3_isRight wsX3_isRight) := goodIn_app (goodIn_of _ (by decide +kernel)) ggX3_canPick_X3_isRight
theorem dX3_canPick_0 : decode cX3_canPick 0 = .ok (.aload_n 0, 1) := by decide +kernel
theorem dX3_canPick_1 : decode cX3_canPick 1 = .ok (.iload_n 3, 1) := by decide +kernel
theorem dX3_canPick_2 : decode cX3_canPick 2 = .ok (.invokevirtual 129, 3) := by decide +kernel
theorem dX3_canPick_5 : decode cX3_canPick 5 = .ok (.ifCond .eq 25, 3) := by decide +kernel
theorem dX3_canPick_8 : decode cX3_canPick 8 = .ok (.aload_n 0, 1) := by decide +kernel
theorem dX3_canPick_9 : decode cX3_canPick 9 = .ok (.iload_n 3, 1) := by decide +kernel
theorem dX3_canPick_10 : decode cX3_canPick 10 = .ok (.invokevirtual 94, 3) := by decide +kernel
theorem dX3_canPick_13 : decode cX3_canPick 13 = .ok (.iconst 3, 1) := by decide +kernel
theorem dX3_canPick_14 : decode cX3_canPick 14 = .ok (.if_icmp .ne 16, 3) := by decide +kernel
theorem dX3_canPick_17 : decode cX3_canPick 17 = .ok (.aload_n 0, 1) := by decide +kernel
theorem dX3_canPick_18 : decode cX3_canPick 18 = .ok (.lload_n 1, 1) := by decide +kernel
theorem dX3_canPick_19 : decode cX3_canPick 19 = .ok (.iload_n 3, 1) := by decide +kernel
theorem dX3_canPick_20 : decode cX3_canPick 20 = .ok (.invokevirtual 132, 3) := by decide +kernel
theorem dX3_canPick_23 : decode cX3_canPick 23 = .ok (.ifCond .ne 7, 3) := by decide +kernel
theorem dX3_canPick_26 : decode cX3_canPick 26 = .ok (.iconst 1, 1) := by decide +kernel
theorem dX3_canPick_27 : decode cX3_canPick 27 = .ok (.goto 4, 3) := by decide +kernel
theorem dX3_canPick_30 : decode cX3_canPick 30 = .ok (.iconst 0, 1) := by decide +kernel
theorem dX3_canPick_31 : decode cX3_canPick 31 = .ok (.ireturn, 1) := by decide +kernel
set_option maxRecDepth 20000 in
theorem ggX3_picked_X3_ownerOf : GoodIn wsX3_picked wsX3_ownerOf := goodIn_r _ [5, 6, 13, 14, 15, 16, 17, 18, 19, 20, 21, 22, 23] (by decide +kernel) (by decide +kernel)
set_option maxRecDepth 20000 in
theorem gX3_picked_X3_ownerOf : GoodIn wsX3_picked (wsV RX3 91 RX3 yX3_ownerOf wsX3_ownerOf) := goodIn_app (goodIn_of _ (by decide +kernel)) ggX3_picked_X3_ownerOf
set_option maxRecDepth 20000 in
theorem ggX3_picked_X7_withPlace : GoodIn wsX3_picked wsX7_withPlace := goodIn_r _ [10, 11, 12] (by decide +kernel) (by decide +kernel)
set_option maxRecDepth 20000 in
theorem gX3_picked_X7_withPlace : GoodIn wsX3_picked (va_wsS RX3 73 yX7_withPlace wsX7_withPlace) := goodIn_app (goodIn_of _ (by decide +kernel)) ggX3_picked_X7_withPlace
theorem dX3_picked_0 : decode cX3_picked 0 = .ok (.lload_n 1, 1) := by decide +kernel
theorem dX3_picked_1 : decode cX3_picked 1 = .ok (.iload_n 3, 1) := by decide +kernel
theorem dX3_picked_2 : decode cX3_picked 2 = .ok (.aload_n 0, 1) := by decide +kernel
theorem dX3_picked_3 : decode cX3_picked 3 = .ok (.iload_n 3, 1) := by decide +kernel
theorem dX3_picked_4 : decode cX3_picked 4 = .ok (.invokevirtual 91, 3) := by decide +kernel
theorem dX3_picked_7 : decode cX3_picked 7 = .ok (.invokestatic 73, 3) := by decide +kernel
theorem dX3_picked_10 : decode cX3_picked 10 = .ok (.lreturn, 1) := by decide +kernel
set_option maxRecDepth 20000 in
theorem ggX3_isRight_X7_placeOf : GoodIn wsX3_isRight wsX7_placeOf := goodIn_r _ [4] (by decide +kernel) (by decide +kernel)
set_option maxRecDepth 20000 in
theorem gX3_isRight_X7_placeOf : GoodIn wsX3_isRight (va_wsS RX3 119 yX7_placeOf wsX7_placeOf) := goodIn_app (goodIn_of _ (by decide +kernel)) ggX3_isRight_X7_placeOf
set_option maxRecDepth 20000 in
theorem ggX3_isRight_X3_ownerOf : GoodIn wsX3_isRight wsX3_ownerOf := goodIn_r _ [9, 10, 11, 12, 13, 14, 15, 16, 17, 18, 19, 20, 21] (by decide +kernel) (by decide +kernel)
set_option maxRecDepth 20000 in
theorem gX3_isRight_X3_ownerOf : GoodIn wsX3_isRight (wsV RX3 91 RX3 yX3_ownerOf wsX3_ownerOf) := goodIn_app (goodIn_of _ (by decide +kernel)) ggX3_isRight_X3_ownerOf
theorem dX3_isRight_0 : decode cX3_isRight 0 = .ok (.lload_n 1, 1) := by decide +kernel
theorem dX3_isRight_1 : decode cX3_isRight 1 = .ok (.iload_n 3, 1) := by decide +kernel
theorem dX3_isRight_2 : decode cX3_isRight 2 = .ok (.invokestatic 119, 3) := by decide +kernel
theorem dX3_isRight_5 : decode cX3_isRight 5 = .ok (.aload_n 0, 1) := by decide +kernel
theorem dX3_isRight_6 : decode cX3_isRight 6 = .ok (.iload_n 3, 1) := by decide +kernel
theorem dX3_isRight_7 : decode cX3_isRight 7 = .ok (.invokevirtual 91, 3) := by decide +kernel
theorem dX3_isRight_10 : decode cX3_isRight 10 = .ok (.if_icmp .ne 7, 3) := by decide +kernel
theorem dX3_isRight_13 : decode cX3_isRight 13 = .ok (.iconst 1, 1) := by decide +kernel
theorem dX3_isRight_14 : decode cX3_isRight 14 = .ok (.goto 4, 3) := by decide +kernel
theorem dX3_isRight_17 : decode cX3_isRight 17 = .ok (.iconst 0, 1) := by decide +kernel
theorem dX3_isRight_18 : decode cX3_isRight 18 = .ok (.ireturn, 1) := by decide +kernel
set_option maxRecDepth 20000 in
theorem ggX3_rightBits_X3_isRight : GoodIn wsX3_rightBits wsX3_isRight := goodIn_r _ [6, 7, 8, 9, 10, 11, 12, 13, 5, 14, 15, 16, 17, 18, 19, 20, 21, 22, 23, 24, 25, 26] (by decide +kernel) (by decide +kernel)
set_option maxRecDepth 20000 in
theorem gX3_rightBits_X3_isRight : GoodIn wsX3_rightBits (wsV RX3 132 RX3 yX3_isRight wsX3_isRight) := goodIn_app (goodIn_of _ (by decide +kernel)) ggX3_rightBits_X3_isRight
theorem dX3_rightBits_0 : decode cX3_rightBits 0 = .ok (.iconst 0, 1) := by decide +kernel
theorem dX3_rightBits_1 : decode cX3_rightBits 1 = .ok (.istore_n 3, 1) := by decide +kernel
theorem dX3_rightBits_2 : decode cX3_rightBits 2 = .ok (.iconst 0, 1) := by decide +kernel
theorem dX3_rightBits_3 : decode cX3_rightBits 3 = .ok (.istore 4, 2) := by decide +kernel
theorem dX3_rightBits_5 : decode cX3_rightBits 5 = .ok (.iload 4, 2) := by decide +kernel
theorem dX3_rightBits_7 : decode cX3_rightBits 7 = .ok (.aload_n 0, 1) := by decide +kernel
theorem dX3_rightBits_8 : decode cX3_rightBits 8 = .ok (.getfield 37, 3) := by decide +kernel
theorem dX3_rightBits_11 : decode cX3_rightBits 11 = .ok (.if_icmp .ge 26, 3) := by decide +kernel
theorem dX3_rightBits_14 : decode cX3_rightBits 14 = .ok (.aload_n 0, 1) := by decide +kernel
theorem dX3_rightBits_15 : decode cX3_rightBits 15 = .ok (.lload_n 1, 1) := by decide +kernel
theorem dX3_rightBits_16 : decode cX3_rightBits 16 = .ok (.iload 4, 2) := by decide +kernel
theorem dX3_rightBits_18 : decode cX3_rightBits 18 = .ok (.invokevirtual 132, 3) := by decide +kernel
theorem dX3_rightBits_21 : decode cX3_rightBits 21 = .ok (.ifCond .eq 10, 3) := by decide +kernel
theorem dX3_rightBits_24 : decode cX3_rightBits 24 = .ok (.iload_n 3, 1) := by decide +kernel
theorem dX3_rightBits_25 : decode cX3_rightBits 25 = .ok (.iconst 1, 1) := by decide +kernel
theorem dX3_rightBits_26 : decode cX3_rightBits 26 = .ok (.iload 4, 2) := by decide +kernel
theorem dX3_rightBits_28 : decode cX3_rightBits 28 = .ok (.ishl, 1) := by decide +kernel
theorem dX3_rightBits_29 : decode cX3_rightBits 29 = .ok (.ior, 1) := by decide +kernel
theorem dX3_rightBits_30 : decode cX3_rightBits 30 = .ok (.istore_n 3, 1) := by decide +kernel
theorem dX3_rightBits_31 : decode cX3_rightBits 31 = .ok (.iinc 4 1, 3) := by decide +kernel
theorem dX3_rightBits_34 : decode cX3_rightBits 34 = .ok (.goto (-29), 3) := by decide +kernel
theorem dX3_rightBits_37 : decode cX3_rightBits 37 = .ok (.iload_n 3, 1) := by decide +kernel
theorem dX3_rightBits_38 : decode cX3_rightBits 38 = .ok (.ireturn, 1) := by decide +kernel
set_option maxRecDepth 20000 in
theorem ggX3_lyingBits_X7_placeOf : GoodIn wsX3_lyingBits wsX7_placeOf := goodIn_r _ [5] (by decide +kernel) (by decide +kernel)
set_option maxRecDepth 20000 in
theorem gX3_lyingBits_X7_placeOf : GoodIn wsX3_lyingBits (va_wsS RX3 119 yX7_placeOf wsX7_placeOf) := goodIn_app (goodIn_of _ (by decide +kernel)) ggX3_lyingBits_X7_placeOf
