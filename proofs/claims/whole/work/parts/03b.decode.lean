theorem dX3_lyingBits_0 : decode cX3_lyingBits 0 = .ok (.iconst 0, 1) := by decide +kernel
theorem dX3_lyingBits_1 : decode cX3_lyingBits 1 = .ok (.istore 4, 2) := by decide +kernel
theorem dX3_lyingBits_3 : decode cX3_lyingBits 3 = .ok (.iconst 0, 1) := by decide +kernel
theorem dX3_lyingBits_4 : decode cX3_lyingBits 4 = .ok (.istore 5, 2) := by decide +kernel
theorem dX3_lyingBits_6 : decode cX3_lyingBits 6 = .ok (.iload 5, 2) := by decide +kernel
theorem dX3_lyingBits_8 : decode cX3_lyingBits 8 = .ok (.aload_n 0, 1) := by decide +kernel
theorem dX3_lyingBits_9 : decode cX3_lyingBits 9 = .ok (.getfield 37, 3) := by decide +kernel
theorem dX3_lyingBits_12 : decode cX3_lyingBits 12 = .ok (.if_icmp .ge 28, 3) := by decide +kernel
theorem dX3_lyingBits_15 : decode cX3_lyingBits 15 = .ok (.lload_n 1, 1) := by decide +kernel
theorem dX3_lyingBits_16 : decode cX3_lyingBits 16 = .ok (.iload 5, 2) := by decide +kernel
theorem dX3_lyingBits_18 : decode cX3_lyingBits 18 = .ok (.invokestatic 119, 3) := by decide +kernel
theorem dX3_lyingBits_21 : decode cX3_lyingBits 21 = .ok (.iload_n 3, 1) := by decide +kernel
theorem dX3_lyingBits_22 : decode cX3_lyingBits 22 = .ok (.if_icmp .ne 12, 3) := by decide +kernel
theorem dX3_lyingBits_25 : decode cX3_lyingBits 25 = .ok (.iload 4, 2) := by decide +kernel
theorem dX3_lyingBits_27 : decode cX3_lyingBits 27 = .ok (.iconst 1, 1) := by decide +kernel
theorem dX3_lyingBits_28 : decode cX3_lyingBits 28 = .ok (.iload 5, 2) := by decide +kernel
theorem dX3_lyingBits_30 : decode cX3_lyingBits 30 = .ok (.ishl, 1) := by decide +kernel
theorem dX3_lyingBits_31 : decode cX3_lyingBits 31 = .ok (.ior, 1) := by decide +kernel
theorem dX3_lyingBits_32 : decode cX3_lyingBits 32 = .ok (.istore 4, 2) := by decide +kernel
theorem dX3_lyingBits_34 : decode cX3_lyingBits 34 = .ok (.iinc 5 1, 3) := by decide +kernel
theorem dX3_lyingBits_37 : decode cX3_lyingBits 37 = .ok (.goto (-31), 3) := by decide +kernel
theorem dX3_lyingBits_40 : decode cX3_lyingBits 40 = .ok (.iload 4, 2) := by decide +kernel
theorem dX3_lyingBits_42 : decode cX3_lyingBits 42 = .ok (.ireturn, 1) := by decide +kernel
set_option maxRecDepth 20000 in
theorem ggX3_isClean_X3_lyingBits : GoodIn wsX3_isClean wsX3_lyingBits := goodIn_r _ [5, 6, 7, 8, 9, 10, 24, 25, 26, 27, 28, 29, 30, 31, 32, 33, 34] (by decide +kernel) (by decide +kernel)
set_option maxRecDepth 20000 in
theorem gX3_isClean_X3_lyingBits : GoodIn wsX3_isClean (wsV RX3 136 RX3 yX3_lyingBits wsX3_lyingBits) := goodIn_app (goodIn_of _ (by decide +kernel)) ggX3_isClean_X3_lyingBits
set_option maxRecDepth 20000 in
theorem ggX3_isClean_X3_rightBits : GoodIn wsX3_isClean wsX3_rightBits := goodIn_r _ [14, 6, 15, 16, 17, 4, 18, 7, 8, 9, 10, 19, 20, 21, 22, 23, 24, 25, 26, 27, 28, 29, 30, 31, 32, 33, 34] (by decide +kernel) (by decide +kernel)
set_option maxRecDepth 20000 in
theorem gX3_isClean_X3_rightBits : GoodIn wsX3_isClean (wsV RX3 139 RX3 yX3_rightBits wsX3_rightBits) := goodIn_app (goodIn_of _ (by decide +kernel)) ggX3_isClean_X3_rightBits
theorem dX3_isClean_0 : decode cX3_isClean 0 = .ok (.aload_n 0, 1) := by decide +kernel
theorem dX3_isClean_1 : decode cX3_isClean 1 = .ok (.lload_n 1, 1) := by decide +kernel
theorem dX3_isClean_2 : decode cX3_isClean 2 = .ok (.iload_n 3, 1) := by decide +kernel
theorem dX3_isClean_3 : decode cX3_isClean 3 = .ok (.invokevirtual 136, 3) := by decide +kernel
theorem dX3_isClean_6 : decode cX3_isClean 6 = .ok (.aload_n 0, 1) := by decide +kernel
theorem dX3_isClean_7 : decode cX3_isClean 7 = .ok (.lload_n 1, 1) := by decide +kernel
theorem dX3_isClean_8 : decode cX3_isClean 8 = .ok (.invokevirtual 139, 3) := by decide +kernel
theorem dX3_isClean_11 : decode cX3_isClean 11 = .ok (.iconst (-1), 1) := by decide +kernel
theorem dX3_isClean_12 : decode cX3_isClean 12 = .ok (.ixor, 1) := by decide +kernel
theorem dX3_isClean_13 : decode cX3_isClean 13 = .ok (.iand, 1) := by decide +kernel
theorem dX3_isClean_14 : decode cX3_isClean 14 = .ok (.ifCond .ne 7, 3) := by decide +kernel
theorem dX3_isClean_17 : decode cX3_isClean 17 = .ok (.iconst 1, 1) := by decide +kernel
theorem dX3_isClean_18 : decode cX3_isClean 18 = .ok (.goto 4, 3) := by decide +kernel
theorem dX3_isClean_21 : decode cX3_isClean 21 = .ok (.iconst 0, 1) := by decide +kernel
theorem dX3_isClean_22 : decode cX3_isClean 22 = .ok (.ireturn, 1) := by decide +kernel
set_option maxRecDepth 20000 in
theorem ggX3_cleanBits_X3_isClean : GoodIn wsX3_cleanBits wsX3_isClean := goodIn_r _ [6, 7, 8, 9, 5, 10, 11, 12, 13, 14, 15, 16, 17, 18, 19, 20, 21, 22, 23, 24, 25, 26, 27, 28, 29, 30, 31, 32, 33, 34, 35, 36, 37, 38, 39] (by decide +kernel) (by decide +kernel)
set_option maxRecDepth 20000 in
theorem gX3_cleanBits_X3_isClean : GoodIn wsX3_cleanBits (wsV RX3 142 RX3 yX3_isClean wsX3_isClean) := goodIn_app (goodIn_of _ (by decide +kernel)) ggX3_cleanBits_X3_isClean
theorem dX3_cleanBits_0 : decode cX3_cleanBits 0 = .ok (.iconst 0, 1) := by decide +kernel
theorem dX3_cleanBits_1 : decode cX3_cleanBits 1 = .ok (.istore_n 3, 1) := by decide +kernel
theorem dX3_cleanBits_2 : decode cX3_cleanBits 2 = .ok (.iconst 0, 1) := by decide +kernel
theorem dX3_cleanBits_3 : decode cX3_cleanBits 3 = .ok (.istore 4, 2) := by decide +kernel
theorem dX3_cleanBits_5 : decode cX3_cleanBits 5 = .ok (.iload 4, 2) := by decide +kernel
theorem dX3_cleanBits_7 : decode cX3_cleanBits 7 = .ok (.aload_n 0, 1) := by decide +kernel
theorem dX3_cleanBits_8 : decode cX3_cleanBits 8 = .ok (.getfield 30, 3) := by decide +kernel
theorem dX3_cleanBits_11 : decode cX3_cleanBits 11 = .ok (.if_icmp .ge 26, 3) := by decide +kernel
theorem dX3_cleanBits_14 : decode cX3_cleanBits 14 = .ok (.aload_n 0, 1) := by decide +kernel
theorem dX3_cleanBits_15 : decode cX3_cleanBits 15 = .ok (.lload_n 1, 1) := by decide +kernel
theorem dX3_cleanBits_16 : decode cX3_cleanBits 16 = .ok (.iload 4, 2) := by decide +kernel
theorem dX3_cleanBits_18 : decode cX3_cleanBits 18 = .ok (.invokevirtual 142, 3) := by decide +kernel
theorem dX3_cleanBits_21 : decode cX3_cleanBits 21 = .ok (.ifCond .eq 10, 3) := by decide +kernel
theorem dX3_cleanBits_24 : decode cX3_cleanBits 24 = .ok (.iload_n 3, 1) := by decide +kernel
theorem dX3_cleanBits_25 : decode cX3_cleanBits 25 = .ok (.iconst 1, 1) := by decide +kernel
theorem dX3_cleanBits_26 : decode cX3_cleanBits 26 = .ok (.iload 4, 2) := by decide +kernel
theorem dX3_cleanBits_28 : decode cX3_cleanBits 28 = .ok (.ishl, 1) := by decide +kernel
theorem dX3_cleanBits_29 : decode cX3_cleanBits 29 = .ok (.ior, 1) := by decide +kernel
theorem dX3_cleanBits_30 : decode cX3_cleanBits 30 = .ok (.istore_n 3, 1) := by decide +kernel
theorem dX3_cleanBits_31 : decode cX3_cleanBits 31 = .ok (.iinc 4 1, 3) := by decide +kernel
theorem dX3_cleanBits_34 : decode cX3_cleanBits 34 = .ok (.goto (-29), 3) := by decide +kernel
theorem dX3_cleanBits_37 : decode cX3_cleanBits 37 = .ok (.iload_n 3, 1) := by decide +kernel
theorem dX3_cleanBits_38 : decode cX3_cleanBits 38 = .ok (.ireturn, 1) := by decide +kernel
set_option maxRecDepth 20000 in
theorem ggX3_weightOfBits_X3_weightOf : GoodIn wsX3_weightOfBits wsX3_weightOf := goodIn_r _ [6, 7, 8, 9, 10, 11, 12, 13, 14, 15, 16, 17, 18] (by decide +kernel) (by decide +kernel)
set_option maxRecDepth 20000 in
theorem gX3_weightOfBits_X3_weightOf : GoodIn wsX3_weightOfBits (wsV RX3 97 RX3 yX3_weightOf wsX3_weightOf) := goodIn_app (goodIn_of _ (by decide +kernel)) ggX3_weightOfBits_X3_weightOf
theorem dX3_weightOfBits_0 : decode cX3_weightOfBits 0 = .ok (.iconst 0, 1) := by decide +kernel
theorem dX3_weightOfBits_1 : decode cX3_weightOfBits 1 = .ok (.istore_n 2, 1) := by decide +kernel
theorem dX3_weightOfBits_2 : decode cX3_weightOfBits 2 = .ok (.iconst 0, 1) := by decide +kernel
theorem dX3_weightOfBits_3 : decode cX3_weightOfBits 3 = .ok (.istore_n 3, 1) := by decide +kernel
theorem dX3_weightOfBits_4 : decode cX3_weightOfBits 4 = .ok (.iload_n 3, 1) := by decide +kernel
theorem dX3_weightOfBits_5 : decode cX3_weightOfBits 5 = .ok (.aload_n 0, 1) := by decide +kernel
theorem dX3_weightOfBits_6 : decode cX3_weightOfBits 6 = .ok (.getfield 37, 3) := by decide +kernel
theorem dX3_weightOfBits_9 : decode cX3_weightOfBits 9 = .ok (.if_icmp .ge 26, 3) := by decide +kernel
theorem dX3_weightOfBits_12 : decode cX3_weightOfBits 12 = .ok (.iload_n 1, 1) := by decide +kernel
theorem dX3_weightOfBits_13 : decode cX3_weightOfBits 13 = .ok (.iload_n 3, 1) := by decide +kernel
theorem dX3_weightOfBits_14 : decode cX3_weightOfBits 14 = .ok (.ishr, 1) := by decide +kernel
theorem dX3_weightOfBits_15 : decode cX3_weightOfBits 15 = .ok (.iconst 1, 1) := by decide +kernel
theorem dX3_weightOfBits_16 : decode cX3_weightOfBits 16 = .ok (.iand, 1) := by decide +kernel
theorem dX3_weightOfBits_17 : decode cX3_weightOfBits 17 = .ok (.iconst 1, 1) := by decide +kernel
theorem dX3_weightOfBits_18 : decode cX3_weightOfBits 18 = .ok (.if_icmp .ne 11, 3) := by decide +kernel
theorem dX3_weightOfBits_21 : decode cX3_weightOfBits 21 = .ok (.iload_n 2, 1) := by decide +kernel
theorem dX3_weightOfBits_22 : decode cX3_weightOfBits 22 = .ok (.aload_n 0, 1) := by decide +kernel
theorem dX3_weightOfBits_23 : decode cX3_weightOfBits 23 = .ok (.iload_n 3, 1) := by decide +kernel
theorem dX3_weightOfBits_24 : decode cX3_weightOfBits 24 = .ok (.invokevirtual 97, 3) := by decide +kernel
theorem dX3_weightOfBits_27 : decode cX3_weightOfBits 27 = .ok (.iadd, 1) := by decide +kernel
theorem dX3_weightOfBits_28 : decode cX3_weightOfBits 28 = .ok (.istore_n 2, 1) := by decide +kernel
theorem dX3_weightOfBits_29 : decode cX3_weightOfBits 29 = .ok (.iinc 3 1, 3) := by decide +kernel
theorem dX3_weightOfBits_32 : decode cX3_weightOfBits 32 = .ok (.goto (-28), 3) := by decide +kernel
theorem dX3_weightOfBits_35 : decode cX3_weightOfBits 35 = .ok (.iload_n 2, 1) := by decide +kernel
theorem dX3_weightOfBits_36 : decode cX3_weightOfBits 36 = .ok (.ireturn, 1) := by decide +kernel
set_option maxRecDepth 20000 in
theorem ggX3_guiltOfBits_X3_grainKind : GoodIn wsX3_guiltOfBits wsX3_grainKind := goodIn_r _ [6, 7, 17, 18, 19, 20, 21, 22, 23, 24, 25, 26, 27] (by decide +kernel) (by decide +kernel)
set_option maxRecDepth 20000 in
theorem gX3_guiltOfBits_X3_grainKind : GoodIn wsX3_guiltOfBits (wsV RX3 94 RX3 yX3_grainKind wsX3_grainKind) := goodIn_app (goodIn_of _ (by decide +kernel)) ggX3_guiltOfBits_X3_grainKind
set_option maxRecDepth 20000 in
theorem ggX3_guiltOfBits_X3_weightOfBits : GoodIn wsX3_guiltOfBits wsX3_weightOfBits := goodIn_r _ [11, 1, 12, 13, 14, 5, 15, 16, 17, 18, 19, 20, 21, 22, 23, 24, 25, 26, 27] (by decide +kernel) (by decide +kernel)
set_option maxRecDepth 20000 in
theorem gX3_guiltOfBits_X3_weightOfBits : GoodIn wsX3_guiltOfBits (wsV RX3 145 RX3 yX3_weightOfBits wsX3_weightOfBits) := goodIn_app (goodIn_of _ (by decide +kernel)) ggX3_guiltOfBits_X3_weightOfBits
theorem dX3_guiltOfBits_0 : decode cX3_guiltOfBits 0 = .ok (.iload_n 1, 1) := by decide +kernel
theorem dX3_guiltOfBits_1 : decode cX3_guiltOfBits 1 = .ok (.istore_n 2, 1) := by decide +kernel
theorem dX3_guiltOfBits_2 : decode cX3_guiltOfBits 2 = .ok (.iconst 0, 1) := by decide +kernel
theorem dX3_guiltOfBits_3 : decode cX3_guiltOfBits 3 = .ok (.istore_n 3, 1) := by decide +kernel
theorem dX3_guiltOfBits_4 : decode cX3_guiltOfBits 4 = .ok (.iload_n 3, 1) := by decide +kernel
theorem dX3_guiltOfBits_5 : decode cX3_guiltOfBits 5 = .ok (.aload_n 0, 1) := by decide +kernel
theorem dX3_guiltOfBits_6 : decode cX3_guiltOfBits 6 = .ok (.getfield 37, 3) := by decide +kernel
theorem dX3_guiltOfBits_9 : decode cX3_guiltOfBits 9 = .ok (.if_icmp .ge 26, 3) := by decide +kernel
theorem dX3_guiltOfBits_12 : decode cX3_guiltOfBits 12 = .ok (.aload_n 0, 1) := by decide +kernel
theorem dX3_guiltOfBits_13 : decode cX3_guiltOfBits 13 = .ok (.iload_n 3, 1) := by decide +kernel
theorem dX3_guiltOfBits_14 : decode cX3_guiltOfBits 14 = .ok (.invokevirtual 94, 3) := by decide +kernel
theorem dX3_guiltOfBits_17 : decode cX3_guiltOfBits 17 = .ok (.iconst 1, 1) := by decide +kernel
theorem dX3_guiltOfBits_18 : decode cX3_guiltOfBits 18 = .ok (.if_icmp .ne 11, 3) := by decide +kernel
theorem dX3_guiltOfBits_21 : decode cX3_guiltOfBits 21 = .ok (.iload_n 2, 1) := by decide +kernel
theorem dX3_guiltOfBits_22 : decode cX3_guiltOfBits 22 = .ok (.iconst 1, 1) := by decide +kernel
theorem dX3_guiltOfBits_23 : decode cX3_guiltOfBits 23 = .ok (.iload_n 3, 1) := by decide +kernel
theorem dX3_guiltOfBits_24 : decode cX3_guiltOfBits 24 = .ok (.ishl, 1) := by decide +kernel
theorem dX3_guiltOfBits_25 : decode cX3_guiltOfBits 25 = .ok (.iconst (-1), 1) := by decide +kernel
theorem dX3_guiltOfBits_26 : decode cX3_guiltOfBits 26 = .ok (.ixor, 1) := by decide +kernel
theorem dX3_guiltOfBits_27 : decode cX3_guiltOfBits 27 = .ok (.iand, 1) := by decide +kernel
theorem dX3_guiltOfBits_28 : decode cX3_guiltOfBits 28 = .ok (.istore_n 2, 1) := by decide +kernel
theorem dX3_guiltOfBits_29 : decode cX3_guiltOfBits 29 = .ok (.iinc 3 1, 3) := by decide +kernel
theorem dX3_guiltOfBits_32 : decode cX3_guiltOfBits 32 = .ok (.goto (-28), 3) := by decide +kernel
theorem dX3_guiltOfBits_35 : decode cX3_guiltOfBits 35 = .ok (.aload_n 0, 1) := by decide +kernel
theorem dX3_guiltOfBits_36 : decode cX3_guiltOfBits 36 = .ok (.iload_n 2, 1) := by decide +kernel
theorem dX3_guiltOfBits_37 : decode cX3_guiltOfBits 37 = .ok (.invokevirtual 145, 3) := by decide +kernel
theorem dX3_guiltOfBits_40 : decode cX3_guiltOfBits 40 = .ok (.ireturn, 1) := by decide +kernel
set_option maxRecDepth 20000 in
theorem ggX3_guiltOf_X3_lyingBits : GoodIn wsX3_guiltOf wsX3_lyingBits := goodIn_r _ [5, 6, 7, 8, 9, 10, 29, 30, 31, 32, 33, 34, 35, 36, 37, 38, 39] (by decide +kernel) (by decide +kernel)
set_option maxRecDepth 20000 in
theorem gX3_guiltOf_X3_lyingBits : GoodIn wsX3_guiltOf (wsV RX3 136 RX3 yX3_lyingBits wsX3_lyingBits) := goodIn_app (goodIn_of _ (by decide +kernel)) ggX3_guiltOf_X3_lyingBits
set_option maxRecDepth 20000 in
theorem ggX3_guiltOf_X3_guiltOfBits : GoodIn wsX3_guiltOf wsX3_guiltOfBits := goodIn_r _ [14, 6, 15, 16, 17, 4, 18, 19, 20, 21, 22, 23, 24, 25, 26, 27, 28, 29, 30, 31, 32, 33, 34, 35, 36, 37, 38, 39] (by decide +kernel) (by decide +kernel)
set_option maxRecDepth 20000 in
theorem gX3_guiltOf_X3_guiltOfBits : GoodIn wsX3_guiltOf (wsV RX3 148 RX3 yX3_guiltOfBits wsX3_guiltOfBits) := goodIn_app (goodIn_of _ (by decide +kernel)) ggX3_guiltOf_X3_guiltOfBits
theorem dX3_guiltOf_0 : decode cX3_guiltOf 0 = .ok (.aload_n 0, 1) := by decide +kernel
theorem dX3_guiltOf_1 : decode cX3_guiltOf 1 = .ok (.aload_n 0, 1) := by decide +kernel
theorem dX3_guiltOf_2 : decode cX3_guiltOf 2 = .ok (.lload_n 1, 1) := by decide +kernel
theorem dX3_guiltOf_3 : decode cX3_guiltOf 3 = .ok (.iload_n 3, 1) := by decide +kernel
theorem dX3_guiltOf_4 : decode cX3_guiltOf 4 = .ok (.invokevirtual 136, 3) := by decide +kernel
theorem dX3_guiltOf_7 : decode cX3_guiltOf 7 = .ok (.invokevirtual 148, 3) := by decide +kernel
theorem dX3_guiltOf_10 : decode cX3_guiltOf 10 = .ok (.ireturn, 1) := by decide +kernel
set_option maxRecDepth 20000 in
theorem ggX3_ownWeight_X3_lyingBits : GoodIn wsX3_ownWeight wsX3_lyingBits := goodIn_r _ [5, 6, 7, 8, 9, 10, 33, 34, 35, 36, 37, 38, 39, 40, 41, 42, 43] (by decide +kernel) (by decide +kernel)
set_option maxRecDepth 20000 in
theorem gX3_ownWeight_X3_lyingBits : GoodIn wsX3_ownWeight (wsV RX3 136 RX3 yX3_lyingBits wsX3_lyingBits) := goodIn_app (goodIn_of _ (by decide +kernel)) ggX3_ownWeight_X3_lyingBits
set_option maxRecDepth 20000 in
theorem ggX3_ownWeight_X3_rightBits : GoodIn wsX3_ownWeight wsX3_rightBits := goodIn_r _ [14, 6, 15, 16, 17, 4, 18, 7, 8, 9, 10, 19, 20, 21, 22, 23, 33, 34, 35, 36, 37, 38, 39, 40, 41, 42, 43] (by decide +kernel) (by decide +kernel)
set_option maxRecDepth 20000 in
theorem gX3_ownWeight_X3_rightBits : GoodIn wsX3_ownWeight (wsV RX3 139 RX3 yX3_rightBits wsX3_rightBits) := goodIn_app (goodIn_of _ (by decide +kernel)) ggX3_ownWeight_X3_rightBits
set_option maxRecDepth 20000 in
theorem ggX3_ownWeight_X3_weightOfBits : GoodIn wsX3_ownWeight wsX3_weightOfBits := goodIn_r _ [27, 6, 28, 29, 30, 4, 31, 32, 33, 34, 35, 36, 37, 38, 39, 40, 41, 42, 43] (by decide +kernel) (by decide +kernel)
set_option maxRecDepth 20000 in
theorem gX3_ownWeight_X3_weightOfBits : GoodIn wsX3_ownWeight (wsV RX3 145 RX3 yX3_weightOfBits wsX3_weightOfBits) := goodIn_app (goodIn_of _ (by decide +kernel)) ggX3_ownWeight_X3_weightOfBits
theorem dX3_ownWeight_0 : decode cX3_ownWeight 0 = .ok (.aload_n 0, 1) := by decide +kernel
theorem dX3_ownWeight_1 : decode cX3_ownWeight 1 = .ok (.aload_n 0, 1) := by decide +kernel
theorem dX3_ownWeight_2 : decode cX3_ownWeight 2 = .ok (.lload_n 1, 1) := by decide +kernel
theorem dX3_ownWeight_3 : decode cX3_ownWeight 3 = .ok (.iload_n 3, 1) := by decide +kernel
theorem dX3_ownWeight_4 : decode cX3_ownWeight 4 = .ok (.invokevirtual 136, 3) := by decide +kernel
theorem dX3_ownWeight_7 : decode cX3_ownWeight 7 = .ok (.aload_n 0, 1) := by decide +kernel
theorem dX3_ownWeight_8 : decode cX3_ownWeight 8 = .ok (.lload_n 1, 1) := by decide +kernel
theorem dX3_ownWeight_9 : decode cX3_ownWeight 9 = .ok (.invokevirtual 139, 3) := by decide +kernel
theorem dX3_ownWeight_12 : decode cX3_ownWeight 12 = .ok (.iand, 1) := by decide +kernel
theorem dX3_ownWeight_13 : decode cX3_ownWeight 13 = .ok (.invokevirtual 145, 3) := by decide +kernel
theorem dX3_ownWeight_16 : decode cX3_ownWeight 16 = .ok (.ireturn, 1) := by decide +kernel
set_option maxRecDepth 20000 in
theorem ggX3_goneWeight_X3_lyingBits : GoodIn wsX3_goneWeight wsX3_lyingBits := goodIn_r _ [5, 6, 7, 8, 9, 10, 20, 21, 22, 23, 24, 25, 26, 27, 28, 29, 30] (by decide +kernel) (by decide +kernel)
set_option maxRecDepth 20000 in
theorem gX3_goneWeight_X3_lyingBits : GoodIn wsX3_goneWeight (wsV RX3 136 RX3 yX3_lyingBits wsX3_lyingBits) := goodIn_app (goodIn_of _ (by decide +kernel)) ggX3_goneWeight_X3_lyingBits
set_option maxRecDepth 20000 in
theorem ggX3_goneWeight_X3_weightOfBits : GoodIn wsX3_goneWeight wsX3_weightOfBits := goodIn_r _ [14, 6, 15, 16, 17, 4, 18, 19, 20, 21, 22, 23, 24, 25, 26, 27, 28, 29, 30] (by decide +kernel) (by decide +kernel)
set_option maxRecDepth 20000 in
theorem gX3_goneWeight_X3_weightOfBits : GoodIn wsX3_goneWeight (wsV RX3 145 RX3 yX3_weightOfBits wsX3_weightOfBits) := goodIn_app (goodIn_of _ (by decide +kernel)) ggX3_goneWeight_X3_weightOfBits
theorem dX3_goneWeight_0 : decode cX3_goneWeight 0 = .ok (.aload_n 0, 1) := by decide +kernel
theorem dX3_goneWeight_1 : decode cX3_goneWeight 1 = .ok (.aload_n 0, 1) := by decide +kernel
theorem dX3_goneWeight_2 : decode cX3_goneWeight 2 = .ok (.lload_n 1, 1) := by decide +kernel
theorem dX3_goneWeight_3 : decode cX3_goneWeight 3 = .ok (.bipush 8, 2) := by decide +kernel
theorem dX3_goneWeight_5 : decode cX3_goneWeight 5 = .ok (.invokevirtual 136, 3) := by decide +kernel
theorem dX3_goneWeight_8 : decode cX3_goneWeight 8 = .ok (.invokevirtual 145, 3) := by decide +kernel
theorem dX3_goneWeight_11 : decode cX3_goneWeight 11 = .ok (.ireturn, 1) := by decide +kernel
set_option maxRecDepth 20000 in
theorem ggX4_isContent_X4_gain : GoodIn wsX4_isContent wsX4_gain := goodIn_r _ [4, 5, 6, 7, 8, 9, 10, 11, 12, 13, 14, 15, 16, 17, 18, 19, 20, 21, 22, 23, 24, 25, 26, 27, 28, 29, 30, 31, 32, 33, 34, 35, 36, 37, 38, 39, 40, 41, 42, 43, 44, 45, 46, 47, 48, 49, 50, 51, 52, 53, 54, 55, 56, 57, 58, 59, 60, 61, 62, 63, 64, 65, 66, 67, 68, 69, 70, 71, 72, 73, 74, 75, 76, 77, 78, 79, 80, 81, 82, 83, 84, 85, 86, 87, 88] (by decide +kernel) (by decide +kernel)
set_option maxRecDepth 20000 in
theorem gX4_isContent_X4_gain : GoodIn wsX4_isContent (va_wsS RX4 7 yX4_gain wsX4_gain) := goodIn_app (goodIn_of _ (by decide +kernel)) ggX4_isContent_X4_gain
theorem dX4_isContent_0 : decode cX4_isContent 0 = .ok (.aload_n 0, 1) := by decide +kernel
theorem dX4_isContent_1 : decode cX4_isContent 1 = .ok (.lload_n 1, 1) := by decide +kernel
theorem dX4_isContent_2 : decode cX4_isContent 2 = .ok (.iload_n 3, 1) := by decide +kernel
theorem dX4_isContent_3 : decode cX4_isContent 3 = .ok (.iload 4, 2) := by decide +kernel
theorem dX4_isContent_5 : decode cX4_isContent 5 = .ok (.iload 5, 2) := by decide +kernel
theorem dX4_isContent_7 : decode cX4_isContent 7 = .ok (.invokestatic 7, 3) := by decide +kernel
theorem dX4_isContent_10 : decode cX4_isContent 10 = .ok (.aload_n 0, 1) := by decide +kernel
theorem dX4_isContent_11 : decode cX4_isContent 11 = .ok (.lload_n 1, 1) := by decide +kernel
theorem dX4_isContent_12 : decode cX4_isContent 12 = .ok (.iload_n 3, 1) := by decide +kernel
theorem dX4_isContent_13 : decode cX4_isContent 13 = .ok (.iconst 1, 1) := by decide +kernel
theorem dX4_isContent_14 : decode cX4_isContent 14 = .ok (.iload 4, 2) := by decide +kernel
theorem dX4_isContent_16 : decode cX4_isContent 16 = .ok (.isub, 1) := by decide +kernel
theorem dX4_isContent_17 : decode cX4_isContent 17 = .ok (.iload 5, 2) := by decide +kernel
theorem dX4_isContent_19 : decode cX4_isContent 19 = .ok (.invokestatic 7, 3) := by decide +kernel
theorem dX4_isContent_22 : decode cX4_isContent 22 = .ok (.if_icmp .lt 7, 3) := by decide +kernel
theorem dX4_isContent_25 : decode cX4_isContent 25 = .ok (.iconst 1, 1) := by decide +kernel
theorem dX4_isContent_26 : decode cX4_isContent 26 = .ok (.goto 4, 3) := by decide +kernel
theorem dX4_isContent_29 : decode cX4_isContent 29 = .ok (.iconst 0, 1) := by decide +kernel
theorem dX4_isContent_30 : decode cX4_isContent 30 = .ok (.ireturn, 1) := by decide +kernel
set_option maxRecDepth 20000 in
theorem ggX4_gain_X7_withHolder : GoodIn wsX4_gain wsX7_withHolder := goodIn_r _ [4, 5] (by decide +kernel) (by decide +kernel)
set_option maxRecDepth 20000 in
theorem gX4_gain_X7_withHolder : GoodIn wsX4_gain (va_wsS RX4 13 yX7_withHolder wsX7_withHolder) := goodIn_app (goodIn_of _ (by decide +kernel)) ggX4_gain_X7_withHolder
set_option maxRecDepth 20000 in
theorem ggX4_gain_X3_flyingBits : GoodIn wsX4_gain wsX3_flyingBits := goodIn_r _ [10, 11, 12, 13, 14, 9, 15, 16, 17, 18, 19, 20, 21, 22, 23, 3, 24, 25, 26, 27, 28, 29, 30, 31, 32, 33, 34, 35, 36, 37, 38, 39, 40, 41, 42, 43, 44, 45, 46, 47, 48, 49, 50, 51, 52, 53, 54, 55, 56, 57, 58, 59, 60, 61, 62, 63, 64, 65, 74, 75, 76, 77, 78, 79, 80, 81, 82, 83, 84] (by decide +kernel) (by decide +kernel)
set_option maxRecDepth 20000 in
theorem gX4_gain_X3_flyingBits : GoodIn wsX4_gain (wsV RX4 19 RX3 yX3_flyingBits wsX3_flyingBits) := goodIn_app (goodIn_of _ (by decide +kernel)) ggX4_gain_X3_flyingBits
set_option maxRecDepth 20000 in
theorem ggX4_gain_X3_guiltOfBits : GoodIn wsX4_gain wsX3_guiltOfBits := goodIn_r _ [69, 11, 50, 51, 52, 9, 53, 54, 70, 71, 72, 73, 55, 56, 57, 58, 59, 74, 75, 76, 77, 78, 79, 80, 81, 82, 83, 84] (by decide +kernel) (by decide +kernel)
set_option maxRecDepth 20000 in
theorem gX4_gain_X3_guiltOfBits : GoodIn wsX4_gain (wsV RX4 25 RX3 yX3_guiltOfBits wsX3_guiltOfBits) := goodIn_app (goodIn_of _ (by decide +kernel)) ggX4_gain_X3_guiltOfBits
theorem dX4_gain_0 : decode cX4_gain 0 = .ok (.iload 4, 2) := by decide +kernel
theorem dX4_gain_2 : decode cX4_gain 2 = .ok (.iconst 1, 1) := by decide +kernel
theorem dX4_gain_3 : decode cX4_gain 3 = .ok (.if_icmp .ne 12, 3) := by decide +kernel
theorem dX4_gain_6 : decode cX4_gain 6 = .ok (.iload 5, 2) := by decide +kernel
theorem dX4_gain_8 : decode cX4_gain 8 = .ok (.iconst 1, 1) := by decide +kernel
theorem dX4_gain_9 : decode cX4_gain 9 = .ok (.if_icmp .ne 6, 3) := by decide +kernel
theorem dX4_gain_12 : decode cX4_gain 12 = .ok (.bipush (-2), 2) := by decide +kernel
theorem dX4_gain_14 : decode cX4_gain 14 = .ok (.ireturn, 1) := by decide +kernel
theorem dX4_gain_15 : decode cX4_gain 15 = .ok (.iload 4, 2) := by decide +kernel
theorem dX4_gain_17 : decode cX4_gain 17 = .ok (.iconst 1, 1) := by decide +kernel
theorem dX4_gain_18 : decode cX4_gain 18 = .ok (.if_icmp .ne 11, 3) := by decide +kernel
theorem dX4_gain_21 : decode cX4_gain 21 = .ok (.lload_n 1, 1) := by decide +kernel
theorem dX4_gain_22 : decode cX4_gain 22 = .ok (.iload_n 3, 1) := by decide +kernel
theorem dX4_gain_23 : decode cX4_gain 23 = .ok (.invokestatic 13, 3) := by decide +kernel
theorem dX4_gain_26 : decode cX4_gain 26 = .ok (.goto 4, 3) := by decide +kernel
theorem dX4_gain_29 : decode cX4_gain 29 = .ok (.lload_n 1, 1) := by decide +kernel
theorem dX4_gain_30 : decode cX4_gain 30 = .ok (.lstore 6, 2) := by decide +kernel
theorem dX4_gain_32 : decode cX4_gain 32 = .ok (.aload_n 0, 1) := by decide +kernel
theorem dX4_gain_33 : decode cX4_gain 33 = .ok (.aload_n 0, 1) := by decide +kernel
theorem dX4_gain_34 : decode cX4_gain 34 = .ok (.lload 6, 2) := by decide +kernel
theorem dX4_gain_36 : decode cX4_gain 36 = .ok (.iload_n 3, 1) := by decide +kernel
theorem dX4_gain_37 : decode cX4_gain 37 = .ok (.invokevirtual 19, 3) := by decide +kernel
theorem dX4_gain_40 : decode cX4_gain 40 = .ok (.invokevirtual 25, 3) := by decide +kernel
theorem dX4_gain_43 : decode cX4_gain 43 = .ok (.ireturn, 1) := by decide +kernel
set_option maxRecDepth 20000 in
theorem ggX5_waysToBeGone_X7_placeOf : GoodIn wsX5_waysToBeGone wsX7_placeOf := goodIn_r _ [4] (by decide +kernel) (by decide +kernel)
set_option maxRecDepth 20000 in
theorem gX5_waysToBeGone_X7_placeOf : GoodIn wsX5_waysToBeGone (va_wsS RX5 9 yX7_placeOf wsX7_placeOf) := goodIn_app (goodIn_of _ (by decide +kernel)) ggX5_waysToBeGone_X7_placeOf
set_option maxRecDepth 20000 in
theorem ggX5_waysToBeGone_X5_moved : GoodIn wsX5_waysToBeGone wsX5_moved := goodIn_r _ [8, 1, 2, 3, 4, 9, 10, 11, 12, 13, 14, 15, 16, 17, 18, 19, 20, 21, 22, 23, 24, 25, 26, 27, 28, 29, 30, 31, 32, 33, 34, 35, 36, 37, 38, 39, 40, 41, 42, 43, 44, 45, 46, 47, 48, 49, 50, 51, 52, 53, 54, 55, 56, 57, 58, 59, 60, 61, 62, 63, 64, 65, 66, 67, 68, 69, 70, 71, 72, 73, 76, 77, 78, 79, 80, 81, 82, 83, 84, 85, 86] (by decide +kernel) (by decide +kernel)
set_option maxRecDepth 20000 in
theorem gX5_waysToBeGone_X5_moved : GoodIn wsX5_waysToBeGone (va_wsS RX5 17 yX5_moved wsX5_moved) := goodIn_app (goodIn_of _ (by decide +kernel)) ggX5_waysToBeGone_X5_moved
set_option maxRecDepth 20000 in
theorem ggX5_waysToBeGone_X5_waysToBeGone : GoodIn wsX5_waysToBeGone wsX5_waysToBeGone := goodIn_r _ [0, 1, 2, 3, 4, 5, 6, 7, 8, 9, 10, 11, 12, 13, 14, 15, 16, 17, 18, 19, 20, 21, 22, 23, 24, 25, 26, 27, 28, 29, 30, 31, 32, 33, 34, 35, 36, 37, 38, 39, 40, 41, 42, 43, 44, 45, 46, 47, 48, 49, 50, 51, 52, 53, 54, 55, 56, 57, 58, 59, 60, 61, 62, 63, 64, 65, 66, 67, 68, 69, 70, 71, 72, 73, 74, 75, 76, 77, 78, 79, 80, 81, 82, 83, 84, 85, 86] (by decide +kernel) (by decide +kernel)
set_option maxRecDepth 20000 in
theorem gX5_waysToBeGone_X5_waysToBeGone : GoodIn wsX5_waysToBeGone (va_wsS RX5 21 yX5_waysToBeGone wsX5_waysToBeGone) := goodIn_app (goodIn_of _ (by decide +kernel)) ggX5_waysToBeGone_X5_waysToBeGone
theorem dX5_waysToBeGone_0 : decode cX5_waysToBeGone 0 = .ok (.iload 4, 2) := by decide +kernel
theorem dX5_waysToBeGone_2 : decode cX5_waysToBeGone 2 = .ok (.ifCond .gt 19, 3) := by decide +kernel
theorem dX5_waysToBeGone_5 : decode cX5_waysToBeGone 5 = .ok (.lload_n 1, 1) := by decide +kernel
theorem dX5_waysToBeGone_6 : decode cX5_waysToBeGone 6 = .ok (.iload_n 3, 1) := by decide +kernel
theorem dX5_waysToBeGone_7 : decode cX5_waysToBeGone 7 = .ok (.invokestatic 9, 3) := by decide +kernel
theorem dX5_waysToBeGone_10 : decode cX5_waysToBeGone 10 = .ok (.bipush 8, 2) := by decide +kernel
theorem dX5_waysToBeGone_12 : decode cX5_waysToBeGone 12 = .ok (.if_icmp .ne 7, 3) := by decide +kernel
theorem dX5_waysToBeGone_15 : decode cX5_waysToBeGone 15 = .ok (.iconst 1, 1) := by decide +kernel
theorem dX5_waysToBeGone_16 : decode cX5_waysToBeGone 16 = .ok (.goto 4, 3) := by decide +kernel
theorem dX5_waysToBeGone_19 : decode cX5_waysToBeGone 19 = .ok (.iconst 0, 1) := by decide +kernel
theorem dX5_waysToBeGone_20 : decode cX5_waysToBeGone 20 = .ok (.ireturn, 1) := by decide +kernel
theorem dX5_waysToBeGone_21 : decode cX5_waysToBeGone 21 = .ok (.iload 5, 2) := by decide +kernel
theorem dX5_waysToBeGone_23 : decode cX5_waysToBeGone 23 = .ok (.aload_n 0, 1) := by decide +kernel
theorem dX5_waysToBeGone_24 : decode cX5_waysToBeGone 24 = .ok (.aload_n 0, 1) := by decide +kernel
theorem dX5_waysToBeGone_25 : decode cX5_waysToBeGone 25 = .ok (.lload_n 1, 1) := by decide +kernel
theorem dX5_waysToBeGone_26 : decode cX5_waysToBeGone 26 = .ok (.iload_n 3, 1) := by decide +kernel
theorem dX5_waysToBeGone_27 : decode cX5_waysToBeGone 27 = .ok (.iconst 3, 1) := by decide +kernel
theorem dX5_waysToBeGone_28 : decode cX5_waysToBeGone 28 = .ok (.invokestatic 17, 3) := by decide +kernel
theorem dX5_waysToBeGone_31 : decode cX5_waysToBeGone 31 = .ok (.iload_n 3, 1) := by decide +kernel
theorem dX5_waysToBeGone_32 : decode cX5_waysToBeGone 32 = .ok (.iload 4, 2) := by decide +kernel
theorem dX5_waysToBeGone_34 : decode cX5_waysToBeGone 34 = .ok (.iconst 1, 1) := by decide +kernel
theorem dX5_waysToBeGone_35 : decode cX5_waysToBeGone 35 = .ok (.isub, 1) := by decide +kernel
theorem dX5_waysToBeGone_36 : decode cX5_waysToBeGone 36 = .ok (.iload 5, 2) := by decide +kernel
theorem dX5_waysToBeGone_38 : decode cX5_waysToBeGone 38 = .ok (.invokestatic 21, 3) := by decide +kernel
theorem dX5_waysToBeGone_41 : decode cX5_waysToBeGone 41 = .ok (.imul, 1) := by decide +kernel
theorem dX5_waysToBeGone_42 : decode cX5_waysToBeGone 42 = .ok (.bipush 10, 2) := by decide +kernel
theorem dX5_waysToBeGone_44 : decode cX5_waysToBeGone 44 = .ok (.iload 5, 2) := by decide +kernel
theorem dX5_waysToBeGone_46 : decode cX5_waysToBeGone 46 = .ok (.isub, 1) := by decide +kernel
theorem dX5_waysToBeGone_47 : decode cX5_waysToBeGone 47 = .ok (.aload_n 0, 1) := by decide +kernel
theorem dX5_waysToBeGone_48 : decode cX5_waysToBeGone 48 = .ok (.aload_n 0, 1) := by decide +kernel
theorem dX5_waysToBeGone_49 : decode cX5_waysToBeGone 49 = .ok (.lload_n 1, 1) := by decide +kernel
theorem dX5_waysToBeGone_50 : decode cX5_waysToBeGone 50 = .ok (.iload_n 3, 1) := by decide +kernel
theorem dX5_waysToBeGone_51 : decode cX5_waysToBeGone 51 = .ok (.iconst 0, 1) := by decide +kernel
theorem dX5_waysToBeGone_52 : decode cX5_waysToBeGone 52 = .ok (.invokestatic 17, 3) := by decide +kernel
theorem dX5_waysToBeGone_55 : decode cX5_waysToBeGone 55 = .ok (.iload_n 3, 1) := by decide +kernel
theorem dX5_waysToBeGone_56 : decode cX5_waysToBeGone 56 = .ok (.iload 4, 2) := by decide +kernel
theorem dX5_waysToBeGone_58 : decode cX5_waysToBeGone 58 = .ok (.iconst 1, 1) := by decide +kernel
theorem dX5_waysToBeGone_59 : decode cX5_waysToBeGone 59 = .ok (.isub, 1) := by decide +kernel
theorem dX5_waysToBeGone_60 : decode cX5_waysToBeGone 60 = .ok (.iload 5, 2) := by decide +kernel
theorem dX5_waysToBeGone_62 : decode cX5_waysToBeGone 62 = .ok (.invokestatic 21, 3) := by decide +kernel
theorem dX5_waysToBeGone_65 : decode cX5_waysToBeGone 65 = .ok (.imul, 1) := by decide +kernel
theorem dX5_waysToBeGone_66 : decode cX5_waysToBeGone 66 = .ok (.iadd, 1) := by decide +kernel
theorem dX5_waysToBeGone_67 : decode cX5_waysToBeGone 67 = .ok (.ireturn, 1) := by decide +kernel
set_option maxRecDepth 20000 in
theorem ggX5_moved_X7_placeOf : GoodIn wsX5_moved wsX7_placeOf := goodIn_r _ [4] (by decide +kernel) (by decide +kernel)
set_option maxRecDepth 20000 in
theorem gX5_moved_X7_placeOf : GoodIn wsX5_moved (va_wsS RX5 9 yX7_placeOf wsX7_placeOf) := goodIn_app (goodIn_of _ (by decide +kernel)) ggX5_moved_X7_placeOf
set_option maxRecDepth 20000 in
theorem ggX5_moved_X3_liftAt : GoodIn wsX5_moved wsX3_liftAt := goodIn_r _ [9, 10, 11, 12, 8, 13, 14, 15, 16, 17, 3, 18, 19, 20, 21, 22, 23, 24, 25, 26, 70, 71, 72, 73, 74, 75, 76, 77, 78, 79, 80] (by decide +kernel) (by decide +kernel)
set_option maxRecDepth 20000 in
theorem gX5_moved_X3_liftAt : GoodIn wsX5_moved (wsV RX5 25 RX3 yX3_liftAt wsX3_liftAt) := goodIn_app (goodIn_of _ (by decide +kernel)) ggX5_moved_X3_liftAt
set_option maxRecDepth 20000 in
theorem ggX5_moved_X3_landing : GoodIn wsX5_moved wsX3_landing := goodIn_r _ [30, 31, 32, 33, 8, 34, 35, 36, 37, 38, 39, 22, 23, 24, 25, 26, 40, 41, 42, 43, 44, 45, 46, 47, 48, 49, 50, 51, 52, 53, 54, 55, 56, 57, 58, 59, 60, 70, 71, 72, 73, 74, 75, 76, 77, 78, 79, 80] (by decide +kernel) (by decide +kernel)
set_option maxRecDepth 20000 in
theorem gX5_moved_X3_landing : GoodIn wsX5_moved (wsV RX5 30 RX3 yX3_landing wsX3_landing) := goodIn_app (goodIn_of _ (by decide +kernel)) ggX5_moved_X3_landing
set_option maxRecDepth 20000 in
theorem ggX5_moved_X7_withPlace : GoodIn wsX5_moved wsX7_withPlace := goodIn_r _ [63, 64, 65] (by decide +kernel) (by decide +kernel)
set_option maxRecDepth 20000 in
theorem gX5_moved_X7_withPlace : GoodIn wsX5_moved (va_wsS RX5 34 yX7_withPlace wsX7_withPlace) := goodIn_app (goodIn_of _ (by decide +kernel)) ggX5_moved_X7_withPlace
set_option maxRecDepth 20000 in
theorem ggX5_moved_X7_later : GoodIn wsX5_moved wsX7_later := goodIn_r _ [68, 69] (by decide +kernel) (by decide +kernel)
set_option maxRecDepth 20000 in
theorem gX5_moved_X7_later : GoodIn wsX5_moved (va_wsS RX5 38 yX7_later wsX7_later) := goodIn_app (goodIn_of _ (by decide +kernel)) ggX5_moved_X7_later
theorem dX5_moved_0 : decode cX5_moved 0 = .ok (.lload_n 1, 1) := by decide +kernel
theorem dX5_moved_1 : decode cX5_moved 1 = .ok (.iload_n 3, 1) := by decide +kernel
theorem dX5_moved_2 : decode cX5_moved 2 = .ok (.invokestatic 9, 3) := by decide +kernel
theorem dX5_moved_5 : decode cX5_moved 5 = .ok (.istore 5, 2) := by decide +kernel
theorem dX5_moved_7 : decode cX5_moved 7 = .ok (.aload_n 0, 1) := by decide +kernel
theorem dX5_moved_8 : decode cX5_moved 8 = .ok (.lload_n 1, 1) := by decide +kernel
theorem dX5_moved_9 : decode cX5_moved 9 = .ok (.iload 5, 2) := by decide +kernel
theorem dX5_moved_11 : decode cX5_moved 11 = .ok (.invokevirtual 25, 3) := by decide +kernel
theorem dX5_moved_14 : decode cX5_moved 14 = .ok (.iload 4, 2) := by decide +kernel
theorem dX5_moved_16 : decode cX5_moved 16 = .ok (.iadd, 1) := by decide +kernel
theorem dX5_moved_17 : decode cX5_moved 17 = .ok (.istore 6, 2) := by decide +kernel
theorem dX5_moved_19 : decode cX5_moved 19 = .ok (.lload_n 1, 1) := by decide +kernel
theorem dX5_moved_20 : decode cX5_moved 20 = .ok (.iload_n 3, 1) := by decide +kernel
theorem dX5_moved_21 : decode cX5_moved 21 = .ok (.aload_n 0, 1) := by decide +kernel
theorem dX5_moved_22 : decode cX5_moved 22 = .ok (.iload_n 3, 1) := by decide +kernel
theorem dX5_moved_23 : decode cX5_moved 23 = .ok (.iload 5, 2) := by decide +kernel
theorem dX5_moved_25 : decode cX5_moved 25 = .ok (.iload 6, 2) := by decide +kernel
theorem dX5_moved_27 : decode cX5_moved 27 = .ok (.invokevirtual 30, 3) := by decide +kernel
theorem dX5_moved_30 : decode cX5_moved 30 = .ok (.invokestatic 34, 3) := by decide +kernel
theorem dX5_moved_33 : decode cX5_moved 33 = .ok (.invokestatic 38, 3) := by decide +kernel
theorem dX5_moved_36 : decode cX5_moved 36 = .ok (.lreturn, 1) := by decide +kernel
theorem dX5_nextChance_0 : decode cX5_nextChance 0 = .ok (.lload_n 0, 1) := by decide +kernel
theorem dX5_nextChance_1 : decode cX5_nextChance 1 = .ok (.ldc2_w 42, 3) := by decide +kernel
theorem dX5_nextChance_4 : decode cX5_nextChance 4 = .ok (.lmul, 1) := by decide +kernel
theorem dX5_nextChance_5 : decode cX5_nextChance 5 = .ok (.ldc2_w 44, 3) := by decide +kernel
theorem dX5_nextChance_8 : decode cX5_nextChance 8 = .ok (.ladd, 1) := by decide +kernel
theorem dX5_nextChance_9 : decode cX5_nextChance 9 = .ok (.lreturn, 1) := by decide +kernel
set_option maxRecDepth 20000 in
theorem ggX5_yearBehind_X7_later : GoodIn wsX5_yearBehind wsX7_later := goodIn_r _ [4, 5] (by decide +kernel) (by decide +kernel)
set_option maxRecDepth 20000 in
theorem gX5_yearBehind_X7_later : GoodIn wsX5_yearBehind (va_wsS RX5 38 yX7_later wsX7_later) := goodIn_app (goodIn_of _ (by decide +kernel)) ggX5_yearBehind_X7_later
set_option maxRecDepth 20000 in
theorem ggX5_yearBehind_X3_isPerson : GoodIn wsX5_yearBehind wsX3_isPerson := goodIn_r _ [10, 11, 81, 82, 83, 84, 85, 86, 87, 88, 89, 90, 91] (by decide +kernel) (by decide +kernel)
set_option maxRecDepth 20000 in
theorem gX5_yearBehind_X3_isPerson : GoodIn wsX5_yearBehind (wsV RX5 46 RX3 yX3_isPerson wsX3_isPerson) := goodIn_app (goodIn_of _ (by decide +kernel)) ggX5_yearBehind_X3_isPerson
set_option maxRecDepth 20000 in
theorem ggX5_yearBehind_X3_tossed : GoodIn wsX5_yearBehind wsX3_tossed := goodIn_r _ [15, 16, 17, 18, 19, 9, 20, 21, 22, 23, 24, 25, 26, 27, 28, 3, 29, 30, 31, 32, 33, 34, 35, 36, 37, 38, 2, 4, 5, 39, 40, 41, 42, 43, 44, 45, 46, 47, 48, 49, 50, 51, 52, 53, 54, 55, 7, 8, 10, 11, 56, 57, 58, 59, 60, 61, 62, 63, 64, 65, 66, 67, 68, 69, 70, 71, 72, 73, 74, 75, 76, 81, 82, 83, 84, 85, 86, 87, 88, 89, 90, 91] (by decide +kernel) (by decide +kernel)
set_option maxRecDepth 20000 in
theorem gX5_yearBehind_X3_tossed : GoodIn wsX5_yearBehind (wsV RX5 50 RX3 yX3_tossed wsX3_tossed) := goodIn_app (goodIn_of _ (by decide +kernel)) ggX5_yearBehind_X3_tossed
set_option maxRecDepth 20000 in
theorem ggX5_yearBehind_X7_withHolder : GoodIn wsX5_yearBehind wsX7_withHolder := goodIn_r _ [79, 80] (by decide +kernel) (by decide +kernel)
set_option maxRecDepth 20000 in
theorem gX5_yearBehind_X7_withHolder : GoodIn wsX5_yearBehind (va_wsS RX5 54 yX7_withHolder wsX7_withHolder) := goodIn_app (goodIn_of _ (by decide +kernel)) ggX5_yearBehind_X7_withHolder
theorem dX5_yearBehind_0 : decode cX5_yearBehind 0 = .ok (.iload_n 3, 1) := by decide +kernel
theorem dX5_yearBehind_1 : decode cX5_yearBehind 1 = .ok (.bipush 8, 2) := by decide +kernel
theorem dX5_yearBehind_3 : decode cX5_yearBehind 3 = .ok (.if_icmp .ne 8, 3) := by decide +kernel
theorem dX5_yearBehind_6 : decode cX5_yearBehind 6 = .ok (.lload_n 1, 1) := by decide +kernel
theorem dX5_yearBehind_7 : decode cX5_yearBehind 7 = .ok (.invokestatic 38, 3) := by decide +kernel
theorem dX5_yearBehind_10 : decode cX5_yearBehind 10 = .ok (.lreturn, 1) := by decide +kernel
theorem dX5_yearBehind_11 : decode cX5_yearBehind 11 = .ok (.iload_n 3, 1) := by decide +kernel
theorem dX5_yearBehind_12 : decode cX5_yearBehind 12 = .ok (.iconst 4, 1) := by decide +kernel
theorem dX5_yearBehind_13 : decode cX5_yearBehind 13 = .ok (.if_icmp .ge 22, 3) := by decide +kernel
theorem dX5_yearBehind_16 : decode cX5_yearBehind 16 = .ok (.aload_n 0, 1) := by decide +kernel
theorem dX5_yearBehind_17 : decode cX5_yearBehind 17 = .ok (.iload_n 3, 1) := by decide +kernel
theorem dX5_yearBehind_18 : decode cX5_yearBehind 18 = .ok (.invokevirtual 46, 3) := by decide +kernel
theorem dX5_yearBehind_21 : decode cX5_yearBehind 21 = .ok (.ifCond .eq 12, 3) := by decide +kernel
theorem dX5_yearBehind_24 : decode cX5_yearBehind 24 = .ok (.aload_n 0, 1) := by decide +kernel
theorem dX5_yearBehind_25 : decode cX5_yearBehind 25 = .ok (.lload_n 1, 1) := by decide +kernel
theorem dX5_yearBehind_26 : decode cX5_yearBehind 26 = .ok (.iload_n 3, 1) := by decide +kernel
theorem dX5_yearBehind_27 : decode cX5_yearBehind 27 = .ok (.invokevirtual 50, 3) := by decide +kernel
theorem dX5_yearBehind_30 : decode cX5_yearBehind 30 = .ok (.goto 4, 3) := by decide +kernel
theorem dX5_yearBehind_33 : decode cX5_yearBehind 33 = .ok (.lload_n 1, 1) := by decide +kernel
theorem dX5_yearBehind_34 : decode cX5_yearBehind 34 = .ok (.lreturn, 1) := by decide +kernel
theorem dX5_yearBehind_35 : decode cX5_yearBehind 35 = .ok (.aload_n 0, 1) := by decide +kernel
theorem dX5_yearBehind_36 : decode cX5_yearBehind 36 = .ok (.iload_n 3, 1) := by decide +kernel
theorem dX5_yearBehind_37 : decode cX5_yearBehind 37 = .ok (.iconst 4, 1) := by decide +kernel
theorem dX5_yearBehind_38 : decode cX5_yearBehind 38 = .ok (.isub, 1) := by decide +kernel
theorem dX5_yearBehind_39 : decode cX5_yearBehind 39 = .ok (.invokevirtual 46, 3) := by decide +kernel
theorem dX5_yearBehind_42 : decode cX5_yearBehind 42 = .ok (.ifCond .eq 13, 3) := by decide +kernel
theorem dX5_yearBehind_45 : decode cX5_yearBehind 45 = .ok (.lload_n 1, 1) := by decide +kernel
theorem dX5_yearBehind_46 : decode cX5_yearBehind 46 = .ok (.iload_n 3, 1) := by decide +kernel
theorem dX5_yearBehind_47 : decode cX5_yearBehind 47 = .ok (.iconst 4, 1) := by decide +kernel
theorem dX5_yearBehind_48 : decode cX5_yearBehind 48 = .ok (.isub, 1) := by decide +kernel
theorem dX5_yearBehind_49 : decode cX5_yearBehind 49 = .ok (.invokestatic 54, 3) := by decide +kernel
theorem dX5_yearBehind_52 : decode cX5_yearBehind 52 = .ok (.goto 4, 3) := by decide +kernel
theorem dX5_yearBehind_55 : decode cX5_yearBehind 55 = .ok (.lload_n 1, 1) := by decide +kernel
theorem dX5_yearBehind_56 : decode cX5_yearBehind 56 = .ok (.lreturn, 1) := by decide +kernel
theorem dX6_factorial_0 : decode cX6_factorial 0 = .ok (.iconst 1, 1) := by decide +kernel
theorem dX6_factorial_1 : decode cX6_factorial 1 = .ok (.istore_n 1, 1) := by decide +kernel
theorem dX6_factorial_2 : decode cX6_factorial 2 = .ok (.iconst 2, 1) := by decide +kernel
theorem dX6_factorial_3 : decode cX6_factorial 3 = .ok (.istore_n 2, 1) := by decide +kernel
theorem dX6_factorial_4 : decode cX6_factorial 4 = .ok (.iload_n 2, 1) := by decide +kernel
theorem dX6_factorial_5 : decode cX6_factorial 5 = .ok (.iload_n 0, 1) := by decide +kernel
theorem dX6_factorial_6 : decode cX6_factorial 6 = .ok (.if_icmp .gt 18, 3) := by decide +kernel
theorem dX6_factorial_9 : decode cX6_factorial 9 = .ok (.iload_n 2, 1) := by decide +kernel
theorem dX6_factorial_10 : decode cX6_factorial 10 = .ok (.iconst 4, 1) := by decide +kernel
theorem dX6_factorial_11 : decode cX6_factorial 11 = .ok (.if_icmp .gt 13, 3) := by decide +kernel
theorem dX6_factorial_14 : decode cX6_factorial 14 = .ok (.iload_n 1, 1) := by decide +kernel
theorem dX6_factorial_15 : decode cX6_factorial 15 = .ok (.iload_n 2, 1) := by decide +kernel
theorem dX6_factorial_16 : decode cX6_factorial 16 = .ok (.imul, 1) := by decide +kernel
theorem dX6_factorial_17 : decode cX6_factorial 17 = .ok (.istore_n 1, 1) := by decide +kernel
theorem dX6_factorial_18 : decode cX6_factorial 18 = .ok (.iinc 2 1, 3) := by decide +kernel
theorem dX6_factorial_21 : decode cX6_factorial 21 = .ok (.goto (-17), 3) := by decide +kernel
theorem dX6_factorial_24 : decode cX6_factorial 24 = .ok (.iload_n 1, 1) := by decide +kernel
theorem dX6_factorial_25 : decode cX6_factorial 25 = .ok (.ireturn, 1) := by decide +kernel
set_option maxRecDepth 20000 in
theorem ggX6_leastTerms_X6_commonDivisor : GoodIn wsX6_leastTerms wsX6_commonDivisor := goodIn_r _ [11] (by decide +kernel) (by decide +kernel)
set_option maxRecDepth 20000 in
theorem gX6_leastTerms_X6_commonDivisor : GoodIn wsX6_leastTerms (va_wsS RX6 15 yX6_commonDivisor wsX6_commonDivisor) := goodIn_app (goodIn_of _ (by decide +kernel)) ggX6_leastTerms_X6_commonDivisor
theorem dX6_leastTerms_0 : decode cX6_leastTerms 0 = .ok (.iconst 1, 1) := by decide +kernel
theorem dX6_leastTerms_1 : decode cX6_leastTerms 1 = .ok (.iload_n 0, 1) := by decide +kernel
theorem dX6_leastTerms_2 : decode cX6_leastTerms 2 = .ok (.invokestatic 9, 3) := by decide +kernel
theorem dX6_leastTerms_5 : decode cX6_leastTerms 5 = .ok (.iload_n 1, 1) := by decide +kernel
theorem dX6_leastTerms_6 : decode cX6_leastTerms 6 = .ok (.invokestatic 9, 3) := by decide +kernel
theorem dX6_leastTerms_9 : decode cX6_leastTerms 9 = .ok (.invokestatic 15, 3) := by decide +kernel
theorem dX6_leastTerms_12 : decode cX6_leastTerms 12 = .ok (.invokestatic 21, 3) := by decide +kernel
theorem dX6_leastTerms_15 : decode cX6_leastTerms 15 = .ok (.istore_n 3, 1) := by decide +kernel
theorem dX6_leastTerms_16 : decode cX6_leastTerms 16 = .ok (.iload_n 2, 1) := by decide +kernel
theorem dX6_leastTerms_17 : decode cX6_leastTerms 17 = .ok (.ifCond .eq 7, 3) := by decide +kernel
theorem dX6_leastTerms_20 : decode cX6_leastTerms 20 = .ok (.iload_n 0, 1) := by decide +kernel
theorem dX6_leastTerms_21 : decode cX6_leastTerms 21 = .ok (.goto 4, 3) := by decide +kernel
theorem dX6_leastTerms_24 : decode cX6_leastTerms 24 = .ok (.iload_n 1, 1) := by decide +kernel
theorem dX6_leastTerms_25 : decode cX6_leastTerms 25 = .ok (.iload_n 3, 1) := by decide +kernel
theorem dX6_leastTerms_26 : decode cX6_leastTerms 26 = .ok (.idiv, 1) := by decide +kernel
theorem dX6_leastTerms_27 : decode cX6_leastTerms 27 = .ok (.ireturn, 1) := by decide +kernel
theorem dX6_commonDivisor_0 : decode cX6_commonDivisor 0 = .ok (.iload_n 0, 1) := by decide +kernel
theorem dX6_commonDivisor_1 : decode cX6_commonDivisor 1 = .ok (.istore_n 2, 1) := by decide +kernel
theorem dX6_commonDivisor_2 : decode cX6_commonDivisor 2 = .ok (.iload_n 1, 1) := by decide +kernel
theorem dX6_commonDivisor_3 : decode cX6_commonDivisor 3 = .ok (.istore_n 3, 1) := by decide +kernel
theorem dX6_commonDivisor_4 : decode cX6_commonDivisor 4 = .ok (.iconst 0, 1) := by decide +kernel
theorem dX6_commonDivisor_5 : decode cX6_commonDivisor 5 = .ok (.istore 4, 2) := by decide +kernel
theorem dX6_commonDivisor_7 : decode cX6_commonDivisor 7 = .ok (.iload 4, 2) := by decide +kernel
theorem dX6_commonDivisor_9 : decode cX6_commonDivisor 9 = .ok (.bipush 64, 2) := by decide +kernel
theorem dX6_commonDivisor_11 : decode cX6_commonDivisor 11 = .ok (.if_icmp .ge 23, 3) := by decide +kernel
theorem dX6_commonDivisor_14 : decode cX6_commonDivisor 14 = .ok (.iload_n 3, 1) := by decide +kernel
theorem dX6_commonDivisor_15 : decode cX6_commonDivisor 15 = .ok (.ifCond .eq 19, 3) := by decide +kernel
theorem dX6_commonDivisor_18 : decode cX6_commonDivisor 18 = .ok (.iload_n 2, 1) := by decide +kernel
theorem dX6_commonDivisor_19 : decode cX6_commonDivisor 19 = .ok (.iload_n 3, 1) := by decide +kernel
theorem dX6_commonDivisor_20 : decode cX6_commonDivisor 20 = .ok (.irem, 1) := by decide +kernel
theorem dX6_commonDivisor_21 : decode cX6_commonDivisor 21 = .ok (.istore 5, 2) := by decide +kernel
theorem dX6_commonDivisor_23 : decode cX6_commonDivisor 23 = .ok (.iload_n 3, 1) := by decide +kernel
theorem dX6_commonDivisor_24 : decode cX6_commonDivisor 24 = .ok (.istore_n 2, 1) := by decide +kernel
theorem dX6_commonDivisor_25 : decode cX6_commonDivisor 25 = .ok (.iload 5, 2) := by decide +kernel
theorem dX6_commonDivisor_27 : decode cX6_commonDivisor 27 = .ok (.istore_n 3, 1) := by decide +kernel
theorem dX6_commonDivisor_28 : decode cX6_commonDivisor 28 = .ok (.iinc 4 1, 3) := by decide +kernel
theorem dX6_commonDivisor_31 : decode cX6_commonDivisor 31 = .ok (.goto (-24), 3) := by decide +kernel
theorem dX6_commonDivisor_34 : decode cX6_commonDivisor 34 = .ok (.iload_n 2, 1) := by decide +kernel
theorem dX6_commonDivisor_35 : decode cX6_commonDivisor 35 = .ok (.ireturn, 1) := by decide +kernel
theorem dX7_placeOf_0 : decode cX7_placeOf 0 = .ok (.lload_n 0, 1) := by decide +kernel
theorem dX7_placeOf_1 : decode cX7_placeOf 1 = .ok (.iconst 4, 1) := by decide +kernel
theorem dX7_placeOf_2 : decode cX7_placeOf 2 = .ok (.iload_n 2, 1) := by decide +kernel
theorem dX7_placeOf_3 : decode cX7_placeOf 3 = .ok (.imul, 1) := by decide +kernel
theorem dX7_placeOf_4 : decode cX7_placeOf 4 = .ok (.lushr, 1) := by decide +kernel
theorem dX7_placeOf_5 : decode cX7_placeOf 5 = .ok (.l2i, 1) := by decide +kernel
theorem dX7_placeOf_6 : decode cX7_placeOf 6 = .ok (.bipush 15, 2) := by decide +kernel
theorem dX7_placeOf_8 : decode cX7_placeOf 8 = .ok (.iand, 1) := by decide +kernel
theorem dX7_placeOf_9 : decode cX7_placeOf 9 = .ok (.ireturn, 1) := by decide +kernel
theorem dX7_withPlace_0 : decode cX7_withPlace 0 = .ok (.iconst 4, 1) := by decide +kernel
theorem dX7_withPlace_1 : decode cX7_withPlace 1 = .ok (.iload_n 2, 1) := by decide +kernel
theorem dX7_withPlace_2 : decode cX7_withPlace 2 = .ok (.imul, 1) := by decide +kernel
theorem dX7_withPlace_3 : decode cX7_withPlace 3 = .ok (.istore 4, 2) := by decide +kernel
theorem dX7_withPlace_5 : decode cX7_withPlace 5 = .ok (.lload_n 0, 1) := by decide +kernel
theorem dX7_withPlace_6 : decode cX7_withPlace 6 = .ok (.ldc2_w 11, 3) := by decide +kernel
theorem dX7_withPlace_9 : decode cX7_withPlace 9 = .ok (.iload 4, 2) := by decide +kernel
theorem dX7_withPlace_11 : decode cX7_withPlace 11 = .ok (.lshl, 1) := by decide +kernel
theorem dX7_withPlace_12 : decode cX7_withPlace 12 = .ok (.ldc2_w 13, 3) := by decide +kernel
theorem dX7_withPlace_15 : decode cX7_withPlace 15 = .ok (.lxor, 1) := by decide +kernel
theorem dX7_withPlace_16 : decode cX7_withPlace 16 = .ok (.land, 1) := by decide +kernel
theorem dX7_withPlace_17 : decode cX7_withPlace 17 = .ok (.iload_n 3, 1) := by decide +kernel
theorem dX7_withPlace_18 : decode cX7_withPlace 18 = .ok (.i2l, 1) := by decide +kernel
theorem dX7_withPlace_19 : decode cX7_withPlace 19 = .ok (.iload 4, 2) := by decide +kernel
theorem dX7_withPlace_21 : decode cX7_withPlace 21 = .ok (.lshl, 1) := by decide +kernel
theorem dX7_withPlace_22 : decode cX7_withPlace 22 = .ok (.lor, 1) := by decide +kernel
theorem dX7_withPlace_23 : decode cX7_withPlace 23 = .ok (.lreturn, 1) := by decide +kernel
theorem dX7_holderOf_0 : decode cX7_holderOf 0 = .ok (.lload_n 0, 1) := by decide +kernel
theorem dX7_holderOf_1 : decode cX7_holderOf 1 = .ok (.bipush 28, 2) := by decide +kernel
theorem dX7_holderOf_3 : decode cX7_holderOf 3 = .ok (.lushr, 1) := by decide +kernel
theorem dX7_holderOf_4 : decode cX7_holderOf 4 = .ok (.l2i, 1) := by decide +kernel
theorem dX7_holderOf_5 : decode cX7_holderOf 5 = .ok (.bipush 15, 2) := by decide +kernel
theorem dX7_holderOf_7 : decode cX7_holderOf 7 = .ok (.iand, 1) := by decide +kernel
theorem dX7_holderOf_8 : decode cX7_holderOf 8 = .ok (.istore_n 2, 1) := by decide +kernel
theorem dX7_holderOf_9 : decode cX7_holderOf 9 = .ok (.iload_n 2, 1) := by decide +kernel
theorem dX7_holderOf_10 : decode cX7_holderOf 10 = .ok (.bipush 15, 2) := by decide +kernel
theorem dX7_holderOf_12 : decode cX7_holderOf 12 = .ok (.if_icmp .ne 8, 3) := by decide +kernel
theorem dX7_holderOf_15 : decode cX7_holderOf 15 = .ok (.bipush (-9), 2) := by decide +kernel
theorem dX7_holderOf_17 : decode cX7_holderOf 17 = .ok (.goto 4, 3) := by decide +kernel
theorem dX7_holderOf_20 : decode cX7_holderOf 20 = .ok (.iload_n 2, 1) := by decide +kernel
theorem dX7_holderOf_21 : decode cX7_holderOf 21 = .ok (.ireturn, 1) := by decide +kernel
theorem dX7_withHolder_0 : decode cX7_withHolder 0 = .ok (.lload_n 0, 1) := by decide +kernel
theorem dX7_withHolder_1 : decode cX7_withHolder 1 = .ok (.ldc2_w 15, 3) := by decide +kernel
theorem dX7_withHolder_4 : decode cX7_withHolder 4 = .ok (.land, 1) := by decide +kernel
theorem dX7_withHolder_5 : decode cX7_withHolder 5 = .ok (.iload_n 2, 1) := by decide +kernel
theorem dX7_withHolder_6 : decode cX7_withHolder 6 = .ok (.i2l, 1) := by decide +kernel
theorem dX7_withHolder_7 : decode cX7_withHolder 7 = .ok (.bipush 28, 2) := by decide +kernel
theorem dX7_withHolder_9 : decode cX7_withHolder 9 = .ok (.lshl, 1) := by decide +kernel
theorem dX7_withHolder_10 : decode cX7_withHolder 10 = .ok (.lor, 1) := by decide +kernel
theorem dX7_withHolder_11 : decode cX7_withHolder 11 = .ok (.lreturn, 1) := by decide +kernel
theorem dX7_clockOf_0 : decode cX7_clockOf 0 = .ok (.lload_n 0, 1) := by decide +kernel
theorem dX7_clockOf_1 : decode cX7_clockOf 1 = .ok (.bipush 32, 2) := by decide +kernel
theorem dX7_clockOf_3 : decode cX7_clockOf 3 = .ok (.lushr, 1) := by decide +kernel
theorem dX7_clockOf_4 : decode cX7_clockOf 4 = .ok (.l2i, 1) := by decide +kernel
theorem dX7_clockOf_5 : decode cX7_clockOf 5 = .ok (.ireturn, 1) := by decide +kernel
theorem dX7_later_0 : decode cX7_later 0 = .ok (.lload_n 0, 1) := by decide +kernel
theorem dX7_later_1 : decode cX7_later 1 = .ok (.ldc2_w 17, 3) := by decide +kernel
theorem dX7_later_4 : decode cX7_later 4 = .ok (.ladd, 1) := by decide +kernel
theorem dX7_later_5 : decode cX7_later 5 = .ok (.lreturn, 1) := by decide +kernel
theorem dX8_init_0 : decode cX8_init 0 = .ok (.aload_n 0, 1) := by decide +kernel
theorem dX8_init_1 : decode cX8_init 1 = .ok (.invokespecial 3, 3) := by decide +kernel
theorem dX8_init_4 : decode cX8_init 4 = .ok (.aload_n 0, 1) := by decide +kernel
theorem dX8_init_5 : decode cX8_init 5 = .ok (.bipush 6, 2) := by decide +kernel
theorem dX8_init_7 : decode cX8_init 7 = .ok (.newarray .int, 2) := by decide +kernel
theorem dX8_init_9 : decode cX8_init 9 = .ok (.putfield 9, 3) := by decide +kernel
theorem dX8_init_12 : decode cX8_init 12 = .ok (.aload_n 0, 1) := by decide +kernel
theorem dX8_init_13 : decode cX8_init 13 = .ok (.bipush 6, 2) := by decide +kernel
theorem dX8_init_15 : decode cX8_init 15 = .ok (.newarray .int, 2) := by decide +kernel
theorem dX8_init_17 : decode cX8_init 17 = .ok (.putfield 15, 3) := by decide +kernel
theorem dX8_init_20 : decode cX8_init 20 = .ok (.aload_n 0, 1) := by decide +kernel
theorem dX8_init_21 : decode cX8_init 21 = .ok (.bipush 6, 2) := by decide +kernel
theorem dX8_init_23 : decode cX8_init 23 = .ok (.newarray .int, 2) := by decide +kernel
theorem dX8_init_25 : decode cX8_init 25 = .ok (.putfield 18, 3) := by decide +kernel
theorem dX8_init_28 : decode cX8_init 28 = .ok (.return_, 1) := by decide +kernel
theorem dX8_add_0 : decode cX8_add 0 = .ok (.aload_n 0, 1) := by decide +kernel
theorem dX8_add_1 : decode cX8_add 1 = .ok (.getfield 21, 3) := by decide +kernel
theorem dX8_add_4 : decode cX8_add 4 = .ok (.ifCond .lt 79, 3) := by decide +kernel
theorem dX8_add_7 : decode cX8_add 7 = .ok (.aload_n 0, 1) := by decide +kernel
theorem dX8_add_8 : decode cX8_add 8 = .ok (.getfield 21, 3) := by decide +kernel
theorem dX8_add_11 : decode cX8_add 11 = .ok (.aload_n 0, 1) := by decide +kernel
theorem dX8_add_12 : decode cX8_add 12 = .ok (.getfield 9, 3) := by decide +kernel
theorem dX8_add_15 : decode cX8_add 15 = .ok (.arraylength, 1) := by decide +kernel
theorem dX8_add_16 : decode cX8_add 16 = .ok (.if_icmp .ge 67, 3) := by decide +kernel
theorem dX8_add_19 : decode cX8_add 19 = .ok (.aload_n 0, 1) := by decide +kernel
theorem dX8_add_20 : decode cX8_add 20 = .ok (.getfield 21, 3) := by decide +kernel
theorem dX8_add_23 : decode cX8_add 23 = .ok (.aload_n 0, 1) := by decide +kernel
theorem dX8_add_24 : decode cX8_add 24 = .ok (.getfield 15, 3) := by decide +kernel
theorem dX8_add_27 : decode cX8_add 27 = .ok (.arraylength, 1) := by decide +kernel
theorem dX8_add_28 : decode cX8_add 28 = .ok (.if_icmp .ge 55, 3) := by decide +kernel
theorem dX8_add_31 : decode cX8_add 31 = .ok (.aload_n 0, 1) := by decide +kernel
theorem dX8_add_32 : decode cX8_add 32 = .ok (.getfield 21, 3) := by decide +kernel
theorem dX8_add_35 : decode cX8_add 35 = .ok (.aload_n 0, 1) := by decide +kernel
theorem dX8_add_36 : decode cX8_add 36 = .ok (.getfield 18, 3) := by decide +kernel
theorem dX8_add_39 : decode cX8_add 39 = .ok (.arraylength, 1) := by decide +kernel
theorem dX8_add_40 : decode cX8_add 40 = .ok (.if_icmp .ge 43, 3) := by decide +kernel
theorem dX8_add_43 : decode cX8_add 43 = .ok (.aload_n 0, 1) := by decide +kernel
theorem dX8_add_44 : decode cX8_add 44 = .ok (.getfield 9, 3) := by decide +kernel
theorem dX8_add_47 : decode cX8_add 47 = .ok (.aload_n 0, 1) := by decide +kernel
theorem dX8_add_48 : decode cX8_add 48 = .ok (.getfield 21, 3) := by decide +kernel
theorem dX8_add_51 : decode cX8_add 51 = .ok (.iload_n 1, 1) := by decide +kernel
theorem dX8_add_52 : decode cX8_add 52 = .ok (.iastore, 1) := by decide +kernel
theorem dX8_add_53 : decode cX8_add 53 = .ok (.aload_n 0, 1) := by decide +kernel
theorem dX8_add_54 : decode cX8_add 54 = .ok (.getfield 15, 3) := by decide +kernel
theorem dX8_add_57 : decode cX8_add 57 = .ok (.aload_n 0, 1) := by decide +kernel
theorem dX8_add_58 : decode cX8_add 58 = .ok (.getfield 21, 3) := by decide +kernel
theorem dX8_add_61 : decode cX8_add 61 = .ok (.iload_n 2, 1) := by decide +kernel
theorem dX8_add_62 : decode cX8_add 62 = .ok (.iastore, 1) := by decide +kernel
theorem dX8_add_63 : decode cX8_add 63 = .ok (.aload_n 0, 1) := by decide +kernel
theorem dX8_add_64 : decode cX8_add 64 = .ok (.getfield 18, 3) := by decide +kernel
theorem dX8_add_67 : decode cX8_add 67 = .ok (.aload_n 0, 1) := by decide +kernel
theorem dX8_add_68 : decode cX8_add 68 = .ok (.getfield 21, 3) := by decide +kernel
theorem dX8_add_71 : decode cX8_add 71 = .ok (.iload_n 3, 1) := by decide +kernel
theorem dX8_add_72 : decode cX8_add 72 = .ok (.iastore, 1) := by decide +kernel
theorem dX8_add_73 : decode cX8_add 73 = .ok (.aload_n 0, 1) := by decide +kernel
theorem dX8_add_74 : decode cX8_add 74 = .ok (.dup, 1) := by decide +kernel
theorem dX8_add_75 : decode cX8_add 75 = .ok (.getfield 21, 3) := by decide +kernel
theorem dX8_add_78 : decode cX8_add 78 = .ok (.iconst 1, 1) := by decide +kernel
theorem dX8_add_79 : decode cX8_add 79 = .ok (.iadd, 1) := by decide +kernel
theorem dX8_add_80 : decode cX8_add 80 = .ok (.putfield 21, 3) := by decide +kernel
theorem dX8_add_83 : decode cX8_add 83 = .ok (.return_, 1) := by decide +kernel
set_option maxRecDepth 20000 in
theorem ggX8_weightBits_X8_fits : GoodIn wsX8_weightBits wsX8_fits := goodIn_r _ [5, 6, 7, 8, 9, 10, 11, 12, 13, 14, 15, 16, 17, 18, 19, 20] (by decide +kernel) (by decide +kernel)
set_option maxRecDepth 20000 in
theorem gX8_weightBits_X8_fits : GoodIn wsX8_weightBits (wsV RX8 25 RX8 yX8_fits wsX8_fits) := goodIn_app (goodIn_of _ (by decide +kernel)) ggX8_weightBits_X8_fits
theorem dX8_weightBits_0 : decode cX8_weightBits 0 = .ok (.iconst 0, 1) := by decide +kernel
theorem dX8_weightBits_1 : decode cX8_weightBits 1 = .ok (.istore_n 2, 1) := by decide +kernel
theorem dX8_weightBits_2 : decode cX8_weightBits 2 = .ok (.iconst 1, 1) := by decide +kernel
theorem dX8_weightBits_3 : decode cX8_weightBits 3 = .ok (.istore_n 3, 1) := by decide +kernel
theorem dX8_weightBits_4 : decode cX8_weightBits 4 = .ok (.iload_n 3, 1) := by decide +kernel
theorem dX8_weightBits_5 : decode cX8_weightBits 5 = .ok (.bipush 9, 2) := by decide +kernel
theorem dX8_weightBits_7 : decode cX8_weightBits 7 = .ok (.if_icmp .gt 24, 3) := by decide +kernel
theorem dX8_weightBits_10 : decode cX8_weightBits 10 = .ok (.aload_n 0, 1) := by decide +kernel
theorem dX8_weightBits_11 : decode cX8_weightBits 11 = .ok (.iload_n 1, 1) := by decide +kernel
theorem dX8_weightBits_12 : decode cX8_weightBits 12 = .ok (.iload_n 3, 1) := by decide +kernel
theorem dX8_weightBits_13 : decode cX8_weightBits 13 = .ok (.invokevirtual 25, 3) := by decide +kernel
theorem dX8_weightBits_16 : decode cX8_weightBits 16 = .ok (.ifCond .eq 9, 3) := by decide +kernel
theorem dX8_weightBits_19 : decode cX8_weightBits 19 = .ok (.iload_n 2, 1) := by decide +kernel
theorem dX8_weightBits_20 : decode cX8_weightBits 20 = .ok (.iconst 1, 1) := by decide +kernel
theorem dX8_weightBits_21 : decode cX8_weightBits 21 = .ok (.iload_n 3, 1) := by decide +kernel
theorem dX8_weightBits_22 : decode cX8_weightBits 22 = .ok (.ishl, 1) := by decide +kernel
theorem dX8_weightBits_23 : decode cX8_weightBits 23 = .ok (.ior, 1) := by decide +kernel
theorem dX8_weightBits_24 : decode cX8_weightBits 24 = .ok (.istore_n 2, 1) := by decide +kernel
theorem dX8_weightBits_25 : decode cX8_weightBits 25 = .ok (.iinc 3 1, 3) := by decide +kernel
theorem dX8_weightBits_28 : decode cX8_weightBits 28 = .ok (.goto (-24), 3) := by decide +kernel
theorem dX8_weightBits_31 : decode cX8_weightBits 31 = .ok (.iload_n 2, 1) := by decide +kernel
theorem dX8_weightBits_32 : decode cX8_weightBits 32 = .ok (.ireturn, 1) := by decide +kernel
set_option maxRecDepth 20000 in
theorem ggX8_fits_X3_ownLift : GoodIn wsX8_fits wsX3_ownLift := goodIn_r _ [8] (by decide +kernel) (by decide +kernel)
set_option maxRecDepth 20000 in
theorem gX8_fits_X3_ownLift : GoodIn wsX8_fits (va_wsS RX8 29 yX3_ownLift wsX3_ownLift) := goodIn_app (goodIn_of _ (by decide +kernel)) ggX8_fits_X3_ownLift
set_option maxRecDepth 20000 in
theorem ggX8_fits_X3_flown : GoodIn wsX8_fits wsX3_flown := goodIn_r _ [11] (by decide +kernel) (by decide +kernel)
set_option maxRecDepth 20000 in
theorem gX8_fits_X3_flown : GoodIn wsX8_fits (va_wsS RX8 35 yX3_flown wsX3_flown) := goodIn_app (goodIn_of _ (by decide +kernel)) ggX8_fits_X3_flown
theorem dX8_fits_0 : decode cX8_fits 0 = .ok (.iconst 0, 1) := by decide +kernel
theorem dX8_fits_1 : decode cX8_fits 1 = .ok (.istore_n 3, 1) := by decide +kernel
theorem dX8_fits_2 : decode cX8_fits 2 = .ok (.iload_n 3, 1) := by decide +kernel
theorem dX8_fits_3 : decode cX8_fits 3 = .ok (.aload_n 0, 1) := by decide +kernel
theorem dX8_fits_4 : decode cX8_fits 4 = .ok (.getfield 21, 3) := by decide +kernel
theorem dX8_fits_7 : decode cX8_fits 7 = .ok (.if_icmp .ge 72, 3) := by decide +kernel
theorem dX8_fits_10 : decode cX8_fits 10 = .ok (.iload_n 3, 1) := by decide +kernel
theorem dX8_fits_11 : decode cX8_fits 11 = .ok (.aload_n 0, 1) := by decide +kernel
theorem dX8_fits_12 : decode cX8_fits 12 = .ok (.getfield 9, 3) := by decide +kernel
theorem dX8_fits_15 : decode cX8_fits 15 = .ok (.arraylength, 1) := by decide +kernel
theorem dX8_fits_16 : decode cX8_fits 16 = .ok (.if_icmp .ge 63, 3) := by decide +kernel
theorem dX8_fits_19 : decode cX8_fits 19 = .ok (.iload_n 3, 1) := by decide +kernel
theorem dX8_fits_20 : decode cX8_fits 20 = .ok (.aload_n 0, 1) := by decide +kernel
theorem dX8_fits_21 : decode cX8_fits 21 = .ok (.getfield 15, 3) := by decide +kernel
theorem dX8_fits_24 : decode cX8_fits 24 = .ok (.arraylength, 1) := by decide +kernel
theorem dX8_fits_25 : decode cX8_fits 25 = .ok (.if_icmp .ge 54, 3) := by decide +kernel
theorem dX8_fits_28 : decode cX8_fits 28 = .ok (.iload_n 3, 1) := by decide +kernel
theorem dX8_fits_29 : decode cX8_fits 29 = .ok (.aload_n 0, 1) := by decide +kernel
theorem dX8_fits_30 : decode cX8_fits 30 = .ok (.getfield 18, 3) := by decide +kernel
theorem dX8_fits_33 : decode cX8_fits 33 = .ok (.arraylength, 1) := by decide +kernel
theorem dX8_fits_34 : decode cX8_fits 34 = .ok (.if_icmp .ge 45, 3) := by decide +kernel
theorem dX8_fits_37 : decode cX8_fits 37 = .ok (.aload_n 0, 1) := by decide +kernel
theorem dX8_fits_38 : decode cX8_fits 38 = .ok (.getfield 9, 3) := by decide +kernel
theorem dX8_fits_41 : decode cX8_fits 41 = .ok (.iload_n 3, 1) := by decide +kernel
theorem dX8_fits_42 : decode cX8_fits 42 = .ok (.iaload, 1) := by decide +kernel
theorem dX8_fits_43 : decode cX8_fits 43 = .ok (.iload_n 1, 1) := by decide +kernel
theorem dX8_fits_44 : decode cX8_fits 44 = .ok (.if_icmp .ne 29, 3) := by decide +kernel
theorem dX8_fits_47 : decode cX8_fits 47 = .ok (.iload_n 1, 1) := by decide +kernel
theorem dX8_fits_48 : decode cX8_fits 48 = .ok (.iload_n 2, 1) := by decide +kernel
theorem dX8_fits_49 : decode cX8_fits 49 = .ok (.iload_n 1, 1) := by decide +kernel
theorem dX8_fits_50 : decode cX8_fits 50 = .ok (.aload_n 0, 1) := by decide +kernel
theorem dX8_fits_51 : decode cX8_fits 51 = .ok (.getfield 15, 3) := by decide +kernel
theorem dX8_fits_54 : decode cX8_fits 54 = .ok (.iload_n 3, 1) := by decide +kernel
theorem dX8_fits_55 : decode cX8_fits 55 = .ok (.iaload, 1) := by decide +kernel
theorem dX8_fits_56 : decode cX8_fits 56 = .ok (.invokestatic 29, 3) := by decide +kernel
theorem dX8_fits_59 : decode cX8_fits 59 = .ok (.invokestatic 35, 3) := by decide +kernel
theorem dX8_fits_62 : decode cX8_fits 62 = .ok (.aload_n 0, 1) := by decide +kernel
theorem dX8_fits_63 : decode cX8_fits 63 = .ok (.getfield 18, 3) := by decide +kernel
theorem dX8_fits_66 : decode cX8_fits 66 = .ok (.iload_n 3, 1) := by decide +kernel
theorem dX8_fits_67 : decode cX8_fits 67 = .ok (.iaload, 1) := by decide +kernel
theorem dX8_fits_68 : decode cX8_fits 68 = .ok (.if_icmp .eq 5, 3) := by decide +kernel
theorem dX8_fits_71 : decode cX8_fits 71 = .ok (.iconst 0, 1) := by decide +kernel
theorem dX8_fits_72 : decode cX8_fits 72 = .ok (.ireturn, 1) := by decide +kernel
theorem dX8_fits_73 : decode cX8_fits 73 = .ok (.iinc 3 1, 3) := by decide +kernel
theorem dX8_fits_76 : decode cX8_fits 76 = .ok (.goto (-74), 3) := by decide +kernel
theorem dX8_fits_79 : decode cX8_fits 79 = .ok (.iconst 1, 1) := by decide +kernel
theorem dX8_fits_80 : decode cX8_fits 80 = .ok (.ireturn, 1) := by decide +kernel
set_option maxRecDepth 20000 in
theorem ggX9_gainInAllOrders_J6_bitCount_0f7a4 : GoodIn wsX9_gainInAllOrders wsJ6_bitCount_0f7a4 := goodIn_r _ [4, 5, 6, 7] (by decide +kernel) (by decide +kernel)
set_option maxRecDepth 20000 in
theorem gX9_gainInAllOrders_J6_bitCount_0f7a4 : GoodIn wsX9_gainInAllOrders (va_wsS RX9 13 yJ6_bitCount_0f7a4 wsJ6_bitCount_0f7a4) := goodIn_app (goodIn_of _ (by decide +kernel)) ggX9_gainInAllOrders_J6_bitCount_0f7a4
set_option maxRecDepth 20000 in
theorem ggX9_gainInAllOrders_X6_factorial : GoodIn wsX9_gainInAllOrders wsX6_factorial := goodIn_r _ [11] (by decide +kernel) (by decide +kernel)
set_option maxRecDepth 20000 in
theorem gX9_gainInAllOrders_X6_factorial : GoodIn wsX9_gainInAllOrders (va_wsS RX9 19 yX6_factorial wsX6_factorial) := goodIn_app (goodIn_of _ (by decide +kernel)) ggX9_gainInAllOrders_X6_factorial
set_option maxRecDepth 20000 in
theorem ggX9_gainInAllOrders_X9_rightBehind : GoodIn wsX9_gainInAllOrders wsX9_rightBehind := goodIn_r _ [15, 16, 17, 18, 19, 20, 21, 22, 23, 24, 25, 26, 27, 28, 29, 30, 31, 32, 33, 34, 35, 36, 37, 38, 39, 40, 41, 42, 43, 44, 45, 46, 47, 48, 49, 50, 51, 52, 53, 54, 55, 56, 57, 58, 59, 60, 61, 62, 63, 64, 65, 66, 67, 68, 69, 70, 71, 72, 73, 74, 75, 76, 77, 78, 79, 80, 81, 82, 83, 84, 85, 86, 87, 88, 89, 90, 91, 92, 93, 94, 95, 96, 97, 1, 2, 3, 4, 5, 6, 7, 98, 99, 100, 101, 102, 103, 104, 105, 106, 107, 108] (by decide +kernel) (by decide +kernel)
set_option maxRecDepth 20000 in
theorem gX9_gainInAllOrders_X9_rightBehind : GoodIn wsX9_gainInAllOrders (va_wsS RX9 24 yX9_rightBehind wsX9_rightBehind) := goodIn_app (goodIn_of _ (by decide +kernel)) ggX9_gainInAllOrders_X9_rightBehind
theorem dX9_gainInAllOrders_0 : decode cX9_gainInAllOrders 0 = .ok (.iconst 1, 1) := by decide +kernel
theorem dX9_gainInAllOrders_1 : decode cX9_gainInAllOrders 1 = .ok (.iload_n 3, 1) := by decide +kernel
theorem dX9_gainInAllOrders_2 : decode cX9_gainInAllOrders 2 = .ok (.ishl, 1) := by decide +kernel
theorem dX9_gainInAllOrders_3 : decode cX9_gainInAllOrders 3 = .ok (.istore 4, 2) := by decide +kernel
theorem dX9_gainInAllOrders_5 : decode cX9_gainInAllOrders 5 = .ok (.iconst 0, 1) := by decide +kernel
theorem dX9_gainInAllOrders_6 : decode cX9_gainInAllOrders 6 = .ok (.istore 5, 2) := by decide +kernel
theorem dX9_gainInAllOrders_8 : decode cX9_gainInAllOrders 8 = .ok (.iconst 0, 1) := by decide +kernel
theorem dX9_gainInAllOrders_9 : decode cX9_gainInAllOrders 9 = .ok (.istore 6, 2) := by decide +kernel
theorem dX9_gainInAllOrders_11 : decode cX9_gainInAllOrders 11 = .ok (.iload 6, 2) := by decide +kernel
theorem dX9_gainInAllOrders_13 : decode cX9_gainInAllOrders 13 = .ok (.iconst 1, 1) := by decide +kernel
theorem dX9_gainInAllOrders_14 : decode cX9_gainInAllOrders 14 = .ok (.aload_n 0, 1) := by decide +kernel
theorem dX9_gainInAllOrders_15 : decode cX9_gainInAllOrders 15 = .ok (.getfield 7, 3) := by decide +kernel
theorem dX9_gainInAllOrders_18 : decode cX9_gainInAllOrders 18 = .ok (.ishl, 1) := by decide +kernel
theorem dX9_gainInAllOrders_19 : decode cX9_gainInAllOrders 19 = .ok (.if_icmp .ge 70, 3) := by decide +kernel
theorem dX9_gainInAllOrders_22 : decode cX9_gainInAllOrders 22 = .ok (.iload 6, 2) := by decide +kernel
theorem dX9_gainInAllOrders_24 : decode cX9_gainInAllOrders 24 = .ok (.iload 4, 2) := by decide +kernel
theorem dX9_gainInAllOrders_26 : decode cX9_gainInAllOrders 26 = .ok (.iand, 1) := by decide +kernel
theorem dX9_gainInAllOrders_27 : decode cX9_gainInAllOrders 27 = .ok (.ifCond .ne 56, 3) := by decide +kernel
theorem dX9_gainInAllOrders_30 : decode cX9_gainInAllOrders 30 = .ok (.iload 6, 2) := by decide +kernel
theorem dX9_gainInAllOrders_32 : decode cX9_gainInAllOrders 32 = .ok (.invokestatic 13, 3) := by decide +kernel
theorem dX9_gainInAllOrders_35 : decode cX9_gainInAllOrders 35 = .ok (.istore 7, 2) := by decide +kernel
theorem dX9_gainInAllOrders_37 : decode cX9_gainInAllOrders 37 = .ok (.iload 7, 2) := by decide +kernel
theorem dX9_gainInAllOrders_39 : decode cX9_gainInAllOrders 39 = .ok (.invokestatic 19, 3) := by decide +kernel
theorem dX9_gainInAllOrders_42 : decode cX9_gainInAllOrders 42 = .ok (.aload_n 0, 1) := by decide +kernel
theorem dX9_gainInAllOrders_43 : decode cX9_gainInAllOrders 43 = .ok (.getfield 7, 3) := by decide +kernel
theorem dX9_gainInAllOrders_46 : decode cX9_gainInAllOrders 46 = .ok (.iconst 1, 1) := by decide +kernel
theorem dX9_gainInAllOrders_47 : decode cX9_gainInAllOrders 47 = .ok (.isub, 1) := by decide +kernel
theorem dX9_gainInAllOrders_48 : decode cX9_gainInAllOrders 48 = .ok (.iload 7, 2) := by decide +kernel
theorem dX9_gainInAllOrders_50 : decode cX9_gainInAllOrders 50 = .ok (.isub, 1) := by decide +kernel
theorem dX9_gainInAllOrders_51 : decode cX9_gainInAllOrders 51 = .ok (.invokestatic 19, 3) := by decide +kernel
theorem dX9_gainInAllOrders_54 : decode cX9_gainInAllOrders 54 = .ok (.imul, 1) := by decide +kernel
theorem dX9_gainInAllOrders_55 : decode cX9_gainInAllOrders 55 = .ok (.istore 8, 2) := by decide +kernel
theorem dX9_gainInAllOrders_57 : decode cX9_gainInAllOrders 57 = .ok (.iload 5, 2) := by decide +kernel
theorem dX9_gainInAllOrders_59 : decode cX9_gainInAllOrders 59 = .ok (.iload 8, 2) := by decide +kernel
theorem dX9_gainInAllOrders_61 : decode cX9_gainInAllOrders 61 = .ok (.aload_n 0, 1) := by decide +kernel
theorem dX9_gainInAllOrders_62 : decode cX9_gainInAllOrders 62 = .ok (.lload_n 1, 1) := by decide +kernel
theorem dX9_gainInAllOrders_63 : decode cX9_gainInAllOrders 63 = .ok (.iload 6, 2) := by decide +kernel
theorem dX9_gainInAllOrders_65 : decode cX9_gainInAllOrders 65 = .ok (.iload 4, 2) := by decide +kernel
theorem dX9_gainInAllOrders_67 : decode cX9_gainInAllOrders 67 = .ok (.ior, 1) := by decide +kernel
theorem dX9_gainInAllOrders_68 : decode cX9_gainInAllOrders 68 = .ok (.invokestatic 24, 3) := by decide +kernel
theorem dX9_gainInAllOrders_71 : decode cX9_gainInAllOrders 71 = .ok (.aload_n 0, 1) := by decide +kernel
theorem dX9_gainInAllOrders_72 : decode cX9_gainInAllOrders 72 = .ok (.lload_n 1, 1) := by decide +kernel
theorem dX9_gainInAllOrders_73 : decode cX9_gainInAllOrders 73 = .ok (.iload 6, 2) := by decide +kernel
theorem dX9_gainInAllOrders_75 : decode cX9_gainInAllOrders 75 = .ok (.invokestatic 24, 3) := by decide +kernel
theorem dX9_gainInAllOrders_78 : decode cX9_gainInAllOrders 78 = .ok (.isub, 1) := by decide +kernel
theorem dX9_gainInAllOrders_79 : decode cX9_gainInAllOrders 79 = .ok (.imul, 1) := by decide +kernel
theorem dX9_gainInAllOrders_80 : decode cX9_gainInAllOrders 80 = .ok (.iadd, 1) := by decide +kernel
theorem dX9_gainInAllOrders_81 : decode cX9_gainInAllOrders 81 = .ok (.istore 5, 2) := by decide +kernel
theorem dX9_gainInAllOrders_83 : decode cX9_gainInAllOrders 83 = .ok (.iinc 6 1, 3) := by decide +kernel
theorem dX9_gainInAllOrders_86 : decode cX9_gainInAllOrders 86 = .ok (.goto (-75), 3) := by decide +kernel
theorem dX9_gainInAllOrders_89 : decode cX9_gainInAllOrders 89 = .ok (.iload 5, 2) := by decide +kernel
theorem dX9_gainInAllOrders_91 : decode cX9_gainInAllOrders 91 = .ok (.ireturn, 1) := by decide +kernel
set_option maxRecDepth 20000 in
theorem ggX9_rightBehind_X3_tossed : GoodIn wsX9_rightBehind wsX3_tossed := goodIn_r _ [5, 6, 7, 8, 9, 4, 10, 11, 12, 13, 14, 15, 16, 17, 18, 19, 20, 21, 22, 23, 24, 25, 26, 27, 28, 29, 30, 31, 32, 33, 34, 35, 36, 37, 38, 39, 40, 41, 42, 43, 44, 45, 46, 47, 48, 49, 50, 51, 52, 53, 54, 55, 56, 57, 58, 59, 60, 61, 62, 63, 64, 65, 66, 67, 68, 69, 70, 71, 72, 73, 74, 90, 91, 92, 93, 94, 95, 96, 97, 98, 99, 100] (by decide +kernel) (by decide +kernel)
set_option maxRecDepth 20000 in
theorem gX9_rightBehind_X3_tossed : GoodIn wsX9_rightBehind (wsV RX9 30 RX3 yX3_tossed wsX3_tossed) := goodIn_app (goodIn_of _ (by decide +kernel)) ggX9_rightBehind_X3_tossed
set_option maxRecDepth 20000 in
theorem ggX9_rightBehind_X3_rightBits : GoodIn wsX9_rightBehind wsX3_rightBits := goodIn_r _ [78, 6, 79, 80, 81, 4, 82, 33, 34, 19, 35, 44, 45, 46, 47, 48, 90, 91, 92, 93, 94, 95, 96, 97, 98, 99, 100] (by decide +kernel) (by decide +kernel)
set_option maxRecDepth 20000 in
theorem gX9_rightBehind_X3_rightBits : GoodIn wsX9_rightBehind (wsV RX9 34 RX3 yX3_rightBits wsX3_rightBits) := goodIn_app (goodIn_of _ (by decide +kernel)) ggX9_rightBehind_X3_rightBits
set_option maxRecDepth 20000 in
theorem ggX9_rightBehind_J6_bitCount_0f7a4 : GoodIn wsX9_rightBehind wsJ6_bitCount_0f7a4 := goodIn_r _ [86, 87, 88, 89] (by decide +kernel) (by decide +kernel)
set_option maxRecDepth 20000 in
theorem gX9_rightBehind_J6_bitCount_0f7a4 : GoodIn wsX9_rightBehind (va_wsS RX9 13 yJ6_bitCount_0f7a4 wsJ6_bitCount_0f7a4) := goodIn_app (goodIn_of _ (by decide +kernel)) ggX9_rightBehind_J6_bitCount_0f7a4
theorem dX9_rightBehind_0 : decode cX9_rightBehind 0 = .ok (.lload_n 1, 1) := by decide +kernel
theorem dX9_rightBehind_1 : decode cX9_rightBehind 1 = .ok (.lstore 4, 2) := by decide +kernel
theorem dX9_rightBehind_3 : decode cX9_rightBehind 3 = .ok (.iconst 0, 1) := by decide +kernel
theorem dX9_rightBehind_4 : decode cX9_rightBehind 4 = .ok (.istore 6, 2) := by decide +kernel
theorem dX9_rightBehind_6 : decode cX9_rightBehind 6 = .ok (.iload 6, 2) := by decide +kernel
theorem dX9_rightBehind_8 : decode cX9_rightBehind 8 = .ok (.aload_n 0, 1) := by decide +kernel
theorem dX9_rightBehind_9 : decode cX9_rightBehind 9 = .ok (.getfield 7, 3) := by decide +kernel
theorem dX9_rightBehind_12 : decode cX9_rightBehind 12 = .ok (.if_icmp .ge 29, 3) := by decide +kernel
theorem dX9_rightBehind_15 : decode cX9_rightBehind 15 = .ok (.iload_n 3, 1) := by decide +kernel
theorem dX9_rightBehind_16 : decode cX9_rightBehind 16 = .ok (.iload 6, 2) := by decide +kernel
theorem dX9_rightBehind_18 : decode cX9_rightBehind 18 = .ok (.ishr, 1) := by decide +kernel
theorem dX9_rightBehind_19 : decode cX9_rightBehind 19 = .ok (.iconst 1, 1) := by decide +kernel
theorem dX9_rightBehind_20 : decode cX9_rightBehind 20 = .ok (.iand, 1) := by decide +kernel
theorem dX9_rightBehind_21 : decode cX9_rightBehind 21 = .ok (.iconst 1, 1) := by decide +kernel
theorem dX9_rightBehind_22 : decode cX9_rightBehind 22 = .ok (.if_icmp .ne 13, 3) := by decide +kernel
theorem dX9_rightBehind_25 : decode cX9_rightBehind 25 = .ok (.aload_n 0, 1) := by decide +kernel
theorem dX9_rightBehind_26 : decode cX9_rightBehind 26 = .ok (.lload 4, 2) := by decide +kernel
theorem dX9_rightBehind_28 : decode cX9_rightBehind 28 = .ok (.iload 6, 2) := by decide +kernel
theorem dX9_rightBehind_30 : decode cX9_rightBehind 30 = .ok (.invokevirtual 30, 3) := by decide +kernel
theorem dX9_rightBehind_33 : decode cX9_rightBehind 33 = .ok (.lstore 4, 2) := by decide +kernel
theorem dX9_rightBehind_35 : decode cX9_rightBehind 35 = .ok (.iinc 6 1, 3) := by decide +kernel
theorem dX9_rightBehind_38 : decode cX9_rightBehind 38 = .ok (.goto (-32), 3) := by decide +kernel
theorem dX9_rightBehind_41 : decode cX9_rightBehind 41 = .ok (.aload_n 0, 1) := by decide +kernel
theorem dX9_rightBehind_42 : decode cX9_rightBehind 42 = .ok (.lload 4, 2) := by decide +kernel
theorem dX9_rightBehind_44 : decode cX9_rightBehind 44 = .ok (.invokevirtual 34, 3) := by decide +kernel
theorem dX9_rightBehind_47 : decode cX9_rightBehind 47 = .ok (.invokestatic 13, 3) := by decide +kernel
theorem dX9_rightBehind_50 : decode cX9_rightBehind 50 = .ok (.ireturn, 1) := by decide +kernel
set_option maxRecDepth 20000 in
theorem ggX10_mostRight_X3_rightBits : GoodIn wsX10_mostRight wsX3_rightBits := goodIn_r _ [6, 7, 8, 9, 10, 5, 11, 12, 13, 14, 15, 16, 17, 18, 19, 20, 102, 103, 104, 105, 106, 107, 108, 109, 110, 111, 112] (by decide +kernel) (by decide +kernel)
set_option maxRecDepth 20000 in
theorem gX10_mostRight_X3_rightBits : GoodIn wsX10_mostRight (wsV RX10 9 RX3 yX3_rightBits wsX3_rightBits) := goodIn_app (goodIn_of _ (by decide +kernel)) ggX10_mostRight_X3_rightBits
set_option maxRecDepth 20000 in
theorem ggX10_mostRight_J6_bitCount_0f7a4 : GoodIn wsX10_mostRight wsJ6_bitCount_0f7a4 := goodIn_r _ [24, 25, 26, 27] (by decide +kernel) (by decide +kernel)
set_option maxRecDepth 20000 in
theorem gX10_mostRight_J6_bitCount_0f7a4 : GoodIn wsX10_mostRight (va_wsS RX10 15 yJ6_bitCount_0f7a4 wsJ6_bitCount_0f7a4) := goodIn_app (goodIn_of _ (by decide +kernel)) ggX10_mostRight_J6_bitCount_0f7a4
set_option maxRecDepth 20000 in
theorem ggX10_mostRight_X3_isTurn : GoodIn wsX10_mostRight wsX3_isTurn := goodIn_r _ [31, 32, 33, 34, 5, 35, 36, 102, 103, 104, 105, 106, 107, 108, 109, 110, 111, 112] (by decide +kernel) (by decide +kernel)
set_option maxRecDepth 20000 in
theorem gX10_mostRight_X3_isTurn : GoodIn wsX10_mostRight (wsV RX10 24 RX3 yX3_isTurn wsX3_isTurn) := goodIn_app (goodIn_of _ (by decide +kernel)) ggX10_mostRight_X3_isTurn
set_option maxRecDepth 20000 in
theorem ggX10_mostRight_X3_turned : GoodIn wsX10_mostRight wsX3_turned := goodIn_r _ [40, 41, 42, 14, 43, 44, 45, 46, 47, 5, 48, 7, 49, 50, 51, 52, 53, 54, 55, 56, 57, 58, 59, 60, 61, 62, 63, 64, 65, 66, 67, 68, 69, 12, 13, 15, 70, 71, 72, 73, 74, 75, 76, 77, 16, 17, 18, 19, 20, 32, 33, 34, 35, 36, 78, 79, 80, 81, 82, 83, 84, 85, 86, 87, 88, 89, 90, 91, 92, 93, 94, 95, 96, 97, 98, 102, 103, 104, 105, 106, 107, 108, 109, 110, 111, 112] (by decide +kernel) (by decide +kernel)
set_option maxRecDepth 20000 in
theorem gX10_mostRight_X3_turned : GoodIn wsX10_mostRight (wsV RX10 28 RX3 yX3_turned wsX3_turned) := goodIn_app (goodIn_of _ (by decide +kernel)) ggX10_mostRight_X3_turned
set_option maxRecDepth 20000 in
theorem ggX10_mostRight_X10_mostRight : GoodIn wsX10_mostRight wsX10_mostRight := goodIn_r _ [0, 1, 2, 3, 4, 5, 6, 7, 8, 9, 10, 11, 12, 13, 14, 15, 16, 17, 18, 19, 20, 21, 22, 23, 24, 25, 26, 27, 28, 29, 30, 31, 32, 33, 34, 35, 36, 37, 38, 39, 40, 41, 42, 43, 44, 45, 46, 47, 48, 49, 50, 51, 52, 53, 54, 55, 56, 57, 58, 59, 60, 61, 62, 63, 64, 65, 66, 67, 68, 69, 70, 71, 72, 73, 74, 75, 76, 77, 78, 79, 80, 81, 82, 83, 84, 85, 86, 87, 88, 89, 90, 91, 92, 93, 94, 95, 96, 97, 98, 99, 100, 101, 102, 103, 104, 105, 106, 107, 108, 109, 110, 111, 112] (by decide +kernel) (by decide +kernel)
set_option maxRecDepth 20000 in
theorem gX10_mostRight_X10_mostRight : GoodIn wsX10_mostRight (va_wsS RX10 32 yX10_mostRight wsX10_mostRight) := goodIn_app (goodIn_of _ (by decide +kernel)) ggX10_mostRight_X10_mostRight
theorem dX10_mostRight_0 : decode cX10_mostRight 0 = .ok (.iload_n 3, 1) := by decide +kernel
theorem dX10_mostRight_1 : decode cX10_mostRight 1 = .ok (.ifCond .gt 18, 3) := by decide +kernel
theorem dX10_mostRight_4 : decode cX10_mostRight 4 = .ok (.aload_n 0, 1) := by decide +kernel
theorem dX10_mostRight_5 : decode cX10_mostRight 5 = .ok (.lload_n 1, 1) := by decide +kernel
theorem dX10_mostRight_6 : decode cX10_mostRight 6 = .ok (.invokevirtual 9, 3) := by decide +kernel
theorem dX10_mostRight_9 : decode cX10_mostRight 9 = .ok (.invokestatic 15, 3) := by decide +kernel
theorem dX10_mostRight_12 : decode cX10_mostRight 12 = .ok (.ldc 23, 2) := by decide +kernel
theorem dX10_mostRight_14 : decode cX10_mostRight 14 = .ok (.imul, 1) := by decide +kernel
theorem dX10_mostRight_15 : decode cX10_mostRight 15 = .ok (.iload 4, 2) := by decide +kernel
theorem dX10_mostRight_17 : decode cX10_mostRight 17 = .ok (.iadd, 1) := by decide +kernel
theorem dX10_mostRight_18 : decode cX10_mostRight 18 = .ok (.ireturn, 1) := by decide +kernel
theorem dX10_mostRight_19 : decode cX10_mostRight 19 = .ok (.iconst (-1), 1) := by decide +kernel
theorem dX10_mostRight_20 : decode cX10_mostRight 20 = .ok (.istore 5, 2) := by decide +kernel
theorem dX10_mostRight_22 : decode cX10_mostRight 22 = .ok (.iconst 0, 1) := by decide +kernel
theorem dX10_mostRight_23 : decode cX10_mostRight 23 = .ok (.istore 6, 2) := by decide +kernel
theorem dX10_mostRight_25 : decode cX10_mostRight 25 = .ok (.iload 6, 2) := by decide +kernel
theorem dX10_mostRight_27 : decode cX10_mostRight 27 = .ok (.iconst 4, 1) := by decide +kernel
theorem dX10_mostRight_28 : decode cX10_mostRight 28 = .ok (.if_icmp .gt 64, 3) := by decide +kernel
theorem dX10_mostRight_31 : decode cX10_mostRight 31 = .ok (.aload_n 0, 1) := by decide +kernel
theorem dX10_mostRight_32 : decode cX10_mostRight 32 = .ok (.iload 6, 2) := by decide +kernel
theorem dX10_mostRight_34 : decode cX10_mostRight 34 = .ok (.invokevirtual 24, 3) := by decide +kernel
theorem dX10_mostRight_37 : decode cX10_mostRight 37 = .ok (.ifCond .eq 49, 3) := by decide +kernel
theorem dX10_mostRight_40 : decode cX10_mostRight 40 = .ok (.aload_n 0, 1) := by decide +kernel
theorem dX10_mostRight_41 : decode cX10_mostRight 41 = .ok (.aload_n 0, 1) := by decide +kernel
theorem dX10_mostRight_42 : decode cX10_mostRight 42 = .ok (.lload_n 1, 1) := by decide +kernel
theorem dX10_mostRight_43 : decode cX10_mostRight 43 = .ok (.iload 6, 2) := by decide +kernel
theorem dX10_mostRight_45 : decode cX10_mostRight 45 = .ok (.invokevirtual 28, 3) := by decide +kernel
theorem dX10_mostRight_48 : decode cX10_mostRight 48 = .ok (.iload_n 3, 1) := by decide +kernel
theorem dX10_mostRight_49 : decode cX10_mostRight 49 = .ok (.iconst 1, 1) := by decide +kernel
theorem dX10_mostRight_50 : decode cX10_mostRight 50 = .ok (.isub, 1) := by decide +kernel
theorem dX10_mostRight_51 : decode cX10_mostRight 51 = .ok (.bipush 10, 2) := by decide +kernel
theorem dX10_mostRight_53 : decode cX10_mostRight 53 = .ok (.iload 4, 2) := by decide +kernel
theorem dX10_mostRight_55 : decode cX10_mostRight 55 = .ok (.imul, 1) := by decide +kernel
theorem dX10_mostRight_56 : decode cX10_mostRight 56 = .ok (.iload 6, 2) := by decide +kernel
theorem dX10_mostRight_58 : decode cX10_mostRight 58 = .ok (.iadd, 1) := by decide +kernel
theorem dX10_mostRight_59 : decode cX10_mostRight 59 = .ok (.invokestatic 32, 3) := by decide +kernel
theorem dX10_mostRight_62 : decode cX10_mostRight 62 = .ok (.istore 7, 2) := by decide +kernel
theorem dX10_mostRight_64 : decode cX10_mostRight 64 = .ok (.iload 5, 2) := by decide +kernel
theorem dX10_mostRight_66 : decode cX10_mostRight 66 = .ok (.ifCond .lt 16, 3) := by decide +kernel
theorem dX10_mostRight_69 : decode cX10_mostRight 69 = .ok (.iload 7, 2) := by decide +kernel
theorem dX10_mostRight_71 : decode cX10_mostRight 71 = .ok (.ldc 23, 2) := by decide +kernel
theorem dX10_mostRight_73 : decode cX10_mostRight 73 = .ok (.idiv, 1) := by decide +kernel
theorem dX10_mostRight_74 : decode cX10_mostRight 74 = .ok (.iload 5, 2) := by decide +kernel
theorem dX10_mostRight_76 : decode cX10_mostRight 76 = .ok (.ldc 23, 2) := by decide +kernel
theorem dX10_mostRight_78 : decode cX10_mostRight 78 = .ok (.idiv, 1) := by decide +kernel
theorem dX10_mostRight_79 : decode cX10_mostRight 79 = .ok (.if_icmp .le 7, 3) := by decide +kernel
theorem dX10_mostRight_82 : decode cX10_mostRight 82 = .ok (.iload 7, 2) := by decide +kernel
theorem dX10_mostRight_84 : decode cX10_mostRight 84 = .ok (.istore 5, 2) := by decide +kernel
theorem dX10_mostRight_86 : decode cX10_mostRight 86 = .ok (.iinc 6 1, 3) := by decide +kernel
theorem dX10_mostRight_89 : decode cX10_mostRight 89 = .ok (.goto (-64), 3) := by decide +kernel
theorem dX10_mostRight_92 : decode cX10_mostRight 92 = .ok (.iload 5, 2) := by decide +kernel
theorem dX10_mostRight_94 : decode cX10_mostRight 94 = .ok (.ireturn, 1) := by decide +kernel
set_option maxRecDepth 20000 in
theorem ggX10_canBeClean_X3_isClean : GoodIn wsX10_canBeClean wsX3_isClean := goodIn_r _ [5, 6, 7, 8, 4, 9, 10, 11, 12, 13, 14, 15, 16, 17, 18, 19, 20, 21, 22, 23, 24, 25, 26, 27, 102, 103, 104, 105, 106, 107, 108, 109, 110, 111, 112] (by decide +kernel) (by decide +kernel)
set_option maxRecDepth 20000 in
theorem gX10_canBeClean_X3_isClean : GoodIn wsX10_canBeClean (wsV RX10 36 RX3 yX3_isClean wsX3_isClean) := goodIn_app (goodIn_of _ (by decide +kernel)) ggX10_canBeClean_X3_isClean
set_option maxRecDepth 20000 in
theorem ggX10_canBeClean_X3_isTurn : GoodIn wsX10_canBeClean wsX3_isTurn := goodIn_r _ [31, 32, 33, 34, 4, 35, 36, 102, 103, 104, 105, 106, 107, 108, 109, 110, 111, 112] (by decide +kernel) (by decide +kernel)
set_option maxRecDepth 20000 in
theorem gX10_canBeClean_X3_isTurn : GoodIn wsX10_canBeClean (wsV RX10 24 RX3 yX3_isTurn wsX3_isTurn) := goodIn_app (goodIn_of _ (by decide +kernel)) ggX10_canBeClean_X3_isTurn
set_option maxRecDepth 20000 in
theorem ggX10_canBeClean_X3_turned : GoodIn wsX10_canBeClean wsX3_turned := goodIn_r _ [40, 41, 42, 13, 43, 44, 45, 46, 47, 4, 48, 10, 49, 50, 51, 52, 53, 54, 55, 56, 57, 58, 59, 60, 61, 62, 63, 64, 65, 66, 67, 68, 69, 11, 12, 14, 70, 71, 72, 73, 74, 75, 76, 77, 23, 24, 25, 26, 27, 32, 33, 34, 35, 36, 78, 79, 80, 81, 82, 83, 84, 85, 86, 87, 88, 89, 90, 91, 92, 93, 94, 95, 96, 97, 98, 102, 103, 104, 105, 106, 107, 108, 109, 110, 111, 112] (by decide +kernel) (by decide +kernel)
set_option maxRecDepth 20000 in
theorem gX10_canBeClean_X3_turned : GoodIn wsX10_canBeClean (wsV RX10 28 RX3 yX3_turned wsX3_turned) := goodIn_app (goodIn_of _ (by decide +kernel)) ggX10_canBeClean_X3_turned
set_option maxRecDepth 20000 in
theorem ggX10_canBeClean_X10_canBeClean : GoodIn wsX10_canBeClean wsX10_canBeClean := goodIn_r _ [0, 1, 2, 3, 4, 5, 6, 7, 8, 9, 10, 11, 12, 13, 14, 15, 16, 17, 18, 19, 20, 21, 22, 23, 24, 25, 26, 27, 28, 29, 30, 31, 32, 33, 34, 35, 36, 37, 38, 39, 40, 41, 42, 43, 44, 45, 46, 47, 48, 49, 50, 51, 52, 53, 54, 55, 56, 57, 58, 59, 60, 61, 62, 63, 64, 65, 66, 67, 68, 69, 70, 71, 72, 73, 74, 75, 76, 77, 78, 79, 80, 81, 82, 83, 84, 85, 86, 87, 88, 89, 90, 91, 92, 93, 94, 95, 96, 97, 98, 99, 100, 101, 102, 103, 104, 105, 106, 107, 108, 109, 110, 111, 112] (by decide +kernel) (by decide +kernel)
set_option maxRecDepth 20000 in
theorem gX10_canBeClean_X10_canBeClean : GoodIn wsX10_canBeClean (va_wsS RX10 40 yX10_canBeClean wsX10_canBeClean) := goodIn_app (goodIn_of _ (by decide +kernel)) ggX10_canBeClean_X10_canBeClean
theorem dX10_canBeClean_0 : decode cX10_canBeClean 0 = .ok (.iload 4, 2) := by decide +kernel
theorem dX10_canBeClean_2 : decode cX10_canBeClean 2 = .ok (.ifCond .gt 10, 3) := by decide +kernel
theorem dX10_canBeClean_5 : decode cX10_canBeClean 5 = .ok (.aload_n 0, 1) := by decide +kernel
theorem dX10_canBeClean_6 : decode cX10_canBeClean 6 = .ok (.lload_n 1, 1) := by decide +kernel
theorem dX10_canBeClean_7 : decode cX10_canBeClean 7 = .ok (.iload_n 3, 1) := by decide +kernel
theorem dX10_canBeClean_8 : decode cX10_canBeClean 8 = .ok (.invokevirtual 36, 3) := by decide +kernel
theorem dX10_canBeClean_11 : decode cX10_canBeClean 11 = .ok (.ireturn, 1) := by decide +kernel
theorem dX10_canBeClean_12 : decode cX10_canBeClean 12 = .ok (.iconst 0, 1) := by decide +kernel
theorem dX10_canBeClean_13 : decode cX10_canBeClean 13 = .ok (.istore 5, 2) := by decide +kernel
theorem dX10_canBeClean_15 : decode cX10_canBeClean 15 = .ok (.iload 5, 2) := by decide +kernel
theorem dX10_canBeClean_17 : decode cX10_canBeClean 17 = .ok (.iconst 4, 1) := by decide +kernel
theorem dX10_canBeClean_18 : decode cX10_canBeClean 18 = .ok (.if_icmp .gt 39, 3) := by decide +kernel
theorem dX10_canBeClean_21 : decode cX10_canBeClean 21 = .ok (.aload_n 0, 1) := by decide +kernel
theorem dX10_canBeClean_22 : decode cX10_canBeClean 22 = .ok (.iload 5, 2) := by decide +kernel
theorem dX10_canBeClean_24 : decode cX10_canBeClean 24 = .ok (.invokevirtual 24, 3) := by decide +kernel
theorem dX10_canBeClean_27 : decode cX10_canBeClean 27 = .ok (.ifCond .eq 24, 3) := by decide +kernel
theorem dX10_canBeClean_30 : decode cX10_canBeClean 30 = .ok (.aload_n 0, 1) := by decide +kernel
theorem dX10_canBeClean_31 : decode cX10_canBeClean 31 = .ok (.aload_n 0, 1) := by decide +kernel
theorem dX10_canBeClean_32 : decode cX10_canBeClean 32 = .ok (.lload_n 1, 1) := by decide +kernel
theorem dX10_canBeClean_33 : decode cX10_canBeClean 33 = .ok (.iload 5, 2) := by decide +kernel
theorem dX10_canBeClean_35 : decode cX10_canBeClean 35 = .ok (.invokevirtual 28, 3) := by decide +kernel
theorem dX10_canBeClean_38 : decode cX10_canBeClean 38 = .ok (.iload_n 3, 1) := by decide +kernel
theorem dX10_canBeClean_39 : decode cX10_canBeClean 39 = .ok (.iload 4, 2) := by decide +kernel
theorem dX10_canBeClean_41 : decode cX10_canBeClean 41 = .ok (.iconst 1, 1) := by decide +kernel
theorem dX10_canBeClean_42 : decode cX10_canBeClean 42 = .ok (.isub, 1) := by decide +kernel
theorem dX10_canBeClean_43 : decode cX10_canBeClean 43 = .ok (.invokestatic 40, 3) := by decide +kernel
theorem dX10_canBeClean_46 : decode cX10_canBeClean 46 = .ok (.ifCond .eq 5, 3) := by decide +kernel
theorem dX10_canBeClean_49 : decode cX10_canBeClean 49 = .ok (.iconst 1, 1) := by decide +kernel
theorem dX10_canBeClean_50 : decode cX10_canBeClean 50 = .ok (.ireturn, 1) := by decide +kernel
theorem dX10_canBeClean_51 : decode cX10_canBeClean 51 = .ok (.iinc 5 1, 3) := by decide +kernel
theorem dX10_canBeClean_54 : decode cX10_canBeClean 54 = .ok (.goto (-39), 3) := by decide +kernel
theorem dX10_canBeClean_57 : decode cX10_canBeClean 57 = .ok (.iconst 0, 1) := by decide +kernel
theorem dX10_canBeClean_58 : decode cX10_canBeClean 58 = .ok (.ireturn, 1) := by decide +kernel
set_option maxRecDepth 20000 in
theorem ggX11_init_X3_init : GoodIn wsX11_init wsX3_init := goodIn_r _ [30, 31, 2, 3, 4, 32, 33, 34, 35, 36, 37, 64, 65, 66, 67, 68, 69, 70, 71, 72, 73, 74] (by decide +kernel) (by decide +kernel)
set_option maxRecDepth 20000 in
theorem gX11_init_X3_init_n15 : GoodIn wsX11_init (wsX3_init) := ggX11_init_X3_init
set_option maxRecDepth 20000 in
theorem ggX11_init_X0_init : GoodIn wsX11_init wsX0_init := goodIn_r _ [39, 40, 2, 3, 17, 41, 75, 76] (by decide +kernel) (by decide +kernel)
set_option maxRecDepth 20000 in
theorem gX11_init_X0_init_n33 : GoodIn wsX11_init (wsX0_init) := ggX11_init_X0_init
set_option maxRecDepth 20000 in
theorem ggX11_init_X8_init : GoodIn wsX11_init wsX8_init := goodIn_r _ [43, 44, 2, 3, 4, 45, 46, 47, 77, 78, 79, 80] (by decide +kernel) (by decide +kernel)
set_option maxRecDepth 20000 in
theorem gX11_init_X8_init_n48 : GoodIn wsX11_init (wsX8_init) := ggX11_init_X8_init
set_option maxRecDepth 20000 in
theorem ggX11_init_X1_init : GoodIn wsX11_init wsX1_init := goodIn_r _ [49, 50, 2, 3, 4, 51, 17, 52, 81, 82] (by decide +kernel) (by decide +kernel)
set_option maxRecDepth 20000 in
theorem gX11_init_X1_init_n55 : GoodIn wsX11_init (wsX1_init) := ggX11_init_X1_init
theorem dX11_init_0 : decode cX11_init 0 = .ok (.aload_n 0, 1) := by decide +kernel
theorem dX11_init_1 : decode cX11_init 1 = .ok (.invokespecial 1, 3) := by decide +kernel
theorem dX11_init_4 : decode cX11_init 4 = .ok (.aload_n 0, 1) := by decide +kernel
theorem dX11_init_5 : decode cX11_init 5 = .ok (.bipush 56, 2) := by decide +kernel
theorem dX11_init_7 : decode cX11_init 7 = .ok (.newarray .int, 2) := by decide +kernel
theorem dX11_init_9 : decode cX11_init 9 = .ok (.putfield 9, 3) := by decide +kernel
theorem dX11_init_12 : decode cX11_init 12 = .ok (.aload_n 0, 1) := by decide +kernel
theorem dX11_init_13 : decode cX11_init 13 = .ok (.new 13, 3) := by decide +kernel
theorem dX11_init_16 : decode cX11_init 16 = .ok (.dup, 1) := by decide +kernel
theorem dX11_init_17 : decode cX11_init 17 = .ok (.invokespecial 15, 3) := by decide +kernel
theorem dX11_init_20 : decode cX11_init 20 = .ok (.putfield 16, 3) := by decide +kernel
theorem dX11_init_23 : decode cX11_init 23 = .ok (.aload_n 0, 1) := by decide +kernel
theorem dX11_init_24 : decode cX11_init 24 = .ok (.new 13, 3) := by decide +kernel
theorem dX11_init_27 : decode cX11_init 27 = .ok (.dup, 1) := by decide +kernel
theorem dX11_init_28 : decode cX11_init 28 = .ok (.invokespecial 15, 3) := by decide +kernel
theorem dX11_init_31 : decode cX11_init 31 = .ok (.putfield 20, 3) := by decide +kernel
theorem dX11_init_34 : decode cX11_init 34 = .ok (.aload_n 0, 1) := by decide +kernel
theorem dX11_init_35 : decode cX11_init 35 = .ok (.ldc2_w 25, 3) := by decide +kernel
theorem dX11_init_38 : decode cX11_init 38 = .ok (.putfield 27, 3) := by decide +kernel
theorem dX11_init_41 : decode cX11_init 41 = .ok (.aload_n 0, 1) := by decide +kernel
theorem dX11_init_42 : decode cX11_init 42 = .ok (.new 31, 3) := by decide +kernel
theorem dX11_init_45 : decode cX11_init 45 = .ok (.dup, 1) := by decide +kernel
theorem dX11_init_46 : decode cX11_init 46 = .ok (.invokespecial 33, 3) := by decide +kernel
theorem dX11_init_49 : decode cX11_init 49 = .ok (.putfield 34, 3) := by decide +kernel
theorem dX11_init_52 : decode cX11_init 52 = .ok (.aload_n 0, 1) := by decide +kernel
theorem dX11_init_53 : decode cX11_init 53 = .ok (.iconst 2, 1) := by decide +kernel
theorem dX11_init_54 : decode cX11_init 54 = .ok (.newarray .long, 2) := by decide +kernel
theorem dX11_init_56 : decode cX11_init 56 = .ok (.putfield 38, 3) := by decide +kernel
theorem dX11_init_59 : decode cX11_init 59 = .ok (.aload_n 0, 1) := by decide +kernel
theorem dX11_init_60 : decode cX11_init 60 = .ok (.iconst 2, 1) := by decide +kernel
theorem dX11_init_61 : decode cX11_init 61 = .ok (.newarray .boolean, 2) := by decide +kernel
theorem dX11_init_63 : decode cX11_init 63 = .ok (.putfield 42, 3) := by decide +kernel
theorem dX11_init_66 : decode cX11_init 66 = .ok (.aload_n 0, 1) := by decide +kernel
theorem dX11_init_67 : decode cX11_init 67 = .ok (.new 46, 3) := by decide +kernel
theorem dX11_init_70 : decode cX11_init 70 = .ok (.dup, 1) := by decide +kernel
theorem dX11_init_71 : decode cX11_init 71 = .ok (.invokespecial 48, 3) := by decide +kernel
theorem dX11_init_74 : decode cX11_init 74 = .ok (.putfield 49, 3) := by decide +kernel
theorem dX11_init_77 : decode cX11_init 77 = .ok (.aload_n 0, 1) := by decide +kernel
theorem dX11_init_78 : decode cX11_init 78 = .ok (.new 53, 3) := by decide +kernel
theorem dX11_init_81 : decode cX11_init 81 = .ok (.dup, 1) := by decide +kernel
theorem dX11_init_82 : decode cX11_init 82 = .ok (.invokespecial 55, 3) := by decide +kernel
theorem dX11_init_85 : decode cX11_init 85 = .ok (.putfield 56, 3) := by decide +kernel
theorem dX11_init_88 : decode cX11_init 88 = .ok (.return_, 1) := by decide +kernel
theorem dX11_write_0 : decode cX11_write 0 = .ok (.iload_n 1, 1) := by decide +kernel
theorem dX11_write_1 : decode cX11_write 1 = .ok (.ifCond .lt 10, 3) := by decide +kernel
theorem dX11_write_4 : decode cX11_write 4 = .ok (.iload_n 1, 1) := by decide +kernel
theorem dX11_write_5 : decode cX11_write 5 = .ok (.sipush 255, 3) := by decide +kernel
theorem dX11_write_8 : decode cX11_write 8 = .ok (.if_icmp .le 6, 3) := by decide +kernel
theorem dX11_write_11 : decode cX11_write 11 = .ok (.bipush (-2), 2) := by decide +kernel
theorem dX11_write_13 : decode cX11_write 13 = .ok (.ireturn, 1) := by decide +kernel
theorem dX11_write_14 : decode cX11_write 14 = .ok (.aload_n 0, 1) := by decide +kernel
theorem dX11_write_15 : decode cX11_write 15 = .ok (.getfield 60, 3) := by decide +kernel
theorem dX11_write_18 : decode cX11_write 18 = .ok (.ifCond .lt 15, 3) := by decide +kernel
theorem dX11_write_21 : decode cX11_write 21 = .ok (.aload_n 0, 1) := by decide +kernel
theorem dX11_write_22 : decode cX11_write 22 = .ok (.getfield 60, 3) := by decide +kernel
theorem dX11_write_25 : decode cX11_write 25 = .ok (.aload_n 0, 1) := by decide +kernel
theorem dX11_write_26 : decode cX11_write 26 = .ok (.getfield 9, 3) := by decide +kernel
theorem dX11_write_29 : decode cX11_write 29 = .ok (.arraylength, 1) := by decide +kernel
theorem dX11_write_30 : decode cX11_write 30 = .ok (.if_icmp .lt 6, 3) := by decide +kernel
theorem dX11_write_33 : decode cX11_write 33 = .ok (.bipush (-4), 2) := by decide +kernel
theorem dX11_write_35 : decode cX11_write 35 = .ok (.ireturn, 1) := by decide +kernel
theorem dX11_write_36 : decode cX11_write 36 = .ok (.aload_n 0, 1) := by decide +kernel
theorem dX11_write_37 : decode cX11_write 37 = .ok (.getfield 9, 3) := by decide +kernel
theorem dX11_write_40 : decode cX11_write 40 = .ok (.aload_n 0, 1) := by decide +kernel
theorem dX11_write_41 : decode cX11_write 41 = .ok (.getfield 60, 3) := by decide +kernel
theorem dX11_write_44 : decode cX11_write 44 = .ok (.iload_n 1, 1) := by decide +kernel
theorem dX11_write_45 : decode cX11_write 45 = .ok (.iastore, 1) := by decide +kernel
theorem dX11_write_46 : decode cX11_write 46 = .ok (.aload_n 0, 1) := by decide +kernel
theorem dX11_write_47 : decode cX11_write 47 = .ok (.dup, 1) := by decide +kernel
theorem dX11_write_48 : decode cX11_write 48 = .ok (.getfield 60, 3) := by decide +kernel
theorem dX11_write_51 : decode cX11_write 51 = .ok (.iconst 1, 1) := by decide +kernel
theorem dX11_write_52 : decode cX11_write 52 = .ok (.iadd, 1) := by decide +kernel
theorem dX11_write_53 : decode cX11_write 53 = .ok (.putfield 60, 3) := by decide +kernel
theorem dX11_write_56 : decode cX11_write 56 = .ok (.aload_n 0, 1) := by decide +kernel
theorem dX11_write_57 : decode cX11_write 57 = .ok (.getfield 60, 3) := by decide +kernel
theorem dX11_write_60 : decode cX11_write 60 = .ok (.ireturn, 1) := by decide +kernel
theorem dX11_wipe_0 : decode cX11_wipe 0 = .ok (.aload_n 0, 1) := by decide +kernel
theorem dX11_wipe_1 : decode cX11_wipe 1 = .ok (.getfield 60, 3) := by decide +kernel
theorem dX11_wipe_4 : decode cX11_wipe 4 = .ok (.istore_n 1, 1) := by decide +kernel
theorem dX11_wipe_5 : decode cX11_wipe 5 = .ok (.aload_n 0, 1) := by decide +kernel
theorem dX11_wipe_6 : decode cX11_wipe 6 = .ok (.iconst 0, 1) := by decide +kernel
theorem dX11_wipe_7 : decode cX11_wipe 7 = .ok (.putfield 60, 3) := by decide +kernel
theorem dX11_wipe_10 : decode cX11_wipe 10 = .ok (.iload_n 1, 1) := by decide +kernel
theorem dX11_wipe_11 : decode cX11_wipe 11 = .ok (.ireturn, 1) := by decide +kernel
set_option maxRecDepth 20000 in
theorem ggX11_fault_X3_read : GoodIn wsX11_fault wsX3_read := goodIn_r _ [8, 9, 10, 11, 12, 13, 14, 15, 16, 7, 17, 18, 19, 20, 21, 22, 23, 24, 25, 26, 27, 28, 29, 30, 31, 32, 33, 34, 35, 36, 37, 38, 39, 40, 41, 42, 43, 44, 45, 46, 47, 59, 60, 61, 62, 63, 64, 65, 66, 67, 68, 69] (by decide +kernel) (by decide +kernel)
set_option maxRecDepth 20000 in
theorem gX11_fault_X3_read : GoodIn wsX11_fault (wsV RX11 64 RX3 yX3_read wsX3_read) := goodIn_app (goodIn_of _ (by decide +kernel)) ggX11_fault_X3_read
theorem dX11_fault_0 : decode cX11_fault 0 = .ok (.aload_n 0, 1) := by decide +kernel
theorem dX11_fault_1 : decode cX11_fault 1 = .ok (.getfield 20, 3) := by decide +kernel
theorem dX11_fault_4 : decode cX11_fault 4 = .ok (.aload_n 0, 1) := by decide +kernel
theorem dX11_fault_5 : decode cX11_fault 5 = .ok (.getfield 9, 3) := by decide +kernel
theorem dX11_fault_8 : decode cX11_fault 8 = .ok (.aload_n 0, 1) := by decide +kernel
theorem dX11_fault_9 : decode cX11_fault 9 = .ok (.getfield 60, 3) := by decide +kernel
theorem dX11_fault_12 : decode cX11_fault 12 = .ok (.invokevirtual 64, 3) := by decide +kernel
theorem dX11_fault_15 : decode cX11_fault 15 = .ok (.ireturn, 1) := by decide +kernel
set_option maxRecDepth 20000 in
theorem ggX11_floor_X3_read : GoodIn wsX11_floor wsX3_read := goodIn_r _ [12, 13, 14, 15, 16, 17, 18, 19, 20, 11, 21, 22, 23, 24, 25, 26, 27, 28, 29, 30, 31, 32, 33, 34, 35, 36, 37, 38, 39, 40, 41, 42, 43, 44, 45, 46, 47, 48, 49, 50, 51, 80, 81, 82, 83, 84, 85, 86, 87, 88, 89, 90] (by decide +kernel) (by decide +kernel)
set_option maxRecDepth 20000 in
theorem gX11_floor_X3_read : GoodIn wsX11_floor (wsV RX11 64 RX3 yX3_read wsX3_read) := goodIn_app (goodIn_of _ (by decide +kernel)) ggX11_floor_X3_read
set_option maxRecDepth 20000 in
theorem ggX11_floor_X3_firstScene : GoodIn wsX11_floor wsX3_firstScene := goodIn_r _ [55, 56, 15, 43, 57, 58, 59, 60, 61, 62, 80, 81, 82, 83, 84, 85, 86, 87, 88, 89, 90] (by decide +kernel) (by decide +kernel)
set_option maxRecDepth 20000 in
theorem gX11_floor_X3_firstScene : GoodIn wsX11_floor (wsV RX11 68 RX3 yX3_firstScene wsX3_firstScene) := goodIn_app (goodIn_of _ (by decide +kernel)) ggX11_floor_X3_firstScene
set_option maxRecDepth 20000 in
theorem ggX11_floor_X0_forgetAll : GoodIn wsX11_floor wsX0_forgetAll := goodIn_r _ [67, 68, 91, 92] (by decide +kernel) (by decide +kernel)
set_option maxRecDepth 20000 in
theorem gX11_floor_X0_forgetAll : GoodIn wsX11_floor (wsV RX11 72 RX0 yX0_forgetAll wsX0_forgetAll) := goodIn_app (goodIn_of _ (by decide +kernel)) ggX11_floor_X0_forgetAll
theorem dX11_floor_0 : decode cX11_floor 0 = .ok (.aload_n 0, 1) := by decide +kernel
theorem dX11_floor_1 : decode cX11_floor 1 = .ok (.getfield 20, 3) := by decide +kernel
theorem dX11_floor_4 : decode cX11_floor 4 = .ok (.aload_n 0, 1) := by decide +kernel
theorem dX11_floor_5 : decode cX11_floor 5 = .ok (.getfield 9, 3) := by decide +kernel
theorem dX11_floor_8 : decode cX11_floor 8 = .ok (.aload_n 0, 1) := by decide +kernel
theorem dX11_floor_9 : decode cX11_floor 9 = .ok (.getfield 60, 3) := by decide +kernel
theorem dX11_floor_12 : decode cX11_floor 12 = .ok (.invokevirtual 64, 3) := by decide +kernel
theorem dX11_floor_15 : decode cX11_floor 15 = .ok (.bipush (-9), 2) := by decide +kernel
theorem dX11_floor_17 : decode cX11_floor 17 = .ok (.if_icmp .eq 6, 3) := by decide +kernel
theorem dX11_floor_20 : decode cX11_floor 20 = .ok (.bipush (-3), 2) := by decide +kernel
theorem dX11_floor_22 : decode cX11_floor 22 = .ok (.ireturn, 1) := by decide +kernel
theorem dX11_floor_23 : decode cX11_floor 23 = .ok (.aload_n 0, 1) := by decide +kernel
theorem dX11_floor_24 : decode cX11_floor 24 = .ok (.getfield 16, 3) := by decide +kernel
theorem dX11_floor_27 : decode cX11_floor 27 = .ok (.astore_n 1, 1) := by decide +kernel
theorem dX11_floor_28 : decode cX11_floor 28 = .ok (.aload_n 0, 1) := by decide +kernel
theorem dX11_floor_29 : decode cX11_floor 29 = .ok (.aload_n 0, 1) := by decide +kernel
theorem dX11_floor_30 : decode cX11_floor 30 = .ok (.getfield 20, 3) := by decide +kernel
theorem dX11_floor_33 : decode cX11_floor 33 = .ok (.putfield 16, 3) := by decide +kernel
theorem dX11_floor_36 : decode cX11_floor 36 = .ok (.aload_n 0, 1) := by decide +kernel
theorem dX11_floor_37 : decode cX11_floor 37 = .ok (.aload_n 1, 1) := by decide +kernel
theorem dX11_floor_38 : decode cX11_floor 38 = .ok (.putfield 20, 3) := by decide +kernel
theorem dX11_floor_41 : decode cX11_floor 41 = .ok (.aload_n 0, 1) := by decide +kernel
theorem dX11_floor_42 : decode cX11_floor 42 = .ok (.aload_n 0, 1) := by decide +kernel
theorem dX11_floor_43 : decode cX11_floor 43 = .ok (.getfield 16, 3) := by decide +kernel
theorem dX11_floor_46 : decode cX11_floor 46 = .ok (.invokevirtual 68, 3) := by decide +kernel
theorem dX11_floor_49 : decode cX11_floor 49 = .ok (.putfield 27, 3) := by decide +kernel
theorem dX11_floor_52 : decode cX11_floor 52 = .ok (.aload_n 0, 1) := by decide +kernel
theorem dX11_floor_53 : decode cX11_floor 53 = .ok (.getfield 34, 3) := by decide +kernel
theorem dX11_floor_56 : decode cX11_floor 56 = .ok (.invokevirtual 72, 3) := by decide +kernel
theorem dX11_floor_59 : decode cX11_floor 59 = .ok (.iconst 0, 1) := by decide +kernel
theorem dX11_floor_60 : decode cX11_floor 60 = .ok (.istore_n 2, 1) := by decide +kernel
theorem dX11_floor_61 : decode cX11_floor 61 = .ok (.iload_n 2, 1) := by decide +kernel
theorem dX11_floor_62 : decode cX11_floor 62 = .ok (.aload_n 0, 1) := by decide +kernel
theorem dX11_floor_63 : decode cX11_floor 63 = .ok (.getfield 42, 3) := by decide +kernel
theorem dX11_floor_66 : decode cX11_floor 66 = .ok (.arraylength, 1) := by decide +kernel
theorem dX11_floor_67 : decode cX11_floor 67 = .ok (.if_icmp .ge 16, 3) := by decide +kernel
theorem dX11_floor_70 : decode cX11_floor 70 = .ok (.aload_n 0, 1) := by decide +kernel
theorem dX11_floor_71 : decode cX11_floor 71 = .ok (.getfield 42, 3) := by decide +kernel
theorem dX11_floor_74 : decode cX11_floor 74 = .ok (.iload_n 2, 1) := by decide +kernel
theorem dX11_floor_75 : decode cX11_floor 75 = .ok (.iconst 0, 1) := by decide +kernel
theorem dX11_floor_76 : decode cX11_floor 76 = .ok (.bastore, 1) := by decide +kernel
theorem dX11_floor_77 : decode cX11_floor 77 = .ok (.iinc 2 1, 3) := by decide +kernel
theorem dX11_floor_80 : decode cX11_floor 80 = .ok (.goto (-19), 3) := by decide +kernel
theorem dX11_floor_83 : decode cX11_floor 83 = .ok (.bipush 100, 2) := by decide +kernel
theorem dX11_floor_85 : decode cX11_floor 85 = .ok (.aload_n 0, 1) := by decide +kernel
theorem dX11_floor_86 : decode cX11_floor 86 = .ok (.getfield 16, 3) := by decide +kernel
theorem dX11_floor_89 : decode cX11_floor 89 = .ok (.getfield 75, 3) := by decide +kernel
theorem dX11_floor_92 : decode cX11_floor 92 = .ok (.imul, 1) := by decide +kernel
theorem dX11_floor_93 : decode cX11_floor 93 = .ok (.bipush 10, 2) := by decide +kernel
theorem dX11_floor_95 : decode cX11_floor 95 = .ok (.aload_n 0, 1) := by decide +kernel
theorem dX11_floor_96 : decode cX11_floor 96 = .ok (.getfield 16, 3) := by decide +kernel
theorem dX11_floor_99 : decode cX11_floor 99 = .ok (.getfield 78, 3) := by decide +kernel
theorem dX11_floor_102 : decode cX11_floor 102 = .ok (.imul, 1) := by decide +kernel
theorem dX11_floor_103 : decode cX11_floor 103 = .ok (.iadd, 1) := by decide +kernel
theorem dX11_floor_104 : decode cX11_floor 104 = .ok (.aload_n 0, 1) := by decide +kernel
theorem dX11_floor_105 : decode cX11_floor 105 = .ok (.getfield 16, 3) := by decide +kernel
theorem dX11_floor_108 : decode cX11_floor 108 = .ok (.getfield 81, 3) := by decide +kernel
theorem dX11_floor_111 : decode cX11_floor 111 = .ok (.iadd, 1) := by decide +kernel
theorem dX11_floor_112 : decode cX11_floor 112 = .ok (.ireturn, 1) := by decide +kernel
set_option maxRecDepth 20000 in
theorem ggX11_person_X3_isPerson : GoodIn wsX11_person wsX3_isPerson := goodIn_r _ [7, 8, 95, 96, 97, 98, 99, 100, 101, 102, 103, 104, 105] (by decide +kernel) (by decide +kernel)
set_option maxRecDepth 20000 in
theorem gX11_person_X3_isPerson : GoodIn wsX11_person (wsV RX11 84 RX3 yX3_isPerson wsX3_isPerson) := goodIn_app (goodIn_of _ (by decide +kernel)) ggX11_person_X3_isPerson
set_option maxRecDepth 20000 in
theorem ggX11_person_X3_personKind : GoodIn wsX11_person wsX3_personKind := goodIn_r _ [12, 13, 95, 96, 97, 98, 99, 100, 101, 102, 103, 104, 105] (by decide +kernel) (by decide +kernel)
set_option maxRecDepth 20000 in
theorem gX11_person_X3_personKind : GoodIn wsX11_person (wsV RX11 88 RX3 yX3_personKind wsX3_personKind) := goodIn_app (goodIn_of _ (by decide +kernel)) ggX11_person_X3_personKind
set_option maxRecDepth 20000 in
theorem ggX11_person_X3_liftAt : GoodIn wsX11_person wsX3_liftAt := goodIn_r _ [17, 18, 19, 20, 6, 21, 22, 23, 24, 25, 26, 27, 28, 29, 30, 31, 10, 11, 12, 13, 95, 96, 97, 98, 99, 100, 101, 102, 103, 104, 105] (by decide +kernel) (by decide +kernel)
set_option maxRecDepth 20000 in
theorem gX11_person_X3_liftAt : GoodIn wsX11_person (wsV RX11 92 RX3 yX3_liftAt wsX3_liftAt) := goodIn_app (goodIn_of _ (by decide +kernel)) ggX11_person_X3_liftAt
set_option maxRecDepth 20000 in
theorem ggX11_person_X3_guiltOf : GoodIn wsX11_person wsX3_guiltOf := goodIn_r _ [35, 36, 37, 38, 6, 39, 40, 41, 42, 26, 43, 44, 45, 46, 47, 48, 49, 50, 51, 52, 53, 54, 55, 56, 57, 58, 59, 60, 61, 95, 96, 97, 98, 99, 100, 101, 102, 103, 104, 105] (by decide +kernel) (by decide +kernel)
set_option maxRecDepth 20000 in
theorem gX11_person_X3_guiltOf : GoodIn wsX11_person (wsV RX11 96 RX3 yX3_guiltOf wsX3_guiltOf) := goodIn_app (goodIn_of _ (by decide +kernel)) ggX11_person_X3_guiltOf
set_option maxRecDepth 20000 in
theorem ggX11_person_X3_lyingBits : GoodIn wsX11_person wsX3_lyingBits := goodIn_r _ [39, 40, 41, 42, 26, 43, 95, 96, 97, 98, 99, 100, 101, 102, 103, 104, 105] (by decide +kernel) (by decide +kernel)
set_option maxRecDepth 20000 in
theorem gX11_person_X3_lyingBits : GoodIn wsX11_person (wsV RX11 99 RX3 yX3_lyingBits wsX3_lyingBits) := goodIn_app (goodIn_of _ (by decide +kernel)) ggX11_person_X3_lyingBits
set_option maxRecDepth 20000 in
theorem ggX11_person_X3_isClean : GoodIn wsX11_person wsX3_isClean := goodIn_r _ [66, 36, 37, 38, 6, 39, 40, 41, 42, 26, 43, 67, 68, 69, 70, 71, 72, 73, 74, 75, 76, 77, 78, 79, 95, 96, 97, 98, 99, 100, 101, 102, 103, 104, 105] (by decide +kernel) (by decide +kernel)
set_option maxRecDepth 20000 in
theorem gX11_person_X3_isClean : GoodIn wsX11_person (wsV RX11 102 RX3 yX3_isClean wsX3_isClean) := goodIn_app (goodIn_of _ (by decide +kernel)) ggX11_person_X3_isClean
set_option maxRecDepth 20000 in
theorem ggX11_person_X3_ownWeight : GoodIn wsX11_person wsX3_ownWeight := goodIn_r _ [83, 36, 37, 38, 6, 39, 40, 41, 42, 26, 43, 67, 68, 69, 70, 71, 72, 73, 74, 75, 76, 77, 78, 79, 53, 54, 55, 56, 57, 58, 59, 60, 61, 95, 96, 97, 98, 99, 100, 101, 102, 103, 104, 105] (by decide +kernel) (by decide +kernel)
set_option maxRecDepth 20000 in
theorem gX11_person_X3_ownWeight : GoodIn wsX11_person (wsV RX11 106 RX3 yX3_ownWeight wsX3_ownWeight) := goodIn_app (goodIn_of _ (by decide +kernel)) ggX11_person_X3_ownWeight
theorem dX11_person_0 : decode cX11_person 0 = .ok (.aload_n 0, 1) := by decide +kernel
theorem dX11_person_1 : decode cX11_person 1 = .ok (.getfield 16, 3) := by decide +kernel
theorem dX11_person_4 : decode cX11_person 4 = .ok (.iload_n 1, 1) := by decide +kernel
theorem dX11_person_5 : decode cX11_person 5 = .ok (.invokevirtual 84, 3) := by decide +kernel
theorem dX11_person_8 : decode cX11_person 8 = .ok (.ifCond .ne 5, 3) := by decide +kernel
theorem dX11_person_11 : decode cX11_person 11 = .ok (.iconst (-1), 1) := by decide +kernel
theorem dX11_person_12 : decode cX11_person 12 = .ok (.ireturn, 1) := by decide +kernel
theorem dX11_person_13 : decode cX11_person 13 = .ok (.iload_n 2, 1) := by decide +kernel
theorem dX11_person_14 : decode cX11_person 14 = .ok (.tableswitch 120 0 5 #[38, 47, 60, 73, 86, 107], 38) := by decide +kernel
theorem dX11_person_52 : decode cX11_person 52 = .ok (.aload_n 0, 1) := by decide +kernel
theorem dX11_person_53 : decode cX11_person 53 = .ok (.getfield 16, 3) := by decide +kernel
theorem dX11_person_56 : decode cX11_person 56 = .ok (.iload_n 1, 1) := by decide +kernel
theorem dX11_person_57 : decode cX11_person 57 = .ok (.invokevirtual 88, 3) := by decide +kernel
theorem dX11_person_60 : decode cX11_person 60 = .ok (.ireturn, 1) := by decide +kernel
theorem dX11_person_61 : decode cX11_person 61 = .ok (.aload_n 0, 1) := by decide +kernel
theorem dX11_person_62 : decode cX11_person 62 = .ok (.getfield 16, 3) := by decide +kernel
theorem dX11_person_65 : decode cX11_person 65 = .ok (.aload_n 0, 1) := by decide +kernel
theorem dX11_person_66 : decode cX11_person 66 = .ok (.getfield 27, 3) := by decide +kernel
theorem dX11_person_69 : decode cX11_person 69 = .ok (.iload_n 1, 1) := by decide +kernel
theorem dX11_person_70 : decode cX11_person 70 = .ok (.invokevirtual 92, 3) := by decide +kernel
theorem dX11_person_73 : decode cX11_person 73 = .ok (.ireturn, 1) := by decide +kernel
theorem dX11_person_74 : decode cX11_person 74 = .ok (.aload_n 0, 1) := by decide +kernel
theorem dX11_person_75 : decode cX11_person 75 = .ok (.getfield 16, 3) := by decide +kernel
theorem dX11_person_78 : decode cX11_person 78 = .ok (.aload_n 0, 1) := by decide +kernel
theorem dX11_person_79 : decode cX11_person 79 = .ok (.getfield 27, 3) := by decide +kernel
theorem dX11_person_82 : decode cX11_person 82 = .ok (.iload_n 1, 1) := by decide +kernel
theorem dX11_person_83 : decode cX11_person 83 = .ok (.invokevirtual 96, 3) := by decide +kernel
theorem dX11_person_86 : decode cX11_person 86 = .ok (.ireturn, 1) := by decide +kernel
theorem dX11_person_87 : decode cX11_person 87 = .ok (.aload_n 0, 1) := by decide +kernel
theorem dX11_person_88 : decode cX11_person 88 = .ok (.getfield 16, 3) := by decide +kernel
theorem dX11_person_91 : decode cX11_person 91 = .ok (.aload_n 0, 1) := by decide +kernel
theorem dX11_person_92 : decode cX11_person 92 = .ok (.getfield 27, 3) := by decide +kernel
theorem dX11_person_95 : decode cX11_person 95 = .ok (.iload_n 1, 1) := by decide +kernel
theorem dX11_person_96 : decode cX11_person 96 = .ok (.invokevirtual 99, 3) := by decide +kernel
theorem dX11_person_99 : decode cX11_person 99 = .ok (.ireturn, 1) := by decide +kernel
theorem dX11_person_100 : decode cX11_person 100 = .ok (.aload_n 0, 1) := by decide +kernel
theorem dX11_person_101 : decode cX11_person 101 = .ok (.getfield 16, 3) := by decide +kernel
theorem dX11_person_104 : decode cX11_person 104 = .ok (.aload_n 0, 1) := by decide +kernel
theorem dX11_person_105 : decode cX11_person 105 = .ok (.getfield 27, 3) := by decide +kernel
theorem dX11_person_108 : decode cX11_person 108 = .ok (.iload_n 1, 1) := by decide +kernel
theorem dX11_person_109 : decode cX11_person 109 = .ok (.invokevirtual 102, 3) := by decide +kernel
theorem dX11_person_112 : decode cX11_person 112 = .ok (.ifCond .eq 7, 3) := by decide +kernel
theorem dX11_person_115 : decode cX11_person 115 = .ok (.iconst 1, 1) := by decide +kernel
theorem dX11_person_116 : decode cX11_person 116 = .ok (.goto 4, 3) := by decide +kernel
theorem dX11_person_119 : decode cX11_person 119 = .ok (.iconst 0, 1) := by decide +kernel
theorem dX11_person_120 : decode cX11_person 120 = .ok (.ireturn, 1) := by decide +kernel
theorem dX11_person_121 : decode cX11_person 121 = .ok (.aload_n 0, 1) := by decide +kernel
theorem dX11_person_122 : decode cX11_person 122 = .ok (.getfield 16, 3) := by decide +kernel
theorem dX11_person_125 : decode cX11_person 125 = .ok (.aload_n 0, 1) := by decide +kernel
theorem dX11_person_126 : decode cX11_person 126 = .ok (.getfield 27, 3) := by decide +kernel
theorem dX11_person_129 : decode cX11_person 129 = .ok (.iload_n 1, 1) := by decide +kernel
theorem dX11_person_130 : decode cX11_person 130 = .ok (.invokevirtual 106, 3) := by decide +kernel
theorem dX11_person_133 : decode cX11_person 133 = .ok (.ireturn, 1) := by decide +kernel
theorem dX11_person_134 : decode cX11_person 134 = .ok (.bipush (-2), 2) := by decide +kernel
theorem dX11_person_136 : decode cX11_person 136 = .ok (.ireturn, 1) := by decide +kernel
set_option maxRecDepth 20000 in
theorem ggX11_grain_X3_isGrain : GoodIn wsX11_grain wsX3_isGrain := goodIn_r _ [7, 8, 89, 90, 91, 92, 93, 94, 95, 96, 97, 98, 99] (by decide +kernel) (by decide +kernel)
set_option maxRecDepth 20000 in
theorem gX11_grain_X3_isGrain : GoodIn wsX11_grain (wsV RX11 109 RX3 yX3_isGrain wsX3_isGrain) := goodIn_app (goodIn_of _ (by decide +kernel)) ggX11_grain_X3_isGrain
set_option maxRecDepth 20000 in
theorem ggX11_grain_X7_placeOf : GoodIn wsX11_grain wsX7_placeOf := goodIn_r _ [12] (by decide +kernel) (by decide +kernel)
set_option maxRecDepth 20000 in
theorem gX11_grain_X7_placeOf : GoodIn wsX11_grain (va_wsS RX11 112 yX7_placeOf wsX7_placeOf) := goodIn_app (goodIn_of _ (by decide +kernel)) ggX11_grain_X7_placeOf
set_option maxRecDepth 20000 in
theorem ggX11_grain_X3_liftAt : GoodIn wsX11_grain wsX3_liftAt := goodIn_r _ [16, 17, 18, 19, 6, 20, 21, 22, 23, 24, 11, 25, 26, 27, 28, 29, 30, 31, 32, 33, 89, 90, 91, 92, 93, 94, 95, 96, 97, 98, 99] (by decide +kernel) (by decide +kernel)
set_option maxRecDepth 20000 in
theorem gX11_grain_X3_liftAt : GoodIn wsX11_grain (wsV RX11 92 RX3 yX3_liftAt wsX3_liftAt) := goodIn_app (goodIn_of _ (by decide +kernel)) ggX11_grain_X3_liftAt
set_option maxRecDepth 20000 in
theorem ggX11_grain_X3_weightOf : GoodIn wsX11_grain wsX3_weightOf := goodIn_r _ [37, 38, 89, 90, 91, 92, 93, 94, 95, 96, 97, 98, 99] (by decide +kernel) (by decide +kernel)
set_option maxRecDepth 20000 in
theorem gX11_grain_X3_weightOf : GoodIn wsX11_grain (wsV RX11 115 RX3 yX3_weightOf wsX3_weightOf) := goodIn_app (goodIn_of _ (by decide +kernel)) ggX11_grain_X3_weightOf
set_option maxRecDepth 20000 in
theorem ggX11_grain_X3_grainKind : GoodIn wsX11_grain wsX3_grainKind := goodIn_r _ [42, 43, 89, 90, 91, 92, 93, 94, 95, 96, 97, 98, 99] (by decide +kernel) (by decide +kernel)
set_option maxRecDepth 20000 in
theorem gX11_grain_X3_grainKind : GoodIn wsX11_grain (wsV RX11 118 RX3 yX3_grainKind wsX3_grainKind) := goodIn_app (goodIn_of _ (by decide +kernel)) ggX11_grain_X3_grainKind
set_option maxRecDepth 20000 in
theorem ggX11_grain_X3_ownerOf : GoodIn wsX11_grain wsX3_ownerOf := goodIn_r _ [47, 48, 89, 90, 91, 92, 93, 94, 95, 96, 97, 98, 99] (by decide +kernel) (by decide +kernel)
set_option maxRecDepth 20000 in
theorem gX11_grain_X3_ownerOf : GoodIn wsX11_grain (wsV RX11 121 RX3 yX3_ownerOf wsX3_ownerOf) := goodIn_app (goodIn_of _ (by decide +kernel)) ggX11_grain_X3_ownerOf
set_option maxRecDepth 20000 in
theorem ggX11_grain_X3_isPerson : GoodIn wsX11_grain wsX3_isPerson := goodIn_r _ [52, 53, 89, 90, 91, 92, 93, 94, 95, 96, 97, 98, 99] (by decide +kernel) (by decide +kernel)
set_option maxRecDepth 20000 in
theorem gX11_grain_X3_isPerson : GoodIn wsX11_grain (wsV RX11 84 RX3 yX3_isPerson wsX3_isPerson) := goodIn_app (goodIn_of _ (by decide +kernel)) ggX11_grain_X3_isPerson
set_option maxRecDepth 20000 in
theorem ggX11_grain_X3_ownLift : GoodIn wsX11_grain wsX3_ownLift := goodIn_r _ [56] (by decide +kernel) (by decide +kernel)
set_option maxRecDepth 20000 in
theorem gX11_grain_X3_ownLift : GoodIn wsX11_grain (va_wsS RX11 124 yX3_ownLift wsX3_ownLift) := goodIn_app (goodIn_of _ (by decide +kernel)) ggX11_grain_X3_ownLift
set_option maxRecDepth 20000 in
theorem ggX11_grain_X3_landing : GoodIn wsX11_grain wsX3_landing := goodIn_r _ [60, 61, 62, 63, 6, 64, 65, 45, 46, 47, 48, 29, 30, 31, 32, 33, 66, 50, 51, 52, 53, 67, 40, 41, 42, 43, 68, 35, 36, 37, 38, 69, 55, 56, 70, 71, 72, 89, 90, 91, 92, 93, 94, 95, 96, 97, 98, 99] (by decide +kernel) (by decide +kernel)
set_option maxRecDepth 20000 in
theorem gX11_grain_X3_landing : GoodIn wsX11_grain (wsV RX11 128 RX3 yX3_landing wsX3_landing) := goodIn_app (goodIn_of _ (by decide +kernel)) ggX11_grain_X3_landing
set_option maxRecDepth 20000 in
theorem ggX11_grain_X3_isRight : GoodIn wsX11_grain wsX3_isRight := goodIn_r _ [76, 77, 10, 11, 12, 65, 45, 46, 6, 47, 48, 89, 90, 91, 92, 93, 94, 95, 96, 97, 98, 99] (by decide +kernel) (by decide +kernel)
set_option maxRecDepth 20000 in
theorem gX11_grain_X3_isRight : GoodIn wsX11_grain (wsV RX11 132 RX3 yX3_isRight wsX3_isRight) := goodIn_app (goodIn_of _ (by decide +kernel)) ggX11_grain_X3_isRight
theorem dX11_grain_0 : decode cX11_grain 0 = .ok (.aload_n 0, 1) := by decide +kernel
theorem dX11_grain_1 : decode cX11_grain 1 = .ok (.getfield 16, 3) := by decide +kernel
theorem dX11_grain_4 : decode cX11_grain 4 = .ok (.iload_n 1, 1) := by decide +kernel
theorem dX11_grain_5 : decode cX11_grain 5 = .ok (.invokevirtual 109, 3) := by decide +kernel
theorem dX11_grain_8 : decode cX11_grain 8 = .ok (.ifCond .ne 5, 3) := by decide +kernel
theorem dX11_grain_11 : decode cX11_grain 11 = .ok (.iconst (-1), 1) := by decide +kernel
theorem dX11_grain_12 : decode cX11_grain 12 = .ok (.ireturn, 1) := by decide +kernel
theorem dX11_grain_13 : decode cX11_grain 13 = .ok (.aload_n 0, 1) := by decide +kernel
theorem dX11_grain_14 : decode cX11_grain 14 = .ok (.getfield 27, 3) := by decide +kernel
theorem dX11_grain_17 : decode cX11_grain 17 = .ok (.iload_n 1, 1) := by decide +kernel
theorem dX11_grain_18 : decode cX11_grain 18 = .ok (.invokestatic 112, 3) := by decide +kernel
theorem dX11_grain_21 : decode cX11_grain 21 = .ok (.istore_n 3, 1) := by decide +kernel
theorem dX11_grain_22 : decode cX11_grain 22 = .ok (.aload_n 0, 1) := by decide +kernel
theorem dX11_grain_23 : decode cX11_grain 23 = .ok (.getfield 16, 3) := by decide +kernel
theorem dX11_grain_26 : decode cX11_grain 26 = .ok (.aload_n 0, 1) := by decide +kernel
theorem dX11_grain_27 : decode cX11_grain 27 = .ok (.getfield 27, 3) := by decide +kernel
theorem dX11_grain_30 : decode cX11_grain 30 = .ok (.iload_n 3, 1) := by decide +kernel
theorem dX11_grain_31 : decode cX11_grain 31 = .ok (.invokevirtual 92, 3) := by decide +kernel
theorem dX11_grain_34 : decode cX11_grain 34 = .ok (.istore 4, 2) := by decide +kernel
theorem dX11_grain_36 : decode cX11_grain 36 = .ok (.iload_n 2, 1) := by decide +kernel
theorem dX11_grain_37 : decode cX11_grain 37 = .ok (.tableswitch 134 0 6 #[43, 52, 61, 70, 72, 101, 113], 43) := by decide +kernel
theorem dX11_grain_80 : decode cX11_grain 80 = .ok (.aload_n 0, 1) := by decide +kernel
theorem dX11_grain_81 : decode cX11_grain 81 = .ok (.getfield 16, 3) := by decide +kernel
theorem dX11_grain_84 : decode cX11_grain 84 = .ok (.iload_n 1, 1) := by decide +kernel
theorem dX11_grain_85 : decode cX11_grain 85 = .ok (.invokevirtual 115, 3) := by decide +kernel
theorem dX11_grain_88 : decode cX11_grain 88 = .ok (.ireturn, 1) := by decide +kernel
theorem dX11_grain_89 : decode cX11_grain 89 = .ok (.aload_n 0, 1) := by decide +kernel
theorem dX11_grain_90 : decode cX11_grain 90 = .ok (.getfield 16, 3) := by decide +kernel
theorem dX11_grain_93 : decode cX11_grain 93 = .ok (.iload_n 1, 1) := by decide +kernel
theorem dX11_grain_94 : decode cX11_grain 94 = .ok (.invokevirtual 118, 3) := by decide +kernel
theorem dX11_grain_97 : decode cX11_grain 97 = .ok (.ireturn, 1) := by decide +kernel
theorem dX11_grain_98 : decode cX11_grain 98 = .ok (.aload_n 0, 1) := by decide +kernel
theorem dX11_grain_99 : decode cX11_grain 99 = .ok (.getfield 16, 3) := by decide +kernel
theorem dX11_grain_102 : decode cX11_grain 102 = .ok (.iload_n 1, 1) := by decide +kernel
theorem dX11_grain_103 : decode cX11_grain 103 = .ok (.invokevirtual 121, 3) := by decide +kernel
theorem dX11_grain_106 : decode cX11_grain 106 = .ok (.ireturn, 1) := by decide +kernel
theorem dX11_grain_107 : decode cX11_grain 107 = .ok (.iload_n 3, 1) := by decide +kernel
theorem dX11_grain_108 : decode cX11_grain 108 = .ok (.ireturn, 1) := by decide +kernel
theorem dX11_grain_109 : decode cX11_grain 109 = .ok (.aload_n 0, 1) := by decide +kernel
theorem dX11_grain_110 : decode cX11_grain 110 = .ok (.getfield 16, 3) := by decide +kernel
theorem dX11_grain_113 : decode cX11_grain 113 = .ok (.iload_n 3, 1) := by decide +kernel
theorem dX11_grain_114 : decode cX11_grain 114 = .ok (.invokevirtual 84, 3) := by decide +kernel
theorem dX11_grain_117 : decode cX11_grain 117 = .ok (.ifCond .eq 19, 3) := by decide +kernel
theorem dX11_grain_120 : decode cX11_grain 120 = .ok (.aload_n 0, 1) := by decide +kernel
theorem dX11_grain_121 : decode cX11_grain 121 = .ok (.getfield 16, 3) := by decide +kernel
theorem dX11_grain_124 : decode cX11_grain 124 = .ok (.iload_n 1, 1) := by decide +kernel
theorem dX11_grain_125 : decode cX11_grain 125 = .ok (.invokevirtual 118, 3) := by decide +kernel
theorem dX11_grain_128 : decode cX11_grain 128 = .ok (.iload 4, 2) := by decide +kernel
theorem dX11_grain_130 : decode cX11_grain 130 = .ok (.invokestatic 124, 3) := by decide +kernel
theorem dX11_grain_133 : decode cX11_grain 133 = .ok (.goto 4, 3) := by decide +kernel
theorem dX11_grain_136 : decode cX11_grain 136 = .ok (.iconst 0, 1) := by decide +kernel
theorem dX11_grain_137 : decode cX11_grain 137 = .ok (.ireturn, 1) := by decide +kernel
theorem dX11_grain_138 : decode cX11_grain 138 = .ok (.aload_n 0, 1) := by decide +kernel
theorem dX11_grain_139 : decode cX11_grain 139 = .ok (.getfield 16, 3) := by decide +kernel
theorem dX11_grain_142 : decode cX11_grain 142 = .ok (.iload_n 1, 1) := by decide +kernel
theorem dX11_grain_143 : decode cX11_grain 143 = .ok (.iload_n 3, 1) := by decide +kernel
theorem dX11_grain_144 : decode cX11_grain 144 = .ok (.iload 4, 2) := by decide +kernel
theorem dX11_grain_146 : decode cX11_grain 146 = .ok (.invokevirtual 128, 3) := by decide +kernel
theorem dX11_grain_149 : decode cX11_grain 149 = .ok (.ireturn, 1) := by decide +kernel
theorem dX11_grain_150 : decode cX11_grain 150 = .ok (.aload_n 0, 1) := by decide +kernel
theorem dX11_grain_151 : decode cX11_grain 151 = .ok (.getfield 16, 3) := by decide +kernel
theorem dX11_grain_154 : decode cX11_grain 154 = .ok (.aload_n 0, 1) := by decide +kernel
theorem dX11_grain_155 : decode cX11_grain 155 = .ok (.getfield 27, 3) := by decide +kernel
theorem dX11_grain_158 : decode cX11_grain 158 = .ok (.iload_n 1, 1) := by decide +kernel
theorem dX11_grain_159 : decode cX11_grain 159 = .ok (.invokevirtual 132, 3) := by decide +kernel
theorem dX11_grain_162 : decode cX11_grain 162 = .ok (.ifCond .eq 7, 3) := by decide +kernel
theorem dX11_grain_165 : decode cX11_grain 165 = .ok (.iconst 1, 1) := by decide +kernel
theorem dX11_grain_166 : decode cX11_grain 166 = .ok (.goto 4, 3) := by decide +kernel
theorem dX11_grain_169 : decode cX11_grain 169 = .ok (.iconst 0, 1) := by decide +kernel
theorem dX11_grain_170 : decode cX11_grain 170 = .ok (.ireturn, 1) := by decide +kernel
theorem dX11_grain_171 : decode cX11_grain 171 = .ok (.bipush (-2), 2) := by decide +kernel
theorem dX11_grain_173 : decode cX11_grain 173 = .ok (.ireturn, 1) := by decide +kernel
set_option maxRecDepth 20000 in
theorem ggX11_toss_X3_isPerson : GoodIn wsX11_toss wsX3_isPerson := goodIn_r _ [7, 8, 117, 118, 119, 120, 121, 122, 123, 124, 125, 126, 127] (by decide +kernel) (by decide +kernel)
set_option maxRecDepth 20000 in
theorem gX11_toss_X3_isPerson : GoodIn wsX11_toss (wsV RX11 84 RX3 yX3_isPerson wsX3_isPerson) := goodIn_app (goodIn_of _ (by decide +kernel)) ggX11_toss_X3_isPerson
set_option maxRecDepth 20000 in
theorem ggX11_toss_X3_flyingBits : GoodIn wsX11_toss wsX3_flyingBits := goodIn_r _ [12, 13, 14, 15, 16, 6, 17, 18, 19, 20, 21, 22, 23, 24, 25, 26, 27, 28, 29, 30, 31, 32, 33, 34, 35, 36, 37, 38, 39, 40, 41, 42, 43, 44, 45, 46, 47, 48, 4, 5, 7, 8, 49, 50, 51, 52, 53, 54, 55, 56, 57, 58, 59, 60, 61, 62, 63, 64, 117, 118, 119, 120, 121, 122, 123, 124, 125, 126, 127] (by decide +kernel) (by decide +kernel)
set_option maxRecDepth 20000 in
theorem gX11_toss_X3_flyingBits : GoodIn wsX11_toss (wsV RX11 135 RX3 yX3_flyingBits wsX3_flyingBits) := goodIn_app (goodIn_of _ (by decide +kernel)) ggX11_toss_X3_flyingBits
set_option maxRecDepth 20000 in
theorem ggX11_toss_J6_bitCount_0f7a4 : GoodIn wsX11_toss wsJ6_bitCount_0f7a4 := goodIn_r _ [68, 69, 70, 71] (by decide +kernel) (by decide +kernel)
set_option maxRecDepth 20000 in
theorem gX11_toss_J6_bitCount_0f7a4 : GoodIn wsX11_toss (va_wsS RX11 138 yJ6_bitCount_0f7a4 wsJ6_bitCount_0f7a4) := goodIn_app (goodIn_of _ (by decide +kernel)) ggX11_toss_J6_bitCount_0f7a4
set_option maxRecDepth 20000 in
theorem ggX11_toss_X3_tossed : GoodIn wsX11_toss wsX3_tossed := goodIn_r _ [75, 13, 14, 15, 16, 6, 17, 18, 19, 20, 21, 22, 23, 24, 25, 26, 27, 28, 29, 30, 31, 32, 33, 34, 35, 76, 77, 78, 79, 36, 37, 38, 80, 81, 82, 83, 39, 40, 41, 42, 43, 44, 45, 46, 47, 48, 4, 5, 7, 8, 49, 50, 51, 52, 53, 54, 55, 56, 57, 58, 59, 60, 61, 62, 63, 64, 84, 85, 86, 87, 88, 117, 118, 119, 120, 121, 122, 123, 124, 125, 126, 127] (by decide +kernel) (by decide +kernel)
set_option maxRecDepth 20000 in
theorem gX11_toss_X3_tossed : GoodIn wsX11_toss (wsV RX11 143 RX3 yX3_tossed wsX3_tossed) := goodIn_app (goodIn_of _ (by decide +kernel)) ggX11_toss_X3_tossed
set_option maxRecDepth 20000 in
theorem ggX11_toss_X11_actTo : GoodIn wsX11_toss wsX11_actTo := goodIn_r _ [93, 94, 2, 95, 96, 97, 98, 99, 100, 101, 102, 103, 104, 105, 106, 107, 108, 109, 110, 111, 112, 113, 114, 115, 116, 128, 129] (by decide +kernel) (by decide +kernel)
set_option maxRecDepth 20000 in
theorem gX11_toss_X11_actTo : GoodIn wsX11_toss (wsV RX11 147 RX11 yX11_actTo wsX11_actTo) := goodIn_app (goodIn_of _ (by decide +kernel)) ggX11_toss_X11_actTo
theorem dX11_toss_0 : decode cX11_toss 0 = .ok (.aload_n 0, 1) := by decide +kernel
theorem dX11_toss_1 : decode cX11_toss 1 = .ok (.getfield 16, 3) := by decide +kernel
theorem dX11_toss_4 : decode cX11_toss 4 = .ok (.iload_n 1, 1) := by decide +kernel
theorem dX11_toss_5 : decode cX11_toss 5 = .ok (.invokevirtual 84, 3) := by decide +kernel
theorem dX11_toss_8 : decode cX11_toss 8 = .ok (.ifCond .ne 5, 3) := by decide +kernel
theorem dX11_toss_11 : decode cX11_toss 11 = .ok (.iconst (-1), 1) := by decide +kernel
theorem dX11_toss_12 : decode cX11_toss 12 = .ok (.ireturn, 1) := by decide +kernel
theorem dX11_toss_13 : decode cX11_toss 13 = .ok (.aload_n 0, 1) := by decide +kernel
theorem dX11_toss_14 : decode cX11_toss 14 = .ok (.getfield 16, 3) := by decide +kernel
theorem dX11_toss_17 : decode cX11_toss 17 = .ok (.aload_n 0, 1) := by decide +kernel
theorem dX11_toss_18 : decode cX11_toss 18 = .ok (.getfield 27, 3) := by decide +kernel
theorem dX11_toss_21 : decode cX11_toss 21 = .ok (.iload_n 1, 1) := by decide +kernel
theorem dX11_toss_22 : decode cX11_toss 22 = .ok (.invokevirtual 135, 3) := by decide +kernel
theorem dX11_toss_25 : decode cX11_toss 25 = .ok (.invokestatic 138, 3) := by decide +kernel
theorem dX11_toss_28 : decode cX11_toss 28 = .ok (.istore_n 2, 1) := by decide +kernel
theorem dX11_toss_29 : decode cX11_toss 29 = .ok (.aload_n 0, 1) := by decide +kernel
theorem dX11_toss_30 : decode cX11_toss 30 = .ok (.aload_n 0, 1) := by decide +kernel
theorem dX11_toss_31 : decode cX11_toss 31 = .ok (.getfield 16, 3) := by decide +kernel
theorem dX11_toss_34 : decode cX11_toss 34 = .ok (.aload_n 0, 1) := by decide +kernel
theorem dX11_toss_35 : decode cX11_toss 35 = .ok (.getfield 27, 3) := by decide +kernel
theorem dX11_toss_38 : decode cX11_toss 38 = .ok (.iload_n 1, 1) := by decide +kernel
theorem dX11_toss_39 : decode cX11_toss 39 = .ok (.invokevirtual 143, 3) := by decide +kernel
theorem dX11_toss_42 : decode cX11_toss 42 = .ok (.invokevirtual 147, 3) := by decide +kernel
theorem dX11_toss_45 : decode cX11_toss 45 = .ok (.iload_n 2, 1) := by decide +kernel
theorem dX11_toss_46 : decode cX11_toss 46 = .ok (.ireturn, 1) := by decide +kernel
set_option maxRecDepth 20000 in
theorem ggX11_calm_X7_later : GoodIn wsX11_calm wsX7_later := goodIn_r _ [6, 7] (by decide +kernel) (by decide +kernel)
set_option maxRecDepth 20000 in
theorem gX11_calm_X7_later : GoodIn wsX11_calm (va_wsS RX11 151 yX7_later wsX7_later) := goodIn_app (goodIn_of _ (by decide +kernel)) ggX11_calm_X7_later
set_option maxRecDepth 20000 in
theorem ggX11_calm_X11_actTo : GoodIn wsX11_calm wsX11_actTo := goodIn_r _ [12, 13, 1, 14, 15, 16, 17, 18, 19, 20, 21, 22, 23, 24, 35, 36, 37, 38, 39, 40, 41, 42, 43, 44, 45, 46, 47] (by decide +kernel) (by decide +kernel)
set_option maxRecDepth 20000 in
theorem gX11_calm_X11_actTo : GoodIn wsX11_calm (wsV RX11 147 RX11 yX11_actTo wsX11_actTo) := goodIn_app (goodIn_of _ (by decide +kernel)) ggX11_calm_X11_actTo
set_option maxRecDepth 20000 in
theorem ggX11_calm_X3_windAt : GoodIn wsX11_calm wsX3_windAt := goodIn_r _ [29, 30, 31, 32, 33, 5, 34, 48, 49, 50, 51, 52, 53, 54, 55, 56, 57, 58] (by decide +kernel) (by decide +kernel)
set_option maxRecDepth 20000 in
theorem gX11_calm_X3_windAt : GoodIn wsX11_calm (wsV RX11 155 RX3 yX3_windAt wsX3_windAt) := goodIn_app (goodIn_of _ (by decide +kernel)) ggX11_calm_X3_windAt
