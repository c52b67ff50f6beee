theorem dX11_calm_0 : decode cX11_calm 0 = .ok (.aload_n 0, 1) := by decide +kernel
theorem dX11_calm_1 : decode cX11_calm 1 = .ok (.aload_n 0, 1) := by decide +kernel
theorem dX11_calm_2 : decode cX11_calm 2 = .ok (.getfield 27, 3) := by decide +kernel
theorem dX11_calm_5 : decode cX11_calm 5 = .ok (.invokestatic 151, 3) := by decide +kernel
theorem dX11_calm_8 : decode cX11_calm 8 = .ok (.invokevirtual 147, 3) := by decide +kernel
theorem dX11_calm_11 : decode cX11_calm 11 = .ok (.aload_n 0, 1) := by decide +kernel
theorem dX11_calm_12 : decode cX11_calm 12 = .ok (.getfield 16, 3) := by decide +kernel
theorem dX11_calm_15 : decode cX11_calm 15 = .ok (.aload_n 0, 1) := by decide +kernel
theorem dX11_calm_16 : decode cX11_calm 16 = .ok (.getfield 27, 3) := by decide +kernel
theorem dX11_calm_19 : decode cX11_calm 19 = .ok (.invokevirtual 155, 3) := by decide +kernel
theorem dX11_calm_22 : decode cX11_calm 22 = .ok (.ireturn, 1) := by decide +kernel
set_option maxRecDepth 20000 in
theorem ggX11_pick_X3_isGrain : GoodIn wsX11_pick wsX3_isGrain := goodIn_r _ [7, 8, 70, 71, 72, 73, 74, 75, 76, 77, 78, 79, 80] (by decide +kernel) (by decide +kernel)
set_option maxRecDepth 20000 in
theorem gX11_pick_X3_isGrain : GoodIn wsX11_pick (wsV RX11 109 RX3 yX3_isGrain wsX3_isGrain) := goodIn_app (goodIn_of _ (by decide +kernel)) ggX11_pick_X3_isGrain
set_option maxRecDepth 20000 in
theorem ggX11_pick_X3_canPick : GoodIn wsX11_pick wsX3_canPick := goodIn_r _ [12, 13, 4, 5, 6, 7, 8, 14, 15, 16, 17, 18, 19, 20, 21, 22, 23, 24, 25, 26, 27, 28, 29, 30, 31, 70, 71, 72, 73, 74, 75, 76, 77, 78, 79, 80] (by decide +kernel) (by decide +kernel)
set_option maxRecDepth 20000 in
theorem gX11_pick_X3_canPick : GoodIn wsX11_pick (wsV RX11 159 RX3 yX3_canPick wsX3_canPick) := goodIn_app (goodIn_of _ (by decide +kernel)) ggX11_pick_X3_canPick
set_option maxRecDepth 20000 in
theorem ggX11_pick_X7_placeOf : GoodIn wsX11_pick wsX7_placeOf := goodIn_r _ [26] (by decide +kernel) (by decide +kernel)
set_option maxRecDepth 20000 in
theorem gX11_pick_X7_placeOf : GoodIn wsX11_pick (va_wsS RX11 112 yX7_placeOf wsX7_placeOf) := goodIn_app (goodIn_of _ (by decide +kernel)) ggX11_pick_X7_placeOf
set_option maxRecDepth 20000 in
theorem ggX11_pick_X3_picked : GoodIn wsX11_pick wsX3_picked := goodIn_r _ [36, 27, 28, 29, 6, 30, 31, 37, 38, 25, 39, 40, 41, 70, 71, 72, 73, 74, 75, 76, 77, 78, 79, 80] (by decide +kernel) (by decide +kernel)
set_option maxRecDepth 20000 in
theorem gX11_pick_X3_picked : GoodIn wsX11_pick (wsV RX11 162 RX3 yX3_picked wsX3_picked) := goodIn_app (goodIn_of _ (by decide +kernel)) ggX11_pick_X3_picked
set_option maxRecDepth 20000 in
theorem ggX11_pick_X11_actTo : GoodIn wsX11_pick wsX11_actTo := goodIn_r _ [46, 47, 2, 48, 49, 50, 51, 52, 53, 54, 55, 56, 57, 58, 59, 60, 61, 62, 63, 64, 65, 66, 67, 68, 69, 81, 82] (by decide +kernel) (by decide +kernel)
set_option maxRecDepth 20000 in
theorem gX11_pick_X11_actTo : GoodIn wsX11_pick (wsV RX11 147 RX11 yX11_actTo wsX11_actTo) := goodIn_app (goodIn_of _ (by decide +kernel)) ggX11_pick_X11_actTo
theorem dX11_pick_0 : decode cX11_pick 0 = .ok (.aload_n 0, 1) := by decide +kernel
theorem dX11_pick_1 : decode cX11_pick 1 = .ok (.getfield 16, 3) := by decide +kernel
theorem dX11_pick_4 : decode cX11_pick 4 = .ok (.iload_n 1, 1) := by decide +kernel
theorem dX11_pick_5 : decode cX11_pick 5 = .ok (.invokevirtual 109, 3) := by decide +kernel
theorem dX11_pick_8 : decode cX11_pick 8 = .ok (.ifCond .ne 5, 3) := by decide +kernel
theorem dX11_pick_11 : decode cX11_pick 11 = .ok (.iconst (-1), 1) := by decide +kernel
theorem dX11_pick_12 : decode cX11_pick 12 = .ok (.ireturn, 1) := by decide +kernel
theorem dX11_pick_13 : decode cX11_pick 13 = .ok (.aload_n 0, 1) := by decide +kernel
theorem dX11_pick_14 : decode cX11_pick 14 = .ok (.getfield 16, 3) := by decide +kernel
theorem dX11_pick_17 : decode cX11_pick 17 = .ok (.aload_n 0, 1) := by decide +kernel
theorem dX11_pick_18 : decode cX11_pick 18 = .ok (.getfield 27, 3) := by decide +kernel
theorem dX11_pick_21 : decode cX11_pick 21 = .ok (.iload_n 1, 1) := by decide +kernel
theorem dX11_pick_22 : decode cX11_pick 22 = .ok (.invokevirtual 159, 3) := by decide +kernel
theorem dX11_pick_25 : decode cX11_pick 25 = .ok (.ifCond .ne 6, 3) := by decide +kernel
theorem dX11_pick_28 : decode cX11_pick 28 = .ok (.bipush (-3), 2) := by decide +kernel
theorem dX11_pick_30 : decode cX11_pick 30 = .ok (.ireturn, 1) := by decide +kernel
theorem dX11_pick_31 : decode cX11_pick 31 = .ok (.aload_n 0, 1) := by decide +kernel
theorem dX11_pick_32 : decode cX11_pick 32 = .ok (.getfield 27, 3) := by decide +kernel
theorem dX11_pick_35 : decode cX11_pick 35 = .ok (.iload_n 1, 1) := by decide +kernel
theorem dX11_pick_36 : decode cX11_pick 36 = .ok (.invokestatic 112, 3) := by decide +kernel
theorem dX11_pick_39 : decode cX11_pick 39 = .ok (.istore_n 2, 1) := by decide +kernel
theorem dX11_pick_40 : decode cX11_pick 40 = .ok (.aload_n 0, 1) := by decide +kernel
theorem dX11_pick_41 : decode cX11_pick 41 = .ok (.aload_n 0, 1) := by decide +kernel
theorem dX11_pick_42 : decode cX11_pick 42 = .ok (.getfield 16, 3) := by decide +kernel
theorem dX11_pick_45 : decode cX11_pick 45 = .ok (.aload_n 0, 1) := by decide +kernel
theorem dX11_pick_46 : decode cX11_pick 46 = .ok (.getfield 27, 3) := by decide +kernel
theorem dX11_pick_49 : decode cX11_pick 49 = .ok (.iload_n 1, 1) := by decide +kernel
theorem dX11_pick_50 : decode cX11_pick 50 = .ok (.invokevirtual 162, 3) := by decide +kernel
theorem dX11_pick_53 : decode cX11_pick 53 = .ok (.invokevirtual 147, 3) := by decide +kernel
theorem dX11_pick_56 : decode cX11_pick 56 = .ok (.iload_n 2, 1) := by decide +kernel
theorem dX11_pick_57 : decode cX11_pick 57 = .ok (.ireturn, 1) := by decide +kernel
set_option maxRecDepth 20000 in
theorem ggX11_fan_X3_isPerson : GoodIn wsX11_fan wsX3_isPerson := goodIn_r _ [7, 8, 45, 46, 47, 48, 49, 50, 51, 52, 53, 54, 55] (by decide +kernel) (by decide +kernel)
set_option maxRecDepth 20000 in
theorem gX11_fan_X3_isPerson : GoodIn wsX11_fan (wsV RX11 84 RX3 yX3_isPerson wsX3_isPerson) := goodIn_app (goodIn_of _ (by decide +kernel)) ggX11_fan_X3_isPerson
set_option maxRecDepth 20000 in
theorem ggX11_fan_X7_holderOf : GoodIn wsX11_fan wsX7_holderOf := goodIn_r _ [12] (by decide +kernel) (by decide +kernel)
set_option maxRecDepth 20000 in
theorem gX11_fan_X7_holderOf : GoodIn wsX11_fan (va_wsS RX11 165 yX7_holderOf wsX7_holderOf) := goodIn_app (goodIn_of _ (by decide +kernel)) ggX11_fan_X7_holderOf
set_option maxRecDepth 20000 in
theorem ggX11_fan_X7_withHolder : GoodIn wsX11_fan wsX7_withHolder := goodIn_r _ [15, 16] (by decide +kernel) (by decide +kernel)
set_option maxRecDepth 20000 in
theorem gX11_fan_X7_withHolder : GoodIn wsX11_fan (va_wsS RX11 168 yX7_withHolder wsX7_withHolder) := goodIn_app (goodIn_of _ (by decide +kernel)) ggX11_fan_X7_withHolder
set_option maxRecDepth 20000 in
theorem ggX11_fan_X11_actTo : GoodIn wsX11_fan wsX11_actTo := goodIn_r _ [21, 22, 2, 23, 24, 25, 26, 27, 28, 29, 30, 31, 32, 33, 34, 35, 36, 37, 38, 39, 40, 41, 42, 43, 44, 56, 57] (by decide +kernel) (by decide +kernel)
set_option maxRecDepth 20000 in
theorem gX11_fan_X11_actTo : GoodIn wsX11_fan (wsV RX11 147 RX11 yX11_actTo wsX11_actTo) := goodIn_app (goodIn_of _ (by decide +kernel)) ggX11_fan_X11_actTo
theorem dX11_fan_0 : decode cX11_fan 0 = .ok (.aload_n 0, 1) := by decide +kernel
theorem dX11_fan_1 : decode cX11_fan 1 = .ok (.getfield 16, 3) := by decide +kernel
theorem dX11_fan_4 : decode cX11_fan 4 = .ok (.iload_n 1, 1) := by decide +kernel
theorem dX11_fan_5 : decode cX11_fan 5 = .ok (.invokevirtual 84, 3) := by decide +kernel
theorem dX11_fan_8 : decode cX11_fan 8 = .ok (.ifCond .ne 5, 3) := by decide +kernel
theorem dX11_fan_11 : decode cX11_fan 11 = .ok (.iconst (-1), 1) := by decide +kernel
theorem dX11_fan_12 : decode cX11_fan 12 = .ok (.ireturn, 1) := by decide +kernel
theorem dX11_fan_13 : decode cX11_fan 13 = .ok (.aload_n 0, 1) := by decide +kernel
theorem dX11_fan_14 : decode cX11_fan 14 = .ok (.getfield 27, 3) := by decide +kernel
theorem dX11_fan_17 : decode cX11_fan 17 = .ok (.invokestatic 165, 3) := by decide +kernel
theorem dX11_fan_20 : decode cX11_fan 20 = .ok (.istore_n 2, 1) := by decide +kernel
theorem dX11_fan_21 : decode cX11_fan 21 = .ok (.iload_n 2, 1) := by decide +kernel
theorem dX11_fan_22 : decode cX11_fan 22 = .ok (.iload_n 1, 1) := by decide +kernel
theorem dX11_fan_23 : decode cX11_fan 23 = .ok (.if_icmp .ne 6, 3) := by decide +kernel
theorem dX11_fan_26 : decode cX11_fan 26 = .ok (.bipush (-3), 2) := by decide +kernel
theorem dX11_fan_28 : decode cX11_fan 28 = .ok (.ireturn, 1) := by decide +kernel
theorem dX11_fan_29 : decode cX11_fan 29 = .ok (.aload_n 0, 1) := by decide +kernel
theorem dX11_fan_30 : decode cX11_fan 30 = .ok (.aload_n 0, 1) := by decide +kernel
theorem dX11_fan_31 : decode cX11_fan 31 = .ok (.getfield 27, 3) := by decide +kernel
theorem dX11_fan_34 : decode cX11_fan 34 = .ok (.iload_n 1, 1) := by decide +kernel
theorem dX11_fan_35 : decode cX11_fan 35 = .ok (.invokestatic 168, 3) := by decide +kernel
theorem dX11_fan_38 : decode cX11_fan 38 = .ok (.invokevirtual 147, 3) := by decide +kernel
theorem dX11_fan_41 : decode cX11_fan 41 = .ok (.iload_n 2, 1) := by decide +kernel
theorem dX11_fan_42 : decode cX11_fan 42 = .ok (.ireturn, 1) := by decide +kernel
set_option maxRecDepth 20000 in
theorem ggX11_undo_X0_takeLast : GoodIn wsX11_undo wsX0_takeLast := goodIn_r _ [7, 8, 9, 21, 22] (by decide +kernel) (by decide +kernel)
set_option maxRecDepth 20000 in
theorem gX11_undo_X0_takeLast : GoodIn wsX11_undo (wsV RX11 174 RX0 yX0_takeLast wsX0_takeLast) := goodIn_app (goodIn_of _ (by decide +kernel)) ggX11_undo_X0_takeLast
theorem dX11_undo_0 : decode cX11_undo 0 = .ok (.aload_n 0, 1) := by decide +kernel
theorem dX11_undo_1 : decode cX11_undo 1 = .ok (.getfield 34, 3) := by decide +kernel
theorem dX11_undo_4 : decode cX11_undo 4 = .ok (.getfield 171, 3) := by decide +kernel
theorem dX11_undo_7 : decode cX11_undo 7 = .ok (.ifCond .gt 6, 3) := by decide +kernel
theorem dX11_undo_10 : decode cX11_undo 10 = .ok (.bipush (-3), 2) := by decide +kernel
theorem dX11_undo_12 : decode cX11_undo 12 = .ok (.ireturn, 1) := by decide +kernel
theorem dX11_undo_13 : decode cX11_undo 13 = .ok (.aload_n 0, 1) := by decide +kernel
theorem dX11_undo_14 : decode cX11_undo 14 = .ok (.aload_n 0, 1) := by decide +kernel
theorem dX11_undo_15 : decode cX11_undo 15 = .ok (.getfield 34, 3) := by decide +kernel
theorem dX11_undo_18 : decode cX11_undo 18 = .ok (.aload_n 0, 1) := by decide +kernel
theorem dX11_undo_19 : decode cX11_undo 19 = .ok (.getfield 27, 3) := by decide +kernel
theorem dX11_undo_22 : decode cX11_undo 22 = .ok (.invokevirtual 174, 3) := by decide +kernel
theorem dX11_undo_25 : decode cX11_undo 25 = .ok (.putfield 27, 3) := by decide +kernel
theorem dX11_undo_28 : decode cX11_undo 28 = .ok (.aload_n 0, 1) := by decide +kernel
theorem dX11_undo_29 : decode cX11_undo 29 = .ok (.getfield 34, 3) := by decide +kernel
theorem dX11_undo_32 : decode cX11_undo 32 = .ok (.getfield 171, 3) := by decide +kernel
theorem dX11_undo_35 : decode cX11_undo 35 = .ok (.ireturn, 1) := by decide +kernel
set_option maxRecDepth 20000 in
theorem ggX11_actTo_X0_add : GoodIn wsX11_actTo wsX0_add := goodIn_r _ [7, 8, 9, 10, 11, 12, 6, 13, 25, 26] (by decide +kernel) (by decide +kernel)
set_option maxRecDepth 20000 in
theorem gX11_actTo_X0_add : GoodIn wsX11_actTo (wsV RX11 177 RX0 yX0_add wsX0_add) := goodIn_app (goodIn_of _ (by decide +kernel)) ggX11_actTo_X0_add
theorem dX11_actTo_0 : decode cX11_actTo 0 = .ok (.aload_n 0, 1) := by decide +kernel
theorem dX11_actTo_1 : decode cX11_actTo 1 = .ok (.getfield 34, 3) := by decide +kernel
theorem dX11_actTo_4 : decode cX11_actTo 4 = .ok (.aload_n 0, 1) := by decide +kernel
theorem dX11_actTo_5 : decode cX11_actTo 5 = .ok (.getfield 27, 3) := by decide +kernel
theorem dX11_actTo_8 : decode cX11_actTo 8 = .ok (.invokevirtual 177, 3) := by decide +kernel
theorem dX11_actTo_11 : decode cX11_actTo 11 = .ok (.aload_n 0, 1) := by decide +kernel
theorem dX11_actTo_12 : decode cX11_actTo 12 = .ok (.lload_n 1, 1) := by decide +kernel
theorem dX11_actTo_13 : decode cX11_actTo 13 = .ok (.putfield 27, 3) := by decide +kernel
theorem dX11_actTo_16 : decode cX11_actTo 16 = .ok (.return_, 1) := by decide +kernel
set_option maxRecDepth 20000 in
theorem ggX11_best_X10_mostRight : GoodIn wsX11_best wsX10_mostRight := goodIn_r _ [6, 7, 8, 9, 10, 11, 12, 13, 14, 15, 16, 17, 18, 19, 20, 21, 22, 23, 24, 25, 26, 27, 28, 29, 30, 31, 32, 33, 34, 35, 36, 37, 38, 39, 40, 41, 42, 43, 44, 45, 46, 47, 48, 49, 50, 51, 52, 53, 54, 55, 56, 57, 58, 59, 60, 61, 62, 63, 64, 65, 66, 67, 68, 69, 70, 71, 72, 73, 74, 75, 76, 77, 78, 79, 80, 81, 82, 83, 84, 85, 86, 87, 88, 89, 90, 91, 92, 93, 94, 95, 96, 97, 98, 99, 100, 101, 102, 103, 104, 105, 4, 5, 117, 118, 119, 120, 121, 122, 123, 124, 125, 126, 127] (by decide +kernel) (by decide +kernel)
set_option maxRecDepth 20000 in
theorem gX11_best_X10_mostRight_n180 : GoodIn wsX11_best (wsX10_mostRight) := ggX11_best_X10_mostRight
theorem dX11_best_0 : decode cX11_best 0 = .ok (.iload_n 1, 1) := by decide +kernel
theorem dX11_best_1 : decode cX11_best 1 = .ok (.iconst 1, 1) := by decide +kernel
theorem dX11_best_2 : decode cX11_best 2 = .ok (.if_icmp .lt 8, 3) := by decide +kernel
theorem dX11_best_5 : decode cX11_best 5 = .ok (.iload_n 1, 1) := by decide +kernel
theorem dX11_best_6 : decode cX11_best 6 = .ok (.iconst 4, 1) := by decide +kernel
theorem dX11_best_7 : decode cX11_best 7 = .ok (.if_icmp .le 6, 3) := by decide +kernel
theorem dX11_best_10 : decode cX11_best 10 = .ok (.bipush (-2), 2) := by decide +kernel
theorem dX11_best_12 : decode cX11_best 12 = .ok (.ireturn, 1) := by decide +kernel
theorem dX11_best_13 : decode cX11_best 13 = .ok (.aload_n 0, 1) := by decide +kernel
theorem dX11_best_14 : decode cX11_best 14 = .ok (.getfield 16, 3) := by decide +kernel
theorem dX11_best_17 : decode cX11_best 17 = .ok (.aload_n 0, 1) := by decide +kernel
theorem dX11_best_18 : decode cX11_best 18 = .ok (.getfield 27, 3) := by decide +kernel
theorem dX11_best_21 : decode cX11_best 21 = .ok (.iload_n 1, 1) := by decide +kernel
theorem dX11_best_22 : decode cX11_best 22 = .ok (.iconst 1, 1) := by decide +kernel
theorem dX11_best_23 : decode cX11_best 23 = .ok (.invokestatic 180, 3) := by decide +kernel
theorem dX11_best_26 : decode cX11_best 26 = .ok (.istore_n 3, 1) := by decide +kernel
theorem dX11_best_27 : decode cX11_best 27 = .ok (.iload_n 2, 1) := by decide +kernel
theorem dX11_best_28 : decode cX11_best 28 = .ok (.ifCond .eq 10, 3) := by decide +kernel
theorem dX11_best_31 : decode cX11_best 31 = .ok (.iload_n 3, 1) := by decide +kernel
theorem dX11_best_32 : decode cX11_best 32 = .ok (.ldc 186, 2) := by decide +kernel
theorem dX11_best_34 : decode cX11_best 34 = .ok (.irem, 1) := by decide +kernel
theorem dX11_best_35 : decode cX11_best 35 = .ok (.goto 7, 3) := by decide +kernel
theorem dX11_best_38 : decode cX11_best 38 = .ok (.iload_n 3, 1) := by decide +kernel
theorem dX11_best_39 : decode cX11_best 39 = .ok (.ldc 186, 2) := by decide +kernel
theorem dX11_best_41 : decode cX11_best 41 = .ok (.idiv, 1) := by decide +kernel
theorem dX11_best_42 : decode cX11_best 42 = .ok (.ireturn, 1) := by decide +kernel
set_option maxRecDepth 20000 in
theorem ggX11_fewest_X3_isPerson : GoodIn wsX11_fewest wsX3_isPerson := goodIn_r _ [7, 8, 117, 118, 119, 120, 121, 122, 123, 124, 125, 126, 127] (by decide +kernel) (by decide +kernel)
set_option maxRecDepth 20000 in
theorem gX11_fewest_X3_isPerson : GoodIn wsX11_fewest (wsV RX11 84 RX3 yX3_isPerson wsX3_isPerson) := goodIn_app (goodIn_of _ (by decide +kernel)) ggX11_fewest_X3_isPerson
set_option maxRecDepth 20000 in
theorem ggX11_fewest_X10_canBeClean : GoodIn wsX11_fewest wsX10_canBeClean := goodIn_r _ [11, 12, 13, 14, 6, 15, 16, 17, 18, 19, 20, 21, 22, 23, 24, 25, 26, 27, 28, 29, 30, 31, 32, 33, 34, 35, 36, 37, 38, 39, 40, 41, 42, 4, 5, 7, 8, 43, 44, 45, 46, 47, 48, 49, 50, 51, 52, 53, 54, 55, 56, 57, 58, 59, 60, 61, 62, 63, 64, 65, 66, 67, 68, 69, 70, 71, 72, 73, 74, 75, 76, 77, 78, 79, 80, 81, 82, 83, 84, 85, 86, 87, 88, 89, 90, 91, 92, 93, 94, 95, 96, 97, 98, 99, 100, 101, 102, 103, 104, 105, 9, 10, 117, 118, 119, 120, 121, 122, 123, 124, 125, 126, 127] (by decide +kernel) (by decide +kernel)
set_option maxRecDepth 20000 in
theorem gX11_fewest_X10_canBeClean_n187 : GoodIn wsX11_fewest (wsX10_canBeClean) := ggX11_fewest_X10_canBeClean
theorem dX11_fewest_0 : decode cX11_fewest 0 = .ok (.aload_n 0, 1) := by decide +kernel
theorem dX11_fewest_1 : decode cX11_fewest 1 = .ok (.getfield 16, 3) := by decide +kernel
theorem dX11_fewest_4 : decode cX11_fewest 4 = .ok (.iload_n 1, 1) := by decide +kernel
theorem dX11_fewest_5 : decode cX11_fewest 5 = .ok (.invokevirtual 84, 3) := by decide +kernel
theorem dX11_fewest_8 : decode cX11_fewest 8 = .ok (.ifCond .ne 5, 3) := by decide +kernel
theorem dX11_fewest_11 : decode cX11_fewest 11 = .ok (.iconst (-1), 1) := by decide +kernel
theorem dX11_fewest_12 : decode cX11_fewest 12 = .ok (.ireturn, 1) := by decide +kernel
theorem dX11_fewest_13 : decode cX11_fewest 13 = .ok (.iconst 0, 1) := by decide +kernel
theorem dX11_fewest_14 : decode cX11_fewest 14 = .ok (.istore_n 2, 1) := by decide +kernel
theorem dX11_fewest_15 : decode cX11_fewest 15 = .ok (.iload_n 2, 1) := by decide +kernel
theorem dX11_fewest_16 : decode cX11_fewest 16 = .ok (.iconst 4, 1) := by decide +kernel
theorem dX11_fewest_17 : decode cX11_fewest 17 = .ok (.if_icmp .gt 27, 3) := by decide +kernel
theorem dX11_fewest_20 : decode cX11_fewest 20 = .ok (.aload_n 0, 1) := by decide +kernel
theorem dX11_fewest_21 : decode cX11_fewest 21 = .ok (.getfield 16, 3) := by decide +kernel
theorem dX11_fewest_24 : decode cX11_fewest 24 = .ok (.aload_n 0, 1) := by decide +kernel
theorem dX11_fewest_25 : decode cX11_fewest 25 = .ok (.getfield 27, 3) := by decide +kernel
theorem dX11_fewest_28 : decode cX11_fewest 28 = .ok (.iload_n 1, 1) := by decide +kernel
theorem dX11_fewest_29 : decode cX11_fewest 29 = .ok (.iload_n 2, 1) := by decide +kernel
theorem dX11_fewest_30 : decode cX11_fewest 30 = .ok (.invokestatic 187, 3) := by decide +kernel
theorem dX11_fewest_33 : decode cX11_fewest 33 = .ok (.ifCond .eq 5, 3) := by decide +kernel
theorem dX11_fewest_36 : decode cX11_fewest 36 = .ok (.iload_n 2, 1) := by decide +kernel
theorem dX11_fewest_37 : decode cX11_fewest 37 = .ok (.ireturn, 1) := by decide +kernel
theorem dX11_fewest_38 : decode cX11_fewest 38 = .ok (.iinc 2 1, 3) := by decide +kernel
theorem dX11_fewest_41 : decode cX11_fewest 41 = .ok (.goto (-26), 3) := by decide +kernel
theorem dX11_fewest_44 : decode cX11_fewest 44 = .ok (.bipush (-9), 2) := by decide +kernel
theorem dX11_fewest_46 : decode cX11_fewest 46 = .ok (.ireturn, 1) := by decide +kernel
set_option maxRecDepth 20000 in
theorem ggX11_when_X3_isGrain : GoodIn wsX11_when wsX3_isGrain := goodIn_r _ [7, 8, 79, 80, 81, 82, 83, 84, 85, 86, 87, 88, 89] (by decide +kernel) (by decide +kernel)
set_option maxRecDepth 20000 in
theorem gX11_when_X3_isGrain : GoodIn wsX11_when (wsV RX11 109 RX3 yX3_isGrain wsX3_isGrain) := goodIn_app (goodIn_of _ (by decide +kernel)) ggX11_when_X3_isGrain
set_option maxRecDepth 20000 in
theorem ggX11_when_X7_placeOf : GoodIn wsX11_when wsX7_placeOf := goodIn_r _ [12] (by decide +kernel) (by decide +kernel)
set_option maxRecDepth 20000 in
theorem gX11_when_X7_placeOf : GoodIn wsX11_when (va_wsS RX11 112 yX7_placeOf wsX7_placeOf) := goodIn_app (goodIn_of _ (by decide +kernel)) ggX11_when_X7_placeOf
set_option maxRecDepth 20000 in
theorem ggX11_when_X3_liftAt : GoodIn wsX11_when wsX3_liftAt := goodIn_r _ [16, 17, 18, 19, 6, 20, 21, 22, 23, 24, 11, 25, 26, 27, 28, 29, 30, 31, 32, 33, 79, 80, 81, 82, 83, 84, 85, 86, 87, 88, 89] (by decide +kernel) (by decide +kernel)
set_option maxRecDepth 20000 in
theorem gX11_when_X3_liftAt : GoodIn wsX11_when (wsV RX11 92 RX3 yX3_liftAt wsX3_liftAt) := goodIn_app (goodIn_of _ (by decide +kernel)) ggX11_when_X3_liftAt
set_option maxRecDepth 20000 in
theorem ggX11_when_X3_flight : GoodIn wsX11_when wsX3_flight := goodIn_r _ [37, 38, 39, 40, 6, 41, 42, 29, 30, 31, 32, 33, 43, 44, 45, 46, 47, 48, 49, 50, 51, 52, 53, 54, 55, 56, 57, 58, 59, 60, 61, 62, 63, 79, 80, 81, 82, 83, 84, 85, 86, 87, 88, 89] (by decide +kernel) (by decide +kernel)
set_option maxRecDepth 20000 in
theorem gX11_when_X3_flight : GoodIn wsX11_when (wsV RX11 191 RX3 yX3_flight wsX3_flight) := goodIn_app (goodIn_of _ (by decide +kernel)) ggX11_when_X3_flight
set_option maxRecDepth 20000 in
theorem ggX11_when_X7_later : GoodIn wsX11_when wsX7_later := goodIn_r _ [66, 67] (by decide +kernel) (by decide +kernel)
set_option maxRecDepth 20000 in
theorem gX11_when_X7_later : GoodIn wsX11_when (va_wsS RX11 151 yX7_later wsX7_later) := goodIn_app (goodIn_of _ (by decide +kernel)) ggX11_when_X7_later
theorem dX11_when_0 : decode cX11_when 0 = .ok (.aload_n 0, 1) := by decide +kernel
theorem dX11_when_1 : decode cX11_when 1 = .ok (.getfield 16, 3) := by decide +kernel
theorem dX11_when_4 : decode cX11_when 4 = .ok (.iload_n 1, 1) := by decide +kernel
theorem dX11_when_5 : decode cX11_when 5 = .ok (.invokevirtual 109, 3) := by decide +kernel
theorem dX11_when_8 : decode cX11_when 8 = .ok (.ifCond .ne 5, 3) := by decide +kernel
theorem dX11_when_11 : decode cX11_when 11 = .ok (.iconst (-1), 1) := by decide +kernel
theorem dX11_when_12 : decode cX11_when 12 = .ok (.ireturn, 1) := by decide +kernel
theorem dX11_when_13 : decode cX11_when 13 = .ok (.aload_n 0, 1) := by decide +kernel
theorem dX11_when_14 : decode cX11_when 14 = .ok (.getfield 27, 3) := by decide +kernel
theorem dX11_when_17 : decode cX11_when 17 = .ok (.iload_n 1, 1) := by decide +kernel
theorem dX11_when_18 : decode cX11_when 18 = .ok (.invokestatic 112, 3) := by decide +kernel
theorem dX11_when_21 : decode cX11_when 21 = .ok (.istore_n 2, 1) := by decide +kernel
theorem dX11_when_22 : decode cX11_when 22 = .ok (.aload_n 0, 1) := by decide +kernel
theorem dX11_when_23 : decode cX11_when 23 = .ok (.getfield 27, 3) := by decide +kernel
theorem dX11_when_26 : decode cX11_when 26 = .ok (.lstore_n 3, 1) := by decide +kernel
theorem dX11_when_27 : decode cX11_when 27 = .ok (.iconst 0, 1) := by decide +kernel
theorem dX11_when_28 : decode cX11_when 28 = .ok (.istore 5, 2) := by decide +kernel
theorem dX11_when_30 : decode cX11_when 30 = .ok (.iload 5, 2) := by decide +kernel
theorem dX11_when_32 : decode cX11_when 32 = .ok (.bipush 20, 2) := by decide +kernel
theorem dX11_when_34 : decode cX11_when 34 = .ok (.if_icmp .gt 38, 3) := by decide +kernel
theorem dX11_when_37 : decode cX11_when 37 = .ok (.aload_n 0, 1) := by decide +kernel
theorem dX11_when_38 : decode cX11_when 38 = .ok (.getfield 16, 3) := by decide +kernel
theorem dX11_when_41 : decode cX11_when 41 = .ok (.iload_n 1, 1) := by decide +kernel
theorem dX11_when_42 : decode cX11_when 42 = .ok (.iload_n 2, 1) := by decide +kernel
theorem dX11_when_43 : decode cX11_when 43 = .ok (.aload_n 0, 1) := by decide +kernel
theorem dX11_when_44 : decode cX11_when 44 = .ok (.getfield 16, 3) := by decide +kernel
theorem dX11_when_47 : decode cX11_when 47 = .ok (.lload_n 3, 1) := by decide +kernel
theorem dX11_when_48 : decode cX11_when 48 = .ok (.iload_n 2, 1) := by decide +kernel
theorem dX11_when_49 : decode cX11_when 49 = .ok (.invokevirtual 92, 3) := by decide +kernel
theorem dX11_when_52 : decode cX11_when 52 = .ok (.invokevirtual 191, 3) := by decide +kernel
theorem dX11_when_55 : decode cX11_when 55 = .ok (.ifCond .le 6, 3) := by decide +kernel
theorem dX11_when_58 : decode cX11_when 58 = .ok (.iload 5, 2) := by decide +kernel
theorem dX11_when_60 : decode cX11_when 60 = .ok (.ireturn, 1) := by decide +kernel
theorem dX11_when_61 : decode cX11_when 61 = .ok (.lload_n 3, 1) := by decide +kernel
theorem dX11_when_62 : decode cX11_when 62 = .ok (.invokestatic 151, 3) := by decide +kernel
theorem dX11_when_65 : decode cX11_when 65 = .ok (.lstore_n 3, 1) := by decide +kernel
theorem dX11_when_66 : decode cX11_when 66 = .ok (.iinc 5 1, 3) := by decide +kernel
theorem dX11_when_69 : decode cX11_when 69 = .ok (.goto (-39), 3) := by decide +kernel
theorem dX11_when_72 : decode cX11_when 72 = .ok (.bipush (-9), 2) := by decide +kernel
theorem dX11_when_74 : decode cX11_when 74 = .ok (.ireturn, 1) := by decide +kernel
set_option maxRecDepth 20000 in
theorem ggX11_votes_X3_isPerson : GoodIn wsX11_votes wsX3_isPerson := goodIn_r _ [8, 9, 128, 129, 130, 131, 132, 133, 134, 135, 136, 137, 138] (by decide +kernel) (by decide +kernel)
set_option maxRecDepth 20000 in
theorem gX11_votes_X3_isPerson : GoodIn wsX11_votes (wsV RX11 84 RX3 yX3_isPerson wsX3_isPerson) := goodIn_app (goodIn_of _ (by decide +kernel)) ggX11_votes_X3_isPerson
set_option maxRecDepth 20000 in
theorem ggX11_votes_X1_hold : GoodIn wsX11_votes wsX1_hold := goodIn_r _ [14, 15, 16, 17, 18, 19, 20, 21, 22, 23, 13, 24, 25, 26, 27, 7, 28, 29, 30, 31, 32, 33, 34, 35, 36, 37, 38, 39, 40, 41, 42, 43, 44, 45, 46, 47, 48, 49, 50, 51, 52, 53, 54, 55, 56, 57, 58, 59, 60, 61, 62, 63, 64, 65, 66, 67, 68, 69, 70, 71, 5, 6, 8, 9, 72, 73, 74, 75, 76, 77, 78, 79, 80, 81, 82, 83, 84, 85, 86, 87, 88, 89, 90, 91, 92, 93, 94, 95, 96, 97, 98, 99, 100, 101, 102, 103, 104, 105, 106, 107, 108, 109, 110, 111, 112, 128, 129, 130, 131, 132, 133, 134, 135, 136, 137, 138, 139, 140] (by decide +kernel) (by decide +kernel)
set_option maxRecDepth 20000 in
theorem gX11_votes_X1_hold : GoodIn wsX11_votes (wsV RX11 194 RX1 yX1_hold wsX1_hold) := goodIn_app (goodIn_of _ (by decide +kernel)) ggX11_votes_X1_hold
set_option maxRecDepth 20000 in
theorem ggX11_votes_X1_votesFor : GoodIn wsX11_votes wsX1_votesFor := goodIn_r _ [116, 15, 139, 140] (by decide +kernel) (by decide +kernel)
set_option maxRecDepth 20000 in
theorem gX11_votes_X1_votesFor : GoodIn wsX11_votes (wsV RX11 198 RX1 yX1_votesFor wsX1_votesFor) := goodIn_app (goodIn_of _ (by decide +kernel)) ggX11_votes_X1_votesFor
theorem dX11_votes_0 : decode cX11_votes 0 = .ok (.aload_n 0, 1) := by decide +kernel
theorem dX11_votes_1 : decode cX11_votes 1 = .ok (.getfield 16, 3) := by decide +kernel
theorem dX11_votes_4 : decode cX11_votes 4 = .ok (.iload_n 1, 1) := by decide +kernel
theorem dX11_votes_5 : decode cX11_votes 5 = .ok (.invokevirtual 84, 3) := by decide +kernel
theorem dX11_votes_8 : decode cX11_votes 8 = .ok (.ifCond .ne 5, 3) := by decide +kernel
theorem dX11_votes_11 : decode cX11_votes 11 = .ok (.iconst (-1), 1) := by decide +kernel
theorem dX11_votes_12 : decode cX11_votes 12 = .ok (.ireturn, 1) := by decide +kernel
theorem dX11_votes_13 : decode cX11_votes 13 = .ok (.aload_n 0, 1) := by decide +kernel
theorem dX11_votes_14 : decode cX11_votes 14 = .ok (.getfield 56, 3) := by decide +kernel
theorem dX11_votes_17 : decode cX11_votes 17 = .ok (.aload_n 0, 1) := by decide +kernel
theorem dX11_votes_18 : decode cX11_votes 18 = .ok (.getfield 16, 3) := by decide +kernel
theorem dX11_votes_21 : decode cX11_votes 21 = .ok (.aload_n 0, 1) := by decide +kernel
theorem dX11_votes_22 : decode cX11_votes 22 = .ok (.getfield 27, 3) := by decide +kernel
theorem dX11_votes_25 : decode cX11_votes 25 = .ok (.invokevirtual 194, 3) := by decide +kernel
theorem dX11_votes_28 : decode cX11_votes 28 = .ok (.aload_n 0, 1) := by decide +kernel
theorem dX11_votes_29 : decode cX11_votes 29 = .ok (.getfield 56, 3) := by decide +kernel
theorem dX11_votes_32 : decode cX11_votes 32 = .ok (.iload_n 1, 1) := by decide +kernel
theorem dX11_votes_33 : decode cX11_votes 33 = .ok (.invokevirtual 198, 3) := by decide +kernel
theorem dX11_votes_36 : decode cX11_votes 36 = .ok (.ireturn, 1) := by decide +kernel
set_option maxRecDepth 20000 in
theorem ggX11_chosen_X1_hold : GoodIn wsX11_chosen wsX1_hold := goodIn_r _ [8, 9, 10, 11, 12, 13, 14, 15, 16, 17, 7, 18, 19, 20, 21, 22, 23, 24, 25, 26, 27, 28, 29, 30, 31, 32, 33, 34, 35, 36, 37, 38, 39, 40, 41, 42, 43, 44, 45, 46, 47, 48, 49, 50, 51, 52, 53, 54, 55, 56, 57, 58, 59, 60, 61, 62, 63, 64, 65, 66, 67, 68, 69, 70, 71, 72, 73, 74, 75, 76, 77, 78, 79, 80, 81, 82, 83, 84, 85, 86, 87, 88, 89, 90, 91, 92, 93, 94, 95, 96, 97, 98, 99, 100, 101, 102, 103, 104, 105, 106, 107, 108, 109, 110, 111, 127, 128, 129, 130, 131, 132, 133, 134, 135, 136, 137, 138, 139] (by decide +kernel) (by decide +kernel)
set_option maxRecDepth 20000 in
theorem gX11_chosen_X1_hold : GoodIn wsX11_chosen (wsV RX11 194 RX1 yX1_hold wsX1_hold) := goodIn_app (goodIn_of _ (by decide +kernel)) ggX11_chosen_X1_hold
set_option maxRecDepth 20000 in
theorem ggX11_chosen_X1_votesFor : GoodIn wsX11_chosen wsX1_votesFor := goodIn_r _ [115, 9, 138, 139] (by decide +kernel) (by decide +kernel)
set_option maxRecDepth 20000 in
theorem gX11_chosen_X1_votesFor : GoodIn wsX11_chosen (wsV RX11 198 RX1 yX1_votesFor wsX1_votesFor) := goodIn_app (goodIn_of _ (by decide +kernel)) ggX11_chosen_X1_votesFor
theorem dX11_chosen_0 : decode cX11_chosen 0 = .ok (.aload_n 0, 1) := by decide +kernel
theorem dX11_chosen_1 : decode cX11_chosen 1 = .ok (.getfield 56, 3) := by decide +kernel
theorem dX11_chosen_4 : decode cX11_chosen 4 = .ok (.aload_n 0, 1) := by decide +kernel
theorem dX11_chosen_5 : decode cX11_chosen 5 = .ok (.getfield 16, 3) := by decide +kernel
theorem dX11_chosen_8 : decode cX11_chosen 8 = .ok (.aload_n 0, 1) := by decide +kernel
theorem dX11_chosen_9 : decode cX11_chosen 9 = .ok (.getfield 27, 3) := by decide +kernel
theorem dX11_chosen_12 : decode cX11_chosen 12 = .ok (.invokevirtual 194, 3) := by decide +kernel
theorem dX11_chosen_15 : decode cX11_chosen 15 = .ok (.bipush (-9), 2) := by decide +kernel
theorem dX11_chosen_17 : decode cX11_chosen 17 = .ok (.istore_n 1, 1) := by decide +kernel
theorem dX11_chosen_18 : decode cX11_chosen 18 = .ok (.iconst (-1), 1) := by decide +kernel
theorem dX11_chosen_19 : decode cX11_chosen 19 = .ok (.istore_n 2, 1) := by decide +kernel
theorem dX11_chosen_20 : decode cX11_chosen 20 = .ok (.iconst 0, 1) := by decide +kernel
theorem dX11_chosen_21 : decode cX11_chosen 21 = .ok (.istore_n 3, 1) := by decide +kernel
theorem dX11_chosen_22 : decode cX11_chosen 22 = .ok (.iload_n 3, 1) := by decide +kernel
theorem dX11_chosen_23 : decode cX11_chosen 23 = .ok (.aload_n 0, 1) := by decide +kernel
theorem dX11_chosen_24 : decode cX11_chosen 24 = .ok (.getfield 16, 3) := by decide +kernel
theorem dX11_chosen_27 : decode cX11_chosen 27 = .ok (.getfield 75, 3) := by decide +kernel
theorem dX11_chosen_30 : decode cX11_chosen 30 = .ok (.if_icmp .ge 32, 3) := by decide +kernel
theorem dX11_chosen_33 : decode cX11_chosen 33 = .ok (.aload_n 0, 1) := by decide +kernel
theorem dX11_chosen_34 : decode cX11_chosen 34 = .ok (.getfield 56, 3) := by decide +kernel
theorem dX11_chosen_37 : decode cX11_chosen 37 = .ok (.iload_n 3, 1) := by decide +kernel
theorem dX11_chosen_38 : decode cX11_chosen 38 = .ok (.invokevirtual 198, 3) := by decide +kernel
theorem dX11_chosen_41 : decode cX11_chosen 41 = .ok (.iload_n 2, 1) := by decide +kernel
theorem dX11_chosen_42 : decode cX11_chosen 42 = .ok (.if_icmp .le 14, 3) := by decide +kernel
theorem dX11_chosen_45 : decode cX11_chosen 45 = .ok (.aload_n 0, 1) := by decide +kernel
theorem dX11_chosen_46 : decode cX11_chosen 46 = .ok (.getfield 56, 3) := by decide +kernel
theorem dX11_chosen_49 : decode cX11_chosen 49 = .ok (.iload_n 3, 1) := by decide +kernel
theorem dX11_chosen_50 : decode cX11_chosen 50 = .ok (.invokevirtual 198, 3) := by decide +kernel
theorem dX11_chosen_53 : decode cX11_chosen 53 = .ok (.istore_n 2, 1) := by decide +kernel
theorem dX11_chosen_54 : decode cX11_chosen 54 = .ok (.iload_n 3, 1) := by decide +kernel
theorem dX11_chosen_55 : decode cX11_chosen 55 = .ok (.istore_n 1, 1) := by decide +kernel
theorem dX11_chosen_56 : decode cX11_chosen 56 = .ok (.iinc 3 1, 3) := by decide +kernel
theorem dX11_chosen_59 : decode cX11_chosen 59 = .ok (.goto (-37), 3) := by decide +kernel
theorem dX11_chosen_62 : decode cX11_chosen 62 = .ok (.iload_n 1, 1) := by decide +kernel
theorem dX11_chosen_63 : decode cX11_chosen 63 = .ok (.ireturn, 1) := by decide +kernel
set_option maxRecDepth 20000 in
theorem ggX11_judge_X2_rowSpan : GoodIn wsX11_judge wsX2_rowSpan := goodIn_r _ [6] (by decide +kernel) (by decide +kernel)
set_option maxRecDepth 20000 in
theorem gX11_judge_X2_rowSpan : GoodIn wsX11_judge (va_wsS RX11 201 yX2_rowSpan wsX2_rowSpan) := goodIn_app (goodIn_of _ (by decide +kernel)) ggX11_judge_X2_rowSpan
set_option maxRecDepth 20000 in
theorem ggX11_judge_X2_firstWrong : GoodIn wsX11_judge wsX2_firstWrong := goodIn_r _ [9, 10, 11, 5, 12, 13, 14, 15, 16, 17, 18, 19, 20, 21, 22, 23, 24, 25, 26, 27, 28, 29, 30, 31, 32, 33, 34, 35, 36, 37, 38, 39, 40, 41, 42, 43, 44, 45, 46, 47, 48, 49, 50, 51, 52, 53, 54, 55, 56, 57, 58, 59, 60, 61, 62, 63, 64, 65, 66, 67, 68, 69, 70, 71, 72, 73, 74, 75, 76, 77, 78, 79, 80, 81, 82, 83, 84, 85, 86, 87, 88, 89, 90, 91, 92, 93, 94, 95, 96, 97, 98, 99, 100, 101, 102, 103, 104, 105, 106, 107, 108, 109, 110, 111, 112, 113, 114, 115, 116, 117, 118, 119, 120, 121, 122, 123, 124, 125, 126, 127, 128, 129, 130, 131, 132, 133, 134, 146, 147, 148, 149, 150, 151, 152, 153, 154, 155, 156] (by decide +kernel) (by decide +kernel)
set_option maxRecDepth 20000 in
theorem gX11_judge_X2_firstWrong : GoodIn wsX11_judge (va_wsS RX11 206 yX2_firstWrong wsX2_firstWrong) := goodIn_app (goodIn_of _ (by decide +kernel)) ggX11_judge_X2_firstWrong
theorem dX11_judge_0 : decode cX11_judge 0 = .ok (.iload_n 1, 1) := by decide +kernel
theorem dX11_judge_1 : decode cX11_judge 1 = .ok (.iconst 1, 1) := by decide +kernel
theorem dX11_judge_2 : decode cX11_judge 2 = .ok (.if_icmp .lt 20, 3) := by decide +kernel
theorem dX11_judge_5 : decode cX11_judge 5 = .ok (.iload_n 1, 1) := by decide +kernel
theorem dX11_judge_6 : decode cX11_judge 6 = .ok (.iconst 4, 1) := by decide +kernel
theorem dX11_judge_7 : decode cX11_judge 7 = .ok (.if_icmp .gt 15, 3) := by decide +kernel
theorem dX11_judge_10 : decode cX11_judge 10 = .ok (.iload_n 2, 1) := by decide +kernel
theorem dX11_judge_11 : decode cX11_judge 11 = .ok (.ifCond .lt 11, 3) := by decide +kernel
theorem dX11_judge_14 : decode cX11_judge 14 = .ok (.iload_n 2, 1) := by decide +kernel
theorem dX11_judge_15 : decode cX11_judge 15 = .ok (.iload_n 1, 1) := by decide +kernel
theorem dX11_judge_16 : decode cX11_judge 16 = .ok (.invokestatic 201, 3) := by decide +kernel
theorem dX11_judge_19 : decode cX11_judge 19 = .ok (.if_icmp .lt 6, 3) := by decide +kernel
theorem dX11_judge_22 : decode cX11_judge 22 = .ok (.bipush (-2), 2) := by decide +kernel
theorem dX11_judge_24 : decode cX11_judge 24 = .ok (.ireturn, 1) := by decide +kernel
theorem dX11_judge_25 : decode cX11_judge 25 = .ok (.aload_n 0, 1) := by decide +kernel
theorem dX11_judge_26 : decode cX11_judge 26 = .ok (.getfield 16, 3) := by decide +kernel
theorem dX11_judge_29 : decode cX11_judge 29 = .ok (.aload_n 0, 1) := by decide +kernel
theorem dX11_judge_30 : decode cX11_judge 30 = .ok (.getfield 27, 3) := by decide +kernel
theorem dX11_judge_33 : decode cX11_judge 33 = .ok (.iload_n 1, 1) := by decide +kernel
theorem dX11_judge_34 : decode cX11_judge 34 = .ok (.iload_n 2, 1) := by decide +kernel
theorem dX11_judge_35 : decode cX11_judge 35 = .ok (.invokestatic 206, 3) := by decide +kernel
theorem dX11_judge_38 : decode cX11_judge 38 = .ok (.ireturn, 1) := by decide +kernel
set_option maxRecDepth 20000 in
theorem ggX11_see_X8_add : GoodIn wsX11_see wsX8_add := goodIn_r _ [6, 7, 8, 9, 10, 22, 23, 24, 25] (by decide +kernel) (by decide +kernel)
set_option maxRecDepth 20000 in
theorem gX11_see_X8_add : GoodIn wsX11_see (wsV RX11 210 RX8 yX8_add wsX8_add) := goodIn_app (goodIn_of _ (by decide +kernel)) ggX11_see_X8_add
theorem dX11_see_0 : decode cX11_see 0 = .ok (.iload_n 1, 1) := by decide +kernel
theorem dX11_see_1 : decode cX11_see 1 = .ok (.ifCond .lt 27, 3) := by decide +kernel
theorem dX11_see_4 : decode cX11_see 4 = .ok (.iload_n 1, 1) := by decide +kernel
theorem dX11_see_5 : decode cX11_see 5 = .ok (.iconst 3, 1) := by decide +kernel
theorem dX11_see_6 : decode cX11_see 6 = .ok (.if_icmp .gt 22, 3) := by decide +kernel
theorem dX11_see_9 : decode cX11_see 9 = .ok (.iload_n 2, 1) := by decide +kernel
theorem dX11_see_10 : decode cX11_see 10 = .ok (.ifCond .lt 18, 3) := by decide +kernel
theorem dX11_see_13 : decode cX11_see 13 = .ok (.iload_n 2, 1) := by decide +kernel
theorem dX11_see_14 : decode cX11_see 14 = .ok (.bipush 12, 2) := by decide +kernel
theorem dX11_see_16 : decode cX11_see 16 = .ok (.if_icmp .gt 12, 3) := by decide +kernel
theorem dX11_see_19 : decode cX11_see 19 = .ok (.iload_n 3, 1) := by decide +kernel
theorem dX11_see_20 : decode cX11_see 20 = .ok (.ifCond .lt 8, 3) := by decide +kernel
theorem dX11_see_23 : decode cX11_see 23 = .ok (.iload_n 3, 1) := by decide +kernel
theorem dX11_see_24 : decode cX11_see 24 = .ok (.iconst 5, 1) := by decide +kernel
theorem dX11_see_25 : decode cX11_see 25 = .ok (.if_icmp .le 6, 3) := by decide +kernel
theorem dX11_see_28 : decode cX11_see 28 = .ok (.bipush (-2), 2) := by decide +kernel
theorem dX11_see_30 : decode cX11_see 30 = .ok (.ireturn, 1) := by decide +kernel
theorem dX11_see_31 : decode cX11_see 31 = .ok (.aload_n 0, 1) := by decide +kernel
theorem dX11_see_32 : decode cX11_see 32 = .ok (.getfield 49, 3) := by decide +kernel
theorem dX11_see_35 : decode cX11_see 35 = .ok (.getfield 209, 3) := by decide +kernel
theorem dX11_see_38 : decode cX11_see 38 = .ok (.bipush 6, 2) := by decide +kernel
theorem dX11_see_40 : decode cX11_see 40 = .ok (.if_icmp .lt 6, 3) := by decide +kernel
theorem dX11_see_43 : decode cX11_see 43 = .ok (.bipush (-4), 2) := by decide +kernel
theorem dX11_see_45 : decode cX11_see 45 = .ok (.ireturn, 1) := by decide +kernel
theorem dX11_see_46 : decode cX11_see 46 = .ok (.aload_n 0, 1) := by decide +kernel
theorem dX11_see_47 : decode cX11_see 47 = .ok (.getfield 49, 3) := by decide +kernel
theorem dX11_see_50 : decode cX11_see 50 = .ok (.iload_n 1, 1) := by decide +kernel
theorem dX11_see_51 : decode cX11_see 51 = .ok (.iload_n 2, 1) := by decide +kernel
theorem dX11_see_52 : decode cX11_see 52 = .ok (.iload_n 3, 1) := by decide +kernel
theorem dX11_see_53 : decode cX11_see 53 = .ok (.invokevirtual 210, 3) := by decide +kernel
theorem dX11_see_56 : decode cX11_see 56 = .ok (.aload_n 0, 1) := by decide +kernel
theorem dX11_see_57 : decode cX11_see 57 = .ok (.getfield 49, 3) := by decide +kernel
theorem dX11_see_60 : decode cX11_see 60 = .ok (.getfield 209, 3) := by decide +kernel
theorem dX11_see_63 : decode cX11_see 63 = .ok (.ireturn, 1) := by decide +kernel
theorem dX11_unsee_0 : decode cX11_unsee 0 = .ok (.aload_n 0, 1) := by decide +kernel
theorem dX11_unsee_1 : decode cX11_unsee 1 = .ok (.getfield 49, 3) := by decide +kernel
theorem dX11_unsee_4 : decode cX11_unsee 4 = .ok (.getfield 209, 3) := by decide +kernel
theorem dX11_unsee_7 : decode cX11_unsee 7 = .ok (.istore_n 1, 1) := by decide +kernel
theorem dX11_unsee_8 : decode cX11_unsee 8 = .ok (.aload_n 0, 1) := by decide +kernel
theorem dX11_unsee_9 : decode cX11_unsee 9 = .ok (.getfield 49, 3) := by decide +kernel
theorem dX11_unsee_12 : decode cX11_unsee 12 = .ok (.iconst 0, 1) := by decide +kernel
theorem dX11_unsee_13 : decode cX11_unsee 13 = .ok (.putfield 209, 3) := by decide +kernel
theorem dX11_unsee_16 : decode cX11_unsee 16 = .ok (.iload_n 1, 1) := by decide +kernel
theorem dX11_unsee_17 : decode cX11_unsee 17 = .ok (.ireturn, 1) := by decide +kernel
set_option maxRecDepth 20000 in
theorem ggX11_weights_X8_weightBits : GoodIn wsX11_weights wsX8_weightBits := goodIn_r _ [6, 7, 8, 9, 5, 10, 11, 12, 13, 14, 15, 16, 17, 18, 19, 20, 21, 33, 34, 35, 36] (by decide +kernel) (by decide +kernel)
set_option maxRecDepth 20000 in
theorem gX11_weights_X8_weightBits : GoodIn wsX11_weights (wsV RX11 213 RX8 yX8_weightBits wsX8_weightBits) := goodIn_app (goodIn_of _ (by decide +kernel)) ggX11_weights_X8_weightBits
theorem dX11_weights_0 : decode cX11_weights 0 = .ok (.iload_n 1, 1) := by decide +kernel
theorem dX11_weights_1 : decode cX11_weights 1 = .ok (.ifCond .lt 8, 3) := by decide +kernel
theorem dX11_weights_4 : decode cX11_weights 4 = .ok (.iload_n 1, 1) := by decide +kernel
theorem dX11_weights_5 : decode cX11_weights 5 = .ok (.iconst 3, 1) := by decide +kernel
theorem dX11_weights_6 : decode cX11_weights 6 = .ok (.if_icmp .le 6, 3) := by decide +kernel
theorem dX11_weights_9 : decode cX11_weights 9 = .ok (.bipush (-2), 2) := by decide +kernel
theorem dX11_weights_11 : decode cX11_weights 11 = .ok (.ireturn, 1) := by decide +kernel
theorem dX11_weights_12 : decode cX11_weights 12 = .ok (.aload_n 0, 1) := by decide +kernel
theorem dX11_weights_13 : decode cX11_weights 13 = .ok (.getfield 49, 3) := by decide +kernel
theorem dX11_weights_16 : decode cX11_weights 16 = .ok (.iload_n 1, 1) := by decide +kernel
theorem dX11_weights_17 : decode cX11_weights 17 = .ok (.invokevirtual 213, 3) := by decide +kernel
theorem dX11_weights_20 : decode cX11_weights 20 = .ok (.ireturn, 1) := by decide +kernel
set_option maxRecDepth 20000 in
theorem ggX11_share_X3_isPerson : GoodIn wsX11_share wsX3_isPerson := goodIn_r _ [7, 8, 129, 130, 131, 132, 133, 134, 135, 136, 137, 138, 139] (by decide +kernel) (by decide +kernel)
set_option maxRecDepth 20000 in
theorem gX11_share_X3_isPerson : GoodIn wsX11_share (wsV RX11 84 RX3 yX3_isPerson wsX3_isPerson) := goodIn_app (goodIn_of _ (by decide +kernel)) ggX11_share_X3_isPerson
set_option maxRecDepth 20000 in
theorem ggX11_share_X9_gainInAllOrders : GoodIn wsX11_share wsX9_gainInAllOrders := goodIn_r _ [12, 13, 14, 15, 16, 17, 18, 19, 20, 21, 22, 23, 24, 25, 11, 26, 27, 28, 29, 6, 30, 31, 32, 33, 34, 35, 36, 37, 38, 39, 40, 41, 42, 43, 44, 45, 46, 47, 48, 49, 50, 51, 52, 53, 54, 55, 56, 57, 58, 59, 60, 61, 62, 63, 64, 65, 66, 67, 68, 69, 70, 71, 72, 73, 74, 4, 5, 7, 8, 75, 76, 77, 78, 79, 80, 81, 82, 83, 84, 85, 86, 87, 88, 89, 90, 91, 92, 93, 94, 95, 96, 97, 98, 99, 100, 101, 102, 103, 129, 130, 131, 132, 133, 134, 135, 136, 137, 138, 139] (by decide +kernel) (by decide +kernel)
set_option maxRecDepth 20000 in
theorem gX11_share_X9_gainInAllOrders : GoodIn wsX11_share (va_wsS RX11 216 yX9_gainInAllOrders wsX9_gainInAllOrders) := goodIn_app (goodIn_of _ (by decide +kernel)) ggX11_share_X9_gainInAllOrders
set_option maxRecDepth 20000 in
theorem ggX11_share_X6_factorial : GoodIn wsX11_share wsX6_factorial := goodIn_r _ [23] (by decide +kernel) (by decide +kernel)
set_option maxRecDepth 20000 in
theorem gX11_share_X6_factorial : GoodIn wsX11_share (va_wsS RX11 222 yX6_factorial wsX6_factorial) := goodIn_app (goodIn_of _ (by decide +kernel)) ggX11_share_X6_factorial
set_option maxRecDepth 20000 in
theorem ggX11_share_X6_leastTerms : GoodIn wsX11_share wsX6_leastTerms := goodIn_r _ [107, 108, 109, 110, 111, 112, 113, 114, 115, 116, 22, 117] (by decide +kernel) (by decide +kernel)
set_option maxRecDepth 20000 in
theorem gX11_share_X6_leastTerms : GoodIn wsX11_share (va_wsS RX11 227 yX6_leastTerms wsX6_leastTerms) := goodIn_app (goodIn_of _ (by decide +kernel)) ggX11_share_X6_leastTerms
theorem dX11_share_0 : decode cX11_share 0 = .ok (.aload_n 0, 1) := by decide +kernel
theorem dX11_share_1 : decode cX11_share 1 = .ok (.getfield 16, 3) := by decide +kernel
theorem dX11_share_4 : decode cX11_share 4 = .ok (.iload_n 1, 1) := by decide +kernel
theorem dX11_share_5 : decode cX11_share 5 = .ok (.invokevirtual 84, 3) := by decide +kernel
theorem dX11_share_8 : decode cX11_share 8 = .ok (.ifCond .ne 5, 3) := by decide +kernel
theorem dX11_share_11 : decode cX11_share 11 = .ok (.iconst (-1), 1) := by decide +kernel
theorem dX11_share_12 : decode cX11_share 12 = .ok (.ireturn, 1) := by decide +kernel
theorem dX11_share_13 : decode cX11_share 13 = .ok (.aload_n 0, 1) := by decide +kernel
theorem dX11_share_14 : decode cX11_share 14 = .ok (.getfield 16, 3) := by decide +kernel
theorem dX11_share_17 : decode cX11_share 17 = .ok (.aload_n 0, 1) := by decide +kernel
theorem dX11_share_18 : decode cX11_share 18 = .ok (.getfield 27, 3) := by decide +kernel
theorem dX11_share_21 : decode cX11_share 21 = .ok (.iload_n 1, 1) := by decide +kernel
theorem dX11_share_22 : decode cX11_share 22 = .ok (.invokestatic 216, 3) := by decide +kernel
theorem dX11_share_25 : decode cX11_share 25 = .ok (.aload_n 0, 1) := by decide +kernel
theorem dX11_share_26 : decode cX11_share 26 = .ok (.getfield 16, 3) := by decide +kernel
theorem dX11_share_29 : decode cX11_share 29 = .ok (.getfield 75, 3) := by decide +kernel
theorem dX11_share_32 : decode cX11_share 32 = .ok (.invokestatic 222, 3) := by decide +kernel
theorem dX11_share_35 : decode cX11_share 35 = .ok (.iload_n 2, 1) := by decide +kernel
theorem dX11_share_36 : decode cX11_share 36 = .ok (.invokestatic 227, 3) := by decide +kernel
theorem dX11_share_39 : decode cX11_share 39 = .ok (.ireturn, 1) := by decide +kernel
set_option maxRecDepth 20000 in
theorem ggX11_rests_X3_isPerson : GoodIn wsX11_rests wsX3_isPerson := goodIn_r _ [7, 8, 95, 96, 97, 98, 99, 100, 101, 102, 103, 104, 105] (by decide +kernel) (by decide +kernel)
set_option maxRecDepth 20000 in
theorem gX11_rests_X3_isPerson : GoodIn wsX11_rests (wsV RX11 84 RX3 yX3_isPerson wsX3_isPerson) := goodIn_app (goodIn_of _ (by decide +kernel)) ggX11_rests_X3_isPerson
set_option maxRecDepth 20000 in
theorem ggX11_rests_X4_isContent : GoodIn wsX11_rests wsX4_isContent := goodIn_r _ [12, 13, 14, 11, 15, 16, 17, 18, 19, 20, 21, 22, 23, 6, 24, 25, 26, 27, 28, 29, 30, 31, 32, 33, 34, 35, 36, 37, 38, 39, 40, 41, 42, 43, 44, 45, 46, 47, 48, 49, 50, 51, 52, 53, 54, 55, 56, 57, 58, 59, 4, 5, 7, 8, 60, 61, 62, 63, 64, 65, 66, 67, 68, 69, 70, 71, 72, 73, 74, 75, 76, 77, 78, 79, 80, 81, 82, 83, 95, 96, 97, 98, 99, 100, 101, 102, 103, 104, 105] (by decide +kernel) (by decide +kernel)
set_option maxRecDepth 20000 in
theorem gX11_rests_X4_isContent : GoodIn wsX11_rests (va_wsS RX11 231 yX4_isContent wsX4_isContent) := goodIn_app (goodIn_of _ (by decide +kernel)) ggX11_rests_X4_isContent
theorem dX11_rests_0 : decode cX11_rests 0 = .ok (.aload_n 0, 1) := by decide +kernel
theorem dX11_rests_1 : decode cX11_rests 1 = .ok (.getfield 16, 3) := by decide +kernel
theorem dX11_rests_4 : decode cX11_rests 4 = .ok (.iload_n 1, 1) := by decide +kernel
theorem dX11_rests_5 : decode cX11_rests 5 = .ok (.invokevirtual 84, 3) := by decide +kernel
theorem dX11_rests_8 : decode cX11_rests 8 = .ok (.ifCond .eq 14, 3) := by decide +kernel
theorem dX11_rests_11 : decode cX11_rests 11 = .ok (.aload_n 0, 1) := by decide +kernel
theorem dX11_rests_12 : decode cX11_rests 12 = .ok (.getfield 16, 3) := by decide +kernel
theorem dX11_rests_15 : decode cX11_rests 15 = .ok (.iload_n 2, 1) := by decide +kernel
theorem dX11_rests_16 : decode cX11_rests 16 = .ok (.invokevirtual 84, 3) := by decide +kernel
theorem dX11_rests_19 : decode cX11_rests 19 = .ok (.ifCond .ne 5, 3) := by decide +kernel
theorem dX11_rests_22 : decode cX11_rests 22 = .ok (.iconst (-1), 1) := by decide +kernel
theorem dX11_rests_23 : decode cX11_rests 23 = .ok (.ireturn, 1) := by decide +kernel
theorem dX11_rests_24 : decode cX11_rests 24 = .ok (.iload_n 1, 1) := by decide +kernel
theorem dX11_rests_25 : decode cX11_rests 25 = .ok (.iload_n 2, 1) := by decide +kernel
theorem dX11_rests_26 : decode cX11_rests 26 = .ok (.if_icmp .eq 12, 3) := by decide +kernel
theorem dX11_rests_29 : decode cX11_rests 29 = .ok (.iload_n 3, 1) := by decide +kernel
theorem dX11_rests_30 : decode cX11_rests 30 = .ok (.ifCond .lt 8, 3) := by decide +kernel
theorem dX11_rests_33 : decode cX11_rests 33 = .ok (.iload_n 3, 1) := by decide +kernel
theorem dX11_rests_34 : decode cX11_rests 34 = .ok (.iconst 1, 1) := by decide +kernel
theorem dX11_rests_35 : decode cX11_rests 35 = .ok (.if_icmp .le 6, 3) := by decide +kernel
theorem dX11_rests_38 : decode cX11_rests 38 = .ok (.bipush (-2), 2) := by decide +kernel
theorem dX11_rests_40 : decode cX11_rests 40 = .ok (.ireturn, 1) := by decide +kernel
theorem dX11_rests_41 : decode cX11_rests 41 = .ok (.iconst 0, 1) := by decide +kernel
theorem dX11_rests_42 : decode cX11_rests 42 = .ok (.istore 4, 2) := by decide +kernel
theorem dX11_rests_44 : decode cX11_rests 44 = .ok (.bipush (-9), 2) := by decide +kernel
theorem dX11_rests_46 : decode cX11_rests 46 = .ok (.istore 5, 2) := by decide +kernel
theorem dX11_rests_48 : decode cX11_rests 48 = .ok (.iconst 0, 1) := by decide +kernel
theorem dX11_rests_49 : decode cX11_rests 49 = .ok (.istore 6, 2) := by decide +kernel
theorem dX11_rests_51 : decode cX11_rests 51 = .ok (.iload 6, 2) := by decide +kernel
theorem dX11_rests_53 : decode cX11_rests 53 = .ok (.iconst 4, 1) := by decide +kernel
theorem dX11_rests_54 : decode cX11_rests 54 = .ok (.if_icmp .ge 82, 3) := by decide +kernel
theorem dX11_rests_57 : decode cX11_rests 57 = .ok (.iload 6, 2) := by decide +kernel
theorem dX11_rests_59 : decode cX11_rests 59 = .ok (.iconst 2, 1) := by decide +kernel
theorem dX11_rests_60 : decode cX11_rests 60 = .ok (.idiv, 1) := by decide +kernel
theorem dX11_rests_61 : decode cX11_rests 61 = .ok (.istore 7, 2) := by decide +kernel
theorem dX11_rests_63 : decode cX11_rests 63 = .ok (.iload 6, 2) := by decide +kernel
theorem dX11_rests_65 : decode cX11_rests 65 = .ok (.iconst 2, 1) := by decide +kernel
theorem dX11_rests_66 : decode cX11_rests 66 = .ok (.irem, 1) := by decide +kernel
theorem dX11_rests_67 : decode cX11_rests 67 = .ok (.istore 8, 2) := by decide +kernel
theorem dX11_rests_69 : decode cX11_rests 69 = .ok (.aload_n 0, 1) := by decide +kernel
theorem dX11_rests_70 : decode cX11_rests 70 = .ok (.getfield 16, 3) := by decide +kernel
theorem dX11_rests_73 : decode cX11_rests 73 = .ok (.aload_n 0, 1) := by decide +kernel
theorem dX11_rests_74 : decode cX11_rests 74 = .ok (.getfield 27, 3) := by decide +kernel
theorem dX11_rests_77 : decode cX11_rests 77 = .ok (.iload_n 1, 1) := by decide +kernel
theorem dX11_rests_78 : decode cX11_rests 78 = .ok (.iload 7, 2) := by decide +kernel
theorem dX11_rests_80 : decode cX11_rests 80 = .ok (.iload 8, 2) := by decide +kernel
theorem dX11_rests_82 : decode cX11_rests 82 = .ok (.invokestatic 231, 3) := by decide +kernel
theorem dX11_rests_85 : decode cX11_rests 85 = .ok (.ifCond .eq 45, 3) := by decide +kernel
theorem dX11_rests_88 : decode cX11_rests 88 = .ok (.aload_n 0, 1) := by decide +kernel
theorem dX11_rests_89 : decode cX11_rests 89 = .ok (.getfield 16, 3) := by decide +kernel
theorem dX11_rests_92 : decode cX11_rests 92 = .ok (.aload_n 0, 1) := by decide +kernel
theorem dX11_rests_93 : decode cX11_rests 93 = .ok (.getfield 27, 3) := by decide +kernel
theorem dX11_rests_96 : decode cX11_rests 96 = .ok (.iload_n 2, 1) := by decide +kernel
theorem dX11_rests_97 : decode cX11_rests 97 = .ok (.iload 8, 2) := by decide +kernel
theorem dX11_rests_99 : decode cX11_rests 99 = .ok (.iload 7, 2) := by decide +kernel
theorem dX11_rests_101 : decode cX11_rests 101 = .ok (.invokestatic 231, 3) := by decide +kernel
theorem dX11_rests_104 : decode cX11_rests 104 = .ok (.ifCond .eq 26, 3) := by decide +kernel
theorem dX11_rests_107 : decode cX11_rests 107 = .ok (.iload 4, 2) := by decide +kernel
theorem dX11_rests_109 : decode cX11_rests 109 = .ok (.ifCond .ne 14, 3) := by decide +kernel
theorem dX11_rests_112 : decode cX11_rests 112 = .ok (.bipush 10, 2) := by decide +kernel
theorem dX11_rests_114 : decode cX11_rests 114 = .ok (.iload 7, 2) := by decide +kernel
theorem dX11_rests_116 : decode cX11_rests 116 = .ok (.imul, 1) := by decide +kernel
theorem dX11_rests_117 : decode cX11_rests 117 = .ok (.iload 8, 2) := by decide +kernel
theorem dX11_rests_119 : decode cX11_rests 119 = .ok (.iadd, 1) := by decide +kernel
theorem dX11_rests_120 : decode cX11_rests 120 = .ok (.goto 5, 3) := by decide +kernel
theorem dX11_rests_123 : decode cX11_rests 123 = .ok (.iload 5, 2) := by decide +kernel
theorem dX11_rests_125 : decode cX11_rests 125 = .ok (.istore 5, 2) := by decide +kernel
theorem dX11_rests_127 : decode cX11_rests 127 = .ok (.iinc 4 1, 3) := by decide +kernel
theorem dX11_rests_130 : decode cX11_rests 130 = .ok (.iinc 6 1, 3) := by decide +kernel
theorem dX11_rests_133 : decode cX11_rests 133 = .ok (.goto (-82), 3) := by decide +kernel
theorem dX11_rests_136 : decode cX11_rests 136 = .ok (.iload_n 3, 1) := by decide +kernel
theorem dX11_rests_137 : decode cX11_rests 137 = .ok (.ifCond .ne 8, 3) := by decide +kernel
theorem dX11_rests_140 : decode cX11_rests 140 = .ok (.iload 4, 2) := by decide +kernel
theorem dX11_rests_142 : decode cX11_rests 142 = .ok (.goto 5, 3) := by decide +kernel
theorem dX11_rests_145 : decode cX11_rests 145 = .ok (.iload 5, 2) := by decide +kernel
theorem dX11_rests_147 : decode cX11_rests 147 = .ok (.ireturn, 1) := by decide +kernel
set_option maxRecDepth 20000 in
theorem ggX11_gust_X3_isGrain : GoodIn wsX11_gust wsX3_isGrain := goodIn_r _ [7, 8, 109, 110, 111, 112, 113, 114, 115, 116, 117, 118, 119] (by decide +kernel) (by decide +kernel)
set_option maxRecDepth 20000 in
theorem gX11_gust_X3_isGrain : GoodIn wsX11_gust (wsV RX11 109 RX3 yX3_isGrain wsX3_isGrain) := goodIn_app (goodIn_of _ (by decide +kernel)) ggX11_gust_X3_isGrain
set_option maxRecDepth 20000 in
theorem ggX11_gust_X5_waysToBeGone : GoodIn wsX11_gust wsX5_waysToBeGone := goodIn_r _ [11, 12, 13, 14, 15, 16, 17, 10, 18, 19, 20, 21, 6, 22, 23, 24, 25, 26, 27, 28, 29, 30, 31, 32, 33, 34, 35, 36, 37, 38, 39, 40, 41, 42, 43, 44, 45, 46, 47, 48, 49, 50, 51, 52, 53, 54, 55, 56, 57, 58, 59, 60, 61, 62, 63, 64, 65, 66, 67, 68, 69, 70, 71, 72, 73, 74, 75, 76, 77, 78, 79, 80, 81, 82, 83, 9, 109, 110, 111, 112, 113, 114, 115, 116, 117, 118, 119] (by decide +kernel) (by decide +kernel)
set_option maxRecDepth 20000 in
theorem gX11_gust_X5_waysToBeGone_n237 : GoodIn wsX11_gust (wsX5_waysToBeGone) := ggX11_gust_X5_waysToBeGone
set_option maxRecDepth 20000 in
theorem ggX11_gust_X6_leastTerms : GoodIn wsX11_gust wsX6_leastTerms := goodIn_r _ [87, 88, 89, 90, 91, 92, 93, 94, 95, 96, 86, 97] (by decide +kernel) (by decide +kernel)
set_option maxRecDepth 20000 in
theorem gX11_gust_X6_leastTerms : GoodIn wsX11_gust (va_wsS RX11 227 yX6_leastTerms wsX6_leastTerms) := goodIn_app (goodIn_of _ (by decide +kernel)) ggX11_gust_X6_leastTerms
theorem dX11_gust_0 : decode cX11_gust 0 = .ok (.aload_n 0, 1) := by decide +kernel
theorem dX11_gust_1 : decode cX11_gust 1 = .ok (.getfield 16, 3) := by decide +kernel
theorem dX11_gust_4 : decode cX11_gust 4 = .ok (.iload_n 1, 1) := by decide +kernel
theorem dX11_gust_5 : decode cX11_gust 5 = .ok (.invokevirtual 109, 3) := by decide +kernel
theorem dX11_gust_8 : decode cX11_gust 8 = .ok (.ifCond .ne 5, 3) := by decide +kernel
theorem dX11_gust_11 : decode cX11_gust 11 = .ok (.iconst (-1), 1) := by decide +kernel
theorem dX11_gust_12 : decode cX11_gust 12 = .ok (.ireturn, 1) := by decide +kernel
theorem dX11_gust_13 : decode cX11_gust 13 = .ok (.iload_n 2, 1) := by decide +kernel
theorem dX11_gust_14 : decode cX11_gust 14 = .ok (.iconst 1, 1) := by decide +kernel
theorem dX11_gust_15 : decode cX11_gust 15 = .ok (.if_icmp .lt 18, 3) := by decide +kernel
theorem dX11_gust_18 : decode cX11_gust 18 = .ok (.iload_n 2, 1) := by decide +kernel
theorem dX11_gust_19 : decode cX11_gust 19 = .ok (.iconst 5, 1) := by decide +kernel
theorem dX11_gust_20 : decode cX11_gust 20 = .ok (.if_icmp .gt 13, 3) := by decide +kernel
theorem dX11_gust_23 : decode cX11_gust 23 = .ok (.iload_n 3, 1) := by decide +kernel
theorem dX11_gust_24 : decode cX11_gust 24 = .ok (.ifCond .lt 9, 3) := by decide +kernel
theorem dX11_gust_27 : decode cX11_gust 27 = .ok (.iload_n 3, 1) := by decide +kernel
theorem dX11_gust_28 : decode cX11_gust 28 = .ok (.bipush 10, 2) := by decide +kernel
theorem dX11_gust_30 : decode cX11_gust 30 = .ok (.if_icmp .le 6, 3) := by decide +kernel
theorem dX11_gust_33 : decode cX11_gust 33 = .ok (.bipush (-2), 2) := by decide +kernel
theorem dX11_gust_35 : decode cX11_gust 35 = .ok (.ireturn, 1) := by decide +kernel
theorem dX11_gust_36 : decode cX11_gust 36 = .ok (.iconst 1, 1) := by decide +kernel
theorem dX11_gust_37 : decode cX11_gust 37 = .ok (.istore 5, 2) := by decide +kernel
theorem dX11_gust_39 : decode cX11_gust 39 = .ok (.iconst 0, 1) := by decide +kernel
theorem dX11_gust_40 : decode cX11_gust 40 = .ok (.istore 6, 2) := by decide +kernel
theorem dX11_gust_42 : decode cX11_gust 42 = .ok (.iload 6, 2) := by decide +kernel
theorem dX11_gust_44 : decode cX11_gust 44 = .ok (.iload_n 2, 1) := by decide +kernel
theorem dX11_gust_45 : decode cX11_gust 45 = .ok (.if_icmp .ge 16, 3) := by decide +kernel
theorem dX11_gust_48 : decode cX11_gust 48 = .ok (.iload 5, 2) := by decide +kernel
theorem dX11_gust_50 : decode cX11_gust 50 = .ok (.bipush 10, 2) := by decide +kernel
theorem dX11_gust_52 : decode cX11_gust 52 = .ok (.imul, 1) := by decide +kernel
theorem dX11_gust_53 : decode cX11_gust 53 = .ok (.istore 5, 2) := by decide +kernel
theorem dX11_gust_55 : decode cX11_gust 55 = .ok (.iinc 6 1, 3) := by decide +kernel
theorem dX11_gust_58 : decode cX11_gust 58 = .ok (.goto (-16), 3) := by decide +kernel
theorem dX11_gust_61 : decode cX11_gust 61 = .ok (.aload_n 0, 1) := by decide +kernel
theorem dX11_gust_62 : decode cX11_gust 62 = .ok (.getfield 16, 3) := by decide +kernel
theorem dX11_gust_65 : decode cX11_gust 65 = .ok (.aload_n 0, 1) := by decide +kernel
theorem dX11_gust_66 : decode cX11_gust 66 = .ok (.getfield 27, 3) := by decide +kernel
theorem dX11_gust_69 : decode cX11_gust 69 = .ok (.iload_n 1, 1) := by decide +kernel
theorem dX11_gust_70 : decode cX11_gust 70 = .ok (.iload_n 2, 1) := by decide +kernel
theorem dX11_gust_71 : decode cX11_gust 71 = .ok (.iload_n 3, 1) := by decide +kernel
theorem dX11_gust_72 : decode cX11_gust 72 = .ok (.invokestatic 237, 3) := by decide +kernel
theorem dX11_gust_75 : decode cX11_gust 75 = .ok (.iload 5, 2) := by decide +kernel
theorem dX11_gust_77 : decode cX11_gust 77 = .ok (.iload 4, 2) := by decide +kernel
theorem dX11_gust_79 : decode cX11_gust 79 = .ok (.invokestatic 227, 3) := by decide +kernel
theorem dX11_gust_82 : decode cX11_gust 82 = .ok (.ireturn, 1) := by decide +kernel
theorem dX11_seed_0 : decode cX11_seed 0 = .ok (.aload_n 0, 1) := by decide +kernel
theorem dX11_seed_1 : decode cX11_seed 1 = .ok (.getfield 243, 3) := by decide +kernel
theorem dX11_seed_4 : decode cX11_seed 4 = .ok (.lstore_n 3, 1) := by decide +kernel
theorem dX11_seed_5 : decode cX11_seed 5 = .ok (.aload_n 0, 1) := by decide +kernel
theorem dX11_seed_6 : decode cX11_seed 6 = .ok (.lload_n 1, 1) := by decide +kernel
theorem dX11_seed_7 : decode cX11_seed 7 = .ok (.putfield 243, 3) := by decide +kernel
theorem dX11_seed_10 : decode cX11_seed 10 = .ok (.lload_n 3, 1) := by decide +kernel
theorem dX11_seed_11 : decode cX11_seed 11 = .ok (.lreturn, 1) := by decide +kernel
set_option maxRecDepth 20000 in
theorem ggX11_years_X5_nextChance : GoodIn wsX11_years wsX5_nextChance := goodIn_r _ [7, 8, 9] (by decide +kernel) (by decide +kernel)
set_option maxRecDepth 20000 in
theorem gX11_years_X5_nextChance : GoodIn wsX11_years (va_wsS RX11 246 yX5_nextChance wsX5_nextChance) := goodIn_app (goodIn_of _ (by decide +kernel)) ggX11_years_X5_nextChance
set_option maxRecDepth 20000 in
theorem ggX11_years_X5_yearBehind : GoodIn wsX11_years wsX5_yearBehind := goodIn_r _ [12, 13, 14, 15, 16, 17, 18, 19, 20, 21, 22, 23, 24, 25, 26, 27, 28, 29, 30, 31, 32, 33, 34, 35, 36, 37, 38, 39, 40, 41, 42, 43, 44, 45, 46, 47, 48, 49, 50, 51, 52, 53, 54, 55, 56, 57, 58, 59, 60, 61, 62, 63, 64, 65, 66, 67, 68, 69, 70, 71, 72, 73, 74, 75, 76, 77, 78, 79, 80, 81, 82, 83, 84, 85, 86, 87, 88, 89, 90, 91, 92, 116, 117, 118, 119, 120, 121, 122, 123, 124, 125, 126] (by decide +kernel) (by decide +kernel)
set_option maxRecDepth 20000 in
theorem gX11_years_X5_yearBehind : GoodIn wsX11_years (va_wsS RX11 249 yX5_yearBehind wsX5_yearBehind) := goodIn_app (goodIn_of _ (by decide +kernel)) ggX11_years_X5_yearBehind
set_option maxRecDepth 20000 in
theorem ggX11_years_X3_goneWeight : GoodIn wsX11_years wsX3_goneWeight := goodIn_r _ [96, 97, 98, 99, 21, 100, 28, 51, 52, 15, 53, 101, 102, 103, 104, 73, 74, 75, 76, 77, 116, 117, 118, 119, 120, 121, 122, 123, 124, 125, 126] (by decide +kernel) (by decide +kernel)
set_option maxRecDepth 20000 in
theorem gX11_years_X3_goneWeight : GoodIn wsX11_years (wsV RX11 253 RX3 yX3_goneWeight wsX3_goneWeight) := goodIn_app (goodIn_of _ (by decide +kernel)) ggX11_years_X3_goneWeight
theorem dX11_years_0 : decode cX11_years 0 = .ok (.iload_n 1, 1) := by decide +kernel
theorem dX11_years_1 : decode cX11_years 1 = .ok (.iconst 1, 1) := by decide +kernel
theorem dX11_years_2 : decode cX11_years 2 = .ok (.if_icmp .lt 9, 3) := by decide +kernel
theorem dX11_years_5 : decode cX11_years 5 = .ok (.iload_n 1, 1) := by decide +kernel
theorem dX11_years_6 : decode cX11_years 6 = .ok (.bipush 30, 2) := by decide +kernel
theorem dX11_years_8 : decode cX11_years 8 = .ok (.if_icmp .le 6, 3) := by decide +kernel
theorem dX11_years_11 : decode cX11_years 11 = .ok (.bipush (-2), 2) := by decide +kernel
theorem dX11_years_13 : decode cX11_years 13 = .ok (.ireturn, 1) := by decide +kernel
theorem dX11_years_14 : decode cX11_years 14 = .ok (.aload_n 0, 1) := by decide +kernel
theorem dX11_years_15 : decode cX11_years 15 = .ok (.getfield 27, 3) := by decide +kernel
theorem dX11_years_18 : decode cX11_years 18 = .ok (.lstore_n 2, 1) := by decide +kernel
theorem dX11_years_19 : decode cX11_years 19 = .ok (.iconst 0, 1) := by decide +kernel
theorem dX11_years_20 : decode cX11_years 20 = .ok (.istore 4, 2) := by decide +kernel
theorem dX11_years_22 : decode cX11_years 22 = .ok (.iload 4, 2) := by decide +kernel
theorem dX11_years_24 : decode cX11_years 24 = .ok (.iload_n 1, 1) := by decide +kernel
theorem dX11_years_25 : decode cX11_years 25 = .ok (.if_icmp .ge 40, 3) := by decide +kernel
theorem dX11_years_28 : decode cX11_years 28 = .ok (.aload_n 0, 1) := by decide +kernel
theorem dX11_years_29 : decode cX11_years 29 = .ok (.aload_n 0, 1) := by decide +kernel
theorem dX11_years_30 : decode cX11_years 30 = .ok (.getfield 243, 3) := by decide +kernel
theorem dX11_years_33 : decode cX11_years 33 = .ok (.invokestatic 246, 3) := by decide +kernel
theorem dX11_years_36 : decode cX11_years 36 = .ok (.putfield 243, 3) := by decide +kernel
theorem dX11_years_39 : decode cX11_years 39 = .ok (.aload_n 0, 1) := by decide +kernel
theorem dX11_years_40 : decode cX11_years 40 = .ok (.getfield 16, 3) := by decide +kernel
theorem dX11_years_43 : decode cX11_years 43 = .ok (.lload_n 2, 1) := by decide +kernel
theorem dX11_years_44 : decode cX11_years 44 = .ok (.aload_n 0, 1) := by decide +kernel
theorem dX11_years_45 : decode cX11_years 45 = .ok (.getfield 243, 3) := by decide +kernel
theorem dX11_years_48 : decode cX11_years 48 = .ok (.bipush 33, 2) := by decide +kernel
theorem dX11_years_50 : decode cX11_years 50 = .ok (.lushr, 1) := by decide +kernel
theorem dX11_years_51 : decode cX11_years 51 = .ok (.l2i, 1) := by decide +kernel
theorem dX11_years_52 : decode cX11_years 52 = .ok (.bipush 9, 2) := by decide +kernel
theorem dX11_years_54 : decode cX11_years 54 = .ok (.irem, 1) := by decide +kernel
theorem dX11_years_55 : decode cX11_years 55 = .ok (.invokestatic 249, 3) := by decide +kernel
theorem dX11_years_58 : decode cX11_years 58 = .ok (.lstore_n 2, 1) := by decide +kernel
theorem dX11_years_59 : decode cX11_years 59 = .ok (.iinc 4 1, 3) := by decide +kernel
theorem dX11_years_62 : decode cX11_years 62 = .ok (.goto (-40), 3) := by decide +kernel
theorem dX11_years_65 : decode cX11_years 65 = .ok (.aload_n 0, 1) := by decide +kernel
theorem dX11_years_66 : decode cX11_years 66 = .ok (.getfield 16, 3) := by decide +kernel
theorem dX11_years_69 : decode cX11_years 69 = .ok (.lload_n 2, 1) := by decide +kernel
theorem dX11_years_70 : decode cX11_years 70 = .ok (.invokevirtual 253, 3) := by decide +kernel
theorem dX11_years_73 : decode cX11_years 73 = .ok (.ireturn, 1) := by decide +kernel
set_option maxRecDepth 20000 in
theorem ggX11_keep_X7_clockOf : GoodIn wsX11_keep wsX7_clockOf := goodIn_r _ [7] (by decide +kernel) (by decide +kernel)
set_option maxRecDepth 20000 in
theorem gX11_keep_X7_clockOf : GoodIn wsX11_keep (va_wsS RX11 256 yX7_clockOf wsX7_clockOf) := goodIn_app (goodIn_of _ (by decide +kernel)) ggX11_keep_X7_clockOf
theorem dX11_keep_0 : decode cX11_keep 0 = .ok (.iload_n 1, 1) := by decide +kernel
theorem dX11_keep_1 : decode cX11_keep 1 = .ok (.ifCond .lt 21, 3) := by decide +kernel
theorem dX11_keep_4 : decode cX11_keep 4 = .ok (.iload_n 1, 1) := by decide +kernel
theorem dX11_keep_5 : decode cX11_keep 5 = .ok (.aload_n 0, 1) := by decide +kernel
theorem dX11_keep_6 : decode cX11_keep 6 = .ok (.getfield 38, 3) := by decide +kernel
theorem dX11_keep_9 : decode cX11_keep 9 = .ok (.arraylength, 1) := by decide +kernel
theorem dX11_keep_10 : decode cX11_keep 10 = .ok (.if_icmp .ge 12, 3) := by decide +kernel
theorem dX11_keep_13 : decode cX11_keep 13 = .ok (.iload_n 1, 1) := by decide +kernel
theorem dX11_keep_14 : decode cX11_keep 14 = .ok (.aload_n 0, 1) := by decide +kernel
theorem dX11_keep_15 : decode cX11_keep 15 = .ok (.getfield 42, 3) := by decide +kernel
theorem dX11_keep_18 : decode cX11_keep 18 = .ok (.arraylength, 1) := by decide +kernel
theorem dX11_keep_19 : decode cX11_keep 19 = .ok (.if_icmp .lt 5, 3) := by decide +kernel
theorem dX11_keep_22 : decode cX11_keep 22 = .ok (.iconst (-1), 1) := by decide +kernel
theorem dX11_keep_23 : decode cX11_keep 23 = .ok (.ireturn, 1) := by decide +kernel
theorem dX11_keep_24 : decode cX11_keep 24 = .ok (.aload_n 0, 1) := by decide +kernel
theorem dX11_keep_25 : decode cX11_keep 25 = .ok (.getfield 38, 3) := by decide +kernel
theorem dX11_keep_28 : decode cX11_keep 28 = .ok (.iload_n 1, 1) := by decide +kernel
theorem dX11_keep_29 : decode cX11_keep 29 = .ok (.aload_n 0, 1) := by decide +kernel
theorem dX11_keep_30 : decode cX11_keep 30 = .ok (.getfield 27, 3) := by decide +kernel
theorem dX11_keep_33 : decode cX11_keep 33 = .ok (.lastore, 1) := by decide +kernel
theorem dX11_keep_34 : decode cX11_keep 34 = .ok (.aload_n 0, 1) := by decide +kernel
theorem dX11_keep_35 : decode cX11_keep 35 = .ok (.getfield 42, 3) := by decide +kernel
theorem dX11_keep_38 : decode cX11_keep 38 = .ok (.iload_n 1, 1) := by decide +kernel
theorem dX11_keep_39 : decode cX11_keep 39 = .ok (.iconst 1, 1) := by decide +kernel
theorem dX11_keep_40 : decode cX11_keep 40 = .ok (.bastore, 1) := by decide +kernel
theorem dX11_keep_41 : decode cX11_keep 41 = .ok (.aload_n 0, 1) := by decide +kernel
theorem dX11_keep_42 : decode cX11_keep 42 = .ok (.getfield 27, 3) := by decide +kernel
theorem dX11_keep_45 : decode cX11_keep 45 = .ok (.invokestatic 256, 3) := by decide +kernel
theorem dX11_keep_48 : decode cX11_keep 48 = .ok (.ireturn, 1) := by decide +kernel
set_option maxRecDepth 20000 in
theorem ggX11_again_X0_forgetAll : GoodIn wsX11_again wsX0_forgetAll := goodIn_r _ [9, 10, 26, 27] (by decide +kernel) (by decide +kernel)
set_option maxRecDepth 20000 in
theorem gX11_again_X0_forgetAll : GoodIn wsX11_again (wsV RX11 72 RX0 yX0_forgetAll wsX0_forgetAll) := goodIn_app (goodIn_of _ (by decide +kernel)) ggX11_again_X0_forgetAll
set_option maxRecDepth 20000 in
theorem ggX11_again_X7_clockOf : GoodIn wsX11_again wsX7_clockOf := goodIn_r _ [14] (by decide +kernel) (by decide +kernel)
set_option maxRecDepth 20000 in
theorem gX11_again_X7_clockOf : GoodIn wsX11_again (va_wsS RX11 256 yX7_clockOf wsX7_clockOf) := goodIn_app (goodIn_of _ (by decide +kernel)) ggX11_again_X7_clockOf
theorem dX11_again_0 : decode cX11_again 0 = .ok (.iload_n 1, 1) := by decide +kernel
theorem dX11_again_1 : decode cX11_again 1 = .ok (.ifCond .lt 21, 3) := by decide +kernel
theorem dX11_again_4 : decode cX11_again 4 = .ok (.iload_n 1, 1) := by decide +kernel
theorem dX11_again_5 : decode cX11_again 5 = .ok (.aload_n 0, 1) := by decide +kernel
theorem dX11_again_6 : decode cX11_again 6 = .ok (.getfield 38, 3) := by decide +kernel
theorem dX11_again_9 : decode cX11_again 9 = .ok (.arraylength, 1) := by decide +kernel
theorem dX11_again_10 : decode cX11_again 10 = .ok (.if_icmp .ge 12, 3) := by decide +kernel
theorem dX11_again_13 : decode cX11_again 13 = .ok (.iload_n 1, 1) := by decide +kernel
theorem dX11_again_14 : decode cX11_again 14 = .ok (.aload_n 0, 1) := by decide +kernel
theorem dX11_again_15 : decode cX11_again 15 = .ok (.getfield 42, 3) := by decide +kernel
theorem dX11_again_18 : decode cX11_again 18 = .ok (.arraylength, 1) := by decide +kernel
theorem dX11_again_19 : decode cX11_again 19 = .ok (.if_icmp .lt 5, 3) := by decide +kernel
theorem dX11_again_22 : decode cX11_again 22 = .ok (.iconst (-1), 1) := by decide +kernel
theorem dX11_again_23 : decode cX11_again 23 = .ok (.ireturn, 1) := by decide +kernel
theorem dX11_again_24 : decode cX11_again 24 = .ok (.aload_n 0, 1) := by decide +kernel
theorem dX11_again_25 : decode cX11_again 25 = .ok (.getfield 42, 3) := by decide +kernel
theorem dX11_again_28 : decode cX11_again 28 = .ok (.iload_n 1, 1) := by decide +kernel
theorem dX11_again_29 : decode cX11_again 29 = .ok (.baload, 1) := by decide +kernel
theorem dX11_again_30 : decode cX11_again 30 = .ok (.ifCond .ne 6, 3) := by decide +kernel
theorem dX11_again_33 : decode cX11_again 33 = .ok (.bipush (-3), 2) := by decide +kernel
theorem dX11_again_35 : decode cX11_again 35 = .ok (.ireturn, 1) := by decide +kernel
theorem dX11_again_36 : decode cX11_again 36 = .ok (.aload_n 0, 1) := by decide +kernel
theorem dX11_again_37 : decode cX11_again 37 = .ok (.aload_n 0, 1) := by decide +kernel
theorem dX11_again_38 : decode cX11_again 38 = .ok (.getfield 38, 3) := by decide +kernel
theorem dX11_again_41 : decode cX11_again 41 = .ok (.iload_n 1, 1) := by decide +kernel
theorem dX11_again_42 : decode cX11_again 42 = .ok (.laload, 1) := by decide +kernel
theorem dX11_again_43 : decode cX11_again 43 = .ok (.putfield 27, 3) := by decide +kernel
theorem dX11_again_46 : decode cX11_again 46 = .ok (.aload_n 0, 1) := by decide +kernel
theorem dX11_again_47 : decode cX11_again 47 = .ok (.getfield 34, 3) := by decide +kernel
theorem dX11_again_50 : decode cX11_again 50 = .ok (.invokevirtual 72, 3) := by decide +kernel
theorem dX11_again_53 : decode cX11_again 53 = .ok (.aload_n 0, 1) := by decide +kernel
theorem dX11_again_54 : decode cX11_again 54 = .ok (.getfield 27, 3) := by decide +kernel
theorem dX11_again_57 : decode cX11_again 57 = .ok (.invokestatic 256, 3) := by decide +kernel
theorem dX11_again_60 : decode cX11_again 60 = .ok (.ireturn, 1) := by decide +kernel
set_option maxRecDepth 20000 in
theorem ggX11_count_X7_clockOf : GoodIn wsX11_count wsX7_clockOf := goodIn_r _ [9] (by decide +kernel) (by decide +kernel)
set_option maxRecDepth 20000 in
theorem gX11_count_X7_clockOf : GoodIn wsX11_count (va_wsS RX11 256 yX7_clockOf wsX7_clockOf) := goodIn_app (goodIn_of _ (by decide +kernel)) ggX11_count_X7_clockOf
set_option maxRecDepth 20000 in
theorem ggX11_count_X3_windAt : GoodIn wsX11_count wsX3_windAt := goodIn_r _ [14, 15, 16, 17, 7, 8, 9, 64, 65, 66, 67, 68, 69, 70, 71, 72, 73, 74] (by decide +kernel) (by decide +kernel)
set_option maxRecDepth 20000 in
theorem gX11_count_X3_windAt : GoodIn wsX11_count (wsV RX11 155 RX3 yX3_windAt wsX3_windAt) := goodIn_app (goodIn_of _ (by decide +kernel)) ggX11_count_X3_windAt
set_option maxRecDepth 20000 in
theorem ggX11_count_X7_holderOf : GoodIn wsX11_count wsX7_holderOf := goodIn_r _ [20] (by decide +kernel) (by decide +kernel)
set_option maxRecDepth 20000 in
theorem gX11_count_X7_holderOf : GoodIn wsX11_count (va_wsS RX11 165 yX7_holderOf wsX7_holderOf) := goodIn_app (goodIn_of _ (by decide +kernel)) ggX11_count_X7_holderOf
set_option maxRecDepth 20000 in
theorem ggX11_count_X3_rightBits : GoodIn wsX11_count wsX3_rightBits := goodIn_r _ [24, 25, 26, 27, 28, 13, 29, 30, 31, 8, 32, 33, 34, 35, 36, 37, 64, 65, 66, 67, 68, 69, 70, 71, 72, 73, 74] (by decide +kernel) (by decide +kernel)
set_option maxRecDepth 20000 in
theorem gX11_count_X3_rightBits : GoodIn wsX11_count (wsV RX11 259 RX3 yX3_rightBits wsX3_rightBits) := goodIn_app (goodIn_of _ (by decide +kernel)) ggX11_count_X3_rightBits
set_option maxRecDepth 20000 in
theorem ggX11_count_X3_lyingBits : GoodIn wsX11_count wsX3_lyingBits := goodIn_r _ [41, 25, 30, 31, 8, 32, 64, 65, 66, 67, 68, 69, 70, 71, 72, 73, 74] (by decide +kernel) (by decide +kernel)
set_option maxRecDepth 20000 in
theorem gX11_count_X3_lyingBits : GoodIn wsX11_count (wsV RX11 99 RX3 yX3_lyingBits wsX3_lyingBits) := goodIn_app (goodIn_of _ (by decide +kernel)) ggX11_count_X3_lyingBits
set_option maxRecDepth 20000 in
theorem ggX11_count_X3_cleanBits : GoodIn wsX11_count wsX3_cleanBits := goodIn_r _ [45, 46, 47, 48, 49, 13, 50, 51, 39, 40, 41, 25, 30, 31, 8, 32, 52, 22, 23, 24, 26, 27, 28, 29, 33, 34, 35, 36, 37, 64, 65, 66, 67, 68, 69, 70, 71, 72, 73, 74] (by decide +kernel) (by decide +kernel)
set_option maxRecDepth 20000 in
theorem gX11_count_X3_cleanBits : GoodIn wsX11_count (wsV RX11 262 RX3 yX3_cleanBits wsX3_cleanBits) := goodIn_app (goodIn_of _ (by decide +kernel)) ggX11_count_X3_cleanBits
theorem dX11_count_0 : decode cX11_count 0 = .ok (.iload_n 1, 1) := by decide +kernel
theorem dX11_count_1 : decode cX11_count 1 = .ok (.tableswitch 192 0 12 #[67, 72, 80, 88, 96, 104, 116, 124, 136, 150, 164, 176, 184], 67) := by decide +kernel
theorem dX11_count_68 : decode cX11_count 68 = .ok (.aload_n 0, 1) := by decide +kernel
theorem dX11_count_69 : decode cX11_count 69 = .ok (.getfield 60, 3) := by decide +kernel
theorem dX11_count_72 : decode cX11_count 72 = .ok (.ireturn, 1) := by decide +kernel
theorem dX11_count_73 : decode cX11_count 73 = .ok (.aload_n 0, 1) := by decide +kernel
theorem dX11_count_74 : decode cX11_count 74 = .ok (.getfield 16, 3) := by decide +kernel
theorem dX11_count_77 : decode cX11_count 77 = .ok (.getfield 75, 3) := by decide +kernel
theorem dX11_count_80 : decode cX11_count 80 = .ok (.ireturn, 1) := by decide +kernel
theorem dX11_count_81 : decode cX11_count 81 = .ok (.aload_n 0, 1) := by decide +kernel
theorem dX11_count_82 : decode cX11_count 82 = .ok (.getfield 16, 3) := by decide +kernel
theorem dX11_count_85 : decode cX11_count 85 = .ok (.getfield 78, 3) := by decide +kernel
theorem dX11_count_88 : decode cX11_count 88 = .ok (.ireturn, 1) := by decide +kernel
theorem dX11_count_89 : decode cX11_count 89 = .ok (.aload_n 0, 1) := by decide +kernel
theorem dX11_count_90 : decode cX11_count 90 = .ok (.getfield 16, 3) := by decide +kernel
theorem dX11_count_93 : decode cX11_count 93 = .ok (.getfield 81, 3) := by decide +kernel
theorem dX11_count_96 : decode cX11_count 96 = .ok (.ireturn, 1) := by decide +kernel
theorem dX11_count_97 : decode cX11_count 97 = .ok (.aload_n 0, 1) := by decide +kernel
theorem dX11_count_98 : decode cX11_count 98 = .ok (.getfield 27, 3) := by decide +kernel
theorem dX11_count_101 : decode cX11_count 101 = .ok (.invokestatic 256, 3) := by decide +kernel
theorem dX11_count_104 : decode cX11_count 104 = .ok (.ireturn, 1) := by decide +kernel
theorem dX11_count_105 : decode cX11_count 105 = .ok (.aload_n 0, 1) := by decide +kernel
theorem dX11_count_106 : decode cX11_count 106 = .ok (.getfield 16, 3) := by decide +kernel
theorem dX11_count_109 : decode cX11_count 109 = .ok (.aload_n 0, 1) := by decide +kernel
theorem dX11_count_110 : decode cX11_count 110 = .ok (.getfield 27, 3) := by decide +kernel
theorem dX11_count_113 : decode cX11_count 113 = .ok (.invokevirtual 155, 3) := by decide +kernel
theorem dX11_count_116 : decode cX11_count 116 = .ok (.ireturn, 1) := by decide +kernel
theorem dX11_count_117 : decode cX11_count 117 = .ok (.aload_n 0, 1) := by decide +kernel
theorem dX11_count_118 : decode cX11_count 118 = .ok (.getfield 27, 3) := by decide +kernel
theorem dX11_count_121 : decode cX11_count 121 = .ok (.invokestatic 165, 3) := by decide +kernel
theorem dX11_count_124 : decode cX11_count 124 = .ok (.ireturn, 1) := by decide +kernel
theorem dX11_count_125 : decode cX11_count 125 = .ok (.aload_n 0, 1) := by decide +kernel
theorem dX11_count_126 : decode cX11_count 126 = .ok (.getfield 16, 3) := by decide +kernel
theorem dX11_count_129 : decode cX11_count 129 = .ok (.aload_n 0, 1) := by decide +kernel
theorem dX11_count_130 : decode cX11_count 130 = .ok (.getfield 27, 3) := by decide +kernel
theorem dX11_count_133 : decode cX11_count 133 = .ok (.invokevirtual 259, 3) := by decide +kernel
theorem dX11_count_136 : decode cX11_count 136 = .ok (.ireturn, 1) := by decide +kernel
theorem dX11_count_137 : decode cX11_count 137 = .ok (.aload_n 0, 1) := by decide +kernel
theorem dX11_count_138 : decode cX11_count 138 = .ok (.getfield 16, 3) := by decide +kernel
theorem dX11_count_141 : decode cX11_count 141 = .ok (.aload_n 0, 1) := by decide +kernel
theorem dX11_count_142 : decode cX11_count 142 = .ok (.getfield 27, 3) := by decide +kernel
theorem dX11_count_145 : decode cX11_count 145 = .ok (.bipush 8, 2) := by decide +kernel
theorem dX11_count_147 : decode cX11_count 147 = .ok (.invokevirtual 99, 3) := by decide +kernel
theorem dX11_count_150 : decode cX11_count 150 = .ok (.ireturn, 1) := by decide +kernel
theorem dX11_count_151 : decode cX11_count 151 = .ok (.aload_n 0, 1) := by decide +kernel
theorem dX11_count_152 : decode cX11_count 152 = .ok (.getfield 16, 3) := by decide +kernel
theorem dX11_count_155 : decode cX11_count 155 = .ok (.aload_n 0, 1) := by decide +kernel
theorem dX11_count_156 : decode cX11_count 156 = .ok (.getfield 27, 3) := by decide +kernel
theorem dX11_count_159 : decode cX11_count 159 = .ok (.bipush 9, 2) := by decide +kernel
theorem dX11_count_161 : decode cX11_count 161 = .ok (.invokevirtual 99, 3) := by decide +kernel
theorem dX11_count_164 : decode cX11_count 164 = .ok (.ireturn, 1) := by decide +kernel
theorem dX11_count_165 : decode cX11_count 165 = .ok (.aload_n 0, 1) := by decide +kernel
theorem dX11_count_166 : decode cX11_count 166 = .ok (.getfield 16, 3) := by decide +kernel
theorem dX11_count_169 : decode cX11_count 169 = .ok (.aload_n 0, 1) := by decide +kernel
theorem dX11_count_170 : decode cX11_count 170 = .ok (.getfield 27, 3) := by decide +kernel
theorem dX11_count_173 : decode cX11_count 173 = .ok (.invokevirtual 262, 3) := by decide +kernel
theorem dX11_count_176 : decode cX11_count 176 = .ok (.ireturn, 1) := by decide +kernel
theorem dX11_count_177 : decode cX11_count 177 = .ok (.aload_n 0, 1) := by decide +kernel
theorem dX11_count_178 : decode cX11_count 178 = .ok (.getfield 34, 3) := by decide +kernel
theorem dX11_count_181 : decode cX11_count 181 = .ok (.getfield 171, 3) := by decide +kernel
theorem dX11_count_184 : decode cX11_count 184 = .ok (.ireturn, 1) := by decide +kernel
theorem dX11_count_185 : decode cX11_count 185 = .ok (.aload_n 0, 1) := by decide +kernel
theorem dX11_count_186 : decode cX11_count 186 = .ok (.getfield 49, 3) := by decide +kernel
theorem dX11_count_189 : decode cX11_count 189 = .ok (.getfield 209, 3) := by decide +kernel
theorem dX11_count_192 : decode cX11_count 192 = .ok (.ireturn, 1) := by decide +kernel
theorem dX11_count_193 : decode cX11_count 193 = .ok (.bipush (-2), 2) := by decide +kernel
theorem dX11_count_195 : decode cX11_count 195 = .ok (.ireturn, 1) := by decide +kernel
theorem dX12_init_0 : decode cX12_init 0 = .ok (.aload_n 0, 1) := by decide +kernel
theorem dX12_init_1 : decode cX12_init 1 = .ok (.invokespecial 1, 3) := by decide +kernel
theorem dX12_init_4 : decode cX12_init 4 = .ok (.aload_n 0, 1) := by decide +kernel
theorem dX12_init_5 : decode cX12_init 5 = .ok (.iconst 4, 1) := by decide +kernel
theorem dX12_init_6 : decode cX12_init 6 = .ok (.newarray .int, 2) := by decide +kernel
theorem dX12_init_8 : decode cX12_init 8 = .ok (.putfield 7, 3) := by decide +kernel
theorem dX12_init_11 : decode cX12_init 11 = .ok (.aload_n 0, 1) := by decide +kernel
theorem dX12_init_12 : decode cX12_init 12 = .ok (.bipush 6, 2) := by decide +kernel
theorem dX12_init_14 : decode cX12_init 14 = .ok (.newarray .int, 2) := by decide +kernel
theorem dX12_init_16 : decode cX12_init 16 = .ok (.putfield 13, 3) := by decide +kernel
theorem dX12_init_19 : decode cX12_init 19 = .ok (.aload_n 0, 1) := by decide +kernel
theorem dX12_init_20 : decode cX12_init 20 = .ok (.bipush 7, 2) := by decide +kernel
theorem dX12_init_22 : decode cX12_init 22 = .ok (.newarray .int, 2) := by decide +kernel
theorem dX12_init_24 : decode cX12_init 24 = .ok (.putfield 16, 3) := by decide +kernel
theorem dX12_init_27 : decode cX12_init 27 = .ok (.aload_n 0, 1) := by decide +kernel
theorem dX12_init_28 : decode cX12_init 28 = .ok (.bipush 7, 2) := by decide +kernel
theorem dX12_init_30 : decode cX12_init 30 = .ok (.newarray .int, 2) := by decide +kernel
theorem dX12_init_32 : decode cX12_init 32 = .ok (.putfield 19, 3) := by decide +kernel
theorem dX12_init_35 : decode cX12_init 35 = .ok (.aload_n 0, 1) := by decide +kernel
theorem dX12_init_36 : decode cX12_init 36 = .ok (.bipush 7, 2) := by decide +kernel
theorem dX12_init_38 : decode cX12_init 38 = .ok (.newarray .int, 2) := by decide +kernel
theorem dX12_init_40 : decode cX12_init 40 = .ok (.putfield 22, 3) := by decide +kernel
theorem dX12_init_43 : decode cX12_init 43 = .ok (.aload_n 0, 1) := by decide +kernel
theorem dX12_init_44 : decode cX12_init 44 = .ok (.bipush 18, 2) := by decide +kernel
theorem dX12_init_46 : decode cX12_init 46 = .ok (.newarray .int, 2) := by decide +kernel
theorem dX12_init_48 : decode cX12_init 48 = .ok (.putfield 25, 3) := by decide +kernel
theorem dX12_init_51 : decode cX12_init 51 = .ok (.aload_n 0, 1) := by decide +kernel
theorem dX12_init_52 : decode cX12_init 52 = .ok (.iconst 4, 1) := by decide +kernel
theorem dX12_init_53 : decode cX12_init 53 = .ok (.newarray .int, 2) := by decide +kernel
theorem dX12_init_55 : decode cX12_init 55 = .ok (.putfield 28, 3) := by decide +kernel
theorem dX12_init_58 : decode cX12_init 58 = .ok (.aload_n 0, 1) := by decide +kernel
theorem dX12_init_59 : decode cX12_init 59 = .ok (.bipush 6, 2) := by decide +kernel
theorem dX12_init_61 : decode cX12_init 61 = .ok (.newarray .int, 2) := by decide +kernel
theorem dX12_init_63 : decode cX12_init 63 = .ok (.putfield 31, 3) := by decide +kernel
theorem dX12_init_66 : decode cX12_init 66 = .ok (.aload_n 0, 1) := by decide +kernel
theorem dX12_init_67 : decode cX12_init 67 = .ok (.bipush 28, 2) := by decide +kernel
theorem dX12_init_69 : decode cX12_init 69 = .ok (.newarray .int, 2) := by decide +kernel
theorem dX12_init_71 : decode cX12_init 71 = .ok (.putfield 34, 3) := by decide +kernel
theorem dX12_init_74 : decode cX12_init 74 = .ok (.aload_n 0, 1) := by decide +kernel
theorem dX12_init_75 : decode cX12_init 75 = .ok (.bipush 56, 2) := by decide +kernel
theorem dX12_init_77 : decode cX12_init 77 = .ok (.newarray .int, 2) := by decide +kernel
theorem dX12_init_79 : decode cX12_init 79 = .ok (.putfield 37, 3) := by decide +kernel
theorem dX12_init_82 : decode cX12_init 82 = .ok (.aload_n 0, 1) := by decide +kernel
theorem dX12_init_83 : decode cX12_init 83 = .ok (.bipush 7, 2) := by decide +kernel
theorem dX12_init_85 : decode cX12_init 85 = .ok (.newarray .int, 2) := by decide +kernel
theorem dX12_init_87 : decode cX12_init 87 = .ok (.putfield 40, 3) := by decide +kernel
theorem dX12_init_90 : decode cX12_init 90 = .ok (.aload_n 0, 1) := by decide +kernel
theorem dX12_init_91 : decode cX12_init 91 = .ok (.bipush 126, 2) := by decide +kernel
theorem dX12_init_93 : decode cX12_init 93 = .ok (.newarray .int, 2) := by decide +kernel
theorem dX12_init_95 : decode cX12_init 95 = .ok (.putfield 43, 3) := by decide +kernel
theorem dX12_init_98 : decode cX12_init 98 = .ok (.aload_n 0, 1) := by decide +kernel
theorem dX12_init_99 : decode cX12_init 99 = .ok (.bipush 6, 2) := by decide +kernel
theorem dX12_init_101 : decode cX12_init 101 = .ok (.newarray .int, 2) := by decide +kernel
theorem dX12_init_103 : decode cX12_init 103 = .ok (.putfield 46, 3) := by decide +kernel
theorem dX12_init_106 : decode cX12_init 106 = .ok (.aload_n 0, 1) := by decide +kernel
theorem dX12_init_107 : decode cX12_init 107 = .ok (.bipush 6, 2) := by decide +kernel
theorem dX12_init_109 : decode cX12_init 109 = .ok (.newarray .int, 2) := by decide +kernel
theorem dX12_init_111 : decode cX12_init 111 = .ok (.putfield 49, 3) := by decide +kernel
theorem dX12_init_114 : decode cX12_init 114 = .ok (.aload_n 0, 1) := by decide +kernel
theorem dX12_init_115 : decode cX12_init 115 = .ok (.bipush 6, 2) := by decide +kernel
theorem dX12_init_117 : decode cX12_init 117 = .ok (.newarray .int, 2) := by decide +kernel
theorem dX12_init_119 : decode cX12_init 119 = .ok (.putfield 52, 3) := by decide +kernel
theorem dX12_init_122 : decode cX12_init 122 = .ok (.aload_n 0, 1) := by decide +kernel
theorem dX12_init_123 : decode cX12_init 123 = .ok (.iconst 2, 1) := by decide +kernel
theorem dX12_init_124 : decode cX12_init 124 = .ok (.newarray .boolean, 2) := by decide +kernel
theorem dX12_init_126 : decode cX12_init 126 = .ok (.putfield 55, 3) := by decide +kernel
theorem dX12_init_129 : decode cX12_init 129 = .ok (.aload_n 0, 1) := by decide +kernel
theorem dX12_init_130 : decode cX12_init 130 = .ok (.bipush 18, 2) := by decide +kernel
theorem dX12_init_132 : decode cX12_init 132 = .ok (.newarray .int, 2) := by decide +kernel
theorem dX12_init_134 : decode cX12_init 134 = .ok (.putfield 59, 3) := by decide +kernel
theorem dX12_init_137 : decode cX12_init 137 = .ok (.aload_n 0, 1) := by decide +kernel
theorem dX12_init_138 : decode cX12_init 138 = .ok (.getfield 25, 3) := by decide +kernel
theorem dX12_init_141 : decode cX12_init 141 = .ok (.bipush 7, 2) := by decide +kernel
theorem dX12_init_143 : decode cX12_init 143 = .ok (.bipush (-9), 2) := by decide +kernel
theorem dX12_init_145 : decode cX12_init 145 = .ok (.iastore, 1) := by decide +kernel
theorem dX12_init_146 : decode cX12_init 146 = .ok (.return_, 1) := by decide +kernel
theorem dX12_in_0 : decode cX12_in 0 = .ok (.lload_n 0, 1) := by decide +kernel
theorem dX12_in_1 : decode cX12_in 1 = .ok (.lload_n 2, 1) := by decide +kernel
theorem dX12_in_2 : decode cX12_in 2 = .ok (.lcmp, 1) := by decide +kernel
theorem dX12_in_3 : decode cX12_in 3 = .ok (.ifCond .lt 14, 3) := by decide +kernel
theorem dX12_in_6 : decode cX12_in 6 = .ok (.lload_n 0, 1) := by decide +kernel
theorem dX12_in_7 : decode cX12_in 7 = .ok (.lload 4, 2) := by decide +kernel
theorem dX12_in_9 : decode cX12_in 9 = .ok (.lcmp, 1) := by decide +kernel
theorem dX12_in_10 : decode cX12_in 10 = .ok (.ifCond .gt 7, 3) := by decide +kernel
theorem dX12_in_13 : decode cX12_in 13 = .ok (.iconst 1, 1) := by decide +kernel
theorem dX12_in_14 : decode cX12_in 14 = .ok (.goto 4, 3) := by decide +kernel
theorem dX12_in_17 : decode cX12_in 17 = .ok (.iconst 0, 1) := by decide +kernel
theorem dX12_in_18 : decode cX12_in 18 = .ok (.ireturn, 1) := by decide +kernel
theorem dX12_has_0 : decode cX12_has 0 = .ok (.iload_n 0, 1) := by decide +kernel
theorem dX12_has_1 : decode cX12_has 1 = .ok (.iload_n 1, 1) := by decide +kernel
theorem dX12_has_2 : decode cX12_has 2 = .ok (.ishr, 1) := by decide +kernel
theorem dX12_has_3 : decode cX12_has 3 = .ok (.iconst 1, 1) := by decide +kernel
theorem dX12_has_4 : decode cX12_has 4 = .ok (.iand, 1) := by decide +kernel
theorem dX12_has_5 : decode cX12_has 5 = .ok (.iconst 1, 1) := by decide +kernel
theorem dX12_has_6 : decode cX12_has 6 = .ok (.if_icmp .ne 7, 3) := by decide +kernel
theorem dX12_has_9 : decode cX12_has 9 = .ok (.iconst 1, 1) := by decide +kernel
theorem dX12_has_10 : decode cX12_has 10 = .ok (.goto 4, 3) := by decide +kernel
theorem dX12_has_13 : decode cX12_has 13 = .ok (.iconst 0, 1) := by decide +kernel
theorem dX12_has_14 : decode cX12_has 14 = .ok (.ireturn, 1) := by decide +kernel
theorem dX12_ones_0 : decode cX12_ones 0 = .ok (.iconst 0, 1) := by decide +kernel
theorem dX12_ones_1 : decode cX12_ones 1 = .ok (.istore_n 1, 1) := by decide +kernel
theorem dX12_ones_2 : decode cX12_ones 2 = .ok (.iconst 0, 1) := by decide +kernel
theorem dX12_ones_3 : decode cX12_ones 3 = .ok (.istore_n 2, 1) := by decide +kernel
theorem dX12_ones_4 : decode cX12_ones 4 = .ok (.iload_n 2, 1) := by decide +kernel
theorem dX12_ones_5 : decode cX12_ones 5 = .ok (.bipush 7, 2) := by decide +kernel
theorem dX12_ones_7 : decode cX12_ones 7 = .ok (.if_icmp .ge 17, 3) := by decide +kernel
theorem dX12_ones_10 : decode cX12_ones 10 = .ok (.iload_n 1, 1) := by decide +kernel
theorem dX12_ones_11 : decode cX12_ones 11 = .ok (.iload_n 0, 1) := by decide +kernel
theorem dX12_ones_12 : decode cX12_ones 12 = .ok (.iload_n 2, 1) := by decide +kernel
theorem dX12_ones_13 : decode cX12_ones 13 = .ok (.ishr, 1) := by decide +kernel
theorem dX12_ones_14 : decode cX12_ones 14 = .ok (.iconst 1, 1) := by decide +kernel
theorem dX12_ones_15 : decode cX12_ones 15 = .ok (.iand, 1) := by decide +kernel
theorem dX12_ones_16 : decode cX12_ones 16 = .ok (.iadd, 1) := by decide +kernel
theorem dX12_ones_17 : decode cX12_ones 17 = .ok (.istore_n 1, 1) := by decide +kernel
theorem dX12_ones_18 : decode cX12_ones 18 = .ok (.iinc 2 1, 3) := by decide +kernel
theorem dX12_ones_21 : decode cX12_ones 21 = .ok (.goto (-17), 3) := by decide +kernel
theorem dX12_ones_24 : decode cX12_ones 24 = .ok (.iload_n 1, 1) := by decide +kernel
theorem dX12_ones_25 : decode cX12_ones 25 = .ok (.ireturn, 1) := by decide +kernel
set_option maxRecDepth 20000 in
theorem ggX12_write_X12_in : GoodIn wsX12_write wsX12_in := goodIn_r _ [7] (by decide +kernel) (by decide +kernel)
set_option maxRecDepth 20000 in
theorem gX12_write_X12_in : GoodIn wsX12_write (va_wsS RX12 64 yX12_in wsX12_in) := goodIn_app (goodIn_of _ (by decide +kernel)) ggX12_write_X12_in
theorem dX12_write_0 : decode cX12_write 0 = .ok (.iload_n 1, 1) := by decide +kernel
theorem dX12_write_1 : decode cX12_write 1 = .ok (.i2l, 1) := by decide +kernel
theorem dX12_write_2 : decode cX12_write 2 = .ok (.lconst 0, 1) := by decide +kernel
theorem dX12_write_3 : decode cX12_write 3 = .ok (.ldc2_w 62, 3) := by decide +kernel
theorem dX12_write_6 : decode cX12_write 6 = .ok (.invokestatic 64, 3) := by decide +kernel
theorem dX12_write_9 : decode cX12_write 9 = .ok (.ifCond .ne 6, 3) := by decide +kernel
theorem dX12_write_12 : decode cX12_write 12 = .ok (.bipush (-2), 2) := by decide +kernel
theorem dX12_write_14 : decode cX12_write 14 = .ok (.ireturn, 1) := by decide +kernel
theorem dX12_write_15 : decode cX12_write 15 = .ok (.aload_n 0, 1) := by decide +kernel
theorem dX12_write_16 : decode cX12_write 16 = .ok (.getfield 68, 3) := by decide +kernel
theorem dX12_write_19 : decode cX12_write 19 = .ok (.bipush 56, 2) := by decide +kernel
theorem dX12_write_21 : decode cX12_write 21 = .ok (.if_icmp .ne 6, 3) := by decide +kernel
theorem dX12_write_24 : decode cX12_write 24 = .ok (.bipush (-4), 2) := by decide +kernel
theorem dX12_write_26 : decode cX12_write 26 = .ok (.ireturn, 1) := by decide +kernel
theorem dX12_write_27 : decode cX12_write 27 = .ok (.aload_n 0, 1) := by decide +kernel
theorem dX12_write_28 : decode cX12_write 28 = .ok (.getfield 37, 3) := by decide +kernel
theorem dX12_write_31 : decode cX12_write 31 = .ok (.aload_n 0, 1) := by decide +kernel
theorem dX12_write_32 : decode cX12_write 32 = .ok (.getfield 68, 3) := by decide +kernel
theorem dX12_write_35 : decode cX12_write 35 = .ok (.iload_n 1, 1) := by decide +kernel
theorem dX12_write_36 : decode cX12_write 36 = .ok (.iastore, 1) := by decide +kernel
theorem dX12_write_37 : decode cX12_write 37 = .ok (.aload_n 0, 1) := by decide +kernel
theorem dX12_write_38 : decode cX12_write 38 = .ok (.dup, 1) := by decide +kernel
theorem dX12_write_39 : decode cX12_write 39 = .ok (.getfield 68, 3) := by decide +kernel
theorem dX12_write_42 : decode cX12_write 42 = .ok (.iconst 1, 1) := by decide +kernel
theorem dX12_write_43 : decode cX12_write 43 = .ok (.iadd, 1) := by decide +kernel
theorem dX12_write_44 : decode cX12_write 44 = .ok (.putfield 68, 3) := by decide +kernel
theorem dX12_write_47 : decode cX12_write 47 = .ok (.aload_n 0, 1) := by decide +kernel
theorem dX12_write_48 : decode cX12_write 48 = .ok (.getfield 68, 3) := by decide +kernel
theorem dX12_write_51 : decode cX12_write 51 = .ok (.ireturn, 1) := by decide +kernel
theorem dX12_wipe_0 : decode cX12_wipe 0 = .ok (.aload_n 0, 1) := by decide +kernel
theorem dX12_wipe_1 : decode cX12_wipe 1 = .ok (.getfield 68, 3) := by decide +kernel
theorem dX12_wipe_4 : decode cX12_wipe 4 = .ok (.istore_n 1, 1) := by decide +kernel
theorem dX12_wipe_5 : decode cX12_wipe 5 = .ok (.aload_n 0, 1) := by decide +kernel
theorem dX12_wipe_6 : decode cX12_wipe 6 = .ok (.iconst 0, 1) := by decide +kernel
theorem dX12_wipe_7 : decode cX12_wipe 7 = .ok (.putfield 68, 3) := by decide +kernel
theorem dX12_wipe_10 : decode cX12_wipe 10 = .ok (.iload_n 1, 1) := by decide +kernel
theorem dX12_wipe_11 : decode cX12_wipe 11 = .ok (.ireturn, 1) := by decide +kernel
set_option maxRecDepth 20000 in
theorem ggX12_figure_X12_in : GoodIn wsX12_figure wsX12_in := goodIn_r _ [8] (by decide +kernel) (by decide +kernel)
set_option maxRecDepth 20000 in
theorem gX12_figure_X12_in : GoodIn wsX12_figure (va_wsS RX12 64 yX12_in wsX12_in) := goodIn_app (goodIn_of _ (by decide +kernel)) ggX12_figure_X12_in
theorem dX12_figure_0 : decode cX12_figure 0 = .ok (.aload_n 0, 1) := by decide +kernel
theorem dX12_figure_1 : decode cX12_figure 1 = .ok (.getfield 72, 3) := by decide +kernel
theorem dX12_figure_4 : decode cX12_figure 4 = .ok (.bipush (-9), 2) := by decide +kernel
theorem dX12_figure_6 : decode cX12_figure 6 = .ok (.if_icmp .ne 29, 3) := by decide +kernel
theorem dX12_figure_9 : decode cX12_figure 9 = .ok (.aload_n 0, 1) := by decide +kernel
theorem dX12_figure_10 : decode cX12_figure 10 = .ok (.getfield 75, 3) := by decide +kernel
theorem dX12_figure_13 : decode cX12_figure 13 = .ok (.aload_n 0, 1) := by decide +kernel
theorem dX12_figure_14 : decode cX12_figure 14 = .ok (.getfield 68, 3) := by decide +kernel
theorem dX12_figure_17 : decode cX12_figure 17 = .ok (.if_icmp .ge 18, 3) := by decide +kernel
theorem dX12_figure_20 : decode cX12_figure 20 = .ok (.aload_n 0, 1) := by decide +kernel
theorem dX12_figure_21 : decode cX12_figure 21 = .ok (.getfield 37, 3) := by decide +kernel
theorem dX12_figure_24 : decode cX12_figure 24 = .ok (.aload_n 0, 1) := by decide +kernel
theorem dX12_figure_25 : decode cX12_figure 25 = .ok (.getfield 75, 3) := by decide +kernel
theorem dX12_figure_28 : decode cX12_figure 28 = .ok (.iaload, 1) := by decide +kernel
theorem dX12_figure_29 : decode cX12_figure 29 = .ok (.bipush 48, 2) := by decide +kernel
theorem dX12_figure_31 : decode cX12_figure 31 = .ok (.isub, 1) := by decide +kernel
theorem dX12_figure_32 : decode cX12_figure 32 = .ok (.goto 5, 3) := by decide +kernel
theorem dX12_figure_35 : decode cX12_figure 35 = .ok (.bipush (-9), 2) := by decide +kernel
theorem dX12_figure_37 : decode cX12_figure 37 = .ok (.istore_n 3, 1) := by decide +kernel
theorem dX12_figure_38 : decode cX12_figure 38 = .ok (.iload_n 3, 1) := by decide +kernel
theorem dX12_figure_39 : decode cX12_figure 39 = .ok (.i2l, 1) := by decide +kernel
theorem dX12_figure_40 : decode cX12_figure 40 = .ok (.iload_n 1, 1) := by decide +kernel
theorem dX12_figure_41 : decode cX12_figure 41 = .ok (.i2l, 1) := by decide +kernel
theorem dX12_figure_42 : decode cX12_figure 42 = .ok (.iload_n 2, 1) := by decide +kernel
theorem dX12_figure_43 : decode cX12_figure 43 = .ok (.i2l, 1) := by decide +kernel
theorem dX12_figure_44 : decode cX12_figure 44 = .ok (.invokestatic 64, 3) := by decide +kernel
theorem dX12_figure_47 : decode cX12_figure 47 = .ok (.ifCond .ne 29, 3) := by decide +kernel
theorem dX12_figure_50 : decode cX12_figure 50 = .ok (.aload_n 0, 1) := by decide +kernel
theorem dX12_figure_51 : decode cX12_figure 51 = .ok (.aload_n 0, 1) := by decide +kernel
theorem dX12_figure_52 : decode cX12_figure 52 = .ok (.getfield 72, 3) := by decide +kernel
theorem dX12_figure_55 : decode cX12_figure 55 = .ok (.bipush (-9), 2) := by decide +kernel
theorem dX12_figure_57 : decode cX12_figure 57 = .ok (.if_icmp .ne 10, 3) := by decide +kernel
theorem dX12_figure_60 : decode cX12_figure 60 = .ok (.aload_n 0, 1) := by decide +kernel
theorem dX12_figure_61 : decode cX12_figure 61 = .ok (.getfield 75, 3) := by decide +kernel
theorem dX12_figure_64 : decode cX12_figure 64 = .ok (.goto 7, 3) := by decide +kernel
theorem dX12_figure_67 : decode cX12_figure 67 = .ok (.aload_n 0, 1) := by decide +kernel
theorem dX12_figure_68 : decode cX12_figure 68 = .ok (.getfield 72, 3) := by decide +kernel
theorem dX12_figure_71 : decode cX12_figure 71 = .ok (.putfield 72, 3) := by decide +kernel
theorem dX12_figure_74 : decode cX12_figure 74 = .ok (.iload_n 1, 1) := by decide +kernel
theorem dX12_figure_75 : decode cX12_figure 75 = .ok (.ireturn, 1) := by decide +kernel
theorem dX12_figure_76 : decode cX12_figure 76 = .ok (.aload_n 0, 1) := by decide +kernel
theorem dX12_figure_77 : decode cX12_figure 77 = .ok (.dup, 1) := by decide +kernel
theorem dX12_figure_78 : decode cX12_figure 78 = .ok (.getfield 75, 3) := by decide +kernel
theorem dX12_figure_81 : decode cX12_figure 81 = .ok (.iconst 1, 1) := by decide +kernel
theorem dX12_figure_82 : decode cX12_figure 82 = .ok (.iadd, 1) := by decide +kernel
theorem dX12_figure_83 : decode cX12_figure 83 = .ok (.putfield 75, 3) := by decide +kernel
theorem dX12_figure_86 : decode cX12_figure 86 = .ok (.iload_n 3, 1) := by decide +kernel
theorem dX12_figure_87 : decode cX12_figure 87 = .ok (.ireturn, 1) := by decide +kernel
set_option maxRecDepth 20000 in
theorem ggX12_readText_X12_readPart : GoodIn wsX12_readText wsX12_readPart := goodIn_r _ [12, 3, 1, 13, 4, 14, 5, 15, 2, 16, 17, 18, 11, 19, 6, 7, 20, 21, 22, 23, 24, 25, 26, 27, 28, 29, 30, 31, 32, 33, 34, 35, 36, 37, 38, 39, 40, 41, 42, 43, 44, 45, 46, 47, 48, 49, 50, 51, 52] (by decide +kernel) (by decide +kernel)
set_option maxRecDepth 20000 in
theorem gX12_readText_X12_readPart : GoodIn wsX12_readText (wsV RX12 87 RX12 yX12_readPart wsX12_readPart) := goodIn_app (goodIn_of _ (by decide +kernel)) ggX12_readText_X12_readPart
theorem dX12_readText_0 : decode cX12_readText 0 = .ok (.aload_n 0, 1) := by decide +kernel
theorem dX12_readText_1 : decode cX12_readText 1 = .ok (.iconst 0, 1) := by decide +kernel
theorem dX12_readText_2 : decode cX12_readText 2 = .ok (.putfield 75, 3) := by decide +kernel
theorem dX12_readText_5 : decode cX12_readText 5 = .ok (.aload_n 0, 1) := by decide +kernel
theorem dX12_readText_6 : decode cX12_readText 6 = .ok (.bipush (-9), 2) := by decide +kernel
theorem dX12_readText_8 : decode cX12_readText 8 = .ok (.putfield 72, 3) := by decide +kernel
theorem dX12_readText_11 : decode cX12_readText 11 = .ok (.aload_n 0, 1) := by decide +kernel
theorem dX12_readText_12 : decode cX12_readText 12 = .ok (.iconst 0, 1) := by decide +kernel
theorem dX12_readText_13 : decode cX12_readText 13 = .ok (.putfield 78, 3) := by decide +kernel
theorem dX12_readText_16 : decode cX12_readText 16 = .ok (.aload_n 0, 1) := by decide +kernel
theorem dX12_readText_17 : decode cX12_readText 17 = .ok (.iconst 0, 1) := by decide +kernel
theorem dX12_readText_18 : decode cX12_readText 18 = .ok (.putfield 81, 3) := by decide +kernel
theorem dX12_readText_21 : decode cX12_readText 21 = .ok (.aload_n 0, 1) := by decide +kernel
theorem dX12_readText_22 : decode cX12_readText 22 = .ok (.iconst 0, 1) := by decide +kernel
theorem dX12_readText_23 : decode cX12_readText 23 = .ok (.putfield 84, 3) := by decide +kernel
theorem dX12_readText_26 : decode cX12_readText 26 = .ok (.aload_n 0, 1) := by decide +kernel
theorem dX12_readText_27 : decode cX12_readText 27 = .ok (.getfield 68, 3) := by decide +kernel
theorem dX12_readText_30 : decode cX12_readText 30 = .ok (.ifCond .eq 14, 3) := by decide +kernel
theorem dX12_readText_33 : decode cX12_readText 33 = .ok (.aload_n 0, 1) := by decide +kernel
theorem dX12_readText_34 : decode cX12_readText 34 = .ok (.getfield 37, 3) := by decide +kernel
theorem dX12_readText_37 : decode cX12_readText 37 = .ok (.iconst 0, 1) := by decide +kernel
theorem dX12_readText_38 : decode cX12_readText 38 = .ok (.iaload, 1) := by decide +kernel
theorem dX12_readText_39 : decode cX12_readText 39 = .ok (.bipush 87, 2) := by decide +kernel
theorem dX12_readText_41 : decode cX12_readText 41 = .ok (.if_icmp .eq 5, 3) := by decide +kernel
theorem dX12_readText_44 : decode cX12_readText 44 = .ok (.iconst 0, 1) := by decide +kernel
theorem dX12_readText_45 : decode cX12_readText 45 = .ok (.ireturn, 1) := by decide +kernel
theorem dX12_readText_46 : decode cX12_readText 46 = .ok (.aload_n 0, 1) := by decide +kernel
theorem dX12_readText_47 : decode cX12_readText 47 = .ok (.iconst 1, 1) := by decide +kernel
theorem dX12_readText_48 : decode cX12_readText 48 = .ok (.putfield 75, 3) := by decide +kernel
theorem dX12_readText_51 : decode cX12_readText 51 = .ok (.aload_n 0, 1) := by decide +kernel
theorem dX12_readText_52 : decode cX12_readText 52 = .ok (.getfield 72, 3) := by decide +kernel
theorem dX12_readText_55 : decode cX12_readText 55 = .ok (.bipush (-9), 2) := by decide +kernel
theorem dX12_readText_57 : decode cX12_readText 57 = .ok (.if_icmp .ne 30, 3) := by decide +kernel
theorem dX12_readText_60 : decode cX12_readText 60 = .ok (.aload_n 0, 1) := by decide +kernel
theorem dX12_readText_61 : decode cX12_readText 61 = .ok (.getfield 75, 3) := by decide +kernel
theorem dX12_readText_64 : decode cX12_readText 64 = .ok (.aload_n 0, 1) := by decide +kernel
theorem dX12_readText_65 : decode cX12_readText 65 = .ok (.getfield 68, 3) := by decide +kernel
theorem dX12_readText_68 : decode cX12_readText 68 = .ok (.if_icmp .ge 19, 3) := by decide +kernel
theorem dX12_readText_71 : decode cX12_readText 71 = .ok (.aload_n 0, 1) := by decide +kernel
theorem dX12_readText_72 : decode cX12_readText 72 = .ok (.aload_n 0, 1) := by decide +kernel
theorem dX12_readText_73 : decode cX12_readText 73 = .ok (.getfield 37, 3) := by decide +kernel
theorem dX12_readText_76 : decode cX12_readText 76 = .ok (.aload_n 0, 1) := by decide +kernel
theorem dX12_readText_77 : decode cX12_readText 77 = .ok (.getfield 75, 3) := by decide +kernel
theorem dX12_readText_80 : decode cX12_readText 80 = .ok (.iaload, 1) := by decide +kernel
theorem dX12_readText_81 : decode cX12_readText 81 = .ok (.invokevirtual 87, 3) := by decide +kernel
theorem dX12_readText_84 : decode cX12_readText 84 = .ok (.goto (-33), 3) := by decide +kernel
theorem dX12_readText_87 : decode cX12_readText 87 = .ok (.aload_n 0, 1) := by decide +kernel
theorem dX12_readText_88 : decode cX12_readText 88 = .ok (.getfield 72, 3) := by decide +kernel
theorem dX12_readText_91 : decode cX12_readText 91 = .ok (.ireturn, 1) := by decide +kernel
set_option maxRecDepth 20000 in
theorem ggX12_readPart_X12_figure : GoodIn wsX12_readPart wsX12_figure := goodIn_r _ [13, 8, 2, 14, 15, 16, 17, 12, 18, 19, 20, 21, 22, 23, 24, 25, 26, 27, 28, 29, 30, 31, 32, 33, 34, 35, 36, 37, 38, 39, 40, 41, 42, 43, 44, 45, 46, 47, 48] (by decide +kernel) (by decide +kernel)
set_option maxRecDepth 20000 in
theorem gX12_readPart_X12_figure : GoodIn wsX12_readPart (wsV RX12 91 RX12 yX12_figure wsX12_figure) := goodIn_app (goodIn_of _ (by decide +kernel)) ggX12_readPart_X12_figure
theorem dX12_readPart_0 : decode cX12_readPart 0 = .ok (.iload_n 1, 1) := by decide +kernel
theorem dX12_readPart_1 : decode cX12_readPart 1 = .ok (.bipush 80, 2) := by decide +kernel
theorem dX12_readPart_3 : decode cX12_readPart 3 = .ok (.if_icmp .ne 49, 3) := by decide +kernel
theorem dX12_readPart_6 : decode cX12_readPart 6 = .ok (.aload_n 0, 1) := by decide +kernel
theorem dX12_readPart_7 : decode cX12_readPart 7 = .ok (.getfield 78, 3) := by decide +kernel
theorem dX12_readPart_10 : decode cX12_readPart 10 = .ok (.iconst 4, 1) := by decide +kernel
theorem dX12_readPart_11 : decode cX12_readPart 11 = .ok (.if_icmp .ge 41, 3) := by decide +kernel
theorem dX12_readPart_14 : decode cX12_readPart 14 = .ok (.aload_n 0, 1) := by decide +kernel
theorem dX12_readPart_15 : decode cX12_readPart 15 = .ok (.dup, 1) := by decide +kernel
theorem dX12_readPart_16 : decode cX12_readPart 16 = .ok (.getfield 75, 3) := by decide +kernel
theorem dX12_readPart_19 : decode cX12_readPart 19 = .ok (.iconst 1, 1) := by decide +kernel
theorem dX12_readPart_20 : decode cX12_readPart 20 = .ok (.iadd, 1) := by decide +kernel
theorem dX12_readPart_21 : decode cX12_readPart 21 = .ok (.putfield 75, 3) := by decide +kernel
theorem dX12_readPart_24 : decode cX12_readPart 24 = .ok (.aload_n 0, 1) := by decide +kernel
theorem dX12_readPart_25 : decode cX12_readPart 25 = .ok (.getfield 28, 3) := by decide +kernel
theorem dX12_readPart_28 : decode cX12_readPart 28 = .ok (.aload_n 0, 1) := by decide +kernel
theorem dX12_readPart_29 : decode cX12_readPart 29 = .ok (.getfield 78, 3) := by decide +kernel
theorem dX12_readPart_32 : decode cX12_readPart 32 = .ok (.aload_n 0, 1) := by decide +kernel
theorem dX12_readPart_33 : decode cX12_readPart 33 = .ok (.iconst 0, 1) := by decide +kernel
theorem dX12_readPart_34 : decode cX12_readPart 34 = .ok (.iconst 3, 1) := by decide +kernel
theorem dX12_readPart_35 : decode cX12_readPart 35 = .ok (.invokevirtual 91, 3) := by decide +kernel
theorem dX12_readPart_38 : decode cX12_readPart 38 = .ok (.iastore, 1) := by decide +kernel
theorem dX12_readPart_39 : decode cX12_readPart 39 = .ok (.aload_n 0, 1) := by decide +kernel
theorem dX12_readPart_40 : decode cX12_readPart 40 = .ok (.dup, 1) := by decide +kernel
theorem dX12_readPart_41 : decode cX12_readPart 41 = .ok (.getfield 78, 3) := by decide +kernel
theorem dX12_readPart_44 : decode cX12_readPart 44 = .ok (.iconst 1, 1) := by decide +kernel
theorem dX12_readPart_45 : decode cX12_readPart 45 = .ok (.iadd, 1) := by decide +kernel
theorem dX12_readPart_46 : decode cX12_readPart 46 = .ok (.putfield 78, 3) := by decide +kernel
theorem dX12_readPart_49 : decode cX12_readPart 49 = .ok (.goto 182, 3) := by decide +kernel
theorem dX12_readPart_52 : decode cX12_readPart 52 = .ok (.iload_n 1, 1) := by decide +kernel
theorem dX12_readPart_53 : decode cX12_readPart 53 = .ok (.bipush 72, 2) := by decide +kernel
theorem dX12_readPart_55 : decode cX12_readPart 55 = .ok (.if_icmp .ne 51, 3) := by decide +kernel
theorem dX12_readPart_58 : decode cX12_readPart 58 = .ok (.aload_n 0, 1) := by decide +kernel
theorem dX12_readPart_59 : decode cX12_readPart 59 = .ok (.getfield 81, 3) := by decide +kernel
theorem dX12_readPart_62 : decode cX12_readPart 62 = .ok (.bipush 6, 2) := by decide +kernel
theorem dX12_readPart_64 : decode cX12_readPart 64 = .ok (.if_icmp .ge 42, 3) := by decide +kernel
theorem dX12_readPart_67 : decode cX12_readPart 67 = .ok (.aload_n 0, 1) := by decide +kernel
theorem dX12_readPart_68 : decode cX12_readPart 68 = .ok (.dup, 1) := by decide +kernel
theorem dX12_readPart_69 : decode cX12_readPart 69 = .ok (.getfield 75, 3) := by decide +kernel
theorem dX12_readPart_72 : decode cX12_readPart 72 = .ok (.iconst 1, 1) := by decide +kernel
theorem dX12_readPart_73 : decode cX12_readPart 73 = .ok (.iadd, 1) := by decide +kernel
theorem dX12_readPart_74 : decode cX12_readPart 74 = .ok (.putfield 75, 3) := by decide +kernel
theorem dX12_readPart_77 : decode cX12_readPart 77 = .ok (.aload_n 0, 1) := by decide +kernel
theorem dX12_readPart_78 : decode cX12_readPart 78 = .ok (.getfield 31, 3) := by decide +kernel
theorem dX12_readPart_81 : decode cX12_readPart 81 = .ok (.aload_n 0, 1) := by decide +kernel
theorem dX12_readPart_82 : decode cX12_readPart 82 = .ok (.getfield 81, 3) := by decide +kernel
theorem dX12_readPart_85 : decode cX12_readPart 85 = .ok (.aload_n 0, 1) := by decide +kernel
theorem dX12_readPart_86 : decode cX12_readPart 86 = .ok (.iconst 0, 1) := by decide +kernel
theorem dX12_readPart_87 : decode cX12_readPart 87 = .ok (.bipush 9, 2) := by decide +kernel
theorem dX12_readPart_89 : decode cX12_readPart 89 = .ok (.invokevirtual 91, 3) := by decide +kernel
theorem dX12_readPart_92 : decode cX12_readPart 92 = .ok (.iastore, 1) := by decide +kernel
theorem dX12_readPart_93 : decode cX12_readPart 93 = .ok (.aload_n 0, 1) := by decide +kernel
theorem dX12_readPart_94 : decode cX12_readPart 94 = .ok (.dup, 1) := by decide +kernel
theorem dX12_readPart_95 : decode cX12_readPart 95 = .ok (.getfield 81, 3) := by decide +kernel
theorem dX12_readPart_98 : decode cX12_readPart 98 = .ok (.iconst 1, 1) := by decide +kernel
theorem dX12_readPart_99 : decode cX12_readPart 99 = .ok (.iadd, 1) := by decide +kernel
theorem dX12_readPart_100 : decode cX12_readPart 100 = .ok (.putfield 81, 3) := by decide +kernel
theorem dX12_readPart_103 : decode cX12_readPart 103 = .ok (.goto 128, 3) := by decide +kernel
theorem dX12_readPart_106 : decode cX12_readPart 106 = .ok (.iload_n 1, 1) := by decide +kernel
theorem dX12_readPart_107 : decode cX12_readPart 107 = .ok (.bipush 71, 2) := by decide +kernel
theorem dX12_readPart_109 : decode cX12_readPart 109 = .ok (.if_icmp .ne 114, 3) := by decide +kernel
theorem dX12_readPart_112 : decode cX12_readPart 112 = .ok (.aload_n 0, 1) := by decide +kernel
theorem dX12_readPart_113 : decode cX12_readPart 113 = .ok (.getfield 84, 3) := by decide +kernel
theorem dX12_readPart_116 : decode cX12_readPart 116 = .ok (.bipush 7, 2) := by decide +kernel
theorem dX12_readPart_118 : decode cX12_readPart 118 = .ok (.if_icmp .ge 105, 3) := by decide +kernel
theorem dX12_readPart_121 : decode cX12_readPart 121 = .ok (.aload_n 0, 1) := by decide +kernel
theorem dX12_readPart_122 : decode cX12_readPart 122 = .ok (.getfield 78, 3) := by decide +kernel
theorem dX12_readPart_125 : decode cX12_readPart 125 = .ok (.ifCond .le 98, 3) := by decide +kernel
theorem dX12_readPart_128 : decode cX12_readPart 128 = .ok (.aload_n 0, 1) := by decide +kernel
theorem dX12_readPart_129 : decode cX12_readPart 129 = .ok (.dup, 1) := by decide +kernel
theorem dX12_readPart_130 : decode cX12_readPart 130 = .ok (.getfield 75, 3) := by decide +kernel
theorem dX12_readPart_133 : decode cX12_readPart 133 = .ok (.iconst 1, 1) := by decide +kernel
theorem dX12_readPart_134 : decode cX12_readPart 134 = .ok (.iadd, 1) := by decide +kernel
theorem dX12_readPart_135 : decode cX12_readPart 135 = .ok (.putfield 75, 3) := by decide +kernel
theorem dX12_readPart_138 : decode cX12_readPart 138 = .ok (.iconst 4, 1) := by decide +kernel
theorem dX12_readPart_139 : decode cX12_readPart 139 = .ok (.aload_n 0, 1) := by decide +kernel
theorem dX12_readPart_140 : decode cX12_readPart 140 = .ok (.getfield 84, 3) := by decide +kernel
theorem dX12_readPart_143 : decode cX12_readPart 143 = .ok (.imul, 1) := by decide +kernel
theorem dX12_readPart_144 : decode cX12_readPart 144 = .ok (.istore_n 2, 1) := by decide +kernel
theorem dX12_readPart_145 : decode cX12_readPart 145 = .ok (.aload_n 0, 1) := by decide +kernel
theorem dX12_readPart_146 : decode cX12_readPart 146 = .ok (.getfield 34, 3) := by decide +kernel
theorem dX12_readPart_149 : decode cX12_readPart 149 = .ok (.iload_n 2, 1) := by decide +kernel
theorem dX12_readPart_150 : decode cX12_readPart 150 = .ok (.aload_n 0, 1) := by decide +kernel
theorem dX12_readPart_151 : decode cX12_readPart 151 = .ok (.iconst 1, 1) := by decide +kernel
theorem dX12_readPart_152 : decode cX12_readPart 152 = .ok (.bipush 9, 2) := by decide +kernel
theorem dX12_readPart_154 : decode cX12_readPart 154 = .ok (.invokevirtual 91, 3) := by decide +kernel
theorem dX12_readPart_157 : decode cX12_readPart 157 = .ok (.iastore, 1) := by decide +kernel
theorem dX12_readPart_158 : decode cX12_readPart 158 = .ok (.aload_n 0, 1) := by decide +kernel
theorem dX12_readPart_159 : decode cX12_readPart 159 = .ok (.getfield 34, 3) := by decide +kernel
theorem dX12_readPart_162 : decode cX12_readPart 162 = .ok (.iload_n 2, 1) := by decide +kernel
theorem dX12_readPart_163 : decode cX12_readPart 163 = .ok (.iconst 1, 1) := by decide +kernel
theorem dX12_readPart_164 : decode cX12_readPart 164 = .ok (.iadd, 1) := by decide +kernel
theorem dX12_readPart_165 : decode cX12_readPart 165 = .ok (.aload_n 0, 1) := by decide +kernel
theorem dX12_readPart_166 : decode cX12_readPart 166 = .ok (.iconst 0, 1) := by decide +kernel
theorem dX12_readPart_167 : decode cX12_readPart 167 = .ok (.iconst 3, 1) := by decide +kernel
theorem dX12_readPart_168 : decode cX12_readPart 168 = .ok (.invokevirtual 91, 3) := by decide +kernel
theorem dX12_readPart_171 : decode cX12_readPart 171 = .ok (.iastore, 1) := by decide +kernel
theorem dX12_readPart_172 : decode cX12_readPart 172 = .ok (.aload_n 0, 1) := by decide +kernel
theorem dX12_readPart_173 : decode cX12_readPart 173 = .ok (.getfield 34, 3) := by decide +kernel
theorem dX12_readPart_176 : decode cX12_readPart 176 = .ok (.iload_n 2, 1) := by decide +kernel
theorem dX12_readPart_177 : decode cX12_readPart 177 = .ok (.iconst 2, 1) := by decide +kernel
theorem dX12_readPart_178 : decode cX12_readPart 178 = .ok (.iadd, 1) := by decide +kernel
theorem dX12_readPart_179 : decode cX12_readPart 179 = .ok (.aload_n 0, 1) := by decide +kernel
theorem dX12_readPart_180 : decode cX12_readPart 180 = .ok (.iconst 0, 1) := by decide +kernel
theorem dX12_readPart_181 : decode cX12_readPart 181 = .ok (.aload_n 0, 1) := by decide +kernel
theorem dX12_readPart_182 : decode cX12_readPart 182 = .ok (.getfield 78, 3) := by decide +kernel
theorem dX12_readPart_185 : decode cX12_readPart 185 = .ok (.iconst 1, 1) := by decide +kernel
theorem dX12_readPart_186 : decode cX12_readPart 186 = .ok (.isub, 1) := by decide +kernel
theorem dX12_readPart_187 : decode cX12_readPart 187 = .ok (.invokevirtual 91, 3) := by decide +kernel
theorem dX12_readPart_190 : decode cX12_readPart 190 = .ok (.iastore, 1) := by decide +kernel
theorem dX12_readPart_191 : decode cX12_readPart 191 = .ok (.aload_n 0, 1) := by decide +kernel
theorem dX12_readPart_192 : decode cX12_readPart 192 = .ok (.getfield 34, 3) := by decide +kernel
theorem dX12_readPart_195 : decode cX12_readPart 195 = .ok (.iload_n 2, 1) := by decide +kernel
theorem dX12_readPart_196 : decode cX12_readPart 196 = .ok (.iconst 3, 1) := by decide +kernel
theorem dX12_readPart_197 : decode cX12_readPart 197 = .ok (.iadd, 1) := by decide +kernel
theorem dX12_readPart_198 : decode cX12_readPart 198 = .ok (.aload_n 0, 1) := by decide +kernel
theorem dX12_readPart_199 : decode cX12_readPart 199 = .ok (.iconst 0, 1) := by decide +kernel
theorem dX12_readPart_200 : decode cX12_readPart 200 = .ok (.aload_n 0, 1) := by decide +kernel
theorem dX12_readPart_201 : decode cX12_readPart 201 = .ok (.getfield 78, 3) := by decide +kernel
theorem dX12_readPart_204 : decode cX12_readPart 204 = .ok (.iconst 1, 1) := by decide +kernel
theorem dX12_readPart_205 : decode cX12_readPart 205 = .ok (.isub, 1) := by decide +kernel
theorem dX12_readPart_206 : decode cX12_readPart 206 = .ok (.invokevirtual 91, 3) := by decide +kernel
theorem dX12_readPart_209 : decode cX12_readPart 209 = .ok (.iastore, 1) := by decide +kernel
theorem dX12_readPart_210 : decode cX12_readPart 210 = .ok (.aload_n 0, 1) := by decide +kernel
theorem dX12_readPart_211 : decode cX12_readPart 211 = .ok (.dup, 1) := by decide +kernel
theorem dX12_readPart_212 : decode cX12_readPart 212 = .ok (.getfield 84, 3) := by decide +kernel
theorem dX12_readPart_215 : decode cX12_readPart 215 = .ok (.iconst 1, 1) := by decide +kernel
theorem dX12_readPart_216 : decode cX12_readPart 216 = .ok (.iadd, 1) := by decide +kernel
theorem dX12_readPart_217 : decode cX12_readPart 217 = .ok (.putfield 84, 3) := by decide +kernel
theorem dX12_readPart_220 : decode cX12_readPart 220 = .ok (.goto 11, 3) := by decide +kernel
theorem dX12_readPart_223 : decode cX12_readPart 223 = .ok (.aload_n 0, 1) := by decide +kernel
theorem dX12_readPart_224 : decode cX12_readPart 224 = .ok (.aload_n 0, 1) := by decide +kernel
theorem dX12_readPart_225 : decode cX12_readPart 225 = .ok (.getfield 75, 3) := by decide +kernel
theorem dX12_readPart_228 : decode cX12_readPart 228 = .ok (.putfield 72, 3) := by decide +kernel
theorem dX12_readPart_231 : decode cX12_readPart 231 = .ok (.return_, 1) := by decide +kernel
set_option maxRecDepth 20000 in
theorem ggX12_fault_X12_readText : GoodIn wsX12_fault wsX12_readText := goodIn_r _ [5, 6, 7, 8, 9, 10, 11, 12, 13, 14, 15, 4, 16, 17, 18, 19, 20, 21, 22, 23, 24, 25, 26, 27, 28, 29, 30, 31, 32, 33, 34, 35, 36, 37, 38, 39, 40, 41, 42, 43, 44, 45, 46, 47, 48, 49, 50, 51, 52, 53, 54, 55, 56] (by decide +kernel) (by decide +kernel)
set_option maxRecDepth 20000 in
theorem gX12_fault_X12_readText : GoodIn wsX12_fault (wsV RX12 95 RX12 yX12_readText wsX12_readText) := goodIn_app (goodIn_of _ (by decide +kernel)) ggX12_fault_X12_readText
theorem dX12_fault_0 : decode cX12_fault 0 = .ok (.aload_n 0, 1) := by decide +kernel
theorem dX12_fault_1 : decode cX12_fault 1 = .ok (.invokevirtual 95, 3) := by decide +kernel
theorem dX12_fault_4 : decode cX12_fault 4 = .ok (.ireturn, 1) := by decide +kernel
set_option maxRecDepth 20000 in
theorem ggX12_floor_X12_readText : GoodIn wsX12_floor wsX12_readText := goodIn_r _ [22, 23, 24, 1, 3, 5, 25, 26, 27, 28, 29, 21, 30, 8, 10, 13, 31, 32, 33, 34, 35, 36, 37, 38, 39, 40, 41, 42, 43, 44, 45, 46, 47, 48, 49, 50, 51, 52, 53, 54, 55, 56, 57, 58, 59, 60, 61, 62, 63, 64, 65, 66, 67] (by decide +kernel) (by decide +kernel)
set_option maxRecDepth 20000 in
theorem gX12_floor_X12_readText : GoodIn wsX12_floor (wsV RX12 95 RX12 yX12_readText wsX12_readText) := goodIn_app (goodIn_of _ (by decide +kernel)) ggX12_floor_X12_readText
theorem dX12_floor_0 : decode cX12_floor 0 = .ok (.aload_n 0, 1) := by decide +kernel
theorem dX12_floor_1 : decode cX12_floor 1 = .ok (.invokevirtual 95, 3) := by decide +kernel
theorem dX12_floor_4 : decode cX12_floor 4 = .ok (.bipush (-9), 2) := by decide +kernel
theorem dX12_floor_6 : decode cX12_floor 6 = .ok (.if_icmp .eq 6, 3) := by decide +kernel
theorem dX12_floor_9 : decode cX12_floor 9 = .ok (.bipush (-3), 2) := by decide +kernel
theorem dX12_floor_11 : decode cX12_floor 11 = .ok (.ireturn, 1) := by decide +kernel
theorem dX12_floor_12 : decode cX12_floor 12 = .ok (.aload_n 0, 1) := by decide +kernel
theorem dX12_floor_13 : decode cX12_floor 13 = .ok (.aload_n 0, 1) := by decide +kernel
theorem dX12_floor_14 : decode cX12_floor 14 = .ok (.getfield 78, 3) := by decide +kernel
theorem dX12_floor_17 : decode cX12_floor 17 = .ok (.putfield 99, 3) := by decide +kernel
theorem dX12_floor_20 : decode cX12_floor 20 = .ok (.aload_n 0, 1) := by decide +kernel
theorem dX12_floor_21 : decode cX12_floor 21 = .ok (.aload_n 0, 1) := by decide +kernel
theorem dX12_floor_22 : decode cX12_floor 22 = .ok (.getfield 81, 3) := by decide +kernel
theorem dX12_floor_25 : decode cX12_floor 25 = .ok (.putfield 102, 3) := by decide +kernel
theorem dX12_floor_28 : decode cX12_floor 28 = .ok (.aload_n 0, 1) := by decide +kernel
theorem dX12_floor_29 : decode cX12_floor 29 = .ok (.aload_n 0, 1) := by decide +kernel
theorem dX12_floor_30 : decode cX12_floor 30 = .ok (.getfield 84, 3) := by decide +kernel
theorem dX12_floor_33 : decode cX12_floor 33 = .ok (.putfield 105, 3) := by decide +kernel
theorem dX12_floor_36 : decode cX12_floor 36 = .ok (.iconst 0, 1) := by decide +kernel
theorem dX12_floor_37 : decode cX12_floor 37 = .ok (.istore_n 1, 1) := by decide +kernel
theorem dX12_floor_38 : decode cX12_floor 38 = .ok (.iload_n 1, 1) := by decide +kernel
theorem dX12_floor_39 : decode cX12_floor 39 = .ok (.aload_n 0, 1) := by decide +kernel
theorem dX12_floor_40 : decode cX12_floor 40 = .ok (.getfield 99, 3) := by decide +kernel
theorem dX12_floor_43 : decode cX12_floor 43 = .ok (.if_icmp .ge 21, 3) := by decide +kernel
theorem dX12_floor_46 : decode cX12_floor 46 = .ok (.aload_n 0, 1) := by decide +kernel
theorem dX12_floor_47 : decode cX12_floor 47 = .ok (.getfield 7, 3) := by decide +kernel
theorem dX12_floor_50 : decode cX12_floor 50 = .ok (.iload_n 1, 1) := by decide +kernel
theorem dX12_floor_51 : decode cX12_floor 51 = .ok (.aload_n 0, 1) := by decide +kernel
theorem dX12_floor_52 : decode cX12_floor 52 = .ok (.getfield 28, 3) := by decide +kernel
theorem dX12_floor_55 : decode cX12_floor 55 = .ok (.iload_n 1, 1) := by decide +kernel
theorem dX12_floor_56 : decode cX12_floor 56 = .ok (.iaload, 1) := by decide +kernel
theorem dX12_floor_57 : decode cX12_floor 57 = .ok (.iastore, 1) := by decide +kernel
theorem dX12_floor_58 : decode cX12_floor 58 = .ok (.iinc 1 1, 3) := by decide +kernel
theorem dX12_floor_61 : decode cX12_floor 61 = .ok (.goto (-23), 3) := by decide +kernel
theorem dX12_floor_64 : decode cX12_floor 64 = .ok (.iconst 0, 1) := by decide +kernel
theorem dX12_floor_65 : decode cX12_floor 65 = .ok (.istore_n 1, 1) := by decide +kernel
theorem dX12_floor_66 : decode cX12_floor 66 = .ok (.iload_n 1, 1) := by decide +kernel
theorem dX12_floor_67 : decode cX12_floor 67 = .ok (.aload_n 0, 1) := by decide +kernel
theorem dX12_floor_68 : decode cX12_floor 68 = .ok (.getfield 102, 3) := by decide +kernel
theorem dX12_floor_71 : decode cX12_floor 71 = .ok (.if_icmp .ge 21, 3) := by decide +kernel
theorem dX12_floor_74 : decode cX12_floor 74 = .ok (.aload_n 0, 1) := by decide +kernel
theorem dX12_floor_75 : decode cX12_floor 75 = .ok (.getfield 13, 3) := by decide +kernel
theorem dX12_floor_78 : decode cX12_floor 78 = .ok (.iload_n 1, 1) := by decide +kernel
theorem dX12_floor_79 : decode cX12_floor 79 = .ok (.aload_n 0, 1) := by decide +kernel
theorem dX12_floor_80 : decode cX12_floor 80 = .ok (.getfield 31, 3) := by decide +kernel
theorem dX12_floor_83 : decode cX12_floor 83 = .ok (.iload_n 1, 1) := by decide +kernel
theorem dX12_floor_84 : decode cX12_floor 84 = .ok (.iaload, 1) := by decide +kernel
theorem dX12_floor_85 : decode cX12_floor 85 = .ok (.iastore, 1) := by decide +kernel
theorem dX12_floor_86 : decode cX12_floor 86 = .ok (.iinc 1 1, 3) := by decide +kernel
theorem dX12_floor_89 : decode cX12_floor 89 = .ok (.goto (-23), 3) := by decide +kernel
theorem dX12_floor_92 : decode cX12_floor 92 = .ok (.iconst 0, 1) := by decide +kernel
theorem dX12_floor_93 : decode cX12_floor 93 = .ok (.istore_n 1, 1) := by decide +kernel
theorem dX12_floor_94 : decode cX12_floor 94 = .ok (.iload_n 1, 1) := by decide +kernel
theorem dX12_floor_95 : decode cX12_floor 95 = .ok (.bipush 9, 2) := by decide +kernel
theorem dX12_floor_97 : decode cX12_floor 97 = .ok (.if_icmp .ge 16, 3) := by decide +kernel
theorem dX12_floor_100 : decode cX12_floor 100 = .ok (.aload_n 0, 1) := by decide +kernel
theorem dX12_floor_101 : decode cX12_floor 101 = .ok (.getfield 25, 3) := by decide +kernel
theorem dX12_floor_104 : decode cX12_floor 104 = .ok (.iload_n 1, 1) := by decide +kernel
theorem dX12_floor_105 : decode cX12_floor 105 = .ok (.iconst 0, 1) := by decide +kernel
theorem dX12_floor_106 : decode cX12_floor 106 = .ok (.iastore, 1) := by decide +kernel
theorem dX12_floor_107 : decode cX12_floor 107 = .ok (.iinc 1 1, 3) := by decide +kernel
theorem dX12_floor_110 : decode cX12_floor 110 = .ok (.goto (-16), 3) := by decide +kernel
theorem dX12_floor_113 : decode cX12_floor 113 = .ok (.iconst 0, 1) := by decide +kernel
theorem dX12_floor_114 : decode cX12_floor 114 = .ok (.istore_n 1, 1) := by decide +kernel
theorem dX12_floor_115 : decode cX12_floor 115 = .ok (.iload_n 1, 1) := by decide +kernel
