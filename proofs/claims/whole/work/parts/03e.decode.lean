theorem dX12_guiltBy_1 : decode cX12_guiltBy 1 = .ok (.invokevirtual 172, 3) := by decide +kernel
theorem dX12_guiltBy_4 : decode cX12_guiltBy 4 = .ok (.aload_n 0, 1) := by decide +kernel
theorem dX12_guiltBy_5 : decode cX12_guiltBy 5 = .ok (.getfield 25, 3) := by decide +kernel
theorem dX12_guiltBy_8 : decode cX12_guiltBy 8 = .ok (.bipush 16, 2) := by decide +kernel
theorem dX12_guiltBy_10 : decode cX12_guiltBy 10 = .ok (.iload_n 2, 1) := by decide +kernel
theorem dX12_guiltBy_11 : decode cX12_guiltBy 11 = .ok (.iastore, 1) := by decide +kernel
theorem dX12_guiltBy_12 : decode cX12_guiltBy 12 = .ok (.iconst 0, 1) := by decide +kernel
theorem dX12_guiltBy_13 : decode cX12_guiltBy 13 = .ok (.istore_n 3, 1) := by decide +kernel
theorem dX12_guiltBy_14 : decode cX12_guiltBy 14 = .ok (.iload_n 3, 1) := by decide +kernel
theorem dX12_guiltBy_15 : decode cX12_guiltBy 15 = .ok (.aload_n 0, 1) := by decide +kernel
theorem dX12_guiltBy_16 : decode cX12_guiltBy 16 = .ok (.getfield 99, 3) := by decide +kernel
theorem dX12_guiltBy_19 : decode cX12_guiltBy 19 = .ok (.if_icmp .ge 17, 3) := by decide +kernel
theorem dX12_guiltBy_22 : decode cX12_guiltBy 22 = .ok (.aload_n 0, 1) := by decide +kernel
theorem dX12_guiltBy_23 : decode cX12_guiltBy 23 = .ok (.iconst 1, 1) := by decide +kernel
theorem dX12_guiltBy_24 : decode cX12_guiltBy 24 = .ok (.iload_n 3, 1) := by decide +kernel
theorem dX12_guiltBy_25 : decode cX12_guiltBy 25 = .ok (.iconst 0, 1) := by decide +kernel
theorem dX12_guiltBy_26 : decode cX12_guiltBy 26 = .ok (.invokevirtual 166, 3) := by decide +kernel
theorem dX12_guiltBy_29 : decode cX12_guiltBy 29 = .ok (.pop, 1) := by decide +kernel
theorem dX12_guiltBy_30 : decode cX12_guiltBy 30 = .ok (.iinc 3 1, 3) := by decide +kernel
theorem dX12_guiltBy_33 : decode cX12_guiltBy 33 = .ok (.goto (-19), 3) := by decide +kernel
theorem dX12_guiltBy_36 : decode cX12_guiltBy 36 = .ok (.aload_n 0, 1) := by decide +kernel
theorem dX12_guiltBy_37 : decode cX12_guiltBy 37 = .ok (.iconst 1, 1) := by decide +kernel
theorem dX12_guiltBy_38 : decode cX12_guiltBy 38 = .ok (.iload_n 1, 1) := by decide +kernel
theorem dX12_guiltBy_39 : decode cX12_guiltBy 39 = .ok (.invokevirtual 141, 3) := by decide +kernel
theorem dX12_guiltBy_42 : decode cX12_guiltBy 42 = .ok (.ireturn, 1) := by decide +kernel
set_option maxRecDepth 20000 in
theorem ggX12_voteOf_X12_guiltBy : GoodIn wsX12_voteOf wsX12_guiltBy := goodIn_r _ [6, 7, 1, 8, 9, 10, 5, 11, 12, 13, 14, 15, 16, 17, 18, 19, 20, 21, 22, 23, 24, 25, 26, 27, 28, 29, 30, 31, 32, 33, 34, 35, 36, 37, 38, 39, 40, 41, 42, 43, 44, 45, 46, 47, 48, 49, 50, 51, 52, 53, 54, 55, 56, 57, 58, 59, 60, 61, 62, 63, 64, 65, 66, 67, 68, 69, 70, 71, 72, 73, 74, 75, 76, 77, 78, 79] (by decide +kernel) (by decide +kernel)
set_option maxRecDepth 20000 in
theorem gX12_voteOf_X12_guiltBy : GoodIn wsX12_voteOf (wsV RX12 189 RX12 yX12_guiltBy wsX12_guiltBy) := goodIn_app (goodIn_of _ (by decide +kernel)) ggX12_voteOf_X12_guiltBy
theorem dX12_voteOf_0 : decode cX12_voteOf 0 = .ok (.iconst 0, 1) := by decide +kernel
theorem dX12_voteOf_1 : decode cX12_voteOf 1 = .ok (.istore_n 2, 1) := by decide +kernel
theorem dX12_voteOf_2 : decode cX12_voteOf 2 = .ok (.iconst 1, 1) := by decide +kernel
theorem dX12_voteOf_3 : decode cX12_voteOf 3 = .ok (.istore_n 3, 1) := by decide +kernel
theorem dX12_voteOf_4 : decode cX12_voteOf 4 = .ok (.iload_n 3, 1) := by decide +kernel
theorem dX12_voteOf_5 : decode cX12_voteOf 5 = .ok (.aload_n 0, 1) := by decide +kernel
theorem dX12_voteOf_6 : decode cX12_voteOf 6 = .ok (.getfield 99, 3) := by decide +kernel
theorem dX12_voteOf_9 : decode cX12_voteOf 9 = .ok (.if_icmp .ge 30, 3) := by decide +kernel
theorem dX12_voteOf_12 : decode cX12_voteOf 12 = .ok (.aload_n 0, 1) := by decide +kernel
theorem dX12_voteOf_13 : decode cX12_voteOf 13 = .ok (.iload_n 1, 1) := by decide +kernel
theorem dX12_voteOf_14 : decode cX12_voteOf 14 = .ok (.iload_n 3, 1) := by decide +kernel
theorem dX12_voteOf_15 : decode cX12_voteOf 15 = .ok (.invokevirtual 189, 3) := by decide +kernel
theorem dX12_voteOf_18 : decode cX12_voteOf 18 = .ok (.aload_n 0, 1) := by decide +kernel
theorem dX12_voteOf_19 : decode cX12_voteOf 19 = .ok (.iload_n 1, 1) := by decide +kernel
theorem dX12_voteOf_20 : decode cX12_voteOf 20 = .ok (.iload_n 2, 1) := by decide +kernel
theorem dX12_voteOf_21 : decode cX12_voteOf 21 = .ok (.invokevirtual 189, 3) := by decide +kernel
theorem dX12_voteOf_24 : decode cX12_voteOf 24 = .ok (.if_icmp .ge 7, 3) := by decide +kernel
theorem dX12_voteOf_27 : decode cX12_voteOf 27 = .ok (.iload_n 3, 1) := by decide +kernel
theorem dX12_voteOf_28 : decode cX12_voteOf 28 = .ok (.goto 4, 3) := by decide +kernel
theorem dX12_voteOf_31 : decode cX12_voteOf 31 = .ok (.iload_n 2, 1) := by decide +kernel
theorem dX12_voteOf_32 : decode cX12_voteOf 32 = .ok (.istore_n 2, 1) := by decide +kernel
theorem dX12_voteOf_33 : decode cX12_voteOf 33 = .ok (.iinc 3 1, 3) := by decide +kernel
theorem dX12_voteOf_36 : decode cX12_voteOf 36 = .ok (.goto (-32), 3) := by decide +kernel
theorem dX12_voteOf_39 : decode cX12_voteOf 39 = .ok (.iload_n 2, 1) := by decide +kernel
theorem dX12_voteOf_40 : decode cX12_voteOf 40 = .ok (.ireturn, 1) := by decide +kernel
set_option maxRecDepth 20000 in
theorem ggX12_votesFor_X12_voteOf : GoodIn wsX12_votesFor wsX12_voteOf := goodIn_r _ [6, 1, 7, 8, 9, 5, 10, 11, 12, 13, 14, 15, 16, 17, 18, 19, 20, 21, 22, 23, 24, 25, 26, 27, 28, 29, 30, 31, 32, 33, 34, 35, 36, 37, 38, 39, 40, 41, 42, 43, 44, 45, 46, 47, 48, 49, 50, 51, 52, 53, 54, 55, 56, 57, 58, 59, 60, 61, 62, 63, 64, 65, 66, 67, 68, 69, 70, 71, 72, 73, 74, 75, 76, 77, 78, 79, 80, 81, 82, 83] (by decide +kernel) (by decide +kernel)
set_option maxRecDepth 20000 in
theorem gX12_votesFor_X12_voteOf : GoodIn wsX12_votesFor (wsV RX12 192 RX12 yX12_voteOf wsX12_voteOf) := goodIn_app (goodIn_of _ (by decide +kernel)) ggX12_votesFor_X12_voteOf
theorem dX12_votesFor_0 : decode cX12_votesFor 0 = .ok (.iconst 0, 1) := by decide +kernel
theorem dX12_votesFor_1 : decode cX12_votesFor 1 = .ok (.istore_n 2, 1) := by decide +kernel
theorem dX12_votesFor_2 : decode cX12_votesFor 2 = .ok (.iconst 0, 1) := by decide +kernel
theorem dX12_votesFor_3 : decode cX12_votesFor 3 = .ok (.istore_n 3, 1) := by decide +kernel
theorem dX12_votesFor_4 : decode cX12_votesFor 4 = .ok (.iload_n 3, 1) := by decide +kernel
theorem dX12_votesFor_5 : decode cX12_votesFor 5 = .ok (.aload_n 0, 1) := by decide +kernel
theorem dX12_votesFor_6 : decode cX12_votesFor 6 = .ok (.getfield 99, 3) := by decide +kernel
theorem dX12_votesFor_9 : decode cX12_votesFor 9 = .ok (.if_icmp .ge 26, 3) := by decide +kernel
theorem dX12_votesFor_12 : decode cX12_votesFor 12 = .ok (.iload_n 2, 1) := by decide +kernel
theorem dX12_votesFor_13 : decode cX12_votesFor 13 = .ok (.aload_n 0, 1) := by decide +kernel
theorem dX12_votesFor_14 : decode cX12_votesFor 14 = .ok (.iload_n 3, 1) := by decide +kernel
theorem dX12_votesFor_15 : decode cX12_votesFor 15 = .ok (.invokevirtual 192, 3) := by decide +kernel
theorem dX12_votesFor_18 : decode cX12_votesFor 18 = .ok (.iload_n 1, 1) := by decide +kernel
theorem dX12_votesFor_19 : decode cX12_votesFor 19 = .ok (.if_icmp .ne 7, 3) := by decide +kernel
theorem dX12_votesFor_22 : decode cX12_votesFor 22 = .ok (.iconst 1, 1) := by decide +kernel
theorem dX12_votesFor_23 : decode cX12_votesFor 23 = .ok (.goto 4, 3) := by decide +kernel
theorem dX12_votesFor_26 : decode cX12_votesFor 26 = .ok (.iconst 0, 1) := by decide +kernel
theorem dX12_votesFor_27 : decode cX12_votesFor 27 = .ok (.iadd, 1) := by decide +kernel
theorem dX12_votesFor_28 : decode cX12_votesFor 28 = .ok (.istore_n 2, 1) := by decide +kernel
theorem dX12_votesFor_29 : decode cX12_votesFor 29 = .ok (.iinc 3 1, 3) := by decide +kernel
theorem dX12_votesFor_32 : decode cX12_votesFor 32 = .ok (.goto (-28), 3) := by decide +kernel
theorem dX12_votesFor_35 : decode cX12_votesFor 35 = .ok (.iload_n 2, 1) := by decide +kernel
theorem dX12_votesFor_36 : decode cX12_votesFor 36 = .ok (.ireturn, 1) := by decide +kernel
set_option maxRecDepth 20000 in
theorem ggX12_votes_X12_isPerson : GoodIn wsX12_votes wsX12_isPerson := goodIn_r _ [5, 6, 7, 8, 4, 9, 65, 66, 67, 68, 69, 70, 71, 72, 73, 74, 75, 76, 77, 78, 79, 80, 81, 82, 83, 84, 85, 86, 87, 88, 89, 90, 91, 92, 93, 94] (by decide +kernel) (by decide +kernel)
set_option maxRecDepth 20000 in
theorem gX12_votes_X12_isPerson : GoodIn wsX12_votes (wsV RX12 137 RX12 yX12_isPerson wsX12_isPerson) := goodIn_app (goodIn_of _ (by decide +kernel)) ggX12_votes_X12_isPerson
set_option maxRecDepth 20000 in
theorem ggX12_votes_X12_votesFor : GoodIn wsX12_votes wsX12_votesFor := goodIn_r _ [13, 6, 14, 15, 16, 4, 17, 18, 19, 20, 21, 22, 23, 24, 25, 26, 27, 28, 29, 30, 31, 32, 33, 34, 35, 36, 37, 38, 39, 40, 41, 42, 43, 44, 45, 46, 47, 48, 49, 50, 51, 52, 53, 54, 55, 56, 57, 58, 59, 60, 61, 62, 63, 64, 65, 66, 67, 68, 69, 70, 71, 72, 73, 74, 75, 76, 77, 78, 79, 80, 81, 82, 83, 84, 85, 86, 87, 88, 89, 90, 91, 92, 93, 94] (by decide +kernel) (by decide +kernel)
set_option maxRecDepth 20000 in
theorem gX12_votes_X12_votesFor : GoodIn wsX12_votes (wsV RX12 195 RX12 yX12_votesFor wsX12_votesFor) := goodIn_app (goodIn_of _ (by decide +kernel)) ggX12_votes_X12_votesFor
theorem dX12_votes_0 : decode cX12_votes 0 = .ok (.aload_n 0, 1) := by decide +kernel
theorem dX12_votes_1 : decode cX12_votes 1 = .ok (.iload_n 1, 1) := by decide +kernel
theorem dX12_votes_2 : decode cX12_votes 2 = .ok (.invokevirtual 137, 3) := by decide +kernel
theorem dX12_votes_5 : decode cX12_votes 5 = .ok (.ifCond .eq 11, 3) := by decide +kernel
theorem dX12_votes_8 : decode cX12_votes 8 = .ok (.aload_n 0, 1) := by decide +kernel
theorem dX12_votes_9 : decode cX12_votes 9 = .ok (.iload_n 1, 1) := by decide +kernel
theorem dX12_votes_10 : decode cX12_votes 10 = .ok (.invokevirtual 195, 3) := by decide +kernel
theorem dX12_votes_13 : decode cX12_votes 13 = .ok (.goto 4, 3) := by decide +kernel
theorem dX12_votes_16 : decode cX12_votes 16 = .ok (.iconst (-1), 1) := by decide +kernel
theorem dX12_votes_17 : decode cX12_votes 17 = .ok (.ireturn, 1) := by decide +kernel
set_option maxRecDepth 20000 in
theorem ggX12_chosen_X12_votesFor : GoodIn wsX12_chosen wsX12_votesFor := goodIn_r _ [6, 1, 7, 8, 9, 5, 10, 11, 12, 13, 14, 15, 16, 17, 18, 19, 20, 21, 22, 23, 24, 25, 26, 27, 28, 29, 30, 31, 32, 33, 34, 35, 36, 37, 38, 39, 40, 41, 42, 43, 44, 45, 46, 47, 48, 49, 50, 51, 52, 53, 54, 55, 56, 57, 58, 59, 60, 61, 62, 63, 64, 65, 66, 67, 68, 69, 70, 71, 72, 73, 74, 75, 76, 77, 78, 79, 80, 81, 82, 83, 84, 85, 86, 87] (by decide +kernel) (by decide +kernel)
set_option maxRecDepth 20000 in
theorem gX12_chosen_X12_votesFor : GoodIn wsX12_chosen (wsV RX12 195 RX12 yX12_votesFor wsX12_votesFor) := goodIn_app (goodIn_of _ (by decide +kernel)) ggX12_chosen_X12_votesFor
theorem dX12_chosen_0 : decode cX12_chosen 0 = .ok (.bipush (-9), 2) := by decide +kernel
theorem dX12_chosen_2 : decode cX12_chosen 2 = .ok (.istore_n 1, 1) := by decide +kernel
theorem dX12_chosen_3 : decode cX12_chosen 3 = .ok (.iconst 0, 1) := by decide +kernel
theorem dX12_chosen_4 : decode cX12_chosen 4 = .ok (.istore_n 2, 1) := by decide +kernel
theorem dX12_chosen_5 : decode cX12_chosen 5 = .ok (.iload_n 2, 1) := by decide +kernel
theorem dX12_chosen_6 : decode cX12_chosen 6 = .ok (.aload_n 0, 1) := by decide +kernel
theorem dX12_chosen_7 : decode cX12_chosen 7 = .ok (.getfield 99, 3) := by decide +kernel
theorem dX12_chosen_10 : decode cX12_chosen 10 = .ok (.if_icmp .ge 34, 3) := by decide +kernel
theorem dX12_chosen_13 : decode cX12_chosen 13 = .ok (.iload_n 1, 1) := by decide +kernel
theorem dX12_chosen_14 : decode cX12_chosen 14 = .ok (.bipush (-9), 2) := by decide +kernel
theorem dX12_chosen_16 : decode cX12_chosen 16 = .ok (.if_icmp .eq 16, 3) := by decide +kernel
theorem dX12_chosen_19 : decode cX12_chosen 19 = .ok (.aload_n 0, 1) := by decide +kernel
theorem dX12_chosen_20 : decode cX12_chosen 20 = .ok (.iload_n 2, 1) := by decide +kernel
theorem dX12_chosen_21 : decode cX12_chosen 21 = .ok (.invokevirtual 195, 3) := by decide +kernel
theorem dX12_chosen_24 : decode cX12_chosen 24 = .ok (.aload_n 0, 1) := by decide +kernel
theorem dX12_chosen_25 : decode cX12_chosen 25 = .ok (.iload_n 1, 1) := by decide +kernel
theorem dX12_chosen_26 : decode cX12_chosen 26 = .ok (.invokevirtual 195, 3) := by decide +kernel
theorem dX12_chosen_29 : decode cX12_chosen 29 = .ok (.if_icmp .le 7, 3) := by decide +kernel
theorem dX12_chosen_32 : decode cX12_chosen 32 = .ok (.iload_n 2, 1) := by decide +kernel
theorem dX12_chosen_33 : decode cX12_chosen 33 = .ok (.goto 4, 3) := by decide +kernel
theorem dX12_chosen_36 : decode cX12_chosen 36 = .ok (.iload_n 1, 1) := by decide +kernel
theorem dX12_chosen_37 : decode cX12_chosen 37 = .ok (.istore_n 1, 1) := by decide +kernel
theorem dX12_chosen_38 : decode cX12_chosen 38 = .ok (.iinc 2 1, 3) := by decide +kernel
theorem dX12_chosen_41 : decode cX12_chosen 41 = .ok (.goto (-36), 3) := by decide +kernel
theorem dX12_chosen_44 : decode cX12_chosen 44 = .ok (.iload_n 1, 1) := by decide +kernel
theorem dX12_chosen_45 : decode cX12_chosen 45 = .ok (.ireturn, 1) := by decide +kernel
set_option maxRecDepth 20000 in
theorem ggX12_tryThing_X12_turn : GoodIn wsX12_tryThing wsX12_turn := goodIn_r _ [7, 1, 8, 9, 10, 6, 11, 12, 13, 14, 15, 16, 17, 18, 19, 20, 21, 22, 23, 24, 25, 26, 27, 28, 29, 30, 31, 32, 33, 34, 35, 36, 37, 38, 39, 40, 41, 2, 42, 43, 44, 45, 46, 47, 48, 69, 70, 71, 72, 73, 74, 75, 76, 77, 78, 79, 80, 81, 82, 83, 84, 85, 86, 87, 88, 89, 90, 91, 92, 93, 94, 95, 96, 97, 98] (by decide +kernel) (by decide +kernel)
set_option maxRecDepth 20000 in
theorem gX12_tryThing_X12_turn : GoodIn wsX12_tryThing (wsV RX12 178 RX12 yX12_turn wsX12_turn) := goodIn_app (goodIn_of _ (by decide +kernel)) ggX12_tryThing_X12_turn
set_option maxRecDepth 20000 in
theorem ggX12_tryThing_X12_canPick : GoodIn wsX12_tryThing wsX12_canPick := goodIn_r _ [52, 26, 1, 2, 53, 54, 55, 6, 56, 20, 13, 14, 15, 69, 70, 71, 72, 73, 74, 75, 76, 77, 78, 79, 80, 81, 82, 83, 84, 85, 86, 87, 88, 89, 90, 91, 92, 93, 94, 95, 96, 97, 98] (by decide +kernel) (by decide +kernel)
set_option maxRecDepth 20000 in
theorem gX12_tryThing_X12_canPick : GoodIn wsX12_tryThing (wsV RX12 169 RX12 yX12_canPick wsX12_canPick) := goodIn_app (goodIn_of _ (by decide +kernel)) ggX12_tryThing_X12_canPick
set_option maxRecDepth 20000 in
theorem ggX12_tryThing_X12_isPerson : GoodIn wsX12_tryThing wsX12_isPerson := goodIn_r _ [11, 12, 13, 14, 6, 15, 69, 70, 71, 72, 73, 74, 75, 76, 77, 78, 79, 80, 81, 82, 83, 84, 85, 86, 87, 88, 89, 90, 91, 92, 93, 94, 95, 96, 97, 98] (by decide +kernel) (by decide +kernel)
set_option maxRecDepth 20000 in
theorem gX12_tryThing_X12_isPerson : GoodIn wsX12_tryThing (wsV RX12 137 RX12 yX12_isPerson wsX12_isPerson) := goodIn_app (goodIn_of _ (by decide +kernel)) ggX12_tryThing_X12_isPerson
set_option maxRecDepth 20000 in
theorem ggX12_tryThing_X12_isClean : GoodIn wsX12_tryThing wsX12_isClean := goodIn_r _ [60, 61, 62, 63, 6, 64, 20, 1, 65, 66, 67, 68, 2, 69, 70, 71, 72, 73, 74, 75, 76, 77, 78, 79, 80, 81, 82, 83, 84, 85, 86, 87, 88, 89, 90, 91, 92, 93, 94, 95, 96, 97, 98] (by decide +kernel) (by decide +kernel)
set_option maxRecDepth 20000 in
theorem gX12_tryThing_X12_isClean : GoodIn wsX12_tryThing (wsV RX12 144 RX12 yX12_isClean wsX12_isClean) := goodIn_app (goodIn_of _ (by decide +kernel)) ggX12_tryThing_X12_isClean
theorem dX12_tryThing_0 : decode cX12_tryThing 0 = .ok (.iload_n 1, 1) := by decide +kernel
theorem dX12_tryThing_1 : decode cX12_tryThing 1 = .ok (.ifCond .ne 9, 3) := by decide +kernel
theorem dX12_tryThing_4 : decode cX12_tryThing 4 = .ok (.aload_n 0, 1) := by decide +kernel
theorem dX12_tryThing_5 : decode cX12_tryThing 5 = .ok (.iload_n 2, 1) := by decide +kernel
theorem dX12_tryThing_6 : decode cX12_tryThing 6 = .ok (.invokevirtual 178, 3) := by decide +kernel
theorem dX12_tryThing_9 : decode cX12_tryThing 9 = .ok (.ireturn, 1) := by decide +kernel
theorem dX12_tryThing_10 : decode cX12_tryThing 10 = .ok (.iload_n 1, 1) := by decide +kernel
theorem dX12_tryThing_11 : decode cX12_tryThing 11 = .ok (.iconst 1, 1) := by decide +kernel
theorem dX12_tryThing_12 : decode cX12_tryThing 12 = .ok (.if_icmp .ne 12, 3) := by decide +kernel
theorem dX12_tryThing_15 : decode cX12_tryThing 15 = .ok (.aload_n 0, 1) := by decide +kernel
theorem dX12_tryThing_16 : decode cX12_tryThing 16 = .ok (.iconst 1, 1) := by decide +kernel
theorem dX12_tryThing_17 : decode cX12_tryThing 17 = .ok (.iload_n 2, 1) := by decide +kernel
theorem dX12_tryThing_18 : decode cX12_tryThing 18 = .ok (.invokevirtual 169, 3) := by decide +kernel
theorem dX12_tryThing_21 : decode cX12_tryThing 21 = .ok (.goto 62, 3) := by decide +kernel
theorem dX12_tryThing_24 : decode cX12_tryThing 24 = .ok (.iload_n 1, 1) := by decide +kernel
theorem dX12_tryThing_25 : decode cX12_tryThing 25 = .ok (.iconst 2, 1) := by decide +kernel
theorem dX12_tryThing_26 : decode cX12_tryThing 26 = .ok (.if_icmp .ne 30, 3) := by decide +kernel
theorem dX12_tryThing_29 : decode cX12_tryThing 29 = .ok (.aload_n 0, 1) := by decide +kernel
theorem dX12_tryThing_30 : decode cX12_tryThing 30 = .ok (.iload_n 2, 1) := by decide +kernel
theorem dX12_tryThing_31 : decode cX12_tryThing 31 = .ok (.invokevirtual 137, 3) := by decide +kernel
theorem dX12_tryThing_34 : decode cX12_tryThing 34 = .ok (.ifCond .eq 18, 3) := by decide +kernel
theorem dX12_tryThing_37 : decode cX12_tryThing 37 = .ok (.aload_n 0, 1) := by decide +kernel
theorem dX12_tryThing_38 : decode cX12_tryThing 38 = .ok (.getfield 25, 3) := by decide +kernel
theorem dX12_tryThing_41 : decode cX12_tryThing 41 = .ok (.bipush 16, 2) := by decide +kernel
theorem dX12_tryThing_43 : decode cX12_tryThing 43 = .ok (.iaload, 1) := by decide +kernel
theorem dX12_tryThing_44 : decode cX12_tryThing 44 = .ok (.iload_n 2, 1) := by decide +kernel
theorem dX12_tryThing_45 : decode cX12_tryThing 45 = .ok (.if_icmp .eq 7, 3) := by decide +kernel
theorem dX12_tryThing_48 : decode cX12_tryThing 48 = .ok (.iconst 1, 1) := by decide +kernel
theorem dX12_tryThing_49 : decode cX12_tryThing 49 = .ok (.goto 34, 3) := by decide +kernel
theorem dX12_tryThing_52 : decode cX12_tryThing 52 = .ok (.iconst 0, 1) := by decide +kernel
theorem dX12_tryThing_53 : decode cX12_tryThing 53 = .ok (.goto 30, 3) := by decide +kernel
theorem dX12_tryThing_56 : decode cX12_tryThing 56 = .ok (.iload_n 1, 1) := by decide +kernel
theorem dX12_tryThing_57 : decode cX12_tryThing 57 = .ok (.iconst 3, 1) := by decide +kernel
theorem dX12_tryThing_58 : decode cX12_tryThing 58 = .ok (.if_icmp .ne 24, 3) := by decide +kernel
theorem dX12_tryThing_61 : decode cX12_tryThing 61 = .ok (.aload_n 0, 1) := by decide +kernel
theorem dX12_tryThing_62 : decode cX12_tryThing 62 = .ok (.iload_n 2, 1) := by decide +kernel
theorem dX12_tryThing_63 : decode cX12_tryThing 63 = .ok (.invokevirtual 137, 3) := by decide +kernel
theorem dX12_tryThing_66 : decode cX12_tryThing 66 = .ok (.ifCond .eq 16, 3) := by decide +kernel
theorem dX12_tryThing_69 : decode cX12_tryThing 69 = .ok (.aload_n 0, 1) := by decide +kernel
theorem dX12_tryThing_70 : decode cX12_tryThing 70 = .ok (.iconst 1, 1) := by decide +kernel
theorem dX12_tryThing_71 : decode cX12_tryThing 71 = .ok (.iload_n 2, 1) := by decide +kernel
theorem dX12_tryThing_72 : decode cX12_tryThing 72 = .ok (.invokevirtual 144, 3) := by decide +kernel
theorem dX12_tryThing_75 : decode cX12_tryThing 75 = .ok (.ifCond .eq 7, 3) := by decide +kernel
theorem dX12_tryThing_78 : decode cX12_tryThing 78 = .ok (.iconst 1, 1) := by decide +kernel
theorem dX12_tryThing_79 : decode cX12_tryThing 79 = .ok (.goto 4, 3) := by decide +kernel
theorem dX12_tryThing_82 : decode cX12_tryThing 82 = .ok (.iconst 0, 1) := by decide +kernel
theorem dX12_tryThing_83 : decode cX12_tryThing 83 = .ok (.istore_n 3, 1) := by decide +kernel
theorem dX12_tryThing_84 : decode cX12_tryThing 84 = .ok (.iload_n 3, 1) := by decide +kernel
theorem dX12_tryThing_85 : decode cX12_tryThing 85 = .ok (.ifCond .eq 26, 3) := by decide +kernel
theorem dX12_tryThing_88 : decode cX12_tryThing 88 = .ok (.iload_n 1, 1) := by decide +kernel
theorem dX12_tryThing_89 : decode cX12_tryThing 89 = .ok (.iconst 1, 1) := by decide +kernel
theorem dX12_tryThing_90 : decode cX12_tryThing 90 = .ok (.if_icmp .ne 21, 3) := by decide +kernel
theorem dX12_tryThing_93 : decode cX12_tryThing 93 = .ok (.aload_n 0, 1) := by decide +kernel
theorem dX12_tryThing_94 : decode cX12_tryThing 94 = .ok (.getfield 25, 3) := by decide +kernel
theorem dX12_tryThing_97 : decode cX12_tryThing 97 = .ok (.bipush 9, 2) := by decide +kernel
theorem dX12_tryThing_99 : decode cX12_tryThing 99 = .ok (.iload_n 2, 1) := by decide +kernel
theorem dX12_tryThing_100 : decode cX12_tryThing 100 = .ok (.iadd, 1) := by decide +kernel
theorem dX12_tryThing_101 : decode cX12_tryThing 101 = .ok (.aload_n 0, 1) := by decide +kernel
theorem dX12_tryThing_102 : decode cX12_tryThing 102 = .ok (.getfield 22, 3) := by decide +kernel
theorem dX12_tryThing_105 : decode cX12_tryThing 105 = .ok (.iload_n 2, 1) := by decide +kernel
theorem dX12_tryThing_106 : decode cX12_tryThing 106 = .ok (.iaload, 1) := by decide +kernel
theorem dX12_tryThing_107 : decode cX12_tryThing 107 = .ok (.iastore, 1) := by decide +kernel
theorem dX12_tryThing_108 : decode cX12_tryThing 108 = .ok (.goto 20, 3) := by decide +kernel
theorem dX12_tryThing_111 : decode cX12_tryThing 111 = .ok (.iload_n 3, 1) := by decide +kernel
theorem dX12_tryThing_112 : decode cX12_tryThing 112 = .ok (.ifCond .eq 16, 3) := by decide +kernel
theorem dX12_tryThing_115 : decode cX12_tryThing 115 = .ok (.iload_n 1, 1) := by decide +kernel
theorem dX12_tryThing_116 : decode cX12_tryThing 116 = .ok (.iconst 2, 1) := by decide +kernel
theorem dX12_tryThing_117 : decode cX12_tryThing 117 = .ok (.if_icmp .ne 11, 3) := by decide +kernel
theorem dX12_tryThing_120 : decode cX12_tryThing 120 = .ok (.aload_n 0, 1) := by decide +kernel
theorem dX12_tryThing_121 : decode cX12_tryThing 121 = .ok (.getfield 25, 3) := by decide +kernel
theorem dX12_tryThing_124 : decode cX12_tryThing 124 = .ok (.bipush 16, 2) := by decide +kernel
theorem dX12_tryThing_126 : decode cX12_tryThing 126 = .ok (.iload_n 2, 1) := by decide +kernel
theorem dX12_tryThing_127 : decode cX12_tryThing 127 = .ok (.iastore, 1) := by decide +kernel
theorem dX12_tryThing_128 : decode cX12_tryThing 128 = .ok (.iload_n 3, 1) := by decide +kernel
theorem dX12_tryThing_129 : decode cX12_tryThing 129 = .ok (.ireturn, 1) := by decide +kernel
set_option maxRecDepth 20000 in
theorem ggX12_judge_X12_in : GoodIn wsX12_judge wsX12_in := goodIn_r _ [5] (by decide +kernel) (by decide +kernel)
set_option maxRecDepth 20000 in
theorem gX12_judge_X12_in : GoodIn wsX12_judge (va_wsS RX12 64 yX12_in wsX12_in) := goodIn_app (goodIn_of _ (by decide +kernel)) ggX12_judge_X12_in
set_option maxRecDepth 20000 in
theorem ggX12_judge_X12_power : GoodIn wsX12_judge wsX12_power := goodIn_r _ [8] (by decide +kernel) (by decide +kernel)
set_option maxRecDepth 20000 in
theorem gX12_judge_X12_power : GoodIn wsX12_judge (va_wsS RX12 175 yX12_power wsX12_power) := goodIn_app (goodIn_of _ (by decide +kernel)) ggX12_judge_X12_power
set_option maxRecDepth 20000 in
theorem ggX12_judge_X12_layTrial : GoodIn wsX12_judge wsX12_layTrial := goodIn_r _ [12, 13, 81, 82, 83, 84, 85, 86, 87, 88, 89, 90, 91, 92, 93, 94, 95, 96, 97, 98, 99, 100, 101, 102, 103, 104, 105, 106, 107, 108, 109, 110] (by decide +kernel) (by decide +kernel)
set_option maxRecDepth 20000 in
theorem gX12_judge_X12_layTrial : GoodIn wsX12_judge (wsV RX12 172 RX12 yX12_layTrial wsX12_layTrial) := goodIn_app (goodIn_of _ (by decide +kernel)) ggX12_judge_X12_layTrial
set_option maxRecDepth 20000 in
theorem ggX12_judge_X12_tryThing : GoodIn wsX12_judge wsX12_tryThing := goodIn_r _ [17, 13, 18, 19, 20, 21, 4, 22, 23, 24, 25, 26, 27, 2, 3, 5, 28, 29, 30, 31, 32, 33, 34, 35, 36, 37, 38, 39, 40, 41, 42, 43, 44, 45, 46, 47, 48, 49, 50, 51, 52, 53, 54, 55, 56, 57, 58, 59, 60, 61, 62, 63, 64, 65, 66, 67, 68, 69, 70, 71, 72, 73, 74, 75, 76, 77, 78, 79, 80, 81, 82, 83, 84, 85, 86, 87, 88, 89, 90, 91, 92, 93, 94, 95, 96, 97, 98, 99, 100, 101, 102, 103, 104, 105, 106, 107, 108, 109, 110] (by decide +kernel) (by decide +kernel)
set_option maxRecDepth 20000 in
theorem gX12_judge_X12_tryThing : GoodIn wsX12_judge (wsV RX12 198 RX12 yX12_tryThing wsX12_tryThing) := goodIn_app (goodIn_of _ (by decide +kernel)) ggX12_judge_X12_tryThing
theorem dX12_judge_0 : decode cX12_judge 0 = .ok (.iload_n 1, 1) := by decide +kernel
theorem dX12_judge_1 : decode cX12_judge 1 = .ok (.i2l, 1) := by decide +kernel
theorem dX12_judge_2 : decode cX12_judge 2 = .ok (.lconst 1, 1) := by decide +kernel
theorem dX12_judge_3 : decode cX12_judge 3 = .ok (.ldc2_w 181, 3) := by decide +kernel
theorem dX12_judge_6 : decode cX12_judge 6 = .ok (.invokestatic 64, 3) := by decide +kernel
theorem dX12_judge_9 : decode cX12_judge 9 = .ok (.ifCond .eq 21, 3) := by decide +kernel
theorem dX12_judge_12 : decode cX12_judge 12 = .ok (.iload_n 2, 1) := by decide +kernel
theorem dX12_judge_13 : decode cX12_judge 13 = .ok (.i2l, 1) := by decide +kernel
theorem dX12_judge_14 : decode cX12_judge 14 = .ok (.lconst 0, 1) := by decide +kernel
theorem dX12_judge_15 : decode cX12_judge 15 = .ok (.bipush 100, 2) := by decide +kernel
theorem dX12_judge_17 : decode cX12_judge 17 = .ok (.iload_n 1, 1) := by decide +kernel
theorem dX12_judge_18 : decode cX12_judge 18 = .ok (.invokestatic 175, 3) := by decide +kernel
theorem dX12_judge_21 : decode cX12_judge 21 = .ok (.iconst 1, 1) := by decide +kernel
theorem dX12_judge_22 : decode cX12_judge 22 = .ok (.isub, 1) := by decide +kernel
theorem dX12_judge_23 : decode cX12_judge 23 = .ok (.i2l, 1) := by decide +kernel
theorem dX12_judge_24 : decode cX12_judge 24 = .ok (.invokestatic 64, 3) := by decide +kernel
theorem dX12_judge_27 : decode cX12_judge 27 = .ok (.ifCond .ne 6, 3) := by decide +kernel
theorem dX12_judge_30 : decode cX12_judge 30 = .ok (.bipush (-2), 2) := by decide +kernel
theorem dX12_judge_32 : decode cX12_judge 32 = .ok (.ireturn, 1) := by decide +kernel
theorem dX12_judge_33 : decode cX12_judge 33 = .ok (.aload_n 0, 1) := by decide +kernel
theorem dX12_judge_34 : decode cX12_judge 34 = .ok (.invokevirtual 172, 3) := by decide +kernel
theorem dX12_judge_37 : decode cX12_judge 37 = .ok (.iconst 0, 1) := by decide +kernel
theorem dX12_judge_38 : decode cX12_judge 38 = .ok (.istore_n 3, 1) := by decide +kernel
theorem dX12_judge_39 : decode cX12_judge 39 = .ok (.iload_n 3, 1) := by decide +kernel
theorem dX12_judge_40 : decode cX12_judge 40 = .ok (.iload_n 1, 1) := by decide +kernel
theorem dX12_judge_41 : decode cX12_judge 41 = .ok (.if_icmp .ge 45, 3) := by decide +kernel
theorem dX12_judge_44 : decode cX12_judge 44 = .ok (.iload_n 2, 1) := by decide +kernel
theorem dX12_judge_45 : decode cX12_judge 45 = .ok (.bipush 100, 2) := by decide +kernel
theorem dX12_judge_47 : decode cX12_judge 47 = .ok (.iload_n 1, 1) := by decide +kernel
theorem dX12_judge_48 : decode cX12_judge 48 = .ok (.iconst 1, 1) := by decide +kernel
theorem dX12_judge_49 : decode cX12_judge 49 = .ok (.isub, 1) := by decide +kernel
theorem dX12_judge_50 : decode cX12_judge 50 = .ok (.iload_n 3, 1) := by decide +kernel
theorem dX12_judge_51 : decode cX12_judge 51 = .ok (.isub, 1) := by decide +kernel
theorem dX12_judge_52 : decode cX12_judge 52 = .ok (.invokestatic 175, 3) := by decide +kernel
theorem dX12_judge_55 : decode cX12_judge 55 = .ok (.idiv, 1) := by decide +kernel
theorem dX12_judge_56 : decode cX12_judge 56 = .ok (.bipush 100, 2) := by decide +kernel
theorem dX12_judge_58 : decode cX12_judge 58 = .ok (.irem, 1) := by decide +kernel
theorem dX12_judge_59 : decode cX12_judge 59 = .ok (.istore 4, 2) := by decide +kernel
theorem dX12_judge_61 : decode cX12_judge 61 = .ok (.aload_n 0, 1) := by decide +kernel
theorem dX12_judge_62 : decode cX12_judge 62 = .ok (.iload 4, 2) := by decide +kernel
theorem dX12_judge_64 : decode cX12_judge 64 = .ok (.bipush 10, 2) := by decide +kernel
theorem dX12_judge_66 : decode cX12_judge 66 = .ok (.idiv, 1) := by decide +kernel
theorem dX12_judge_67 : decode cX12_judge 67 = .ok (.iload 4, 2) := by decide +kernel
theorem dX12_judge_69 : decode cX12_judge 69 = .ok (.bipush 10, 2) := by decide +kernel
theorem dX12_judge_71 : decode cX12_judge 71 = .ok (.irem, 1) := by decide +kernel
theorem dX12_judge_72 : decode cX12_judge 72 = .ok (.invokevirtual 198, 3) := by decide +kernel
theorem dX12_judge_75 : decode cX12_judge 75 = .ok (.ifCond .ne 5, 3) := by decide +kernel
theorem dX12_judge_78 : decode cX12_judge 78 = .ok (.iload_n 3, 1) := by decide +kernel
theorem dX12_judge_79 : decode cX12_judge 79 = .ok (.ireturn, 1) := by decide +kernel
theorem dX12_judge_80 : decode cX12_judge 80 = .ok (.iinc 3 1, 3) := by decide +kernel
theorem dX12_judge_83 : decode cX12_judge 83 = .ok (.goto (-44), 3) := by decide +kernel
theorem dX12_judge_86 : decode cX12_judge 86 = .ok (.bipush (-9), 2) := by decide +kernel
theorem dX12_judge_88 : decode cX12_judge 88 = .ok (.ireturn, 1) := by decide +kernel
set_option maxRecDepth 20000 in
theorem ggX12_see_X12_in : GoodIn wsX12_see wsX12_in := goodIn_r _ [11] (by decide +kernel) (by decide +kernel)
set_option maxRecDepth 20000 in
theorem gX12_see_X12_in : GoodIn wsX12_see (va_wsS RX12 64 yX12_in wsX12_in) := goodIn_app (goodIn_of _ (by decide +kernel)) ggX12_see_X12_in
theorem dX12_see_0 : decode cX12_see 0 = .ok (.iload_n 1, 1) := by decide +kernel
theorem dX12_see_1 : decode cX12_see 1 = .ok (.i2l, 1) := by decide +kernel
theorem dX12_see_2 : decode cX12_see 2 = .ok (.lconst 0, 1) := by decide +kernel
theorem dX12_see_3 : decode cX12_see 3 = .ok (.ldc2_w 201, 3) := by decide +kernel
theorem dX12_see_6 : decode cX12_see 6 = .ok (.invokestatic 64, 3) := by decide +kernel
theorem dX12_see_9 : decode cX12_see 9 = .ok (.ifCond .eq 27, 3) := by decide +kernel
theorem dX12_see_12 : decode cX12_see 12 = .ok (.iload_n 2, 1) := by decide +kernel
theorem dX12_see_13 : decode cX12_see 13 = .ok (.i2l, 1) := by decide +kernel
theorem dX12_see_14 : decode cX12_see 14 = .ok (.lconst 0, 1) := by decide +kernel
theorem dX12_see_15 : decode cX12_see 15 = .ok (.ldc2_w 203, 3) := by decide +kernel
theorem dX12_see_18 : decode cX12_see 18 = .ok (.invokestatic 64, 3) := by decide +kernel
theorem dX12_see_21 : decode cX12_see 21 = .ok (.ifCond .eq 15, 3) := by decide +kernel
theorem dX12_see_24 : decode cX12_see 24 = .ok (.iload_n 3, 1) := by decide +kernel
theorem dX12_see_25 : decode cX12_see 25 = .ok (.i2l, 1) := by decide +kernel
theorem dX12_see_26 : decode cX12_see 26 = .ok (.lconst 0, 1) := by decide +kernel
theorem dX12_see_27 : decode cX12_see 27 = .ok (.ldc2_w 205, 3) := by decide +kernel
theorem dX12_see_30 : decode cX12_see 30 = .ok (.invokestatic 64, 3) := by decide +kernel
theorem dX12_see_33 : decode cX12_see 33 = .ok (.ifCond .ne 6, 3) := by decide +kernel
theorem dX12_see_36 : decode cX12_see 36 = .ok (.bipush (-2), 2) := by decide +kernel
theorem dX12_see_38 : decode cX12_see 38 = .ok (.ireturn, 1) := by decide +kernel
theorem dX12_see_39 : decode cX12_see 39 = .ok (.aload_n 0, 1) := by decide +kernel
theorem dX12_see_40 : decode cX12_see 40 = .ok (.getfield 207, 3) := by decide +kernel
theorem dX12_see_43 : decode cX12_see 43 = .ok (.bipush 6, 2) := by decide +kernel
theorem dX12_see_45 : decode cX12_see 45 = .ok (.if_icmp .ne 6, 3) := by decide +kernel
theorem dX12_see_48 : decode cX12_see 48 = .ok (.bipush (-4), 2) := by decide +kernel
theorem dX12_see_50 : decode cX12_see 50 = .ok (.ireturn, 1) := by decide +kernel
theorem dX12_see_51 : decode cX12_see 51 = .ok (.aload_n 0, 1) := by decide +kernel
theorem dX12_see_52 : decode cX12_see 52 = .ok (.getfield 46, 3) := by decide +kernel
theorem dX12_see_55 : decode cX12_see 55 = .ok (.aload_n 0, 1) := by decide +kernel
theorem dX12_see_56 : decode cX12_see 56 = .ok (.getfield 207, 3) := by decide +kernel
theorem dX12_see_59 : decode cX12_see 59 = .ok (.iload_n 1, 1) := by decide +kernel
theorem dX12_see_60 : decode cX12_see 60 = .ok (.iastore, 1) := by decide +kernel
theorem dX12_see_61 : decode cX12_see 61 = .ok (.aload_n 0, 1) := by decide +kernel
theorem dX12_see_62 : decode cX12_see 62 = .ok (.getfield 49, 3) := by decide +kernel
theorem dX12_see_65 : decode cX12_see 65 = .ok (.aload_n 0, 1) := by decide +kernel
theorem dX12_see_66 : decode cX12_see 66 = .ok (.getfield 207, 3) := by decide +kernel
theorem dX12_see_69 : decode cX12_see 69 = .ok (.iload_n 2, 1) := by decide +kernel
theorem dX12_see_70 : decode cX12_see 70 = .ok (.iastore, 1) := by decide +kernel
theorem dX12_see_71 : decode cX12_see 71 = .ok (.aload_n 0, 1) := by decide +kernel
theorem dX12_see_72 : decode cX12_see 72 = .ok (.getfield 52, 3) := by decide +kernel
theorem dX12_see_75 : decode cX12_see 75 = .ok (.aload_n 0, 1) := by decide +kernel
theorem dX12_see_76 : decode cX12_see 76 = .ok (.getfield 207, 3) := by decide +kernel
theorem dX12_see_79 : decode cX12_see 79 = .ok (.iload_n 3, 1) := by decide +kernel
theorem dX12_see_80 : decode cX12_see 80 = .ok (.iastore, 1) := by decide +kernel
theorem dX12_see_81 : decode cX12_see 81 = .ok (.aload_n 0, 1) := by decide +kernel
theorem dX12_see_82 : decode cX12_see 82 = .ok (.dup, 1) := by decide +kernel
theorem dX12_see_83 : decode cX12_see 83 = .ok (.getfield 207, 3) := by decide +kernel
theorem dX12_see_86 : decode cX12_see 86 = .ok (.iconst 1, 1) := by decide +kernel
theorem dX12_see_87 : decode cX12_see 87 = .ok (.iadd, 1) := by decide +kernel
theorem dX12_see_88 : decode cX12_see 88 = .ok (.putfield 207, 3) := by decide +kernel
theorem dX12_see_91 : decode cX12_see 91 = .ok (.aload_n 0, 1) := by decide +kernel
theorem dX12_see_92 : decode cX12_see 92 = .ok (.getfield 207, 3) := by decide +kernel
theorem dX12_see_95 : decode cX12_see 95 = .ok (.ireturn, 1) := by decide +kernel
theorem dX12_unsee_0 : decode cX12_unsee 0 = .ok (.aload_n 0, 1) := by decide +kernel
theorem dX12_unsee_1 : decode cX12_unsee 1 = .ok (.getfield 207, 3) := by decide +kernel
theorem dX12_unsee_4 : decode cX12_unsee 4 = .ok (.istore_n 1, 1) := by decide +kernel
theorem dX12_unsee_5 : decode cX12_unsee 5 = .ok (.aload_n 0, 1) := by decide +kernel
theorem dX12_unsee_6 : decode cX12_unsee 6 = .ok (.iconst 0, 1) := by decide +kernel
theorem dX12_unsee_7 : decode cX12_unsee 7 = .ok (.putfield 207, 3) := by decide +kernel
theorem dX12_unsee_10 : decode cX12_unsee 10 = .ok (.iload_n 1, 1) := by decide +kernel
theorem dX12_unsee_11 : decode cX12_unsee 11 = .ok (.ireturn, 1) := by decide +kernel
set_option maxRecDepth 20000 in
theorem ggX12_weights_X12_in : GoodIn wsX12_weights wsX12_in := goodIn_r _ [9] (by decide +kernel) (by decide +kernel)
set_option maxRecDepth 20000 in
theorem gX12_weights_X12_in : GoodIn wsX12_weights (va_wsS RX12 64 yX12_in wsX12_in) := goodIn_app (goodIn_of _ (by decide +kernel)) ggX12_weights_X12_in
set_option maxRecDepth 20000 in
theorem ggX12_weights_X12_flight : GoodIn wsX12_weights wsX12_flight := goodIn_r _ [12, 13, 14, 8, 15] (by decide +kernel) (by decide +kernel)
set_option maxRecDepth 20000 in
theorem gX12_weights_X12_flight : GoodIn wsX12_weights (va_wsS RX12 118 yX12_flight wsX12_flight) := goodIn_app (goodIn_of _ (by decide +kernel)) ggX12_weights_X12_flight
theorem dX12_weights_0 : decode cX12_weights 0 = .ok (.iload_n 1, 1) := by decide +kernel
theorem dX12_weights_1 : decode cX12_weights 1 = .ok (.i2l, 1) := by decide +kernel
theorem dX12_weights_2 : decode cX12_weights 2 = .ok (.lconst 0, 1) := by decide +kernel
theorem dX12_weights_3 : decode cX12_weights 3 = .ok (.ldc2_w 201, 3) := by decide +kernel
theorem dX12_weights_6 : decode cX12_weights 6 = .ok (.invokestatic 64, 3) := by decide +kernel
theorem dX12_weights_9 : decode cX12_weights 9 = .ok (.ifCond .ne 6, 3) := by decide +kernel
theorem dX12_weights_12 : decode cX12_weights 12 = .ok (.bipush (-2), 2) := by decide +kernel
theorem dX12_weights_14 : decode cX12_weights 14 = .ok (.ireturn, 1) := by decide +kernel
theorem dX12_weights_15 : decode cX12_weights 15 = .ok (.iconst 0, 1) := by decide +kernel
theorem dX12_weights_16 : decode cX12_weights 16 = .ok (.istore_n 2, 1) := by decide +kernel
theorem dX12_weights_17 : decode cX12_weights 17 = .ok (.iconst 1, 1) := by decide +kernel
theorem dX12_weights_18 : decode cX12_weights 18 = .ok (.istore_n 3, 1) := by decide +kernel
theorem dX12_weights_19 : decode cX12_weights 19 = .ok (.iload_n 3, 1) := by decide +kernel
theorem dX12_weights_20 : decode cX12_weights 20 = .ok (.bipush 10, 2) := by decide +kernel
theorem dX12_weights_22 : decode cX12_weights 22 = .ok (.if_icmp .ge 90, 3) := by decide +kernel
theorem dX12_weights_25 : decode cX12_weights 25 = .ok (.iconst 1, 1) := by decide +kernel
theorem dX12_weights_26 : decode cX12_weights 26 = .ok (.istore 4, 2) := by decide +kernel
theorem dX12_weights_28 : decode cX12_weights 28 = .ok (.iconst 0, 1) := by decide +kernel
theorem dX12_weights_29 : decode cX12_weights 29 = .ok (.istore 5, 2) := by decide +kernel
theorem dX12_weights_31 : decode cX12_weights 31 = .ok (.iload 5, 2) := by decide +kernel
theorem dX12_weights_33 : decode cX12_weights 33 = .ok (.aload_n 0, 1) := by decide +kernel
theorem dX12_weights_34 : decode cX12_weights 34 = .ok (.getfield 207, 3) := by decide +kernel
theorem dX12_weights_37 : decode cX12_weights 37 = .ok (.if_icmp .ge 54, 3) := by decide +kernel
theorem dX12_weights_40 : decode cX12_weights 40 = .ok (.iload 4, 2) := by decide +kernel
theorem dX12_weights_42 : decode cX12_weights 42 = .ok (.ifCond .eq 40, 3) := by decide +kernel
theorem dX12_weights_45 : decode cX12_weights 45 = .ok (.aload_n 0, 1) := by decide +kernel
theorem dX12_weights_46 : decode cX12_weights 46 = .ok (.getfield 46, 3) := by decide +kernel
theorem dX12_weights_49 : decode cX12_weights 49 = .ok (.iload 5, 2) := by decide +kernel
theorem dX12_weights_51 : decode cX12_weights 51 = .ok (.iaload, 1) := by decide +kernel
theorem dX12_weights_52 : decode cX12_weights 52 = .ok (.iload_n 1, 1) := by decide +kernel
theorem dX12_weights_53 : decode cX12_weights 53 = .ok (.if_icmp .ne 25, 3) := by decide +kernel
theorem dX12_weights_56 : decode cX12_weights 56 = .ok (.aload_n 0, 1) := by decide +kernel
theorem dX12_weights_57 : decode cX12_weights 57 = .ok (.getfield 49, 3) := by decide +kernel
theorem dX12_weights_60 : decode cX12_weights 60 = .ok (.iload 5, 2) := by decide +kernel
theorem dX12_weights_62 : decode cX12_weights 62 = .ok (.iaload, 1) := by decide +kernel
theorem dX12_weights_63 : decode cX12_weights 63 = .ok (.iload_n 1, 1) := by decide +kernel
theorem dX12_weights_64 : decode cX12_weights 64 = .ok (.iload_n 3, 1) := by decide +kernel
theorem dX12_weights_65 : decode cX12_weights 65 = .ok (.invokestatic 118, 3) := by decide +kernel
theorem dX12_weights_68 : decode cX12_weights 68 = .ok (.aload_n 0, 1) := by decide +kernel
theorem dX12_weights_69 : decode cX12_weights 69 = .ok (.getfield 52, 3) := by decide +kernel
theorem dX12_weights_72 : decode cX12_weights 72 = .ok (.iload 5, 2) := by decide +kernel
theorem dX12_weights_74 : decode cX12_weights 74 = .ok (.iaload, 1) := by decide +kernel
theorem dX12_weights_75 : decode cX12_weights 75 = .ok (.if_icmp .ne 7, 3) := by decide +kernel
theorem dX12_weights_78 : decode cX12_weights 78 = .ok (.iconst 1, 1) := by decide +kernel
theorem dX12_weights_79 : decode cX12_weights 79 = .ok (.goto 4, 3) := by decide +kernel
theorem dX12_weights_82 : decode cX12_weights 82 = .ok (.iconst 0, 1) := by decide +kernel
theorem dX12_weights_83 : decode cX12_weights 83 = .ok (.istore 4, 2) := by decide +kernel
theorem dX12_weights_85 : decode cX12_weights 85 = .ok (.iinc 5 1, 3) := by decide +kernel
theorem dX12_weights_88 : decode cX12_weights 88 = .ok (.goto (-57), 3) := by decide +kernel
theorem dX12_weights_91 : decode cX12_weights 91 = .ok (.iload_n 2, 1) := by decide +kernel
theorem dX12_weights_92 : decode cX12_weights 92 = .ok (.iload 4, 2) := by decide +kernel
theorem dX12_weights_94 : decode cX12_weights 94 = .ok (.ifCond .eq 9, 3) := by decide +kernel
theorem dX12_weights_97 : decode cX12_weights 97 = .ok (.iconst 1, 1) := by decide +kernel
theorem dX12_weights_98 : decode cX12_weights 98 = .ok (.iload_n 3, 1) := by decide +kernel
theorem dX12_weights_99 : decode cX12_weights 99 = .ok (.ishl, 1) := by decide +kernel
theorem dX12_weights_100 : decode cX12_weights 100 = .ok (.goto 4, 3) := by decide +kernel
theorem dX12_weights_103 : decode cX12_weights 103 = .ok (.iconst 0, 1) := by decide +kernel
theorem dX12_weights_104 : decode cX12_weights 104 = .ok (.ior, 1) := by decide +kernel
theorem dX12_weights_105 : decode cX12_weights 105 = .ok (.istore_n 2, 1) := by decide +kernel
theorem dX12_weights_106 : decode cX12_weights 106 = .ok (.iinc 3 1, 3) := by decide +kernel
theorem dX12_weights_109 : decode cX12_weights 109 = .ok (.goto (-90), 3) := by decide +kernel
theorem dX12_weights_112 : decode cX12_weights 112 = .ok (.iload_n 2, 1) := by decide +kernel
theorem dX12_weights_113 : decode cX12_weights 113 = .ok (.ireturn, 1) := by decide +kernel
theorem dX12_factorial_0 : decode cX12_factorial 0 = .ok (.iconst 1, 1) := by decide +kernel
theorem dX12_factorial_1 : decode cX12_factorial 1 = .ok (.istore_n 1, 1) := by decide +kernel
theorem dX12_factorial_2 : decode cX12_factorial 2 = .ok (.iconst 2, 1) := by decide +kernel
theorem dX12_factorial_3 : decode cX12_factorial 3 = .ok (.istore_n 2, 1) := by decide +kernel
theorem dX12_factorial_4 : decode cX12_factorial 4 = .ok (.iload_n 2, 1) := by decide +kernel
theorem dX12_factorial_5 : decode cX12_factorial 5 = .ok (.iload_n 0, 1) := by decide +kernel
theorem dX12_factorial_6 : decode cX12_factorial 6 = .ok (.if_icmp .gt 13, 3) := by decide +kernel
theorem dX12_factorial_9 : decode cX12_factorial 9 = .ok (.iload_n 1, 1) := by decide +kernel
theorem dX12_factorial_10 : decode cX12_factorial 10 = .ok (.iload_n 2, 1) := by decide +kernel
theorem dX12_factorial_11 : decode cX12_factorial 11 = .ok (.imul, 1) := by decide +kernel
theorem dX12_factorial_12 : decode cX12_factorial 12 = .ok (.istore_n 1, 1) := by decide +kernel
theorem dX12_factorial_13 : decode cX12_factorial 13 = .ok (.iinc 2 1, 3) := by decide +kernel
theorem dX12_factorial_16 : decode cX12_factorial 16 = .ok (.goto (-12), 3) := by decide +kernel
theorem dX12_factorial_19 : decode cX12_factorial 19 = .ok (.iload_n 1, 1) := by decide +kernel
theorem dX12_factorial_20 : decode cX12_factorial 20 = .ok (.ireturn, 1) := by decide +kernel
theorem dX12_common_0 : decode cX12_common 0 = .ok (.iload_n 0, 1) := by decide +kernel
theorem dX12_common_1 : decode cX12_common 1 = .ok (.ifCond .ge 8, 3) := by decide +kernel
theorem dX12_common_4 : decode cX12_common 4 = .ok (.iload_n 0, 1) := by decide +kernel
theorem dX12_common_5 : decode cX12_common 5 = .ok (.ineg, 1) := by decide +kernel
theorem dX12_common_6 : decode cX12_common 6 = .ok (.goto 4, 3) := by decide +kernel
theorem dX12_common_9 : decode cX12_common 9 = .ok (.iload_n 0, 1) := by decide +kernel
theorem dX12_common_10 : decode cX12_common 10 = .ok (.istore_n 2, 1) := by decide +kernel
theorem dX12_common_11 : decode cX12_common 11 = .ok (.iload_n 1, 1) := by decide +kernel
theorem dX12_common_12 : decode cX12_common 12 = .ok (.istore_n 3, 1) := by decide +kernel
theorem dX12_common_13 : decode cX12_common 13 = .ok (.iload_n 3, 1) := by decide +kernel
theorem dX12_common_14 : decode cX12_common 14 = .ok (.ifCond .eq 16, 3) := by decide +kernel
theorem dX12_common_17 : decode cX12_common 17 = .ok (.iload_n 2, 1) := by decide +kernel
theorem dX12_common_18 : decode cX12_common 18 = .ok (.iload_n 3, 1) := by decide +kernel
theorem dX12_common_19 : decode cX12_common 19 = .ok (.irem, 1) := by decide +kernel
theorem dX12_common_20 : decode cX12_common 20 = .ok (.istore 4, 2) := by decide +kernel
theorem dX12_common_22 : decode cX12_common 22 = .ok (.iload_n 3, 1) := by decide +kernel
theorem dX12_common_23 : decode cX12_common 23 = .ok (.istore_n 2, 1) := by decide +kernel
theorem dX12_common_24 : decode cX12_common 24 = .ok (.iload 4, 2) := by decide +kernel
theorem dX12_common_26 : decode cX12_common 26 = .ok (.istore_n 3, 1) := by decide +kernel
theorem dX12_common_27 : decode cX12_common 27 = .ok (.goto (-14), 3) := by decide +kernel
theorem dX12_common_30 : decode cX12_common 30 = .ok (.iload_n 2, 1) := by decide +kernel
theorem dX12_common_31 : decode cX12_common 31 = .ok (.ireturn, 1) := by decide +kernel
set_option maxRecDepth 20000 in
theorem ggX12_rightBy_X12_layTrial : GoodIn wsX12_rightBy wsX12_layTrial := goodIn_r _ [6, 7, 52, 53, 54, 55, 56, 57, 58, 59, 60, 61, 62, 63, 64, 65, 66, 67, 68, 69, 70, 71, 72, 73, 74, 75, 76, 77, 78, 79, 80, 81] (by decide +kernel) (by decide +kernel)
set_option maxRecDepth 20000 in
theorem gX12_rightBy_X12_layTrial : GoodIn wsX12_rightBy (wsV RX12 172 RX12 yX12_layTrial wsX12_layTrial) := goodIn_app (goodIn_of _ (by decide +kernel)) ggX12_rightBy_X12_layTrial
set_option maxRecDepth 20000 in
theorem ggX12_rightBy_X12_has : GoodIn wsX12_rightBy wsX12_has := goodIn_r _ [10] (by decide +kernel) (by decide +kernel)
set_option maxRecDepth 20000 in
theorem gX12_rightBy_X12_has : GoodIn wsX12_rightBy (va_wsS RX12 151 yX12_has wsX12_has) := goodIn_app (goodIn_of _ (by decide +kernel)) ggX12_rightBy_X12_has
set_option maxRecDepth 20000 in
theorem ggX12_rightBy_X12_tossBy : GoodIn wsX12_rightBy wsX12_tossBy := goodIn_r _ [14, 15, 7, 16, 17, 18, 19, 5, 20, 21, 22, 1, 23, 24, 25, 26, 27, 28, 29, 30, 31, 32, 33, 34, 35, 36, 37, 38, 39, 40, 41, 42, 43, 44, 52, 53, 54, 55, 56, 57, 58, 59, 60, 61, 62, 63, 64, 65, 66, 67, 68, 69, 70, 71, 72, 73, 74, 75, 76, 77, 78, 79, 80, 81] (by decide +kernel) (by decide +kernel)
set_option maxRecDepth 20000 in
theorem gX12_rightBy_X12_tossBy : GoodIn wsX12_rightBy (wsV RX12 166 RX12 yX12_tossBy wsX12_tossBy) := goodIn_app (goodIn_of _ (by decide +kernel)) ggX12_rightBy_X12_tossBy
set_option maxRecDepth 20000 in
theorem ggX12_rightBy_X12_rightOn : GoodIn wsX12_rightBy wsX12_rightOn := goodIn_r _ [48, 15, 7, 37, 52, 53, 54, 55, 56, 57, 58, 59, 60, 61, 62, 63, 64, 65, 66, 67, 68, 69, 70, 71, 72, 73, 74, 75, 76, 77, 78, 79, 80, 81] (by decide +kernel) (by decide +kernel)
set_option maxRecDepth 20000 in
theorem gX12_rightBy_X12_rightOn : GoodIn wsX12_rightBy (wsV RX12 134 RX12 yX12_rightOn wsX12_rightOn) := goodIn_app (goodIn_of _ (by decide +kernel)) ggX12_rightBy_X12_rightOn
set_option maxRecDepth 20000 in
theorem ggX12_rightBy_X12_ones : GoodIn wsX12_rightBy wsX12_ones := goodIn_r _ [51] (by decide +kernel) (by decide +kernel)
set_option maxRecDepth 20000 in
theorem gX12_rightBy_X12_ones : GoodIn wsX12_rightBy (va_wsS RX12 186 yX12_ones wsX12_ones) := goodIn_app (goodIn_of _ (by decide +kernel)) ggX12_rightBy_X12_ones
theorem dX12_rightBy_0 : decode cX12_rightBy 0 = .ok (.aload_n 0, 1) := by decide +kernel
theorem dX12_rightBy_1 : decode cX12_rightBy 1 = .ok (.invokevirtual 172, 3) := by decide +kernel
theorem dX12_rightBy_4 : decode cX12_rightBy 4 = .ok (.iconst 0, 1) := by decide +kernel
theorem dX12_rightBy_5 : decode cX12_rightBy 5 = .ok (.istore_n 2, 1) := by decide +kernel
theorem dX12_rightBy_6 : decode cX12_rightBy 6 = .ok (.iload_n 2, 1) := by decide +kernel
theorem dX12_rightBy_7 : decode cX12_rightBy 7 = .ok (.aload_n 0, 1) := by decide +kernel
theorem dX12_rightBy_8 : decode cX12_rightBy 8 = .ok (.getfield 99, 3) := by decide +kernel
theorem dX12_rightBy_11 : decode cX12_rightBy 11 = .ok (.if_icmp .ge 25, 3) := by decide +kernel
theorem dX12_rightBy_14 : decode cX12_rightBy 14 = .ok (.iload_n 1, 1) := by decide +kernel
theorem dX12_rightBy_15 : decode cX12_rightBy 15 = .ok (.iload_n 2, 1) := by decide +kernel
theorem dX12_rightBy_16 : decode cX12_rightBy 16 = .ok (.invokestatic 151, 3) := by decide +kernel
theorem dX12_rightBy_19 : decode cX12_rightBy 19 = .ok (.ifCond .eq 11, 3) := by decide +kernel
theorem dX12_rightBy_22 : decode cX12_rightBy 22 = .ok (.aload_n 0, 1) := by decide +kernel
theorem dX12_rightBy_23 : decode cX12_rightBy 23 = .ok (.iconst 1, 1) := by decide +kernel
theorem dX12_rightBy_24 : decode cX12_rightBy 24 = .ok (.iload_n 2, 1) := by decide +kernel
theorem dX12_rightBy_25 : decode cX12_rightBy 25 = .ok (.iconst 0, 1) := by decide +kernel
theorem dX12_rightBy_26 : decode cX12_rightBy 26 = .ok (.invokevirtual 166, 3) := by decide +kernel
theorem dX12_rightBy_29 : decode cX12_rightBy 29 = .ok (.pop, 1) := by decide +kernel
theorem dX12_rightBy_30 : decode cX12_rightBy 30 = .ok (.iinc 2 1, 3) := by decide +kernel
theorem dX12_rightBy_33 : decode cX12_rightBy 33 = .ok (.goto (-27), 3) := by decide +kernel
theorem dX12_rightBy_36 : decode cX12_rightBy 36 = .ok (.aload_n 0, 1) := by decide +kernel
theorem dX12_rightBy_37 : decode cX12_rightBy 37 = .ok (.iconst 1, 1) := by decide +kernel
theorem dX12_rightBy_38 : decode cX12_rightBy 38 = .ok (.invokevirtual 134, 3) := by decide +kernel
theorem dX12_rightBy_41 : decode cX12_rightBy 41 = .ok (.invokestatic 186, 3) := by decide +kernel
theorem dX12_rightBy_44 : decode cX12_rightBy 44 = .ok (.ireturn, 1) := by decide +kernel
set_option maxRecDepth 20000 in
theorem ggX12_share_X12_isPerson : GoodIn wsX12_share wsX12_isPerson := goodIn_r _ [6, 1, 7, 8, 5, 9, 69, 70, 71, 72, 73, 74, 75, 76, 77, 78, 79, 80, 81, 82, 83, 84, 85, 86, 87, 88, 89, 90, 91, 92, 93, 94, 95, 96, 97, 98] (by decide +kernel) (by decide +kernel)
set_option maxRecDepth 20000 in
theorem gX12_share_X12_isPerson : GoodIn wsX12_share (wsV RX12 137 RX12 yX12_isPerson wsX12_isPerson) := goodIn_app (goodIn_of _ (by decide +kernel)) ggX12_share_X12_isPerson
set_option maxRecDepth 20000 in
theorem ggX12_share_X12_has : GoodIn wsX12_share wsX12_has := goodIn_r _ [12] (by decide +kernel) (by decide +kernel)
set_option maxRecDepth 20000 in
theorem gX12_share_X12_has : GoodIn wsX12_share (va_wsS RX12 151 yX12_has wsX12_has) := goodIn_app (goodIn_of _ (by decide +kernel)) ggX12_share_X12_has
set_option maxRecDepth 20000 in
theorem ggX12_share_X12_ones : GoodIn wsX12_share wsX12_ones := goodIn_r _ [15] (by decide +kernel) (by decide +kernel)
set_option maxRecDepth 20000 in
theorem gX12_share_X12_ones : GoodIn wsX12_share (va_wsS RX12 186 yX12_ones wsX12_ones) := goodIn_app (goodIn_of _ (by decide +kernel)) ggX12_share_X12_ones
set_option maxRecDepth 20000 in
theorem ggX12_share_X12_factorial : GoodIn wsX12_share wsX12_factorial := goodIn_r _ [18] (by decide +kernel) (by decide +kernel)
set_option maxRecDepth 20000 in
theorem gX12_share_X12_factorial : GoodIn wsX12_share (va_wsS RX12 210 yX12_factorial wsX12_factorial) := goodIn_app (goodIn_of _ (by decide +kernel)) ggX12_share_X12_factorial
set_option maxRecDepth 20000 in
theorem ggX12_share_X12_rightBy : GoodIn wsX12_share wsX12_rightBy := goodIn_r _ [22, 1, 23, 24, 25, 5, 26, 27, 10, 11, 12, 28, 29, 30, 31, 32, 33, 34, 35, 36, 37, 38, 39, 40, 41, 42, 43, 44, 45, 46, 47, 48, 49, 50, 51, 52, 53, 54, 55, 56, 57, 58, 59, 60, 61, 62, 63, 64, 65, 13, 14, 15, 69, 70, 71, 72, 73, 74, 75, 76, 77, 78, 79, 80, 81, 82, 83, 84, 85, 86, 87, 88, 89, 90, 91, 92, 93, 94, 95, 96, 97, 98] (by decide +kernel) (by decide +kernel)
set_option maxRecDepth 20000 in
theorem gX12_share_X12_rightBy : GoodIn wsX12_share (wsV RX12 213 RX12 yX12_rightBy wsX12_rightBy) := goodIn_app (goodIn_of _ (by decide +kernel)) ggX12_share_X12_rightBy
set_option maxRecDepth 20000 in
theorem ggX12_share_X12_common : GoodIn wsX12_share wsX12_common := goodIn_r _ [68] (by decide +kernel) (by decide +kernel)
set_option maxRecDepth 20000 in
theorem gX12_share_X12_common : GoodIn wsX12_share (va_wsS RX12 216 yX12_common wsX12_common) := goodIn_app (goodIn_of _ (by decide +kernel)) ggX12_share_X12_common
theorem dX12_share_0 : decode cX12_share 0 = .ok (.aload_n 0, 1) := by decide +kernel
theorem dX12_share_1 : decode cX12_share 1 = .ok (.iload_n 1, 1) := by decide +kernel
theorem dX12_share_2 : decode cX12_share 2 = .ok (.invokevirtual 137, 3) := by decide +kernel
theorem dX12_share_5 : decode cX12_share 5 = .ok (.ifCond .ne 5, 3) := by decide +kernel
theorem dX12_share_8 : decode cX12_share 8 = .ok (.iconst (-1), 1) := by decide +kernel
theorem dX12_share_9 : decode cX12_share 9 = .ok (.ireturn, 1) := by decide +kernel
theorem dX12_share_10 : decode cX12_share 10 = .ok (.iconst 0, 1) := by decide +kernel
theorem dX12_share_11 : decode cX12_share 11 = .ok (.istore_n 3, 1) := by decide +kernel
theorem dX12_share_12 : decode cX12_share 12 = .ok (.iconst 0, 1) := by decide +kernel
theorem dX12_share_13 : decode cX12_share 13 = .ok (.istore 4, 2) := by decide +kernel
theorem dX12_share_15 : decode cX12_share 15 = .ok (.iload 4, 2) := by decide +kernel
theorem dX12_share_17 : decode cX12_share 17 = .ok (.iconst 1, 1) := by decide +kernel
theorem dX12_share_18 : decode cX12_share 18 = .ok (.aload_n 0, 1) := by decide +kernel
theorem dX12_share_19 : decode cX12_share 19 = .ok (.getfield 99, 3) := by decide +kernel
theorem dX12_share_22 : decode cX12_share 22 = .ok (.ishl, 1) := by decide +kernel
theorem dX12_share_23 : decode cX12_share 23 = .ok (.if_icmp .ge 67, 3) := by decide +kernel
theorem dX12_share_26 : decode cX12_share 26 = .ok (.iload 4, 2) := by decide +kernel
theorem dX12_share_28 : decode cX12_share 28 = .ok (.iload_n 1, 1) := by decide +kernel
theorem dX12_share_29 : decode cX12_share 29 = .ok (.invokestatic 151, 3) := by decide +kernel
theorem dX12_share_32 : decode cX12_share 32 = .ok (.ifCond .ne 52, 3) := by decide +kernel
theorem dX12_share_35 : decode cX12_share 35 = .ok (.iload 4, 2) := by decide +kernel
theorem dX12_share_37 : decode cX12_share 37 = .ok (.invokestatic 186, 3) := by decide +kernel
theorem dX12_share_40 : decode cX12_share 40 = .ok (.invokestatic 210, 3) := by decide +kernel
theorem dX12_share_43 : decode cX12_share 43 = .ok (.aload_n 0, 1) := by decide +kernel
theorem dX12_share_44 : decode cX12_share 44 = .ok (.getfield 99, 3) := by decide +kernel
theorem dX12_share_47 : decode cX12_share 47 = .ok (.iconst 1, 1) := by decide +kernel
theorem dX12_share_48 : decode cX12_share 48 = .ok (.isub, 1) := by decide +kernel
theorem dX12_share_49 : decode cX12_share 49 = .ok (.iload 4, 2) := by decide +kernel
theorem dX12_share_51 : decode cX12_share 51 = .ok (.invokestatic 186, 3) := by decide +kernel
theorem dX12_share_54 : decode cX12_share 54 = .ok (.isub, 1) := by decide +kernel
theorem dX12_share_55 : decode cX12_share 55 = .ok (.invokestatic 210, 3) := by decide +kernel
theorem dX12_share_58 : decode cX12_share 58 = .ok (.imul, 1) := by decide +kernel
theorem dX12_share_59 : decode cX12_share 59 = .ok (.istore 5, 2) := by decide +kernel
theorem dX12_share_61 : decode cX12_share 61 = .ok (.iload_n 3, 1) := by decide +kernel
theorem dX12_share_62 : decode cX12_share 62 = .ok (.iload 5, 2) := by decide +kernel
theorem dX12_share_64 : decode cX12_share 64 = .ok (.aload_n 0, 1) := by decide +kernel
theorem dX12_share_65 : decode cX12_share 65 = .ok (.iload 4, 2) := by decide +kernel
theorem dX12_share_67 : decode cX12_share 67 = .ok (.iconst 1, 1) := by decide +kernel
theorem dX12_share_68 : decode cX12_share 68 = .ok (.iload_n 1, 1) := by decide +kernel
theorem dX12_share_69 : decode cX12_share 69 = .ok (.ishl, 1) := by decide +kernel
theorem dX12_share_70 : decode cX12_share 70 = .ok (.ior, 1) := by decide +kernel
theorem dX12_share_71 : decode cX12_share 71 = .ok (.invokevirtual 213, 3) := by decide +kernel
theorem dX12_share_74 : decode cX12_share 74 = .ok (.aload_n 0, 1) := by decide +kernel
theorem dX12_share_75 : decode cX12_share 75 = .ok (.iload 4, 2) := by decide +kernel
theorem dX12_share_77 : decode cX12_share 77 = .ok (.invokevirtual 213, 3) := by decide +kernel
theorem dX12_share_80 : decode cX12_share 80 = .ok (.isub, 1) := by decide +kernel
theorem dX12_share_81 : decode cX12_share 81 = .ok (.imul, 1) := by decide +kernel
theorem dX12_share_82 : decode cX12_share 82 = .ok (.iadd, 1) := by decide +kernel
theorem dX12_share_83 : decode cX12_share 83 = .ok (.istore_n 3, 1) := by decide +kernel
theorem dX12_share_84 : decode cX12_share 84 = .ok (.iinc 4 1, 3) := by decide +kernel
theorem dX12_share_87 : decode cX12_share 87 = .ok (.goto (-72), 3) := by decide +kernel
theorem dX12_share_90 : decode cX12_share 90 = .ok (.iload_n 3, 1) := by decide +kernel
theorem dX12_share_91 : decode cX12_share 91 = .ok (.aload_n 0, 1) := by decide +kernel
theorem dX12_share_92 : decode cX12_share 92 = .ok (.getfield 99, 3) := by decide +kernel
theorem dX12_share_95 : decode cX12_share 95 = .ok (.invokestatic 210, 3) := by decide +kernel
theorem dX12_share_98 : decode cX12_share 98 = .ok (.invokestatic 216, 3) := by decide +kernel
theorem dX12_share_101 : decode cX12_share 101 = .ok (.istore 4, 2) := by decide +kernel
theorem dX12_share_103 : decode cX12_share 103 = .ok (.iload_n 2, 1) := by decide +kernel
theorem dX12_share_104 : decode cX12_share 104 = .ok (.ifCond .eq 10, 3) := by decide +kernel
theorem dX12_share_107 : decode cX12_share 107 = .ok (.iload_n 3, 1) := by decide +kernel
theorem dX12_share_108 : decode cX12_share 108 = .ok (.iload 4, 2) := by decide +kernel
theorem dX12_share_110 : decode cX12_share 110 = .ok (.idiv, 1) := by decide +kernel
theorem dX12_share_111 : decode cX12_share 111 = .ok (.goto 13, 3) := by decide +kernel
theorem dX12_share_114 : decode cX12_share 114 = .ok (.aload_n 0, 1) := by decide +kernel
theorem dX12_share_115 : decode cX12_share 115 = .ok (.getfield 99, 3) := by decide +kernel
theorem dX12_share_118 : decode cX12_share 118 = .ok (.invokestatic 210, 3) := by decide +kernel
theorem dX12_share_121 : decode cX12_share 121 = .ok (.iload 4, 2) := by decide +kernel
theorem dX12_share_123 : decode cX12_share 123 = .ok (.idiv, 1) := by decide +kernel
theorem dX12_share_124 : decode cX12_share 124 = .ok (.ireturn, 1) := by decide +kernel
set_option maxRecDepth 20000 in
theorem ggX12_lightens_X12_layTrial : GoodIn wsX12_lightens wsX12_layTrial := goodIn_r _ [9, 1, 32, 33, 34, 35, 36, 37, 38, 39, 40, 41, 42, 43, 44, 45, 46, 47, 48, 49, 50, 51, 52, 53, 54, 55, 56, 57, 58, 59, 60, 61] (by decide +kernel) (by decide +kernel)
set_option maxRecDepth 20000 in
theorem gX12_lightens_X12_layTrial : GoodIn wsX12_lightens (wsV RX12 172 RX12 yX12_layTrial wsX12_layTrial) := goodIn_app (goodIn_of _ (by decide +kernel)) ggX12_lightens_X12_layTrial
set_option maxRecDepth 20000 in
theorem ggX12_lightens_X12_liftAt : GoodIn wsX12_lightens wsX12_liftAt := goodIn_r _ [13, 1, 14, 15, 16, 17, 8, 18, 19, 20, 32, 33, 34, 35, 36, 37, 38, 39, 40, 41, 42, 43, 44, 45, 46, 47, 48, 49, 50, 51, 52, 53, 54, 55, 56, 57, 58, 59, 60, 61] (by decide +kernel) (by decide +kernel)
set_option maxRecDepth 20000 in
theorem gX12_lightens_X12_liftAt : GoodIn wsX12_lightens (wsV RX12 122 RX12 yX12_liftAt wsX12_liftAt) := goodIn_app (goodIn_of _ (by decide +kernel)) ggX12_lightens_X12_liftAt
set_option maxRecDepth 20000 in
theorem ggX12_lightens_X12_flies : GoodIn wsX12_lightens wsX12_flies := goodIn_r _ [24, 14, 25, 1, 3, 4, 26, 27, 8, 28, 29, 30, 31, 32, 33, 34, 35, 36, 37, 38, 39, 40, 41, 42, 43, 44, 45, 46, 47, 48, 49, 50, 51, 52, 53, 54, 55, 56, 57, 58, 59, 60, 61] (by decide +kernel) (by decide +kernel)
set_option maxRecDepth 20000 in
theorem gX12_lightens_X12_flies : GoodIn wsX12_lightens (wsV RX12 125 RX12 yX12_flies wsX12_flies) := goodIn_app (goodIn_of _ (by decide +kernel)) ggX12_lightens_X12_flies
theorem dX12_lightens_0 : decode cX12_lightens 0 = .ok (.aload_n 0, 1) := by decide +kernel
theorem dX12_lightens_1 : decode cX12_lightens 1 = .ok (.invokevirtual 172, 3) := by decide +kernel
theorem dX12_lightens_4 : decode cX12_lightens 4 = .ok (.aload_n 0, 1) := by decide +kernel
theorem dX12_lightens_5 : decode cX12_lightens 5 = .ok (.getfield 25, 3) := by decide +kernel
theorem dX12_lightens_8 : decode cX12_lightens 8 = .ok (.bipush 16, 2) := by decide +kernel
theorem dX12_lightens_10 : decode cX12_lightens 10 = .ok (.iload_n 2, 1) := by decide +kernel
theorem dX12_lightens_11 : decode cX12_lightens 11 = .ok (.ifCond .eq 7, 3) := by decide +kernel
theorem dX12_lightens_14 : decode cX12_lightens 14 = .ok (.iload_n 1, 1) := by decide +kernel
theorem dX12_lightens_15 : decode cX12_lightens 15 = .ok (.goto 10, 3) := by decide +kernel
theorem dX12_lightens_18 : decode cX12_lightens 18 = .ok (.aload_n 0, 1) := by decide +kernel
theorem dX12_lightens_19 : decode cX12_lightens 19 = .ok (.getfield 25, 3) := by decide +kernel
theorem dX12_lightens_22 : decode cX12_lightens 22 = .ok (.bipush 7, 2) := by decide +kernel
theorem dX12_lightens_24 : decode cX12_lightens 24 = .ok (.iaload, 1) := by decide +kernel
theorem dX12_lightens_25 : decode cX12_lightens 25 = .ok (.iastore, 1) := by decide +kernel
theorem dX12_lightens_26 : decode cX12_lightens 26 = .ok (.aload_n 0, 1) := by decide +kernel
theorem dX12_lightens_27 : decode cX12_lightens 27 = .ok (.iconst 1, 1) := by decide +kernel
theorem dX12_lightens_28 : decode cX12_lightens 28 = .ok (.iload_n 1, 1) := by decide +kernel
theorem dX12_lightens_29 : decode cX12_lightens 29 = .ok (.iconst 0, 1) := by decide +kernel
theorem dX12_lightens_30 : decode cX12_lightens 30 = .ok (.invokevirtual 122, 3) := by decide +kernel
theorem dX12_lightens_33 : decode cX12_lightens 33 = .ok (.istore_n 3, 1) := by decide +kernel
theorem dX12_lightens_34 : decode cX12_lightens 34 = .ok (.iconst 0, 1) := by decide +kernel
theorem dX12_lightens_35 : decode cX12_lightens 35 = .ok (.istore 4, 2) := by decide +kernel
theorem dX12_lightens_37 : decode cX12_lightens 37 = .ok (.iconst 0, 1) := by decide +kernel
theorem dX12_lightens_38 : decode cX12_lightens 38 = .ok (.istore 5, 2) := by decide +kernel
theorem dX12_lightens_40 : decode cX12_lightens 40 = .ok (.iload 5, 2) := by decide +kernel
theorem dX12_lightens_42 : decode cX12_lightens 42 = .ok (.aload_n 0, 1) := by decide +kernel
theorem dX12_lightens_43 : decode cX12_lightens 43 = .ok (.getfield 105, 3) := by decide +kernel
theorem dX12_lightens_46 : decode cX12_lightens 46 = .ok (.if_icmp .ge 58, 3) := by decide +kernel
theorem dX12_lightens_49 : decode cX12_lightens 49 = .ok (.iload 4, 2) := by decide +kernel
theorem dX12_lightens_51 : decode cX12_lightens 51 = .ok (.aload_n 0, 1) := by decide +kernel
theorem dX12_lightens_52 : decode cX12_lightens 52 = .ok (.getfield 25, 3) := by decide +kernel
theorem dX12_lightens_55 : decode cX12_lightens 55 = .ok (.iload 5, 2) := by decide +kernel
theorem dX12_lightens_57 : decode cX12_lightens 57 = .ok (.iaload, 1) := by decide +kernel
theorem dX12_lightens_58 : decode cX12_lightens 58 = .ok (.iload_n 1, 1) := by decide +kernel
theorem dX12_lightens_59 : decode cX12_lightens 59 = .ok (.if_icmp .ne 35, 3) := by decide +kernel
theorem dX12_lightens_62 : decode cX12_lightens 62 = .ok (.aload_n 0, 1) := by decide +kernel
theorem dX12_lightens_63 : decode cX12_lightens 63 = .ok (.getfield 19, 3) := by decide +kernel
theorem dX12_lightens_66 : decode cX12_lightens 66 = .ok (.iload 5, 2) := by decide +kernel
theorem dX12_lightens_68 : decode cX12_lightens 68 = .ok (.iaload, 1) := by decide +kernel
theorem dX12_lightens_69 : decode cX12_lightens 69 = .ok (.iconst 1, 1) := by decide +kernel
theorem dX12_lightens_70 : decode cX12_lightens 70 = .ok (.if_icmp .eq 24, 3) := by decide +kernel
theorem dX12_lightens_73 : decode cX12_lightens 73 = .ok (.aload_n 0, 1) := by decide +kernel
theorem dX12_lightens_74 : decode cX12_lightens 74 = .ok (.iconst 1, 1) := by decide +kernel
theorem dX12_lightens_75 : decode cX12_lightens 75 = .ok (.iload 5, 2) := by decide +kernel
theorem dX12_lightens_77 : decode cX12_lightens 77 = .ok (.iload_n 3, 1) := by decide +kernel
theorem dX12_lightens_78 : decode cX12_lightens 78 = .ok (.invokevirtual 125, 3) := by decide +kernel
theorem dX12_lightens_81 : decode cX12_lightens 81 = .ok (.ifCond .le 13, 3) := by decide +kernel
theorem dX12_lightens_84 : decode cX12_lightens 84 = .ok (.aload_n 0, 1) := by decide +kernel
theorem dX12_lightens_85 : decode cX12_lightens 85 = .ok (.getfield 16, 3) := by decide +kernel
theorem dX12_lightens_88 : decode cX12_lightens 88 = .ok (.iload 5, 2) := by decide +kernel
theorem dX12_lightens_90 : decode cX12_lightens 90 = .ok (.iaload, 1) := by decide +kernel
theorem dX12_lightens_91 : decode cX12_lightens 91 = .ok (.goto 4, 3) := by decide +kernel
theorem dX12_lightens_94 : decode cX12_lightens 94 = .ok (.iconst 0, 1) := by decide +kernel
theorem dX12_lightens_95 : decode cX12_lightens 95 = .ok (.iadd, 1) := by decide +kernel
theorem dX12_lightens_96 : decode cX12_lightens 96 = .ok (.istore 4, 2) := by decide +kernel
theorem dX12_lightens_98 : decode cX12_lightens 98 = .ok (.iinc 5 1, 3) := by decide +kernel
theorem dX12_lightens_101 : decode cX12_lightens 101 = .ok (.goto (-61), 3) := by decide +kernel
theorem dX12_lightens_104 : decode cX12_lightens 104 = .ok (.iload 4, 2) := by decide +kernel
theorem dX12_lightens_106 : decode cX12_lightens 106 = .ok (.ireturn, 1) := by decide +kernel
set_option maxRecDepth 20000 in
theorem ggX12_gain_X12_lightens : GoodIn wsX12_gain wsX12_lightens := goodIn_r _ [5, 6, 7, 8, 9, 10, 11, 12, 4, 13, 14, 15, 16, 17, 18, 19, 20, 21, 22, 23, 24, 25, 26, 27, 28, 29, 30, 31, 32, 33, 34, 35, 36, 37, 38, 39, 40, 41, 42, 43, 44, 45, 46, 47, 48, 49, 50, 51, 52, 53, 54, 55, 56, 57, 58, 59, 60, 61, 62, 63, 64, 65] (by decide +kernel) (by decide +kernel)
set_option maxRecDepth 20000 in
theorem gX12_gain_X12_lightens : GoodIn wsX12_gain (wsV RX12 219 RX12 yX12_lightens wsX12_lightens) := goodIn_app (goodIn_of _ (by decide +kernel)) ggX12_gain_X12_lightens
theorem dX12_gain_0 : decode cX12_gain 0 = .ok (.iload_n 2, 1) := by decide +kernel
theorem dX12_gain_1 : decode cX12_gain 1 = .ok (.iconst 1, 1) := by decide +kernel
theorem dX12_gain_2 : decode cX12_gain 2 = .ok (.if_icmp .ne 13, 3) := by decide +kernel
theorem dX12_gain_5 : decode cX12_gain 5 = .ok (.iload_n 3, 1) := by decide +kernel
theorem dX12_gain_6 : decode cX12_gain 6 = .ok (.iconst 1, 1) := by decide +kernel
theorem dX12_gain_7 : decode cX12_gain 7 = .ok (.if_icmp .ne 8, 3) := by decide +kernel
theorem dX12_gain_10 : decode cX12_gain 10 = .ok (.bipush (-2), 2) := by decide +kernel
theorem dX12_gain_12 : decode cX12_gain 12 = .ok (.goto 18, 3) := by decide +kernel
theorem dX12_gain_15 : decode cX12_gain 15 = .ok (.aload_n 0, 1) := by decide +kernel
theorem dX12_gain_16 : decode cX12_gain 16 = .ok (.iload_n 1, 1) := by decide +kernel
theorem dX12_gain_17 : decode cX12_gain 17 = .ok (.iload_n 2, 1) := by decide +kernel
theorem dX12_gain_18 : decode cX12_gain 18 = .ok (.iconst 1, 1) := by decide +kernel
theorem dX12_gain_19 : decode cX12_gain 19 = .ok (.if_icmp .ne 7, 3) := by decide +kernel
theorem dX12_gain_22 : decode cX12_gain 22 = .ok (.iconst 1, 1) := by decide +kernel
theorem dX12_gain_23 : decode cX12_gain 23 = .ok (.goto 4, 3) := by decide +kernel
theorem dX12_gain_26 : decode cX12_gain 26 = .ok (.iconst 0, 1) := by decide +kernel
theorem dX12_gain_27 : decode cX12_gain 27 = .ok (.invokevirtual 219, 3) := by decide +kernel
theorem dX12_gain_30 : decode cX12_gain 30 = .ok (.ireturn, 1) := by decide +kernel
set_option maxRecDepth 20000 in
theorem ggX12_isRest_X12_gain : GoodIn wsX12_isRest wsX12_gain := goodIn_r _ [5, 6, 7, 8, 4, 9, 10, 11, 12, 13, 14, 15, 16, 17, 18, 19, 20, 21, 22, 23, 24, 25, 26, 27, 28, 29, 30, 31, 32, 33, 34, 35, 36, 37, 38, 39, 40, 41, 42, 43, 44, 45, 46, 47, 48, 49, 50, 51, 52, 53, 54, 55, 56, 57, 58, 59, 60, 61, 62, 63, 64, 65, 66, 67, 68, 69] (by decide +kernel) (by decide +kernel)
set_option maxRecDepth 20000 in
theorem gX12_isRest_X12_gain : GoodIn wsX12_isRest (wsV RX12 223 RX12 yX12_gain wsX12_gain) := goodIn_app (goodIn_of _ (by decide +kernel)) ggX12_isRest_X12_gain
theorem dX12_isRest_0 : decode cX12_isRest 0 = .ok (.aload_n 0, 1) := by decide +kernel
theorem dX12_isRest_1 : decode cX12_isRest 1 = .ok (.iload_n 1, 1) := by decide +kernel
theorem dX12_isRest_2 : decode cX12_isRest 2 = .ok (.iconst 1, 1) := by decide +kernel
theorem dX12_isRest_3 : decode cX12_isRest 3 = .ok (.iload_n 3, 1) := by decide +kernel
theorem dX12_isRest_4 : decode cX12_isRest 4 = .ok (.isub, 1) := by decide +kernel
theorem dX12_isRest_5 : decode cX12_isRest 5 = .ok (.iload 4, 2) := by decide +kernel
theorem dX12_isRest_7 : decode cX12_isRest 7 = .ok (.invokevirtual 223, 3) := by decide +kernel
theorem dX12_isRest_10 : decode cX12_isRest 10 = .ok (.aload_n 0, 1) := by decide +kernel
theorem dX12_isRest_11 : decode cX12_isRest 11 = .ok (.iload_n 1, 1) := by decide +kernel
theorem dX12_isRest_12 : decode cX12_isRest 12 = .ok (.iload_n 3, 1) := by decide +kernel
theorem dX12_isRest_13 : decode cX12_isRest 13 = .ok (.iload 4, 2) := by decide +kernel
theorem dX12_isRest_15 : decode cX12_isRest 15 = .ok (.invokevirtual 223, 3) := by decide +kernel
theorem dX12_isRest_18 : decode cX12_isRest 18 = .ok (.if_icmp .gt 28, 3) := by decide +kernel
theorem dX12_isRest_21 : decode cX12_isRest 21 = .ok (.aload_n 0, 1) := by decide +kernel
theorem dX12_isRest_22 : decode cX12_isRest 22 = .ok (.iload_n 2, 1) := by decide +kernel
theorem dX12_isRest_23 : decode cX12_isRest 23 = .ok (.iconst 1, 1) := by decide +kernel
theorem dX12_isRest_24 : decode cX12_isRest 24 = .ok (.iload 4, 2) := by decide +kernel
theorem dX12_isRest_26 : decode cX12_isRest 26 = .ok (.isub, 1) := by decide +kernel
theorem dX12_isRest_27 : decode cX12_isRest 27 = .ok (.iload_n 3, 1) := by decide +kernel
theorem dX12_isRest_28 : decode cX12_isRest 28 = .ok (.invokevirtual 223, 3) := by decide +kernel
theorem dX12_isRest_31 : decode cX12_isRest 31 = .ok (.aload_n 0, 1) := by decide +kernel
theorem dX12_isRest_32 : decode cX12_isRest 32 = .ok (.iload_n 2, 1) := by decide +kernel
theorem dX12_isRest_33 : decode cX12_isRest 33 = .ok (.iload 4, 2) := by decide +kernel
theorem dX12_isRest_35 : decode cX12_isRest 35 = .ok (.iload_n 3, 1) := by decide +kernel
theorem dX12_isRest_36 : decode cX12_isRest 36 = .ok (.invokevirtual 223, 3) := by decide +kernel
theorem dX12_isRest_39 : decode cX12_isRest 39 = .ok (.if_icmp .gt 7, 3) := by decide +kernel
theorem dX12_isRest_42 : decode cX12_isRest 42 = .ok (.iconst 1, 1) := by decide +kernel
theorem dX12_isRest_43 : decode cX12_isRest 43 = .ok (.goto 4, 3) := by decide +kernel
theorem dX12_isRest_46 : decode cX12_isRest 46 = .ok (.iconst 0, 1) := by decide +kernel
theorem dX12_isRest_47 : decode cX12_isRest 47 = .ok (.ireturn, 1) := by decide +kernel
set_option maxRecDepth 20000 in
theorem ggX12_rests_X12_isPerson : GoodIn wsX12_rests wsX12_isPerson := goodIn_r _ [5, 6, 7, 8, 4, 9, 52, 53, 54, 55, 56, 57, 58, 59, 60, 61, 62, 63, 64, 65, 66, 67, 68, 69, 70, 71, 72, 73, 74, 75, 76, 77, 78, 79, 80, 81] (by decide +kernel) (by decide +kernel)
set_option maxRecDepth 20000 in
theorem gX12_rests_X12_isPerson : GoodIn wsX12_rests (wsV RX12 137 RX12 yX12_isPerson wsX12_isPerson) := goodIn_app (goodIn_of _ (by decide +kernel)) ggX12_rests_X12_isPerson
set_option maxRecDepth 20000 in
theorem ggX12_rests_X12_in : GoodIn wsX12_rests wsX12_in := goodIn_r _ [9] (by decide +kernel) (by decide +kernel)
set_option maxRecDepth 20000 in
theorem gX12_rests_X12_in : GoodIn wsX12_rests (va_wsS RX12 64 yX12_in wsX12_in) := goodIn_app (goodIn_of _ (by decide +kernel)) ggX12_rests_X12_in
set_option maxRecDepth 20000 in
theorem ggX12_rests_X12_isRest : GoodIn wsX12_rests wsX12_isRest := goodIn_r _ [13, 14, 15, 16, 4, 17, 18, 19, 20, 21, 22, 23, 24, 25, 26, 27, 28, 29, 30, 31, 32, 33, 34, 35, 36, 37, 38, 39, 40, 41, 42, 43, 44, 45, 46, 47, 48, 49, 50, 51, 52, 53, 54, 55, 56, 57, 58, 59, 60, 61, 62, 63, 64, 65, 66, 67, 68, 69, 70, 71, 72, 73, 74, 75, 76, 77, 78, 79, 80, 81] (by decide +kernel) (by decide +kernel)
set_option maxRecDepth 20000 in
theorem gX12_rests_X12_isRest : GoodIn wsX12_rests (wsV RX12 226 RX12 yX12_isRest wsX12_isRest) := goodIn_app (goodIn_of _ (by decide +kernel)) ggX12_rests_X12_isRest
theorem dX12_rests_0 : decode cX12_rests 0 = .ok (.aload_n 0, 1) := by decide +kernel
theorem dX12_rests_1 : decode cX12_rests 1 = .ok (.iload_n 1, 1) := by decide +kernel
theorem dX12_rests_2 : decode cX12_rests 2 = .ok (.invokevirtual 137, 3) := by decide +kernel
theorem dX12_rests_5 : decode cX12_rests 5 = .ok (.ifCond .eq 11, 3) := by decide +kernel
theorem dX12_rests_8 : decode cX12_rests 8 = .ok (.aload_n 0, 1) := by decide +kernel
theorem dX12_rests_9 : decode cX12_rests 9 = .ok (.iload_n 2, 1) := by decide +kernel
theorem dX12_rests_10 : decode cX12_rests 10 = .ok (.invokevirtual 137, 3) := by decide +kernel
theorem dX12_rests_13 : decode cX12_rests 13 = .ok (.ifCond .ne 5, 3) := by decide +kernel
theorem dX12_rests_16 : decode cX12_rests 16 = .ok (.iconst (-1), 1) := by decide +kernel
theorem dX12_rests_17 : decode cX12_rests 17 = .ok (.ireturn, 1) := by decide +kernel
theorem dX12_rests_18 : decode cX12_rests 18 = .ok (.iload_n 1, 1) := by decide +kernel
theorem dX12_rests_19 : decode cX12_rests 19 = .ok (.iload_n 2, 1) := by decide +kernel
theorem dX12_rests_20 : decode cX12_rests 20 = .ok (.if_icmp .eq 13, 3) := by decide +kernel
theorem dX12_rests_23 : decode cX12_rests 23 = .ok (.iload_n 3, 1) := by decide +kernel
theorem dX12_rests_24 : decode cX12_rests 24 = .ok (.i2l, 1) := by decide +kernel
theorem dX12_rests_25 : decode cX12_rests 25 = .ok (.lconst 0, 1) := by decide +kernel
theorem dX12_rests_26 : decode cX12_rests 26 = .ok (.lconst 1, 1) := by decide +kernel
theorem dX12_rests_27 : decode cX12_rests 27 = .ok (.invokestatic 64, 3) := by decide +kernel
theorem dX12_rests_30 : decode cX12_rests 30 = .ok (.ifCond .ne 6, 3) := by decide +kernel
theorem dX12_rests_33 : decode cX12_rests 33 = .ok (.bipush (-2), 2) := by decide +kernel
theorem dX12_rests_35 : decode cX12_rests 35 = .ok (.ireturn, 1) := by decide +kernel
theorem dX12_rests_36 : decode cX12_rests 36 = .ok (.iconst 0, 1) := by decide +kernel
theorem dX12_rests_37 : decode cX12_rests 37 = .ok (.istore 4, 2) := by decide +kernel
theorem dX12_rests_39 : decode cX12_rests 39 = .ok (.bipush (-9), 2) := by decide +kernel
theorem dX12_rests_41 : decode cX12_rests 41 = .ok (.istore 5, 2) := by decide +kernel
theorem dX12_rests_43 : decode cX12_rests 43 = .ok (.iconst 0, 1) := by decide +kernel
theorem dX12_rests_44 : decode cX12_rests 44 = .ok (.istore 6, 2) := by decide +kernel
theorem dX12_rests_46 : decode cX12_rests 46 = .ok (.iload 6, 2) := by decide +kernel
theorem dX12_rests_48 : decode cX12_rests 48 = .ok (.iconst 4, 1) := by decide +kernel
theorem dX12_rests_49 : decode cX12_rests 49 = .ok (.if_icmp .ge 53, 3) := by decide +kernel
theorem dX12_rests_52 : decode cX12_rests 52 = .ok (.aload_n 0, 1) := by decide +kernel
theorem dX12_rests_53 : decode cX12_rests 53 = .ok (.iload_n 1, 1) := by decide +kernel
theorem dX12_rests_54 : decode cX12_rests 54 = .ok (.iload_n 2, 1) := by decide +kernel
theorem dX12_rests_55 : decode cX12_rests 55 = .ok (.iload 6, 2) := by decide +kernel
theorem dX12_rests_57 : decode cX12_rests 57 = .ok (.iconst 2, 1) := by decide +kernel
theorem dX12_rests_58 : decode cX12_rests 58 = .ok (.idiv, 1) := by decide +kernel
theorem dX12_rests_59 : decode cX12_rests 59 = .ok (.iload 6, 2) := by decide +kernel
theorem dX12_rests_61 : decode cX12_rests 61 = .ok (.iconst 2, 1) := by decide +kernel
theorem dX12_rests_62 : decode cX12_rests 62 = .ok (.irem, 1) := by decide +kernel
theorem dX12_rests_63 : decode cX12_rests 63 = .ok (.invokevirtual 226, 3) := by decide +kernel
theorem dX12_rests_66 : decode cX12_rests 66 = .ok (.ifCond .eq 30, 3) := by decide +kernel
theorem dX12_rests_69 : decode cX12_rests 69 = .ok (.iload 4, 2) := by decide +kernel
theorem dX12_rests_71 : decode cX12_rests 71 = .ok (.ifCond .ne 18, 3) := by decide +kernel
theorem dX12_rests_74 : decode cX12_rests 74 = .ok (.bipush 10, 2) := by decide +kernel
theorem dX12_rests_76 : decode cX12_rests 76 = .ok (.iload 6, 2) := by decide +kernel
theorem dX12_rests_78 : decode cX12_rests 78 = .ok (.iconst 2, 1) := by decide +kernel
theorem dX12_rests_79 : decode cX12_rests 79 = .ok (.idiv, 1) := by decide +kernel
theorem dX12_rests_80 : decode cX12_rests 80 = .ok (.imul, 1) := by decide +kernel
theorem dX12_rests_81 : decode cX12_rests 81 = .ok (.iload 6, 2) := by decide +kernel
theorem dX12_rests_83 : decode cX12_rests 83 = .ok (.iconst 2, 1) := by decide +kernel
theorem dX12_rests_84 : decode cX12_rests 84 = .ok (.irem, 1) := by decide +kernel
theorem dX12_rests_85 : decode cX12_rests 85 = .ok (.iadd, 1) := by decide +kernel
theorem dX12_rests_86 : decode cX12_rests 86 = .ok (.goto 5, 3) := by decide +kernel
theorem dX12_rests_89 : decode cX12_rests 89 = .ok (.iload 5, 2) := by decide +kernel
theorem dX12_rests_91 : decode cX12_rests 91 = .ok (.istore 5, 2) := by decide +kernel
theorem dX12_rests_93 : decode cX12_rests 93 = .ok (.iinc 4 1, 3) := by decide +kernel
theorem dX12_rests_96 : decode cX12_rests 96 = .ok (.iinc 6 1, 3) := by decide +kernel
theorem dX12_rests_99 : decode cX12_rests 99 = .ok (.goto (-53), 3) := by decide +kernel
theorem dX12_rests_102 : decode cX12_rests 102 = .ok (.iload_n 3, 1) := by decide +kernel
theorem dX12_rests_103 : decode cX12_rests 103 = .ok (.ifCond .ne 8, 3) := by decide +kernel
theorem dX12_rests_106 : decode cX12_rests 106 = .ok (.iload 4, 2) := by decide +kernel
theorem dX12_rests_108 : decode cX12_rests 108 = .ok (.goto 5, 3) := by decide +kernel
theorem dX12_rests_111 : decode cX12_rests 111 = .ok (.iload 5, 2) := by decide +kernel
theorem dX12_rests_113 : decode cX12_rests 113 = .ok (.ireturn, 1) := by decide +kernel
set_option maxRecDepth 20000 in
theorem ggX12_gust_X12_isGrain : GoodIn wsX12_gust wsX12_isGrain := goodIn_r _ [8, 9, 10, 11, 7, 12, 61, 62, 63, 64, 65, 66, 67, 68, 69, 70, 71, 72, 73, 74, 75, 76, 77, 78, 79, 80, 81, 82, 83, 84, 85, 86, 87, 88, 89, 90] (by decide +kernel) (by decide +kernel)
set_option maxRecDepth 20000 in
theorem gX12_gust_X12_isGrain : GoodIn wsX12_gust (wsV RX12 154 RX12 yX12_isGrain wsX12_isGrain) := goodIn_app (goodIn_of _ (by decide +kernel)) ggX12_gust_X12_isGrain
set_option maxRecDepth 20000 in
theorem ggX12_gust_X12_in : GoodIn wsX12_gust wsX12_in := goodIn_r _ [12] (by decide +kernel) (by decide +kernel)
set_option maxRecDepth 20000 in
theorem gX12_gust_X12_in : GoodIn wsX12_gust (va_wsS RX12 64 yX12_in wsX12_in) := goodIn_app (goodIn_of _ (by decide +kernel)) ggX12_gust_X12_in
set_option maxRecDepth 20000 in
theorem ggX12_gust_X12_layTrial : GoodIn wsX12_gust wsX12_layTrial := goodIn_r _ [16, 3, 61, 62, 63, 64, 65, 66, 67, 68, 69, 70, 71, 72, 73, 74, 75, 76, 77, 78, 79, 80, 81, 82, 83, 84, 85, 86, 87, 88, 89, 90] (by decide +kernel) (by decide +kernel)
set_option maxRecDepth 20000 in
theorem gX12_gust_X12_layTrial : GoodIn wsX12_gust (wsV RX12 172 RX12 yX12_layTrial wsX12_layTrial) := goodIn_app (goodIn_of _ (by decide +kernel)) ggX12_gust_X12_layTrial
set_option maxRecDepth 20000 in
theorem ggX12_gust_X12_has : GoodIn wsX12_gust wsX12_has := goodIn_r _ [19] (by decide +kernel) (by decide +kernel)
set_option maxRecDepth 20000 in
theorem gX12_gust_X12_has : GoodIn wsX12_gust (va_wsS RX12 151 yX12_has wsX12_has) := goodIn_app (goodIn_of _ (by decide +kernel)) ggX12_gust_X12_has
set_option maxRecDepth 20000 in
theorem ggX12_gust_X12_lies : GoodIn wsX12_gust wsX12_lies := goodIn_r _ [23, 3, 24, 61, 62, 63, 64, 65, 66, 67, 68, 69, 70, 71, 72, 73, 74, 75, 76, 77, 78, 79, 80, 81, 82, 83, 84, 85, 86, 87, 88, 89, 90] (by decide +kernel) (by decide +kernel)
set_option maxRecDepth 20000 in
theorem gX12_gust_X12_lies : GoodIn wsX12_gust (wsV RX12 157 RX12 yX12_lies wsX12_lies) := goodIn_app (goodIn_of _ (by decide +kernel)) ggX12_gust_X12_lies
set_option maxRecDepth 20000 in
theorem ggX12_gust_X12_tossBy : GoodIn wsX12_gust wsX12_tossBy := goodIn_r _ [28, 9, 3, 29, 30, 31, 32, 7, 33, 34, 35, 24, 36, 37, 38, 39, 40, 41, 42, 43, 44, 45, 46, 47, 48, 49, 50, 51, 52, 53, 54, 55, 56, 57, 61, 62, 63, 64, 65, 66, 67, 68, 69, 70, 71, 72, 73, 74, 75, 76, 77, 78, 79, 80, 81, 82, 83, 84, 85, 86, 87, 88, 89, 90] (by decide +kernel) (by decide +kernel)
set_option maxRecDepth 20000 in
theorem gX12_gust_X12_tossBy : GoodIn wsX12_gust (wsV RX12 166 RX12 yX12_tossBy wsX12_tossBy) := goodIn_app (goodIn_of _ (by decide +kernel)) ggX12_gust_X12_tossBy
set_option maxRecDepth 20000 in
theorem ggX12_gust_X12_common : GoodIn wsX12_gust wsX12_common := goodIn_r _ [60] (by decide +kernel) (by decide +kernel)
set_option maxRecDepth 20000 in
theorem gX12_gust_X12_common : GoodIn wsX12_gust (va_wsS RX12 216 yX12_common wsX12_common) := goodIn_app (goodIn_of _ (by decide +kernel)) ggX12_gust_X12_common
theorem dX12_gust_0 : decode cX12_gust 0 = .ok (.aload_n 0, 1) := by decide +kernel
theorem dX12_gust_1 : decode cX12_gust 1 = .ok (.iload_n 1, 1) := by decide +kernel
theorem dX12_gust_2 : decode cX12_gust 2 = .ok (.invokevirtual 154, 3) := by decide +kernel
theorem dX12_gust_5 : decode cX12_gust 5 = .ok (.ifCond .ne 5, 3) := by decide +kernel
theorem dX12_gust_8 : decode cX12_gust 8 = .ok (.iconst (-1), 1) := by decide +kernel
theorem dX12_gust_9 : decode cX12_gust 9 = .ok (.ireturn, 1) := by decide +kernel
theorem dX12_gust_10 : decode cX12_gust 10 = .ok (.iload_n 2, 1) := by decide +kernel
theorem dX12_gust_11 : decode cX12_gust 11 = .ok (.i2l, 1) := by decide +kernel
theorem dX12_gust_12 : decode cX12_gust 12 = .ok (.lconst 1, 1) := by decide +kernel
theorem dX12_gust_13 : decode cX12_gust 13 = .ok (.ldc2_w 205, 3) := by decide +kernel
theorem dX12_gust_16 : decode cX12_gust 16 = .ok (.invokestatic 64, 3) := by decide +kernel
theorem dX12_gust_19 : decode cX12_gust 19 = .ok (.ifCond .eq 15, 3) := by decide +kernel
theorem dX12_gust_22 : decode cX12_gust 22 = .ok (.iload_n 3, 1) := by decide +kernel
theorem dX12_gust_23 : decode cX12_gust 23 = .ok (.i2l, 1) := by decide +kernel
theorem dX12_gust_24 : decode cX12_gust 24 = .ok (.lconst 0, 1) := by decide +kernel
theorem dX12_gust_25 : decode cX12_gust 25 = .ok (.ldc2_w 230, 3) := by decide +kernel
theorem dX12_gust_28 : decode cX12_gust 28 = .ok (.invokestatic 64, 3) := by decide +kernel
theorem dX12_gust_31 : decode cX12_gust 31 = .ok (.ifCond .ne 6, 3) := by decide +kernel
theorem dX12_gust_34 : decode cX12_gust 34 = .ok (.bipush (-2), 2) := by decide +kernel
theorem dX12_gust_36 : decode cX12_gust 36 = .ok (.ireturn, 1) := by decide +kernel
theorem dX12_gust_37 : decode cX12_gust 37 = .ok (.iconst 0, 1) := by decide +kernel
theorem dX12_gust_38 : decode cX12_gust 38 = .ok (.istore 5, 2) := by decide +kernel
theorem dX12_gust_40 : decode cX12_gust 40 = .ok (.iconst 0, 1) := by decide +kernel
theorem dX12_gust_41 : decode cX12_gust 41 = .ok (.istore 6, 2) := by decide +kernel
theorem dX12_gust_43 : decode cX12_gust 43 = .ok (.iconst 0, 1) := by decide +kernel
theorem dX12_gust_44 : decode cX12_gust 44 = .ok (.istore 7, 2) := by decide +kernel
theorem dX12_gust_46 : decode cX12_gust 46 = .ok (.iload 7, 2) := by decide +kernel
theorem dX12_gust_48 : decode cX12_gust 48 = .ok (.iconst 1, 1) := by decide +kernel
theorem dX12_gust_49 : decode cX12_gust 49 = .ok (.iload_n 2, 1) := by decide +kernel
theorem dX12_gust_50 : decode cX12_gust 50 = .ok (.ishl, 1) := by decide +kernel
theorem dX12_gust_51 : decode cX12_gust 51 = .ok (.if_icmp .ge 125, 3) := by decide +kernel
theorem dX12_gust_54 : decode cX12_gust 54 = .ok (.aload_n 0, 1) := by decide +kernel
theorem dX12_gust_55 : decode cX12_gust 55 = .ok (.invokevirtual 172, 3) := by decide +kernel
theorem dX12_gust_58 : decode cX12_gust 58 = .ok (.iconst 1, 1) := by decide +kernel
theorem dX12_gust_59 : decode cX12_gust 59 = .ok (.istore 8, 2) := by decide +kernel
theorem dX12_gust_61 : decode cX12_gust 61 = .ok (.iconst 0, 1) := by decide +kernel
theorem dX12_gust_62 : decode cX12_gust 62 = .ok (.istore 9, 2) := by decide +kernel
theorem dX12_gust_64 : decode cX12_gust 64 = .ok (.iload 9, 2) := by decide +kernel
theorem dX12_gust_66 : decode cX12_gust 66 = .ok (.iload_n 2, 1) := by decide +kernel
theorem dX12_gust_67 : decode cX12_gust 67 = .ok (.if_icmp .ge 71, 3) := by decide +kernel
theorem dX12_gust_70 : decode cX12_gust 70 = .ok (.iload 8, 2) := by decide +kernel
theorem dX12_gust_72 : decode cX12_gust 72 = .ok (.iload 7, 2) := by decide +kernel
theorem dX12_gust_74 : decode cX12_gust 74 = .ok (.iload 9, 2) := by decide +kernel
theorem dX12_gust_76 : decode cX12_gust 76 = .ok (.invokestatic 151, 3) := by decide +kernel
theorem dX12_gust_79 : decode cX12_gust 79 = .ok (.ifCond .eq 7, 3) := by decide +kernel
theorem dX12_gust_82 : decode cX12_gust 82 = .ok (.iload_n 3, 1) := by decide +kernel
theorem dX12_gust_83 : decode cX12_gust 83 = .ok (.goto 7, 3) := by decide +kernel
theorem dX12_gust_86 : decode cX12_gust 86 = .ok (.bipush 10, 2) := by decide +kernel
theorem dX12_gust_88 : decode cX12_gust 88 = .ok (.iload_n 3, 1) := by decide +kernel
theorem dX12_gust_89 : decode cX12_gust 89 = .ok (.isub, 1) := by decide +kernel
theorem dX12_gust_90 : decode cX12_gust 90 = .ok (.imul, 1) := by decide +kernel
theorem dX12_gust_91 : decode cX12_gust 91 = .ok (.istore 8, 2) := by decide +kernel
theorem dX12_gust_93 : decode cX12_gust 93 = .ok (.aload_n 0, 1) := by decide +kernel
theorem dX12_gust_94 : decode cX12_gust 94 = .ok (.iconst 1, 1) := by decide +kernel
theorem dX12_gust_95 : decode cX12_gust 95 = .ok (.iload_n 1, 1) := by decide +kernel
theorem dX12_gust_96 : decode cX12_gust 96 = .ok (.invokevirtual 157, 3) := by decide +kernel
theorem dX12_gust_99 : decode cX12_gust 99 = .ok (.ifCond .eq 33, 3) := by decide +kernel
theorem dX12_gust_102 : decode cX12_gust 102 = .ok (.aload_n 0, 1) := by decide +kernel
theorem dX12_gust_103 : decode cX12_gust 103 = .ok (.iconst 1, 1) := by decide +kernel
theorem dX12_gust_104 : decode cX12_gust 104 = .ok (.aload_n 0, 1) := by decide +kernel
theorem dX12_gust_105 : decode cX12_gust 105 = .ok (.getfield 25, 3) := by decide +kernel
theorem dX12_gust_108 : decode cX12_gust 108 = .ok (.bipush 9, 2) := by decide +kernel
theorem dX12_gust_110 : decode cX12_gust 110 = .ok (.iload_n 1, 1) := by decide +kernel
theorem dX12_gust_111 : decode cX12_gust 111 = .ok (.iadd, 1) := by decide +kernel
theorem dX12_gust_112 : decode cX12_gust 112 = .ok (.iaload, 1) := by decide +kernel
theorem dX12_gust_113 : decode cX12_gust 113 = .ok (.iload 7, 2) := by decide +kernel
theorem dX12_gust_115 : decode cX12_gust 115 = .ok (.iload 9, 2) := by decide +kernel
theorem dX12_gust_117 : decode cX12_gust 117 = .ok (.invokestatic 151, 3) := by decide +kernel
theorem dX12_gust_120 : decode cX12_gust 120 = .ok (.ifCond .eq 7, 3) := by decide +kernel
theorem dX12_gust_123 : decode cX12_gust 123 = .ok (.iconst 3, 1) := by decide +kernel
theorem dX12_gust_124 : decode cX12_gust 124 = .ok (.goto 4, 3) := by decide +kernel
theorem dX12_gust_127 : decode cX12_gust 127 = .ok (.iconst 0, 1) := by decide +kernel
theorem dX12_gust_128 : decode cX12_gust 128 = .ok (.invokevirtual 166, 3) := by decide +kernel
theorem dX12_gust_131 : decode cX12_gust 131 = .ok (.pop, 1) := by decide +kernel
theorem dX12_gust_132 : decode cX12_gust 132 = .ok (.iinc 9 1, 3) := by decide +kernel
theorem dX12_gust_135 : decode cX12_gust 135 = .ok (.goto (-71), 3) := by decide +kernel
theorem dX12_gust_138 : decode cX12_gust 138 = .ok (.iload 6, 2) := by decide +kernel
theorem dX12_gust_140 : decode cX12_gust 140 = .ok (.iload 8, 2) := by decide +kernel
theorem dX12_gust_142 : decode cX12_gust 142 = .ok (.iadd, 1) := by decide +kernel
theorem dX12_gust_143 : decode cX12_gust 143 = .ok (.istore 6, 2) := by decide +kernel
theorem dX12_gust_145 : decode cX12_gust 145 = .ok (.iload 5, 2) := by decide +kernel
theorem dX12_gust_147 : decode cX12_gust 147 = .ok (.aload_n 0, 1) := by decide +kernel
theorem dX12_gust_148 : decode cX12_gust 148 = .ok (.getfield 25, 3) := by decide +kernel
theorem dX12_gust_151 : decode cX12_gust 151 = .ok (.bipush 9, 2) := by decide +kernel
theorem dX12_gust_153 : decode cX12_gust 153 = .ok (.iload_n 1, 1) := by decide +kernel
theorem dX12_gust_154 : decode cX12_gust 154 = .ok (.iadd, 1) := by decide +kernel
theorem dX12_gust_155 : decode cX12_gust 155 = .ok (.iaload, 1) := by decide +kernel
theorem dX12_gust_156 : decode cX12_gust 156 = .ok (.bipush 8, 2) := by decide +kernel
theorem dX12_gust_158 : decode cX12_gust 158 = .ok (.if_icmp .ne 8, 3) := by decide +kernel
theorem dX12_gust_161 : decode cX12_gust 161 = .ok (.iload 8, 2) := by decide +kernel
theorem dX12_gust_163 : decode cX12_gust 163 = .ok (.goto 4, 3) := by decide +kernel
theorem dX12_gust_166 : decode cX12_gust 166 = .ok (.iconst 0, 1) := by decide +kernel
theorem dX12_gust_167 : decode cX12_gust 167 = .ok (.iadd, 1) := by decide +kernel
theorem dX12_gust_168 : decode cX12_gust 168 = .ok (.istore 5, 2) := by decide +kernel
theorem dX12_gust_170 : decode cX12_gust 170 = .ok (.iinc 7 1, 3) := by decide +kernel
theorem dX12_gust_173 : decode cX12_gust 173 = .ok (.goto (-127), 3) := by decide +kernel
theorem dX12_gust_176 : decode cX12_gust 176 = .ok (.iload 5, 2) := by decide +kernel
theorem dX12_gust_178 : decode cX12_gust 178 = .ok (.iload 6, 2) := by decide +kernel
theorem dX12_gust_180 : decode cX12_gust 180 = .ok (.invokestatic 216, 3) := by decide +kernel
theorem dX12_gust_183 : decode cX12_gust 183 = .ok (.istore 7, 2) := by decide +kernel
theorem dX12_gust_185 : decode cX12_gust 185 = .ok (.iload 4, 2) := by decide +kernel
theorem dX12_gust_187 : decode cX12_gust 187 = .ok (.ifCond .eq 11, 3) := by decide +kernel
theorem dX12_gust_190 : decode cX12_gust 190 = .ok (.iload 5, 2) := by decide +kernel
theorem dX12_gust_192 : decode cX12_gust 192 = .ok (.iload 7, 2) := by decide +kernel
theorem dX12_gust_194 : decode cX12_gust 194 = .ok (.idiv, 1) := by decide +kernel
theorem dX12_gust_195 : decode cX12_gust 195 = .ok (.goto 8, 3) := by decide +kernel
theorem dX12_gust_198 : decode cX12_gust 198 = .ok (.iload 6, 2) := by decide +kernel
theorem dX12_gust_200 : decode cX12_gust 200 = .ok (.iload 7, 2) := by decide +kernel
theorem dX12_gust_202 : decode cX12_gust 202 = .ok (.idiv, 1) := by decide +kernel
theorem dX12_gust_203 : decode cX12_gust 203 = .ok (.ireturn, 1) := by decide +kernel
theorem dX12_seed_0 : decode cX12_seed 0 = .ok (.aload_n 0, 1) := by decide +kernel
theorem dX12_seed_1 : decode cX12_seed 1 = .ok (.getfield 232, 3) := by decide +kernel
theorem dX12_seed_4 : decode cX12_seed 4 = .ok (.lstore_n 3, 1) := by decide +kernel
theorem dX12_seed_5 : decode cX12_seed 5 = .ok (.aload_n 0, 1) := by decide +kernel
theorem dX12_seed_6 : decode cX12_seed 6 = .ok (.lload_n 1, 1) := by decide +kernel
theorem dX12_seed_7 : decode cX12_seed 7 = .ok (.putfield 232, 3) := by decide +kernel
theorem dX12_seed_10 : decode cX12_seed 10 = .ok (.lload_n 3, 1) := by decide +kernel
theorem dX12_seed_11 : decode cX12_seed 11 = .ok (.lreturn, 1) := by decide +kernel
set_option maxRecDepth 20000 in
theorem ggX12_years_X12_in : GoodIn wsX12_years wsX12_in := goodIn_r _ [10] (by decide +kernel) (by decide +kernel)
set_option maxRecDepth 20000 in
theorem gX12_years_X12_in : GoodIn wsX12_years (va_wsS RX12 64 yX12_in wsX12_in) := goodIn_app (goodIn_of _ (by decide +kernel)) ggX12_years_X12_in
set_option maxRecDepth 20000 in
theorem ggX12_years_X12_layTrial : GoodIn wsX12_years wsX12_layTrial := goodIn_r _ [14, 6, 65, 66, 67, 68, 69, 70, 71, 72, 73, 74, 75, 76, 77, 78, 79, 80, 81, 82, 83, 84, 85, 86, 87, 88, 89, 90, 91, 92, 93, 94] (by decide +kernel) (by decide +kernel)
set_option maxRecDepth 20000 in
theorem gX12_years_X12_layTrial : GoodIn wsX12_years (wsV RX12 172 RX12 yX12_layTrial wsX12_layTrial) := goodIn_app (goodIn_of _ (by decide +kernel)) ggX12_years_X12_layTrial
set_option maxRecDepth 20000 in
theorem ggX12_years_X12_isPerson : GoodIn wsX12_years wsX12_isPerson := goodIn_r _ [18, 19, 7, 8, 9, 10, 65, 66, 67, 68, 69, 70, 71, 72, 73, 74, 75, 76, 77, 78, 79, 80, 81, 82, 83, 84, 85, 86, 87, 88, 89, 90, 91, 92, 93, 94] (by decide +kernel) (by decide +kernel)
set_option maxRecDepth 20000 in
theorem gX12_years_X12_isPerson : GoodIn wsX12_years (wsV RX12 137 RX12 yX12_isPerson wsX12_isPerson) := goodIn_app (goodIn_of _ (by decide +kernel)) ggX12_years_X12_isPerson
set_option maxRecDepth 20000 in
theorem ggX12_years_X12_tossBy : GoodIn wsX12_years wsX12_tossBy := goodIn_r _ [23, 24, 6, 25, 26, 27, 28, 9, 29, 30, 31, 19, 32, 33, 34, 35, 36, 37, 38, 39, 40, 41, 42, 43, 44, 45, 46, 47, 48, 49, 50, 51, 52, 53, 65, 66, 67, 68, 69, 70, 71, 72, 73, 74, 75, 76, 77, 78, 79, 80, 81, 82, 83, 84, 85, 86, 87, 88, 89, 90, 91, 92, 93, 94] (by decide +kernel) (by decide +kernel)
set_option maxRecDepth 20000 in
theorem gX12_years_X12_tossBy : GoodIn wsX12_years (wsV RX12 166 RX12 yX12_tossBy wsX12_tossBy) := goodIn_app (goodIn_of _ (by decide +kernel)) ggX12_years_X12_tossBy
set_option maxRecDepth 20000 in
theorem ggX12_years_X12_lyingAt : GoodIn wsX12_years wsX12_lyingAt := goodIn_r _ [57, 24, 6, 65, 66, 67, 68, 69, 70, 71, 72, 73, 74, 75, 76, 77, 78, 79, 80, 81, 82, 83, 84, 85, 86, 87, 88, 89, 90, 91, 92, 93, 94] (by decide +kernel) (by decide +kernel)
set_option maxRecDepth 20000 in
theorem gX12_years_X12_lyingAt : GoodIn wsX12_years (wsV RX12 131 RX12 yX12_lyingAt wsX12_lyingAt) := goodIn_app (goodIn_of _ (by decide +kernel)) ggX12_years_X12_lyingAt
set_option maxRecDepth 20000 in
theorem ggX12_years_X12_weighs : GoodIn wsX12_years wsX12_weighs := goodIn_r _ [61, 24, 47, 62, 63, 9, 64, 65, 66, 67, 68, 69, 70, 71, 72, 73, 74, 75, 76, 77, 78, 79, 80, 81, 82, 83, 84, 85, 86, 87, 88, 89, 90, 91, 92, 93, 94] (by decide +kernel) (by decide +kernel)
set_option maxRecDepth 20000 in
theorem gX12_years_X12_weighs : GoodIn wsX12_years (wsV RX12 148 RX12 yX12_weighs wsX12_weighs) := goodIn_app (goodIn_of _ (by decide +kernel)) ggX12_years_X12_weighs
theorem dX12_years_0 : decode cX12_years 0 = .ok (.iload_n 1, 1) := by decide +kernel
theorem dX12_years_1 : decode cX12_years 1 = .ok (.i2l, 1) := by decide +kernel
theorem dX12_years_2 : decode cX12_years 2 = .ok (.lconst 1, 1) := by decide +kernel
theorem dX12_years_3 : decode cX12_years 3 = .ok (.ldc2_w 236, 3) := by decide +kernel
theorem dX12_years_6 : decode cX12_years 6 = .ok (.invokestatic 64, 3) := by decide +kernel
theorem dX12_years_9 : decode cX12_years 9 = .ok (.ifCond .ne 6, 3) := by decide +kernel
theorem dX12_years_12 : decode cX12_years 12 = .ok (.bipush (-2), 2) := by decide +kernel
theorem dX12_years_14 : decode cX12_years 14 = .ok (.ireturn, 1) := by decide +kernel
theorem dX12_years_15 : decode cX12_years 15 = .ok (.aload_n 0, 1) := by decide +kernel
theorem dX12_years_16 : decode cX12_years 16 = .ok (.invokevirtual 172, 3) := by decide +kernel
theorem dX12_years_19 : decode cX12_years 19 = .ok (.iconst 0, 1) := by decide +kernel
theorem dX12_years_20 : decode cX12_years 20 = .ok (.istore_n 2, 1) := by decide +kernel
theorem dX12_years_21 : decode cX12_years 21 = .ok (.iload_n 2, 1) := by decide +kernel
theorem dX12_years_22 : decode cX12_years 22 = .ok (.iload_n 1, 1) := by decide +kernel
theorem dX12_years_23 : decode cX12_years 23 = .ok (.if_icmp .ge 107, 3) := by decide +kernel
theorem dX12_years_26 : decode cX12_years 26 = .ok (.aload_n 0, 1) := by decide +kernel
theorem dX12_years_27 : decode cX12_years 27 = .ok (.aload_n 0, 1) := by decide +kernel
theorem dX12_years_28 : decode cX12_years 28 = .ok (.getfield 232, 3) := by decide +kernel
theorem dX12_years_31 : decode cX12_years 31 = .ok (.ldc2_w 238, 3) := by decide +kernel
theorem dX12_years_34 : decode cX12_years 34 = .ok (.lmul, 1) := by decide +kernel
theorem dX12_years_35 : decode cX12_years 35 = .ok (.ldc2_w 240, 3) := by decide +kernel
theorem dX12_years_38 : decode cX12_years 38 = .ok (.ladd, 1) := by decide +kernel
theorem dX12_years_39 : decode cX12_years 39 = .ok (.putfield 232, 3) := by decide +kernel
theorem dX12_years_42 : decode cX12_years 42 = .ok (.aload_n 0, 1) := by decide +kernel
theorem dX12_years_43 : decode cX12_years 43 = .ok (.getfield 232, 3) := by decide +kernel
theorem dX12_years_46 : decode cX12_years 46 = .ok (.bipush 33, 2) := by decide +kernel
theorem dX12_years_48 : decode cX12_years 48 = .ok (.lushr, 1) := by decide +kernel
theorem dX12_years_49 : decode cX12_years 49 = .ok (.ldc2_w 242, 3) := by decide +kernel
theorem dX12_years_52 : decode cX12_years 52 = .ok (.lrem, 1) := by decide +kernel
theorem dX12_years_53 : decode cX12_years 53 = .ok (.l2i, 1) := by decide +kernel
theorem dX12_years_54 : decode cX12_years 54 = .ok (.istore_n 3, 1) := by decide +kernel
theorem dX12_years_55 : decode cX12_years 55 = .ok (.iload_n 3, 1) := by decide +kernel
theorem dX12_years_56 : decode cX12_years 56 = .ok (.bipush 8, 2) := by decide +kernel
theorem dX12_years_58 : decode cX12_years 58 = .ok (.if_icmp .ne 17, 3) := by decide +kernel
theorem dX12_years_61 : decode cX12_years 61 = .ok (.aload_n 0, 1) := by decide +kernel
theorem dX12_years_62 : decode cX12_years 62 = .ok (.getfield 25, 3) := by decide +kernel
theorem dX12_years_65 : decode cX12_years 65 = .ok (.bipush 17, 2) := by decide +kernel
theorem dX12_years_67 : decode cX12_years 67 = .ok (.dup2, 1) := by decide +kernel
theorem dX12_years_68 : decode cX12_years 68 = .ok (.iaload, 1) := by decide +kernel
theorem dX12_years_69 : decode cX12_years 69 = .ok (.iconst 1, 1) := by decide +kernel
theorem dX12_years_70 : decode cX12_years 70 = .ok (.iadd, 1) := by decide +kernel
theorem dX12_years_71 : decode cX12_years 71 = .ok (.iastore, 1) := by decide +kernel
theorem dX12_years_72 : decode cX12_years 72 = .ok (.goto 52, 3) := by decide +kernel
theorem dX12_years_75 : decode cX12_years 75 = .ok (.iload_n 3, 1) := by decide +kernel
theorem dX12_years_76 : decode cX12_years 76 = .ok (.iconst 4, 1) := by decide +kernel
theorem dX12_years_77 : decode cX12_years 77 = .ok (.if_icmp .ge 22, 3) := by decide +kernel
theorem dX12_years_80 : decode cX12_years 80 = .ok (.aload_n 0, 1) := by decide +kernel
theorem dX12_years_81 : decode cX12_years 81 = .ok (.iload_n 3, 1) := by decide +kernel
theorem dX12_years_82 : decode cX12_years 82 = .ok (.invokevirtual 137, 3) := by decide +kernel
theorem dX12_years_85 : decode cX12_years 85 = .ok (.ifCond .eq 14, 3) := by decide +kernel
theorem dX12_years_88 : decode cX12_years 88 = .ok (.aload_n 0, 1) := by decide +kernel
theorem dX12_years_89 : decode cX12_years 89 = .ok (.iconst 1, 1) := by decide +kernel
theorem dX12_years_90 : decode cX12_years 90 = .ok (.iload_n 3, 1) := by decide +kernel
theorem dX12_years_91 : decode cX12_years 91 = .ok (.iconst 0, 1) := by decide +kernel
theorem dX12_years_92 : decode cX12_years 92 = .ok (.invokevirtual 166, 3) := by decide +kernel
theorem dX12_years_95 : decode cX12_years 95 = .ok (.pop, 1) := by decide +kernel
theorem dX12_years_96 : decode cX12_years 96 = .ok (.goto 28, 3) := by decide +kernel
theorem dX12_years_99 : decode cX12_years 99 = .ok (.iload_n 3, 1) := by decide +kernel
theorem dX12_years_100 : decode cX12_years 100 = .ok (.iconst 3, 1) := by decide +kernel
theorem dX12_years_101 : decode cX12_years 101 = .ok (.if_icmp .le 23, 3) := by decide +kernel
theorem dX12_years_104 : decode cX12_years 104 = .ok (.aload_n 0, 1) := by decide +kernel
theorem dX12_years_105 : decode cX12_years 105 = .ok (.iload_n 3, 1) := by decide +kernel
theorem dX12_years_106 : decode cX12_years 106 = .ok (.iconst 4, 1) := by decide +kernel
theorem dX12_years_107 : decode cX12_years 107 = .ok (.isub, 1) := by decide +kernel
theorem dX12_years_108 : decode cX12_years 108 = .ok (.invokevirtual 137, 3) := by decide +kernel
theorem dX12_years_111 : decode cX12_years 111 = .ok (.ifCond .eq 13, 3) := by decide +kernel
theorem dX12_years_114 : decode cX12_years 114 = .ok (.aload_n 0, 1) := by decide +kernel
theorem dX12_years_115 : decode cX12_years 115 = .ok (.getfield 25, 3) := by decide +kernel
theorem dX12_years_118 : decode cX12_years 118 = .ok (.bipush 16, 2) := by decide +kernel
theorem dX12_years_120 : decode cX12_years 120 = .ok (.iload_n 3, 1) := by decide +kernel
theorem dX12_years_121 : decode cX12_years 121 = .ok (.iconst 4, 1) := by decide +kernel
theorem dX12_years_122 : decode cX12_years 122 = .ok (.isub, 1) := by decide +kernel
theorem dX12_years_123 : decode cX12_years 123 = .ok (.iastore, 1) := by decide +kernel
theorem dX12_years_124 : decode cX12_years 124 = .ok (.iinc 2 1, 3) := by decide +kernel
theorem dX12_years_127 : decode cX12_years 127 = .ok (.goto (-106), 3) := by decide +kernel
theorem dX12_years_130 : decode cX12_years 130 = .ok (.aload_n 0, 1) := by decide +kernel
theorem dX12_years_131 : decode cX12_years 131 = .ok (.aload_n 0, 1) := by decide +kernel
theorem dX12_years_132 : decode cX12_years 132 = .ok (.iconst 1, 1) := by decide +kernel
theorem dX12_years_133 : decode cX12_years 133 = .ok (.bipush 8, 2) := by decide +kernel
theorem dX12_years_135 : decode cX12_years 135 = .ok (.invokevirtual 131, 3) := by decide +kernel
theorem dX12_years_138 : decode cX12_years 138 = .ok (.invokevirtual 148, 3) := by decide +kernel
theorem dX12_years_141 : decode cX12_years 141 = .ok (.ireturn, 1) := by decide +kernel
set_option maxRecDepth 20000 in
theorem ggX12_keep_X12_in : GoodIn wsX12_keep wsX12_in := goodIn_r _ [7] (by decide +kernel) (by decide +kernel)
set_option maxRecDepth 20000 in
theorem gX12_keep_X12_in : GoodIn wsX12_keep (va_wsS RX12 64 yX12_in wsX12_in) := goodIn_app (goodIn_of _ (by decide +kernel)) ggX12_keep_X12_in
theorem dX12_keep_0 : decode cX12_keep 0 = .ok (.iload_n 1, 1) := by decide +kernel
theorem dX12_keep_1 : decode cX12_keep 1 = .ok (.i2l, 1) := by decide +kernel
theorem dX12_keep_2 : decode cX12_keep 2 = .ok (.lconst 0, 1) := by decide +kernel
theorem dX12_keep_3 : decode cX12_keep 3 = .ok (.lconst 1, 1) := by decide +kernel
theorem dX12_keep_4 : decode cX12_keep 4 = .ok (.invokestatic 64, 3) := by decide +kernel
theorem dX12_keep_7 : decode cX12_keep 7 = .ok (.ifCond .ne 5, 3) := by decide +kernel
theorem dX12_keep_10 : decode cX12_keep 10 = .ok (.iconst (-1), 1) := by decide +kernel
theorem dX12_keep_11 : decode cX12_keep 11 = .ok (.ireturn, 1) := by decide +kernel
theorem dX12_keep_12 : decode cX12_keep 12 = .ok (.aload_n 0, 1) := by decide +kernel
theorem dX12_keep_13 : decode cX12_keep 13 = .ok (.getfield 55, 3) := by decide +kernel
theorem dX12_keep_16 : decode cX12_keep 16 = .ok (.iload_n 1, 1) := by decide +kernel
theorem dX12_keep_17 : decode cX12_keep 17 = .ok (.iconst 1, 1) := by decide +kernel
theorem dX12_keep_18 : decode cX12_keep 18 = .ok (.bastore, 1) := by decide +kernel
theorem dX12_keep_19 : decode cX12_keep 19 = .ok (.iconst 0, 1) := by decide +kernel
theorem dX12_keep_20 : decode cX12_keep 20 = .ok (.istore_n 2, 1) := by decide +kernel
theorem dX12_keep_21 : decode cX12_keep 21 = .ok (.iload_n 2, 1) := by decide +kernel
theorem dX12_keep_22 : decode cX12_keep 22 = .ok (.bipush 9, 2) := by decide +kernel
theorem dX12_keep_24 : decode cX12_keep 24 = .ok (.if_icmp .ge 26, 3) := by decide +kernel
theorem dX12_keep_27 : decode cX12_keep 27 = .ok (.aload_n 0, 1) := by decide +kernel
theorem dX12_keep_28 : decode cX12_keep 28 = .ok (.getfield 59, 3) := by decide +kernel
theorem dX12_keep_31 : decode cX12_keep 31 = .ok (.bipush 9, 2) := by decide +kernel
theorem dX12_keep_33 : decode cX12_keep 33 = .ok (.iload_n 1, 1) := by decide +kernel
theorem dX12_keep_34 : decode cX12_keep 34 = .ok (.imul, 1) := by decide +kernel
theorem dX12_keep_35 : decode cX12_keep 35 = .ok (.iload_n 2, 1) := by decide +kernel
theorem dX12_keep_36 : decode cX12_keep 36 = .ok (.iadd, 1) := by decide +kernel
theorem dX12_keep_37 : decode cX12_keep 37 = .ok (.aload_n 0, 1) := by decide +kernel
theorem dX12_keep_38 : decode cX12_keep 38 = .ok (.getfield 25, 3) := by decide +kernel
theorem dX12_keep_41 : decode cX12_keep 41 = .ok (.iload_n 2, 1) := by decide +kernel
theorem dX12_keep_42 : decode cX12_keep 42 = .ok (.iaload, 1) := by decide +kernel
theorem dX12_keep_43 : decode cX12_keep 43 = .ok (.iastore, 1) := by decide +kernel
theorem dX12_keep_44 : decode cX12_keep 44 = .ok (.iinc 2 1, 3) := by decide +kernel
theorem dX12_keep_47 : decode cX12_keep 47 = .ok (.goto (-26), 3) := by decide +kernel
theorem dX12_keep_50 : decode cX12_keep 50 = .ok (.aload_n 0, 1) := by decide +kernel
theorem dX12_keep_51 : decode cX12_keep 51 = .ok (.getfield 25, 3) := by decide +kernel
theorem dX12_keep_54 : decode cX12_keep 54 = .ok (.bipush 8, 2) := by decide +kernel
theorem dX12_keep_56 : decode cX12_keep 56 = .ok (.iaload, 1) := by decide +kernel
theorem dX12_keep_57 : decode cX12_keep 57 = .ok (.ireturn, 1) := by decide +kernel
set_option maxRecDepth 20000 in
theorem ggX12_again_X12_in : GoodIn wsX12_again wsX12_in := goodIn_r _ [8] (by decide +kernel) (by decide +kernel)
set_option maxRecDepth 20000 in
theorem gX12_again_X12_in : GoodIn wsX12_again (va_wsS RX12 64 yX12_in wsX12_in) := goodIn_app (goodIn_of _ (by decide +kernel)) ggX12_again_X12_in
theorem dX12_again_0 : decode cX12_again 0 = .ok (.iload_n 1, 1) := by decide +kernel
theorem dX12_again_1 : decode cX12_again 1 = .ok (.i2l, 1) := by decide +kernel
theorem dX12_again_2 : decode cX12_again 2 = .ok (.lconst 0, 1) := by decide +kernel
theorem dX12_again_3 : decode cX12_again 3 = .ok (.lconst 1, 1) := by decide +kernel
theorem dX12_again_4 : decode cX12_again 4 = .ok (.invokestatic 64, 3) := by decide +kernel
theorem dX12_again_7 : decode cX12_again 7 = .ok (.ifCond .ne 5, 3) := by decide +kernel
theorem dX12_again_10 : decode cX12_again 10 = .ok (.iconst (-1), 1) := by decide +kernel
theorem dX12_again_11 : decode cX12_again 11 = .ok (.ireturn, 1) := by decide +kernel
theorem dX12_again_12 : decode cX12_again 12 = .ok (.aload_n 0, 1) := by decide +kernel
theorem dX12_again_13 : decode cX12_again 13 = .ok (.getfield 55, 3) := by decide +kernel
theorem dX12_again_16 : decode cX12_again 16 = .ok (.iload_n 1, 1) := by decide +kernel
theorem dX12_again_17 : decode cX12_again 17 = .ok (.baload, 1) := by decide +kernel
theorem dX12_again_18 : decode cX12_again 18 = .ok (.ifCond .ne 6, 3) := by decide +kernel
theorem dX12_again_21 : decode cX12_again 21 = .ok (.bipush (-3), 2) := by decide +kernel
theorem dX12_again_23 : decode cX12_again 23 = .ok (.ireturn, 1) := by decide +kernel
theorem dX12_again_24 : decode cX12_again 24 = .ok (.iconst 0, 1) := by decide +kernel
theorem dX12_again_25 : decode cX12_again 25 = .ok (.istore_n 2, 1) := by decide +kernel
theorem dX12_again_26 : decode cX12_again 26 = .ok (.iload_n 2, 1) := by decide +kernel
theorem dX12_again_27 : decode cX12_again 27 = .ok (.bipush 9, 2) := by decide +kernel
theorem dX12_again_29 : decode cX12_again 29 = .ok (.if_icmp .ge 26, 3) := by decide +kernel
theorem dX12_again_32 : decode cX12_again 32 = .ok (.aload_n 0, 1) := by decide +kernel
theorem dX12_again_33 : decode cX12_again 33 = .ok (.getfield 25, 3) := by decide +kernel
theorem dX12_again_36 : decode cX12_again 36 = .ok (.iload_n 2, 1) := by decide +kernel
theorem dX12_again_37 : decode cX12_again 37 = .ok (.aload_n 0, 1) := by decide +kernel
theorem dX12_again_38 : decode cX12_again 38 = .ok (.getfield 59, 3) := by decide +kernel
theorem dX12_again_41 : decode cX12_again 41 = .ok (.bipush 9, 2) := by decide +kernel
theorem dX12_again_43 : decode cX12_again 43 = .ok (.iload_n 1, 1) := by decide +kernel
theorem dX12_again_44 : decode cX12_again 44 = .ok (.imul, 1) := by decide +kernel
theorem dX12_again_45 : decode cX12_again 45 = .ok (.iload_n 2, 1) := by decide +kernel
theorem dX12_again_46 : decode cX12_again 46 = .ok (.iadd, 1) := by decide +kernel
theorem dX12_again_47 : decode cX12_again 47 = .ok (.iaload, 1) := by decide +kernel
theorem dX12_again_48 : decode cX12_again 48 = .ok (.iastore, 1) := by decide +kernel
theorem dX12_again_49 : decode cX12_again 49 = .ok (.iinc 2 1, 3) := by decide +kernel
theorem dX12_again_52 : decode cX12_again 52 = .ok (.goto (-26), 3) := by decide +kernel
theorem dX12_again_55 : decode cX12_again 55 = .ok (.aload_n 0, 1) := by decide +kernel
theorem dX12_again_56 : decode cX12_again 56 = .ok (.iconst 0, 1) := by decide +kernel
theorem dX12_again_57 : decode cX12_again 57 = .ok (.putfield 108, 3) := by decide +kernel
theorem dX12_again_60 : decode cX12_again 60 = .ok (.aload_n 0, 1) := by decide +kernel
theorem dX12_again_61 : decode cX12_again 61 = .ok (.getfield 25, 3) := by decide +kernel
theorem dX12_again_64 : decode cX12_again 64 = .ok (.bipush 8, 2) := by decide +kernel
theorem dX12_again_66 : decode cX12_again 66 = .ok (.iaload, 1) := by decide +kernel
theorem dX12_again_67 : decode cX12_again 67 = .ok (.ireturn, 1) := by decide +kernel
set_option maxRecDepth 20000 in
theorem ggX12_cleanOnes_X12_isClean : GoodIn wsX12_cleanOnes wsX12_isClean := goodIn_r _ [6, 7, 8, 9, 5, 10, 11, 12, 13, 14, 15, 16, 17, 18, 19, 20, 21, 22, 23, 24, 25, 26, 27, 28, 29, 30, 31, 32, 33, 34, 35, 36, 37, 38, 39, 40, 41, 42, 43, 44, 45, 46, 47] (by decide +kernel) (by decide +kernel)
set_option maxRecDepth 20000 in
theorem gX12_cleanOnes_X12_isClean : GoodIn wsX12_cleanOnes (wsV RX12 144 RX12 yX12_isClean wsX12_isClean) := goodIn_app (goodIn_of _ (by decide +kernel)) ggX12_cleanOnes_X12_isClean
theorem dX12_cleanOnes_0 : decode cX12_cleanOnes 0 = .ok (.iconst 0, 1) := by decide +kernel
theorem dX12_cleanOnes_1 : decode cX12_cleanOnes 1 = .ok (.istore_n 1, 1) := by decide +kernel
theorem dX12_cleanOnes_2 : decode cX12_cleanOnes 2 = .ok (.iconst 0, 1) := by decide +kernel
theorem dX12_cleanOnes_3 : decode cX12_cleanOnes 3 = .ok (.istore_n 2, 1) := by decide +kernel
theorem dX12_cleanOnes_4 : decode cX12_cleanOnes 4 = .ok (.iload_n 2, 1) := by decide +kernel
theorem dX12_cleanOnes_5 : decode cX12_cleanOnes 5 = .ok (.aload_n 0, 1) := by decide +kernel
theorem dX12_cleanOnes_6 : decode cX12_cleanOnes 6 = .ok (.getfield 99, 3) := by decide +kernel
theorem dX12_cleanOnes_9 : decode cX12_cleanOnes 9 = .ok (.if_icmp .ge 28, 3) := by decide +kernel
theorem dX12_cleanOnes_12 : decode cX12_cleanOnes 12 = .ok (.iload_n 1, 1) := by decide +kernel
theorem dX12_cleanOnes_13 : decode cX12_cleanOnes 13 = .ok (.aload_n 0, 1) := by decide +kernel
theorem dX12_cleanOnes_14 : decode cX12_cleanOnes 14 = .ok (.iconst 0, 1) := by decide +kernel
theorem dX12_cleanOnes_15 : decode cX12_cleanOnes 15 = .ok (.iload_n 2, 1) := by decide +kernel
theorem dX12_cleanOnes_16 : decode cX12_cleanOnes 16 = .ok (.invokevirtual 144, 3) := by decide +kernel
theorem dX12_cleanOnes_19 : decode cX12_cleanOnes 19 = .ok (.ifCond .eq 9, 3) := by decide +kernel
theorem dX12_cleanOnes_22 : decode cX12_cleanOnes 22 = .ok (.iconst 1, 1) := by decide +kernel
theorem dX12_cleanOnes_23 : decode cX12_cleanOnes 23 = .ok (.iload_n 2, 1) := by decide +kernel
theorem dX12_cleanOnes_24 : decode cX12_cleanOnes 24 = .ok (.ishl, 1) := by decide +kernel
theorem dX12_cleanOnes_25 : decode cX12_cleanOnes 25 = .ok (.goto 4, 3) := by decide +kernel
theorem dX12_cleanOnes_28 : decode cX12_cleanOnes 28 = .ok (.iconst 0, 1) := by decide +kernel
theorem dX12_cleanOnes_29 : decode cX12_cleanOnes 29 = .ok (.ior, 1) := by decide +kernel
theorem dX12_cleanOnes_30 : decode cX12_cleanOnes 30 = .ok (.istore_n 1, 1) := by decide +kernel
theorem dX12_cleanOnes_31 : decode cX12_cleanOnes 31 = .ok (.iinc 2 1, 3) := by decide +kernel
theorem dX12_cleanOnes_34 : decode cX12_cleanOnes 34 = .ok (.goto (-30), 3) := by decide +kernel
theorem dX12_cleanOnes_37 : decode cX12_cleanOnes 37 = .ok (.iload_n 1, 1) := by decide +kernel
theorem dX12_cleanOnes_38 : decode cX12_cleanOnes 38 = .ok (.ireturn, 1) := by decide +kernel
set_option maxRecDepth 20000 in
theorem ggX12_count_X12_windOn : GoodIn wsX12_count wsX12_windOn := goodIn_r _ [12, 3, 13, 5, 31, 32, 33, 34, 35, 36, 37, 38, 39, 40, 41, 42, 43, 44, 45, 46, 47, 48, 49, 50, 51, 52, 53, 54, 55, 56, 57, 58, 59, 60] (by decide +kernel) (by decide +kernel)
set_option maxRecDepth 20000 in
theorem gX12_count_X12_windOn : GoodIn wsX12_count (wsV RX12 111 RX12 yX12_windOn wsX12_windOn) := goodIn_app (goodIn_of _ (by decide +kernel)) ggX12_count_X12_windOn
set_option maxRecDepth 20000 in
theorem ggX12_count_X12_rightOn : GoodIn wsX12_count wsX12_rightOn := goodIn_r _ [17, 4, 5, 18, 31, 32, 33, 34, 35, 36, 37, 38, 39, 40, 41, 42, 43, 44, 45, 46, 47, 48, 49, 50, 51, 52, 53, 54, 55, 56, 57, 58, 59, 60] (by decide +kernel) (by decide +kernel)
set_option maxRecDepth 20000 in
theorem gX12_count_X12_rightOn : GoodIn wsX12_count (wsV RX12 134 RX12 yX12_rightOn wsX12_rightOn) := goodIn_app (goodIn_of _ (by decide +kernel)) ggX12_count_X12_rightOn
set_option maxRecDepth 20000 in
theorem ggX12_count_X12_lyingAt : GoodIn wsX12_count wsX12_lyingAt := goodIn_r _ [22, 4, 5, 31, 32, 33, 34, 35, 36, 37, 38, 39, 40, 41, 42, 43, 44, 45, 46, 47, 48, 49, 50, 51, 52, 53, 54, 55, 56, 57, 58, 59, 60] (by decide +kernel) (by decide +kernel)
set_option maxRecDepth 20000 in
theorem gX12_count_X12_lyingAt : GoodIn wsX12_count (wsV RX12 131 RX12 yX12_lyingAt wsX12_lyingAt) := goodIn_app (goodIn_of _ (by decide +kernel)) ggX12_count_X12_lyingAt
set_option maxRecDepth 20000 in
theorem ggX12_count_X12_cleanOnes : GoodIn wsX12_count wsX12_cleanOnes := goodIn_r _ [26, 2, 27, 28, 29, 11, 30, 19, 20, 21, 22, 4, 5, 14, 15, 16, 17, 18, 31, 32, 33, 34, 35, 36, 37, 38, 39, 40, 41, 42, 43, 44, 45, 46, 47, 48, 49, 50, 51, 52, 53, 54, 55, 56, 57, 58, 59, 60] (by decide +kernel) (by decide +kernel)
set_option maxRecDepth 20000 in
theorem gX12_count_X12_cleanOnes : GoodIn wsX12_count (wsV RX12 244 RX12 yX12_cleanOnes wsX12_cleanOnes) := goodIn_app (goodIn_of _ (by decide +kernel)) ggX12_count_X12_cleanOnes
theorem dX12_count_0 : decode cX12_count 0 = .ok (.iload_n 1, 1) := by decide +kernel
theorem dX12_count_1 : decode cX12_count 1 = .ok (.tableswitch 146 0 12 #[67, 72, 77, 82, 87, 95, 101, 109, 115, 123, 131, 136, 141], 67) := by decide +kernel
theorem dX12_count_68 : decode cX12_count 68 = .ok (.aload_n 0, 1) := by decide +kernel
theorem dX12_count_69 : decode cX12_count 69 = .ok (.getfield 68, 3) := by decide +kernel
theorem dX12_count_72 : decode cX12_count 72 = .ok (.ireturn, 1) := by decide +kernel
theorem dX12_count_73 : decode cX12_count 73 = .ok (.aload_n 0, 1) := by decide +kernel
theorem dX12_count_74 : decode cX12_count 74 = .ok (.getfield 99, 3) := by decide +kernel
theorem dX12_count_77 : decode cX12_count 77 = .ok (.ireturn, 1) := by decide +kernel
theorem dX12_count_78 : decode cX12_count 78 = .ok (.aload_n 0, 1) := by decide +kernel
theorem dX12_count_79 : decode cX12_count 79 = .ok (.getfield 102, 3) := by decide +kernel
theorem dX12_count_82 : decode cX12_count 82 = .ok (.ireturn, 1) := by decide +kernel
theorem dX12_count_83 : decode cX12_count 83 = .ok (.aload_n 0, 1) := by decide +kernel
theorem dX12_count_84 : decode cX12_count 84 = .ok (.getfield 105, 3) := by decide +kernel
theorem dX12_count_87 : decode cX12_count 87 = .ok (.ireturn, 1) := by decide +kernel
theorem dX12_count_88 : decode cX12_count 88 = .ok (.aload_n 0, 1) := by decide +kernel
theorem dX12_count_89 : decode cX12_count 89 = .ok (.getfield 25, 3) := by decide +kernel
theorem dX12_count_92 : decode cX12_count 92 = .ok (.bipush 8, 2) := by decide +kernel
theorem dX12_count_94 : decode cX12_count 94 = .ok (.iaload, 1) := by decide +kernel
theorem dX12_count_95 : decode cX12_count 95 = .ok (.ireturn, 1) := by decide +kernel
theorem dX12_count_96 : decode cX12_count 96 = .ok (.aload_n 0, 1) := by decide +kernel
theorem dX12_count_97 : decode cX12_count 97 = .ok (.iconst 0, 1) := by decide +kernel
theorem dX12_count_98 : decode cX12_count 98 = .ok (.invokevirtual 111, 3) := by decide +kernel
theorem dX12_count_101 : decode cX12_count 101 = .ok (.ireturn, 1) := by decide +kernel
theorem dX12_count_102 : decode cX12_count 102 = .ok (.aload_n 0, 1) := by decide +kernel
theorem dX12_count_103 : decode cX12_count 103 = .ok (.getfield 25, 3) := by decide +kernel
theorem dX12_count_106 : decode cX12_count 106 = .ok (.bipush 7, 2) := by decide +kernel
theorem dX12_count_108 : decode cX12_count 108 = .ok (.iaload, 1) := by decide +kernel
theorem dX12_count_109 : decode cX12_count 109 = .ok (.ireturn, 1) := by decide +kernel
theorem dX12_count_110 : decode cX12_count 110 = .ok (.aload_n 0, 1) := by decide +kernel
theorem dX12_count_111 : decode cX12_count 111 = .ok (.iconst 0, 1) := by decide +kernel
theorem dX12_count_112 : decode cX12_count 112 = .ok (.invokevirtual 134, 3) := by decide +kernel
theorem dX12_count_115 : decode cX12_count 115 = .ok (.ireturn, 1) := by decide +kernel
theorem dX12_count_116 : decode cX12_count 116 = .ok (.aload_n 0, 1) := by decide +kernel
theorem dX12_count_117 : decode cX12_count 117 = .ok (.iconst 0, 1) := by decide +kernel
theorem dX12_count_118 : decode cX12_count 118 = .ok (.bipush 8, 2) := by decide +kernel
theorem dX12_count_120 : decode cX12_count 120 = .ok (.invokevirtual 131, 3) := by decide +kernel
theorem dX12_count_123 : decode cX12_count 123 = .ok (.ireturn, 1) := by decide +kernel
theorem dX12_count_124 : decode cX12_count 124 = .ok (.aload_n 0, 1) := by decide +kernel
theorem dX12_count_125 : decode cX12_count 125 = .ok (.iconst 0, 1) := by decide +kernel
theorem dX12_count_126 : decode cX12_count 126 = .ok (.bipush 9, 2) := by decide +kernel
theorem dX12_count_128 : decode cX12_count 128 = .ok (.invokevirtual 131, 3) := by decide +kernel
theorem dX12_count_131 : decode cX12_count 131 = .ok (.ireturn, 1) := by decide +kernel
theorem dX12_count_132 : decode cX12_count 132 = .ok (.aload_n 0, 1) := by decide +kernel
theorem dX12_count_133 : decode cX12_count 133 = .ok (.invokevirtual 244, 3) := by decide +kernel
theorem dX12_count_136 : decode cX12_count 136 = .ok (.ireturn, 1) := by decide +kernel
theorem dX12_count_137 : decode cX12_count 137 = .ok (.aload_n 0, 1) := by decide +kernel
theorem dX12_count_138 : decode cX12_count 138 = .ok (.getfield 108, 3) := by decide +kernel
theorem dX12_count_141 : decode cX12_count 141 = .ok (.ireturn, 1) := by decide +kernel
theorem dX12_count_142 : decode cX12_count 142 = .ok (.aload_n 0, 1) := by decide +kernel
theorem dX12_count_143 : decode cX12_count 143 = .ok (.getfield 207, 3) := by decide +kernel
theorem dX12_count_146 : decode cX12_count 146 = .ok (.ireturn, 1) := by decide +kernel
theorem dX12_count_147 : decode cX12_count 147 = .ok (.bipush (-2), 2) := by decide +kernel
theorem dX12_count_149 : decode cX12_count 149 = .ok (.ireturn, 1) := by decide +kernel
theorem dJ6_bitCount_0f7a4_0 : decode cJ6_bitCount_0f7a4 0 = .ok (.iload_n 0, 1) := by decide +kernel
theorem dJ6_bitCount_0f7a4_1 : decode cJ6_bitCount_0f7a4 1 = .ok (.iload_n 0, 1) := by decide +kernel
theorem dJ6_bitCount_0f7a4_2 : decode cJ6_bitCount_0f7a4 2 = .ok (.iconst 1, 1) := by decide +kernel
theorem dJ6_bitCount_0f7a4_3 : decode cJ6_bitCount_0f7a4 3 = .ok (.iushr, 1) := by decide +kernel
theorem dJ6_bitCount_0f7a4_4 : decode cJ6_bitCount_0f7a4 4 = .ok (.ldc_w 265, 3) := by decide +kernel
theorem dJ6_bitCount_0f7a4_7 : decode cJ6_bitCount_0f7a4 7 = .ok (.iand, 1) := by decide +kernel
theorem dJ6_bitCount_0f7a4_8 : decode cJ6_bitCount_0f7a4 8 = .ok (.isub, 1) := by decide +kernel
theorem dJ6_bitCount_0f7a4_9 : decode cJ6_bitCount_0f7a4 9 = .ok (.istore_n 0, 1) := by decide +kernel
theorem dJ6_bitCount_0f7a4_10 : decode cJ6_bitCount_0f7a4 10 = .ok (.iload_n 0, 1) := by decide +kernel
theorem dJ6_bitCount_0f7a4_11 : decode cJ6_bitCount_0f7a4 11 = .ok (.ldc_w 266, 3) := by decide +kernel
theorem dJ6_bitCount_0f7a4_14 : decode cJ6_bitCount_0f7a4 14 = .ok (.iand, 1) := by decide +kernel
theorem dJ6_bitCount_0f7a4_15 : decode cJ6_bitCount_0f7a4 15 = .ok (.iload_n 0, 1) := by decide +kernel
theorem dJ6_bitCount_0f7a4_16 : decode cJ6_bitCount_0f7a4 16 = .ok (.iconst 2, 1) := by decide +kernel
theorem dJ6_bitCount_0f7a4_17 : decode cJ6_bitCount_0f7a4 17 = .ok (.iushr, 1) := by decide +kernel
theorem dJ6_bitCount_0f7a4_18 : decode cJ6_bitCount_0f7a4 18 = .ok (.ldc_w 266, 3) := by decide +kernel
theorem dJ6_bitCount_0f7a4_21 : decode cJ6_bitCount_0f7a4 21 = .ok (.iand, 1) := by decide +kernel
theorem dJ6_bitCount_0f7a4_22 : decode cJ6_bitCount_0f7a4 22 = .ok (.iadd, 1) := by decide +kernel
theorem dJ6_bitCount_0f7a4_23 : decode cJ6_bitCount_0f7a4 23 = .ok (.istore_n 0, 1) := by decide +kernel
theorem dJ6_bitCount_0f7a4_24 : decode cJ6_bitCount_0f7a4 24 = .ok (.iload_n 0, 1) := by decide +kernel
theorem dJ6_bitCount_0f7a4_25 : decode cJ6_bitCount_0f7a4 25 = .ok (.iload_n 0, 1) := by decide +kernel
theorem dJ6_bitCount_0f7a4_26 : decode cJ6_bitCount_0f7a4 26 = .ok (.iconst 4, 1) := by decide +kernel
theorem dJ6_bitCount_0f7a4_27 : decode cJ6_bitCount_0f7a4 27 = .ok (.iushr, 1) := by decide +kernel
theorem dJ6_bitCount_0f7a4_28 : decode cJ6_bitCount_0f7a4 28 = .ok (.iadd, 1) := by decide +kernel
theorem dJ6_bitCount_0f7a4_29 : decode cJ6_bitCount_0f7a4 29 = .ok (.ldc_w 267, 3) := by decide +kernel
theorem dJ6_bitCount_0f7a4_32 : decode cJ6_bitCount_0f7a4 32 = .ok (.iand, 1) := by decide +kernel
theorem dJ6_bitCount_0f7a4_33 : decode cJ6_bitCount_0f7a4 33 = .ok (.istore_n 0, 1) := by decide +kernel
theorem dJ6_bitCount_0f7a4_34 : decode cJ6_bitCount_0f7a4 34 = .ok (.iload_n 0, 1) := by decide +kernel
theorem dJ6_bitCount_0f7a4_35 : decode cJ6_bitCount_0f7a4 35 = .ok (.iload_n 0, 1) := by decide +kernel
theorem dJ6_bitCount_0f7a4_36 : decode cJ6_bitCount_0f7a4 36 = .ok (.bipush 8, 2) := by decide +kernel
theorem dJ6_bitCount_0f7a4_38 : decode cJ6_bitCount_0f7a4 38 = .ok (.iushr, 1) := by decide +kernel
theorem dJ6_bitCount_0f7a4_39 : decode cJ6_bitCount_0f7a4 39 = .ok (.iadd, 1) := by decide +kernel
theorem dJ6_bitCount_0f7a4_40 : decode cJ6_bitCount_0f7a4 40 = .ok (.istore_n 0, 1) := by decide +kernel
theorem dJ6_bitCount_0f7a4_41 : decode cJ6_bitCount_0f7a4 41 = .ok (.iload_n 0, 1) := by decide +kernel
theorem dJ6_bitCount_0f7a4_42 : decode cJ6_bitCount_0f7a4 42 = .ok (.iload_n 0, 1) := by decide +kernel
theorem dJ6_bitCount_0f7a4_43 : decode cJ6_bitCount_0f7a4 43 = .ok (.bipush 16, 2) := by decide +kernel
theorem dJ6_bitCount_0f7a4_45 : decode cJ6_bitCount_0f7a4 45 = .ok (.iushr, 1) := by decide +kernel
theorem dJ6_bitCount_0f7a4_46 : decode cJ6_bitCount_0f7a4 46 = .ok (.iadd, 1) := by decide +kernel
theorem dJ6_bitCount_0f7a4_47 : decode cJ6_bitCount_0f7a4 47 = .ok (.istore_n 0, 1) := by decide +kernel
theorem dJ6_bitCount_0f7a4_48 : decode cJ6_bitCount_0f7a4 48 = .ok (.iload_n 0, 1) := by decide +kernel
theorem dJ6_bitCount_0f7a4_49 : decode cJ6_bitCount_0f7a4 49 = .ok (.bipush 63, 2) := by decide +kernel
theorem dJ6_bitCount_0f7a4_51 : decode cJ6_bitCount_0f7a4 51 = .ok (.iand, 1) := by decide +kernel
theorem dJ6_bitCount_0f7a4_52 : decode cJ6_bitCount_0f7a4 52 = .ok (.ireturn, 1) := by decide +kernel
theorem dJ9_abs_0f7a4_0 : decode cJ9_abs_0f7a4 0 = .ok (.iload_n 0, 1) := by decide +kernel
theorem dJ9_abs_0f7a4_1 : decode cJ9_abs_0f7a4 1 = .ok (.ifCond .ge 8, 3) := by decide +kernel
theorem dJ9_abs_0f7a4_4 : decode cJ9_abs_0f7a4 4 = .ok (.iload_n 0, 1) := by decide +kernel
theorem dJ9_abs_0f7a4_5 : decode cJ9_abs_0f7a4 5 = .ok (.ineg, 1) := by decide +kernel
theorem dJ9_abs_0f7a4_6 : decode cJ9_abs_0f7a4 6 = .ok (.goto 4, 3) := by decide +kernel
theorem dJ9_abs_0f7a4_9 : decode cJ9_abs_0f7a4 9 = .ok (.iload_n 0, 1) := by decide +kernel
theorem dJ9_abs_0f7a4_10 : decode cJ9_abs_0f7a4 10 = .ok (.ireturn, 1) := by decide +kernel
theorem dJ9_max_7cf53_0 : decode cJ9_max_7cf53 0 = .ok (.iload_n 0, 1) := by decide +kernel
theorem dJ9_max_7cf53_1 : decode cJ9_max_7cf53 1 = .ok (.iload_n 1, 1) := by decide +kernel
theorem dJ9_max_7cf53_2 : decode cJ9_max_7cf53 2 = .ok (.if_icmp .lt 7, 3) := by decide +kernel
theorem dJ9_max_7cf53_5 : decode cJ9_max_7cf53 5 = .ok (.iload_n 0, 1) := by decide +kernel
theorem dJ9_max_7cf53_6 : decode cJ9_max_7cf53 6 = .ok (.goto 4, 3) := by decide +kernel
theorem dJ9_max_7cf53_9 : decode cJ9_max_7cf53 9 = .ok (.iload_n 1, 1) := by decide +kernel
theorem dJ9_max_7cf53_10 : decode cJ9_max_7cf53 10 = .ok (.ireturn, 1) := by decide +kernel

