set_option maxRecDepth 20000 in
theorem ggX0_init_X3_init : GoodIn wsX0_init wsX3_init := goodIn_r _ [11, 12, 2, 3, 13, 14, 15, 16, 17, 18, 19, 20, 21, 22] (by decide +kernel) (by decide +kernel)
set_option maxRecDepth 20000 in
theorem gX0_init_X3_init : GoodIn wsX0_init (wsX3_init) := ggX0_init_X3_init
theorem dX0_init_0 : decode cX0_init 0 = .ok (.aload_n 0, 1) := by decide +kernel
theorem dX0_init_1 : decode cX0_init 1 = .ok (.invokespecial 1, 3) := by decide +kernel
theorem dX0_init_4 : decode cX0_init 4 = .ok (.aload_n 0, 1) := by decide +kernel
theorem dX0_init_5 : decode cX0_init 5 = .ok (.new 7, 3) := by decide +kernel
theorem dX0_init_8 : decode cX0_init 8 = .ok (.dup, 1) := by decide +kernel
theorem dX0_init_9 : decode cX0_init 9 = .ok (.invokespecial 9, 3) := by decide +kernel
theorem dX0_init_12 : decode cX0_init 12 = .ok (.putfield 10, 3) := by decide +kernel
theorem dX0_init_15 : decode cX0_init 15 = .ok (.aload_n 0, 1) := by decide +kernel
theorem dX0_init_16 : decode cX0_init 16 = .ok (.new 7, 3) := by decide +kernel
theorem dX0_init_19 : decode cX0_init 19 = .ok (.dup, 1) := by decide +kernel
theorem dX0_init_20 : decode cX0_init 20 = .ok (.invokespecial 9, 3) := by decide +kernel
theorem dX0_init_23 : decode cX0_init 23 = .ok (.putfield 16, 3) := by decide +kernel
theorem dX0_init_26 : decode cX0_init 26 = .ok (.return_, 1) := by decide +kernel
theorem dX0_at_0 : decode cX0_at 0 = .ok (.iload_n 1, 1) := by decide +kernel
theorem dX0_at_1 : decode cX0_at 1 = .ok (.ifCond .ne 10, 3) := by decide +kernel
theorem dX0_at_4 : decode cX0_at 4 = .ok (.aload_n 0, 1) := by decide +kernel
theorem dX0_at_5 : decode cX0_at 5 = .ok (.getfield 10, 3) := by decide +kernel
theorem dX0_at_8 : decode cX0_at 8 = .ok (.goto 7, 3) := by decide +kernel
theorem dX0_at_11 : decode cX0_at 11 = .ok (.aload_n 0, 1) := by decide +kernel
theorem dX0_at_12 : decode cX0_at 12 = .ok (.getfield 16, 3) := by decide +kernel
theorem dX0_at_15 : decode cX0_at 15 = .ok (.areturn, 1) := by decide +kernel
set_option maxRecDepth 20000 in
theorem ggX0_become_X3_become : GoodIn wsX0_become wsX3_become := goodIn_r _ [7, 8, 9, 10, 11, 12, 13, 16, 17, 18] (by decide +kernel) (by decide +kernel)
set_option maxRecDepth 20000 in
theorem gX0_become_X3_become : GoodIn wsX0_become (wsV RX0 19 RX3 yX3_become wsX3_become) := goodIn_app (goodIn_of _ (by decide +kernel)) ggX0_become_X3_become
theorem dX0_become_0 : decode cX0_become 0 = .ok (.aload_n 0, 1) := by decide +kernel
theorem dX0_become_1 : decode cX0_become 1 = .ok (.getfield 10, 3) := by decide +kernel
theorem dX0_become_4 : decode cX0_become 4 = .ok (.aload_n 1, 1) := by decide +kernel
theorem dX0_become_5 : decode cX0_become 5 = .ok (.getfield 10, 3) := by decide +kernel
theorem dX0_become_8 : decode cX0_become 8 = .ok (.invokevirtual 19, 3) := by decide +kernel
theorem dX0_become_11 : decode cX0_become 11 = .ok (.aload_n 0, 1) := by decide +kernel
theorem dX0_become_12 : decode cX0_become 12 = .ok (.getfield 16, 3) := by decide +kernel
theorem dX0_become_15 : decode cX0_become 15 = .ok (.aload_n 1, 1) := by decide +kernel
theorem dX0_become_16 : decode cX0_become 16 = .ok (.getfield 16, 3) := by decide +kernel
theorem dX0_become_19 : decode cX0_become 19 = .ok (.invokevirtual 19, 3) := by decide +kernel
theorem dX0_become_22 : decode cX0_become 22 = .ok (.return_, 1) := by decide +kernel
set_option maxRecDepth 20000 in
theorem ggX0_changePlaces_X3_become : GoodIn wsX0_changePlaces wsX3_become := goodIn_r _ [7, 8, 9, 10, 11, 12, 13, 16, 17, 18] (by decide +kernel) (by decide +kernel)
set_option maxRecDepth 20000 in
theorem gX0_changePlaces_X3_become : GoodIn wsX0_changePlaces (wsV RX0 19 RX3 yX3_become wsX3_become) := goodIn_app (goodIn_of _ (by decide +kernel)) ggX0_changePlaces_X3_become
theorem dX0_changePlaces_0 : decode cX0_changePlaces 0 = .ok (.aload_n 1, 1) := by decide +kernel
theorem dX0_changePlaces_1 : decode cX0_changePlaces 1 = .ok (.aload_n 0, 1) := by decide +kernel
theorem dX0_changePlaces_2 : decode cX0_changePlaces 2 = .ok (.getfield 10, 3) := by decide +kernel
theorem dX0_changePlaces_5 : decode cX0_changePlaces 5 = .ok (.invokevirtual 19, 3) := by decide +kernel
theorem dX0_changePlaces_8 : decode cX0_changePlaces 8 = .ok (.aload_n 0, 1) := by decide +kernel
theorem dX0_changePlaces_9 : decode cX0_changePlaces 9 = .ok (.getfield 10, 3) := by decide +kernel
theorem dX0_changePlaces_12 : decode cX0_changePlaces 12 = .ok (.aload_n 0, 1) := by decide +kernel
theorem dX0_changePlaces_13 : decode cX0_changePlaces 13 = .ok (.getfield 16, 3) := by decide +kernel
theorem dX0_changePlaces_16 : decode cX0_changePlaces 16 = .ok (.invokevirtual 19, 3) := by decide +kernel
theorem dX0_changePlaces_19 : decode cX0_changePlaces 19 = .ok (.aload_n 0, 1) := by decide +kernel
theorem dX0_changePlaces_20 : decode cX0_changePlaces 20 = .ok (.getfield 16, 3) := by decide +kernel
theorem dX0_changePlaces_23 : decode cX0_changePlaces 23 = .ok (.aload_n 1, 1) := by decide +kernel
theorem dX0_changePlaces_24 : decode cX0_changePlaces 24 = .ok (.invokevirtual 19, 3) := by decide +kernel
theorem dX0_changePlaces_27 : decode cX0_changePlaces 27 = .ok (.return_, 1) := by decide +kernel
theorem dX1_init_0 : decode cX1_init 0 = .ok (.aload_n 0, 1) := by decide +kernel
theorem dX1_init_1 : decode cX1_init 1 = .ok (.invokespecial 5, 3) := by decide +kernel
theorem dX1_init_4 : decode cX1_init 4 = .ok (.aload_n 0, 1) := by decide +kernel
theorem dX1_init_5 : decode cX1_init 5 = .ok (.bipush 26, 2) := by decide +kernel
theorem dX1_init_7 : decode cX1_init 7 = .ok (.newarray .int, 2) := by decide +kernel
theorem dX1_init_9 : decode cX1_init 9 = .ok (.putfield 11, 3) := by decide +kernel
theorem dX1_init_12 : decode cX1_init 12 = .ok (.aload_n 0, 1) := by decide +kernel
theorem dX1_init_13 : decode cX1_init 13 = .ok (.bipush 104, 2) := by decide +kernel
theorem dX1_init_15 : decode cX1_init 15 = .ok (.newarray .int, 2) := by decide +kernel
theorem dX1_init_17 : decode cX1_init 17 = .ok (.putfield 15, 3) := by decide +kernel
theorem dX1_init_20 : decode cX1_init 20 = .ok (.aload_n 0, 1) := by decide +kernel
theorem dX1_init_21 : decode cX1_init 21 = .ok (.bipush 104, 2) := by decide +kernel
theorem dX1_init_23 : decode cX1_init 23 = .ok (.newarray .int, 2) := by decide +kernel
theorem dX1_init_25 : decode cX1_init 25 = .ok (.putfield 18, 3) := by decide +kernel
theorem dX1_init_28 : decode cX1_init 28 = .ok (.return_, 1) := by decide +kernel
set_option maxRecDepth 20000 in
theorem ggX1_follow_J7_fill_53178 : GoodIn wsX1_follow wsJ7_fill_53178 := goodIn_r _ [9] (by decide +kernel) (by decide +kernel)
set_option maxRecDepth 20000 in
theorem gX1_follow_J7_fill_53178 : GoodIn wsX1_follow (va_wsS RX1 21 yJ7_fill_53178 wsJ7_fill_53178) := goodIn_app (goodIn_of _ (by decide +kernel)) ggX1_follow_J7_fill_53178
set_option maxRecDepth 20000 in
theorem ggX1_follow_X1_arrive : GoodIn wsX1_follow wsX1_arrive := goodIn_r _ [14, 4, 5, 1, 3, 15, 16, 17, 18, 19, 20, 61, 62, 63, 64, 65, 66, 67, 68, 69] (by decide +kernel) (by decide +kernel)
set_option maxRecDepth 20000 in
theorem gX1_follow_X1_arrive : GoodIn wsX1_follow (wsV RX1 40 RX1 yX1_arrive wsX1_arrive) := goodIn_app (goodIn_of _ (by decide +kernel)) ggX1_follow_X1_arrive
set_option maxRecDepth 20000 in
theorem ggX1_follow_X1_step : GoodIn wsX1_follow wsX1_step := goodIn_r _ [24, 3, 4, 5, 25, 26, 27, 28, 29, 30, 31, 18, 32, 20, 33, 34, 35, 36, 37, 38, 39, 40, 41, 42, 43, 44, 45, 46, 47, 48, 49, 50, 51, 52, 53, 54, 55, 56, 57, 13, 58, 2, 59, 60, 10, 11, 12, 14, 1, 15, 16, 17, 19, 61, 62, 63, 64, 65, 66, 67, 68, 69, 70, 71, 72] (by decide +kernel) (by decide +kernel)
set_option maxRecDepth 20000 in
theorem gX1_follow_X1_step : GoodIn wsX1_follow (wsV RX1 44 RX1 yX1_step wsX1_step) := goodIn_app (goodIn_of _ (by decide +kernel)) ggX1_follow_X1_step
theorem dX1_follow_0 : decode cX1_follow 0 = .ok (.aload_n 0, 1) := by decide +kernel
theorem dX1_follow_1 : decode cX1_follow 1 = .ok (.getfield 11, 3) := by decide +kernel
theorem dX1_follow_4 : decode cX1_follow 4 = .ok (.iconst 0, 1) := by decide +kernel
theorem dX1_follow_5 : decode cX1_follow 5 = .ok (.invokestatic 21, 3) := by decide +kernel
theorem dX1_follow_8 : decode cX1_follow 8 = .ok (.aload_n 0, 1) := by decide +kernel
theorem dX1_follow_9 : decode cX1_follow 9 = .ok (.iconst 0, 1) := by decide +kernel
theorem dX1_follow_10 : decode cX1_follow 10 = .ok (.putfield 27, 3) := by decide +kernel
theorem dX1_follow_13 : decode cX1_follow 13 = .ok (.aload_n 0, 1) := by decide +kernel
theorem dX1_follow_14 : decode cX1_follow 14 = .ok (.iconst 0, 1) := by decide +kernel
theorem dX1_follow_15 : decode cX1_follow 15 = .ok (.putfield 31, 3) := by decide +kernel
theorem dX1_follow_18 : decode cX1_follow 18 = .ok (.aload_n 0, 1) := by decide +kernel
theorem dX1_follow_19 : decode cX1_follow 19 = .ok (.iconst 0, 1) := by decide +kernel
theorem dX1_follow_20 : decode cX1_follow 20 = .ok (.putfield 34, 3) := by decide +kernel
theorem dX1_follow_23 : decode cX1_follow 23 = .ok (.aload_n 0, 1) := by decide +kernel
theorem dX1_follow_24 : decode cX1_follow 24 = .ok (.iconst 4, 1) := by decide +kernel
theorem dX1_follow_25 : decode cX1_follow 25 = .ok (.putfield 37, 3) := by decide +kernel
theorem dX1_follow_28 : decode cX1_follow 28 = .ok (.aload_n 0, 1) := by decide +kernel
theorem dX1_follow_29 : decode cX1_follow 29 = .ok (.aload_n 2, 1) := by decide +kernel
theorem dX1_follow_30 : decode cX1_follow 30 = .ok (.invokevirtual 40, 3) := by decide +kernel
theorem dX1_follow_33 : decode cX1_follow 33 = .ok (.iconst 0, 1) := by decide +kernel
theorem dX1_follow_34 : decode cX1_follow 34 = .ok (.istore_n 3, 1) := by decide +kernel
theorem dX1_follow_35 : decode cX1_follow 35 = .ok (.iload_n 3, 1) := by decide +kernel
theorem dX1_follow_36 : decode cX1_follow 36 = .ok (.bipush 104, 2) := by decide +kernel
theorem dX1_follow_38 : decode cX1_follow 38 = .ok (.if_icmp .ge 23, 3) := by decide +kernel
theorem dX1_follow_41 : decode cX1_follow 41 = .ok (.aload_n 0, 1) := by decide +kernel
theorem dX1_follow_42 : decode cX1_follow 42 = .ok (.getfield 37, 3) := by decide +kernel
theorem dX1_follow_45 : decode cX1_follow 45 = .ok (.iconst 4, 1) := by decide +kernel
theorem dX1_follow_46 : decode cX1_follow 46 = .ok (.if_icmp .ne 15, 3) := by decide +kernel
theorem dX1_follow_49 : decode cX1_follow 49 = .ok (.aload_n 0, 1) := by decide +kernel
theorem dX1_follow_50 : decode cX1_follow 50 = .ok (.aload_n 1, 1) := by decide +kernel
theorem dX1_follow_51 : decode cX1_follow 51 = .ok (.aload_n 2, 1) := by decide +kernel
theorem dX1_follow_52 : decode cX1_follow 52 = .ok (.invokevirtual 44, 3) := by decide +kernel
theorem dX1_follow_55 : decode cX1_follow 55 = .ok (.iinc 3 1, 3) := by decide +kernel
theorem dX1_follow_58 : decode cX1_follow 58 = .ok (.goto (-23), 3) := by decide +kernel
theorem dX1_follow_61 : decode cX1_follow 61 = .ok (.return_, 1) := by decide +kernel
theorem dX1_isTaken_0 : decode cX1_isTaken 0 = .ok (.aload_n 0, 1) := by decide +kernel
theorem dX1_isTaken_1 : decode cX1_isTaken 1 = .ok (.getfield 37, 3) := by decide +kernel
theorem dX1_isTaken_4 : decode cX1_isTaken 4 = .ok (.ifCond .ne 7, 3) := by decide +kernel
theorem dX1_isTaken_7 : decode cX1_isTaken 7 = .ok (.iconst 1, 1) := by decide +kernel
theorem dX1_isTaken_8 : decode cX1_isTaken 8 = .ok (.goto 4, 3) := by decide +kernel
theorem dX1_isTaken_11 : decode cX1_isTaken 11 = .ok (.iconst 0, 1) := by decide +kernel
theorem dX1_isTaken_12 : decode cX1_isTaken 12 = .ok (.ireturn, 1) := by decide +kernel
theorem dX1_ending_0 : decode cX1_ending 0 = .ok (.aload_n 0, 1) := by decide +kernel
theorem dX1_ending_1 : decode cX1_ending 1 = .ok (.getfield 37, 3) := by decide +kernel
theorem dX1_ending_4 : decode cX1_ending 4 = .ok (.ireturn, 1) := by decide +kernel
theorem dX1_steps_0 : decode cX1_steps 0 = .ok (.aload_n 0, 1) := by decide +kernel
theorem dX1_steps_1 : decode cX1_steps 1 = .ok (.getfield 27, 3) := by decide +kernel
theorem dX1_steps_4 : decode cX1_steps 4 = .ok (.ireturn, 1) := by decide +kernel
theorem dX1_lastState_0 : decode cX1_lastState 0 = .ok (.aload_n 0, 1) := by decide +kernel
theorem dX1_lastState_1 : decode cX1_lastState 1 = .ok (.getfield 31, 3) := by decide +kernel
theorem dX1_lastState_4 : decode cX1_lastState 4 = .ok (.ireturn, 1) := by decide +kernel
theorem dX1_howOften_0 : decode cX1_howOften 0 = .ok (.iconst 0, 1) := by decide +kernel
theorem dX1_howOften_1 : decode cX1_howOften 1 = .ok (.istore_n 2, 1) := by decide +kernel
theorem dX1_howOften_2 : decode cX1_howOften 2 = .ok (.iconst 0, 1) := by decide +kernel
theorem dX1_howOften_3 : decode cX1_howOften 3 = .ok (.istore_n 3, 1) := by decide +kernel
theorem dX1_howOften_4 : decode cX1_howOften 4 = .ok (.iload_n 3, 1) := by decide +kernel
theorem dX1_howOften_5 : decode cX1_howOften 5 = .ok (.aload_n 0, 1) := by decide +kernel
theorem dX1_howOften_6 : decode cX1_howOften 6 = .ok (.getfield 27, 3) := by decide +kernel
theorem dX1_howOften_9 : decode cX1_howOften 9 = .ok (.if_icmp .ge 28, 3) := by decide +kernel
theorem dX1_howOften_12 : decode cX1_howOften 12 = .ok (.iload_n 3, 1) := by decide +kernel
theorem dX1_howOften_13 : decode cX1_howOften 13 = .ok (.bipush 104, 2) := by decide +kernel
theorem dX1_howOften_15 : decode cX1_howOften 15 = .ok (.if_icmp .ge 22, 3) := by decide +kernel
theorem dX1_howOften_18 : decode cX1_howOften 18 = .ok (.aload_n 0, 1) := by decide +kernel
theorem dX1_howOften_19 : decode cX1_howOften 19 = .ok (.getfield 15, 3) := by decide +kernel
theorem dX1_howOften_22 : decode cX1_howOften 22 = .ok (.iload_n 3, 1) := by decide +kernel
theorem dX1_howOften_23 : decode cX1_howOften 23 = .ok (.iaload, 1) := by decide +kernel
theorem dX1_howOften_24 : decode cX1_howOften 24 = .ok (.iload_n 1, 1) := by decide +kernel
theorem dX1_howOften_25 : decode cX1_howOften 25 = .ok (.if_icmp .ne 6, 3) := by decide +kernel
theorem dX1_howOften_28 : decode cX1_howOften 28 = .ok (.iinc 2 1, 3) := by decide +kernel
theorem dX1_howOften_31 : decode cX1_howOften 31 = .ok (.iinc 3 1, 3) := by decide +kernel
theorem dX1_howOften_34 : decode cX1_howOften 34 = .ok (.goto (-30), 3) := by decide +kernel
theorem dX1_howOften_37 : decode cX1_howOften 37 = .ok (.iload_n 2, 1) := by decide +kernel
theorem dX1_howOften_38 : decode cX1_howOften 38 = .ok (.ireturn, 1) := by decide +kernel
theorem dX1_stateAt_0 : decode cX1_stateAt 0 = .ok (.iconst 0, 1) := by decide +kernel
theorem dX1_stateAt_1 : decode cX1_stateAt 1 = .ok (.istore_n 3, 1) := by decide +kernel
theorem dX1_stateAt_2 : decode cX1_stateAt 2 = .ok (.iconst 0, 1) := by decide +kernel
theorem dX1_stateAt_3 : decode cX1_stateAt 3 = .ok (.istore 4, 2) := by decide +kernel
theorem dX1_stateAt_5 : decode cX1_stateAt 5 = .ok (.iload 4, 2) := by decide +kernel
theorem dX1_stateAt_7 : decode cX1_stateAt 7 = .ok (.aload_n 0, 1) := by decide +kernel
theorem dX1_stateAt_8 : decode cX1_stateAt 8 = .ok (.getfield 27, 3) := by decide +kernel
theorem dX1_stateAt_11 : decode cX1_stateAt 11 = .ok (.if_icmp .ge 43, 3) := by decide +kernel
theorem dX1_stateAt_14 : decode cX1_stateAt 14 = .ok (.iload 4, 2) := by decide +kernel
theorem dX1_stateAt_16 : decode cX1_stateAt 16 = .ok (.bipush 104, 2) := by decide +kernel
theorem dX1_stateAt_18 : decode cX1_stateAt 18 = .ok (.if_icmp .ge 36, 3) := by decide +kernel
theorem dX1_stateAt_21 : decode cX1_stateAt 21 = .ok (.aload_n 0, 1) := by decide +kernel
theorem dX1_stateAt_22 : decode cX1_stateAt 22 = .ok (.getfield 15, 3) := by decide +kernel
theorem dX1_stateAt_25 : decode cX1_stateAt 25 = .ok (.iload 4, 2) := by decide +kernel
theorem dX1_stateAt_27 : decode cX1_stateAt 27 = .ok (.iaload, 1) := by decide +kernel
theorem dX1_stateAt_28 : decode cX1_stateAt 28 = .ok (.iload_n 1, 1) := by decide +kernel
theorem dX1_stateAt_29 : decode cX1_stateAt 29 = .ok (.if_icmp .ne 19, 3) := by decide +kernel
theorem dX1_stateAt_32 : decode cX1_stateAt 32 = .ok (.iload_n 3, 1) := by decide +kernel
theorem dX1_stateAt_33 : decode cX1_stateAt 33 = .ok (.iload_n 2, 1) := by decide +kernel
theorem dX1_stateAt_34 : decode cX1_stateAt 34 = .ok (.if_icmp .ne 11, 3) := by decide +kernel
theorem dX1_stateAt_37 : decode cX1_stateAt 37 = .ok (.aload_n 0, 1) := by decide +kernel
theorem dX1_stateAt_38 : decode cX1_stateAt 38 = .ok (.getfield 18, 3) := by decide +kernel
theorem dX1_stateAt_41 : decode cX1_stateAt 41 = .ok (.iload 4, 2) := by decide +kernel
theorem dX1_stateAt_43 : decode cX1_stateAt 43 = .ok (.iaload, 1) := by decide +kernel
theorem dX1_stateAt_44 : decode cX1_stateAt 44 = .ok (.ireturn, 1) := by decide +kernel
theorem dX1_stateAt_45 : decode cX1_stateAt 45 = .ok (.iinc 3 1, 3) := by decide +kernel
theorem dX1_stateAt_48 : decode cX1_stateAt 48 = .ok (.iinc 4 1, 3) := by decide +kernel
theorem dX1_stateAt_51 : decode cX1_stateAt 51 = .ok (.goto (-46), 3) := by decide +kernel
theorem dX1_stateAt_54 : decode cX1_stateAt 54 = .ok (.iconst (-1), 1) := by decide +kernel
theorem dX1_stateAt_55 : decode cX1_stateAt 55 = .ok (.ireturn, 1) := by decide +kernel
set_option maxRecDepth 20000 in
theorem ggX1_countGaps_X1_howOften : GoodIn wsX1_countGaps wsX1_howOften := goodIn_r _ [5, 6, 7, 8, 9, 10, 11, 12, 13, 14] (by decide +kernel) (by decide +kernel)
set_option maxRecDepth 20000 in
theorem gX1_countGaps_X1_howOften : GoodIn wsX1_countGaps (wsV RX1 48 RX1 yX1_howOften wsX1_howOften) := goodIn_app (goodIn_of _ (by decide +kernel)) ggX1_countGaps_X1_howOften
theorem dX1_countGaps_0 : decode cX1_countGaps 0 = .ok (.iconst 0, 1) := by decide +kernel
theorem dX1_countGaps_1 : decode cX1_countGaps 1 = .ok (.istore_n 2, 1) := by decide +kernel
theorem dX1_countGaps_2 : decode cX1_countGaps 2 = .ok (.iconst 0, 1) := by decide +kernel
theorem dX1_countGaps_3 : decode cX1_countGaps 3 = .ok (.istore_n 3, 1) := by decide +kernel
theorem dX1_countGaps_4 : decode cX1_countGaps 4 = .ok (.iload_n 3, 1) := by decide +kernel
theorem dX1_countGaps_5 : decode cX1_countGaps 5 = .ok (.iload_n 1, 1) := by decide +kernel
theorem dX1_countGaps_6 : decode cX1_countGaps 6 = .ok (.if_icmp .gt 20, 3) := by decide +kernel
theorem dX1_countGaps_9 : decode cX1_countGaps 9 = .ok (.aload_n 0, 1) := by decide +kernel
theorem dX1_countGaps_10 : decode cX1_countGaps 10 = .ok (.iload_n 3, 1) := by decide +kernel
theorem dX1_countGaps_11 : decode cX1_countGaps 11 = .ok (.invokevirtual 48, 3) := by decide +kernel
theorem dX1_countGaps_14 : decode cX1_countGaps 14 = .ok (.ifCond .le 6, 3) := by decide +kernel
theorem dX1_countGaps_17 : decode cX1_countGaps 17 = .ok (.iinc 2 1, 3) := by decide +kernel
theorem dX1_countGaps_20 : decode cX1_countGaps 20 = .ok (.iinc 3 1, 3) := by decide +kernel
theorem dX1_countGaps_23 : decode cX1_countGaps 23 = .ok (.goto (-19), 3) := by decide +kernel
theorem dX1_countGaps_26 : decode cX1_countGaps 26 = .ok (.iload_n 2, 1) := by decide +kernel
theorem dX1_countGaps_27 : decode cX1_countGaps 27 = .ok (.ireturn, 1) := by decide +kernel
set_option maxRecDepth 20000 in
theorem ggX1_busiestGap_X1_howOften : GoodIn wsX1_busiestGap wsX1_howOften := goodIn_r _ [5, 6, 7, 8, 9, 10, 11, 12, 13, 14] (by decide +kernel) (by decide +kernel)
set_option maxRecDepth 20000 in
theorem gX1_busiestGap_X1_howOften : GoodIn wsX1_busiestGap (wsV RX1 48 RX1 yX1_howOften wsX1_howOften) := goodIn_app (goodIn_of _ (by decide +kernel)) ggX1_busiestGap_X1_howOften
theorem dX1_busiestGap_0 : decode cX1_busiestGap 0 = .ok (.iconst (-1), 1) := by decide +kernel
theorem dX1_busiestGap_1 : decode cX1_busiestGap 1 = .ok (.istore_n 2, 1) := by decide +kernel
theorem dX1_busiestGap_2 : decode cX1_busiestGap 2 = .ok (.iconst 0, 1) := by decide +kernel
theorem dX1_busiestGap_3 : decode cX1_busiestGap 3 = .ok (.istore_n 3, 1) := by decide +kernel
theorem dX1_busiestGap_4 : decode cX1_busiestGap 4 = .ok (.iconst 0, 1) := by decide +kernel
theorem dX1_busiestGap_5 : decode cX1_busiestGap 5 = .ok (.istore 4, 2) := by decide +kernel
theorem dX1_busiestGap_7 : decode cX1_busiestGap 7 = .ok (.iload 4, 2) := by decide +kernel
theorem dX1_busiestGap_9 : decode cX1_busiestGap 9 = .ok (.iload_n 1, 1) := by decide +kernel
theorem dX1_busiestGap_10 : decode cX1_busiestGap 10 = .ok (.if_icmp .gt 29, 3) := by decide +kernel
theorem dX1_busiestGap_13 : decode cX1_busiestGap 13 = .ok (.aload_n 0, 1) := by decide +kernel
theorem dX1_busiestGap_14 : decode cX1_busiestGap 14 = .ok (.iload 4, 2) := by decide +kernel
theorem dX1_busiestGap_16 : decode cX1_busiestGap 16 = .ok (.invokevirtual 48, 3) := by decide +kernel
theorem dX1_busiestGap_19 : decode cX1_busiestGap 19 = .ok (.istore 5, 2) := by decide +kernel
theorem dX1_busiestGap_21 : decode cX1_busiestGap 21 = .ok (.iload 5, 2) := by decide +kernel
theorem dX1_busiestGap_23 : decode cX1_busiestGap 23 = .ok (.iload_n 3, 1) := by decide +kernel
theorem dX1_busiestGap_24 : decode cX1_busiestGap 24 = .ok (.if_icmp .le 9, 3) := by decide +kernel
theorem dX1_busiestGap_27 : decode cX1_busiestGap 27 = .ok (.iload 5, 2) := by decide +kernel
theorem dX1_busiestGap_29 : decode cX1_busiestGap 29 = .ok (.istore_n 3, 1) := by decide +kernel
theorem dX1_busiestGap_30 : decode cX1_busiestGap 30 = .ok (.iload 4, 2) := by decide +kernel
theorem dX1_busiestGap_32 : decode cX1_busiestGap 32 = .ok (.istore_n 2, 1) := by decide +kernel
theorem dX1_busiestGap_33 : decode cX1_busiestGap 33 = .ok (.iinc 4 1, 3) := by decide +kernel
theorem dX1_busiestGap_36 : decode cX1_busiestGap 36 = .ok (.goto (-29), 3) := by decide +kernel
theorem dX1_busiestGap_39 : decode cX1_busiestGap 39 = .ok (.iload_n 2, 1) := by decide +kernel
theorem dX1_busiestGap_40 : decode cX1_busiestGap 40 = .ok (.ireturn, 1) := by decide +kernel
set_option maxRecDepth 20000 in
theorem ggX1_step_X7_signAt : GoodIn wsX1_step wsX7_signAt := goodIn_r _ [12, 13, 14, 15, 16, 11, 17, 18, 60, 61] (by decide +kernel) (by decide +kernel)
set_option maxRecDepth 20000 in
theorem gX1_step_X7_signAt : GoodIn wsX1_step (wsV RX1 52 RX7 yX7_signAt wsX7_signAt) := goodIn_app (goodIn_of _ (by decide +kernel)) ggX1_step_X7_signAt
set_option maxRecDepth 20000 in
theorem ggX1_step_X3_at : GoodIn wsX1_step wsX3_at := goodIn_r _ [23, 24, 25, 26, 27, 28, 62, 63, 64] (by decide +kernel) (by decide +kernel)
set_option maxRecDepth 20000 in
theorem gX1_step_X3_at : GoodIn wsX1_step (wsV RX1 57 RX3 yX3_at wsX3_at) := goodIn_app (goodIn_of _ (by decide +kernel)) ggX1_step_X3_at
set_option maxRecDepth 20000 in
theorem ggX1_step_X8_stateOf : GoodIn wsX1_step wsX8_stateOf := goodIn_r _ [30] (by decide +kernel) (by decide +kernel)
set_option maxRecDepth 20000 in
theorem gX1_step_X8_stateOf_n63 : GoodIn wsX1_step (wsX8_stateOf) := ggX1_step_X8_stateOf
set_option maxRecDepth 20000 in
theorem ggX1_step_X8_shift : GoodIn wsX1_step wsX8_shift := goodIn_r _ [32, 33, 34, 27, 35] (by decide +kernel) (by decide +kernel)
set_option maxRecDepth 20000 in
theorem gX1_step_X8_shift_n66 : GoodIn wsX1_step (wsX8_shift) := ggX1_step_X8_shift
set_option maxRecDepth 20000 in
theorem ggX1_step_X1_note : GoodIn wsX1_step wsX1_note := goodIn_r _ [40, 41, 42, 43, 1, 53, 54, 55, 56, 57, 58, 59] (by decide +kernel) (by decide +kernel)
set_option maxRecDepth 20000 in
theorem gX1_step_X1_note : GoodIn wsX1_step (wsV RX1 74 RX1 yX1_note wsX1_note) := goodIn_app (goodIn_of _ (by decide +kernel)) ggX1_step_X1_note
set_option maxRecDepth 20000 in
theorem ggX1_step_X1_arrive : GoodIn wsX1_step wsX1_arrive := goodIn_r _ [47, 2, 3, 48, 1, 49, 50, 51, 11, 52, 13, 53, 54, 55, 56, 57, 58, 59, 60, 61] (by decide +kernel) (by decide +kernel)
set_option maxRecDepth 20000 in
theorem gX1_step_X1_arrive : GoodIn wsX1_step (wsV RX1 40 RX1 yX1_arrive wsX1_arrive) := goodIn_app (goodIn_of _ (by decide +kernel)) ggX1_step_X1_arrive
theorem dX1_step_0 : decode cX1_step 0 = .ok (.aload_n 1, 1) := by decide +kernel
theorem dX1_step_1 : decode cX1_step 1 = .ok (.aload_n 0, 1) := by decide +kernel
theorem dX1_step_2 : decode cX1_step 2 = .ok (.getfield 31, 3) := by decide +kernel
theorem dX1_step_5 : decode cX1_step 5 = .ok (.aload_n 2, 1) := by decide +kernel
theorem dX1_step_6 : decode cX1_step 6 = .ok (.aload_n 0, 1) := by decide +kernel
theorem dX1_step_7 : decode cX1_step 7 = .ok (.getfield 34, 3) := by decide +kernel
theorem dX1_step_10 : decode cX1_step 10 = .ok (.invokevirtual 52, 3) := by decide +kernel
theorem dX1_step_13 : decode cX1_step 13 = .ok (.invokevirtual 57, 3) := by decide +kernel
theorem dX1_step_16 : decode cX1_step 16 = .ok (.istore_n 3, 1) := by decide +kernel
theorem dX1_step_17 : decode cX1_step 17 = .ok (.iload_n 3, 1) := by decide +kernel
theorem dX1_step_18 : decode cX1_step 18 = .ok (.iconst (-1), 1) := by decide +kernel
theorem dX1_step_19 : decode cX1_step 19 = .ok (.if_icmp .ne 9, 3) := by decide +kernel
theorem dX1_step_22 : decode cX1_step 22 = .ok (.aload_n 0, 1) := by decide +kernel
theorem dX1_step_23 : decode cX1_step 23 = .ok (.iconst 1, 1) := by decide +kernel
theorem dX1_step_24 : decode cX1_step 24 = .ok (.putfield 37, 3) := by decide +kernel
theorem dX1_step_27 : decode cX1_step 27 = .ok (.return_, 1) := by decide +kernel
theorem dX1_step_28 : decode cX1_step 28 = .ok (.aload_n 0, 1) := by decide +kernel
theorem dX1_step_29 : decode cX1_step 29 = .ok (.iload_n 3, 1) := by decide +kernel
theorem dX1_step_30 : decode cX1_step 30 = .ok (.invokestatic 63, 3) := by decide +kernel
theorem dX1_step_33 : decode cX1_step 33 = .ok (.putfield 31, 3) := by decide +kernel
theorem dX1_step_36 : decode cX1_step 36 = .ok (.aload_n 0, 1) := by decide +kernel
theorem dX1_step_37 : decode cX1_step 37 = .ok (.getfield 34, 3) := by decide +kernel
theorem dX1_step_40 : decode cX1_step 40 = .ok (.istore 4, 2) := by decide +kernel
theorem dX1_step_42 : decode cX1_step 42 = .ok (.aload_n 0, 1) := by decide +kernel
theorem dX1_step_43 : decode cX1_step 43 = .ok (.dup, 1) := by decide +kernel
theorem dX1_step_44 : decode cX1_step 44 = .ok (.getfield 34, 3) := by decide +kernel
theorem dX1_step_47 : decode cX1_step 47 = .ok (.iload_n 3, 1) := by decide +kernel
theorem dX1_step_48 : decode cX1_step 48 = .ok (.invokestatic 66, 3) := by decide +kernel
theorem dX1_step_51 : decode cX1_step 51 = .ok (.iadd, 1) := by decide +kernel
theorem dX1_step_52 : decode cX1_step 52 = .ok (.putfield 34, 3) := by decide +kernel
theorem dX1_step_55 : decode cX1_step 55 = .ok (.aload_n 0, 1) := by decide +kernel
theorem dX1_step_56 : decode cX1_step 56 = .ok (.iload 4, 2) := by decide +kernel
theorem dX1_step_58 : decode cX1_step 58 = .ok (.aload_n 0, 1) := by decide +kernel
theorem dX1_step_59 : decode cX1_step 59 = .ok (.getfield 34, 3) := by decide +kernel
theorem dX1_step_62 : decode cX1_step 62 = .ok (.invokestatic 69, 3) := by decide +kernel
theorem dX1_step_65 : decode cX1_step 65 = .ok (.invokevirtual 74, 3) := by decide +kernel
theorem dX1_step_68 : decode cX1_step 68 = .ok (.aload_n 0, 1) := by decide +kernel
theorem dX1_step_69 : decode cX1_step 69 = .ok (.aload_n 2, 1) := by decide +kernel
theorem dX1_step_70 : decode cX1_step 70 = .ok (.invokevirtual 40, 3) := by decide +kernel
theorem dX1_step_73 : decode cX1_step 73 = .ok (.return_, 1) := by decide +kernel
theorem dX1_note_0 : decode cX1_note 0 = .ok (.aload_n 0, 1) := by decide +kernel
theorem dX1_note_1 : decode cX1_note 1 = .ok (.getfield 27, 3) := by decide +kernel
theorem dX1_note_4 : decode cX1_note 4 = .ok (.ifCond .lt 45, 3) := by decide +kernel
theorem dX1_note_7 : decode cX1_note 7 = .ok (.aload_n 0, 1) := by decide +kernel
theorem dX1_note_8 : decode cX1_note 8 = .ok (.getfield 27, 3) := by decide +kernel
theorem dX1_note_11 : decode cX1_note 11 = .ok (.bipush 104, 2) := by decide +kernel
theorem dX1_note_13 : decode cX1_note 13 = .ok (.if_icmp .ge 36, 3) := by decide +kernel
theorem dX1_note_16 : decode cX1_note 16 = .ok (.aload_n 0, 1) := by decide +kernel
theorem dX1_note_17 : decode cX1_note 17 = .ok (.getfield 15, 3) := by decide +kernel
theorem dX1_note_20 : decode cX1_note 20 = .ok (.aload_n 0, 1) := by decide +kernel
theorem dX1_note_21 : decode cX1_note 21 = .ok (.getfield 27, 3) := by decide +kernel
theorem dX1_note_24 : decode cX1_note 24 = .ok (.iload_n 1, 1) := by decide +kernel
theorem dX1_note_25 : decode cX1_note 25 = .ok (.iastore, 1) := by decide +kernel
theorem dX1_note_26 : decode cX1_note 26 = .ok (.aload_n 0, 1) := by decide +kernel
theorem dX1_note_27 : decode cX1_note 27 = .ok (.getfield 18, 3) := by decide +kernel
theorem dX1_note_30 : decode cX1_note 30 = .ok (.aload_n 0, 1) := by decide +kernel
theorem dX1_note_31 : decode cX1_note 31 = .ok (.getfield 27, 3) := by decide +kernel
theorem dX1_note_34 : decode cX1_note 34 = .ok (.aload_n 0, 1) := by decide +kernel
theorem dX1_note_35 : decode cX1_note 35 = .ok (.getfield 31, 3) := by decide +kernel
theorem dX1_note_38 : decode cX1_note 38 = .ok (.iastore, 1) := by decide +kernel
theorem dX1_note_39 : decode cX1_note 39 = .ok (.aload_n 0, 1) := by decide +kernel
theorem dX1_note_40 : decode cX1_note 40 = .ok (.dup, 1) := by decide +kernel
theorem dX1_note_41 : decode cX1_note 41 = .ok (.getfield 27, 3) := by decide +kernel
theorem dX1_note_44 : decode cX1_note 44 = .ok (.iconst 1, 1) := by decide +kernel
theorem dX1_note_45 : decode cX1_note 45 = .ok (.iadd, 1) := by decide +kernel
theorem dX1_note_46 : decode cX1_note 46 = .ok (.putfield 27, 3) := by decide +kernel
theorem dX1_note_49 : decode cX1_note 49 = .ok (.return_, 1) := by decide +kernel
set_option maxRecDepth 20000 in
theorem ggX1_arrive_X7_length : GoodIn wsX1_arrive wsX7_length := goodIn_r _ [9, 10, 18, 19] (by decide +kernel) (by decide +kernel)
set_option maxRecDepth 20000 in
theorem gX1_arrive_X7_length : GoodIn wsX1_arrive (wsV RX1 78 RX7 yX7_length wsX7_length) := goodIn_app (goodIn_of _ (by decide +kernel)) ggX1_arrive_X7_length
theorem dX1_arrive_0 : decode cX1_arrive 0 = .ok (.aload_n 0, 1) := by decide +kernel
theorem dX1_arrive_1 : decode cX1_arrive 1 = .ok (.getfield 34, 3) := by decide +kernel
theorem dX1_arrive_4 : decode cX1_arrive 4 = .ok (.ifCond .ge 11, 3) := by decide +kernel
theorem dX1_arrive_7 : decode cX1_arrive 7 = .ok (.aload_n 0, 1) := by decide +kernel
theorem dX1_arrive_8 : decode cX1_arrive 8 = .ok (.iconst 2, 1) := by decide +kernel
theorem dX1_arrive_9 : decode cX1_arrive 9 = .ok (.putfield 37, 3) := by decide +kernel
theorem dX1_arrive_12 : decode cX1_arrive 12 = .ok (.goto 79, 3) := by decide +kernel
theorem dX1_arrive_15 : decode cX1_arrive 15 = .ok (.aload_n 0, 1) := by decide +kernel
theorem dX1_arrive_16 : decode cX1_arrive 16 = .ok (.getfield 34, 3) := by decide +kernel
theorem dX1_arrive_19 : decode cX1_arrive 19 = .ok (.aload_n 1, 1) := by decide +kernel
theorem dX1_arrive_20 : decode cX1_arrive 20 = .ok (.invokevirtual 78, 3) := by decide +kernel
theorem dX1_arrive_23 : decode cX1_arrive 23 = .ok (.iconst 1, 1) := by decide +kernel
theorem dX1_arrive_24 : decode cX1_arrive 24 = .ok (.iadd, 1) := by decide +kernel
theorem dX1_arrive_25 : decode cX1_arrive 25 = .ok (.if_icmp .gt 12, 3) := by decide +kernel
theorem dX1_arrive_28 : decode cX1_arrive 28 = .ok (.aload_n 0, 1) := by decide +kernel
theorem dX1_arrive_29 : decode cX1_arrive 29 = .ok (.getfield 34, 3) := by decide +kernel
theorem dX1_arrive_32 : decode cX1_arrive 32 = .ok (.bipush 26, 2) := by decide +kernel
theorem dX1_arrive_34 : decode cX1_arrive 34 = .ok (.if_icmp .lt 11, 3) := by decide +kernel
theorem dX1_arrive_37 : decode cX1_arrive 37 = .ok (.aload_n 0, 1) := by decide +kernel
theorem dX1_arrive_38 : decode cX1_arrive 38 = .ok (.iconst 0, 1) := by decide +kernel
theorem dX1_arrive_39 : decode cX1_arrive 39 = .ok (.putfield 37, 3) := by decide +kernel
theorem dX1_arrive_42 : decode cX1_arrive 42 = .ok (.goto 49, 3) := by decide +kernel
theorem dX1_arrive_45 : decode cX1_arrive 45 = .ok (.aload_n 0, 1) := by decide +kernel
theorem dX1_arrive_46 : decode cX1_arrive 46 = .ok (.getfield 11, 3) := by decide +kernel
theorem dX1_arrive_49 : decode cX1_arrive 49 = .ok (.aload_n 0, 1) := by decide +kernel
theorem dX1_arrive_50 : decode cX1_arrive 50 = .ok (.getfield 34, 3) := by decide +kernel
theorem dX1_arrive_53 : decode cX1_arrive 53 = .ok (.iaload, 1) := by decide +kernel
theorem dX1_arrive_54 : decode cX1_arrive 54 = .ok (.aload_n 0, 1) := by decide +kernel
theorem dX1_arrive_55 : decode cX1_arrive 55 = .ok (.getfield 31, 3) := by decide +kernel
theorem dX1_arrive_58 : decode cX1_arrive 58 = .ok (.ishr, 1) := by decide +kernel
theorem dX1_arrive_59 : decode cX1_arrive 59 = .ok (.iconst 1, 1) := by decide +kernel
theorem dX1_arrive_60 : decode cX1_arrive 60 = .ok (.iand, 1) := by decide +kernel
theorem dX1_arrive_61 : decode cX1_arrive 61 = .ok (.iconst 1, 1) := by decide +kernel
theorem dX1_arrive_62 : decode cX1_arrive 62 = .ok (.if_icmp .ne 11, 3) := by decide +kernel
theorem dX1_arrive_65 : decode cX1_arrive 65 = .ok (.aload_n 0, 1) := by decide +kernel
theorem dX1_arrive_66 : decode cX1_arrive 66 = .ok (.iconst 3, 1) := by decide +kernel
theorem dX1_arrive_67 : decode cX1_arrive 67 = .ok (.putfield 37, 3) := by decide +kernel
theorem dX1_arrive_70 : decode cX1_arrive 70 = .ok (.goto 21, 3) := by decide +kernel
theorem dX1_arrive_73 : decode cX1_arrive 73 = .ok (.aload_n 0, 1) := by decide +kernel
theorem dX1_arrive_74 : decode cX1_arrive 74 = .ok (.getfield 11, 3) := by decide +kernel
theorem dX1_arrive_77 : decode cX1_arrive 77 = .ok (.aload_n 0, 1) := by decide +kernel
theorem dX1_arrive_78 : decode cX1_arrive 78 = .ok (.getfield 34, 3) := by decide +kernel
theorem dX1_arrive_81 : decode cX1_arrive 81 = .ok (.dup2, 1) := by decide +kernel
theorem dX1_arrive_82 : decode cX1_arrive 82 = .ok (.iaload, 1) := by decide +kernel
theorem dX1_arrive_83 : decode cX1_arrive 83 = .ok (.iconst 1, 1) := by decide +kernel
theorem dX1_arrive_84 : decode cX1_arrive 84 = .ok (.aload_n 0, 1) := by decide +kernel
theorem dX1_arrive_85 : decode cX1_arrive 85 = .ok (.getfield 31, 3) := by decide +kernel
theorem dX1_arrive_88 : decode cX1_arrive 88 = .ok (.ishl, 1) := by decide +kernel
theorem dX1_arrive_89 : decode cX1_arrive 89 = .ok (.ior, 1) := by decide +kernel
theorem dX1_arrive_90 : decode cX1_arrive 90 = .ok (.iastore, 1) := by decide +kernel
theorem dX1_arrive_91 : decode cX1_arrive 91 = .ok (.return_, 1) := by decide +kernel
set_option maxRecDepth 20000 in
theorem ggX2_init_X0_init : GoodIn wsX2_init wsX0_init := goodIn_r _ [9, 10, 2, 3, 11, 12, 13, 14, 15, 16, 17, 18, 19, 20, 21, 22, 23, 24, 25, 26, 32, 33, 34, 30, 31] (by decide +kernel) (by decide +kernel)
set_option maxRecDepth 20000 in
theorem gX2_init_X0_init_n17 : GoodIn wsX2_init (wsX0_init) := ggX2_init_X0_init
theorem dX2_init_0 : decode cX2_init 0 = .ok (.aload_n 0, 1) := by decide +kernel
theorem dX2_init_1 : decode cX2_init 1 = .ok (.invokespecial 3, 3) := by decide +kernel
theorem dX2_init_4 : decode cX2_init 4 = .ok (.aload_n 0, 1) := by decide +kernel
theorem dX2_init_5 : decode cX2_init 5 = .ok (.bipush 8, 2) := by decide +kernel
theorem dX2_init_7 : decode cX2_init 7 = .ok (.anewarray 9, 3) := by decide +kernel
theorem dX2_init_10 : decode cX2_init 10 = .ok (.putfield 11, 3) := by decide +kernel
theorem dX2_init_13 : decode cX2_init 13 = .ok (.iconst 0, 1) := by decide +kernel
theorem dX2_init_14 : decode cX2_init 14 = .ok (.istore_n 1, 1) := by decide +kernel
theorem dX2_init_15 : decode cX2_init 15 = .ok (.iload_n 1, 1) := by decide +kernel
theorem dX2_init_16 : decode cX2_init 16 = .ok (.bipush 8, 2) := by decide +kernel
theorem dX2_init_18 : decode cX2_init 18 = .ok (.if_icmp .ge 22, 3) := by decide +kernel
theorem dX2_init_21 : decode cX2_init 21 = .ok (.aload_n 0, 1) := by decide +kernel
theorem dX2_init_22 : decode cX2_init 22 = .ok (.getfield 11, 3) := by decide +kernel
theorem dX2_init_25 : decode cX2_init 25 = .ok (.iload_n 1, 1) := by decide +kernel
theorem dX2_init_26 : decode cX2_init 26 = .ok (.new 9, 3) := by decide +kernel
theorem dX2_init_29 : decode cX2_init 29 = .ok (.dup, 1) := by decide +kernel
theorem dX2_init_30 : decode cX2_init 30 = .ok (.invokespecial 17, 3) := by decide +kernel
theorem dX2_init_33 : decode cX2_init 33 = .ok (.aastore, 1) := by decide +kernel
theorem dX2_init_34 : decode cX2_init 34 = .ok (.iinc 1 1, 3) := by decide +kernel
theorem dX2_init_37 : decode cX2_init 37 = .ok (.goto (-22), 3) := by decide +kernel
theorem dX2_init_40 : decode cX2_init 40 = .ok (.return_, 1) := by decide +kernel
theorem dX2_size_0 : decode cX2_size 0 = .ok (.aload_n 0, 1) := by decide +kernel
theorem dX2_size_1 : decode cX2_size 1 = .ok (.getfield 18, 3) := by decide +kernel
theorem dX2_size_4 : decode cX2_size 4 = .ok (.ireturn, 1) := by decide +kernel
set_option maxRecDepth 20000 in
theorem ggX2_remember_X2_slotAt : GoodIn wsX2_remember wsX2_slotAt := goodIn_r _ [11, 12, 31, 32, 33] (by decide +kernel) (by decide +kernel)
set_option maxRecDepth 20000 in
theorem gX2_remember_X2_slotAt : GoodIn wsX2_remember (wsV RX2 25 RX2 yX2_slotAt wsX2_slotAt) := goodIn_app (goodIn_of _ (by decide +kernel)) ggX2_remember_X2_slotAt
set_option maxRecDepth 20000 in
theorem ggX2_remember_X0_become : GoodIn wsX2_remember wsX0_become := goodIn_r _ [17, 18, 19, 20, 21, 22, 23, 24, 25, 26, 27, 28, 29, 30, 34, 35, 36, 37, 38] (by decide +kernel) (by decide +kernel)
set_option maxRecDepth 20000 in
theorem gX2_remember_X0_become : GoodIn wsX2_remember (wsV RX2 29 RX0 yX0_become wsX0_become) := goodIn_app (goodIn_of _ (by decide +kernel)) ggX2_remember_X0_become
theorem dX2_remember_0 : decode cX2_remember 0 = .ok (.aload_n 0, 1) := by decide +kernel
theorem dX2_remember_1 : decode cX2_remember 1 = .ok (.aload_n 0, 1) := by decide +kernel
theorem dX2_remember_2 : decode cX2_remember 2 = .ok (.getfield 22, 3) := by decide +kernel
theorem dX2_remember_5 : decode cX2_remember 5 = .ok (.invokevirtual 25, 3) := by decide +kernel
theorem dX2_remember_8 : decode cX2_remember 8 = .ok (.astore_n 2, 1) := by decide +kernel
theorem dX2_remember_9 : decode cX2_remember 9 = .ok (.aload_n 2, 1) := by decide +kernel
theorem dX2_remember_10 : decode cX2_remember 10 = .ok (.ifnull 8, 3) := by decide +kernel
theorem dX2_remember_13 : decode cX2_remember 13 = .ok (.aload_n 2, 1) := by decide +kernel
theorem dX2_remember_14 : decode cX2_remember 14 = .ok (.aload_n 1, 1) := by decide +kernel
theorem dX2_remember_15 : decode cX2_remember 15 = .ok (.invokevirtual 29, 3) := by decide +kernel
theorem dX2_remember_18 : decode cX2_remember 18 = .ok (.aload_n 0, 1) := by decide +kernel
theorem dX2_remember_19 : decode cX2_remember 19 = .ok (.aload_n 0, 1) := by decide +kernel
theorem dX2_remember_20 : decode cX2_remember 20 = .ok (.getfield 22, 3) := by decide +kernel
theorem dX2_remember_23 : decode cX2_remember 23 = .ok (.iconst 1, 1) := by decide +kernel
theorem dX2_remember_24 : decode cX2_remember 24 = .ok (.iadd, 1) := by decide +kernel
theorem dX2_remember_25 : decode cX2_remember 25 = .ok (.bipush 8, 2) := by decide +kernel
theorem dX2_remember_27 : decode cX2_remember 27 = .ok (.irem, 1) := by decide +kernel
theorem dX2_remember_28 : decode cX2_remember 28 = .ok (.putfield 22, 3) := by decide +kernel
theorem dX2_remember_31 : decode cX2_remember 31 = .ok (.aload_n 0, 1) := by decide +kernel
theorem dX2_remember_32 : decode cX2_remember 32 = .ok (.bipush 8, 2) := by decide +kernel
theorem dX2_remember_34 : decode cX2_remember 34 = .ok (.aload_n 0, 1) := by decide +kernel
theorem dX2_remember_35 : decode cX2_remember 35 = .ok (.getfield 18, 3) := by decide +kernel
theorem dX2_remember_38 : decode cX2_remember 38 = .ok (.iconst 1, 1) := by decide +kernel
theorem dX2_remember_39 : decode cX2_remember 39 = .ok (.iadd, 1) := by decide +kernel
theorem dX2_remember_40 : decode cX2_remember 40 = .ok (.invokestatic 33, 3) := by decide +kernel
theorem dX2_remember_43 : decode cX2_remember 43 = .ok (.putfield 18, 3) := by decide +kernel
theorem dX2_remember_46 : decode cX2_remember 46 = .ok (.return_, 1) := by decide +kernel
set_option maxRecDepth 20000 in
theorem ggX2_stepBack_X2_slotAt : GoodIn wsX2_stepBack wsX2_slotAt := goodIn_r _ [7, 8, 27, 28, 29] (by decide +kernel) (by decide +kernel)
set_option maxRecDepth 20000 in
theorem gX2_stepBack_X2_slotAt : GoodIn wsX2_stepBack (wsV RX2 25 RX2 yX2_slotAt wsX2_slotAt) := goodIn_app (goodIn_of _ (by decide +kernel)) ggX2_stepBack_X2_slotAt
set_option maxRecDepth 20000 in
theorem ggX2_stepBack_X0_become : GoodIn wsX2_stepBack wsX0_become := goodIn_r _ [13, 14, 15, 16, 17, 18, 19, 20, 21, 22, 23, 24, 25, 26, 30, 31, 32, 33, 34] (by decide +kernel) (by decide +kernel)
set_option maxRecDepth 20000 in
theorem gX2_stepBack_X0_become : GoodIn wsX2_stepBack (wsV RX2 29 RX0 yX0_become wsX0_become) := goodIn_app (goodIn_of _ (by decide +kernel)) ggX2_stepBack_X0_become
theorem dX2_stepBack_0 : decode cX2_stepBack 0 = .ok (.aload_n 0, 1) := by decide +kernel
theorem dX2_stepBack_1 : decode cX2_stepBack 1 = .ok (.getfield 18, 3) := by decide +kernel
theorem dX2_stepBack_4 : decode cX2_stepBack 4 = .ok (.ifCond .ne 5, 3) := by decide +kernel
theorem dX2_stepBack_7 : decode cX2_stepBack 7 = .ok (.iconst 0, 1) := by decide +kernel
theorem dX2_stepBack_8 : decode cX2_stepBack 8 = .ok (.ireturn, 1) := by decide +kernel
theorem dX2_stepBack_9 : decode cX2_stepBack 9 = .ok (.aload_n 0, 1) := by decide +kernel
theorem dX2_stepBack_10 : decode cX2_stepBack 10 = .ok (.dup, 1) := by decide +kernel
theorem dX2_stepBack_11 : decode cX2_stepBack 11 = .ok (.getfield 18, 3) := by decide +kernel
theorem dX2_stepBack_14 : decode cX2_stepBack 14 = .ok (.iconst 1, 1) := by decide +kernel
theorem dX2_stepBack_15 : decode cX2_stepBack 15 = .ok (.isub, 1) := by decide +kernel
theorem dX2_stepBack_16 : decode cX2_stepBack 16 = .ok (.putfield 18, 3) := by decide +kernel
theorem dX2_stepBack_19 : decode cX2_stepBack 19 = .ok (.aload_n 0, 1) := by decide +kernel
theorem dX2_stepBack_20 : decode cX2_stepBack 20 = .ok (.aload_n 0, 1) := by decide +kernel
theorem dX2_stepBack_21 : decode cX2_stepBack 21 = .ok (.getfield 22, 3) := by decide +kernel
theorem dX2_stepBack_24 : decode cX2_stepBack 24 = .ok (.bipush 8, 2) := by decide +kernel
theorem dX2_stepBack_26 : decode cX2_stepBack 26 = .ok (.iadd, 1) := by decide +kernel
theorem dX2_stepBack_27 : decode cX2_stepBack 27 = .ok (.iconst 1, 1) := by decide +kernel
theorem dX2_stepBack_28 : decode cX2_stepBack 28 = .ok (.isub, 1) := by decide +kernel
theorem dX2_stepBack_29 : decode cX2_stepBack 29 = .ok (.bipush 8, 2) := by decide +kernel
theorem dX2_stepBack_31 : decode cX2_stepBack 31 = .ok (.irem, 1) := by decide +kernel
theorem dX2_stepBack_32 : decode cX2_stepBack 32 = .ok (.putfield 22, 3) := by decide +kernel
theorem dX2_stepBack_35 : decode cX2_stepBack 35 = .ok (.aload_n 0, 1) := by decide +kernel
theorem dX2_stepBack_36 : decode cX2_stepBack 36 = .ok (.aload_n 0, 1) := by decide +kernel
theorem dX2_stepBack_37 : decode cX2_stepBack 37 = .ok (.getfield 22, 3) := by decide +kernel
theorem dX2_stepBack_40 : decode cX2_stepBack 40 = .ok (.invokevirtual 25, 3) := by decide +kernel
theorem dX2_stepBack_43 : decode cX2_stepBack 43 = .ok (.astore_n 2, 1) := by decide +kernel
theorem dX2_stepBack_44 : decode cX2_stepBack 44 = .ok (.aload_n 2, 1) := by decide +kernel
theorem dX2_stepBack_45 : decode cX2_stepBack 45 = .ok (.ifnull 8, 3) := by decide +kernel
theorem dX2_stepBack_48 : decode cX2_stepBack 48 = .ok (.aload_n 1, 1) := by decide +kernel
theorem dX2_stepBack_49 : decode cX2_stepBack 49 = .ok (.aload_n 2, 1) := by decide +kernel
theorem dX2_stepBack_50 : decode cX2_stepBack 50 = .ok (.invokevirtual 29, 3) := by decide +kernel
theorem dX2_stepBack_53 : decode cX2_stepBack 53 = .ok (.iconst 1, 1) := by decide +kernel
theorem dX2_stepBack_54 : decode cX2_stepBack 54 = .ok (.ireturn, 1) := by decide +kernel
theorem dX2_forget_0 : decode cX2_forget 0 = .ok (.aload_n 0, 1) := by decide +kernel
theorem dX2_forget_1 : decode cX2_forget 1 = .ok (.iconst 0, 1) := by decide +kernel
theorem dX2_forget_2 : decode cX2_forget 2 = .ok (.putfield 18, 3) := by decide +kernel
theorem dX2_forget_5 : decode cX2_forget 5 = .ok (.return_, 1) := by decide +kernel
theorem dX2_slotAt_0 : decode cX2_slotAt 0 = .ok (.iload_n 1, 1) := by decide +kernel
theorem dX2_slotAt_1 : decode cX2_slotAt 1 = .ok (.ifCond .lt 18, 3) := by decide +kernel
theorem dX2_slotAt_4 : decode cX2_slotAt 4 = .ok (.iload_n 1, 1) := by decide +kernel
theorem dX2_slotAt_5 : decode cX2_slotAt 5 = .ok (.bipush 8, 2) := by decide +kernel
theorem dX2_slotAt_7 : decode cX2_slotAt 7 = .ok (.if_icmp .ge 12, 3) := by decide +kernel
theorem dX2_slotAt_10 : decode cX2_slotAt 10 = .ok (.aload_n 0, 1) := by decide +kernel
theorem dX2_slotAt_11 : decode cX2_slotAt 11 = .ok (.getfield 11, 3) := by decide +kernel
theorem dX2_slotAt_14 : decode cX2_slotAt 14 = .ok (.iload_n 1, 1) := by decide +kernel
theorem dX2_slotAt_15 : decode cX2_slotAt 15 = .ok (.aaload, 1) := by decide +kernel
theorem dX2_slotAt_16 : decode cX2_slotAt 16 = .ok (.goto 4, 3) := by decide +kernel
theorem dX2_slotAt_19 : decode cX2_slotAt 19 = .ok (.aconst_null, 1) := by decide +kernel
theorem dX2_slotAt_20 : decode cX2_slotAt 20 = .ok (.areturn, 1) := by decide +kernel
set_option maxRecDepth 20000 in
theorem ggX3_init_J7_fill_53178 : GoodIn wsX3_init wsJ7_fill_53178 := goodIn_r _ [10] (by decide +kernel) (by decide +kernel)
set_option maxRecDepth 20000 in
theorem gX3_init_J7_fill_53178 : GoodIn wsX3_init (va_wsS RX3 19 yJ7_fill_53178 wsJ7_fill_53178) := goodIn_app (goodIn_of _ (by decide +kernel)) ggX3_init_J7_fill_53178
theorem dX3_init_0 : decode cX3_init 0 = .ok (.aload_n 0, 1) := by decide +kernel
theorem dX3_init_1 : decode cX3_init 1 = .ok (.invokespecial 3, 3) := by decide +kernel
theorem dX3_init_4 : decode cX3_init 4 = .ok (.aload_n 0, 1) := by decide +kernel
theorem dX3_init_5 : decode cX3_init 5 = .ok (.bipush 16, 2) := by decide +kernel
theorem dX3_init_7 : decode cX3_init 7 = .ok (.newarray .int, 2) := by decide +kernel
theorem dX3_init_9 : decode cX3_init 9 = .ok (.putfield 9, 3) := by decide +kernel
theorem dX3_init_12 : decode cX3_init 12 = .ok (.aload_n 0, 1) := by decide +kernel
theorem dX3_init_13 : decode cX3_init 13 = .ok (.iconst 1, 1) := by decide +kernel
theorem dX3_init_14 : decode cX3_init 14 = .ok (.putfield 15, 3) := by decide +kernel
theorem dX3_init_17 : decode cX3_init 17 = .ok (.aload_n 0, 1) := by decide +kernel
theorem dX3_init_18 : decode cX3_init 18 = .ok (.getfield 9, 3) := by decide +kernel
theorem dX3_init_21 : decode cX3_init 21 = .ok (.iconst (-1), 1) := by decide +kernel
theorem dX3_init_22 : decode cX3_init 22 = .ok (.invokestatic 19, 3) := by decide +kernel
theorem dX3_init_25 : decode cX3_init 25 = .ok (.return_, 1) := by decide +kernel
theorem dX3_size_0 : decode cX3_size 0 = .ok (.aload_n 0, 1) := by decide +kernel
theorem dX3_size_1 : decode cX3_size 1 = .ok (.getfield 15, 3) := by decide +kernel
theorem dX3_size_4 : decode cX3_size 4 = .ok (.ireturn, 1) := by decide +kernel
theorem dX3_hasState_0 : decode cX3_hasState 0 = .ok (.iload_n 1, 1) := by decide +kernel
theorem dX3_hasState_1 : decode cX3_hasState 1 = .ok (.ifCond .lt 15, 3) := by decide +kernel
theorem dX3_hasState_4 : decode cX3_hasState 4 = .ok (.iload_n 1, 1) := by decide +kernel
theorem dX3_hasState_5 : decode cX3_hasState 5 = .ok (.aload_n 0, 1) := by decide +kernel
theorem dX3_hasState_6 : decode cX3_hasState 6 = .ok (.getfield 15, 3) := by decide +kernel
theorem dX3_hasState_9 : decode cX3_hasState 9 = .ok (.if_icmp .ge 7, 3) := by decide +kernel
theorem dX3_hasState_12 : decode cX3_hasState 12 = .ok (.iconst 1, 1) := by decide +kernel
theorem dX3_hasState_13 : decode cX3_hasState 13 = .ok (.goto 4, 3) := by decide +kernel
theorem dX3_hasState_16 : decode cX3_hasState 16 = .ok (.iconst 0, 1) := by decide +kernel
theorem dX3_hasState_17 : decode cX3_hasState 17 = .ok (.ireturn, 1) := by decide +kernel
set_option maxRecDepth 20000 in
theorem ggX3_at_X8_isSign : GoodIn wsX3_at wsX8_isSign := goodIn_r _ [5] (by decide +kernel) (by decide +kernel)
set_option maxRecDepth 20000 in
theorem gX3_at_X8_isSign_n25 : GoodIn wsX3_at (wsX8_isSign) := ggX3_at_X8_isSign
theorem dX3_at_0 : decode cX3_at 0 = .ok (.iload_n 1, 1) := by decide +kernel
theorem dX3_at_1 : decode cX3_at 1 = .ok (.ifCond .lt 31, 3) := by decide +kernel
theorem dX3_at_4 : decode cX3_at 4 = .ok (.iload_n 1, 1) := by decide +kernel
theorem dX3_at_5 : decode cX3_at 5 = .ok (.aload_n 0, 1) := by decide +kernel
theorem dX3_at_6 : decode cX3_at 6 = .ok (.getfield 15, 3) := by decide +kernel
theorem dX3_at_9 : decode cX3_at 9 = .ok (.if_icmp .ge 23, 3) := by decide +kernel
theorem dX3_at_12 : decode cX3_at 12 = .ok (.iload_n 2, 1) := by decide +kernel
theorem dX3_at_13 : decode cX3_at 13 = .ok (.invokestatic 25, 3) := by decide +kernel
theorem dX3_at_16 : decode cX3_at 16 = .ok (.ifCond .eq 16, 3) := by decide +kernel
theorem dX3_at_19 : decode cX3_at 19 = .ok (.aload_n 0, 1) := by decide +kernel
theorem dX3_at_20 : decode cX3_at 20 = .ok (.getfield 9, 3) := by decide +kernel
theorem dX3_at_23 : decode cX3_at 23 = .ok (.iconst 4, 1) := by decide +kernel
theorem dX3_at_24 : decode cX3_at 24 = .ok (.iload_n 1, 1) := by decide +kernel
theorem dX3_at_25 : decode cX3_at 25 = .ok (.imul, 1) := by decide +kernel
theorem dX3_at_26 : decode cX3_at 26 = .ok (.iload_n 2, 1) := by decide +kernel
theorem dX3_at_27 : decode cX3_at 27 = .ok (.iadd, 1) := by decide +kernel
theorem dX3_at_28 : decode cX3_at 28 = .ok (.iaload, 1) := by decide +kernel
theorem dX3_at_29 : decode cX3_at 29 = .ok (.goto 4, 3) := by decide +kernel
theorem dX3_at_32 : decode cX3_at 32 = .ok (.iconst (-1), 1) := by decide +kernel
theorem dX3_at_33 : decode cX3_at 33 = .ok (.ireturn, 1) := by decide +kernel
set_option maxRecDepth 20000 in
theorem ggX3_put_X3_hasState : GoodIn wsX3_put wsX3_hasState := goodIn_r _ [6, 7, 11, 12, 13] (by decide +kernel) (by decide +kernel)
set_option maxRecDepth 20000 in
theorem gX3_put_X3_hasState : GoodIn wsX3_put (wsV RX3 29 RX3 yX3_hasState wsX3_hasState) := goodIn_app (goodIn_of _ (by decide +kernel)) ggX3_put_X3_hasState
set_option maxRecDepth 20000 in
theorem ggX3_put_X8_isSign : GoodIn wsX3_put wsX8_isSign := goodIn_r _ [10] (by decide +kernel) (by decide +kernel)
set_option maxRecDepth 20000 in
theorem gX3_put_X8_isSign_n25 : GoodIn wsX3_put (wsX8_isSign) := ggX3_put_X8_isSign
theorem dX3_put_0 : decode cX3_put 0 = .ok (.aload_n 0, 1) := by decide +kernel
theorem dX3_put_1 : decode cX3_put 1 = .ok (.iload_n 1, 1) := by decide +kernel
theorem dX3_put_2 : decode cX3_put 2 = .ok (.invokevirtual 29, 3) := by decide +kernel
theorem dX3_put_5 : decode cX3_put 5 = .ok (.ifCond .eq 21, 3) := by decide +kernel
theorem dX3_put_8 : decode cX3_put 8 = .ok (.iload_n 2, 1) := by decide +kernel
theorem dX3_put_9 : decode cX3_put 9 = .ok (.invokestatic 25, 3) := by decide +kernel
theorem dX3_put_12 : decode cX3_put 12 = .ok (.ifCond .eq 14, 3) := by decide +kernel
theorem dX3_put_15 : decode cX3_put 15 = .ok (.aload_n 0, 1) := by decide +kernel
theorem dX3_put_16 : decode cX3_put 16 = .ok (.getfield 9, 3) := by decide +kernel
theorem dX3_put_19 : decode cX3_put 19 = .ok (.iconst 4, 1) := by decide +kernel
theorem dX3_put_20 : decode cX3_put 20 = .ok (.iload_n 1, 1) := by decide +kernel
theorem dX3_put_21 : decode cX3_put 21 = .ok (.imul, 1) := by decide +kernel
theorem dX3_put_22 : decode cX3_put 22 = .ok (.iload_n 2, 1) := by decide +kernel
theorem dX3_put_23 : decode cX3_put 23 = .ok (.iadd, 1) := by decide +kernel
theorem dX3_put_24 : decode cX3_put 24 = .ok (.iload_n 3, 1) := by decide +kernel
theorem dX3_put_25 : decode cX3_put 25 = .ok (.iastore, 1) := by decide +kernel
theorem dX3_put_26 : decode cX3_put 26 = .ok (.return_, 1) := by decide +kernel
set_option maxRecDepth 20000 in
theorem ggX3_empty_J7_fill_53178 : GoodIn wsX3_empty wsJ7_fill_53178 := goodIn_r _ [13] (by decide +kernel) (by decide +kernel)
set_option maxRecDepth 20000 in
theorem gX3_empty_J7_fill_53178 : GoodIn wsX3_empty (va_wsS RX3 19 yJ7_fill_53178 wsJ7_fill_53178) := goodIn_app (goodIn_of _ (by decide +kernel)) ggX3_empty_J7_fill_53178
theorem dX3_empty_0 : decode cX3_empty 0 = .ok (.aload_n 0, 1) := by decide +kernel
theorem dX3_empty_1 : decode cX3_empty 1 = .ok (.iconst 4, 1) := by decide +kernel
theorem dX3_empty_2 : decode cX3_empty 2 = .ok (.iconst 1, 1) := by decide +kernel
theorem dX3_empty_3 : decode cX3_empty 3 = .ok (.iload_n 1, 1) := by decide +kernel
theorem dX3_empty_4 : decode cX3_empty 4 = .ok (.invokestatic 32, 3) := by decide +kernel
theorem dX3_empty_7 : decode cX3_empty 7 = .ok (.invokestatic 38, 3) := by decide +kernel
theorem dX3_empty_10 : decode cX3_empty 10 = .ok (.putfield 15, 3) := by decide +kernel
theorem dX3_empty_13 : decode cX3_empty 13 = .ok (.aload_n 0, 1) := by decide +kernel
theorem dX3_empty_14 : decode cX3_empty 14 = .ok (.getfield 9, 3) := by decide +kernel
theorem dX3_empty_17 : decode cX3_empty 17 = .ok (.iconst (-1), 1) := by decide +kernel
theorem dX3_empty_18 : decode cX3_empty 18 = .ok (.invokestatic 19, 3) := by decide +kernel
theorem dX3_empty_21 : decode cX3_empty 21 = .ok (.return_, 1) := by decide +kernel
theorem dX3_become_0 : decode cX3_become 0 = .ok (.aload_n 0, 1) := by decide +kernel
theorem dX3_become_1 : decode cX3_become 1 = .ok (.aload_n 1, 1) := by decide +kernel
theorem dX3_become_2 : decode cX3_become 2 = .ok (.getfield 15, 3) := by decide +kernel
theorem dX3_become_5 : decode cX3_become 5 = .ok (.putfield 15, 3) := by decide +kernel
theorem dX3_become_8 : decode cX3_become 8 = .ok (.aload_n 1, 1) := by decide +kernel
theorem dX3_become_9 : decode cX3_become 9 = .ok (.getfield 9, 3) := by decide +kernel
theorem dX3_become_12 : decode cX3_become 12 = .ok (.iconst 0, 1) := by decide +kernel
theorem dX3_become_13 : decode cX3_become 13 = .ok (.aload_n 0, 1) := by decide +kernel
theorem dX3_become_14 : decode cX3_become 14 = .ok (.getfield 9, 3) := by decide +kernel
theorem dX3_become_17 : decode cX3_become 17 = .ok (.iconst 0, 1) := by decide +kernel
theorem dX3_become_18 : decode cX3_become 18 = .ok (.aload_n 0, 1) := by decide +kernel
theorem dX3_become_19 : decode cX3_become 19 = .ok (.getfield 9, 3) := by decide +kernel
theorem dX3_become_22 : decode cX3_become 22 = .ok (.arraylength, 1) := by decide +kernel
theorem dX3_become_23 : decode cX3_become 23 = .ok (.invokestatic 41, 3) := by decide +kernel
theorem dX3_become_26 : decode cX3_become 26 = .ok (.return_, 1) := by decide +kernel
theorem dX3_isLike_0 : decode cX3_isLike 0 = .ok (.iconst 0, 1) := by decide +kernel
theorem dX3_isLike_1 : decode cX3_isLike 1 = .ok (.istore_n 2, 1) := by decide +kernel
theorem dX3_isLike_2 : decode cX3_isLike 2 = .ok (.iload_n 2, 1) := by decide +kernel
theorem dX3_isLike_3 : decode cX3_isLike 3 = .ok (.aload_n 0, 1) := by decide +kernel
theorem dX3_isLike_4 : decode cX3_isLike 4 = .ok (.getfield 9, 3) := by decide +kernel
theorem dX3_isLike_7 : decode cX3_isLike 7 = .ok (.arraylength, 1) := by decide +kernel
theorem dX3_isLike_8 : decode cX3_isLike 8 = .ok (.if_icmp .ge 26, 3) := by decide +kernel
theorem dX3_isLike_11 : decode cX3_isLike 11 = .ok (.aload_n 0, 1) := by decide +kernel
theorem dX3_isLike_12 : decode cX3_isLike 12 = .ok (.getfield 9, 3) := by decide +kernel
theorem dX3_isLike_15 : decode cX3_isLike 15 = .ok (.iload_n 2, 1) := by decide +kernel
theorem dX3_isLike_16 : decode cX3_isLike 16 = .ok (.iaload, 1) := by decide +kernel
theorem dX3_isLike_17 : decode cX3_isLike 17 = .ok (.aload_n 1, 1) := by decide +kernel
theorem dX3_isLike_18 : decode cX3_isLike 18 = .ok (.getfield 9, 3) := by decide +kernel
theorem dX3_isLike_21 : decode cX3_isLike 21 = .ok (.iload_n 2, 1) := by decide +kernel
theorem dX3_isLike_22 : decode cX3_isLike 22 = .ok (.iaload, 1) := by decide +kernel
theorem dX3_isLike_23 : decode cX3_isLike 23 = .ok (.if_icmp .eq 5, 3) := by decide +kernel
theorem dX3_isLike_26 : decode cX3_isLike 26 = .ok (.iconst 0, 1) := by decide +kernel
theorem dX3_isLike_27 : decode cX3_isLike 27 = .ok (.ireturn, 1) := by decide +kernel
theorem dX3_isLike_28 : decode cX3_isLike 28 = .ok (.iinc 2 1, 3) := by decide +kernel
theorem dX3_isLike_31 : decode cX3_isLike 31 = .ok (.goto (-29), 3) := by decide +kernel
theorem dX3_isLike_34 : decode cX3_isLike 34 = .ok (.aload_n 0, 1) := by decide +kernel
theorem dX3_isLike_35 : decode cX3_isLike 35 = .ok (.getfield 15, 3) := by decide +kernel
theorem dX3_isLike_38 : decode cX3_isLike 38 = .ok (.aload_n 1, 1) := by decide +kernel
theorem dX3_isLike_39 : decode cX3_isLike 39 = .ok (.getfield 15, 3) := by decide +kernel
theorem dX3_isLike_42 : decode cX3_isLike 42 = .ok (.if_icmp .ne 7, 3) := by decide +kernel
theorem dX3_isLike_45 : decode cX3_isLike 45 = .ok (.iconst 1, 1) := by decide +kernel
theorem dX3_isLike_46 : decode cX3_isLike 46 = .ok (.goto 4, 3) := by decide +kernel
theorem dX3_isLike_49 : decode cX3_isLike 49 = .ok (.iconst 0, 1) := by decide +kernel
theorem dX3_isLike_50 : decode cX3_isLike 50 = .ok (.ireturn, 1) := by decide +kernel
theorem dX3_countMoves_0 : decode cX3_countMoves 0 = .ok (.iconst 0, 1) := by decide +kernel
theorem dX3_countMoves_1 : decode cX3_countMoves 1 = .ok (.istore_n 1, 1) := by decide +kernel
theorem dX3_countMoves_2 : decode cX3_countMoves 2 = .ok (.iconst 0, 1) := by decide +kernel
theorem dX3_countMoves_3 : decode cX3_countMoves 3 = .ok (.istore_n 2, 1) := by decide +kernel
theorem dX3_countMoves_4 : decode cX3_countMoves 4 = .ok (.iload_n 2, 1) := by decide +kernel
theorem dX3_countMoves_5 : decode cX3_countMoves 5 = .ok (.aload_n 0, 1) := by decide +kernel
theorem dX3_countMoves_6 : decode cX3_countMoves 6 = .ok (.getfield 9, 3) := by decide +kernel
theorem dX3_countMoves_9 : decode cX3_countMoves 9 = .ok (.arraylength, 1) := by decide +kernel
theorem dX3_countMoves_10 : decode cX3_countMoves 10 = .ok (.if_icmp .ge 22, 3) := by decide +kernel
theorem dX3_countMoves_13 : decode cX3_countMoves 13 = .ok (.aload_n 0, 1) := by decide +kernel
theorem dX3_countMoves_14 : decode cX3_countMoves 14 = .ok (.getfield 9, 3) := by decide +kernel
theorem dX3_countMoves_17 : decode cX3_countMoves 17 = .ok (.iload_n 2, 1) := by decide +kernel
theorem dX3_countMoves_18 : decode cX3_countMoves 18 = .ok (.iaload, 1) := by decide +kernel
theorem dX3_countMoves_19 : decode cX3_countMoves 19 = .ok (.iconst (-1), 1) := by decide +kernel
theorem dX3_countMoves_20 : decode cX3_countMoves 20 = .ok (.if_icmp .eq 6, 3) := by decide +kernel
theorem dX3_countMoves_23 : decode cX3_countMoves 23 = .ok (.iinc 1 1, 3) := by decide +kernel
theorem dX3_countMoves_26 : decode cX3_countMoves 26 = .ok (.iinc 2 1, 3) := by decide +kernel
theorem dX3_countMoves_29 : decode cX3_countMoves 29 = .ok (.goto (-25), 3) := by decide +kernel
theorem dX3_countMoves_32 : decode cX3_countMoves 32 = .ok (.iload_n 1, 1) := by decide +kernel
theorem dX3_countMoves_33 : decode cX3_countMoves 33 = .ok (.ireturn, 1) := by decide +kernel
set_option maxRecDepth 20000 in
theorem ggX3_drawLots_X3_drawLot : GoodIn wsX3_drawLots wsX3_drawLot := goodIn_r _ [7, 1, 8, 9, 26, 27, 28] (by decide +kernel) (by decide +kernel)
set_option maxRecDepth 20000 in
theorem gX3_drawLots_X3_drawLot : GoodIn wsX3_drawLots (wsV RX3 51 RX3 yX3_drawLot wsX3_drawLot) := goodIn_app (goodIn_of _ (by decide +kernel)) ggX3_drawLots_X3_drawLot
set_option maxRecDepth 20000 in
theorem ggX3_drawLots_X3_drawMove : GoodIn wsX3_drawLots wsX3_drawMove := goodIn_r _ [13, 2, 3, 4, 5, 6, 7, 1, 8, 9, 26, 27, 28] (by decide +kernel) (by decide +kernel)
set_option maxRecDepth 20000 in
theorem gX3_drawLots_X3_drawMove : GoodIn wsX3_drawLots (wsV RX3 55 RX3 yX3_drawMove wsX3_drawMove) := goodIn_app (goodIn_of _ (by decide +kernel)) ggX3_drawLots_X3_drawMove
set_option maxRecDepth 20000 in
theorem ggX3_drawLots_X3_put : GoodIn wsX3_drawLots wsX3_put := goodIn_r _ [17, 18, 19, 20, 21, 6, 22, 2, 23, 24, 25, 26, 27, 28] (by decide +kernel) (by decide +kernel)
set_option maxRecDepth 20000 in
theorem gX3_drawLots_X3_put : GoodIn wsX3_drawLots (wsV RX3 59 RX3 yX3_put wsX3_put) := goodIn_app (goodIn_of _ (by decide +kernel)) ggX3_drawLots_X3_put
theorem dX3_drawLots_0 : decode cX3_drawLots 0 = .ok (.aload_n 0, 1) := by decide +kernel
theorem dX3_drawLots_1 : decode cX3_drawLots 1 = .ok (.iload_n 1, 1) := by decide +kernel
theorem dX3_drawLots_2 : decode cX3_drawLots 2 = .ok (.i2l, 1) := by decide +kernel
theorem dX3_drawLots_3 : decode cX3_drawLots 3 = .ok (.putfield 47, 3) := by decide +kernel
theorem dX3_drawLots_6 : decode cX3_drawLots 6 = .ok (.iconst 0, 1) := by decide +kernel
theorem dX3_drawLots_7 : decode cX3_drawLots 7 = .ok (.istore_n 2, 1) := by decide +kernel
theorem dX3_drawLots_8 : decode cX3_drawLots 8 = .ok (.iload_n 2, 1) := by decide +kernel
theorem dX3_drawLots_9 : decode cX3_drawLots 9 = .ok (.aload_n 0, 1) := by decide +kernel
theorem dX3_drawLots_10 : decode cX3_drawLots 10 = .ok (.getfield 15, 3) := by decide +kernel
theorem dX3_drawLots_13 : decode cX3_drawLots 13 = .ok (.if_icmp .ge 44, 3) := by decide +kernel
theorem dX3_drawLots_16 : decode cX3_drawLots 16 = .ok (.iconst 0, 1) := by decide +kernel
theorem dX3_drawLots_17 : decode cX3_drawLots 17 = .ok (.istore_n 3, 1) := by decide +kernel
theorem dX3_drawLots_18 : decode cX3_drawLots 18 = .ok (.iload_n 3, 1) := by decide +kernel
theorem dX3_drawLots_19 : decode cX3_drawLots 19 = .ok (.iconst 4, 1) := by decide +kernel
theorem dX3_drawLots_20 : decode cX3_drawLots 20 = .ok (.if_icmp .ge 31, 3) := by decide +kernel
theorem dX3_drawLots_23 : decode cX3_drawLots 23 = .ok (.aload_n 0, 1) := by decide +kernel
theorem dX3_drawLots_24 : decode cX3_drawLots 24 = .ok (.iload_n 2, 1) := by decide +kernel
theorem dX3_drawLots_25 : decode cX3_drawLots 25 = .ok (.iload_n 3, 1) := by decide +kernel
theorem dX3_drawLots_26 : decode cX3_drawLots 26 = .ok (.aload_n 0, 1) := by decide +kernel
theorem dX3_drawLots_27 : decode cX3_drawLots 27 = .ok (.iconst 5, 1) := by decide +kernel
theorem dX3_drawLots_28 : decode cX3_drawLots 28 = .ok (.invokevirtual 51, 3) := by decide +kernel
theorem dX3_drawLots_31 : decode cX3_drawLots 31 = .ok (.ifCond .ne 7, 3) := by decide +kernel
theorem dX3_drawLots_34 : decode cX3_drawLots 34 = .ok (.iconst (-1), 1) := by decide +kernel
theorem dX3_drawLots_35 : decode cX3_drawLots 35 = .ok (.goto 7, 3) := by decide +kernel
theorem dX3_drawLots_38 : decode cX3_drawLots 38 = .ok (.aload_n 0, 1) := by decide +kernel
theorem dX3_drawLots_39 : decode cX3_drawLots 39 = .ok (.invokevirtual 55, 3) := by decide +kernel
theorem dX3_drawLots_42 : decode cX3_drawLots 42 = .ok (.invokevirtual 59, 3) := by decide +kernel
theorem dX3_drawLots_45 : decode cX3_drawLots 45 = .ok (.iinc 3 1, 3) := by decide +kernel
theorem dX3_drawLots_48 : decode cX3_drawLots 48 = .ok (.goto (-30), 3) := by decide +kernel
theorem dX3_drawLots_51 : decode cX3_drawLots 51 = .ok (.iinc 2 1, 3) := by decide +kernel
theorem dX3_drawLots_54 : decode cX3_drawLots 54 = .ok (.goto (-46), 3) := by decide +kernel
theorem dX3_drawLots_57 : decode cX3_drawLots 57 = .ok (.return_, 1) := by decide +kernel
set_option maxRecDepth 20000 in
theorem ggX3_drawMove_X3_drawLot : GoodIn wsX3_drawMove wsX3_drawLot := goodIn_r _ [6, 7, 8, 9, 10, 11, 12] (by decide +kernel) (by decide +kernel)
set_option maxRecDepth 20000 in
theorem gX3_drawMove_X3_drawLot : GoodIn wsX3_drawMove (wsV RX3 51 RX3 yX3_drawLot wsX3_drawLot) := goodIn_app (goodIn_of _ (by decide +kernel)) ggX3_drawMove_X3_drawLot
theorem dX3_drawMove_0 : decode cX3_drawMove 0 = .ok (.aload_n 0, 1) := by decide +kernel
theorem dX3_drawMove_1 : decode cX3_drawMove 1 = .ok (.aload_n 0, 1) := by decide +kernel
theorem dX3_drawMove_2 : decode cX3_drawMove 2 = .ok (.getfield 15, 3) := by decide +kernel
theorem dX3_drawMove_5 : decode cX3_drawMove 5 = .ok (.invokevirtual 51, 3) := by decide +kernel
theorem dX3_drawMove_8 : decode cX3_drawMove 8 = .ok (.istore_n 1, 1) := by decide +kernel
theorem dX3_drawMove_9 : decode cX3_drawMove 9 = .ok (.iconst 2, 1) := by decide +kernel
theorem dX3_drawMove_10 : decode cX3_drawMove 10 = .ok (.iload_n 1, 1) := by decide +kernel
theorem dX3_drawMove_11 : decode cX3_drawMove 11 = .ok (.imul, 1) := by decide +kernel
theorem dX3_drawMove_12 : decode cX3_drawMove 12 = .ok (.aload_n 0, 1) := by decide +kernel
theorem dX3_drawMove_13 : decode cX3_drawMove 13 = .ok (.iconst 2, 1) := by decide +kernel
theorem dX3_drawMove_14 : decode cX3_drawMove 14 = .ok (.invokevirtual 51, 3) := by decide +kernel
theorem dX3_drawMove_17 : decode cX3_drawMove 17 = .ok (.iadd, 1) := by decide +kernel
theorem dX3_drawMove_18 : decode cX3_drawMove 18 = .ok (.ireturn, 1) := by decide +kernel
theorem dX3_drawLot_0 : decode cX3_drawLot 0 = .ok (.aload_n 0, 1) := by decide +kernel
theorem dX3_drawLot_1 : decode cX3_drawLot 1 = .ok (.aload_n 0, 1) := by decide +kernel
theorem dX3_drawLot_2 : decode cX3_drawLot 2 = .ok (.getfield 47, 3) := by decide +kernel
theorem dX3_drawLot_5 : decode cX3_drawLot 5 = .ok (.ldc2_w 63, 3) := by decide +kernel
theorem dX3_drawLot_8 : decode cX3_drawLot 8 = .ok (.lmul, 1) := by decide +kernel
theorem dX3_drawLot_9 : decode cX3_drawLot 9 = .ok (.ldc2_w 65, 3) := by decide +kernel
theorem dX3_drawLot_12 : decode cX3_drawLot 12 = .ok (.lrem, 1) := by decide +kernel
theorem dX3_drawLot_13 : decode cX3_drawLot 13 = .ok (.putfield 47, 3) := by decide +kernel
theorem dX3_drawLot_16 : decode cX3_drawLot 16 = .ok (.iload_n 1, 1) := by decide +kernel
theorem dX3_drawLot_17 : decode cX3_drawLot 17 = .ok (.ifCond .le 14, 3) := by decide +kernel
theorem dX3_drawLot_20 : decode cX3_drawLot 20 = .ok (.aload_n 0, 1) := by decide +kernel
theorem dX3_drawLot_21 : decode cX3_drawLot 21 = .ok (.getfield 47, 3) := by decide +kernel
theorem dX3_drawLot_24 : decode cX3_drawLot 24 = .ok (.iload_n 1, 1) := by decide +kernel
theorem dX3_drawLot_25 : decode cX3_drawLot 25 = .ok (.i2l, 1) := by decide +kernel
theorem dX3_drawLot_26 : decode cX3_drawLot 26 = .ok (.lrem, 1) := by decide +kernel
theorem dX3_drawLot_27 : decode cX3_drawLot 27 = .ok (.l2i, 1) := by decide +kernel
theorem dX3_drawLot_28 : decode cX3_drawLot 28 = .ok (.goto 4, 3) := by decide +kernel
theorem dX3_drawLot_31 : decode cX3_drawLot 31 = .ok (.iconst 0, 1) := by decide +kernel
theorem dX3_drawLot_32 : decode cX3_drawLot 32 = .ok (.ireturn, 1) := by decide +kernel
theorem dX4_init_0 : decode cX4_init 0 = .ok (.aload_n 0, 1) := by decide +kernel
theorem dX4_init_1 : decode cX4_init 1 = .ok (.invokespecial 5, 3) := by decide +kernel
theorem dX4_init_4 : decode cX4_init 4 = .ok (.aload_n 0, 1) := by decide +kernel
theorem dX4_init_5 : decode cX4_init 5 = .ok (.sipush 22500, 3) := by decide +kernel
theorem dX4_init_8 : decode cX4_init 8 = .ok (.newarray .long, 2) := by decide +kernel
theorem dX4_init_10 : decode cX4_init 10 = .ok (.putfield 11, 3) := by decide +kernel
theorem dX4_init_13 : decode cX4_init 13 = .ok (.aload_n 0, 1) := by decide +kernel
theorem dX4_init_14 : decode cX4_init 14 = .ok (.sipush 704, 3) := by decide +kernel
theorem dX4_init_17 : decode cX4_init 17 = .ok (.newarray .int, 2) := by decide +kernel
theorem dX4_init_19 : decode cX4_init 19 = .ok (.putfield 15, 3) := by decide +kernel
theorem dX4_init_22 : decode cX4_init 22 = .ok (.return_, 1) := by decide +kernel
set_option maxRecDepth 20000 in
theorem ggX4_firstWord_J7_fill_53178 : GoodIn wsX4_firstWord wsJ7_fill_53178 := goodIn_r _ [8] (by decide +kernel) (by decide +kernel)
set_option maxRecDepth 20000 in
theorem gX4_firstWord_J7_fill_53178 : GoodIn wsX4_firstWord (va_wsS RX4 19 yJ7_fill_53178 wsJ7_fill_53178) := goodIn_app (goodIn_of _ (by decide +kernel)) ggX4_firstWord_J7_fill_53178
set_option maxRecDepth 20000 in
theorem ggX4_firstWord_X4_meet : GoodIn wsX4_firstWord wsX4_meet := goodIn_r _ [13, 2, 1, 3, 14, 15, 16, 12, 17, 41, 42, 43] (by decide +kernel) (by decide +kernel)
set_option maxRecDepth 20000 in
theorem gX4_firstWord_X4_meet : GoodIn wsX4_firstWord (wsV RX4 29 RX4 yX4_meet wsX4_meet) := goodIn_app (goodIn_of _ (by decide +kernel)) ggX4_firstWord_X4_meet
set_option maxRecDepth 20000 in
theorem ggX4_firstWord_X5_isGood : GoodIn wsX4_firstWord wsX5_isGood := goodIn_r _ [22, 23, 24, 25, 26, 21, 27, 28, 44, 45, 46, 47, 48, 49, 50, 51, 52, 53, 54, 55, 56, 57, 58, 59] (by decide +kernel) (by decide +kernel)
set_option maxRecDepth 20000 in
theorem gX4_firstWord_X5_isGood : GoodIn wsX4_firstWord (wsV RX4 35 RX5 yX5_isGood wsX5_isGood) := goodIn_app (goodIn_of _ (by decide +kernel)) ggX4_firstWord_X5_isGood
set_option maxRecDepth 20000 in
theorem ggX4_firstWord_X4_fits : GoodIn wsX4_firstWord wsX4_fits := goodIn_r _ [31] (by decide +kernel) (by decide +kernel)
set_option maxRecDepth 20000 in
theorem gX4_firstWord_X4_fits : GoodIn wsX4_firstWord (va_wsS RX4 41 yX4_fits wsX4_fits) := goodIn_app (goodIn_of _ (by decide +kernel)) ggX4_firstWord_X4_fits
set_option maxRecDepth 20000 in
theorem ggX4_firstWord_X5_next : GoodIn wsX4_firstWord wsX5_next := goodIn_r _ [35, 36, 24, 25, 26, 21, 27, 28, 44, 45, 46, 47, 48, 49, 50, 51, 52, 53, 54, 55, 56, 57, 58, 59] (by decide +kernel) (by decide +kernel)
set_option maxRecDepth 20000 in
theorem gX4_firstWord_X5_next : GoodIn wsX4_firstWord (wsV RX4 45 RX5 yX5_next wsX5_next) := goodIn_app (goodIn_of _ (by decide +kernel)) ggX4_firstWord_X5_next
set_option maxRecDepth 20000 in
theorem ggX4_firstWord_X8_lengthen : GoodIn wsX4_firstWord wsX8_lengthen := goodIn_r _ [39, 40] (by decide +kernel) (by decide +kernel)
set_option maxRecDepth 20000 in
theorem gX4_firstWord_X8_lengthen_n49 : GoodIn wsX4_firstWord (wsX8_lengthen) := ggX4_firstWord_X8_lengthen
theorem dX4_firstWord_0 : decode cX4_firstWord 0 = .ok (.aload_n 0, 1) := by decide +kernel
theorem dX4_firstWord_1 : decode cX4_firstWord 1 = .ok (.getfield 15, 3) := by decide +kernel
theorem dX4_firstWord_4 : decode cX4_firstWord 4 = .ok (.iconst 0, 1) := by decide +kernel
theorem dX4_firstWord_5 : decode cX4_firstWord 5 = .ok (.invokestatic 19, 3) := by decide +kernel
theorem dX4_firstWord_8 : decode cX4_firstWord 8 = .ok (.aload_n 0, 1) := by decide +kernel
theorem dX4_firstWord_9 : decode cX4_firstWord 9 = .ok (.iconst 0, 1) := by decide +kernel
theorem dX4_firstWord_10 : decode cX4_firstWord 10 = .ok (.putfield 25, 3) := by decide +kernel
theorem dX4_firstWord_13 : decode cX4_firstWord 13 = .ok (.aload_n 0, 1) := by decide +kernel
theorem dX4_firstWord_14 : decode cX4_firstWord 14 = .ok (.iconst 0, 1) := by decide +kernel
theorem dX4_firstWord_15 : decode cX4_firstWord 15 = .ok (.iconst 0, 1) := by decide +kernel
theorem dX4_firstWord_16 : decode cX4_firstWord 16 = .ok (.iconst 1, 1) := by decide +kernel
theorem dX4_firstWord_17 : decode cX4_firstWord 17 = .ok (.invokevirtual 29, 3) := by decide +kernel
theorem dX4_firstWord_20 : decode cX4_firstWord 20 = .ok (.iconst 0, 1) := by decide +kernel
theorem dX4_firstWord_21 : decode cX4_firstWord 21 = .ok (.istore 4, 2) := by decide +kernel
theorem dX4_firstWord_23 : decode cX4_firstWord 23 = .ok (.iload 4, 2) := by decide +kernel
theorem dX4_firstWord_25 : decode cX4_firstWord 25 = .ok (.aload_n 0, 1) := by decide +kernel
theorem dX4_firstWord_26 : decode cX4_firstWord 26 = .ok (.getfield 25, 3) := by decide +kernel
theorem dX4_firstWord_29 : decode cX4_firstWord 29 = .ok (.if_icmp .ge 130, 3) := by decide +kernel
theorem dX4_firstWord_32 : decode cX4_firstWord 32 = .ok (.iload 4, 2) := by decide +kernel
theorem dX4_firstWord_34 : decode cX4_firstWord 34 = .ok (.sipush 22500, 3) := by decide +kernel
theorem dX4_firstWord_37 : decode cX4_firstWord 37 = .ok (.if_icmp .ge 122, 3) := by decide +kernel
theorem dX4_firstWord_40 : decode cX4_firstWord 40 = .ok (.aload_n 0, 1) := by decide +kernel
theorem dX4_firstWord_41 : decode cX4_firstWord 41 = .ok (.getfield 11, 3) := by decide +kernel
theorem dX4_firstWord_44 : decode cX4_firstWord 44 = .ok (.iload 4, 2) := by decide +kernel
theorem dX4_firstWord_46 : decode cX4_firstWord 46 = .ok (.laload, 1) := by decide +kernel
theorem dX4_firstWord_47 : decode cX4_firstWord 47 = .ok (.ldc2_w 33, 3) := by decide +kernel
theorem dX4_firstWord_50 : decode cX4_firstWord 50 = .ok (.land, 1) := by decide +kernel
theorem dX4_firstWord_51 : decode cX4_firstWord 51 = .ok (.l2i, 1) := by decide +kernel
theorem dX4_firstWord_52 : decode cX4_firstWord 52 = .ok (.istore 5, 2) := by decide +kernel
theorem dX4_firstWord_54 : decode cX4_firstWord 54 = .ok (.aload_n 0, 1) := by decide +kernel
theorem dX4_firstWord_55 : decode cX4_firstWord 55 = .ok (.getfield 11, 3) := by decide +kernel
theorem dX4_firstWord_58 : decode cX4_firstWord 58 = .ok (.iload 4, 2) := by decide +kernel
theorem dX4_firstWord_60 : decode cX4_firstWord 60 = .ok (.laload, 1) := by decide +kernel
theorem dX4_firstWord_61 : decode cX4_firstWord 61 = .ok (.bipush 15, 2) := by decide +kernel
theorem dX4_firstWord_63 : decode cX4_firstWord 63 = .ok (.lshr, 1) := by decide +kernel
theorem dX4_firstWord_64 : decode cX4_firstWord 64 = .ok (.l2i, 1) := by decide +kernel
theorem dX4_firstWord_65 : decode cX4_firstWord 65 = .ok (.istore 6, 2) := by decide +kernel
theorem dX4_firstWord_67 : decode cX4_firstWord 67 = .ok (.iload 5, 2) := by decide +kernel
theorem dX4_firstWord_69 : decode cX4_firstWord 69 = .ok (.sipush 150, 3) := by decide +kernel
theorem dX4_firstWord_72 : decode cX4_firstWord 72 = .ok (.idiv, 1) := by decide +kernel
theorem dX4_firstWord_73 : decode cX4_firstWord 73 = .ok (.istore 7, 2) := by decide +kernel
theorem dX4_firstWord_75 : decode cX4_firstWord 75 = .ok (.iload 5, 2) := by decide +kernel
theorem dX4_firstWord_77 : decode cX4_firstWord 77 = .ok (.sipush 150, 3) := by decide +kernel
theorem dX4_firstWord_80 : decode cX4_firstWord 80 = .ok (.irem, 1) := by decide +kernel
theorem dX4_firstWord_81 : decode cX4_firstWord 81 = .ok (.istore 8, 2) := by decide +kernel
theorem dX4_firstWord_83 : decode cX4_firstWord 83 = .ok (.iload_n 3, 1) := by decide +kernel
theorem dX4_firstWord_84 : decode cX4_firstWord 84 = .ok (.aload_n 1, 1) := by decide +kernel
theorem dX4_firstWord_85 : decode cX4_firstWord 85 = .ok (.iload 7, 2) := by decide +kernel
theorem dX4_firstWord_87 : decode cX4_firstWord 87 = .ok (.invokevirtual 35, 3) := by decide +kernel
theorem dX4_firstWord_90 : decode cX4_firstWord 90 = .ok (.aload_n 2, 1) := by decide +kernel
theorem dX4_firstWord_91 : decode cX4_firstWord 91 = .ok (.iload 8, 2) := by decide +kernel
theorem dX4_firstWord_93 : decode cX4_firstWord 93 = .ok (.invokevirtual 35, 3) := by decide +kernel
theorem dX4_firstWord_96 : decode cX4_firstWord 96 = .ok (.invokestatic 41, 3) := by decide +kernel
theorem dX4_firstWord_99 : decode cX4_firstWord 99 = .ok (.ifCond .eq 6, 3) := by decide +kernel
theorem dX4_firstWord_102 : decode cX4_firstWord 102 = .ok (.iload 6, 2) := by decide +kernel
theorem dX4_firstWord_104 : decode cX4_firstWord 104 = .ok (.ireturn, 1) := by decide +kernel
theorem dX4_firstWord_105 : decode cX4_firstWord 105 = .ok (.aload_n 0, 1) := by decide +kernel
theorem dX4_firstWord_106 : decode cX4_firstWord 106 = .ok (.aload_n 1, 1) := by decide +kernel
theorem dX4_firstWord_107 : decode cX4_firstWord 107 = .ok (.iload 7, 2) := by decide +kernel
theorem dX4_firstWord_109 : decode cX4_firstWord 109 = .ok (.iconst 0, 1) := by decide +kernel
theorem dX4_firstWord_110 : decode cX4_firstWord 110 = .ok (.invokevirtual 45, 3) := by decide +kernel
theorem dX4_firstWord_113 : decode cX4_firstWord 113 = .ok (.aload_n 2, 1) := by decide +kernel
theorem dX4_firstWord_114 : decode cX4_firstWord 114 = .ok (.iload 8, 2) := by decide +kernel
theorem dX4_firstWord_116 : decode cX4_firstWord 116 = .ok (.iconst 0, 1) := by decide +kernel
theorem dX4_firstWord_117 : decode cX4_firstWord 117 = .ok (.invokevirtual 45, 3) := by decide +kernel
theorem dX4_firstWord_120 : decode cX4_firstWord 120 = .ok (.iload 6, 2) := by decide +kernel
theorem dX4_firstWord_122 : decode cX4_firstWord 122 = .ok (.iconst 0, 1) := by decide +kernel
theorem dX4_firstWord_123 : decode cX4_firstWord 123 = .ok (.invokestatic 49, 3) := by decide +kernel
theorem dX4_firstWord_126 : decode cX4_firstWord 126 = .ok (.invokevirtual 29, 3) := by decide +kernel
theorem dX4_firstWord_129 : decode cX4_firstWord 129 = .ok (.aload_n 0, 1) := by decide +kernel
theorem dX4_firstWord_130 : decode cX4_firstWord 130 = .ok (.aload_n 1, 1) := by decide +kernel
theorem dX4_firstWord_131 : decode cX4_firstWord 131 = .ok (.iload 7, 2) := by decide +kernel
theorem dX4_firstWord_133 : decode cX4_firstWord 133 = .ok (.iconst 1, 1) := by decide +kernel
theorem dX4_firstWord_134 : decode cX4_firstWord 134 = .ok (.invokevirtual 45, 3) := by decide +kernel
theorem dX4_firstWord_137 : decode cX4_firstWord 137 = .ok (.aload_n 2, 1) := by decide +kernel
theorem dX4_firstWord_138 : decode cX4_firstWord 138 = .ok (.iload 8, 2) := by decide +kernel
theorem dX4_firstWord_140 : decode cX4_firstWord 140 = .ok (.iconst 1, 1) := by decide +kernel
theorem dX4_firstWord_141 : decode cX4_firstWord 141 = .ok (.invokevirtual 45, 3) := by decide +kernel
theorem dX4_firstWord_144 : decode cX4_firstWord 144 = .ok (.iload 6, 2) := by decide +kernel
theorem dX4_firstWord_146 : decode cX4_firstWord 146 = .ok (.iconst 1, 1) := by decide +kernel
theorem dX4_firstWord_147 : decode cX4_firstWord 147 = .ok (.invokestatic 49, 3) := by decide +kernel
theorem dX4_firstWord_150 : decode cX4_firstWord 150 = .ok (.invokevirtual 29, 3) := by decide +kernel
theorem dX4_firstWord_153 : decode cX4_firstWord 153 = .ok (.iinc 4 1, 3) := by decide +kernel
theorem dX4_firstWord_156 : decode cX4_firstWord 156 = .ok (.goto (-133), 3) := by decide +kernel
theorem dX4_firstWord_159 : decode cX4_firstWord 159 = .ok (.iconst (-1), 1) := by decide +kernel
theorem dX4_firstWord_160 : decode cX4_firstWord 160 = .ok (.ireturn, 1) := by decide +kernel
theorem dX4_fits_0 : decode cX4_fits 0 = .ok (.iload_n 0, 1) := by decide +kernel
theorem dX4_fits_1 : decode cX4_fits 1 = .ok (.tableswitch 69 0 2 #[27, 41, 55], 27) := by decide +kernel
theorem dX4_fits_28 : decode cX4_fits 28 = .ok (.iload_n 1, 1) := by decide +kernel
theorem dX4_fits_29 : decode cX4_fits 29 = .ok (.ifCond .eq 11, 3) := by decide +kernel
theorem dX4_fits_32 : decode cX4_fits 32 = .ok (.iload_n 2, 1) := by decide +kernel
theorem dX4_fits_33 : decode cX4_fits 33 = .ok (.ifCond .eq 7, 3) := by decide +kernel
theorem dX4_fits_36 : decode cX4_fits 36 = .ok (.iconst 1, 1) := by decide +kernel
theorem dX4_fits_37 : decode cX4_fits 37 = .ok (.goto 4, 3) := by decide +kernel
theorem dX4_fits_40 : decode cX4_fits 40 = .ok (.iconst 0, 1) := by decide +kernel
theorem dX4_fits_41 : decode cX4_fits 41 = .ok (.ireturn, 1) := by decide +kernel
theorem dX4_fits_42 : decode cX4_fits 42 = .ok (.iload_n 1, 1) := by decide +kernel
theorem dX4_fits_43 : decode cX4_fits 43 = .ok (.ifCond .ne 7, 3) := by decide +kernel
theorem dX4_fits_46 : decode cX4_fits 46 = .ok (.iload_n 2, 1) := by decide +kernel
theorem dX4_fits_47 : decode cX4_fits 47 = .ok (.ifCond .eq 7, 3) := by decide +kernel
theorem dX4_fits_50 : decode cX4_fits 50 = .ok (.iconst 1, 1) := by decide +kernel
theorem dX4_fits_51 : decode cX4_fits 51 = .ok (.goto 4, 3) := by decide +kernel
theorem dX4_fits_54 : decode cX4_fits 54 = .ok (.iconst 0, 1) := by decide +kernel
theorem dX4_fits_55 : decode cX4_fits 55 = .ok (.ireturn, 1) := by decide +kernel
theorem dX4_fits_56 : decode cX4_fits 56 = .ok (.iload_n 1, 1) := by decide +kernel
theorem dX4_fits_57 : decode cX4_fits 57 = .ok (.ifCond .eq 11, 3) := by decide +kernel
theorem dX4_fits_60 : decode cX4_fits 60 = .ok (.iload_n 2, 1) := by decide +kernel
theorem dX4_fits_61 : decode cX4_fits 61 = .ok (.ifCond .ne 7, 3) := by decide +kernel
theorem dX4_fits_64 : decode cX4_fits 64 = .ok (.iconst 1, 1) := by decide +kernel
theorem dX4_fits_65 : decode cX4_fits 65 = .ok (.goto 4, 3) := by decide +kernel
theorem dX4_fits_68 : decode cX4_fits 68 = .ok (.iconst 0, 1) := by decide +kernel
theorem dX4_fits_69 : decode cX4_fits 69 = .ok (.ireturn, 1) := by decide +kernel
theorem dX4_fits_70 : decode cX4_fits 70 = .ok (.iload_n 1, 1) := by decide +kernel
theorem dX4_fits_71 : decode cX4_fits 71 = .ok (.iload_n 2, 1) := by decide +kernel
theorem dX4_fits_72 : decode cX4_fits 72 = .ok (.if_icmp .eq 7, 3) := by decide +kernel
theorem dX4_fits_75 : decode cX4_fits 75 = .ok (.iconst 1, 1) := by decide +kernel
theorem dX4_fits_76 : decode cX4_fits 76 = .ok (.goto 4, 3) := by decide +kernel
theorem dX4_fits_79 : decode cX4_fits 79 = .ok (.iconst 0, 1) := by decide +kernel
theorem dX4_fits_80 : decode cX4_fits 80 = .ok (.ireturn, 1) := by decide +kernel
set_option maxRecDepth 20000 in
theorem ggX4_meet_X4_isMet : GoodIn wsX4_meet wsX4_isMet := goodIn_r _ [8, 2, 9, 10, 11] (by decide +kernel) (by decide +kernel)
set_option maxRecDepth 20000 in
theorem gX4_meet_X4_isMet : GoodIn wsX4_meet (wsV RX4 52 RX4 yX4_isMet wsX4_isMet) := goodIn_app (goodIn_of _ (by decide +kernel)) ggX4_meet_X4_isMet
theorem dX4_meet_0 : decode cX4_meet 0 = .ok (.sipush 150, 3) := by decide +kernel
theorem dX4_meet_3 : decode cX4_meet 3 = .ok (.iload_n 1, 1) := by decide +kernel
theorem dX4_meet_4 : decode cX4_meet 4 = .ok (.imul, 1) := by decide +kernel
theorem dX4_meet_5 : decode cX4_meet 5 = .ok (.iload_n 2, 1) := by decide +kernel
theorem dX4_meet_6 : decode cX4_meet 6 = .ok (.iadd, 1) := by decide +kernel
theorem dX4_meet_7 : decode cX4_meet 7 = .ok (.istore 4, 2) := by decide +kernel
theorem dX4_meet_9 : decode cX4_meet 9 = .ok (.iload_n 1, 1) := by decide +kernel
theorem dX4_meet_10 : decode cX4_meet 10 = .ok (.ifCond .lt 34, 3) := by decide +kernel
theorem dX4_meet_13 : decode cX4_meet 13 = .ok (.iload_n 2, 1) := by decide +kernel
theorem dX4_meet_14 : decode cX4_meet 14 = .ok (.ifCond .lt 30, 3) := by decide +kernel
theorem dX4_meet_17 : decode cX4_meet 17 = .ok (.iload 4, 2) := by decide +kernel
theorem dX4_meet_19 : decode cX4_meet 19 = .ok (.sipush 22500, 3) := by decide +kernel
theorem dX4_meet_22 : decode cX4_meet 22 = .ok (.if_icmp .ge 22, 3) := by decide +kernel
theorem dX4_meet_25 : decode cX4_meet 25 = .ok (.aload_n 0, 1) := by decide +kernel
theorem dX4_meet_26 : decode cX4_meet 26 = .ok (.getfield 25, 3) := by decide +kernel
theorem dX4_meet_29 : decode cX4_meet 29 = .ok (.sipush 22500, 3) := by decide +kernel
theorem dX4_meet_32 : decode cX4_meet 32 = .ok (.if_icmp .ge 12, 3) := by decide +kernel
theorem dX4_meet_35 : decode cX4_meet 35 = .ok (.aload_n 0, 1) := by decide +kernel
theorem dX4_meet_36 : decode cX4_meet 36 = .ok (.iload 4, 2) := by decide +kernel
theorem dX4_meet_38 : decode cX4_meet 38 = .ok (.invokevirtual 52, 3) := by decide +kernel
theorem dX4_meet_41 : decode cX4_meet 41 = .ok (.ifCond .eq 4, 3) := by decide +kernel
theorem dX4_meet_44 : decode cX4_meet 44 = .ok (.return_, 1) := by decide +kernel
theorem dX4_meet_45 : decode cX4_meet 45 = .ok (.aload_n 0, 1) := by decide +kernel
theorem dX4_meet_46 : decode cX4_meet 46 = .ok (.getfield 15, 3) := by decide +kernel
theorem dX4_meet_49 : decode cX4_meet 49 = .ok (.iload 4, 2) := by decide +kernel
theorem dX4_meet_51 : decode cX4_meet 51 = .ok (.iconst 5, 1) := by decide +kernel
theorem dX4_meet_52 : decode cX4_meet 52 = .ok (.ishr, 1) := by decide +kernel
theorem dX4_meet_53 : decode cX4_meet 53 = .ok (.dup2, 1) := by decide +kernel
theorem dX4_meet_54 : decode cX4_meet 54 = .ok (.iaload, 1) := by decide +kernel
theorem dX4_meet_55 : decode cX4_meet 55 = .ok (.iconst 1, 1) := by decide +kernel
theorem dX4_meet_56 : decode cX4_meet 56 = .ok (.iload 4, 2) := by decide +kernel
theorem dX4_meet_58 : decode cX4_meet 58 = .ok (.bipush 31, 2) := by decide +kernel
theorem dX4_meet_60 : decode cX4_meet 60 = .ok (.iand, 1) := by decide +kernel
theorem dX4_meet_61 : decode cX4_meet 61 = .ok (.ishl, 1) := by decide +kernel
theorem dX4_meet_62 : decode cX4_meet 62 = .ok (.ior, 1) := by decide +kernel
theorem dX4_meet_63 : decode cX4_meet 63 = .ok (.iastore, 1) := by decide +kernel
theorem dX4_meet_64 : decode cX4_meet 64 = .ok (.aload_n 0, 1) := by decide +kernel
theorem dX4_meet_65 : decode cX4_meet 65 = .ok (.getfield 11, 3) := by decide +kernel
theorem dX4_meet_68 : decode cX4_meet 68 = .ok (.aload_n 0, 1) := by decide +kernel
theorem dX4_meet_69 : decode cX4_meet 69 = .ok (.getfield 25, 3) := by decide +kernel
theorem dX4_meet_72 : decode cX4_meet 72 = .ok (.iload_n 3, 1) := by decide +kernel
theorem dX4_meet_73 : decode cX4_meet 73 = .ok (.i2l, 1) := by decide +kernel
theorem dX4_meet_74 : decode cX4_meet 74 = .ok (.bipush 15, 2) := by decide +kernel
theorem dX4_meet_76 : decode cX4_meet 76 = .ok (.lshl, 1) := by decide +kernel
theorem dX4_meet_77 : decode cX4_meet 77 = .ok (.iload 4, 2) := by decide +kernel
theorem dX4_meet_79 : decode cX4_meet 79 = .ok (.i2l, 1) := by decide +kernel
theorem dX4_meet_80 : decode cX4_meet 80 = .ok (.lor, 1) := by decide +kernel
theorem dX4_meet_81 : decode cX4_meet 81 = .ok (.lastore, 1) := by decide +kernel
theorem dX4_meet_82 : decode cX4_meet 82 = .ok (.aload_n 0, 1) := by decide +kernel
theorem dX4_meet_83 : decode cX4_meet 83 = .ok (.dup, 1) := by decide +kernel
theorem dX4_meet_84 : decode cX4_meet 84 = .ok (.getfield 25, 3) := by decide +kernel
theorem dX4_meet_87 : decode cX4_meet 87 = .ok (.iconst 1, 1) := by decide +kernel
theorem dX4_meet_88 : decode cX4_meet 88 = .ok (.iadd, 1) := by decide +kernel
theorem dX4_meet_89 : decode cX4_meet 89 = .ok (.putfield 25, 3) := by decide +kernel
theorem dX4_meet_92 : decode cX4_meet 92 = .ok (.return_, 1) := by decide +kernel
theorem dX4_isMet_0 : decode cX4_isMet 0 = .ok (.aload_n 0, 1) := by decide +kernel
theorem dX4_isMet_1 : decode cX4_isMet 1 = .ok (.getfield 15, 3) := by decide +kernel
theorem dX4_isMet_4 : decode cX4_isMet 4 = .ok (.iload_n 1, 1) := by decide +kernel
theorem dX4_isMet_5 : decode cX4_isMet 5 = .ok (.iconst 5, 1) := by decide +kernel
theorem dX4_isMet_6 : decode cX4_isMet 6 = .ok (.ishr, 1) := by decide +kernel
theorem dX4_isMet_7 : decode cX4_isMet 7 = .ok (.iaload, 1) := by decide +kernel
theorem dX4_isMet_8 : decode cX4_isMet 8 = .ok (.iload_n 1, 1) := by decide +kernel
theorem dX4_isMet_9 : decode cX4_isMet 9 = .ok (.bipush 31, 2) := by decide +kernel
theorem dX4_isMet_11 : decode cX4_isMet 11 = .ok (.iand, 1) := by decide +kernel
theorem dX4_isMet_12 : decode cX4_isMet 12 = .ok (.ishr, 1) := by decide +kernel
theorem dX4_isMet_13 : decode cX4_isMet 13 = .ok (.iconst 1, 1) := by decide +kernel
theorem dX4_isMet_14 : decode cX4_isMet 14 = .ok (.iand, 1) := by decide +kernel
theorem dX4_isMet_15 : decode cX4_isMet 15 = .ok (.iconst 1, 1) := by decide +kernel
theorem dX4_isMet_16 : decode cX4_isMet 16 = .ok (.if_icmp .ne 7, 3) := by decide +kernel
theorem dX4_isMet_19 : decode cX4_isMet 19 = .ok (.iconst 1, 1) := by decide +kernel
theorem dX4_isMet_20 : decode cX4_isMet 20 = .ok (.goto 4, 3) := by decide +kernel
theorem dX4_isMet_23 : decode cX4_isMet 23 = .ok (.iconst 0, 1) := by decide +kernel
theorem dX4_isMet_24 : decode cX4_isMet 24 = .ok (.ireturn, 1) := by decide +kernel
set_option maxRecDepth 20000 in
theorem ggX5_init_X3_init : GoodIn wsX5_init wsX3_init := goodIn_r _ [23, 24, 2, 3, 8, 25, 26, 27, 28, 29, 30, 31, 32, 33] (by decide +kernel) (by decide +kernel)
set_option maxRecDepth 20000 in
theorem gX5_init_X3_init : GoodIn wsX5_init (wsX3_init) := ggX5_init_X3_init
theorem dX5_init_0 : decode cX5_init 0 = .ok (.aload_n 0, 1) := by decide +kernel
theorem dX5_init_1 : decode cX5_init 1 = .ok (.invokespecial 5, 3) := by decide +kernel
theorem dX5_init_4 : decode cX5_init 4 = .ok (.aload_n 0, 1) := by decide +kernel
theorem dX5_init_5 : decode cX5_init 5 = .ok (.new 11, 3) := by decide +kernel
theorem dX5_init_8 : decode cX5_init 8 = .ok (.dup, 1) := by decide +kernel
theorem dX5_init_9 : decode cX5_init 9 = .ok (.invokespecial 13, 3) := by decide +kernel
theorem dX5_init_12 : decode cX5_init 12 = .ok (.putfield 14, 3) := by decide +kernel
theorem dX5_init_15 : decode cX5_init 15 = .ok (.aload_n 0, 1) := by decide +kernel
theorem dX5_init_16 : decode cX5_init 16 = .ok (.sipush 750, 3) := by decide +kernel
theorem dX5_init_19 : decode cX5_init 19 = .ok (.newarray .int, 2) := by decide +kernel
theorem dX5_init_21 : decode cX5_init 21 = .ok (.putfield 18, 3) := by decide +kernel
theorem dX5_init_24 : decode cX5_init 24 = .ok (.aload_n 0, 1) := by decide +kernel
theorem dX5_init_25 : decode cX5_init 25 = .ok (.iconst 5, 1) := by decide +kernel
theorem dX5_init_26 : decode cX5_init 26 = .ok (.newarray .int, 2) := by decide +kernel
theorem dX5_init_28 : decode cX5_init 28 = .ok (.putfield 22, 3) := by decide +kernel
theorem dX5_init_31 : decode cX5_init 31 = .ok (.aload_n 0, 1) := by decide +kernel
theorem dX5_init_32 : decode cX5_init 32 = .ok (.sipush 3125, 3) := by decide +kernel
theorem dX5_init_35 : decode cX5_init 35 = .ok (.newarray .int, 2) := by decide +kernel
theorem dX5_init_37 : decode cX5_init 37 = .ok (.putfield 25, 3) := by decide +kernel
theorem dX5_init_40 : decode cX5_init 40 = .ok (.aload_n 0, 1) := by decide +kernel
theorem dX5_init_41 : decode cX5_init 41 = .ok (.sipush 300, 3) := by decide +kernel
theorem dX5_init_44 : decode cX5_init 44 = .ok (.newarray .int, 2) := by decide +kernel
theorem dX5_init_46 : decode cX5_init 46 = .ok (.putfield 28, 3) := by decide +kernel
theorem dX5_init_49 : decode cX5_init 49 = .ok (.aload_n 0, 1) := by decide +kernel
theorem dX5_init_50 : decode cX5_init 50 = .ok (.sipush 150, 3) := by decide +kernel
theorem dX5_init_53 : decode cX5_init 53 = .ok (.newarray .boolean, 2) := by decide +kernel
theorem dX5_init_55 : decode cX5_init 55 = .ok (.putfield 31, 3) := by decide +kernel
theorem dX5_init_58 : decode cX5_init 58 = .ok (.aload_n 0, 1) := by decide +kernel
theorem dX5_init_59 : decode cX5_init 59 = .ok (.sipush 150, 3) := by decide +kernel
theorem dX5_init_62 : decode cX5_init 62 = .ok (.newarray .int, 2) := by decide +kernel
theorem dX5_init_64 : decode cX5_init 64 = .ok (.putfield 35, 3) := by decide +kernel
theorem dX5_init_67 : decode cX5_init 67 = .ok (.aload_n 0, 1) := by decide +kernel
theorem dX5_init_68 : decode cX5_init 68 = .ok (.sipush 150, 3) := by decide +kernel
theorem dX5_init_71 : decode cX5_init 71 = .ok (.newarray .int, 2) := by decide +kernel
theorem dX5_init_73 : decode cX5_init 73 = .ok (.putfield 38, 3) := by decide +kernel
theorem dX5_init_76 : decode cX5_init 76 = .ok (.aload_n 0, 1) := by decide +kernel
theorem dX5_init_77 : decode cX5_init 77 = .ok (.sipush 150, 3) := by decide +kernel
theorem dX5_init_80 : decode cX5_init 80 = .ok (.newarray .int, 2) := by decide +kernel
theorem dX5_init_82 : decode cX5_init 82 = .ok (.putfield 41, 3) := by decide +kernel
theorem dX5_init_85 : decode cX5_init 85 = .ok (.aload_n 0, 1) := by decide +kernel
theorem dX5_init_86 : decode cX5_init 86 = .ok (.sipush 150, 3) := by decide +kernel
theorem dX5_init_89 : decode cX5_init 89 = .ok (.newarray .int, 2) := by decide +kernel
theorem dX5_init_91 : decode cX5_init 91 = .ok (.putfield 44, 3) := by decide +kernel
theorem dX5_init_94 : decode cX5_init 94 = .ok (.aload_n 0, 1) := by decide +kernel
theorem dX5_init_95 : decode cX5_init 95 = .ok (.sipush 150, 3) := by decide +kernel
theorem dX5_init_98 : decode cX5_init 98 = .ok (.newarray .int, 2) := by decide +kernel
theorem dX5_init_100 : decode cX5_init 100 = .ok (.putfield 47, 3) := by decide +kernel
theorem dX5_init_103 : decode cX5_init 103 = .ok (.aload_n 0, 1) := by decide +kernel
theorem dX5_init_104 : decode cX5_init 104 = .ok (.sipush 150, 3) := by decide +kernel
theorem dX5_init_107 : decode cX5_init 107 = .ok (.newarray .int, 2) := by decide +kernel
theorem dX5_init_109 : decode cX5_init 109 = .ok (.putfield 50, 3) := by decide +kernel
theorem dX5_init_112 : decode cX5_init 112 = .ok (.return_, 1) := by decide +kernel
set_option maxRecDepth 20000 in
theorem ggX5_make_X3_isLike : GoodIn wsX5_make wsX3_isLike := goodIn_r _ [13, 14, 15, 99, 100, 101] (by decide +kernel) (by decide +kernel)
set_option maxRecDepth 20000 in
theorem gX5_make_X3_isLike : GoodIn wsX5_make (wsV RX5 57 RX3 yX3_isLike wsX3_isLike) := goodIn_app (goodIn_of _ (by decide +kernel)) ggX5_make_X3_isLike
set_option maxRecDepth 20000 in
theorem ggX5_make_X3_become : GoodIn wsX5_make wsX3_become := goodIn_r _ [19, 15, 14, 20, 21, 22, 23, 99, 100, 101] (by decide +kernel) (by decide +kernel)
set_option maxRecDepth 20000 in
theorem gX5_make_X3_become : GoodIn wsX5_make (wsV RX5 61 RX3 yX3_become wsX3_become) := goodIn_app (goodIn_of _ (by decide +kernel)) ggX5_make_X3_become
set_option maxRecDepth 20000 in
theorem ggX5_make_J7_fill_53178 : GoodIn wsX5_make wsJ7_fill_53178 := goodIn_r _ [27] (by decide +kernel) (by decide +kernel)
set_option maxRecDepth 20000 in
theorem gX5_make_J7_fill_53178 : GoodIn wsX5_make (va_wsS RX5 75 yJ7_fill_53178 wsJ7_fill_53178) := goodIn_app (goodIn_of _ (by decide +kernel)) ggX5_make_J7_fill_53178
set_option maxRecDepth 20000 in
theorem ggX5_make_X5_findBehind : GoodIn wsX5_make wsX5_findBehind := goodIn_r _ [32, 33, 34, 35, 36, 31, 37, 38, 39, 40, 41, 42, 4, 43, 44, 45, 46, 2, 47, 48, 49, 12, 50, 15, 14, 51, 52, 53, 54, 55, 56, 57, 58, 59, 60, 61, 83, 84, 85, 86, 87, 88, 89, 90, 91, 92, 93, 94, 95, 96, 97, 98, 99, 100, 101] (by decide +kernel) (by decide +kernel)
set_option maxRecDepth 20000 in
theorem gX5_make_X5_findBehind : GoodIn wsX5_make (wsV RX5 81 RX5 yX5_findBehind wsX5_findBehind) := goodIn_app (goodIn_of _ (by decide +kernel)) ggX5_make_X5_findBehind
set_option maxRecDepth 20000 in
theorem ggX5_make_X5_numberOfFound : GoodIn wsX5_make wsX5_numberOfFound := goodIn_r _ [65, 6, 4, 3, 66, 67, 68, 31, 69, 33, 70, 71, 72, 73, 38, 74, 21, 22, 23, 8, 39, 40, 41, 42, 83, 84, 85, 86, 87, 88, 89, 90, 91, 92, 93, 94, 95, 96, 97, 98] (by decide +kernel) (by decide +kernel)
set_option maxRecDepth 20000 in
theorem gX5_make_X5_numberOfFound : GoodIn wsX5_make (wsV RX5 85 RX5 yX5_numberOfFound wsX5_numberOfFound) := goodIn_app (goodIn_of _ (by decide +kernel)) ggX5_make_X5_numberOfFound
set_option maxRecDepth 20000 in
theorem ggX5_make_X8_lengthen : GoodIn wsX5_make wsX8_lengthen := goodIn_r _ [76, 77] (by decide +kernel) (by decide +kernel)
set_option maxRecDepth 20000 in
theorem gX5_make_X8_lengthen_n89 : GoodIn wsX5_make (wsX8_lengthen) := ggX5_make_X8_lengthen
set_option maxRecDepth 20000 in
theorem ggX5_make_X5_markGoods : GoodIn wsX5_make wsX5_markGoods := goodIn_r _ [81, 4, 82, 34, 35, 36, 31, 37, 38, 39, 40, 41, 42, 43, 44, 45, 46, 2, 47, 48, 49, 12, 50, 15, 14, 51, 52, 53, 54, 55, 56, 57, 58, 59, 60, 61, 83, 84, 85, 86, 87, 88, 89, 90, 91, 92, 93, 94, 95, 96, 97, 98, 99, 100, 101] (by decide +kernel) (by decide +kernel)
set_option maxRecDepth 20000 in
theorem gX5_make_X5_markGoods : GoodIn wsX5_make (wsV RX5 93 RX5 yX5_markGoods wsX5_markGoods) := goodIn_app (goodIn_of _ (by decide +kernel)) ggX5_make_X5_markGoods
theorem dX5_make_0 : decode cX5_make 0 = .ok (.aload_n 0, 1) := by decide +kernel
theorem dX5_make_1 : decode cX5_make 1 = .ok (.getfield 53, 3) := by decide +kernel
theorem dX5_make_4 : decode cX5_make 4 = .ok (.ifCond .eq 15, 3) := by decide +kernel
theorem dX5_make_7 : decode cX5_make 7 = .ok (.aload_n 0, 1) := by decide +kernel
theorem dX5_make_8 : decode cX5_make 8 = .ok (.getfield 14, 3) := by decide +kernel
theorem dX5_make_11 : decode cX5_make 11 = .ok (.aload_n 1, 1) := by decide +kernel
theorem dX5_make_12 : decode cX5_make 12 = .ok (.invokevirtual 57, 3) := by decide +kernel
theorem dX5_make_15 : decode cX5_make 15 = .ok (.ifCond .eq 4, 3) := by decide +kernel
theorem dX5_make_18 : decode cX5_make 18 = .ok (.return_, 1) := by decide +kernel
theorem dX5_make_19 : decode cX5_make 19 = .ok (.aload_n 0, 1) := by decide +kernel
theorem dX5_make_20 : decode cX5_make 20 = .ok (.getfield 14, 3) := by decide +kernel
theorem dX5_make_23 : decode cX5_make 23 = .ok (.aload_n 1, 1) := by decide +kernel
theorem dX5_make_24 : decode cX5_make 24 = .ok (.invokevirtual 61, 3) := by decide +kernel
theorem dX5_make_27 : decode cX5_make 27 = .ok (.aload_n 0, 1) := by decide +kernel
theorem dX5_make_28 : decode cX5_make 28 = .ok (.iconst 1, 1) := by decide +kernel
theorem dX5_make_29 : decode cX5_make 29 = .ok (.putfield 53, 3) := by decide +kernel
theorem dX5_make_32 : decode cX5_make 32 = .ok (.aload_n 0, 1) := by decide +kernel
theorem dX5_make_33 : decode cX5_make 33 = .ok (.iconst 0, 1) := by decide +kernel
theorem dX5_make_34 : decode cX5_make 34 = .ok (.putfield 65, 3) := by decide +kernel
theorem dX5_make_37 : decode cX5_make 37 = .ok (.aload_n 0, 1) := by decide +kernel
theorem dX5_make_38 : decode cX5_make 38 = .ok (.iconst 0, 1) := by decide +kernel
theorem dX5_make_39 : decode cX5_make 39 = .ok (.putfield 68, 3) := by decide +kernel
theorem dX5_make_42 : decode cX5_make 42 = .ok (.aload_n 0, 1) := by decide +kernel
theorem dX5_make_43 : decode cX5_make 43 = .ok (.iconst 0, 1) := by decide +kernel
theorem dX5_make_44 : decode cX5_make 44 = .ok (.putfield 72, 3) := by decide +kernel
theorem dX5_make_47 : decode cX5_make 47 = .ok (.aload_n 0, 1) := by decide +kernel
theorem dX5_make_48 : decode cX5_make 48 = .ok (.getfield 25, 3) := by decide +kernel
theorem dX5_make_51 : decode cX5_make 51 = .ok (.iconst (-1), 1) := by decide +kernel
theorem dX5_make_52 : decode cX5_make 52 = .ok (.invokestatic 75, 3) := by decide +kernel
theorem dX5_make_55 : decode cX5_make 55 = .ok (.aload_n 0, 1) := by decide +kernel
theorem dX5_make_56 : decode cX5_make 56 = .ok (.iconst (-1), 1) := by decide +kernel
theorem dX5_make_57 : decode cX5_make 57 = .ok (.iconst 2, 1) := by decide +kernel
theorem dX5_make_58 : decode cX5_make 58 = .ok (.invokevirtual 81, 3) := by decide +kernel
theorem dX5_make_61 : decode cX5_make 61 = .ok (.aload_n 0, 1) := by decide +kernel
theorem dX5_make_62 : decode cX5_make 62 = .ok (.iconst 1, 1) := by decide +kernel
theorem dX5_make_63 : decode cX5_make 63 = .ok (.invokevirtual 85, 3) := by decide +kernel
theorem dX5_make_66 : decode cX5_make 66 = .ok (.pop, 1) := by decide +kernel
theorem dX5_make_67 : decode cX5_make 67 = .ok (.iconst 0, 1) := by decide +kernel
theorem dX5_make_68 : decode cX5_make 68 = .ok (.istore_n 2, 1) := by decide +kernel
theorem dX5_make_69 : decode cX5_make 69 = .ok (.iload_n 2, 1) := by decide +kernel
theorem dX5_make_70 : decode cX5_make 70 = .ok (.aload_n 0, 1) := by decide +kernel
theorem dX5_make_71 : decode cX5_make 71 = .ok (.getfield 68, 3) := by decide +kernel
theorem dX5_make_74 : decode cX5_make 74 = .ok (.if_icmp .ge 66, 3) := by decide +kernel
theorem dX5_make_77 : decode cX5_make 77 = .ok (.iload_n 2, 1) := by decide +kernel
theorem dX5_make_78 : decode cX5_make 78 = .ok (.sipush 150, 3) := by decide +kernel
theorem dX5_make_81 : decode cX5_make 81 = .ok (.if_icmp .ge 59, 3) := by decide +kernel
theorem dX5_make_84 : decode cX5_make 84 = .ok (.aload_n 0, 1) := by decide +kernel
theorem dX5_make_85 : decode cX5_make 85 = .ok (.getfield 65, 3) := by decide +kernel
theorem dX5_make_88 : decode cX5_make 88 = .ok (.ifCond .ne 52, 3) := by decide +kernel
theorem dX5_make_91 : decode cX5_make 91 = .ok (.iconst 0, 1) := by decide +kernel
theorem dX5_make_92 : decode cX5_make 92 = .ok (.istore_n 3, 1) := by decide +kernel
theorem dX5_make_93 : decode cX5_make 93 = .ok (.iload_n 3, 1) := by decide +kernel
theorem dX5_make_94 : decode cX5_make 94 = .ok (.iconst 2, 1) := by decide +kernel
theorem dX5_make_95 : decode cX5_make 95 = .ok (.if_icmp .ge 39, 3) := by decide +kernel
theorem dX5_make_98 : decode cX5_make 98 = .ok (.aload_n 0, 1) := by decide +kernel
theorem dX5_make_99 : decode cX5_make 99 = .ok (.iload_n 2, 1) := by decide +kernel
theorem dX5_make_100 : decode cX5_make 100 = .ok (.iload_n 3, 1) := by decide +kernel
theorem dX5_make_101 : decode cX5_make 101 = .ok (.invokevirtual 81, 3) := by decide +kernel
theorem dX5_make_104 : decode cX5_make 104 = .ok (.aload_n 0, 1) := by decide +kernel
theorem dX5_make_105 : decode cX5_make 105 = .ok (.getfield 28, 3) := by decide +kernel
theorem dX5_make_108 : decode cX5_make 108 = .ok (.iconst 2, 1) := by decide +kernel
theorem dX5_make_109 : decode cX5_make 109 = .ok (.iload_n 2, 1) := by decide +kernel
theorem dX5_make_110 : decode cX5_make 110 = .ok (.imul, 1) := by decide +kernel
theorem dX5_make_111 : decode cX5_make 111 = .ok (.iload_n 3, 1) := by decide +kernel
theorem dX5_make_112 : decode cX5_make 112 = .ok (.iadd, 1) := by decide +kernel
theorem dX5_make_113 : decode cX5_make 113 = .ok (.aload_n 0, 1) := by decide +kernel
theorem dX5_make_114 : decode cX5_make 114 = .ok (.aload_n 0, 1) := by decide +kernel
theorem dX5_make_115 : decode cX5_make 115 = .ok (.getfield 35, 3) := by decide +kernel
theorem dX5_make_118 : decode cX5_make 118 = .ok (.iload_n 2, 1) := by decide +kernel
theorem dX5_make_119 : decode cX5_make 119 = .ok (.iaload, 1) := by decide +kernel
theorem dX5_make_120 : decode cX5_make 120 = .ok (.iload_n 3, 1) := by decide +kernel
theorem dX5_make_121 : decode cX5_make 121 = .ok (.invokestatic 89, 3) := by decide +kernel
theorem dX5_make_124 : decode cX5_make 124 = .ok (.invokevirtual 85, 3) := by decide +kernel
theorem dX5_make_127 : decode cX5_make 127 = .ok (.iastore, 1) := by decide +kernel
theorem dX5_make_128 : decode cX5_make 128 = .ok (.iinc 3 1, 3) := by decide +kernel
theorem dX5_make_131 : decode cX5_make 131 = .ok (.goto (-38), 3) := by decide +kernel
theorem dX5_make_134 : decode cX5_make 134 = .ok (.iinc 2 1, 3) := by decide +kernel
theorem dX5_make_137 : decode cX5_make 137 = .ok (.goto (-68), 3) := by decide +kernel
theorem dX5_make_140 : decode cX5_make 140 = .ok (.aload_n 0, 1) := by decide +kernel
theorem dX5_make_141 : decode cX5_make 141 = .ok (.invokevirtual 93, 3) := by decide +kernel
theorem dX5_make_144 : decode cX5_make 144 = .ok (.return_, 1) := by decide +kernel
theorem dX5_isTooMany_0 : decode cX5_isTooMany 0 = .ok (.aload_n 0, 1) := by decide +kernel
theorem dX5_isTooMany_1 : decode cX5_isTooMany 1 = .ok (.getfield 65, 3) := by decide +kernel
theorem dX5_isTooMany_4 : decode cX5_isTooMany 4 = .ok (.ireturn, 1) := by decide +kernel
theorem dX5_size_0 : decode cX5_size 0 = .ok (.aload_n 0, 1) := by decide +kernel
theorem dX5_size_1 : decode cX5_size 1 = .ok (.getfield 68, 3) := by decide +kernel
theorem dX5_size_4 : decode cX5_size 4 = .ok (.ireturn, 1) := by decide +kernel
theorem dX5_hasState_0 : decode cX5_hasState 0 = .ok (.iload_n 1, 1) := by decide +kernel
theorem dX5_hasState_1 : decode cX5_hasState 1 = .ok (.ifCond .lt 22, 3) := by decide +kernel
theorem dX5_hasState_4 : decode cX5_hasState 4 = .ok (.iload_n 1, 1) := by decide +kernel
theorem dX5_hasState_5 : decode cX5_hasState 5 = .ok (.aload_n 0, 1) := by decide +kernel
theorem dX5_hasState_6 : decode cX5_hasState 6 = .ok (.getfield 68, 3) := by decide +kernel
theorem dX5_hasState_9 : decode cX5_hasState 9 = .ok (.if_icmp .ge 14, 3) := by decide +kernel
theorem dX5_hasState_12 : decode cX5_hasState 12 = .ok (.iload_n 1, 1) := by decide +kernel
theorem dX5_hasState_13 : decode cX5_hasState 13 = .ok (.sipush 150, 3) := by decide +kernel
theorem dX5_hasState_16 : decode cX5_hasState 16 = .ok (.if_icmp .ge 7, 3) := by decide +kernel
theorem dX5_hasState_19 : decode cX5_hasState 19 = .ok (.iconst 1, 1) := by decide +kernel
theorem dX5_hasState_20 : decode cX5_hasState 20 = .ok (.goto 4, 3) := by decide +kernel
theorem dX5_hasState_23 : decode cX5_hasState 23 = .ok (.iconst 0, 1) := by decide +kernel
theorem dX5_hasState_24 : decode cX5_hasState 24 = .ok (.ireturn, 1) := by decide +kernel
set_option maxRecDepth 20000 in
theorem ggX5_next_X5_hasState : GoodIn wsX5_next wsX5_hasState := goodIn_r _ [6, 7, 8, 9, 10, 11, 12, 13, 14, 15, 16, 17, 18, 19, 20, 21, 22, 23] (by decide +kernel) (by decide +kernel)
set_option maxRecDepth 20000 in
theorem gX5_next_X5_hasState : GoodIn wsX5_next (wsV RX5 96 RX5 yX5_hasState wsX5_hasState) := goodIn_app (goodIn_of _ (by decide +kernel)) ggX5_next_X5_hasState
theorem dX5_next_0 : decode cX5_next 0 = .ok (.aload_n 0, 1) := by decide +kernel
theorem dX5_next_1 : decode cX5_next 1 = .ok (.iload_n 1, 1) := by decide +kernel
theorem dX5_next_2 : decode cX5_next 2 = .ok (.invokevirtual 96, 3) := by decide +kernel
theorem dX5_next_5 : decode cX5_next 5 = .ok (.ifCond .eq 25, 3) := by decide +kernel
theorem dX5_next_8 : decode cX5_next 8 = .ok (.iload_n 2, 1) := by decide +kernel
theorem dX5_next_9 : decode cX5_next 9 = .ok (.ifCond .lt 21, 3) := by decide +kernel
theorem dX5_next_12 : decode cX5_next 12 = .ok (.iload_n 2, 1) := by decide +kernel
theorem dX5_next_13 : decode cX5_next 13 = .ok (.iconst 2, 1) := by decide +kernel
theorem dX5_next_14 : decode cX5_next 14 = .ok (.if_icmp .ge 16, 3) := by decide +kernel
theorem dX5_next_17 : decode cX5_next 17 = .ok (.aload_n 0, 1) := by decide +kernel
theorem dX5_next_18 : decode cX5_next 18 = .ok (.getfield 28, 3) := by decide +kernel
theorem dX5_next_21 : decode cX5_next 21 = .ok (.iconst 2, 1) := by decide +kernel
theorem dX5_next_22 : decode cX5_next 22 = .ok (.iload_n 1, 1) := by decide +kernel
theorem dX5_next_23 : decode cX5_next 23 = .ok (.imul, 1) := by decide +kernel
theorem dX5_next_24 : decode cX5_next 24 = .ok (.iload_n 2, 1) := by decide +kernel
theorem dX5_next_25 : decode cX5_next 25 = .ok (.iadd, 1) := by decide +kernel
theorem dX5_next_26 : decode cX5_next 26 = .ok (.iaload, 1) := by decide +kernel
theorem dX5_next_27 : decode cX5_next 27 = .ok (.goto 4, 3) := by decide +kernel
theorem dX5_next_30 : decode cX5_next 30 = .ok (.iconst (-1), 1) := by decide +kernel
theorem dX5_next_31 : decode cX5_next 31 = .ok (.ireturn, 1) := by decide +kernel
set_option maxRecDepth 20000 in
theorem ggX5_isGood_X5_hasState : GoodIn wsX5_isGood wsX5_hasState := goodIn_r _ [6, 7, 8, 9, 10, 11, 12, 13, 14, 15, 16, 17, 18, 19, 20, 21, 22, 23] (by decide +kernel) (by decide +kernel)
set_option maxRecDepth 20000 in
theorem gX5_isGood_X5_hasState : GoodIn wsX5_isGood (wsV RX5 96 RX5 yX5_hasState wsX5_hasState) := goodIn_app (goodIn_of _ (by decide +kernel)) ggX5_isGood_X5_hasState
theorem dX5_isGood_0 : decode cX5_isGood 0 = .ok (.aload_n 0, 1) := by decide +kernel
theorem dX5_isGood_1 : decode cX5_isGood 1 = .ok (.iload_n 1, 1) := by decide +kernel
theorem dX5_isGood_2 : decode cX5_isGood 2 = .ok (.invokevirtual 96, 3) := by decide +kernel
theorem dX5_isGood_5 : decode cX5_isGood 5 = .ok (.ifCond .eq 16, 3) := by decide +kernel
theorem dX5_isGood_8 : decode cX5_isGood 8 = .ok (.aload_n 0, 1) := by decide +kernel
theorem dX5_isGood_9 : decode cX5_isGood 9 = .ok (.getfield 31, 3) := by decide +kernel
theorem dX5_isGood_12 : decode cX5_isGood 12 = .ok (.iload_n 1, 1) := by decide +kernel
theorem dX5_isGood_13 : decode cX5_isGood 13 = .ok (.baload, 1) := by decide +kernel
theorem dX5_isGood_14 : decode cX5_isGood 14 = .ok (.ifCond .eq 7, 3) := by decide +kernel
theorem dX5_isGood_17 : decode cX5_isGood 17 = .ok (.iconst 1, 1) := by decide +kernel
theorem dX5_isGood_18 : decode cX5_isGood 18 = .ok (.goto 4, 3) := by decide +kernel
theorem dX5_isGood_21 : decode cX5_isGood 21 = .ok (.iconst 0, 1) := by decide +kernel
theorem dX5_isGood_22 : decode cX5_isGood 22 = .ok (.ireturn, 1) := by decide +kernel
set_option maxRecDepth 20000 in
theorem ggX5_firstOff_X5_hasState : GoodIn wsX5_firstOff wsX5_hasState := goodIn_r _ [6, 7, 8, 9, 10, 11, 12, 13, 14, 15, 16, 17, 18, 19, 20, 21, 22, 23] (by decide +kernel) (by decide +kernel)
set_option maxRecDepth 20000 in
theorem gX5_firstOff_X5_hasState : GoodIn wsX5_firstOff (wsV RX5 96 RX5 yX5_hasState wsX5_hasState) := goodIn_app (goodIn_of _ (by decide +kernel)) ggX5_firstOff_X5_hasState
theorem dX5_firstOff_0 : decode cX5_firstOff 0 = .ok (.aload_n 0, 1) := by decide +kernel
theorem dX5_firstOff_1 : decode cX5_firstOff 1 = .ok (.iload_n 1, 1) := by decide +kernel
theorem dX5_firstOff_2 : decode cX5_firstOff 2 = .ok (.invokevirtual 96, 3) := by decide +kernel
theorem dX5_firstOff_5 : decode cX5_firstOff 5 = .ok (.ifCond .eq 14, 3) := by decide +kernel
theorem dX5_firstOff_8 : decode cX5_firstOff 8 = .ok (.aload_n 0, 1) := by decide +kernel
theorem dX5_firstOff_9 : decode cX5_firstOff 9 = .ok (.getfield 18, 3) := by decide +kernel
theorem dX5_firstOff_12 : decode cX5_firstOff 12 = .ok (.iconst 5, 1) := by decide +kernel
theorem dX5_firstOff_13 : decode cX5_firstOff 13 = .ok (.iload_n 1, 1) := by decide +kernel
theorem dX5_firstOff_14 : decode cX5_firstOff 14 = .ok (.imul, 1) := by decide +kernel
theorem dX5_firstOff_15 : decode cX5_firstOff 15 = .ok (.iaload, 1) := by decide +kernel
theorem dX5_firstOff_16 : decode cX5_firstOff 16 = .ok (.goto 4, 3) := by decide +kernel
theorem dX5_firstOff_19 : decode cX5_firstOff 19 = .ok (.iconst (-1), 1) := by decide +kernel
theorem dX5_firstOff_20 : decode cX5_firstOff 20 = .ok (.ireturn, 1) := by decide +kernel
set_option maxRecDepth 20000 in
theorem ggX5_comesBack_X5_hasState : GoodIn wsX5_comesBack wsX5_hasState := goodIn_r _ [6, 7, 8, 9, 10, 11, 12, 13, 14, 15, 16, 17, 18, 19, 20, 21, 22, 23] (by decide +kernel) (by decide +kernel)
set_option maxRecDepth 20000 in
theorem gX5_comesBack_X5_hasState : GoodIn wsX5_comesBack (wsV RX5 96 RX5 yX5_hasState wsX5_hasState) := goodIn_app (goodIn_of _ (by decide +kernel)) ggX5_comesBack_X5_hasState
theorem dX5_comesBack_0 : decode cX5_comesBack 0 = .ok (.aload_n 0, 1) := by decide +kernel
theorem dX5_comesBack_1 : decode cX5_comesBack 1 = .ok (.iload_n 1, 1) := by decide +kernel
theorem dX5_comesBack_2 : decode cX5_comesBack 2 = .ok (.invokevirtual 96, 3) := by decide +kernel
theorem dX5_comesBack_5 : decode cX5_comesBack 5 = .ok (.ifCond .eq 16, 3) := by decide +kernel
theorem dX5_comesBack_8 : decode cX5_comesBack 8 = .ok (.iload_n 2, 1) := by decide +kernel
theorem dX5_comesBack_9 : decode cX5_comesBack 9 = .ok (.ifCond .lt 12, 3) := by decide +kernel
theorem dX5_comesBack_12 : decode cX5_comesBack 12 = .ok (.iload_n 2, 1) := by decide +kernel
theorem dX5_comesBack_13 : decode cX5_comesBack 13 = .ok (.iconst 4, 1) := by decide +kernel
theorem dX5_comesBack_14 : decode cX5_comesBack 14 = .ok (.if_icmp .ge 7, 3) := by decide +kernel
theorem dX5_comesBack_17 : decode cX5_comesBack 17 = .ok (.iconst 1, 1) := by decide +kernel
theorem dX5_comesBack_18 : decode cX5_comesBack 18 = .ok (.goto 4, 3) := by decide +kernel
theorem dX5_comesBack_21 : decode cX5_comesBack 21 = .ok (.iconst 0, 1) := by decide +kernel
theorem dX5_comesBack_22 : decode cX5_comesBack 22 = .ok (.istore_n 3, 1) := by decide +kernel
theorem dX5_comesBack_23 : decode cX5_comesBack 23 = .ok (.iload_n 3, 1) := by decide +kernel
theorem dX5_comesBack_24 : decode cX5_comesBack 24 = .ok (.ifCond .eq 18, 3) := by decide +kernel
theorem dX5_comesBack_27 : decode cX5_comesBack 27 = .ok (.aload_n 0, 1) := by decide +kernel
theorem dX5_comesBack_28 : decode cX5_comesBack 28 = .ok (.getfield 18, 3) := by decide +kernel
theorem dX5_comesBack_31 : decode cX5_comesBack 31 = .ok (.iconst 5, 1) := by decide +kernel
theorem dX5_comesBack_32 : decode cX5_comesBack 32 = .ok (.iload_n 1, 1) := by decide +kernel
theorem dX5_comesBack_33 : decode cX5_comesBack 33 = .ok (.imul, 1) := by decide +kernel
theorem dX5_comesBack_34 : decode cX5_comesBack 34 = .ok (.iconst 1, 1) := by decide +kernel
theorem dX5_comesBack_35 : decode cX5_comesBack 35 = .ok (.iadd, 1) := by decide +kernel
theorem dX5_comesBack_36 : decode cX5_comesBack 36 = .ok (.iload_n 2, 1) := by decide +kernel
theorem dX5_comesBack_37 : decode cX5_comesBack 37 = .ok (.iadd, 1) := by decide +kernel
theorem dX5_comesBack_38 : decode cX5_comesBack 38 = .ok (.iaload, 1) := by decide +kernel
theorem dX5_comesBack_39 : decode cX5_comesBack 39 = .ok (.goto 4, 3) := by decide +kernel
theorem dX5_comesBack_42 : decode cX5_comesBack 42 = .ok (.iconst (-1), 1) := by decide +kernel
theorem dX5_comesBack_43 : decode cX5_comesBack 43 = .ok (.ireturn, 1) := by decide +kernel
theorem dX5_firstWord_0 : decode cX5_firstWord 0 = .ok (.iconst 0, 1) := by decide +kernel
theorem dX5_firstWord_1 : decode cX5_firstWord 1 = .ok (.istore_n 2, 1) := by decide +kernel
theorem dX5_firstWord_2 : decode cX5_firstWord 2 = .ok (.iload_n 2, 1) := by decide +kernel
theorem dX5_firstWord_3 : decode cX5_firstWord 3 = .ok (.aload_n 0, 1) := by decide +kernel
theorem dX5_firstWord_4 : decode cX5_firstWord 4 = .ok (.getfield 68, 3) := by decide +kernel
theorem dX5_firstWord_7 : decode cX5_firstWord 7 = .ok (.if_icmp .ge 33, 3) := by decide +kernel
theorem dX5_firstWord_10 : decode cX5_firstWord 10 = .ok (.iload_n 2, 1) := by decide +kernel
theorem dX5_firstWord_11 : decode cX5_firstWord 11 = .ok (.sipush 150, 3) := by decide +kernel
theorem dX5_firstWord_14 : decode cX5_firstWord 14 = .ok (.if_icmp .ge 26, 3) := by decide +kernel
theorem dX5_firstWord_17 : decode cX5_firstWord 17 = .ok (.aload_n 0, 1) := by decide +kernel
theorem dX5_firstWord_18 : decode cX5_firstWord 18 = .ok (.getfield 31, 3) := by decide +kernel
theorem dX5_firstWord_21 : decode cX5_firstWord 21 = .ok (.iload_n 2, 1) := by decide +kernel
theorem dX5_firstWord_22 : decode cX5_firstWord 22 = .ok (.baload, 1) := by decide +kernel
theorem dX5_firstWord_23 : decode cX5_firstWord 23 = .ok (.iload_n 1, 1) := by decide +kernel
theorem dX5_firstWord_24 : decode cX5_firstWord 24 = .ok (.if_icmp .ne 10, 3) := by decide +kernel
theorem dX5_firstWord_27 : decode cX5_firstWord 27 = .ok (.aload_n 0, 1) := by decide +kernel
theorem dX5_firstWord_28 : decode cX5_firstWord 28 = .ok (.getfield 35, 3) := by decide +kernel
theorem dX5_firstWord_31 : decode cX5_firstWord 31 = .ok (.iload_n 2, 1) := by decide +kernel
theorem dX5_firstWord_32 : decode cX5_firstWord 32 = .ok (.iaload, 1) := by decide +kernel
theorem dX5_firstWord_33 : decode cX5_firstWord 33 = .ok (.ireturn, 1) := by decide +kernel
theorem dX5_firstWord_34 : decode cX5_firstWord 34 = .ok (.iinc 2 1, 3) := by decide +kernel
theorem dX5_firstWord_37 : decode cX5_firstWord 37 = .ok (.goto (-35), 3) := by decide +kernel
theorem dX5_firstWord_40 : decode cX5_firstWord 40 = .ok (.iconst (-1), 1) := by decide +kernel
theorem dX5_firstWord_41 : decode cX5_firstWord 41 = .ok (.ireturn, 1) := by decide +kernel
set_option maxRecDepth 20000 in
theorem ggX5_countWords_J7_fill_53178 : GoodIn wsX5_countWords wsJ7_fill_53178 := goodIn_r _ [7] (by decide +kernel) (by decide +kernel)
set_option maxRecDepth 20000 in
theorem gX5_countWords_J7_fill_53178 : GoodIn wsX5_countWords (va_wsS RX5 75 yJ7_fill_53178 wsJ7_fill_53178) := goodIn_app (goodIn_of _ (by decide +kernel)) ggX5_countWords_J7_fill_53178
set_option maxRecDepth 20000 in
theorem ggX5_countWords_X5_countOneLetterMore : GoodIn wsX5_countWords wsX5_countOneLetterMore := goodIn_r _ [12, 13, 2, 1, 14, 15, 16, 17, 4, 5, 6, 7, 18, 19, 20, 11, 21, 22, 23, 24, 25, 26, 27, 28, 29, 30, 31, 32, 33, 34, 35, 36, 37, 38, 39, 40, 41, 42] (by decide +kernel) (by decide +kernel)
set_option maxRecDepth 20000 in
theorem gX5_countWords_X5_countOneLetterMore : GoodIn wsX5_countWords (wsV RX5 100 RX5 yX5_countOneLetterMore wsX5_countOneLetterMore) := goodIn_app (goodIn_of _ (by decide +kernel)) ggX5_countWords_X5_countOneLetterMore
theorem dX5_countWords_0 : decode cX5_countWords 0 = .ok (.aload_n 0, 1) := by decide +kernel
theorem dX5_countWords_1 : decode cX5_countWords 1 = .ok (.getfield 47, 3) := by decide +kernel
theorem dX5_countWords_4 : decode cX5_countWords 4 = .ok (.iconst 0, 1) := by decide +kernel
theorem dX5_countWords_5 : decode cX5_countWords 5 = .ok (.invokestatic 75, 3) := by decide +kernel
theorem dX5_countWords_8 : decode cX5_countWords 8 = .ok (.aload_n 0, 1) := by decide +kernel
theorem dX5_countWords_9 : decode cX5_countWords 9 = .ok (.getfield 47, 3) := by decide +kernel
theorem dX5_countWords_12 : decode cX5_countWords 12 = .ok (.iconst 0, 1) := by decide +kernel
theorem dX5_countWords_13 : decode cX5_countWords 13 = .ok (.iconst 1, 1) := by decide +kernel
theorem dX5_countWords_14 : decode cX5_countWords 14 = .ok (.iastore, 1) := by decide +kernel
theorem dX5_countWords_15 : decode cX5_countWords 15 = .ok (.iconst 0, 1) := by decide +kernel
theorem dX5_countWords_16 : decode cX5_countWords 16 = .ok (.istore_n 2, 1) := by decide +kernel
theorem dX5_countWords_17 : decode cX5_countWords 17 = .ok (.iload_n 2, 1) := by decide +kernel
theorem dX5_countWords_18 : decode cX5_countWords 18 = .ok (.iload_n 1, 1) := by decide +kernel
theorem dX5_countWords_19 : decode cX5_countWords 19 = .ok (.if_icmp .ge 13, 3) := by decide +kernel
theorem dX5_countWords_22 : decode cX5_countWords 22 = .ok (.aload_n 0, 1) := by decide +kernel
theorem dX5_countWords_23 : decode cX5_countWords 23 = .ok (.invokevirtual 100, 3) := by decide +kernel
theorem dX5_countWords_26 : decode cX5_countWords 26 = .ok (.iinc 2 1, 3) := by decide +kernel
theorem dX5_countWords_29 : decode cX5_countWords 29 = .ok (.goto (-12), 3) := by decide +kernel
theorem dX5_countWords_32 : decode cX5_countWords 32 = .ok (.iconst 0, 1) := by decide +kernel
theorem dX5_countWords_33 : decode cX5_countWords 33 = .ok (.istore_n 2, 1) := by decide +kernel
theorem dX5_countWords_34 : decode cX5_countWords 34 = .ok (.iconst 0, 1) := by decide +kernel
theorem dX5_countWords_35 : decode cX5_countWords 35 = .ok (.istore_n 3, 1) := by decide +kernel
theorem dX5_countWords_36 : decode cX5_countWords 36 = .ok (.iload_n 3, 1) := by decide +kernel
theorem dX5_countWords_37 : decode cX5_countWords 37 = .ok (.aload_n 0, 1) := by decide +kernel
theorem dX5_countWords_38 : decode cX5_countWords 38 = .ok (.getfield 68, 3) := by decide +kernel
theorem dX5_countWords_41 : decode cX5_countWords 41 = .ok (.if_icmp .ge 38, 3) := by decide +kernel
theorem dX5_countWords_44 : decode cX5_countWords 44 = .ok (.iload_n 3, 1) := by decide +kernel
theorem dX5_countWords_45 : decode cX5_countWords 45 = .ok (.sipush 150, 3) := by decide +kernel
theorem dX5_countWords_48 : decode cX5_countWords 48 = .ok (.if_icmp .ge 31, 3) := by decide +kernel
theorem dX5_countWords_51 : decode cX5_countWords 51 = .ok (.iload_n 2, 1) := by decide +kernel
theorem dX5_countWords_52 : decode cX5_countWords 52 = .ok (.aload_n 0, 1) := by decide +kernel
theorem dX5_countWords_53 : decode cX5_countWords 53 = .ok (.getfield 31, 3) := by decide +kernel
theorem dX5_countWords_56 : decode cX5_countWords 56 = .ok (.iload_n 3, 1) := by decide +kernel
theorem dX5_countWords_57 : decode cX5_countWords 57 = .ok (.baload, 1) := by decide +kernel
theorem dX5_countWords_58 : decode cX5_countWords 58 = .ok (.ifCond .eq 12, 3) := by decide +kernel
theorem dX5_countWords_61 : decode cX5_countWords 61 = .ok (.aload_n 0, 1) := by decide +kernel
theorem dX5_countWords_62 : decode cX5_countWords 62 = .ok (.getfield 47, 3) := by decide +kernel
theorem dX5_countWords_65 : decode cX5_countWords 65 = .ok (.iload_n 3, 1) := by decide +kernel
theorem dX5_countWords_66 : decode cX5_countWords 66 = .ok (.iaload, 1) := by decide +kernel
theorem dX5_countWords_67 : decode cX5_countWords 67 = .ok (.goto 4, 3) := by decide +kernel
theorem dX5_countWords_70 : decode cX5_countWords 70 = .ok (.iconst 0, 1) := by decide +kernel
theorem dX5_countWords_71 : decode cX5_countWords 71 = .ok (.iadd, 1) := by decide +kernel
theorem dX5_countWords_72 : decode cX5_countWords 72 = .ok (.istore_n 2, 1) := by decide +kernel
theorem dX5_countWords_73 : decode cX5_countWords 73 = .ok (.iinc 3 1, 3) := by decide +kernel
theorem dX5_countWords_76 : decode cX5_countWords 76 = .ok (.goto (-40), 3) := by decide +kernel
theorem dX5_countWords_79 : decode cX5_countWords 79 = .ok (.iload_n 2, 1) := by decide +kernel
theorem dX5_countWords_80 : decode cX5_countWords 80 = .ok (.ireturn, 1) := by decide +kernel
set_option maxRecDepth 20000 in
theorem ggX5_leastSize_X5_groupByGoodness : GoodIn wsX5_leastSize wsX5_groupByGoodness := goodIn_r _ [6, 7, 8, 9, 41, 42, 43, 44, 45, 46, 47, 48, 49, 50, 51, 52, 53, 54, 55, 56] (by decide +kernel) (by decide +kernel)
set_option maxRecDepth 20000 in
theorem gX5_leastSize_X5_groupByGoodness : GoodIn wsX5_leastSize (wsV RX5 103 RX5 yX5_groupByGoodness wsX5_groupByGoodness) := goodIn_app (goodIn_of _ (by decide +kernel)) ggX5_leastSize_X5_groupByGoodness
set_option maxRecDepth 20000 in
theorem ggX5_leastSize_X5_splitGroups : GoodIn wsX5_leastSize wsX5_splitGroups := goodIn_r _ [13, 7, 14, 15, 8, 16, 17, 18, 19, 20, 21, 22, 5, 23, 24, 25, 26, 27, 28, 29, 30, 31, 32, 33, 34, 35, 36, 37, 38, 39, 40, 41, 42, 43, 44, 45, 46, 47, 48, 49, 50, 51, 52, 53, 54, 55, 56] (by decide +kernel) (by decide +kernel)
set_option maxRecDepth 20000 in
theorem gX5_leastSize_X5_splitGroups : GoodIn wsX5_leastSize (wsV RX5 106 RX5 yX5_splitGroups wsX5_splitGroups) := goodIn_app (goodIn_of _ (by decide +kernel)) ggX5_leastSize_X5_splitGroups
theorem dX5_leastSize_0 : decode cX5_leastSize 0 = .ok (.aload_n 0, 1) := by decide +kernel
theorem dX5_leastSize_1 : decode cX5_leastSize 1 = .ok (.getfield 72, 3) := by decide +kernel
theorem dX5_leastSize_4 : decode cX5_leastSize 4 = .ok (.ifCond .ne 43, 3) := by decide +kernel
theorem dX5_leastSize_7 : decode cX5_leastSize 7 = .ok (.aload_n 0, 1) := by decide +kernel
theorem dX5_leastSize_8 : decode cX5_leastSize 8 = .ok (.invokevirtual 103, 3) := by decide +kernel
theorem dX5_leastSize_11 : decode cX5_leastSize 11 = .ok (.iconst 0, 1) := by decide +kernel
theorem dX5_leastSize_12 : decode cX5_leastSize 12 = .ok (.istore_n 1, 1) := by decide +kernel
theorem dX5_leastSize_13 : decode cX5_leastSize 13 = .ok (.iload_n 1, 1) := by decide +kernel
theorem dX5_leastSize_14 : decode cX5_leastSize 14 = .ok (.sipush 150, 3) := by decide +kernel
theorem dX5_leastSize_17 : decode cX5_leastSize 17 = .ok (.if_icmp .gt 30, 3) := by decide +kernel
theorem dX5_leastSize_20 : decode cX5_leastSize 20 = .ok (.aload_n 0, 1) := by decide +kernel
theorem dX5_leastSize_21 : decode cX5_leastSize 21 = .ok (.invokevirtual 106, 3) := by decide +kernel
theorem dX5_leastSize_24 : decode cX5_leastSize 24 = .ok (.istore_n 2, 1) := by decide +kernel
theorem dX5_leastSize_25 : decode cX5_leastSize 25 = .ok (.iload_n 2, 1) := by decide +kernel
theorem dX5_leastSize_26 : decode cX5_leastSize 26 = .ok (.aload_n 0, 1) := by decide +kernel
theorem dX5_leastSize_27 : decode cX5_leastSize 27 = .ok (.getfield 72, 3) := by decide +kernel
theorem dX5_leastSize_30 : decode cX5_leastSize 30 = .ok (.if_icmp .ne 6, 3) := by decide +kernel
theorem dX5_leastSize_33 : decode cX5_leastSize 33 = .ok (.goto 14, 3) := by decide +kernel
theorem dX5_leastSize_36 : decode cX5_leastSize 36 = .ok (.aload_n 0, 1) := by decide +kernel
theorem dX5_leastSize_37 : decode cX5_leastSize 37 = .ok (.iload_n 2, 1) := by decide +kernel
theorem dX5_leastSize_38 : decode cX5_leastSize 38 = .ok (.putfield 72, 3) := by decide +kernel
theorem dX5_leastSize_41 : decode cX5_leastSize 41 = .ok (.iinc 1 1, 3) := by decide +kernel
theorem dX5_leastSize_44 : decode cX5_leastSize 44 = .ok (.goto (-31), 3) := by decide +kernel
theorem dX5_leastSize_47 : decode cX5_leastSize 47 = .ok (.aload_n 0, 1) := by decide +kernel
theorem dX5_leastSize_48 : decode cX5_leastSize 48 = .ok (.getfield 72, 3) := by decide +kernel
theorem dX5_leastSize_51 : decode cX5_leastSize 51 = .ok (.ireturn, 1) := by decide +kernel
set_option maxRecDepth 20000 in
theorem ggX5_findBehind_X5_firstOff : GoodIn wsX5_findBehind wsX5_firstOff := goodIn_r _ [6, 7, 8, 9, 10, 5, 11, 12, 36, 37, 38, 39, 40, 41, 42, 43, 44, 45, 46, 47, 48, 49, 50, 51] (by decide +kernel) (by decide +kernel)
set_option maxRecDepth 20000 in
theorem gX5_findBehind_X5_firstOff : GoodIn wsX5_findBehind (wsV RX5 110 RX5 yX5_firstOff wsX5_firstOff) := goodIn_app (goodIn_of _ (by decide +kernel)) ggX5_findBehind_X5_firstOff
set_option maxRecDepth 20000 in
theorem ggX5_findBehind_X5_goOff : GoodIn wsX5_findBehind wsX5_goOff := goodIn_r _ [16, 17, 18, 19, 20, 21, 22, 23, 24, 25, 26, 27, 28, 29, 30, 31, 32, 33, 34, 5, 35, 7, 8, 9, 10, 11, 12, 36, 37, 38, 39, 40, 41, 42, 43, 44, 45, 46, 47, 48, 49, 50, 51, 52, 53, 54] (by decide +kernel) (by decide +kernel)
set_option maxRecDepth 20000 in
theorem gX5_findBehind_X5_goOff : GoodIn wsX5_findBehind (wsV RX5 113 RX5 yX5_goOff wsX5_goOff) := goodIn_app (goodIn_of _ (by decide +kernel)) ggX5_findBehind_X5_goOff
theorem dX5_findBehind_0 : decode cX5_findBehind 0 = .ok (.aload_n 0, 1) := by decide +kernel
theorem dX5_findBehind_1 : decode cX5_findBehind 1 = .ok (.getfield 22, 3) := by decide +kernel
theorem dX5_findBehind_4 : decode cX5_findBehind 4 = .ok (.iconst 0, 1) := by decide +kernel
theorem dX5_findBehind_5 : decode cX5_findBehind 5 = .ok (.aload_n 0, 1) := by decide +kernel
theorem dX5_findBehind_6 : decode cX5_findBehind 6 = .ok (.iload_n 1, 1) := by decide +kernel
theorem dX5_findBehind_7 : decode cX5_findBehind 7 = .ok (.iload_n 2, 1) := by decide +kernel
theorem dX5_findBehind_8 : decode cX5_findBehind 8 = .ok (.iload_n 1, 1) := by decide +kernel
theorem dX5_findBehind_9 : decode cX5_findBehind 9 = .ok (.iconst (-1), 1) := by decide +kernel
theorem dX5_findBehind_10 : decode cX5_findBehind 10 = .ok (.if_icmp .ne 7, 3) := by decide +kernel
theorem dX5_findBehind_13 : decode cX5_findBehind 13 = .ok (.iconst 0, 1) := by decide +kernel
theorem dX5_findBehind_14 : decode cX5_findBehind 14 = .ok (.goto 8, 3) := by decide +kernel
theorem dX5_findBehind_17 : decode cX5_findBehind 17 = .ok (.aload_n 0, 1) := by decide +kernel
theorem dX5_findBehind_18 : decode cX5_findBehind 18 = .ok (.iload_n 1, 1) := by decide +kernel
theorem dX5_findBehind_19 : decode cX5_findBehind 19 = .ok (.invokevirtual 110, 3) := by decide +kernel
theorem dX5_findBehind_22 : decode cX5_findBehind 22 = .ok (.invokevirtual 113, 3) := by decide +kernel
theorem dX5_findBehind_25 : decode cX5_findBehind 25 = .ok (.iastore, 1) := by decide +kernel
theorem dX5_findBehind_26 : decode cX5_findBehind 26 = .ok (.iconst 1, 1) := by decide +kernel
theorem dX5_findBehind_27 : decode cX5_findBehind 27 = .ok (.istore_n 3, 1) := by decide +kernel
theorem dX5_findBehind_28 : decode cX5_findBehind 28 = .ok (.iload_n 3, 1) := by decide +kernel
theorem dX5_findBehind_29 : decode cX5_findBehind 29 = .ok (.iconst 5, 1) := by decide +kernel
theorem dX5_findBehind_30 : decode cX5_findBehind 30 = .ok (.if_icmp .ge 24, 3) := by decide +kernel
theorem dX5_findBehind_33 : decode cX5_findBehind 33 = .ok (.aload_n 0, 1) := by decide +kernel
theorem dX5_findBehind_34 : decode cX5_findBehind 34 = .ok (.getfield 22, 3) := by decide +kernel
theorem dX5_findBehind_37 : decode cX5_findBehind 37 = .ok (.iload_n 3, 1) := by decide +kernel
theorem dX5_findBehind_38 : decode cX5_findBehind 38 = .ok (.aload_n 0, 1) := by decide +kernel
theorem dX5_findBehind_39 : decode cX5_findBehind 39 = .ok (.iload_n 1, 1) := by decide +kernel
theorem dX5_findBehind_40 : decode cX5_findBehind 40 = .ok (.iload_n 2, 1) := by decide +kernel
theorem dX5_findBehind_41 : decode cX5_findBehind 41 = .ok (.iload_n 3, 1) := by decide +kernel
theorem dX5_findBehind_42 : decode cX5_findBehind 42 = .ok (.iconst 1, 1) := by decide +kernel
theorem dX5_findBehind_43 : decode cX5_findBehind 43 = .ok (.isub, 1) := by decide +kernel
theorem dX5_findBehind_44 : decode cX5_findBehind 44 = .ok (.invokevirtual 113, 3) := by decide +kernel
theorem dX5_findBehind_47 : decode cX5_findBehind 47 = .ok (.iastore, 1) := by decide +kernel
theorem dX5_findBehind_48 : decode cX5_findBehind 48 = .ok (.iinc 3 1, 3) := by decide +kernel
theorem dX5_findBehind_51 : decode cX5_findBehind 51 = .ok (.goto (-23), 3) := by decide +kernel
theorem dX5_findBehind_54 : decode cX5_findBehind 54 = .ok (.return_, 1) := by decide +kernel
set_option maxRecDepth 20000 in
theorem ggX5_goOff_X3_at : GoodIn wsX5_goOff wsX3_at := goodIn_r _ [6, 7, 8, 9, 10, 11, 43, 44, 45] (by decide +kernel) (by decide +kernel)
set_option maxRecDepth 20000 in
theorem gX5_goOff_X3_at : GoodIn wsX5_goOff (wsV RX5 117 RX3 yX3_at wsX3_at) := goodIn_app (goodIn_of _ (by decide +kernel)) ggX5_goOff_X3_at
set_option maxRecDepth 20000 in
theorem ggX5_goOff_X8_sideOf : GoodIn wsX5_goOff wsX8_sideOf := goodIn_r _ [13] (by decide +kernel) (by decide +kernel)
set_option maxRecDepth 20000 in
theorem gX5_goOff_X8_sideOf_n120 : GoodIn wsX5_goOff (wsX8_sideOf) := ggX5_goOff_X8_sideOf
set_option maxRecDepth 20000 in
theorem ggX5_goOff_X8_stateOf : GoodIn wsX5_goOff wsX8_stateOf := goodIn_r _ [15] (by decide +kernel) (by decide +kernel)
set_option maxRecDepth 20000 in
theorem gX5_goOff_X8_stateOf_n123 : GoodIn wsX5_goOff (wsX8_stateOf) := ggX5_goOff_X8_stateOf
set_option maxRecDepth 20000 in
theorem ggX5_goOff_X5_comesBack : GoodIn wsX5_goOff wsX5_comesBack := goodIn_r _ [20, 21, 22, 23, 24, 19, 25, 26, 27, 28, 29, 30, 31, 32, 33, 34, 35, 36, 37, 38, 39, 40, 41, 42] (by decide +kernel) (by decide +kernel)
set_option maxRecDepth 20000 in
theorem gX5_goOff_X5_comesBack : GoodIn wsX5_goOff (wsV RX5 126 RX5 yX5_comesBack wsX5_comesBack) := goodIn_app (goodIn_of _ (by decide +kernel)) ggX5_goOff_X5_comesBack
theorem dX5_goOff_0 : decode cX5_goOff 0 = .ok (.iload_n 3, 1) := by decide +kernel
theorem dX5_goOff_1 : decode cX5_goOff 1 = .ok (.istore 4, 2) := by decide +kernel
theorem dX5_goOff_3 : decode cX5_goOff 3 = .ok (.iconst 0, 1) := by decide +kernel
theorem dX5_goOff_4 : decode cX5_goOff 4 = .ok (.istore 5, 2) := by decide +kernel
theorem dX5_goOff_6 : decode cX5_goOff 6 = .ok (.iload 5, 2) := by decide +kernel
theorem dX5_goOff_8 : decode cX5_goOff 8 = .ok (.iconst 4, 1) := by decide +kernel
theorem dX5_goOff_9 : decode cX5_goOff 9 = .ok (.if_icmp .ge 62, 3) := by decide +kernel
theorem dX5_goOff_12 : decode cX5_goOff 12 = .ok (.iload 4, 2) := by decide +kernel
theorem dX5_goOff_14 : decode cX5_goOff 14 = .ok (.iconst (-1), 1) := by decide +kernel
theorem dX5_goOff_15 : decode cX5_goOff 15 = .ok (.if_icmp .eq 56, 3) := by decide +kernel
theorem dX5_goOff_18 : decode cX5_goOff 18 = .ok (.aload_n 0, 1) := by decide +kernel
theorem dX5_goOff_19 : decode cX5_goOff 19 = .ok (.getfield 14, 3) := by decide +kernel
theorem dX5_goOff_22 : decode cX5_goOff 22 = .ok (.iload 4, 2) := by decide +kernel
theorem dX5_goOff_24 : decode cX5_goOff 24 = .ok (.iload_n 2, 1) := by decide +kernel
theorem dX5_goOff_25 : decode cX5_goOff 25 = .ok (.invokevirtual 117, 3) := by decide +kernel
theorem dX5_goOff_28 : decode cX5_goOff 28 = .ok (.istore 6, 2) := by decide +kernel
theorem dX5_goOff_30 : decode cX5_goOff 30 = .ok (.iload 6, 2) := by decide +kernel
theorem dX5_goOff_32 : decode cX5_goOff 32 = .ok (.iconst (-1), 1) := by decide +kernel
theorem dX5_goOff_33 : decode cX5_goOff 33 = .ok (.if_icmp .ne 5, 3) := by decide +kernel
theorem dX5_goOff_36 : decode cX5_goOff 36 = .ok (.iconst (-1), 1) := by decide +kernel
theorem dX5_goOff_37 : decode cX5_goOff 37 = .ok (.ireturn, 1) := by decide +kernel
theorem dX5_goOff_38 : decode cX5_goOff 38 = .ok (.iload 6, 2) := by decide +kernel
theorem dX5_goOff_40 : decode cX5_goOff 40 = .ok (.invokestatic 120, 3) := by decide +kernel
theorem dX5_goOff_43 : decode cX5_goOff 43 = .ok (.iconst 1, 1) := by decide +kernel
theorem dX5_goOff_44 : decode cX5_goOff 44 = .ok (.if_icmp .ne 9, 3) := by decide +kernel
theorem dX5_goOff_47 : decode cX5_goOff 47 = .ok (.iload 6, 2) := by decide +kernel
theorem dX5_goOff_49 : decode cX5_goOff 49 = .ok (.invokestatic 123, 3) := by decide +kernel
theorem dX5_goOff_52 : decode cX5_goOff 52 = .ok (.ireturn, 1) := by decide +kernel
theorem dX5_goOff_53 : decode cX5_goOff 53 = .ok (.aload_n 0, 1) := by decide +kernel
theorem dX5_goOff_54 : decode cX5_goOff 54 = .ok (.iload_n 1, 1) := by decide +kernel
theorem dX5_goOff_55 : decode cX5_goOff 55 = .ok (.iload 6, 2) := by decide +kernel
theorem dX5_goOff_57 : decode cX5_goOff 57 = .ok (.invokestatic 123, 3) := by decide +kernel
theorem dX5_goOff_60 : decode cX5_goOff 60 = .ok (.invokevirtual 126, 3) := by decide +kernel
theorem dX5_goOff_63 : decode cX5_goOff 63 = .ok (.istore 4, 2) := by decide +kernel
theorem dX5_goOff_65 : decode cX5_goOff 65 = .ok (.iinc 5 1, 3) := by decide +kernel
theorem dX5_goOff_68 : decode cX5_goOff 68 = .ok (.goto (-62), 3) := by decide +kernel
theorem dX5_goOff_71 : decode cX5_goOff 71 = .ok (.iconst (-1), 1) := by decide +kernel
theorem dX5_goOff_72 : decode cX5_goOff 72 = .ok (.ireturn, 1) := by decide +kernel
set_option maxRecDepth 20000 in
theorem ggX5_numberOfFound_X5_codeOfFound : GoodIn wsX5_numberOfFound wsX5_codeOfFound := goodIn_r _ [8, 9, 24, 25, 26, 27, 28, 29, 30, 31, 32, 33, 34, 35, 36, 37, 38, 39] (by decide +kernel) (by decide +kernel)
set_option maxRecDepth 20000 in
theorem gX5_numberOfFound_X5_codeOfFound : GoodIn wsX5_numberOfFound (wsV RX5 129 RX5 yX5_codeOfFound wsX5_codeOfFound) := goodIn_app (goodIn_of _ (by decide +kernel)) ggX5_numberOfFound_X5_codeOfFound
set_option maxRecDepth 20000 in
theorem ggX5_numberOfFound_X5_addFound : GoodIn wsX5_numberOfFound wsX5_addFound := goodIn_r _ [13, 2, 9, 14, 15, 16, 17, 18, 19, 20, 21, 22, 7, 23, 24, 25, 26, 27, 28, 29, 30, 31, 32, 33, 34, 35, 36, 37, 38, 39] (by decide +kernel) (by decide +kernel)
set_option maxRecDepth 20000 in
theorem gX5_numberOfFound_X5_addFound : GoodIn wsX5_numberOfFound (wsV RX5 132 RX5 yX5_addFound wsX5_addFound) := goodIn_app (goodIn_of _ (by decide +kernel)) ggX5_numberOfFound_X5_addFound
theorem dX5_numberOfFound_0 : decode cX5_numberOfFound 0 = .ok (.aload_n 0, 1) := by decide +kernel
theorem dX5_numberOfFound_1 : decode cX5_numberOfFound 1 = .ok (.invokevirtual 129, 3) := by decide +kernel
theorem dX5_numberOfFound_4 : decode cX5_numberOfFound 4 = .ok (.istore_n 2, 1) := by decide +kernel
theorem dX5_numberOfFound_5 : decode cX5_numberOfFound 5 = .ok (.iload_n 2, 1) := by decide +kernel
theorem dX5_numberOfFound_6 : decode cX5_numberOfFound 6 = .ok (.ifCond .lt 10, 3) := by decide +kernel
theorem dX5_numberOfFound_9 : decode cX5_numberOfFound 9 = .ok (.iload_n 2, 1) := by decide +kernel
theorem dX5_numberOfFound_10 : decode cX5_numberOfFound 10 = .ok (.sipush 3125, 3) := by decide +kernel
theorem dX5_numberOfFound_13 : decode cX5_numberOfFound 13 = .ok (.if_icmp .lt 5, 3) := by decide +kernel
theorem dX5_numberOfFound_16 : decode cX5_numberOfFound 16 = .ok (.iconst (-1), 1) := by decide +kernel
theorem dX5_numberOfFound_17 : decode cX5_numberOfFound 17 = .ok (.ireturn, 1) := by decide +kernel
theorem dX5_numberOfFound_18 : decode cX5_numberOfFound 18 = .ok (.aload_n 0, 1) := by decide +kernel
theorem dX5_numberOfFound_19 : decode cX5_numberOfFound 19 = .ok (.getfield 25, 3) := by decide +kernel
theorem dX5_numberOfFound_22 : decode cX5_numberOfFound 22 = .ok (.iload_n 2, 1) := by decide +kernel
theorem dX5_numberOfFound_23 : decode cX5_numberOfFound 23 = .ok (.iaload, 1) := by decide +kernel
theorem dX5_numberOfFound_24 : decode cX5_numberOfFound 24 = .ok (.iconst (-1), 1) := by decide +kernel
theorem dX5_numberOfFound_25 : decode cX5_numberOfFound 25 = .ok (.if_icmp .ne 42, 3) := by decide +kernel
theorem dX5_numberOfFound_28 : decode cX5_numberOfFound 28 = .ok (.aload_n 0, 1) := by decide +kernel
theorem dX5_numberOfFound_29 : decode cX5_numberOfFound 29 = .ok (.getfield 68, 3) := by decide +kernel
theorem dX5_numberOfFound_32 : decode cX5_numberOfFound 32 = .ok (.ifCond .lt 13, 3) := by decide +kernel
theorem dX5_numberOfFound_35 : decode cX5_numberOfFound 35 = .ok (.aload_n 0, 1) := by decide +kernel
theorem dX5_numberOfFound_36 : decode cX5_numberOfFound 36 = .ok (.getfield 68, 3) := by decide +kernel
theorem dX5_numberOfFound_39 : decode cX5_numberOfFound 39 = .ok (.sipush 150, 3) := by decide +kernel
theorem dX5_numberOfFound_42 : decode cX5_numberOfFound 42 = .ok (.if_icmp .lt 10, 3) := by decide +kernel
theorem dX5_numberOfFound_45 : decode cX5_numberOfFound 45 = .ok (.aload_n 0, 1) := by decide +kernel
theorem dX5_numberOfFound_46 : decode cX5_numberOfFound 46 = .ok (.iconst 1, 1) := by decide +kernel
theorem dX5_numberOfFound_47 : decode cX5_numberOfFound 47 = .ok (.putfield 65, 3) := by decide +kernel
theorem dX5_numberOfFound_50 : decode cX5_numberOfFound 50 = .ok (.iconst (-1), 1) := by decide +kernel
theorem dX5_numberOfFound_51 : decode cX5_numberOfFound 51 = .ok (.ireturn, 1) := by decide +kernel
theorem dX5_numberOfFound_52 : decode cX5_numberOfFound 52 = .ok (.aload_n 0, 1) := by decide +kernel
theorem dX5_numberOfFound_53 : decode cX5_numberOfFound 53 = .ok (.getfield 25, 3) := by decide +kernel
theorem dX5_numberOfFound_56 : decode cX5_numberOfFound 56 = .ok (.iload_n 2, 1) := by decide +kernel
theorem dX5_numberOfFound_57 : decode cX5_numberOfFound 57 = .ok (.aload_n 0, 1) := by decide +kernel
theorem dX5_numberOfFound_58 : decode cX5_numberOfFound 58 = .ok (.getfield 68, 3) := by decide +kernel
theorem dX5_numberOfFound_61 : decode cX5_numberOfFound 61 = .ok (.iastore, 1) := by decide +kernel
theorem dX5_numberOfFound_62 : decode cX5_numberOfFound 62 = .ok (.aload_n 0, 1) := by decide +kernel
theorem dX5_numberOfFound_63 : decode cX5_numberOfFound 63 = .ok (.iload_n 1, 1) := by decide +kernel
theorem dX5_numberOfFound_64 : decode cX5_numberOfFound 64 = .ok (.invokevirtual 132, 3) := by decide +kernel
theorem dX5_numberOfFound_67 : decode cX5_numberOfFound 67 = .ok (.aload_n 0, 1) := by decide +kernel
theorem dX5_numberOfFound_68 : decode cX5_numberOfFound 68 = .ok (.getfield 25, 3) := by decide +kernel
theorem dX5_numberOfFound_71 : decode cX5_numberOfFound 71 = .ok (.iload_n 2, 1) := by decide +kernel
theorem dX5_numberOfFound_72 : decode cX5_numberOfFound 72 = .ok (.iaload, 1) := by decide +kernel
theorem dX5_numberOfFound_73 : decode cX5_numberOfFound 73 = .ok (.ireturn, 1) := by decide +kernel
theorem dX5_codeOfFound_0 : decode cX5_codeOfFound 0 = .ok (.iconst 0, 1) := by decide +kernel
theorem dX5_codeOfFound_1 : decode cX5_codeOfFound 1 = .ok (.istore_n 1, 1) := by decide +kernel
theorem dX5_codeOfFound_2 : decode cX5_codeOfFound 2 = .ok (.iconst 0, 1) := by decide +kernel
theorem dX5_codeOfFound_3 : decode cX5_codeOfFound 3 = .ok (.istore_n 2, 1) := by decide +kernel
theorem dX5_codeOfFound_4 : decode cX5_codeOfFound 4 = .ok (.iload_n 2, 1) := by decide +kernel
theorem dX5_codeOfFound_5 : decode cX5_codeOfFound 5 = .ok (.iconst 5, 1) := by decide +kernel
theorem dX5_codeOfFound_6 : decode cX5_codeOfFound 6 = .ok (.if_icmp .ge 22, 3) := by decide +kernel
theorem dX5_codeOfFound_9 : decode cX5_codeOfFound 9 = .ok (.iconst 5, 1) := by decide +kernel
theorem dX5_codeOfFound_10 : decode cX5_codeOfFound 10 = .ok (.iload_n 1, 1) := by decide +kernel
theorem dX5_codeOfFound_11 : decode cX5_codeOfFound 11 = .ok (.imul, 1) := by decide +kernel
theorem dX5_codeOfFound_12 : decode cX5_codeOfFound 12 = .ok (.aload_n 0, 1) := by decide +kernel
theorem dX5_codeOfFound_13 : decode cX5_codeOfFound 13 = .ok (.getfield 22, 3) := by decide +kernel
theorem dX5_codeOfFound_16 : decode cX5_codeOfFound 16 = .ok (.iload_n 2, 1) := by decide +kernel
theorem dX5_codeOfFound_17 : decode cX5_codeOfFound 17 = .ok (.iaload, 1) := by decide +kernel
theorem dX5_codeOfFound_18 : decode cX5_codeOfFound 18 = .ok (.iadd, 1) := by decide +kernel
theorem dX5_codeOfFound_19 : decode cX5_codeOfFound 19 = .ok (.iconst 1, 1) := by decide +kernel
theorem dX5_codeOfFound_20 : decode cX5_codeOfFound 20 = .ok (.iadd, 1) := by decide +kernel
theorem dX5_codeOfFound_21 : decode cX5_codeOfFound 21 = .ok (.istore_n 1, 1) := by decide +kernel
theorem dX5_codeOfFound_22 : decode cX5_codeOfFound 22 = .ok (.iinc 2 1, 3) := by decide +kernel
theorem dX5_codeOfFound_25 : decode cX5_codeOfFound 25 = .ok (.goto (-21), 3) := by decide +kernel
theorem dX5_codeOfFound_28 : decode cX5_codeOfFound 28 = .ok (.iload_n 1, 1) := by decide +kernel
theorem dX5_codeOfFound_29 : decode cX5_codeOfFound 29 = .ok (.ireturn, 1) := by decide +kernel
set_option maxRecDepth 20000 in
theorem ggX5_addFound_X5_hasState : GoodIn wsX5_addFound wsX5_hasState := goodIn_r _ [13, 1, 14, 15, 16, 17, 18, 19, 20, 21, 22, 23, 24, 25, 26, 27, 28, 29] (by decide +kernel) (by decide +kernel)
set_option maxRecDepth 20000 in
theorem gX5_addFound_X5_hasState : GoodIn wsX5_addFound (wsV RX5 96 RX5 yX5_hasState wsX5_hasState) := goodIn_app (goodIn_of _ (by decide +kernel)) ggX5_addFound_X5_hasState
theorem dX5_addFound_0 : decode cX5_addFound 0 = .ok (.aload_n 0, 1) := by decide +kernel
theorem dX5_addFound_1 : decode cX5_addFound 1 = .ok (.getfield 68, 3) := by decide +kernel
theorem dX5_addFound_4 : decode cX5_addFound 4 = .ok (.istore_n 2, 1) := by decide +kernel
theorem dX5_addFound_5 : decode cX5_addFound 5 = .ok (.aload_n 0, 1) := by decide +kernel
theorem dX5_addFound_6 : decode cX5_addFound 6 = .ok (.dup, 1) := by decide +kernel
theorem dX5_addFound_7 : decode cX5_addFound 7 = .ok (.getfield 68, 3) := by decide +kernel
theorem dX5_addFound_10 : decode cX5_addFound 10 = .ok (.iconst 1, 1) := by decide +kernel
theorem dX5_addFound_11 : decode cX5_addFound 11 = .ok (.iadd, 1) := by decide +kernel
theorem dX5_addFound_12 : decode cX5_addFound 12 = .ok (.putfield 68, 3) := by decide +kernel
theorem dX5_addFound_15 : decode cX5_addFound 15 = .ok (.aload_n 0, 1) := by decide +kernel
theorem dX5_addFound_16 : decode cX5_addFound 16 = .ok (.iload_n 2, 1) := by decide +kernel
theorem dX5_addFound_17 : decode cX5_addFound 17 = .ok (.invokevirtual 96, 3) := by decide +kernel
theorem dX5_addFound_20 : decode cX5_addFound 20 = .ok (.ifCond .eq 26, 3) := by decide +kernel
theorem dX5_addFound_23 : decode cX5_addFound 23 = .ok (.aload_n 0, 1) := by decide +kernel
theorem dX5_addFound_24 : decode cX5_addFound 24 = .ok (.getfield 22, 3) := by decide +kernel
theorem dX5_addFound_27 : decode cX5_addFound 27 = .ok (.iconst 0, 1) := by decide +kernel
theorem dX5_addFound_28 : decode cX5_addFound 28 = .ok (.aload_n 0, 1) := by decide +kernel
theorem dX5_addFound_29 : decode cX5_addFound 29 = .ok (.getfield 18, 3) := by decide +kernel
theorem dX5_addFound_32 : decode cX5_addFound 32 = .ok (.iconst 5, 1) := by decide +kernel
theorem dX5_addFound_33 : decode cX5_addFound 33 = .ok (.iload_n 2, 1) := by decide +kernel
theorem dX5_addFound_34 : decode cX5_addFound 34 = .ok (.imul, 1) := by decide +kernel
theorem dX5_addFound_35 : decode cX5_addFound 35 = .ok (.iconst 5, 1) := by decide +kernel
theorem dX5_addFound_36 : decode cX5_addFound 36 = .ok (.invokestatic 136, 3) := by decide +kernel
theorem dX5_addFound_39 : decode cX5_addFound 39 = .ok (.aload_n 0, 1) := by decide +kernel
theorem dX5_addFound_40 : decode cX5_addFound 40 = .ok (.getfield 35, 3) := by decide +kernel
theorem dX5_addFound_43 : decode cX5_addFound 43 = .ok (.iload_n 2, 1) := by decide +kernel
theorem dX5_addFound_44 : decode cX5_addFound 44 = .ok (.iload_n 1, 1) := by decide +kernel
theorem dX5_addFound_45 : decode cX5_addFound 45 = .ok (.iastore, 1) := by decide +kernel
theorem dX5_addFound_46 : decode cX5_addFound 46 = .ok (.return_, 1) := by decide +kernel
set_option maxRecDepth 20000 in
theorem ggX5_markGoods_X5_firstOff : GoodIn wsX5_markGoods wsX5_firstOff := goodIn_r _ [7, 8, 9, 10, 11, 6, 12, 1, 36, 37, 38, 39, 40, 41, 42, 43, 44, 45, 46, 47, 48, 49, 50, 51] (by decide +kernel) (by decide +kernel)
set_option maxRecDepth 20000 in
theorem gX5_markGoods_X5_firstOff : GoodIn wsX5_markGoods (wsV RX5 110 RX5 yX5_firstOff wsX5_firstOff) := goodIn_app (goodIn_of _ (by decide +kernel)) ggX5_markGoods_X5_firstOff
set_option maxRecDepth 20000 in
theorem ggX5_markGoods_X5_goOff : GoodIn wsX5_markGoods wsX5_goOff := goodIn_r _ [16, 17, 18, 19, 20, 21, 22, 23, 24, 25, 26, 27, 28, 29, 30, 31, 32, 33, 34, 6, 35, 8, 9, 10, 11, 12, 1, 36, 37, 38, 39, 40, 41, 42, 43, 44, 45, 46, 47, 48, 49, 50, 51, 52, 53, 54] (by decide +kernel) (by decide +kernel)
set_option maxRecDepth 20000 in
theorem gX5_markGoods_X5_goOff : GoodIn wsX5_markGoods (wsV RX5 113 RX5 yX5_goOff wsX5_goOff) := goodIn_app (goodIn_of _ (by decide +kernel)) ggX5_markGoods_X5_goOff
theorem dX5_markGoods_0 : decode cX5_markGoods 0 = .ok (.iconst 0, 1) := by decide +kernel
theorem dX5_markGoods_1 : decode cX5_markGoods 1 = .ok (.istore_n 1, 1) := by decide +kernel
theorem dX5_markGoods_2 : decode cX5_markGoods 2 = .ok (.iload_n 1, 1) := by decide +kernel
theorem dX5_markGoods_3 : decode cX5_markGoods 3 = .ok (.aload_n 0, 1) := by decide +kernel
theorem dX5_markGoods_4 : decode cX5_markGoods 4 = .ok (.getfield 68, 3) := by decide +kernel
theorem dX5_markGoods_7 : decode cX5_markGoods 7 = .ok (.if_icmp .ge 42, 3) := by decide +kernel
theorem dX5_markGoods_10 : decode cX5_markGoods 10 = .ok (.iload_n 1, 1) := by decide +kernel
theorem dX5_markGoods_11 : decode cX5_markGoods 11 = .ok (.sipush 150, 3) := by decide +kernel
theorem dX5_markGoods_14 : decode cX5_markGoods 14 = .ok (.if_icmp .ge 35, 3) := by decide +kernel
theorem dX5_markGoods_17 : decode cX5_markGoods 17 = .ok (.aload_n 0, 1) := by decide +kernel
theorem dX5_markGoods_18 : decode cX5_markGoods 18 = .ok (.getfield 31, 3) := by decide +kernel
theorem dX5_markGoods_21 : decode cX5_markGoods 21 = .ok (.iload_n 1, 1) := by decide +kernel
theorem dX5_markGoods_22 : decode cX5_markGoods 22 = .ok (.aload_n 0, 1) := by decide +kernel
theorem dX5_markGoods_23 : decode cX5_markGoods 23 = .ok (.iload_n 1, 1) := by decide +kernel
theorem dX5_markGoods_24 : decode cX5_markGoods 24 = .ok (.iconst 3, 1) := by decide +kernel
theorem dX5_markGoods_25 : decode cX5_markGoods 25 = .ok (.aload_n 0, 1) := by decide +kernel
theorem dX5_markGoods_26 : decode cX5_markGoods 26 = .ok (.iload_n 1, 1) := by decide +kernel
theorem dX5_markGoods_27 : decode cX5_markGoods 27 = .ok (.invokevirtual 110, 3) := by decide +kernel
theorem dX5_markGoods_30 : decode cX5_markGoods 30 = .ok (.invokevirtual 113, 3) := by decide +kernel
theorem dX5_markGoods_33 : decode cX5_markGoods 33 = .ok (.iconst (-1), 1) := by decide +kernel
theorem dX5_markGoods_34 : decode cX5_markGoods 34 = .ok (.if_icmp .eq 7, 3) := by decide +kernel
theorem dX5_markGoods_37 : decode cX5_markGoods 37 = .ok (.iconst 1, 1) := by decide +kernel
theorem dX5_markGoods_38 : decode cX5_markGoods 38 = .ok (.goto 4, 3) := by decide +kernel
theorem dX5_markGoods_41 : decode cX5_markGoods 41 = .ok (.iconst 0, 1) := by decide +kernel
theorem dX5_markGoods_42 : decode cX5_markGoods 42 = .ok (.bastore, 1) := by decide +kernel
theorem dX5_markGoods_43 : decode cX5_markGoods 43 = .ok (.iinc 1 1, 3) := by decide +kernel
theorem dX5_markGoods_46 : decode cX5_markGoods 46 = .ok (.goto (-44), 3) := by decide +kernel
theorem dX5_markGoods_49 : decode cX5_markGoods 49 = .ok (.return_, 1) := by decide +kernel
set_option maxRecDepth 20000 in
theorem ggX5_countOneLetterMore_J7_fill_53178 : GoodIn wsX5_countOneLetterMore wsJ7_fill_53178 := goodIn_r _ [11] (by decide +kernel) (by decide +kernel)
set_option maxRecDepth 20000 in
theorem gX5_countOneLetterMore_J7_fill_53178 : GoodIn wsX5_countOneLetterMore (va_wsS RX5 75 yJ7_fill_53178 wsJ7_fill_53178) := goodIn_app (goodIn_of _ (by decide +kernel)) ggX5_countOneLetterMore_J7_fill_53178
set_option maxRecDepth 20000 in
theorem ggX5_countOneLetterMore_X5_next : GoodIn wsX5_countOneLetterMore wsX5_next := goodIn_r _ [16, 17, 18, 19, 20, 15, 21, 2, 22, 23, 24, 25, 26, 27, 28, 29, 30, 31, 32, 33, 34, 35, 36, 37] (by decide +kernel) (by decide +kernel)
set_option maxRecDepth 20000 in
theorem gX5_countOneLetterMore_X5_next : GoodIn wsX5_countOneLetterMore (wsV RX5 142 RX5 yX5_next wsX5_next) := goodIn_app (goodIn_of _ (by decide +kernel)) ggX5_countOneLetterMore_X5_next
set_option maxRecDepth 20000 in
theorem ggX5_countOneLetterMore_X5_hasState : GoodIn wsX5_countOneLetterMore wsX5_hasState := goodIn_r _ [21, 2, 22, 23, 24, 25, 26, 27, 28, 29, 30, 31, 32, 33, 34, 35, 36, 37] (by decide +kernel) (by decide +kernel)
set_option maxRecDepth 20000 in
theorem gX5_countOneLetterMore_X5_hasState : GoodIn wsX5_countOneLetterMore (wsV RX5 96 RX5 yX5_hasState wsX5_hasState) := goodIn_app (goodIn_of _ (by decide +kernel)) ggX5_countOneLetterMore_X5_hasState
theorem dX5_countOneLetterMore_0 : decode cX5_countOneLetterMore 0 = .ok (.aload_n 0, 1) := by decide +kernel
theorem dX5_countOneLetterMore_1 : decode cX5_countOneLetterMore 1 = .ok (.getfield 50, 3) := by decide +kernel
theorem dX5_countOneLetterMore_4 : decode cX5_countOneLetterMore 4 = .ok (.iconst 0, 1) := by decide +kernel
theorem dX5_countOneLetterMore_5 : decode cX5_countOneLetterMore 5 = .ok (.invokestatic 75, 3) := by decide +kernel
theorem dX5_countOneLetterMore_8 : decode cX5_countOneLetterMore 8 = .ok (.iconst 0, 1) := by decide +kernel
theorem dX5_countOneLetterMore_9 : decode cX5_countOneLetterMore 9 = .ok (.istore_n 1, 1) := by decide +kernel
theorem dX5_countOneLetterMore_10 : decode cX5_countOneLetterMore 10 = .ok (.iload_n 1, 1) := by decide +kernel
theorem dX5_countOneLetterMore_11 : decode cX5_countOneLetterMore 11 = .ok (.aload_n 0, 1) := by decide +kernel
theorem dX5_countOneLetterMore_12 : decode cX5_countOneLetterMore 12 = .ok (.getfield 68, 3) := by decide +kernel
theorem dX5_countOneLetterMore_15 : decode cX5_countOneLetterMore 15 = .ok (.if_icmp .ge 59, 3) := by decide +kernel
theorem dX5_countOneLetterMore_18 : decode cX5_countOneLetterMore 18 = .ok (.iload_n 1, 1) := by decide +kernel
theorem dX5_countOneLetterMore_19 : decode cX5_countOneLetterMore 19 = .ok (.sipush 150, 3) := by decide +kernel
theorem dX5_countOneLetterMore_22 : decode cX5_countOneLetterMore 22 = .ok (.if_icmp .ge 52, 3) := by decide +kernel
theorem dX5_countOneLetterMore_25 : decode cX5_countOneLetterMore 25 = .ok (.iconst 0, 1) := by decide +kernel
theorem dX5_countOneLetterMore_26 : decode cX5_countOneLetterMore 26 = .ok (.istore_n 2, 1) := by decide +kernel
theorem dX5_countOneLetterMore_27 : decode cX5_countOneLetterMore 27 = .ok (.iload_n 2, 1) := by decide +kernel
theorem dX5_countOneLetterMore_28 : decode cX5_countOneLetterMore 28 = .ok (.iconst 2, 1) := by decide +kernel
theorem dX5_countOneLetterMore_29 : decode cX5_countOneLetterMore 29 = .ok (.if_icmp .ge 39, 3) := by decide +kernel
theorem dX5_countOneLetterMore_32 : decode cX5_countOneLetterMore 32 = .ok (.aload_n 0, 1) := by decide +kernel
theorem dX5_countOneLetterMore_33 : decode cX5_countOneLetterMore 33 = .ok (.iload_n 1, 1) := by decide +kernel
theorem dX5_countOneLetterMore_34 : decode cX5_countOneLetterMore 34 = .ok (.iload_n 2, 1) := by decide +kernel
theorem dX5_countOneLetterMore_35 : decode cX5_countOneLetterMore 35 = .ok (.invokevirtual 142, 3) := by decide +kernel
theorem dX5_countOneLetterMore_38 : decode cX5_countOneLetterMore 38 = .ok (.istore_n 3, 1) := by decide +kernel
theorem dX5_countOneLetterMore_39 : decode cX5_countOneLetterMore 39 = .ok (.aload_n 0, 1) := by decide +kernel
theorem dX5_countOneLetterMore_40 : decode cX5_countOneLetterMore 40 = .ok (.iload_n 3, 1) := by decide +kernel
theorem dX5_countOneLetterMore_41 : decode cX5_countOneLetterMore 41 = .ok (.invokevirtual 96, 3) := by decide +kernel
theorem dX5_countOneLetterMore_44 : decode cX5_countOneLetterMore 44 = .ok (.ifCond .eq 18, 3) := by decide +kernel
theorem dX5_countOneLetterMore_47 : decode cX5_countOneLetterMore 47 = .ok (.aload_n 0, 1) := by decide +kernel
theorem dX5_countOneLetterMore_48 : decode cX5_countOneLetterMore 48 = .ok (.getfield 50, 3) := by decide +kernel
theorem dX5_countOneLetterMore_51 : decode cX5_countOneLetterMore 51 = .ok (.iload_n 3, 1) := by decide +kernel
theorem dX5_countOneLetterMore_52 : decode cX5_countOneLetterMore 52 = .ok (.dup2, 1) := by decide +kernel
theorem dX5_countOneLetterMore_53 : decode cX5_countOneLetterMore 53 = .ok (.iaload, 1) := by decide +kernel
theorem dX5_countOneLetterMore_54 : decode cX5_countOneLetterMore 54 = .ok (.aload_n 0, 1) := by decide +kernel
theorem dX5_countOneLetterMore_55 : decode cX5_countOneLetterMore 55 = .ok (.getfield 47, 3) := by decide +kernel
theorem dX5_countOneLetterMore_58 : decode cX5_countOneLetterMore 58 = .ok (.iload_n 1, 1) := by decide +kernel
theorem dX5_countOneLetterMore_59 : decode cX5_countOneLetterMore 59 = .ok (.iaload, 1) := by decide +kernel
theorem dX5_countOneLetterMore_60 : decode cX5_countOneLetterMore 60 = .ok (.iadd, 1) := by decide +kernel
theorem dX5_countOneLetterMore_61 : decode cX5_countOneLetterMore 61 = .ok (.iastore, 1) := by decide +kernel
theorem dX5_countOneLetterMore_62 : decode cX5_countOneLetterMore 62 = .ok (.iinc 2 1, 3) := by decide +kernel
theorem dX5_countOneLetterMore_65 : decode cX5_countOneLetterMore 65 = .ok (.goto (-38), 3) := by decide +kernel
theorem dX5_countOneLetterMore_68 : decode cX5_countOneLetterMore 68 = .ok (.iinc 1 1, 3) := by decide +kernel
theorem dX5_countOneLetterMore_71 : decode cX5_countOneLetterMore 71 = .ok (.goto (-61), 3) := by decide +kernel
theorem dX5_countOneLetterMore_74 : decode cX5_countOneLetterMore 74 = .ok (.aload_n 0, 1) := by decide +kernel
theorem dX5_countOneLetterMore_75 : decode cX5_countOneLetterMore 75 = .ok (.getfield 50, 3) := by decide +kernel
theorem dX5_countOneLetterMore_78 : decode cX5_countOneLetterMore 78 = .ok (.iconst 0, 1) := by decide +kernel
theorem dX5_countOneLetterMore_79 : decode cX5_countOneLetterMore 79 = .ok (.aload_n 0, 1) := by decide +kernel
theorem dX5_countOneLetterMore_80 : decode cX5_countOneLetterMore 80 = .ok (.getfield 47, 3) := by decide +kernel
theorem dX5_countOneLetterMore_83 : decode cX5_countOneLetterMore 83 = .ok (.iconst 0, 1) := by decide +kernel
theorem dX5_countOneLetterMore_84 : decode cX5_countOneLetterMore 84 = .ok (.sipush 150, 3) := by decide +kernel
theorem dX5_countOneLetterMore_87 : decode cX5_countOneLetterMore 87 = .ok (.invokestatic 136, 3) := by decide +kernel
theorem dX5_countOneLetterMore_90 : decode cX5_countOneLetterMore 90 = .ok (.return_, 1) := by decide +kernel
theorem dX5_groupByGoodness_0 : decode cX5_groupByGoodness 0 = .ok (.iconst 0, 1) := by decide +kernel
theorem dX5_groupByGoodness_1 : decode cX5_groupByGoodness 1 = .ok (.istore_n 1, 1) := by decide +kernel
theorem dX5_groupByGoodness_2 : decode cX5_groupByGoodness 2 = .ok (.iload_n 1, 1) := by decide +kernel
theorem dX5_groupByGoodness_3 : decode cX5_groupByGoodness 3 = .ok (.aload_n 0, 1) := by decide +kernel
theorem dX5_groupByGoodness_4 : decode cX5_groupByGoodness 4 = .ok (.getfield 68, 3) := by decide +kernel
theorem dX5_groupByGoodness_7 : decode cX5_groupByGoodness 7 = .ok (.if_icmp .ge 36, 3) := by decide +kernel
theorem dX5_groupByGoodness_10 : decode cX5_groupByGoodness 10 = .ok (.iload_n 1, 1) := by decide +kernel
theorem dX5_groupByGoodness_11 : decode cX5_groupByGoodness 11 = .ok (.sipush 150, 3) := by decide +kernel
theorem dX5_groupByGoodness_14 : decode cX5_groupByGoodness 14 = .ok (.if_icmp .ge 29, 3) := by decide +kernel
theorem dX5_groupByGoodness_17 : decode cX5_groupByGoodness 17 = .ok (.aload_n 0, 1) := by decide +kernel
theorem dX5_groupByGoodness_18 : decode cX5_groupByGoodness 18 = .ok (.getfield 38, 3) := by decide +kernel
theorem dX5_groupByGoodness_21 : decode cX5_groupByGoodness 21 = .ok (.iload_n 1, 1) := by decide +kernel
theorem dX5_groupByGoodness_22 : decode cX5_groupByGoodness 22 = .ok (.aload_n 0, 1) := by decide +kernel
theorem dX5_groupByGoodness_23 : decode cX5_groupByGoodness 23 = .ok (.getfield 31, 3) := by decide +kernel
theorem dX5_groupByGoodness_26 : decode cX5_groupByGoodness 26 = .ok (.iload_n 1, 1) := by decide +kernel
theorem dX5_groupByGoodness_27 : decode cX5_groupByGoodness 27 = .ok (.baload, 1) := by decide +kernel
theorem dX5_groupByGoodness_28 : decode cX5_groupByGoodness 28 = .ok (.ifCond .eq 7, 3) := by decide +kernel
theorem dX5_groupByGoodness_31 : decode cX5_groupByGoodness 31 = .ok (.iconst 1, 1) := by decide +kernel
theorem dX5_groupByGoodness_32 : decode cX5_groupByGoodness 32 = .ok (.goto 4, 3) := by decide +kernel
theorem dX5_groupByGoodness_35 : decode cX5_groupByGoodness 35 = .ok (.iconst 0, 1) := by decide +kernel
theorem dX5_groupByGoodness_36 : decode cX5_groupByGoodness 36 = .ok (.iastore, 1) := by decide +kernel
theorem dX5_groupByGoodness_37 : decode cX5_groupByGoodness 37 = .ok (.iinc 1 1, 3) := by decide +kernel
theorem dX5_groupByGoodness_40 : decode cX5_groupByGoodness 40 = .ok (.goto (-38), 3) := by decide +kernel
theorem dX5_groupByGoodness_43 : decode cX5_groupByGoodness 43 = .ok (.return_, 1) := by decide +kernel
set_option maxRecDepth 20000 in
theorem ggX5_splitGroups_X5_groupAmong : GoodIn wsX5_splitGroups wsX5_groupAmong := goodIn_r _ [13, 2, 14, 15, 16, 12, 17, 18, 19, 20, 21, 4, 22, 23, 24, 25, 1, 26, 27, 28, 29, 30, 31, 32, 33, 34, 35, 36, 37, 38, 39, 40, 41, 42, 43, 44, 45, 46] (by decide +kernel) (by decide +kernel)
set_option maxRecDepth 20000 in
theorem gX5_splitGroups_X5_groupAmong : GoodIn wsX5_splitGroups (wsV RX5 145 RX5 yX5_groupAmong wsX5_groupAmong) := goodIn_app (goodIn_of _ (by decide +kernel)) ggX5_splitGroups_X5_groupAmong
theorem dX5_splitGroups_0 : decode cX5_splitGroups 0 = .ok (.iconst 0, 1) := by decide +kernel
theorem dX5_splitGroups_1 : decode cX5_splitGroups 1 = .ok (.istore_n 1, 1) := by decide +kernel
theorem dX5_splitGroups_2 : decode cX5_splitGroups 2 = .ok (.iconst 0, 1) := by decide +kernel
theorem dX5_splitGroups_3 : decode cX5_splitGroups 3 = .ok (.istore_n 2, 1) := by decide +kernel
theorem dX5_splitGroups_4 : decode cX5_splitGroups 4 = .ok (.iload_n 2, 1) := by decide +kernel
theorem dX5_splitGroups_5 : decode cX5_splitGroups 5 = .ok (.aload_n 0, 1) := by decide +kernel
theorem dX5_splitGroups_6 : decode cX5_splitGroups 6 = .ok (.getfield 68, 3) := by decide +kernel
theorem dX5_splitGroups_9 : decode cX5_splitGroups 9 = .ok (.if_icmp .ge 52, 3) := by decide +kernel
theorem dX5_splitGroups_12 : decode cX5_splitGroups 12 = .ok (.iload_n 2, 1) := by decide +kernel
theorem dX5_splitGroups_13 : decode cX5_splitGroups 13 = .ok (.sipush 150, 3) := by decide +kernel
theorem dX5_splitGroups_16 : decode cX5_splitGroups 16 = .ok (.if_icmp .ge 45, 3) := by decide +kernel
theorem dX5_splitGroups_19 : decode cX5_splitGroups 19 = .ok (.aload_n 0, 1) := by decide +kernel
theorem dX5_splitGroups_20 : decode cX5_splitGroups 20 = .ok (.iload_n 1, 1) := by decide +kernel
theorem dX5_splitGroups_21 : decode cX5_splitGroups 21 = .ok (.iload_n 2, 1) := by decide +kernel
theorem dX5_splitGroups_22 : decode cX5_splitGroups 22 = .ok (.invokevirtual 145, 3) := by decide +kernel
theorem dX5_splitGroups_25 : decode cX5_splitGroups 25 = .ok (.istore_n 3, 1) := by decide +kernel
theorem dX5_splitGroups_26 : decode cX5_splitGroups 26 = .ok (.iload_n 3, 1) := by decide +kernel
theorem dX5_splitGroups_27 : decode cX5_splitGroups 27 = .ok (.iload_n 1, 1) := by decide +kernel
theorem dX5_splitGroups_28 : decode cX5_splitGroups 28 = .ok (.if_icmp .ne 20, 3) := by decide +kernel
theorem dX5_splitGroups_31 : decode cX5_splitGroups 31 = .ok (.iload_n 1, 1) := by decide +kernel
theorem dX5_splitGroups_32 : decode cX5_splitGroups 32 = .ok (.sipush 150, 3) := by decide +kernel
theorem dX5_splitGroups_35 : decode cX5_splitGroups 35 = .ok (.if_icmp .ge 13, 3) := by decide +kernel
theorem dX5_splitGroups_38 : decode cX5_splitGroups 38 = .ok (.aload_n 0, 1) := by decide +kernel
theorem dX5_splitGroups_39 : decode cX5_splitGroups 39 = .ok (.getfield 44, 3) := by decide +kernel
theorem dX5_splitGroups_42 : decode cX5_splitGroups 42 = .ok (.iload_n 1, 1) := by decide +kernel
theorem dX5_splitGroups_43 : decode cX5_splitGroups 43 = .ok (.iload_n 2, 1) := by decide +kernel
theorem dX5_splitGroups_44 : decode cX5_splitGroups 44 = .ok (.iastore, 1) := by decide +kernel
theorem dX5_splitGroups_45 : decode cX5_splitGroups 45 = .ok (.iinc 1 1, 3) := by decide +kernel
theorem dX5_splitGroups_48 : decode cX5_splitGroups 48 = .ok (.aload_n 0, 1) := by decide +kernel
theorem dX5_splitGroups_49 : decode cX5_splitGroups 49 = .ok (.getfield 41, 3) := by decide +kernel
theorem dX5_splitGroups_52 : decode cX5_splitGroups 52 = .ok (.iload_n 2, 1) := by decide +kernel
theorem dX5_splitGroups_53 : decode cX5_splitGroups 53 = .ok (.iload_n 3, 1) := by decide +kernel
theorem dX5_splitGroups_54 : decode cX5_splitGroups 54 = .ok (.iastore, 1) := by decide +kernel
theorem dX5_splitGroups_55 : decode cX5_splitGroups 55 = .ok (.iinc 2 1, 3) := by decide +kernel
theorem dX5_splitGroups_58 : decode cX5_splitGroups 58 = .ok (.goto (-54), 3) := by decide +kernel
theorem dX5_splitGroups_61 : decode cX5_splitGroups 61 = .ok (.aload_n 0, 1) := by decide +kernel
theorem dX5_splitGroups_62 : decode cX5_splitGroups 62 = .ok (.getfield 41, 3) := by decide +kernel
theorem dX5_splitGroups_65 : decode cX5_splitGroups 65 = .ok (.iconst 0, 1) := by decide +kernel
theorem dX5_splitGroups_66 : decode cX5_splitGroups 66 = .ok (.aload_n 0, 1) := by decide +kernel
theorem dX5_splitGroups_67 : decode cX5_splitGroups 67 = .ok (.getfield 38, 3) := by decide +kernel
theorem dX5_splitGroups_70 : decode cX5_splitGroups 70 = .ok (.iconst 0, 1) := by decide +kernel
theorem dX5_splitGroups_71 : decode cX5_splitGroups 71 = .ok (.sipush 150, 3) := by decide +kernel
theorem dX5_splitGroups_74 : decode cX5_splitGroups 74 = .ok (.invokestatic 136, 3) := by decide +kernel
theorem dX5_splitGroups_77 : decode cX5_splitGroups 77 = .ok (.iload_n 1, 1) := by decide +kernel
theorem dX5_splitGroups_78 : decode cX5_splitGroups 78 = .ok (.ireturn, 1) := by decide +kernel
set_option maxRecDepth 20000 in
theorem ggX5_groupAmong_X5_goTogether : GoodIn wsX5_groupAmong wsX5_goTogether := goodIn_r _ [6, 7, 8, 9, 5, 10, 11, 12, 13, 14, 15, 16, 17, 18, 19, 20, 21, 22, 23, 24, 25, 26, 27, 28, 29, 30, 31, 32, 33, 34, 35, 36, 37] (by decide +kernel) (by decide +kernel)
set_option maxRecDepth 20000 in
theorem gX5_groupAmong_X5_goTogether : GoodIn wsX5_groupAmong (wsV RX5 148 RX5 yX5_goTogether wsX5_goTogether) := goodIn_app (goodIn_of _ (by decide +kernel)) ggX5_groupAmong_X5_goTogether
theorem dX5_groupAmong_0 : decode cX5_groupAmong 0 = .ok (.iconst 0, 1) := by decide +kernel
theorem dX5_groupAmong_1 : decode cX5_groupAmong 1 = .ok (.istore_n 3, 1) := by decide +kernel
theorem dX5_groupAmong_2 : decode cX5_groupAmong 2 = .ok (.iload_n 3, 1) := by decide +kernel
theorem dX5_groupAmong_3 : decode cX5_groupAmong 3 = .ok (.iload_n 1, 1) := by decide +kernel
theorem dX5_groupAmong_4 : decode cX5_groupAmong 4 = .ok (.if_icmp .ge 32, 3) := by decide +kernel
theorem dX5_groupAmong_7 : decode cX5_groupAmong 7 = .ok (.iload_n 3, 1) := by decide +kernel
theorem dX5_groupAmong_8 : decode cX5_groupAmong 8 = .ok (.sipush 150, 3) := by decide +kernel
theorem dX5_groupAmong_11 : decode cX5_groupAmong 11 = .ok (.if_icmp .ge 25, 3) := by decide +kernel
theorem dX5_groupAmong_14 : decode cX5_groupAmong 14 = .ok (.aload_n 0, 1) := by decide +kernel
theorem dX5_groupAmong_15 : decode cX5_groupAmong 15 = .ok (.aload_n 0, 1) := by decide +kernel
theorem dX5_groupAmong_16 : decode cX5_groupAmong 16 = .ok (.getfield 44, 3) := by decide +kernel
theorem dX5_groupAmong_19 : decode cX5_groupAmong 19 = .ok (.iload_n 3, 1) := by decide +kernel
theorem dX5_groupAmong_20 : decode cX5_groupAmong 20 = .ok (.iaload, 1) := by decide +kernel
theorem dX5_groupAmong_21 : decode cX5_groupAmong 21 = .ok (.iload_n 2, 1) := by decide +kernel
theorem dX5_groupAmong_22 : decode cX5_groupAmong 22 = .ok (.invokevirtual 148, 3) := by decide +kernel
theorem dX5_groupAmong_25 : decode cX5_groupAmong 25 = .ok (.ifCond .eq 5, 3) := by decide +kernel
theorem dX5_groupAmong_28 : decode cX5_groupAmong 28 = .ok (.iload_n 3, 1) := by decide +kernel
theorem dX5_groupAmong_29 : decode cX5_groupAmong 29 = .ok (.ireturn, 1) := by decide +kernel
theorem dX5_groupAmong_30 : decode cX5_groupAmong 30 = .ok (.iinc 3 1, 3) := by decide +kernel
theorem dX5_groupAmong_33 : decode cX5_groupAmong 33 = .ok (.goto (-31), 3) := by decide +kernel
theorem dX5_groupAmong_36 : decode cX5_groupAmong 36 = .ok (.iload_n 1, 1) := by decide +kernel
theorem dX5_groupAmong_37 : decode cX5_groupAmong 37 = .ok (.ireturn, 1) := by decide +kernel
set_option maxRecDepth 20000 in
theorem ggX5_goTogether_X5_groupOf : GoodIn wsX5_goTogether wsX5_groupOf := goodIn_r _ [5, 6, 7, 8, 9, 4, 10, 11, 17, 18, 19, 20, 21, 22, 23, 24, 25, 26, 27, 28, 29, 30, 31, 32] (by decide +kernel) (by decide +kernel)
set_option maxRecDepth 20000 in
theorem gX5_goTogether_X5_groupOf : GoodIn wsX5_goTogether (wsV RX5 152 RX5 yX5_groupOf wsX5_groupOf) := goodIn_app (goodIn_of _ (by decide +kernel)) ggX5_goTogether_X5_groupOf
set_option maxRecDepth 20000 in
theorem ggX5_goTogether_X5_next : GoodIn wsX5_goTogether wsX5_next := goodIn_r _ [15, 16, 7, 8, 9, 4, 10, 11, 17, 18, 19, 20, 21, 22, 23, 24, 25, 26, 27, 28, 29, 30, 31, 32] (by decide +kernel) (by decide +kernel)
set_option maxRecDepth 20000 in
theorem gX5_goTogether_X5_next : GoodIn wsX5_goTogether (wsV RX5 142 RX5 yX5_next wsX5_next) := goodIn_app (goodIn_of _ (by decide +kernel)) ggX5_goTogether_X5_next
theorem dX5_goTogether_0 : decode cX5_goTogether 0 = .ok (.aload_n 0, 1) := by decide +kernel
theorem dX5_goTogether_1 : decode cX5_goTogether 1 = .ok (.iload_n 1, 1) := by decide +kernel
theorem dX5_goTogether_2 : decode cX5_goTogether 2 = .ok (.invokevirtual 152, 3) := by decide +kernel
theorem dX5_goTogether_5 : decode cX5_goTogether 5 = .ok (.aload_n 0, 1) := by decide +kernel
theorem dX5_goTogether_6 : decode cX5_goTogether 6 = .ok (.iload_n 2, 1) := by decide +kernel
theorem dX5_goTogether_7 : decode cX5_goTogether 7 = .ok (.invokevirtual 152, 3) := by decide +kernel
theorem dX5_goTogether_10 : decode cX5_goTogether 10 = .ok (.if_icmp .ne 53, 3) := by decide +kernel
theorem dX5_goTogether_13 : decode cX5_goTogether 13 = .ok (.aload_n 0, 1) := by decide +kernel
theorem dX5_goTogether_14 : decode cX5_goTogether 14 = .ok (.aload_n 0, 1) := by decide +kernel
theorem dX5_goTogether_15 : decode cX5_goTogether 15 = .ok (.iload_n 1, 1) := by decide +kernel
theorem dX5_goTogether_16 : decode cX5_goTogether 16 = .ok (.iconst 0, 1) := by decide +kernel
theorem dX5_goTogether_17 : decode cX5_goTogether 17 = .ok (.invokevirtual 142, 3) := by decide +kernel
theorem dX5_goTogether_20 : decode cX5_goTogether 20 = .ok (.invokevirtual 152, 3) := by decide +kernel
theorem dX5_goTogether_23 : decode cX5_goTogether 23 = .ok (.aload_n 0, 1) := by decide +kernel
theorem dX5_goTogether_24 : decode cX5_goTogether 24 = .ok (.aload_n 0, 1) := by decide +kernel
theorem dX5_goTogether_25 : decode cX5_goTogether 25 = .ok (.iload_n 2, 1) := by decide +kernel
theorem dX5_goTogether_26 : decode cX5_goTogether 26 = .ok (.iconst 0, 1) := by decide +kernel
theorem dX5_goTogether_27 : decode cX5_goTogether 27 = .ok (.invokevirtual 142, 3) := by decide +kernel
theorem dX5_goTogether_30 : decode cX5_goTogether 30 = .ok (.invokevirtual 152, 3) := by decide +kernel
theorem dX5_goTogether_33 : decode cX5_goTogether 33 = .ok (.if_icmp .ne 30, 3) := by decide +kernel
theorem dX5_goTogether_36 : decode cX5_goTogether 36 = .ok (.aload_n 0, 1) := by decide +kernel
theorem dX5_goTogether_37 : decode cX5_goTogether 37 = .ok (.aload_n 0, 1) := by decide +kernel
theorem dX5_goTogether_38 : decode cX5_goTogether 38 = .ok (.iload_n 1, 1) := by decide +kernel
theorem dX5_goTogether_39 : decode cX5_goTogether 39 = .ok (.iconst 1, 1) := by decide +kernel
theorem dX5_goTogether_40 : decode cX5_goTogether 40 = .ok (.invokevirtual 142, 3) := by decide +kernel
theorem dX5_goTogether_43 : decode cX5_goTogether 43 = .ok (.invokevirtual 152, 3) := by decide +kernel
theorem dX5_goTogether_46 : decode cX5_goTogether 46 = .ok (.aload_n 0, 1) := by decide +kernel
theorem dX5_goTogether_47 : decode cX5_goTogether 47 = .ok (.aload_n 0, 1) := by decide +kernel
theorem dX5_goTogether_48 : decode cX5_goTogether 48 = .ok (.iload_n 2, 1) := by decide +kernel
theorem dX5_goTogether_49 : decode cX5_goTogether 49 = .ok (.iconst 1, 1) := by decide +kernel
theorem dX5_goTogether_50 : decode cX5_goTogether 50 = .ok (.invokevirtual 142, 3) := by decide +kernel
theorem dX5_goTogether_53 : decode cX5_goTogether 53 = .ok (.invokevirtual 152, 3) := by decide +kernel
theorem dX5_goTogether_56 : decode cX5_goTogether 56 = .ok (.if_icmp .ne 7, 3) := by decide +kernel
theorem dX5_goTogether_59 : decode cX5_goTogether 59 = .ok (.iconst 1, 1) := by decide +kernel
theorem dX5_goTogether_60 : decode cX5_goTogether 60 = .ok (.goto 4, 3) := by decide +kernel
theorem dX5_goTogether_63 : decode cX5_goTogether 63 = .ok (.iconst 0, 1) := by decide +kernel
theorem dX5_goTogether_64 : decode cX5_goTogether 64 = .ok (.ireturn, 1) := by decide +kernel
set_option maxRecDepth 20000 in
theorem ggX5_groupOf_X5_hasState : GoodIn wsX5_groupOf wsX5_hasState := goodIn_r _ [6, 7, 8, 9, 10, 11, 12, 13, 14, 15, 16, 17, 18, 19, 20, 21, 22, 23] (by decide +kernel) (by decide +kernel)
set_option maxRecDepth 20000 in
theorem gX5_groupOf_X5_hasState : GoodIn wsX5_groupOf (wsV RX5 96 RX5 yX5_hasState wsX5_hasState) := goodIn_app (goodIn_of _ (by decide +kernel)) ggX5_groupOf_X5_hasState
theorem dX5_groupOf_0 : decode cX5_groupOf 0 = .ok (.aload_n 0, 1) := by decide +kernel
theorem dX5_groupOf_1 : decode cX5_groupOf 1 = .ok (.iload_n 1, 1) := by decide +kernel
theorem dX5_groupOf_2 : decode cX5_groupOf 2 = .ok (.invokevirtual 96, 3) := by decide +kernel
theorem dX5_groupOf_5 : decode cX5_groupOf 5 = .ok (.ifCond .eq 12, 3) := by decide +kernel
theorem dX5_groupOf_8 : decode cX5_groupOf 8 = .ok (.aload_n 0, 1) := by decide +kernel
theorem dX5_groupOf_9 : decode cX5_groupOf 9 = .ok (.getfield 38, 3) := by decide +kernel
theorem dX5_groupOf_12 : decode cX5_groupOf 12 = .ok (.iload_n 1, 1) := by decide +kernel
theorem dX5_groupOf_13 : decode cX5_groupOf 13 = .ok (.iaload, 1) := by decide +kernel
theorem dX5_groupOf_14 : decode cX5_groupOf 14 = .ok (.goto 4, 3) := by decide +kernel
theorem dX5_groupOf_17 : decode cX5_groupOf 17 = .ok (.iconst (-1), 1) := by decide +kernel
theorem dX5_groupOf_18 : decode cX5_groupOf 18 = .ok (.ireturn, 1) := by decide +kernel
theorem dX6_init_0 : decode cX6_init 0 = .ok (.aload_n 0, 1) := by decide +kernel
theorem dX6_init_1 : decode cX6_init 1 = .ok (.invokespecial 3, 3) := by decide +kernel
theorem dX6_init_4 : decode cX6_init 4 = .ok (.aload_n 0, 1) := by decide +kernel
theorem dX6_init_5 : decode cX6_init 5 = .ok (.sipush 240, 3) := by decide +kernel
theorem dX6_init_8 : decode cX6_init 8 = .ok (.newarray .int, 2) := by decide +kernel
theorem dX6_init_10 : decode cX6_init 10 = .ok (.putfield 9, 3) := by decide +kernel
theorem dX6_init_13 : decode cX6_init 13 = .ok (.return_, 1) := by decide +kernel
theorem dX6_length_0 : decode cX6_length 0 = .ok (.aload_n 0, 1) := by decide +kernel
theorem dX6_length_1 : decode cX6_length 1 = .ok (.getfield 15, 3) := by decide +kernel
theorem dX6_length_4 : decode cX6_length 4 = .ok (.ireturn, 1) := by decide +kernel
theorem dX6_place_0 : decode cX6_place 0 = .ok (.aload_n 0, 1) := by decide +kernel
theorem dX6_place_1 : decode cX6_place 1 = .ok (.getfield 19, 3) := by decide +kernel
theorem dX6_place_4 : decode cX6_place 4 = .ok (.ireturn, 1) := by decide +kernel
theorem dX6_add_0 : decode cX6_add 0 = .ok (.aload_n 0, 1) := by decide +kernel
theorem dX6_add_1 : decode cX6_add 1 = .ok (.getfield 15, 3) := by decide +kernel
theorem dX6_add_4 : decode cX6_add 4 = .ok (.ifCond .lt 13, 3) := by decide +kernel
theorem dX6_add_7 : decode cX6_add 7 = .ok (.aload_n 0, 1) := by decide +kernel
theorem dX6_add_8 : decode cX6_add 8 = .ok (.getfield 15, 3) := by decide +kernel
theorem dX6_add_11 : decode cX6_add 11 = .ok (.sipush 240, 3) := by decide +kernel
theorem dX6_add_14 : decode cX6_add 14 = .ok (.if_icmp .lt 5, 3) := by decide +kernel
theorem dX6_add_17 : decode cX6_add 17 = .ok (.iconst 0, 1) := by decide +kernel
theorem dX6_add_18 : decode cX6_add 18 = .ok (.ireturn, 1) := by decide +kernel
theorem dX6_add_19 : decode cX6_add 19 = .ok (.aload_n 0, 1) := by decide +kernel
theorem dX6_add_20 : decode cX6_add 20 = .ok (.getfield 9, 3) := by decide +kernel
theorem dX6_add_23 : decode cX6_add 23 = .ok (.aload_n 0, 1) := by decide +kernel
theorem dX6_add_24 : decode cX6_add 24 = .ok (.getfield 15, 3) := by decide +kernel
theorem dX6_add_27 : decode cX6_add 27 = .ok (.iload_n 1, 1) := by decide +kernel
theorem dX6_add_28 : decode cX6_add 28 = .ok (.iastore, 1) := by decide +kernel
theorem dX6_add_29 : decode cX6_add 29 = .ok (.aload_n 0, 1) := by decide +kernel
theorem dX6_add_30 : decode cX6_add 30 = .ok (.dup, 1) := by decide +kernel
theorem dX6_add_31 : decode cX6_add 31 = .ok (.getfield 15, 3) := by decide +kernel
theorem dX6_add_34 : decode cX6_add 34 = .ok (.iconst 1, 1) := by decide +kernel
theorem dX6_add_35 : decode cX6_add 35 = .ok (.iadd, 1) := by decide +kernel
theorem dX6_add_36 : decode cX6_add 36 = .ok (.putfield 15, 3) := by decide +kernel
theorem dX6_add_39 : decode cX6_add 39 = .ok (.iconst 1, 1) := by decide +kernel
theorem dX6_add_40 : decode cX6_add 40 = .ok (.ireturn, 1) := by decide +kernel
theorem dX6_clear_0 : decode cX6_clear 0 = .ok (.aload_n 0, 1) := by decide +kernel
theorem dX6_clear_1 : decode cX6_clear 1 = .ok (.iconst 0, 1) := by decide +kernel
theorem dX6_clear_2 : decode cX6_clear 2 = .ok (.putfield 15, 3) := by decide +kernel
theorem dX6_clear_5 : decode cX6_clear 5 = .ok (.return_, 1) := by decide +kernel
set_option maxRecDepth 20000 in
theorem ggX6_readInto_X3_empty : GoodIn wsX6_readInto wsX3_empty := goodIn_r _ [7, 8, 9, 10, 11, 12, 13, 14, 15, 16, 17, 18, 19, 20, 86, 87, 88] (by decide +kernel) (by decide +kernel)
set_option maxRecDepth 20000 in
theorem gX6_readInto_X3_empty : GoodIn wsX6_readInto (wsV RX6 25 RX3 yX3_empty wsX3_empty) := goodIn_app (goodIn_of _ (by decide +kernel)) ggX6_readInto_X3_empty
set_option maxRecDepth 20000 in
theorem ggX6_readInto_X6_upcoming : GoodIn wsX6_readInto wsX6_upcoming := goodIn_r _ [25, 1, 26, 27, 82, 83, 84, 85] (by decide +kernel) (by decide +kernel)
set_option maxRecDepth 20000 in
theorem gX6_readInto_X6_upcoming : GoodIn wsX6_readInto (wsV RX6 31 RX6 yX6_upcoming wsX6_upcoming) := goodIn_app (goodIn_of _ (by decide +kernel)) ggX6_readInto_X6_upcoming
set_option maxRecDepth 20000 in
theorem ggX6_readInto_X6_readSize : GoodIn wsX6_readInto wsX6_readSize := goodIn_r _ [31, 2, 32, 33, 34, 24, 35, 21, 22, 23, 25, 1, 26, 27, 36, 37, 38, 39, 40, 41, 42, 43, 44, 45, 46, 47, 3, 4, 5, 6, 7, 8, 9, 10, 11, 12, 13, 14, 15, 16, 17, 18, 19, 20, 82, 83, 84, 85, 86, 87, 88] (by decide +kernel) (by decide +kernel)
set_option maxRecDepth 20000 in
theorem gX6_readInto_X6_readSize : GoodIn wsX6_readInto (wsV RX6 35 RX6 yX6_readSize wsX6_readSize) := goodIn_app (goodIn_of _ (by decide +kernel)) ggX6_readInto_X6_readSize
set_option maxRecDepth 20000 in
theorem ggX6_readInto_X6_readMove : GoodIn wsX6_readInto wsX6_readMove := goodIn_r _ [51, 2, 21, 22, 23, 24, 25, 1, 26, 27, 40, 41, 42, 43, 32, 33, 34, 35, 36, 37, 38, 39, 52, 53, 54, 6, 55, 15, 44, 45, 46, 47, 56, 57, 58, 59, 60, 61, 62, 63, 64, 65, 66, 16, 67, 68, 69, 70, 71, 72, 73, 74, 75, 76, 77, 78, 79, 80, 81, 82, 83, 84, 85, 86, 87, 88] (by decide +kernel) (by decide +kernel)
set_option maxRecDepth 20000 in
theorem gX6_readInto_X6_readMove : GoodIn wsX6_readInto (wsV RX6 39 RX6 yX6_readMove wsX6_readMove) := goodIn_app (goodIn_of _ (by decide +kernel)) ggX6_readInto_X6_readMove
theorem dX6_readInto_0 : decode cX6_readInto 0 = .ok (.aload_n 0, 1) := by decide +kernel
theorem dX6_readInto_1 : decode cX6_readInto 1 = .ok (.iconst 0, 1) := by decide +kernel
theorem dX6_readInto_2 : decode cX6_readInto 2 = .ok (.putfield 19, 3) := by decide +kernel
theorem dX6_readInto_5 : decode cX6_readInto 5 = .ok (.aload_n 0, 1) := by decide +kernel
theorem dX6_readInto_6 : decode cX6_readInto 6 = .ok (.iconst 0, 1) := by decide +kernel
theorem dX6_readInto_7 : decode cX6_readInto 7 = .ok (.putfield 22, 3) := by decide +kernel
theorem dX6_readInto_10 : decode cX6_readInto 10 = .ok (.aload_n 1, 1) := by decide +kernel
theorem dX6_readInto_11 : decode cX6_readInto 11 = .ok (.iconst 1, 1) := by decide +kernel
theorem dX6_readInto_12 : decode cX6_readInto 12 = .ok (.invokevirtual 25, 3) := by decide +kernel
theorem dX6_readInto_15 : decode cX6_readInto 15 = .ok (.aload_n 0, 1) := by decide +kernel
theorem dX6_readInto_16 : decode cX6_readInto 16 = .ok (.invokevirtual 31, 3) := by decide +kernel
theorem dX6_readInto_19 : decode cX6_readInto 19 = .ok (.iconst (-1), 1) := by decide +kernel
theorem dX6_readInto_20 : decode cX6_readInto 20 = .ok (.if_icmp .eq 8, 3) := by decide +kernel
theorem dX6_readInto_23 : decode cX6_readInto 23 = .ok (.aload_n 0, 1) := by decide +kernel
theorem dX6_readInto_24 : decode cX6_readInto 24 = .ok (.aload_n 1, 1) := by decide +kernel
theorem dX6_readInto_25 : decode cX6_readInto 25 = .ok (.invokevirtual 35, 3) := by decide +kernel
theorem dX6_readInto_28 : decode cX6_readInto 28 = .ok (.iconst 0, 1) := by decide +kernel
theorem dX6_readInto_29 : decode cX6_readInto 29 = .ok (.istore_n 2, 1) := by decide +kernel
theorem dX6_readInto_30 : decode cX6_readInto 30 = .ok (.iload_n 2, 1) := by decide +kernel
theorem dX6_readInto_31 : decode cX6_readInto 31 = .ok (.sipush 240, 3) := by decide +kernel
theorem dX6_readInto_34 : decode cX6_readInto 34 = .ok (.if_icmp .ge 29, 3) := by decide +kernel
theorem dX6_readInto_37 : decode cX6_readInto 37 = .ok (.aload_n 0, 1) := by decide +kernel
theorem dX6_readInto_38 : decode cX6_readInto 38 = .ok (.getfield 22, 3) := by decide +kernel
theorem dX6_readInto_41 : decode cX6_readInto 41 = .ok (.ifCond .ne 22, 3) := by decide +kernel
theorem dX6_readInto_44 : decode cX6_readInto 44 = .ok (.aload_n 0, 1) := by decide +kernel
theorem dX6_readInto_45 : decode cX6_readInto 45 = .ok (.invokevirtual 31, 3) := by decide +kernel
theorem dX6_readInto_48 : decode cX6_readInto 48 = .ok (.iconst (-1), 1) := by decide +kernel
theorem dX6_readInto_49 : decode cX6_readInto 49 = .ok (.if_icmp .eq 14, 3) := by decide +kernel
theorem dX6_readInto_52 : decode cX6_readInto 52 = .ok (.aload_n 0, 1) := by decide +kernel
theorem dX6_readInto_53 : decode cX6_readInto 53 = .ok (.aload_n 1, 1) := by decide +kernel
theorem dX6_readInto_54 : decode cX6_readInto 54 = .ok (.invokevirtual 39, 3) := by decide +kernel
theorem dX6_readInto_57 : decode cX6_readInto 57 = .ok (.iinc 2 1, 3) := by decide +kernel
theorem dX6_readInto_60 : decode cX6_readInto 60 = .ok (.goto (-30), 3) := by decide +kernel
theorem dX6_readInto_63 : decode cX6_readInto 63 = .ok (.aload_n 0, 1) := by decide +kernel
theorem dX6_readInto_64 : decode cX6_readInto 64 = .ok (.getfield 22, 3) := by decide +kernel
theorem dX6_readInto_67 : decode cX6_readInto 67 = .ok (.ireturn, 1) := by decide +kernel
set_option maxRecDepth 20000 in
theorem ggX6_readSize_X6_takeLetter : GoodIn wsX6_readSize wsX6_takeLetter := goodIn_r _ [6, 7, 8, 9, 5, 10, 11, 12, 13, 14, 15, 16, 17, 1, 18, 19, 20, 21, 44, 45, 46, 47] (by decide +kernel) (by decide +kernel)
set_option maxRecDepth 20000 in
theorem gX6_readSize_X6_takeLetter : GoodIn wsX6_readSize (wsV RX6 42 RX6 yX6_takeLetter wsX6_takeLetter) := goodIn_app (goodIn_of _ (by decide +kernel)) ggX6_readSize_X6_takeLetter
set_option maxRecDepth 20000 in
theorem ggX6_readSize_X6_takeFigure : GoodIn wsX6_readSize wsX6_takeFigure := goodIn_r _ [25, 7, 8, 9, 5, 10, 11, 12, 13, 18, 19, 20, 21, 1, 14, 15, 16, 17, 44, 45, 46, 47] (by decide +kernel) (by decide +kernel)
set_option maxRecDepth 20000 in
theorem gX6_readSize_X6_takeFigure : GoodIn wsX6_readSize (wsV RX6 45 RX6 yX6_takeFigure wsX6_takeFigure) := goodIn_app (goodIn_of _ (by decide +kernel)) ggX6_readSize_X6_takeFigure
set_option maxRecDepth 20000 in
theorem ggX6_readSize_X3_empty : GoodIn wsX6_readSize wsX3_empty := goodIn_r _ [30, 31, 32, 33, 34, 35, 36, 37, 38, 39, 40, 41, 42, 43, 48, 49, 50] (by decide +kernel) (by decide +kernel)
set_option maxRecDepth 20000 in
theorem gX6_readSize_X3_empty : GoodIn wsX6_readSize (wsV RX6 25 RX3 yX3_empty wsX3_empty) := goodIn_app (goodIn_of _ (by decide +kernel)) ggX6_readSize_X3_empty
theorem dX6_readSize_0 : decode cX6_readSize 0 = .ok (.aload_n 0, 1) := by decide +kernel
theorem dX6_readSize_1 : decode cX6_readSize 1 = .ok (.bipush 113, 2) := by decide +kernel
theorem dX6_readSize_3 : decode cX6_readSize 3 = .ok (.invokevirtual 42, 3) := by decide +kernel
theorem dX6_readSize_6 : decode cX6_readSize 6 = .ok (.aload_n 0, 1) := by decide +kernel
theorem dX6_readSize_7 : decode cX6_readSize 7 = .ok (.iconst 1, 1) := by decide +kernel
theorem dX6_readSize_8 : decode cX6_readSize 8 = .ok (.iconst 4, 1) := by decide +kernel
theorem dX6_readSize_9 : decode cX6_readSize 9 = .ok (.invokevirtual 45, 3) := by decide +kernel
theorem dX6_readSize_12 : decode cX6_readSize 12 = .ok (.istore_n 2, 1) := by decide +kernel
theorem dX6_readSize_13 : decode cX6_readSize 13 = .ok (.aload_n 0, 1) := by decide +kernel
theorem dX6_readSize_14 : decode cX6_readSize 14 = .ok (.bipush 59, 2) := by decide +kernel
theorem dX6_readSize_16 : decode cX6_readSize 16 = .ok (.invokevirtual 42, 3) := by decide +kernel
theorem dX6_readSize_19 : decode cX6_readSize 19 = .ok (.aload_n 0, 1) := by decide +kernel
theorem dX6_readSize_20 : decode cX6_readSize 20 = .ok (.getfield 22, 3) := by decide +kernel
theorem dX6_readSize_23 : decode cX6_readSize 23 = .ok (.ifCond .ne 8, 3) := by decide +kernel
theorem dX6_readSize_26 : decode cX6_readSize 26 = .ok (.aload_n 1, 1) := by decide +kernel
theorem dX6_readSize_27 : decode cX6_readSize 27 = .ok (.iload_n 2, 1) := by decide +kernel
theorem dX6_readSize_28 : decode cX6_readSize 28 = .ok (.invokevirtual 25, 3) := by decide +kernel
theorem dX6_readSize_31 : decode cX6_readSize 31 = .ok (.return_, 1) := by decide +kernel
set_option maxRecDepth 20000 in
theorem ggX6_readMove_X6_upcoming : GoodIn wsX6_readMove wsX6_upcoming := goodIn_r _ [6, 7, 8, 9, 59, 60, 61, 62] (by decide +kernel) (by decide +kernel)
set_option maxRecDepth 20000 in
theorem gX6_readMove_X6_upcoming : GoodIn wsX6_readMove (wsV RX6 31 RX6 yX6_upcoming wsX6_upcoming) := goodIn_app (goodIn_of _ (by decide +kernel)) ggX6_readMove_X6_upcoming
set_option maxRecDepth 20000 in
theorem ggX6_readMove_X6_blame : GoodIn wsX6_readMove wsX6_blame := goodIn_r _ [13, 1, 59, 60, 61, 62] (by decide +kernel) (by decide +kernel)
set_option maxRecDepth 20000 in
theorem gX6_readMove_X6_blame : GoodIn wsX6_readMove (wsV RX6 49 RX6 yX6_blame wsX6_blame) := goodIn_app (goodIn_of _ (by decide +kernel)) ggX6_readMove_X6_blame
set_option maxRecDepth 20000 in
theorem ggX6_readMove_X6_takeLetter : GoodIn wsX6_readMove wsX6_takeLetter := goodIn_r _ [17, 2, 3, 4, 5, 6, 7, 8, 9, 18, 19, 20, 21, 1, 10, 11, 12, 13, 59, 60, 61, 62] (by decide +kernel) (by decide +kernel)
set_option maxRecDepth 20000 in
theorem gX6_readMove_X6_takeLetter : GoodIn wsX6_readMove (wsV RX6 42 RX6 yX6_takeLetter wsX6_takeLetter) := goodIn_app (goodIn_of _ (by decide +kernel)) ggX6_readMove_X6_takeLetter
set_option maxRecDepth 20000 in
theorem ggX6_readMove_X3_size : GoodIn wsX6_readMove wsX3_size := goodIn_r _ [26, 27, 63, 64, 65] (by decide +kernel) (by decide +kernel)
set_option maxRecDepth 20000 in
theorem gX6_readMove_X3_size : GoodIn wsX6_readMove (wsV RX6 52 RX3 yX3_size wsX3_size) := goodIn_app (goodIn_of _ (by decide +kernel)) ggX6_readMove_X3_size
set_option maxRecDepth 20000 in
theorem ggX6_readMove_X6_takeFigure : GoodIn wsX6_readMove wsX6_takeFigure := goodIn_r _ [31, 2, 3, 4, 5, 6, 7, 8, 9, 10, 11, 12, 13, 1, 18, 19, 20, 21, 59, 60, 61, 62] (by decide +kernel) (by decide +kernel)
set_option maxRecDepth 20000 in
theorem gX6_readMove_X6_takeFigure : GoodIn wsX6_readMove (wsV RX6 45 RX6 yX6_takeFigure wsX6_takeFigure) := goodIn_app (goodIn_of _ (by decide +kernel)) ggX6_readMove_X6_takeFigure
set_option maxRecDepth 20000 in
theorem ggX6_readMove_X6_takeSign : GoodIn wsX6_readMove wsX6_takeSign := goodIn_r _ [35, 2, 3, 4, 5, 6, 7, 8, 9, 36, 37, 38, 39, 40, 41, 25, 42, 27, 43, 44, 45, 46, 10, 11, 12, 13, 1, 18, 19, 20, 21, 59, 60, 61, 62, 63, 64, 65] (by decide +kernel) (by decide +kernel)
set_option maxRecDepth 20000 in
theorem gX6_readMove_X6_takeSign : GoodIn wsX6_readMove (wsV RX6 55 RX6 yX6_takeSign wsX6_takeSign) := goodIn_app (goodIn_of _ (by decide +kernel)) ggX6_readMove_X6_takeSign
set_option maxRecDepth 20000 in
theorem ggX6_readMove_X6_takeSide : GoodIn wsX6_readMove wsX6_takeSide := goodIn_r _ [50, 2, 3, 4, 5, 6, 7, 8, 9, 18, 19, 20, 21, 1, 10, 11, 12, 13, 59, 60, 61, 62] (by decide +kernel) (by decide +kernel)
set_option maxRecDepth 20000 in
theorem gX6_readMove_X6_takeSide : GoodIn wsX6_readMove (wsV RX6 59 RX6 yX6_takeSide wsX6_takeSide) := goodIn_app (goodIn_of _ (by decide +kernel)) ggX6_readMove_X6_takeSide
set_option maxRecDepth 20000 in
theorem ggX6_readMove_X3_put : GoodIn wsX6_readMove wsX3_put := goodIn_r _ [54, 43, 55, 56, 57, 25, 58, 27, 44, 45, 46, 63, 64, 65] (by decide +kernel) (by decide +kernel)
set_option maxRecDepth 20000 in
theorem gX6_readMove_X3_put : GoodIn wsX6_readMove (wsV RX6 62 RX3 yX3_put wsX3_put) := goodIn_app (goodIn_of _ (by decide +kernel)) ggX6_readMove_X3_put
theorem dX6_readMove_0 : decode cX6_readMove 0 = .ok (.aload_n 0, 1) := by decide +kernel
theorem dX6_readMove_1 : decode cX6_readMove 1 = .ok (.invokevirtual 31, 3) := by decide +kernel
theorem dX6_readMove_4 : decode cX6_readMove 4 = .ok (.bipush 113, 2) := by decide +kernel
theorem dX6_readMove_6 : decode cX6_readMove 6 = .ok (.if_icmp .ne 8, 3) := by decide +kernel
theorem dX6_readMove_9 : decode cX6_readMove 9 = .ok (.aload_n 0, 1) := by decide +kernel
theorem dX6_readMove_10 : decode cX6_readMove 10 = .ok (.iconst 3, 1) := by decide +kernel
theorem dX6_readMove_11 : decode cX6_readMove 11 = .ok (.invokevirtual 49, 3) := by decide +kernel
theorem dX6_readMove_14 : decode cX6_readMove 14 = .ok (.aload_n 0, 1) := by decide +kernel
theorem dX6_readMove_15 : decode cX6_readMove 15 = .ok (.bipush 109, 2) := by decide +kernel
theorem dX6_readMove_17 : decode cX6_readMove 17 = .ok (.invokevirtual 42, 3) := by decide +kernel
theorem dX6_readMove_20 : decode cX6_readMove 20 = .ok (.aload_n 0, 1) := by decide +kernel
theorem dX6_readMove_21 : decode cX6_readMove 21 = .ok (.iconst 0, 1) := by decide +kernel
theorem dX6_readMove_22 : decode cX6_readMove 22 = .ok (.aload_n 1, 1) := by decide +kernel
theorem dX6_readMove_23 : decode cX6_readMove 23 = .ok (.invokevirtual 52, 3) := by decide +kernel
theorem dX6_readMove_26 : decode cX6_readMove 26 = .ok (.iconst 1, 1) := by decide +kernel
theorem dX6_readMove_27 : decode cX6_readMove 27 = .ok (.isub, 1) := by decide +kernel
theorem dX6_readMove_28 : decode cX6_readMove 28 = .ok (.invokevirtual 45, 3) := by decide +kernel
theorem dX6_readMove_31 : decode cX6_readMove 31 = .ok (.istore_n 2, 1) := by decide +kernel
theorem dX6_readMove_32 : decode cX6_readMove 32 = .ok (.aload_n 0, 1) := by decide +kernel
theorem dX6_readMove_33 : decode cX6_readMove 33 = .ok (.aload_n 1, 1) := by decide +kernel
theorem dX6_readMove_34 : decode cX6_readMove 34 = .ok (.iload_n 2, 1) := by decide +kernel
theorem dX6_readMove_35 : decode cX6_readMove 35 = .ok (.invokevirtual 55, 3) := by decide +kernel
theorem dX6_readMove_38 : decode cX6_readMove 38 = .ok (.istore_n 3, 1) := by decide +kernel
theorem dX6_readMove_39 : decode cX6_readMove 39 = .ok (.aload_n 0, 1) := by decide +kernel
theorem dX6_readMove_40 : decode cX6_readMove 40 = .ok (.iconst 0, 1) := by decide +kernel
theorem dX6_readMove_41 : decode cX6_readMove 41 = .ok (.aload_n 1, 1) := by decide +kernel
theorem dX6_readMove_42 : decode cX6_readMove 42 = .ok (.invokevirtual 52, 3) := by decide +kernel
theorem dX6_readMove_45 : decode cX6_readMove 45 = .ok (.iconst 1, 1) := by decide +kernel
theorem dX6_readMove_46 : decode cX6_readMove 46 = .ok (.isub, 1) := by decide +kernel
theorem dX6_readMove_47 : decode cX6_readMove 47 = .ok (.invokevirtual 45, 3) := by decide +kernel
theorem dX6_readMove_50 : decode cX6_readMove 50 = .ok (.istore 4, 2) := by decide +kernel
theorem dX6_readMove_52 : decode cX6_readMove 52 = .ok (.aload_n 0, 1) := by decide +kernel
theorem dX6_readMove_53 : decode cX6_readMove 53 = .ok (.invokevirtual 59, 3) := by decide +kernel
theorem dX6_readMove_56 : decode cX6_readMove 56 = .ok (.istore 5, 2) := by decide +kernel
theorem dX6_readMove_58 : decode cX6_readMove 58 = .ok (.aload_n 0, 1) := by decide +kernel
theorem dX6_readMove_59 : decode cX6_readMove 59 = .ok (.bipush 59, 2) := by decide +kernel
theorem dX6_readMove_61 : decode cX6_readMove 61 = .ok (.invokevirtual 42, 3) := by decide +kernel
theorem dX6_readMove_64 : decode cX6_readMove 64 = .ok (.aload_n 0, 1) := by decide +kernel
theorem dX6_readMove_65 : decode cX6_readMove 65 = .ok (.getfield 22, 3) := by decide +kernel
theorem dX6_readMove_68 : decode cX6_readMove 68 = .ok (.ifCond .ne 16, 3) := by decide +kernel
theorem dX6_readMove_71 : decode cX6_readMove 71 = .ok (.aload_n 1, 1) := by decide +kernel
theorem dX6_readMove_72 : decode cX6_readMove 72 = .ok (.iload_n 2, 1) := by decide +kernel
theorem dX6_readMove_73 : decode cX6_readMove 73 = .ok (.iload_n 3, 1) := by decide +kernel
theorem dX6_readMove_74 : decode cX6_readMove 74 = .ok (.iconst 2, 1) := by decide +kernel
theorem dX6_readMove_75 : decode cX6_readMove 75 = .ok (.iload 4, 2) := by decide +kernel
theorem dX6_readMove_77 : decode cX6_readMove 77 = .ok (.imul, 1) := by decide +kernel
theorem dX6_readMove_78 : decode cX6_readMove 78 = .ok (.iload 5, 2) := by decide +kernel
theorem dX6_readMove_80 : decode cX6_readMove 80 = .ok (.iadd, 1) := by decide +kernel
theorem dX6_readMove_81 : decode cX6_readMove 81 = .ok (.invokevirtual 62, 3) := by decide +kernel
theorem dX6_readMove_84 : decode cX6_readMove 84 = .ok (.return_, 1) := by decide +kernel
set_option maxRecDepth 20000 in
theorem ggX6_takeLetter_X6_upcoming : GoodIn wsX6_takeLetter wsX6_upcoming := goodIn_r _ [5, 6, 7, 8, 18, 19, 20, 21] (by decide +kernel) (by decide +kernel)
set_option maxRecDepth 20000 in
theorem gX6_takeLetter_X6_upcoming : GoodIn wsX6_takeLetter (wsV RX6 31 RX6 yX6_upcoming wsX6_upcoming) := goodIn_app (goodIn_of _ (by decide +kernel)) ggX6_takeLetter_X6_upcoming
set_option maxRecDepth 20000 in
theorem ggX6_takeLetter_X6_passIf : GoodIn wsX6_takeLetter wsX6_passIf := goodIn_r _ [12, 13, 6, 14, 15, 16, 4, 17, 18, 19, 20, 21] (by decide +kernel) (by decide +kernel)
set_option maxRecDepth 20000 in
theorem gX6_takeLetter_X6_passIf : GoodIn wsX6_takeLetter (wsV RX6 66 RX6 yX6_passIf wsX6_passIf) := goodIn_app (goodIn_of _ (by decide +kernel)) ggX6_takeLetter_X6_passIf
theorem dX6_takeLetter_0 : decode cX6_takeLetter 0 = .ok (.aload_n 0, 1) := by decide +kernel
theorem dX6_takeLetter_1 : decode cX6_takeLetter 1 = .ok (.aload_n 0, 1) := by decide +kernel
theorem dX6_takeLetter_2 : decode cX6_takeLetter 2 = .ok (.invokevirtual 31, 3) := by decide +kernel
theorem dX6_takeLetter_5 : decode cX6_takeLetter 5 = .ok (.iload_n 1, 1) := by decide +kernel
theorem dX6_takeLetter_6 : decode cX6_takeLetter 6 = .ok (.if_icmp .ne 7, 3) := by decide +kernel
theorem dX6_takeLetter_9 : decode cX6_takeLetter 9 = .ok (.iconst 1, 1) := by decide +kernel
theorem dX6_takeLetter_10 : decode cX6_takeLetter 10 = .ok (.goto 4, 3) := by decide +kernel
theorem dX6_takeLetter_13 : decode cX6_takeLetter 13 = .ok (.iconst 0, 1) := by decide +kernel
theorem dX6_takeLetter_14 : decode cX6_takeLetter 14 = .ok (.invokevirtual 66, 3) := by decide +kernel
theorem dX6_takeLetter_17 : decode cX6_takeLetter 17 = .ok (.return_, 1) := by decide +kernel
set_option maxRecDepth 20000 in
theorem ggX6_takeFigure_X6_upcoming : GoodIn wsX6_takeFigure wsX6_upcoming := goodIn_r _ [5, 6, 7, 8, 18, 19, 20, 21] (by decide +kernel) (by decide +kernel)
set_option maxRecDepth 20000 in
theorem gX6_takeFigure_X6_upcoming : GoodIn wsX6_takeFigure (wsV RX6 31 RX6 yX6_upcoming wsX6_upcoming) := goodIn_app (goodIn_of _ (by decide +kernel)) ggX6_takeFigure_X6_upcoming
set_option maxRecDepth 20000 in
theorem ggX6_takeFigure_X6_blame : GoodIn wsX6_takeFigure wsX6_blame := goodIn_r _ [12, 13, 18, 19, 20, 21] (by decide +kernel) (by decide +kernel)
set_option maxRecDepth 20000 in
theorem gX6_takeFigure_X6_blame : GoodIn wsX6_takeFigure (wsV RX6 49 RX6 yX6_blame wsX6_blame) := goodIn_app (goodIn_of _ (by decide +kernel)) ggX6_takeFigure_X6_blame
set_option maxRecDepth 20000 in
theorem ggX6_takeFigure_X6_passIf : GoodIn wsX6_takeFigure wsX6_passIf := goodIn_r _ [17, 13, 6, 9, 10, 11, 4, 12, 18, 19, 20, 21] (by decide +kernel) (by decide +kernel)
set_option maxRecDepth 20000 in
theorem gX6_takeFigure_X6_passIf : GoodIn wsX6_takeFigure (wsV RX6 66 RX6 yX6_passIf wsX6_passIf) := goodIn_app (goodIn_of _ (by decide +kernel)) ggX6_takeFigure_X6_passIf
theorem dX6_takeFigure_0 : decode cX6_takeFigure 0 = .ok (.aload_n 0, 1) := by decide +kernel
theorem dX6_takeFigure_1 : decode cX6_takeFigure 1 = .ok (.invokevirtual 31, 3) := by decide +kernel
theorem dX6_takeFigure_4 : decode cX6_takeFigure 4 = .ok (.bipush 48, 2) := by decide +kernel
theorem dX6_takeFigure_6 : decode cX6_takeFigure 6 = .ok (.isub, 1) := by decide +kernel
theorem dX6_takeFigure_7 : decode cX6_takeFigure 7 = .ok (.istore_n 3, 1) := by decide +kernel
theorem dX6_takeFigure_8 : decode cX6_takeFigure 8 = .ok (.iload_n 3, 1) := by decide +kernel
theorem dX6_takeFigure_9 : decode cX6_takeFigure 9 = .ok (.ifCond .lt 13, 3) := by decide +kernel
theorem dX6_takeFigure_12 : decode cX6_takeFigure 12 = .ok (.iload_n 3, 1) := by decide +kernel
theorem dX6_takeFigure_13 : decode cX6_takeFigure 13 = .ok (.bipush 9, 2) := by decide +kernel
theorem dX6_takeFigure_15 : decode cX6_takeFigure 15 = .ok (.if_icmp .gt 7, 3) := by decide +kernel
theorem dX6_takeFigure_18 : decode cX6_takeFigure 18 = .ok (.iconst 1, 1) := by decide +kernel
theorem dX6_takeFigure_19 : decode cX6_takeFigure 19 = .ok (.goto 4, 3) := by decide +kernel
theorem dX6_takeFigure_22 : decode cX6_takeFigure 22 = .ok (.iconst 0, 1) := by decide +kernel
theorem dX6_takeFigure_23 : decode cX6_takeFigure 23 = .ok (.istore 4, 2) := by decide +kernel
theorem dX6_takeFigure_25 : decode cX6_takeFigure 25 = .ok (.iload 4, 2) := by decide +kernel
theorem dX6_takeFigure_27 : decode cX6_takeFigure 27 = .ok (.ifCond .eq 18, 3) := by decide +kernel
theorem dX6_takeFigure_30 : decode cX6_takeFigure 30 = .ok (.iload_n 3, 1) := by decide +kernel
theorem dX6_takeFigure_31 : decode cX6_takeFigure 31 = .ok (.iload_n 1, 1) := by decide +kernel
theorem dX6_takeFigure_32 : decode cX6_takeFigure 32 = .ok (.if_icmp .lt 8, 3) := by decide +kernel
theorem dX6_takeFigure_35 : decode cX6_takeFigure 35 = .ok (.iload_n 3, 1) := by decide +kernel
theorem dX6_takeFigure_36 : decode cX6_takeFigure 36 = .ok (.iload_n 2, 1) := by decide +kernel
theorem dX6_takeFigure_37 : decode cX6_takeFigure 37 = .ok (.if_icmp .le 8, 3) := by decide +kernel
theorem dX6_takeFigure_40 : decode cX6_takeFigure 40 = .ok (.aload_n 0, 1) := by decide +kernel
theorem dX6_takeFigure_41 : decode cX6_takeFigure 41 = .ok (.iconst 2, 1) := by decide +kernel
theorem dX6_takeFigure_42 : decode cX6_takeFigure 42 = .ok (.invokevirtual 49, 3) := by decide +kernel
theorem dX6_takeFigure_45 : decode cX6_takeFigure 45 = .ok (.aload_n 0, 1) := by decide +kernel
theorem dX6_takeFigure_46 : decode cX6_takeFigure 46 = .ok (.iload 4, 2) := by decide +kernel
theorem dX6_takeFigure_48 : decode cX6_takeFigure 48 = .ok (.invokevirtual 66, 3) := by decide +kernel
theorem dX6_takeFigure_51 : decode cX6_takeFigure 51 = .ok (.iload_n 3, 1) := by decide +kernel
theorem dX6_takeFigure_52 : decode cX6_takeFigure 52 = .ok (.ireturn, 1) := by decide +kernel
set_option maxRecDepth 20000 in
theorem ggX6_takeSign_X6_upcoming : GoodIn wsX6_takeSign wsX6_upcoming := goodIn_r _ [5, 6, 7, 8, 31, 32, 33, 34] (by decide +kernel) (by decide +kernel)
set_option maxRecDepth 20000 in
theorem gX6_takeSign_X6_upcoming : GoodIn wsX6_takeSign (wsV RX6 31 RX6 yX6_upcoming wsX6_upcoming) := goodIn_app (goodIn_of _ (by decide +kernel)) ggX6_takeSign_X6_upcoming
set_option maxRecDepth 20000 in
theorem ggX6_takeSign_X6_signOf : GoodIn wsX6_takeSign wsX6_signOf := goodIn_r _ [11] (by decide +kernel) (by decide +kernel)
set_option maxRecDepth 20000 in
theorem gX6_takeSign_X6_signOf : GoodIn wsX6_takeSign (va_wsS RX6 70 yX6_signOf wsX6_signOf) := goodIn_app (goodIn_of _ (by decide +kernel)) ggX6_takeSign_X6_signOf
set_option maxRecDepth 20000 in
theorem ggX6_takeSign_X3_at : GoodIn wsX6_takeSign wsX3_at := goodIn_r _ [16, 17, 18, 19, 20, 21, 35, 36, 37] (by decide +kernel) (by decide +kernel)
set_option maxRecDepth 20000 in
theorem gX6_takeSign_X3_at : GoodIn wsX6_takeSign (wsV RX6 74 RX3 yX3_at wsX3_at) := goodIn_app (goodIn_of _ (by decide +kernel)) ggX6_takeSign_X3_at
set_option maxRecDepth 20000 in
theorem ggX6_takeSign_X6_blame : GoodIn wsX6_takeSign wsX6_blame := goodIn_r _ [25, 26, 31, 32, 33, 34] (by decide +kernel) (by decide +kernel)
set_option maxRecDepth 20000 in
theorem gX6_takeSign_X6_blame : GoodIn wsX6_takeSign (wsV RX6 49 RX6 yX6_blame wsX6_blame) := goodIn_app (goodIn_of _ (by decide +kernel)) ggX6_takeSign_X6_blame
set_option maxRecDepth 20000 in
theorem ggX6_takeSign_X6_passIf : GoodIn wsX6_takeSign wsX6_passIf := goodIn_r _ [30, 26, 6, 22, 23, 24, 4, 25, 31, 32, 33, 34] (by decide +kernel) (by decide +kernel)
set_option maxRecDepth 20000 in
theorem gX6_takeSign_X6_passIf : GoodIn wsX6_takeSign (wsV RX6 66 RX6 yX6_passIf wsX6_passIf) := goodIn_app (goodIn_of _ (by decide +kernel)) ggX6_takeSign_X6_passIf
theorem dX6_takeSign_0 : decode cX6_takeSign 0 = .ok (.aload_n 0, 1) := by decide +kernel
theorem dX6_takeSign_1 : decode cX6_takeSign 1 = .ok (.invokevirtual 31, 3) := by decide +kernel
theorem dX6_takeSign_4 : decode cX6_takeSign 4 = .ok (.invokestatic 70, 3) := by decide +kernel
theorem dX6_takeSign_7 : decode cX6_takeSign 7 = .ok (.istore_n 3, 1) := by decide +kernel
theorem dX6_takeSign_8 : decode cX6_takeSign 8 = .ok (.aload_n 1, 1) := by decide +kernel
theorem dX6_takeSign_9 : decode cX6_takeSign 9 = .ok (.iload_n 2, 1) := by decide +kernel
theorem dX6_takeSign_10 : decode cX6_takeSign 10 = .ok (.iload_n 3, 1) := by decide +kernel
theorem dX6_takeSign_11 : decode cX6_takeSign 11 = .ok (.invokevirtual 74, 3) := by decide +kernel
theorem dX6_takeSign_14 : decode cX6_takeSign 14 = .ok (.iconst (-1), 1) := by decide +kernel
theorem dX6_takeSign_15 : decode cX6_takeSign 15 = .ok (.if_icmp .eq 8, 3) := by decide +kernel
theorem dX6_takeSign_18 : decode cX6_takeSign 18 = .ok (.aload_n 0, 1) := by decide +kernel
theorem dX6_takeSign_19 : decode cX6_takeSign 19 = .ok (.iconst 4, 1) := by decide +kernel
theorem dX6_takeSign_20 : decode cX6_takeSign 20 = .ok (.invokevirtual 49, 3) := by decide +kernel
theorem dX6_takeSign_23 : decode cX6_takeSign 23 = .ok (.aload_n 0, 1) := by decide +kernel
theorem dX6_takeSign_24 : decode cX6_takeSign 24 = .ok (.iload_n 3, 1) := by decide +kernel
theorem dX6_takeSign_25 : decode cX6_takeSign 25 = .ok (.iconst (-1), 1) := by decide +kernel
theorem dX6_takeSign_26 : decode cX6_takeSign 26 = .ok (.if_icmp .eq 7, 3) := by decide +kernel
theorem dX6_takeSign_29 : decode cX6_takeSign 29 = .ok (.iconst 1, 1) := by decide +kernel
theorem dX6_takeSign_30 : decode cX6_takeSign 30 = .ok (.goto 4, 3) := by decide +kernel
theorem dX6_takeSign_33 : decode cX6_takeSign 33 = .ok (.iconst 0, 1) := by decide +kernel
theorem dX6_takeSign_34 : decode cX6_takeSign 34 = .ok (.invokevirtual 66, 3) := by decide +kernel
theorem dX6_takeSign_37 : decode cX6_takeSign 37 = .ok (.iload_n 3, 1) := by decide +kernel
theorem dX6_takeSign_38 : decode cX6_takeSign 38 = .ok (.ireturn, 1) := by decide +kernel
set_option maxRecDepth 20000 in
theorem ggX6_takeSide_X6_upcoming : GoodIn wsX6_takeSide wsX6_upcoming := goodIn_r _ [5, 6, 7, 8, 18, 19, 20, 21] (by decide +kernel) (by decide +kernel)
set_option maxRecDepth 20000 in
theorem gX6_takeSide_X6_upcoming : GoodIn wsX6_takeSide (wsV RX6 31 RX6 yX6_upcoming wsX6_upcoming) := goodIn_app (goodIn_of _ (by decide +kernel)) ggX6_takeSide_X6_upcoming
set_option maxRecDepth 20000 in
theorem ggX6_takeSide_X6_passIf : GoodIn wsX6_takeSide wsX6_passIf := goodIn_r _ [12, 13, 6, 14, 15, 16, 4, 17, 18, 19, 20, 21] (by decide +kernel) (by decide +kernel)
set_option maxRecDepth 20000 in
theorem gX6_takeSide_X6_passIf : GoodIn wsX6_takeSide (wsV RX6 66 RX6 yX6_passIf wsX6_passIf) := goodIn_app (goodIn_of _ (by decide +kernel)) ggX6_takeSide_X6_passIf
theorem dX6_takeSide_0 : decode cX6_takeSide 0 = .ok (.aload_n 0, 1) := by decide +kernel
theorem dX6_takeSide_1 : decode cX6_takeSide 1 = .ok (.invokevirtual 31, 3) := by decide +kernel
theorem dX6_takeSide_4 : decode cX6_takeSide 4 = .ok (.istore_n 1, 1) := by decide +kernel
theorem dX6_takeSide_5 : decode cX6_takeSide 5 = .ok (.aload_n 0, 1) := by decide +kernel
theorem dX6_takeSide_6 : decode cX6_takeSide 6 = .ok (.iload_n 1, 1) := by decide +kernel
theorem dX6_takeSide_7 : decode cX6_takeSide 7 = .ok (.bipush 108, 2) := by decide +kernel
theorem dX6_takeSide_9 : decode cX6_takeSide 9 = .ok (.if_icmp .eq 9, 3) := by decide +kernel
theorem dX6_takeSide_12 : decode cX6_takeSide 12 = .ok (.iload_n 1, 1) := by decide +kernel
theorem dX6_takeSide_13 : decode cX6_takeSide 13 = .ok (.bipush 114, 2) := by decide +kernel
theorem dX6_takeSide_15 : decode cX6_takeSide 15 = .ok (.if_icmp .ne 7, 3) := by decide +kernel
theorem dX6_takeSide_18 : decode cX6_takeSide 18 = .ok (.iconst 1, 1) := by decide +kernel
theorem dX6_takeSide_19 : decode cX6_takeSide 19 = .ok (.goto 4, 3) := by decide +kernel
theorem dX6_takeSide_22 : decode cX6_takeSide 22 = .ok (.iconst 0, 1) := by decide +kernel
theorem dX6_takeSide_23 : decode cX6_takeSide 23 = .ok (.invokevirtual 66, 3) := by decide +kernel
theorem dX6_takeSide_26 : decode cX6_takeSide 26 = .ok (.iload_n 1, 1) := by decide +kernel
theorem dX6_takeSide_27 : decode cX6_takeSide 27 = .ok (.bipush 114, 2) := by decide +kernel
theorem dX6_takeSide_29 : decode cX6_takeSide 29 = .ok (.if_icmp .ne 7, 3) := by decide +kernel
theorem dX6_takeSide_32 : decode cX6_takeSide 32 = .ok (.iconst 1, 1) := by decide +kernel
theorem dX6_takeSide_33 : decode cX6_takeSide 33 = .ok (.goto 4, 3) := by decide +kernel
theorem dX6_takeSide_36 : decode cX6_takeSide 36 = .ok (.iconst 0, 1) := by decide +kernel
theorem dX6_takeSide_37 : decode cX6_takeSide 37 = .ok (.ireturn, 1) := by decide +kernel
theorem dX6_signOf_0 : decode cX6_signOf 0 = .ok (.iload_n 0, 1) := by decide +kernel
theorem dX6_signOf_1 : decode cX6_signOf 1 = .ok (.lookupswitch 51 #[(40, 47), (41, 49), (97, 43), (98, 45)], 43) := by decide +kernel
theorem dX6_signOf_44 : decode cX6_signOf 44 = .ok (.iconst 0, 1) := by decide +kernel
theorem dX6_signOf_45 : decode cX6_signOf 45 = .ok (.ireturn, 1) := by decide +kernel
theorem dX6_signOf_46 : decode cX6_signOf 46 = .ok (.iconst 1, 1) := by decide +kernel
theorem dX6_signOf_47 : decode cX6_signOf 47 = .ok (.ireturn, 1) := by decide +kernel
theorem dX6_signOf_48 : decode cX6_signOf 48 = .ok (.iconst 2, 1) := by decide +kernel
theorem dX6_signOf_49 : decode cX6_signOf 49 = .ok (.ireturn, 1) := by decide +kernel
theorem dX6_signOf_50 : decode cX6_signOf 50 = .ok (.iconst 3, 1) := by decide +kernel
theorem dX6_signOf_51 : decode cX6_signOf 51 = .ok (.ireturn, 1) := by decide +kernel
theorem dX6_signOf_52 : decode cX6_signOf 52 = .ok (.iconst (-1), 1) := by decide +kernel
theorem dX6_signOf_53 : decode cX6_signOf 53 = .ok (.ireturn, 1) := by decide +kernel
theorem dX6_upcoming_0 : decode cX6_upcoming 0 = .ok (.aload_n 0, 1) := by decide +kernel
theorem dX6_upcoming_1 : decode cX6_upcoming 1 = .ok (.getfield 19, 3) := by decide +kernel
theorem dX6_upcoming_4 : decode cX6_upcoming 4 = .ok (.aload_n 0, 1) := by decide +kernel
theorem dX6_upcoming_5 : decode cX6_upcoming 5 = .ok (.getfield 15, 3) := by decide +kernel
theorem dX6_upcoming_8 : decode cX6_upcoming 8 = .ok (.if_icmp .ge 40, 3) := by decide +kernel
theorem dX6_upcoming_11 : decode cX6_upcoming 11 = .ok (.aload_n 0, 1) := by decide +kernel
theorem dX6_upcoming_12 : decode cX6_upcoming 12 = .ok (.getfield 19, 3) := by decide +kernel
theorem dX6_upcoming_15 : decode cX6_upcoming 15 = .ok (.sipush 240, 3) := by decide +kernel
theorem dX6_upcoming_18 : decode cX6_upcoming 18 = .ok (.if_icmp .ge 30, 3) := by decide +kernel
theorem dX6_upcoming_21 : decode cX6_upcoming 21 = .ok (.aload_n 0, 1) := by decide +kernel
theorem dX6_upcoming_22 : decode cX6_upcoming 22 = .ok (.getfield 9, 3) := by decide +kernel
theorem dX6_upcoming_25 : decode cX6_upcoming 25 = .ok (.aload_n 0, 1) := by decide +kernel
theorem dX6_upcoming_26 : decode cX6_upcoming 26 = .ok (.getfield 19, 3) := by decide +kernel
theorem dX6_upcoming_29 : decode cX6_upcoming 29 = .ok (.iaload, 1) := by decide +kernel
theorem dX6_upcoming_30 : decode cX6_upcoming 30 = .ok (.bipush 32, 2) := by decide +kernel
theorem dX6_upcoming_32 : decode cX6_upcoming 32 = .ok (.if_icmp .ne 16, 3) := by decide +kernel
theorem dX6_upcoming_35 : decode cX6_upcoming 35 = .ok (.aload_n 0, 1) := by decide +kernel
theorem dX6_upcoming_36 : decode cX6_upcoming 36 = .ok (.dup, 1) := by decide +kernel
theorem dX6_upcoming_37 : decode cX6_upcoming 37 = .ok (.getfield 19, 3) := by decide +kernel
theorem dX6_upcoming_40 : decode cX6_upcoming 40 = .ok (.iconst 1, 1) := by decide +kernel
theorem dX6_upcoming_41 : decode cX6_upcoming 41 = .ok (.iadd, 1) := by decide +kernel
theorem dX6_upcoming_42 : decode cX6_upcoming 42 = .ok (.putfield 19, 3) := by decide +kernel
theorem dX6_upcoming_45 : decode cX6_upcoming 45 = .ok (.goto (-45), 3) := by decide +kernel
theorem dX6_upcoming_48 : decode cX6_upcoming 48 = .ok (.aload_n 0, 1) := by decide +kernel
theorem dX6_upcoming_49 : decode cX6_upcoming 49 = .ok (.getfield 19, 3) := by decide +kernel
theorem dX6_upcoming_52 : decode cX6_upcoming 52 = .ok (.aload_n 0, 1) := by decide +kernel
theorem dX6_upcoming_53 : decode cX6_upcoming 53 = .ok (.getfield 15, 3) := by decide +kernel
theorem dX6_upcoming_56 : decode cX6_upcoming 56 = .ok (.if_icmp .ge 25, 3) := by decide +kernel
theorem dX6_upcoming_59 : decode cX6_upcoming 59 = .ok (.aload_n 0, 1) := by decide +kernel
theorem dX6_upcoming_60 : decode cX6_upcoming 60 = .ok (.getfield 19, 3) := by decide +kernel
theorem dX6_upcoming_63 : decode cX6_upcoming 63 = .ok (.sipush 240, 3) := by decide +kernel
theorem dX6_upcoming_66 : decode cX6_upcoming 66 = .ok (.if_icmp .ge 15, 3) := by decide +kernel
theorem dX6_upcoming_69 : decode cX6_upcoming 69 = .ok (.aload_n 0, 1) := by decide +kernel
theorem dX6_upcoming_70 : decode cX6_upcoming 70 = .ok (.getfield 9, 3) := by decide +kernel
theorem dX6_upcoming_73 : decode cX6_upcoming 73 = .ok (.aload_n 0, 1) := by decide +kernel
theorem dX6_upcoming_74 : decode cX6_upcoming 74 = .ok (.getfield 19, 3) := by decide +kernel
theorem dX6_upcoming_77 : decode cX6_upcoming 77 = .ok (.iaload, 1) := by decide +kernel
theorem dX6_upcoming_78 : decode cX6_upcoming 78 = .ok (.goto 4, 3) := by decide +kernel
theorem dX6_upcoming_81 : decode cX6_upcoming 81 = .ok (.iconst (-1), 1) := by decide +kernel
theorem dX6_upcoming_82 : decode cX6_upcoming 82 = .ok (.ireturn, 1) := by decide +kernel
set_option maxRecDepth 20000 in
theorem ggX6_passIf_X6_blame : GoodIn wsX6_passIf wsX6_blame := goodIn_r _ [7, 1, 8, 9, 10, 11] (by decide +kernel) (by decide +kernel)
set_option maxRecDepth 20000 in
theorem gX6_passIf_X6_blame : GoodIn wsX6_passIf (wsV RX6 49 RX6 yX6_blame wsX6_blame) := goodIn_app (goodIn_of _ (by decide +kernel)) ggX6_passIf_X6_blame
theorem dX6_passIf_0 : decode cX6_passIf 0 = .ok (.iload_n 1, 1) := by decide +kernel
theorem dX6_passIf_1 : decode cX6_passIf 1 = .ok (.ifCond .ne 8, 3) := by decide +kernel
theorem dX6_passIf_4 : decode cX6_passIf 4 = .ok (.aload_n 0, 1) := by decide +kernel
theorem dX6_passIf_5 : decode cX6_passIf 5 = .ok (.iconst 1, 1) := by decide +kernel
theorem dX6_passIf_6 : decode cX6_passIf 6 = .ok (.invokevirtual 49, 3) := by decide +kernel
theorem dX6_passIf_9 : decode cX6_passIf 9 = .ok (.aload_n 0, 1) := by decide +kernel
theorem dX6_passIf_10 : decode cX6_passIf 10 = .ok (.getfield 22, 3) := by decide +kernel
theorem dX6_passIf_13 : decode cX6_passIf 13 = .ok (.ifCond .ne 13, 3) := by decide +kernel
theorem dX6_passIf_16 : decode cX6_passIf 16 = .ok (.aload_n 0, 1) := by decide +kernel
theorem dX6_passIf_17 : decode cX6_passIf 17 = .ok (.dup, 1) := by decide +kernel
theorem dX6_passIf_18 : decode cX6_passIf 18 = .ok (.getfield 19, 3) := by decide +kernel
theorem dX6_passIf_21 : decode cX6_passIf 21 = .ok (.iconst 1, 1) := by decide +kernel
theorem dX6_passIf_22 : decode cX6_passIf 22 = .ok (.iadd, 1) := by decide +kernel
theorem dX6_passIf_23 : decode cX6_passIf 23 = .ok (.putfield 19, 3) := by decide +kernel
theorem dX6_passIf_26 : decode cX6_passIf 26 = .ok (.return_, 1) := by decide +kernel
theorem dX6_blame_0 : decode cX6_blame 0 = .ok (.aload_n 0, 1) := by decide +kernel
theorem dX6_blame_1 : decode cX6_blame 1 = .ok (.getfield 22, 3) := by decide +kernel
theorem dX6_blame_4 : decode cX6_blame 4 = .ok (.ifCond .ne 8, 3) := by decide +kernel
theorem dX6_blame_7 : decode cX6_blame 7 = .ok (.aload_n 0, 1) := by decide +kernel
theorem dX6_blame_8 : decode cX6_blame 8 = .ok (.iload_n 1, 1) := by decide +kernel
theorem dX6_blame_9 : decode cX6_blame 9 = .ok (.putfield 22, 3) := by decide +kernel
theorem dX6_blame_12 : decode cX6_blame 12 = .ok (.return_, 1) := by decide +kernel
theorem dX7_init_0 : decode cX7_init 0 = .ok (.aload_n 0, 1) := by decide +kernel
theorem dX7_init_1 : decode cX7_init 1 = .ok (.invokespecial 3, 3) := by decide +kernel
theorem dX7_init_4 : decode cX7_init 4 = .ok (.aload_n 0, 1) := by decide +kernel
theorem dX7_init_5 : decode cX7_init 5 = .ok (.bipush 24, 2) := by decide +kernel
theorem dX7_init_7 : decode cX7_init 7 = .ok (.newarray .int, 2) := by decide +kernel
theorem dX7_init_9 : decode cX7_init 9 = .ok (.putfield 9, 3) := by decide +kernel
theorem dX7_init_12 : decode cX7_init 12 = .ok (.return_, 1) := by decide +kernel
theorem dX7_length_0 : decode cX7_length 0 = .ok (.aload_n 0, 1) := by decide +kernel
theorem dX7_length_1 : decode cX7_length 1 = .ok (.getfield 15, 3) := by decide +kernel
theorem dX7_length_4 : decode cX7_length 4 = .ok (.ireturn, 1) := by decide +kernel
theorem dX7_add_0 : decode cX7_add 0 = .ok (.aload_n 0, 1) := by decide +kernel
theorem dX7_add_1 : decode cX7_add 1 = .ok (.getfield 15, 3) := by decide +kernel
theorem dX7_add_4 : decode cX7_add 4 = .ok (.ifCond .lt 12, 3) := by decide +kernel
theorem dX7_add_7 : decode cX7_add 7 = .ok (.aload_n 0, 1) := by decide +kernel
theorem dX7_add_8 : decode cX7_add 8 = .ok (.getfield 15, 3) := by decide +kernel
theorem dX7_add_11 : decode cX7_add 11 = .ok (.bipush 24, 2) := by decide +kernel
theorem dX7_add_13 : decode cX7_add 13 = .ok (.if_icmp .lt 5, 3) := by decide +kernel
theorem dX7_add_16 : decode cX7_add 16 = .ok (.iconst 0, 1) := by decide +kernel
theorem dX7_add_17 : decode cX7_add 17 = .ok (.ireturn, 1) := by decide +kernel
theorem dX7_add_18 : decode cX7_add 18 = .ok (.aload_n 0, 1) := by decide +kernel
theorem dX7_add_19 : decode cX7_add 19 = .ok (.getfield 9, 3) := by decide +kernel
theorem dX7_add_22 : decode cX7_add 22 = .ok (.aload_n 0, 1) := by decide +kernel
theorem dX7_add_23 : decode cX7_add 23 = .ok (.getfield 15, 3) := by decide +kernel
theorem dX7_add_26 : decode cX7_add 26 = .ok (.iload_n 1, 1) := by decide +kernel
theorem dX7_add_27 : decode cX7_add 27 = .ok (.iastore, 1) := by decide +kernel
theorem dX7_add_28 : decode cX7_add 28 = .ok (.aload_n 0, 1) := by decide +kernel
theorem dX7_add_29 : decode cX7_add 29 = .ok (.dup, 1) := by decide +kernel
theorem dX7_add_30 : decode cX7_add 30 = .ok (.getfield 15, 3) := by decide +kernel
theorem dX7_add_33 : decode cX7_add 33 = .ok (.iconst 1, 1) := by decide +kernel
theorem dX7_add_34 : decode cX7_add 34 = .ok (.iadd, 1) := by decide +kernel
theorem dX7_add_35 : decode cX7_add 35 = .ok (.putfield 15, 3) := by decide +kernel
theorem dX7_add_38 : decode cX7_add 38 = .ok (.iconst 1, 1) := by decide +kernel
theorem dX7_add_39 : decode cX7_add 39 = .ok (.ireturn, 1) := by decide +kernel
theorem dX7_letterAt_0 : decode cX7_letterAt 0 = .ok (.iload_n 1, 1) := by decide +kernel
theorem dX7_letterAt_1 : decode cX7_letterAt 1 = .ok (.ifCond .lt 26, 3) := by decide +kernel
theorem dX7_letterAt_4 : decode cX7_letterAt 4 = .ok (.iload_n 1, 1) := by decide +kernel
theorem dX7_letterAt_5 : decode cX7_letterAt 5 = .ok (.aload_n 0, 1) := by decide +kernel
theorem dX7_letterAt_6 : decode cX7_letterAt 6 = .ok (.getfield 15, 3) := by decide +kernel
theorem dX7_letterAt_9 : decode cX7_letterAt 9 = .ok (.if_icmp .ge 18, 3) := by decide +kernel
theorem dX7_letterAt_12 : decode cX7_letterAt 12 = .ok (.iload_n 1, 1) := by decide +kernel
theorem dX7_letterAt_13 : decode cX7_letterAt 13 = .ok (.bipush 24, 2) := by decide +kernel
theorem dX7_letterAt_15 : decode cX7_letterAt 15 = .ok (.if_icmp .ge 12, 3) := by decide +kernel
theorem dX7_letterAt_18 : decode cX7_letterAt 18 = .ok (.aload_n 0, 1) := by decide +kernel
theorem dX7_letterAt_19 : decode cX7_letterAt 19 = .ok (.getfield 9, 3) := by decide +kernel
theorem dX7_letterAt_22 : decode cX7_letterAt 22 = .ok (.iload_n 1, 1) := by decide +kernel
theorem dX7_letterAt_23 : decode cX7_letterAt 23 = .ok (.iaload, 1) := by decide +kernel
theorem dX7_letterAt_24 : decode cX7_letterAt 24 = .ok (.goto 4, 3) := by decide +kernel
theorem dX7_letterAt_27 : decode cX7_letterAt 27 = .ok (.iconst (-1), 1) := by decide +kernel
theorem dX7_letterAt_28 : decode cX7_letterAt 28 = .ok (.ireturn, 1) := by decide +kernel
set_option maxRecDepth 20000 in
theorem ggX7_signAt_X7_letterAt : GoodIn wsX7_signAt wsX7_letterAt := goodIn_r _ [6, 1, 7, 8, 9] (by decide +kernel) (by decide +kernel)
set_option maxRecDepth 20000 in
theorem gX7_signAt_X7_letterAt : GoodIn wsX7_signAt (wsV RX7 19 RX7 yX7_letterAt wsX7_letterAt) := goodIn_app (goodIn_of _ (by decide +kernel)) ggX7_signAt_X7_letterAt
theorem dX7_signAt_0 : decode cX7_signAt 0 = .ok (.iload_n 1, 1) := by decide +kernel
theorem dX7_signAt_1 : decode cX7_signAt 1 = .ok (.ifCond .ne 5, 3) := by decide +kernel
theorem dX7_signAt_4 : decode cX7_signAt 4 = .ok (.iconst 2, 1) := by decide +kernel
theorem dX7_signAt_5 : decode cX7_signAt 5 = .ok (.ireturn, 1) := by decide +kernel
theorem dX7_signAt_6 : decode cX7_signAt 6 = .ok (.iload_n 1, 1) := by decide +kernel
theorem dX7_signAt_7 : decode cX7_signAt 7 = .ok (.aload_n 0, 1) := by decide +kernel
theorem dX7_signAt_8 : decode cX7_signAt 8 = .ok (.getfield 15, 3) := by decide +kernel
theorem dX7_signAt_11 : decode cX7_signAt 11 = .ok (.iconst 1, 1) := by decide +kernel
theorem dX7_signAt_12 : decode cX7_signAt 12 = .ok (.iadd, 1) := by decide +kernel
theorem dX7_signAt_13 : decode cX7_signAt 13 = .ok (.if_icmp .ne 7, 3) := by decide +kernel
theorem dX7_signAt_16 : decode cX7_signAt 16 = .ok (.iconst 3, 1) := by decide +kernel
theorem dX7_signAt_17 : decode cX7_signAt 17 = .ok (.goto 10, 3) := by decide +kernel
theorem dX7_signAt_20 : decode cX7_signAt 20 = .ok (.aload_n 0, 1) := by decide +kernel
theorem dX7_signAt_21 : decode cX7_signAt 21 = .ok (.iload_n 1, 1) := by decide +kernel
theorem dX7_signAt_22 : decode cX7_signAt 22 = .ok (.iconst 1, 1) := by decide +kernel
theorem dX7_signAt_23 : decode cX7_signAt 23 = .ok (.isub, 1) := by decide +kernel
theorem dX7_signAt_24 : decode cX7_signAt 24 = .ok (.invokevirtual 19, 3) := by decide +kernel
theorem dX7_signAt_27 : decode cX7_signAt 27 = .ok (.ireturn, 1) := by decide +kernel
set_option maxRecDepth 20000 in
theorem ggX7_number_X7_letterAt : GoodIn wsX7_number wsX7_letterAt := goodIn_r _ [6, 1, 7, 8, 9] (by decide +kernel) (by decide +kernel)
set_option maxRecDepth 20000 in
theorem gX7_number_X7_letterAt : GoodIn wsX7_number (wsV RX7 19 RX7 yX7_letterAt wsX7_letterAt) := goodIn_app (goodIn_of _ (by decide +kernel)) ggX7_number_X7_letterAt
theorem dX7_number_0 : decode cX7_number 0 = .ok (.iconst 1, 1) := by decide +kernel
theorem dX7_number_1 : decode cX7_number 1 = .ok (.istore_n 1, 1) := by decide +kernel
theorem dX7_number_2 : decode cX7_number 2 = .ok (.iconst 0, 1) := by decide +kernel
theorem dX7_number_3 : decode cX7_number 3 = .ok (.istore_n 2, 1) := by decide +kernel
theorem dX7_number_4 : decode cX7_number 4 = .ok (.iload_n 2, 1) := by decide +kernel
theorem dX7_number_5 : decode cX7_number 5 = .ok (.aload_n 0, 1) := by decide +kernel
theorem dX7_number_6 : decode cX7_number 6 = .ok (.getfield 15, 3) := by decide +kernel
theorem dX7_number_9 : decode cX7_number 9 = .ok (.if_icmp .ge 19, 3) := by decide +kernel
theorem dX7_number_12 : decode cX7_number 12 = .ok (.iconst 2, 1) := by decide +kernel
theorem dX7_number_13 : decode cX7_number 13 = .ok (.iload_n 1, 1) := by decide +kernel
theorem dX7_number_14 : decode cX7_number 14 = .ok (.imul, 1) := by decide +kernel
theorem dX7_number_15 : decode cX7_number 15 = .ok (.aload_n 0, 1) := by decide +kernel
theorem dX7_number_16 : decode cX7_number 16 = .ok (.iload_n 2, 1) := by decide +kernel
theorem dX7_number_17 : decode cX7_number 17 = .ok (.invokevirtual 19, 3) := by decide +kernel
theorem dX7_number_20 : decode cX7_number 20 = .ok (.iadd, 1) := by decide +kernel
theorem dX7_number_21 : decode cX7_number 21 = .ok (.istore_n 1, 1) := by decide +kernel
theorem dX7_number_22 : decode cX7_number 22 = .ok (.iinc 2 1, 3) := by decide +kernel
theorem dX7_number_25 : decode cX7_number 25 = .ok (.goto (-21), 3) := by decide +kernel
theorem dX7_number_28 : decode cX7_number 28 = .ok (.iload_n 1, 1) := by decide +kernel
theorem dX7_number_29 : decode cX7_number 29 = .ok (.ireturn, 1) := by decide +kernel
set_option maxRecDepth 20000 in
theorem ggX7_become_X7_add : GoodIn wsX7_become wsX7_add := goodIn_r _ [6, 1, 7, 8, 9] (by decide +kernel) (by decide +kernel)
set_option maxRecDepth 20000 in
theorem gX7_become_X7_add : GoodIn wsX7_become (wsV RX7 23 RX7 yX7_add wsX7_add) := goodIn_app (goodIn_of _ (by decide +kernel)) ggX7_become_X7_add
theorem dX7_become_0 : decode cX7_become 0 = .ok (.aload_n 0, 1) := by decide +kernel
theorem dX7_become_1 : decode cX7_become 1 = .ok (.iconst 0, 1) := by decide +kernel
theorem dX7_become_2 : decode cX7_become 2 = .ok (.putfield 15, 3) := by decide +kernel
theorem dX7_become_5 : decode cX7_become 5 = .ok (.iconst 0, 1) := by decide +kernel
theorem dX7_become_6 : decode cX7_become 6 = .ok (.istore_n 2, 1) := by decide +kernel
theorem dX7_become_7 : decode cX7_become 7 = .ok (.bipush 24, 2) := by decide +kernel
theorem dX7_become_9 : decode cX7_become 9 = .ok (.istore_n 3, 1) := by decide +kernel
theorem dX7_become_10 : decode cX7_become 10 = .ok (.iload_n 3, 1) := by decide +kernel
theorem dX7_become_11 : decode cX7_become 11 = .ok (.ifCond .lt 43, 3) := by decide +kernel
theorem dX7_become_14 : decode cX7_become 14 = .ok (.iload_n 1, 1) := by decide +kernel
theorem dX7_become_15 : decode cX7_become 15 = .ok (.iload_n 3, 1) := by decide +kernel
theorem dX7_become_16 : decode cX7_become 16 = .ok (.ishr, 1) := by decide +kernel
theorem dX7_become_17 : decode cX7_become 17 = .ok (.iconst 1, 1) := by decide +kernel
theorem dX7_become_18 : decode cX7_become 18 = .ok (.iand, 1) := by decide +kernel
theorem dX7_become_19 : decode cX7_become 19 = .ok (.istore 4, 2) := by decide +kernel
theorem dX7_become_21 : decode cX7_become 21 = .ok (.iload_n 2, 1) := by decide +kernel
theorem dX7_become_22 : decode cX7_become 22 = .ok (.ifCond .eq 10, 3) := by decide +kernel
theorem dX7_become_25 : decode cX7_become 25 = .ok (.aload_n 0, 1) := by decide +kernel
theorem dX7_become_26 : decode cX7_become 26 = .ok (.iload 4, 2) := by decide +kernel
theorem dX7_become_28 : decode cX7_become 28 = .ok (.invokevirtual 23, 3) := by decide +kernel
theorem dX7_become_31 : decode cX7_become 31 = .ok (.pop, 1) := by decide +kernel
theorem dX7_become_32 : decode cX7_become 32 = .ok (.iload_n 2, 1) := by decide +kernel
theorem dX7_become_33 : decode cX7_become 33 = .ok (.ifCond .ne 9, 3) := by decide +kernel
theorem dX7_become_36 : decode cX7_become 36 = .ok (.iload 4, 2) := by decide +kernel
theorem dX7_become_38 : decode cX7_become 38 = .ok (.iconst 1, 1) := by decide +kernel
theorem dX7_become_39 : decode cX7_become 39 = .ok (.if_icmp .ne 7, 3) := by decide +kernel
theorem dX7_become_42 : decode cX7_become 42 = .ok (.iconst 1, 1) := by decide +kernel
theorem dX7_become_43 : decode cX7_become 43 = .ok (.goto 4, 3) := by decide +kernel
theorem dX7_become_46 : decode cX7_become 46 = .ok (.iconst 0, 1) := by decide +kernel
theorem dX7_become_47 : decode cX7_become 47 = .ok (.istore_n 2, 1) := by decide +kernel
theorem dX7_become_48 : decode cX7_become 48 = .ok (.iinc 3 (-1), 3) := by decide +kernel
theorem dX7_become_51 : decode cX7_become 51 = .ok (.goto (-41), 3) := by decide +kernel
theorem dX7_become_54 : decode cX7_become 54 = .ok (.return_, 1) := by decide +kernel
theorem dX7_turn_0 : decode cX7_turn 0 = .ok (.iconst 0, 1) := by decide +kernel
theorem dX7_turn_1 : decode cX7_turn 1 = .ok (.istore_n 1, 1) := by decide +kernel
theorem dX7_turn_2 : decode cX7_turn 2 = .ok (.aload_n 0, 1) := by decide +kernel
theorem dX7_turn_3 : decode cX7_turn 3 = .ok (.getfield 15, 3) := by decide +kernel
theorem dX7_turn_6 : decode cX7_turn 6 = .ok (.iconst 1, 1) := by decide +kernel
theorem dX7_turn_7 : decode cX7_turn 7 = .ok (.isub, 1) := by decide +kernel
theorem dX7_turn_8 : decode cX7_turn 8 = .ok (.istore_n 2, 1) := by decide +kernel
theorem dX7_turn_9 : decode cX7_turn 9 = .ok (.iload_n 1, 1) := by decide +kernel
theorem dX7_turn_10 : decode cX7_turn 10 = .ok (.iload_n 2, 1) := by decide +kernel
theorem dX7_turn_11 : decode cX7_turn 11 = .ok (.if_icmp .ge 44, 3) := by decide +kernel
theorem dX7_turn_14 : decode cX7_turn 14 = .ok (.iload_n 2, 1) := by decide +kernel
theorem dX7_turn_15 : decode cX7_turn 15 = .ok (.bipush 24, 2) := by decide +kernel
theorem dX7_turn_17 : decode cX7_turn 17 = .ok (.if_icmp .ge 38, 3) := by decide +kernel
theorem dX7_turn_20 : decode cX7_turn 20 = .ok (.aload_n 0, 1) := by decide +kernel
theorem dX7_turn_21 : decode cX7_turn 21 = .ok (.getfield 9, 3) := by decide +kernel
theorem dX7_turn_24 : decode cX7_turn 24 = .ok (.iload_n 1, 1) := by decide +kernel
theorem dX7_turn_25 : decode cX7_turn 25 = .ok (.iaload, 1) := by decide +kernel
theorem dX7_turn_26 : decode cX7_turn 26 = .ok (.istore_n 3, 1) := by decide +kernel
theorem dX7_turn_27 : decode cX7_turn 27 = .ok (.aload_n 0, 1) := by decide +kernel
theorem dX7_turn_28 : decode cX7_turn 28 = .ok (.getfield 9, 3) := by decide +kernel
theorem dX7_turn_31 : decode cX7_turn 31 = .ok (.iload_n 1, 1) := by decide +kernel
theorem dX7_turn_32 : decode cX7_turn 32 = .ok (.aload_n 0, 1) := by decide +kernel
theorem dX7_turn_33 : decode cX7_turn 33 = .ok (.getfield 9, 3) := by decide +kernel
theorem dX7_turn_36 : decode cX7_turn 36 = .ok (.iload_n 2, 1) := by decide +kernel
theorem dX7_turn_37 : decode cX7_turn 37 = .ok (.iaload, 1) := by decide +kernel
theorem dX7_turn_38 : decode cX7_turn 38 = .ok (.iastore, 1) := by decide +kernel
theorem dX7_turn_39 : decode cX7_turn 39 = .ok (.aload_n 0, 1) := by decide +kernel
theorem dX7_turn_40 : decode cX7_turn 40 = .ok (.getfield 9, 3) := by decide +kernel
theorem dX7_turn_43 : decode cX7_turn 43 = .ok (.iload_n 2, 1) := by decide +kernel
theorem dX7_turn_44 : decode cX7_turn 44 = .ok (.iload_n 3, 1) := by decide +kernel
theorem dX7_turn_45 : decode cX7_turn 45 = .ok (.iastore, 1) := by decide +kernel
theorem dX7_turn_46 : decode cX7_turn 46 = .ok (.iinc 1 1, 3) := by decide +kernel
theorem dX7_turn_49 : decode cX7_turn 49 = .ok (.iinc 2 (-1), 3) := by decide +kernel
theorem dX7_turn_52 : decode cX7_turn 52 = .ok (.goto (-43), 3) := by decide +kernel
theorem dX7_turn_55 : decode cX7_turn 55 = .ok (.return_, 1) := by decide +kernel
