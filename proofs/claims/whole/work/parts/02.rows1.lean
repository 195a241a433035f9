theorem dX3_move_51 : decode cX3_move 51 = .ok (.putfield 62, 3) := by decide +kernel
theorem dX3_move_54 : decode cX3_move 54 = .ok (.aload_n 1, 1) := by decide +kernel
theorem dX3_move_55 : decode cX3_move 55 = .ok (.iload_n 2, 1) := by decide +kernel
theorem dX3_move_56 : decode cX3_move 56 = .ok (.aload_n 0, 1) := by decide +kernel
theorem dX3_move_57 : decode cX3_move 57 = .ok (.getfield 62, 3) := by decide +kernel
theorem dX3_move_60 : decode cX3_move 60 = .ok (.invokevirtual 141, 3) := by decide +kernel
theorem dX3_move_63 : decode cX3_move 63 = .ok (.aload_n 0, 1) := by decide +kernel
theorem dX3_move_64 : decode cX3_move 64 = .ok (.dup, 1) := by decide +kernel
theorem dX3_move_65 : decode cX3_move 65 = .ok (.getfield 77, 3) := by decide +kernel
theorem dX3_move_68 : decode cX3_move 68 = .ok (.aload_n 1, 1) := by decide +kernel
theorem dX3_move_69 : decode cX3_move 69 = .ok (.getfield 95, 3) := by decide +kernel
theorem dX3_move_72 : decode cX3_move 72 = .ok (.iload_n 2, 1) := by decide +kernel
theorem dX3_move_73 : decode cX3_move 73 = .ok (.iaload, 1) := by decide +kernel
theorem dX3_move_74 : decode cX3_move 74 = .ok (.iadd, 1) := by decide +kernel
theorem dX3_move_75 : decode cX3_move 75 = .ok (.putfield 77, 3) := by decide +kernel
theorem dX3_move_78 : decode cX3_move 78 = .ok (.return_, 1) := by decide +kernel
set_option maxRecDepth 20000 in
theorem ggX3_dirtyMoved_X5_itemAt : GoodIn wsX3_dirtyMoved wsX5_itemAt := goodIn_r _ [9, 10, 11, 36, 37] (by decide +kernel) (by decide +kernel)
set_option maxRecDepth 20000 in
theorem gX3_dirtyMoved_X5_itemAt : GoodIn wsX3_dirtyMoved (wsV RX3 110 RX5 yX5_itemAt wsX5_itemAt) := goodIn_app (goodIn_of _ (by decide +kernel)) ggX3_dirtyMoved_X5_itemAt
set_option maxRecDepth 20000 in
theorem ggX3_dirtyMoved_X1_cardOfThing : GoodIn wsX3_dirtyMoved wsX1_cardOfThing := goodIn_r _ [16, 17, 18, 19, 20, 21, 38, 39, 40, 41, 42, 43, 44, 45, 46, 47, 48, 49, 50, 51, 52, 53, 54, 55] (by decide +kernel) (by decide +kernel)
set_option maxRecDepth 20000 in
theorem gX3_dirtyMoved_X1_cardOfThing : GoodIn wsX3_dirtyMoved (wsV RX3 148 RX1 yX1_cardOfThing wsX1_cardOfThing) := goodIn_app (goodIn_of _ (by decide +kernel)) ggX3_dirtyMoved_X1_cardOfThing
set_option maxRecDepth 20000 in
theorem ggX3_dirtyMoved_X5_append : GoodIn wsX3_dirtyMoved wsX5_append := goodIn_r _ [25, 10, 11, 36, 37] (by decide +kernel) (by decide +kernel)
set_option maxRecDepth 20000 in
theorem gX3_dirtyMoved_X5_append : GoodIn wsX3_dirtyMoved (wsV RX3 91 RX5 yX5_append wsX5_append) := goodIn_app (goodIn_of _ (by decide +kernel)) ggX3_dirtyMoved_X5_append
set_option maxRecDepth 20000 in
theorem ggX3_dirtyMoved_X6_hasBit : GoodIn wsX3_dirtyMoved wsX6_hasBit := goodIn_r _ [27] (by decide +kernel) (by decide +kernel)
set_option maxRecDepth 20000 in
theorem gX3_dirtyMoved_X6_hasBit_n87 : GoodIn wsX3_dirtyMoved (wsX6_hasBit) := ggX3_dirtyMoved_X6_hasBit
theorem dX3_dirtyMoved_0 : decode cX3_dirtyMoved 0 = .ok (.iconst 0, 1) := by decide +kernel
theorem dX3_dirtyMoved_1 : decode cX3_dirtyMoved 1 = .ok (.istore_n 2, 1) := by decide +kernel
theorem dX3_dirtyMoved_2 : decode cX3_dirtyMoved 2 = .ok (.iload_n 2, 1) := by decide +kernel
theorem dX3_dirtyMoved_3 : decode cX3_dirtyMoved 3 = .ok (.bipush 32, 2) := by decide +kernel
theorem dX3_dirtyMoved_5 : decode cX3_dirtyMoved 5 = .ok (.if_icmp .ge 40, 3) := by decide +kernel
theorem dX3_dirtyMoved_8 : decode cX3_dirtyMoved 8 = .ok (.iload_n 2, 1) := by decide +kernel
theorem dX3_dirtyMoved_9 : decode cX3_dirtyMoved 9 = .ok (.aload_n 0, 1) := by decide +kernel
theorem dX3_dirtyMoved_10 : decode cX3_dirtyMoved 10 = .ok (.getfield 21, 3) := by decide +kernel
theorem dX3_dirtyMoved_13 : decode cX3_dirtyMoved 13 = .ok (.getfield 58, 3) := by decide +kernel
theorem dX3_dirtyMoved_16 : decode cX3_dirtyMoved 16 = .ok (.if_icmp .ge 29, 3) := by decide +kernel
theorem dX3_dirtyMoved_19 : decode cX3_dirtyMoved 19 = .ok (.aload_n 1, 1) := by decide +kernel
theorem dX3_dirtyMoved_20 : decode cX3_dirtyMoved 20 = .ok (.getfield 145, 3) := by decide +kernel
theorem dX3_dirtyMoved_23 : decode cX3_dirtyMoved 23 = .ok (.aload_n 1, 1) := by decide +kernel
theorem dX3_dirtyMoved_24 : decode cX3_dirtyMoved 24 = .ok (.aload_n 0, 1) := by decide +kernel
theorem dX3_dirtyMoved_25 : decode cX3_dirtyMoved 25 = .ok (.getfield 21, 3) := by decide +kernel
theorem dX3_dirtyMoved_28 : decode cX3_dirtyMoved 28 = .ok (.iload_n 2, 1) := by decide +kernel
theorem dX3_dirtyMoved_29 : decode cX3_dirtyMoved 29 = .ok (.invokevirtual 110, 3) := by decide +kernel
theorem dX3_dirtyMoved_32 : decode cX3_dirtyMoved 32 = .ok (.invokevirtual 148, 3) := by decide +kernel
theorem dX3_dirtyMoved_35 : decode cX3_dirtyMoved 35 = .ok (.invokevirtual 91, 3) := by decide +kernel
theorem dX3_dirtyMoved_38 : decode cX3_dirtyMoved 38 = .ok (.pop, 1) := by decide +kernel
theorem dX3_dirtyMoved_39 : decode cX3_dirtyMoved 39 = .ok (.iinc 2 1, 3) := by decide +kernel
theorem dX3_dirtyMoved_42 : decode cX3_dirtyMoved 42 = .ok (.goto (-40), 3) := by decide +kernel
theorem dX3_dirtyMoved_45 : decode cX3_dirtyMoved 45 = .ok (.iconst 0, 1) := by decide +kernel
theorem dX3_dirtyMoved_46 : decode cX3_dirtyMoved 46 = .ok (.istore_n 2, 1) := by decide +kernel
theorem dX3_dirtyMoved_47 : decode cX3_dirtyMoved 47 = .ok (.iload_n 2, 1) := by decide +kernel
theorem dX3_dirtyMoved_48 : decode cX3_dirtyMoved 48 = .ok (.bipush 20, 2) := by decide +kernel
theorem dX3_dirtyMoved_50 : decode cX3_dirtyMoved 50 = .ok (.if_icmp .ge 29, 3) := by decide +kernel
theorem dX3_dirtyMoved_53 : decode cX3_dirtyMoved 53 = .ok (.aload_n 0, 1) := by decide +kernel
theorem dX3_dirtyMoved_54 : decode cX3_dirtyMoved 54 = .ok (.getfield 65, 3) := by decide +kernel
theorem dX3_dirtyMoved_57 : decode cX3_dirtyMoved 57 = .ok (.iload_n 2, 1) := by decide +kernel
theorem dX3_dirtyMoved_58 : decode cX3_dirtyMoved 58 = .ok (.invokestatic 87, 3) := by decide +kernel
theorem dX3_dirtyMoved_61 : decode cX3_dirtyMoved 61 = .ok (.ifCond .eq 12, 3) := by decide +kernel
theorem dX3_dirtyMoved_64 : decode cX3_dirtyMoved 64 = .ok (.aload_n 1, 1) := by decide +kernel
theorem dX3_dirtyMoved_65 : decode cX3_dirtyMoved 65 = .ok (.getfield 145, 3) := by decide +kernel
theorem dX3_dirtyMoved_68 : decode cX3_dirtyMoved 68 = .ok (.iload_n 2, 1) := by decide +kernel
theorem dX3_dirtyMoved_69 : decode cX3_dirtyMoved 69 = .ok (.invokevirtual 91, 3) := by decide +kernel
theorem dX3_dirtyMoved_72 : decode cX3_dirtyMoved 72 = .ok (.pop, 1) := by decide +kernel
theorem dX3_dirtyMoved_73 : decode cX3_dirtyMoved 73 = .ok (.iinc 2 1, 3) := by decide +kernel
theorem dX3_dirtyMoved_76 : decode cX3_dirtyMoved 76 = .ok (.goto (-29), 3) := by decide +kernel
theorem dX3_dirtyMoved_79 : decode cX3_dirtyMoved 79 = .ok (.return_, 1) := by decide +kernel
set_option maxRecDepth 20000 in
theorem ggX3_sweepChosen_X6_hasBit : GoodIn wsX3_sweepChosen wsX6_hasBit := goodIn_r _ [6] (by decide +kernel) (by decide +kernel)
set_option maxRecDepth 20000 in
theorem gX3_sweepChosen_X6_hasBit_n87 : GoodIn wsX3_sweepChosen (wsX6_hasBit) := ggX3_sweepChosen_X6_hasBit
set_option maxRecDepth 20000 in
theorem ggX3_sweepChosen_X3_sweep : GoodIn wsX3_sweepChosen wsX3_sweep := goodIn_r _ [11, 12, 13, 14, 15, 16, 17, 18, 19, 20, 21, 22, 23, 24, 25, 4, 5, 6, 26, 27, 28, 29, 30, 31, 32, 33, 34, 35, 36, 37, 38, 39, 40, 41, 42, 43, 44, 45, 46, 47, 48, 49, 50, 51, 52, 53, 54, 55, 56, 57, 58, 59, 60, 61, 62, 63, 64, 65, 66, 67, 71, 72, 73, 74, 75, 76, 77, 78, 79, 80, 81, 82, 83, 84, 85, 86, 87, 88, 89, 90] (by decide +kernel) (by decide +kernel)
set_option maxRecDepth 20000 in
theorem gX3_sweepChosen_X3_sweep : GoodIn wsX3_sweepChosen (wsV RX3 151 RX3 yX3_sweep wsX3_sweep) := goodIn_app (goodIn_of _ (by decide +kernel)) ggX3_sweepChosen_X3_sweep
theorem dX3_sweepChosen_0 : decode cX3_sweepChosen 0 = .ok (.iconst 0, 1) := by decide +kernel
theorem dX3_sweepChosen_1 : decode cX3_sweepChosen 1 = .ok (.istore_n 2, 1) := by decide +kernel
theorem dX3_sweepChosen_2 : decode cX3_sweepChosen 2 = .ok (.iload_n 2, 1) := by decide +kernel
theorem dX3_sweepChosen_3 : decode cX3_sweepChosen 3 = .ok (.bipush 10, 2) := by decide +kernel
theorem dX3_sweepChosen_5 : decode cX3_sweepChosen 5 = .ok (.if_icmp .ge 29, 3) := by decide +kernel
theorem dX3_sweepChosen_8 : decode cX3_sweepChosen 8 = .ok (.aload_n 0, 1) := by decide +kernel
theorem dX3_sweepChosen_9 : decode cX3_sweepChosen 9 = .ok (.getfield 12, 3) := by decide +kernel
theorem dX3_sweepChosen_12 : decode cX3_sweepChosen 12 = .ok (.getfield 80, 3) := by decide +kernel
theorem dX3_sweepChosen_15 : decode cX3_sweepChosen 15 = .ok (.iload_n 2, 1) := by decide +kernel
theorem dX3_sweepChosen_16 : decode cX3_sweepChosen 16 = .ok (.invokestatic 87, 3) := by decide +kernel
theorem dX3_sweepChosen_19 : decode cX3_sweepChosen 19 = .ok (.ifCond .eq 9, 3) := by decide +kernel
theorem dX3_sweepChosen_22 : decode cX3_sweepChosen 22 = .ok (.aload_n 0, 1) := by decide +kernel
theorem dX3_sweepChosen_23 : decode cX3_sweepChosen 23 = .ok (.aload_n 1, 1) := by decide +kernel
theorem dX3_sweepChosen_24 : decode cX3_sweepChosen 24 = .ok (.iload_n 2, 1) := by decide +kernel
theorem dX3_sweepChosen_25 : decode cX3_sweepChosen 25 = .ok (.invokevirtual 151, 3) := by decide +kernel
theorem dX3_sweepChosen_28 : decode cX3_sweepChosen 28 = .ok (.iinc 2 1, 3) := by decide +kernel
theorem dX3_sweepChosen_31 : decode cX3_sweepChosen 31 = .ok (.goto (-29), 3) := by decide +kernel
theorem dX3_sweepChosen_34 : decode cX3_sweepChosen 34 = .ok (.aload_n 1, 1) := by decide +kernel
theorem dX3_sweepChosen_35 : decode cX3_sweepChosen 35 = .ok (.bipush (-9), 2) := by decide +kernel
theorem dX3_sweepChosen_37 : decode cX3_sweepChosen 37 = .ok (.putfield 154, 3) := by decide +kernel
theorem dX3_sweepChosen_40 : decode cX3_sweepChosen 40 = .ok (.return_, 1) := by decide +kernel
set_option maxRecDepth 20000 in
theorem ggX3_sweep_X1_isIn : GoodIn wsX3_sweep wsX1_isIn := goodIn_r _ [8, 9, 10, 11, 12, 7, 13, 14, 60, 61, 62, 63, 64, 65, 66, 67, 68, 69, 70, 71, 72, 73, 74, 75, 76, 77] (by decide +kernel) (by decide +kernel)
set_option maxRecDepth 20000 in
theorem gX3_sweep_X1_isIn : GoodIn wsX3_sweep (wsV RX3 157 RX1 yX1_isIn wsX1_isIn) := goodIn_app (goodIn_of _ (by decide +kernel)) ggX3_sweep_X1_isIn
set_option maxRecDepth 20000 in
theorem ggX3_sweep_X6_hasBit : GoodIn wsX3_sweep wsX6_hasBit := goodIn_r _ [17] (by decide +kernel) (by decide +kernel)
set_option maxRecDepth 20000 in
theorem gX3_sweep_X6_hasBit_n87 : GoodIn wsX3_sweep (wsX6_hasBit) := ggX3_sweep_X6_hasBit
set_option maxRecDepth 20000 in
theorem ggX3_sweep_X1_endThing : GoodIn wsX3_sweep wsX1_endThing := goodIn_r _ [21, 14, 22, 60, 61, 62, 63, 64, 65, 66, 67, 68, 69, 70, 71, 72, 73, 74, 75, 76, 77] (by decide +kernel) (by decide +kernel)
set_option maxRecDepth 20000 in
theorem gX3_sweep_X1_endThing : GoodIn wsX3_sweep (wsV RX3 160 RX1 yX1_endThing wsX1_endThing) := goodIn_app (goodIn_of _ (by decide +kernel)) ggX3_sweep_X1_endThing
set_option maxRecDepth 20000 in
theorem ggX3_sweep_X1_thingsIn : GoodIn wsX3_sweep wsX1_thingsIn := goodIn_r _ [26, 27, 5, 6, 7, 8, 9, 10, 11, 12, 13, 14, 60, 61, 62, 63, 64, 65, 66, 67, 68, 69, 70, 71, 72, 73, 74, 75, 76, 77] (by decide +kernel) (by decide +kernel)
set_option maxRecDepth 20000 in
theorem gX3_sweep_X1_thingsIn : GoodIn wsX3_sweep (wsV RX3 164 RX1 yX1_thingsIn wsX1_thingsIn) := goodIn_app (goodIn_of _ (by decide +kernel)) ggX3_sweep_X1_thingsIn
set_option maxRecDepth 20000 in
theorem ggX3_sweep_X1_freeWithRests : GoodIn wsX3_sweep wsX1_freeWithRests := goodIn_r _ [31, 32, 33, 34, 35, 7, 36, 37, 38, 39, 40, 41, 16, 42, 43, 44, 45, 46, 47, 48, 49, 50, 51, 60, 61, 62, 63, 64, 65, 66, 67, 68, 69, 70, 71, 72, 73, 74, 75, 76, 77, 78, 79] (by decide +kernel) (by decide +kernel)
set_option maxRecDepth 20000 in
theorem gX3_sweep_X1_freeWithRests : GoodIn wsX3_sweep (wsV RX3 167 RX1 yX1_freeWithRests wsX1_freeWithRests) := goodIn_app (goodIn_of _ (by decide +kernel)) ggX3_sweep_X1_freeWithRests
theorem dX3_sweep_0 : decode cX3_sweep 0 = .ok (.iconst 0, 1) := by decide +kernel
theorem dX3_sweep_1 : decode cX3_sweep 1 = .ok (.istore_n 3, 1) := by decide +kernel
theorem dX3_sweep_2 : decode cX3_sweep 2 = .ok (.iload_n 3, 1) := by decide +kernel
theorem dX3_sweep_3 : decode cX3_sweep 3 = .ok (.bipush 32, 2) := by decide +kernel
theorem dX3_sweep_5 : decode cX3_sweep 5 = .ok (.if_icmp .ge 34, 3) := by decide +kernel
theorem dX3_sweep_8 : decode cX3_sweep 8 = .ok (.aload_n 1, 1) := by decide +kernel
theorem dX3_sweep_9 : decode cX3_sweep 9 = .ok (.iload_n 3, 1) := by decide +kernel
theorem dX3_sweep_10 : decode cX3_sweep 10 = .ok (.iload_n 2, 1) := by decide +kernel
theorem dX3_sweep_11 : decode cX3_sweep 11 = .ok (.invokevirtual 157, 3) := by decide +kernel
theorem dX3_sweep_14 : decode cX3_sweep 14 = .ok (.ifCond .eq 19, 3) := by decide +kernel
theorem dX3_sweep_17 : decode cX3_sweep 17 = .ok (.aload_n 0, 1) := by decide +kernel
theorem dX3_sweep_18 : decode cX3_sweep 18 = .ok (.getfield 68, 3) := by decide +kernel
theorem dX3_sweep_21 : decode cX3_sweep 21 = .ok (.iload_n 3, 1) := by decide +kernel
theorem dX3_sweep_22 : decode cX3_sweep 22 = .ok (.invokestatic 87, 3) := by decide +kernel
theorem dX3_sweep_25 : decode cX3_sweep 25 = .ok (.ifCond .ne 8, 3) := by decide +kernel
theorem dX3_sweep_28 : decode cX3_sweep 28 = .ok (.aload_n 1, 1) := by decide +kernel
theorem dX3_sweep_29 : decode cX3_sweep 29 = .ok (.iload_n 3, 1) := by decide +kernel
theorem dX3_sweep_30 : decode cX3_sweep 30 = .ok (.invokevirtual 160, 3) := by decide +kernel
theorem dX3_sweep_33 : decode cX3_sweep 33 = .ok (.iinc 3 1, 3) := by decide +kernel
theorem dX3_sweep_36 : decode cX3_sweep 36 = .ok (.goto (-34), 3) := by decide +kernel
theorem dX3_sweep_39 : decode cX3_sweep 39 = .ok (.aload_n 1, 1) := by decide +kernel
theorem dX3_sweep_40 : decode cX3_sweep 40 = .ok (.iload_n 2, 1) := by decide +kernel
theorem dX3_sweep_41 : decode cX3_sweep 41 = .ok (.invokevirtual 164, 3) := by decide +kernel
theorem dX3_sweep_44 : decode cX3_sweep 44 = .ok (.ifCond .ne 11, 3) := by decide +kernel
theorem dX3_sweep_47 : decode cX3_sweep 47 = .ok (.aload_n 1, 1) := by decide +kernel
theorem dX3_sweep_48 : decode cX3_sweep 48 = .ok (.iload_n 2, 1) := by decide +kernel
theorem dX3_sweep_49 : decode cX3_sweep 49 = .ok (.invokevirtual 167, 3) := by decide +kernel
theorem dX3_sweep_52 : decode cX3_sweep 52 = .ok (.goto 18, 3) := by decide +kernel
theorem dX3_sweep_55 : decode cX3_sweep 55 = .ok (.aload_n 1, 1) := by decide +kernel
theorem dX3_sweep_56 : decode cX3_sweep 56 = .ok (.getfield 98, 3) := by decide +kernel
theorem dX3_sweep_59 : decode cX3_sweep 59 = .ok (.iload_n 2, 1) := by decide +kernel
theorem dX3_sweep_60 : decode cX3_sweep 60 = .ok (.iconst 2, 1) := by decide +kernel
theorem dX3_sweep_61 : decode cX3_sweep 61 = .ok (.iastore, 1) := by decide +kernel
theorem dX3_sweep_62 : decode cX3_sweep 62 = .ok (.aload_n 1, 1) := by decide +kernel
theorem dX3_sweep_63 : decode cX3_sweep 63 = .ok (.getfield 170, 3) := by decide +kernel
theorem dX3_sweep_66 : decode cX3_sweep 66 = .ok (.iload_n 2, 1) := by decide +kernel
theorem dX3_sweep_67 : decode cX3_sweep 67 = .ok (.bipush (-9), 2) := by decide +kernel
theorem dX3_sweep_69 : decode cX3_sweep 69 = .ok (.iastore, 1) := by decide +kernel
theorem dX3_sweep_70 : decode cX3_sweep 70 = .ok (.return_, 1) := by decide +kernel
set_option maxRecDepth 20000 in
theorem ggX3_tellCost_J6_bitCount_0f7a4 : GoodIn wsX3_tellCost wsJ6_bitCount_0f7a4 := goodIn_r _ [17, 18, 19, 20] (by decide +kernel) (by decide +kernel)
set_option maxRecDepth 20000 in
theorem gX3_tellCost_J6_bitCount_0f7a4 : GoodIn wsX3_tellCost (va_wsS RX3 173 yJ6_bitCount_0f7a4 wsJ6_bitCount_0f7a4) := goodIn_app (goodIn_of _ (by decide +kernel)) ggX3_tellCost_J6_bitCount_0f7a4
theorem dX3_tellCost_0 : decode cX3_tellCost 0 = .ok (.aload_n 0, 1) := by decide +kernel
theorem dX3_tellCost_1 : decode cX3_tellCost 1 = .ok (.getfield 77, 3) := by decide +kernel
theorem dX3_tellCost_4 : decode cX3_tellCost 4 = .ok (.iconst 2, 1) := by decide +kernel
theorem dX3_tellCost_5 : decode cX3_tellCost 5 = .ok (.aload_n 0, 1) := by decide +kernel
theorem dX3_tellCost_6 : decode cX3_tellCost 6 = .ok (.getfield 65, 3) := by decide +kernel
theorem dX3_tellCost_9 : decode cX3_tellCost 9 = .ok (.invokestatic 173, 3) := by decide +kernel
theorem dX3_tellCost_12 : decode cX3_tellCost 12 = .ok (.imul, 1) := by decide +kernel
theorem dX3_tellCost_13 : decode cX3_tellCost 13 = .ok (.iadd, 1) := by decide +kernel
theorem dX3_tellCost_14 : decode cX3_tellCost 14 = .ok (.iconst 5, 1) := by decide +kernel
theorem dX3_tellCost_15 : decode cX3_tellCost 15 = .ok (.aload_n 0, 1) := by decide +kernel
theorem dX3_tellCost_16 : decode cX3_tellCost 16 = .ok (.getfield 68, 3) := by decide +kernel
theorem dX3_tellCost_19 : decode cX3_tellCost 19 = .ok (.invokestatic 173, 3) := by decide +kernel
theorem dX3_tellCost_22 : decode cX3_tellCost 22 = .ok (.imul, 1) := by decide +kernel
theorem dX3_tellCost_23 : decode cX3_tellCost 23 = .ok (.iadd, 1) := by decide +kernel
theorem dX3_tellCost_24 : decode cX3_tellCost 24 = .ok (.istore_n 2, 1) := by decide +kernel
theorem dX3_tellCost_25 : decode cX3_tellCost 25 = .ok (.aload_n 0, 1) := by decide +kernel
theorem dX3_tellCost_26 : decode cX3_tellCost 26 = .ok (.getfield 71, 3) := by decide +kernel
theorem dX3_tellCost_29 : decode cX3_tellCost 29 = .ok (.ifCond .le 26, 3) := by decide +kernel
theorem dX3_tellCost_32 : decode cX3_tellCost 32 = .ok (.aload_n 1, 1) := by decide +kernel
theorem dX3_tellCost_33 : decode cX3_tellCost 33 = .ok (.ldc 178, 2) := by decide +kernel
theorem dX3_tellCost_35 : decode cX3_tellCost 35 = .ok (.aload_n 1, 1) := by decide +kernel
theorem dX3_tellCost_36 : decode cX3_tellCost 36 = .ok (.getfield 179, 3) := by decide +kernel
theorem dX3_tellCost_39 : decode cX3_tellCost 39 = .ok (.fmul, 1) := by decide +kernel
theorem dX3_tellCost_40 : decode cX3_tellCost 40 = .ok (.ldc 183, 2) := by decide +kernel
theorem dX3_tellCost_42 : decode cX3_tellCost 42 = .ok (.iload_n 2, 1) := by decide +kernel
theorem dX3_tellCost_43 : decode cX3_tellCost 43 = .ok (.i2f, 1) := by decide +kernel
theorem dX3_tellCost_44 : decode cX3_tellCost 44 = .ok (.aload_n 0, 1) := by decide +kernel
theorem dX3_tellCost_45 : decode cX3_tellCost 45 = .ok (.getfield 71, 3) := by decide +kernel
theorem dX3_tellCost_48 : decode cX3_tellCost 48 = .ok (.i2f, 1) := by decide +kernel
theorem dX3_tellCost_49 : decode cX3_tellCost 49 = .ok (.fdiv, 1) := by decide +kernel
theorem dX3_tellCost_50 : decode cX3_tellCost 50 = .ok (.fmul, 1) := by decide +kernel
theorem dX3_tellCost_51 : decode cX3_tellCost 51 = .ok (.fadd, 1) := by decide +kernel
theorem dX3_tellCost_52 : decode cX3_tellCost 52 = .ok (.putfield 179, 3) := by decide +kernel
theorem dX3_tellCost_55 : decode cX3_tellCost 55 = .ok (.aload_n 0, 1) := by decide +kernel
theorem dX3_tellCost_56 : decode cX3_tellCost 56 = .ok (.getfield 12, 3) := by decide +kernel
theorem dX3_tellCost_59 : decode cX3_tellCost 59 = .ok (.getfield 184, 3) := by decide +kernel
theorem dX3_tellCost_62 : decode cX3_tellCost 62 = .ok (.ifCond .le 32, 3) := by decide +kernel
theorem dX3_tellCost_65 : decode cX3_tellCost 65 = .ok (.aload_n 1, 1) := by decide +kernel
theorem dX3_tellCost_66 : decode cX3_tellCost 66 = .ok (.ldc 178, 2) := by decide +kernel
theorem dX3_tellCost_68 : decode cX3_tellCost 68 = .ok (.aload_n 1, 1) := by decide +kernel
theorem dX3_tellCost_69 : decode cX3_tellCost 69 = .ok (.getfield 187, 3) := by decide +kernel
theorem dX3_tellCost_72 : decode cX3_tellCost 72 = .ok (.fmul, 1) := by decide +kernel
theorem dX3_tellCost_73 : decode cX3_tellCost 73 = .ok (.ldc 183, 2) := by decide +kernel
theorem dX3_tellCost_75 : decode cX3_tellCost 75 = .ok (.aload_n 0, 1) := by decide +kernel
theorem dX3_tellCost_76 : decode cX3_tellCost 76 = .ok (.getfield 74, 3) := by decide +kernel
theorem dX3_tellCost_79 : decode cX3_tellCost 79 = .ok (.i2f, 1) := by decide +kernel
theorem dX3_tellCost_80 : decode cX3_tellCost 80 = .ok (.aload_n 0, 1) := by decide +kernel
theorem dX3_tellCost_81 : decode cX3_tellCost 81 = .ok (.getfield 12, 3) := by decide +kernel
theorem dX3_tellCost_84 : decode cX3_tellCost 84 = .ok (.getfield 184, 3) := by decide +kernel
theorem dX3_tellCost_87 : decode cX3_tellCost 87 = .ok (.i2f, 1) := by decide +kernel
theorem dX3_tellCost_88 : decode cX3_tellCost 88 = .ok (.fdiv, 1) := by decide +kernel
theorem dX3_tellCost_89 : decode cX3_tellCost 89 = .ok (.fmul, 1) := by decide +kernel
theorem dX3_tellCost_90 : decode cX3_tellCost 90 = .ok (.fadd, 1) := by decide +kernel
theorem dX3_tellCost_91 : decode cX3_tellCost 91 = .ok (.putfield 187, 3) := by decide +kernel
theorem dX3_tellCost_94 : decode cX3_tellCost 94 = .ok (.aload_n 1, 1) := by decide +kernel
theorem dX3_tellCost_95 : decode cX3_tellCost 95 = .ok (.dup, 1) := by decide +kernel
theorem dX3_tellCost_96 : decode cX3_tellCost 96 = .ok (.getfield 190, 3) := by decide +kernel
theorem dX3_tellCost_99 : decode cX3_tellCost 99 = .ok (.iconst 1, 1) := by decide +kernel
theorem dX3_tellCost_100 : decode cX3_tellCost 100 = .ok (.iadd, 1) := by decide +kernel
theorem dX3_tellCost_101 : decode cX3_tellCost 101 = .ok (.putfield 190, 3) := by decide +kernel
theorem dX3_tellCost_104 : decode cX3_tellCost 104 = .ok (.aload_n 1, 1) := by decide +kernel
theorem dX3_tellCost_105 : decode cX3_tellCost 105 = .ok (.bipush 10, 2) := by decide +kernel
theorem dX3_tellCost_107 : decode cX3_tellCost 107 = .ok (.iload_n 2, 1) := by decide +kernel
theorem dX3_tellCost_108 : decode cX3_tellCost 108 = .ok (.iadd, 1) := by decide +kernel
theorem dX3_tellCost_109 : decode cX3_tellCost 109 = .ok (.putfield 193, 3) := by decide +kernel
theorem dX3_tellCost_112 : decode cX3_tellCost 112 = .ok (.aload_n 1, 1) := by decide +kernel
theorem dX3_tellCost_113 : decode cX3_tellCost 113 = .ok (.getfield 193, 3) := by decide +kernel
theorem dX3_tellCost_116 : decode cX3_tellCost 116 = .ok (.ireturn, 1) := by decide +kernel
set_option maxRecDepth 20000 in
theorem ggX4_init_X5_init : GoodIn wsX4_init wsX5_init := goodIn_r _ [11, 12, 2, 3, 4, 13, 17, 18] (by decide +kernel) (by decide +kernel)
set_option maxRecDepth 20000 in
theorem gX4_init_X5_init_n17 : GoodIn wsX4_init (wsX5_init) := ggX4_init_X5_init
theorem dX4_init_0 : decode cX4_init 0 = .ok (.aload_n 0, 1) := by decide +kernel
theorem dX4_init_1 : decode cX4_init 1 = .ok (.invokespecial 3, 3) := by decide +kernel
theorem dX4_init_4 : decode cX4_init 4 = .ok (.aload_n 0, 1) := by decide +kernel
theorem dX4_init_5 : decode cX4_init 5 = .ok (.bipush 32, 2) := by decide +kernel
theorem dX4_init_7 : decode cX4_init 7 = .ok (.newarray .int, 2) := by decide +kernel
theorem dX4_init_9 : decode cX4_init 9 = .ok (.putfield 9, 3) := by decide +kernel
theorem dX4_init_12 : decode cX4_init 12 = .ok (.aload_n 0, 1) := by decide +kernel
theorem dX4_init_13 : decode cX4_init 13 = .ok (.new 15, 3) := by decide +kernel
theorem dX4_init_16 : decode cX4_init 16 = .ok (.dup, 1) := by decide +kernel
theorem dX4_init_17 : decode cX4_init 17 = .ok (.invokespecial 17, 3) := by decide +kernel
theorem dX4_init_20 : decode cX4_init 20 = .ok (.putfield 18, 3) := by decide +kernel
theorem dX4_init_23 : decode cX4_init 23 = .ok (.return_, 1) := by decide +kernel
set_option maxRecDepth 20000 in
theorem ggX4_findReached_X4_enter : GoodIn wsX4_findReached wsX4_enter := goodIn_r _ [9, 2, 1, 10, 11, 12, 13, 14, 15, 16, 27, 28, 29, 30, 31] (by decide +kernel) (by decide +kernel)
set_option maxRecDepth 20000 in
theorem gX4_findReached_X4_enter : GoodIn wsX4_findReached (wsV RX4 34 RX4 yX4_enter wsX4_enter) := goodIn_app (goodIn_of _ (by decide +kernel)) ggX4_findReached_X4_enter
set_option maxRecDepth 20000 in
theorem ggX4_findReached_X5_itemAt : GoodIn wsX4_findReached wsX5_itemAt := goodIn_r _ [20, 15, 16, 30, 31] (by decide +kernel) (by decide +kernel)
set_option maxRecDepth 20000 in
theorem gX4_findReached_X5_itemAt : GoodIn wsX4_findReached (wsV RX4 38 RX5 yX5_itemAt wsX5_itemAt) := goodIn_app (goodIn_of _ (by decide +kernel)) ggX4_findReached_X5_itemAt
set_option maxRecDepth 20000 in
theorem ggX4_findReached_X1_fieldOf : GoodIn wsX4_findReached wsX1_fieldOf := goodIn_r _ [25, 26, 32, 33, 34, 35, 36, 37, 38, 39, 40, 41, 42, 43, 44, 45, 46, 47, 48, 49] (by decide +kernel) (by decide +kernel)
set_option maxRecDepth 20000 in
theorem gX4_findReached_X1_fieldOf : GoodIn wsX4_findReached (wsV RX4 42 RX1 yX1_fieldOf wsX1_fieldOf) := goodIn_app (goodIn_of _ (by decide +kernel)) ggX4_findReached_X1_fieldOf
theorem dX4_findReached_0 : decode cX4_findReached 0 = .ok (.aload_n 0, 1) := by decide +kernel
theorem dX4_findReached_1 : decode cX4_findReached 1 = .ok (.iconst 0, 1) := by decide +kernel
theorem dX4_findReached_2 : decode cX4_findReached 2 = .ok (.putfield 22, 3) := by decide +kernel
theorem dX4_findReached_5 : decode cX4_findReached 5 = .ok (.aload_n 0, 1) := by decide +kernel
theorem dX4_findReached_6 : decode cX4_findReached 6 = .ok (.getfield 18, 3) := by decide +kernel
theorem dX4_findReached_9 : decode cX4_findReached 9 = .ok (.iconst 0, 1) := by decide +kernel
theorem dX4_findReached_10 : decode cX4_findReached 10 = .ok (.putfield 26, 3) := by decide +kernel
theorem dX4_findReached_13 : decode cX4_findReached 13 = .ok (.iconst 0, 1) := by decide +kernel
theorem dX4_findReached_14 : decode cX4_findReached 14 = .ok (.istore_n 2, 1) := by decide +kernel
theorem dX4_findReached_15 : decode cX4_findReached 15 = .ok (.iload_n 2, 1) := by decide +kernel
theorem dX4_findReached_16 : decode cX4_findReached 16 = .ok (.bipush 6, 2) := by decide +kernel
theorem dX4_findReached_18 : decode cX4_findReached 18 = .ok (.if_icmp .ge 19, 3) := by decide +kernel
theorem dX4_findReached_21 : decode cX4_findReached 21 = .ok (.aload_n 0, 1) := by decide +kernel
theorem dX4_findReached_22 : decode cX4_findReached 22 = .ok (.aload_n 1, 1) := by decide +kernel
theorem dX4_findReached_23 : decode cX4_findReached 23 = .ok (.getfield 29, 3) := by decide +kernel
theorem dX4_findReached_26 : decode cX4_findReached 26 = .ok (.iload_n 2, 1) := by decide +kernel
theorem dX4_findReached_27 : decode cX4_findReached 27 = .ok (.iaload, 1) := by decide +kernel
theorem dX4_findReached_28 : decode cX4_findReached 28 = .ok (.invokevirtual 34, 3) := by decide +kernel
theorem dX4_findReached_31 : decode cX4_findReached 31 = .ok (.iinc 2 1, 3) := by decide +kernel
theorem dX4_findReached_34 : decode cX4_findReached 34 = .ok (.goto (-19), 3) := by decide +kernel
theorem dX4_findReached_37 : decode cX4_findReached 37 = .ok (.iconst 0, 1) := by decide +kernel
theorem dX4_findReached_38 : decode cX4_findReached 38 = .ok (.istore_n 2, 1) := by decide +kernel
theorem dX4_findReached_39 : decode cX4_findReached 39 = .ok (.iload_n 2, 1) := by decide +kernel
theorem dX4_findReached_40 : decode cX4_findReached 40 = .ok (.bipush 32, 2) := by decide +kernel
theorem dX4_findReached_42 : decode cX4_findReached 42 = .ok (.if_icmp .ge 49, 3) := by decide +kernel
theorem dX4_findReached_45 : decode cX4_findReached 45 = .ok (.iload_n 2, 1) := by decide +kernel
theorem dX4_findReached_46 : decode cX4_findReached 46 = .ok (.aload_n 0, 1) := by decide +kernel
theorem dX4_findReached_47 : decode cX4_findReached 47 = .ok (.getfield 18, 3) := by decide +kernel
theorem dX4_findReached_50 : decode cX4_findReached 50 = .ok (.getfield 26, 3) := by decide +kernel
theorem dX4_findReached_53 : decode cX4_findReached 53 = .ok (.if_icmp .ge 38, 3) := by decide +kernel
theorem dX4_findReached_56 : decode cX4_findReached 56 = .ok (.aload_n 0, 1) := by decide +kernel
theorem dX4_findReached_57 : decode cX4_findReached 57 = .ok (.getfield 18, 3) := by decide +kernel
theorem dX4_findReached_60 : decode cX4_findReached 60 = .ok (.iload_n 2, 1) := by decide +kernel
theorem dX4_findReached_61 : decode cX4_findReached 61 = .ok (.invokevirtual 38, 3) := by decide +kernel
theorem dX4_findReached_64 : decode cX4_findReached 64 = .ok (.istore_n 3, 1) := by decide +kernel
theorem dX4_findReached_65 : decode cX4_findReached 65 = .ok (.aload_n 0, 1) := by decide +kernel
theorem dX4_findReached_66 : decode cX4_findReached 66 = .ok (.aload_n 1, 1) := by decide +kernel
theorem dX4_findReached_67 : decode cX4_findReached 67 = .ok (.iload_n 3, 1) := by decide +kernel
theorem dX4_findReached_68 : decode cX4_findReached 68 = .ok (.iconst 0, 1) := by decide +kernel
theorem dX4_findReached_69 : decode cX4_findReached 69 = .ok (.invokevirtual 42, 3) := by decide +kernel
theorem dX4_findReached_72 : decode cX4_findReached 72 = .ok (.invokevirtual 34, 3) := by decide +kernel
theorem dX4_findReached_75 : decode cX4_findReached 75 = .ok (.aload_n 0, 1) := by decide +kernel
theorem dX4_findReached_76 : decode cX4_findReached 76 = .ok (.aload_n 1, 1) := by decide +kernel
theorem dX4_findReached_77 : decode cX4_findReached 77 = .ok (.iload_n 3, 1) := by decide +kernel
theorem dX4_findReached_78 : decode cX4_findReached 78 = .ok (.iconst 1, 1) := by decide +kernel
theorem dX4_findReached_79 : decode cX4_findReached 79 = .ok (.invokevirtual 42, 3) := by decide +kernel
theorem dX4_findReached_82 : decode cX4_findReached 82 = .ok (.invokevirtual 34, 3) := by decide +kernel
theorem dX4_findReached_85 : decode cX4_findReached 85 = .ok (.iinc 2 1, 3) := by decide +kernel
theorem dX4_findReached_88 : decode cX4_findReached 88 = .ok (.goto (-49), 3) := by decide +kernel
theorem dX4_findReached_91 : decode cX4_findReached 91 = .ok (.return_, 1) := by decide +kernel
set_option maxRecDepth 20000 in
theorem ggX4_enter_X5_append : GoodIn wsX4_enter wsX5_append := goodIn_r _ [7, 8, 9, 13, 14] (by decide +kernel) (by decide +kernel)
set_option maxRecDepth 20000 in
theorem gX4_enter_X5_append : GoodIn wsX4_enter (wsV RX4 46 RX5 yX5_append wsX5_append) := goodIn_app (goodIn_of _ (by decide +kernel)) ggX4_enter_X5_append
theorem dX4_enter_0 : decode cX4_enter 0 = .ok (.iload_n 1, 1) := by decide +kernel
theorem dX4_enter_1 : decode cX4_enter 1 = .ok (.bipush (-5), 2) := by decide +kernel
theorem dX4_enter_3 : decode cX4_enter 3 = .ok (.if_icmp .eq 26, 3) := by decide +kernel
theorem dX4_enter_6 : decode cX4_enter 6 = .ok (.aload_n 0, 1) := by decide +kernel
theorem dX4_enter_7 : decode cX4_enter 7 = .ok (.getfield 18, 3) := by decide +kernel
theorem dX4_enter_10 : decode cX4_enter 10 = .ok (.iload_n 1, 1) := by decide +kernel
theorem dX4_enter_11 : decode cX4_enter 11 = .ok (.invokevirtual 46, 3) := by decide +kernel
theorem dX4_enter_14 : decode cX4_enter 14 = .ok (.ifCond .eq 15, 3) := by decide +kernel
theorem dX4_enter_17 : decode cX4_enter 17 = .ok (.aload_n 0, 1) := by decide +kernel
theorem dX4_enter_18 : decode cX4_enter 18 = .ok (.dup, 1) := by decide +kernel
theorem dX4_enter_19 : decode cX4_enter 19 = .ok (.getfield 22, 3) := by decide +kernel
theorem dX4_enter_22 : decode cX4_enter 22 = .ok (.iconst 1, 1) := by decide +kernel
theorem dX4_enter_23 : decode cX4_enter 23 = .ok (.iload_n 1, 1) := by decide +kernel
theorem dX4_enter_24 : decode cX4_enter 24 = .ok (.ishl, 1) := by decide +kernel
theorem dX4_enter_25 : decode cX4_enter 25 = .ok (.ior, 1) := by decide +kernel
theorem dX4_enter_26 : decode cX4_enter 26 = .ok (.putfield 22, 3) := by decide +kernel
theorem dX4_enter_29 : decode cX4_enter 29 = .ok (.return_, 1) := by decide +kernel
set_option maxRecDepth 20000 in
theorem ggX4_measureTo_J7_fill_53178 : GoodIn wsX4_measureTo wsJ7_fill_53178 := goodIn_r _ [5] (by decide +kernel) (by decide +kernel)
set_option maxRecDepth 20000 in
theorem gX4_measureTo_J7_fill_53178 : GoodIn wsX4_measureTo (va_wsS RX4 50 yJ7_fill_53178 wsJ7_fill_53178) := goodIn_app (goodIn_of _ (by decide +kernel)) ggX4_measureTo_J7_fill_53178
set_option maxRecDepth 20000 in
theorem ggX4_measureTo_X1_isThere : GoodIn wsX4_measureTo wsX1_isThere := goodIn_r _ [10, 11, 29, 30, 31, 32, 33, 34, 35, 36, 37, 38, 39, 40, 41, 42, 43, 44, 45, 46] (by decide +kernel) (by decide +kernel)
set_option maxRecDepth 20000 in
theorem gX4_measureTo_X1_isThere : GoodIn wsX4_measureTo (wsV RX4 56 RX1 yX1_isThere wsX1_isThere) := goodIn_app (goodIn_of _ (by decide +kernel)) ggX4_measureTo_X1_isThere
set_option maxRecDepth 20000 in
theorem ggX4_measureTo_X4_leadsTo : GoodIn wsX4_measureTo wsX4_leadsTo := goodIn_r _ [16, 17, 18, 19, 9, 20, 21, 22, 23, 24, 15, 25, 1, 29, 30, 31, 32, 33, 34, 35, 36, 37, 38, 39, 40, 41, 42, 43, 44, 45, 46, 26, 27, 28] (by decide +kernel) (by decide +kernel)
set_option maxRecDepth 20000 in
theorem gX4_measureTo_X4_leadsTo : GoodIn wsX4_measureTo (wsV RX4 59 RX4 yX4_leadsTo wsX4_leadsTo) := goodIn_app (goodIn_of _ (by decide +kernel)) ggX4_measureTo_X4_leadsTo
theorem dX4_measureTo_0 : decode cX4_measureTo 0 = .ok (.aload_n 0, 1) := by decide +kernel
theorem dX4_measureTo_1 : decode cX4_measureTo 1 = .ok (.getfield 9, 3) := by decide +kernel
theorem dX4_measureTo_4 : decode cX4_measureTo 4 = .ok (.iconst 0, 1) := by decide +kernel
theorem dX4_measureTo_5 : decode cX4_measureTo 5 = .ok (.invokestatic 50, 3) := by decide +kernel
theorem dX4_measureTo_8 : decode cX4_measureTo 8 = .ok (.aload_n 0, 1) := by decide +kernel
theorem dX4_measureTo_9 : decode cX4_measureTo 9 = .ok (.getfield 9, 3) := by decide +kernel
theorem dX4_measureTo_12 : decode cX4_measureTo 12 = .ok (.iload_n 2, 1) := by decide +kernel
theorem dX4_measureTo_13 : decode cX4_measureTo 13 = .ok (.iconst 1, 1) := by decide +kernel
theorem dX4_measureTo_14 : decode cX4_measureTo 14 = .ok (.iastore, 1) := by decide +kernel
theorem dX4_measureTo_15 : decode cX4_measureTo 15 = .ok (.iconst 1, 1) := by decide +kernel
theorem dX4_measureTo_16 : decode cX4_measureTo 16 = .ok (.istore_n 3, 1) := by decide +kernel
theorem dX4_measureTo_17 : decode cX4_measureTo 17 = .ok (.iconst 1, 1) := by decide +kernel
theorem dX4_measureTo_18 : decode cX4_measureTo 18 = .ok (.istore 4, 2) := by decide +kernel
theorem dX4_measureTo_20 : decode cX4_measureTo 20 = .ok (.iload 4, 2) := by decide +kernel
theorem dX4_measureTo_22 : decode cX4_measureTo 22 = .ok (.bipush 32, 2) := by decide +kernel
theorem dX4_measureTo_24 : decode cX4_measureTo 24 = .ok (.if_icmp .ge 75, 3) := by decide +kernel
theorem dX4_measureTo_27 : decode cX4_measureTo 27 = .ok (.iload_n 3, 1) := by decide +kernel
theorem dX4_measureTo_28 : decode cX4_measureTo 28 = .ok (.ifCond .eq 71, 3) := by decide +kernel
theorem dX4_measureTo_31 : decode cX4_measureTo 31 = .ok (.iconst 0, 1) := by decide +kernel
theorem dX4_measureTo_32 : decode cX4_measureTo 32 = .ok (.istore_n 3, 1) := by decide +kernel
theorem dX4_measureTo_33 : decode cX4_measureTo 33 = .ok (.iconst 0, 1) := by decide +kernel
theorem dX4_measureTo_34 : decode cX4_measureTo 34 = .ok (.istore 5, 2) := by decide +kernel
theorem dX4_measureTo_36 : decode cX4_measureTo 36 = .ok (.iload 5, 2) := by decide +kernel
theorem dX4_measureTo_38 : decode cX4_measureTo 38 = .ok (.bipush 32, 2) := by decide +kernel
theorem dX4_measureTo_40 : decode cX4_measureTo 40 = .ok (.if_icmp .ge 53, 3) := by decide +kernel
theorem dX4_measureTo_43 : decode cX4_measureTo 43 = .ok (.aload_n 1, 1) := by decide +kernel
theorem dX4_measureTo_44 : decode cX4_measureTo 44 = .ok (.iload 5, 2) := by decide +kernel
theorem dX4_measureTo_46 : decode cX4_measureTo 46 = .ok (.invokevirtual 56, 3) := by decide +kernel
theorem dX4_measureTo_49 : decode cX4_measureTo 49 = .ok (.ifCond .eq 38, 3) := by decide +kernel
theorem dX4_measureTo_52 : decode cX4_measureTo 52 = .ok (.aload_n 0, 1) := by decide +kernel
theorem dX4_measureTo_53 : decode cX4_measureTo 53 = .ok (.getfield 9, 3) := by decide +kernel
theorem dX4_measureTo_56 : decode cX4_measureTo 56 = .ok (.iload 5, 2) := by decide +kernel
theorem dX4_measureTo_58 : decode cX4_measureTo 58 = .ok (.iaload, 1) := by decide +kernel
theorem dX4_measureTo_59 : decode cX4_measureTo 59 = .ok (.ifCond .ne 28, 3) := by decide +kernel
theorem dX4_measureTo_62 : decode cX4_measureTo 62 = .ok (.aload_n 0, 1) := by decide +kernel
theorem dX4_measureTo_63 : decode cX4_measureTo 63 = .ok (.aload_n 1, 1) := by decide +kernel
theorem dX4_measureTo_64 : decode cX4_measureTo 64 = .ok (.iload 5, 2) := by decide +kernel
theorem dX4_measureTo_66 : decode cX4_measureTo 66 = .ok (.iload 4, 2) := by decide +kernel
theorem dX4_measureTo_68 : decode cX4_measureTo 68 = .ok (.invokevirtual 59, 3) := by decide +kernel
theorem dX4_measureTo_71 : decode cX4_measureTo 71 = .ok (.ifCond .eq 16, 3) := by decide +kernel
theorem dX4_measureTo_74 : decode cX4_measureTo 74 = .ok (.aload_n 0, 1) := by decide +kernel
theorem dX4_measureTo_75 : decode cX4_measureTo 75 = .ok (.getfield 9, 3) := by decide +kernel
theorem dX4_measureTo_78 : decode cX4_measureTo 78 = .ok (.iload 5, 2) := by decide +kernel
theorem dX4_measureTo_80 : decode cX4_measureTo 80 = .ok (.iload 4, 2) := by decide +kernel
theorem dX4_measureTo_82 : decode cX4_measureTo 82 = .ok (.iconst 1, 1) := by decide +kernel
theorem dX4_measureTo_83 : decode cX4_measureTo 83 = .ok (.iadd, 1) := by decide +kernel
theorem dX4_measureTo_84 : decode cX4_measureTo 84 = .ok (.iastore, 1) := by decide +kernel
theorem dX4_measureTo_85 : decode cX4_measureTo 85 = .ok (.iconst 1, 1) := by decide +kernel
theorem dX4_measureTo_86 : decode cX4_measureTo 86 = .ok (.istore_n 3, 1) := by decide +kernel
theorem dX4_measureTo_87 : decode cX4_measureTo 87 = .ok (.iinc 5 1, 3) := by decide +kernel
theorem dX4_measureTo_90 : decode cX4_measureTo 90 = .ok (.goto (-54), 3) := by decide +kernel
theorem dX4_measureTo_93 : decode cX4_measureTo 93 = .ok (.iinc 4 1, 3) := by decide +kernel
theorem dX4_measureTo_96 : decode cX4_measureTo 96 = .ok (.goto (-76), 3) := by decide +kernel
theorem dX4_measureTo_99 : decode cX4_measureTo 99 = .ok (.return_, 1) := by decide +kernel
set_option maxRecDepth 20000 in
theorem ggX4_leadsTo_X1_fieldOf : GoodIn wsX4_leadsTo wsX1_fieldOf := goodIn_r _ [5, 6, 13, 14, 15, 16, 17, 18, 19, 20, 21, 22, 23, 24, 25, 26, 27, 28, 29, 30] (by decide +kernel) (by decide +kernel)
set_option maxRecDepth 20000 in
theorem gX4_leadsTo_X1_fieldOf : GoodIn wsX4_leadsTo (wsV RX4 42 RX1 yX1_fieldOf wsX1_fieldOf) := goodIn_app (goodIn_of _ (by decide +kernel)) ggX4_leadsTo_X1_fieldOf
set_option maxRecDepth 20000 in
theorem ggX4_leadsTo_X4_isFar : GoodIn wsX4_leadsTo wsX4_isFar := goodIn_r _ [11, 12, 31, 32, 33] (by decide +kernel) (by decide +kernel)
set_option maxRecDepth 20000 in
theorem gX4_leadsTo_X4_isFar : GoodIn wsX4_leadsTo (wsV RX4 63 RX4 yX4_isFar wsX4_isFar) := goodIn_app (goodIn_of _ (by decide +kernel)) ggX4_leadsTo_X4_isFar
theorem dX4_leadsTo_0 : decode cX4_leadsTo 0 = .ok (.aload_n 0, 1) := by decide +kernel
theorem dX4_leadsTo_1 : decode cX4_leadsTo 1 = .ok (.aload_n 1, 1) := by decide +kernel
theorem dX4_leadsTo_2 : decode cX4_leadsTo 2 = .ok (.iload_n 2, 1) := by decide +kernel
theorem dX4_leadsTo_3 : decode cX4_leadsTo 3 = .ok (.iconst 0, 1) := by decide +kernel
theorem dX4_leadsTo_4 : decode cX4_leadsTo 4 = .ok (.invokevirtual 42, 3) := by decide +kernel
theorem dX4_leadsTo_7 : decode cX4_leadsTo 7 = .ok (.iload_n 3, 1) := by decide +kernel
theorem dX4_leadsTo_8 : decode cX4_leadsTo 8 = .ok (.invokevirtual 63, 3) := by decide +kernel
theorem dX4_leadsTo_11 : decode cX4_leadsTo 11 = .ok (.ifCond .ne 17, 3) := by decide +kernel
theorem dX4_leadsTo_14 : decode cX4_leadsTo 14 = .ok (.aload_n 0, 1) := by decide +kernel
theorem dX4_leadsTo_15 : decode cX4_leadsTo 15 = .ok (.aload_n 1, 1) := by decide +kernel
theorem dX4_leadsTo_16 : decode cX4_leadsTo 16 = .ok (.iload_n 2, 1) := by decide +kernel
theorem dX4_leadsTo_17 : decode cX4_leadsTo 17 = .ok (.iconst 1, 1) := by decide +kernel
theorem dX4_leadsTo_18 : decode cX4_leadsTo 18 = .ok (.invokevirtual 42, 3) := by decide +kernel
theorem dX4_leadsTo_21 : decode cX4_leadsTo 21 = .ok (.iload_n 3, 1) := by decide +kernel
theorem dX4_leadsTo_22 : decode cX4_leadsTo 22 = .ok (.invokevirtual 63, 3) := by decide +kernel
theorem dX4_leadsTo_25 : decode cX4_leadsTo 25 = .ok (.ifCond .eq 7, 3) := by decide +kernel
theorem dX4_leadsTo_28 : decode cX4_leadsTo 28 = .ok (.iconst 1, 1) := by decide +kernel
theorem dX4_leadsTo_29 : decode cX4_leadsTo 29 = .ok (.goto 4, 3) := by decide +kernel
theorem dX4_leadsTo_32 : decode cX4_leadsTo 32 = .ok (.iconst 0, 1) := by decide +kernel
theorem dX4_leadsTo_33 : decode cX4_leadsTo 33 = .ok (.ireturn, 1) := by decide +kernel
theorem dX4_isFar_0 : decode cX4_isFar 0 = .ok (.iload_n 1, 1) := by decide +kernel
theorem dX4_isFar_1 : decode cX4_isFar 1 = .ok (.bipush (-5), 2) := by decide +kernel
theorem dX4_isFar_3 : decode cX4_isFar 3 = .ok (.if_icmp .eq 17, 3) := by decide +kernel
theorem dX4_isFar_6 : decode cX4_isFar 6 = .ok (.aload_n 0, 1) := by decide +kernel
theorem dX4_isFar_7 : decode cX4_isFar 7 = .ok (.getfield 9, 3) := by decide +kernel
theorem dX4_isFar_10 : decode cX4_isFar 10 = .ok (.iload_n 1, 1) := by decide +kernel
theorem dX4_isFar_11 : decode cX4_isFar 11 = .ok (.iaload, 1) := by decide +kernel
theorem dX4_isFar_12 : decode cX4_isFar 12 = .ok (.iload_n 2, 1) := by decide +kernel
theorem dX4_isFar_13 : decode cX4_isFar 13 = .ok (.if_icmp .ne 7, 3) := by decide +kernel
theorem dX4_isFar_16 : decode cX4_isFar 16 = .ok (.iconst 1, 1) := by decide +kernel
theorem dX4_isFar_17 : decode cX4_isFar 17 = .ok (.goto 4, 3) := by decide +kernel
theorem dX4_isFar_20 : decode cX4_isFar 20 = .ok (.iconst 0, 1) := by decide +kernel
theorem dX4_isFar_21 : decode cX4_isFar 21 = .ok (.ireturn, 1) := by decide +kernel
set_option maxRecDepth 20000 in
theorem ggX4_nearestRoot_X4_isNearer : GoodIn wsX4_nearestRoot wsX4_isNearer := goodIn_r _ [7, 2, 26, 27, 28] (by decide +kernel) (by decide +kernel)
set_option maxRecDepth 20000 in
theorem gX4_nearestRoot_X4_isNearer : GoodIn wsX4_nearestRoot (wsV RX4 67 RX4 yX4_isNearer wsX4_isNearer) := goodIn_app (goodIn_of _ (by decide +kernel)) ggX4_nearestRoot_X4_isNearer
theorem dX4_nearestRoot_0 : decode cX4_nearestRoot 0 = .ok (.bipush (-9), 2) := by decide +kernel
theorem dX4_nearestRoot_2 : decode cX4_nearestRoot 2 = .ok (.istore_n 2, 1) := by decide +kernel
theorem dX4_nearestRoot_3 : decode cX4_nearestRoot 3 = .ok (.iconst 0, 1) := by decide +kernel
theorem dX4_nearestRoot_4 : decode cX4_nearestRoot 4 = .ok (.istore_n 3, 1) := by decide +kernel
theorem dX4_nearestRoot_5 : decode cX4_nearestRoot 5 = .ok (.iload_n 3, 1) := by decide +kernel
theorem dX4_nearestRoot_6 : decode cX4_nearestRoot 6 = .ok (.bipush 6, 2) := by decide +kernel
theorem dX4_nearestRoot_8 : decode cX4_nearestRoot 8 = .ok (.if_icmp .ge 53, 3) := by decide +kernel
theorem dX4_nearestRoot_11 : decode cX4_nearestRoot 11 = .ok (.aload_n 1, 1) := by decide +kernel
theorem dX4_nearestRoot_12 : decode cX4_nearestRoot 12 = .ok (.getfield 29, 3) := by decide +kernel
theorem dX4_nearestRoot_15 : decode cX4_nearestRoot 15 = .ok (.iload_n 3, 1) := by decide +kernel
theorem dX4_nearestRoot_16 : decode cX4_nearestRoot 16 = .ok (.iaload, 1) := by decide +kernel
theorem dX4_nearestRoot_17 : decode cX4_nearestRoot 17 = .ok (.istore 4, 2) := by decide +kernel
theorem dX4_nearestRoot_19 : decode cX4_nearestRoot 19 = .ok (.iload 4, 2) := by decide +kernel
theorem dX4_nearestRoot_21 : decode cX4_nearestRoot 21 = .ok (.bipush (-5), 2) := by decide +kernel
theorem dX4_nearestRoot_23 : decode cX4_nearestRoot 23 = .ok (.if_icmp .eq 32, 3) := by decide +kernel
theorem dX4_nearestRoot_26 : decode cX4_nearestRoot 26 = .ok (.aload_n 0, 1) := by decide +kernel
theorem dX4_nearestRoot_27 : decode cX4_nearestRoot 27 = .ok (.getfield 9, 3) := by decide +kernel
theorem dX4_nearestRoot_30 : decode cX4_nearestRoot 30 = .ok (.iload 4, 2) := by decide +kernel
theorem dX4_nearestRoot_32 : decode cX4_nearestRoot 32 = .ok (.iaload, 1) := by decide +kernel
theorem dX4_nearestRoot_33 : decode cX4_nearestRoot 33 = .ok (.ifCond .le 22, 3) := by decide +kernel
theorem dX4_nearestRoot_36 : decode cX4_nearestRoot 36 = .ok (.iload_n 2, 1) := by decide +kernel
theorem dX4_nearestRoot_37 : decode cX4_nearestRoot 37 = .ok (.bipush (-9), 2) := by decide +kernel
theorem dX4_nearestRoot_39 : decode cX4_nearestRoot 39 = .ok (.if_icmp .eq 13, 3) := by decide +kernel
theorem dX4_nearestRoot_42 : decode cX4_nearestRoot 42 = .ok (.aload_n 0, 1) := by decide +kernel
theorem dX4_nearestRoot_43 : decode cX4_nearestRoot 43 = .ok (.iload 4, 2) := by decide +kernel
theorem dX4_nearestRoot_45 : decode cX4_nearestRoot 45 = .ok (.iload_n 2, 1) := by decide +kernel
theorem dX4_nearestRoot_46 : decode cX4_nearestRoot 46 = .ok (.invokevirtual 67, 3) := by decide +kernel
theorem dX4_nearestRoot_49 : decode cX4_nearestRoot 49 = .ok (.ifCond .eq 6, 3) := by decide +kernel
theorem dX4_nearestRoot_52 : decode cX4_nearestRoot 52 = .ok (.iload 4, 2) := by decide +kernel
theorem dX4_nearestRoot_54 : decode cX4_nearestRoot 54 = .ok (.istore_n 2, 1) := by decide +kernel
theorem dX4_nearestRoot_55 : decode cX4_nearestRoot 55 = .ok (.iinc 3 1, 3) := by decide +kernel
theorem dX4_nearestRoot_58 : decode cX4_nearestRoot 58 = .ok (.goto (-53), 3) := by decide +kernel
theorem dX4_nearestRoot_61 : decode cX4_nearestRoot 61 = .ok (.iload_n 2, 1) := by decide +kernel
theorem dX4_nearestRoot_62 : decode cX4_nearestRoot 62 = .ok (.ireturn, 1) := by decide +kernel
theorem dX4_isNearer_0 : decode cX4_isNearer 0 = .ok (.aload_n 0, 1) := by decide +kernel
theorem dX4_isNearer_1 : decode cX4_isNearer 1 = .ok (.getfield 9, 3) := by decide +kernel
theorem dX4_isNearer_4 : decode cX4_isNearer 4 = .ok (.iload_n 1, 1) := by decide +kernel
theorem dX4_isNearer_5 : decode cX4_isNearer 5 = .ok (.iaload, 1) := by decide +kernel
theorem dX4_isNearer_6 : decode cX4_isNearer 6 = .ok (.aload_n 0, 1) := by decide +kernel
theorem dX4_isNearer_7 : decode cX4_isNearer 7 = .ok (.getfield 9, 3) := by decide +kernel
theorem dX4_isNearer_10 : decode cX4_isNearer 10 = .ok (.iload_n 2, 1) := by decide +kernel
theorem dX4_isNearer_11 : decode cX4_isNearer 11 = .ok (.iaload, 1) := by decide +kernel
theorem dX4_isNearer_12 : decode cX4_isNearer 12 = .ok (.if_icmp .lt 23, 3) := by decide +kernel
theorem dX4_isNearer_15 : decode cX4_isNearer 15 = .ok (.aload_n 0, 1) := by decide +kernel
theorem dX4_isNearer_16 : decode cX4_isNearer 16 = .ok (.getfield 9, 3) := by decide +kernel
theorem dX4_isNearer_19 : decode cX4_isNearer 19 = .ok (.iload_n 1, 1) := by decide +kernel
theorem dX4_isNearer_20 : decode cX4_isNearer 20 = .ok (.iaload, 1) := by decide +kernel
theorem dX4_isNearer_21 : decode cX4_isNearer 21 = .ok (.aload_n 0, 1) := by decide +kernel
theorem dX4_isNearer_22 : decode cX4_isNearer 22 = .ok (.getfield 9, 3) := by decide +kernel
theorem dX4_isNearer_25 : decode cX4_isNearer 25 = .ok (.iload_n 2, 1) := by decide +kernel
theorem dX4_isNearer_26 : decode cX4_isNearer 26 = .ok (.iaload, 1) := by decide +kernel
theorem dX4_isNearer_27 : decode cX4_isNearer 27 = .ok (.if_icmp .ne 12, 3) := by decide +kernel
theorem dX4_isNearer_30 : decode cX4_isNearer 30 = .ok (.iload_n 1, 1) := by decide +kernel
theorem dX4_isNearer_31 : decode cX4_isNearer 31 = .ok (.iload_n 2, 1) := by decide +kernel
theorem dX4_isNearer_32 : decode cX4_isNearer 32 = .ok (.if_icmp .ge 7, 3) := by decide +kernel
theorem dX4_isNearer_35 : decode cX4_isNearer 35 = .ok (.iconst 1, 1) := by decide +kernel
theorem dX4_isNearer_36 : decode cX4_isNearer 36 = .ok (.goto 4, 3) := by decide +kernel
theorem dX4_isNearer_39 : decode cX4_isNearer 39 = .ok (.iconst 0, 1) := by decide +kernel
theorem dX4_isNearer_40 : decode cX4_isNearer 40 = .ok (.ireturn, 1) := by decide +kernel
set_option maxRecDepth 20000 in
theorem ggX4_walk_X4_nextOf : GoodIn wsX4_walk wsX4_nextOf := goodIn_r _ [5, 6, 7, 8, 9, 10, 11, 12, 13, 14, 15, 16, 17, 18, 19, 4, 20, 21, 22, 23, 24, 25, 26, 27, 28, 29, 30, 31, 32, 33, 34, 35, 36, 37, 38, 39, 40, 41] (by decide +kernel) (by decide +kernel)
set_option maxRecDepth 20000 in
theorem gX4_walk_X4_nextOf : GoodIn wsX4_walk (wsV RX4 70 RX4 yX4_nextOf wsX4_nextOf) := goodIn_app (goodIn_of _ (by decide +kernel)) ggX4_walk_X4_nextOf
theorem dX4_walk_0 : decode cX4_walk 0 = .ok (.iload_n 2, 1) := by decide +kernel
theorem dX4_walk_1 : decode cX4_walk 1 = .ok (.istore 4, 2) := by decide +kernel
theorem dX4_walk_3 : decode cX4_walk 3 = .ok (.iconst 0, 1) := by decide +kernel
theorem dX4_walk_4 : decode cX4_walk 4 = .ok (.istore 5, 2) := by decide +kernel
theorem dX4_walk_6 : decode cX4_walk 6 = .ok (.iload 5, 2) := by decide +kernel
theorem dX4_walk_8 : decode cX4_walk 8 = .ok (.iload_n 3, 1) := by decide +kernel
theorem dX4_walk_9 : decode cX4_walk 9 = .ok (.if_icmp .ge 25, 3) := by decide +kernel
theorem dX4_walk_12 : decode cX4_walk 12 = .ok (.iload 5, 2) := by decide +kernel
theorem dX4_walk_14 : decode cX4_walk 14 = .ok (.bipush 32, 2) := by decide +kernel
theorem dX4_walk_16 : decode cX4_walk 16 = .ok (.if_icmp .ge 18, 3) := by decide +kernel
theorem dX4_walk_19 : decode cX4_walk 19 = .ok (.aload_n 0, 1) := by decide +kernel
theorem dX4_walk_20 : decode cX4_walk 20 = .ok (.aload_n 1, 1) := by decide +kernel
theorem dX4_walk_21 : decode cX4_walk 21 = .ok (.iload 4, 2) := by decide +kernel
theorem dX4_walk_23 : decode cX4_walk 23 = .ok (.invokevirtual 70, 3) := by decide +kernel
theorem dX4_walk_26 : decode cX4_walk 26 = .ok (.istore 4, 2) := by decide +kernel
theorem dX4_walk_28 : decode cX4_walk 28 = .ok (.iinc 5 1, 3) := by decide +kernel
theorem dX4_walk_31 : decode cX4_walk 31 = .ok (.goto (-25), 3) := by decide +kernel
theorem dX4_walk_34 : decode cX4_walk 34 = .ok (.iload 4, 2) := by decide +kernel
theorem dX4_walk_36 : decode cX4_walk 36 = .ok (.ireturn, 1) := by decide +kernel
set_option maxRecDepth 20000 in
theorem ggX4_nextOf_X1_fieldOf : GoodIn wsX4_nextOf wsX1_fieldOf := goodIn_r _ [10, 11, 20, 21, 22, 23, 24, 25, 26, 27, 28, 29, 30, 31, 32, 33, 34, 35, 36, 37] (by decide +kernel) (by decide +kernel)
set_option maxRecDepth 20000 in
theorem gX4_nextOf_X1_fieldOf : GoodIn wsX4_nextOf (wsV RX4 42 RX1 yX1_fieldOf wsX1_fieldOf) := goodIn_app (goodIn_of _ (by decide +kernel)) ggX4_nextOf_X1_fieldOf
set_option maxRecDepth 20000 in
theorem ggX4_nextOf_X4_isFar : GoodIn wsX4_nextOf wsX4_isFar := goodIn_r _ [16, 1, 17, 18, 19] (by decide +kernel) (by decide +kernel)
set_option maxRecDepth 20000 in
theorem gX4_nextOf_X4_isFar : GoodIn wsX4_nextOf (wsV RX4 63 RX4 yX4_isFar wsX4_isFar) := goodIn_app (goodIn_of _ (by decide +kernel)) ggX4_nextOf_X4_isFar
theorem dX4_nextOf_0 : decode cX4_nextOf 0 = .ok (.aload_n 0, 1) := by decide +kernel
theorem dX4_nextOf_1 : decode cX4_nextOf 1 = .ok (.getfield 9, 3) := by decide +kernel
theorem dX4_nextOf_4 : decode cX4_nextOf 4 = .ok (.iload_n 2, 1) := by decide +kernel
theorem dX4_nextOf_5 : decode cX4_nextOf 5 = .ok (.iaload, 1) := by decide +kernel
theorem dX4_nextOf_6 : decode cX4_nextOf 6 = .ok (.iconst 1, 1) := by decide +kernel
theorem dX4_nextOf_7 : decode cX4_nextOf 7 = .ok (.isub, 1) := by decide +kernel
theorem dX4_nextOf_8 : decode cX4_nextOf 8 = .ok (.istore_n 3, 1) := by decide +kernel
theorem dX4_nextOf_9 : decode cX4_nextOf 9 = .ok (.aload_n 1, 1) := by decide +kernel
theorem dX4_nextOf_10 : decode cX4_nextOf 10 = .ok (.iload_n 2, 1) := by decide +kernel
theorem dX4_nextOf_11 : decode cX4_nextOf 11 = .ok (.iconst 0, 1) := by decide +kernel
theorem dX4_nextOf_12 : decode cX4_nextOf 12 = .ok (.invokevirtual 42, 3) := by decide +kernel
theorem dX4_nextOf_15 : decode cX4_nextOf 15 = .ok (.istore 4, 2) := by decide +kernel
theorem dX4_nextOf_17 : decode cX4_nextOf 17 = .ok (.aload_n 1, 1) := by decide +kernel
theorem dX4_nextOf_18 : decode cX4_nextOf 18 = .ok (.iload_n 2, 1) := by decide +kernel
theorem dX4_nextOf_19 : decode cX4_nextOf 19 = .ok (.iconst 1, 1) := by decide +kernel
theorem dX4_nextOf_20 : decode cX4_nextOf 20 = .ok (.invokevirtual 42, 3) := by decide +kernel
theorem dX4_nextOf_23 : decode cX4_nextOf 23 = .ok (.istore 5, 2) := by decide +kernel
theorem dX4_nextOf_25 : decode cX4_nextOf 25 = .ok (.aload_n 0, 1) := by decide +kernel
theorem dX4_nextOf_26 : decode cX4_nextOf 26 = .ok (.iload 4, 2) := by decide +kernel
theorem dX4_nextOf_28 : decode cX4_nextOf 28 = .ok (.iload_n 3, 1) := by decide +kernel
theorem dX4_nextOf_29 : decode cX4_nextOf 29 = .ok (.invokevirtual 63, 3) := by decide +kernel
theorem dX4_nextOf_32 : decode cX4_nextOf 32 = .ok (.ifCond .ne 20, 3) := by decide +kernel
theorem dX4_nextOf_35 : decode cX4_nextOf 35 = .ok (.aload_n 0, 1) := by decide +kernel
theorem dX4_nextOf_36 : decode cX4_nextOf 36 = .ok (.iload 5, 2) := by decide +kernel
theorem dX4_nextOf_38 : decode cX4_nextOf 38 = .ok (.iload_n 3, 1) := by decide +kernel
theorem dX4_nextOf_39 : decode cX4_nextOf 39 = .ok (.invokevirtual 63, 3) := by decide +kernel
theorem dX4_nextOf_42 : decode cX4_nextOf 42 = .ok (.ifCond .eq 8, 3) := by decide +kernel
theorem dX4_nextOf_45 : decode cX4_nextOf 45 = .ok (.iload 5, 2) := by decide +kernel
theorem dX4_nextOf_47 : decode cX4_nextOf 47 = .ok (.goto 4, 3) := by decide +kernel
theorem dX4_nextOf_50 : decode cX4_nextOf 50 = .ok (.iload_n 2, 1) := by decide +kernel
theorem dX4_nextOf_51 : decode cX4_nextOf 51 = .ok (.ireturn, 1) := by decide +kernel
theorem dX4_nextOf_52 : decode cX4_nextOf 52 = .ok (.aload_n 0, 1) := by decide +kernel
theorem dX4_nextOf_53 : decode cX4_nextOf 53 = .ok (.iload 5, 2) := by decide +kernel
theorem dX4_nextOf_55 : decode cX4_nextOf 55 = .ok (.iload_n 3, 1) := by decide +kernel
theorem dX4_nextOf_56 : decode cX4_nextOf 56 = .ok (.invokevirtual 63, 3) := by decide +kernel
theorem dX4_nextOf_59 : decode cX4_nextOf 59 = .ok (.ifCond .eq 13, 3) := by decide +kernel
theorem dX4_nextOf_62 : decode cX4_nextOf 62 = .ok (.iload 4, 2) := by decide +kernel
theorem dX4_nextOf_64 : decode cX4_nextOf 64 = .ok (.iload 5, 2) := by decide +kernel
theorem dX4_nextOf_66 : decode cX4_nextOf 66 = .ok (.invokestatic 74, 3) := by decide +kernel
theorem dX4_nextOf_69 : decode cX4_nextOf 69 = .ok (.goto 5, 3) := by decide +kernel
theorem dX4_nextOf_72 : decode cX4_nextOf 72 = .ok (.iload 4, 2) := by decide +kernel
theorem dX4_nextOf_74 : decode cX4_nextOf 74 = .ok (.ireturn, 1) := by decide +kernel
theorem dX5_init_0 : decode cX5_init 0 = .ok (.aload_n 0, 1) := by decide +kernel
theorem dX5_init_1 : decode cX5_init 1 = .ok (.invokespecial 3, 3) := by decide +kernel
theorem dX5_init_4 : decode cX5_init 4 = .ok (.aload_n 0, 1) := by decide +kernel
theorem dX5_init_5 : decode cX5_init 5 = .ok (.bipush 32, 2) := by decide +kernel
theorem dX5_init_7 : decode cX5_init 7 = .ok (.newarray .int, 2) := by decide +kernel
theorem dX5_init_9 : decode cX5_init 9 = .ok (.putfield 9, 3) := by decide +kernel
theorem dX5_init_12 : decode cX5_init 12 = .ok (.return_, 1) := by decide +kernel
theorem dX5_becomeLike_0 : decode cX5_becomeLike 0 = .ok (.aload_n 1, 1) := by decide +kernel
theorem dX5_becomeLike_1 : decode cX5_becomeLike 1 = .ok (.getfield 9, 3) := by decide +kernel
theorem dX5_becomeLike_4 : decode cX5_becomeLike 4 = .ok (.iconst 0, 1) := by decide +kernel
theorem dX5_becomeLike_5 : decode cX5_becomeLike 5 = .ok (.aload_n 0, 1) := by decide +kernel
theorem dX5_becomeLike_6 : decode cX5_becomeLike 6 = .ok (.getfield 9, 3) := by decide +kernel
theorem dX5_becomeLike_9 : decode cX5_becomeLike 9 = .ok (.iconst 0, 1) := by decide +kernel
theorem dX5_becomeLike_10 : decode cX5_becomeLike 10 = .ok (.bipush 32, 2) := by decide +kernel
theorem dX5_becomeLike_12 : decode cX5_becomeLike 12 = .ok (.invokestatic 15, 3) := by decide +kernel
theorem dX5_becomeLike_15 : decode cX5_becomeLike 15 = .ok (.aload_n 0, 1) := by decide +kernel
theorem dX5_becomeLike_16 : decode cX5_becomeLike 16 = .ok (.aload_n 1, 1) := by decide +kernel
theorem dX5_becomeLike_17 : decode cX5_becomeLike 17 = .ok (.getfield 21, 3) := by decide +kernel
theorem dX5_becomeLike_20 : decode cX5_becomeLike 20 = .ok (.putfield 21, 3) := by decide +kernel
theorem dX5_becomeLike_23 : decode cX5_becomeLike 23 = .ok (.return_, 1) := by decide +kernel
theorem dX5_itemAt_0 : decode cX5_itemAt 0 = .ok (.iload_n 1, 1) := by decide +kernel
theorem dX5_itemAt_1 : decode cX5_itemAt 1 = .ok (.ifCond .lt 20, 3) := by decide +kernel
theorem dX5_itemAt_4 : decode cX5_itemAt 4 = .ok (.iload_n 1, 1) := by decide +kernel
theorem dX5_itemAt_5 : decode cX5_itemAt 5 = .ok (.aload_n 0, 1) := by decide +kernel
theorem dX5_itemAt_6 : decode cX5_itemAt 6 = .ok (.getfield 21, 3) := by decide +kernel
theorem dX5_itemAt_9 : decode cX5_itemAt 9 = .ok (.if_icmp .ge 12, 3) := by decide +kernel
theorem dX5_itemAt_12 : decode cX5_itemAt 12 = .ok (.aload_n 0, 1) := by decide +kernel
theorem dX5_itemAt_13 : decode cX5_itemAt 13 = .ok (.getfield 9, 3) := by decide +kernel
theorem dX5_itemAt_16 : decode cX5_itemAt 16 = .ok (.iload_n 1, 1) := by decide +kernel
theorem dX5_itemAt_17 : decode cX5_itemAt 17 = .ok (.iaload, 1) := by decide +kernel
theorem dX5_itemAt_18 : decode cX5_itemAt 18 = .ok (.goto 5, 3) := by decide +kernel
theorem dX5_itemAt_21 : decode cX5_itemAt 21 = .ok (.bipush (-9), 2) := by decide +kernel
theorem dX5_itemAt_23 : decode cX5_itemAt 23 = .ok (.ireturn, 1) := by decide +kernel
theorem dX5_append_0 : decode cX5_append 0 = .ok (.iconst 0, 1) := by decide +kernel
theorem dX5_append_1 : decode cX5_append 1 = .ok (.istore_n 2, 1) := by decide +kernel
theorem dX5_append_2 : decode cX5_append 2 = .ok (.iload_n 2, 1) := by decide +kernel
theorem dX5_append_3 : decode cX5_append 3 = .ok (.aload_n 0, 1) := by decide +kernel
theorem dX5_append_4 : decode cX5_append 4 = .ok (.getfield 21, 3) := by decide +kernel
theorem dX5_append_7 : decode cX5_append 7 = .ok (.if_icmp .ge 21, 3) := by decide +kernel
theorem dX5_append_10 : decode cX5_append 10 = .ok (.aload_n 0, 1) := by decide +kernel
theorem dX5_append_11 : decode cX5_append 11 = .ok (.getfield 9, 3) := by decide +kernel
theorem dX5_append_14 : decode cX5_append 14 = .ok (.iload_n 2, 1) := by decide +kernel
theorem dX5_append_15 : decode cX5_append 15 = .ok (.iaload, 1) := by decide +kernel
theorem dX5_append_16 : decode cX5_append 16 = .ok (.iload_n 1, 1) := by decide +kernel
theorem dX5_append_17 : decode cX5_append 17 = .ok (.if_icmp .ne 5, 3) := by decide +kernel
theorem dX5_append_20 : decode cX5_append 20 = .ok (.iconst 0, 1) := by decide +kernel
theorem dX5_append_21 : decode cX5_append 21 = .ok (.ireturn, 1) := by decide +kernel
theorem dX5_append_22 : decode cX5_append 22 = .ok (.iinc 2 1, 3) := by decide +kernel
theorem dX5_append_25 : decode cX5_append 25 = .ok (.goto (-23), 3) := by decide +kernel
theorem dX5_append_28 : decode cX5_append 28 = .ok (.aload_n 0, 1) := by decide +kernel
theorem dX5_append_29 : decode cX5_append 29 = .ok (.getfield 21, 3) := by decide +kernel
theorem dX5_append_32 : decode cX5_append 32 = .ok (.bipush 32, 2) := by decide +kernel
theorem dX5_append_34 : decode cX5_append 34 = .ok (.if_icmp .lt 5, 3) := by decide +kernel
theorem dX5_append_37 : decode cX5_append 37 = .ok (.iconst 0, 1) := by decide +kernel
theorem dX5_append_38 : decode cX5_append 38 = .ok (.ireturn, 1) := by decide +kernel
theorem dX5_append_39 : decode cX5_append 39 = .ok (.aload_n 0, 1) := by decide +kernel
theorem dX5_append_40 : decode cX5_append 40 = .ok (.getfield 9, 3) := by decide +kernel
theorem dX5_append_43 : decode cX5_append 43 = .ok (.aload_n 0, 1) := by decide +kernel
theorem dX5_append_44 : decode cX5_append 44 = .ok (.getfield 21, 3) := by decide +kernel
theorem dX5_append_47 : decode cX5_append 47 = .ok (.iload_n 1, 1) := by decide +kernel
theorem dX5_append_48 : decode cX5_append 48 = .ok (.iastore, 1) := by decide +kernel
theorem dX5_append_49 : decode cX5_append 49 = .ok (.aload_n 0, 1) := by decide +kernel
theorem dX5_append_50 : decode cX5_append 50 = .ok (.dup, 1) := by decide +kernel
theorem dX5_append_51 : decode cX5_append 51 = .ok (.getfield 21, 3) := by decide +kernel
theorem dX5_append_54 : decode cX5_append 54 = .ok (.iconst 1, 1) := by decide +kernel
theorem dX5_append_55 : decode cX5_append 55 = .ok (.iadd, 1) := by decide +kernel
theorem dX5_append_56 : decode cX5_append 56 = .ok (.putfield 21, 3) := by decide +kernel
theorem dX5_append_59 : decode cX5_append 59 = .ok (.iconst 1, 1) := by decide +kernel
theorem dX5_append_60 : decode cX5_append 60 = .ok (.ireturn, 1) := by decide +kernel
theorem dX5_drop_0 : decode cX5_drop 0 = .ok (.iconst 0, 1) := by decide +kernel
theorem dX5_drop_1 : decode cX5_drop 1 = .ok (.istore_n 2, 1) := by decide +kernel
theorem dX5_drop_2 : decode cX5_drop 2 = .ok (.iconst 0, 1) := by decide +kernel
theorem dX5_drop_3 : decode cX5_drop 3 = .ok (.istore_n 3, 1) := by decide +kernel
theorem dX5_drop_4 : decode cX5_drop 4 = .ok (.iload_n 3, 1) := by decide +kernel
theorem dX5_drop_5 : decode cX5_drop 5 = .ok (.aload_n 0, 1) := by decide +kernel
theorem dX5_drop_6 : decode cX5_drop 6 = .ok (.getfield 21, 3) := by decide +kernel
theorem dX5_drop_9 : decode cX5_drop 9 = .ok (.if_icmp .ge 34, 3) := by decide +kernel
theorem dX5_drop_12 : decode cX5_drop 12 = .ok (.aload_n 0, 1) := by decide +kernel
theorem dX5_drop_13 : decode cX5_drop 13 = .ok (.getfield 9, 3) := by decide +kernel
theorem dX5_drop_16 : decode cX5_drop 16 = .ok (.iload_n 3, 1) := by decide +kernel
theorem dX5_drop_17 : decode cX5_drop 17 = .ok (.iaload, 1) := by decide +kernel
theorem dX5_drop_18 : decode cX5_drop 18 = .ok (.iload_n 1, 1) := by decide +kernel
theorem dX5_drop_19 : decode cX5_drop 19 = .ok (.if_icmp .eq 18, 3) := by decide +kernel
theorem dX5_drop_22 : decode cX5_drop 22 = .ok (.aload_n 0, 1) := by decide +kernel
theorem dX5_drop_23 : decode cX5_drop 23 = .ok (.getfield 9, 3) := by decide +kernel
theorem dX5_drop_26 : decode cX5_drop 26 = .ok (.iload_n 2, 1) := by decide +kernel
theorem dX5_drop_27 : decode cX5_drop 27 = .ok (.aload_n 0, 1) := by decide +kernel
theorem dX5_drop_28 : decode cX5_drop 28 = .ok (.getfield 9, 3) := by decide +kernel
theorem dX5_drop_31 : decode cX5_drop 31 = .ok (.iload_n 3, 1) := by decide +kernel
theorem dX5_drop_32 : decode cX5_drop 32 = .ok (.iaload, 1) := by decide +kernel
theorem dX5_drop_33 : decode cX5_drop 33 = .ok (.iastore, 1) := by decide +kernel
theorem dX5_drop_34 : decode cX5_drop 34 = .ok (.iinc 2 1, 3) := by decide +kernel
theorem dX5_drop_37 : decode cX5_drop 37 = .ok (.iinc 3 1, 3) := by decide +kernel
theorem dX5_drop_40 : decode cX5_drop 40 = .ok (.goto (-36), 3) := by decide +kernel
theorem dX5_drop_43 : decode cX5_drop 43 = .ok (.aload_n 0, 1) := by decide +kernel
theorem dX5_drop_44 : decode cX5_drop 44 = .ok (.iload_n 2, 1) := by decide +kernel
theorem dX5_drop_45 : decode cX5_drop 45 = .ok (.putfield 21, 3) := by decide +kernel
theorem dX5_drop_48 : decode cX5_drop 48 = .ok (.return_, 1) := by decide +kernel
set_option maxRecDepth 20000 in
theorem ggX6_init_X1_init : GoodIn wsX6_init wsX1_init := goodIn_r _ [30, 31, 2, 3, 32, 33, 34, 35, 36, 37, 38, 39, 40, 41, 42, 43, 44, 45, 46, 47, 48, 49, 50, 51, 52, 53, 54, 55, 56, 57, 58, 59, 60, 84, 85, 86, 87, 88, 89, 90, 91, 92, 93, 94, 95, 96, 97, 98, 99, 100, 101, 127, 128] (by decide +kernel) (by decide +kernel)
set_option maxRecDepth 20000 in
theorem gX6_init_X1_init : GoodIn wsX6_init (wsX1_init) := ggX6_init_X1_init
set_option maxRecDepth 20000 in
theorem ggX6_init_X2_init : GoodIn wsX6_init wsX2_init := goodIn_r _ [63, 64, 2, 3, 65, 66, 5, 6, 67, 29, 30, 31, 32, 33, 34, 35, 36, 37, 38, 39, 40, 41, 42, 43, 44, 45, 46, 47, 48, 49, 50, 51, 52, 53, 54, 55, 56, 57, 58, 59, 60, 110, 111, 112, 84, 85, 86, 87, 88, 89, 90, 91, 92, 93, 94, 95, 96, 97, 98, 99, 100, 101, 127, 128] (by decide +kernel) (by decide +kernel)
set_option maxRecDepth 20000 in
theorem gX6_init_X2_init : GoodIn wsX6_init (wsX2_init) := ggX6_init_X2_init
set_option maxRecDepth 20000 in
theorem ggX6_init_X0_init : GoodIn wsX6_init wsX0_init := goodIn_r _ [69, 70, 2, 3] (by decide +kernel) (by decide +kernel)
set_option maxRecDepth 20000 in
theorem gX6_init_X0_init_n36 : GoodIn wsX6_init (wsX0_init) := ggX6_init_X0_init
set_option maxRecDepth 20000 in
theorem ggX6_init_X3_init : GoodIn wsX6_init wsX3_init := goodIn_r _ [72, 73, 2, 3, 74, 17, 18, 75, 76, 44, 45, 77, 68, 69, 70, 53, 54, 55, 32, 56, 113, 114, 115, 116, 117, 118, 119, 120, 121, 122, 123, 127, 128] (by decide +kernel) (by decide +kernel)
set_option maxRecDepth 20000 in
theorem gX6_init_X3_init_n43 : GoodIn wsX6_init (wsX3_init) := ggX6_init_X3_init
set_option maxRecDepth 20000 in
theorem ggX6_init_X4_init : GoodIn wsX6_init wsX4_init := goodIn_r _ [79, 80, 2, 3, 32, 81, 82, 44, 45, 83, 53, 54, 55, 56, 124, 125, 126, 127, 128] (by decide +kernel) (by decide +kernel)
set_option maxRecDepth 20000 in
theorem gX6_init_X4_init_n50 : GoodIn wsX6_init (wsX4_init) := ggX6_init_X4_init
theorem dX6_init_0 : decode cX6_init 0 = .ok (.aload_n 0, 1) := by decide +kernel
theorem dX6_init_1 : decode cX6_init 1 = .ok (.invokespecial 1, 3) := by decide +kernel
theorem dX6_init_4 : decode cX6_init 4 = .ok (.aload_n 0, 1) := by decide +kernel
theorem dX6_init_5 : decode cX6_init 5 = .ok (.new 7, 3) := by decide +kernel
theorem dX6_init_8 : decode cX6_init 8 = .ok (.dup, 1) := by decide +kernel
theorem dX6_init_9 : decode cX6_init 9 = .ok (.invokespecial 9, 3) := by decide +kernel
theorem dX6_init_12 : decode cX6_init 12 = .ok (.putfield 10, 3) := by decide +kernel
theorem dX6_init_15 : decode cX6_init 15 = .ok (.aload_n 0, 1) := by decide +kernel
theorem dX6_init_16 : decode cX6_init 16 = .ok (.new 7, 3) := by decide +kernel
theorem dX6_init_19 : decode cX6_init 19 = .ok (.dup, 1) := by decide +kernel
theorem dX6_init_20 : decode cX6_init 20 = .ok (.invokespecial 9, 3) := by decide +kernel
theorem dX6_init_23 : decode cX6_init 23 = .ok (.putfield 16, 3) := by decide +kernel
theorem dX6_init_26 : decode cX6_init 26 = .ok (.aload_n 0, 1) := by decide +kernel
theorem dX6_init_27 : decode cX6_init 27 = .ok (.new 19, 3) := by decide +kernel
theorem dX6_init_30 : decode cX6_init 30 = .ok (.dup, 1) := by decide +kernel
theorem dX6_init_31 : decode cX6_init 31 = .ok (.invokespecial 21, 3) := by decide +kernel
theorem dX6_init_34 : decode cX6_init 34 = .ok (.putfield 22, 3) := by decide +kernel
theorem dX6_init_37 : decode cX6_init 37 = .ok (.aload_n 0, 1) := by decide +kernel
theorem dX6_init_38 : decode cX6_init 38 = .ok (.iconst 2, 1) := by decide +kernel
theorem dX6_init_39 : decode cX6_init 39 = .ok (.anewarray 7, 3) := by decide +kernel
theorem dX6_init_42 : decode cX6_init 42 = .ok (.putfield 26, 3) := by decide +kernel
theorem dX6_init_45 : decode cX6_init 45 = .ok (.aload_n 0, 1) := by decide +kernel
theorem dX6_init_46 : decode cX6_init 46 = .ok (.iconst 2, 1) := by decide +kernel
theorem dX6_init_47 : decode cX6_init 47 = .ok (.newarray .boolean, 2) := by decide +kernel
theorem dX6_init_49 : decode cX6_init 49 = .ok (.putfield 30, 3) := by decide +kernel
theorem dX6_init_52 : decode cX6_init 52 = .ok (.aload_n 0, 1) := by decide +kernel
theorem dX6_init_53 : decode cX6_init 53 = .ok (.new 34, 3) := by decide +kernel
theorem dX6_init_56 : decode cX6_init 56 = .ok (.dup, 1) := by decide +kernel
theorem dX6_init_57 : decode cX6_init 57 = .ok (.invokespecial 36, 3) := by decide +kernel
theorem dX6_init_60 : decode cX6_init 60 = .ok (.putfield 37, 3) := by decide +kernel
theorem dX6_init_63 : decode cX6_init 63 = .ok (.aload_n 0, 1) := by decide +kernel
theorem dX6_init_64 : decode cX6_init 64 = .ok (.new 41, 3) := by decide +kernel
theorem dX6_init_67 : decode cX6_init 67 = .ok (.dup, 1) := by decide +kernel
theorem dX6_init_68 : decode cX6_init 68 = .ok (.invokespecial 43, 3) := by decide +kernel
theorem dX6_init_71 : decode cX6_init 71 = .ok (.putfield 44, 3) := by decide +kernel
theorem dX6_init_74 : decode cX6_init 74 = .ok (.aload_n 0, 1) := by decide +kernel
theorem dX6_init_75 : decode cX6_init 75 = .ok (.new 48, 3) := by decide +kernel
theorem dX6_init_78 : decode cX6_init 78 = .ok (.dup, 1) := by decide +kernel
theorem dX6_init_79 : decode cX6_init 79 = .ok (.invokespecial 50, 3) := by decide +kernel
theorem dX6_init_82 : decode cX6_init 82 = .ok (.putfield 51, 3) := by decide +kernel
theorem dX6_init_85 : decode cX6_init 85 = .ok (.iconst 0, 1) := by decide +kernel
theorem dX6_init_86 : decode cX6_init 86 = .ok (.istore_n 1, 1) := by decide +kernel
theorem dX6_init_87 : decode cX6_init 87 = .ok (.iload_n 1, 1) := by decide +kernel
theorem dX6_init_88 : decode cX6_init 88 = .ok (.iconst 2, 1) := by decide +kernel
theorem dX6_init_89 : decode cX6_init 89 = .ok (.if_icmp .ge 22, 3) := by decide +kernel
theorem dX6_init_92 : decode cX6_init 92 = .ok (.aload_n 0, 1) := by decide +kernel
theorem dX6_init_93 : decode cX6_init 93 = .ok (.getfield 26, 3) := by decide +kernel
theorem dX6_init_96 : decode cX6_init 96 = .ok (.iload_n 1, 1) := by decide +kernel
theorem dX6_init_97 : decode cX6_init 97 = .ok (.new 7, 3) := by decide +kernel
theorem dX6_init_100 : decode cX6_init 100 = .ok (.dup, 1) := by decide +kernel
theorem dX6_init_101 : decode cX6_init 101 = .ok (.invokespecial 9, 3) := by decide +kernel
theorem dX6_init_104 : decode cX6_init 104 = .ok (.aastore, 1) := by decide +kernel
theorem dX6_init_105 : decode cX6_init 105 = .ok (.iinc 1 1, 3) := by decide +kernel
theorem dX6_init_108 : decode cX6_init 108 = .ok (.goto (-21), 3) := by decide +kernel
theorem dX6_init_111 : decode cX6_init 111 = .ok (.return_, 1) := by decide +kernel
set_option maxRecDepth 20000 in
theorem ggX6_makes_X6_within : GoodIn wsX6_makes wsX6_within := goodIn_r _ [7] (by decide +kernel) (by decide +kernel)
set_option maxRecDepth 20000 in
theorem gX6_makes_X6_within : GoodIn wsX6_makes (va_wsS RX6 55 yX6_within wsX6_within) := goodIn_app (goodIn_of _ (by decide +kernel)) ggX6_makes_X6_within
set_option maxRecDepth 20000 in
theorem ggX6_makes_X6_isRoot : GoodIn wsX6_makes wsX6_isRoot := goodIn_r _ [10, 4, 5, 6, 7] (by decide +kernel) (by decide +kernel)
set_option maxRecDepth 20000 in
theorem gX6_makes_X6_isRoot : GoodIn wsX6_makes (va_wsS RX6 59 yX6_isRoot wsX6_isRoot) := goodIn_app (goodIn_of _ (by decide +kernel)) ggX6_makes_X6_isRoot
set_option maxRecDepth 20000 in
theorem ggX6_makes_X1_unusedNumber : GoodIn wsX6_makes wsX1_unusedNumber := goodIn_r _ [15, 16, 17, 18, 14, 19, 20, 102, 103, 104, 105, 106, 107, 108, 109, 110, 111, 112, 113, 114, 115, 116, 117, 118, 119] (by decide +kernel) (by decide +kernel)
set_option maxRecDepth 20000 in
theorem gX6_makes_X1_unusedNumber : GoodIn wsX6_makes (wsV RX6 63 RX1 yX1_unusedNumber wsX1_unusedNumber) := goodIn_app (goodIn_of _ (by decide +kernel)) ggX6_makes_X1_unusedNumber
set_option maxRecDepth 20000 in
theorem ggX6_makes_X1_roomFor : GoodIn wsX6_makes wsX1_roomFor := goodIn_r _ [24, 25, 26, 27, 28, 14, 29, 30, 31, 32, 33, 34, 35, 36, 37, 38, 39, 102, 103, 104, 105, 106, 107, 108, 109, 110, 111, 112, 113, 114, 115, 116, 117, 118, 119] (by decide +kernel) (by decide +kernel)
set_option maxRecDepth 20000 in
theorem gX6_makes_X1_roomFor : GoodIn wsX6_makes (wsV RX6 67 RX1 yX1_roomFor wsX1_roomFor) := goodIn_app (goodIn_of _ (by decide +kernel)) ggX6_makes_X1_roomFor
set_option maxRecDepth 20000 in
theorem ggX6_makes_X2_push : GoodIn wsX6_makes wsX2_push := goodIn_r _ [44, 45, 46, 47, 48, 49, 50, 51, 52, 53, 54, 14, 55, 34, 56, 57, 58, 59, 39, 60, 61, 20, 62, 63, 64, 65, 66, 67, 68, 69, 25, 70, 71, 72, 73, 74, 75, 76, 77, 78, 79, 80, 81, 120, 121, 122, 102, 103, 104, 105, 106, 107, 108, 109, 110, 111, 112, 113, 114, 115, 116, 117, 118, 119, 123, 124] (by decide +kernel) (by decide +kernel)
set_option maxRecDepth 20000 in
theorem gX6_makes_X2_push : GoodIn wsX6_makes (wsV RX6 71 RX2 yX2_push wsX2_push) := goodIn_app (goodIn_of _ (by decide +kernel)) ggX6_makes_X2_push
set_option maxRecDepth 20000 in
theorem ggX6_makes_X1_makeThing : GoodIn wsX6_makes wsX1_makeThing := goodIn_r _ [85, 20, 64, 65, 62, 63, 34, 25, 26, 27, 28, 14, 29, 86, 87, 88, 89, 39, 90, 91, 92, 93, 102, 103, 104, 105, 106, 107, 108, 109, 110, 111, 112, 113, 114, 115, 116, 117, 118, 119] (by decide +kernel) (by decide +kernel)
set_option maxRecDepth 20000 in
theorem gX6_makes_X1_makeThing : GoodIn wsX6_makes (wsV RX6 75 RX1 yX1_makeThing wsX1_makeThing) := goodIn_app (goodIn_of _ (by decide +kernel)) ggX6_makes_X1_makeThing
theorem dX6_makes_0 : decode cX6_makes 0 = .ok (.iload_n 1, 1) := by decide +kernel
theorem dX6_makes_1 : decode cX6_makes 1 = .ok (.iconst 1, 1) := by decide +kernel
theorem dX6_makes_2 : decode cX6_makes 2 = .ok (.bipush 24, 2) := by decide +kernel
theorem dX6_makes_4 : decode cX6_makes 4 = .ok (.invokestatic 55, 3) := by decide +kernel
theorem dX6_makes_7 : decode cX6_makes 7 = .ok (.ifCond .eq 10, 3) := by decide +kernel
theorem dX6_makes_10 : decode cX6_makes 10 = .ok (.iload_n 2, 1) := by decide +kernel
theorem dX6_makes_11 : decode cX6_makes 11 = .ok (.invokestatic 59, 3) := by decide +kernel
theorem dX6_makes_14 : decode cX6_makes 14 = .ok (.ifCond .ne 5, 3) := by decide +kernel
theorem dX6_makes_17 : decode cX6_makes 17 = .ok (.iconst (-1), 1) := by decide +kernel
theorem dX6_makes_18 : decode cX6_makes 18 = .ok (.ireturn, 1) := by decide +kernel
theorem dX6_makes_19 : decode cX6_makes 19 = .ok (.aload_n 0, 1) := by decide +kernel
theorem dX6_makes_20 : decode cX6_makes 20 = .ok (.getfield 10, 3) := by decide +kernel
theorem dX6_makes_23 : decode cX6_makes 23 = .ok (.invokevirtual 63, 3) := by decide +kernel
theorem dX6_makes_26 : decode cX6_makes 26 = .ok (.istore_n 3, 1) := by decide +kernel
theorem dX6_makes_27 : decode cX6_makes 27 = .ok (.aload_n 0, 1) := by decide +kernel
theorem dX6_makes_28 : decode cX6_makes 28 = .ok (.getfield 10, 3) := by decide +kernel
theorem dX6_makes_31 : decode cX6_makes 31 = .ok (.iload_n 1, 1) := by decide +kernel
theorem dX6_makes_32 : decode cX6_makes 32 = .ok (.invokevirtual 67, 3) := by decide +kernel
theorem dX6_makes_35 : decode cX6_makes 35 = .ok (.istore 4, 2) := by decide +kernel
theorem dX6_makes_37 : decode cX6_makes 37 = .ok (.iload_n 3, 1) := by decide +kernel
theorem dX6_makes_38 : decode cX6_makes 38 = .ok (.bipush (-9), 2) := by decide +kernel
theorem dX6_makes_40 : decode cX6_makes 40 = .ok (.if_icmp .eq 10, 3) := by decide +kernel
theorem dX6_makes_43 : decode cX6_makes 43 = .ok (.iload 4, 2) := by decide +kernel
theorem dX6_makes_45 : decode cX6_makes 45 = .ok (.bipush (-9), 2) := by decide +kernel
theorem dX6_makes_47 : decode cX6_makes 47 = .ok (.if_icmp .ne 6, 3) := by decide +kernel
theorem dX6_makes_50 : decode cX6_makes 50 = .ok (.bipush (-3), 2) := by decide +kernel
theorem dX6_makes_52 : decode cX6_makes 52 = .ok (.ireturn, 1) := by decide +kernel
theorem dX6_makes_53 : decode cX6_makes 53 = .ok (.aload_n 0, 1) := by decide +kernel
theorem dX6_makes_54 : decode cX6_makes 54 = .ok (.getfield 22, 3) := by decide +kernel
theorem dX6_makes_57 : decode cX6_makes 57 = .ok (.aload_n 0, 1) := by decide +kernel
theorem dX6_makes_58 : decode cX6_makes 58 = .ok (.getfield 10, 3) := by decide +kernel
theorem dX6_makes_61 : decode cX6_makes 61 = .ok (.invokevirtual 71, 3) := by decide +kernel
theorem dX6_makes_64 : decode cX6_makes 64 = .ok (.aload_n 0, 1) := by decide +kernel
theorem dX6_makes_65 : decode cX6_makes 65 = .ok (.getfield 10, 3) := by decide +kernel
theorem dX6_makes_68 : decode cX6_makes 68 = .ok (.iload_n 3, 1) := by decide +kernel
theorem dX6_makes_69 : decode cX6_makes 69 = .ok (.iload_n 1, 1) := by decide +kernel
theorem dX6_makes_70 : decode cX6_makes 70 = .ok (.iload 4, 2) := by decide +kernel
theorem dX6_makes_72 : decode cX6_makes 72 = .ok (.invokevirtual 75, 3) := by decide +kernel
theorem dX6_makes_75 : decode cX6_makes 75 = .ok (.aload_n 0, 1) := by decide +kernel
theorem dX6_makes_76 : decode cX6_makes 76 = .ok (.getfield 10, 3) := by decide +kernel
theorem dX6_makes_79 : decode cX6_makes 79 = .ok (.getfield 79, 3) := by decide +kernel
theorem dX6_makes_82 : decode cX6_makes 82 = .ok (.iload_n 2, 1) := by decide +kernel
theorem dX6_makes_83 : decode cX6_makes 83 = .ok (.iload_n 3, 1) := by decide +kernel
theorem dX6_makes_84 : decode cX6_makes 84 = .ok (.iastore, 1) := by decide +kernel
theorem dX6_makes_85 : decode cX6_makes 85 = .ok (.iload_n 3, 1) := by decide +kernel
theorem dX6_makes_86 : decode cX6_makes 86 = .ok (.ireturn, 1) := by decide +kernel
set_option maxRecDepth 20000 in
theorem ggX6_writes_X6_isRoot : GoodIn wsX6_writes wsX6_isRoot := goodIn_r _ [7, 8, 9, 6, 10] (by decide +kernel) (by decide +kernel)
set_option maxRecDepth 20000 in
theorem gX6_writes_X6_isRoot : GoodIn wsX6_writes (va_wsS RX6 59 yX6_isRoot wsX6_isRoot) := goodIn_app (goodIn_of _ (by decide +kernel)) ggX6_writes_X6_isRoot
set_option maxRecDepth 20000 in
theorem ggX6_writes_X6_within : GoodIn wsX6_writes wsX6_within := goodIn_r _ [10] (by decide +kernel) (by decide +kernel)
set_option maxRecDepth 20000 in
theorem gX6_writes_X6_within : GoodIn wsX6_writes (va_wsS RX6 55 yX6_within wsX6_within) := goodIn_app (goodIn_of _ (by decide +kernel)) ggX6_writes_X6_within
set_option maxRecDepth 20000 in
theorem ggX6_writes_X6_isRootOrNil : GoodIn wsX6_writes wsX6_isRootOrNil := goodIn_r _ [13, 8, 9, 6, 10] (by decide +kernel) (by decide +kernel)
set_option maxRecDepth 20000 in
theorem gX6_writes_X6_isRootOrNil : GoodIn wsX6_writes (va_wsS RX6 83 yX6_isRootOrNil wsX6_isRootOrNil) := goodIn_app (goodIn_of _ (by decide +kernel)) ggX6_writes_X6_isRootOrNil
set_option maxRecDepth 20000 in
theorem ggX6_writes_X2_push : GoodIn wsX6_writes wsX2_push := goodIn_r _ [18, 19, 20, 21, 22, 23, 24, 25, 26, 27, 28, 29, 30, 31, 32, 33, 34, 35, 36, 37, 38, 39, 40, 41, 42, 43, 44, 45, 46, 47, 48, 49, 50, 51, 52, 53, 54, 55, 56, 57, 58, 59, 60, 113, 114, 115, 95, 96, 97, 98, 99, 100, 101, 102, 103, 104, 105, 106, 107, 108, 109, 110, 111, 112, 116, 117] (by decide +kernel) (by decide +kernel)
set_option maxRecDepth 20000 in
theorem gX6_writes_X2_push : GoodIn wsX6_writes (wsV RX6 71 RX2 yX2_push wsX2_push) := goodIn_app (goodIn_of _ (by decide +kernel)) ggX6_writes_X2_push
set_option maxRecDepth 20000 in
theorem ggX6_writes_X1_ofRoot : GoodIn wsX6_writes wsX1_ofRoot := goodIn_r _ [64, 44, 95, 96, 97, 98, 99, 100, 101, 102, 103, 104, 105, 106, 107, 108, 109, 110, 111, 112] (by decide +kernel) (by decide +kernel)
set_option maxRecDepth 20000 in
theorem gX6_writes_X1_ofRoot : GoodIn wsX6_writes (wsV RX6 86 RX1 yX1_ofRoot wsX1_ofRoot) := goodIn_app (goodIn_of _ (by decide +kernel)) ggX6_writes_X1_ofRoot
set_option maxRecDepth 20000 in
theorem ggX6_writes_X1_writeField : GoodIn wsX6_writes wsX1_writeField := goodIn_r _ [68, 47, 42, 40, 31, 45, 69, 70, 71, 29, 72, 73, 74, 75, 76, 43, 46, 77, 78, 79, 56, 80, 60, 58, 81, 82, 83, 84, 41, 85, 6, 86, 95, 96, 97, 98, 99, 100, 101, 102, 103, 104, 105, 106, 107, 108, 109, 110, 111, 112, 116, 117] (by decide +kernel) (by decide +kernel)
set_option maxRecDepth 20000 in
theorem gX6_writes_X1_writeField : GoodIn wsX6_writes (wsV RX6 89 RX1 yX1_writeField wsX1_writeField) := goodIn_app (goodIn_of _ (by decide +kernel)) ggX6_writes_X1_writeField
theorem dX6_writes_0 : decode cX6_writes 0 = .ok (.iload_n 1, 1) := by decide +kernel
theorem dX6_writes_1 : decode cX6_writes 1 = .ok (.invokestatic 59, 3) := by decide +kernel
theorem dX6_writes_4 : decode cX6_writes 4 = .ok (.ifCond .eq 19, 3) := by decide +kernel
theorem dX6_writes_7 : decode cX6_writes 7 = .ok (.iload_n 2, 1) := by decide +kernel
theorem dX6_writes_8 : decode cX6_writes 8 = .ok (.iconst 0, 1) := by decide +kernel
theorem dX6_writes_9 : decode cX6_writes 9 = .ok (.iconst 1, 1) := by decide +kernel
theorem dX6_writes_10 : decode cX6_writes 10 = .ok (.invokestatic 55, 3) := by decide +kernel
theorem dX6_writes_13 : decode cX6_writes 13 = .ok (.ifCond .eq 10, 3) := by decide +kernel
theorem dX6_writes_16 : decode cX6_writes 16 = .ok (.iload_n 3, 1) := by decide +kernel
theorem dX6_writes_17 : decode cX6_writes 17 = .ok (.invokestatic 83, 3) := by decide +kernel
theorem dX6_writes_20 : decode cX6_writes 20 = .ok (.ifCond .ne 5, 3) := by decide +kernel
theorem dX6_writes_23 : decode cX6_writes 23 = .ok (.iconst (-1), 1) := by decide +kernel
theorem dX6_writes_24 : decode cX6_writes 24 = .ok (.ireturn, 1) := by decide +kernel
theorem dX6_writes_25 : decode cX6_writes 25 = .ok (.aload_n 0, 1) := by decide +kernel
theorem dX6_writes_26 : decode cX6_writes 26 = .ok (.getfield 10, 3) := by decide +kernel
theorem dX6_writes_29 : decode cX6_writes 29 = .ok (.getfield 79, 3) := by decide +kernel
theorem dX6_writes_32 : decode cX6_writes 32 = .ok (.iload_n 1, 1) := by decide +kernel
theorem dX6_writes_33 : decode cX6_writes 33 = .ok (.iaload, 1) := by decide +kernel
theorem dX6_writes_34 : decode cX6_writes 34 = .ok (.bipush (-5), 2) := by decide +kernel
theorem dX6_writes_36 : decode cX6_writes 36 = .ok (.if_icmp .ne 6, 3) := by decide +kernel
theorem dX6_writes_39 : decode cX6_writes 39 = .ok (.bipush (-2), 2) := by decide +kernel
theorem dX6_writes_41 : decode cX6_writes 41 = .ok (.ireturn, 1) := by decide +kernel
theorem dX6_writes_42 : decode cX6_writes 42 = .ok (.aload_n 0, 1) := by decide +kernel
theorem dX6_writes_43 : decode cX6_writes 43 = .ok (.getfield 22, 3) := by decide +kernel
theorem dX6_writes_46 : decode cX6_writes 46 = .ok (.aload_n 0, 1) := by decide +kernel
theorem dX6_writes_47 : decode cX6_writes 47 = .ok (.getfield 10, 3) := by decide +kernel
theorem dX6_writes_50 : decode cX6_writes 50 = .ok (.invokevirtual 71, 3) := by decide +kernel
theorem dX6_writes_53 : decode cX6_writes 53 = .ok (.aload_n 0, 1) := by decide +kernel
theorem dX6_writes_54 : decode cX6_writes 54 = .ok (.getfield 10, 3) := by decide +kernel
theorem dX6_writes_57 : decode cX6_writes 57 = .ok (.aload_n 0, 1) := by decide +kernel
theorem dX6_writes_58 : decode cX6_writes 58 = .ok (.getfield 10, 3) := by decide +kernel
theorem dX6_writes_61 : decode cX6_writes 61 = .ok (.getfield 79, 3) := by decide +kernel
theorem dX6_writes_64 : decode cX6_writes 64 = .ok (.iload_n 1, 1) := by decide +kernel
theorem dX6_writes_65 : decode cX6_writes 65 = .ok (.iaload, 1) := by decide +kernel
theorem dX6_writes_66 : decode cX6_writes 66 = .ok (.iload_n 2, 1) := by decide +kernel
theorem dX6_writes_67 : decode cX6_writes 67 = .ok (.aload_n 0, 1) := by decide +kernel
theorem dX6_writes_68 : decode cX6_writes 68 = .ok (.getfield 10, 3) := by decide +kernel
theorem dX6_writes_71 : decode cX6_writes 71 = .ok (.iload_n 3, 1) := by decide +kernel
theorem dX6_writes_72 : decode cX6_writes 72 = .ok (.invokevirtual 86, 3) := by decide +kernel
theorem dX6_writes_75 : decode cX6_writes 75 = .ok (.invokevirtual 89, 3) := by decide +kernel
theorem dX6_writes_78 : decode cX6_writes 78 = .ok (.ifCond .eq 7, 3) := by decide +kernel
theorem dX6_writes_81 : decode cX6_writes 81 = .ok (.iconst 1, 1) := by decide +kernel
theorem dX6_writes_82 : decode cX6_writes 82 = .ok (.goto 4, 3) := by decide +kernel
theorem dX6_writes_85 : decode cX6_writes 85 = .ok (.iconst 0, 1) := by decide +kernel
theorem dX6_writes_86 : decode cX6_writes 86 = .ok (.ireturn, 1) := by decide +kernel
set_option maxRecDepth 20000 in
theorem ggX6_takes_X6_isRoot : GoodIn wsX6_takes wsX6_isRoot := goodIn_r _ [7, 8, 9, 6, 10] (by decide +kernel) (by decide +kernel)
set_option maxRecDepth 20000 in
theorem gX6_takes_X6_isRoot : GoodIn wsX6_takes (va_wsS RX6 59 yX6_isRoot wsX6_isRoot) := goodIn_app (goodIn_of _ (by decide +kernel)) ggX6_takes_X6_isRoot
set_option maxRecDepth 20000 in
theorem ggX6_takes_X6_within : GoodIn wsX6_takes wsX6_within := goodIn_r _ [10] (by decide +kernel) (by decide +kernel)
set_option maxRecDepth 20000 in
theorem gX6_takes_X6_within : GoodIn wsX6_takes (va_wsS RX6 55 yX6_within wsX6_within) := goodIn_app (goodIn_of _ (by decide +kernel)) ggX6_takes_X6_within
set_option maxRecDepth 20000 in
theorem ggX6_takes_X2_push : GoodIn wsX6_takes wsX2_push := goodIn_r _ [15, 16, 17, 18, 19, 20, 21, 22, 23, 24, 25, 26, 27, 28, 29, 30, 31, 32, 33, 34, 35, 36, 37, 38, 39, 40, 41, 42, 43, 44, 45, 46, 47, 48, 49, 50, 51, 52, 53, 54, 55, 56, 57, 88, 89, 90, 70, 71, 72, 73, 74, 75, 76, 77, 78, 79, 80, 81, 82, 83, 84, 85, 86, 87, 91, 92] (by decide +kernel) (by decide +kernel)
set_option maxRecDepth 20000 in
theorem gX6_takes_X2_push : GoodIn wsX6_takes (wsV RX6 71 RX2 yX2_push wsX2_push) := goodIn_app (goodIn_of _ (by decide +kernel)) ggX6_takes_X2_push
set_option maxRecDepth 20000 in
theorem ggX6_takes_X1_fieldOf : GoodIn wsX6_takes wsX1_fieldOf := goodIn_r _ [61, 39, 70, 71, 72, 73, 74, 75, 76, 77, 78, 79, 80, 81, 82, 83, 84, 85, 86, 87] (by decide +kernel) (by decide +kernel)
set_option maxRecDepth 20000 in
theorem gX6_takes_X1_fieldOf : GoodIn wsX6_takes (wsV RX6 92 RX1 yX1_fieldOf wsX1_fieldOf) := goodIn_app (goodIn_of _ (by decide +kernel)) ggX6_takes_X1_fieldOf
theorem dX6_takes_0 : decode cX6_takes 0 = .ok (.iload_n 1, 1) := by decide +kernel
theorem dX6_takes_1 : decode cX6_takes 1 = .ok (.invokestatic 59, 3) := by decide +kernel
theorem dX6_takes_4 : decode cX6_takes 4 = .ok (.ifCond .eq 19, 3) := by decide +kernel
theorem dX6_takes_7 : decode cX6_takes 7 = .ok (.iload_n 2, 1) := by decide +kernel
theorem dX6_takes_8 : decode cX6_takes 8 = .ok (.invokestatic 59, 3) := by decide +kernel
theorem dX6_takes_11 : decode cX6_takes 11 = .ok (.ifCond .eq 12, 3) := by decide +kernel
theorem dX6_takes_14 : decode cX6_takes 14 = .ok (.iload_n 3, 1) := by decide +kernel
theorem dX6_takes_15 : decode cX6_takes 15 = .ok (.iconst 0, 1) := by decide +kernel
theorem dX6_takes_16 : decode cX6_takes 16 = .ok (.iconst 1, 1) := by decide +kernel
theorem dX6_takes_17 : decode cX6_takes 17 = .ok (.invokestatic 55, 3) := by decide +kernel
theorem dX6_takes_20 : decode cX6_takes 20 = .ok (.ifCond .ne 5, 3) := by decide +kernel
theorem dX6_takes_23 : decode cX6_takes 23 = .ok (.iconst (-1), 1) := by decide +kernel
theorem dX6_takes_24 : decode cX6_takes 24 = .ok (.ireturn, 1) := by decide +kernel
theorem dX6_takes_25 : decode cX6_takes 25 = .ok (.aload_n 0, 1) := by decide +kernel
theorem dX6_takes_26 : decode cX6_takes 26 = .ok (.getfield 10, 3) := by decide +kernel
theorem dX6_takes_29 : decode cX6_takes 29 = .ok (.getfield 79, 3) := by decide +kernel
theorem dX6_takes_32 : decode cX6_takes 32 = .ok (.iload_n 2, 1) := by decide +kernel
theorem dX6_takes_33 : decode cX6_takes 33 = .ok (.iaload, 1) := by decide +kernel
theorem dX6_takes_34 : decode cX6_takes 34 = .ok (.bipush (-5), 2) := by decide +kernel
theorem dX6_takes_36 : decode cX6_takes 36 = .ok (.if_icmp .ne 6, 3) := by decide +kernel
theorem dX6_takes_39 : decode cX6_takes 39 = .ok (.bipush (-2), 2) := by decide +kernel
theorem dX6_takes_41 : decode cX6_takes 41 = .ok (.ireturn, 1) := by decide +kernel
theorem dX6_takes_42 : decode cX6_takes 42 = .ok (.aload_n 0, 1) := by decide +kernel
theorem dX6_takes_43 : decode cX6_takes 43 = .ok (.getfield 22, 3) := by decide +kernel
theorem dX6_takes_46 : decode cX6_takes 46 = .ok (.aload_n 0, 1) := by decide +kernel
theorem dX6_takes_47 : decode cX6_takes 47 = .ok (.getfield 10, 3) := by decide +kernel
theorem dX6_takes_50 : decode cX6_takes 50 = .ok (.invokevirtual 71, 3) := by decide +kernel
theorem dX6_takes_53 : decode cX6_takes 53 = .ok (.aload_n 0, 1) := by decide +kernel
theorem dX6_takes_54 : decode cX6_takes 54 = .ok (.getfield 10, 3) := by decide +kernel
theorem dX6_takes_57 : decode cX6_takes 57 = .ok (.getfield 79, 3) := by decide +kernel
theorem dX6_takes_60 : decode cX6_takes 60 = .ok (.iload_n 1, 1) := by decide +kernel
theorem dX6_takes_61 : decode cX6_takes 61 = .ok (.aload_n 0, 1) := by decide +kernel
theorem dX6_takes_62 : decode cX6_takes 62 = .ok (.getfield 10, 3) := by decide +kernel
theorem dX6_takes_65 : decode cX6_takes 65 = .ok (.aload_n 0, 1) := by decide +kernel
theorem dX6_takes_66 : decode cX6_takes 66 = .ok (.getfield 10, 3) := by decide +kernel
theorem dX6_takes_69 : decode cX6_takes 69 = .ok (.getfield 79, 3) := by decide +kernel
theorem dX6_takes_72 : decode cX6_takes 72 = .ok (.iload_n 2, 1) := by decide +kernel
theorem dX6_takes_73 : decode cX6_takes 73 = .ok (.iaload, 1) := by decide +kernel
theorem dX6_takes_74 : decode cX6_takes 74 = .ok (.iload_n 3, 1) := by decide +kernel
theorem dX6_takes_75 : decode cX6_takes 75 = .ok (.invokevirtual 92, 3) := by decide +kernel
theorem dX6_takes_78 : decode cX6_takes 78 = .ok (.iastore, 1) := by decide +kernel
theorem dX6_takes_79 : decode cX6_takes 79 = .ok (.aload_n 0, 1) := by decide +kernel
theorem dX6_takes_80 : decode cX6_takes 80 = .ok (.getfield 10, 3) := by decide +kernel
theorem dX6_takes_83 : decode cX6_takes 83 = .ok (.getfield 79, 3) := by decide +kernel
theorem dX6_takes_86 : decode cX6_takes 86 = .ok (.iload_n 1, 1) := by decide +kernel
theorem dX6_takes_87 : decode cX6_takes 87 = .ok (.iaload, 1) := by decide +kernel
theorem dX6_takes_88 : decode cX6_takes 88 = .ok (.ireturn, 1) := by decide +kernel
set_option maxRecDepth 20000 in
theorem ggX6_sets_X6_isRoot : GoodIn wsX6_sets wsX6_isRoot := goodIn_r _ [7, 8, 9, 6, 10] (by decide +kernel) (by decide +kernel)
set_option maxRecDepth 20000 in
theorem gX6_sets_X6_isRoot : GoodIn wsX6_sets (va_wsS RX6 59 yX6_isRoot wsX6_isRoot) := goodIn_app (goodIn_of _ (by decide +kernel)) ggX6_sets_X6_isRoot
set_option maxRecDepth 20000 in
theorem ggX6_sets_X6_isRootOrNil : GoodIn wsX6_sets wsX6_isRootOrNil := goodIn_r _ [13, 8, 9, 6, 10] (by decide +kernel) (by decide +kernel)
set_option maxRecDepth 20000 in
theorem gX6_sets_X6_isRootOrNil : GoodIn wsX6_sets (va_wsS RX6 83 yX6_isRootOrNil wsX6_isRootOrNil) := goodIn_app (goodIn_of _ (by decide +kernel)) ggX6_sets_X6_isRootOrNil
set_option maxRecDepth 20000 in
theorem ggX6_sets_X2_push : GoodIn wsX6_sets wsX2_push := goodIn_r _ [18, 19, 20, 21, 22, 23, 24, 25, 26, 27, 28, 29, 30, 31, 32, 33, 34, 35, 36, 37, 38, 39, 40, 41, 42, 43, 44, 45, 46, 47, 48, 49, 50, 51, 52, 53, 54, 55, 56, 57, 58, 59, 60, 91, 92, 93, 73, 74, 75, 76, 77, 78, 79, 80, 81, 82, 83, 84, 85, 86, 87, 88, 89, 90, 94, 95] (by decide +kernel) (by decide +kernel)
set_option maxRecDepth 20000 in
theorem gX6_sets_X2_push : GoodIn wsX6_sets (wsV RX6 71 RX2 yX2_push wsX2_push) := goodIn_app (goodIn_of _ (by decide +kernel)) ggX6_sets_X2_push
set_option maxRecDepth 20000 in
theorem ggX6_sets_X1_ofRoot : GoodIn wsX6_sets wsX1_ofRoot := goodIn_r _ [64, 44, 73, 74, 75, 76, 77, 78, 79, 80, 81, 82, 83, 84, 85, 86, 87, 88, 89, 90] (by decide +kernel) (by decide +kernel)
set_option maxRecDepth 20000 in
theorem gX6_sets_X1_ofRoot : GoodIn wsX6_sets (wsV RX6 86 RX1 yX1_ofRoot wsX1_ofRoot) := goodIn_app (goodIn_of _ (by decide +kernel)) ggX6_sets_X1_ofRoot
theorem dX6_sets_0 : decode cX6_sets 0 = .ok (.iload_n 1, 1) := by decide +kernel
theorem dX6_sets_1 : decode cX6_sets 1 = .ok (.invokestatic 59, 3) := by decide +kernel
theorem dX6_sets_4 : decode cX6_sets 4 = .ok (.ifCond .eq 10, 3) := by decide +kernel
theorem dX6_sets_7 : decode cX6_sets 7 = .ok (.iload_n 2, 1) := by decide +kernel
theorem dX6_sets_8 : decode cX6_sets 8 = .ok (.invokestatic 83, 3) := by decide +kernel
theorem dX6_sets_11 : decode cX6_sets 11 = .ok (.ifCond .ne 5, 3) := by decide +kernel
theorem dX6_sets_14 : decode cX6_sets 14 = .ok (.iconst (-1), 1) := by decide +kernel
theorem dX6_sets_15 : decode cX6_sets 15 = .ok (.ireturn, 1) := by decide +kernel
theorem dX6_sets_16 : decode cX6_sets 16 = .ok (.aload_n 0, 1) := by decide +kernel
theorem dX6_sets_17 : decode cX6_sets 17 = .ok (.getfield 22, 3) := by decide +kernel
theorem dX6_sets_20 : decode cX6_sets 20 = .ok (.aload_n 0, 1) := by decide +kernel
theorem dX6_sets_21 : decode cX6_sets 21 = .ok (.getfield 10, 3) := by decide +kernel
theorem dX6_sets_24 : decode cX6_sets 24 = .ok (.invokevirtual 71, 3) := by decide +kernel
theorem dX6_sets_27 : decode cX6_sets 27 = .ok (.aload_n 0, 1) := by decide +kernel
theorem dX6_sets_28 : decode cX6_sets 28 = .ok (.getfield 10, 3) := by decide +kernel
theorem dX6_sets_31 : decode cX6_sets 31 = .ok (.getfield 79, 3) := by decide +kernel
theorem dX6_sets_34 : decode cX6_sets 34 = .ok (.iload_n 1, 1) := by decide +kernel
theorem dX6_sets_35 : decode cX6_sets 35 = .ok (.iaload, 1) := by decide +kernel
theorem dX6_sets_36 : decode cX6_sets 36 = .ok (.istore_n 3, 1) := by decide +kernel
theorem dX6_sets_37 : decode cX6_sets 37 = .ok (.aload_n 0, 1) := by decide +kernel
theorem dX6_sets_38 : decode cX6_sets 38 = .ok (.getfield 10, 3) := by decide +kernel
theorem dX6_sets_41 : decode cX6_sets 41 = .ok (.getfield 79, 3) := by decide +kernel
theorem dX6_sets_44 : decode cX6_sets 44 = .ok (.iload_n 1, 1) := by decide +kernel
theorem dX6_sets_45 : decode cX6_sets 45 = .ok (.aload_n 0, 1) := by decide +kernel
theorem dX6_sets_46 : decode cX6_sets 46 = .ok (.getfield 10, 3) := by decide +kernel
theorem dX6_sets_49 : decode cX6_sets 49 = .ok (.iload_n 2, 1) := by decide +kernel
theorem dX6_sets_50 : decode cX6_sets 50 = .ok (.invokevirtual 86, 3) := by decide +kernel
theorem dX6_sets_53 : decode cX6_sets 53 = .ok (.iastore, 1) := by decide +kernel
theorem dX6_sets_54 : decode cX6_sets 54 = .ok (.iload_n 3, 1) := by decide +kernel
theorem dX6_sets_55 : decode cX6_sets 55 = .ok (.ireturn, 1) := by decide +kernel
set_option maxRecDepth 20000 in
theorem ggX6_refines_X6_within : GoodIn wsX6_refines wsX6_within := goodIn_r _ [8] (by decide +kernel) (by decide +kernel)
set_option maxRecDepth 20000 in
theorem gX6_refines_X6_within : GoodIn wsX6_refines (va_wsS RX6 55 yX6_within wsX6_within) := goodIn_app (goodIn_of _ (by decide +kernel)) ggX6_refines_X6_within
set_option maxRecDepth 20000 in
theorem ggX6_refines_X2_push : GoodIn wsX6_refines wsX2_push := goodIn_r _ [13, 14, 15, 16, 17, 18, 19, 20, 21, 22, 23, 24, 25, 26, 27, 28, 29, 30, 31, 32, 33, 34, 35, 36, 37, 38, 39, 40, 41, 42, 43, 44, 45, 46, 47, 48, 49, 50, 51, 52, 53, 54, 55, 125, 126, 127, 105, 106, 107, 108, 109, 110, 111, 112, 113, 114, 115, 116, 117, 118, 119, 120, 121, 122, 123, 124] (by decide +kernel) (by decide +kernel)
set_option maxRecDepth 20000 in
theorem gX6_refines_X2_push : GoodIn wsX6_refines (wsV RX6 71 RX2 yX2_push wsX2_push) := goodIn_app (goodIn_of _ (by decide +kernel)) ggX6_refines_X2_push
set_option maxRecDepth 20000 in
theorem ggX6_refines_X1_refineOldest : GoodIn wsX6_refines wsX1_refineOldest := goodIn_r _ [59, 40, 60, 61, 62, 63, 51, 64, 55, 53, 65, 66, 67, 24, 68, 69, 70, 71, 72, 73, 74, 75, 76, 77, 78, 79, 80, 34, 81, 82, 83, 84, 35, 36, 85, 7, 86, 87, 88, 89, 90, 37, 91, 92, 93, 94, 33, 95, 96, 105, 106, 107, 108, 109, 110, 111, 112, 113, 114, 115, 116, 117, 118, 119, 120, 121, 122, 123, 124] (by decide +kernel) (by decide +kernel)
set_option maxRecDepth 20000 in
theorem gX6_refines_X1_refineOldest : GoodIn wsX6_refines (wsV RX6 106 RX1 yX1_refineOldest wsX1_refineOldest) := goodIn_app (goodIn_of _ (by decide +kernel)) ggX6_refines_X1_refineOldest
theorem dX6_refines_0 : decode cX6_refines 0 = .ok (.iload_n 1, 1) := by decide +kernel
theorem dX6_refines_1 : decode cX6_refines 1 = .ok (.iconst 1, 1) := by decide +kernel
theorem dX6_refines_2 : decode cX6_refines 2 = .ok (.bipush 20, 2) := by decide +kernel
theorem dX6_refines_4 : decode cX6_refines 4 = .ok (.invokestatic 55, 3) := by decide +kernel
theorem dX6_refines_7 : decode cX6_refines 7 = .ok (.ifCond .ne 5, 3) := by decide +kernel
theorem dX6_refines_10 : decode cX6_refines 10 = .ok (.iconst (-1), 1) := by decide +kernel
theorem dX6_refines_11 : decode cX6_refines 11 = .ok (.ireturn, 1) := by decide +kernel
theorem dX6_refines_12 : decode cX6_refines 12 = .ok (.aload_n 0, 1) := by decide +kernel
theorem dX6_refines_13 : decode cX6_refines 13 = .ok (.getfield 10, 3) := by decide +kernel
theorem dX6_refines_16 : decode cX6_refines 16 = .ok (.getfield 96, 3) := by decide +kernel
theorem dX6_refines_19 : decode cX6_refines 19 = .ok (.getfield 100, 3) := by decide +kernel
theorem dX6_refines_22 : decode cX6_refines 22 = .ok (.ifCond .ne 6, 3) := by decide +kernel
theorem dX6_refines_25 : decode cX6_refines 25 = .ok (.bipush (-2), 2) := by decide +kernel
theorem dX6_refines_27 : decode cX6_refines 27 = .ok (.ireturn, 1) := by decide +kernel
theorem dX6_refines_28 : decode cX6_refines 28 = .ok (.aload_n 0, 1) := by decide +kernel
theorem dX6_refines_29 : decode cX6_refines 29 = .ok (.getfield 22, 3) := by decide +kernel
theorem dX6_refines_32 : decode cX6_refines 32 = .ok (.aload_n 0, 1) := by decide +kernel
theorem dX6_refines_33 : decode cX6_refines 33 = .ok (.getfield 10, 3) := by decide +kernel
theorem dX6_refines_36 : decode cX6_refines 36 = .ok (.invokevirtual 71, 3) := by decide +kernel
theorem dX6_refines_39 : decode cX6_refines 39 = .ok (.aload_n 0, 1) := by decide +kernel
theorem dX6_refines_40 : decode cX6_refines 40 = .ok (.getfield 10, 3) := by decide +kernel
theorem dX6_refines_43 : decode cX6_refines 43 = .ok (.iload_n 1, 1) := by decide +kernel
theorem dX6_refines_44 : decode cX6_refines 44 = .ok (.invokevirtual 106, 3) := by decide +kernel
theorem dX6_refines_47 : decode cX6_refines 47 = .ok (.ireturn, 1) := by decide +kernel
set_option maxRecDepth 20000 in
theorem ggX6_begins_X2_push : GoodIn wsX6_begins wsX2_push := goodIn_r _ [10, 11, 12, 13, 14, 15, 16, 17, 18, 19, 20, 21, 22, 23, 24, 25, 26, 27, 28, 29, 30, 31, 32, 33, 34, 35, 36, 37, 38, 39, 40, 41, 42, 43, 44, 45, 46, 47, 48, 49, 50, 51, 52, 139, 140, 141, 119, 120, 121, 122, 123, 124, 125, 126, 127, 128, 129, 130, 131, 132, 133, 134, 135, 136, 137, 138] (by decide +kernel) (by decide +kernel)
set_option maxRecDepth 20000 in
theorem gX6_begins_X2_push : GoodIn wsX6_begins (wsV RX6 71 RX2 yX2_push wsX2_push) := goodIn_app (goodIn_of _ (by decide +kernel)) ggX6_begins_X2_push
set_option maxRecDepth 20000 in
theorem ggX6_begins_X1_beginMarking : GoodIn wsX6_begins wsX1_beginMarking := goodIn_r _ [56, 39, 35, 36, 57, 58, 59, 60, 61, 62, 63, 21, 64, 38, 65, 66, 67, 48, 68, 52, 50, 69, 70, 71, 72, 73, 23, 29, 74, 75, 76, 77, 31, 78, 79, 80, 81, 32, 82, 83, 84, 85, 86, 87, 88, 89, 90, 91, 92, 93, 34, 94, 95, 96, 97, 98, 99, 100, 101, 28, 30, 37, 102, 103, 104, 105, 106, 107, 108, 109, 110, 119, 120, 121, 122, 123, 124, 125, 126, 127, 128, 129, 130, 131, 132, 133, 134, 135, 136, 137, 138] (by decide +kernel) (by decide +kernel)
set_option maxRecDepth 20000 in
theorem gX6_begins_X1_beginMarking : GoodIn wsX6_begins (wsV RX6 113 RX1 yX1_beginMarking wsX1_beginMarking) := goodIn_app (goodIn_of _ (by decide +kernel)) ggX6_begins_X1_beginMarking
theorem dX6_begins_0 : decode cX6_begins 0 = .ok (.aload_n 0, 1) := by decide +kernel
theorem dX6_begins_1 : decode cX6_begins 1 = .ok (.getfield 10, 3) := by decide +kernel
theorem dX6_begins_4 : decode cX6_begins 4 = .ok (.getfield 109, 3) := by decide +kernel
theorem dX6_begins_7 : decode cX6_begins 7 = .ok (.ifCond .eq 6, 3) := by decide +kernel
theorem dX6_begins_10 : decode cX6_begins 10 = .ok (.bipush (-2), 2) := by decide +kernel
theorem dX6_begins_12 : decode cX6_begins 12 = .ok (.ireturn, 1) := by decide +kernel
theorem dX6_begins_13 : decode cX6_begins 13 = .ok (.aload_n 0, 1) := by decide +kernel
theorem dX6_begins_14 : decode cX6_begins 14 = .ok (.getfield 22, 3) := by decide +kernel
theorem dX6_begins_17 : decode cX6_begins 17 = .ok (.aload_n 0, 1) := by decide +kernel
theorem dX6_begins_18 : decode cX6_begins 18 = .ok (.getfield 10, 3) := by decide +kernel
theorem dX6_begins_21 : decode cX6_begins 21 = .ok (.invokevirtual 71, 3) := by decide +kernel
theorem dX6_begins_24 : decode cX6_begins 24 = .ok (.aload_n 0, 1) := by decide +kernel
theorem dX6_begins_25 : decode cX6_begins 25 = .ok (.getfield 10, 3) := by decide +kernel
theorem dX6_begins_28 : decode cX6_begins 28 = .ok (.invokevirtual 113, 3) := by decide +kernel
theorem dX6_begins_31 : decode cX6_begins 31 = .ok (.aload_n 0, 1) := by decide +kernel
theorem dX6_begins_32 : decode cX6_begins 32 = .ok (.getfield 10, 3) := by decide +kernel
theorem dX6_begins_35 : decode cX6_begins 35 = .ok (.getfield 116, 3) := by decide +kernel
theorem dX6_begins_38 : decode cX6_begins 38 = .ok (.getfield 100, 3) := by decide +kernel
theorem dX6_begins_41 : decode cX6_begins 41 = .ok (.ireturn, 1) := by decide +kernel
set_option maxRecDepth 20000 in
theorem ggX6_steps_X6_within : GoodIn wsX6_steps wsX6_within := goodIn_r _ [9] (by decide +kernel) (by decide +kernel)
set_option maxRecDepth 20000 in
theorem gX6_steps_X6_within : GoodIn wsX6_steps (va_wsS RX6 55 yX6_within wsX6_within) := goodIn_app (goodIn_of _ (by decide +kernel)) ggX6_steps_X6_within
set_option maxRecDepth 20000 in
theorem ggX6_steps_X2_push : GoodIn wsX6_steps wsX2_push := goodIn_r _ [14, 15, 16, 17, 18, 19, 20, 21, 22, 23, 24, 25, 26, 27, 28, 29, 30, 31, 32, 33, 34, 35, 36, 37, 38, 39, 40, 41, 42, 43, 44, 45, 46, 47, 48, 49, 50, 51, 52, 53, 54, 55, 56, 146, 147, 148, 126, 127, 128, 129, 130, 131, 132, 133, 134, 135, 136, 137, 138, 139, 140, 141, 142, 143, 144, 145] (by decide +kernel) (by decide +kernel)
set_option maxRecDepth 20000 in
theorem gX6_steps_X2_push : GoodIn wsX6_steps (wsV RX6 71 RX2 yX2_push wsX2_push) := goodIn_app (goodIn_of _ (by decide +kernel)) ggX6_steps_X2_push
set_option maxRecDepth 20000 in
theorem ggX6_steps_X1_markOldest : GoodIn wsX6_steps wsX1_markOldest := goodIn_r _ [60, 42, 39, 61, 62, 63, 52, 64, 56, 54, 65, 66, 67, 68, 69, 70, 71, 25, 72, 38, 73, 74, 75, 76, 77, 78, 79, 80, 81, 82, 83, 84, 85, 43, 27, 33, 86, 87, 88, 89, 35, 90, 91, 92, 93, 36, 94, 95, 96, 97, 98, 99, 100, 101, 102, 103, 104, 105, 106, 107, 108, 109, 110, 111, 112, 113, 32, 34, 41, 114, 8, 115, 116, 117, 126, 127, 128, 129, 130, 131, 132, 133, 134, 135, 136, 137, 138, 139, 140, 141, 142, 143, 144, 145] (by decide +kernel) (by decide +kernel)
set_option maxRecDepth 20000 in
theorem gX6_steps_X1_markOldest : GoodIn wsX6_steps (wsV RX6 119 RX1 yX1_markOldest wsX1_markOldest) := goodIn_app (goodIn_of _ (by decide +kernel)) ggX6_steps_X1_markOldest
theorem dX6_steps_0 : decode cX6_steps 0 = .ok (.iload_n 1, 1) := by decide +kernel
theorem dX6_steps_1 : decode cX6_steps 1 = .ok (.iconst 1, 1) := by decide +kernel
theorem dX6_steps_2 : decode cX6_steps 2 = .ok (.bipush 32, 2) := by decide +kernel
theorem dX6_steps_4 : decode cX6_steps 4 = .ok (.invokestatic 55, 3) := by decide +kernel
theorem dX6_steps_7 : decode cX6_steps 7 = .ok (.ifCond .ne 5, 3) := by decide +kernel
theorem dX6_steps_10 : decode cX6_steps 10 = .ok (.iconst (-1), 1) := by decide +kernel
theorem dX6_steps_11 : decode cX6_steps 11 = .ok (.ireturn, 1) := by decide +kernel
theorem dX6_steps_12 : decode cX6_steps 12 = .ok (.aload_n 0, 1) := by decide +kernel
theorem dX6_steps_13 : decode cX6_steps 13 = .ok (.getfield 10, 3) := by decide +kernel
theorem dX6_steps_16 : decode cX6_steps 16 = .ok (.getfield 109, 3) := by decide +kernel
theorem dX6_steps_19 : decode cX6_steps 19 = .ok (.ifCond .ne 6, 3) := by decide +kernel
theorem dX6_steps_22 : decode cX6_steps 22 = .ok (.bipush (-2), 2) := by decide +kernel
theorem dX6_steps_24 : decode cX6_steps 24 = .ok (.ireturn, 1) := by decide +kernel
theorem dX6_steps_25 : decode cX6_steps 25 = .ok (.aload_n 0, 1) := by decide +kernel
theorem dX6_steps_26 : decode cX6_steps 26 = .ok (.getfield 22, 3) := by decide +kernel
theorem dX6_steps_29 : decode cX6_steps 29 = .ok (.aload_n 0, 1) := by decide +kernel
theorem dX6_steps_30 : decode cX6_steps 30 = .ok (.getfield 10, 3) := by decide +kernel
theorem dX6_steps_33 : decode cX6_steps 33 = .ok (.invokevirtual 71, 3) := by decide +kernel
theorem dX6_steps_36 : decode cX6_steps 36 = .ok (.iconst 0, 1) := by decide +kernel
theorem dX6_steps_37 : decode cX6_steps 37 = .ok (.istore_n 2, 1) := by decide +kernel
theorem dX6_steps_38 : decode cX6_steps 38 = .ok (.iload_n 2, 1) := by decide +kernel
theorem dX6_steps_39 : decode cX6_steps 39 = .ok (.iload_n 1, 1) := by decide +kernel
theorem dX6_steps_40 : decode cX6_steps 40 = .ok (.if_icmp .ge 26, 3) := by decide +kernel
theorem dX6_steps_43 : decode cX6_steps 43 = .ok (.aload_n 0, 1) := by decide +kernel
theorem dX6_steps_44 : decode cX6_steps 44 = .ok (.getfield 10, 3) := by decide +kernel
theorem dX6_steps_47 : decode cX6_steps 47 = .ok (.getfield 109, 3) := by decide +kernel
theorem dX6_steps_50 : decode cX6_steps 50 = .ok (.ifCond .eq 16, 3) := by decide +kernel
theorem dX6_steps_53 : decode cX6_steps 53 = .ok (.aload_n 0, 1) := by decide +kernel
theorem dX6_steps_54 : decode cX6_steps 54 = .ok (.getfield 10, 3) := by decide +kernel
theorem dX6_steps_57 : decode cX6_steps 57 = .ok (.invokevirtual 119, 3) := by decide +kernel
theorem dX6_steps_60 : decode cX6_steps 60 = .ok (.iinc 2 1, 3) := by decide +kernel
theorem dX6_steps_63 : decode cX6_steps 63 = .ok (.goto (-25), 3) := by decide +kernel
theorem dX6_steps_66 : decode cX6_steps 66 = .ok (.aload_n 0, 1) := by decide +kernel
theorem dX6_steps_67 : decode cX6_steps 67 = .ok (.getfield 10, 3) := by decide +kernel
theorem dX6_steps_70 : decode cX6_steps 70 = .ok (.getfield 116, 3) := by decide +kernel
theorem dX6_steps_73 : decode cX6_steps 73 = .ok (.getfield 100, 3) := by decide +kernel
theorem dX6_steps_76 : decode cX6_steps 76 = .ok (.ireturn, 1) := by decide +kernel
set_option maxRecDepth 20000 in
theorem ggX6_pauses_X6_isGoal : GoodIn wsX6_pauses wsX6_isGoal := goodIn_r _ [7, 8, 9, 6, 10] (by decide +kernel) (by decide +kernel)
set_option maxRecDepth 20000 in
theorem gX6_pauses_X6_isGoal : GoodIn wsX6_pauses (va_wsS RX6 122 yX6_isGoal wsX6_isGoal) := goodIn_app (goodIn_of _ (by decide +kernel)) ggX6_pauses_X6_isGoal
set_option maxRecDepth 20000 in
theorem ggX6_pauses_X2_push : GoodIn wsX6_pauses wsX2_push := goodIn_r _ [15, 16, 17, 18, 19, 20, 21, 22, 23, 24, 25, 26, 27, 28, 29, 30, 31, 32, 33, 34, 35, 36, 37, 38, 39, 40, 41, 42, 43, 44, 45, 46, 47, 48, 49, 50, 51, 52, 53, 54, 55, 56, 57, 263, 264, 265, 266, 267, 268, 269, 270, 271, 272, 273, 274, 275, 276, 277, 278, 279, 280, 281, 282, 283, 284, 285] (by decide +kernel) (by decide +kernel)
set_option maxRecDepth 20000 in
theorem gX6_pauses_X2_push : GoodIn wsX6_pauses (wsV RX6 71 RX2 yX2_push wsX2_push) := goodIn_app (goodIn_of _ (by decide +kernel)) ggX6_pauses_X2_push
set_option maxRecDepth 20000 in
theorem ggX6_pauses_X3_run : GoodIn wsX6_pauses wsX3_run := goodIn_r _ [62, 63, 64, 65, 66, 61, 67, 68, 69, 70, 71, 72, 73, 74, 75, 76, 77, 78, 26, 79, 42, 80, 81, 82, 83, 53, 84, 57, 55, 85, 86, 87, 88, 89, 90, 91, 92, 93, 94, 95, 96, 97, 98, 99, 100, 36, 101, 102, 103, 104, 37, 38, 105, 6, 106, 107, 108, 109, 110, 39, 111, 112, 113, 114, 35, 115, 116, 117, 118, 119, 120, 121, 122, 123, 124, 125, 126, 127, 128, 129, 130, 131, 132, 133, 134, 135, 136, 137, 138, 139, 140, 141, 142, 143, 144, 145, 146, 147, 148, 149, 150, 151, 152, 153, 154, 155, 156, 157, 158, 159, 160, 161, 162, 163, 164, 165, 166, 167, 168, 169, 170, 171, 172, 173, 174, 175, 176, 177, 178, 179, 180, 181, 182, 183, 184, 185, 186, 187, 188, 189, 190, 191, 192, 193, 33, 194, 195, 196, 197, 28, 198, 199, 200, 201, 202, 203, 204, 205, 206, 207, 208, 209, 210, 211, 212, 213, 214, 215, 216, 217, 218, 219, 220, 221, 222, 223, 224, 225, 226, 227, 228, 229, 230, 231, 232, 233, 234, 34, 235, 236, 237, 238, 239, 240, 241, 242, 243, 244, 245, 246, 247, 248, 249, 250, 251, 252, 253, 254, 286, 287, 288, 289, 290, 291, 292, 293, 284, 285, 266, 267, 268, 269, 270, 271, 272, 273, 274, 275, 276, 277, 278, 279, 280, 281, 282, 283, 294, 295, 296] (by decide +kernel) (by decide +kernel)
set_option maxRecDepth 20000 in
theorem gX6_pauses_X3_run : GoodIn wsX6_pauses (wsV RX6 125 RX3 yX3_run wsX3_run) := goodIn_app (goodIn_of _ (by decide +kernel)) ggX6_pauses_X3_run
theorem dX6_pauses_0 : decode cX6_pauses 0 = .ok (.iload_n 1, 1) := by decide +kernel
theorem dX6_pauses_1 : decode cX6_pauses 1 = .ok (.invokestatic 122, 3) := by decide +kernel
theorem dX6_pauses_4 : decode cX6_pauses 4 = .ok (.ifCond .ne 5, 3) := by decide +kernel
theorem dX6_pauses_7 : decode cX6_pauses 7 = .ok (.iconst (-1), 1) := by decide +kernel
theorem dX6_pauses_8 : decode cX6_pauses 8 = .ok (.ireturn, 1) := by decide +kernel
theorem dX6_pauses_9 : decode cX6_pauses 9 = .ok (.aload_n 0, 1) := by decide +kernel
theorem dX6_pauses_10 : decode cX6_pauses 10 = .ok (.getfield 22, 3) := by decide +kernel
theorem dX6_pauses_13 : decode cX6_pauses 13 = .ok (.aload_n 0, 1) := by decide +kernel
theorem dX6_pauses_14 : decode cX6_pauses 14 = .ok (.getfield 10, 3) := by decide +kernel
theorem dX6_pauses_17 : decode cX6_pauses 17 = .ok (.invokevirtual 71, 3) := by decide +kernel
theorem dX6_pauses_20 : decode cX6_pauses 20 = .ok (.aload_n 0, 1) := by decide +kernel
theorem dX6_pauses_21 : decode cX6_pauses 21 = .ok (.getfield 44, 3) := by decide +kernel
theorem dX6_pauses_24 : decode cX6_pauses 24 = .ok (.aload_n 0, 1) := by decide +kernel
theorem dX6_pauses_25 : decode cX6_pauses 25 = .ok (.getfield 10, 3) := by decide +kernel
theorem dX6_pauses_28 : decode cX6_pauses 28 = .ok (.iload_n 1, 1) := by decide +kernel
theorem dX6_pauses_29 : decode cX6_pauses 29 = .ok (.invokevirtual 125, 3) := by decide +kernel
theorem dX6_pauses_32 : decode cX6_pauses 32 = .ok (.ireturn, 1) := by decide +kernel
set_option maxRecDepth 20000 in
theorem ggX6_undo_X2_pop : GoodIn wsX6_undo wsX2_pop := goodIn_r _ [8, 9, 10, 11, 12, 13, 14, 15, 16, 17, 18, 19, 20, 21, 22, 23, 24, 25, 26, 27, 28, 29, 30, 31, 32, 33, 34, 35, 36, 37, 38, 39, 40, 41, 42, 43, 44, 45, 46, 55, 56, 57, 58, 59, 60, 61, 62, 63, 64, 65, 66, 67, 68, 69, 70, 71, 72, 73, 74, 75, 76, 77] (by decide +kernel) (by decide +kernel)
set_option maxRecDepth 20000 in
theorem gX6_undo_X2_pop : GoodIn wsX6_undo (wsV RX6 132 RX2 yX2_pop wsX2_pop) := goodIn_app (goodIn_of _ (by decide +kernel)) ggX6_undo_X2_pop
theorem dX6_undo_0 : decode cX6_undo 0 = .ok (.aload_n 0, 1) := by decide +kernel
theorem dX6_undo_1 : decode cX6_undo 1 = .ok (.getfield 22, 3) := by decide +kernel
theorem dX6_undo_4 : decode cX6_undo 4 = .ok (.getfield 129, 3) := by decide +kernel
theorem dX6_undo_7 : decode cX6_undo 7 = .ok (.ifCond .ne 6, 3) := by decide +kernel
theorem dX6_undo_10 : decode cX6_undo 10 = .ok (.bipush (-2), 2) := by decide +kernel
theorem dX6_undo_12 : decode cX6_undo 12 = .ok (.ireturn, 1) := by decide +kernel
theorem dX6_undo_13 : decode cX6_undo 13 = .ok (.aload_n 0, 1) := by decide +kernel
theorem dX6_undo_14 : decode cX6_undo 14 = .ok (.getfield 22, 3) := by decide +kernel
theorem dX6_undo_17 : decode cX6_undo 17 = .ok (.aload_n 0, 1) := by decide +kernel
theorem dX6_undo_18 : decode cX6_undo 18 = .ok (.getfield 10, 3) := by decide +kernel
theorem dX6_undo_21 : decode cX6_undo 21 = .ok (.invokevirtual 132, 3) := by decide +kernel
theorem dX6_undo_24 : decode cX6_undo 24 = .ok (.aload_n 0, 1) := by decide +kernel
theorem dX6_undo_25 : decode cX6_undo 25 = .ok (.getfield 22, 3) := by decide +kernel
theorem dX6_undo_28 : decode cX6_undo 28 = .ok (.getfield 129, 3) := by decide +kernel
theorem dX6_undo_31 : decode cX6_undo 31 = .ok (.ireturn, 1) := by decide +kernel
set_option maxRecDepth 20000 in
theorem ggX6_root_X6_isRoot : GoodIn wsX6_root wsX6_isRoot := goodIn_r _ [6, 7, 8, 5, 9] (by decide +kernel) (by decide +kernel)
set_option maxRecDepth 20000 in
theorem gX6_root_X6_isRoot : GoodIn wsX6_root (va_wsS RX6 59 yX6_isRoot wsX6_isRoot) := goodIn_app (goodIn_of _ (by decide +kernel)) ggX6_root_X6_isRoot
theorem dX6_root_0 : decode cX6_root 0 = .ok (.iload_n 1, 1) := by decide +kernel
theorem dX6_root_1 : decode cX6_root 1 = .ok (.invokestatic 59, 3) := by decide +kernel
theorem dX6_root_4 : decode cX6_root 4 = .ok (.ifCond .eq 15, 3) := by decide +kernel
theorem dX6_root_7 : decode cX6_root 7 = .ok (.aload_n 0, 1) := by decide +kernel
theorem dX6_root_8 : decode cX6_root 8 = .ok (.getfield 10, 3) := by decide +kernel
theorem dX6_root_11 : decode cX6_root 11 = .ok (.getfield 79, 3) := by decide +kernel
theorem dX6_root_14 : decode cX6_root 14 = .ok (.iload_n 1, 1) := by decide +kernel
theorem dX6_root_15 : decode cX6_root 15 = .ok (.iaload, 1) := by decide +kernel
theorem dX6_root_16 : decode cX6_root 16 = .ok (.goto 4, 3) := by decide +kernel
theorem dX6_root_19 : decode cX6_root 19 = .ok (.iconst (-1), 1) := by decide +kernel
theorem dX6_root_20 : decode cX6_root 20 = .ok (.ireturn, 1) := by decide +kernel
set_option maxRecDepth 20000 in
theorem ggX6_thing_X6_within : GoodIn wsX6_thing wsX6_within := goodIn_r _ [10] (by decide +kernel) (by decide +kernel)
set_option maxRecDepth 20000 in
theorem gX6_thing_X6_within : GoodIn wsX6_thing (va_wsS RX6 55 yX6_within wsX6_within) := goodIn_app (goodIn_of _ (by decide +kernel)) ggX6_thing_X6_within
set_option maxRecDepth 20000 in
theorem ggX6_thing_X1_isThere : GoodIn wsX6_thing wsX1_isThere := goodIn_r _ [15, 16, 30, 31, 32, 33, 34, 35, 36, 37, 38, 39, 40, 41, 42, 43, 44, 45, 46, 47] (by decide +kernel) (by decide +kernel)
set_option maxRecDepth 20000 in
theorem gX6_thing_X1_isThere : GoodIn wsX6_thing (wsV RX6 135 RX1 yX1_isThere wsX1_isThere) := goodIn_app (goodIn_of _ (by decide +kernel)) ggX6_thing_X1_isThere
set_option maxRecDepth 20000 in
theorem ggX6_thing_X1_fieldOf : GoodIn wsX6_thing wsX1_fieldOf := goodIn_r _ [20, 21, 30, 31, 32, 33, 34, 35, 36, 37, 38, 39, 40, 41, 42, 43, 44, 45, 46, 47] (by decide +kernel) (by decide +kernel)
set_option maxRecDepth 20000 in
theorem gX6_thing_X1_fieldOf : GoodIn wsX6_thing (wsV RX6 92 RX1 yX1_fieldOf wsX1_fieldOf) := goodIn_app (goodIn_of _ (by decide +kernel)) ggX6_thing_X1_fieldOf
theorem dX6_thing_0 : decode cX6_thing 0 = .ok (.iload_n 1, 1) := by decide +kernel
theorem dX6_thing_1 : decode cX6_thing 1 = .ok (.iconst 0, 1) := by decide +kernel
theorem dX6_thing_2 : decode cX6_thing 2 = .ok (.bipush 31, 2) := by decide +kernel
theorem dX6_thing_4 : decode cX6_thing 4 = .ok (.invokestatic 55, 3) := by decide +kernel
theorem dX6_thing_7 : decode cX6_thing 7 = .ok (.ifCond .eq 12, 3) := by decide +kernel
theorem dX6_thing_10 : decode cX6_thing 10 = .ok (.iload_n 2, 1) := by decide +kernel
theorem dX6_thing_11 : decode cX6_thing 11 = .ok (.iconst 0, 1) := by decide +kernel
theorem dX6_thing_12 : decode cX6_thing 12 = .ok (.iconst 5, 1) := by decide +kernel
theorem dX6_thing_13 : decode cX6_thing 13 = .ok (.invokestatic 55, 3) := by decide +kernel
theorem dX6_thing_16 : decode cX6_thing 16 = .ok (.ifCond .ne 5, 3) := by decide +kernel
theorem dX6_thing_19 : decode cX6_thing 19 = .ok (.iconst (-1), 1) := by decide +kernel
theorem dX6_thing_20 : decode cX6_thing 20 = .ok (.ireturn, 1) := by decide +kernel
theorem dX6_thing_21 : decode cX6_thing 21 = .ok (.aload_n 0, 1) := by decide +kernel
theorem dX6_thing_22 : decode cX6_thing 22 = .ok (.getfield 10, 3) := by decide +kernel
theorem dX6_thing_25 : decode cX6_thing 25 = .ok (.iload_n 1, 1) := by decide +kernel
theorem dX6_thing_26 : decode cX6_thing 26 = .ok (.invokevirtual 135, 3) := by decide +kernel
theorem dX6_thing_29 : decode cX6_thing 29 = .ok (.ifCond .ne 6, 3) := by decide +kernel
theorem dX6_thing_32 : decode cX6_thing 32 = .ok (.bipush (-9), 2) := by decide +kernel
theorem dX6_thing_34 : decode cX6_thing 34 = .ok (.ireturn, 1) := by decide +kernel
theorem dX6_thing_35 : decode cX6_thing 35 = .ok (.iload_n 2, 1) := by decide +kernel
theorem dX6_thing_36 : decode cX6_thing 36 = .ok (.tableswitch 86 0 4 #[36, 46, 56, 66, 76], 36) := by decide +kernel
theorem dX6_thing_72 : decode cX6_thing 72 = .ok (.aload_n 0, 1) := by decide +kernel
theorem dX6_thing_73 : decode cX6_thing 73 = .ok (.getfield 10, 3) := by decide +kernel
theorem dX6_thing_76 : decode cX6_thing 76 = .ok (.getfield 138, 3) := by decide +kernel
theorem dX6_thing_79 : decode cX6_thing 79 = .ok (.iload_n 1, 1) := by decide +kernel
theorem dX6_thing_80 : decode cX6_thing 80 = .ok (.iaload, 1) := by decide +kernel
theorem dX6_thing_81 : decode cX6_thing 81 = .ok (.ireturn, 1) := by decide +kernel
theorem dX6_thing_82 : decode cX6_thing 82 = .ok (.aload_n 0, 1) := by decide +kernel
theorem dX6_thing_83 : decode cX6_thing 83 = .ok (.getfield 10, 3) := by decide +kernel
theorem dX6_thing_86 : decode cX6_thing 86 = .ok (.getfield 141, 3) := by decide +kernel
theorem dX6_thing_89 : decode cX6_thing 89 = .ok (.iload_n 1, 1) := by decide +kernel
theorem dX6_thing_90 : decode cX6_thing 90 = .ok (.iaload, 1) := by decide +kernel
theorem dX6_thing_91 : decode cX6_thing 91 = .ok (.ireturn, 1) := by decide +kernel
theorem dX6_thing_92 : decode cX6_thing 92 = .ok (.aload_n 0, 1) := by decide +kernel
theorem dX6_thing_93 : decode cX6_thing 93 = .ok (.getfield 10, 3) := by decide +kernel
theorem dX6_thing_96 : decode cX6_thing 96 = .ok (.getfield 144, 3) := by decide +kernel
theorem dX6_thing_99 : decode cX6_thing 99 = .ok (.iload_n 1, 1) := by decide +kernel
theorem dX6_thing_100 : decode cX6_thing 100 = .ok (.iaload, 1) := by decide +kernel
theorem dX6_thing_101 : decode cX6_thing 101 = .ok (.ireturn, 1) := by decide +kernel
theorem dX6_thing_102 : decode cX6_thing 102 = .ok (.aload_n 0, 1) := by decide +kernel
theorem dX6_thing_103 : decode cX6_thing 103 = .ok (.getfield 10, 3) := by decide +kernel
theorem dX6_thing_106 : decode cX6_thing 106 = .ok (.iload_n 1, 1) := by decide +kernel
theorem dX6_thing_107 : decode cX6_thing 107 = .ok (.iconst 0, 1) := by decide +kernel
theorem dX6_thing_108 : decode cX6_thing 108 = .ok (.invokevirtual 92, 3) := by decide +kernel
theorem dX6_thing_111 : decode cX6_thing 111 = .ok (.ireturn, 1) := by decide +kernel
theorem dX6_thing_112 : decode cX6_thing 112 = .ok (.aload_n 0, 1) := by decide +kernel
theorem dX6_thing_113 : decode cX6_thing 113 = .ok (.getfield 10, 3) := by decide +kernel
theorem dX6_thing_116 : decode cX6_thing 116 = .ok (.iload_n 1, 1) := by decide +kernel
theorem dX6_thing_117 : decode cX6_thing 117 = .ok (.iconst 1, 1) := by decide +kernel
theorem dX6_thing_118 : decode cX6_thing 118 = .ok (.invokevirtual 92, 3) := by decide +kernel
theorem dX6_thing_121 : decode cX6_thing 121 = .ok (.ireturn, 1) := by decide +kernel
theorem dX6_thing_122 : decode cX6_thing 122 = .ok (.aload_n 0, 1) := by decide +kernel
theorem dX6_thing_123 : decode cX6_thing 123 = .ok (.getfield 10, 3) := by decide +kernel
theorem dX6_thing_126 : decode cX6_thing 126 = .ok (.getfield 109, 3) := by decide +kernel
theorem dX6_thing_129 : decode cX6_thing 129 = .ok (.ifCond .eq 15, 3) := by decide +kernel
theorem dX6_thing_132 : decode cX6_thing 132 = .ok (.aload_n 0, 1) := by decide +kernel
theorem dX6_thing_133 : decode cX6_thing 133 = .ok (.getfield 10, 3) := by decide +kernel
theorem dX6_thing_136 : decode cX6_thing 136 = .ok (.getfield 147, 3) := by decide +kernel
theorem dX6_thing_139 : decode cX6_thing 139 = .ok (.iload_n 1, 1) := by decide +kernel
theorem dX6_thing_140 : decode cX6_thing 140 = .ok (.iaload, 1) := by decide +kernel
theorem dX6_thing_141 : decode cX6_thing 141 = .ok (.goto 5, 3) := by decide +kernel
theorem dX6_thing_144 : decode cX6_thing 144 = .ok (.bipush (-9), 2) := by decide +kernel
theorem dX6_thing_146 : decode cX6_thing 146 = .ok (.ireturn, 1) := by decide +kernel
set_option maxRecDepth 20000 in
theorem ggX6_region_X6_isRegion : GoodIn wsX6_region wsX6_isRegion := goodIn_r _ [9, 10, 11, 8, 12] (by decide +kernel) (by decide +kernel)
set_option maxRecDepth 20000 in
theorem gX6_region_X6_isRegion : GoodIn wsX6_region (va_wsS RX6 150 yX6_isRegion wsX6_isRegion) := goodIn_app (goodIn_of _ (by decide +kernel)) ggX6_region_X6_isRegion
set_option maxRecDepth 20000 in
theorem ggX6_region_X6_within : GoodIn wsX6_region wsX6_within := goodIn_r _ [12] (by decide +kernel) (by decide +kernel)
set_option maxRecDepth 20000 in
theorem gX6_region_X6_within : GoodIn wsX6_region (va_wsS RX6 55 yX6_within wsX6_within) := goodIn_app (goodIn_of _ (by decide +kernel)) ggX6_region_X6_within
set_option maxRecDepth 20000 in
theorem ggX6_region_X1_thingsIn : GoodIn wsX6_region wsX1_thingsIn := goodIn_r _ [17, 18, 19, 20, 16, 21, 22, 23, 24, 25, 26, 27, 43, 44, 45, 46, 47, 48, 49, 50, 51, 52, 53, 54, 55, 56, 57, 58, 59, 60] (by decide +kernel) (by decide +kernel)
set_option maxRecDepth 20000 in
theorem gX6_region_X1_thingsIn : GoodIn wsX6_region (wsV RX6 162 RX1 yX1_thingsIn wsX1_thingsIn) := goodIn_app (goodIn_of _ (by decide +kernel)) ggX6_region_X1_thingsIn
set_option maxRecDepth 20000 in
theorem ggX6_region_J6_bitCount_0f7a4 : GoodIn wsX6_region wsJ6_bitCount_0f7a4 := goodIn_r _ [31, 32, 33, 34] (by decide +kernel) (by decide +kernel)
set_option maxRecDepth 20000 in
theorem gX6_region_J6_bitCount_0f7a4 : GoodIn wsX6_region (va_wsS RX6 168 yJ6_bitCount_0f7a4 wsJ6_bitCount_0f7a4) := goodIn_app (goodIn_of _ (by decide +kernel)) ggX6_region_J6_bitCount_0f7a4
theorem dX6_region_0 : decode cX6_region 0 = .ok (.iload_n 1, 1) := by decide +kernel
theorem dX6_region_1 : decode cX6_region 1 = .ok (.invokestatic 150, 3) := by decide +kernel
theorem dX6_region_4 : decode cX6_region 4 = .ok (.ifCond .eq 12, 3) := by decide +kernel
theorem dX6_region_7 : decode cX6_region 7 = .ok (.iload_n 2, 1) := by decide +kernel
theorem dX6_region_8 : decode cX6_region 8 = .ok (.iconst 0, 1) := by decide +kernel
theorem dX6_region_9 : decode cX6_region 9 = .ok (.iconst 4, 1) := by decide +kernel
theorem dX6_region_10 : decode cX6_region 10 = .ok (.invokestatic 55, 3) := by decide +kernel
theorem dX6_region_13 : decode cX6_region 13 = .ok (.ifCond .ne 5, 3) := by decide +kernel
theorem dX6_region_16 : decode cX6_region 16 = .ok (.iconst (-1), 1) := by decide +kernel
theorem dX6_region_17 : decode cX6_region 17 = .ok (.ireturn, 1) := by decide +kernel
theorem dX6_region_18 : decode cX6_region 18 = .ok (.iload_n 2, 1) := by decide +kernel
theorem dX6_region_19 : decode cX6_region 19 = .ok (.tableswitch 68 0 3 #[29, 39, 49, 59], 29) := by decide +kernel
theorem dX6_region_48 : decode cX6_region 48 = .ok (.aload_n 0, 1) := by decide +kernel
theorem dX6_region_49 : decode cX6_region 49 = .ok (.getfield 10, 3) := by decide +kernel
theorem dX6_region_52 : decode cX6_region 52 = .ok (.getfield 153, 3) := by decide +kernel
theorem dX6_region_55 : decode cX6_region 55 = .ok (.iload_n 1, 1) := by decide +kernel
theorem dX6_region_56 : decode cX6_region 56 = .ok (.iaload, 1) := by decide +kernel
theorem dX6_region_57 : decode cX6_region 57 = .ok (.ireturn, 1) := by decide +kernel
theorem dX6_region_58 : decode cX6_region 58 = .ok (.aload_n 0, 1) := by decide +kernel
theorem dX6_region_59 : decode cX6_region 59 = .ok (.getfield 10, 3) := by decide +kernel
theorem dX6_region_62 : decode cX6_region 62 = .ok (.getfield 156, 3) := by decide +kernel
theorem dX6_region_65 : decode cX6_region 65 = .ok (.iload_n 1, 1) := by decide +kernel
theorem dX6_region_66 : decode cX6_region 66 = .ok (.iaload, 1) := by decide +kernel
theorem dX6_region_67 : decode cX6_region 67 = .ok (.ireturn, 1) := by decide +kernel
theorem dX6_region_68 : decode cX6_region 68 = .ok (.aload_n 0, 1) := by decide +kernel
theorem dX6_region_69 : decode cX6_region 69 = .ok (.getfield 10, 3) := by decide +kernel
theorem dX6_region_72 : decode cX6_region 72 = .ok (.getfield 159, 3) := by decide +kernel
theorem dX6_region_75 : decode cX6_region 75 = .ok (.iload_n 1, 1) := by decide +kernel
theorem dX6_region_76 : decode cX6_region 76 = .ok (.iaload, 1) := by decide +kernel
theorem dX6_region_77 : decode cX6_region 77 = .ok (.ireturn, 1) := by decide +kernel
theorem dX6_region_78 : decode cX6_region 78 = .ok (.aload_n 0, 1) := by decide +kernel
theorem dX6_region_79 : decode cX6_region 79 = .ok (.getfield 10, 3) := by decide +kernel
theorem dX6_region_82 : decode cX6_region 82 = .ok (.iload_n 1, 1) := by decide +kernel
theorem dX6_region_83 : decode cX6_region 83 = .ok (.invokevirtual 162, 3) := by decide +kernel
theorem dX6_region_86 : decode cX6_region 86 = .ok (.ireturn, 1) := by decide +kernel
theorem dX6_region_87 : decode cX6_region 87 = .ok (.aload_n 0, 1) := by decide +kernel
theorem dX6_region_88 : decode cX6_region 88 = .ok (.getfield 10, 3) := by decide +kernel
theorem dX6_region_91 : decode cX6_region 91 = .ok (.getfield 165, 3) := by decide +kernel
theorem dX6_region_94 : decode cX6_region 94 = .ok (.iload_n 1, 1) := by decide +kernel
theorem dX6_region_95 : decode cX6_region 95 = .ok (.iaload, 1) := by decide +kernel
theorem dX6_region_96 : decode cX6_region 96 = .ok (.invokestatic 168, 3) := by decide +kernel
theorem dX6_region_99 : decode cX6_region 99 = .ok (.ireturn, 1) := by decide +kernel
set_option maxRecDepth 20000 in
theorem ggX6_remembers_X6_isRegion : GoodIn wsX6_remembers wsX6_isRegion := goodIn_r _ [6, 7, 8, 5, 9] (by decide +kernel) (by decide +kernel)
set_option maxRecDepth 20000 in
theorem gX6_remembers_X6_isRegion : GoodIn wsX6_remembers (va_wsS RX6 150 yX6_isRegion wsX6_isRegion) := goodIn_app (goodIn_of _ (by decide +kernel)) ggX6_remembers_X6_isRegion
set_option maxRecDepth 20000 in
theorem ggX6_remembers_X6_within : GoodIn wsX6_remembers wsX6_within := goodIn_r _ [9] (by decide +kernel) (by decide +kernel)
set_option maxRecDepth 20000 in
theorem gX6_remembers_X6_within : GoodIn wsX6_remembers (va_wsS RX6 55 yX6_within wsX6_within) := goodIn_app (goodIn_of _ (by decide +kernel)) ggX6_remembers_X6_within
set_option maxRecDepth 20000 in
theorem ggX6_remembers_X6_hasBit : GoodIn wsX6_remembers wsX6_hasBit := goodIn_r _ [12] (by decide +kernel) (by decide +kernel)
set_option maxRecDepth 20000 in
theorem gX6_remembers_X6_hasBit : GoodIn wsX6_remembers (va_wsS RX6 173 yX6_hasBit wsX6_hasBit) := goodIn_app (goodIn_of _ (by decide +kernel)) ggX6_remembers_X6_hasBit
theorem dX6_remembers_0 : decode cX6_remembers 0 = .ok (.iload_n 1, 1) := by decide +kernel
theorem dX6_remembers_1 : decode cX6_remembers 1 = .ok (.invokestatic 150, 3) := by decide +kernel
theorem dX6_remembers_4 : decode cX6_remembers 4 = .ok (.ifCond .eq 13, 3) := by decide +kernel
theorem dX6_remembers_7 : decode cX6_remembers 7 = .ok (.iload_n 2, 1) := by decide +kernel
theorem dX6_remembers_8 : decode cX6_remembers 8 = .ok (.iconst 0, 1) := by decide +kernel
theorem dX6_remembers_9 : decode cX6_remembers 9 = .ok (.bipush 19, 2) := by decide +kernel
theorem dX6_remembers_11 : decode cX6_remembers 11 = .ok (.invokestatic 55, 3) := by decide +kernel
theorem dX6_remembers_14 : decode cX6_remembers 14 = .ok (.ifCond .ne 5, 3) := by decide +kernel
theorem dX6_remembers_17 : decode cX6_remembers 17 = .ok (.iconst (-1), 1) := by decide +kernel
theorem dX6_remembers_18 : decode cX6_remembers 18 = .ok (.ireturn, 1) := by decide +kernel
theorem dX6_remembers_19 : decode cX6_remembers 19 = .ok (.aload_n 0, 1) := by decide +kernel
theorem dX6_remembers_20 : decode cX6_remembers 20 = .ok (.getfield 10, 3) := by decide +kernel
theorem dX6_remembers_23 : decode cX6_remembers 23 = .ok (.getfield 165, 3) := by decide +kernel
theorem dX6_remembers_26 : decode cX6_remembers 26 = .ok (.iload_n 1, 1) := by decide +kernel
theorem dX6_remembers_27 : decode cX6_remembers 27 = .ok (.iaload, 1) := by decide +kernel
theorem dX6_remembers_28 : decode cX6_remembers 28 = .ok (.iload_n 2, 1) := by decide +kernel
theorem dX6_remembers_29 : decode cX6_remembers 29 = .ok (.invokestatic 173, 3) := by decide +kernel
theorem dX6_remembers_32 : decode cX6_remembers 32 = .ok (.ifCond .eq 7, 3) := by decide +kernel
theorem dX6_remembers_35 : decode cX6_remembers 35 = .ok (.iconst 1, 1) := by decide +kernel
theorem dX6_remembers_36 : decode cX6_remembers 36 = .ok (.goto 4, 3) := by decide +kernel
theorem dX6_remembers_39 : decode cX6_remembers 39 = .ok (.iconst 0, 1) := by decide +kernel
theorem dX6_remembers_40 : decode cX6_remembers 40 = .ok (.ireturn, 1) := by decide +kernel
set_option maxRecDepth 20000 in
theorem ggX6_dirty_X5_itemAt : GoodIn wsX6_dirty wsX5_itemAt := goodIn_r _ [7, 8, 9, 36, 37] (by decide +kernel) (by decide +kernel)
set_option maxRecDepth 20000 in
theorem gX6_dirty_X5_itemAt : GoodIn wsX6_dirty (wsV RX6 177 RX5 yX5_itemAt wsX5_itemAt) := goodIn_app (goodIn_of _ (by decide +kernel)) ggX6_dirty_X5_itemAt
theorem dX6_dirty_0 : decode cX6_dirty 0 = .ok (.iload_n 1, 1) := by decide +kernel
theorem dX6_dirty_1 : decode cX6_dirty 1 = .ok (.ifCond .ge 7, 3) := by decide +kernel
theorem dX6_dirty_4 : decode cX6_dirty 4 = .ok (.iconst (-1), 1) := by decide +kernel
theorem dX6_dirty_5 : decode cX6_dirty 5 = .ok (.goto 14, 3) := by decide +kernel
theorem dX6_dirty_8 : decode cX6_dirty 8 = .ok (.aload_n 0, 1) := by decide +kernel
theorem dX6_dirty_9 : decode cX6_dirty 9 = .ok (.getfield 10, 3) := by decide +kernel
theorem dX6_dirty_12 : decode cX6_dirty 12 = .ok (.getfield 96, 3) := by decide +kernel
theorem dX6_dirty_15 : decode cX6_dirty 15 = .ok (.iload_n 1, 1) := by decide +kernel
theorem dX6_dirty_16 : decode cX6_dirty 16 = .ok (.invokevirtual 177, 3) := by decide +kernel
theorem dX6_dirty_19 : decode cX6_dirty 19 = .ok (.ireturn, 1) := by decide +kernel
set_option maxRecDepth 20000 in
theorem ggX6_grey_X5_itemAt : GoodIn wsX6_grey wsX5_itemAt := goodIn_r _ [7, 8, 9, 36, 37] (by decide +kernel) (by decide +kernel)
set_option maxRecDepth 20000 in
theorem gX6_grey_X5_itemAt : GoodIn wsX6_grey (wsV RX6 177 RX5 yX5_itemAt wsX5_itemAt) := goodIn_app (goodIn_of _ (by decide +kernel)) ggX6_grey_X5_itemAt
theorem dX6_grey_0 : decode cX6_grey 0 = .ok (.iload_n 1, 1) := by decide +kernel
theorem dX6_grey_1 : decode cX6_grey 1 = .ok (.ifCond .ge 7, 3) := by decide +kernel
theorem dX6_grey_4 : decode cX6_grey 4 = .ok (.iconst (-1), 1) := by decide +kernel
theorem dX6_grey_5 : decode cX6_grey 5 = .ok (.goto 14, 3) := by decide +kernel
theorem dX6_grey_8 : decode cX6_grey 8 = .ok (.aload_n 0, 1) := by decide +kernel
theorem dX6_grey_9 : decode cX6_grey 9 = .ok (.getfield 10, 3) := by decide +kernel
theorem dX6_grey_12 : decode cX6_grey 12 = .ok (.getfield 116, 3) := by decide +kernel
theorem dX6_grey_15 : decode cX6_grey 15 = .ok (.iload_n 1, 1) := by decide +kernel
theorem dX6_grey_16 : decode cX6_grey 16 = .ok (.invokevirtual 177, 3) := by decide +kernel
theorem dX6_grey_19 : decode cX6_grey 19 = .ok (.ireturn, 1) := by decide +kernel
set_option maxRecDepth 20000 in
theorem ggX6_learnt_X6_within : GoodIn wsX6_learnt wsX6_within := goodIn_r _ [8] (by decide +kernel) (by decide +kernel)
set_option maxRecDepth 20000 in
theorem gX6_learnt_X6_within : GoodIn wsX6_learnt (va_wsS RX6 55 yX6_within wsX6_within) := goodIn_app (goodIn_of _ (by decide +kernel)) ggX6_learnt_X6_within
theorem dX6_learnt_0 : decode cX6_learnt 0 = .ok (.iload_n 1, 1) := by decide +kernel
theorem dX6_learnt_1 : decode cX6_learnt 1 = .ok (.iconst 0, 1) := by decide +kernel
theorem dX6_learnt_2 : decode cX6_learnt 2 = .ok (.iconst 1, 1) := by decide +kernel
theorem dX6_learnt_3 : decode cX6_learnt 3 = .ok (.invokestatic 55, 3) := by decide +kernel
theorem dX6_learnt_6 : decode cX6_learnt 6 = .ok (.ifCond .ne 5, 3) := by decide +kernel
theorem dX6_learnt_9 : decode cX6_learnt 9 = .ok (.iconst (-1), 1) := by decide +kernel
theorem dX6_learnt_10 : decode cX6_learnt 10 = .ok (.ireturn, 1) := by decide +kernel
theorem dX6_learnt_11 : decode cX6_learnt 11 = .ok (.ldc 180, 2) := by decide +kernel
theorem dX6_learnt_13 : decode cX6_learnt 13 = .ok (.iload_n 1, 1) := by decide +kernel
theorem dX6_learnt_14 : decode cX6_learnt 14 = .ok (.ifCond .ne 13, 3) := by decide +kernel
theorem dX6_learnt_17 : decode cX6_learnt 17 = .ok (.aload_n 0, 1) := by decide +kernel
theorem dX6_learnt_18 : decode cX6_learnt 18 = .ok (.getfield 10, 3) := by decide +kernel
theorem dX6_learnt_21 : decode cX6_learnt 21 = .ok (.getfield 181, 3) := by decide +kernel
theorem dX6_learnt_24 : decode cX6_learnt 24 = .ok (.goto 10, 3) := by decide +kernel
theorem dX6_learnt_27 : decode cX6_learnt 27 = .ok (.aload_n 0, 1) := by decide +kernel
theorem dX6_learnt_28 : decode cX6_learnt 28 = .ok (.getfield 10, 3) := by decide +kernel
theorem dX6_learnt_31 : decode cX6_learnt 31 = .ok (.getfield 185, 3) := by decide +kernel
theorem dX6_learnt_34 : decode cX6_learnt 34 = .ok (.fmul, 1) := by decide +kernel
theorem dX6_learnt_35 : decode cX6_learnt 35 = .ok (.f2i, 1) := by decide +kernel
theorem dX6_learnt_36 : decode cX6_learnt 36 = .ok (.ireturn, 1) := by decide +kernel
set_option maxRecDepth 20000 in
theorem ggX6_chooses_X6_isGoal : GoodIn wsX6_chooses wsX6_isGoal := goodIn_r _ [7, 8, 9, 6, 10] (by decide +kernel) (by decide +kernel)
set_option maxRecDepth 20000 in
theorem gX6_chooses_X6_isGoal : GoodIn wsX6_chooses (va_wsS RX6 122 yX6_isGoal wsX6_isGoal) := goodIn_app (goodIn_of _ (by decide +kernel)) ggX6_chooses_X6_isGoal
set_option maxRecDepth 20000 in
theorem ggX6_chooses_X0_choose : GoodIn wsX6_chooses wsX0_choose := goodIn_r _ [15, 16, 17, 18, 19, 20, 21, 22, 23, 24, 25, 26, 14, 27, 28, 29, 30, 31, 32, 33, 6, 34, 43, 44, 45, 46, 47, 48, 49, 50, 51, 52, 53, 54, 55, 56, 57, 58, 59, 60, 61, 62, 63] (by decide +kernel) (by decide +kernel)
set_option maxRecDepth 20000 in
theorem gX6_chooses_X0_choose : GoodIn wsX6_chooses (wsV RX6 188 RX0 yX0_choose wsX0_choose) := goodIn_app (goodIn_of _ (by decide +kernel)) ggX6_chooses_X0_choose
theorem dX6_chooses_0 : decode cX6_chooses 0 = .ok (.iload_n 1, 1) := by decide +kernel
theorem dX6_chooses_1 : decode cX6_chooses 1 = .ok (.invokestatic 122, 3) := by decide +kernel
theorem dX6_chooses_4 : decode cX6_chooses 4 = .ok (.ifCond .ne 5, 3) := by decide +kernel
theorem dX6_chooses_7 : decode cX6_chooses 7 = .ok (.iconst (-1), 1) := by decide +kernel
theorem dX6_chooses_8 : decode cX6_chooses 8 = .ok (.ireturn, 1) := by decide +kernel
theorem dX6_chooses_9 : decode cX6_chooses 9 = .ok (.aload_n 0, 1) := by decide +kernel
theorem dX6_chooses_10 : decode cX6_chooses 10 = .ok (.getfield 37, 3) := by decide +kernel
theorem dX6_chooses_13 : decode cX6_chooses 13 = .ok (.aload_n 0, 1) := by decide +kernel
theorem dX6_chooses_14 : decode cX6_chooses 14 = .ok (.getfield 10, 3) := by decide +kernel
theorem dX6_chooses_17 : decode cX6_chooses 17 = .ok (.iload_n 1, 1) := by decide +kernel
theorem dX6_chooses_18 : decode cX6_chooses 18 = .ok (.invokevirtual 188, 3) := by decide +kernel
theorem dX6_chooses_21 : decode cX6_chooses 21 = .ok (.aload_n 0, 1) := by decide +kernel
theorem dX6_chooses_22 : decode cX6_chooses 22 = .ok (.getfield 37, 3) := by decide +kernel
theorem dX6_chooses_25 : decode cX6_chooses 25 = .ok (.getfield 192, 3) := by decide +kernel
theorem dX6_chooses_28 : decode cX6_chooses 28 = .ok (.ireturn, 1) := by decide +kernel
set_option maxRecDepth 20000 in
theorem ggX6_foretold_X6_isGoal : GoodIn wsX6_foretold wsX6_isGoal := goodIn_r _ [8, 9, 10, 7, 11] (by decide +kernel) (by decide +kernel)
set_option maxRecDepth 20000 in
theorem gX6_foretold_X6_isGoal : GoodIn wsX6_foretold (va_wsS RX6 122 yX6_isGoal wsX6_isGoal) := goodIn_app (goodIn_of _ (by decide +kernel)) ggX6_foretold_X6_isGoal
set_option maxRecDepth 20000 in
theorem ggX6_foretold_X0_choose : GoodIn wsX6_foretold wsX0_choose := goodIn_r _ [16, 17, 18, 19, 20, 21, 22, 23, 24, 25, 26, 27, 15, 28, 29, 30, 31, 32, 33, 34, 7, 35, 44, 45, 46, 47, 48, 49, 50, 51, 52, 53, 54, 55, 56, 57, 58, 59, 60, 61, 62, 63, 64] (by decide +kernel) (by decide +kernel)
set_option maxRecDepth 20000 in
theorem gX6_foretold_X0_choose : GoodIn wsX6_foretold (wsV RX6 188 RX0 yX0_choose wsX0_choose) := goodIn_app (goodIn_of _ (by decide +kernel)) ggX6_foretold_X0_choose
theorem dX6_foretold_0 : decode cX6_foretold 0 = .ok (.iload_n 1, 1) := by decide +kernel
theorem dX6_foretold_1 : decode cX6_foretold 1 = .ok (.invokestatic 122, 3) := by decide +kernel
theorem dX6_foretold_4 : decode cX6_foretold 4 = .ok (.ifCond .ne 5, 3) := by decide +kernel
theorem dX6_foretold_7 : decode cX6_foretold 7 = .ok (.iconst (-1), 1) := by decide +kernel
theorem dX6_foretold_8 : decode cX6_foretold 8 = .ok (.ireturn, 1) := by decide +kernel
theorem dX6_foretold_9 : decode cX6_foretold 9 = .ok (.aload_n 0, 1) := by decide +kernel
theorem dX6_foretold_10 : decode cX6_foretold 10 = .ok (.getfield 37, 3) := by decide +kernel
theorem dX6_foretold_13 : decode cX6_foretold 13 = .ok (.aload_n 0, 1) := by decide +kernel
theorem dX6_foretold_14 : decode cX6_foretold 14 = .ok (.getfield 10, 3) := by decide +kernel
theorem dX6_foretold_17 : decode cX6_foretold 17 = .ok (.iload_n 1, 1) := by decide +kernel
theorem dX6_foretold_18 : decode cX6_foretold 18 = .ok (.invokevirtual 188, 3) := by decide +kernel
theorem dX6_foretold_21 : decode cX6_foretold 21 = .ok (.ldc 180, 2) := by decide +kernel
theorem dX6_foretold_23 : decode cX6_foretold 23 = .ok (.aload_n 0, 1) := by decide +kernel
theorem dX6_foretold_24 : decode cX6_foretold 24 = .ok (.getfield 37, 3) := by decide +kernel
theorem dX6_foretold_27 : decode cX6_foretold 27 = .ok (.getfield 195, 3) := by decide +kernel
theorem dX6_foretold_30 : decode cX6_foretold 30 = .ok (.fmul, 1) := by decide +kernel
theorem dX6_foretold_31 : decode cX6_foretold 31 = .ok (.f2i, 1) := by decide +kernel
theorem dX6_foretold_32 : decode cX6_foretold 32 = .ok (.ireturn, 1) := by decide +kernel
set_option maxRecDepth 20000 in
theorem ggX6_would_X6_isGoal : GoodIn wsX6_would wsX6_isGoal := goodIn_r _ [7, 8, 9, 6, 10] (by decide +kernel) (by decide +kernel)
set_option maxRecDepth 20000 in
theorem gX6_would_X6_isGoal : GoodIn wsX6_would (va_wsS RX6 122 yX6_isGoal wsX6_isGoal) := goodIn_app (goodIn_of _ (by decide +kernel)) ggX6_would_X6_isGoal
set_option maxRecDepth 20000 in
theorem ggX6_would_X1_becomeLike : GoodIn wsX6_would wsX1_becomeLike := goodIn_r _ [15, 16, 17, 18, 19, 20, 21, 22, 23, 24, 25, 26, 27, 28, 29, 30, 31, 32, 33, 34, 35, 36, 37, 38, 39, 40, 41, 42, 43, 44, 45, 251, 252, 253, 254, 255, 256, 257, 258, 259, 260, 261, 262, 263, 264, 265, 266, 267, 268, 269, 270] (by decide +kernel) (by decide +kernel)
set_option maxRecDepth 20000 in
theorem gX6_would_X1_becomeLike : GoodIn wsX6_would (wsV RX6 198 RX1 yX1_becomeLike wsX1_becomeLike) := goodIn_app (goodIn_of _ (by decide +kernel)) ggX6_would_X1_becomeLike
set_option maxRecDepth 20000 in
theorem ggX6_would_X3_run : GoodIn wsX6_would wsX3_run := goodIn_r _ [50, 51, 52, 53, 54, 49, 55, 56, 57, 58, 59, 60, 61, 62, 63, 64, 65, 66, 14, 67, 30, 68, 69, 70, 71, 41, 72, 45, 43, 73, 74, 75, 76, 77, 78, 79, 80, 81, 82, 83, 84, 85, 86, 87, 88, 24, 89, 90, 91, 92, 25, 26, 93, 6, 94, 95, 96, 97, 98, 27, 99, 100, 101, 102, 23, 103, 104, 105, 106, 107, 108, 109, 110, 111, 112, 113, 114, 115, 116, 117, 118, 119, 120, 121, 122, 123, 124, 125, 126, 127, 128, 129, 130, 131, 132, 133, 134, 135, 136, 137, 138, 139, 140, 141, 142, 143, 144, 145, 146, 147, 148, 149, 150, 151, 152, 153, 154, 155, 156, 157, 158, 159, 160, 161, 162, 163, 164, 165, 166, 167, 168, 169, 170, 171, 172, 173, 174, 175, 176, 177, 178, 179, 180, 181, 21, 182, 183, 184, 185, 16, 186, 187, 188, 189, 190, 191, 192, 193, 194, 195, 196, 197, 198, 199, 200, 201, 202, 203, 204, 205, 206, 207, 208, 209, 210, 211, 212, 213, 214, 215, 216, 217, 218, 219, 220, 221, 222, 22, 223, 224, 225, 226, 227, 228, 229, 230, 231, 232, 233, 234, 235, 236, 237, 238, 239, 240, 241, 242, 271, 272, 273, 274, 275, 276, 277, 278, 269, 270, 251, 252, 253, 254, 255, 256, 257, 258, 259, 260, 261, 262, 263, 264, 265, 266, 267, 268, 279, 280, 281] (by decide +kernel) (by decide +kernel)
set_option maxRecDepth 20000 in
theorem gX6_would_X3_run : GoodIn wsX6_would (wsV RX6 125 RX3 yX3_run wsX3_run) := goodIn_app (goodIn_of _ (by decide +kernel)) ggX6_would_X3_run
theorem dX6_would_0 : decode cX6_would 0 = .ok (.iload_n 1, 1) := by decide +kernel
theorem dX6_would_1 : decode cX6_would 1 = .ok (.invokestatic 122, 3) := by decide +kernel
theorem dX6_would_4 : decode cX6_would 4 = .ok (.ifCond .ne 5, 3) := by decide +kernel
theorem dX6_would_7 : decode cX6_would 7 = .ok (.iconst (-1), 1) := by decide +kernel
theorem dX6_would_8 : decode cX6_would 8 = .ok (.ireturn, 1) := by decide +kernel
theorem dX6_would_9 : decode cX6_would 9 = .ok (.aload_n 0, 1) := by decide +kernel
theorem dX6_would_10 : decode cX6_would 10 = .ok (.getfield 16, 3) := by decide +kernel
theorem dX6_would_13 : decode cX6_would 13 = .ok (.aload_n 0, 1) := by decide +kernel
theorem dX6_would_14 : decode cX6_would 14 = .ok (.getfield 10, 3) := by decide +kernel
theorem dX6_would_17 : decode cX6_would 17 = .ok (.invokevirtual 198, 3) := by decide +kernel
theorem dX6_would_20 : decode cX6_would 20 = .ok (.aload_n 0, 1) := by decide +kernel
theorem dX6_would_21 : decode cX6_would 21 = .ok (.getfield 44, 3) := by decide +kernel
theorem dX6_would_24 : decode cX6_would 24 = .ok (.aload_n 0, 1) := by decide +kernel
theorem dX6_would_25 : decode cX6_would 25 = .ok (.getfield 16, 3) := by decide +kernel
theorem dX6_would_28 : decode cX6_would 28 = .ok (.iload_n 1, 1) := by decide +kernel
theorem dX6_would_29 : decode cX6_would 29 = .ok (.invokevirtual 125, 3) := by decide +kernel
theorem dX6_would_32 : decode cX6_would 32 = .ok (.ireturn, 1) := by decide +kernel
set_option maxRecDepth 20000 in
theorem ggX6_rubbish_X6_within : GoodIn wsX6_rubbish wsX6_within := goodIn_r _ [8] (by decide +kernel) (by decide +kernel)
set_option maxRecDepth 20000 in
theorem gX6_rubbish_X6_within : GoodIn wsX6_rubbish (va_wsS RX6 55 yX6_within wsX6_within) := goodIn_app (goodIn_of _ (by decide +kernel)) ggX6_rubbish_X6_within
set_option maxRecDepth 20000 in
theorem ggX6_rubbish_X4_findReached : GoodIn wsX6_rubbish wsX4_findReached := goodIn_r _ [13, 14, 15, 16, 17, 18, 19, 20, 12, 21, 22, 23, 24, 25, 26, 27, 28, 29, 30, 31, 32, 33, 34, 35, 36, 37, 38, 55, 56, 57, 76, 77, 58, 59, 60, 61, 62, 63, 64, 65, 66, 67, 68, 69, 70, 71, 72, 73, 74, 75] (by decide +kernel) (by decide +kernel)
set_option maxRecDepth 20000 in
theorem gX6_rubbish_X4_findReached : GoodIn wsX6_rubbish (wsV RX6 201 RX4 yX4_findReached wsX4_findReached) := goodIn_app (goodIn_of _ (by decide +kernel)) ggX6_rubbish_X4_findReached
set_option maxRecDepth 20000 in
theorem ggX6_rubbish_X1_isThere : GoodIn wsX6_rubbish wsX1_isThere := goodIn_r _ [42, 43, 58, 59, 60, 61, 62, 63, 64, 65, 66, 67, 68, 69, 70, 71, 72, 73, 74, 75] (by decide +kernel) (by decide +kernel)
set_option maxRecDepth 20000 in
theorem gX6_rubbish_X1_isThere : GoodIn wsX6_rubbish (wsV RX6 135 RX1 yX1_isThere wsX1_isThere) := goodIn_app (goodIn_of _ (by decide +kernel)) ggX6_rubbish_X1_isThere
set_option maxRecDepth 20000 in
theorem ggX6_rubbish_X6_hasBit : GoodIn wsX6_rubbish wsX6_hasBit := goodIn_r _ [46] (by decide +kernel) (by decide +kernel)
set_option maxRecDepth 20000 in
theorem gX6_rubbish_X6_hasBit : GoodIn wsX6_rubbish (va_wsS RX6 173 yX6_hasBit wsX6_hasBit) := goodIn_app (goodIn_of _ (by decide +kernel)) ggX6_rubbish_X6_hasBit
theorem dX6_rubbish_0 : decode cX6_rubbish 0 = .ok (.iload_n 1, 1) := by decide +kernel
theorem dX6_rubbish_1 : decode cX6_rubbish 1 = .ok (.iconst 0, 1) := by decide +kernel
theorem dX6_rubbish_2 : decode cX6_rubbish 2 = .ok (.iconst 1, 1) := by decide +kernel
theorem dX6_rubbish_3 : decode cX6_rubbish 3 = .ok (.invokestatic 55, 3) := by decide +kernel
theorem dX6_rubbish_6 : decode cX6_rubbish 6 = .ok (.ifCond .ne 5, 3) := by decide +kernel
theorem dX6_rubbish_9 : decode cX6_rubbish 9 = .ok (.iconst (-1), 1) := by decide +kernel
theorem dX6_rubbish_10 : decode cX6_rubbish 10 = .ok (.ireturn, 1) := by decide +kernel
theorem dX6_rubbish_11 : decode cX6_rubbish 11 = .ok (.aload_n 0, 1) := by decide +kernel
theorem dX6_rubbish_12 : decode cX6_rubbish 12 = .ok (.getfield 51, 3) := by decide +kernel
theorem dX6_rubbish_15 : decode cX6_rubbish 15 = .ok (.aload_n 0, 1) := by decide +kernel
theorem dX6_rubbish_16 : decode cX6_rubbish 16 = .ok (.getfield 10, 3) := by decide +kernel
theorem dX6_rubbish_19 : decode cX6_rubbish 19 = .ok (.invokevirtual 201, 3) := by decide +kernel
theorem dX6_rubbish_22 : decode cX6_rubbish 22 = .ok (.iconst 0, 1) := by decide +kernel
theorem dX6_rubbish_23 : decode cX6_rubbish 23 = .ok (.istore_n 2, 1) := by decide +kernel
theorem dX6_rubbish_24 : decode cX6_rubbish 24 = .ok (.iconst 0, 1) := by decide +kernel
theorem dX6_rubbish_25 : decode cX6_rubbish 25 = .ok (.istore_n 3, 1) := by decide +kernel
theorem dX6_rubbish_26 : decode cX6_rubbish 26 = .ok (.iload_n 3, 1) := by decide +kernel
theorem dX6_rubbish_27 : decode cX6_rubbish 27 = .ok (.bipush 32, 2) := by decide +kernel
theorem dX6_rubbish_29 : decode cX6_rubbish 29 = .ok (.if_icmp .ge 54, 3) := by decide +kernel
theorem dX6_rubbish_32 : decode cX6_rubbish 32 = .ok (.aload_n 0, 1) := by decide +kernel
theorem dX6_rubbish_33 : decode cX6_rubbish 33 = .ok (.getfield 10, 3) := by decide +kernel
theorem dX6_rubbish_36 : decode cX6_rubbish 36 = .ok (.iload_n 3, 1) := by decide +kernel
theorem dX6_rubbish_37 : decode cX6_rubbish 37 = .ok (.invokevirtual 135, 3) := by decide +kernel
theorem dX6_rubbish_40 : decode cX6_rubbish 40 = .ok (.ifCond .eq 37, 3) := by decide +kernel
theorem dX6_rubbish_43 : decode cX6_rubbish 43 = .ok (.aload_n 0, 1) := by decide +kernel
theorem dX6_rubbish_44 : decode cX6_rubbish 44 = .ok (.getfield 51, 3) := by decide +kernel
theorem dX6_rubbish_47 : decode cX6_rubbish 47 = .ok (.getfield 204, 3) := by decide +kernel
theorem dX6_rubbish_50 : decode cX6_rubbish 50 = .ok (.iload_n 3, 1) := by decide +kernel
theorem dX6_rubbish_51 : decode cX6_rubbish 51 = .ok (.invokestatic 173, 3) := by decide +kernel
theorem dX6_rubbish_54 : decode cX6_rubbish 54 = .ok (.ifCond .ne 23, 3) := by decide +kernel
theorem dX6_rubbish_57 : decode cX6_rubbish 57 = .ok (.iload_n 2, 1) := by decide +kernel
theorem dX6_rubbish_58 : decode cX6_rubbish 58 = .ok (.iload_n 1, 1) := by decide +kernel
theorem dX6_rubbish_59 : decode cX6_rubbish 59 = .ok (.ifCond .ne 7, 3) := by decide +kernel
theorem dX6_rubbish_62 : decode cX6_rubbish 62 = .ok (.iconst 1, 1) := by decide +kernel
theorem dX6_rubbish_63 : decode cX6_rubbish 63 = .ok (.goto 12, 3) := by decide +kernel
theorem dX6_rubbish_66 : decode cX6_rubbish 66 = .ok (.aload_n 0, 1) := by decide +kernel
theorem dX6_rubbish_67 : decode cX6_rubbish 67 = .ok (.getfield 10, 3) := by decide +kernel
theorem dX6_rubbish_70 : decode cX6_rubbish 70 = .ok (.getfield 138, 3) := by decide +kernel
theorem dX6_rubbish_73 : decode cX6_rubbish 73 = .ok (.iload_n 3, 1) := by decide +kernel
theorem dX6_rubbish_74 : decode cX6_rubbish 74 = .ok (.iaload, 1) := by decide +kernel
theorem dX6_rubbish_75 : decode cX6_rubbish 75 = .ok (.iadd, 1) := by decide +kernel
theorem dX6_rubbish_76 : decode cX6_rubbish 76 = .ok (.istore_n 2, 1) := by decide +kernel
theorem dX6_rubbish_77 : decode cX6_rubbish 77 = .ok (.iinc 3 1, 3) := by decide +kernel
theorem dX6_rubbish_80 : decode cX6_rubbish 80 = .ok (.goto (-54), 3) := by decide +kernel
theorem dX6_rubbish_83 : decode cX6_rubbish 83 = .ok (.iload_n 2, 1) := by decide +kernel
theorem dX6_rubbish_84 : decode cX6_rubbish 84 = .ok (.ireturn, 1) := by decide +kernel
set_option maxRecDepth 20000 in
theorem ggX6_way_X6_within : GoodIn wsX6_way wsX6_within := goodIn_r _ [7] (by decide +kernel) (by decide +kernel)
set_option maxRecDepth 20000 in
theorem gX6_way_X6_within : GoodIn wsX6_way (va_wsS RX6 55 yX6_within wsX6_within) := goodIn_app (goodIn_of _ (by decide +kernel)) ggX6_way_X6_within
set_option maxRecDepth 20000 in
theorem ggX6_way_X1_isThere : GoodIn wsX6_way wsX1_isThere := goodIn_r _ [12, 13, 70, 71, 72, 73, 74, 75, 76, 77, 78, 79, 80, 81, 82, 83, 84, 85, 86, 87] (by decide +kernel) (by decide +kernel)
set_option maxRecDepth 20000 in
theorem gX6_way_X1_isThere : GoodIn wsX6_way (wsV RX6 135 RX1 yX1_isThere wsX1_isThere) := goodIn_app (goodIn_of _ (by decide +kernel)) ggX6_way_X1_isThere
set_option maxRecDepth 20000 in
theorem ggX6_way_X4_measureTo : GoodIn wsX6_way wsX4_measureTo := goodIn_r _ [18, 19, 20, 21, 22, 23, 24, 9, 10, 11, 12, 13, 25, 26, 27, 17, 28, 29, 30, 31, 32, 33, 34, 35, 36, 37, 67, 68, 69, 70, 71, 72, 73, 74, 75, 76, 77, 78, 79, 80, 81, 82, 83, 84, 85, 86, 87] (by decide +kernel) (by decide +kernel)
set_option maxRecDepth 20000 in
theorem gX6_way_X4_measureTo : GoodIn wsX6_way (wsV RX6 207 RX4 yX4_measureTo wsX4_measureTo) := goodIn_app (goodIn_of _ (by decide +kernel)) ggX6_way_X4_measureTo
set_option maxRecDepth 20000 in
theorem ggX6_way_X4_nearestRoot : GoodIn wsX6_way wsX4_nearestRoot := goodIn_r _ [41, 42, 19, 43, 44, 45, 17, 46, 70, 71, 72, 73, 74, 75, 76, 77, 78, 79, 80, 81, 82, 83, 84, 85, 86, 87, 67, 68, 69] (by decide +kernel) (by decide +kernel)
set_option maxRecDepth 20000 in
theorem gX6_way_X4_nearestRoot : GoodIn wsX6_way (wsV RX6 210 RX4 yX4_nearestRoot wsX4_nearestRoot) := goodIn_app (goodIn_of _ (by decide +kernel)) ggX6_way_X4_nearestRoot
set_option maxRecDepth 20000 in
theorem ggX6_way_X4_walk : GoodIn wsX6_way wsX4_walk := goodIn_r _ [50, 51, 52, 53, 17, 54, 19, 55, 56, 57, 58, 29, 30, 31, 11, 32, 33, 34, 35, 36, 37, 67, 68, 69, 70, 71, 72, 73, 74, 75, 76, 77, 78, 79, 80, 81, 82, 83, 84, 85, 86, 87] (by decide +kernel) (by decide +kernel)
set_option maxRecDepth 20000 in
theorem gX6_way_X4_walk : GoodIn wsX6_way (wsV RX6 217 RX4 yX4_walk wsX4_walk) := goodIn_app (goodIn_of _ (by decide +kernel)) ggX6_way_X4_walk
theorem dX6_way_0 : decode cX6_way 0 = .ok (.iload_n 1, 1) := by decide +kernel
theorem dX6_way_1 : decode cX6_way 1 = .ok (.iconst 0, 1) := by decide +kernel
theorem dX6_way_2 : decode cX6_way 2 = .ok (.bipush 31, 2) := by decide +kernel
theorem dX6_way_4 : decode cX6_way 4 = .ok (.invokestatic 55, 3) := by decide +kernel
theorem dX6_way_7 : decode cX6_way 7 = .ok (.ifCond .eq 19, 3) := by decide +kernel
theorem dX6_way_10 : decode cX6_way 10 = .ok (.aload_n 0, 1) := by decide +kernel
theorem dX6_way_11 : decode cX6_way 11 = .ok (.getfield 10, 3) := by decide +kernel
theorem dX6_way_14 : decode cX6_way 14 = .ok (.iload_n 1, 1) := by decide +kernel
theorem dX6_way_15 : decode cX6_way 15 = .ok (.invokevirtual 135, 3) := by decide +kernel
theorem dX6_way_18 : decode cX6_way 18 = .ok (.ifCond .eq 8, 3) := by decide +kernel
theorem dX6_way_21 : decode cX6_way 21 = .ok (.iload_n 2, 1) := by decide +kernel
theorem dX6_way_22 : decode cX6_way 22 = .ok (.iconst (-1), 1) := by decide +kernel
theorem dX6_way_23 : decode cX6_way 23 = .ok (.if_icmp .ge 5, 3) := by decide +kernel
theorem dX6_way_26 : decode cX6_way 26 = .ok (.iconst (-1), 1) := by decide +kernel
theorem dX6_way_27 : decode cX6_way 27 = .ok (.ireturn, 1) := by decide +kernel
theorem dX6_way_28 : decode cX6_way 28 = .ok (.aload_n 0, 1) := by decide +kernel
theorem dX6_way_29 : decode cX6_way 29 = .ok (.getfield 51, 3) := by decide +kernel
theorem dX6_way_32 : decode cX6_way 32 = .ok (.aload_n 0, 1) := by decide +kernel
theorem dX6_way_33 : decode cX6_way 33 = .ok (.getfield 10, 3) := by decide +kernel
theorem dX6_way_36 : decode cX6_way 36 = .ok (.iload_n 1, 1) := by decide +kernel
theorem dX6_way_37 : decode cX6_way 37 = .ok (.invokevirtual 207, 3) := by decide +kernel
theorem dX6_way_40 : decode cX6_way 40 = .ok (.aload_n 0, 1) := by decide +kernel
theorem dX6_way_41 : decode cX6_way 41 = .ok (.getfield 51, 3) := by decide +kernel
theorem dX6_way_44 : decode cX6_way 44 = .ok (.aload_n 0, 1) := by decide +kernel
theorem dX6_way_45 : decode cX6_way 45 = .ok (.getfield 10, 3) := by decide +kernel
theorem dX6_way_48 : decode cX6_way 48 = .ok (.invokevirtual 210, 3) := by decide +kernel
theorem dX6_way_51 : decode cX6_way 51 = .ok (.istore_n 3, 1) := by decide +kernel
theorem dX6_way_52 : decode cX6_way 52 = .ok (.iload_n 3, 1) := by decide +kernel
theorem dX6_way_53 : decode cX6_way 53 = .ok (.bipush (-9), 2) := by decide +kernel
theorem dX6_way_55 : decode cX6_way 55 = .ok (.if_icmp .ne 6, 3) := by decide +kernel
theorem dX6_way_58 : decode cX6_way 58 = .ok (.bipush (-9), 2) := by decide +kernel
theorem dX6_way_60 : decode cX6_way 60 = .ok (.ireturn, 1) := by decide +kernel
theorem dX6_way_61 : decode cX6_way 61 = .ok (.aload_n 0, 1) := by decide +kernel
theorem dX6_way_62 : decode cX6_way 62 = .ok (.getfield 51, 3) := by decide +kernel
theorem dX6_way_65 : decode cX6_way 65 = .ok (.getfield 214, 3) := by decide +kernel
theorem dX6_way_68 : decode cX6_way 68 = .ok (.iload_n 3, 1) := by decide +kernel
theorem dX6_way_69 : decode cX6_way 69 = .ok (.iaload, 1) := by decide +kernel
theorem dX6_way_70 : decode cX6_way 70 = .ok (.istore 4, 2) := by decide +kernel
theorem dX6_way_72 : decode cX6_way 72 = .ok (.iload_n 2, 1) := by decide +kernel
theorem dX6_way_73 : decode cX6_way 73 = .ok (.iconst (-1), 1) := by decide +kernel
theorem dX6_way_74 : decode cX6_way 74 = .ok (.if_icmp .ne 6, 3) := by decide +kernel
theorem dX6_way_77 : decode cX6_way 77 = .ok (.iload 4, 2) := by decide +kernel
theorem dX6_way_79 : decode cX6_way 79 = .ok (.ireturn, 1) := by decide +kernel
theorem dX6_way_80 : decode cX6_way 80 = .ok (.iload_n 2, 1) := by decide +kernel
theorem dX6_way_81 : decode cX6_way 81 = .ok (.iload 4, 2) := by decide +kernel
theorem dX6_way_83 : decode cX6_way 83 = .ok (.if_icmp .ge 19, 3) := by decide +kernel
theorem dX6_way_86 : decode cX6_way 86 = .ok (.aload_n 0, 1) := by decide +kernel
theorem dX6_way_87 : decode cX6_way 87 = .ok (.getfield 51, 3) := by decide +kernel
theorem dX6_way_90 : decode cX6_way 90 = .ok (.aload_n 0, 1) := by decide +kernel
theorem dX6_way_91 : decode cX6_way 91 = .ok (.getfield 10, 3) := by decide +kernel
theorem dX6_way_94 : decode cX6_way 94 = .ok (.iload_n 3, 1) := by decide +kernel
theorem dX6_way_95 : decode cX6_way 95 = .ok (.iload_n 2, 1) := by decide +kernel
theorem dX6_way_96 : decode cX6_way 96 = .ok (.invokevirtual 217, 3) := by decide +kernel
theorem dX6_way_99 : decode cX6_way 99 = .ok (.goto 5, 3) := by decide +kernel
theorem dX6_way_102 : decode cX6_way 102 = .ok (.bipush (-9), 2) := by decide +kernel
theorem dX6_way_104 : decode cX6_way 104 = .ok (.ireturn, 1) := by decide +kernel
set_option maxRecDepth 20000 in
theorem ggX6_keep_X6_isImage : GoodIn wsX6_keep wsX6_isImage := goodIn_r _ [7, 8, 9, 6, 10] (by decide +kernel) (by decide +kernel)
set_option maxRecDepth 20000 in
theorem gX6_keep_X6_isImage : GoodIn wsX6_keep (va_wsS RX6 221 yX6_isImage wsX6_isImage) := goodIn_app (goodIn_of _ (by decide +kernel)) ggX6_keep_X6_isImage
set_option maxRecDepth 20000 in
theorem ggX6_keep_X1_becomeLike : GoodIn wsX6_keep wsX1_becomeLike := goodIn_r _ [15, 16, 17, 18, 19, 20, 21, 22, 23, 24, 25, 26, 27, 28, 29, 30, 31, 32, 33, 34, 35, 36, 37, 38, 39, 40, 41, 42, 43, 44, 45, 62, 63, 64, 65, 66, 67, 68, 69, 70, 71, 72, 73, 74, 75, 76, 77, 78, 79, 80, 81] (by decide +kernel) (by decide +kernel)
set_option maxRecDepth 20000 in
theorem gX6_keep_X1_becomeLike : GoodIn wsX6_keep (wsV RX6 198 RX1 yX1_becomeLike wsX1_becomeLike) := goodIn_app (goodIn_of _ (by decide +kernel)) ggX6_keep_X1_becomeLike
set_option maxRecDepth 20000 in
theorem ggX6_keep_X1_thingCount : GoodIn wsX6_keep wsX1_thingCount := goodIn_r _ [49, 50, 51, 52, 14, 53, 24, 62, 63, 64, 65, 66, 67, 68, 69, 70, 71, 72, 73, 74, 75, 76, 77, 78, 79] (by decide +kernel) (by decide +kernel)
set_option maxRecDepth 20000 in
theorem gX6_keep_X1_thingCount : GoodIn wsX6_keep (wsV RX6 224 RX1 yX1_thingCount wsX1_thingCount) := goodIn_app (goodIn_of _ (by decide +kernel)) ggX6_keep_X1_thingCount
theorem dX6_keep_0 : decode cX6_keep 0 = .ok (.iload_n 1, 1) := by decide +kernel
theorem dX6_keep_1 : decode cX6_keep 1 = .ok (.invokestatic 221, 3) := by decide +kernel
theorem dX6_keep_4 : decode cX6_keep 4 = .ok (.ifCond .ne 5, 3) := by decide +kernel
theorem dX6_keep_7 : decode cX6_keep 7 = .ok (.iconst (-1), 1) := by decide +kernel
theorem dX6_keep_8 : decode cX6_keep 8 = .ok (.ireturn, 1) := by decide +kernel
theorem dX6_keep_9 : decode cX6_keep 9 = .ok (.aload_n 0, 1) := by decide +kernel
theorem dX6_keep_10 : decode cX6_keep 10 = .ok (.getfield 26, 3) := by decide +kernel
theorem dX6_keep_13 : decode cX6_keep 13 = .ok (.iload_n 1, 1) := by decide +kernel
theorem dX6_keep_14 : decode cX6_keep 14 = .ok (.aaload, 1) := by decide +kernel
theorem dX6_keep_15 : decode cX6_keep 15 = .ok (.aload_n 0, 1) := by decide +kernel
theorem dX6_keep_16 : decode cX6_keep 16 = .ok (.getfield 10, 3) := by decide +kernel
theorem dX6_keep_19 : decode cX6_keep 19 = .ok (.invokevirtual 198, 3) := by decide +kernel
theorem dX6_keep_22 : decode cX6_keep 22 = .ok (.aload_n 0, 1) := by decide +kernel
theorem dX6_keep_23 : decode cX6_keep 23 = .ok (.getfield 30, 3) := by decide +kernel
theorem dX6_keep_26 : decode cX6_keep 26 = .ok (.iload_n 1, 1) := by decide +kernel
theorem dX6_keep_27 : decode cX6_keep 27 = .ok (.iconst 1, 1) := by decide +kernel
theorem dX6_keep_28 : decode cX6_keep 28 = .ok (.bastore, 1) := by decide +kernel
theorem dX6_keep_29 : decode cX6_keep 29 = .ok (.aload_n 0, 1) := by decide +kernel
theorem dX6_keep_30 : decode cX6_keep 30 = .ok (.getfield 10, 3) := by decide +kernel
theorem dX6_keep_33 : decode cX6_keep 33 = .ok (.invokevirtual 224, 3) := by decide +kernel
theorem dX6_keep_36 : decode cX6_keep 36 = .ok (.ireturn, 1) := by decide +kernel
set_option maxRecDepth 20000 in
theorem ggX6_back_X6_isImage : GoodIn wsX6_back wsX6_isImage := goodIn_r _ [8, 9, 10, 7, 11] (by decide +kernel) (by decide +kernel)
set_option maxRecDepth 20000 in
theorem gX6_back_X6_isImage : GoodIn wsX6_back (va_wsS RX6 221 yX6_isImage wsX6_isImage) := goodIn_app (goodIn_of _ (by decide +kernel)) ggX6_back_X6_isImage
set_option maxRecDepth 20000 in
theorem ggX6_back_X1_becomeLike : GoodIn wsX6_back wsX1_becomeLike := goodIn_r _ [16, 17, 18, 19, 20, 21, 22, 23, 24, 25, 26, 27, 28, 29, 30, 31, 32, 33, 34, 35, 36, 37, 38, 39, 40, 41, 42, 43, 44, 45, 46, 69, 70, 71, 72, 73, 74, 75, 76, 77, 78, 79, 80, 81, 82, 83, 84, 85, 86, 87, 88] (by decide +kernel) (by decide +kernel)
set_option maxRecDepth 20000 in
theorem gX6_back_X1_becomeLike : GoodIn wsX6_back (wsV RX6 198 RX1 yX1_becomeLike wsX1_becomeLike) := goodIn_app (goodIn_of _ (by decide +kernel)) ggX6_back_X1_becomeLike
set_option maxRecDepth 20000 in
theorem ggX6_back_X2_forget : GoodIn wsX6_back wsX2_forget := goodIn_r _ [51, 52, 89, 90, 91] (by decide +kernel) (by decide +kernel)
set_option maxRecDepth 20000 in
theorem gX6_back_X2_forget : GoodIn wsX6_back (wsV RX6 227 RX2 yX2_forget wsX2_forget) := goodIn_app (goodIn_of _ (by decide +kernel)) ggX6_back_X2_forget
set_option maxRecDepth 20000 in
theorem ggX6_back_X1_thingCount : GoodIn wsX6_back wsX1_thingCount := goodIn_r _ [56, 57, 58, 59, 15, 60, 25, 69, 70, 71, 72, 73, 74, 75, 76, 77, 78, 79, 80, 81, 82, 83, 84, 85, 86] (by decide +kernel) (by decide +kernel)
set_option maxRecDepth 20000 in
theorem gX6_back_X1_thingCount : GoodIn wsX6_back (wsV RX6 224 RX1 yX1_thingCount wsX1_thingCount) := goodIn_app (goodIn_of _ (by decide +kernel)) ggX6_back_X1_thingCount
theorem dX6_back_0 : decode cX6_back 0 = .ok (.iload_n 1, 1) := by decide +kernel
theorem dX6_back_1 : decode cX6_back 1 = .ok (.invokestatic 221, 3) := by decide +kernel
theorem dX6_back_4 : decode cX6_back 4 = .ok (.ifCond .ne 5, 3) := by decide +kernel
theorem dX6_back_7 : decode cX6_back 7 = .ok (.iconst (-1), 1) := by decide +kernel
theorem dX6_back_8 : decode cX6_back 8 = .ok (.ireturn, 1) := by decide +kernel
theorem dX6_back_9 : decode cX6_back 9 = .ok (.aload_n 0, 1) := by decide +kernel
theorem dX6_back_10 : decode cX6_back 10 = .ok (.getfield 30, 3) := by decide +kernel
theorem dX6_back_13 : decode cX6_back 13 = .ok (.iload_n 1, 1) := by decide +kernel
theorem dX6_back_14 : decode cX6_back 14 = .ok (.baload, 1) := by decide +kernel
theorem dX6_back_15 : decode cX6_back 15 = .ok (.ifCond .ne 6, 3) := by decide +kernel
theorem dX6_back_18 : decode cX6_back 18 = .ok (.bipush (-2), 2) := by decide +kernel
theorem dX6_back_20 : decode cX6_back 20 = .ok (.ireturn, 1) := by decide +kernel
theorem dX6_back_21 : decode cX6_back 21 = .ok (.aload_n 0, 1) := by decide +kernel
theorem dX6_back_22 : decode cX6_back 22 = .ok (.getfield 10, 3) := by decide +kernel
theorem dX6_back_25 : decode cX6_back 25 = .ok (.aload_n 0, 1) := by decide +kernel
theorem dX6_back_26 : decode cX6_back 26 = .ok (.getfield 26, 3) := by decide +kernel
theorem dX6_back_29 : decode cX6_back 29 = .ok (.iload_n 1, 1) := by decide +kernel
theorem dX6_back_30 : decode cX6_back 30 = .ok (.aaload, 1) := by decide +kernel
theorem dX6_back_31 : decode cX6_back 31 = .ok (.invokevirtual 198, 3) := by decide +kernel
theorem dX6_back_34 : decode cX6_back 34 = .ok (.aload_n 0, 1) := by decide +kernel
theorem dX6_back_35 : decode cX6_back 35 = .ok (.getfield 22, 3) := by decide +kernel
theorem dX6_back_38 : decode cX6_back 38 = .ok (.invokevirtual 227, 3) := by decide +kernel
theorem dX6_back_41 : decode cX6_back 41 = .ok (.aload_n 0, 1) := by decide +kernel
theorem dX6_back_42 : decode cX6_back 42 = .ok (.getfield 10, 3) := by decide +kernel
theorem dX6_back_45 : decode cX6_back 45 = .ok (.invokevirtual 224, 3) := by decide +kernel
theorem dX6_back_48 : decode cX6_back 48 = .ok (.ireturn, 1) := by decide +kernel
set_option maxRecDepth 20000 in
theorem ggX6_count_X1_thingCount : GoodIn wsX6_count wsX1_thingCount := goodIn_r _ [14, 15, 16, 17, 13, 18, 19, 33, 34, 35, 36, 37, 38, 39, 40, 41, 42, 43, 44, 45, 46, 47, 48, 49, 50] (by decide +kernel) (by decide +kernel)
set_option maxRecDepth 20000 in
theorem gX6_count_X1_thingCount : GoodIn wsX6_count (wsV RX6 224 RX1 yX1_thingCount wsX1_thingCount) := goodIn_app (goodIn_of _ (by decide +kernel)) ggX6_count_X1_thingCount
set_option maxRecDepth 20000 in
theorem ggX6_count_X1_regionsOfKind : GoodIn wsX6_count wsX1_regionsOfKind := goodIn_r _ [23, 24, 33, 34, 35, 36, 37, 38, 39, 40, 41, 42, 43, 44, 45, 46, 47, 48, 49, 50] (by decide +kernel) (by decide +kernel)
set_option maxRecDepth 20000 in
theorem gX6_count_X1_regionsOfKind : GoodIn wsX6_count (wsV RX6 230 RX1 yX1_regionsOfKind wsX1_regionsOfKind) := goodIn_app (goodIn_of _ (by decide +kernel)) ggX6_count_X1_regionsOfKind
theorem dX6_count_0 : decode cX6_count 0 = .ok (.iload_n 1, 1) := by decide +kernel
theorem dX6_count_1 : decode cX6_count 1 = .ok (.tableswitch 139 0 8 #[51, 59, 68, 77, 88, 99, 115, 123, 131], 51) := by decide +kernel
theorem dX6_count_52 : decode cX6_count 52 = .ok (.aload_n 0, 1) := by decide +kernel
theorem dX6_count_53 : decode cX6_count 53 = .ok (.getfield 10, 3) := by decide +kernel
theorem dX6_count_56 : decode cX6_count 56 = .ok (.invokevirtual 224, 3) := by decide +kernel
theorem dX6_count_59 : decode cX6_count 59 = .ok (.ireturn, 1) := by decide +kernel
theorem dX6_count_60 : decode cX6_count 60 = .ok (.aload_n 0, 1) := by decide +kernel
theorem dX6_count_61 : decode cX6_count 61 = .ok (.getfield 10, 3) := by decide +kernel
theorem dX6_count_64 : decode cX6_count 64 = .ok (.iconst 0, 1) := by decide +kernel
theorem dX6_count_65 : decode cX6_count 65 = .ok (.invokevirtual 230, 3) := by decide +kernel
theorem dX6_count_68 : decode cX6_count 68 = .ok (.ireturn, 1) := by decide +kernel
theorem dX6_count_69 : decode cX6_count 69 = .ok (.aload_n 0, 1) := by decide +kernel
theorem dX6_count_70 : decode cX6_count 70 = .ok (.getfield 10, 3) := by decide +kernel
theorem dX6_count_73 : decode cX6_count 73 = .ok (.iconst 1, 1) := by decide +kernel
theorem dX6_count_74 : decode cX6_count 74 = .ok (.invokevirtual 230, 3) := by decide +kernel
theorem dX6_count_77 : decode cX6_count 77 = .ok (.ireturn, 1) := by decide +kernel
theorem dX6_count_78 : decode cX6_count 78 = .ok (.aload_n 0, 1) := by decide +kernel
theorem dX6_count_79 : decode cX6_count 79 = .ok (.getfield 10, 3) := by decide +kernel
theorem dX6_count_82 : decode cX6_count 82 = .ok (.getfield 96, 3) := by decide +kernel
theorem dX6_count_85 : decode cX6_count 85 = .ok (.getfield 100, 3) := by decide +kernel
theorem dX6_count_88 : decode cX6_count 88 = .ok (.ireturn, 1) := by decide +kernel
theorem dX6_count_89 : decode cX6_count 89 = .ok (.aload_n 0, 1) := by decide +kernel
theorem dX6_count_90 : decode cX6_count 90 = .ok (.getfield 10, 3) := by decide +kernel
theorem dX6_count_93 : decode cX6_count 93 = .ok (.getfield 116, 3) := by decide +kernel
theorem dX6_count_96 : decode cX6_count 96 = .ok (.getfield 100, 3) := by decide +kernel
theorem dX6_count_99 : decode cX6_count 99 = .ok (.ireturn, 1) := by decide +kernel
theorem dX6_count_100 : decode cX6_count 100 = .ok (.aload_n 0, 1) := by decide +kernel
theorem dX6_count_101 : decode cX6_count 101 = .ok (.getfield 10, 3) := by decide +kernel
theorem dX6_count_104 : decode cX6_count 104 = .ok (.getfield 109, 3) := by decide +kernel
theorem dX6_count_107 : decode cX6_count 107 = .ok (.ifCond .eq 7, 3) := by decide +kernel
theorem dX6_count_110 : decode cX6_count 110 = .ok (.iconst 1, 1) := by decide +kernel
theorem dX6_count_111 : decode cX6_count 111 = .ok (.goto 4, 3) := by decide +kernel
theorem dX6_count_114 : decode cX6_count 114 = .ok (.iconst 0, 1) := by decide +kernel
theorem dX6_count_115 : decode cX6_count 115 = .ok (.ireturn, 1) := by decide +kernel
theorem dX6_count_116 : decode cX6_count 116 = .ok (.aload_n 0, 1) := by decide +kernel
theorem dX6_count_117 : decode cX6_count 117 = .ok (.getfield 10, 3) := by decide +kernel
theorem dX6_count_120 : decode cX6_count 120 = .ok (.getfield 233, 3) := by decide +kernel
theorem dX6_count_123 : decode cX6_count 123 = .ok (.ireturn, 1) := by decide +kernel
theorem dX6_count_124 : decode cX6_count 124 = .ok (.aload_n 0, 1) := by decide +kernel
theorem dX6_count_125 : decode cX6_count 125 = .ok (.getfield 10, 3) := by decide +kernel
theorem dX6_count_128 : decode cX6_count 128 = .ok (.getfield 236, 3) := by decide +kernel
theorem dX6_count_131 : decode cX6_count 131 = .ok (.ireturn, 1) := by decide +kernel
theorem dX6_count_132 : decode cX6_count 132 = .ok (.aload_n 0, 1) := by decide +kernel
theorem dX6_count_133 : decode cX6_count 133 = .ok (.getfield 22, 3) := by decide +kernel
theorem dX6_count_136 : decode cX6_count 136 = .ok (.getfield 129, 3) := by decide +kernel
theorem dX6_count_139 : decode cX6_count 139 = .ok (.ireturn, 1) := by decide +kernel
theorem dX6_count_140 : decode cX6_count 140 = .ok (.iconst (-1), 1) := by decide +kernel
theorem dX6_count_141 : decode cX6_count 141 = .ok (.ireturn, 1) := by decide +kernel
theorem dX6_within_0 : decode cX6_within 0 = .ok (.iload_n 0, 1) := by decide +kernel
theorem dX6_within_1 : decode cX6_within 1 = .ok (.iload_n 1, 1) := by decide +kernel
theorem dX6_within_2 : decode cX6_within 2 = .ok (.if_icmp .lt 12, 3) := by decide +kernel
theorem dX6_within_5 : decode cX6_within 5 = .ok (.iload_n 0, 1) := by decide +kernel
theorem dX6_within_6 : decode cX6_within 6 = .ok (.iload_n 2, 1) := by decide +kernel
theorem dX6_within_7 : decode cX6_within 7 = .ok (.if_icmp .gt 7, 3) := by decide +kernel
theorem dX6_within_10 : decode cX6_within 10 = .ok (.iconst 1, 1) := by decide +kernel
theorem dX6_within_11 : decode cX6_within 11 = .ok (.goto 4, 3) := by decide +kernel
theorem dX6_within_14 : decode cX6_within 14 = .ok (.iconst 0, 1) := by decide +kernel
theorem dX6_within_15 : decode cX6_within 15 = .ok (.ireturn, 1) := by decide +kernel
set_option maxRecDepth 20000 in
theorem ggX6_isRoot_X6_within : GoodIn wsX6_isRoot wsX6_within := goodIn_r _ [4] (by decide +kernel) (by decide +kernel)
set_option maxRecDepth 20000 in
theorem gX6_isRoot_X6_within : GoodIn wsX6_isRoot (va_wsS RX6 55 yX6_within wsX6_within) := goodIn_app (goodIn_of _ (by decide +kernel)) ggX6_isRoot_X6_within
theorem dX6_isRoot_0 : decode cX6_isRoot 0 = .ok (.iload_n 0, 1) := by decide +kernel
theorem dX6_isRoot_1 : decode cX6_isRoot 1 = .ok (.iconst 0, 1) := by decide +kernel
theorem dX6_isRoot_2 : decode cX6_isRoot 2 = .ok (.iconst 5, 1) := by decide +kernel
theorem dX6_isRoot_3 : decode cX6_isRoot 3 = .ok (.invokestatic 55, 3) := by decide +kernel
theorem dX6_isRoot_6 : decode cX6_isRoot 6 = .ok (.ireturn, 1) := by decide +kernel
set_option maxRecDepth 20000 in
theorem ggX6_isRootOrNil_X6_within : GoodIn wsX6_isRootOrNil wsX6_within := goodIn_r _ [4] (by decide +kernel) (by decide +kernel)
set_option maxRecDepth 20000 in
theorem gX6_isRootOrNil_X6_within : GoodIn wsX6_isRootOrNil (va_wsS RX6 55 yX6_within wsX6_within) := goodIn_app (goodIn_of _ (by decide +kernel)) ggX6_isRootOrNil_X6_within
theorem dX6_isRootOrNil_0 : decode cX6_isRootOrNil 0 = .ok (.iload_n 0, 1) := by decide +kernel
theorem dX6_isRootOrNil_1 : decode cX6_isRootOrNil 1 = .ok (.iconst (-1), 1) := by decide +kernel
theorem dX6_isRootOrNil_2 : decode cX6_isRootOrNil 2 = .ok (.iconst 5, 1) := by decide +kernel
theorem dX6_isRootOrNil_3 : decode cX6_isRootOrNil 3 = .ok (.invokestatic 55, 3) := by decide +kernel
theorem dX6_isRootOrNil_6 : decode cX6_isRootOrNil 6 = .ok (.ireturn, 1) := by decide +kernel
set_option maxRecDepth 20000 in
theorem ggX6_isRegion_X6_within : GoodIn wsX6_isRegion wsX6_within := goodIn_r _ [4] (by decide +kernel) (by decide +kernel)
set_option maxRecDepth 20000 in
theorem gX6_isRegion_X6_within : GoodIn wsX6_isRegion (va_wsS RX6 55 yX6_within wsX6_within) := goodIn_app (goodIn_of _ (by decide +kernel)) ggX6_isRegion_X6_within
theorem dX6_isRegion_0 : decode cX6_isRegion 0 = .ok (.iload_n 0, 1) := by decide +kernel
theorem dX6_isRegion_1 : decode cX6_isRegion 1 = .ok (.iconst 0, 1) := by decide +kernel
theorem dX6_isRegion_2 : decode cX6_isRegion 2 = .ok (.bipush 9, 2) := by decide +kernel
theorem dX6_isRegion_4 : decode cX6_isRegion 4 = .ok (.invokestatic 55, 3) := by decide +kernel
theorem dX6_isRegion_7 : decode cX6_isRegion 7 = .ok (.ireturn, 1) := by decide +kernel
set_option maxRecDepth 20000 in
theorem ggX6_isImage_X6_within : GoodIn wsX6_isImage wsX6_within := goodIn_r _ [4] (by decide +kernel) (by decide +kernel)
set_option maxRecDepth 20000 in
theorem gX6_isImage_X6_within : GoodIn wsX6_isImage (va_wsS RX6 55 yX6_within wsX6_within) := goodIn_app (goodIn_of _ (by decide +kernel)) ggX6_isImage_X6_within
theorem dX6_isImage_0 : decode cX6_isImage 0 = .ok (.iload_n 0, 1) := by decide +kernel
theorem dX6_isImage_1 : decode cX6_isImage 1 = .ok (.iconst 0, 1) := by decide +kernel
theorem dX6_isImage_2 : decode cX6_isImage 2 = .ok (.iconst 1, 1) := by decide +kernel
theorem dX6_isImage_3 : decode cX6_isImage 3 = .ok (.invokestatic 55, 3) := by decide +kernel
theorem dX6_isImage_6 : decode cX6_isImage 6 = .ok (.ireturn, 1) := by decide +kernel
set_option maxRecDepth 20000 in
theorem ggX6_isGoal_X6_within : GoodIn wsX6_isGoal wsX6_within := goodIn_r _ [4] (by decide +kernel) (by decide +kernel)
set_option maxRecDepth 20000 in
theorem gX6_isGoal_X6_within : GoodIn wsX6_isGoal (va_wsS RX6 55 yX6_within wsX6_within) := goodIn_app (goodIn_of _ (by decide +kernel)) ggX6_isGoal_X6_within
theorem dX6_isGoal_0 : decode cX6_isGoal 0 = .ok (.iload_n 0, 1) := by decide +kernel
theorem dX6_isGoal_1 : decode cX6_isGoal 1 = .ok (.iconst 0, 1) := by decide +kernel
theorem dX6_isGoal_2 : decode cX6_isGoal 2 = .ok (.sipush 999, 3) := by decide +kernel
theorem dX6_isGoal_5 : decode cX6_isGoal 5 = .ok (.invokestatic 55, 3) := by decide +kernel
theorem dX6_isGoal_8 : decode cX6_isGoal 8 = .ok (.ireturn, 1) := by decide +kernel
theorem dX6_hasBit_0 : decode cX6_hasBit 0 = .ok (.iload_n 0, 1) := by decide +kernel
theorem dX6_hasBit_1 : decode cX6_hasBit 1 = .ok (.iload_n 1, 1) := by decide +kernel
theorem dX6_hasBit_2 : decode cX6_hasBit 2 = .ok (.ishr, 1) := by decide +kernel
theorem dX6_hasBit_3 : decode cX6_hasBit 3 = .ok (.iconst 1, 1) := by decide +kernel
theorem dX6_hasBit_4 : decode cX6_hasBit 4 = .ok (.iand, 1) := by decide +kernel
theorem dX6_hasBit_5 : decode cX6_hasBit 5 = .ok (.iconst 1, 1) := by decide +kernel
theorem dX6_hasBit_6 : decode cX6_hasBit 6 = .ok (.if_icmp .ne 7, 3) := by decide +kernel
theorem dX6_hasBit_9 : decode cX6_hasBit 9 = .ok (.iconst 1, 1) := by decide +kernel
theorem dX6_hasBit_10 : decode cX6_hasBit 10 = .ok (.goto 4, 3) := by decide +kernel
