set_option maxRecDepth 20000 in
theorem gX7_remembers_X7_isRegion : GoodIn wsX7_remembers (va_wsS RX7 225 yX7_isRegion wsX7_isRegion) := goodIn_app (goodIn_of _ (by decide +kernel)) ggX7_remembers_X7_isRegion
set_option maxRecDepth 20000 in
theorem ggX7_remembers_X7_in : GoodIn wsX7_remembers wsX7_in := goodIn_r _ [8] (by decide +kernel) (by decide +kernel)
set_option maxRecDepth 20000 in
theorem gX7_remembers_X7_in : GoodIn wsX7_remembers (va_wsS RX7 59 yX7_in wsX7_in) := goodIn_app (goodIn_of _ (by decide +kernel)) ggX7_remembers_X7_in
set_option maxRecDepth 20000 in
theorem ggX7_remembers_X7_ofRegion : GoodIn wsX7_remembers wsX7_ofRegion := goodIn_r _ [12, 13, 14, 15, 16, 17, 18, 19, 20, 21, 22, 23, 24, 25, 26, 27, 28, 29, 30, 31, 32, 33, 34, 35, 36, 37, 38, 39] (by decide +kernel) (by decide +kernel)
set_option maxRecDepth 20000 in
theorem gX7_remembers_X7_ofRegion : GoodIn wsX7_remembers (wsV RX7 67 RX7 yX7_ofRegion wsX7_ofRegion) := goodIn_app (goodIn_of _ (by decide +kernel)) ggX7_remembers_X7_ofRegion
theorem dX7_remembers_0 : decode cX7_remembers 0 = .ok (.aload_n 0, 1) := by decide +kernel
theorem dX7_remembers_1 : decode cX7_remembers 1 = .ok (.iconst 0, 1) := by decide +kernel
theorem dX7_remembers_2 : decode cX7_remembers 2 = .ok (.putfield 55, 3) := by decide +kernel
theorem dX7_remembers_5 : decode cX7_remembers 5 = .ok (.iload_n 1, 1) := by decide +kernel
theorem dX7_remembers_6 : decode cX7_remembers 6 = .ok (.invokestatic 225, 3) := by decide +kernel
theorem dX7_remembers_9 : decode cX7_remembers 9 = .ok (.ifCond .eq 26, 3) := by decide +kernel
theorem dX7_remembers_12 : decode cX7_remembers 12 = .ok (.iload_n 2, 1) := by decide +kernel
theorem dX7_remembers_13 : decode cX7_remembers 13 = .ok (.iconst 0, 1) := by decide +kernel
theorem dX7_remembers_14 : decode cX7_remembers 14 = .ok (.bipush 19, 2) := by decide +kernel
theorem dX7_remembers_16 : decode cX7_remembers 16 = .ok (.invokestatic 59, 3) := by decide +kernel
theorem dX7_remembers_19 : decode cX7_remembers 19 = .ok (.ifCond .eq 16, 3) := by decide +kernel
theorem dX7_remembers_22 : decode cX7_remembers 22 = .ok (.aload_n 0, 1) := by decide +kernel
theorem dX7_remembers_23 : decode cX7_remembers 23 = .ok (.iload_n 1, 1) := by decide +kernel
theorem dX7_remembers_24 : decode cX7_remembers 24 = .ok (.iconst 3, 1) := by decide +kernel
theorem dX7_remembers_25 : decode cX7_remembers 25 = .ok (.invokevirtual 67, 3) := by decide +kernel
theorem dX7_remembers_28 : decode cX7_remembers 28 = .ok (.iload_n 2, 1) := by decide +kernel
theorem dX7_remembers_29 : decode cX7_remembers 29 = .ok (.ishr, 1) := by decide +kernel
theorem dX7_remembers_30 : decode cX7_remembers 30 = .ok (.iconst 1, 1) := by decide +kernel
theorem dX7_remembers_31 : decode cX7_remembers 31 = .ok (.iand, 1) := by decide +kernel
theorem dX7_remembers_32 : decode cX7_remembers 32 = .ok (.goto 4, 3) := by decide +kernel
theorem dX7_remembers_35 : decode cX7_remembers 35 = .ok (.iconst (-1), 1) := by decide +kernel
theorem dX7_remembers_36 : decode cX7_remembers 36 = .ok (.ireturn, 1) := by decide +kernel
theorem dX7_dirty_0 : decode cX7_dirty 0 = .ok (.aload_n 0, 1) := by decide +kernel
theorem dX7_dirty_1 : decode cX7_dirty 1 = .ok (.iconst 0, 1) := by decide +kernel
theorem dX7_dirty_2 : decode cX7_dirty 2 = .ok (.putfield 55, 3) := by decide +kernel
theorem dX7_dirty_5 : decode cX7_dirty 5 = .ok (.iload_n 1, 1) := by decide +kernel
theorem dX7_dirty_6 : decode cX7_dirty 6 = .ok (.ifCond .ge 7, 3) := by decide +kernel
theorem dX7_dirty_9 : decode cX7_dirty 9 = .ok (.iconst (-1), 1) := by decide +kernel
theorem dX7_dirty_10 : decode cX7_dirty 10 = .ok (.goto 30, 3) := by decide +kernel
theorem dX7_dirty_13 : decode cX7_dirty 13 = .ok (.iload_n 1, 1) := by decide +kernel
theorem dX7_dirty_14 : decode cX7_dirty 14 = .ok (.aload_n 0, 1) := by decide +kernel
theorem dX7_dirty_15 : decode cX7_dirty 15 = .ok (.getfield 7, 3) := by decide +kernel
theorem dX7_dirty_18 : decode cX7_dirty 18 = .ok (.sipush 258, 3) := by decide +kernel
theorem dX7_dirty_21 : decode cX7_dirty 21 = .ok (.iaload, 1) := by decide +kernel
theorem dX7_dirty_22 : decode cX7_dirty 22 = .ok (.if_icmp .ge 16, 3) := by decide +kernel
theorem dX7_dirty_25 : decode cX7_dirty 25 = .ok (.aload_n 0, 1) := by decide +kernel
theorem dX7_dirty_26 : decode cX7_dirty 26 = .ok (.getfield 7, 3) := by decide +kernel
theorem dX7_dirty_29 : decode cX7_dirty 29 = .ok (.sipush 238, 3) := by decide +kernel
theorem dX7_dirty_32 : decode cX7_dirty 32 = .ok (.iload_n 1, 1) := by decide +kernel
theorem dX7_dirty_33 : decode cX7_dirty 33 = .ok (.iadd, 1) := by decide +kernel
theorem dX7_dirty_34 : decode cX7_dirty 34 = .ok (.iaload, 1) := by decide +kernel
theorem dX7_dirty_35 : decode cX7_dirty 35 = .ok (.goto 5, 3) := by decide +kernel
theorem dX7_dirty_38 : decode cX7_dirty 38 = .ok (.bipush (-9), 2) := by decide +kernel
theorem dX7_dirty_40 : decode cX7_dirty 40 = .ok (.ireturn, 1) := by decide +kernel
theorem dX7_grey_0 : decode cX7_grey 0 = .ok (.aload_n 0, 1) := by decide +kernel
theorem dX7_grey_1 : decode cX7_grey 1 = .ok (.iconst 0, 1) := by decide +kernel
theorem dX7_grey_2 : decode cX7_grey 2 = .ok (.putfield 55, 3) := by decide +kernel
theorem dX7_grey_5 : decode cX7_grey 5 = .ok (.iload_n 1, 1) := by decide +kernel
theorem dX7_grey_6 : decode cX7_grey 6 = .ok (.ifCond .ge 7, 3) := by decide +kernel
theorem dX7_grey_9 : decode cX7_grey 9 = .ok (.iconst (-1), 1) := by decide +kernel
theorem dX7_grey_10 : decode cX7_grey 10 = .ok (.goto 42, 3) := by decide +kernel
theorem dX7_grey_13 : decode cX7_grey 13 = .ok (.iload_n 1, 1) := by decide +kernel
theorem dX7_grey_14 : decode cX7_grey 14 = .ok (.aload_n 0, 1) := by decide +kernel
theorem dX7_grey_15 : decode cX7_grey 15 = .ok (.getfield 7, 3) := by decide +kernel
theorem dX7_grey_18 : decode cX7_grey 18 = .ok (.sipush 291, 3) := by decide +kernel
theorem dX7_grey_21 : decode cX7_grey 21 = .ok (.iaload, 1) := by decide +kernel
theorem dX7_grey_22 : decode cX7_grey 22 = .ok (.if_icmp .ge 28, 3) := by decide +kernel
theorem dX7_grey_25 : decode cX7_grey 25 = .ok (.aload_n 0, 1) := by decide +kernel
theorem dX7_grey_26 : decode cX7_grey 26 = .ok (.getfield 7, 3) := by decide +kernel
theorem dX7_grey_29 : decode cX7_grey 29 = .ok (.sipush 292, 3) := by decide +kernel
theorem dX7_grey_32 : decode cX7_grey 32 = .ok (.iaload, 1) := by decide +kernel
theorem dX7_grey_33 : decode cX7_grey 33 = .ok (.iconst 1, 1) := by decide +kernel
theorem dX7_grey_34 : decode cX7_grey 34 = .ok (.if_icmp .ne 16, 3) := by decide +kernel
theorem dX7_grey_37 : decode cX7_grey 37 = .ok (.aload_n 0, 1) := by decide +kernel
theorem dX7_grey_38 : decode cX7_grey 38 = .ok (.getfield 7, 3) := by decide +kernel
theorem dX7_grey_41 : decode cX7_grey 41 = .ok (.sipush 259, 3) := by decide +kernel
theorem dX7_grey_44 : decode cX7_grey 44 = .ok (.iload_n 1, 1) := by decide +kernel
theorem dX7_grey_45 : decode cX7_grey 45 = .ok (.iadd, 1) := by decide +kernel
theorem dX7_grey_46 : decode cX7_grey 46 = .ok (.iaload, 1) := by decide +kernel
theorem dX7_grey_47 : decode cX7_grey 47 = .ok (.goto 5, 3) := by decide +kernel
theorem dX7_grey_50 : decode cX7_grey 50 = .ok (.bipush (-9), 2) := by decide +kernel
theorem dX7_grey_52 : decode cX7_grey 52 = .ok (.ireturn, 1) := by decide +kernel
set_option maxRecDepth 20000 in
theorem ggX7_learnt_X7_in : GoodIn wsX7_learnt wsX7_in := goodIn_r _ [7] (by decide +kernel) (by decide +kernel)
set_option maxRecDepth 20000 in
theorem gX7_learnt_X7_in : GoodIn wsX7_learnt (va_wsS RX7 59 yX7_in wsX7_in) := goodIn_app (goodIn_of _ (by decide +kernel)) ggX7_learnt_X7_in
theorem dX7_learnt_0 : decode cX7_learnt 0 = .ok (.aload_n 0, 1) := by decide +kernel
theorem dX7_learnt_1 : decode cX7_learnt 1 = .ok (.iconst 0, 1) := by decide +kernel
theorem dX7_learnt_2 : decode cX7_learnt 2 = .ok (.putfield 55, 3) := by decide +kernel
theorem dX7_learnt_5 : decode cX7_learnt 5 = .ok (.iload_n 1, 1) := by decide +kernel
theorem dX7_learnt_6 : decode cX7_learnt 6 = .ok (.iconst 0, 1) := by decide +kernel
theorem dX7_learnt_7 : decode cX7_learnt 7 = .ok (.iconst 1, 1) := by decide +kernel
theorem dX7_learnt_8 : decode cX7_learnt 8 = .ok (.invokestatic 59, 3) := by decide +kernel
theorem dX7_learnt_11 : decode cX7_learnt 11 = .ok (.ifCond .eq 16, 3) := by decide +kernel
theorem dX7_learnt_14 : decode cX7_learnt 14 = .ok (.ldc 228, 2) := by decide +kernel
theorem dX7_learnt_16 : decode cX7_learnt 16 = .ok (.aload_n 0, 1) := by decide +kernel
theorem dX7_learnt_17 : decode cX7_learnt 17 = .ok (.getfield 13, 3) := by decide +kernel
theorem dX7_learnt_20 : decode cX7_learnt 20 = .ok (.iload_n 1, 1) := by decide +kernel
theorem dX7_learnt_21 : decode cX7_learnt 21 = .ok (.faload, 1) := by decide +kernel
theorem dX7_learnt_22 : decode cX7_learnt 22 = .ok (.fmul, 1) := by decide +kernel
theorem dX7_learnt_23 : decode cX7_learnt 23 = .ok (.f2i, 1) := by decide +kernel
theorem dX7_learnt_24 : decode cX7_learnt 24 = .ok (.goto 4, 3) := by decide +kernel
theorem dX7_learnt_27 : decode cX7_learnt 27 = .ok (.iconst (-1), 1) := by decide +kernel
theorem dX7_learnt_28 : decode cX7_learnt 28 = .ok (.ireturn, 1) := by decide +kernel
set_option maxRecDepth 20000 in
theorem ggX7_chooses_X7_isGoal : GoodIn wsX7_chooses wsX7_isGoal := goodIn_r _ [6, 7, 8, 5, 9] (by decide +kernel) (by decide +kernel)
set_option maxRecDepth 20000 in
theorem gX7_chooses_X7_isGoal : GoodIn wsX7_chooses (va_wsS RX7 219 yX7_isGoal wsX7_isGoal) := goodIn_app (goodIn_of _ (by decide +kernel)) ggX7_chooses_X7_isGoal
set_option maxRecDepth 20000 in
theorem ggX7_chooses_X7_laysChosen : GoodIn wsX7_chooses wsX7_laysChosen := goodIn_r _ [13, 2, 14, 15, 16, 17, 18, 19, 20, 5, 21, 22, 23, 24, 25, 26, 27, 28, 29, 30, 31, 32, 33, 34, 35, 36, 37, 38, 39, 40, 41, 42, 43, 44, 45, 46, 47, 48, 49, 50, 51, 52] (by decide +kernel) (by decide +kernel)
set_option maxRecDepth 20000 in
theorem gX7_chooses_X7_laysChosen : GoodIn wsX7_chooses (wsV RX7 201 RX7 yX7_laysChosen wsX7_laysChosen) := goodIn_app (goodIn_of _ (by decide +kernel)) ggX7_chooses_X7_laysChosen
theorem dX7_chooses_0 : decode cX7_chooses 0 = .ok (.aload_n 0, 1) := by decide +kernel
theorem dX7_chooses_1 : decode cX7_chooses 1 = .ok (.iconst 0, 1) := by decide +kernel
theorem dX7_chooses_2 : decode cX7_chooses 2 = .ok (.putfield 55, 3) := by decide +kernel
theorem dX7_chooses_5 : decode cX7_chooses 5 = .ok (.iload_n 1, 1) := by decide +kernel
theorem dX7_chooses_6 : decode cX7_chooses 6 = .ok (.invokestatic 219, 3) := by decide +kernel
theorem dX7_chooses_9 : decode cX7_chooses 9 = .ok (.ifCond .ne 5, 3) := by decide +kernel
theorem dX7_chooses_12 : decode cX7_chooses 12 = .ok (.iconst (-1), 1) := by decide +kernel
theorem dX7_chooses_13 : decode cX7_chooses 13 = .ok (.ireturn, 1) := by decide +kernel
theorem dX7_chooses_14 : decode cX7_chooses 14 = .ok (.aload_n 0, 1) := by decide +kernel
theorem dX7_chooses_15 : decode cX7_chooses 15 = .ok (.iload_n 1, 1) := by decide +kernel
theorem dX7_chooses_16 : decode cX7_chooses 16 = .ok (.invokevirtual 201, 3) := by decide +kernel
theorem dX7_chooses_19 : decode cX7_chooses 19 = .ok (.aload_n 0, 1) := by decide +kernel
theorem dX7_chooses_20 : decode cX7_chooses 20 = .ok (.getfield 152, 3) := by decide +kernel
theorem dX7_chooses_23 : decode cX7_chooses 23 = .ok (.ireturn, 1) := by decide +kernel
set_option maxRecDepth 20000 in
theorem ggX7_foretold_X7_isGoal : GoodIn wsX7_foretold wsX7_isGoal := goodIn_r _ [7, 8, 9, 6, 10] (by decide +kernel) (by decide +kernel)
set_option maxRecDepth 20000 in
theorem gX7_foretold_X7_isGoal : GoodIn wsX7_foretold (va_wsS RX7 219 yX7_isGoal wsX7_isGoal) := goodIn_app (goodIn_of _ (by decide +kernel)) ggX7_foretold_X7_isGoal
set_option maxRecDepth 20000 in
theorem ggX7_foretold_X7_laysChosen : GoodIn wsX7_foretold wsX7_laysChosen := goodIn_r _ [14, 15, 16, 17, 18, 3, 19, 20, 21, 6, 22, 23, 24, 25, 26, 27, 28, 29, 30, 31, 32, 33, 34, 35, 36, 37, 38, 39, 40, 41, 42, 43, 44, 45, 46, 47, 48, 49, 50, 51, 52, 53] (by decide +kernel) (by decide +kernel)
set_option maxRecDepth 20000 in
theorem gX7_foretold_X7_laysChosen : GoodIn wsX7_foretold (wsV RX7 201 RX7 yX7_laysChosen wsX7_laysChosen) := goodIn_app (goodIn_of _ (by decide +kernel)) ggX7_foretold_X7_laysChosen
theorem dX7_foretold_0 : decode cX7_foretold 0 = .ok (.aload_n 0, 1) := by decide +kernel
theorem dX7_foretold_1 : decode cX7_foretold 1 = .ok (.iconst 0, 1) := by decide +kernel
theorem dX7_foretold_2 : decode cX7_foretold 2 = .ok (.putfield 55, 3) := by decide +kernel
theorem dX7_foretold_5 : decode cX7_foretold 5 = .ok (.iload_n 1, 1) := by decide +kernel
theorem dX7_foretold_6 : decode cX7_foretold 6 = .ok (.invokestatic 219, 3) := by decide +kernel
theorem dX7_foretold_9 : decode cX7_foretold 9 = .ok (.ifCond .ne 5, 3) := by decide +kernel
theorem dX7_foretold_12 : decode cX7_foretold 12 = .ok (.iconst (-1), 1) := by decide +kernel
theorem dX7_foretold_13 : decode cX7_foretold 13 = .ok (.ireturn, 1) := by decide +kernel
theorem dX7_foretold_14 : decode cX7_foretold 14 = .ok (.aload_n 0, 1) := by decide +kernel
theorem dX7_foretold_15 : decode cX7_foretold 15 = .ok (.iload_n 1, 1) := by decide +kernel
theorem dX7_foretold_16 : decode cX7_foretold 16 = .ok (.invokevirtual 201, 3) := by decide +kernel
theorem dX7_foretold_19 : decode cX7_foretold 19 = .ok (.ldc 228, 2) := by decide +kernel
theorem dX7_foretold_21 : decode cX7_foretold 21 = .ok (.aload_n 0, 1) := by decide +kernel
theorem dX7_foretold_22 : decode cX7_foretold 22 = .ok (.getfield 159, 3) := by decide +kernel
theorem dX7_foretold_25 : decode cX7_foretold 25 = .ok (.fmul, 1) := by decide +kernel
theorem dX7_foretold_26 : decode cX7_foretold 26 = .ok (.f2i, 1) := by decide +kernel
theorem dX7_foretold_27 : decode cX7_foretold 27 = .ok (.ireturn, 1) := by decide +kernel
set_option maxRecDepth 20000 in
theorem ggX7_would_X7_isGoal : GoodIn wsX7_would wsX7_isGoal := goodIn_r _ [9, 10, 11, 8, 12] (by decide +kernel) (by decide +kernel)
set_option maxRecDepth 20000 in
theorem gX7_would_X7_isGoal : GoodIn wsX7_would (va_wsS RX7 219 yX7_isGoal wsX7_isGoal) := goodIn_app (goodIn_of _ (by decide +kernel)) ggX7_would_X7_isGoal
set_option maxRecDepth 20000 in
theorem ggX7_would_X7_pause : GoodIn wsX7_would wsX7_pause := goodIn_r _ [16, 3, 17, 18, 19, 20, 21, 22, 23, 24, 25, 26, 27, 8, 28, 29, 30, 31, 32, 33, 34, 35, 36, 10, 11, 12, 37, 38, 39, 40, 41, 42, 43, 44, 45, 46, 47, 48, 49, 50, 51, 5, 52, 53, 54, 55, 56, 57, 58, 59, 60, 61, 62, 63, 64, 65, 66, 67, 68, 69, 70, 71, 72, 73, 74, 75, 76, 77, 78, 79, 80, 81, 82, 83, 84, 85, 86, 87, 88, 89, 90, 91, 92, 93, 94, 95, 96, 97, 98, 99, 100, 101, 102, 103, 104, 105, 106, 107, 108, 109, 110, 111, 112, 113, 114, 115, 116, 117, 118, 119, 120, 121, 122, 123, 124, 125, 126, 127, 128, 129, 130, 131, 132, 133, 134, 135, 136, 137, 138, 139, 140, 141, 142, 143, 144, 145, 146, 147, 148, 149, 150, 151, 152, 153, 154, 155, 156, 157, 158, 159, 160, 161] (by decide +kernel) (by decide +kernel)
set_option maxRecDepth 20000 in
theorem gX7_would_X7_pause : GoodIn wsX7_would (wsV RX7 222 RX7 yX7_pause wsX7_pause) := goodIn_app (goodIn_of _ (by decide +kernel)) ggX7_would_X7_pause
theorem dX7_would_0 : decode cX7_would 0 = .ok (.aload_n 0, 1) := by decide +kernel
theorem dX7_would_1 : decode cX7_would 1 = .ok (.iconst 0, 1) := by decide +kernel
theorem dX7_would_2 : decode cX7_would 2 = .ok (.putfield 55, 3) := by decide +kernel
theorem dX7_would_5 : decode cX7_would 5 = .ok (.iload_n 1, 1) := by decide +kernel
theorem dX7_would_6 : decode cX7_would 6 = .ok (.invokestatic 219, 3) := by decide +kernel
theorem dX7_would_9 : decode cX7_would 9 = .ok (.ifCond .ne 5, 3) := by decide +kernel
theorem dX7_would_12 : decode cX7_would 12 = .ok (.iconst (-1), 1) := by decide +kernel
theorem dX7_would_13 : decode cX7_would 13 = .ok (.ireturn, 1) := by decide +kernel
theorem dX7_would_14 : decode cX7_would 14 = .ok (.iconst 0, 1) := by decide +kernel
theorem dX7_would_15 : decode cX7_would 15 = .ok (.istore_n 2, 1) := by decide +kernel
theorem dX7_would_16 : decode cX7_would 16 = .ok (.iload_n 2, 1) := by decide +kernel
theorem dX7_would_17 : decode cX7_would 17 = .ok (.sipush 296, 3) := by decide +kernel
theorem dX7_would_20 : decode cX7_would 20 = .ok (.if_icmp .ge 21, 3) := by decide +kernel
theorem dX7_would_23 : decode cX7_would 23 = .ok (.aload_n 0, 1) := by decide +kernel
theorem dX7_would_24 : decode cX7_would 24 = .ok (.getfield 33, 3) := by decide +kernel
theorem dX7_would_27 : decode cX7_would 27 = .ok (.iload_n 2, 1) := by decide +kernel
theorem dX7_would_28 : decode cX7_would 28 = .ok (.aload_n 0, 1) := by decide +kernel
theorem dX7_would_29 : decode cX7_would 29 = .ok (.getfield 7, 3) := by decide +kernel
theorem dX7_would_32 : decode cX7_would 32 = .ok (.iload_n 2, 1) := by decide +kernel
theorem dX7_would_33 : decode cX7_would 33 = .ok (.iaload, 1) := by decide +kernel
theorem dX7_would_34 : decode cX7_would 34 = .ok (.iastore, 1) := by decide +kernel
theorem dX7_would_35 : decode cX7_would 35 = .ok (.iinc 2 1, 3) := by decide +kernel
theorem dX7_would_38 : decode cX7_would 38 = .ok (.goto (-22), 3) := by decide +kernel
theorem dX7_would_41 : decode cX7_would 41 = .ok (.aload_n 0, 1) := by decide +kernel
theorem dX7_would_42 : decode cX7_would 42 = .ok (.getfield 36, 3) := by decide +kernel
theorem dX7_would_45 : decode cX7_would 45 = .ok (.iconst 0, 1) := by decide +kernel
theorem dX7_would_46 : decode cX7_would 46 = .ok (.aload_n 0, 1) := by decide +kernel
theorem dX7_would_47 : decode cX7_would 47 = .ok (.getfield 13, 3) := by decide +kernel
theorem dX7_would_50 : decode cX7_would 50 = .ok (.iconst 0, 1) := by decide +kernel
theorem dX7_would_51 : decode cX7_would 51 = .ok (.faload, 1) := by decide +kernel
theorem dX7_would_52 : decode cX7_would 52 = .ok (.fastore, 1) := by decide +kernel
theorem dX7_would_53 : decode cX7_would 53 = .ok (.aload_n 0, 1) := by decide +kernel
theorem dX7_would_54 : decode cX7_would 54 = .ok (.getfield 36, 3) := by decide +kernel
theorem dX7_would_57 : decode cX7_would 57 = .ok (.iconst 1, 1) := by decide +kernel
theorem dX7_would_58 : decode cX7_would 58 = .ok (.aload_n 0, 1) := by decide +kernel
theorem dX7_would_59 : decode cX7_would 59 = .ok (.getfield 13, 3) := by decide +kernel
theorem dX7_would_62 : decode cX7_would 62 = .ok (.iconst 1, 1) := by decide +kernel
theorem dX7_would_63 : decode cX7_would 63 = .ok (.faload, 1) := by decide +kernel
theorem dX7_would_64 : decode cX7_would 64 = .ok (.fastore, 1) := by decide +kernel
theorem dX7_would_65 : decode cX7_would 65 = .ok (.aload_n 0, 1) := by decide +kernel
theorem dX7_would_66 : decode cX7_would 66 = .ok (.iload_n 1, 1) := by decide +kernel
theorem dX7_would_67 : decode cX7_would 67 = .ok (.invokevirtual 222, 3) := by decide +kernel
theorem dX7_would_70 : decode cX7_would 70 = .ok (.istore_n 2, 1) := by decide +kernel
theorem dX7_would_71 : decode cX7_would 71 = .ok (.iconst 0, 1) := by decide +kernel
theorem dX7_would_72 : decode cX7_would 72 = .ok (.istore_n 3, 1) := by decide +kernel
theorem dX7_would_73 : decode cX7_would 73 = .ok (.iload_n 3, 1) := by decide +kernel
theorem dX7_would_74 : decode cX7_would 74 = .ok (.sipush 296, 3) := by decide +kernel
theorem dX7_would_77 : decode cX7_would 77 = .ok (.if_icmp .ge 21, 3) := by decide +kernel
theorem dX7_would_80 : decode cX7_would 80 = .ok (.aload_n 0, 1) := by decide +kernel
theorem dX7_would_81 : decode cX7_would 81 = .ok (.getfield 7, 3) := by decide +kernel
theorem dX7_would_84 : decode cX7_would 84 = .ok (.iload_n 3, 1) := by decide +kernel
theorem dX7_would_85 : decode cX7_would 85 = .ok (.aload_n 0, 1) := by decide +kernel
theorem dX7_would_86 : decode cX7_would 86 = .ok (.getfield 33, 3) := by decide +kernel
theorem dX7_would_89 : decode cX7_would 89 = .ok (.iload_n 3, 1) := by decide +kernel
theorem dX7_would_90 : decode cX7_would 90 = .ok (.iaload, 1) := by decide +kernel
theorem dX7_would_91 : decode cX7_would 91 = .ok (.iastore, 1) := by decide +kernel
theorem dX7_would_92 : decode cX7_would 92 = .ok (.iinc 3 1, 3) := by decide +kernel
theorem dX7_would_95 : decode cX7_would 95 = .ok (.goto (-22), 3) := by decide +kernel
theorem dX7_would_98 : decode cX7_would 98 = .ok (.aload_n 0, 1) := by decide +kernel
theorem dX7_would_99 : decode cX7_would 99 = .ok (.getfield 13, 3) := by decide +kernel
theorem dX7_would_102 : decode cX7_would 102 = .ok (.iconst 0, 1) := by decide +kernel
theorem dX7_would_103 : decode cX7_would 103 = .ok (.aload_n 0, 1) := by decide +kernel
theorem dX7_would_104 : decode cX7_would 104 = .ok (.getfield 36, 3) := by decide +kernel
theorem dX7_would_107 : decode cX7_would 107 = .ok (.iconst 0, 1) := by decide +kernel
theorem dX7_would_108 : decode cX7_would 108 = .ok (.faload, 1) := by decide +kernel
theorem dX7_would_109 : decode cX7_would 109 = .ok (.fastore, 1) := by decide +kernel
theorem dX7_would_110 : decode cX7_would 110 = .ok (.aload_n 0, 1) := by decide +kernel
theorem dX7_would_111 : decode cX7_would 111 = .ok (.getfield 13, 3) := by decide +kernel
theorem dX7_would_114 : decode cX7_would 114 = .ok (.iconst 1, 1) := by decide +kernel
theorem dX7_would_115 : decode cX7_would 115 = .ok (.aload_n 0, 1) := by decide +kernel
theorem dX7_would_116 : decode cX7_would 116 = .ok (.getfield 36, 3) := by decide +kernel
theorem dX7_would_119 : decode cX7_would 119 = .ok (.iconst 1, 1) := by decide +kernel
theorem dX7_would_120 : decode cX7_would 120 = .ok (.faload, 1) := by decide +kernel
theorem dX7_would_121 : decode cX7_would 121 = .ok (.fastore, 1) := by decide +kernel
theorem dX7_would_122 : decode cX7_would 122 = .ok (.iload_n 2, 1) := by decide +kernel
theorem dX7_would_123 : decode cX7_would 123 = .ok (.ireturn, 1) := by decide +kernel
theorem dX7_reaches_0 : decode cX7_reaches 0 = .ok (.iload_n 1, 1) := by decide +kernel
theorem dX7_reaches_1 : decode cX7_reaches 1 = .ok (.bipush (-5), 2) := by decide +kernel
theorem dX7_reaches_3 : decode cX7_reaches 3 = .ok (.if_icmp .eq 19, 3) := by decide +kernel
theorem dX7_reaches_6 : decode cX7_reaches 6 = .ok (.aload_n 0, 1) := by decide +kernel
theorem dX7_reaches_7 : decode cX7_reaches 7 = .ok (.getfield 48, 3) := by decide +kernel
theorem dX7_reaches_10 : decode cX7_reaches 10 = .ok (.iload_n 1, 1) := by decide +kernel
theorem dX7_reaches_11 : decode cX7_reaches 11 = .ok (.iaload, 1) := by decide +kernel
theorem dX7_reaches_12 : decode cX7_reaches 12 = .ok (.ifCond .ne 10, 3) := by decide +kernel
theorem dX7_reaches_15 : decode cX7_reaches 15 = .ok (.aload_n 0, 1) := by decide +kernel
theorem dX7_reaches_16 : decode cX7_reaches 16 = .ok (.getfield 48, 3) := by decide +kernel
theorem dX7_reaches_19 : decode cX7_reaches 19 = .ok (.iload_n 1, 1) := by decide +kernel
theorem dX7_reaches_20 : decode cX7_reaches 20 = .ok (.iload_n 2, 1) := by decide +kernel
theorem dX7_reaches_21 : decode cX7_reaches 21 = .ok (.iastore, 1) := by decide +kernel
theorem dX7_reaches_22 : decode cX7_reaches 22 = .ok (.return_, 1) := by decide +kernel
set_option maxRecDepth 20000 in
theorem ggX7_laysFar_X7_reaches : GoodIn wsX7_laysFar wsX7_reaches := goodIn_r _ [7, 1, 12, 13, 14, 15, 16, 17, 18, 19, 20, 21, 22, 23, 24, 25, 26, 27, 28, 29, 30, 31, 32, 33, 34, 35, 36, 37] (by decide +kernel) (by decide +kernel)
set_option maxRecDepth 20000 in
theorem gX7_laysFar_X7_reaches : GoodIn wsX7_laysFar (wsV RX7 229 RX7 yX7_reaches wsX7_reaches) := goodIn_app (goodIn_of _ (by decide +kernel)) ggX7_laysFar_X7_reaches
set_option maxRecDepth 20000 in
theorem ggX7_laysFar_X7_ofThing : GoodIn wsX7_laysFar wsX7_ofThing := goodIn_r _ [11, 2, 12, 13, 14, 15, 16, 17, 18, 19, 20, 21, 22, 23, 24, 25, 26, 27, 28, 29, 30, 31, 32, 33, 34, 35, 36, 37] (by decide +kernel) (by decide +kernel)
set_option maxRecDepth 20000 in
theorem gX7_laysFar_X7_ofThing : GoodIn wsX7_laysFar (wsV RX7 63 RX7 yX7_ofThing wsX7_ofThing) := goodIn_app (goodIn_of _ (by decide +kernel)) ggX7_laysFar_X7_ofThing
theorem dX7_laysFar_0 : decode cX7_laysFar 0 = .ok (.iconst 0, 1) := by decide +kernel
theorem dX7_laysFar_1 : decode cX7_laysFar 1 = .ok (.istore_n 1, 1) := by decide +kernel
theorem dX7_laysFar_2 : decode cX7_laysFar 2 = .ok (.iload_n 1, 1) := by decide +kernel
theorem dX7_laysFar_3 : decode cX7_laysFar 3 = .ok (.bipush 32, 2) := by decide +kernel
theorem dX7_laysFar_5 : decode cX7_laysFar 5 = .ok (.if_icmp .ge 16, 3) := by decide +kernel
theorem dX7_laysFar_8 : decode cX7_laysFar 8 = .ok (.aload_n 0, 1) := by decide +kernel
theorem dX7_laysFar_9 : decode cX7_laysFar 9 = .ok (.getfield 48, 3) := by decide +kernel
theorem dX7_laysFar_12 : decode cX7_laysFar 12 = .ok (.iload_n 1, 1) := by decide +kernel
theorem dX7_laysFar_13 : decode cX7_laysFar 13 = .ok (.iconst 0, 1) := by decide +kernel
theorem dX7_laysFar_14 : decode cX7_laysFar 14 = .ok (.iastore, 1) := by decide +kernel
theorem dX7_laysFar_15 : decode cX7_laysFar 15 = .ok (.iinc 1 1, 3) := by decide +kernel
theorem dX7_laysFar_18 : decode cX7_laysFar 18 = .ok (.goto (-16), 3) := by decide +kernel
theorem dX7_laysFar_21 : decode cX7_laysFar 21 = .ok (.iconst 0, 1) := by decide +kernel
theorem dX7_laysFar_22 : decode cX7_laysFar 22 = .ok (.istore_n 1, 1) := by decide +kernel
theorem dX7_laysFar_23 : decode cX7_laysFar 23 = .ok (.iload_n 1, 1) := by decide +kernel
theorem dX7_laysFar_24 : decode cX7_laysFar 24 = .ok (.bipush 6, 2) := by decide +kernel
theorem dX7_laysFar_26 : decode cX7_laysFar 26 = .ok (.if_icmp .ge 24, 3) := by decide +kernel
theorem dX7_laysFar_29 : decode cX7_laysFar 29 = .ok (.aload_n 0, 1) := by decide +kernel
theorem dX7_laysFar_30 : decode cX7_laysFar 30 = .ok (.aload_n 0, 1) := by decide +kernel
theorem dX7_laysFar_31 : decode cX7_laysFar 31 = .ok (.getfield 7, 3) := by decide +kernel
theorem dX7_laysFar_34 : decode cX7_laysFar 34 = .ok (.sipush 192, 3) := by decide +kernel
theorem dX7_laysFar_37 : decode cX7_laysFar 37 = .ok (.iload_n 1, 1) := by decide +kernel
theorem dX7_laysFar_38 : decode cX7_laysFar 38 = .ok (.iadd, 1) := by decide +kernel
theorem dX7_laysFar_39 : decode cX7_laysFar 39 = .ok (.iaload, 1) := by decide +kernel
theorem dX7_laysFar_40 : decode cX7_laysFar 40 = .ok (.iconst 1, 1) := by decide +kernel
theorem dX7_laysFar_41 : decode cX7_laysFar 41 = .ok (.invokevirtual 229, 3) := by decide +kernel
theorem dX7_laysFar_44 : decode cX7_laysFar 44 = .ok (.iinc 1 1, 3) := by decide +kernel
theorem dX7_laysFar_47 : decode cX7_laysFar 47 = .ok (.goto (-24), 3) := by decide +kernel
theorem dX7_laysFar_50 : decode cX7_laysFar 50 = .ok (.iconst 1, 1) := by decide +kernel
theorem dX7_laysFar_51 : decode cX7_laysFar 51 = .ok (.istore_n 1, 1) := by decide +kernel
theorem dX7_laysFar_52 : decode cX7_laysFar 52 = .ok (.iload_n 1, 1) := by decide +kernel
theorem dX7_laysFar_53 : decode cX7_laysFar 53 = .ok (.bipush 32, 2) := by decide +kernel
theorem dX7_laysFar_55 : decode cX7_laysFar 55 = .ok (.if_icmp .gt 59, 3) := by decide +kernel
theorem dX7_laysFar_58 : decode cX7_laysFar 58 = .ok (.iconst 0, 1) := by decide +kernel
theorem dX7_laysFar_59 : decode cX7_laysFar 59 = .ok (.istore_n 2, 1) := by decide +kernel
theorem dX7_laysFar_60 : decode cX7_laysFar 60 = .ok (.iload_n 2, 1) := by decide +kernel
theorem dX7_laysFar_61 : decode cX7_laysFar 61 = .ok (.bipush 32, 2) := by decide +kernel
theorem dX7_laysFar_63 : decode cX7_laysFar 63 = .ok (.if_icmp .ge 45, 3) := by decide +kernel
theorem dX7_laysFar_66 : decode cX7_laysFar 66 = .ok (.aload_n 0, 1) := by decide +kernel
theorem dX7_laysFar_67 : decode cX7_laysFar 67 = .ok (.getfield 48, 3) := by decide +kernel
theorem dX7_laysFar_70 : decode cX7_laysFar 70 = .ok (.iload_n 2, 1) := by decide +kernel
theorem dX7_laysFar_71 : decode cX7_laysFar 71 = .ok (.iaload, 1) := by decide +kernel
theorem dX7_laysFar_72 : decode cX7_laysFar 72 = .ok (.iload_n 1, 1) := by decide +kernel
theorem dX7_laysFar_73 : decode cX7_laysFar 73 = .ok (.if_icmp .ne 29, 3) := by decide +kernel
theorem dX7_laysFar_76 : decode cX7_laysFar 76 = .ok (.aload_n 0, 1) := by decide +kernel
theorem dX7_laysFar_77 : decode cX7_laysFar 77 = .ok (.aload_n 0, 1) := by decide +kernel
theorem dX7_laysFar_78 : decode cX7_laysFar 78 = .ok (.iload_n 2, 1) := by decide +kernel
theorem dX7_laysFar_79 : decode cX7_laysFar 79 = .ok (.iconst 3, 1) := by decide +kernel
theorem dX7_laysFar_80 : decode cX7_laysFar 80 = .ok (.invokevirtual 63, 3) := by decide +kernel
theorem dX7_laysFar_83 : decode cX7_laysFar 83 = .ok (.iload_n 1, 1) := by decide +kernel
theorem dX7_laysFar_84 : decode cX7_laysFar 84 = .ok (.iconst 1, 1) := by decide +kernel
theorem dX7_laysFar_85 : decode cX7_laysFar 85 = .ok (.iadd, 1) := by decide +kernel
theorem dX7_laysFar_86 : decode cX7_laysFar 86 = .ok (.invokevirtual 229, 3) := by decide +kernel
theorem dX7_laysFar_89 : decode cX7_laysFar 89 = .ok (.aload_n 0, 1) := by decide +kernel
theorem dX7_laysFar_90 : decode cX7_laysFar 90 = .ok (.aload_n 0, 1) := by decide +kernel
theorem dX7_laysFar_91 : decode cX7_laysFar 91 = .ok (.iload_n 2, 1) := by decide +kernel
theorem dX7_laysFar_92 : decode cX7_laysFar 92 = .ok (.iconst 4, 1) := by decide +kernel
theorem dX7_laysFar_93 : decode cX7_laysFar 93 = .ok (.invokevirtual 63, 3) := by decide +kernel
theorem dX7_laysFar_96 : decode cX7_laysFar 96 = .ok (.iload_n 1, 1) := by decide +kernel
theorem dX7_laysFar_97 : decode cX7_laysFar 97 = .ok (.iconst 1, 1) := by decide +kernel
theorem dX7_laysFar_98 : decode cX7_laysFar 98 = .ok (.iadd, 1) := by decide +kernel
theorem dX7_laysFar_99 : decode cX7_laysFar 99 = .ok (.invokevirtual 229, 3) := by decide +kernel
theorem dX7_laysFar_102 : decode cX7_laysFar 102 = .ok (.iinc 2 1, 3) := by decide +kernel
theorem dX7_laysFar_105 : decode cX7_laysFar 105 = .ok (.goto (-45), 3) := by decide +kernel
theorem dX7_laysFar_108 : decode cX7_laysFar 108 = .ok (.iinc 1 1, 3) := by decide +kernel
theorem dX7_laysFar_111 : decode cX7_laysFar 111 = .ok (.goto (-59), 3) := by decide +kernel
theorem dX7_laysFar_114 : decode cX7_laysFar 114 = .ok (.return_, 1) := by decide +kernel
set_option maxRecDepth 20000 in
theorem ggX7_rubbish_X7_in : GoodIn wsX7_rubbish wsX7_in := goodIn_r _ [6] (by decide +kernel) (by decide +kernel)
set_option maxRecDepth 20000 in
theorem gX7_rubbish_X7_in : GoodIn wsX7_rubbish (va_wsS RX7 59 yX7_in wsX7_in) := goodIn_app (goodIn_of _ (by decide +kernel)) ggX7_rubbish_X7_in
set_option maxRecDepth 20000 in
theorem ggX7_rubbish_X7_laysFar : GoodIn wsX7_rubbish wsX7_laysFar := goodIn_r _ [10, 2, 11, 12, 13, 14, 5, 15, 16, 17, 18, 19, 24, 25, 26, 27, 28, 29, 30, 31, 32, 33, 34, 35, 36, 37, 38, 39, 40, 41, 42, 43, 44, 45, 46, 47, 48, 49] (by decide +kernel) (by decide +kernel)
set_option maxRecDepth 20000 in
theorem gX7_rubbish_X7_laysFar : GoodIn wsX7_rubbish (wsV RX7 232 RX7 yX7_laysFar wsX7_laysFar) := goodIn_app (goodIn_of _ (by decide +kernel)) ggX7_rubbish_X7_laysFar
set_option maxRecDepth 20000 in
theorem ggX7_rubbish_X7_isThing : GoodIn wsX7_rubbish wsX7_isThing := goodIn_r _ [23, 11, 3, 4, 5, 6, 24, 25, 26, 27, 28, 29, 30, 31, 32, 33, 34, 35, 36, 37, 38, 39, 40, 41, 42, 43, 44, 45, 46, 47, 48, 49] (by decide +kernel) (by decide +kernel)
set_option maxRecDepth 20000 in
theorem gX7_rubbish_X7_isThing : GoodIn wsX7_rubbish (wsV RX7 81 RX7 yX7_isThing wsX7_isThing) := goodIn_app (goodIn_of _ (by decide +kernel)) ggX7_rubbish_X7_isThing
set_option maxRecDepth 20000 in
theorem ggX7_rubbish_X7_ofThing : GoodIn wsX7_rubbish wsX7_ofThing := goodIn_r _ [19, 11, 24, 25, 26, 27, 28, 29, 30, 31, 32, 33, 34, 35, 36, 37, 38, 39, 40, 41, 42, 43, 44, 45, 46, 47, 48, 49] (by decide +kernel) (by decide +kernel)
set_option maxRecDepth 20000 in
theorem gX7_rubbish_X7_ofThing : GoodIn wsX7_rubbish (wsV RX7 63 RX7 yX7_ofThing wsX7_ofThing) := goodIn_app (goodIn_of _ (by decide +kernel)) ggX7_rubbish_X7_ofThing
theorem dX7_rubbish_0 : decode cX7_rubbish 0 = .ok (.aload_n 0, 1) := by decide +kernel
theorem dX7_rubbish_1 : decode cX7_rubbish 1 = .ok (.iconst 0, 1) := by decide +kernel
theorem dX7_rubbish_2 : decode cX7_rubbish 2 = .ok (.putfield 55, 3) := by decide +kernel
theorem dX7_rubbish_5 : decode cX7_rubbish 5 = .ok (.iload_n 1, 1) := by decide +kernel
theorem dX7_rubbish_6 : decode cX7_rubbish 6 = .ok (.iconst 0, 1) := by decide +kernel
theorem dX7_rubbish_7 : decode cX7_rubbish 7 = .ok (.iconst 1, 1) := by decide +kernel
theorem dX7_rubbish_8 : decode cX7_rubbish 8 = .ok (.invokestatic 59, 3) := by decide +kernel
theorem dX7_rubbish_11 : decode cX7_rubbish 11 = .ok (.ifCond .ne 5, 3) := by decide +kernel
theorem dX7_rubbish_14 : decode cX7_rubbish 14 = .ok (.iconst (-1), 1) := by decide +kernel
theorem dX7_rubbish_15 : decode cX7_rubbish 15 = .ok (.ireturn, 1) := by decide +kernel
theorem dX7_rubbish_16 : decode cX7_rubbish 16 = .ok (.aload_n 0, 1) := by decide +kernel
theorem dX7_rubbish_17 : decode cX7_rubbish 17 = .ok (.invokevirtual 232, 3) := by decide +kernel
theorem dX7_rubbish_20 : decode cX7_rubbish 20 = .ok (.iconst 0, 1) := by decide +kernel
theorem dX7_rubbish_21 : decode cX7_rubbish 21 = .ok (.istore_n 2, 1) := by decide +kernel
theorem dX7_rubbish_22 : decode cX7_rubbish 22 = .ok (.iconst 0, 1) := by decide +kernel
theorem dX7_rubbish_23 : decode cX7_rubbish 23 = .ok (.istore_n 3, 1) := by decide +kernel
theorem dX7_rubbish_24 : decode cX7_rubbish 24 = .ok (.iload_n 3, 1) := by decide +kernel
theorem dX7_rubbish_25 : decode cX7_rubbish 25 = .ok (.bipush 32, 2) := by decide +kernel
theorem dX7_rubbish_27 : decode cX7_rubbish 27 = .ok (.if_icmp .ge 43, 3) := by decide +kernel
theorem dX7_rubbish_30 : decode cX7_rubbish 30 = .ok (.aload_n 0, 1) := by decide +kernel
theorem dX7_rubbish_31 : decode cX7_rubbish 31 = .ok (.iload_n 3, 1) := by decide +kernel
theorem dX7_rubbish_32 : decode cX7_rubbish 32 = .ok (.invokevirtual 81, 3) := by decide +kernel
theorem dX7_rubbish_35 : decode cX7_rubbish 35 = .ok (.ifCond .eq 29, 3) := by decide +kernel
theorem dX7_rubbish_38 : decode cX7_rubbish 38 = .ok (.aload_n 0, 1) := by decide +kernel
theorem dX7_rubbish_39 : decode cX7_rubbish 39 = .ok (.getfield 48, 3) := by decide +kernel
theorem dX7_rubbish_42 : decode cX7_rubbish 42 = .ok (.iload_n 3, 1) := by decide +kernel
theorem dX7_rubbish_43 : decode cX7_rubbish 43 = .ok (.iaload, 1) := by decide +kernel
theorem dX7_rubbish_44 : decode cX7_rubbish 44 = .ok (.ifCond .ne 20, 3) := by decide +kernel
theorem dX7_rubbish_47 : decode cX7_rubbish 47 = .ok (.iload_n 2, 1) := by decide +kernel
theorem dX7_rubbish_48 : decode cX7_rubbish 48 = .ok (.iload_n 1, 1) := by decide +kernel
theorem dX7_rubbish_49 : decode cX7_rubbish 49 = .ok (.ifCond .ne 7, 3) := by decide +kernel
theorem dX7_rubbish_52 : decode cX7_rubbish 52 = .ok (.iconst 1, 1) := by decide +kernel
theorem dX7_rubbish_53 : decode cX7_rubbish 53 = .ok (.goto 9, 3) := by decide +kernel
theorem dX7_rubbish_56 : decode cX7_rubbish 56 = .ok (.aload_n 0, 1) := by decide +kernel
theorem dX7_rubbish_57 : decode cX7_rubbish 57 = .ok (.iload_n 3, 1) := by decide +kernel
theorem dX7_rubbish_58 : decode cX7_rubbish 58 = .ok (.iconst 0, 1) := by decide +kernel
theorem dX7_rubbish_59 : decode cX7_rubbish 59 = .ok (.invokevirtual 63, 3) := by decide +kernel
theorem dX7_rubbish_62 : decode cX7_rubbish 62 = .ok (.iadd, 1) := by decide +kernel
theorem dX7_rubbish_63 : decode cX7_rubbish 63 = .ok (.istore_n 2, 1) := by decide +kernel
theorem dX7_rubbish_64 : decode cX7_rubbish 64 = .ok (.iinc 3 1, 3) := by decide +kernel
theorem dX7_rubbish_67 : decode cX7_rubbish 67 = .ok (.goto (-43), 3) := by decide +kernel
theorem dX7_rubbish_70 : decode cX7_rubbish 70 = .ok (.iload_n 2, 1) := by decide +kernel
theorem dX7_rubbish_71 : decode cX7_rubbish 71 = .ok (.ireturn, 1) := by decide +kernel
set_option maxRecDepth 20000 in
theorem ggX7_isFieldOf_X7_ofThing : GoodIn wsX7_isFieldOf wsX7_ofThing := goodIn_r _ [5, 6, 7, 8, 9, 10, 11, 12, 13, 14, 15, 16, 17, 18, 19, 20, 21, 22, 23, 24, 25, 26, 27, 28, 29, 30, 31, 32] (by decide +kernel) (by decide +kernel)
set_option maxRecDepth 20000 in
theorem gX7_isFieldOf_X7_ofThing : GoodIn wsX7_isFieldOf (wsV RX7 63 RX7 yX7_ofThing wsX7_ofThing) := goodIn_app (goodIn_of _ (by decide +kernel)) ggX7_isFieldOf_X7_ofThing
theorem dX7_isFieldOf_0 : decode cX7_isFieldOf 0 = .ok (.aload_n 0, 1) := by decide +kernel
theorem dX7_isFieldOf_1 : decode cX7_isFieldOf 1 = .ok (.iload_n 1, 1) := by decide +kernel
theorem dX7_isFieldOf_2 : decode cX7_isFieldOf 2 = .ok (.iconst 3, 1) := by decide +kernel
theorem dX7_isFieldOf_3 : decode cX7_isFieldOf 3 = .ok (.invokevirtual 63, 3) := by decide +kernel
theorem dX7_isFieldOf_6 : decode cX7_isFieldOf 6 = .ok (.iload_n 2, 1) := by decide +kernel
theorem dX7_isFieldOf_7 : decode cX7_isFieldOf 7 = .ok (.if_icmp .eq 13, 3) := by decide +kernel
theorem dX7_isFieldOf_10 : decode cX7_isFieldOf 10 = .ok (.aload_n 0, 1) := by decide +kernel
theorem dX7_isFieldOf_11 : decode cX7_isFieldOf 11 = .ok (.iload_n 1, 1) := by decide +kernel
theorem dX7_isFieldOf_12 : decode cX7_isFieldOf 12 = .ok (.iconst 4, 1) := by decide +kernel
theorem dX7_isFieldOf_13 : decode cX7_isFieldOf 13 = .ok (.invokevirtual 63, 3) := by decide +kernel
theorem dX7_isFieldOf_16 : decode cX7_isFieldOf 16 = .ok (.iload_n 2, 1) := by decide +kernel
theorem dX7_isFieldOf_17 : decode cX7_isFieldOf 17 = .ok (.if_icmp .ne 7, 3) := by decide +kernel
theorem dX7_isFieldOf_20 : decode cX7_isFieldOf 20 = .ok (.iconst 1, 1) := by decide +kernel
theorem dX7_isFieldOf_21 : decode cX7_isFieldOf 21 = .ok (.goto 4, 3) := by decide +kernel
theorem dX7_isFieldOf_24 : decode cX7_isFieldOf 24 = .ok (.iconst 0, 1) := by decide +kernel
theorem dX7_isFieldOf_25 : decode cX7_isFieldOf 25 = .ok (.ireturn, 1) := by decide +kernel
set_option maxRecDepth 20000 in
theorem ggX7_laysLeads_X7_isFieldOf : GoodIn wsX7_laysLeads wsX7_isFieldOf := goodIn_r _ [7, 8, 9, 10, 6, 11, 12, 13, 14, 15, 16, 17, 18, 19, 20, 21, 22, 23, 24, 25, 26, 27, 28, 29, 30, 31, 32, 33, 34, 35, 36, 37, 38] (by decide +kernel) (by decide +kernel)
set_option maxRecDepth 20000 in
theorem gX7_laysLeads_X7_isFieldOf : GoodIn wsX7_laysLeads (wsV RX7 235 RX7 yX7_isFieldOf wsX7_isFieldOf) := goodIn_app (goodIn_of _ (by decide +kernel)) ggX7_laysLeads_X7_isFieldOf
theorem dX7_laysLeads_0 : decode cX7_laysLeads 0 = .ok (.iconst 0, 1) := by decide +kernel
theorem dX7_laysLeads_1 : decode cX7_laysLeads 1 = .ok (.istore_n 2, 1) := by decide +kernel
theorem dX7_laysLeads_2 : decode cX7_laysLeads 2 = .ok (.iload_n 2, 1) := by decide +kernel
theorem dX7_laysLeads_3 : decode cX7_laysLeads 3 = .ok (.bipush 32, 2) := by decide +kernel
theorem dX7_laysLeads_5 : decode cX7_laysLeads 5 = .ok (.if_icmp .ge 25, 3) := by decide +kernel
theorem dX7_laysLeads_8 : decode cX7_laysLeads 8 = .ok (.aload_n 0, 1) := by decide +kernel
theorem dX7_laysLeads_9 : decode cX7_laysLeads 9 = .ok (.getfield 51, 3) := by decide +kernel
theorem dX7_laysLeads_12 : decode cX7_laysLeads 12 = .ok (.iload_n 2, 1) := by decide +kernel
theorem dX7_laysLeads_13 : decode cX7_laysLeads 13 = .ok (.iload_n 2, 1) := by decide +kernel
theorem dX7_laysLeads_14 : decode cX7_laysLeads 14 = .ok (.iload_n 1, 1) := by decide +kernel
theorem dX7_laysLeads_15 : decode cX7_laysLeads 15 = .ok (.if_icmp .ne 7, 3) := by decide +kernel
theorem dX7_laysLeads_18 : decode cX7_laysLeads 18 = .ok (.iconst 1, 1) := by decide +kernel
theorem dX7_laysLeads_19 : decode cX7_laysLeads 19 = .ok (.goto 4, 3) := by decide +kernel
theorem dX7_laysLeads_22 : decode cX7_laysLeads 22 = .ok (.iconst 0, 1) := by decide +kernel
theorem dX7_laysLeads_23 : decode cX7_laysLeads 23 = .ok (.bastore, 1) := by decide +kernel
theorem dX7_laysLeads_24 : decode cX7_laysLeads 24 = .ok (.iinc 2 1, 3) := by decide +kernel
theorem dX7_laysLeads_27 : decode cX7_laysLeads 27 = .ok (.goto (-25), 3) := by decide +kernel
theorem dX7_laysLeads_30 : decode cX7_laysLeads 30 = .ok (.aload_n 0, 1) := by decide +kernel
theorem dX7_laysLeads_31 : decode cX7_laysLeads 31 = .ok (.getfield 48, 3) := by decide +kernel
theorem dX7_laysLeads_34 : decode cX7_laysLeads 34 = .ok (.iload_n 1, 1) := by decide +kernel
theorem dX7_laysLeads_35 : decode cX7_laysLeads 35 = .ok (.iaload, 1) := by decide +kernel
theorem dX7_laysLeads_36 : decode cX7_laysLeads 36 = .ok (.iconst 1, 1) := by decide +kernel
theorem dX7_laysLeads_37 : decode cX7_laysLeads 37 = .ok (.isub, 1) := by decide +kernel
theorem dX7_laysLeads_38 : decode cX7_laysLeads 38 = .ok (.istore_n 2, 1) := by decide +kernel
theorem dX7_laysLeads_39 : decode cX7_laysLeads 39 = .ok (.iload_n 2, 1) := by decide +kernel
theorem dX7_laysLeads_40 : decode cX7_laysLeads 40 = .ok (.ifCond .le 102, 3) := by decide +kernel
theorem dX7_laysLeads_43 : decode cX7_laysLeads 43 = .ok (.iconst 0, 1) := by decide +kernel
theorem dX7_laysLeads_44 : decode cX7_laysLeads 44 = .ok (.istore_n 3, 1) := by decide +kernel
theorem dX7_laysLeads_45 : decode cX7_laysLeads 45 = .ok (.iload_n 3, 1) := by decide +kernel
theorem dX7_laysLeads_46 : decode cX7_laysLeads 46 = .ok (.bipush 32, 2) := by decide +kernel
theorem dX7_laysLeads_48 : decode cX7_laysLeads 48 = .ok (.if_icmp .ge 88, 3) := by decide +kernel
theorem dX7_laysLeads_51 : decode cX7_laysLeads 51 = .ok (.iconst 0, 1) := by decide +kernel
theorem dX7_laysLeads_52 : decode cX7_laysLeads 52 = .ok (.istore 4, 2) := by decide +kernel
theorem dX7_laysLeads_54 : decode cX7_laysLeads 54 = .ok (.iload 4, 2) := by decide +kernel
theorem dX7_laysLeads_56 : decode cX7_laysLeads 56 = .ok (.bipush 32, 2) := by decide +kernel
theorem dX7_laysLeads_58 : decode cX7_laysLeads 58 = .ok (.if_icmp .ge 72, 3) := by decide +kernel
theorem dX7_laysLeads_61 : decode cX7_laysLeads 61 = .ok (.aload_n 0, 1) := by decide +kernel
theorem dX7_laysLeads_62 : decode cX7_laysLeads 62 = .ok (.getfield 48, 3) := by decide +kernel
theorem dX7_laysLeads_65 : decode cX7_laysLeads 65 = .ok (.iload_n 3, 1) := by decide +kernel
theorem dX7_laysLeads_66 : decode cX7_laysLeads 66 = .ok (.iaload, 1) := by decide +kernel
theorem dX7_laysLeads_67 : decode cX7_laysLeads 67 = .ok (.iload_n 2, 1) := by decide +kernel
theorem dX7_laysLeads_68 : decode cX7_laysLeads 68 = .ok (.if_icmp .ne 62, 3) := by decide +kernel
theorem dX7_laysLeads_71 : decode cX7_laysLeads 71 = .ok (.aload_n 0, 1) := by decide +kernel
theorem dX7_laysLeads_72 : decode cX7_laysLeads 72 = .ok (.getfield 51, 3) := by decide +kernel
theorem dX7_laysLeads_75 : decode cX7_laysLeads 75 = .ok (.iload_n 3, 1) := by decide +kernel
theorem dX7_laysLeads_76 : decode cX7_laysLeads 76 = .ok (.aload_n 0, 1) := by decide +kernel
theorem dX7_laysLeads_77 : decode cX7_laysLeads 77 = .ok (.getfield 51, 3) := by decide +kernel
theorem dX7_laysLeads_80 : decode cX7_laysLeads 80 = .ok (.iload_n 3, 1) := by decide +kernel
theorem dX7_laysLeads_81 : decode cX7_laysLeads 81 = .ok (.baload, 1) := by decide +kernel
theorem dX7_laysLeads_82 : decode cX7_laysLeads 82 = .ok (.ifCond .ne 36, 3) := by decide +kernel
theorem dX7_laysLeads_85 : decode cX7_laysLeads 85 = .ok (.aload_n 0, 1) := by decide +kernel
theorem dX7_laysLeads_86 : decode cX7_laysLeads 86 = .ok (.getfield 51, 3) := by decide +kernel
theorem dX7_laysLeads_89 : decode cX7_laysLeads 89 = .ok (.iload 4, 2) := by decide +kernel
theorem dX7_laysLeads_91 : decode cX7_laysLeads 91 = .ok (.baload, 1) := by decide +kernel
theorem dX7_laysLeads_92 : decode cX7_laysLeads 92 = .ok (.ifCond .eq 30, 3) := by decide +kernel
theorem dX7_laysLeads_95 : decode cX7_laysLeads 95 = .ok (.aload_n 0, 1) := by decide +kernel
theorem dX7_laysLeads_96 : decode cX7_laysLeads 96 = .ok (.getfield 48, 3) := by decide +kernel
theorem dX7_laysLeads_99 : decode cX7_laysLeads 99 = .ok (.iload 4, 2) := by decide +kernel
theorem dX7_laysLeads_101 : decode cX7_laysLeads 101 = .ok (.iaload, 1) := by decide +kernel
theorem dX7_laysLeads_102 : decode cX7_laysLeads 102 = .ok (.iload_n 2, 1) := by decide +kernel
theorem dX7_laysLeads_103 : decode cX7_laysLeads 103 = .ok (.iconst 1, 1) := by decide +kernel
theorem dX7_laysLeads_104 : decode cX7_laysLeads 104 = .ok (.iadd, 1) := by decide +kernel
theorem dX7_laysLeads_105 : decode cX7_laysLeads 105 = .ok (.if_icmp .ne 17, 3) := by decide +kernel
theorem dX7_laysLeads_108 : decode cX7_laysLeads 108 = .ok (.aload_n 0, 1) := by decide +kernel
theorem dX7_laysLeads_109 : decode cX7_laysLeads 109 = .ok (.iload_n 3, 1) := by decide +kernel
theorem dX7_laysLeads_110 : decode cX7_laysLeads 110 = .ok (.iload 4, 2) := by decide +kernel
theorem dX7_laysLeads_112 : decode cX7_laysLeads 112 = .ok (.invokevirtual 235, 3) := by decide +kernel
theorem dX7_laysLeads_115 : decode cX7_laysLeads 115 = .ok (.ifCond .eq 7, 3) := by decide +kernel
theorem dX7_laysLeads_118 : decode cX7_laysLeads 118 = .ok (.iconst 1, 1) := by decide +kernel
theorem dX7_laysLeads_119 : decode cX7_laysLeads 119 = .ok (.goto 4, 3) := by decide +kernel
theorem dX7_laysLeads_122 : decode cX7_laysLeads 122 = .ok (.iconst 0, 1) := by decide +kernel
theorem dX7_laysLeads_123 : decode cX7_laysLeads 123 = .ok (.bastore, 1) := by decide +kernel
theorem dX7_laysLeads_124 : decode cX7_laysLeads 124 = .ok (.iinc 4 1, 3) := by decide +kernel
theorem dX7_laysLeads_127 : decode cX7_laysLeads 127 = .ok (.goto (-73), 3) := by decide +kernel
theorem dX7_laysLeads_130 : decode cX7_laysLeads 130 = .ok (.iinc 3 1, 3) := by decide +kernel
theorem dX7_laysLeads_133 : decode cX7_laysLeads 133 = .ok (.goto (-88), 3) := by decide +kernel
theorem dX7_laysLeads_136 : decode cX7_laysLeads 136 = .ok (.iinc 2 (-1), 3) := by decide +kernel
theorem dX7_laysLeads_139 : decode cX7_laysLeads 139 = .ok (.goto (-100), 3) := by decide +kernel
theorem dX7_laysLeads_142 : decode cX7_laysLeads 142 = .ok (.return_, 1) := by decide +kernel
set_option maxRecDepth 20000 in
theorem ggX7_way_X7_isThing : GoodIn wsX7_way wsX7_isThing := goodIn_r _ [8, 9, 10, 11, 7, 12, 33, 34, 35, 36, 37, 38, 39, 40, 41, 42, 43, 44, 45, 46, 47, 48, 49, 50, 51, 52, 53, 54, 55, 56, 57, 58] (by decide +kernel) (by decide +kernel)
set_option maxRecDepth 20000 in
theorem gX7_way_X7_isThing : GoodIn wsX7_way (wsV RX7 81 RX7 yX7_isThing wsX7_isThing) := goodIn_app (goodIn_of _ (by decide +kernel)) ggX7_way_X7_isThing
set_option maxRecDepth 20000 in
theorem ggX7_way_X7_laysFar : GoodIn wsX7_way wsX7_laysFar := goodIn_r _ [16, 2, 9, 17, 18, 19, 7, 20, 21, 22, 23, 24, 33, 34, 35, 36, 37, 38, 39, 40, 41, 42, 43, 44, 45, 46, 47, 48, 49, 50, 51, 52, 53, 54, 55, 56, 57, 58] (by decide +kernel) (by decide +kernel)
set_option maxRecDepth 20000 in
theorem gX7_way_X7_laysFar : GoodIn wsX7_way (wsV RX7 232 RX7 yX7_laysFar wsX7_laysFar) := goodIn_app (goodIn_of _ (by decide +kernel)) ggX7_way_X7_laysFar
set_option maxRecDepth 20000 in
theorem ggX7_way_X7_laysLeads : GoodIn wsX7_way wsX7_laysLeads := goodIn_r _ [28, 3, 2, 29, 30, 31, 7, 32, 21, 22, 23, 24, 9, 33, 34, 35, 36, 37, 38, 39, 40, 41, 42, 43, 44, 45, 46, 47, 48, 49, 50, 51, 52, 53, 54, 55, 56, 57, 58] (by decide +kernel) (by decide +kernel)
set_option maxRecDepth 20000 in
theorem gX7_way_X7_laysLeads : GoodIn wsX7_way (wsV RX7 239 RX7 yX7_laysLeads wsX7_laysLeads) := goodIn_app (goodIn_of _ (by decide +kernel)) ggX7_way_X7_laysLeads
set_option maxRecDepth 20000 in
theorem ggX7_way_X7_isFieldOf : GoodIn wsX7_way wsX7_isFieldOf := goodIn_r _ [32, 21, 22, 23, 7, 24, 9, 33, 34, 35, 36, 37, 38, 39, 40, 41, 42, 43, 44, 45, 46, 47, 48, 49, 50, 51, 52, 53, 54, 55, 56, 57, 58] (by decide +kernel) (by decide +kernel)
set_option maxRecDepth 20000 in
theorem gX7_way_X7_isFieldOf : GoodIn wsX7_way (wsV RX7 235 RX7 yX7_isFieldOf wsX7_isFieldOf) := goodIn_app (goodIn_of _ (by decide +kernel)) ggX7_way_X7_isFieldOf
theorem dX7_way_0 : decode cX7_way 0 = .ok (.aload_n 0, 1) := by decide +kernel
theorem dX7_way_1 : decode cX7_way 1 = .ok (.iconst 0, 1) := by decide +kernel
theorem dX7_way_2 : decode cX7_way 2 = .ok (.putfield 55, 3) := by decide +kernel
theorem dX7_way_5 : decode cX7_way 5 = .ok (.aload_n 0, 1) := by decide +kernel
theorem dX7_way_6 : decode cX7_way 6 = .ok (.iload_n 1, 1) := by decide +kernel
theorem dX7_way_7 : decode cX7_way 7 = .ok (.invokevirtual 81, 3) := by decide +kernel
theorem dX7_way_10 : decode cX7_way 10 = .ok (.ifCond .eq 8, 3) := by decide +kernel
theorem dX7_way_13 : decode cX7_way 13 = .ok (.iload_n 2, 1) := by decide +kernel
theorem dX7_way_14 : decode cX7_way 14 = .ok (.iconst (-1), 1) := by decide +kernel
theorem dX7_way_15 : decode cX7_way 15 = .ok (.if_icmp .ge 5, 3) := by decide +kernel
theorem dX7_way_18 : decode cX7_way 18 = .ok (.iconst (-1), 1) := by decide +kernel
theorem dX7_way_19 : decode cX7_way 19 = .ok (.ireturn, 1) := by decide +kernel
theorem dX7_way_20 : decode cX7_way 20 = .ok (.aload_n 0, 1) := by decide +kernel
theorem dX7_way_21 : decode cX7_way 21 = .ok (.invokevirtual 232, 3) := by decide +kernel
theorem dX7_way_24 : decode cX7_way 24 = .ok (.aload_n 0, 1) := by decide +kernel
theorem dX7_way_25 : decode cX7_way 25 = .ok (.getfield 48, 3) := by decide +kernel
theorem dX7_way_28 : decode cX7_way 28 = .ok (.iload_n 1, 1) := by decide +kernel
theorem dX7_way_29 : decode cX7_way 29 = .ok (.iaload, 1) := by decide +kernel
theorem dX7_way_30 : decode cX7_way 30 = .ok (.ifCond .eq 13, 3) := by decide +kernel
theorem dX7_way_33 : decode cX7_way 33 = .ok (.iload_n 2, 1) := by decide +kernel
theorem dX7_way_34 : decode cX7_way 34 = .ok (.aload_n 0, 1) := by decide +kernel
theorem dX7_way_35 : decode cX7_way 35 = .ok (.getfield 48, 3) := by decide +kernel
theorem dX7_way_38 : decode cX7_way 38 = .ok (.iload_n 1, 1) := by decide +kernel
theorem dX7_way_39 : decode cX7_way 39 = .ok (.iaload, 1) := by decide +kernel
theorem dX7_way_40 : decode cX7_way 40 = .ok (.if_icmp .lt 6, 3) := by decide +kernel
theorem dX7_way_43 : decode cX7_way 43 = .ok (.bipush (-9), 2) := by decide +kernel
theorem dX7_way_45 : decode cX7_way 45 = .ok (.ireturn, 1) := by decide +kernel
theorem dX7_way_46 : decode cX7_way 46 = .ok (.iload_n 2, 1) := by decide +kernel
theorem dX7_way_47 : decode cX7_way 47 = .ok (.ifCond .ge 10, 3) := by decide +kernel
theorem dX7_way_50 : decode cX7_way 50 = .ok (.aload_n 0, 1) := by decide +kernel
theorem dX7_way_51 : decode cX7_way 51 = .ok (.getfield 48, 3) := by decide +kernel
theorem dX7_way_54 : decode cX7_way 54 = .ok (.iload_n 1, 1) := by decide +kernel
theorem dX7_way_55 : decode cX7_way 55 = .ok (.iaload, 1) := by decide +kernel
theorem dX7_way_56 : decode cX7_way 56 = .ok (.ireturn, 1) := by decide +kernel
theorem dX7_way_57 : decode cX7_way 57 = .ok (.aload_n 0, 1) := by decide +kernel
theorem dX7_way_58 : decode cX7_way 58 = .ok (.iload_n 1, 1) := by decide +kernel
theorem dX7_way_59 : decode cX7_way 59 = .ok (.invokevirtual 239, 3) := by decide +kernel
theorem dX7_way_62 : decode cX7_way 62 = .ok (.bipush (-9), 2) := by decide +kernel
theorem dX7_way_64 : decode cX7_way 64 = .ok (.istore_n 3, 1) := by decide +kernel
theorem dX7_way_65 : decode cX7_way 65 = .ok (.iconst 1, 1) := by decide +kernel
theorem dX7_way_66 : decode cX7_way 66 = .ok (.istore 4, 2) := by decide +kernel
theorem dX7_way_68 : decode cX7_way 68 = .ok (.iload 4, 2) := by decide +kernel
theorem dX7_way_70 : decode cX7_way 70 = .ok (.iload_n 2, 1) := by decide +kernel
theorem dX7_way_71 : decode cX7_way 71 = .ok (.iconst 1, 1) := by decide +kernel
theorem dX7_way_72 : decode cX7_way 72 = .ok (.iadd, 1) := by decide +kernel
theorem dX7_way_73 : decode cX7_way 73 = .ok (.if_icmp .gt 59, 3) := by decide +kernel
theorem dX7_way_76 : decode cX7_way 76 = .ok (.iconst 0, 1) := by decide +kernel
theorem dX7_way_77 : decode cX7_way 77 = .ok (.istore 5, 2) := by decide +kernel
theorem dX7_way_79 : decode cX7_way 79 = .ok (.aload_n 0, 1) := by decide +kernel
theorem dX7_way_80 : decode cX7_way 80 = .ok (.getfield 48, 3) := by decide +kernel
theorem dX7_way_83 : decode cX7_way 83 = .ok (.iload 5, 2) := by decide +kernel
theorem dX7_way_85 : decode cX7_way 85 = .ok (.iaload, 1) := by decide +kernel
theorem dX7_way_86 : decode cX7_way 86 = .ok (.iload 4, 2) := by decide +kernel
theorem dX7_way_88 : decode cX7_way 88 = .ok (.if_icmp .ne 29, 3) := by decide +kernel
theorem dX7_way_91 : decode cX7_way 91 = .ok (.aload_n 0, 1) := by decide +kernel
theorem dX7_way_92 : decode cX7_way 92 = .ok (.getfield 51, 3) := by decide +kernel
theorem dX7_way_95 : decode cX7_way 95 = .ok (.iload 5, 2) := by decide +kernel
theorem dX7_way_97 : decode cX7_way 97 = .ok (.baload, 1) := by decide +kernel
theorem dX7_way_98 : decode cX7_way 98 = .ok (.ifCond .eq 19, 3) := by decide +kernel
theorem dX7_way_101 : decode cX7_way 101 = .ok (.iload 4, 2) := by decide +kernel
theorem dX7_way_103 : decode cX7_way 103 = .ok (.iconst 1, 1) := by decide +kernel
theorem dX7_way_104 : decode cX7_way 104 = .ok (.if_icmp .le 19, 3) := by decide +kernel
theorem dX7_way_107 : decode cX7_way 107 = .ok (.aload_n 0, 1) := by decide +kernel
theorem dX7_way_108 : decode cX7_way 108 = .ok (.iload_n 3, 1) := by decide +kernel
theorem dX7_way_109 : decode cX7_way 109 = .ok (.iload 5, 2) := by decide +kernel
theorem dX7_way_111 : decode cX7_way 111 = .ok (.invokevirtual 235, 3) := by decide +kernel
theorem dX7_way_114 : decode cX7_way 114 = .ok (.ifCond .ne 9, 3) := by decide +kernel
theorem dX7_way_117 : decode cX7_way 117 = .ok (.iinc 5 1, 3) := by decide +kernel
theorem dX7_way_120 : decode cX7_way 120 = .ok (.goto (-41), 3) := by decide +kernel
theorem dX7_way_123 : decode cX7_way 123 = .ok (.iload 5, 2) := by decide +kernel
theorem dX7_way_125 : decode cX7_way 125 = .ok (.istore_n 3, 1) := by decide +kernel
theorem dX7_way_126 : decode cX7_way 126 = .ok (.iinc 4 1, 3) := by decide +kernel
theorem dX7_way_129 : decode cX7_way 129 = .ok (.goto (-61), 3) := by decide +kernel
theorem dX7_way_132 : decode cX7_way 132 = .ok (.iload_n 3, 1) := by decide +kernel
theorem dX7_way_133 : decode cX7_way 133 = .ok (.ireturn, 1) := by decide +kernel
set_option maxRecDepth 20000 in
theorem ggX7_things_X7_isThing : GoodIn wsX7_things wsX7_isThing := goodIn_r _ [5, 6, 7, 8, 4, 9, 10, 11, 12, 13, 14, 15, 16, 17, 18, 19, 20, 21, 22, 23, 24, 25, 26, 27, 28, 29, 30, 31, 32, 33, 34, 35] (by decide +kernel) (by decide +kernel)
set_option maxRecDepth 20000 in
theorem gX7_things_X7_isThing : GoodIn wsX7_things (wsV RX7 81 RX7 yX7_isThing wsX7_isThing) := goodIn_app (goodIn_of _ (by decide +kernel)) ggX7_things_X7_isThing
theorem dX7_things_0 : decode cX7_things 0 = .ok (.iconst 0, 1) := by decide +kernel
theorem dX7_things_1 : decode cX7_things 1 = .ok (.istore_n 1, 1) := by decide +kernel
theorem dX7_things_2 : decode cX7_things 2 = .ok (.iconst 0, 1) := by decide +kernel
theorem dX7_things_3 : decode cX7_things 3 = .ok (.istore_n 2, 1) := by decide +kernel
theorem dX7_things_4 : decode cX7_things 4 = .ok (.iload_n 2, 1) := by decide +kernel
theorem dX7_things_5 : decode cX7_things 5 = .ok (.bipush 32, 2) := by decide +kernel
theorem dX7_things_7 : decode cX7_things 7 = .ok (.if_icmp .ge 25, 3) := by decide +kernel
theorem dX7_things_10 : decode cX7_things 10 = .ok (.iload_n 1, 1) := by decide +kernel
theorem dX7_things_11 : decode cX7_things 11 = .ok (.aload_n 0, 1) := by decide +kernel
theorem dX7_things_12 : decode cX7_things 12 = .ok (.iload_n 2, 1) := by decide +kernel
theorem dX7_things_13 : decode cX7_things 13 = .ok (.invokevirtual 81, 3) := by decide +kernel
theorem dX7_things_16 : decode cX7_things 16 = .ok (.ifCond .eq 7, 3) := by decide +kernel
theorem dX7_things_19 : decode cX7_things 19 = .ok (.iconst 1, 1) := by decide +kernel
theorem dX7_things_20 : decode cX7_things 20 = .ok (.goto 4, 3) := by decide +kernel
theorem dX7_things_23 : decode cX7_things 23 = .ok (.iconst 0, 1) := by decide +kernel
theorem dX7_things_24 : decode cX7_things 24 = .ok (.iadd, 1) := by decide +kernel
theorem dX7_things_25 : decode cX7_things 25 = .ok (.istore_n 1, 1) := by decide +kernel
theorem dX7_things_26 : decode cX7_things 26 = .ok (.iinc 2 1, 3) := by decide +kernel
theorem dX7_things_29 : decode cX7_things 29 = .ok (.goto (-25), 3) := by decide +kernel
theorem dX7_things_32 : decode cX7_things 32 = .ok (.iload_n 1, 1) := by decide +kernel
theorem dX7_things_33 : decode cX7_things 33 = .ok (.ireturn, 1) := by decide +kernel
set_option maxRecDepth 20000 in
theorem ggX7_keep_X7_in : GoodIn wsX7_keep wsX7_in := goodIn_r _ [10] (by decide +kernel) (by decide +kernel)
set_option maxRecDepth 20000 in
theorem gX7_keep_X7_in : GoodIn wsX7_keep (va_wsS RX7 59 yX7_in wsX7_in) := goodIn_app (goodIn_of _ (by decide +kernel)) ggX7_keep_X7_in
set_option maxRecDepth 20000 in
theorem ggX7_keep_X7_things : GoodIn wsX7_keep wsX7_things := goodIn_r _ [14, 15, 16, 17, 9, 18, 3, 7, 8, 10, 19, 20, 21, 22, 23, 24, 25, 26, 27, 28, 29, 30, 31, 32, 33, 34, 35, 36, 37, 38, 39, 40, 41, 42, 43, 44] (by decide +kernel) (by decide +kernel)
set_option maxRecDepth 20000 in
theorem gX7_keep_X7_things : GoodIn wsX7_keep (wsV RX7 242 RX7 yX7_things wsX7_things) := goodIn_app (goodIn_of _ (by decide +kernel)) ggX7_keep_X7_things
theorem dX7_keep_0 : decode cX7_keep 0 = .ok (.aload_n 0, 1) := by decide +kernel
theorem dX7_keep_1 : decode cX7_keep 1 = .ok (.iconst 0, 1) := by decide +kernel
theorem dX7_keep_2 : decode cX7_keep 2 = .ok (.putfield 55, 3) := by decide +kernel
theorem dX7_keep_5 : decode cX7_keep 5 = .ok (.iload_n 1, 1) := by decide +kernel
theorem dX7_keep_6 : decode cX7_keep 6 = .ok (.iconst 0, 1) := by decide +kernel
theorem dX7_keep_7 : decode cX7_keep 7 = .ok (.iconst 1, 1) := by decide +kernel
theorem dX7_keep_8 : decode cX7_keep 8 = .ok (.invokestatic 59, 3) := by decide +kernel
theorem dX7_keep_11 : decode cX7_keep 11 = .ok (.ifCond .ne 5, 3) := by decide +kernel
theorem dX7_keep_14 : decode cX7_keep 14 = .ok (.iconst (-1), 1) := by decide +kernel
theorem dX7_keep_15 : decode cX7_keep 15 = .ok (.ireturn, 1) := by decide +kernel
theorem dX7_keep_16 : decode cX7_keep 16 = .ok (.iconst 0, 1) := by decide +kernel
theorem dX7_keep_17 : decode cX7_keep 17 = .ok (.istore_n 2, 1) := by decide +kernel
theorem dX7_keep_18 : decode cX7_keep 18 = .ok (.iload_n 2, 1) := by decide +kernel
theorem dX7_keep_19 : decode cX7_keep 19 = .ok (.sipush 296, 3) := by decide +kernel
theorem dX7_keep_22 : decode cX7_keep 22 = .ok (.if_icmp .ge 27, 3) := by decide +kernel
theorem dX7_keep_25 : decode cX7_keep 25 = .ok (.aload_n 0, 1) := by decide +kernel
theorem dX7_keep_26 : decode cX7_keep 26 = .ok (.getfield 23, 3) := by decide +kernel
theorem dX7_keep_29 : decode cX7_keep 29 = .ok (.sipush 296, 3) := by decide +kernel
theorem dX7_keep_32 : decode cX7_keep 32 = .ok (.iload_n 1, 1) := by decide +kernel
theorem dX7_keep_33 : decode cX7_keep 33 = .ok (.imul, 1) := by decide +kernel
theorem dX7_keep_34 : decode cX7_keep 34 = .ok (.iload_n 2, 1) := by decide +kernel
theorem dX7_keep_35 : decode cX7_keep 35 = .ok (.iadd, 1) := by decide +kernel
theorem dX7_keep_36 : decode cX7_keep 36 = .ok (.aload_n 0, 1) := by decide +kernel
theorem dX7_keep_37 : decode cX7_keep 37 = .ok (.getfield 7, 3) := by decide +kernel
theorem dX7_keep_40 : decode cX7_keep 40 = .ok (.iload_n 2, 1) := by decide +kernel
theorem dX7_keep_41 : decode cX7_keep 41 = .ok (.iaload, 1) := by decide +kernel
theorem dX7_keep_42 : decode cX7_keep 42 = .ok (.iastore, 1) := by decide +kernel
theorem dX7_keep_43 : decode cX7_keep 43 = .ok (.iinc 2 1, 3) := by decide +kernel
theorem dX7_keep_46 : decode cX7_keep 46 = .ok (.goto (-28), 3) := by decide +kernel
theorem dX7_keep_49 : decode cX7_keep 49 = .ok (.aload_n 0, 1) := by decide +kernel
theorem dX7_keep_50 : decode cX7_keep 50 = .ok (.getfield 26, 3) := by decide +kernel
theorem dX7_keep_53 : decode cX7_keep 53 = .ok (.iconst 2, 1) := by decide +kernel
theorem dX7_keep_54 : decode cX7_keep 54 = .ok (.iload_n 1, 1) := by decide +kernel
theorem dX7_keep_55 : decode cX7_keep 55 = .ok (.imul, 1) := by decide +kernel
theorem dX7_keep_56 : decode cX7_keep 56 = .ok (.aload_n 0, 1) := by decide +kernel
theorem dX7_keep_57 : decode cX7_keep 57 = .ok (.getfield 13, 3) := by decide +kernel
theorem dX7_keep_60 : decode cX7_keep 60 = .ok (.iconst 0, 1) := by decide +kernel
theorem dX7_keep_61 : decode cX7_keep 61 = .ok (.faload, 1) := by decide +kernel
theorem dX7_keep_62 : decode cX7_keep 62 = .ok (.fastore, 1) := by decide +kernel
theorem dX7_keep_63 : decode cX7_keep 63 = .ok (.aload_n 0, 1) := by decide +kernel
theorem dX7_keep_64 : decode cX7_keep 64 = .ok (.getfield 26, 3) := by decide +kernel
theorem dX7_keep_67 : decode cX7_keep 67 = .ok (.iconst 2, 1) := by decide +kernel
theorem dX7_keep_68 : decode cX7_keep 68 = .ok (.iload_n 1, 1) := by decide +kernel
theorem dX7_keep_69 : decode cX7_keep 69 = .ok (.imul, 1) := by decide +kernel
theorem dX7_keep_70 : decode cX7_keep 70 = .ok (.iconst 1, 1) := by decide +kernel
theorem dX7_keep_71 : decode cX7_keep 71 = .ok (.iadd, 1) := by decide +kernel
theorem dX7_keep_72 : decode cX7_keep 72 = .ok (.aload_n 0, 1) := by decide +kernel
theorem dX7_keep_73 : decode cX7_keep 73 = .ok (.getfield 13, 3) := by decide +kernel
theorem dX7_keep_76 : decode cX7_keep 76 = .ok (.iconst 1, 1) := by decide +kernel
theorem dX7_keep_77 : decode cX7_keep 77 = .ok (.faload, 1) := by decide +kernel
theorem dX7_keep_78 : decode cX7_keep 78 = .ok (.fastore, 1) := by decide +kernel
theorem dX7_keep_79 : decode cX7_keep 79 = .ok (.aload_n 0, 1) := by decide +kernel
theorem dX7_keep_80 : decode cX7_keep 80 = .ok (.getfield 29, 3) := by decide +kernel
theorem dX7_keep_83 : decode cX7_keep 83 = .ok (.iload_n 1, 1) := by decide +kernel
theorem dX7_keep_84 : decode cX7_keep 84 = .ok (.iconst 1, 1) := by decide +kernel
theorem dX7_keep_85 : decode cX7_keep 85 = .ok (.bastore, 1) := by decide +kernel
theorem dX7_keep_86 : decode cX7_keep 86 = .ok (.aload_n 0, 1) := by decide +kernel
theorem dX7_keep_87 : decode cX7_keep 87 = .ok (.invokevirtual 242, 3) := by decide +kernel
theorem dX7_keep_90 : decode cX7_keep 90 = .ok (.ireturn, 1) := by decide +kernel
set_option maxRecDepth 20000 in
theorem ggX7_back_X7_in : GoodIn wsX7_back wsX7_in := goodIn_r _ [11] (by decide +kernel) (by decide +kernel)
set_option maxRecDepth 20000 in
theorem gX7_back_X7_in : GoodIn wsX7_back (va_wsS RX7 59 yX7_in wsX7_in) := goodIn_app (goodIn_of _ (by decide +kernel)) ggX7_back_X7_in
set_option maxRecDepth 20000 in
theorem ggX7_back_X7_things : GoodIn wsX7_back wsX7_things := goodIn_r _ [15, 16, 17, 18, 10, 19, 3, 8, 9, 11, 20, 21, 22, 23, 24, 25, 26, 27, 28, 29, 30, 31, 32, 33, 34, 35, 36, 37, 38, 39, 40, 41, 42, 43, 44, 45] (by decide +kernel) (by decide +kernel)
set_option maxRecDepth 20000 in
theorem gX7_back_X7_things : GoodIn wsX7_back (wsV RX7 242 RX7 yX7_things wsX7_things) := goodIn_app (goodIn_of _ (by decide +kernel)) ggX7_back_X7_things
theorem dX7_back_0 : decode cX7_back 0 = .ok (.aload_n 0, 1) := by decide +kernel
theorem dX7_back_1 : decode cX7_back 1 = .ok (.iconst 0, 1) := by decide +kernel
theorem dX7_back_2 : decode cX7_back 2 = .ok (.putfield 55, 3) := by decide +kernel
theorem dX7_back_5 : decode cX7_back 5 = .ok (.iload_n 1, 1) := by decide +kernel
theorem dX7_back_6 : decode cX7_back 6 = .ok (.iconst 0, 1) := by decide +kernel
theorem dX7_back_7 : decode cX7_back 7 = .ok (.iconst 1, 1) := by decide +kernel
theorem dX7_back_8 : decode cX7_back 8 = .ok (.invokestatic 59, 3) := by decide +kernel
theorem dX7_back_11 : decode cX7_back 11 = .ok (.ifCond .ne 5, 3) := by decide +kernel
theorem dX7_back_14 : decode cX7_back 14 = .ok (.iconst (-1), 1) := by decide +kernel
theorem dX7_back_15 : decode cX7_back 15 = .ok (.ireturn, 1) := by decide +kernel
theorem dX7_back_16 : decode cX7_back 16 = .ok (.aload_n 0, 1) := by decide +kernel
theorem dX7_back_17 : decode cX7_back 17 = .ok (.getfield 29, 3) := by decide +kernel
theorem dX7_back_20 : decode cX7_back 20 = .ok (.iload_n 1, 1) := by decide +kernel
theorem dX7_back_21 : decode cX7_back 21 = .ok (.baload, 1) := by decide +kernel
theorem dX7_back_22 : decode cX7_back 22 = .ok (.ifCond .ne 6, 3) := by decide +kernel
theorem dX7_back_25 : decode cX7_back 25 = .ok (.bipush (-2), 2) := by decide +kernel
theorem dX7_back_27 : decode cX7_back 27 = .ok (.ireturn, 1) := by decide +kernel
theorem dX7_back_28 : decode cX7_back 28 = .ok (.iconst 0, 1) := by decide +kernel
theorem dX7_back_29 : decode cX7_back 29 = .ok (.istore_n 2, 1) := by decide +kernel
theorem dX7_back_30 : decode cX7_back 30 = .ok (.iload_n 2, 1) := by decide +kernel
theorem dX7_back_31 : decode cX7_back 31 = .ok (.sipush 296, 3) := by decide +kernel
theorem dX7_back_34 : decode cX7_back 34 = .ok (.if_icmp .ge 27, 3) := by decide +kernel
theorem dX7_back_37 : decode cX7_back 37 = .ok (.aload_n 0, 1) := by decide +kernel
theorem dX7_back_38 : decode cX7_back 38 = .ok (.getfield 7, 3) := by decide +kernel
theorem dX7_back_41 : decode cX7_back 41 = .ok (.iload_n 2, 1) := by decide +kernel
theorem dX7_back_42 : decode cX7_back 42 = .ok (.aload_n 0, 1) := by decide +kernel
theorem dX7_back_43 : decode cX7_back 43 = .ok (.getfield 23, 3) := by decide +kernel
theorem dX7_back_46 : decode cX7_back 46 = .ok (.sipush 296, 3) := by decide +kernel
theorem dX7_back_49 : decode cX7_back 49 = .ok (.iload_n 1, 1) := by decide +kernel
theorem dX7_back_50 : decode cX7_back 50 = .ok (.imul, 1) := by decide +kernel
theorem dX7_back_51 : decode cX7_back 51 = .ok (.iload_n 2, 1) := by decide +kernel
theorem dX7_back_52 : decode cX7_back 52 = .ok (.iadd, 1) := by decide +kernel
theorem dX7_back_53 : decode cX7_back 53 = .ok (.iaload, 1) := by decide +kernel
theorem dX7_back_54 : decode cX7_back 54 = .ok (.iastore, 1) := by decide +kernel
theorem dX7_back_55 : decode cX7_back 55 = .ok (.iinc 2 1, 3) := by decide +kernel
theorem dX7_back_58 : decode cX7_back 58 = .ok (.goto (-28), 3) := by decide +kernel
theorem dX7_back_61 : decode cX7_back 61 = .ok (.aload_n 0, 1) := by decide +kernel
theorem dX7_back_62 : decode cX7_back 62 = .ok (.getfield 13, 3) := by decide +kernel
theorem dX7_back_65 : decode cX7_back 65 = .ok (.iconst 0, 1) := by decide +kernel
theorem dX7_back_66 : decode cX7_back 66 = .ok (.aload_n 0, 1) := by decide +kernel
theorem dX7_back_67 : decode cX7_back 67 = .ok (.getfield 26, 3) := by decide +kernel
theorem dX7_back_70 : decode cX7_back 70 = .ok (.iconst 2, 1) := by decide +kernel
theorem dX7_back_71 : decode cX7_back 71 = .ok (.iload_n 1, 1) := by decide +kernel
theorem dX7_back_72 : decode cX7_back 72 = .ok (.imul, 1) := by decide +kernel
theorem dX7_back_73 : decode cX7_back 73 = .ok (.faload, 1) := by decide +kernel
theorem dX7_back_74 : decode cX7_back 74 = .ok (.fastore, 1) := by decide +kernel
theorem dX7_back_75 : decode cX7_back 75 = .ok (.aload_n 0, 1) := by decide +kernel
theorem dX7_back_76 : decode cX7_back 76 = .ok (.getfield 13, 3) := by decide +kernel
theorem dX7_back_79 : decode cX7_back 79 = .ok (.iconst 1, 1) := by decide +kernel
theorem dX7_back_80 : decode cX7_back 80 = .ok (.aload_n 0, 1) := by decide +kernel
theorem dX7_back_81 : decode cX7_back 81 = .ok (.getfield 26, 3) := by decide +kernel
theorem dX7_back_84 : decode cX7_back 84 = .ok (.iconst 2, 1) := by decide +kernel
theorem dX7_back_85 : decode cX7_back 85 = .ok (.iload_n 1, 1) := by decide +kernel
theorem dX7_back_86 : decode cX7_back 86 = .ok (.imul, 1) := by decide +kernel
theorem dX7_back_87 : decode cX7_back 87 = .ok (.iconst 1, 1) := by decide +kernel
theorem dX7_back_88 : decode cX7_back 88 = .ok (.iadd, 1) := by decide +kernel
theorem dX7_back_89 : decode cX7_back 89 = .ok (.faload, 1) := by decide +kernel
theorem dX7_back_90 : decode cX7_back 90 = .ok (.fastore, 1) := by decide +kernel
theorem dX7_back_91 : decode cX7_back 91 = .ok (.aload_n 0, 1) := by decide +kernel
theorem dX7_back_92 : decode cX7_back 92 = .ok (.iconst 0, 1) := by decide +kernel
theorem dX7_back_93 : decode cX7_back 93 = .ok (.putfield 70, 3) := by decide +kernel
theorem dX7_back_96 : decode cX7_back 96 = .ok (.aload_n 0, 1) := by decide +kernel
theorem dX7_back_97 : decode cX7_back 97 = .ok (.invokevirtual 242, 3) := by decide +kernel
theorem dX7_back_100 : decode cX7_back 100 = .ok (.ireturn, 1) := by decide +kernel
set_option maxRecDepth 20000 in
theorem ggX7_regionsOf_X7_ofRegion : GoodIn wsX7_regionsOf wsX7_ofRegion := goodIn_r _ [5, 6, 7, 8, 9, 10, 11, 12, 13, 14, 15, 16, 17, 18, 19, 20, 21, 22, 23, 24, 25, 26, 27, 28, 29, 30, 31, 32] (by decide +kernel) (by decide +kernel)
set_option maxRecDepth 20000 in
theorem gX7_regionsOf_X7_ofRegion : GoodIn wsX7_regionsOf (wsV RX7 67 RX7 yX7_ofRegion wsX7_ofRegion) := goodIn_app (goodIn_of _ (by decide +kernel)) ggX7_regionsOf_X7_ofRegion
theorem dX7_regionsOf_0 : decode cX7_regionsOf 0 = .ok (.iconst 0, 1) := by decide +kernel
theorem dX7_regionsOf_1 : decode cX7_regionsOf 1 = .ok (.istore_n 2, 1) := by decide +kernel
theorem dX7_regionsOf_2 : decode cX7_regionsOf 2 = .ok (.iconst 0, 1) := by decide +kernel
theorem dX7_regionsOf_3 : decode cX7_regionsOf 3 = .ok (.istore_n 3, 1) := by decide +kernel
theorem dX7_regionsOf_4 : decode cX7_regionsOf 4 = .ok (.iload_n 3, 1) := by decide +kernel
theorem dX7_regionsOf_5 : decode cX7_regionsOf 5 = .ok (.bipush 10, 2) := by decide +kernel
theorem dX7_regionsOf_7 : decode cX7_regionsOf 7 = .ok (.if_icmp .ge 27, 3) := by decide +kernel
theorem dX7_regionsOf_10 : decode cX7_regionsOf 10 = .ok (.iload_n 2, 1) := by decide +kernel
theorem dX7_regionsOf_11 : decode cX7_regionsOf 11 = .ok (.aload_n 0, 1) := by decide +kernel
theorem dX7_regionsOf_12 : decode cX7_regionsOf 12 = .ok (.iload_n 3, 1) := by decide +kernel
theorem dX7_regionsOf_13 : decode cX7_regionsOf 13 = .ok (.iconst 0, 1) := by decide +kernel
theorem dX7_regionsOf_14 : decode cX7_regionsOf 14 = .ok (.invokevirtual 67, 3) := by decide +kernel
theorem dX7_regionsOf_17 : decode cX7_regionsOf 17 = .ok (.iload_n 1, 1) := by decide +kernel
theorem dX7_regionsOf_18 : decode cX7_regionsOf 18 = .ok (.if_icmp .ne 7, 3) := by decide +kernel
theorem dX7_regionsOf_21 : decode cX7_regionsOf 21 = .ok (.iconst 1, 1) := by decide +kernel
theorem dX7_regionsOf_22 : decode cX7_regionsOf 22 = .ok (.goto 4, 3) := by decide +kernel
theorem dX7_regionsOf_25 : decode cX7_regionsOf 25 = .ok (.iconst 0, 1) := by decide +kernel
theorem dX7_regionsOf_26 : decode cX7_regionsOf 26 = .ok (.iadd, 1) := by decide +kernel
theorem dX7_regionsOf_27 : decode cX7_regionsOf 27 = .ok (.istore_n 2, 1) := by decide +kernel
theorem dX7_regionsOf_28 : decode cX7_regionsOf 28 = .ok (.iinc 3 1, 3) := by decide +kernel
theorem dX7_regionsOf_31 : decode cX7_regionsOf 31 = .ok (.goto (-27), 3) := by decide +kernel
theorem dX7_regionsOf_34 : decode cX7_regionsOf 34 = .ok (.iload_n 2, 1) := by decide +kernel
theorem dX7_regionsOf_35 : decode cX7_regionsOf 35 = .ok (.ireturn, 1) := by decide +kernel
set_option maxRecDepth 20000 in
theorem ggX7_count_X7_things : GoodIn wsX7_count wsX7_things := goodIn_r _ [8, 9, 10, 11, 7, 12, 2, 13, 14, 15, 24, 25, 26, 27, 28, 29, 30, 31, 32, 33, 34, 35, 36, 37, 38, 39, 40, 41, 42, 43, 44, 45, 46, 47, 48, 49] (by decide +kernel) (by decide +kernel)
set_option maxRecDepth 20000 in
theorem gX7_count_X7_things : GoodIn wsX7_count (wsV RX7 242 RX7 yX7_things wsX7_things) := goodIn_app (goodIn_of _ (by decide +kernel)) ggX7_count_X7_things
set_option maxRecDepth 20000 in
theorem ggX7_count_X7_regionsOf : GoodIn wsX7_count wsX7_regionsOf := goodIn_r _ [19, 20, 21, 22, 7, 23, 2, 24, 25, 26, 27, 28, 29, 30, 31, 32, 33, 34, 35, 36, 37, 38, 39, 40, 41, 42, 43, 44, 45, 46, 47, 48, 49] (by decide +kernel) (by decide +kernel)
set_option maxRecDepth 20000 in
theorem gX7_count_X7_regionsOf : GoodIn wsX7_count (wsV RX7 245 RX7 yX7_regionsOf wsX7_regionsOf) := goodIn_app (goodIn_of _ (by decide +kernel)) ggX7_count_X7_regionsOf
theorem dX7_count_0 : decode cX7_count 0 = .ok (.aload_n 0, 1) := by decide +kernel
theorem dX7_count_1 : decode cX7_count 1 = .ok (.iconst 0, 1) := by decide +kernel
theorem dX7_count_2 : decode cX7_count 2 = .ok (.putfield 55, 3) := by decide +kernel
theorem dX7_count_5 : decode cX7_count 5 = .ok (.iload_n 1, 1) := by decide +kernel
theorem dX7_count_6 : decode cX7_count 6 = .ok (.tableswitch 133 0 8 #[50, 55, 61, 67, 76, 101, 110, 119, 128], 50) := by decide +kernel
theorem dX7_count_56 : decode cX7_count 56 = .ok (.aload_n 0, 1) := by decide +kernel
theorem dX7_count_57 : decode cX7_count 57 = .ok (.invokevirtual 242, 3) := by decide +kernel
theorem dX7_count_60 : decode cX7_count 60 = .ok (.ireturn, 1) := by decide +kernel
theorem dX7_count_61 : decode cX7_count 61 = .ok (.aload_n 0, 1) := by decide +kernel
theorem dX7_count_62 : decode cX7_count 62 = .ok (.iconst 0, 1) := by decide +kernel
theorem dX7_count_63 : decode cX7_count 63 = .ok (.invokevirtual 245, 3) := by decide +kernel
theorem dX7_count_66 : decode cX7_count 66 = .ok (.ireturn, 1) := by decide +kernel
theorem dX7_count_67 : decode cX7_count 67 = .ok (.aload_n 0, 1) := by decide +kernel
theorem dX7_count_68 : decode cX7_count 68 = .ok (.iconst 1, 1) := by decide +kernel
theorem dX7_count_69 : decode cX7_count 69 = .ok (.invokevirtual 245, 3) := by decide +kernel
theorem dX7_count_72 : decode cX7_count 72 = .ok (.ireturn, 1) := by decide +kernel
theorem dX7_count_73 : decode cX7_count 73 = .ok (.aload_n 0, 1) := by decide +kernel
theorem dX7_count_74 : decode cX7_count 74 = .ok (.getfield 7, 3) := by decide +kernel
theorem dX7_count_77 : decode cX7_count 77 = .ok (.sipush 258, 3) := by decide +kernel
theorem dX7_count_80 : decode cX7_count 80 = .ok (.iaload, 1) := by decide +kernel
theorem dX7_count_81 : decode cX7_count 81 = .ok (.ireturn, 1) := by decide +kernel
theorem dX7_count_82 : decode cX7_count 82 = .ok (.aload_n 0, 1) := by decide +kernel
theorem dX7_count_83 : decode cX7_count 83 = .ok (.getfield 7, 3) := by decide +kernel
theorem dX7_count_86 : decode cX7_count 86 = .ok (.sipush 292, 3) := by decide +kernel
theorem dX7_count_89 : decode cX7_count 89 = .ok (.iaload, 1) := by decide +kernel
theorem dX7_count_90 : decode cX7_count 90 = .ok (.iconst 1, 1) := by decide +kernel
theorem dX7_count_91 : decode cX7_count 91 = .ok (.if_icmp .ne 14, 3) := by decide +kernel
theorem dX7_count_94 : decode cX7_count 94 = .ok (.aload_n 0, 1) := by decide +kernel
theorem dX7_count_95 : decode cX7_count 95 = .ok (.getfield 7, 3) := by decide +kernel
theorem dX7_count_98 : decode cX7_count 98 = .ok (.sipush 291, 3) := by decide +kernel
theorem dX7_count_101 : decode cX7_count 101 = .ok (.iaload, 1) := by decide +kernel
theorem dX7_count_102 : decode cX7_count 102 = .ok (.goto 4, 3) := by decide +kernel
theorem dX7_count_105 : decode cX7_count 105 = .ok (.iconst 0, 1) := by decide +kernel
theorem dX7_count_106 : decode cX7_count 106 = .ok (.ireturn, 1) := by decide +kernel
theorem dX7_count_107 : decode cX7_count 107 = .ok (.aload_n 0, 1) := by decide +kernel
theorem dX7_count_108 : decode cX7_count 108 = .ok (.getfield 7, 3) := by decide +kernel
theorem dX7_count_111 : decode cX7_count 111 = .ok (.sipush 292, 3) := by decide +kernel
theorem dX7_count_114 : decode cX7_count 114 = .ok (.iaload, 1) := by decide +kernel
theorem dX7_count_115 : decode cX7_count 115 = .ok (.ireturn, 1) := by decide +kernel
theorem dX7_count_116 : decode cX7_count 116 = .ok (.aload_n 0, 1) := by decide +kernel
theorem dX7_count_117 : decode cX7_count 117 = .ok (.getfield 7, 3) := by decide +kernel
theorem dX7_count_120 : decode cX7_count 120 = .ok (.sipush 293, 3) := by decide +kernel
theorem dX7_count_123 : decode cX7_count 123 = .ok (.iaload, 1) := by decide +kernel
theorem dX7_count_124 : decode cX7_count 124 = .ok (.ireturn, 1) := by decide +kernel
theorem dX7_count_125 : decode cX7_count 125 = .ok (.aload_n 0, 1) := by decide +kernel
theorem dX7_count_126 : decode cX7_count 126 = .ok (.getfield 7, 3) := by decide +kernel
theorem dX7_count_129 : decode cX7_count 129 = .ok (.sipush 294, 3) := by decide +kernel
theorem dX7_count_132 : decode cX7_count 132 = .ok (.iaload, 1) := by decide +kernel
theorem dX7_count_133 : decode cX7_count 133 = .ok (.ireturn, 1) := by decide +kernel
theorem dX7_count_134 : decode cX7_count 134 = .ok (.aload_n 0, 1) := by decide +kernel
theorem dX7_count_135 : decode cX7_count 135 = .ok (.getfield 70, 3) := by decide +kernel
theorem dX7_count_138 : decode cX7_count 138 = .ok (.ireturn, 1) := by decide +kernel
theorem dX7_count_139 : decode cX7_count 139 = .ok (.iconst (-1), 1) := by decide +kernel
theorem dX7_count_140 : decode cX7_count 140 = .ok (.ireturn, 1) := by decide +kernel
theorem dJ6_bitCount_0f7a4_0 : decode cJ6_bitCount_0f7a4 0 = .ok (.iload_n 0, 1) := by decide +kernel
theorem dJ6_bitCount_0f7a4_1 : decode cJ6_bitCount_0f7a4 1 = .ok (.iload_n 0, 1) := by decide +kernel
theorem dJ6_bitCount_0f7a4_2 : decode cJ6_bitCount_0f7a4 2 = .ok (.iconst 1, 1) := by decide +kernel
theorem dJ6_bitCount_0f7a4_3 : decode cJ6_bitCount_0f7a4 3 = .ok (.iushr, 1) := by decide +kernel
theorem dJ6_bitCount_0f7a4_4 : decode cJ6_bitCount_0f7a4 4 = .ok (.ldc_w 265, 3) := by decide +kernel
theorem dJ6_bitCount_0f7a4_7 : decode cJ6_bitCount_0f7a4 7 = .ok (.iand, 1) := by decide +kernel
theorem dJ6_bitCount_0f7a4_8 : decode cJ6_bitCount_0f7a4 8 = .ok (.isub, 1) := by decide +kernel
theorem dJ6_bitCount_0f7a4_9 : decode cJ6_bitCount_0f7a4 9 = .ok (.istore_n 0, 1) := by decide +kernel
theorem dJ6_bitCount_0f7a4_10 : decode cJ6_bitCount_0f7a4 10 = .ok (.iload_n 0, 1) := by decide +kernel
theorem dJ6_bitCount_0f7a4_11 : decode cJ6_bitCount_0f7a4 11 = .ok (.ldc_w 266, 3) := by decide +kernel
theorem dJ6_bitCount_0f7a4_14 : decode cJ6_bitCount_0f7a4 14 = .ok (.iand, 1) := by decide +kernel
theorem dJ6_bitCount_0f7a4_15 : decode cJ6_bitCount_0f7a4 15 = .ok (.iload_n 0, 1) := by decide +kernel
theorem dJ6_bitCount_0f7a4_16 : decode cJ6_bitCount_0f7a4 16 = .ok (.iconst 2, 1) := by decide +kernel
theorem dJ6_bitCount_0f7a4_17 : decode cJ6_bitCount_0f7a4 17 = .ok (.iushr, 1) := by decide +kernel
theorem dJ6_bitCount_0f7a4_18 : decode cJ6_bitCount_0f7a4 18 = .ok (.ldc_w 266, 3) := by decide +kernel
theorem dJ6_bitCount_0f7a4_21 : decode cJ6_bitCount_0f7a4 21 = .ok (.iand, 1) := by decide +kernel
theorem dJ6_bitCount_0f7a4_22 : decode cJ6_bitCount_0f7a4 22 = .ok (.iadd, 1) := by decide +kernel
theorem dJ6_bitCount_0f7a4_23 : decode cJ6_bitCount_0f7a4 23 = .ok (.istore_n 0, 1) := by decide +kernel
theorem dJ6_bitCount_0f7a4_24 : decode cJ6_bitCount_0f7a4 24 = .ok (.iload_n 0, 1) := by decide +kernel
theorem dJ6_bitCount_0f7a4_25 : decode cJ6_bitCount_0f7a4 25 = .ok (.iload_n 0, 1) := by decide +kernel
theorem dJ6_bitCount_0f7a4_26 : decode cJ6_bitCount_0f7a4 26 = .ok (.iconst 4, 1) := by decide +kernel
theorem dJ6_bitCount_0f7a4_27 : decode cJ6_bitCount_0f7a4 27 = .ok (.iushr, 1) := by decide +kernel
theorem dJ6_bitCount_0f7a4_28 : decode cJ6_bitCount_0f7a4 28 = .ok (.iadd, 1) := by decide +kernel
theorem dJ6_bitCount_0f7a4_29 : decode cJ6_bitCount_0f7a4 29 = .ok (.ldc_w 267, 3) := by decide +kernel
theorem dJ6_bitCount_0f7a4_32 : decode cJ6_bitCount_0f7a4 32 = .ok (.iand, 1) := by decide +kernel
theorem dJ6_bitCount_0f7a4_33 : decode cJ6_bitCount_0f7a4 33 = .ok (.istore_n 0, 1) := by decide +kernel
theorem dJ6_bitCount_0f7a4_34 : decode cJ6_bitCount_0f7a4 34 = .ok (.iload_n 0, 1) := by decide +kernel
theorem dJ6_bitCount_0f7a4_35 : decode cJ6_bitCount_0f7a4 35 = .ok (.iload_n 0, 1) := by decide +kernel
theorem dJ6_bitCount_0f7a4_36 : decode cJ6_bitCount_0f7a4 36 = .ok (.bipush 8, 2) := by decide +kernel
theorem dJ6_bitCount_0f7a4_38 : decode cJ6_bitCount_0f7a4 38 = .ok (.iushr, 1) := by decide +kernel
theorem dJ6_bitCount_0f7a4_39 : decode cJ6_bitCount_0f7a4 39 = .ok (.iadd, 1) := by decide +kernel
theorem dJ6_bitCount_0f7a4_40 : decode cJ6_bitCount_0f7a4 40 = .ok (.istore_n 0, 1) := by decide +kernel
theorem dJ6_bitCount_0f7a4_41 : decode cJ6_bitCount_0f7a4 41 = .ok (.iload_n 0, 1) := by decide +kernel
theorem dJ6_bitCount_0f7a4_42 : decode cJ6_bitCount_0f7a4 42 = .ok (.iload_n 0, 1) := by decide +kernel
theorem dJ6_bitCount_0f7a4_43 : decode cJ6_bitCount_0f7a4 43 = .ok (.bipush 16, 2) := by decide +kernel
theorem dJ6_bitCount_0f7a4_45 : decode cJ6_bitCount_0f7a4 45 = .ok (.iushr, 1) := by decide +kernel
theorem dJ6_bitCount_0f7a4_46 : decode cJ6_bitCount_0f7a4 46 = .ok (.iadd, 1) := by decide +kernel
theorem dJ6_bitCount_0f7a4_47 : decode cJ6_bitCount_0f7a4 47 = .ok (.istore_n 0, 1) := by decide +kernel
theorem dJ6_bitCount_0f7a4_48 : decode cJ6_bitCount_0f7a4 48 = .ok (.iload_n 0, 1) := by decide +kernel
theorem dJ6_bitCount_0f7a4_49 : decode cJ6_bitCount_0f7a4 49 = .ok (.bipush 63, 2) := by decide +kernel
theorem dJ6_bitCount_0f7a4_51 : decode cJ6_bitCount_0f7a4 51 = .ok (.iand, 1) := by decide +kernel
theorem dJ6_bitCount_0f7a4_52 : decode cJ6_bitCount_0f7a4 52 = .ok (.ireturn, 1) := by decide +kernel
theorem dJ9_min_7cf53_0 : decode cJ9_min_7cf53 0 = .ok (.iload_n 0, 1) := by decide +kernel
theorem dJ9_min_7cf53_1 : decode cJ9_min_7cf53 1 = .ok (.iload_n 1, 1) := by decide +kernel
theorem dJ9_min_7cf53_2 : decode cJ9_min_7cf53 2 = .ok (.if_icmp .gt 7, 3) := by decide +kernel
theorem dJ9_min_7cf53_5 : decode cJ9_min_7cf53 5 = .ok (.iload_n 0, 1) := by decide +kernel
theorem dJ9_min_7cf53_6 : decode cJ9_min_7cf53 6 = .ok (.goto 4, 3) := by decide +kernel
theorem dJ9_min_7cf53_9 : decode cJ9_min_7cf53 9 = .ok (.iload_n 1, 1) := by decide +kernel
theorem dJ9_min_7cf53_10 : decode cJ9_min_7cf53 10 = .ok (.ireturn, 1) := by decide +kernel
theorem dJ7_fill_53178_0 : decode cJ7_fill_53178 0 = .ok (.iconst 0, 1) := by decide +kernel
theorem dJ7_fill_53178_1 : decode cJ7_fill_53178 1 = .ok (.istore_n 2, 1) := by decide +kernel
theorem dJ7_fill_53178_2 : decode cJ7_fill_53178 2 = .ok (.aload_n 0, 1) := by decide +kernel
theorem dJ7_fill_53178_3 : decode cJ7_fill_53178 3 = .ok (.arraylength, 1) := by decide +kernel
theorem dJ7_fill_53178_4 : decode cJ7_fill_53178 4 = .ok (.istore_n 3, 1) := by decide +kernel
theorem dJ7_fill_53178_5 : decode cJ7_fill_53178 5 = .ok (.iload_n 2, 1) := by decide +kernel
theorem dJ7_fill_53178_6 : decode cJ7_fill_53178 6 = .ok (.iload_n 3, 1) := by decide +kernel
theorem dJ7_fill_53178_7 : decode cJ7_fill_53178 7 = .ok (.if_icmp .ge 13, 3) := by decide +kernel
theorem dJ7_fill_53178_10 : decode cJ7_fill_53178 10 = .ok (.aload_n 0, 1) := by decide +kernel
theorem dJ7_fill_53178_11 : decode cJ7_fill_53178 11 = .ok (.iload_n 2, 1) := by decide +kernel
theorem dJ7_fill_53178_12 : decode cJ7_fill_53178 12 = .ok (.iload_n 1, 1) := by decide +kernel
theorem dJ7_fill_53178_13 : decode cJ7_fill_53178 13 = .ok (.iastore, 1) := by decide +kernel
theorem dJ7_fill_53178_14 : decode cJ7_fill_53178 14 = .ok (.iinc 2 1, 3) := by decide +kernel
theorem dJ7_fill_53178_17 : decode cJ7_fill_53178 17 = .ok (.goto (-12), 3) := by decide +kernel
theorem dJ7_fill_53178_20 : decode cJ7_fill_53178 20 = .ok (.return_, 1) := by decide +kernel
theorem dJ7_fill_49daa_0 : decode cJ7_fill_49daa 0 = .ok (.iconst 0, 1) := by decide +kernel
theorem dJ7_fill_49daa_1 : decode cJ7_fill_49daa 1 = .ok (.istore_n 2, 1) := by decide +kernel
theorem dJ7_fill_49daa_2 : decode cJ7_fill_49daa 2 = .ok (.aload_n 0, 1) := by decide +kernel
theorem dJ7_fill_49daa_3 : decode cJ7_fill_49daa 3 = .ok (.arraylength, 1) := by decide +kernel
theorem dJ7_fill_49daa_4 : decode cJ7_fill_49daa 4 = .ok (.istore_n 3, 1) := by decide +kernel
theorem dJ7_fill_49daa_5 : decode cJ7_fill_49daa 5 = .ok (.iload_n 2, 1) := by decide +kernel
theorem dJ7_fill_49daa_6 : decode cJ7_fill_49daa 6 = .ok (.iload_n 3, 1) := by decide +kernel
theorem dJ7_fill_49daa_7 : decode cJ7_fill_49daa 7 = .ok (.if_icmp .ge 13, 3) := by decide +kernel
theorem dJ7_fill_49daa_10 : decode cJ7_fill_49daa 10 = .ok (.aload_n 0, 1) := by decide +kernel
theorem dJ7_fill_49daa_11 : decode cJ7_fill_49daa 11 = .ok (.iload_n 2, 1) := by decide +kernel
theorem dJ7_fill_49daa_12 : decode cJ7_fill_49daa 12 = .ok (.iload_n 1, 1) := by decide +kernel
theorem dJ7_fill_49daa_13 : decode cJ7_fill_49daa 13 = .ok (.bastore, 1) := by decide +kernel
theorem dJ7_fill_49daa_14 : decode cJ7_fill_49daa 14 = .ok (.iinc 2 1, 3) := by decide +kernel
theorem dJ7_fill_49daa_17 : decode cJ7_fill_49daa 17 = .ok (.goto (-12), 3) := by decide +kernel
theorem dJ7_fill_49daa_20 : decode cJ7_fill_49daa 20 = .ok (.return_, 1) := by decide +kernel
set_option maxRecDepth 20000 in
theorem ggL_law_X6_init : GoodIn wsL_law wsX6_init := goodIn_r _ [8, 9, 10, 11, 12, 13, 14, 15, 16, 17, 18, 19, 20, 21, 22, 23, 24, 25, 26, 27, 28, 29, 30, 31, 32, 33, 34, 35, 36, 37, 38, 39, 40, 41, 42, 43, 44, 45, 46, 47, 48, 49, 50, 51, 52, 53, 54, 55, 56, 57, 58, 59, 60, 61, 62, 63, 64, 65, 66, 67, 68, 69, 70, 71, 72, 73, 74, 75, 76, 77, 78, 79, 80, 81, 82, 83, 84, 85, 86, 87, 88, 89, 90, 91, 92, 93, 930, 931, 932, 933, 934, 935, 936, 937, 938, 939, 940, 941, 942, 943, 944, 945, 946, 947, 896, 897, 898, 899, 900, 901, 902, 903, 948, 949, 950, 951, 952, 953, 954, 955, 956, 957, 958, 959, 960, 961, 962, 963, 964, 965, 966, 967] (by decide +kernel) (by decide +kernel)
set_option maxRecDepth 20000 in
theorem gL_law_X6_init : GoodIn wsL_law (wsX6_init) := ggL_law_X6_init
set_option maxRecDepth 20000 in
theorem ggL_law_X7_init : GoodIn wsL_law wsX7_init := goodIn_r _ [96, 97, 10, 11, 40, 98, 99, 100, 101, 102, 103, 104, 22, 105, 106, 107, 108, 109, 110, 111, 112, 113, 904, 905, 906, 907, 908, 909, 910, 911, 912, 913, 914, 915, 916, 917, 918, 919, 920, 921, 922, 923, 924, 925, 926, 927, 928, 929] (by decide +kernel) (by decide +kernel)
set_option maxRecDepth 20000 in
theorem gL_law_X7_init : GoodIn wsL_law (wsX7_init) := ggL_law_X7_init
set_option maxRecDepth 20000 in
theorem ggL_law_X6_makes : GoodIn wsL_law wsX6_makes := goodIn_r _ [117, 15, 20, 118, 119, 120, 2, 121, 122, 123, 124, 125, 126, 127, 14, 128, 129, 130, 131, 132, 45, 133, 134, 135, 136, 56, 137, 138, 139, 140, 141, 142, 143, 144, 41, 145, 146, 147, 148, 42, 149, 150, 151, 19, 152, 74, 153, 154, 155, 156, 157, 158, 159, 160, 161, 162, 163, 164, 165, 166, 43, 44, 46, 47, 48, 49, 50, 54, 55, 167, 57, 59, 168, 60, 169, 170, 171, 53, 172, 64, 173, 174, 175, 176, 177, 178, 179, 180, 181, 182, 183, 184, 185, 186, 896, 897, 898, 899, 900, 901, 902, 903, 930, 931, 932, 933, 934, 935, 936, 937, 938, 939, 940, 941, 942, 943, 944, 945, 946, 947, 948, 949, 950, 966, 967] (by decide +kernel) (by decide +kernel)
set_option maxRecDepth 20000 in
theorem gL_law_X6_makes : GoodIn wsL_law (wsV RL 13 RX6 yX6_makes wsX6_makes) := goodIn_app (goodIn_of _ (by decide +kernel)) ggL_law_X6_makes
set_option maxRecDepth 20000 in
theorem ggL_law_X7_makes : GoodIn wsL_law wsX7_makes := goodIn_r _ [190, 191, 98, 192, 193, 5, 194, 195, 196, 197, 198, 199, 200, 201, 202, 203, 204, 205, 206, 207, 208, 209, 210, 211, 212, 213, 214, 215, 216, 217, 218, 101, 102, 100, 219, 220, 221, 222, 223, 224, 225, 226, 227, 228, 229, 230, 231, 232, 233, 234, 904, 905, 906, 907, 908, 909, 910, 911, 912, 913, 914, 915, 916, 917, 918, 919, 920, 921, 922, 923, 924, 925, 926, 927, 928, 929] (by decide +kernel) (by decide +kernel)
set_option maxRecDepth 20000 in
theorem gL_law_X7_makes : GoodIn wsL_law (wsV RL 17 RX7 yX7_makes wsX7_makes) := goodIn_app (goodIn_of _ (by decide +kernel)) ggL_law_X7_makes
set_option maxRecDepth 20000 in
theorem ggL_law_X6_writes : GoodIn wsL_law wsX6_writes := goodIn_r _ [238, 15, 118, 20, 122, 123, 2, 124, 119, 120, 121, 239, 240, 241, 149, 150, 151, 19, 152, 74, 153, 154, 155, 156, 157, 158, 159, 160, 161, 14, 162, 41, 163, 164, 165, 166, 42, 43, 44, 45, 46, 47, 48, 49, 50, 54, 55, 167, 56, 57, 59, 168, 60, 169, 170, 171, 53, 172, 64, 173, 174, 242, 243, 244, 245, 246, 247, 248, 249, 250, 251, 252, 253, 254, 255, 256, 257, 258, 259, 260, 261, 262, 263, 264, 265, 266, 267, 896, 897, 898, 899, 900, 901, 902, 903, 930, 931, 932, 933, 934, 935, 936, 937, 938, 939, 940, 941, 942, 943, 944, 945, 946, 947, 948, 949, 950, 966, 967] (by decide +kernel) (by decide +kernel)
set_option maxRecDepth 20000 in
theorem gL_law_X6_writes : GoodIn wsL_law (wsV RL 18 RX6 yX6_writes wsX6_writes) := goodIn_app (goodIn_of _ (by decide +kernel)) ggL_law_X6_writes
set_option maxRecDepth 20000 in
theorem ggL_law_X7_writes : GoodIn wsL_law wsX7_writes := goodIn_r _ [271, 191, 98, 195, 196, 5, 197, 192, 193, 194, 214, 215, 216, 217, 218, 101, 102, 100, 272, 273, 274, 275, 276, 277, 278, 279, 280, 281, 282, 283, 206, 207, 208, 209, 284, 285, 286, 287, 288, 289, 290, 291, 292, 293, 294, 295, 904, 905, 906, 907, 908, 909, 910, 911, 912, 913, 914, 915, 916, 917, 918, 919, 920, 921, 922, 923, 924, 925, 926, 927, 928, 929] (by decide +kernel) (by decide +kernel)
set_option maxRecDepth 20000 in
theorem gL_law_X7_writes : GoodIn wsL_law (wsV RL 22 RX7 yX7_writes wsX7_writes) := goodIn_app (goodIn_of _ (by decide +kernel)) ggL_law_X7_writes
set_option maxRecDepth 20000 in
theorem ggL_law_X6_takes : GoodIn wsL_law wsX6_takes := goodIn_r _ [299, 15, 118, 20, 122, 123, 2, 124, 119, 120, 121, 149, 150, 151, 19, 152, 74, 153, 154, 155, 156, 157, 158, 159, 160, 161, 14, 162, 41, 163, 164, 165, 166, 42, 43, 44, 45, 46, 47, 48, 49, 50, 54, 55, 167, 56, 57, 59, 168, 60, 169, 170, 171, 53, 172, 64, 173, 174, 300, 251, 252, 253, 896, 897, 898, 899, 900, 901, 902, 903, 930, 931, 932, 933, 934, 935, 936, 937, 938, 939, 940, 941, 942, 943, 944, 945, 946, 947, 948, 949, 950, 966, 967] (by decide +kernel) (by decide +kernel)
set_option maxRecDepth 20000 in
theorem gL_law_X6_takes : GoodIn wsL_law (wsV RL 23 RX6 yX6_takes wsX6_takes) := goodIn_app (goodIn_of _ (by decide +kernel)) ggL_law_X6_takes
set_option maxRecDepth 20000 in
theorem ggL_law_X7_takes : GoodIn wsL_law wsX7_takes := goodIn_r _ [304, 191, 98, 195, 196, 5, 197, 192, 193, 194, 214, 215, 216, 217, 218, 101, 102, 100, 272, 273, 274, 275, 904, 905, 906, 907, 908, 909, 910, 911, 912, 913, 914, 915, 916, 917, 918, 919, 920, 921, 922, 923, 924, 925, 926, 927, 928, 929] (by decide +kernel) (by decide +kernel)
set_option maxRecDepth 20000 in
theorem gL_law_X7_takes : GoodIn wsL_law (wsV RL 26 RX7 yX7_takes wsX7_takes) := goodIn_app (goodIn_of _ (by decide +kernel)) ggL_law_X7_takes
set_option maxRecDepth 20000 in
theorem ggL_law_X6_sets : GoodIn wsL_law wsX6_sets := goodIn_r _ [308, 20, 15, 118, 122, 123, 2, 124, 119, 120, 121, 239, 240, 241, 149, 150, 151, 19, 152, 74, 153, 154, 155, 156, 157, 158, 159, 160, 161, 14, 162, 41, 163, 164, 165, 166, 42, 43, 44, 45, 46, 47, 48, 49, 50, 54, 55, 167, 56, 57, 59, 168, 60, 169, 170, 171, 53, 172, 64, 173, 174, 242, 243, 244, 245, 896, 897, 898, 899, 900, 901, 902, 903, 930, 931, 932, 933, 934, 935, 936, 937, 938, 939, 940, 941, 942, 943, 944, 945, 946, 947, 948, 949, 950, 966, 967] (by decide +kernel) (by decide +kernel)
set_option maxRecDepth 20000 in
theorem gL_law_X6_sets : GoodIn wsL_law (wsV RL 27 RX6 yX6_sets wsX6_sets) := goodIn_app (goodIn_of _ (by decide +kernel)) ggL_law_X6_sets
set_option maxRecDepth 20000 in
theorem ggL_law_X7_sets : GoodIn wsL_law wsX7_sets := goodIn_r _ [312, 191, 98, 195, 196, 5, 197, 192, 193, 194, 214, 215, 216, 217, 218, 101, 102, 100, 904, 905, 906, 907, 908, 909, 910, 911, 912, 913, 914, 915, 916, 917, 918, 919, 920, 921, 922, 923, 924, 925, 926, 927, 928, 929] (by decide +kernel) (by decide +kernel)
set_option maxRecDepth 20000 in
theorem gL_law_X7_sets : GoodIn wsL_law (wsV RL 30 RX7 yX7_sets wsX7_sets) := goodIn_app (goodIn_of _ (by decide +kernel)) ggL_law_X7_sets
set_option maxRecDepth 20000 in
theorem ggL_law_X6_refines : GoodIn wsL_law wsX6_refines := goodIn_r _ [316, 15, 317, 318, 20, 119, 120, 2, 121, 149, 150, 151, 19, 152, 74, 153, 154, 155, 156, 157, 158, 159, 160, 161, 14, 162, 41, 163, 164, 165, 166, 42, 43, 44, 45, 46, 47, 48, 49, 50, 54, 55, 167, 56, 57, 59, 168, 60, 169, 170, 171, 53, 172, 64, 173, 174, 319, 320, 321, 322, 323, 324, 325, 326, 327, 328, 329, 330, 331, 332, 333, 334, 335, 336, 337, 338, 339, 129, 130, 131, 132, 262, 263, 264, 265, 266, 267, 250, 251, 252, 253, 340, 341, 342, 343, 344, 345, 896, 897, 898, 899, 900, 901, 902, 903, 930, 931, 932, 933, 934, 935, 936, 937, 938, 939, 940, 941, 942, 943, 944, 945, 946, 947, 966, 967, 948, 949, 950] (by decide +kernel) (by decide +kernel)
set_option maxRecDepth 20000 in
theorem gL_law_X6_refines : GoodIn wsL_law (wsV RL 31 RX6 yX6_refines wsX6_refines) := goodIn_app (goodIn_of _ (by decide +kernel)) ggL_law_X6_refines
set_option maxRecDepth 20000 in
theorem ggL_law_X7_refines : GoodIn wsL_law wsX7_refines := goodIn_r _ [349, 191, 98, 192, 193, 5, 194, 214, 215, 216, 217, 218, 101, 102, 100, 350, 351, 352, 353, 354, 355, 356, 357, 202, 203, 204, 205, 284, 285, 286, 287, 272, 273, 274, 275, 904, 905, 906, 907, 908, 909, 910, 911, 912, 913, 914, 915, 916, 917, 918, 919, 920, 921, 922, 923, 924, 925, 926, 927, 928, 929] (by decide +kernel) (by decide +kernel)
set_option maxRecDepth 20000 in
theorem gL_law_X7_refines : GoodIn wsL_law (wsV RL 35 RX7 yX7_refines wsX7_refines) := goodIn_app (goodIn_of _ (by decide +kernel)) ggL_law_X7_refines
set_option maxRecDepth 20000 in
theorem ggL_law_X6_begins : GoodIn wsL_law wsX6_begins := goodIn_r _ [361, 15, 362, 20, 363, 318, 149, 150, 151, 19, 152, 74, 153, 154, 155, 156, 157, 158, 159, 160, 161, 14, 162, 41, 163, 164, 165, 166, 42, 43, 44, 45, 46, 47, 48, 49, 50, 54, 55, 167, 56, 57, 59, 168, 60, 169, 170, 171, 53, 172, 64, 173, 174, 364, 365, 366, 367, 65, 66, 67, 68, 254, 255, 256, 257, 258, 259, 260, 261, 368, 369, 370, 371, 323, 372, 373, 374, 375, 376, 377, 378, 379, 129, 130, 131, 132, 380, 381, 382, 383, 384, 385, 386, 387, 388, 389, 390, 391, 392, 393, 394, 395, 266, 2, 267, 332, 333, 334, 335, 396, 397, 896, 897, 898, 899, 900, 901, 902, 903, 930, 931, 932, 933, 934, 935, 936, 937, 938, 939, 940, 941, 942, 943, 944, 945, 946, 947, 966, 967, 948, 949, 950] (by decide +kernel) (by decide +kernel)
set_option maxRecDepth 20000 in
theorem gL_law_X6_begins : GoodIn wsL_law (wsV RL 36 RX6 yX6_begins wsX6_begins) := goodIn_app (goodIn_of _ (by decide +kernel)) ggL_law_X6_begins
set_option maxRecDepth 20000 in
theorem ggL_law_X7_begins : GoodIn wsL_law wsX7_begins := goodIn_r _ [401, 191, 98, 214, 215, 216, 5, 217, 218, 101, 102, 100, 276, 277, 278, 279, 272, 273, 274, 275, 402, 403, 404, 405, 206, 207, 208, 209, 406, 407, 408, 409, 202, 203, 204, 205, 192, 193, 194, 223, 224, 225, 226, 410, 411, 412, 413, 414, 415, 416, 417, 418, 419, 420, 421, 422, 423, 424, 425, 426, 427, 428, 429, 354, 355, 356, 357, 904, 905, 906, 907, 908, 909, 910, 911, 912, 913, 914, 915, 916, 917, 918, 919, 920, 921, 922, 923, 924, 925, 926, 927, 928, 929] (by decide +kernel) (by decide +kernel)
set_option maxRecDepth 20000 in
theorem gL_law_X7_begins : GoodIn wsL_law (wsV RL 40 RX7 yX7_begins wsX7_begins) := goodIn_app (goodIn_of _ (by decide +kernel)) ggL_law_X7_begins
set_option maxRecDepth 20000 in
theorem ggL_law_X6_steps : GoodIn wsL_law wsX6_steps := goodIn_r _ [433, 15, 362, 20, 363, 318, 119, 120, 2, 121, 149, 150, 151, 19, 152, 74, 153, 154, 155, 156, 157, 158, 159, 160, 161, 14, 162, 41, 163, 164, 165, 166, 42, 43, 44, 45, 46, 47, 48, 49, 50, 54, 55, 167, 56, 57, 59, 168, 60, 169, 170, 171, 53, 172, 64, 173, 174, 434, 435, 436, 437, 324, 325, 326, 327, 332, 333, 334, 335, 250, 251, 252, 253, 254, 255, 256, 257, 258, 259, 260, 261, 368, 369, 370, 371, 323, 372, 373, 374, 375, 376, 377, 378, 379, 129, 130, 131, 132, 380, 381, 382, 383, 384, 385, 386, 387, 388, 389, 390, 391, 392, 393, 394, 395, 266, 267, 396, 397, 896, 897, 898, 899, 900, 901, 902, 903, 930, 931, 932, 933, 934, 935, 936, 937, 938, 939, 940, 941, 942, 943, 944, 945, 946, 947, 966, 967, 948, 949, 950] (by decide +kernel) (by decide +kernel)
set_option maxRecDepth 20000 in
theorem gL_law_X6_steps : GoodIn wsL_law (wsV RL 41 RX6 yX6_steps wsX6_steps) := goodIn_app (goodIn_of _ (by decide +kernel)) ggL_law_X6_steps
set_option maxRecDepth 20000 in
theorem ggL_law_X7_steps : GoodIn wsL_law wsX7_steps := goodIn_r _ [441, 191, 98, 192, 193, 5, 194, 214, 215, 216, 217, 218, 101, 102, 100, 442, 443, 444, 445, 354, 355, 356, 357, 272, 273, 274, 275, 276, 277, 278, 279, 402, 403, 404, 405, 206, 207, 208, 209, 406, 407, 408, 409, 202, 203, 204, 205, 223, 224, 225, 226, 410, 411, 412, 413, 414, 415, 416, 417, 418, 419, 420, 421, 422, 423, 424, 425, 426, 427, 428, 429, 904, 905, 906, 907, 908, 909, 910, 911, 912, 913, 914, 915, 916, 917, 918, 919, 920, 921, 922, 923, 924, 925, 926, 927, 928, 929] (by decide +kernel) (by decide +kernel)
set_option maxRecDepth 20000 in
theorem gL_law_X7_steps : GoodIn wsL_law (wsV RL 44 RX7 yX7_steps wsX7_steps) := goodIn_app (goodIn_of _ (by decide +kernel)) ggL_law_X7_steps
set_option maxRecDepth 20000 in
theorem ggL_law_X6_pauses : GoodIn wsL_law wsX6_pauses := goodIn_r _ [449, 20, 15, 31, 450, 451, 2, 452, 119, 120, 121, 149, 150, 151, 19, 152, 74, 153, 154, 155, 156, 157, 158, 159, 160, 161, 14, 162, 41, 163, 164, 165, 166, 42, 43, 44, 45, 46, 47, 48, 49, 50, 54, 55, 167, 56, 57, 59, 168, 60, 169, 170, 171, 53, 172, 64, 173, 174, 453, 454, 455, 30, 456, 83, 457, 458, 459, 460, 85, 461, 86, 462, 463, 464, 465, 466, 467, 468, 469, 67, 470, 471, 320, 321, 322, 323, 324, 325, 326, 327, 328, 329, 330, 331, 332, 333, 334, 335, 336, 337, 338, 339, 129, 130, 131, 132, 262, 263, 264, 265, 266, 267, 250, 251, 252, 253, 340, 341, 342, 343, 344, 345, 472, 473, 474, 26, 475, 476, 477, 478, 479, 480, 481, 482, 483, 484, 485, 486, 487, 488, 489, 490, 491, 492, 493, 494, 495, 496, 497, 498, 499, 500, 501, 502, 503, 504, 505, 506, 507, 508, 509, 259, 260, 261, 510, 511, 512, 513, 514, 515, 516, 517, 518, 519, 520, 521, 522, 523, 376, 377, 378, 379, 524, 525, 526, 527, 528, 529, 530, 531, 532, 533, 534, 535, 536, 537, 146, 147, 148, 538, 142, 143, 144, 539, 184, 185, 186, 540, 541, 542, 543, 544, 545, 546, 547, 548, 549, 550, 551, 552, 553, 554, 555, 556, 557, 385, 386, 387, 558, 559, 560, 561, 562, 389, 390, 391, 392, 393, 394, 395, 396, 397, 563, 564, 565, 566, 567, 568, 569, 570, 571, 572, 573, 574, 575, 576, 577, 578, 579, 580, 896, 897, 898, 899, 900, 901, 902, 903, 948, 949, 950, 930, 931, 932, 933, 934, 935, 936, 937, 938, 939, 940, 941, 942, 943, 944, 945, 946, 947, 966, 967, 954, 955, 956, 957, 958, 959, 960, 961, 962, 951, 952, 953] (by decide +kernel) (by decide +kernel)
set_option maxRecDepth 20000 in
theorem gL_law_X6_pauses : GoodIn wsL_law (wsV RL 45 RX6 yX6_pauses wsX6_pauses) := goodIn_app (goodIn_of _ (by decide +kernel)) ggL_law_X6_pauses
set_option maxRecDepth 20000 in
theorem ggL_law_X7_pauses : GoodIn wsL_law wsX7_pauses := goodIn_r _ [584, 191, 585, 586, 5, 587, 192, 193, 194, 214, 215, 216, 217, 218, 101, 102, 98, 100, 588, 589, 590, 591, 592, 593, 594, 595, 596, 597, 108, 598, 350, 351, 352, 353, 354, 355, 356, 357, 202, 203, 204, 205, 284, 285, 286, 287, 272, 273, 274, 275, 599, 600, 601, 602, 603, 604, 605, 606, 206, 207, 208, 209, 607, 608, 609, 610, 611, 612, 613, 614, 109, 110, 615, 616, 617, 618, 619, 620, 621, 622, 623, 624, 625, 626, 627, 628, 629, 630, 210, 211, 212, 213, 223, 224, 225, 226, 292, 293, 294, 295, 288, 289, 290, 291, 631, 632, 633, 634, 410, 411, 412, 413, 414, 415, 416, 417, 635, 636, 637, 638, 418, 419, 420, 421, 422, 423, 424, 425, 426, 427, 428, 429, 639, 640, 641, 642, 643, 644, 645, 646, 647, 904, 905, 906, 907, 908, 909, 910, 911, 912, 913, 914, 915, 916, 917, 918, 919, 920, 921, 922, 923, 924, 925, 926, 927, 928, 929] (by decide +kernel) (by decide +kernel)
set_option maxRecDepth 20000 in
theorem gL_law_X7_pauses : GoodIn wsL_law (wsV RL 48 RX7 yX7_pauses wsX7_pauses) := goodIn_app (goodIn_of _ (by decide +kernel)) ggL_law_X7_pauses
set_option maxRecDepth 20000 in
theorem ggL_law_X6_undo : GoodIn wsL_law wsX6_undo := goodIn_r _ [651, 20, 652, 15, 653, 654, 655, 19, 656, 153, 154, 74, 159, 160, 161, 14, 162, 41, 163, 164, 165, 166, 42, 43, 44, 45, 46, 47, 48, 49, 50, 54, 55, 167, 56, 57, 59, 168, 60, 169, 170, 171, 53, 172, 64, 173, 174, 896, 897, 898, 899, 900, 901, 902, 903, 948, 949, 950, 930, 931, 932, 933, 934, 935, 936, 937, 938, 939, 940, 941, 942, 943, 944, 945, 946, 947, 966, 967] (by decide +kernel) (by decide +kernel)
set_option maxRecDepth 20000 in
theorem gL_law_X6_undo : GoodIn wsL_law (wsV RL 49 RX6 yX6_undo wsX6_undo) := goodIn_app (goodIn_of _ (by decide +kernel)) ggL_law_X6_undo
set_option maxRecDepth 20000 in
theorem ggL_law_X7_undo : GoodIn wsL_law wsX7_undo := goodIn_r _ [660, 191, 218, 98, 101, 100, 102, 904, 905, 906, 907, 908, 909, 910, 911, 912, 913, 914, 915, 916, 917, 918, 919, 920, 921, 922, 923, 924, 925, 926, 927, 928, 929] (by decide +kernel) (by decide +kernel)
set_option maxRecDepth 20000 in
theorem gL_law_X7_undo : GoodIn wsL_law (wsV RL 52 RX7 yX7_undo wsX7_undo) := goodIn_app (goodIn_of _ (by decide +kernel)) ggL_law_X7_undo
set_option maxRecDepth 20000 in
theorem ggL_law_X6_root : GoodIn wsL_law wsX6_root := goodIn_r _ [664, 15, 118, 122, 123, 2, 124, 119, 120, 121, 896, 897, 898, 899, 900, 901, 902, 903, 930, 931, 932, 933, 934, 935, 936, 937, 938, 939, 940, 941, 942, 943, 944, 945, 946, 947] (by decide +kernel) (by decide +kernel)
set_option maxRecDepth 20000 in
theorem gL_law_X6_root : GoodIn wsL_law (wsV RL 53 RX6 yX6_root wsX6_root) := goodIn_app (goodIn_of _ (by decide +kernel)) ggL_law_X6_root
set_option maxRecDepth 20000 in
theorem ggL_law_X7_root : GoodIn wsL_law wsX7_root := goodIn_r _ [668, 191, 98, 195, 196, 5, 197, 192, 193, 194, 904, 905, 906, 907, 908, 909, 910, 911, 912, 913, 914, 915, 916, 917, 918, 919, 920, 921, 922, 923, 924, 925, 926, 927, 928, 929] (by decide +kernel) (by decide +kernel)
set_option maxRecDepth 20000 in
theorem gL_law_X7_root : GoodIn wsL_law (wsV RL 56 RX7 yX7_root wsX7_root) := goodIn_app (goodIn_of _ (by decide +kernel)) ggL_law_X7_root
set_option maxRecDepth 20000 in
theorem ggL_law_X6_thing : GoodIn wsL_law wsX6_thing := goodIn_r _ [672, 15, 673, 674, 675, 362, 676, 119, 120, 2, 121, 677, 130, 131, 14, 132, 45, 300, 251, 252, 253, 48, 896, 897, 898, 899, 900, 901, 902, 903, 930, 931, 932, 933, 934, 935, 936, 937, 938, 939, 940, 941, 942, 943, 944, 945, 946, 947] (by decide +kernel) (by decide +kernel)
set_option maxRecDepth 20000 in
theorem gL_law_X6_thing : GoodIn wsL_law (wsV RL 57 RX6 yX6_thing wsX6_thing) := goodIn_app (goodIn_of _ (by decide +kernel)) ggL_law_X6_thing
set_option maxRecDepth 20000 in
theorem ggL_law_X7_thing : GoodIn wsL_law wsX7_thing := goodIn_r _ [681, 191, 98, 192, 193, 5, 194, 202, 203, 204, 205, 272, 273, 274, 275, 904, 905, 906, 907, 908, 909, 910, 911, 912, 913, 914, 915, 916, 917, 918, 919, 920, 921, 922, 923, 924, 925, 926, 927, 928, 929] (by decide +kernel) (by decide +kernel)
set_option maxRecDepth 20000 in
theorem gL_law_X7_thing : GoodIn wsL_law (wsV RL 60 RX7 yX7_thing wsX7_thing) := goodIn_app (goodIn_of _ (by decide +kernel)) ggL_law_X7_thing
set_option maxRecDepth 20000 in
theorem ggL_law_X6_region : GoodIn wsL_law wsX6_region := goodIn_r _ [685, 15, 686, 687, 688, 689, 690, 691, 2, 692, 119, 120, 121, 693, 559, 560, 14, 561, 376, 377, 378, 379, 46, 129, 130, 131, 132, 45, 694, 575, 576, 577, 578, 579, 580, 896, 897, 898, 899, 900, 901, 902, 903, 930, 931, 932, 933, 934, 935, 936, 937, 938, 939, 940, 941, 942, 943, 944, 945, 946, 947] (by decide +kernel) (by decide +kernel)
set_option maxRecDepth 20000 in
theorem gL_law_X6_region : GoodIn wsL_law (wsV RL 61 RX6 yX6_region wsX6_region) := goodIn_app (goodIn_of _ (by decide +kernel)) ggL_law_X6_region
set_option maxRecDepth 20000 in
theorem ggL_law_X7_region : GoodIn wsL_law wsX7_region := goodIn_r _ [698, 191, 699, 700, 5, 701, 192, 193, 194, 202, 203, 204, 205, 98, 272, 273, 274, 275, 206, 207, 208, 209, 639, 640, 641, 904, 905, 906, 907, 908, 909, 910, 911, 912, 913, 914, 915, 916, 917, 918, 919, 920, 921, 922, 923, 924, 925, 926, 927, 928, 929] (by decide +kernel) (by decide +kernel)
set_option maxRecDepth 20000 in
theorem gL_law_X7_region : GoodIn wsL_law (wsV RL 64 RX7 yX7_region wsX7_region) := goodIn_app (goodIn_of _ (by decide +kernel)) ggL_law_X7_region
set_option maxRecDepth 20000 in
theorem ggL_law_X6_remembers : GoodIn wsL_law wsX6_remembers := goodIn_r _ [705, 15, 689, 690, 691, 2, 692, 119, 120, 121, 706, 493, 494, 896, 897, 898, 899, 900, 901, 902, 903, 930, 931, 932, 933, 934, 935, 936, 937, 938, 939, 940, 941, 942, 943, 944, 945, 946, 947] (by decide +kernel) (by decide +kernel)
set_option maxRecDepth 20000 in
theorem gL_law_X6_remembers : GoodIn wsL_law (wsV RL 65 RX6 yX6_remembers wsX6_remembers) := goodIn_app (goodIn_of _ (by decide +kernel)) ggL_law_X6_remembers
set_option maxRecDepth 20000 in
theorem ggL_law_X7_remembers : GoodIn wsL_law wsX7_remembers := goodIn_r _ [710, 191, 699, 700, 5, 701, 192, 193, 194, 206, 207, 208, 209, 98, 904, 905, 906, 907, 908, 909, 910, 911, 912, 913, 914, 915, 916, 917, 918, 919, 920, 921, 922, 923, 924, 925, 926, 927, 928, 929] (by decide +kernel) (by decide +kernel)
set_option maxRecDepth 20000 in
theorem gL_law_X7_remembers : GoodIn wsL_law (wsV RL 68 RX7 yX7_remembers wsX7_remembers) := goodIn_app (goodIn_of _ (by decide +kernel)) ggL_law_X7_remembers
set_option maxRecDepth 20000 in
theorem ggL_law_X6_dirty : GoodIn wsL_law wsX6_dirty := goodIn_r _ [714, 15, 317, 715, 325, 326, 53, 327, 174, 64, 896, 897, 898, 899, 900, 901, 902, 903, 930, 931, 932, 933, 934, 935, 936, 937, 938, 939, 940, 941, 942, 943, 944, 945, 946, 947, 966, 967] (by decide +kernel) (by decide +kernel)
set_option maxRecDepth 20000 in
theorem gL_law_X6_dirty : GoodIn wsL_law (wsV RL 69 RX6 yX6_dirty wsX6_dirty) := goodIn_app (goodIn_of _ (by decide +kernel)) ggL_law_X6_dirty
set_option maxRecDepth 20000 in
theorem ggL_law_X7_dirty : GoodIn wsL_law wsX7_dirty := goodIn_r _ [719, 191, 98, 904, 905, 906, 907, 908, 909, 910, 911, 912, 913, 914, 915, 916, 917, 918, 919, 920, 921, 922, 923, 924, 925, 926, 927, 928, 929] (by decide +kernel) (by decide +kernel)
set_option maxRecDepth 20000 in
theorem gL_law_X7_dirty : GoodIn wsL_law (wsV RL 72 RX7 yX7_dirty wsX7_dirty) := goodIn_app (goodIn_of _ (by decide +kernel)) ggL_law_X7_dirty
set_option maxRecDepth 20000 in
theorem ggL_law_X6_grey : GoodIn wsL_law wsX6_grey := goodIn_r _ [723, 15, 363, 715, 325, 326, 53, 327, 174, 64, 896, 897, 898, 899, 900, 901, 902, 903, 930, 931, 932, 933, 934, 935, 936, 937, 938, 939, 940, 941, 942, 943, 944, 945, 946, 947, 966, 967] (by decide +kernel) (by decide +kernel)
set_option maxRecDepth 20000 in
theorem gL_law_X6_grey : GoodIn wsL_law (wsV RL 73 RX6 yX6_grey wsX6_grey) := goodIn_app (goodIn_of _ (by decide +kernel)) ggL_law_X6_grey
set_option maxRecDepth 20000 in
theorem ggL_law_X7_grey : GoodIn wsL_law wsX7_grey := goodIn_r _ [727, 191, 98, 904, 905, 906, 907, 908, 909, 910, 911, 912, 913, 914, 915, 916, 917, 918, 919, 920, 921, 922, 923, 924, 925, 926, 927, 928, 929] (by decide +kernel) (by decide +kernel)
set_option maxRecDepth 20000 in
theorem gL_law_X7_grey : GoodIn wsL_law (wsV RL 76 RX7 yX7_grey wsX7_grey) := goodIn_app (goodIn_of _ (by decide +kernel)) ggL_law_X7_grey
set_option maxRecDepth 20000 in
theorem ggL_law_X6_learnt : GoodIn wsL_law wsX6_learnt := goodIn_r _ [731, 732, 15, 733, 734, 119, 120, 2, 121, 896, 897, 898, 899, 900, 901, 902, 903, 930, 931, 932, 933, 934, 935, 936, 937, 938, 939, 940, 941, 942, 943, 944, 945, 946, 947] (by decide +kernel) (by decide +kernel)
set_option maxRecDepth 20000 in
theorem gL_law_X6_learnt : GoodIn wsL_law (wsV RL 77 RX6 yX6_learnt wsX6_learnt) := goodIn_app (goodIn_of _ (by decide +kernel)) ggL_law_X6_learnt
set_option maxRecDepth 20000 in
theorem ggL_law_X7_learnt : GoodIn wsL_law wsX7_learnt := goodIn_r _ [738, 191, 739, 100, 192, 193, 5, 194, 904, 905, 906, 907, 908, 909, 910, 911, 912, 913, 914, 915, 916, 917, 918, 919, 920, 921, 922, 923, 924, 925, 926, 927, 928, 929] (by decide +kernel) (by decide +kernel)
set_option maxRecDepth 20000 in
theorem gL_law_X7_learnt : GoodIn wsL_law (wsV RL 80 RX7 yX7_learnt wsX7_learnt) := goodIn_app (goodIn_of _ (by decide +kernel)) ggL_law_X7_learnt
set_option maxRecDepth 20000 in
theorem ggL_law_X6_chooses : GoodIn wsL_law wsX6_chooses := goodIn_r _ [743, 27, 15, 744, 450, 451, 2, 452, 119, 120, 121, 745, 473, 474, 26, 475, 476, 477, 478, 479, 480, 481, 482, 483, 484, 485, 486, 487, 488, 489, 490, 491, 492, 493, 494, 896, 897, 898, 899, 900, 901, 902, 903, 951, 952, 953, 930, 931, 932, 933, 934, 935, 936, 937, 938, 939, 940, 941, 942, 943, 944, 945, 946, 947] (by decide +kernel) (by decide +kernel)
set_option maxRecDepth 20000 in
theorem gL_law_X6_chooses : GoodIn wsL_law (wsV RL 81 RX6 yX6_chooses wsX6_chooses) := goodIn_app (goodIn_of _ (by decide +kernel)) ggL_law_X6_chooses
set_option maxRecDepth 20000 in
theorem ggL_law_X7_chooses : GoodIn wsL_law wsX7_chooses := goodIn_r _ [749, 191, 603, 585, 586, 5, 587, 192, 193, 194, 599, 600, 601, 602, 604, 605, 100, 606, 206, 207, 208, 209, 98, 607, 608, 609, 610, 904, 905, 906, 907, 908, 909, 910, 911, 912, 913, 914, 915, 916, 917, 918, 919, 920, 921, 922, 923, 924, 925, 926, 927, 928, 929] (by decide +kernel) (by decide +kernel)
set_option maxRecDepth 20000 in
theorem gL_law_X7_chooses : GoodIn wsL_law (wsV RL 84 RX7 yX7_chooses wsX7_chooses) := goodIn_app (goodIn_of _ (by decide +kernel)) ggL_law_X7_chooses
set_option maxRecDepth 20000 in
theorem ggL_law_X6_foretold : GoodIn wsL_law wsX6_foretold := goodIn_r _ [753, 27, 15, 732, 754, 450, 451, 2, 452, 119, 120, 121, 745, 473, 474, 26, 475, 476, 477, 478, 479, 480, 481, 482, 483, 484, 485, 486, 487, 488, 489, 490, 491, 492, 493, 494, 896, 897, 898, 899, 900, 901, 902, 903, 951, 952, 953, 930, 931, 932, 933, 934, 935, 936, 937, 938, 939, 940, 941, 942, 943, 944, 945, 946, 947] (by decide +kernel) (by decide +kernel)
set_option maxRecDepth 20000 in
theorem gL_law_X6_foretold : GoodIn wsL_law (wsV RL 85 RX6 yX6_foretold wsX6_foretold) := goodIn_app (goodIn_of _ (by decide +kernel)) ggL_law_X6_foretold
set_option maxRecDepth 20000 in
theorem ggL_law_X7_foretold : GoodIn wsL_law wsX7_foretold := goodIn_r _ [758, 191, 739, 606, 585, 586, 5, 587, 192, 193, 194, 599, 600, 601, 602, 603, 604, 605, 100, 206, 207, 208, 209, 98, 607, 608, 609, 610, 904, 905, 906, 907, 908, 909, 910, 911, 912, 913, 914, 915, 916, 917, 918, 919, 920, 921, 922, 923, 924, 925, 926, 927, 928, 929] (by decide +kernel) (by decide +kernel)
set_option maxRecDepth 20000 in
theorem gL_law_X7_foretold : GoodIn wsL_law (wsV RL 88 RX7 yX7_foretold wsX7_foretold) := goodIn_app (goodIn_of _ (by decide +kernel)) ggL_law_X7_foretold
set_option maxRecDepth 20000 in
theorem ggL_law_X6_would : GoodIn wsL_law wsX6_would := goodIn_r _ [762, 16, 15, 31, 450, 451, 2, 452, 119, 120, 121, 763, 160, 161, 14, 162, 41, 163, 164, 165, 166, 42, 43, 44, 45, 46, 47, 48, 49, 50, 54, 55, 167, 56, 57, 59, 168, 60, 169, 170, 171, 53, 172, 64, 173, 174, 453, 454, 455, 30, 456, 83, 457, 458, 459, 460, 85, 461, 86, 462, 463, 464, 465, 466, 467, 468, 469, 67, 470, 471, 320, 321, 322, 323, 324, 325, 326, 327, 328, 329, 330, 331, 332, 333, 334, 335, 336, 337, 338, 339, 129, 130, 131, 132, 262, 263, 264, 265, 266, 267, 250, 251, 252, 253, 340, 341, 342, 343, 344, 345, 472, 473, 474, 26, 475, 476, 477, 478, 479, 480, 481, 482, 483, 484, 485, 486, 487, 488, 489, 490, 491, 492, 493, 494, 495, 496, 497, 498, 499, 500, 501, 502, 503, 504, 505, 506, 507, 508, 509, 259, 260, 261, 510, 511, 512, 513, 514, 515, 516, 517, 518, 519, 520, 521, 522, 523, 376, 377, 378, 379, 524, 525, 526, 527, 528, 529, 530, 531, 532, 533, 534, 535, 536, 537, 146, 147, 148, 538, 142, 143, 144, 539, 184, 185, 186, 540, 541, 542, 543, 544, 545, 546, 547, 548, 549, 550, 551, 552, 553, 554, 555, 556, 557, 385, 386, 387, 558, 559, 560, 561, 562, 389, 390, 391, 392, 393, 394, 395, 396, 397, 563, 564, 565, 566, 567, 568, 569, 570, 571, 572, 573, 574, 575, 576, 577, 578, 579, 580, 896, 897, 898, 899, 900, 901, 902, 903, 930, 931, 932, 933, 934, 935, 936, 937, 938, 939, 940, 941, 942, 943, 944, 945, 946, 947, 966, 967, 954, 955, 956, 957, 958, 959, 960, 961, 962, 951, 952, 953] (by decide +kernel) (by decide +kernel)
set_option maxRecDepth 20000 in
theorem gL_law_X6_would : GoodIn wsL_law (wsV RL 89 RX6 yX6_would wsX6_would) := goodIn_app (goodIn_of _ (by decide +kernel)) ggL_law_X6_would
set_option maxRecDepth 20000 in
theorem ggL_law_X7_would : GoodIn wsL_law wsX7_would := goodIn_r _ [767, 191, 106, 98, 107, 100, 585, 586, 5, 587, 192, 193, 194, 588, 589, 590, 591, 592, 593, 594, 595, 596, 597, 108, 598, 350, 351, 352, 353, 354, 355, 356, 357, 202, 203, 204, 205, 284, 285, 286, 287, 272, 273, 274, 275, 599, 600, 601, 602, 603, 604, 605, 606, 206, 207, 208, 209, 607, 608, 609, 610, 611, 612, 613, 614, 109, 110, 615, 616, 617, 618, 619, 620, 621, 622, 623, 624, 625, 626, 627, 628, 629, 630, 210, 211, 212, 213, 223, 224, 225, 226, 292, 293, 294, 295, 288, 289, 290, 291, 631, 632, 633, 634, 410, 411, 412, 413, 414, 415, 416, 417, 635, 636, 637, 638, 418, 419, 420, 421, 422, 423, 424, 425, 426, 427, 428, 429, 639, 640, 641, 642, 643, 644, 645, 646, 647, 904, 905, 906, 907, 908, 909, 910, 911, 912, 913, 914, 915, 916, 917, 918, 919, 920, 921, 922, 923, 924, 925, 926, 927, 928, 929] (by decide +kernel) (by decide +kernel)
set_option maxRecDepth 20000 in
theorem gL_law_X7_would : GoodIn wsL_law (wsV RL 92 RX7 yX7_would wsX7_would) := goodIn_app (goodIn_of _ (by decide +kernel)) ggL_law_X7_would
set_option maxRecDepth 20000 in
theorem ggL_law_X6_rubbish : GoodIn wsL_law wsX6_rubbish := goodIn_r _ [771, 35, 15, 772, 673, 119, 120, 2, 121, 773, 774, 775, 34, 776, 90, 93, 777, 778, 779, 469, 67, 470, 780, 781, 782, 783, 784, 259, 260, 53, 261, 174, 64, 785, 325, 326, 327, 786, 251, 252, 14, 253, 48, 677, 130, 131, 132, 45, 896, 897, 898, 899, 900, 901, 902, 903, 963, 964, 965, 930, 931, 932, 933, 934, 935, 936, 937, 938, 939, 940, 941, 942, 943, 944, 945, 946, 947, 966, 967] (by decide +kernel) (by decide +kernel)
set_option maxRecDepth 20000 in
theorem gL_law_X6_rubbish : GoodIn wsL_law (wsV RL 93 RX6 yX6_rubbish wsX6_rubbish) := goodIn_app (goodIn_of _ (by decide +kernel)) ggL_law_X6_rubbish
set_option maxRecDepth 20000 in
theorem ggL_law_X7_rubbish : GoodIn wsL_law wsX7_rubbish := goodIn_r _ [790, 191, 111, 192, 193, 5, 194, 791, 792, 793, 794, 98, 795, 796, 797, 798, 272, 273, 274, 275, 202, 203, 204, 205, 904, 905, 906, 907, 908, 909, 910, 911, 912, 913, 914, 915, 916, 917, 918, 919, 920, 921, 922, 923, 924, 925, 926, 927, 928, 929] (by decide +kernel) (by decide +kernel)
set_option maxRecDepth 20000 in
theorem gL_law_X7_rubbish : GoodIn wsL_law (wsV RL 96 RX7 yX7_rubbish wsX7_rubbish) := goodIn_app (goodIn_of _ (by decide +kernel)) ggL_law_X7_rubbish
set_option maxRecDepth 20000 in
theorem ggL_law_X6_way : GoodIn wsL_law wsX6_way := goodIn_r _ [802, 15, 35, 803, 119, 120, 2, 121, 677, 130, 131, 14, 132, 45, 804, 805, 806, 34, 807, 91, 808, 66, 67, 68, 809, 810, 811, 812, 813, 786, 251, 252, 253, 48, 814, 815, 816, 817, 818, 819, 820, 821, 778, 822, 823, 824, 825, 826, 827, 828, 829, 830, 831, 832, 833, 834, 156, 157, 158, 896, 897, 898, 899, 900, 901, 902, 903, 963, 964, 965, 930, 931, 932, 933, 934, 935, 936, 937, 938, 939, 940, 941, 942, 943, 944, 945, 946, 947] (by decide +kernel) (by decide +kernel)
set_option maxRecDepth 20000 in
theorem gL_law_X6_way : GoodIn wsL_law (wsV RL 97 RX6 yX6_way wsX6_way) := goodIn_app (goodIn_of _ (by decide +kernel)) ggL_law_X6_way
set_option maxRecDepth 20000 in
theorem ggL_law_X7_way : GoodIn wsL_law wsX7_way := goodIn_r _ [838, 191, 111, 112, 202, 203, 204, 5, 205, 98, 192, 193, 194, 791, 792, 793, 794, 795, 796, 797, 798, 272, 273, 274, 275, 839, 840, 841, 842, 843, 844, 845, 846, 904, 905, 906, 907, 908, 909, 910, 911, 912, 913, 914, 915, 916, 917, 918, 919, 920, 921, 922, 923, 924, 925, 926, 927, 928, 929] (by decide +kernel) (by decide +kernel)
set_option maxRecDepth 20000 in
theorem gL_law_X7_way : GoodIn wsL_law (wsV RL 100 RX7 yX7_way wsX7_way) := goodIn_app (goodIn_of _ (by decide +kernel)) ggL_law_X7_way
set_option maxRecDepth 20000 in
theorem ggL_law_X6_keep : GoodIn wsL_law wsX6_keep := goodIn_r _ [850, 21, 15, 23, 851, 852, 2, 853, 119, 120, 121, 763, 160, 161, 14, 162, 41, 163, 164, 165, 166, 42, 43, 44, 45, 46, 47, 48, 49, 50, 54, 55, 167, 56, 57, 59, 168, 60, 169, 170, 171, 53, 172, 64, 173, 174, 854, 855, 856, 857, 129, 130, 131, 132, 896, 897, 898, 899, 900, 901, 902, 903, 930, 931, 932, 933, 934, 935, 936, 937, 938, 939, 940, 941, 942, 943, 944, 945, 946, 947, 966, 967] (by decide +kernel) (by decide +kernel)
set_option maxRecDepth 20000 in
theorem gL_law_X6_keep : GoodIn wsL_law (wsV RL 101 RX6 yX6_keep wsX6_keep) := goodIn_app (goodIn_of _ (by decide +kernel)) ggL_law_X6_keep
set_option maxRecDepth 20000 in
theorem ggL_law_X7_keep : GoodIn wsL_law wsX7_keep := goodIn_r _ [861, 191, 103, 98, 104, 100, 105, 192, 193, 5, 194, 862, 863, 864, 865, 202, 203, 204, 205, 904, 905, 906, 907, 908, 909, 910, 911, 912, 913, 914, 915, 916, 917, 918, 919, 920, 921, 922, 923, 924, 925, 926, 927, 928, 929] (by decide +kernel) (by decide +kernel)
set_option maxRecDepth 20000 in
theorem gL_law_X7_keep : GoodIn wsL_law (wsV RL 104 RX7 yX7_keep wsX7_keep) := goodIn_app (goodIn_of _ (by decide +kernel)) ggL_law_X7_keep
set_option maxRecDepth 20000 in
theorem ggL_law_X6_back : GoodIn wsL_law wsX6_back := goodIn_r _ [869, 23, 15, 21, 20, 851, 852, 2, 853, 119, 120, 121, 763, 160, 161, 14, 162, 41, 163, 164, 165, 166, 42, 43, 44, 45, 46, 47, 48, 49, 50, 54, 55, 167, 56, 57, 59, 168, 60, 169, 170, 171, 53, 172, 64, 173, 174, 870, 871, 872, 19, 873, 154, 854, 855, 856, 857, 129, 130, 131, 132, 896, 897, 898, 899, 900, 901, 902, 903, 930, 931, 932, 933, 934, 935, 936, 937, 938, 939, 940, 941, 942, 943, 944, 945, 946, 947, 966, 967, 948, 949, 950] (by decide +kernel) (by decide +kernel)
set_option maxRecDepth 20000 in
theorem gL_law_X6_back : GoodIn wsL_law (wsV RL 105 RX6 yX6_back wsX6_back) := goodIn_app (goodIn_of _ (by decide +kernel)) ggL_law_X6_back
set_option maxRecDepth 20000 in
theorem ggL_law_X7_back : GoodIn wsL_law wsX7_back := goodIn_r _ [877, 191, 105, 98, 103, 100, 104, 218, 192, 193, 5, 194, 862, 863, 864, 865, 202, 203, 204, 205, 904, 905, 906, 907, 908, 909, 910, 911, 912, 913, 914, 915, 916, 917, 918, 919, 920, 921, 922, 923, 924, 925, 926, 927, 928, 929] (by decide +kernel) (by decide +kernel)
set_option maxRecDepth 20000 in
theorem gL_law_X7_back : GoodIn wsL_law (wsV RL 108 RX7 yX7_back wsX7_back) := goodIn_app (goodIn_of _ (by decide +kernel)) ggL_law_X7_back
set_option maxRecDepth 20000 in
theorem ggL_law_X6_count : GoodIn wsL_law wsX6_count := goodIn_r _ [881, 15, 317, 318, 363, 362, 882, 883, 20, 652, 854, 855, 856, 14, 857, 129, 130, 131, 132, 45, 884, 885, 886, 887, 41, 896, 897, 898, 899, 900, 901, 902, 903, 930, 931, 932, 933, 934, 935, 936, 937, 938, 939, 940, 941, 942, 943, 944, 945, 946, 947, 966, 967, 948, 949, 950] (by decide +kernel) (by decide +kernel)
set_option maxRecDepth 20000 in
theorem gL_law_X6_count : GoodIn wsL_law (wsV RL 109 RX6 yX6_count wsX6_count) := goodIn_app (goodIn_of _ (by decide +kernel)) ggL_law_X6_count
set_option maxRecDepth 20000 in
theorem ggL_law_X7_count : GoodIn wsL_law wsX7_count := goodIn_r _ [891, 191, 98, 218, 862, 863, 864, 5, 865, 202, 203, 204, 205, 192, 193, 194, 892, 893, 894, 895, 206, 207, 208, 209, 904, 905, 906, 907, 908, 909, 910, 911, 912, 913, 914, 915, 916, 917, 918, 919, 920, 921, 922, 923, 924, 925, 926, 927, 928, 929] (by decide +kernel) (by decide +kernel)
set_option maxRecDepth 20000 in
theorem gL_law_X7_count : GoodIn wsL_law (wsV RL 112 RX7 yX7_count wsX7_count) := goodIn_app (goodIn_of _ (by decide +kernel)) ggL_law_X7_count
theorem dL_law_0 : decode cL_law 0 = .ok (.new 7, 3) := by decide +kernel
theorem dL_law_3 : decode cL_law 3 = .ok (.dup, 1) := by decide +kernel
theorem dL_law_4 : decode cL_law 4 = .ok (.invokespecial 9, 3) := by decide +kernel
theorem dL_law_7 : decode cL_law 7 = .ok (.astore_n 1, 1) := by decide +kernel
theorem dL_law_8 : decode cL_law 8 = .ok (.new 10, 3) := by decide +kernel
theorem dL_law_11 : decode cL_law 11 = .ok (.dup, 1) := by decide +kernel
theorem dL_law_12 : decode cL_law 12 = .ok (.invokespecial 12, 3) := by decide +kernel
theorem dL_law_15 : decode cL_law 15 = .ok (.astore_n 2, 1) := by decide +kernel
theorem dL_law_16 : decode cL_law 16 = .ok (.iconst 0, 1) := by decide +kernel
theorem dL_law_17 : decode cL_law 17 = .ok (.istore_n 3, 1) := by decide +kernel
theorem dL_law_18 : decode cL_law 18 = .ok (.iload_n 3, 1) := by decide +kernel
theorem dL_law_19 : decode cL_law 19 = .ok (.aload_n 0, 1) := by decide +kernel
theorem dL_law_20 : decode cL_law 20 = .ok (.arraylength, 1) := by decide +kernel
theorem dL_law_21 : decode cL_law 21 = .ok (.iconst 4, 1) := by decide +kernel
theorem dL_law_22 : decode cL_law 22 = .ok (.isub, 1) := by decide +kernel
theorem dL_law_23 : decode cL_law 23 = .ok (.if_icmp .gt 759, 3) := by decide +kernel
theorem dL_law_26 : decode cL_law 26 = .ok (.aload_n 0, 1) := by decide +kernel
theorem dL_law_27 : decode cL_law 27 = .ok (.iload_n 3, 1) := by decide +kernel
theorem dL_law_28 : decode cL_law 28 = .ok (.iaload, 1) := by decide +kernel
theorem dL_law_29 : decode cL_law 29 = .ok (.bipush 31, 2) := by decide +kernel
theorem dL_law_31 : decode cL_law 31 = .ok (.iand, 1) := by decide +kernel
theorem dL_law_32 : decode cL_law 32 = .ok (.tableswitch 744 0 23 #[112, 145, 188, 231, 264, 287, 300, 323, 346, 359, 382, 415, 448, 481, 504, 527, 550, 573, 596, 619, 642, 675, 698, 721], 112) := by decide +kernel
theorem dL_law_144 : decode cL_law 144 = .ok (.aload_n 1, 1) := by decide +kernel
theorem dL_law_145 : decode cL_law 145 = .ok (.aload_n 0, 1) := by decide +kernel
theorem dL_law_146 : decode cL_law 146 = .ok (.iload_n 3, 1) := by decide +kernel
theorem dL_law_147 : decode cL_law 147 = .ok (.iconst 1, 1) := by decide +kernel
theorem dL_law_148 : decode cL_law 148 = .ok (.iadd, 1) := by decide +kernel
theorem dL_law_149 : decode cL_law 149 = .ok (.iaload, 1) := by decide +kernel
theorem dL_law_150 : decode cL_law 150 = .ok (.aload_n 0, 1) := by decide +kernel
theorem dL_law_151 : decode cL_law 151 = .ok (.iload_n 3, 1) := by decide +kernel
theorem dL_law_152 : decode cL_law 152 = .ok (.iconst 2, 1) := by decide +kernel
theorem dL_law_153 : decode cL_law 153 = .ok (.iadd, 1) := by decide +kernel
theorem dL_law_154 : decode cL_law 154 = .ok (.iaload, 1) := by decide +kernel
theorem dL_law_155 : decode cL_law 155 = .ok (.invokevirtual 13, 3) := by decide +kernel
theorem dL_law_158 : decode cL_law 158 = .ok (.aload_n 2, 1) := by decide +kernel
theorem dL_law_159 : decode cL_law 159 = .ok (.aload_n 0, 1) := by decide +kernel
theorem dL_law_160 : decode cL_law 160 = .ok (.iload_n 3, 1) := by decide +kernel
theorem dL_law_161 : decode cL_law 161 = .ok (.iconst 1, 1) := by decide +kernel
theorem dL_law_162 : decode cL_law 162 = .ok (.iadd, 1) := by decide +kernel
theorem dL_law_163 : decode cL_law 163 = .ok (.iaload, 1) := by decide +kernel
theorem dL_law_164 : decode cL_law 164 = .ok (.aload_n 0, 1) := by decide +kernel
theorem dL_law_165 : decode cL_law 165 = .ok (.iload_n 3, 1) := by decide +kernel
theorem dL_law_166 : decode cL_law 166 = .ok (.iconst 2, 1) := by decide +kernel
theorem dL_law_167 : decode cL_law 167 = .ok (.iadd, 1) := by decide +kernel
theorem dL_law_168 : decode cL_law 168 = .ok (.iaload, 1) := by decide +kernel
theorem dL_law_169 : decode cL_law 169 = .ok (.invokevirtual 17, 3) := by decide +kernel
theorem dL_law_172 : decode cL_law 172 = .ok (.if_icmp .eq 604, 3) := by decide +kernel
theorem dL_law_175 : decode cL_law 175 = .ok (.iconst 0, 1) := by decide +kernel
theorem dL_law_176 : decode cL_law 176 = .ok (.ireturn, 1) := by decide +kernel
theorem dL_law_177 : decode cL_law 177 = .ok (.aload_n 1, 1) := by decide +kernel
theorem dL_law_178 : decode cL_law 178 = .ok (.aload_n 0, 1) := by decide +kernel
theorem dL_law_179 : decode cL_law 179 = .ok (.iload_n 3, 1) := by decide +kernel
theorem dL_law_180 : decode cL_law 180 = .ok (.iconst 1, 1) := by decide +kernel
theorem dL_law_181 : decode cL_law 181 = .ok (.iadd, 1) := by decide +kernel
theorem dL_law_182 : decode cL_law 182 = .ok (.iaload, 1) := by decide +kernel
theorem dL_law_183 : decode cL_law 183 = .ok (.aload_n 0, 1) := by decide +kernel
theorem dL_law_184 : decode cL_law 184 = .ok (.iload_n 3, 1) := by decide +kernel
theorem dL_law_185 : decode cL_law 185 = .ok (.iconst 2, 1) := by decide +kernel
theorem dL_law_186 : decode cL_law 186 = .ok (.iadd, 1) := by decide +kernel
theorem dL_law_187 : decode cL_law 187 = .ok (.iaload, 1) := by decide +kernel
theorem dL_law_188 : decode cL_law 188 = .ok (.aload_n 0, 1) := by decide +kernel
theorem dL_law_189 : decode cL_law 189 = .ok (.iload_n 3, 1) := by decide +kernel
theorem dL_law_190 : decode cL_law 190 = .ok (.iconst 3, 1) := by decide +kernel
theorem dL_law_191 : decode cL_law 191 = .ok (.iadd, 1) := by decide +kernel
theorem dL_law_192 : decode cL_law 192 = .ok (.iaload, 1) := by decide +kernel
theorem dL_law_193 : decode cL_law 193 = .ok (.invokevirtual 18, 3) := by decide +kernel
theorem dL_law_196 : decode cL_law 196 = .ok (.aload_n 2, 1) := by decide +kernel
theorem dL_law_197 : decode cL_law 197 = .ok (.aload_n 0, 1) := by decide +kernel
theorem dL_law_198 : decode cL_law 198 = .ok (.iload_n 3, 1) := by decide +kernel
theorem dL_law_199 : decode cL_law 199 = .ok (.iconst 1, 1) := by decide +kernel
theorem dL_law_200 : decode cL_law 200 = .ok (.iadd, 1) := by decide +kernel
theorem dL_law_201 : decode cL_law 201 = .ok (.iaload, 1) := by decide +kernel
theorem dL_law_202 : decode cL_law 202 = .ok (.aload_n 0, 1) := by decide +kernel
theorem dL_law_203 : decode cL_law 203 = .ok (.iload_n 3, 1) := by decide +kernel
theorem dL_law_204 : decode cL_law 204 = .ok (.iconst 2, 1) := by decide +kernel
theorem dL_law_205 : decode cL_law 205 = .ok (.iadd, 1) := by decide +kernel
theorem dL_law_206 : decode cL_law 206 = .ok (.iaload, 1) := by decide +kernel
theorem dL_law_207 : decode cL_law 207 = .ok (.aload_n 0, 1) := by decide +kernel
theorem dL_law_208 : decode cL_law 208 = .ok (.iload_n 3, 1) := by decide +kernel
theorem dL_law_209 : decode cL_law 209 = .ok (.iconst 3, 1) := by decide +kernel
theorem dL_law_210 : decode cL_law 210 = .ok (.iadd, 1) := by decide +kernel
theorem dL_law_211 : decode cL_law 211 = .ok (.iaload, 1) := by decide +kernel
theorem dL_law_212 : decode cL_law 212 = .ok (.invokevirtual 22, 3) := by decide +kernel
theorem dL_law_215 : decode cL_law 215 = .ok (.if_icmp .eq 561, 3) := by decide +kernel
theorem dL_law_218 : decode cL_law 218 = .ok (.iconst 0, 1) := by decide +kernel
theorem dL_law_219 : decode cL_law 219 = .ok (.ireturn, 1) := by decide +kernel
theorem dL_law_220 : decode cL_law 220 = .ok (.aload_n 1, 1) := by decide +kernel
theorem dL_law_221 : decode cL_law 221 = .ok (.aload_n 0, 1) := by decide +kernel
theorem dL_law_222 : decode cL_law 222 = .ok (.iload_n 3, 1) := by decide +kernel
theorem dL_law_223 : decode cL_law 223 = .ok (.iconst 1, 1) := by decide +kernel
theorem dL_law_224 : decode cL_law 224 = .ok (.iadd, 1) := by decide +kernel
theorem dL_law_225 : decode cL_law 225 = .ok (.iaload, 1) := by decide +kernel
theorem dL_law_226 : decode cL_law 226 = .ok (.aload_n 0, 1) := by decide +kernel
theorem dL_law_227 : decode cL_law 227 = .ok (.iload_n 3, 1) := by decide +kernel
theorem dL_law_228 : decode cL_law 228 = .ok (.iconst 2, 1) := by decide +kernel
theorem dL_law_229 : decode cL_law 229 = .ok (.iadd, 1) := by decide +kernel
theorem dL_law_230 : decode cL_law 230 = .ok (.iaload, 1) := by decide +kernel
theorem dL_law_231 : decode cL_law 231 = .ok (.aload_n 0, 1) := by decide +kernel
theorem dL_law_232 : decode cL_law 232 = .ok (.iload_n 3, 1) := by decide +kernel
theorem dL_law_233 : decode cL_law 233 = .ok (.iconst 3, 1) := by decide +kernel
theorem dL_law_234 : decode cL_law 234 = .ok (.iadd, 1) := by decide +kernel
theorem dL_law_235 : decode cL_law 235 = .ok (.iaload, 1) := by decide +kernel
theorem dL_law_236 : decode cL_law 236 = .ok (.invokevirtual 23, 3) := by decide +kernel
theorem dL_law_239 : decode cL_law 239 = .ok (.aload_n 2, 1) := by decide +kernel
theorem dL_law_240 : decode cL_law 240 = .ok (.aload_n 0, 1) := by decide +kernel
theorem dL_law_241 : decode cL_law 241 = .ok (.iload_n 3, 1) := by decide +kernel
theorem dL_law_242 : decode cL_law 242 = .ok (.iconst 1, 1) := by decide +kernel
theorem dL_law_243 : decode cL_law 243 = .ok (.iadd, 1) := by decide +kernel
theorem dL_law_244 : decode cL_law 244 = .ok (.iaload, 1) := by decide +kernel
theorem dL_law_245 : decode cL_law 245 = .ok (.aload_n 0, 1) := by decide +kernel
theorem dL_law_246 : decode cL_law 246 = .ok (.iload_n 3, 1) := by decide +kernel
theorem dL_law_247 : decode cL_law 247 = .ok (.iconst 2, 1) := by decide +kernel
theorem dL_law_248 : decode cL_law 248 = .ok (.iadd, 1) := by decide +kernel
theorem dL_law_249 : decode cL_law 249 = .ok (.iaload, 1) := by decide +kernel
theorem dL_law_250 : decode cL_law 250 = .ok (.aload_n 0, 1) := by decide +kernel
theorem dL_law_251 : decode cL_law 251 = .ok (.iload_n 3, 1) := by decide +kernel
theorem dL_law_252 : decode cL_law 252 = .ok (.iconst 3, 1) := by decide +kernel
theorem dL_law_253 : decode cL_law 253 = .ok (.iadd, 1) := by decide +kernel
theorem dL_law_254 : decode cL_law 254 = .ok (.iaload, 1) := by decide +kernel
theorem dL_law_255 : decode cL_law 255 = .ok (.invokevirtual 26, 3) := by decide +kernel
theorem dL_law_258 : decode cL_law 258 = .ok (.if_icmp .eq 518, 3) := by decide +kernel
theorem dL_law_261 : decode cL_law 261 = .ok (.iconst 0, 1) := by decide +kernel
theorem dL_law_262 : decode cL_law 262 = .ok (.ireturn, 1) := by decide +kernel
theorem dL_law_263 : decode cL_law 263 = .ok (.aload_n 1, 1) := by decide +kernel
theorem dL_law_264 : decode cL_law 264 = .ok (.aload_n 0, 1) := by decide +kernel
theorem dL_law_265 : decode cL_law 265 = .ok (.iload_n 3, 1) := by decide +kernel
theorem dL_law_266 : decode cL_law 266 = .ok (.iconst 1, 1) := by decide +kernel
theorem dL_law_267 : decode cL_law 267 = .ok (.iadd, 1) := by decide +kernel
theorem dL_law_268 : decode cL_law 268 = .ok (.iaload, 1) := by decide +kernel
theorem dL_law_269 : decode cL_law 269 = .ok (.aload_n 0, 1) := by decide +kernel
theorem dL_law_270 : decode cL_law 270 = .ok (.iload_n 3, 1) := by decide +kernel
theorem dL_law_271 : decode cL_law 271 = .ok (.iconst 2, 1) := by decide +kernel
theorem dL_law_272 : decode cL_law 272 = .ok (.iadd, 1) := by decide +kernel
theorem dL_law_273 : decode cL_law 273 = .ok (.iaload, 1) := by decide +kernel
theorem dL_law_274 : decode cL_law 274 = .ok (.invokevirtual 27, 3) := by decide +kernel
theorem dL_law_277 : decode cL_law 277 = .ok (.aload_n 2, 1) := by decide +kernel
theorem dL_law_278 : decode cL_law 278 = .ok (.aload_n 0, 1) := by decide +kernel
theorem dL_law_279 : decode cL_law 279 = .ok (.iload_n 3, 1) := by decide +kernel
theorem dL_law_280 : decode cL_law 280 = .ok (.iconst 1, 1) := by decide +kernel
theorem dL_law_281 : decode cL_law 281 = .ok (.iadd, 1) := by decide +kernel
theorem dL_law_282 : decode cL_law 282 = .ok (.iaload, 1) := by decide +kernel
theorem dL_law_283 : decode cL_law 283 = .ok (.aload_n 0, 1) := by decide +kernel
theorem dL_law_284 : decode cL_law 284 = .ok (.iload_n 3, 1) := by decide +kernel
theorem dL_law_285 : decode cL_law 285 = .ok (.iconst 2, 1) := by decide +kernel
theorem dL_law_286 : decode cL_law 286 = .ok (.iadd, 1) := by decide +kernel
theorem dL_law_287 : decode cL_law 287 = .ok (.iaload, 1) := by decide +kernel
theorem dL_law_288 : decode cL_law 288 = .ok (.invokevirtual 30, 3) := by decide +kernel
theorem dL_law_291 : decode cL_law 291 = .ok (.if_icmp .eq 485, 3) := by decide +kernel
theorem dL_law_294 : decode cL_law 294 = .ok (.iconst 0, 1) := by decide +kernel
theorem dL_law_295 : decode cL_law 295 = .ok (.ireturn, 1) := by decide +kernel
theorem dL_law_296 : decode cL_law 296 = .ok (.aload_n 1, 1) := by decide +kernel
theorem dL_law_297 : decode cL_law 297 = .ok (.aload_n 0, 1) := by decide +kernel
theorem dL_law_298 : decode cL_law 298 = .ok (.iload_n 3, 1) := by decide +kernel
theorem dL_law_299 : decode cL_law 299 = .ok (.iconst 1, 1) := by decide +kernel
theorem dL_law_300 : decode cL_law 300 = .ok (.iadd, 1) := by decide +kernel
theorem dL_law_301 : decode cL_law 301 = .ok (.iaload, 1) := by decide +kernel
theorem dL_law_302 : decode cL_law 302 = .ok (.invokevirtual 31, 3) := by decide +kernel
theorem dL_law_305 : decode cL_law 305 = .ok (.aload_n 2, 1) := by decide +kernel
theorem dL_law_306 : decode cL_law 306 = .ok (.aload_n 0, 1) := by decide +kernel
theorem dL_law_307 : decode cL_law 307 = .ok (.iload_n 3, 1) := by decide +kernel
theorem dL_law_308 : decode cL_law 308 = .ok (.iconst 1, 1) := by decide +kernel
theorem dL_law_309 : decode cL_law 309 = .ok (.iadd, 1) := by decide +kernel
theorem dL_law_310 : decode cL_law 310 = .ok (.iaload, 1) := by decide +kernel
theorem dL_law_311 : decode cL_law 311 = .ok (.invokevirtual 35, 3) := by decide +kernel
theorem dL_law_314 : decode cL_law 314 = .ok (.if_icmp .eq 462, 3) := by decide +kernel
theorem dL_law_317 : decode cL_law 317 = .ok (.iconst 0, 1) := by decide +kernel
theorem dL_law_318 : decode cL_law 318 = .ok (.ireturn, 1) := by decide +kernel
theorem dL_law_319 : decode cL_law 319 = .ok (.aload_n 1, 1) := by decide +kernel
theorem dL_law_320 : decode cL_law 320 = .ok (.invokevirtual 36, 3) := by decide +kernel
theorem dL_law_323 : decode cL_law 323 = .ok (.aload_n 2, 1) := by decide +kernel
theorem dL_law_324 : decode cL_law 324 = .ok (.invokevirtual 40, 3) := by decide +kernel
theorem dL_law_327 : decode cL_law 327 = .ok (.if_icmp .eq 449, 3) := by decide +kernel
theorem dL_law_330 : decode cL_law 330 = .ok (.iconst 0, 1) := by decide +kernel
theorem dL_law_331 : decode cL_law 331 = .ok (.ireturn, 1) := by decide +kernel
theorem dL_law_332 : decode cL_law 332 = .ok (.aload_n 1, 1) := by decide +kernel
theorem dL_law_333 : decode cL_law 333 = .ok (.aload_n 0, 1) := by decide +kernel
theorem dL_law_334 : decode cL_law 334 = .ok (.iload_n 3, 1) := by decide +kernel
theorem dL_law_335 : decode cL_law 335 = .ok (.iconst 1, 1) := by decide +kernel
theorem dL_law_336 : decode cL_law 336 = .ok (.iadd, 1) := by decide +kernel
theorem dL_law_337 : decode cL_law 337 = .ok (.iaload, 1) := by decide +kernel
theorem dL_law_338 : decode cL_law 338 = .ok (.invokevirtual 41, 3) := by decide +kernel
theorem dL_law_341 : decode cL_law 341 = .ok (.aload_n 2, 1) := by decide +kernel
theorem dL_law_342 : decode cL_law 342 = .ok (.aload_n 0, 1) := by decide +kernel
theorem dL_law_343 : decode cL_law 343 = .ok (.iload_n 3, 1) := by decide +kernel
theorem dL_law_344 : decode cL_law 344 = .ok (.iconst 1, 1) := by decide +kernel
theorem dL_law_345 : decode cL_law 345 = .ok (.iadd, 1) := by decide +kernel
theorem dL_law_346 : decode cL_law 346 = .ok (.iaload, 1) := by decide +kernel
theorem dL_law_347 : decode cL_law 347 = .ok (.invokevirtual 44, 3) := by decide +kernel
theorem dL_law_350 : decode cL_law 350 = .ok (.if_icmp .eq 426, 3) := by decide +kernel
theorem dL_law_353 : decode cL_law 353 = .ok (.iconst 0, 1) := by decide +kernel
theorem dL_law_354 : decode cL_law 354 = .ok (.ireturn, 1) := by decide +kernel
