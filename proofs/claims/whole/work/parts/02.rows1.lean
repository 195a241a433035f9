theorem dX2_init_4 : decode cX2_init 4 = .ok (.aload_n 0, 1) := by decide +kernel
theorem dX2_init_5 : decode cX2_init 5 = .ok (.bipush 6, 2) := by decide +kernel
theorem dX2_init_7 : decode cX2_init 7 = .ok (.anewarray 9, 3) := by decide +kernel
theorem dX2_init_10 : decode cX2_init 10 = .ok (.putfield 11, 3) := by decide +kernel
theorem dX2_init_13 : decode cX2_init 13 = .ok (.iconst 0, 1) := by decide +kernel
theorem dX2_init_14 : decode cX2_init 14 = .ok (.istore_n 1, 1) := by decide +kernel
theorem dX2_init_15 : decode cX2_init 15 = .ok (.iload_n 1, 1) := by decide +kernel
theorem dX2_init_16 : decode cX2_init 16 = .ok (.bipush 6, 2) := by decide +kernel
theorem dX2_init_18 : decode cX2_init 18 = .ok (.if_icmp .ge 22, 3) := by decide +kernel
theorem dX2_init_21 : decode cX2_init 21 = .ok (.aload_n 0, 1) := by decide +kernel
theorem dX2_init_22 : decode cX2_init 22 = .ok (.getfield 11, 3) := by decide +kernel
theorem dX2_init_25 : decode cX2_init 25 = .ok (.iload_n 1, 1) := by decide +kernel
theorem dX2_init_26 : decode cX2_init 26 = .ok (.new 9, 3) := by decide +kernel
theorem dX2_init_29 : decode cX2_init 29 = .ok (.dup, 1) := by decide +kernel
theorem dX2_init_30 : decode cX2_init 30 = .ok (.invokespecial 17, 3) := by decide +kernel
theorem dX2_init_33 : decode cX2_init 33 = .ok (.aastore, 1) := by decide +kernel
theorem dX2_init_34 : decode cX2_init 34 = .ok (.iinc 1 1, 3) := by decide +kernel
theorem dX2_init_37 : decode cX2_init 37 = .ok (.goto (-22), 3) := by decide +kernel
theorem dX2_init_40 : decode cX2_init 40 = .ok (.return_, 1) := by decide +kernel
set_option maxRecDepth 20000 in
theorem ggX2_push_X1_becomeLike : GoodIn wsX2_push wsX1_becomeLike := goodIn_r _ [12, 13, 14, 15, 16, 17, 18, 19, 20, 21, 22, 23, 24, 25, 26, 27, 28, 29, 30, 31, 32, 33, 34, 35, 36, 37, 38, 39, 40, 41, 42, 46, 47, 48, 49, 50, 51, 52, 53, 54, 55, 56, 57, 58, 59, 60, 61, 62, 63, 64, 65] (by decide +kernel) (by decide +kernel)
set_option maxRecDepth 20000 in
theorem gX2_push_X1_becomeLike : GoodIn wsX2_push (wsV RX2 22 RX1 yX1_becomeLike wsX1_becomeLike) := goodIn_app (goodIn_of _ (by decide +kernel)) ggX2_push_X1_becomeLike
theorem dX2_push_0 : decode cX2_push 0 = .ok (.aload_n 0, 1) := by decide +kernel
theorem dX2_push_1 : decode cX2_push 1 = .ok (.getfield 11, 3) := by decide +kernel
theorem dX2_push_4 : decode cX2_push 4 = .ok (.aload_n 0, 1) := by decide +kernel
theorem dX2_push_5 : decode cX2_push 5 = .ok (.getfield 18, 3) := by decide +kernel
theorem dX2_push_8 : decode cX2_push 8 = .ok (.aaload, 1) := by decide +kernel
theorem dX2_push_9 : decode cX2_push 9 = .ok (.aload_n 1, 1) := by decide +kernel
theorem dX2_push_10 : decode cX2_push 10 = .ok (.invokevirtual 22, 3) := by decide +kernel
theorem dX2_push_13 : decode cX2_push 13 = .ok (.aload_n 0, 1) := by decide +kernel
theorem dX2_push_14 : decode cX2_push 14 = .ok (.aload_n 0, 1) := by decide +kernel
theorem dX2_push_15 : decode cX2_push 15 = .ok (.getfield 18, 3) := by decide +kernel
theorem dX2_push_18 : decode cX2_push 18 = .ok (.iconst 1, 1) := by decide +kernel
theorem dX2_push_19 : decode cX2_push 19 = .ok (.iadd, 1) := by decide +kernel
theorem dX2_push_20 : decode cX2_push 20 = .ok (.bipush 6, 2) := by decide +kernel
theorem dX2_push_22 : decode cX2_push 22 = .ok (.irem, 1) := by decide +kernel
theorem dX2_push_23 : decode cX2_push 23 = .ok (.putfield 18, 3) := by decide +kernel
theorem dX2_push_26 : decode cX2_push 26 = .ok (.aload_n 0, 1) := by decide +kernel
theorem dX2_push_27 : decode cX2_push 27 = .ok (.aload_n 0, 1) := by decide +kernel
theorem dX2_push_28 : decode cX2_push 28 = .ok (.getfield 26, 3) := by decide +kernel
theorem dX2_push_31 : decode cX2_push 31 = .ok (.iconst 1, 1) := by decide +kernel
theorem dX2_push_32 : decode cX2_push 32 = .ok (.iadd, 1) := by decide +kernel
theorem dX2_push_33 : decode cX2_push 33 = .ok (.bipush 6, 2) := by decide +kernel
theorem dX2_push_35 : decode cX2_push 35 = .ok (.invokestatic 29, 3) := by decide +kernel
theorem dX2_push_38 : decode cX2_push 38 = .ok (.putfield 26, 3) := by decide +kernel
theorem dX2_push_41 : decode cX2_push 41 = .ok (.return_, 1) := by decide +kernel
set_option maxRecDepth 20000 in
theorem ggX2_pop_X1_becomeLike : GoodIn wsX2_pop wsX1_becomeLike := goodIn_r _ [8, 9, 10, 11, 12, 13, 14, 15, 16, 17, 18, 19, 20, 21, 22, 23, 24, 25, 26, 27, 28, 29, 30, 31, 32, 33, 34, 35, 36, 37, 38, 42, 43, 44, 45, 46, 47, 48, 49, 50, 51, 52, 53, 54, 55, 56, 57, 58, 59, 60, 61] (by decide +kernel) (by decide +kernel)
set_option maxRecDepth 20000 in
theorem gX2_pop_X1_becomeLike : GoodIn wsX2_pop (wsV RX2 22 RX1 yX1_becomeLike wsX1_becomeLike) := goodIn_app (goodIn_of _ (by decide +kernel)) ggX2_pop_X1_becomeLike
theorem dX2_pop_0 : decode cX2_pop 0 = .ok (.aload_n 0, 1) := by decide +kernel
theorem dX2_pop_1 : decode cX2_pop 1 = .ok (.aload_n 0, 1) := by decide +kernel
theorem dX2_pop_2 : decode cX2_pop 2 = .ok (.getfield 18, 3) := by decide +kernel
theorem dX2_pop_5 : decode cX2_pop 5 = .ok (.bipush 6, 2) := by decide +kernel
theorem dX2_pop_7 : decode cX2_pop 7 = .ok (.iadd, 1) := by decide +kernel
theorem dX2_pop_8 : decode cX2_pop 8 = .ok (.iconst 1, 1) := by decide +kernel
theorem dX2_pop_9 : decode cX2_pop 9 = .ok (.isub, 1) := by decide +kernel
theorem dX2_pop_10 : decode cX2_pop 10 = .ok (.bipush 6, 2) := by decide +kernel
theorem dX2_pop_12 : decode cX2_pop 12 = .ok (.irem, 1) := by decide +kernel
theorem dX2_pop_13 : decode cX2_pop 13 = .ok (.putfield 18, 3) := by decide +kernel
theorem dX2_pop_16 : decode cX2_pop 16 = .ok (.aload_n 0, 1) := by decide +kernel
theorem dX2_pop_17 : decode cX2_pop 17 = .ok (.dup, 1) := by decide +kernel
theorem dX2_pop_18 : decode cX2_pop 18 = .ok (.getfield 26, 3) := by decide +kernel
theorem dX2_pop_21 : decode cX2_pop 21 = .ok (.iconst 1, 1) := by decide +kernel
theorem dX2_pop_22 : decode cX2_pop 22 = .ok (.isub, 1) := by decide +kernel
theorem dX2_pop_23 : decode cX2_pop 23 = .ok (.putfield 26, 3) := by decide +kernel
theorem dX2_pop_26 : decode cX2_pop 26 = .ok (.aload_n 1, 1) := by decide +kernel
theorem dX2_pop_27 : decode cX2_pop 27 = .ok (.aload_n 0, 1) := by decide +kernel
theorem dX2_pop_28 : decode cX2_pop 28 = .ok (.getfield 11, 3) := by decide +kernel
theorem dX2_pop_31 : decode cX2_pop 31 = .ok (.aload_n 0, 1) := by decide +kernel
theorem dX2_pop_32 : decode cX2_pop 32 = .ok (.getfield 18, 3) := by decide +kernel
theorem dX2_pop_35 : decode cX2_pop 35 = .ok (.aaload, 1) := by decide +kernel
theorem dX2_pop_36 : decode cX2_pop 36 = .ok (.invokevirtual 22, 3) := by decide +kernel
theorem dX2_pop_39 : decode cX2_pop 39 = .ok (.return_, 1) := by decide +kernel
theorem dX2_forget_0 : decode cX2_forget 0 = .ok (.aload_n 0, 1) := by decide +kernel
theorem dX2_forget_1 : decode cX2_forget 1 = .ok (.iconst 0, 1) := by decide +kernel
theorem dX2_forget_2 : decode cX2_forget 2 = .ok (.putfield 26, 3) := by decide +kernel
theorem dX2_forget_5 : decode cX2_forget 5 = .ok (.return_, 1) := by decide +kernel
set_option maxRecDepth 20000 in
theorem ggX3_init_X0_init : GoodIn wsX3_init wsX0_init := goodIn_r _ [15, 16, 2, 3] (by decide +kernel) (by decide +kernel)
set_option maxRecDepth 20000 in
theorem gX3_init_X0_init_n11 : GoodIn wsX3_init (wsX0_init) := ggX3_init_X0_init
set_option maxRecDepth 20000 in
theorem ggX3_init_X5_init : GoodIn wsX3_init wsX5_init := goodIn_r _ [18, 19, 2, 3, 20, 21, 34, 35] (by decide +kernel) (by decide +kernel)
set_option maxRecDepth 20000 in
theorem gX3_init_X5_init_n20 : GoodIn wsX3_init (wsX5_init) := ggX3_init_X5_init
theorem dX3_init_0 : decode cX3_init 0 = .ok (.aload_n 0, 1) := by decide +kernel
theorem dX3_init_1 : decode cX3_init 1 = .ok (.invokespecial 3, 3) := by decide +kernel
theorem dX3_init_4 : decode cX3_init 4 = .ok (.aload_n 0, 1) := by decide +kernel
theorem dX3_init_5 : decode cX3_init 5 = .ok (.new 9, 3) := by decide +kernel
theorem dX3_init_8 : decode cX3_init 8 = .ok (.dup, 1) := by decide +kernel
theorem dX3_init_9 : decode cX3_init 9 = .ok (.invokespecial 11, 3) := by decide +kernel
theorem dX3_init_12 : decode cX3_init 12 = .ok (.putfield 12, 3) := by decide +kernel
theorem dX3_init_15 : decode cX3_init 15 = .ok (.aload_n 0, 1) := by decide +kernel
theorem dX3_init_16 : decode cX3_init 16 = .ok (.new 18, 3) := by decide +kernel
theorem dX3_init_19 : decode cX3_init 19 = .ok (.dup, 1) := by decide +kernel
theorem dX3_init_20 : decode cX3_init 20 = .ok (.invokespecial 20, 3) := by decide +kernel
theorem dX3_init_23 : decode cX3_init 23 = .ok (.putfield 21, 3) := by decide +kernel
theorem dX3_init_26 : decode cX3_init 26 = .ok (.aload_n 0, 1) := by decide +kernel
theorem dX3_init_27 : decode cX3_init 27 = .ok (.bipush 32, 2) := by decide +kernel
theorem dX3_init_29 : decode cX3_init 29 = .ok (.newarray .boolean, 2) := by decide +kernel
theorem dX3_init_31 : decode cX3_init 31 = .ok (.putfield 25, 3) := by decide +kernel
theorem dX3_init_34 : decode cX3_init 34 = .ok (.return_, 1) := by decide +kernel
set_option maxRecDepth 20000 in
theorem ggX3_run_X3_forgetLast : GoodIn wsX3_run wsX3_forgetLast := goodIn_r _ [6, 7, 8, 9, 10, 11, 12, 13, 14, 15, 16, 17, 18, 19, 213, 214, 215, 216, 217, 218, 219, 220, 221, 222, 223] (by decide +kernel) (by decide +kernel)
set_option maxRecDepth 20000 in
theorem gX3_run_X3_forgetLast : GoodIn wsX3_run (wsV RX3 29 RX3 yX3_forgetLast wsX3_forgetLast) := goodIn_app (goodIn_of _ (by decide +kernel)) ggX3_run_X3_forgetLast
set_option maxRecDepth 20000 in
theorem ggX3_run_X1_refineOldest : GoodIn wsX3_run wsX1_refineOldest := goodIn_r _ [24, 25, 26, 27, 28, 29, 30, 31, 32, 33, 34, 35, 36, 23, 37, 38, 39, 40, 41, 42, 43, 44, 45, 46, 47, 48, 49, 50, 51, 52, 53, 54, 55, 56, 57, 58, 59, 60, 61, 62, 63, 64, 65, 66, 67, 68, 69, 70, 71, 224, 225, 226, 227, 228, 229, 230, 231, 232, 233, 234, 235, 236, 237, 238, 239, 240, 241, 222, 223] (by decide +kernel) (by decide +kernel)
set_option maxRecDepth 20000 in
theorem gX3_run_X1_refineOldest : GoodIn wsX3_run (wsV RX3 32 RX1 yX1_refineOldest wsX1_refineOldest) := goodIn_app (goodIn_of _ (by decide +kernel)) ggX3_run_X1_refineOldest
set_option maxRecDepth 20000 in
theorem ggX3_run_X0_choose : GoodIn wsX3_run wsX0_choose := goodIn_r _ [76, 77, 78, 79, 80, 81, 82, 83, 84, 85, 86, 87, 75, 88, 89, 90, 91, 92, 93, 94, 58, 95, 242, 243, 244, 224, 225, 226, 227, 228, 229, 230, 231, 232, 233, 234, 235, 236, 237, 238, 239, 240, 241] (by decide +kernel) (by decide +kernel)
set_option maxRecDepth 20000 in
theorem gX3_run_X0_choose : GoodIn wsX3_run (wsV RX3 38 RX0 yX0_choose wsX0_choose) := goodIn_app (goodIn_of _ (by decide +kernel)) ggX3_run_X0_choose
set_option maxRecDepth 20000 in
theorem ggX3_run_X3_findFirst : GoodIn wsX3_run wsX3_findFirst := goodIn_r _ [99, 100, 101, 8, 102, 103, 104, 5, 105, 1, 106, 107, 7, 12, 108, 109, 13, 94, 58, 95, 110, 111, 112, 30, 113, 32, 33, 114, 28, 29, 31, 224, 225, 226, 227, 228, 229, 230, 231, 232, 233, 234, 235, 236, 237, 238, 239, 240, 241, 222, 223, 213, 214, 215, 216, 217, 218, 219, 220, 221, 242, 243, 244] (by decide +kernel) (by decide +kernel)
set_option maxRecDepth 20000 in
theorem gX3_run_X3_findFirst : GoodIn wsX3_run (wsV RX3 42 RX3 yX3_findFirst wsX3_findFirst) := goodIn_app (goodIn_of _ (by decide +kernel)) ggX3_run_X3_findFirst
set_option maxRecDepth 20000 in
theorem ggX3_run_X3_scanCards : GoodIn wsX3_run wsX3_scanCards := goodIn_r _ [118, 1, 106, 11, 119, 94, 58, 95, 70, 71, 120, 121, 122, 5, 123, 124, 125, 126, 23, 127, 56, 128, 129, 130, 131, 55, 46, 47, 48, 49, 50, 132, 133, 134, 135, 136, 61, 62, 63, 64, 102, 103, 104, 105, 107, 7, 12, 108, 109, 13, 110, 111, 112, 30, 113, 32, 33, 213, 214, 215, 216, 217, 218, 219, 220, 221, 242, 243, 244, 224, 225, 226, 227, 228, 229, 230, 231, 232, 233, 234, 235, 236, 237, 238, 239, 240, 241, 222, 223] (by decide +kernel) (by decide +kernel)
set_option maxRecDepth 20000 in
theorem gX3_run_X3_scanCards : GoodIn wsX3_run (wsV RX3 46 RX3 yX3_scanCards wsX3_scanCards) := goodIn_app (goodIn_of _ (by decide +kernel)) ggX3_run_X3_scanCards
set_option maxRecDepth 20000 in
theorem ggX3_run_X3_moveFound : GoodIn wsX3_run wsX3_moveFound := goodIn_r _ [140, 7, 8, 114, 28, 29, 30, 31, 32, 33, 141, 142, 143, 5, 144, 10, 108, 9, 15, 109, 14, 145, 146, 147, 23, 148, 149, 150, 151, 152, 153, 154, 155, 156, 157, 158, 55, 56, 50, 132, 133, 134, 135, 136, 61, 62, 63, 64, 102, 103, 104, 105, 1, 106, 107, 12, 13, 94, 58, 95, 110, 111, 112, 113, 213, 214, 215, 216, 217, 218, 219, 220, 221, 222, 223, 224, 225, 226, 227, 228, 229, 230, 231, 232, 233, 234, 235, 236, 237, 238, 239, 240, 241, 242, 243, 244] (by decide +kernel) (by decide +kernel)
set_option maxRecDepth 20000 in
theorem gX3_run_X3_moveFound : GoodIn wsX3_run (wsV RX3 49 RX3 yX3_moveFound wsX3_moveFound) := goodIn_app (goodIn_of _ (by decide +kernel)) ggX3_run_X3_moveFound
set_option maxRecDepth 20000 in
theorem ggX3_run_X3_dirtyMoved : GoodIn wsX3_run wsX3_dirtyMoved := goodIn_r _ [162, 7, 8, 163, 11, 114, 28, 29, 30, 31, 32, 33, 164, 52, 53, 23, 54, 55, 56, 57, 58, 59, 110, 111, 112, 113, 94, 95, 213, 214, 215, 216, 217, 218, 219, 220, 221, 222, 223, 224, 225, 226, 227, 228, 229, 230, 231, 232, 233, 234, 235, 236, 237, 238, 239, 240, 241] (by decide +kernel) (by decide +kernel)
set_option maxRecDepth 20000 in
theorem gX3_run_X3_dirtyMoved : GoodIn wsX3_run (wsV RX3 52 RX3 yX3_dirtyMoved wsX3_dirtyMoved) := goodIn_app (goodIn_of _ (by decide +kernel)) ggX3_run_X3_dirtyMoved
set_option maxRecDepth 20000 in
theorem ggX3_run_X3_sweepChosen : GoodIn wsX3_run wsX3_sweepChosen := goodIn_r _ [168, 1, 106, 169, 94, 58, 95, 170, 171, 172, 5, 173, 9, 109, 174, 175, 129, 130, 23, 131, 55, 46, 47, 48, 49, 50, 176, 177, 178, 179, 64, 180, 181, 182, 183, 128, 184, 185, 186, 187, 154, 188, 189, 190, 191, 149, 192, 69, 25, 57, 59, 38, 39, 40, 30, 41, 32, 33, 193, 194, 213, 214, 215, 216, 217, 218, 219, 220, 221, 242, 243, 244, 224, 225, 226, 227, 228, 229, 230, 231, 232, 233, 234, 235, 236, 237, 238, 239, 240, 241, 222, 223] (by decide +kernel) (by decide +kernel)
set_option maxRecDepth 20000 in
theorem gX3_run_X3_sweepChosen : GoodIn wsX3_run (wsV RX3 55 RX3 yX3_sweepChosen wsX3_sweepChosen) := goodIn_app (goodIn_of _ (by decide +kernel)) ggX3_run_X3_sweepChosen
set_option maxRecDepth 20000 in
theorem ggX3_run_X3_tellCost : GoodIn wsX3_run wsX3_tellCost := goodIn_r _ [198, 14, 11, 15, 12, 199, 200, 201, 1, 202, 203, 13, 204, 205, 206, 207, 208, 209, 210, 211, 212, 213, 214, 215, 216, 217, 218, 219, 220, 221, 224, 225, 226, 227, 228, 229, 230, 231, 232, 233, 234, 235, 236, 237, 238, 239, 240, 241, 242, 243, 244] (by decide +kernel) (by decide +kernel)
set_option maxRecDepth 20000 in
theorem gX3_run_X3_tellCost : GoodIn wsX3_run (wsV RX3 58 RX3 yX3_tellCost wsX3_tellCost) := goodIn_app (goodIn_of _ (by decide +kernel)) ggX3_run_X3_tellCost
theorem dX3_run_0 : decode cX3_run 0 = .ok (.aload_n 0, 1) := by decide +kernel
theorem dX3_run_1 : decode cX3_run 1 = .ok (.invokevirtual 29, 3) := by decide +kernel
theorem dX3_run_4 : decode cX3_run 4 = .ok (.aload_n 1, 1) := by decide +kernel
theorem dX3_run_5 : decode cX3_run 5 = .ok (.bipush 20, 2) := by decide +kernel
theorem dX3_run_7 : decode cX3_run 7 = .ok (.invokevirtual 32, 3) := by decide +kernel
theorem dX3_run_10 : decode cX3_run 10 = .ok (.pop, 1) := by decide +kernel
theorem dX3_run_11 : decode cX3_run 11 = .ok (.aload_n 0, 1) := by decide +kernel
theorem dX3_run_12 : decode cX3_run 12 = .ok (.getfield 12, 3) := by decide +kernel
theorem dX3_run_15 : decode cX3_run 15 = .ok (.aload_n 1, 1) := by decide +kernel
theorem dX3_run_16 : decode cX3_run 16 = .ok (.iload_n 2, 1) := by decide +kernel
theorem dX3_run_17 : decode cX3_run 17 = .ok (.invokevirtual 38, 3) := by decide +kernel
theorem dX3_run_20 : decode cX3_run 20 = .ok (.aload_n 0, 1) := by decide +kernel
theorem dX3_run_21 : decode cX3_run 21 = .ok (.aload_n 1, 1) := by decide +kernel
theorem dX3_run_22 : decode cX3_run 22 = .ok (.invokevirtual 42, 3) := by decide +kernel
theorem dX3_run_25 : decode cX3_run 25 = .ok (.aload_n 0, 1) := by decide +kernel
theorem dX3_run_26 : decode cX3_run 26 = .ok (.aload_n 1, 1) := by decide +kernel
theorem dX3_run_27 : decode cX3_run 27 = .ok (.invokevirtual 46, 3) := by decide +kernel
theorem dX3_run_30 : decode cX3_run 30 = .ok (.aload_n 0, 1) := by decide +kernel
theorem dX3_run_31 : decode cX3_run 31 = .ok (.aload_n 1, 1) := by decide +kernel
theorem dX3_run_32 : decode cX3_run 32 = .ok (.invokevirtual 49, 3) := by decide +kernel
theorem dX3_run_35 : decode cX3_run 35 = .ok (.aload_n 0, 1) := by decide +kernel
theorem dX3_run_36 : decode cX3_run 36 = .ok (.aload_n 1, 1) := by decide +kernel
theorem dX3_run_37 : decode cX3_run 37 = .ok (.invokevirtual 52, 3) := by decide +kernel
theorem dX3_run_40 : decode cX3_run 40 = .ok (.aload_n 0, 1) := by decide +kernel
theorem dX3_run_41 : decode cX3_run 41 = .ok (.aload_n 1, 1) := by decide +kernel
theorem dX3_run_42 : decode cX3_run 42 = .ok (.invokevirtual 55, 3) := by decide +kernel
theorem dX3_run_45 : decode cX3_run 45 = .ok (.aload_n 0, 1) := by decide +kernel
theorem dX3_run_46 : decode cX3_run 46 = .ok (.aload_n 1, 1) := by decide +kernel
theorem dX3_run_47 : decode cX3_run 47 = .ok (.invokevirtual 58, 3) := by decide +kernel
theorem dX3_run_50 : decode cX3_run 50 = .ok (.ireturn, 1) := by decide +kernel
set_option maxRecDepth 20000 in
theorem ggX3_forgetLast_J7_fill_49daa : GoodIn wsX3_forgetLast wsJ7_fill_49daa := goodIn_r _ [13] (by decide +kernel) (by decide +kernel)
set_option maxRecDepth 20000 in
theorem gX3_forgetLast_J7_fill_49daa : GoodIn wsX3_forgetLast (va_wsS RX3 66 yJ7_fill_49daa wsJ7_fill_49daa) := goodIn_app (goodIn_of _ (by decide +kernel)) ggX3_forgetLast_J7_fill_49daa
theorem dX3_forgetLast_0 : decode cX3_forgetLast 0 = .ok (.aload_n 0, 1) := by decide +kernel
theorem dX3_forgetLast_1 : decode cX3_forgetLast 1 = .ok (.getfield 21, 3) := by decide +kernel
theorem dX3_forgetLast_4 : decode cX3_forgetLast 4 = .ok (.iconst 0, 1) := by decide +kernel
theorem dX3_forgetLast_5 : decode cX3_forgetLast 5 = .ok (.putfield 62, 3) := by decide +kernel
theorem dX3_forgetLast_8 : decode cX3_forgetLast 8 = .ok (.aload_n 0, 1) := by decide +kernel
theorem dX3_forgetLast_9 : decode cX3_forgetLast 9 = .ok (.getfield 25, 3) := by decide +kernel
theorem dX3_forgetLast_12 : decode cX3_forgetLast 12 = .ok (.iconst 0, 1) := by decide +kernel
theorem dX3_forgetLast_13 : decode cX3_forgetLast 13 = .ok (.invokestatic 66, 3) := by decide +kernel
theorem dX3_forgetLast_16 : decode cX3_forgetLast 16 = .ok (.aload_n 0, 1) := by decide +kernel
theorem dX3_forgetLast_17 : decode cX3_forgetLast 17 = .ok (.bipush (-9), 2) := by decide +kernel
theorem dX3_forgetLast_19 : decode cX3_forgetLast 19 = .ok (.putfield 72, 3) := by decide +kernel
theorem dX3_forgetLast_22 : decode cX3_forgetLast 22 = .ok (.aload_n 0, 1) := by decide +kernel
theorem dX3_forgetLast_23 : decode cX3_forgetLast 23 = .ok (.iconst 0, 1) := by decide +kernel
theorem dX3_forgetLast_24 : decode cX3_forgetLast 24 = .ok (.putfield 75, 3) := by decide +kernel
theorem dX3_forgetLast_27 : decode cX3_forgetLast 27 = .ok (.aload_n 0, 1) := by decide +kernel
theorem dX3_forgetLast_28 : decode cX3_forgetLast 28 = .ok (.iconst 0, 1) := by decide +kernel
theorem dX3_forgetLast_29 : decode cX3_forgetLast 29 = .ok (.putfield 78, 3) := by decide +kernel
theorem dX3_forgetLast_32 : decode cX3_forgetLast 32 = .ok (.aload_n 0, 1) := by decide +kernel
theorem dX3_forgetLast_33 : decode cX3_forgetLast 33 = .ok (.iconst 0, 1) := by decide +kernel
theorem dX3_forgetLast_34 : decode cX3_forgetLast 34 = .ok (.putfield 81, 3) := by decide +kernel
theorem dX3_forgetLast_37 : decode cX3_forgetLast 37 = .ok (.aload_n 0, 1) := by decide +kernel
theorem dX3_forgetLast_38 : decode cX3_forgetLast 38 = .ok (.iconst 0, 1) := by decide +kernel
theorem dX3_forgetLast_39 : decode cX3_forgetLast 39 = .ok (.putfield 84, 3) := by decide +kernel
theorem dX3_forgetLast_42 : decode cX3_forgetLast 42 = .ok (.aload_n 0, 1) := by decide +kernel
theorem dX3_forgetLast_43 : decode cX3_forgetLast 43 = .ok (.iconst 0, 1) := by decide +kernel
theorem dX3_forgetLast_44 : decode cX3_forgetLast 44 = .ok (.putfield 87, 3) := by decide +kernel
theorem dX3_forgetLast_47 : decode cX3_forgetLast 47 = .ok (.return_, 1) := by decide +kernel
set_option maxRecDepth 20000 in
theorem ggX3_find_X6_hasBit : GoodIn wsX3_find wsX6_hasBit := goodIn_r _ [11] (by decide +kernel) (by decide +kernel)
set_option maxRecDepth 20000 in
theorem gX3_find_X6_hasBit_n97 : GoodIn wsX3_find (wsX6_hasBit) := ggX3_find_X6_hasBit
set_option maxRecDepth 20000 in
theorem ggX3_find_X5_append : GoodIn wsX3_find wsX5_append := goodIn_r _ [16, 17, 18, 49, 50] (by decide +kernel) (by decide +kernel)
set_option maxRecDepth 20000 in
theorem gX3_find_X5_append : GoodIn wsX3_find (wsV RX3 101 RX5 yX5_append wsX5_append) := goodIn_app (goodIn_of _ (by decide +kernel)) ggX3_find_X5_append
theorem dX3_find_0 : decode cX3_find 0 = .ok (.iload_n 2, 1) := by decide +kernel
theorem dX3_find_1 : decode cX3_find 1 = .ok (.bipush (-5), 2) := by decide +kernel
theorem dX3_find_3 : decode cX3_find 3 = .ok (.if_icmp .eq 33, 3) := by decide +kernel
theorem dX3_find_6 : decode cX3_find 6 = .ok (.aload_n 0, 1) := by decide +kernel
theorem dX3_find_7 : decode cX3_find 7 = .ok (.getfield 12, 3) := by decide +kernel
theorem dX3_find_10 : decode cX3_find 10 = .ok (.getfield 90, 3) := by decide +kernel
theorem dX3_find_13 : decode cX3_find 13 = .ok (.aload_n 1, 1) := by decide +kernel
theorem dX3_find_14 : decode cX3_find 14 = .ok (.getfield 93, 3) := by decide +kernel
theorem dX3_find_17 : decode cX3_find 17 = .ok (.iload_n 2, 1) := by decide +kernel
theorem dX3_find_18 : decode cX3_find 18 = .ok (.iaload, 1) := by decide +kernel
theorem dX3_find_19 : decode cX3_find 19 = .ok (.invokestatic 97, 3) := by decide +kernel
theorem dX3_find_22 : decode cX3_find 22 = .ok (.ifCond .eq 14, 3) := by decide +kernel
theorem dX3_find_25 : decode cX3_find 25 = .ok (.aload_n 0, 1) := by decide +kernel
theorem dX3_find_26 : decode cX3_find 26 = .ok (.getfield 21, 3) := by decide +kernel
theorem dX3_find_29 : decode cX3_find 29 = .ok (.iload_n 2, 1) := by decide +kernel
theorem dX3_find_30 : decode cX3_find 30 = .ok (.invokevirtual 101, 3) := by decide +kernel
theorem dX3_find_33 : decode cX3_find 33 = .ok (.ifCond .ne 4, 3) := by decide +kernel
theorem dX3_find_36 : decode cX3_find 36 = .ok (.return_, 1) := by decide +kernel
theorem dX3_find_37 : decode cX3_find 37 = .ok (.aload_n 0, 1) := by decide +kernel
theorem dX3_find_38 : decode cX3_find 38 = .ok (.dup, 1) := by decide +kernel
theorem dX3_find_39 : decode cX3_find 39 = .ok (.getfield 78, 3) := by decide +kernel
theorem dX3_find_42 : decode cX3_find 42 = .ok (.aload_n 1, 1) := by decide +kernel
theorem dX3_find_43 : decode cX3_find 43 = .ok (.getfield 105, 3) := by decide +kernel
theorem dX3_find_46 : decode cX3_find 46 = .ok (.iload_n 2, 1) := by decide +kernel
theorem dX3_find_47 : decode cX3_find 47 = .ok (.iaload, 1) := by decide +kernel
theorem dX3_find_48 : decode cX3_find 48 = .ok (.iadd, 1) := by decide +kernel
theorem dX3_find_49 : decode cX3_find 49 = .ok (.putfield 78, 3) := by decide +kernel
theorem dX3_find_52 : decode cX3_find 52 = .ok (.aload_n 1, 1) := by decide +kernel
theorem dX3_find_53 : decode cX3_find 53 = .ok (.getfield 108, 3) := by decide +kernel
theorem dX3_find_56 : decode cX3_find 56 = .ok (.aload_n 1, 1) := by decide +kernel
theorem dX3_find_57 : decode cX3_find 57 = .ok (.getfield 93, 3) := by decide +kernel
theorem dX3_find_60 : decode cX3_find 60 = .ok (.iload_n 2, 1) := by decide +kernel
theorem dX3_find_61 : decode cX3_find 61 = .ok (.iaload, 1) := by decide +kernel
theorem dX3_find_62 : decode cX3_find 62 = .ok (.iaload, 1) := by decide +kernel
theorem dX3_find_63 : decode cX3_find 63 = .ok (.iconst 1, 1) := by decide +kernel
theorem dX3_find_64 : decode cX3_find 64 = .ok (.if_icmp .ne 18, 3) := by decide +kernel
theorem dX3_find_67 : decode cX3_find 67 = .ok (.aload_n 0, 1) := by decide +kernel
theorem dX3_find_68 : decode cX3_find 68 = .ok (.dup, 1) := by decide +kernel
theorem dX3_find_69 : decode cX3_find 69 = .ok (.getfield 81, 3) := by decide +kernel
theorem dX3_find_72 : decode cX3_find 72 = .ok (.aload_n 1, 1) := by decide +kernel
theorem dX3_find_73 : decode cX3_find 73 = .ok (.getfield 105, 3) := by decide +kernel
theorem dX3_find_76 : decode cX3_find 76 = .ok (.iload_n 2, 1) := by decide +kernel
theorem dX3_find_77 : decode cX3_find 77 = .ok (.iaload, 1) := by decide +kernel
theorem dX3_find_78 : decode cX3_find 78 = .ok (.iadd, 1) := by decide +kernel
theorem dX3_find_79 : decode cX3_find 79 = .ok (.putfield 81, 3) := by decide +kernel
theorem dX3_find_82 : decode cX3_find 82 = .ok (.return_, 1) := by decide +kernel
set_option maxRecDepth 20000 in
theorem ggX3_findFirst_X3_find : GoodIn wsX3_findFirst wsX3_find := goodIn_r _ [8, 9, 10, 11, 12, 13, 14, 15, 16, 17, 18, 19, 20, 21, 22, 23, 24, 25, 26, 51, 52, 53, 54, 55, 56, 57, 58, 59, 60, 61, 62, 31, 32, 33, 34, 35, 36, 37, 38, 39, 40, 41, 42, 43, 44, 45, 46, 47, 48, 49, 50] (by decide +kernel) (by decide +kernel)
set_option maxRecDepth 20000 in
theorem gX3_findFirst_X3_find : GoodIn wsX3_findFirst (wsV RX3 114 RX3 yX3_find wsX3_find) := goodIn_app (goodIn_of _ (by decide +kernel)) ggX3_findFirst_X3_find
set_option maxRecDepth 20000 in
theorem ggX3_findFirst_X5_itemAt : GoodIn wsX3_findFirst wsX5_itemAt := goodIn_r _ [30, 25, 26, 49, 50] (by decide +kernel) (by decide +kernel)
set_option maxRecDepth 20000 in
theorem gX3_findFirst_X5_itemAt : GoodIn wsX3_findFirst (wsV RX3 120 RX5 yX5_itemAt wsX5_itemAt) := goodIn_app (goodIn_of _ (by decide +kernel)) ggX3_findFirst_X5_itemAt
theorem dX3_findFirst_0 : decode cX3_findFirst 0 = .ok (.iconst 0, 1) := by decide +kernel
theorem dX3_findFirst_1 : decode cX3_findFirst 1 = .ok (.istore_n 2, 1) := by decide +kernel
theorem dX3_findFirst_2 : decode cX3_findFirst 2 = .ok (.iload_n 2, 1) := by decide +kernel
theorem dX3_findFirst_3 : decode cX3_findFirst 3 = .ok (.bipush 6, 2) := by decide +kernel
theorem dX3_findFirst_5 : decode cX3_findFirst 5 = .ok (.if_icmp .ge 20, 3) := by decide +kernel
theorem dX3_findFirst_8 : decode cX3_findFirst 8 = .ok (.aload_n 0, 1) := by decide +kernel
theorem dX3_findFirst_9 : decode cX3_findFirst 9 = .ok (.aload_n 1, 1) := by decide +kernel
theorem dX3_findFirst_10 : decode cX3_findFirst 10 = .ok (.aload_n 1, 1) := by decide +kernel
theorem dX3_findFirst_11 : decode cX3_findFirst 11 = .ok (.getfield 111, 3) := by decide +kernel
theorem dX3_findFirst_14 : decode cX3_findFirst 14 = .ok (.iload_n 2, 1) := by decide +kernel
theorem dX3_findFirst_15 : decode cX3_findFirst 15 = .ok (.iaload, 1) := by decide +kernel
theorem dX3_findFirst_16 : decode cX3_findFirst 16 = .ok (.invokevirtual 114, 3) := by decide +kernel
theorem dX3_findFirst_19 : decode cX3_findFirst 19 = .ok (.iinc 2 1, 3) := by decide +kernel
theorem dX3_findFirst_22 : decode cX3_findFirst 22 = .ok (.goto (-20), 3) := by decide +kernel
theorem dX3_findFirst_25 : decode cX3_findFirst 25 = .ok (.iconst 0, 1) := by decide +kernel
theorem dX3_findFirst_26 : decode cX3_findFirst 26 = .ok (.istore_n 2, 1) := by decide +kernel
theorem dX3_findFirst_27 : decode cX3_findFirst 27 = .ok (.iload_n 2, 1) := by decide +kernel
theorem dX3_findFirst_28 : decode cX3_findFirst 28 = .ok (.aload_n 1, 1) := by decide +kernel
theorem dX3_findFirst_29 : decode cX3_findFirst 29 = .ok (.getfield 117, 3) := by decide +kernel
theorem dX3_findFirst_32 : decode cX3_findFirst 32 = .ok (.getfield 62, 3) := by decide +kernel
theorem dX3_findFirst_35 : decode cX3_findFirst 35 = .ok (.if_icmp .ge 22, 3) := by decide +kernel
theorem dX3_findFirst_38 : decode cX3_findFirst 38 = .ok (.aload_n 0, 1) := by decide +kernel
theorem dX3_findFirst_39 : decode cX3_findFirst 39 = .ok (.aload_n 1, 1) := by decide +kernel
theorem dX3_findFirst_40 : decode cX3_findFirst 40 = .ok (.aload_n 1, 1) := by decide +kernel
theorem dX3_findFirst_41 : decode cX3_findFirst 41 = .ok (.getfield 117, 3) := by decide +kernel
theorem dX3_findFirst_44 : decode cX3_findFirst 44 = .ok (.iload_n 2, 1) := by decide +kernel
theorem dX3_findFirst_45 : decode cX3_findFirst 45 = .ok (.invokevirtual 120, 3) := by decide +kernel
theorem dX3_findFirst_48 : decode cX3_findFirst 48 = .ok (.invokevirtual 114, 3) := by decide +kernel
theorem dX3_findFirst_51 : decode cX3_findFirst 51 = .ok (.iinc 2 1, 3) := by decide +kernel
theorem dX3_findFirst_54 : decode cX3_findFirst 54 = .ok (.goto (-27), 3) := by decide +kernel
theorem dX3_findFirst_57 : decode cX3_findFirst 57 = .ok (.return_, 1) := by decide +kernel
set_option maxRecDepth 20000 in
theorem ggX3_scanCards_X6_hasBit : GoodIn wsX3_scanCards wsX6_hasBit := goodIn_r _ [7] (by decide +kernel) (by decide +kernel)
set_option maxRecDepth 20000 in
theorem gX3_scanCards_X6_hasBit_n97 : GoodIn wsX3_scanCards (wsX6_hasBit) := ggX3_scanCards_X6_hasBit
set_option maxRecDepth 20000 in
theorem ggX3_scanCards_X6_regionOfCard : GoodIn wsX3_scanCards wsX6_regionOfCard := goodIn_r _ [9] (by decide +kernel) (by decide +kernel)
set_option maxRecDepth 20000 in
theorem gX3_scanCards_X6_regionOfCard_n126 : GoodIn wsX3_scanCards (wsX6_regionOfCard) := ggX3_scanCards_X6_regionOfCard
set_option maxRecDepth 20000 in
theorem ggX3_scanCards_X3_scanCard : GoodIn wsX3_scanCards wsX3_scanCard := goodIn_r _ [14, 8, 6, 9, 15, 16, 17, 18, 19, 20, 21, 22, 23, 24, 25, 26, 27, 28, 29, 30, 31, 32, 33, 13, 34, 35, 36, 37, 38, 39, 40, 41, 42, 43, 1, 2, 44, 45, 46, 47, 48, 49, 5, 7, 50, 51, 52, 53, 54, 55, 56, 69, 70, 71, 72, 73, 74, 75, 76, 77, 78, 79, 80, 81, 82, 83, 84, 85, 86, 57, 58, 59, 60, 61, 62, 63, 64, 65, 66, 67, 68, 87, 88] (by decide +kernel) (by decide +kernel)
set_option maxRecDepth 20000 in
theorem gX3_scanCards_X3_scanCard : GoodIn wsX3_scanCards (wsV RX3 129 RX3 yX3_scanCard wsX3_scanCard) := goodIn_app (goodIn_of _ (by decide +kernel)) ggX3_scanCards_X3_scanCard
theorem dX3_scanCards_0 : decode cX3_scanCards 0 = .ok (.iconst 0, 1) := by decide +kernel
theorem dX3_scanCards_1 : decode cX3_scanCards 1 = .ok (.istore_n 2, 1) := by decide +kernel
theorem dX3_scanCards_2 : decode cX3_scanCards 2 = .ok (.iload_n 2, 1) := by decide +kernel
theorem dX3_scanCards_3 : decode cX3_scanCards 3 = .ok (.bipush 10, 2) := by decide +kernel
theorem dX3_scanCards_5 : decode cX3_scanCards 5 = .ok (.if_icmp .ge 38, 3) := by decide +kernel
theorem dX3_scanCards_8 : decode cX3_scanCards 8 = .ok (.aload_n 0, 1) := by decide +kernel
theorem dX3_scanCards_9 : decode cX3_scanCards 9 = .ok (.getfield 12, 3) := by decide +kernel
theorem dX3_scanCards_12 : decode cX3_scanCards 12 = .ok (.getfield 90, 3) := by decide +kernel
theorem dX3_scanCards_15 : decode cX3_scanCards 15 = .ok (.iload_n 2, 1) := by decide +kernel
theorem dX3_scanCards_16 : decode cX3_scanCards 16 = .ok (.invokestatic 97, 3) := by decide +kernel
theorem dX3_scanCards_19 : decode cX3_scanCards 19 = .ok (.ifCond .eq 18, 3) := by decide +kernel
theorem dX3_scanCards_22 : decode cX3_scanCards 22 = .ok (.aload_n 0, 1) := by decide +kernel
theorem dX3_scanCards_23 : decode cX3_scanCards 23 = .ok (.dup, 1) := by decide +kernel
theorem dX3_scanCards_24 : decode cX3_scanCards 24 = .ok (.getfield 75, 3) := by decide +kernel
theorem dX3_scanCards_27 : decode cX3_scanCards 27 = .ok (.aload_n 1, 1) := by decide +kernel
theorem dX3_scanCards_28 : decode cX3_scanCards 28 = .ok (.getfield 123, 3) := by decide +kernel
theorem dX3_scanCards_31 : decode cX3_scanCards 31 = .ok (.iload_n 2, 1) := by decide +kernel
theorem dX3_scanCards_32 : decode cX3_scanCards 32 = .ok (.iaload, 1) := by decide +kernel
theorem dX3_scanCards_33 : decode cX3_scanCards 33 = .ok (.ior, 1) := by decide +kernel
theorem dX3_scanCards_34 : decode cX3_scanCards 34 = .ok (.putfield 75, 3) := by decide +kernel
theorem dX3_scanCards_37 : decode cX3_scanCards 37 = .ok (.iinc 2 1, 3) := by decide +kernel
theorem dX3_scanCards_40 : decode cX3_scanCards 40 = .ok (.goto (-38), 3) := by decide +kernel
theorem dX3_scanCards_43 : decode cX3_scanCards 43 = .ok (.iconst 0, 1) := by decide +kernel
theorem dX3_scanCards_44 : decode cX3_scanCards 44 = .ok (.istore_n 2, 1) := by decide +kernel
theorem dX3_scanCards_45 : decode cX3_scanCards 45 = .ok (.iload_n 2, 1) := by decide +kernel
theorem dX3_scanCards_46 : decode cX3_scanCards 46 = .ok (.bipush 20, 2) := by decide +kernel
theorem dX3_scanCards_48 : decode cX3_scanCards 48 = .ok (.if_icmp .ge 60, 3) := by decide +kernel
theorem dX3_scanCards_51 : decode cX3_scanCards 51 = .ok (.aload_n 0, 1) := by decide +kernel
theorem dX3_scanCards_52 : decode cX3_scanCards 52 = .ok (.getfield 12, 3) := by decide +kernel
theorem dX3_scanCards_55 : decode cX3_scanCards 55 = .ok (.getfield 90, 3) := by decide +kernel
theorem dX3_scanCards_58 : decode cX3_scanCards 58 = .ok (.iload_n 2, 1) := by decide +kernel
theorem dX3_scanCards_59 : decode cX3_scanCards 59 = .ok (.invokestatic 126, 3) := by decide +kernel
theorem dX3_scanCards_62 : decode cX3_scanCards 62 = .ok (.invokestatic 97, 3) := by decide +kernel
theorem dX3_scanCards_65 : decode cX3_scanCards 65 = .ok (.ifCond .eq 20, 3) := by decide +kernel
theorem dX3_scanCards_68 : decode cX3_scanCards 68 = .ok (.aload_n 0, 1) := by decide +kernel
theorem dX3_scanCards_69 : decode cX3_scanCards 69 = .ok (.dup, 1) := by decide +kernel
theorem dX3_scanCards_70 : decode cX3_scanCards 70 = .ok (.getfield 75, 3) := by decide +kernel
theorem dX3_scanCards_73 : decode cX3_scanCards 73 = .ok (.iconst 1, 1) := by decide +kernel
theorem dX3_scanCards_74 : decode cX3_scanCards 74 = .ok (.iload_n 2, 1) := by decide +kernel
theorem dX3_scanCards_75 : decode cX3_scanCards 75 = .ok (.ishl, 1) := by decide +kernel
theorem dX3_scanCards_76 : decode cX3_scanCards 76 = .ok (.iconst (-1), 1) := by decide +kernel
theorem dX3_scanCards_77 : decode cX3_scanCards 77 = .ok (.ixor, 1) := by decide +kernel
theorem dX3_scanCards_78 : decode cX3_scanCards 78 = .ok (.iand, 1) := by decide +kernel
theorem dX3_scanCards_79 : decode cX3_scanCards 79 = .ok (.putfield 75, 3) := by decide +kernel
theorem dX3_scanCards_82 : decode cX3_scanCards 82 = .ok (.goto 20, 3) := by decide +kernel
theorem dX3_scanCards_85 : decode cX3_scanCards 85 = .ok (.aload_n 0, 1) := by decide +kernel
theorem dX3_scanCards_86 : decode cX3_scanCards 86 = .ok (.getfield 75, 3) := by decide +kernel
theorem dX3_scanCards_89 : decode cX3_scanCards 89 = .ok (.iload_n 2, 1) := by decide +kernel
theorem dX3_scanCards_90 : decode cX3_scanCards 90 = .ok (.invokestatic 97, 3) := by decide +kernel
theorem dX3_scanCards_93 : decode cX3_scanCards 93 = .ok (.ifCond .eq 9, 3) := by decide +kernel
theorem dX3_scanCards_96 : decode cX3_scanCards 96 = .ok (.aload_n 0, 1) := by decide +kernel
theorem dX3_scanCards_97 : decode cX3_scanCards 97 = .ok (.aload_n 1, 1) := by decide +kernel
theorem dX3_scanCards_98 : decode cX3_scanCards 98 = .ok (.iload_n 2, 1) := by decide +kernel
theorem dX3_scanCards_99 : decode cX3_scanCards 99 = .ok (.invokevirtual 129, 3) := by decide +kernel
theorem dX3_scanCards_102 : decode cX3_scanCards 102 = .ok (.iinc 2 1, 3) := by decide +kernel
theorem dX3_scanCards_105 : decode cX3_scanCards 105 = .ok (.goto (-60), 3) := by decide +kernel
theorem dX3_scanCards_108 : decode cX3_scanCards 108 = .ok (.return_, 1) := by decide +kernel
set_option maxRecDepth 20000 in
theorem ggX3_scanCard_X6_regionOfCard : GoodIn wsX3_scanCard wsX6_regionOfCard := goodIn_r _ [3] (by decide +kernel) (by decide +kernel)
set_option maxRecDepth 20000 in
theorem gX3_scanCard_X6_regionOfCard_n126 : GoodIn wsX3_scanCard (wsX6_regionOfCard) := ggX3_scanCard_X6_regionOfCard
set_option maxRecDepth 20000 in
theorem ggX3_scanCard_X1_thingAt : GoodIn wsX3_scanCard wsX1_thingAt := goodIn_r _ [8, 9, 10, 11, 12, 7, 13, 14, 15, 16, 17, 18, 19, 51, 52, 53, 54, 55, 56, 57, 58, 59, 60, 61, 62, 63, 64, 65, 66, 67, 68] (by decide +kernel) (by decide +kernel)
set_option maxRecDepth 20000 in
theorem gX3_scanCard_X1_thingAt : GoodIn wsX3_scanCard (wsV RX3 132 RX1 yX1_thingAt wsX1_thingAt) := goodIn_app (goodIn_of _ (by decide +kernel)) ggX3_scanCard_X1_thingAt
set_option maxRecDepth 20000 in
theorem ggX3_scanCard_X3_findFields : GoodIn wsX3_scanCard wsX3_findFields := goodIn_r _ [24, 25, 26, 27, 7, 28, 29, 30, 31, 32, 23, 33, 34, 35, 36, 37, 38, 39, 40, 41, 42, 2, 43, 44, 45, 46, 47, 48, 49, 50, 51, 52, 53, 54, 55, 56, 57, 58, 59, 60, 61, 62, 63, 64, 65, 66, 67, 68, 69, 70, 71, 72, 73, 74, 75, 76, 77, 78, 79, 80, 81, 82] (by decide +kernel) (by decide +kernel)
set_option maxRecDepth 20000 in
theorem gX3_scanCard_X3_findFields : GoodIn wsX3_scanCard (wsV RX3 136 RX3 yX3_findFields wsX3_findFields) := goodIn_app (goodIn_of _ (by decide +kernel)) ggX3_scanCard_X3_findFields
theorem dX3_scanCard_0 : decode cX3_scanCard 0 = .ok (.iload_n 2, 1) := by decide +kernel
theorem dX3_scanCard_1 : decode cX3_scanCard 1 = .ok (.iconst 2, 1) := by decide +kernel
theorem dX3_scanCard_2 : decode cX3_scanCard 2 = .ok (.irem, 1) := by decide +kernel
theorem dX3_scanCard_3 : decode cX3_scanCard 3 = .ok (.iconst 4, 1) := by decide +kernel
theorem dX3_scanCard_4 : decode cX3_scanCard 4 = .ok (.imul, 1) := by decide +kernel
theorem dX3_scanCard_5 : decode cX3_scanCard 5 = .ok (.istore_n 3, 1) := by decide +kernel
theorem dX3_scanCard_6 : decode cX3_scanCard 6 = .ok (.iload_n 3, 1) := by decide +kernel
theorem dX3_scanCard_7 : decode cX3_scanCard 7 = .ok (.istore 4, 2) := by decide +kernel
theorem dX3_scanCard_9 : decode cX3_scanCard 9 = .ok (.iload 4, 2) := by decide +kernel
theorem dX3_scanCard_11 : decode cX3_scanCard 11 = .ok (.iload_n 3, 1) := by decide +kernel
theorem dX3_scanCard_12 : decode cX3_scanCard 12 = .ok (.iconst 4, 1) := by decide +kernel
theorem dX3_scanCard_13 : decode cX3_scanCard 13 = .ok (.iadd, 1) := by decide +kernel
theorem dX3_scanCard_14 : decode cX3_scanCard 14 = .ok (.if_icmp .ge 35, 3) := by decide +kernel
theorem dX3_scanCard_17 : decode cX3_scanCard 17 = .ok (.aload_n 1, 1) := by decide +kernel
theorem dX3_scanCard_18 : decode cX3_scanCard 18 = .ok (.iload_n 2, 1) := by decide +kernel
theorem dX3_scanCard_19 : decode cX3_scanCard 19 = .ok (.invokestatic 126, 3) := by decide +kernel
theorem dX3_scanCard_22 : decode cX3_scanCard 22 = .ok (.iload 4, 2) := by decide +kernel
theorem dX3_scanCard_24 : decode cX3_scanCard 24 = .ok (.invokevirtual 132, 3) := by decide +kernel
theorem dX3_scanCard_27 : decode cX3_scanCard 27 = .ok (.istore 5, 2) := by decide +kernel
theorem dX3_scanCard_29 : decode cX3_scanCard 29 = .ok (.iload 5, 2) := by decide +kernel
theorem dX3_scanCard_31 : decode cX3_scanCard 31 = .ok (.bipush (-9), 2) := by decide +kernel
theorem dX3_scanCard_33 : decode cX3_scanCard 33 = .ok (.if_icmp .eq 10, 3) := by decide +kernel
theorem dX3_scanCard_36 : decode cX3_scanCard 36 = .ok (.aload_n 0, 1) := by decide +kernel
theorem dX3_scanCard_37 : decode cX3_scanCard 37 = .ok (.aload_n 1, 1) := by decide +kernel
theorem dX3_scanCard_38 : decode cX3_scanCard 38 = .ok (.iload 5, 2) := by decide +kernel
theorem dX3_scanCard_40 : decode cX3_scanCard 40 = .ok (.invokevirtual 136, 3) := by decide +kernel
theorem dX3_scanCard_43 : decode cX3_scanCard 43 = .ok (.iinc 4 1, 3) := by decide +kernel
theorem dX3_scanCard_46 : decode cX3_scanCard 46 = .ok (.goto (-37), 3) := by decide +kernel
theorem dX3_scanCard_49 : decode cX3_scanCard 49 = .ok (.return_, 1) := by decide +kernel
set_option maxRecDepth 20000 in
theorem ggX3_findFields_X1_fieldOf : GoodIn wsX3_findFields wsX1_fieldOf := goodIn_r _ [5, 6, 30, 31, 32, 33, 34, 35, 36, 37, 38, 39, 40, 41, 42, 43, 44, 45, 46, 47] (by decide +kernel) (by decide +kernel)
set_option maxRecDepth 20000 in
theorem gX3_findFields_X1_fieldOf : GoodIn wsX3_findFields (wsV RX3 139 RX1 yX1_fieldOf wsX1_fieldOf) := goodIn_app (goodIn_of _ (by decide +kernel)) ggX3_findFields_X1_fieldOf
set_option maxRecDepth 20000 in
theorem ggX3_findFields_X3_find : GoodIn wsX3_findFields wsX3_find := goodIn_r _ [11, 12, 13, 14, 15, 16, 17, 18, 19, 20, 21, 22, 23, 24, 25, 26, 27, 28, 29, 48, 49, 50, 51, 52, 53, 54, 55, 56, 57, 58, 59, 30, 31, 32, 33, 34, 35, 36, 37, 38, 39, 40, 41, 42, 43, 44, 45, 46, 47, 60, 61] (by decide +kernel) (by decide +kernel)
set_option maxRecDepth 20000 in
theorem gX3_findFields_X3_find : GoodIn wsX3_findFields (wsV RX3 114 RX3 yX3_find wsX3_find) := goodIn_app (goodIn_of _ (by decide +kernel)) ggX3_findFields_X3_find
theorem dX3_findFields_0 : decode cX3_findFields 0 = .ok (.aload_n 0, 1) := by decide +kernel
theorem dX3_findFields_1 : decode cX3_findFields 1 = .ok (.aload_n 1, 1) := by decide +kernel
theorem dX3_findFields_2 : decode cX3_findFields 2 = .ok (.aload_n 1, 1) := by decide +kernel
theorem dX3_findFields_3 : decode cX3_findFields 3 = .ok (.iload_n 2, 1) := by decide +kernel
theorem dX3_findFields_4 : decode cX3_findFields 4 = .ok (.iconst 0, 1) := by decide +kernel
theorem dX3_findFields_5 : decode cX3_findFields 5 = .ok (.invokevirtual 139, 3) := by decide +kernel
theorem dX3_findFields_8 : decode cX3_findFields 8 = .ok (.invokevirtual 114, 3) := by decide +kernel
theorem dX3_findFields_11 : decode cX3_findFields 11 = .ok (.aload_n 0, 1) := by decide +kernel
theorem dX3_findFields_12 : decode cX3_findFields 12 = .ok (.aload_n 1, 1) := by decide +kernel
theorem dX3_findFields_13 : decode cX3_findFields 13 = .ok (.aload_n 1, 1) := by decide +kernel
theorem dX3_findFields_14 : decode cX3_findFields 14 = .ok (.iload_n 2, 1) := by decide +kernel
theorem dX3_findFields_15 : decode cX3_findFields 15 = .ok (.iconst 1, 1) := by decide +kernel
theorem dX3_findFields_16 : decode cX3_findFields 16 = .ok (.invokevirtual 139, 3) := by decide +kernel
theorem dX3_findFields_19 : decode cX3_findFields 19 = .ok (.invokevirtual 114, 3) := by decide +kernel
theorem dX3_findFields_22 : decode cX3_findFields 22 = .ok (.return_, 1) := by decide +kernel
set_option maxRecDepth 20000 in
theorem ggX3_moveFound_X5_itemAt : GoodIn wsX3_moveFound wsX5_itemAt := goodIn_r _ [7, 8, 9, 73, 74] (by decide +kernel) (by decide +kernel)
set_option maxRecDepth 20000 in
theorem gX3_moveFound_X5_itemAt : GoodIn wsX3_moveFound (wsV RX3 120 RX5 yX5_itemAt wsX5_itemAt) := goodIn_app (goodIn_of _ (by decide +kernel)) ggX3_moveFound_X5_itemAt
set_option maxRecDepth 20000 in
theorem ggX3_moveFound_X3_move : GoodIn wsX3_moveFound wsX3_move := goodIn_r _ [14, 15, 16, 17, 18, 19, 20, 21, 22, 23, 24, 25, 26, 27, 28, 29, 30, 31, 32, 33, 34, 35, 36, 37, 38, 64, 65, 66, 67, 68, 69, 70, 71, 72, 75, 76, 77, 78, 79, 80, 81, 82, 83, 84, 85, 86, 87, 88, 89, 90, 91, 92] (by decide +kernel) (by decide +kernel)
set_option maxRecDepth 20000 in
theorem gX3_moveFound_X3_move : GoodIn wsX3_moveFound (wsV RX3 142 RX3 yX3_move wsX3_move) := goodIn_app (goodIn_of _ (by decide +kernel)) ggX3_moveFound_X3_move
set_option maxRecDepth 20000 in
theorem ggX3_moveFound_X3_findFields : GoodIn wsX3_moveFound wsX3_findFields := goodIn_r _ [42, 43, 44, 45, 24, 46, 47, 48, 49, 50, 13, 51, 52, 53, 54, 1, 55, 16, 19, 56, 57, 58, 59, 60, 61, 62, 6, 63, 8, 9, 75, 76, 77, 78, 79, 80, 81, 82, 83, 84, 85, 86, 87, 88, 89, 90, 91, 92, 64, 65, 66, 67, 68, 69, 70, 71, 72, 93, 94, 95, 73, 74] (by decide +kernel) (by decide +kernel)
set_option maxRecDepth 20000 in
theorem gX3_moveFound_X3_findFields : GoodIn wsX3_moveFound (wsV RX3 136 RX3 yX3_findFields wsX3_findFields) := goodIn_app (goodIn_of _ (by decide +kernel)) ggX3_moveFound_X3_findFields
theorem dX3_moveFound_0 : decode cX3_moveFound 0 = .ok (.iconst 0, 1) := by decide +kernel
theorem dX3_moveFound_1 : decode cX3_moveFound 1 = .ok (.istore_n 2, 1) := by decide +kernel
theorem dX3_moveFound_2 : decode cX3_moveFound 2 = .ok (.iload_n 2, 1) := by decide +kernel
theorem dX3_moveFound_3 : decode cX3_moveFound 3 = .ok (.bipush 32, 2) := by decide +kernel
theorem dX3_moveFound_5 : decode cX3_moveFound 5 = .ok (.if_icmp .ge 41, 3) := by decide +kernel
theorem dX3_moveFound_8 : decode cX3_moveFound 8 = .ok (.iload_n 2, 1) := by decide +kernel
theorem dX3_moveFound_9 : decode cX3_moveFound 9 = .ok (.aload_n 0, 1) := by decide +kernel
theorem dX3_moveFound_10 : decode cX3_moveFound 10 = .ok (.getfield 21, 3) := by decide +kernel
theorem dX3_moveFound_13 : decode cX3_moveFound 13 = .ok (.getfield 62, 3) := by decide +kernel
theorem dX3_moveFound_16 : decode cX3_moveFound 16 = .ok (.if_icmp .ge 30, 3) := by decide +kernel
theorem dX3_moveFound_19 : decode cX3_moveFound 19 = .ok (.aload_n 0, 1) := by decide +kernel
theorem dX3_moveFound_20 : decode cX3_moveFound 20 = .ok (.getfield 21, 3) := by decide +kernel
theorem dX3_moveFound_23 : decode cX3_moveFound 23 = .ok (.iload_n 2, 1) := by decide +kernel
theorem dX3_moveFound_24 : decode cX3_moveFound 24 = .ok (.invokevirtual 120, 3) := by decide +kernel
theorem dX3_moveFound_27 : decode cX3_moveFound 27 = .ok (.istore_n 3, 1) := by decide +kernel
theorem dX3_moveFound_28 : decode cX3_moveFound 28 = .ok (.aload_n 0, 1) := by decide +kernel
theorem dX3_moveFound_29 : decode cX3_moveFound 29 = .ok (.aload_n 1, 1) := by decide +kernel
theorem dX3_moveFound_30 : decode cX3_moveFound 30 = .ok (.iload_n 3, 1) := by decide +kernel
theorem dX3_moveFound_31 : decode cX3_moveFound 31 = .ok (.invokevirtual 142, 3) := by decide +kernel
theorem dX3_moveFound_34 : decode cX3_moveFound 34 = .ok (.aload_n 0, 1) := by decide +kernel
theorem dX3_moveFound_35 : decode cX3_moveFound 35 = .ok (.aload_n 1, 1) := by decide +kernel
theorem dX3_moveFound_36 : decode cX3_moveFound 36 = .ok (.iload_n 3, 1) := by decide +kernel
theorem dX3_moveFound_37 : decode cX3_moveFound 37 = .ok (.invokevirtual 136, 3) := by decide +kernel
theorem dX3_moveFound_40 : decode cX3_moveFound 40 = .ok (.iinc 2 1, 3) := by decide +kernel
theorem dX3_moveFound_43 : decode cX3_moveFound 43 = .ok (.goto (-41), 3) := by decide +kernel
theorem dX3_moveFound_46 : decode cX3_moveFound 46 = .ok (.return_, 1) := by decide +kernel
set_option maxRecDepth 20000 in
theorem ggX3_move_X1_hasRoom : GoodIn wsX3_move wsX1_hasRoom := goodIn_r _ [11, 12, 34, 35, 36, 37, 38, 39, 40, 41, 42, 43, 44, 45, 46, 47, 48, 49, 50, 51] (by decide +kernel) (by decide +kernel)
set_option maxRecDepth 20000 in
theorem gX3_move_X1_hasRoom : GoodIn wsX3_move (wsV RX3 145 RX1 yX1_hasRoom wsX1_hasRoom) := goodIn_app (goodIn_of _ (by decide +kernel)) ggX3_move_X1_hasRoom
set_option maxRecDepth 20000 in
theorem ggX3_move_X1_freeRow : GoodIn wsX3_move wsX1_freeRow := goodIn_r _ [16, 17, 34, 35, 36, 37, 38, 39, 40, 41, 42, 43, 44, 45, 46, 47, 48, 49, 50, 51] (by decide +kernel) (by decide +kernel)
set_option maxRecDepth 20000 in
theorem gX3_move_X1_freeRow : GoodIn wsX3_move (wsV RX3 148 RX1 yX1_freeRow wsX1_freeRow) := goodIn_app (goodIn_of _ (by decide +kernel)) ggX3_move_X1_freeRow
set_option maxRecDepth 20000 in
theorem ggX3_move_X1_layAtTop : GoodIn wsX3_move wsX1_layAtTop := goodIn_r _ [21, 22, 23, 12, 24, 34, 35, 36, 37, 38, 39, 40, 41, 42, 43, 44, 45, 46, 47, 48, 49, 50, 51] (by decide +kernel) (by decide +kernel)
set_option maxRecDepth 20000 in
theorem gX3_move_X1_layAtTop : GoodIn wsX3_move (wsV RX3 151 RX1 yX1_layAtTop wsX1_layAtTop) := goodIn_app (goodIn_of _ (by decide +kernel)) ggX3_move_X1_layAtTop
theorem dX3_move_0 : decode cX3_move 0 = .ok (.aload_n 1, 1) := by decide +kernel
theorem dX3_move_1 : decode cX3_move 1 = .ok (.aload_n 0, 1) := by decide +kernel
theorem dX3_move_2 : decode cX3_move 2 = .ok (.getfield 72, 3) := by decide +kernel
theorem dX3_move_5 : decode cX3_move 5 = .ok (.aload_n 1, 1) := by decide +kernel
theorem dX3_move_6 : decode cX3_move 6 = .ok (.getfield 105, 3) := by decide +kernel
theorem dX3_move_9 : decode cX3_move 9 = .ok (.iload_n 2, 1) := by decide +kernel
theorem dX3_move_10 : decode cX3_move 10 = .ok (.iaload, 1) := by decide +kernel
theorem dX3_move_11 : decode cX3_move 11 = .ok (.invokevirtual 145, 3) := by decide +kernel
theorem dX3_move_14 : decode cX3_move 14 = .ok (.ifCond .ne 45, 3) := by decide +kernel
theorem dX3_move_17 : decode cX3_move 17 = .ok (.aload_n 1, 1) := by decide +kernel
theorem dX3_move_18 : decode cX3_move 18 = .ok (.iconst 1, 1) := by decide +kernel
theorem dX3_move_19 : decode cX3_move 19 = .ok (.invokevirtual 148, 3) := by decide +kernel
theorem dX3_move_22 : decode cX3_move 22 = .ok (.istore_n 3, 1) := by decide +kernel
theorem dX3_move_23 : decode cX3_move 23 = .ok (.iload_n 3, 1) := by decide +kernel
theorem dX3_move_24 : decode cX3_move 24 = .ok (.bipush (-9), 2) := by decide +kernel
theorem dX3_move_26 : decode cX3_move 26 = .ok (.if_icmp .ne 21, 3) := by decide +kernel
theorem dX3_move_29 : decode cX3_move 29 = .ok (.aload_n 0, 1) := by decide +kernel
theorem dX3_move_30 : decode cX3_move 30 = .ok (.getfield 25, 3) := by decide +kernel
theorem dX3_move_33 : decode cX3_move 33 = .ok (.iload_n 2, 1) := by decide +kernel
theorem dX3_move_34 : decode cX3_move 34 = .ok (.iconst 1, 1) := by decide +kernel
theorem dX3_move_35 : decode cX3_move 35 = .ok (.bastore, 1) := by decide +kernel
theorem dX3_move_36 : decode cX3_move 36 = .ok (.aload_n 0, 1) := by decide +kernel
theorem dX3_move_37 : decode cX3_move 37 = .ok (.dup, 1) := by decide +kernel
theorem dX3_move_38 : decode cX3_move 38 = .ok (.getfield 87, 3) := by decide +kernel
theorem dX3_move_41 : decode cX3_move 41 = .ok (.iconst 1, 1) := by decide +kernel
theorem dX3_move_42 : decode cX3_move 42 = .ok (.iadd, 1) := by decide +kernel
theorem dX3_move_43 : decode cX3_move 43 = .ok (.putfield 87, 3) := by decide +kernel
theorem dX3_move_46 : decode cX3_move 46 = .ok (.return_, 1) := by decide +kernel
theorem dX3_move_47 : decode cX3_move 47 = .ok (.aload_n 1, 1) := by decide +kernel
theorem dX3_move_48 : decode cX3_move 48 = .ok (.getfield 108, 3) := by decide +kernel
theorem dX3_move_51 : decode cX3_move 51 = .ok (.iload_n 3, 1) := by decide +kernel
theorem dX3_move_52 : decode cX3_move 52 = .ok (.iconst 2, 1) := by decide +kernel
theorem dX3_move_53 : decode cX3_move 53 = .ok (.iastore, 1) := by decide +kernel
theorem dX3_move_54 : decode cX3_move 54 = .ok (.aload_n 0, 1) := by decide +kernel
theorem dX3_move_55 : decode cX3_move 55 = .ok (.iload_n 3, 1) := by decide +kernel
theorem dX3_move_56 : decode cX3_move 56 = .ok (.putfield 72, 3) := by decide +kernel
theorem dX3_move_59 : decode cX3_move 59 = .ok (.aload_n 1, 1) := by decide +kernel
theorem dX3_move_60 : decode cX3_move 60 = .ok (.iload_n 2, 1) := by decide +kernel
theorem dX3_move_61 : decode cX3_move 61 = .ok (.aload_n 0, 1) := by decide +kernel
theorem dX3_move_62 : decode cX3_move 62 = .ok (.getfield 72, 3) := by decide +kernel
theorem dX3_move_65 : decode cX3_move 65 = .ok (.invokevirtual 151, 3) := by decide +kernel
theorem dX3_move_68 : decode cX3_move 68 = .ok (.aload_n 0, 1) := by decide +kernel
theorem dX3_move_69 : decode cX3_move 69 = .ok (.dup, 1) := by decide +kernel
theorem dX3_move_70 : decode cX3_move 70 = .ok (.getfield 84, 3) := by decide +kernel
theorem dX3_move_73 : decode cX3_move 73 = .ok (.aload_n 1, 1) := by decide +kernel
theorem dX3_move_74 : decode cX3_move 74 = .ok (.getfield 105, 3) := by decide +kernel
theorem dX3_move_77 : decode cX3_move 77 = .ok (.iload_n 2, 1) := by decide +kernel
theorem dX3_move_78 : decode cX3_move 78 = .ok (.iaload, 1) := by decide +kernel
theorem dX3_move_79 : decode cX3_move 79 = .ok (.iadd, 1) := by decide +kernel
theorem dX3_move_80 : decode cX3_move 80 = .ok (.putfield 84, 3) := by decide +kernel
theorem dX3_move_83 : decode cX3_move 83 = .ok (.return_, 1) := by decide +kernel
set_option maxRecDepth 20000 in
theorem ggX3_dirtyMoved_X5_itemAt : GoodIn wsX3_dirtyMoved wsX5_itemAt := goodIn_r _ [9, 10, 11, 37, 38] (by decide +kernel) (by decide +kernel)
set_option maxRecDepth 20000 in
theorem gX3_dirtyMoved_X5_itemAt : GoodIn wsX3_dirtyMoved (wsV RX3 120 RX5 yX5_itemAt wsX5_itemAt) := goodIn_app (goodIn_of _ (by decide +kernel)) ggX3_dirtyMoved_X5_itemAt
set_option maxRecDepth 20000 in
theorem ggX3_dirtyMoved_X1_cardOfThing : GoodIn wsX3_dirtyMoved wsX1_cardOfThing := goodIn_r _ [16, 17, 18, 19, 20, 21, 39, 40, 41, 42, 43, 44, 45, 46, 47, 48, 49, 50, 51, 52, 53, 54, 55, 56] (by decide +kernel) (by decide +kernel)
set_option maxRecDepth 20000 in
theorem gX3_dirtyMoved_X1_cardOfThing : GoodIn wsX3_dirtyMoved (wsV RX3 158 RX1 yX1_cardOfThing wsX1_cardOfThing) := goodIn_app (goodIn_of _ (by decide +kernel)) ggX3_dirtyMoved_X1_cardOfThing
set_option maxRecDepth 20000 in
theorem ggX3_dirtyMoved_X5_append : GoodIn wsX3_dirtyMoved wsX5_append := goodIn_r _ [25, 10, 11, 37, 38] (by decide +kernel) (by decide +kernel)
set_option maxRecDepth 20000 in
theorem gX3_dirtyMoved_X5_append : GoodIn wsX3_dirtyMoved (wsV RX3 101 RX5 yX5_append wsX5_append) := goodIn_app (goodIn_of _ (by decide +kernel)) ggX3_dirtyMoved_X5_append
set_option maxRecDepth 20000 in
theorem ggX3_dirtyMoved_X6_hasBit : GoodIn wsX3_dirtyMoved wsX6_hasBit := goodIn_r _ [27] (by decide +kernel) (by decide +kernel)
set_option maxRecDepth 20000 in
theorem gX3_dirtyMoved_X6_hasBit_n97 : GoodIn wsX3_dirtyMoved (wsX6_hasBit) := ggX3_dirtyMoved_X6_hasBit
theorem dX3_dirtyMoved_0 : decode cX3_dirtyMoved 0 = .ok (.iconst 0, 1) := by decide +kernel
theorem dX3_dirtyMoved_1 : decode cX3_dirtyMoved 1 = .ok (.istore_n 2, 1) := by decide +kernel
theorem dX3_dirtyMoved_2 : decode cX3_dirtyMoved 2 = .ok (.iload_n 2, 1) := by decide +kernel
theorem dX3_dirtyMoved_3 : decode cX3_dirtyMoved 3 = .ok (.aload_n 0, 1) := by decide +kernel
theorem dX3_dirtyMoved_4 : decode cX3_dirtyMoved 4 = .ok (.getfield 21, 3) := by decide +kernel
theorem dX3_dirtyMoved_7 : decode cX3_dirtyMoved 7 = .ok (.getfield 62, 3) := by decide +kernel
theorem dX3_dirtyMoved_10 : decode cX3_dirtyMoved 10 = .ok (.if_icmp .ge 29, 3) := by decide +kernel
theorem dX3_dirtyMoved_13 : decode cX3_dirtyMoved 13 = .ok (.aload_n 1, 1) := by decide +kernel
theorem dX3_dirtyMoved_14 : decode cX3_dirtyMoved 14 = .ok (.getfield 155, 3) := by decide +kernel
theorem dX3_dirtyMoved_17 : decode cX3_dirtyMoved 17 = .ok (.aload_n 1, 1) := by decide +kernel
theorem dX3_dirtyMoved_18 : decode cX3_dirtyMoved 18 = .ok (.aload_n 0, 1) := by decide +kernel
theorem dX3_dirtyMoved_19 : decode cX3_dirtyMoved 19 = .ok (.getfield 21, 3) := by decide +kernel
theorem dX3_dirtyMoved_22 : decode cX3_dirtyMoved 22 = .ok (.iload_n 2, 1) := by decide +kernel
theorem dX3_dirtyMoved_23 : decode cX3_dirtyMoved 23 = .ok (.invokevirtual 120, 3) := by decide +kernel
theorem dX3_dirtyMoved_26 : decode cX3_dirtyMoved 26 = .ok (.invokevirtual 158, 3) := by decide +kernel
theorem dX3_dirtyMoved_29 : decode cX3_dirtyMoved 29 = .ok (.invokevirtual 101, 3) := by decide +kernel
theorem dX3_dirtyMoved_32 : decode cX3_dirtyMoved 32 = .ok (.pop, 1) := by decide +kernel
theorem dX3_dirtyMoved_33 : decode cX3_dirtyMoved 33 = .ok (.iinc 2 1, 3) := by decide +kernel
theorem dX3_dirtyMoved_36 : decode cX3_dirtyMoved 36 = .ok (.goto (-34), 3) := by decide +kernel
theorem dX3_dirtyMoved_39 : decode cX3_dirtyMoved 39 = .ok (.iconst 0, 1) := by decide +kernel
theorem dX3_dirtyMoved_40 : decode cX3_dirtyMoved 40 = .ok (.istore_n 2, 1) := by decide +kernel
theorem dX3_dirtyMoved_41 : decode cX3_dirtyMoved 41 = .ok (.iload_n 2, 1) := by decide +kernel
theorem dX3_dirtyMoved_42 : decode cX3_dirtyMoved 42 = .ok (.bipush 20, 2) := by decide +kernel
theorem dX3_dirtyMoved_44 : decode cX3_dirtyMoved 44 = .ok (.if_icmp .ge 29, 3) := by decide +kernel
theorem dX3_dirtyMoved_47 : decode cX3_dirtyMoved 47 = .ok (.aload_n 0, 1) := by decide +kernel
theorem dX3_dirtyMoved_48 : decode cX3_dirtyMoved 48 = .ok (.getfield 75, 3) := by decide +kernel
theorem dX3_dirtyMoved_51 : decode cX3_dirtyMoved 51 = .ok (.iload_n 2, 1) := by decide +kernel
theorem dX3_dirtyMoved_52 : decode cX3_dirtyMoved 52 = .ok (.invokestatic 97, 3) := by decide +kernel
theorem dX3_dirtyMoved_55 : decode cX3_dirtyMoved 55 = .ok (.ifCond .eq 12, 3) := by decide +kernel
theorem dX3_dirtyMoved_58 : decode cX3_dirtyMoved 58 = .ok (.aload_n 1, 1) := by decide +kernel
theorem dX3_dirtyMoved_59 : decode cX3_dirtyMoved 59 = .ok (.getfield 155, 3) := by decide +kernel
theorem dX3_dirtyMoved_62 : decode cX3_dirtyMoved 62 = .ok (.iload_n 2, 1) := by decide +kernel
theorem dX3_dirtyMoved_63 : decode cX3_dirtyMoved 63 = .ok (.invokevirtual 101, 3) := by decide +kernel
theorem dX3_dirtyMoved_66 : decode cX3_dirtyMoved 66 = .ok (.pop, 1) := by decide +kernel
theorem dX3_dirtyMoved_67 : decode cX3_dirtyMoved 67 = .ok (.iinc 2 1, 3) := by decide +kernel
theorem dX3_dirtyMoved_70 : decode cX3_dirtyMoved 70 = .ok (.goto (-29), 3) := by decide +kernel
theorem dX3_dirtyMoved_73 : decode cX3_dirtyMoved 73 = .ok (.return_, 1) := by decide +kernel
set_option maxRecDepth 20000 in
theorem ggX3_sweepChosen_X6_hasBit : GoodIn wsX3_sweepChosen wsX6_hasBit := goodIn_r _ [6] (by decide +kernel) (by decide +kernel)
set_option maxRecDepth 20000 in
theorem gX3_sweepChosen_X6_hasBit_n97 : GoodIn wsX3_sweepChosen (wsX6_hasBit) := ggX3_sweepChosen_X6_hasBit
set_option maxRecDepth 20000 in
theorem ggX3_sweepChosen_X3_sweep : GoodIn wsX3_sweepChosen wsX3_sweep := goodIn_r _ [11, 12, 13, 14, 15, 16, 17, 18, 19, 20, 21, 22, 23, 24, 25, 26, 27, 28, 29, 30, 31, 32, 33, 34, 35, 36, 37, 38, 39, 40, 41, 42, 43, 44, 45, 46, 47, 48, 49, 5, 50, 51, 52, 53, 54, 55, 56, 57, 58, 59, 60, 61, 62, 63, 64, 65, 66, 67, 68, 72, 73, 74, 75, 76, 77, 78, 79, 80, 81, 82, 83, 84, 85, 86, 87, 88, 89, 90, 91] (by decide +kernel) (by decide +kernel)
set_option maxRecDepth 20000 in
theorem gX3_sweepChosen_X3_sweep : GoodIn wsX3_sweepChosen (wsV RX3 161 RX3 yX3_sweep wsX3_sweep) := goodIn_app (goodIn_of _ (by decide +kernel)) ggX3_sweepChosen_X3_sweep
theorem dX3_sweepChosen_0 : decode cX3_sweepChosen 0 = .ok (.iconst 0, 1) := by decide +kernel
theorem dX3_sweepChosen_1 : decode cX3_sweepChosen 1 = .ok (.istore_n 2, 1) := by decide +kernel
theorem dX3_sweepChosen_2 : decode cX3_sweepChosen 2 = .ok (.iload_n 2, 1) := by decide +kernel
theorem dX3_sweepChosen_3 : decode cX3_sweepChosen 3 = .ok (.bipush 10, 2) := by decide +kernel
theorem dX3_sweepChosen_5 : decode cX3_sweepChosen 5 = .ok (.if_icmp .ge 29, 3) := by decide +kernel
theorem dX3_sweepChosen_8 : decode cX3_sweepChosen 8 = .ok (.aload_n 0, 1) := by decide +kernel
theorem dX3_sweepChosen_9 : decode cX3_sweepChosen 9 = .ok (.getfield 12, 3) := by decide +kernel
theorem dX3_sweepChosen_12 : decode cX3_sweepChosen 12 = .ok (.getfield 90, 3) := by decide +kernel
theorem dX3_sweepChosen_15 : decode cX3_sweepChosen 15 = .ok (.iload_n 2, 1) := by decide +kernel
theorem dX3_sweepChosen_16 : decode cX3_sweepChosen 16 = .ok (.invokestatic 97, 3) := by decide +kernel
theorem dX3_sweepChosen_19 : decode cX3_sweepChosen 19 = .ok (.ifCond .eq 9, 3) := by decide +kernel
theorem dX3_sweepChosen_22 : decode cX3_sweepChosen 22 = .ok (.aload_n 0, 1) := by decide +kernel
theorem dX3_sweepChosen_23 : decode cX3_sweepChosen 23 = .ok (.aload_n 1, 1) := by decide +kernel
theorem dX3_sweepChosen_24 : decode cX3_sweepChosen 24 = .ok (.iload_n 2, 1) := by decide +kernel
theorem dX3_sweepChosen_25 : decode cX3_sweepChosen 25 = .ok (.invokevirtual 161, 3) := by decide +kernel
theorem dX3_sweepChosen_28 : decode cX3_sweepChosen 28 = .ok (.iinc 2 1, 3) := by decide +kernel
theorem dX3_sweepChosen_31 : decode cX3_sweepChosen 31 = .ok (.goto (-29), 3) := by decide +kernel
theorem dX3_sweepChosen_34 : decode cX3_sweepChosen 34 = .ok (.aload_n 1, 1) := by decide +kernel
theorem dX3_sweepChosen_35 : decode cX3_sweepChosen 35 = .ok (.bipush (-9), 2) := by decide +kernel
theorem dX3_sweepChosen_37 : decode cX3_sweepChosen 37 = .ok (.putfield 164, 3) := by decide +kernel
theorem dX3_sweepChosen_40 : decode cX3_sweepChosen 40 = .ok (.return_, 1) := by decide +kernel
set_option maxRecDepth 20000 in
theorem ggX3_sweep_X1_isIn : GoodIn wsX3_sweep wsX1_isIn := goodIn_r _ [8, 9, 10, 11, 12, 7, 13, 14, 59, 60, 61, 62, 63, 64, 65, 66, 67, 68, 69, 70, 71, 72, 73, 74, 75, 76] (by decide +kernel) (by decide +kernel)
set_option maxRecDepth 20000 in
theorem gX3_sweep_X1_isIn : GoodIn wsX3_sweep (wsV RX3 167 RX1 yX1_isIn wsX1_isIn) := goodIn_app (goodIn_of _ (by decide +kernel)) ggX3_sweep_X1_isIn
set_option maxRecDepth 20000 in
theorem ggX3_sweep_X1_endThing : GoodIn wsX3_sweep wsX1_endThing := goodIn_r _ [18, 14, 19, 59, 60, 61, 62, 63, 64, 65, 66, 67, 68, 69, 70, 71, 72, 73, 74, 75, 76] (by decide +kernel) (by decide +kernel)
set_option maxRecDepth 20000 in
theorem gX3_sweep_X1_endThing : GoodIn wsX3_sweep (wsV RX3 170 RX1 yX1_endThing wsX1_endThing) := goodIn_app (goodIn_of _ (by decide +kernel)) ggX3_sweep_X1_endThing
set_option maxRecDepth 20000 in
theorem ggX3_sweep_X1_thingsIn : GoodIn wsX3_sweep wsX1_thingsIn := goodIn_r _ [23, 24, 5, 6, 7, 8, 9, 10, 11, 12, 13, 14, 59, 60, 61, 62, 63, 64, 65, 66, 67, 68, 69, 70, 71, 72, 73, 74, 75, 76] (by decide +kernel) (by decide +kernel)
set_option maxRecDepth 20000 in
theorem gX3_sweep_X1_thingsIn : GoodIn wsX3_sweep (wsV RX3 174 RX1 yX1_thingsIn wsX1_thingsIn) := goodIn_app (goodIn_of _ (by decide +kernel)) ggX3_sweep_X1_thingsIn
set_option maxRecDepth 20000 in
theorem ggX3_sweep_X1_freeWithRests : GoodIn wsX3_sweep wsX1_freeWithRests := goodIn_r _ [28, 29, 30, 31, 32, 7, 33, 34, 35, 36, 37, 38, 39, 40, 41, 42, 43, 44, 45, 46, 47, 48, 49, 59, 60, 61, 62, 63, 64, 65, 66, 67, 68, 69, 70, 71, 72, 73, 74, 75, 76, 77, 78] (by decide +kernel) (by decide +kernel)
set_option maxRecDepth 20000 in
theorem gX3_sweep_X1_freeWithRests : GoodIn wsX3_sweep (wsV RX3 177 RX1 yX1_freeWithRests wsX1_freeWithRests) := goodIn_app (goodIn_of _ (by decide +kernel)) ggX3_sweep_X1_freeWithRests
theorem dX3_sweep_0 : decode cX3_sweep 0 = .ok (.iconst 0, 1) := by decide +kernel
theorem dX3_sweep_1 : decode cX3_sweep 1 = .ok (.istore_n 3, 1) := by decide +kernel
theorem dX3_sweep_2 : decode cX3_sweep 2 = .ok (.iload_n 3, 1) := by decide +kernel
theorem dX3_sweep_3 : decode cX3_sweep 3 = .ok (.bipush 32, 2) := by decide +kernel
theorem dX3_sweep_5 : decode cX3_sweep 5 = .ok (.if_icmp .ge 32, 3) := by decide +kernel
theorem dX3_sweep_8 : decode cX3_sweep 8 = .ok (.aload_n 1, 1) := by decide +kernel
theorem dX3_sweep_9 : decode cX3_sweep 9 = .ok (.iload_n 3, 1) := by decide +kernel
theorem dX3_sweep_10 : decode cX3_sweep 10 = .ok (.iload_n 2, 1) := by decide +kernel
theorem dX3_sweep_11 : decode cX3_sweep 11 = .ok (.invokevirtual 167, 3) := by decide +kernel
theorem dX3_sweep_14 : decode cX3_sweep 14 = .ok (.ifCond .eq 17, 3) := by decide +kernel
theorem dX3_sweep_17 : decode cX3_sweep 17 = .ok (.aload_n 0, 1) := by decide +kernel
theorem dX3_sweep_18 : decode cX3_sweep 18 = .ok (.getfield 25, 3) := by decide +kernel
theorem dX3_sweep_21 : decode cX3_sweep 21 = .ok (.iload_n 3, 1) := by decide +kernel
theorem dX3_sweep_22 : decode cX3_sweep 22 = .ok (.baload, 1) := by decide +kernel
theorem dX3_sweep_23 : decode cX3_sweep 23 = .ok (.ifCond .ne 8, 3) := by decide +kernel
theorem dX3_sweep_26 : decode cX3_sweep 26 = .ok (.aload_n 1, 1) := by decide +kernel
theorem dX3_sweep_27 : decode cX3_sweep 27 = .ok (.iload_n 3, 1) := by decide +kernel
theorem dX3_sweep_28 : decode cX3_sweep 28 = .ok (.invokevirtual 170, 3) := by decide +kernel
theorem dX3_sweep_31 : decode cX3_sweep 31 = .ok (.iinc 3 1, 3) := by decide +kernel
theorem dX3_sweep_34 : decode cX3_sweep 34 = .ok (.goto (-32), 3) := by decide +kernel
theorem dX3_sweep_37 : decode cX3_sweep 37 = .ok (.aload_n 1, 1) := by decide +kernel
theorem dX3_sweep_38 : decode cX3_sweep 38 = .ok (.iload_n 2, 1) := by decide +kernel
theorem dX3_sweep_39 : decode cX3_sweep 39 = .ok (.invokevirtual 174, 3) := by decide +kernel
theorem dX3_sweep_42 : decode cX3_sweep 42 = .ok (.ifCond .ne 11, 3) := by decide +kernel
theorem dX3_sweep_45 : decode cX3_sweep 45 = .ok (.aload_n 1, 1) := by decide +kernel
theorem dX3_sweep_46 : decode cX3_sweep 46 = .ok (.iload_n 2, 1) := by decide +kernel
theorem dX3_sweep_47 : decode cX3_sweep 47 = .ok (.invokevirtual 177, 3) := by decide +kernel
theorem dX3_sweep_50 : decode cX3_sweep 50 = .ok (.goto 18, 3) := by decide +kernel
theorem dX3_sweep_53 : decode cX3_sweep 53 = .ok (.aload_n 1, 1) := by decide +kernel
theorem dX3_sweep_54 : decode cX3_sweep 54 = .ok (.getfield 108, 3) := by decide +kernel
theorem dX3_sweep_57 : decode cX3_sweep 57 = .ok (.iload_n 2, 1) := by decide +kernel
theorem dX3_sweep_58 : decode cX3_sweep 58 = .ok (.iconst 2, 1) := by decide +kernel
theorem dX3_sweep_59 : decode cX3_sweep 59 = .ok (.iastore, 1) := by decide +kernel
theorem dX3_sweep_60 : decode cX3_sweep 60 = .ok (.aload_n 1, 1) := by decide +kernel
theorem dX3_sweep_61 : decode cX3_sweep 61 = .ok (.getfield 180, 3) := by decide +kernel
theorem dX3_sweep_64 : decode cX3_sweep 64 = .ok (.iload_n 2, 1) := by decide +kernel
theorem dX3_sweep_65 : decode cX3_sweep 65 = .ok (.bipush (-9), 2) := by decide +kernel
theorem dX3_sweep_67 : decode cX3_sweep 67 = .ok (.iastore, 1) := by decide +kernel
theorem dX3_sweep_68 : decode cX3_sweep 68 = .ok (.return_, 1) := by decide +kernel
set_option maxRecDepth 20000 in
theorem ggX3_tellCost_J6_bitCount_0f7a4 : GoodIn wsX3_tellCost wsJ6_bitCount_0f7a4 := goodIn_r _ [17, 18, 19, 20] (by decide +kernel) (by decide +kernel)
set_option maxRecDepth 20000 in
theorem gX3_tellCost_J6_bitCount_0f7a4 : GoodIn wsX3_tellCost (va_wsS RX3 183 yJ6_bitCount_0f7a4 wsJ6_bitCount_0f7a4) := goodIn_app (goodIn_of _ (by decide +kernel)) ggX3_tellCost_J6_bitCount_0f7a4
theorem dX3_tellCost_0 : decode cX3_tellCost 0 = .ok (.aload_n 0, 1) := by decide +kernel
theorem dX3_tellCost_1 : decode cX3_tellCost 1 = .ok (.getfield 84, 3) := by decide +kernel
theorem dX3_tellCost_4 : decode cX3_tellCost 4 = .ok (.iconst 2, 1) := by decide +kernel
theorem dX3_tellCost_5 : decode cX3_tellCost 5 = .ok (.aload_n 0, 1) := by decide +kernel
theorem dX3_tellCost_6 : decode cX3_tellCost 6 = .ok (.getfield 75, 3) := by decide +kernel
theorem dX3_tellCost_9 : decode cX3_tellCost 9 = .ok (.invokestatic 183, 3) := by decide +kernel
theorem dX3_tellCost_12 : decode cX3_tellCost 12 = .ok (.imul, 1) := by decide +kernel
theorem dX3_tellCost_13 : decode cX3_tellCost 13 = .ok (.iadd, 1) := by decide +kernel
theorem dX3_tellCost_14 : decode cX3_tellCost 14 = .ok (.iconst 5, 1) := by decide +kernel
theorem dX3_tellCost_15 : decode cX3_tellCost 15 = .ok (.aload_n 0, 1) := by decide +kernel
theorem dX3_tellCost_16 : decode cX3_tellCost 16 = .ok (.getfield 87, 3) := by decide +kernel
theorem dX3_tellCost_19 : decode cX3_tellCost 19 = .ok (.imul, 1) := by decide +kernel
theorem dX3_tellCost_20 : decode cX3_tellCost 20 = .ok (.iadd, 1) := by decide +kernel
theorem dX3_tellCost_21 : decode cX3_tellCost 21 = .ok (.istore_n 2, 1) := by decide +kernel
theorem dX3_tellCost_22 : decode cX3_tellCost 22 = .ok (.aload_n 0, 1) := by decide +kernel
theorem dX3_tellCost_23 : decode cX3_tellCost 23 = .ok (.getfield 78, 3) := by decide +kernel
theorem dX3_tellCost_26 : decode cX3_tellCost 26 = .ok (.ifCond .le 26, 3) := by decide +kernel
theorem dX3_tellCost_29 : decode cX3_tellCost 29 = .ok (.aload_n 1, 1) := by decide +kernel
theorem dX3_tellCost_30 : decode cX3_tellCost 30 = .ok (.ldc 188, 2) := by decide +kernel
theorem dX3_tellCost_32 : decode cX3_tellCost 32 = .ok (.aload_n 1, 1) := by decide +kernel
theorem dX3_tellCost_33 : decode cX3_tellCost 33 = .ok (.getfield 189, 3) := by decide +kernel
theorem dX3_tellCost_36 : decode cX3_tellCost 36 = .ok (.fmul, 1) := by decide +kernel
theorem dX3_tellCost_37 : decode cX3_tellCost 37 = .ok (.ldc 193, 2) := by decide +kernel
theorem dX3_tellCost_39 : decode cX3_tellCost 39 = .ok (.iload_n 2, 1) := by decide +kernel
theorem dX3_tellCost_40 : decode cX3_tellCost 40 = .ok (.i2f, 1) := by decide +kernel
theorem dX3_tellCost_41 : decode cX3_tellCost 41 = .ok (.aload_n 0, 1) := by decide +kernel
theorem dX3_tellCost_42 : decode cX3_tellCost 42 = .ok (.getfield 78, 3) := by decide +kernel
theorem dX3_tellCost_45 : decode cX3_tellCost 45 = .ok (.i2f, 1) := by decide +kernel
theorem dX3_tellCost_46 : decode cX3_tellCost 46 = .ok (.fdiv, 1) := by decide +kernel
theorem dX3_tellCost_47 : decode cX3_tellCost 47 = .ok (.fmul, 1) := by decide +kernel
theorem dX3_tellCost_48 : decode cX3_tellCost 48 = .ok (.fadd, 1) := by decide +kernel
theorem dX3_tellCost_49 : decode cX3_tellCost 49 = .ok (.putfield 189, 3) := by decide +kernel
theorem dX3_tellCost_52 : decode cX3_tellCost 52 = .ok (.aload_n 0, 1) := by decide +kernel
theorem dX3_tellCost_53 : decode cX3_tellCost 53 = .ok (.getfield 12, 3) := by decide +kernel
theorem dX3_tellCost_56 : decode cX3_tellCost 56 = .ok (.getfield 194, 3) := by decide +kernel
theorem dX3_tellCost_59 : decode cX3_tellCost 59 = .ok (.ifCond .le 32, 3) := by decide +kernel
theorem dX3_tellCost_62 : decode cX3_tellCost 62 = .ok (.aload_n 1, 1) := by decide +kernel
theorem dX3_tellCost_63 : decode cX3_tellCost 63 = .ok (.ldc 188, 2) := by decide +kernel
theorem dX3_tellCost_65 : decode cX3_tellCost 65 = .ok (.aload_n 1, 1) := by decide +kernel
theorem dX3_tellCost_66 : decode cX3_tellCost 66 = .ok (.getfield 197, 3) := by decide +kernel
theorem dX3_tellCost_69 : decode cX3_tellCost 69 = .ok (.fmul, 1) := by decide +kernel
theorem dX3_tellCost_70 : decode cX3_tellCost 70 = .ok (.ldc 193, 2) := by decide +kernel
theorem dX3_tellCost_72 : decode cX3_tellCost 72 = .ok (.aload_n 0, 1) := by decide +kernel
theorem dX3_tellCost_73 : decode cX3_tellCost 73 = .ok (.getfield 81, 3) := by decide +kernel
theorem dX3_tellCost_76 : decode cX3_tellCost 76 = .ok (.i2f, 1) := by decide +kernel
theorem dX3_tellCost_77 : decode cX3_tellCost 77 = .ok (.aload_n 0, 1) := by decide +kernel
theorem dX3_tellCost_78 : decode cX3_tellCost 78 = .ok (.getfield 12, 3) := by decide +kernel
theorem dX3_tellCost_81 : decode cX3_tellCost 81 = .ok (.getfield 194, 3) := by decide +kernel
theorem dX3_tellCost_84 : decode cX3_tellCost 84 = .ok (.i2f, 1) := by decide +kernel
theorem dX3_tellCost_85 : decode cX3_tellCost 85 = .ok (.fdiv, 1) := by decide +kernel
theorem dX3_tellCost_86 : decode cX3_tellCost 86 = .ok (.fmul, 1) := by decide +kernel
theorem dX3_tellCost_87 : decode cX3_tellCost 87 = .ok (.fadd, 1) := by decide +kernel
theorem dX3_tellCost_88 : decode cX3_tellCost 88 = .ok (.putfield 197, 3) := by decide +kernel
theorem dX3_tellCost_91 : decode cX3_tellCost 91 = .ok (.aload_n 1, 1) := by decide +kernel
theorem dX3_tellCost_92 : decode cX3_tellCost 92 = .ok (.dup, 1) := by decide +kernel
theorem dX3_tellCost_93 : decode cX3_tellCost 93 = .ok (.getfield 200, 3) := by decide +kernel
theorem dX3_tellCost_96 : decode cX3_tellCost 96 = .ok (.iconst 1, 1) := by decide +kernel
theorem dX3_tellCost_97 : decode cX3_tellCost 97 = .ok (.iadd, 1) := by decide +kernel
theorem dX3_tellCost_98 : decode cX3_tellCost 98 = .ok (.putfield 200, 3) := by decide +kernel
theorem dX3_tellCost_101 : decode cX3_tellCost 101 = .ok (.aload_n 1, 1) := by decide +kernel
theorem dX3_tellCost_102 : decode cX3_tellCost 102 = .ok (.bipush 10, 2) := by decide +kernel
theorem dX3_tellCost_104 : decode cX3_tellCost 104 = .ok (.iload_n 2, 1) := by decide +kernel
theorem dX3_tellCost_105 : decode cX3_tellCost 105 = .ok (.iadd, 1) := by decide +kernel
theorem dX3_tellCost_106 : decode cX3_tellCost 106 = .ok (.putfield 203, 3) := by decide +kernel
theorem dX3_tellCost_109 : decode cX3_tellCost 109 = .ok (.aload_n 1, 1) := by decide +kernel
theorem dX3_tellCost_110 : decode cX3_tellCost 110 = .ok (.getfield 203, 3) := by decide +kernel
theorem dX3_tellCost_113 : decode cX3_tellCost 113 = .ok (.ireturn, 1) := by decide +kernel
set_option maxRecDepth 20000 in
theorem ggX4_init_X5_init : GoodIn wsX4_init wsX5_init := goodIn_r _ [13, 14, 2, 3, 6, 15, 19, 20] (by decide +kernel) (by decide +kernel)
set_option maxRecDepth 20000 in
theorem gX4_init_X5_init_n21 : GoodIn wsX4_init (wsX5_init) := ggX4_init_X5_init
theorem dX4_init_0 : decode cX4_init 0 = .ok (.aload_n 0, 1) := by decide +kernel
theorem dX4_init_1 : decode cX4_init 1 = .ok (.invokespecial 3, 3) := by decide +kernel
theorem dX4_init_4 : decode cX4_init 4 = .ok (.aload_n 0, 1) := by decide +kernel
theorem dX4_init_5 : decode cX4_init 5 = .ok (.bipush 32, 2) := by decide +kernel
theorem dX4_init_7 : decode cX4_init 7 = .ok (.newarray .boolean, 2) := by decide +kernel
theorem dX4_init_9 : decode cX4_init 9 = .ok (.putfield 9, 3) := by decide +kernel
theorem dX4_init_12 : decode cX4_init 12 = .ok (.aload_n 0, 1) := by decide +kernel
theorem dX4_init_13 : decode cX4_init 13 = .ok (.bipush 32, 2) := by decide +kernel
theorem dX4_init_15 : decode cX4_init 15 = .ok (.newarray .int, 2) := by decide +kernel
theorem dX4_init_17 : decode cX4_init 17 = .ok (.putfield 15, 3) := by decide +kernel
theorem dX4_init_20 : decode cX4_init 20 = .ok (.aload_n 0, 1) := by decide +kernel
theorem dX4_init_21 : decode cX4_init 21 = .ok (.new 19, 3) := by decide +kernel
theorem dX4_init_24 : decode cX4_init 24 = .ok (.dup, 1) := by decide +kernel
theorem dX4_init_25 : decode cX4_init 25 = .ok (.invokespecial 21, 3) := by decide +kernel
theorem dX4_init_28 : decode cX4_init 28 = .ok (.putfield 22, 3) := by decide +kernel
theorem dX4_init_31 : decode cX4_init 31 = .ok (.return_, 1) := by decide +kernel
set_option maxRecDepth 20000 in
theorem ggX4_findReached_J7_fill_49daa : GoodIn wsX4_findReached wsJ7_fill_49daa := goodIn_r _ [8] (by decide +kernel) (by decide +kernel)
set_option maxRecDepth 20000 in
theorem gX4_findReached_J7_fill_49daa : GoodIn wsX4_findReached (va_wsS RX4 26 yJ7_fill_49daa wsJ7_fill_49daa) := goodIn_app (goodIn_of _ (by decide +kernel)) ggX4_findReached_J7_fill_49daa
set_option maxRecDepth 20000 in
theorem ggX4_findReached_X4_enter : GoodIn wsX4_findReached wsX4_enter := goodIn_r _ [13, 1, 2, 14, 15, 16, 17, 18, 19, 20, 31, 32, 33, 34, 35] (by decide +kernel) (by decide +kernel)
set_option maxRecDepth 20000 in
theorem gX4_findReached_X4_enter : GoodIn wsX4_findReached (wsV RX4 41 RX4 yX4_enter wsX4_enter) := goodIn_app (goodIn_of _ (by decide +kernel)) ggX4_findReached_X4_enter
set_option maxRecDepth 20000 in
theorem ggX4_findReached_X5_itemAt : GoodIn wsX4_findReached wsX5_itemAt := goodIn_r _ [24, 19, 20, 34, 35] (by decide +kernel) (by decide +kernel)
set_option maxRecDepth 20000 in
theorem gX4_findReached_X5_itemAt : GoodIn wsX4_findReached (wsV RX4 45 RX5 yX5_itemAt wsX5_itemAt) := goodIn_app (goodIn_of _ (by decide +kernel)) ggX4_findReached_X5_itemAt
set_option maxRecDepth 20000 in
theorem ggX4_findReached_X1_fieldOf : GoodIn wsX4_findReached wsX1_fieldOf := goodIn_r _ [29, 30, 36, 37, 38, 39, 40, 41, 42, 43, 44, 45, 46, 47, 48, 49, 50, 51, 52, 53] (by decide +kernel) (by decide +kernel)
set_option maxRecDepth 20000 in
theorem gX4_findReached_X1_fieldOf : GoodIn wsX4_findReached (wsV RX4 49 RX1 yX1_fieldOf wsX1_fieldOf) := goodIn_app (goodIn_of _ (by decide +kernel)) ggX4_findReached_X1_fieldOf
theorem dX4_findReached_0 : decode cX4_findReached 0 = .ok (.aload_n 0, 1) := by decide +kernel
theorem dX4_findReached_1 : decode cX4_findReached 1 = .ok (.getfield 9, 3) := by decide +kernel
theorem dX4_findReached_4 : decode cX4_findReached 4 = .ok (.iconst 0, 1) := by decide +kernel
theorem dX4_findReached_5 : decode cX4_findReached 5 = .ok (.invokestatic 26, 3) := by decide +kernel
theorem dX4_findReached_8 : decode cX4_findReached 8 = .ok (.aload_n 0, 1) := by decide +kernel
theorem dX4_findReached_9 : decode cX4_findReached 9 = .ok (.getfield 22, 3) := by decide +kernel
theorem dX4_findReached_12 : decode cX4_findReached 12 = .ok (.iconst 0, 1) := by decide +kernel
theorem dX4_findReached_13 : decode cX4_findReached 13 = .ok (.putfield 32, 3) := by decide +kernel
theorem dX4_findReached_16 : decode cX4_findReached 16 = .ok (.iconst 0, 1) := by decide +kernel
theorem dX4_findReached_17 : decode cX4_findReached 17 = .ok (.istore_n 2, 1) := by decide +kernel
theorem dX4_findReached_18 : decode cX4_findReached 18 = .ok (.iload_n 2, 1) := by decide +kernel
theorem dX4_findReached_19 : decode cX4_findReached 19 = .ok (.bipush 6, 2) := by decide +kernel
theorem dX4_findReached_21 : decode cX4_findReached 21 = .ok (.if_icmp .ge 19, 3) := by decide +kernel
theorem dX4_findReached_24 : decode cX4_findReached 24 = .ok (.aload_n 0, 1) := by decide +kernel
theorem dX4_findReached_25 : decode cX4_findReached 25 = .ok (.aload_n 1, 1) := by decide +kernel
theorem dX4_findReached_26 : decode cX4_findReached 26 = .ok (.getfield 36, 3) := by decide +kernel
theorem dX4_findReached_29 : decode cX4_findReached 29 = .ok (.iload_n 2, 1) := by decide +kernel
theorem dX4_findReached_30 : decode cX4_findReached 30 = .ok (.iaload, 1) := by decide +kernel
theorem dX4_findReached_31 : decode cX4_findReached 31 = .ok (.invokevirtual 41, 3) := by decide +kernel
theorem dX4_findReached_34 : decode cX4_findReached 34 = .ok (.iinc 2 1, 3) := by decide +kernel
theorem dX4_findReached_37 : decode cX4_findReached 37 = .ok (.goto (-19), 3) := by decide +kernel
theorem dX4_findReached_40 : decode cX4_findReached 40 = .ok (.iconst 0, 1) := by decide +kernel
theorem dX4_findReached_41 : decode cX4_findReached 41 = .ok (.istore_n 2, 1) := by decide +kernel
theorem dX4_findReached_42 : decode cX4_findReached 42 = .ok (.iload_n 2, 1) := by decide +kernel
theorem dX4_findReached_43 : decode cX4_findReached 43 = .ok (.bipush 32, 2) := by decide +kernel
theorem dX4_findReached_45 : decode cX4_findReached 45 = .ok (.if_icmp .ge 49, 3) := by decide +kernel
theorem dX4_findReached_48 : decode cX4_findReached 48 = .ok (.iload_n 2, 1) := by decide +kernel
theorem dX4_findReached_49 : decode cX4_findReached 49 = .ok (.aload_n 0, 1) := by decide +kernel
theorem dX4_findReached_50 : decode cX4_findReached 50 = .ok (.getfield 22, 3) := by decide +kernel
theorem dX4_findReached_53 : decode cX4_findReached 53 = .ok (.getfield 32, 3) := by decide +kernel
theorem dX4_findReached_56 : decode cX4_findReached 56 = .ok (.if_icmp .ge 38, 3) := by decide +kernel
theorem dX4_findReached_59 : decode cX4_findReached 59 = .ok (.aload_n 0, 1) := by decide +kernel
theorem dX4_findReached_60 : decode cX4_findReached 60 = .ok (.getfield 22, 3) := by decide +kernel
theorem dX4_findReached_63 : decode cX4_findReached 63 = .ok (.iload_n 2, 1) := by decide +kernel
theorem dX4_findReached_64 : decode cX4_findReached 64 = .ok (.invokevirtual 45, 3) := by decide +kernel
theorem dX4_findReached_67 : decode cX4_findReached 67 = .ok (.istore_n 3, 1) := by decide +kernel
theorem dX4_findReached_68 : decode cX4_findReached 68 = .ok (.aload_n 0, 1) := by decide +kernel
theorem dX4_findReached_69 : decode cX4_findReached 69 = .ok (.aload_n 1, 1) := by decide +kernel
theorem dX4_findReached_70 : decode cX4_findReached 70 = .ok (.iload_n 3, 1) := by decide +kernel
theorem dX4_findReached_71 : decode cX4_findReached 71 = .ok (.iconst 0, 1) := by decide +kernel
theorem dX4_findReached_72 : decode cX4_findReached 72 = .ok (.invokevirtual 49, 3) := by decide +kernel
theorem dX4_findReached_75 : decode cX4_findReached 75 = .ok (.invokevirtual 41, 3) := by decide +kernel
theorem dX4_findReached_78 : decode cX4_findReached 78 = .ok (.aload_n 0, 1) := by decide +kernel
theorem dX4_findReached_79 : decode cX4_findReached 79 = .ok (.aload_n 1, 1) := by decide +kernel
theorem dX4_findReached_80 : decode cX4_findReached 80 = .ok (.iload_n 3, 1) := by decide +kernel
theorem dX4_findReached_81 : decode cX4_findReached 81 = .ok (.iconst 1, 1) := by decide +kernel
theorem dX4_findReached_82 : decode cX4_findReached 82 = .ok (.invokevirtual 49, 3) := by decide +kernel
theorem dX4_findReached_85 : decode cX4_findReached 85 = .ok (.invokevirtual 41, 3) := by decide +kernel
theorem dX4_findReached_88 : decode cX4_findReached 88 = .ok (.iinc 2 1, 3) := by decide +kernel
theorem dX4_findReached_91 : decode cX4_findReached 91 = .ok (.goto (-49), 3) := by decide +kernel
theorem dX4_findReached_94 : decode cX4_findReached 94 = .ok (.return_, 1) := by decide +kernel
set_option maxRecDepth 20000 in
theorem ggX4_enter_X5_append : GoodIn wsX4_enter wsX5_append := goodIn_r _ [7, 8, 9, 13, 14] (by decide +kernel) (by decide +kernel)
set_option maxRecDepth 20000 in
theorem gX4_enter_X5_append : GoodIn wsX4_enter (wsV RX4 53 RX5 yX5_append wsX5_append) := goodIn_app (goodIn_of _ (by decide +kernel)) ggX4_enter_X5_append
theorem dX4_enter_0 : decode cX4_enter 0 = .ok (.iload_n 1, 1) := by decide +kernel
theorem dX4_enter_1 : decode cX4_enter 1 = .ok (.bipush (-5), 2) := by decide +kernel
theorem dX4_enter_3 : decode cX4_enter 3 = .ok (.if_icmp .eq 28, 3) := by decide +kernel
theorem dX4_enter_6 : decode cX4_enter 6 = .ok (.aload_n 0, 1) := by decide +kernel
theorem dX4_enter_7 : decode cX4_enter 7 = .ok (.getfield 9, 3) := by decide +kernel
theorem dX4_enter_10 : decode cX4_enter 10 = .ok (.iload_n 1, 1) := by decide +kernel
theorem dX4_enter_11 : decode cX4_enter 11 = .ok (.baload, 1) := by decide +kernel
theorem dX4_enter_12 : decode cX4_enter 12 = .ok (.ifCond .ne 19, 3) := by decide +kernel
theorem dX4_enter_15 : decode cX4_enter 15 = .ok (.aload_n 0, 1) := by decide +kernel
theorem dX4_enter_16 : decode cX4_enter 16 = .ok (.getfield 9, 3) := by decide +kernel
theorem dX4_enter_19 : decode cX4_enter 19 = .ok (.iload_n 1, 1) := by decide +kernel
theorem dX4_enter_20 : decode cX4_enter 20 = .ok (.iconst 1, 1) := by decide +kernel
theorem dX4_enter_21 : decode cX4_enter 21 = .ok (.bastore, 1) := by decide +kernel
theorem dX4_enter_22 : decode cX4_enter 22 = .ok (.aload_n 0, 1) := by decide +kernel
theorem dX4_enter_23 : decode cX4_enter 23 = .ok (.getfield 22, 3) := by decide +kernel
theorem dX4_enter_26 : decode cX4_enter 26 = .ok (.iload_n 1, 1) := by decide +kernel
theorem dX4_enter_27 : decode cX4_enter 27 = .ok (.invokevirtual 53, 3) := by decide +kernel
theorem dX4_enter_30 : decode cX4_enter 30 = .ok (.pop, 1) := by decide +kernel
theorem dX4_enter_31 : decode cX4_enter 31 = .ok (.return_, 1) := by decide +kernel
set_option maxRecDepth 20000 in
theorem ggX4_measureTo_J7_fill_53178 : GoodIn wsX4_measureTo wsJ7_fill_53178 := goodIn_r _ [5] (by decide +kernel) (by decide +kernel)
set_option maxRecDepth 20000 in
theorem gX4_measureTo_J7_fill_53178 : GoodIn wsX4_measureTo (va_wsS RX4 57 yJ7_fill_53178 wsJ7_fill_53178) := goodIn_app (goodIn_of _ (by decide +kernel)) ggX4_measureTo_J7_fill_53178
set_option maxRecDepth 20000 in
theorem ggX4_measureTo_X1_isThere : GoodIn wsX4_measureTo wsX1_isThere := goodIn_r _ [10, 11, 29, 30, 31, 32, 33, 34, 35, 36, 37, 38, 39, 40, 41, 42, 43, 44, 45, 46] (by decide +kernel) (by decide +kernel)
set_option maxRecDepth 20000 in
theorem gX4_measureTo_X1_isThere : GoodIn wsX4_measureTo (wsV RX4 60 RX1 yX1_isThere wsX1_isThere) := goodIn_app (goodIn_of _ (by decide +kernel)) ggX4_measureTo_X1_isThere
set_option maxRecDepth 20000 in
theorem ggX4_measureTo_X4_leadsTo : GoodIn wsX4_measureTo wsX4_leadsTo := goodIn_r _ [16, 17, 18, 19, 9, 20, 21, 22, 23, 24, 15, 25, 1, 29, 30, 31, 32, 33, 34, 35, 36, 37, 38, 39, 40, 41, 42, 43, 44, 45, 46, 26, 27, 28] (by decide +kernel) (by decide +kernel)
set_option maxRecDepth 20000 in
theorem gX4_measureTo_X4_leadsTo : GoodIn wsX4_measureTo (wsV RX4 63 RX4 yX4_leadsTo wsX4_leadsTo) := goodIn_app (goodIn_of _ (by decide +kernel)) ggX4_measureTo_X4_leadsTo
theorem dX4_measureTo_0 : decode cX4_measureTo 0 = .ok (.aload_n 0, 1) := by decide +kernel
theorem dX4_measureTo_1 : decode cX4_measureTo 1 = .ok (.getfield 15, 3) := by decide +kernel
theorem dX4_measureTo_4 : decode cX4_measureTo 4 = .ok (.iconst 0, 1) := by decide +kernel
theorem dX4_measureTo_5 : decode cX4_measureTo 5 = .ok (.invokestatic 57, 3) := by decide +kernel
theorem dX4_measureTo_8 : decode cX4_measureTo 8 = .ok (.aload_n 0, 1) := by decide +kernel
theorem dX4_measureTo_9 : decode cX4_measureTo 9 = .ok (.getfield 15, 3) := by decide +kernel
theorem dX4_measureTo_12 : decode cX4_measureTo 12 = .ok (.iload_n 2, 1) := by decide +kernel
theorem dX4_measureTo_13 : decode cX4_measureTo 13 = .ok (.iconst 1, 1) := by decide +kernel
theorem dX4_measureTo_14 : decode cX4_measureTo 14 = .ok (.iastore, 1) := by decide +kernel
theorem dX4_measureTo_15 : decode cX4_measureTo 15 = .ok (.iconst 1, 1) := by decide +kernel
theorem dX4_measureTo_16 : decode cX4_measureTo 16 = .ok (.istore_n 3, 1) := by decide +kernel
theorem dX4_measureTo_17 : decode cX4_measureTo 17 = .ok (.iconst 1, 1) := by decide +kernel
theorem dX4_measureTo_18 : decode cX4_measureTo 18 = .ok (.istore 4, 2) := by decide +kernel
theorem dX4_measureTo_20 : decode cX4_measureTo 20 = .ok (.iload 4, 2) := by decide +kernel
theorem dX4_measureTo_22 : decode cX4_measureTo 22 = .ok (.bipush 32, 2) := by decide +kernel
theorem dX4_measureTo_24 : decode cX4_measureTo 24 = .ok (.if_icmp .ge 75, 3) := by decide +kernel
theorem dX4_measureTo_27 : decode cX4_measureTo 27 = .ok (.iload_n 3, 1) := by decide +kernel
theorem dX4_measureTo_28 : decode cX4_measureTo 28 = .ok (.ifCond .eq 71, 3) := by decide +kernel
theorem dX4_measureTo_31 : decode cX4_measureTo 31 = .ok (.iconst 0, 1) := by decide +kernel
theorem dX4_measureTo_32 : decode cX4_measureTo 32 = .ok (.istore_n 3, 1) := by decide +kernel
theorem dX4_measureTo_33 : decode cX4_measureTo 33 = .ok (.iconst 0, 1) := by decide +kernel
theorem dX4_measureTo_34 : decode cX4_measureTo 34 = .ok (.istore 5, 2) := by decide +kernel
theorem dX4_measureTo_36 : decode cX4_measureTo 36 = .ok (.iload 5, 2) := by decide +kernel
theorem dX4_measureTo_38 : decode cX4_measureTo 38 = .ok (.bipush 32, 2) := by decide +kernel
theorem dX4_measureTo_40 : decode cX4_measureTo 40 = .ok (.if_icmp .ge 53, 3) := by decide +kernel
theorem dX4_measureTo_43 : decode cX4_measureTo 43 = .ok (.aload_n 1, 1) := by decide +kernel
theorem dX4_measureTo_44 : decode cX4_measureTo 44 = .ok (.iload 5, 2) := by decide +kernel
theorem dX4_measureTo_46 : decode cX4_measureTo 46 = .ok (.invokevirtual 60, 3) := by decide +kernel
theorem dX4_measureTo_49 : decode cX4_measureTo 49 = .ok (.ifCond .eq 38, 3) := by decide +kernel
theorem dX4_measureTo_52 : decode cX4_measureTo 52 = .ok (.aload_n 0, 1) := by decide +kernel
theorem dX4_measureTo_53 : decode cX4_measureTo 53 = .ok (.getfield 15, 3) := by decide +kernel
theorem dX4_measureTo_56 : decode cX4_measureTo 56 = .ok (.iload 5, 2) := by decide +kernel
theorem dX4_measureTo_58 : decode cX4_measureTo 58 = .ok (.iaload, 1) := by decide +kernel
theorem dX4_measureTo_59 : decode cX4_measureTo 59 = .ok (.ifCond .ne 28, 3) := by decide +kernel
theorem dX4_measureTo_62 : decode cX4_measureTo 62 = .ok (.aload_n 0, 1) := by decide +kernel
theorem dX4_measureTo_63 : decode cX4_measureTo 63 = .ok (.aload_n 1, 1) := by decide +kernel
theorem dX4_measureTo_64 : decode cX4_measureTo 64 = .ok (.iload 5, 2) := by decide +kernel
theorem dX4_measureTo_66 : decode cX4_measureTo 66 = .ok (.iload 4, 2) := by decide +kernel
theorem dX4_measureTo_68 : decode cX4_measureTo 68 = .ok (.invokevirtual 63, 3) := by decide +kernel
theorem dX4_measureTo_71 : decode cX4_measureTo 71 = .ok (.ifCond .eq 16, 3) := by decide +kernel
theorem dX4_measureTo_74 : decode cX4_measureTo 74 = .ok (.aload_n 0, 1) := by decide +kernel
theorem dX4_measureTo_75 : decode cX4_measureTo 75 = .ok (.getfield 15, 3) := by decide +kernel
theorem dX4_measureTo_78 : decode cX4_measureTo 78 = .ok (.iload 5, 2) := by decide +kernel
theorem dX4_measureTo_80 : decode cX4_measureTo 80 = .ok (.iload 4, 2) := by decide +kernel
theorem dX4_measureTo_82 : decode cX4_measureTo 82 = .ok (.iconst 1, 1) := by decide +kernel
theorem dX4_measureTo_83 : decode cX4_measureTo 83 = .ok (.iadd, 1) := by decide +kernel
theorem dX4_measureTo_84 : decode cX4_measureTo 84 = .ok (.iastore, 1) := by decide +kernel
theorem dX4_measureTo_85 : decode cX4_measureTo 85 = .ok (.iconst 1, 1) := by decide +kernel
theorem dX4_measureTo_86 : decode cX4_measureTo 86 = .ok (.istore_n 3, 1) := by decide +kernel
theorem dX4_measureTo_87 : decode cX4_measureTo 87 = .ok (.iinc 5 1, 3) := by decide +kernel
theorem dX4_measureTo_90 : decode cX4_measureTo 90 = .ok (.goto (-54), 3) := by decide +kernel
theorem dX4_measureTo_93 : decode cX4_measureTo 93 = .ok (.iinc 4 1, 3) := by decide +kernel
theorem dX4_measureTo_96 : decode cX4_measureTo 96 = .ok (.goto (-76), 3) := by decide +kernel
theorem dX4_measureTo_99 : decode cX4_measureTo 99 = .ok (.return_, 1) := by decide +kernel
set_option maxRecDepth 20000 in
theorem ggX4_leadsTo_X1_fieldOf : GoodIn wsX4_leadsTo wsX1_fieldOf := goodIn_r _ [5, 6, 13, 14, 15, 16, 17, 18, 19, 20, 21, 22, 23, 24, 25, 26, 27, 28, 29, 30] (by decide +kernel) (by decide +kernel)
set_option maxRecDepth 20000 in
theorem gX4_leadsTo_X1_fieldOf : GoodIn wsX4_leadsTo (wsV RX4 49 RX1 yX1_fieldOf wsX1_fieldOf) := goodIn_app (goodIn_of _ (by decide +kernel)) ggX4_leadsTo_X1_fieldOf
set_option maxRecDepth 20000 in
theorem ggX4_leadsTo_X4_isFar : GoodIn wsX4_leadsTo wsX4_isFar := goodIn_r _ [11, 12, 31, 32, 33] (by decide +kernel) (by decide +kernel)
set_option maxRecDepth 20000 in
theorem gX4_leadsTo_X4_isFar : GoodIn wsX4_leadsTo (wsV RX4 67 RX4 yX4_isFar wsX4_isFar) := goodIn_app (goodIn_of _ (by decide +kernel)) ggX4_leadsTo_X4_isFar
theorem dX4_leadsTo_0 : decode cX4_leadsTo 0 = .ok (.aload_n 0, 1) := by decide +kernel
theorem dX4_leadsTo_1 : decode cX4_leadsTo 1 = .ok (.aload_n 1, 1) := by decide +kernel
theorem dX4_leadsTo_2 : decode cX4_leadsTo 2 = .ok (.iload_n 2, 1) := by decide +kernel
theorem dX4_leadsTo_3 : decode cX4_leadsTo 3 = .ok (.iconst 0, 1) := by decide +kernel
theorem dX4_leadsTo_4 : decode cX4_leadsTo 4 = .ok (.invokevirtual 49, 3) := by decide +kernel
theorem dX4_leadsTo_7 : decode cX4_leadsTo 7 = .ok (.iload_n 3, 1) := by decide +kernel
theorem dX4_leadsTo_8 : decode cX4_leadsTo 8 = .ok (.invokevirtual 67, 3) := by decide +kernel
theorem dX4_leadsTo_11 : decode cX4_leadsTo 11 = .ok (.ifCond .ne 17, 3) := by decide +kernel
theorem dX4_leadsTo_14 : decode cX4_leadsTo 14 = .ok (.aload_n 0, 1) := by decide +kernel
theorem dX4_leadsTo_15 : decode cX4_leadsTo 15 = .ok (.aload_n 1, 1) := by decide +kernel
theorem dX4_leadsTo_16 : decode cX4_leadsTo 16 = .ok (.iload_n 2, 1) := by decide +kernel
theorem dX4_leadsTo_17 : decode cX4_leadsTo 17 = .ok (.iconst 1, 1) := by decide +kernel
theorem dX4_leadsTo_18 : decode cX4_leadsTo 18 = .ok (.invokevirtual 49, 3) := by decide +kernel
theorem dX4_leadsTo_21 : decode cX4_leadsTo 21 = .ok (.iload_n 3, 1) := by decide +kernel
theorem dX4_leadsTo_22 : decode cX4_leadsTo 22 = .ok (.invokevirtual 67, 3) := by decide +kernel
theorem dX4_leadsTo_25 : decode cX4_leadsTo 25 = .ok (.ifCond .eq 7, 3) := by decide +kernel
theorem dX4_leadsTo_28 : decode cX4_leadsTo 28 = .ok (.iconst 1, 1) := by decide +kernel
theorem dX4_leadsTo_29 : decode cX4_leadsTo 29 = .ok (.goto 4, 3) := by decide +kernel
theorem dX4_leadsTo_32 : decode cX4_leadsTo 32 = .ok (.iconst 0, 1) := by decide +kernel
theorem dX4_leadsTo_33 : decode cX4_leadsTo 33 = .ok (.ireturn, 1) := by decide +kernel
theorem dX4_isFar_0 : decode cX4_isFar 0 = .ok (.iload_n 1, 1) := by decide +kernel
theorem dX4_isFar_1 : decode cX4_isFar 1 = .ok (.bipush (-5), 2) := by decide +kernel
theorem dX4_isFar_3 : decode cX4_isFar 3 = .ok (.if_icmp .eq 17, 3) := by decide +kernel
theorem dX4_isFar_6 : decode cX4_isFar 6 = .ok (.aload_n 0, 1) := by decide +kernel
theorem dX4_isFar_7 : decode cX4_isFar 7 = .ok (.getfield 15, 3) := by decide +kernel
theorem dX4_isFar_10 : decode cX4_isFar 10 = .ok (.iload_n 1, 1) := by decide +kernel
theorem dX4_isFar_11 : decode cX4_isFar 11 = .ok (.iaload, 1) := by decide +kernel
theorem dX4_isFar_12 : decode cX4_isFar 12 = .ok (.iload_n 2, 1) := by decide +kernel
theorem dX4_isFar_13 : decode cX4_isFar 13 = .ok (.if_icmp .ne 7, 3) := by decide +kernel
theorem dX4_isFar_16 : decode cX4_isFar 16 = .ok (.iconst 1, 1) := by decide +kernel
theorem dX4_isFar_17 : decode cX4_isFar 17 = .ok (.goto 4, 3) := by decide +kernel
theorem dX4_isFar_20 : decode cX4_isFar 20 = .ok (.iconst 0, 1) := by decide +kernel
theorem dX4_isFar_21 : decode cX4_isFar 21 = .ok (.ireturn, 1) := by decide +kernel
set_option maxRecDepth 20000 in
theorem ggX4_nearestRoot_X4_isNearer : GoodIn wsX4_nearestRoot wsX4_isNearer := goodIn_r _ [7, 2, 26, 27, 28] (by decide +kernel) (by decide +kernel)
set_option maxRecDepth 20000 in
theorem gX4_nearestRoot_X4_isNearer : GoodIn wsX4_nearestRoot (wsV RX4 71 RX4 yX4_isNearer wsX4_isNearer) := goodIn_app (goodIn_of _ (by decide +kernel)) ggX4_nearestRoot_X4_isNearer
theorem dX4_nearestRoot_0 : decode cX4_nearestRoot 0 = .ok (.bipush (-9), 2) := by decide +kernel
theorem dX4_nearestRoot_2 : decode cX4_nearestRoot 2 = .ok (.istore_n 2, 1) := by decide +kernel
theorem dX4_nearestRoot_3 : decode cX4_nearestRoot 3 = .ok (.iconst 0, 1) := by decide +kernel
theorem dX4_nearestRoot_4 : decode cX4_nearestRoot 4 = .ok (.istore_n 3, 1) := by decide +kernel
theorem dX4_nearestRoot_5 : decode cX4_nearestRoot 5 = .ok (.iload_n 3, 1) := by decide +kernel
theorem dX4_nearestRoot_6 : decode cX4_nearestRoot 6 = .ok (.bipush 6, 2) := by decide +kernel
theorem dX4_nearestRoot_8 : decode cX4_nearestRoot 8 = .ok (.if_icmp .ge 53, 3) := by decide +kernel
theorem dX4_nearestRoot_11 : decode cX4_nearestRoot 11 = .ok (.aload_n 1, 1) := by decide +kernel
theorem dX4_nearestRoot_12 : decode cX4_nearestRoot 12 = .ok (.getfield 36, 3) := by decide +kernel
theorem dX4_nearestRoot_15 : decode cX4_nearestRoot 15 = .ok (.iload_n 3, 1) := by decide +kernel
theorem dX4_nearestRoot_16 : decode cX4_nearestRoot 16 = .ok (.iaload, 1) := by decide +kernel
theorem dX4_nearestRoot_17 : decode cX4_nearestRoot 17 = .ok (.istore 4, 2) := by decide +kernel
theorem dX4_nearestRoot_19 : decode cX4_nearestRoot 19 = .ok (.iload 4, 2) := by decide +kernel
theorem dX4_nearestRoot_21 : decode cX4_nearestRoot 21 = .ok (.bipush (-5), 2) := by decide +kernel
theorem dX4_nearestRoot_23 : decode cX4_nearestRoot 23 = .ok (.if_icmp .eq 32, 3) := by decide +kernel
theorem dX4_nearestRoot_26 : decode cX4_nearestRoot 26 = .ok (.aload_n 0, 1) := by decide +kernel
theorem dX4_nearestRoot_27 : decode cX4_nearestRoot 27 = .ok (.getfield 15, 3) := by decide +kernel
theorem dX4_nearestRoot_30 : decode cX4_nearestRoot 30 = .ok (.iload 4, 2) := by decide +kernel
theorem dX4_nearestRoot_32 : decode cX4_nearestRoot 32 = .ok (.iaload, 1) := by decide +kernel
theorem dX4_nearestRoot_33 : decode cX4_nearestRoot 33 = .ok (.ifCond .le 22, 3) := by decide +kernel
theorem dX4_nearestRoot_36 : decode cX4_nearestRoot 36 = .ok (.iload_n 2, 1) := by decide +kernel
theorem dX4_nearestRoot_37 : decode cX4_nearestRoot 37 = .ok (.bipush (-9), 2) := by decide +kernel
theorem dX4_nearestRoot_39 : decode cX4_nearestRoot 39 = .ok (.if_icmp .eq 13, 3) := by decide +kernel
theorem dX4_nearestRoot_42 : decode cX4_nearestRoot 42 = .ok (.aload_n 0, 1) := by decide +kernel
theorem dX4_nearestRoot_43 : decode cX4_nearestRoot 43 = .ok (.iload 4, 2) := by decide +kernel
theorem dX4_nearestRoot_45 : decode cX4_nearestRoot 45 = .ok (.iload_n 2, 1) := by decide +kernel
theorem dX4_nearestRoot_46 : decode cX4_nearestRoot 46 = .ok (.invokevirtual 71, 3) := by decide +kernel
theorem dX4_nearestRoot_49 : decode cX4_nearestRoot 49 = .ok (.ifCond .eq 6, 3) := by decide +kernel
theorem dX4_nearestRoot_52 : decode cX4_nearestRoot 52 = .ok (.iload 4, 2) := by decide +kernel
theorem dX4_nearestRoot_54 : decode cX4_nearestRoot 54 = .ok (.istore_n 2, 1) := by decide +kernel
theorem dX4_nearestRoot_55 : decode cX4_nearestRoot 55 = .ok (.iinc 3 1, 3) := by decide +kernel
theorem dX4_nearestRoot_58 : decode cX4_nearestRoot 58 = .ok (.goto (-53), 3) := by decide +kernel
theorem dX4_nearestRoot_61 : decode cX4_nearestRoot 61 = .ok (.iload_n 2, 1) := by decide +kernel
theorem dX4_nearestRoot_62 : decode cX4_nearestRoot 62 = .ok (.ireturn, 1) := by decide +kernel
theorem dX4_isNearer_0 : decode cX4_isNearer 0 = .ok (.aload_n 0, 1) := by decide +kernel
theorem dX4_isNearer_1 : decode cX4_isNearer 1 = .ok (.getfield 15, 3) := by decide +kernel
theorem dX4_isNearer_4 : decode cX4_isNearer 4 = .ok (.iload_n 1, 1) := by decide +kernel
theorem dX4_isNearer_5 : decode cX4_isNearer 5 = .ok (.iaload, 1) := by decide +kernel
theorem dX4_isNearer_6 : decode cX4_isNearer 6 = .ok (.aload_n 0, 1) := by decide +kernel
theorem dX4_isNearer_7 : decode cX4_isNearer 7 = .ok (.getfield 15, 3) := by decide +kernel
theorem dX4_isNearer_10 : decode cX4_isNearer 10 = .ok (.iload_n 2, 1) := by decide +kernel
theorem dX4_isNearer_11 : decode cX4_isNearer 11 = .ok (.iaload, 1) := by decide +kernel
theorem dX4_isNearer_12 : decode cX4_isNearer 12 = .ok (.if_icmp .lt 23, 3) := by decide +kernel
theorem dX4_isNearer_15 : decode cX4_isNearer 15 = .ok (.aload_n 0, 1) := by decide +kernel
theorem dX4_isNearer_16 : decode cX4_isNearer 16 = .ok (.getfield 15, 3) := by decide +kernel
theorem dX4_isNearer_19 : decode cX4_isNearer 19 = .ok (.iload_n 1, 1) := by decide +kernel
theorem dX4_isNearer_20 : decode cX4_isNearer 20 = .ok (.iaload, 1) := by decide +kernel
theorem dX4_isNearer_21 : decode cX4_isNearer 21 = .ok (.aload_n 0, 1) := by decide +kernel
theorem dX4_isNearer_22 : decode cX4_isNearer 22 = .ok (.getfield 15, 3) := by decide +kernel
theorem dX4_isNearer_25 : decode cX4_isNearer 25 = .ok (.iload_n 2, 1) := by decide +kernel
theorem dX4_isNearer_26 : decode cX4_isNearer 26 = .ok (.iaload, 1) := by decide +kernel
theorem dX4_isNearer_27 : decode cX4_isNearer 27 = .ok (.if_icmp .ne 12, 3) := by decide +kernel
theorem dX4_isNearer_30 : decode cX4_isNearer 30 = .ok (.iload_n 1, 1) := by decide +kernel
theorem dX4_isNearer_31 : decode cX4_isNearer 31 = .ok (.iload_n 2, 1) := by decide +kernel
theorem dX4_isNearer_32 : decode cX4_isNearer 32 = .ok (.if_icmp .ge 7, 3) := by decide +kernel
theorem dX4_isNearer_35 : decode cX4_isNearer 35 = .ok (.iconst 1, 1) := by decide +kernel
theorem dX4_isNearer_36 : decode cX4_isNearer 36 = .ok (.goto 4, 3) := by decide +kernel
theorem dX4_isNearer_39 : decode cX4_isNearer 39 = .ok (.iconst 0, 1) := by decide +kernel
theorem dX4_isNearer_40 : decode cX4_isNearer 40 = .ok (.ireturn, 1) := by decide +kernel
set_option maxRecDepth 20000 in
theorem ggX4_walk_X4_nextOf : GoodIn wsX4_walk wsX4_nextOf := goodIn_r _ [5, 6, 7, 8, 9, 10, 11, 12, 13, 14, 15, 16, 17, 18, 19, 4, 20, 21, 22, 23, 24, 25, 26, 27, 28, 29, 30, 31, 32, 33, 34, 35, 36, 37, 38, 39, 40, 41] (by decide +kernel) (by decide +kernel)
set_option maxRecDepth 20000 in
theorem gX4_walk_X4_nextOf : GoodIn wsX4_walk (wsV RX4 74 RX4 yX4_nextOf wsX4_nextOf) := goodIn_app (goodIn_of _ (by decide +kernel)) ggX4_walk_X4_nextOf
theorem dX4_walk_0 : decode cX4_walk 0 = .ok (.iload_n 2, 1) := by decide +kernel
theorem dX4_walk_1 : decode cX4_walk 1 = .ok (.istore 4, 2) := by decide +kernel
theorem dX4_walk_3 : decode cX4_walk 3 = .ok (.iconst 0, 1) := by decide +kernel
theorem dX4_walk_4 : decode cX4_walk 4 = .ok (.istore 5, 2) := by decide +kernel
theorem dX4_walk_6 : decode cX4_walk 6 = .ok (.iload 5, 2) := by decide +kernel
theorem dX4_walk_8 : decode cX4_walk 8 = .ok (.iload_n 3, 1) := by decide +kernel
theorem dX4_walk_9 : decode cX4_walk 9 = .ok (.if_icmp .ge 25, 3) := by decide +kernel
theorem dX4_walk_12 : decode cX4_walk 12 = .ok (.iload 5, 2) := by decide +kernel
theorem dX4_walk_14 : decode cX4_walk 14 = .ok (.bipush 32, 2) := by decide +kernel
theorem dX4_walk_16 : decode cX4_walk 16 = .ok (.if_icmp .ge 18, 3) := by decide +kernel
theorem dX4_walk_19 : decode cX4_walk 19 = .ok (.aload_n 0, 1) := by decide +kernel
theorem dX4_walk_20 : decode cX4_walk 20 = .ok (.aload_n 1, 1) := by decide +kernel
theorem dX4_walk_21 : decode cX4_walk 21 = .ok (.iload 4, 2) := by decide +kernel
theorem dX4_walk_23 : decode cX4_walk 23 = .ok (.invokevirtual 74, 3) := by decide +kernel
theorem dX4_walk_26 : decode cX4_walk 26 = .ok (.istore 4, 2) := by decide +kernel
theorem dX4_walk_28 : decode cX4_walk 28 = .ok (.iinc 5 1, 3) := by decide +kernel
theorem dX4_walk_31 : decode cX4_walk 31 = .ok (.goto (-25), 3) := by decide +kernel
theorem dX4_walk_34 : decode cX4_walk 34 = .ok (.iload 4, 2) := by decide +kernel
theorem dX4_walk_36 : decode cX4_walk 36 = .ok (.ireturn, 1) := by decide +kernel
set_option maxRecDepth 20000 in
theorem ggX4_nextOf_X1_fieldOf : GoodIn wsX4_nextOf wsX1_fieldOf := goodIn_r _ [10, 11, 20, 21, 22, 23, 24, 25, 26, 27, 28, 29, 30, 31, 32, 33, 34, 35, 36, 37] (by decide +kernel) (by decide +kernel)
set_option maxRecDepth 20000 in
theorem gX4_nextOf_X1_fieldOf : GoodIn wsX4_nextOf (wsV RX4 49 RX1 yX1_fieldOf wsX1_fieldOf) := goodIn_app (goodIn_of _ (by decide +kernel)) ggX4_nextOf_X1_fieldOf
set_option maxRecDepth 20000 in
theorem ggX4_nextOf_X4_isFar : GoodIn wsX4_nextOf wsX4_isFar := goodIn_r _ [16, 1, 17, 18, 19] (by decide +kernel) (by decide +kernel)
set_option maxRecDepth 20000 in
theorem gX4_nextOf_X4_isFar : GoodIn wsX4_nextOf (wsV RX4 67 RX4 yX4_isFar wsX4_isFar) := goodIn_app (goodIn_of _ (by decide +kernel)) ggX4_nextOf_X4_isFar
theorem dX4_nextOf_0 : decode cX4_nextOf 0 = .ok (.aload_n 0, 1) := by decide +kernel
theorem dX4_nextOf_1 : decode cX4_nextOf 1 = .ok (.getfield 15, 3) := by decide +kernel
theorem dX4_nextOf_4 : decode cX4_nextOf 4 = .ok (.iload_n 2, 1) := by decide +kernel
theorem dX4_nextOf_5 : decode cX4_nextOf 5 = .ok (.iaload, 1) := by decide +kernel
theorem dX4_nextOf_6 : decode cX4_nextOf 6 = .ok (.iconst 1, 1) := by decide +kernel
theorem dX4_nextOf_7 : decode cX4_nextOf 7 = .ok (.isub, 1) := by decide +kernel
theorem dX4_nextOf_8 : decode cX4_nextOf 8 = .ok (.istore_n 3, 1) := by decide +kernel
theorem dX4_nextOf_9 : decode cX4_nextOf 9 = .ok (.aload_n 1, 1) := by decide +kernel
theorem dX4_nextOf_10 : decode cX4_nextOf 10 = .ok (.iload_n 2, 1) := by decide +kernel
theorem dX4_nextOf_11 : decode cX4_nextOf 11 = .ok (.iconst 0, 1) := by decide +kernel
theorem dX4_nextOf_12 : decode cX4_nextOf 12 = .ok (.invokevirtual 49, 3) := by decide +kernel
theorem dX4_nextOf_15 : decode cX4_nextOf 15 = .ok (.istore 4, 2) := by decide +kernel
theorem dX4_nextOf_17 : decode cX4_nextOf 17 = .ok (.aload_n 1, 1) := by decide +kernel
theorem dX4_nextOf_18 : decode cX4_nextOf 18 = .ok (.iload_n 2, 1) := by decide +kernel
theorem dX4_nextOf_19 : decode cX4_nextOf 19 = .ok (.iconst 1, 1) := by decide +kernel
theorem dX4_nextOf_20 : decode cX4_nextOf 20 = .ok (.invokevirtual 49, 3) := by decide +kernel
theorem dX4_nextOf_23 : decode cX4_nextOf 23 = .ok (.istore 5, 2) := by decide +kernel
theorem dX4_nextOf_25 : decode cX4_nextOf 25 = .ok (.aload_n 0, 1) := by decide +kernel
theorem dX4_nextOf_26 : decode cX4_nextOf 26 = .ok (.iload 4, 2) := by decide +kernel
theorem dX4_nextOf_28 : decode cX4_nextOf 28 = .ok (.iload_n 3, 1) := by decide +kernel
theorem dX4_nextOf_29 : decode cX4_nextOf 29 = .ok (.invokevirtual 67, 3) := by decide +kernel
theorem dX4_nextOf_32 : decode cX4_nextOf 32 = .ok (.ifCond .ne 20, 3) := by decide +kernel
theorem dX4_nextOf_35 : decode cX4_nextOf 35 = .ok (.aload_n 0, 1) := by decide +kernel
theorem dX4_nextOf_36 : decode cX4_nextOf 36 = .ok (.iload 5, 2) := by decide +kernel
theorem dX4_nextOf_38 : decode cX4_nextOf 38 = .ok (.iload_n 3, 1) := by decide +kernel
theorem dX4_nextOf_39 : decode cX4_nextOf 39 = .ok (.invokevirtual 67, 3) := by decide +kernel
theorem dX4_nextOf_42 : decode cX4_nextOf 42 = .ok (.ifCond .eq 8, 3) := by decide +kernel
theorem dX4_nextOf_45 : decode cX4_nextOf 45 = .ok (.iload 5, 2) := by decide +kernel
theorem dX4_nextOf_47 : decode cX4_nextOf 47 = .ok (.goto 4, 3) := by decide +kernel
theorem dX4_nextOf_50 : decode cX4_nextOf 50 = .ok (.iload_n 2, 1) := by decide +kernel
theorem dX4_nextOf_51 : decode cX4_nextOf 51 = .ok (.ireturn, 1) := by decide +kernel
theorem dX4_nextOf_52 : decode cX4_nextOf 52 = .ok (.aload_n 0, 1) := by decide +kernel
theorem dX4_nextOf_53 : decode cX4_nextOf 53 = .ok (.iload 5, 2) := by decide +kernel
theorem dX4_nextOf_55 : decode cX4_nextOf 55 = .ok (.iload_n 3, 1) := by decide +kernel
theorem dX4_nextOf_56 : decode cX4_nextOf 56 = .ok (.invokevirtual 67, 3) := by decide +kernel
theorem dX4_nextOf_59 : decode cX4_nextOf 59 = .ok (.ifCond .eq 13, 3) := by decide +kernel
theorem dX4_nextOf_62 : decode cX4_nextOf 62 = .ok (.iload 4, 2) := by decide +kernel
theorem dX4_nextOf_64 : decode cX4_nextOf 64 = .ok (.iload 5, 2) := by decide +kernel
theorem dX4_nextOf_66 : decode cX4_nextOf 66 = .ok (.invokestatic 78, 3) := by decide +kernel
theorem dX4_nextOf_69 : decode cX4_nextOf 69 = .ok (.goto 5, 3) := by decide +kernel
theorem dX4_nextOf_72 : decode cX4_nextOf 72 = .ok (.iload 4, 2) := by decide +kernel
theorem dX4_nextOf_74 : decode cX4_nextOf 74 = .ok (.ireturn, 1) := by decide +kernel
theorem dX5_init_0 : decode cX5_init 0 = .ok (.aload_n 0, 1) := by decide +kernel
theorem dX5_init_1 : decode cX5_init 1 = .ok (.invokespecial 3, 3) := by decide +kernel
theorem dX5_init_4 : decode cX5_init 4 = .ok (.aload_n 0, 1) := by decide +kernel
theorem dX5_init_5 : decode cX5_init 5 = .ok (.bipush 32, 2) := by decide +kernel
theorem dX5_init_7 : decode cX5_init 7 = .ok (.newarray .int, 2) := by decide +kernel
theorem dX5_init_9 : decode cX5_init 9 = .ok (.putfield 9, 3) := by decide +kernel
theorem dX5_init_12 : decode cX5_init 12 = .ok (.return_, 1) := by decide +kernel
theorem dX5_becomeLike_0 : decode cX5_becomeLike 0 = .ok (.aload_n 1, 1) := by decide +kernel
theorem dX5_becomeLike_1 : decode cX5_becomeLike 1 = .ok (.getfield 9, 3) := by decide +kernel
theorem dX5_becomeLike_4 : decode cX5_becomeLike 4 = .ok (.iconst 0, 1) := by decide +kernel
theorem dX5_becomeLike_5 : decode cX5_becomeLike 5 = .ok (.aload_n 0, 1) := by decide +kernel
theorem dX5_becomeLike_6 : decode cX5_becomeLike 6 = .ok (.getfield 9, 3) := by decide +kernel
theorem dX5_becomeLike_9 : decode cX5_becomeLike 9 = .ok (.iconst 0, 1) := by decide +kernel
theorem dX5_becomeLike_10 : decode cX5_becomeLike 10 = .ok (.bipush 32, 2) := by decide +kernel
theorem dX5_becomeLike_12 : decode cX5_becomeLike 12 = .ok (.invokestatic 15, 3) := by decide +kernel
theorem dX5_becomeLike_15 : decode cX5_becomeLike 15 = .ok (.aload_n 0, 1) := by decide +kernel
theorem dX5_becomeLike_16 : decode cX5_becomeLike 16 = .ok (.aload_n 1, 1) := by decide +kernel
theorem dX5_becomeLike_17 : decode cX5_becomeLike 17 = .ok (.getfield 21, 3) := by decide +kernel
theorem dX5_becomeLike_20 : decode cX5_becomeLike 20 = .ok (.putfield 21, 3) := by decide +kernel
theorem dX5_becomeLike_23 : decode cX5_becomeLike 23 = .ok (.return_, 1) := by decide +kernel
theorem dX5_itemAt_0 : decode cX5_itemAt 0 = .ok (.iload_n 1, 1) := by decide +kernel
theorem dX5_itemAt_1 : decode cX5_itemAt 1 = .ok (.ifCond .lt 20, 3) := by decide +kernel
theorem dX5_itemAt_4 : decode cX5_itemAt 4 = .ok (.iload_n 1, 1) := by decide +kernel
theorem dX5_itemAt_5 : decode cX5_itemAt 5 = .ok (.aload_n 0, 1) := by decide +kernel
theorem dX5_itemAt_6 : decode cX5_itemAt 6 = .ok (.getfield 21, 3) := by decide +kernel
theorem dX5_itemAt_9 : decode cX5_itemAt 9 = .ok (.if_icmp .ge 12, 3) := by decide +kernel
theorem dX5_itemAt_12 : decode cX5_itemAt 12 = .ok (.aload_n 0, 1) := by decide +kernel
theorem dX5_itemAt_13 : decode cX5_itemAt 13 = .ok (.getfield 9, 3) := by decide +kernel
theorem dX5_itemAt_16 : decode cX5_itemAt 16 = .ok (.iload_n 1, 1) := by decide +kernel
theorem dX5_itemAt_17 : decode cX5_itemAt 17 = .ok (.iaload, 1) := by decide +kernel
theorem dX5_itemAt_18 : decode cX5_itemAt 18 = .ok (.goto 5, 3) := by decide +kernel
theorem dX5_itemAt_21 : decode cX5_itemAt 21 = .ok (.bipush (-9), 2) := by decide +kernel
theorem dX5_itemAt_23 : decode cX5_itemAt 23 = .ok (.ireturn, 1) := by decide +kernel
theorem dX5_append_0 : decode cX5_append 0 = .ok (.iconst 0, 1) := by decide +kernel
theorem dX5_append_1 : decode cX5_append 1 = .ok (.istore_n 2, 1) := by decide +kernel
theorem dX5_append_2 : decode cX5_append 2 = .ok (.iload_n 2, 1) := by decide +kernel
theorem dX5_append_3 : decode cX5_append 3 = .ok (.aload_n 0, 1) := by decide +kernel
theorem dX5_append_4 : decode cX5_append 4 = .ok (.getfield 21, 3) := by decide +kernel
theorem dX5_append_7 : decode cX5_append 7 = .ok (.if_icmp .ge 21, 3) := by decide +kernel
theorem dX5_append_10 : decode cX5_append 10 = .ok (.aload_n 0, 1) := by decide +kernel
theorem dX5_append_11 : decode cX5_append 11 = .ok (.getfield 9, 3) := by decide +kernel
theorem dX5_append_14 : decode cX5_append 14 = .ok (.iload_n 2, 1) := by decide +kernel
theorem dX5_append_15 : decode cX5_append 15 = .ok (.iaload, 1) := by decide +kernel
theorem dX5_append_16 : decode cX5_append 16 = .ok (.iload_n 1, 1) := by decide +kernel
theorem dX5_append_17 : decode cX5_append 17 = .ok (.if_icmp .ne 5, 3) := by decide +kernel
theorem dX5_append_20 : decode cX5_append 20 = .ok (.iconst 0, 1) := by decide +kernel
theorem dX5_append_21 : decode cX5_append 21 = .ok (.ireturn, 1) := by decide +kernel
theorem dX5_append_22 : decode cX5_append 22 = .ok (.iinc 2 1, 3) := by decide +kernel
theorem dX5_append_25 : decode cX5_append 25 = .ok (.goto (-23), 3) := by decide +kernel
theorem dX5_append_28 : decode cX5_append 28 = .ok (.aload_n 0, 1) := by decide +kernel
theorem dX5_append_29 : decode cX5_append 29 = .ok (.getfield 21, 3) := by decide +kernel
theorem dX5_append_32 : decode cX5_append 32 = .ok (.bipush 32, 2) := by decide +kernel
theorem dX5_append_34 : decode cX5_append 34 = .ok (.if_icmp .lt 5, 3) := by decide +kernel
theorem dX5_append_37 : decode cX5_append 37 = .ok (.iconst 0, 1) := by decide +kernel
theorem dX5_append_38 : decode cX5_append 38 = .ok (.ireturn, 1) := by decide +kernel
theorem dX5_append_39 : decode cX5_append 39 = .ok (.aload_n 0, 1) := by decide +kernel
theorem dX5_append_40 : decode cX5_append 40 = .ok (.getfield 9, 3) := by decide +kernel
theorem dX5_append_43 : decode cX5_append 43 = .ok (.aload_n 0, 1) := by decide +kernel
theorem dX5_append_44 : decode cX5_append 44 = .ok (.getfield 21, 3) := by decide +kernel
theorem dX5_append_47 : decode cX5_append 47 = .ok (.iload_n 1, 1) := by decide +kernel
theorem dX5_append_48 : decode cX5_append 48 = .ok (.iastore, 1) := by decide +kernel
theorem dX5_append_49 : decode cX5_append 49 = .ok (.aload_n 0, 1) := by decide +kernel
theorem dX5_append_50 : decode cX5_append 50 = .ok (.dup, 1) := by decide +kernel
theorem dX5_append_51 : decode cX5_append 51 = .ok (.getfield 21, 3) := by decide +kernel
theorem dX5_append_54 : decode cX5_append 54 = .ok (.iconst 1, 1) := by decide +kernel
theorem dX5_append_55 : decode cX5_append 55 = .ok (.iadd, 1) := by decide +kernel
theorem dX5_append_56 : decode cX5_append 56 = .ok (.putfield 21, 3) := by decide +kernel
theorem dX5_append_59 : decode cX5_append 59 = .ok (.iconst 1, 1) := by decide +kernel
theorem dX5_append_60 : decode cX5_append 60 = .ok (.ireturn, 1) := by decide +kernel
theorem dX5_drop_0 : decode cX5_drop 0 = .ok (.iconst 0, 1) := by decide +kernel
theorem dX5_drop_1 : decode cX5_drop 1 = .ok (.istore_n 2, 1) := by decide +kernel
theorem dX5_drop_2 : decode cX5_drop 2 = .ok (.iconst 0, 1) := by decide +kernel
theorem dX5_drop_3 : decode cX5_drop 3 = .ok (.istore_n 3, 1) := by decide +kernel
theorem dX5_drop_4 : decode cX5_drop 4 = .ok (.iload_n 3, 1) := by decide +kernel
theorem dX5_drop_5 : decode cX5_drop 5 = .ok (.aload_n 0, 1) := by decide +kernel
theorem dX5_drop_6 : decode cX5_drop 6 = .ok (.getfield 21, 3) := by decide +kernel
theorem dX5_drop_9 : decode cX5_drop 9 = .ok (.if_icmp .ge 34, 3) := by decide +kernel
theorem dX5_drop_12 : decode cX5_drop 12 = .ok (.aload_n 0, 1) := by decide +kernel
theorem dX5_drop_13 : decode cX5_drop 13 = .ok (.getfield 9, 3) := by decide +kernel
theorem dX5_drop_16 : decode cX5_drop 16 = .ok (.iload_n 3, 1) := by decide +kernel
theorem dX5_drop_17 : decode cX5_drop 17 = .ok (.iaload, 1) := by decide +kernel
theorem dX5_drop_18 : decode cX5_drop 18 = .ok (.iload_n 1, 1) := by decide +kernel
theorem dX5_drop_19 : decode cX5_drop 19 = .ok (.if_icmp .eq 18, 3) := by decide +kernel
theorem dX5_drop_22 : decode cX5_drop 22 = .ok (.aload_n 0, 1) := by decide +kernel
theorem dX5_drop_23 : decode cX5_drop 23 = .ok (.getfield 9, 3) := by decide +kernel
theorem dX5_drop_26 : decode cX5_drop 26 = .ok (.iload_n 2, 1) := by decide +kernel
theorem dX5_drop_27 : decode cX5_drop 27 = .ok (.aload_n 0, 1) := by decide +kernel
theorem dX5_drop_28 : decode cX5_drop 28 = .ok (.getfield 9, 3) := by decide +kernel
theorem dX5_drop_31 : decode cX5_drop 31 = .ok (.iload_n 3, 1) := by decide +kernel
theorem dX5_drop_32 : decode cX5_drop 32 = .ok (.iaload, 1) := by decide +kernel
theorem dX5_drop_33 : decode cX5_drop 33 = .ok (.iastore, 1) := by decide +kernel
theorem dX5_drop_34 : decode cX5_drop 34 = .ok (.iinc 2 1, 3) := by decide +kernel
theorem dX5_drop_37 : decode cX5_drop 37 = .ok (.iinc 3 1, 3) := by decide +kernel
theorem dX5_drop_40 : decode cX5_drop 40 = .ok (.goto (-36), 3) := by decide +kernel
theorem dX5_drop_43 : decode cX5_drop 43 = .ok (.aload_n 0, 1) := by decide +kernel
theorem dX5_drop_44 : decode cX5_drop 44 = .ok (.iload_n 2, 1) := by decide +kernel
theorem dX5_drop_45 : decode cX5_drop 45 = .ok (.putfield 21, 3) := by decide +kernel
theorem dX5_drop_48 : decode cX5_drop 48 = .ok (.return_, 1) := by decide +kernel
set_option maxRecDepth 20000 in
theorem ggX6_init_X1_init : GoodIn wsX6_init wsX1_init := goodIn_r _ [30, 31, 2, 3, 32, 33, 34, 35, 36, 37, 38, 39, 40, 41, 42, 43, 44, 45, 46, 47, 48, 49, 50, 51, 52, 53, 54, 55, 56, 57, 58, 59, 60, 86, 87, 88, 89, 90, 91, 92, 93, 94, 95, 96, 97, 98, 99, 100, 101, 102, 103, 130, 131] (by decide +kernel) (by decide +kernel)
set_option maxRecDepth 20000 in
theorem gX6_init_X1_init : GoodIn wsX6_init (wsX1_init) := ggX6_init_X1_init
set_option maxRecDepth 20000 in
theorem ggX6_init_X2_init : GoodIn wsX6_init wsX2_init := goodIn_r _ [63, 64, 2, 3, 65, 66, 5, 6, 67, 29, 30, 31, 32, 33, 34, 35, 36, 37, 38, 39, 40, 41, 42, 43, 44, 45, 46, 47, 48, 49, 50, 51, 52, 53, 54, 55, 56, 57, 58, 59, 60, 112, 113, 114, 86, 87, 88, 89, 90, 91, 92, 93, 94, 95, 96, 97, 98, 99, 100, 101, 102, 103, 130, 131] (by decide +kernel) (by decide +kernel)
set_option maxRecDepth 20000 in
theorem gX6_init_X2_init : GoodIn wsX6_init (wsX2_init) := ggX6_init_X2_init
set_option maxRecDepth 20000 in
theorem ggX6_init_X0_init : GoodIn wsX6_init wsX0_init := goodIn_r _ [69, 70, 2, 3] (by decide +kernel) (by decide +kernel)
set_option maxRecDepth 20000 in
theorem gX6_init_X0_init_n36 : GoodIn wsX6_init (wsX0_init) := ggX6_init_X0_init
set_option maxRecDepth 20000 in
theorem ggX6_init_X3_init : GoodIn wsX6_init wsX3_init := goodIn_r _ [72, 73, 2, 3, 74, 17, 18, 75, 76, 44, 45, 77, 14, 78, 68, 69, 70, 53, 54, 55, 32, 56, 115, 116, 117, 118, 119, 120, 121, 122, 123, 124, 125, 126, 130, 131] (by decide +kernel) (by decide +kernel)
set_option maxRecDepth 20000 in
theorem gX6_init_X3_init_n43 : GoodIn wsX6_init (wsX3_init) := ggX6_init_X3_init
set_option maxRecDepth 20000 in
theorem ggX6_init_X4_init : GoodIn wsX6_init wsX4_init := goodIn_r _ [80, 81, 2, 3, 14, 82, 32, 83, 84, 44, 45, 85, 53, 54, 55, 56, 127, 128, 129, 130, 131] (by decide +kernel) (by decide +kernel)
set_option maxRecDepth 20000 in
theorem gX6_init_X4_init_n50 : GoodIn wsX6_init (wsX4_init) := ggX6_init_X4_init
theorem dX6_init_0 : decode cX6_init 0 = .ok (.aload_n 0, 1) := by decide +kernel
theorem dX6_init_1 : decode cX6_init 1 = .ok (.invokespecial 1, 3) := by decide +kernel
theorem dX6_init_4 : decode cX6_init 4 = .ok (.aload_n 0, 1) := by decide +kernel
theorem dX6_init_5 : decode cX6_init 5 = .ok (.new 7, 3) := by decide +kernel
theorem dX6_init_8 : decode cX6_init 8 = .ok (.dup, 1) := by decide +kernel
theorem dX6_init_9 : decode cX6_init 9 = .ok (.invokespecial 9, 3) := by decide +kernel
theorem dX6_init_12 : decode cX6_init 12 = .ok (.putfield 10, 3) := by decide +kernel
theorem dX6_init_15 : decode cX6_init 15 = .ok (.aload_n 0, 1) := by decide +kernel
theorem dX6_init_16 : decode cX6_init 16 = .ok (.new 7, 3) := by decide +kernel
theorem dX6_init_19 : decode cX6_init 19 = .ok (.dup, 1) := by decide +kernel
theorem dX6_init_20 : decode cX6_init 20 = .ok (.invokespecial 9, 3) := by decide +kernel
theorem dX6_init_23 : decode cX6_init 23 = .ok (.putfield 16, 3) := by decide +kernel
theorem dX6_init_26 : decode cX6_init 26 = .ok (.aload_n 0, 1) := by decide +kernel
theorem dX6_init_27 : decode cX6_init 27 = .ok (.new 19, 3) := by decide +kernel
theorem dX6_init_30 : decode cX6_init 30 = .ok (.dup, 1) := by decide +kernel
theorem dX6_init_31 : decode cX6_init 31 = .ok (.invokespecial 21, 3) := by decide +kernel
theorem dX6_init_34 : decode cX6_init 34 = .ok (.putfield 22, 3) := by decide +kernel
theorem dX6_init_37 : decode cX6_init 37 = .ok (.aload_n 0, 1) := by decide +kernel
theorem dX6_init_38 : decode cX6_init 38 = .ok (.iconst 2, 1) := by decide +kernel
theorem dX6_init_39 : decode cX6_init 39 = .ok (.anewarray 7, 3) := by decide +kernel
theorem dX6_init_42 : decode cX6_init 42 = .ok (.putfield 26, 3) := by decide +kernel
theorem dX6_init_45 : decode cX6_init 45 = .ok (.aload_n 0, 1) := by decide +kernel
theorem dX6_init_46 : decode cX6_init 46 = .ok (.iconst 2, 1) := by decide +kernel
theorem dX6_init_47 : decode cX6_init 47 = .ok (.newarray .boolean, 2) := by decide +kernel
theorem dX6_init_49 : decode cX6_init 49 = .ok (.putfield 30, 3) := by decide +kernel
theorem dX6_init_52 : decode cX6_init 52 = .ok (.aload_n 0, 1) := by decide +kernel
theorem dX6_init_53 : decode cX6_init 53 = .ok (.new 34, 3) := by decide +kernel
theorem dX6_init_56 : decode cX6_init 56 = .ok (.dup, 1) := by decide +kernel
theorem dX6_init_57 : decode cX6_init 57 = .ok (.invokespecial 36, 3) := by decide +kernel
theorem dX6_init_60 : decode cX6_init 60 = .ok (.putfield 37, 3) := by decide +kernel
theorem dX6_init_63 : decode cX6_init 63 = .ok (.aload_n 0, 1) := by decide +kernel
theorem dX6_init_64 : decode cX6_init 64 = .ok (.new 41, 3) := by decide +kernel
theorem dX6_init_67 : decode cX6_init 67 = .ok (.dup, 1) := by decide +kernel
theorem dX6_init_68 : decode cX6_init 68 = .ok (.invokespecial 43, 3) := by decide +kernel
theorem dX6_init_71 : decode cX6_init 71 = .ok (.putfield 44, 3) := by decide +kernel
theorem dX6_init_74 : decode cX6_init 74 = .ok (.aload_n 0, 1) := by decide +kernel
theorem dX6_init_75 : decode cX6_init 75 = .ok (.new 48, 3) := by decide +kernel
theorem dX6_init_78 : decode cX6_init 78 = .ok (.dup, 1) := by decide +kernel
theorem dX6_init_79 : decode cX6_init 79 = .ok (.invokespecial 50, 3) := by decide +kernel
theorem dX6_init_82 : decode cX6_init 82 = .ok (.putfield 51, 3) := by decide +kernel
theorem dX6_init_85 : decode cX6_init 85 = .ok (.iconst 0, 1) := by decide +kernel
theorem dX6_init_86 : decode cX6_init 86 = .ok (.istore_n 1, 1) := by decide +kernel
theorem dX6_init_87 : decode cX6_init 87 = .ok (.iload_n 1, 1) := by decide +kernel
theorem dX6_init_88 : decode cX6_init 88 = .ok (.iconst 2, 1) := by decide +kernel
theorem dX6_init_89 : decode cX6_init 89 = .ok (.if_icmp .ge 22, 3) := by decide +kernel
theorem dX6_init_92 : decode cX6_init 92 = .ok (.aload_n 0, 1) := by decide +kernel
theorem dX6_init_93 : decode cX6_init 93 = .ok (.getfield 26, 3) := by decide +kernel
theorem dX6_init_96 : decode cX6_init 96 = .ok (.iload_n 1, 1) := by decide +kernel
theorem dX6_init_97 : decode cX6_init 97 = .ok (.new 7, 3) := by decide +kernel
theorem dX6_init_100 : decode cX6_init 100 = .ok (.dup, 1) := by decide +kernel
theorem dX6_init_101 : decode cX6_init 101 = .ok (.invokespecial 9, 3) := by decide +kernel
theorem dX6_init_104 : decode cX6_init 104 = .ok (.aastore, 1) := by decide +kernel
theorem dX6_init_105 : decode cX6_init 105 = .ok (.iinc 1 1, 3) := by decide +kernel
theorem dX6_init_108 : decode cX6_init 108 = .ok (.goto (-21), 3) := by decide +kernel
theorem dX6_init_111 : decode cX6_init 111 = .ok (.return_, 1) := by decide +kernel
set_option maxRecDepth 20000 in
theorem ggX6_makes_X6_within : GoodIn wsX6_makes wsX6_within := goodIn_r _ [7] (by decide +kernel) (by decide +kernel)
set_option maxRecDepth 20000 in
theorem gX6_makes_X6_within : GoodIn wsX6_makes (va_wsS RX6 55 yX6_within wsX6_within) := goodIn_app (goodIn_of _ (by decide +kernel)) ggX6_makes_X6_within
set_option maxRecDepth 20000 in
theorem ggX6_makes_X6_isRoot : GoodIn wsX6_makes wsX6_isRoot := goodIn_r _ [10, 4, 5, 6, 7] (by decide +kernel) (by decide +kernel)
set_option maxRecDepth 20000 in
theorem gX6_makes_X6_isRoot : GoodIn wsX6_makes (va_wsS RX6 59 yX6_isRoot wsX6_isRoot) := goodIn_app (goodIn_of _ (by decide +kernel)) ggX6_makes_X6_isRoot
set_option maxRecDepth 20000 in
theorem ggX6_makes_X1_unusedNumber : GoodIn wsX6_makes wsX1_unusedNumber := goodIn_r _ [15, 16, 17, 18, 14, 19, 20, 102, 103, 104, 105, 106, 107, 108, 109, 110, 111, 112, 113, 114, 115, 116, 117, 118, 119] (by decide +kernel) (by decide +kernel)
set_option maxRecDepth 20000 in
theorem gX6_makes_X1_unusedNumber : GoodIn wsX6_makes (wsV RX6 63 RX1 yX1_unusedNumber wsX1_unusedNumber) := goodIn_app (goodIn_of _ (by decide +kernel)) ggX6_makes_X1_unusedNumber
set_option maxRecDepth 20000 in
theorem ggX6_makes_X1_roomFor : GoodIn wsX6_makes wsX1_roomFor := goodIn_r _ [24, 25, 26, 27, 28, 14, 29, 30, 31, 32, 33, 34, 35, 36, 37, 38, 39, 102, 103, 104, 105, 106, 107, 108, 109, 110, 111, 112, 113, 114, 115, 116, 117, 118, 119] (by decide +kernel) (by decide +kernel)
set_option maxRecDepth 20000 in
theorem gX6_makes_X1_roomFor : GoodIn wsX6_makes (wsV RX6 67 RX1 yX1_roomFor wsX1_roomFor) := goodIn_app (goodIn_of _ (by decide +kernel)) ggX6_makes_X1_roomFor
set_option maxRecDepth 20000 in
theorem ggX6_makes_X2_push : GoodIn wsX6_makes wsX2_push := goodIn_r _ [44, 45, 46, 47, 48, 49, 50, 51, 52, 53, 54, 14, 55, 34, 56, 57, 58, 59, 39, 60, 61, 20, 62, 63, 64, 65, 66, 67, 68, 69, 25, 70, 71, 72, 73, 74, 75, 76, 77, 78, 79, 80, 81, 120, 121, 122, 102, 103, 104, 105, 106, 107, 108, 109, 110, 111, 112, 113, 114, 115, 116, 117, 118, 119, 123, 124] (by decide +kernel) (by decide +kernel)
set_option maxRecDepth 20000 in
theorem gX6_makes_X2_push : GoodIn wsX6_makes (wsV RX6 71 RX2 yX2_push wsX2_push) := goodIn_app (goodIn_of _ (by decide +kernel)) ggX6_makes_X2_push
set_option maxRecDepth 20000 in
theorem ggX6_makes_X1_makeThing : GoodIn wsX6_makes wsX1_makeThing := goodIn_r _ [85, 20, 64, 65, 62, 63, 34, 25, 26, 27, 28, 14, 29, 86, 87, 88, 89, 39, 90, 91, 92, 93, 102, 103, 104, 105, 106, 107, 108, 109, 110, 111, 112, 113, 114, 115, 116, 117, 118, 119] (by decide +kernel) (by decide +kernel)
set_option maxRecDepth 20000 in
theorem gX6_makes_X1_makeThing : GoodIn wsX6_makes (wsV RX6 75 RX1 yX1_makeThing wsX1_makeThing) := goodIn_app (goodIn_of _ (by decide +kernel)) ggX6_makes_X1_makeThing
theorem dX6_makes_0 : decode cX6_makes 0 = .ok (.iload_n 1, 1) := by decide +kernel
theorem dX6_makes_1 : decode cX6_makes 1 = .ok (.iconst 1, 1) := by decide +kernel
theorem dX6_makes_2 : decode cX6_makes 2 = .ok (.bipush 24, 2) := by decide +kernel
theorem dX6_makes_4 : decode cX6_makes 4 = .ok (.invokestatic 55, 3) := by decide +kernel
theorem dX6_makes_7 : decode cX6_makes 7 = .ok (.ifCond .eq 10, 3) := by decide +kernel
theorem dX6_makes_10 : decode cX6_makes 10 = .ok (.iload_n 2, 1) := by decide +kernel
theorem dX6_makes_11 : decode cX6_makes 11 = .ok (.invokestatic 59, 3) := by decide +kernel
theorem dX6_makes_14 : decode cX6_makes 14 = .ok (.ifCond .ne 5, 3) := by decide +kernel
theorem dX6_makes_17 : decode cX6_makes 17 = .ok (.iconst (-1), 1) := by decide +kernel
theorem dX6_makes_18 : decode cX6_makes 18 = .ok (.ireturn, 1) := by decide +kernel
theorem dX6_makes_19 : decode cX6_makes 19 = .ok (.aload_n 0, 1) := by decide +kernel
theorem dX6_makes_20 : decode cX6_makes 20 = .ok (.getfield 10, 3) := by decide +kernel
theorem dX6_makes_23 : decode cX6_makes 23 = .ok (.invokevirtual 63, 3) := by decide +kernel
theorem dX6_makes_26 : decode cX6_makes 26 = .ok (.istore_n 3, 1) := by decide +kernel
