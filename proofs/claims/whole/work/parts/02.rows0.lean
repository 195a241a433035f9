theorem dX0_init_0 : decode cX0_init 0 = .ok (.aload_n 0, 1) := by decide +kernel
theorem dX0_init_1 : decode cX0_init 1 = .ok (.invokespecial 3, 3) := by decide +kernel
theorem dX0_init_4 : decode cX0_init 4 = .ok (.return_, 1) := by decide +kernel
set_option maxRecDepth 20000 in
theorem ggX0_choose_X0_chooseOld : GoodIn wsX0_choose wsX0_chooseOld := goodIn_r _ [13, 8, 6, 14, 1, 15, 16, 17, 12, 18, 3, 4, 19, 20, 21, 22, 23, 24, 25, 26, 27, 28, 29, 30, 31, 32, 33, 34, 35, 36, 37, 38, 39, 40, 41, 42] (by decide +kernel) (by decide +kernel)
set_option maxRecDepth 20000 in
theorem gX0_choose_X0_chooseOld : GoodIn wsX0_choose (wsV RX0 38 RX0 yX0_chooseOld wsX0_chooseOld) := goodIn_app (goodIn_of _ (by decide +kernel)) ggX0_choose_X0_chooseOld
theorem dX0_choose_0 : decode cX0_choose 0 = .ok (.aload_n 0, 1) := by decide +kernel
theorem dX0_choose_1 : decode cX0_choose 1 = .ok (.iconst 0, 1) := by decide +kernel
theorem dX0_choose_2 : decode cX0_choose 2 = .ok (.putfield 9, 3) := by decide +kernel
theorem dX0_choose_5 : decode cX0_choose 5 = .ok (.aload_n 0, 1) := by decide +kernel
theorem dX0_choose_6 : decode cX0_choose 6 = .ok (.iconst 0, 1) := by decide +kernel
theorem dX0_choose_7 : decode cX0_choose 7 = .ok (.putfield 15, 3) := by decide +kernel
theorem dX0_choose_10 : decode cX0_choose 10 = .ok (.iconst 0, 1) := by decide +kernel
theorem dX0_choose_11 : decode cX0_choose 11 = .ok (.istore_n 3, 1) := by decide +kernel
theorem dX0_choose_12 : decode cX0_choose 12 = .ok (.iload_n 3, 1) := by decide +kernel
theorem dX0_choose_13 : decode cX0_choose 13 = .ok (.bipush 10, 2) := by decide +kernel
theorem dX0_choose_15 : decode cX0_choose 15 = .ok (.if_icmp .ge 46, 3) := by decide +kernel
theorem dX0_choose_18 : decode cX0_choose 18 = .ok (.aload_n 1, 1) := by decide +kernel
theorem dX0_choose_19 : decode cX0_choose 19 = .ok (.getfield 18, 3) := by decide +kernel
theorem dX0_choose_22 : decode cX0_choose 22 = .ok (.iload_n 3, 1) := by decide +kernel
theorem dX0_choose_23 : decode cX0_choose 23 = .ok (.iaload, 1) := by decide +kernel
theorem dX0_choose_24 : decode cX0_choose 24 = .ok (.iconst 1, 1) := by decide +kernel
theorem dX0_choose_25 : decode cX0_choose 25 = .ok (.if_icmp .ne 30, 3) := by decide +kernel
theorem dX0_choose_28 : decode cX0_choose 28 = .ok (.aload_n 0, 1) := by decide +kernel
theorem dX0_choose_29 : decode cX0_choose 29 = .ok (.dup, 1) := by decide +kernel
theorem dX0_choose_30 : decode cX0_choose 30 = .ok (.getfield 9, 3) := by decide +kernel
theorem dX0_choose_33 : decode cX0_choose 33 = .ok (.iconst 1, 1) := by decide +kernel
theorem dX0_choose_34 : decode cX0_choose 34 = .ok (.iload_n 3, 1) := by decide +kernel
theorem dX0_choose_35 : decode cX0_choose 35 = .ok (.ishl, 1) := by decide +kernel
theorem dX0_choose_36 : decode cX0_choose 36 = .ok (.ior, 1) := by decide +kernel
theorem dX0_choose_37 : decode cX0_choose 37 = .ok (.putfield 9, 3) := by decide +kernel
theorem dX0_choose_40 : decode cX0_choose 40 = .ok (.aload_n 0, 1) := by decide +kernel
theorem dX0_choose_41 : decode cX0_choose 41 = .ok (.dup, 1) := by decide +kernel
theorem dX0_choose_42 : decode cX0_choose 42 = .ok (.getfield 15, 3) := by decide +kernel
theorem dX0_choose_45 : decode cX0_choose 45 = .ok (.aload_n 1, 1) := by decide +kernel
theorem dX0_choose_46 : decode cX0_choose 46 = .ok (.getfield 24, 3) := by decide +kernel
theorem dX0_choose_49 : decode cX0_choose 49 = .ok (.iload_n 3, 1) := by decide +kernel
theorem dX0_choose_50 : decode cX0_choose 50 = .ok (.iaload, 1) := by decide +kernel
theorem dX0_choose_51 : decode cX0_choose 51 = .ok (.iadd, 1) := by decide +kernel
theorem dX0_choose_52 : decode cX0_choose 52 = .ok (.putfield 15, 3) := by decide +kernel
theorem dX0_choose_55 : decode cX0_choose 55 = .ok (.iinc 3 1, 3) := by decide +kernel
theorem dX0_choose_58 : decode cX0_choose 58 = .ok (.goto (-46), 3) := by decide +kernel
theorem dX0_choose_61 : decode cX0_choose 61 = .ok (.aload_n 0, 1) := by decide +kernel
theorem dX0_choose_62 : decode cX0_choose 62 = .ok (.ldc 27, 2) := by decide +kernel
theorem dX0_choose_64 : decode cX0_choose 64 = .ok (.aload_n 1, 1) := by decide +kernel
theorem dX0_choose_65 : decode cX0_choose 65 = .ok (.getfield 28, 3) := by decide +kernel
theorem dX0_choose_68 : decode cX0_choose 68 = .ok (.aload_n 1, 1) := by decide +kernel
theorem dX0_choose_69 : decode cX0_choose 69 = .ok (.getfield 32, 3) := by decide +kernel
theorem dX0_choose_72 : decode cX0_choose 72 = .ok (.aload_n 0, 1) := by decide +kernel
theorem dX0_choose_73 : decode cX0_choose 73 = .ok (.getfield 15, 3) := by decide +kernel
theorem dX0_choose_76 : decode cX0_choose 76 = .ok (.i2f, 1) := by decide +kernel
theorem dX0_choose_77 : decode cX0_choose 77 = .ok (.fmul, 1) := by decide +kernel
theorem dX0_choose_78 : decode cX0_choose 78 = .ok (.fmul, 1) := by decide +kernel
theorem dX0_choose_79 : decode cX0_choose 79 = .ok (.fadd, 1) := by decide +kernel
theorem dX0_choose_80 : decode cX0_choose 80 = .ok (.putfield 35, 3) := by decide +kernel
theorem dX0_choose_83 : decode cX0_choose 83 = .ok (.aload_n 0, 1) := by decide +kernel
theorem dX0_choose_84 : decode cX0_choose 84 = .ok (.aload_n 1, 1) := by decide +kernel
theorem dX0_choose_85 : decode cX0_choose 85 = .ok (.iload_n 2, 1) := by decide +kernel
theorem dX0_choose_86 : decode cX0_choose 86 = .ok (.i2f, 1) := by decide +kernel
theorem dX0_choose_87 : decode cX0_choose 87 = .ok (.invokevirtual 38, 3) := by decide +kernel
theorem dX0_choose_90 : decode cX0_choose 90 = .ok (.return_, 1) := by decide +kernel
set_option maxRecDepth 20000 in
theorem ggX0_chooseOld_X0_bestOld : GoodIn wsX0_chooseOld wsX0_bestOld := goodIn_r _ [9, 10, 3, 4, 11, 12, 13, 14, 18, 19, 20, 21, 22, 23, 24, 25, 26, 27, 28, 29, 30, 31, 32, 33, 34, 35, 15, 16, 17] (by decide +kernel) (by decide +kernel)
set_option maxRecDepth 20000 in
theorem gX0_chooseOld_X0_bestOld : GoodIn wsX0_chooseOld (wsV RX0 42 RX0 yX0_bestOld wsX0_bestOld) := goodIn_app (goodIn_of _ (by decide +kernel)) ggX0_chooseOld_X0_bestOld
theorem dX0_chooseOld_0 : decode cX0_chooseOld 0 = .ok (.iconst 0, 1) := by decide +kernel
theorem dX0_chooseOld_1 : decode cX0_chooseOld 1 = .ok (.istore_n 3, 1) := by decide +kernel
theorem dX0_chooseOld_2 : decode cX0_chooseOld 2 = .ok (.iload_n 3, 1) := by decide +kernel
theorem dX0_chooseOld_3 : decode cX0_chooseOld 3 = .ok (.bipush 10, 2) := by decide +kernel
theorem dX0_chooseOld_5 : decode cX0_chooseOld 5 = .ok (.if_icmp .ge 71, 3) := by decide +kernel
theorem dX0_chooseOld_8 : decode cX0_chooseOld 8 = .ok (.aload_n 0, 1) := by decide +kernel
theorem dX0_chooseOld_9 : decode cX0_chooseOld 9 = .ok (.aload_n 1, 1) := by decide +kernel
theorem dX0_chooseOld_10 : decode cX0_chooseOld 10 = .ok (.invokevirtual 42, 3) := by decide +kernel
theorem dX0_chooseOld_13 : decode cX0_chooseOld 13 = .ok (.istore 4, 2) := by decide +kernel
theorem dX0_chooseOld_15 : decode cX0_chooseOld 15 = .ok (.iload 4, 2) := by decide +kernel
theorem dX0_chooseOld_17 : decode cX0_chooseOld 17 = .ok (.bipush (-9), 2) := by decide +kernel
theorem dX0_chooseOld_19 : decode cX0_chooseOld 19 = .ok (.if_icmp .ne 4, 3) := by decide +kernel
theorem dX0_chooseOld_22 : decode cX0_chooseOld 22 = .ok (.return_, 1) := by decide +kernel
theorem dX0_chooseOld_23 : decode cX0_chooseOld 23 = .ok (.aload_n 0, 1) := by decide +kernel
theorem dX0_chooseOld_24 : decode cX0_chooseOld 24 = .ok (.getfield 35, 3) := by decide +kernel
theorem dX0_chooseOld_27 : decode cX0_chooseOld 27 = .ok (.aload_n 1, 1) := by decide +kernel
theorem dX0_chooseOld_28 : decode cX0_chooseOld 28 = .ok (.getfield 28, 3) := by decide +kernel
theorem dX0_chooseOld_31 : decode cX0_chooseOld 31 = .ok (.aload_n 1, 1) := by decide +kernel
theorem dX0_chooseOld_32 : decode cX0_chooseOld 32 = .ok (.getfield 46, 3) := by decide +kernel
theorem dX0_chooseOld_35 : decode cX0_chooseOld 35 = .ok (.iload 4, 2) := by decide +kernel
theorem dX0_chooseOld_37 : decode cX0_chooseOld 37 = .ok (.iaload, 1) := by decide +kernel
theorem dX0_chooseOld_38 : decode cX0_chooseOld 38 = .ok (.i2f, 1) := by decide +kernel
theorem dX0_chooseOld_39 : decode cX0_chooseOld 39 = .ok (.fmul, 1) := by decide +kernel
theorem dX0_chooseOld_40 : decode cX0_chooseOld 40 = .ok (.fadd, 1) := by decide +kernel
theorem dX0_chooseOld_41 : decode cX0_chooseOld 41 = .ok (.fstore 5, 2) := by decide +kernel
theorem dX0_chooseOld_43 : decode cX0_chooseOld 43 = .ok (.fload 5, 2) := by decide +kernel
theorem dX0_chooseOld_45 : decode cX0_chooseOld 45 = .ok (.fload_n 2, 1) := by decide +kernel
theorem dX0_chooseOld_46 : decode cX0_chooseOld 46 = .ok (.fcmp .l, 1) := by decide +kernel
theorem dX0_chooseOld_47 : decode cX0_chooseOld 47 = .ok (.ifCond .le 4, 3) := by decide +kernel
theorem dX0_chooseOld_50 : decode cX0_chooseOld 50 = .ok (.return_, 1) := by decide +kernel
theorem dX0_chooseOld_51 : decode cX0_chooseOld 51 = .ok (.aload_n 0, 1) := by decide +kernel
theorem dX0_chooseOld_52 : decode cX0_chooseOld 52 = .ok (.dup, 1) := by decide +kernel
theorem dX0_chooseOld_53 : decode cX0_chooseOld 53 = .ok (.getfield 9, 3) := by decide +kernel
theorem dX0_chooseOld_56 : decode cX0_chooseOld 56 = .ok (.iconst 1, 1) := by decide +kernel
theorem dX0_chooseOld_57 : decode cX0_chooseOld 57 = .ok (.iload 4, 2) := by decide +kernel
theorem dX0_chooseOld_59 : decode cX0_chooseOld 59 = .ok (.ishl, 1) := by decide +kernel
theorem dX0_chooseOld_60 : decode cX0_chooseOld 60 = .ok (.ior, 1) := by decide +kernel
theorem dX0_chooseOld_61 : decode cX0_chooseOld 61 = .ok (.putfield 9, 3) := by decide +kernel
theorem dX0_chooseOld_64 : decode cX0_chooseOld 64 = .ok (.aload_n 0, 1) := by decide +kernel
theorem dX0_chooseOld_65 : decode cX0_chooseOld 65 = .ok (.fload 5, 2) := by decide +kernel
theorem dX0_chooseOld_67 : decode cX0_chooseOld 67 = .ok (.putfield 35, 3) := by decide +kernel
theorem dX0_chooseOld_70 : decode cX0_chooseOld 70 = .ok (.iinc 3 1, 3) := by decide +kernel
theorem dX0_chooseOld_73 : decode cX0_chooseOld 73 = .ok (.goto (-71), 3) := by decide +kernel
theorem dX0_chooseOld_76 : decode cX0_chooseOld 76 = .ok (.return_, 1) := by decide +kernel
set_option maxRecDepth 20000 in
theorem ggX0_bestOld_X6_hasBit : GoodIn wsX0_bestOld wsX6_hasBit := goodIn_r _ [7] (by decide +kernel) (by decide +kernel)
set_option maxRecDepth 20000 in
theorem gX0_bestOld_X6_hasBit_n49 : GoodIn wsX0_bestOld (wsX6_hasBit) := ggX0_bestOld_X6_hasBit
theorem dX0_bestOld_0 : decode cX0_bestOld 0 = .ok (.bipush (-9), 2) := by decide +kernel
theorem dX0_bestOld_2 : decode cX0_bestOld 2 = .ok (.istore_n 2, 1) := by decide +kernel
theorem dX0_bestOld_3 : decode cX0_bestOld 3 = .ok (.iconst 1, 1) := by decide +kernel
theorem dX0_bestOld_4 : decode cX0_bestOld 4 = .ok (.istore_n 3, 1) := by decide +kernel
theorem dX0_bestOld_5 : decode cX0_bestOld 5 = .ok (.iconst 0, 1) := by decide +kernel
theorem dX0_bestOld_6 : decode cX0_bestOld 6 = .ok (.istore 4, 2) := by decide +kernel
theorem dX0_bestOld_8 : decode cX0_bestOld 8 = .ok (.iload 4, 2) := by decide +kernel
theorem dX0_bestOld_10 : decode cX0_bestOld 10 = .ok (.bipush 10, 2) := by decide +kernel
theorem dX0_bestOld_12 : decode cX0_bestOld 12 = .ok (.if_icmp .ge 73, 3) := by decide +kernel
theorem dX0_bestOld_15 : decode cX0_bestOld 15 = .ok (.aload_n 1, 1) := by decide +kernel
theorem dX0_bestOld_16 : decode cX0_bestOld 16 = .ok (.getfield 18, 3) := by decide +kernel
theorem dX0_bestOld_19 : decode cX0_bestOld 19 = .ok (.iload 4, 2) := by decide +kernel
theorem dX0_bestOld_21 : decode cX0_bestOld 21 = .ok (.iaload, 1) := by decide +kernel
theorem dX0_bestOld_22 : decode cX0_bestOld 22 = .ok (.iconst 2, 1) := by decide +kernel
theorem dX0_bestOld_23 : decode cX0_bestOld 23 = .ok (.if_icmp .ne 56, 3) := by decide +kernel
theorem dX0_bestOld_26 : decode cX0_bestOld 26 = .ok (.aload_n 1, 1) := by decide +kernel
theorem dX0_bestOld_27 : decode cX0_bestOld 27 = .ok (.getfield 46, 3) := by decide +kernel
theorem dX0_bestOld_30 : decode cX0_bestOld 30 = .ok (.iload 4, 2) := by decide +kernel
theorem dX0_bestOld_32 : decode cX0_bestOld 32 = .ok (.iaload, 1) := by decide +kernel
theorem dX0_bestOld_33 : decode cX0_bestOld 33 = .ok (.bipush (-9), 2) := by decide +kernel
theorem dX0_bestOld_35 : decode cX0_bestOld 35 = .ok (.if_icmp .eq 44, 3) := by decide +kernel
theorem dX0_bestOld_38 : decode cX0_bestOld 38 = .ok (.aload_n 0, 1) := by decide +kernel
theorem dX0_bestOld_39 : decode cX0_bestOld 39 = .ok (.getfield 9, 3) := by decide +kernel
theorem dX0_bestOld_42 : decode cX0_bestOld 42 = .ok (.iload 4, 2) := by decide +kernel
theorem dX0_bestOld_44 : decode cX0_bestOld 44 = .ok (.invokestatic 49, 3) := by decide +kernel
theorem dX0_bestOld_47 : decode cX0_bestOld 47 = .ok (.ifCond .ne 32, 3) := by decide +kernel
theorem dX0_bestOld_50 : decode cX0_bestOld 50 = .ok (.aload_n 1, 1) := by decide +kernel
theorem dX0_bestOld_51 : decode cX0_bestOld 51 = .ok (.getfield 24, 3) := by decide +kernel
theorem dX0_bestOld_54 : decode cX0_bestOld 54 = .ok (.iload 4, 2) := by decide +kernel
theorem dX0_bestOld_56 : decode cX0_bestOld 56 = .ok (.iaload, 1) := by decide +kernel
theorem dX0_bestOld_57 : decode cX0_bestOld 57 = .ok (.aload_n 1, 1) := by decide +kernel
theorem dX0_bestOld_58 : decode cX0_bestOld 58 = .ok (.getfield 46, 3) := by decide +kernel
theorem dX0_bestOld_61 : decode cX0_bestOld 61 = .ok (.iload 4, 2) := by decide +kernel
theorem dX0_bestOld_63 : decode cX0_bestOld 63 = .ok (.iaload, 1) := by decide +kernel
theorem dX0_bestOld_64 : decode cX0_bestOld 64 = .ok (.isub, 1) := by decide +kernel
theorem dX0_bestOld_65 : decode cX0_bestOld 65 = .ok (.istore 5, 2) := by decide +kernel
theorem dX0_bestOld_67 : decode cX0_bestOld 67 = .ok (.iload 5, 2) := by decide +kernel
theorem dX0_bestOld_69 : decode cX0_bestOld 69 = .ok (.iload_n 3, 1) := by decide +kernel
theorem dX0_bestOld_70 : decode cX0_bestOld 70 = .ok (.if_icmp .le 9, 3) := by decide +kernel
theorem dX0_bestOld_73 : decode cX0_bestOld 73 = .ok (.iload 4, 2) := by decide +kernel
theorem dX0_bestOld_75 : decode cX0_bestOld 75 = .ok (.istore_n 2, 1) := by decide +kernel
theorem dX0_bestOld_76 : decode cX0_bestOld 76 = .ok (.iload 5, 2) := by decide +kernel
theorem dX0_bestOld_78 : decode cX0_bestOld 78 = .ok (.istore_n 3, 1) := by decide +kernel
theorem dX0_bestOld_79 : decode cX0_bestOld 79 = .ok (.iinc 4 1, 3) := by decide +kernel
theorem dX0_bestOld_82 : decode cX0_bestOld 82 = .ok (.goto (-74), 3) := by decide +kernel
theorem dX0_bestOld_85 : decode cX0_bestOld 85 = .ok (.iload_n 2, 1) := by decide +kernel
theorem dX0_bestOld_86 : decode cX0_bestOld 86 = .ok (.ireturn, 1) := by decide +kernel
set_option maxRecDepth 20000 in
theorem ggX1_init_X5_init : GoodIn wsX1_init wsX5_init := goodIn_r _ [26, 27, 2, 3, 4, 28, 51, 52] (by decide +kernel) (by decide +kernel)
set_option maxRecDepth 20000 in
theorem gX1_init_X5_init_n44 : GoodIn wsX1_init (wsX5_init) := ggX1_init_X5_init
set_option maxRecDepth 20000 in
theorem ggX1_init_J7_fill_53178 : GoodIn wsX1_init wsJ7_fill_53178 := goodIn_r _ [32] (by decide +kernel) (by decide +kernel)
set_option maxRecDepth 20000 in
theorem gX1_init_J7_fill_53178 : GoodIn wsX1_init (va_wsS RX1 67 yJ7_fill_53178 wsJ7_fill_53178) := goodIn_app (goodIn_of _ (by decide +kernel)) ggX1_init_J7_fill_53178
theorem dX1_init_0 : decode cX1_init 0 = .ok (.aload_n 0, 1) := by decide +kernel
theorem dX1_init_1 : decode cX1_init 1 = .ok (.invokespecial 3, 3) := by decide +kernel
theorem dX1_init_4 : decode cX1_init 4 = .ok (.aload_n 0, 1) := by decide +kernel
theorem dX1_init_5 : decode cX1_init 5 = .ok (.bipush 10, 2) := by decide +kernel
theorem dX1_init_7 : decode cX1_init 7 = .ok (.newarray .int, 2) := by decide +kernel
theorem dX1_init_9 : decode cX1_init 9 = .ok (.putfield 9, 3) := by decide +kernel
theorem dX1_init_12 : decode cX1_init 12 = .ok (.aload_n 0, 1) := by decide +kernel
theorem dX1_init_13 : decode cX1_init 13 = .ok (.bipush 10, 2) := by decide +kernel
theorem dX1_init_15 : decode cX1_init 15 = .ok (.newarray .int, 2) := by decide +kernel
theorem dX1_init_17 : decode cX1_init 17 = .ok (.putfield 15, 3) := by decide +kernel
theorem dX1_init_20 : decode cX1_init 20 = .ok (.aload_n 0, 1) := by decide +kernel
theorem dX1_init_21 : decode cX1_init 21 = .ok (.bipush 10, 2) := by decide +kernel
theorem dX1_init_23 : decode cX1_init 23 = .ok (.newarray .int, 2) := by decide +kernel
theorem dX1_init_25 : decode cX1_init 25 = .ok (.putfield 18, 3) := by decide +kernel
theorem dX1_init_28 : decode cX1_init 28 = .ok (.aload_n 0, 1) := by decide +kernel
theorem dX1_init_29 : decode cX1_init 29 = .ok (.bipush 10, 2) := by decide +kernel
theorem dX1_init_31 : decode cX1_init 31 = .ok (.newarray .int, 2) := by decide +kernel
theorem dX1_init_33 : decode cX1_init 33 = .ok (.putfield 21, 3) := by decide +kernel
theorem dX1_init_36 : decode cX1_init 36 = .ok (.aload_n 0, 1) := by decide +kernel
theorem dX1_init_37 : decode cX1_init 37 = .ok (.bipush 32, 2) := by decide +kernel
theorem dX1_init_39 : decode cX1_init 39 = .ok (.newarray .int, 2) := by decide +kernel
theorem dX1_init_41 : decode cX1_init 41 = .ok (.putfield 24, 3) := by decide +kernel
theorem dX1_init_44 : decode cX1_init 44 = .ok (.aload_n 0, 1) := by decide +kernel
theorem dX1_init_45 : decode cX1_init 45 = .ok (.bipush 32, 2) := by decide +kernel
theorem dX1_init_47 : decode cX1_init 47 = .ok (.newarray .int, 2) := by decide +kernel
theorem dX1_init_49 : decode cX1_init 49 = .ok (.putfield 27, 3) := by decide +kernel
theorem dX1_init_52 : decode cX1_init 52 = .ok (.aload_n 0, 1) := by decide +kernel
theorem dX1_init_53 : decode cX1_init 53 = .ok (.bipush 32, 2) := by decide +kernel
theorem dX1_init_55 : decode cX1_init 55 = .ok (.newarray .int, 2) := by decide +kernel
theorem dX1_init_57 : decode cX1_init 57 = .ok (.putfield 30, 3) := by decide +kernel
theorem dX1_init_60 : decode cX1_init 60 = .ok (.aload_n 0, 1) := by decide +kernel
theorem dX1_init_61 : decode cX1_init 61 = .ok (.bipush 64, 2) := by decide +kernel
theorem dX1_init_63 : decode cX1_init 63 = .ok (.newarray .int, 2) := by decide +kernel
theorem dX1_init_65 : decode cX1_init 65 = .ok (.putfield 33, 3) := by decide +kernel
theorem dX1_init_68 : decode cX1_init 68 = .ok (.aload_n 0, 1) := by decide +kernel
theorem dX1_init_69 : decode cX1_init 69 = .ok (.bipush 32, 2) := by decide +kernel
theorem dX1_init_71 : decode cX1_init 71 = .ok (.newarray .int, 2) := by decide +kernel
theorem dX1_init_73 : decode cX1_init 73 = .ok (.putfield 36, 3) := by decide +kernel
theorem dX1_init_76 : decode cX1_init 76 = .ok (.aload_n 0, 1) := by decide +kernel
theorem dX1_init_77 : decode cX1_init 77 = .ok (.bipush 6, 2) := by decide +kernel
theorem dX1_init_79 : decode cX1_init 79 = .ok (.newarray .int, 2) := by decide +kernel
theorem dX1_init_81 : decode cX1_init 81 = .ok (.putfield 39, 3) := by decide +kernel
theorem dX1_init_84 : decode cX1_init 84 = .ok (.aload_n 0, 1) := by decide +kernel
theorem dX1_init_85 : decode cX1_init 85 = .ok (.new 42, 3) := by decide +kernel
theorem dX1_init_88 : decode cX1_init 88 = .ok (.dup, 1) := by decide +kernel
theorem dX1_init_89 : decode cX1_init 89 = .ok (.invokespecial 44, 3) := by decide +kernel
theorem dX1_init_92 : decode cX1_init 92 = .ok (.putfield 45, 3) := by decide +kernel
theorem dX1_init_95 : decode cX1_init 95 = .ok (.aload_n 0, 1) := by decide +kernel
theorem dX1_init_96 : decode cX1_init 96 = .ok (.new 42, 3) := by decide +kernel
theorem dX1_init_99 : decode cX1_init 99 = .ok (.dup, 1) := by decide +kernel
theorem dX1_init_100 : decode cX1_init 100 = .ok (.invokespecial 44, 3) := by decide +kernel
theorem dX1_init_103 : decode cX1_init 103 = .ok (.putfield 49, 3) := by decide +kernel
theorem dX1_init_106 : decode cX1_init 106 = .ok (.aload_n 0, 1) := by decide +kernel
theorem dX1_init_107 : decode cX1_init 107 = .ok (.bipush (-9), 2) := by decide +kernel
theorem dX1_init_109 : decode cX1_init 109 = .ok (.putfield 52, 3) := by decide +kernel
theorem dX1_init_112 : decode cX1_init 112 = .ok (.aload_n 0, 1) := by decide +kernel
theorem dX1_init_113 : decode cX1_init 113 = .ok (.fconst 1, 1) := by decide +kernel
theorem dX1_init_114 : decode cX1_init 114 = .ok (.putfield 56, 3) := by decide +kernel
theorem dX1_init_117 : decode cX1_init 117 = .ok (.aload_n 0, 1) := by decide +kernel
theorem dX1_init_118 : decode cX1_init 118 = .ok (.ldc 60, 2) := by decide +kernel
theorem dX1_init_120 : decode cX1_init 120 = .ok (.putfield 61, 3) := by decide +kernel
theorem dX1_init_123 : decode cX1_init 123 = .ok (.aload_n 0, 1) := by decide +kernel
theorem dX1_init_124 : decode cX1_init 124 = .ok (.bipush (-9), 2) := by decide +kernel
theorem dX1_init_126 : decode cX1_init 126 = .ok (.putfield 64, 3) := by decide +kernel
theorem dX1_init_129 : decode cX1_init 129 = .ok (.aload_n 0, 1) := by decide +kernel
theorem dX1_init_130 : decode cX1_init 130 = .ok (.getfield 18, 3) := by decide +kernel
theorem dX1_init_133 : decode cX1_init 133 = .ok (.bipush (-9), 2) := by decide +kernel
theorem dX1_init_135 : decode cX1_init 135 = .ok (.invokestatic 67, 3) := by decide +kernel
theorem dX1_init_138 : decode cX1_init 138 = .ok (.aload_n 0, 1) := by decide +kernel
theorem dX1_init_139 : decode cX1_init 139 = .ok (.getfield 33, 3) := by decide +kernel
theorem dX1_init_142 : decode cX1_init 142 = .ok (.bipush (-5), 2) := by decide +kernel
theorem dX1_init_144 : decode cX1_init 144 = .ok (.invokestatic 67, 3) := by decide +kernel
theorem dX1_init_147 : decode cX1_init 147 = .ok (.aload_n 0, 1) := by decide +kernel
theorem dX1_init_148 : decode cX1_init 148 = .ok (.getfield 39, 3) := by decide +kernel
theorem dX1_init_151 : decode cX1_init 151 = .ok (.bipush (-5), 2) := by decide +kernel
theorem dX1_init_153 : decode cX1_init 153 = .ok (.invokestatic 67, 3) := by decide +kernel
theorem dX1_init_156 : decode cX1_init 156 = .ok (.return_, 1) := by decide +kernel
set_option maxRecDepth 20000 in
theorem ggX1_becomeLike_X5_becomeLike : GoodIn wsX1_becomeLike wsX5_becomeLike := goodIn_r _ [27, 28, 29, 3, 4, 5, 30, 49, 50] (by decide +kernel) (by decide +kernel)
set_option maxRecDepth 20000 in
theorem gX1_becomeLike_X5_becomeLike : GoodIn wsX1_becomeLike (wsV RX1 79 RX5 yX5_becomeLike wsX5_becomeLike) := goodIn_app (goodIn_of _ (by decide +kernel)) ggX1_becomeLike_X5_becomeLike
theorem dX1_becomeLike_0 : decode cX1_becomeLike 0 = .ok (.aload_n 1, 1) := by decide +kernel
theorem dX1_becomeLike_1 : decode cX1_becomeLike 1 = .ok (.getfield 9, 3) := by decide +kernel
theorem dX1_becomeLike_4 : decode cX1_becomeLike 4 = .ok (.iconst 0, 1) := by decide +kernel
theorem dX1_becomeLike_5 : decode cX1_becomeLike 5 = .ok (.aload_n 0, 1) := by decide +kernel
theorem dX1_becomeLike_6 : decode cX1_becomeLike 6 = .ok (.getfield 9, 3) := by decide +kernel
theorem dX1_becomeLike_9 : decode cX1_becomeLike 9 = .ok (.iconst 0, 1) := by decide +kernel
theorem dX1_becomeLike_10 : decode cX1_becomeLike 10 = .ok (.bipush 10, 2) := by decide +kernel
theorem dX1_becomeLike_12 : decode cX1_becomeLike 12 = .ok (.invokestatic 73, 3) := by decide +kernel
theorem dX1_becomeLike_15 : decode cX1_becomeLike 15 = .ok (.aload_n 1, 1) := by decide +kernel
theorem dX1_becomeLike_16 : decode cX1_becomeLike 16 = .ok (.getfield 15, 3) := by decide +kernel
theorem dX1_becomeLike_19 : decode cX1_becomeLike 19 = .ok (.iconst 0, 1) := by decide +kernel
theorem dX1_becomeLike_20 : decode cX1_becomeLike 20 = .ok (.aload_n 0, 1) := by decide +kernel
theorem dX1_becomeLike_21 : decode cX1_becomeLike 21 = .ok (.getfield 15, 3) := by decide +kernel
theorem dX1_becomeLike_24 : decode cX1_becomeLike 24 = .ok (.iconst 0, 1) := by decide +kernel
theorem dX1_becomeLike_25 : decode cX1_becomeLike 25 = .ok (.bipush 10, 2) := by decide +kernel
theorem dX1_becomeLike_27 : decode cX1_becomeLike 27 = .ok (.invokestatic 73, 3) := by decide +kernel
theorem dX1_becomeLike_30 : decode cX1_becomeLike 30 = .ok (.aload_n 1, 1) := by decide +kernel
theorem dX1_becomeLike_31 : decode cX1_becomeLike 31 = .ok (.getfield 18, 3) := by decide +kernel
theorem dX1_becomeLike_34 : decode cX1_becomeLike 34 = .ok (.iconst 0, 1) := by decide +kernel
theorem dX1_becomeLike_35 : decode cX1_becomeLike 35 = .ok (.aload_n 0, 1) := by decide +kernel
theorem dX1_becomeLike_36 : decode cX1_becomeLike 36 = .ok (.getfield 18, 3) := by decide +kernel
theorem dX1_becomeLike_39 : decode cX1_becomeLike 39 = .ok (.iconst 0, 1) := by decide +kernel
theorem dX1_becomeLike_40 : decode cX1_becomeLike 40 = .ok (.bipush 10, 2) := by decide +kernel
theorem dX1_becomeLike_42 : decode cX1_becomeLike 42 = .ok (.invokestatic 73, 3) := by decide +kernel
theorem dX1_becomeLike_45 : decode cX1_becomeLike 45 = .ok (.aload_n 1, 1) := by decide +kernel
theorem dX1_becomeLike_46 : decode cX1_becomeLike 46 = .ok (.getfield 21, 3) := by decide +kernel
theorem dX1_becomeLike_49 : decode cX1_becomeLike 49 = .ok (.iconst 0, 1) := by decide +kernel
theorem dX1_becomeLike_50 : decode cX1_becomeLike 50 = .ok (.aload_n 0, 1) := by decide +kernel
theorem dX1_becomeLike_51 : decode cX1_becomeLike 51 = .ok (.getfield 21, 3) := by decide +kernel
theorem dX1_becomeLike_54 : decode cX1_becomeLike 54 = .ok (.iconst 0, 1) := by decide +kernel
theorem dX1_becomeLike_55 : decode cX1_becomeLike 55 = .ok (.bipush 10, 2) := by decide +kernel
theorem dX1_becomeLike_57 : decode cX1_becomeLike 57 = .ok (.invokestatic 73, 3) := by decide +kernel
theorem dX1_becomeLike_60 : decode cX1_becomeLike 60 = .ok (.aload_n 1, 1) := by decide +kernel
theorem dX1_becomeLike_61 : decode cX1_becomeLike 61 = .ok (.getfield 24, 3) := by decide +kernel
theorem dX1_becomeLike_64 : decode cX1_becomeLike 64 = .ok (.iconst 0, 1) := by decide +kernel
theorem dX1_becomeLike_65 : decode cX1_becomeLike 65 = .ok (.aload_n 0, 1) := by decide +kernel
theorem dX1_becomeLike_66 : decode cX1_becomeLike 66 = .ok (.getfield 24, 3) := by decide +kernel
theorem dX1_becomeLike_69 : decode cX1_becomeLike 69 = .ok (.iconst 0, 1) := by decide +kernel
theorem dX1_becomeLike_70 : decode cX1_becomeLike 70 = .ok (.bipush 32, 2) := by decide +kernel
theorem dX1_becomeLike_72 : decode cX1_becomeLike 72 = .ok (.invokestatic 73, 3) := by decide +kernel
theorem dX1_becomeLike_75 : decode cX1_becomeLike 75 = .ok (.aload_n 1, 1) := by decide +kernel
theorem dX1_becomeLike_76 : decode cX1_becomeLike 76 = .ok (.getfield 27, 3) := by decide +kernel
theorem dX1_becomeLike_79 : decode cX1_becomeLike 79 = .ok (.iconst 0, 1) := by decide +kernel
theorem dX1_becomeLike_80 : decode cX1_becomeLike 80 = .ok (.aload_n 0, 1) := by decide +kernel
theorem dX1_becomeLike_81 : decode cX1_becomeLike 81 = .ok (.getfield 27, 3) := by decide +kernel
theorem dX1_becomeLike_84 : decode cX1_becomeLike 84 = .ok (.iconst 0, 1) := by decide +kernel
theorem dX1_becomeLike_85 : decode cX1_becomeLike 85 = .ok (.bipush 32, 2) := by decide +kernel
theorem dX1_becomeLike_87 : decode cX1_becomeLike 87 = .ok (.invokestatic 73, 3) := by decide +kernel
theorem dX1_becomeLike_90 : decode cX1_becomeLike 90 = .ok (.aload_n 1, 1) := by decide +kernel
theorem dX1_becomeLike_91 : decode cX1_becomeLike 91 = .ok (.getfield 30, 3) := by decide +kernel
theorem dX1_becomeLike_94 : decode cX1_becomeLike 94 = .ok (.iconst 0, 1) := by decide +kernel
theorem dX1_becomeLike_95 : decode cX1_becomeLike 95 = .ok (.aload_n 0, 1) := by decide +kernel
theorem dX1_becomeLike_96 : decode cX1_becomeLike 96 = .ok (.getfield 30, 3) := by decide +kernel
theorem dX1_becomeLike_99 : decode cX1_becomeLike 99 = .ok (.iconst 0, 1) := by decide +kernel
theorem dX1_becomeLike_100 : decode cX1_becomeLike 100 = .ok (.bipush 32, 2) := by decide +kernel
theorem dX1_becomeLike_102 : decode cX1_becomeLike 102 = .ok (.invokestatic 73, 3) := by decide +kernel
theorem dX1_becomeLike_105 : decode cX1_becomeLike 105 = .ok (.aload_n 1, 1) := by decide +kernel
theorem dX1_becomeLike_106 : decode cX1_becomeLike 106 = .ok (.getfield 33, 3) := by decide +kernel
theorem dX1_becomeLike_109 : decode cX1_becomeLike 109 = .ok (.iconst 0, 1) := by decide +kernel
theorem dX1_becomeLike_110 : decode cX1_becomeLike 110 = .ok (.aload_n 0, 1) := by decide +kernel
theorem dX1_becomeLike_111 : decode cX1_becomeLike 111 = .ok (.getfield 33, 3) := by decide +kernel
theorem dX1_becomeLike_114 : decode cX1_becomeLike 114 = .ok (.iconst 0, 1) := by decide +kernel
theorem dX1_becomeLike_115 : decode cX1_becomeLike 115 = .ok (.bipush 64, 2) := by decide +kernel
theorem dX1_becomeLike_117 : decode cX1_becomeLike 117 = .ok (.invokestatic 73, 3) := by decide +kernel
theorem dX1_becomeLike_120 : decode cX1_becomeLike 120 = .ok (.aload_n 1, 1) := by decide +kernel
theorem dX1_becomeLike_121 : decode cX1_becomeLike 121 = .ok (.getfield 36, 3) := by decide +kernel
theorem dX1_becomeLike_124 : decode cX1_becomeLike 124 = .ok (.iconst 0, 1) := by decide +kernel
theorem dX1_becomeLike_125 : decode cX1_becomeLike 125 = .ok (.aload_n 0, 1) := by decide +kernel
theorem dX1_becomeLike_126 : decode cX1_becomeLike 126 = .ok (.getfield 36, 3) := by decide +kernel
theorem dX1_becomeLike_129 : decode cX1_becomeLike 129 = .ok (.iconst 0, 1) := by decide +kernel
theorem dX1_becomeLike_130 : decode cX1_becomeLike 130 = .ok (.bipush 32, 2) := by decide +kernel
theorem dX1_becomeLike_132 : decode cX1_becomeLike 132 = .ok (.invokestatic 73, 3) := by decide +kernel
theorem dX1_becomeLike_135 : decode cX1_becomeLike 135 = .ok (.aload_n 1, 1) := by decide +kernel
theorem dX1_becomeLike_136 : decode cX1_becomeLike 136 = .ok (.getfield 39, 3) := by decide +kernel
theorem dX1_becomeLike_139 : decode cX1_becomeLike 139 = .ok (.iconst 0, 1) := by decide +kernel
theorem dX1_becomeLike_140 : decode cX1_becomeLike 140 = .ok (.aload_n 0, 1) := by decide +kernel
theorem dX1_becomeLike_141 : decode cX1_becomeLike 141 = .ok (.getfield 39, 3) := by decide +kernel
theorem dX1_becomeLike_144 : decode cX1_becomeLike 144 = .ok (.iconst 0, 1) := by decide +kernel
theorem dX1_becomeLike_145 : decode cX1_becomeLike 145 = .ok (.bipush 6, 2) := by decide +kernel
theorem dX1_becomeLike_147 : decode cX1_becomeLike 147 = .ok (.invokestatic 73, 3) := by decide +kernel
theorem dX1_becomeLike_150 : decode cX1_becomeLike 150 = .ok (.aload_n 0, 1) := by decide +kernel
theorem dX1_becomeLike_151 : decode cX1_becomeLike 151 = .ok (.getfield 45, 3) := by decide +kernel
theorem dX1_becomeLike_154 : decode cX1_becomeLike 154 = .ok (.aload_n 1, 1) := by decide +kernel
theorem dX1_becomeLike_155 : decode cX1_becomeLike 155 = .ok (.getfield 45, 3) := by decide +kernel
theorem dX1_becomeLike_158 : decode cX1_becomeLike 158 = .ok (.invokevirtual 79, 3) := by decide +kernel
theorem dX1_becomeLike_161 : decode cX1_becomeLike 161 = .ok (.aload_n 0, 1) := by decide +kernel
theorem dX1_becomeLike_162 : decode cX1_becomeLike 162 = .ok (.getfield 49, 3) := by decide +kernel
theorem dX1_becomeLike_165 : decode cX1_becomeLike 165 = .ok (.aload_n 1, 1) := by decide +kernel
theorem dX1_becomeLike_166 : decode cX1_becomeLike 166 = .ok (.getfield 49, 3) := by decide +kernel
theorem dX1_becomeLike_169 : decode cX1_becomeLike 169 = .ok (.invokevirtual 79, 3) := by decide +kernel
theorem dX1_becomeLike_172 : decode cX1_becomeLike 172 = .ok (.aload_n 0, 1) := by decide +kernel
theorem dX1_becomeLike_173 : decode cX1_becomeLike 173 = .ok (.aload_n 1, 1) := by decide +kernel
theorem dX1_becomeLike_174 : decode cX1_becomeLike 174 = .ok (.getfield 83, 3) := by decide +kernel
theorem dX1_becomeLike_177 : decode cX1_becomeLike 177 = .ok (.putfield 83, 3) := by decide +kernel
theorem dX1_becomeLike_180 : decode cX1_becomeLike 180 = .ok (.aload_n 0, 1) := by decide +kernel
theorem dX1_becomeLike_181 : decode cX1_becomeLike 181 = .ok (.aload_n 1, 1) := by decide +kernel
theorem dX1_becomeLike_182 : decode cX1_becomeLike 182 = .ok (.getfield 52, 3) := by decide +kernel
theorem dX1_becomeLike_185 : decode cX1_becomeLike 185 = .ok (.putfield 52, 3) := by decide +kernel
theorem dX1_becomeLike_188 : decode cX1_becomeLike 188 = .ok (.aload_n 0, 1) := by decide +kernel
theorem dX1_becomeLike_189 : decode cX1_becomeLike 189 = .ok (.aload_n 1, 1) := by decide +kernel
theorem dX1_becomeLike_190 : decode cX1_becomeLike 190 = .ok (.getfield 56, 3) := by decide +kernel
theorem dX1_becomeLike_193 : decode cX1_becomeLike 193 = .ok (.putfield 56, 3) := by decide +kernel
theorem dX1_becomeLike_196 : decode cX1_becomeLike 196 = .ok (.aload_n 0, 1) := by decide +kernel
theorem dX1_becomeLike_197 : decode cX1_becomeLike 197 = .ok (.aload_n 1, 1) := by decide +kernel
theorem dX1_becomeLike_198 : decode cX1_becomeLike 198 = .ok (.getfield 61, 3) := by decide +kernel
theorem dX1_becomeLike_201 : decode cX1_becomeLike 201 = .ok (.putfield 61, 3) := by decide +kernel
theorem dX1_becomeLike_204 : decode cX1_becomeLike 204 = .ok (.aload_n 0, 1) := by decide +kernel
theorem dX1_becomeLike_205 : decode cX1_becomeLike 205 = .ok (.aload_n 1, 1) := by decide +kernel
theorem dX1_becomeLike_206 : decode cX1_becomeLike 206 = .ok (.getfield 87, 3) := by decide +kernel
theorem dX1_becomeLike_209 : decode cX1_becomeLike 209 = .ok (.putfield 87, 3) := by decide +kernel
theorem dX1_becomeLike_212 : decode cX1_becomeLike 212 = .ok (.aload_n 0, 1) := by decide +kernel
theorem dX1_becomeLike_213 : decode cX1_becomeLike 213 = .ok (.aload_n 1, 1) := by decide +kernel
theorem dX1_becomeLike_214 : decode cX1_becomeLike 214 = .ok (.getfield 64, 3) := by decide +kernel
theorem dX1_becomeLike_217 : decode cX1_becomeLike 217 = .ok (.putfield 64, 3) := by decide +kernel
theorem dX1_becomeLike_220 : decode cX1_becomeLike 220 = .ok (.return_, 1) := by decide +kernel
theorem dX1_isThere_0 : decode cX1_isThere 0 = .ok (.aload_n 0, 1) := by decide +kernel
theorem dX1_isThere_1 : decode cX1_isThere 1 = .ok (.getfield 24, 3) := by decide +kernel
theorem dX1_isThere_4 : decode cX1_isThere 4 = .ok (.iload_n 1, 1) := by decide +kernel
theorem dX1_isThere_5 : decode cX1_isThere 5 = .ok (.iaload, 1) := by decide +kernel
theorem dX1_isThere_6 : decode cX1_isThere 6 = .ok (.ifCond .le 7, 3) := by decide +kernel
theorem dX1_isThere_9 : decode cX1_isThere 9 = .ok (.iconst 1, 1) := by decide +kernel
theorem dX1_isThere_10 : decode cX1_isThere 10 = .ok (.goto 4, 3) := by decide +kernel
theorem dX1_isThere_13 : decode cX1_isThere 13 = .ok (.iconst 0, 1) := by decide +kernel
theorem dX1_isThere_14 : decode cX1_isThere 14 = .ok (.ireturn, 1) := by decide +kernel
theorem dX1_fieldOf_0 : decode cX1_fieldOf 0 = .ok (.aload_n 0, 1) := by decide +kernel
theorem dX1_fieldOf_1 : decode cX1_fieldOf 1 = .ok (.getfield 33, 3) := by decide +kernel
theorem dX1_fieldOf_4 : decode cX1_fieldOf 4 = .ok (.iconst 2, 1) := by decide +kernel
theorem dX1_fieldOf_5 : decode cX1_fieldOf 5 = .ok (.iload_n 1, 1) := by decide +kernel
theorem dX1_fieldOf_6 : decode cX1_fieldOf 6 = .ok (.imul, 1) := by decide +kernel
theorem dX1_fieldOf_7 : decode cX1_fieldOf 7 = .ok (.iload_n 2, 1) := by decide +kernel
theorem dX1_fieldOf_8 : decode cX1_fieldOf 8 = .ok (.iadd, 1) := by decide +kernel
theorem dX1_fieldOf_9 : decode cX1_fieldOf 9 = .ok (.iaload, 1) := by decide +kernel
theorem dX1_fieldOf_10 : decode cX1_fieldOf 10 = .ok (.ireturn, 1) := by decide +kernel
theorem dX1_ofRoot_0 : decode cX1_ofRoot 0 = .ok (.iload_n 1, 1) := by decide +kernel
theorem dX1_ofRoot_1 : decode cX1_ofRoot 1 = .ok (.ifCond .ge 8, 3) := by decide +kernel
theorem dX1_ofRoot_4 : decode cX1_ofRoot 4 = .ok (.bipush (-5), 2) := by decide +kernel
theorem dX1_ofRoot_6 : decode cX1_ofRoot 6 = .ok (.goto 9, 3) := by decide +kernel
theorem dX1_ofRoot_9 : decode cX1_ofRoot 9 = .ok (.aload_n 0, 1) := by decide +kernel
theorem dX1_ofRoot_10 : decode cX1_ofRoot 10 = .ok (.getfield 39, 3) := by decide +kernel
theorem dX1_ofRoot_13 : decode cX1_ofRoot 13 = .ok (.iload_n 1, 1) := by decide +kernel
theorem dX1_ofRoot_14 : decode cX1_ofRoot 14 = .ok (.iaload, 1) := by decide +kernel
theorem dX1_ofRoot_15 : decode cX1_ofRoot 15 = .ok (.ireturn, 1) := by decide +kernel
set_option maxRecDepth 20000 in
theorem ggX1_thingCount_X1_isThere : GoodIn wsX1_thingCount wsX1_isThere := goodIn_r _ [5, 6, 7, 8, 9, 10, 11, 12, 13, 14, 15, 16, 17, 18, 19, 20, 21, 22, 23, 24] (by decide +kernel) (by decide +kernel)
set_option maxRecDepth 20000 in
theorem gX1_thingCount_X1_isThere : GoodIn wsX1_thingCount (wsV RX1 90 RX1 yX1_isThere wsX1_isThere) := goodIn_app (goodIn_of _ (by decide +kernel)) ggX1_thingCount_X1_isThere
theorem dX1_thingCount_0 : decode cX1_thingCount 0 = .ok (.iconst 0, 1) := by decide +kernel
theorem dX1_thingCount_1 : decode cX1_thingCount 1 = .ok (.istore_n 1, 1) := by decide +kernel
theorem dX1_thingCount_2 : decode cX1_thingCount 2 = .ok (.iconst 0, 1) := by decide +kernel
theorem dX1_thingCount_3 : decode cX1_thingCount 3 = .ok (.istore_n 2, 1) := by decide +kernel
theorem dX1_thingCount_4 : decode cX1_thingCount 4 = .ok (.iload_n 2, 1) := by decide +kernel
theorem dX1_thingCount_5 : decode cX1_thingCount 5 = .ok (.bipush 32, 2) := by decide +kernel
theorem dX1_thingCount_7 : decode cX1_thingCount 7 = .ok (.if_icmp .ge 20, 3) := by decide +kernel
theorem dX1_thingCount_10 : decode cX1_thingCount 10 = .ok (.aload_n 0, 1) := by decide +kernel
theorem dX1_thingCount_11 : decode cX1_thingCount 11 = .ok (.iload_n 2, 1) := by decide +kernel
theorem dX1_thingCount_12 : decode cX1_thingCount 12 = .ok (.invokevirtual 90, 3) := by decide +kernel
theorem dX1_thingCount_15 : decode cX1_thingCount 15 = .ok (.ifCond .eq 6, 3) := by decide +kernel
theorem dX1_thingCount_18 : decode cX1_thingCount 18 = .ok (.iinc 1 1, 3) := by decide +kernel
theorem dX1_thingCount_21 : decode cX1_thingCount 21 = .ok (.iinc 2 1, 3) := by decide +kernel
theorem dX1_thingCount_24 : decode cX1_thingCount 24 = .ok (.goto (-20), 3) := by decide +kernel
theorem dX1_thingCount_27 : decode cX1_thingCount 27 = .ok (.iload_n 1, 1) := by decide +kernel
theorem dX1_thingCount_28 : decode cX1_thingCount 28 = .ok (.ireturn, 1) := by decide +kernel
set_option maxRecDepth 20000 in
theorem ggX1_thingsIn_X1_isIn : GoodIn wsX1_thingsIn wsX1_isIn := goodIn_r _ [5, 6, 7, 8, 9, 4, 10, 11, 12, 13, 14, 15, 16, 17, 18, 19, 20, 21, 22, 23, 24, 25, 26, 27, 28, 29] (by decide +kernel) (by decide +kernel)
set_option maxRecDepth 20000 in
theorem gX1_thingsIn_X1_isIn : GoodIn wsX1_thingsIn (wsV RX1 94 RX1 yX1_isIn wsX1_isIn) := goodIn_app (goodIn_of _ (by decide +kernel)) ggX1_thingsIn_X1_isIn
theorem dX1_thingsIn_0 : decode cX1_thingsIn 0 = .ok (.iconst 0, 1) := by decide +kernel
theorem dX1_thingsIn_1 : decode cX1_thingsIn 1 = .ok (.istore_n 2, 1) := by decide +kernel
theorem dX1_thingsIn_2 : decode cX1_thingsIn 2 = .ok (.iconst 0, 1) := by decide +kernel
theorem dX1_thingsIn_3 : decode cX1_thingsIn 3 = .ok (.istore_n 3, 1) := by decide +kernel
theorem dX1_thingsIn_4 : decode cX1_thingsIn 4 = .ok (.iload_n 3, 1) := by decide +kernel
theorem dX1_thingsIn_5 : decode cX1_thingsIn 5 = .ok (.bipush 32, 2) := by decide +kernel
theorem dX1_thingsIn_7 : decode cX1_thingsIn 7 = .ok (.if_icmp .ge 21, 3) := by decide +kernel
theorem dX1_thingsIn_10 : decode cX1_thingsIn 10 = .ok (.aload_n 0, 1) := by decide +kernel
theorem dX1_thingsIn_11 : decode cX1_thingsIn 11 = .ok (.iload_n 3, 1) := by decide +kernel
theorem dX1_thingsIn_12 : decode cX1_thingsIn 12 = .ok (.iload_n 1, 1) := by decide +kernel
theorem dX1_thingsIn_13 : decode cX1_thingsIn 13 = .ok (.invokevirtual 94, 3) := by decide +kernel
theorem dX1_thingsIn_16 : decode cX1_thingsIn 16 = .ok (.ifCond .eq 6, 3) := by decide +kernel
theorem dX1_thingsIn_19 : decode cX1_thingsIn 19 = .ok (.iinc 2 1, 3) := by decide +kernel
theorem dX1_thingsIn_22 : decode cX1_thingsIn 22 = .ok (.iinc 3 1, 3) := by decide +kernel
theorem dX1_thingsIn_25 : decode cX1_thingsIn 25 = .ok (.goto (-21), 3) := by decide +kernel
theorem dX1_thingsIn_28 : decode cX1_thingsIn 28 = .ok (.iload_n 2, 1) := by decide +kernel
theorem dX1_thingsIn_29 : decode cX1_thingsIn 29 = .ok (.ireturn, 1) := by decide +kernel
set_option maxRecDepth 20000 in
theorem ggX1_isIn_X1_isThere : GoodIn wsX1_isIn wsX1_isThere := goodIn_r _ [6, 7, 8, 9, 10, 11, 12, 13, 14, 15, 16, 17, 18, 19, 20, 21, 22, 23, 24, 25] (by decide +kernel) (by decide +kernel)
set_option maxRecDepth 20000 in
theorem gX1_isIn_X1_isThere : GoodIn wsX1_isIn (wsV RX1 90 RX1 yX1_isThere wsX1_isThere) := goodIn_app (goodIn_of _ (by decide +kernel)) ggX1_isIn_X1_isThere
theorem dX1_isIn_0 : decode cX1_isIn 0 = .ok (.aload_n 0, 1) := by decide +kernel
theorem dX1_isIn_1 : decode cX1_isIn 1 = .ok (.iload_n 1, 1) := by decide +kernel
theorem dX1_isIn_2 : decode cX1_isIn 2 = .ok (.invokevirtual 90, 3) := by decide +kernel
theorem dX1_isIn_5 : decode cX1_isIn 5 = .ok (.ifCond .eq 17, 3) := by decide +kernel
theorem dX1_isIn_8 : decode cX1_isIn 8 = .ok (.aload_n 0, 1) := by decide +kernel
theorem dX1_isIn_9 : decode cX1_isIn 9 = .ok (.getfield 27, 3) := by decide +kernel
theorem dX1_isIn_12 : decode cX1_isIn 12 = .ok (.iload_n 1, 1) := by decide +kernel
theorem dX1_isIn_13 : decode cX1_isIn 13 = .ok (.iaload, 1) := by decide +kernel
theorem dX1_isIn_14 : decode cX1_isIn 14 = .ok (.iload_n 2, 1) := by decide +kernel
theorem dX1_isIn_15 : decode cX1_isIn 15 = .ok (.if_icmp .ne 7, 3) := by decide +kernel
theorem dX1_isIn_18 : decode cX1_isIn 18 = .ok (.iconst 1, 1) := by decide +kernel
theorem dX1_isIn_19 : decode cX1_isIn 19 = .ok (.goto 4, 3) := by decide +kernel
theorem dX1_isIn_22 : decode cX1_isIn 22 = .ok (.iconst 0, 1) := by decide +kernel
theorem dX1_isIn_23 : decode cX1_isIn 23 = .ok (.ireturn, 1) := by decide +kernel
theorem dX1_regionsOfKind_0 : decode cX1_regionsOfKind 0 = .ok (.iconst 0, 1) := by decide +kernel
theorem dX1_regionsOfKind_1 : decode cX1_regionsOfKind 1 = .ok (.istore_n 2, 1) := by decide +kernel
theorem dX1_regionsOfKind_2 : decode cX1_regionsOfKind 2 = .ok (.iconst 0, 1) := by decide +kernel
theorem dX1_regionsOfKind_3 : decode cX1_regionsOfKind 3 = .ok (.istore_n 3, 1) := by decide +kernel
theorem dX1_regionsOfKind_4 : decode cX1_regionsOfKind 4 = .ok (.iload_n 3, 1) := by decide +kernel
theorem dX1_regionsOfKind_5 : decode cX1_regionsOfKind 5 = .ok (.bipush 10, 2) := by decide +kernel
theorem dX1_regionsOfKind_7 : decode cX1_regionsOfKind 7 = .ok (.if_icmp .ge 22, 3) := by decide +kernel
theorem dX1_regionsOfKind_10 : decode cX1_regionsOfKind 10 = .ok (.aload_n 0, 1) := by decide +kernel
theorem dX1_regionsOfKind_11 : decode cX1_regionsOfKind 11 = .ok (.getfield 9, 3) := by decide +kernel
theorem dX1_regionsOfKind_14 : decode cX1_regionsOfKind 14 = .ok (.iload_n 3, 1) := by decide +kernel
theorem dX1_regionsOfKind_15 : decode cX1_regionsOfKind 15 = .ok (.iaload, 1) := by decide +kernel
theorem dX1_regionsOfKind_16 : decode cX1_regionsOfKind 16 = .ok (.iload_n 1, 1) := by decide +kernel
theorem dX1_regionsOfKind_17 : decode cX1_regionsOfKind 17 = .ok (.if_icmp .ne 6, 3) := by decide +kernel
theorem dX1_regionsOfKind_20 : decode cX1_regionsOfKind 20 = .ok (.iinc 2 1, 3) := by decide +kernel
theorem dX1_regionsOfKind_23 : decode cX1_regionsOfKind 23 = .ok (.iinc 3 1, 3) := by decide +kernel
theorem dX1_regionsOfKind_26 : decode cX1_regionsOfKind 26 = .ok (.goto (-22), 3) := by decide +kernel
theorem dX1_regionsOfKind_29 : decode cX1_regionsOfKind 29 = .ok (.iload_n 2, 1) := by decide +kernel
theorem dX1_regionsOfKind_30 : decode cX1_regionsOfKind 30 = .ok (.ireturn, 1) := by decide +kernel
set_option maxRecDepth 20000 in
theorem ggX1_unusedNumber_X1_isThere : GoodIn wsX1_unusedNumber wsX1_isThere := goodIn_r _ [5, 6, 7, 8, 9, 10, 11, 12, 13, 14, 15, 16, 17, 18, 19, 20, 21, 22, 23, 24] (by decide +kernel) (by decide +kernel)
set_option maxRecDepth 20000 in
theorem gX1_unusedNumber_X1_isThere : GoodIn wsX1_unusedNumber (wsV RX1 90 RX1 yX1_isThere wsX1_isThere) := goodIn_app (goodIn_of _ (by decide +kernel)) ggX1_unusedNumber_X1_isThere
theorem dX1_unusedNumber_0 : decode cX1_unusedNumber 0 = .ok (.iconst 0, 1) := by decide +kernel
theorem dX1_unusedNumber_1 : decode cX1_unusedNumber 1 = .ok (.istore_n 1, 1) := by decide +kernel
theorem dX1_unusedNumber_2 : decode cX1_unusedNumber 2 = .ok (.iload_n 1, 1) := by decide +kernel
theorem dX1_unusedNumber_3 : decode cX1_unusedNumber 3 = .ok (.bipush 32, 2) := by decide +kernel
theorem dX1_unusedNumber_5 : decode cX1_unusedNumber 5 = .ok (.if_icmp .ge 19, 3) := by decide +kernel
theorem dX1_unusedNumber_8 : decode cX1_unusedNumber 8 = .ok (.aload_n 0, 1) := by decide +kernel
theorem dX1_unusedNumber_9 : decode cX1_unusedNumber 9 = .ok (.iload_n 1, 1) := by decide +kernel
theorem dX1_unusedNumber_10 : decode cX1_unusedNumber 10 = .ok (.invokevirtual 90, 3) := by decide +kernel
theorem dX1_unusedNumber_13 : decode cX1_unusedNumber 13 = .ok (.ifCond .ne 5, 3) := by decide +kernel
theorem dX1_unusedNumber_16 : decode cX1_unusedNumber 16 = .ok (.iload_n 1, 1) := by decide +kernel
theorem dX1_unusedNumber_17 : decode cX1_unusedNumber 17 = .ok (.ireturn, 1) := by decide +kernel
theorem dX1_unusedNumber_18 : decode cX1_unusedNumber 18 = .ok (.iinc 1 1, 3) := by decide +kernel
theorem dX1_unusedNumber_21 : decode cX1_unusedNumber 21 = .ok (.goto (-19), 3) := by decide +kernel
theorem dX1_unusedNumber_24 : decode cX1_unusedNumber 24 = .ok (.bipush (-9), 2) := by decide +kernel
theorem dX1_unusedNumber_26 : decode cX1_unusedNumber 26 = .ok (.ireturn, 1) := by decide +kernel
set_option maxRecDepth 20000 in
theorem ggX1_roomFor_X1_regionsFor : GoodIn wsX1_roomFor wsX1_regionsFor := goodIn_r _ [6] (by decide +kernel) (by decide +kernel)
set_option maxRecDepth 20000 in
theorem gX1_roomFor_X1_regionsFor : GoodIn wsX1_roomFor (wsV RX1 98 RX1 yX1_regionsFor wsX1_regionsFor) := goodIn_app (goodIn_of _ (by decide +kernel)) ggX1_roomFor_X1_regionsFor
set_option maxRecDepth 20000 in
theorem ggX1_roomFor_X1_freeRow : GoodIn wsX1_roomFor wsX1_freeRow := goodIn_r _ [10, 11, 17, 18, 19, 20, 21, 22, 23, 24, 25, 26, 27, 28, 29, 30, 31, 32, 33, 34] (by decide +kernel) (by decide +kernel)
set_option maxRecDepth 20000 in
theorem gX1_roomFor_X1_freeRow : GoodIn wsX1_roomFor (wsV RX1 102 RX1 yX1_freeRow wsX1_freeRow) := goodIn_app (goodIn_of _ (by decide +kernel)) ggX1_roomFor_X1_freeRow
set_option maxRecDepth 20000 in
theorem ggX1_roomFor_X1_hasRoom : GoodIn wsX1_roomFor wsX1_hasRoom := goodIn_r _ [15, 16, 17, 18, 19, 20, 21, 22, 23, 24, 25, 26, 27, 28, 29, 30, 31, 32, 33, 34] (by decide +kernel) (by decide +kernel)
set_option maxRecDepth 20000 in
theorem gX1_roomFor_X1_hasRoom : GoodIn wsX1_roomFor (wsV RX1 105 RX1 yX1_hasRoom wsX1_hasRoom) := goodIn_app (goodIn_of _ (by decide +kernel)) ggX1_roomFor_X1_hasRoom
theorem dX1_roomFor_0 : decode cX1_roomFor 0 = .ok (.iload_n 1, 1) := by decide +kernel
theorem dX1_roomFor_1 : decode cX1_roomFor 1 = .ok (.iconst 4, 1) := by decide +kernel
theorem dX1_roomFor_2 : decode cX1_roomFor 2 = .ok (.if_icmp .le 13, 3) := by decide +kernel
theorem dX1_roomFor_5 : decode cX1_roomFor 5 = .ok (.aload_n 0, 1) := by decide +kernel
theorem dX1_roomFor_6 : decode cX1_roomFor 6 = .ok (.aload_n 0, 1) := by decide +kernel
theorem dX1_roomFor_7 : decode cX1_roomFor 7 = .ok (.iload_n 1, 1) := by decide +kernel
theorem dX1_roomFor_8 : decode cX1_roomFor 8 = .ok (.invokevirtual 98, 3) := by decide +kernel
theorem dX1_roomFor_11 : decode cX1_roomFor 11 = .ok (.invokevirtual 102, 3) := by decide +kernel
theorem dX1_roomFor_14 : decode cX1_roomFor 14 = .ok (.ireturn, 1) := by decide +kernel
theorem dX1_roomFor_15 : decode cX1_roomFor 15 = .ok (.aload_n 0, 1) := by decide +kernel
theorem dX1_roomFor_16 : decode cX1_roomFor 16 = .ok (.aload_n 0, 1) := by decide +kernel
theorem dX1_roomFor_17 : decode cX1_roomFor 17 = .ok (.getfield 52, 3) := by decide +kernel
theorem dX1_roomFor_20 : decode cX1_roomFor 20 = .ok (.iload_n 1, 1) := by decide +kernel
theorem dX1_roomFor_21 : decode cX1_roomFor 21 = .ok (.invokevirtual 105, 3) := by decide +kernel
theorem dX1_roomFor_24 : decode cX1_roomFor 24 = .ok (.ifCond .eq 10, 3) := by decide +kernel
theorem dX1_roomFor_27 : decode cX1_roomFor 27 = .ok (.aload_n 0, 1) := by decide +kernel
theorem dX1_roomFor_28 : decode cX1_roomFor 28 = .ok (.getfield 52, 3) := by decide +kernel
theorem dX1_roomFor_31 : decode cX1_roomFor 31 = .ok (.goto 8, 3) := by decide +kernel
theorem dX1_roomFor_34 : decode cX1_roomFor 34 = .ok (.aload_n 0, 1) := by decide +kernel
theorem dX1_roomFor_35 : decode cX1_roomFor 35 = .ok (.iconst 1, 1) := by decide +kernel
theorem dX1_roomFor_36 : decode cX1_roomFor 36 = .ok (.invokevirtual 102, 3) := by decide +kernel
theorem dX1_roomFor_39 : decode cX1_roomFor 39 = .ok (.ireturn, 1) := by decide +kernel
theorem dX1_hasRoom_0 : decode cX1_hasRoom 0 = .ok (.iload_n 1, 1) := by decide +kernel
theorem dX1_hasRoom_1 : decode cX1_hasRoom 1 = .ok (.bipush (-9), 2) := by decide +kernel
theorem dX1_hasRoom_3 : decode cX1_hasRoom 3 = .ok (.if_icmp .eq 20, 3) := by decide +kernel
theorem dX1_hasRoom_6 : decode cX1_hasRoom 6 = .ok (.aload_n 0, 1) := by decide +kernel
theorem dX1_hasRoom_7 : decode cX1_hasRoom 7 = .ok (.getfield 15, 3) := by decide +kernel
theorem dX1_hasRoom_10 : decode cX1_hasRoom 10 = .ok (.iload_n 1, 1) := by decide +kernel
theorem dX1_hasRoom_11 : decode cX1_hasRoom 11 = .ok (.iaload, 1) := by decide +kernel
theorem dX1_hasRoom_12 : decode cX1_hasRoom 12 = .ok (.iload_n 2, 1) := by decide +kernel
theorem dX1_hasRoom_13 : decode cX1_hasRoom 13 = .ok (.iadd, 1) := by decide +kernel
theorem dX1_hasRoom_14 : decode cX1_hasRoom 14 = .ok (.bipush 8, 2) := by decide +kernel
theorem dX1_hasRoom_16 : decode cX1_hasRoom 16 = .ok (.if_icmp .gt 7, 3) := by decide +kernel
theorem dX1_hasRoom_19 : decode cX1_hasRoom 19 = .ok (.iconst 1, 1) := by decide +kernel
theorem dX1_hasRoom_20 : decode cX1_hasRoom 20 = .ok (.goto 4, 3) := by decide +kernel
theorem dX1_hasRoom_23 : decode cX1_hasRoom 23 = .ok (.iconst 0, 1) := by decide +kernel
theorem dX1_hasRoom_24 : decode cX1_hasRoom 24 = .ok (.ireturn, 1) := by decide +kernel
theorem dX1_regionsFor_0 : decode cX1_regionsFor 0 = .ok (.iload_n 1, 1) := by decide +kernel
theorem dX1_regionsFor_1 : decode cX1_regionsFor 1 = .ok (.bipush 8, 2) := by decide +kernel
theorem dX1_regionsFor_3 : decode cX1_regionsFor 3 = .ok (.iadd, 1) := by decide +kernel
theorem dX1_regionsFor_4 : decode cX1_regionsFor 4 = .ok (.iconst 1, 1) := by decide +kernel
theorem dX1_regionsFor_5 : decode cX1_regionsFor 5 = .ok (.isub, 1) := by decide +kernel
theorem dX1_regionsFor_6 : decode cX1_regionsFor 6 = .ok (.bipush 8, 2) := by decide +kernel
theorem dX1_regionsFor_8 : decode cX1_regionsFor 8 = .ok (.idiv, 1) := by decide +kernel
theorem dX1_regionsFor_9 : decode cX1_regionsFor 9 = .ok (.ireturn, 1) := by decide +kernel
theorem dX1_freeRow_0 : decode cX1_freeRow 0 = .ok (.iconst 0, 1) := by decide +kernel
theorem dX1_freeRow_1 : decode cX1_freeRow 1 = .ok (.istore_n 2, 1) := by decide +kernel
theorem dX1_freeRow_2 : decode cX1_freeRow 2 = .ok (.iconst 0, 1) := by decide +kernel
theorem dX1_freeRow_3 : decode cX1_freeRow 3 = .ok (.istore_n 3, 1) := by decide +kernel
theorem dX1_freeRow_4 : decode cX1_freeRow 4 = .ok (.iload_n 3, 1) := by decide +kernel
theorem dX1_freeRow_5 : decode cX1_freeRow 5 = .ok (.bipush 10, 2) := by decide +kernel
theorem dX1_freeRow_7 : decode cX1_freeRow 7 = .ok (.if_icmp .ge 37, 3) := by decide +kernel
theorem dX1_freeRow_10 : decode cX1_freeRow 10 = .ok (.aload_n 0, 1) := by decide +kernel
theorem dX1_freeRow_11 : decode cX1_freeRow 11 = .ok (.getfield 9, 3) := by decide +kernel
theorem dX1_freeRow_14 : decode cX1_freeRow 14 = .ok (.iload_n 3, 1) := by decide +kernel
theorem dX1_freeRow_15 : decode cX1_freeRow 15 = .ok (.iaload, 1) := by decide +kernel
theorem dX1_freeRow_16 : decode cX1_freeRow 16 = .ok (.ifCond .ne 9, 3) := by decide +kernel
theorem dX1_freeRow_19 : decode cX1_freeRow 19 = .ok (.iload_n 2, 1) := by decide +kernel
theorem dX1_freeRow_20 : decode cX1_freeRow 20 = .ok (.iconst 1, 1) := by decide +kernel
theorem dX1_freeRow_21 : decode cX1_freeRow 21 = .ok (.iadd, 1) := by decide +kernel
theorem dX1_freeRow_22 : decode cX1_freeRow 22 = .ok (.goto 4, 3) := by decide +kernel
theorem dX1_freeRow_25 : decode cX1_freeRow 25 = .ok (.iconst 0, 1) := by decide +kernel
theorem dX1_freeRow_26 : decode cX1_freeRow 26 = .ok (.istore_n 2, 1) := by decide +kernel
theorem dX1_freeRow_27 : decode cX1_freeRow 27 = .ok (.iload_n 2, 1) := by decide +kernel
theorem dX1_freeRow_28 : decode cX1_freeRow 28 = .ok (.iload_n 1, 1) := by decide +kernel
theorem dX1_freeRow_29 : decode cX1_freeRow 29 = .ok (.if_icmp .ne 9, 3) := by decide +kernel
theorem dX1_freeRow_32 : decode cX1_freeRow 32 = .ok (.iload_n 3, 1) := by decide +kernel
theorem dX1_freeRow_33 : decode cX1_freeRow 33 = .ok (.iload_n 1, 1) := by decide +kernel
theorem dX1_freeRow_34 : decode cX1_freeRow 34 = .ok (.isub, 1) := by decide +kernel
theorem dX1_freeRow_35 : decode cX1_freeRow 35 = .ok (.iconst 1, 1) := by decide +kernel
theorem dX1_freeRow_36 : decode cX1_freeRow 36 = .ok (.iadd, 1) := by decide +kernel
theorem dX1_freeRow_37 : decode cX1_freeRow 37 = .ok (.ireturn, 1) := by decide +kernel
theorem dX1_freeRow_38 : decode cX1_freeRow 38 = .ok (.iinc 3 1, 3) := by decide +kernel
theorem dX1_freeRow_41 : decode cX1_freeRow 41 = .ok (.goto (-37), 3) := by decide +kernel
theorem dX1_freeRow_44 : decode cX1_freeRow 44 = .ok (.bipush (-9), 2) := by decide +kernel
theorem dX1_freeRow_46 : decode cX1_freeRow 46 = .ok (.ireturn, 1) := by decide +kernel
set_option maxRecDepth 20000 in
theorem ggX1_makeThing_X1_regionsFor : GoodIn wsX1_makeThing wsX1_regionsFor := goodIn_r _ [12] (by decide +kernel) (by decide +kernel)
set_option maxRecDepth 20000 in
theorem gX1_makeThing_X1_regionsFor : GoodIn wsX1_makeThing (wsV RX1 98 RX1 yX1_regionsFor wsX1_regionsFor) := goodIn_app (goodIn_of _ (by decide +kernel)) ggX1_makeThing_X1_regionsFor
set_option maxRecDepth 20000 in
theorem ggX1_makeThing_X1_takeRegions : GoodIn wsX1_makeThing wsX1_takeRegions := goodIn_r _ [16, 6, 17, 22, 23, 24, 25, 26, 27, 28, 29, 30, 31, 32, 33, 34, 35, 36, 37, 38, 39] (by decide +kernel) (by decide +kernel)
set_option maxRecDepth 20000 in
theorem gX1_makeThing_X1_takeRegions : GoodIn wsX1_makeThing (wsV RX1 108 RX1 yX1_takeRegions wsX1_takeRegions) := goodIn_app (goodIn_of _ (by decide +kernel)) ggX1_makeThing_X1_takeRegions
set_option maxRecDepth 20000 in
theorem ggX1_makeThing_X1_layAtTop : GoodIn wsX1_makeThing wsX1_layAtTop := goodIn_r _ [21, 4, 5, 17, 1, 22, 23, 24, 25, 26, 27, 28, 29, 30, 31, 32, 33, 34, 35, 36, 37, 38, 39] (by decide +kernel) (by decide +kernel)
set_option maxRecDepth 20000 in
theorem gX1_makeThing_X1_layAtTop : GoodIn wsX1_makeThing (wsV RX1 112 RX1 yX1_layAtTop wsX1_layAtTop) := goodIn_app (goodIn_of _ (by decide +kernel)) ggX1_makeThing_X1_layAtTop
theorem dX1_makeThing_0 : decode cX1_makeThing 0 = .ok (.aload_n 0, 1) := by decide +kernel
theorem dX1_makeThing_1 : decode cX1_makeThing 1 = .ok (.getfield 24, 3) := by decide +kernel
theorem dX1_makeThing_4 : decode cX1_makeThing 4 = .ok (.iload_n 1, 1) := by decide +kernel
theorem dX1_makeThing_5 : decode cX1_makeThing 5 = .ok (.iload_n 2, 1) := by decide +kernel
theorem dX1_makeThing_6 : decode cX1_makeThing 6 = .ok (.iastore, 1) := by decide +kernel
theorem dX1_makeThing_7 : decode cX1_makeThing 7 = .ok (.aload_n 0, 1) := by decide +kernel
theorem dX1_makeThing_8 : decode cX1_makeThing 8 = .ok (.getfield 33, 3) := by decide +kernel
theorem dX1_makeThing_11 : decode cX1_makeThing 11 = .ok (.iconst 2, 1) := by decide +kernel
theorem dX1_makeThing_12 : decode cX1_makeThing 12 = .ok (.iload_n 1, 1) := by decide +kernel
theorem dX1_makeThing_13 : decode cX1_makeThing 13 = .ok (.imul, 1) := by decide +kernel
theorem dX1_makeThing_14 : decode cX1_makeThing 14 = .ok (.bipush (-5), 2) := by decide +kernel
theorem dX1_makeThing_16 : decode cX1_makeThing 16 = .ok (.iastore, 1) := by decide +kernel
theorem dX1_makeThing_17 : decode cX1_makeThing 17 = .ok (.aload_n 0, 1) := by decide +kernel
theorem dX1_makeThing_18 : decode cX1_makeThing 18 = .ok (.getfield 33, 3) := by decide +kernel
theorem dX1_makeThing_21 : decode cX1_makeThing 21 = .ok (.iconst 2, 1) := by decide +kernel
theorem dX1_makeThing_22 : decode cX1_makeThing 22 = .ok (.iload_n 1, 1) := by decide +kernel
theorem dX1_makeThing_23 : decode cX1_makeThing 23 = .ok (.imul, 1) := by decide +kernel
theorem dX1_makeThing_24 : decode cX1_makeThing 24 = .ok (.iconst 1, 1) := by decide +kernel
theorem dX1_makeThing_25 : decode cX1_makeThing 25 = .ok (.iadd, 1) := by decide +kernel
theorem dX1_makeThing_26 : decode cX1_makeThing 26 = .ok (.bipush (-5), 2) := by decide +kernel
theorem dX1_makeThing_28 : decode cX1_makeThing 28 = .ok (.iastore, 1) := by decide +kernel
theorem dX1_makeThing_29 : decode cX1_makeThing 29 = .ok (.aload_n 0, 1) := by decide +kernel
theorem dX1_makeThing_30 : decode cX1_makeThing 30 = .ok (.getfield 36, 3) := by decide +kernel
theorem dX1_makeThing_33 : decode cX1_makeThing 33 = .ok (.iload_n 1, 1) := by decide +kernel
theorem dX1_makeThing_34 : decode cX1_makeThing 34 = .ok (.iconst 2, 1) := by decide +kernel
theorem dX1_makeThing_35 : decode cX1_makeThing 35 = .ok (.iastore, 1) := by decide +kernel
theorem dX1_makeThing_36 : decode cX1_makeThing 36 = .ok (.iload_n 2, 1) := by decide +kernel
theorem dX1_makeThing_37 : decode cX1_makeThing 37 = .ok (.iconst 4, 1) := by decide +kernel
theorem dX1_makeThing_38 : decode cX1_makeThing 38 = .ok (.if_icmp .le 28, 3) := by decide +kernel
theorem dX1_makeThing_41 : decode cX1_makeThing 41 = .ok (.aload_n 0, 1) := by decide +kernel
theorem dX1_makeThing_42 : decode cX1_makeThing 42 = .ok (.iload_n 3, 1) := by decide +kernel
theorem dX1_makeThing_43 : decode cX1_makeThing 43 = .ok (.aload_n 0, 1) := by decide +kernel
theorem dX1_makeThing_44 : decode cX1_makeThing 44 = .ok (.iload_n 2, 1) := by decide +kernel
theorem dX1_makeThing_45 : decode cX1_makeThing 45 = .ok (.invokevirtual 98, 3) := by decide +kernel
theorem dX1_makeThing_48 : decode cX1_makeThing 48 = .ok (.invokevirtual 108, 3) := by decide +kernel
theorem dX1_makeThing_51 : decode cX1_makeThing 51 = .ok (.aload_n 0, 1) := by decide +kernel
theorem dX1_makeThing_52 : decode cX1_makeThing 52 = .ok (.getfield 27, 3) := by decide +kernel
theorem dX1_makeThing_55 : decode cX1_makeThing 55 = .ok (.iload_n 1, 1) := by decide +kernel
theorem dX1_makeThing_56 : decode cX1_makeThing 56 = .ok (.iload_n 3, 1) := by decide +kernel
theorem dX1_makeThing_57 : decode cX1_makeThing 57 = .ok (.iastore, 1) := by decide +kernel
theorem dX1_makeThing_58 : decode cX1_makeThing 58 = .ok (.aload_n 0, 1) := by decide +kernel
theorem dX1_makeThing_59 : decode cX1_makeThing 59 = .ok (.getfield 30, 3) := by decide +kernel
theorem dX1_makeThing_62 : decode cX1_makeThing 62 = .ok (.iload_n 1, 1) := by decide +kernel
theorem dX1_makeThing_63 : decode cX1_makeThing 63 = .ok (.iconst 0, 1) := by decide +kernel
theorem dX1_makeThing_64 : decode cX1_makeThing 64 = .ok (.iastore, 1) := by decide +kernel
theorem dX1_makeThing_65 : decode cX1_makeThing 65 = .ok (.return_, 1) := by decide +kernel
theorem dX1_makeThing_66 : decode cX1_makeThing 66 = .ok (.aload_n 0, 1) := by decide +kernel
theorem dX1_makeThing_67 : decode cX1_makeThing 67 = .ok (.getfield 9, 3) := by decide +kernel
theorem dX1_makeThing_70 : decode cX1_makeThing 70 = .ok (.iload_n 3, 1) := by decide +kernel
theorem dX1_makeThing_71 : decode cX1_makeThing 71 = .ok (.iconst 1, 1) := by decide +kernel
theorem dX1_makeThing_72 : decode cX1_makeThing 72 = .ok (.iastore, 1) := by decide +kernel
theorem dX1_makeThing_73 : decode cX1_makeThing 73 = .ok (.aload_n 0, 1) := by decide +kernel
theorem dX1_makeThing_74 : decode cX1_makeThing 74 = .ok (.iload_n 3, 1) := by decide +kernel
theorem dX1_makeThing_75 : decode cX1_makeThing 75 = .ok (.putfield 52, 3) := by decide +kernel
theorem dX1_makeThing_78 : decode cX1_makeThing 78 = .ok (.aload_n 0, 1) := by decide +kernel
theorem dX1_makeThing_79 : decode cX1_makeThing 79 = .ok (.iload_n 1, 1) := by decide +kernel
theorem dX1_makeThing_80 : decode cX1_makeThing 80 = .ok (.iload_n 3, 1) := by decide +kernel
theorem dX1_makeThing_81 : decode cX1_makeThing 81 = .ok (.invokevirtual 112, 3) := by decide +kernel
theorem dX1_makeThing_84 : decode cX1_makeThing 84 = .ok (.return_, 1) := by decide +kernel
theorem dX1_takeRegions_0 : decode cX1_takeRegions 0 = .ok (.iload_n 1, 1) := by decide +kernel
theorem dX1_takeRegions_1 : decode cX1_takeRegions 1 = .ok (.istore_n 3, 1) := by decide +kernel
theorem dX1_takeRegions_2 : decode cX1_takeRegions 2 = .ok (.iload_n 3, 1) := by decide +kernel
theorem dX1_takeRegions_3 : decode cX1_takeRegions 3 = .ok (.iload_n 1, 1) := by decide +kernel
theorem dX1_takeRegions_4 : decode cX1_takeRegions 4 = .ok (.iload_n 2, 1) := by decide +kernel
theorem dX1_takeRegions_5 : decode cX1_takeRegions 5 = .ok (.iadd, 1) := by decide +kernel
theorem dX1_takeRegions_6 : decode cX1_takeRegions 6 = .ok (.if_icmp .ge 39, 3) := by decide +kernel
theorem dX1_takeRegions_9 : decode cX1_takeRegions 9 = .ok (.iload_n 3, 1) := by decide +kernel
theorem dX1_takeRegions_10 : decode cX1_takeRegions 10 = .ok (.bipush 10, 2) := by decide +kernel
theorem dX1_takeRegions_12 : decode cX1_takeRegions 12 = .ok (.if_icmp .ge 33, 3) := by decide +kernel
theorem dX1_takeRegions_15 : decode cX1_takeRegions 15 = .ok (.aload_n 0, 1) := by decide +kernel
theorem dX1_takeRegions_16 : decode cX1_takeRegions 16 = .ok (.getfield 9, 3) := by decide +kernel
theorem dX1_takeRegions_19 : decode cX1_takeRegions 19 = .ok (.iload_n 3, 1) := by decide +kernel
theorem dX1_takeRegions_20 : decode cX1_takeRegions 20 = .ok (.iload_n 3, 1) := by decide +kernel
theorem dX1_takeRegions_21 : decode cX1_takeRegions 21 = .ok (.iload_n 1, 1) := by decide +kernel
theorem dX1_takeRegions_22 : decode cX1_takeRegions 22 = .ok (.if_icmp .ne 7, 3) := by decide +kernel
theorem dX1_takeRegions_25 : decode cX1_takeRegions 25 = .ok (.iconst 3, 1) := by decide +kernel
theorem dX1_takeRegions_26 : decode cX1_takeRegions 26 = .ok (.goto 4, 3) := by decide +kernel
theorem dX1_takeRegions_29 : decode cX1_takeRegions 29 = .ok (.iconst 4, 1) := by decide +kernel
theorem dX1_takeRegions_30 : decode cX1_takeRegions 30 = .ok (.iastore, 1) := by decide +kernel
theorem dX1_takeRegions_31 : decode cX1_takeRegions 31 = .ok (.aload_n 0, 1) := by decide +kernel
theorem dX1_takeRegions_32 : decode cX1_takeRegions 32 = .ok (.getfield 15, 3) := by decide +kernel
theorem dX1_takeRegions_35 : decode cX1_takeRegions 35 = .ok (.iload_n 3, 1) := by decide +kernel
theorem dX1_takeRegions_36 : decode cX1_takeRegions 36 = .ok (.bipush 8, 2) := by decide +kernel
theorem dX1_takeRegions_38 : decode cX1_takeRegions 38 = .ok (.iastore, 1) := by decide +kernel
theorem dX1_takeRegions_39 : decode cX1_takeRegions 39 = .ok (.iinc 3 1, 3) := by decide +kernel
theorem dX1_takeRegions_42 : decode cX1_takeRegions 42 = .ok (.goto (-40), 3) := by decide +kernel
theorem dX1_takeRegions_45 : decode cX1_takeRegions 45 = .ok (.return_, 1) := by decide +kernel
theorem dX1_layAtTop_0 : decode cX1_layAtTop 0 = .ok (.aload_n 0, 1) := by decide +kernel
theorem dX1_layAtTop_1 : decode cX1_layAtTop 1 = .ok (.getfield 27, 3) := by decide +kernel
theorem dX1_layAtTop_4 : decode cX1_layAtTop 4 = .ok (.iload_n 1, 1) := by decide +kernel
theorem dX1_layAtTop_5 : decode cX1_layAtTop 5 = .ok (.iload_n 2, 1) := by decide +kernel
theorem dX1_layAtTop_6 : decode cX1_layAtTop 6 = .ok (.iastore, 1) := by decide +kernel
theorem dX1_layAtTop_7 : decode cX1_layAtTop 7 = .ok (.aload_n 0, 1) := by decide +kernel
theorem dX1_layAtTop_8 : decode cX1_layAtTop 8 = .ok (.getfield 30, 3) := by decide +kernel
theorem dX1_layAtTop_11 : decode cX1_layAtTop 11 = .ok (.iload_n 1, 1) := by decide +kernel
theorem dX1_layAtTop_12 : decode cX1_layAtTop 12 = .ok (.aload_n 0, 1) := by decide +kernel
theorem dX1_layAtTop_13 : decode cX1_layAtTop 13 = .ok (.getfield 15, 3) := by decide +kernel
theorem dX1_layAtTop_16 : decode cX1_layAtTop 16 = .ok (.iload_n 2, 1) := by decide +kernel
theorem dX1_layAtTop_17 : decode cX1_layAtTop 17 = .ok (.iaload, 1) := by decide +kernel
theorem dX1_layAtTop_18 : decode cX1_layAtTop 18 = .ok (.iastore, 1) := by decide +kernel
theorem dX1_layAtTop_19 : decode cX1_layAtTop 19 = .ok (.aload_n 0, 1) := by decide +kernel
theorem dX1_layAtTop_20 : decode cX1_layAtTop 20 = .ok (.getfield 15, 3) := by decide +kernel
theorem dX1_layAtTop_23 : decode cX1_layAtTop 23 = .ok (.iload_n 2, 1) := by decide +kernel
theorem dX1_layAtTop_24 : decode cX1_layAtTop 24 = .ok (.dup2, 1) := by decide +kernel
theorem dX1_layAtTop_25 : decode cX1_layAtTop 25 = .ok (.iaload, 1) := by decide +kernel
theorem dX1_layAtTop_26 : decode cX1_layAtTop 26 = .ok (.aload_n 0, 1) := by decide +kernel
theorem dX1_layAtTop_27 : decode cX1_layAtTop 27 = .ok (.getfield 24, 3) := by decide +kernel
theorem dX1_layAtTop_30 : decode cX1_layAtTop 30 = .ok (.iload_n 1, 1) := by decide +kernel
theorem dX1_layAtTop_31 : decode cX1_layAtTop 31 = .ok (.iaload, 1) := by decide +kernel
theorem dX1_layAtTop_32 : decode cX1_layAtTop 32 = .ok (.iadd, 1) := by decide +kernel
theorem dX1_layAtTop_33 : decode cX1_layAtTop 33 = .ok (.iastore, 1) := by decide +kernel
theorem dX1_layAtTop_34 : decode cX1_layAtTop 34 = .ok (.return_, 1) := by decide +kernel
set_option maxRecDepth 20000 in
theorem ggX1_writeField_X1_fieldOf : GoodIn wsX1_writeField wsX1_fieldOf := goodIn_r _ [10, 2, 32, 33, 34, 35, 36, 37, 38, 39, 40, 41, 42, 43, 44, 45, 46, 47, 48, 49] (by decide +kernel) (by decide +kernel)
set_option maxRecDepth 20000 in
theorem gX1_writeField_X1_fieldOf : GoodIn wsX1_writeField (wsV RX1 115 RX1 yX1_fieldOf wsX1_fieldOf) := goodIn_app (goodIn_of _ (by decide +kernel)) ggX1_writeField_X1_fieldOf
set_option maxRecDepth 20000 in
theorem ggX1_writeField_X1_becomeGrey : GoodIn wsX1_writeField wsX1_becomeGrey := goodIn_r _ [14, 15, 16, 17, 18, 19, 20, 21, 22, 23, 32, 33, 34, 35, 36, 37, 38, 39, 40, 41, 42, 43, 44, 45, 46, 47, 48, 49, 50, 51] (by decide +kernel) (by decide +kernel)
set_option maxRecDepth 20000 in
theorem gX1_writeField_X1_becomeGrey : GoodIn wsX1_writeField (wsV RX1 119 RX1 yX1_becomeGrey wsX1_becomeGrey) := goodIn_app (goodIn_of _ (by decide +kernel)) ggX1_writeField_X1_becomeGrey
set_option maxRecDepth 20000 in
theorem ggX1_writeField_X1_cardOfThing : GoodIn wsX1_writeField wsX1_cardOfThing := goodIn_r _ [27, 3, 28, 29, 30, 31, 32, 33, 34, 35, 36, 37, 38, 39, 40, 41, 42, 43, 44, 45, 46, 47, 48, 49] (by decide +kernel) (by decide +kernel)
set_option maxRecDepth 20000 in
theorem gX1_writeField_X1_cardOfThing : GoodIn wsX1_writeField (wsV RX1 123 RX1 yX1_cardOfThing wsX1_cardOfThing) := goodIn_app (goodIn_of _ (by decide +kernel)) ggX1_writeField_X1_cardOfThing
set_option maxRecDepth 20000 in
theorem ggX1_writeField_X5_append : GoodIn wsX1_writeField wsX5_append := goodIn_r _ [21, 22, 23, 50, 51] (by decide +kernel) (by decide +kernel)
set_option maxRecDepth 20000 in
theorem gX1_writeField_X5_append : GoodIn wsX1_writeField (wsV RX1 126 RX5 yX5_append wsX5_append) := goodIn_app (goodIn_of _ (by decide +kernel)) ggX1_writeField_X5_append
theorem dX1_writeField_0 : decode cX1_writeField 0 = .ok (.aload_n 0, 1) := by decide +kernel
theorem dX1_writeField_1 : decode cX1_writeField 1 = .ok (.iload_n 1, 1) := by decide +kernel
theorem dX1_writeField_2 : decode cX1_writeField 2 = .ok (.iload_n 2, 1) := by decide +kernel
theorem dX1_writeField_3 : decode cX1_writeField 3 = .ok (.invokevirtual 115, 3) := by decide +kernel
theorem dX1_writeField_6 : decode cX1_writeField 6 = .ok (.istore 4, 2) := by decide +kernel
theorem dX1_writeField_8 : decode cX1_writeField 8 = .ok (.aload_n 0, 1) := by decide +kernel
theorem dX1_writeField_9 : decode cX1_writeField 9 = .ok (.getfield 83, 3) := by decide +kernel
theorem dX1_writeField_12 : decode cX1_writeField 12 = .ok (.ifCond .eq 9, 3) := by decide +kernel
theorem dX1_writeField_15 : decode cX1_writeField 15 = .ok (.aload_n 0, 1) := by decide +kernel
theorem dX1_writeField_16 : decode cX1_writeField 16 = .ok (.iload 4, 2) := by decide +kernel
theorem dX1_writeField_18 : decode cX1_writeField 18 = .ok (.invokevirtual 119, 3) := by decide +kernel
theorem dX1_writeField_21 : decode cX1_writeField 21 = .ok (.aload_n 0, 1) := by decide +kernel
theorem dX1_writeField_22 : decode cX1_writeField 22 = .ok (.getfield 33, 3) := by decide +kernel
theorem dX1_writeField_25 : decode cX1_writeField 25 = .ok (.iconst 2, 1) := by decide +kernel
theorem dX1_writeField_26 : decode cX1_writeField 26 = .ok (.iload_n 1, 1) := by decide +kernel
theorem dX1_writeField_27 : decode cX1_writeField 27 = .ok (.imul, 1) := by decide +kernel
theorem dX1_writeField_28 : decode cX1_writeField 28 = .ok (.iload_n 2, 1) := by decide +kernel
theorem dX1_writeField_29 : decode cX1_writeField 29 = .ok (.iadd, 1) := by decide +kernel
theorem dX1_writeField_30 : decode cX1_writeField 30 = .ok (.iload_n 3, 1) := by decide +kernel
theorem dX1_writeField_31 : decode cX1_writeField 31 = .ok (.iastore, 1) := by decide +kernel
theorem dX1_writeField_32 : decode cX1_writeField 32 = .ok (.iload_n 3, 1) := by decide +kernel
theorem dX1_writeField_33 : decode cX1_writeField 33 = .ok (.bipush (-5), 2) := by decide +kernel
theorem dX1_writeField_35 : decode cX1_writeField 35 = .ok (.if_icmp .eq 33, 3) := by decide +kernel
theorem dX1_writeField_38 : decode cX1_writeField 38 = .ok (.aload_n 0, 1) := by decide +kernel
theorem dX1_writeField_39 : decode cX1_writeField 39 = .ok (.getfield 27, 3) := by decide +kernel
theorem dX1_writeField_42 : decode cX1_writeField 42 = .ok (.iload_n 3, 1) := by decide +kernel
theorem dX1_writeField_43 : decode cX1_writeField 43 = .ok (.iaload, 1) := by decide +kernel
theorem dX1_writeField_44 : decode cX1_writeField 44 = .ok (.aload_n 0, 1) := by decide +kernel
theorem dX1_writeField_45 : decode cX1_writeField 45 = .ok (.getfield 27, 3) := by decide +kernel
theorem dX1_writeField_48 : decode cX1_writeField 48 = .ok (.iload_n 1, 1) := by decide +kernel
theorem dX1_writeField_49 : decode cX1_writeField 49 = .ok (.iaload, 1) := by decide +kernel
theorem dX1_writeField_50 : decode cX1_writeField 50 = .ok (.if_icmp .eq 18, 3) := by decide +kernel
theorem dX1_writeField_53 : decode cX1_writeField 53 = .ok (.aload_n 0, 1) := by decide +kernel
theorem dX1_writeField_54 : decode cX1_writeField 54 = .ok (.getfield 9, 3) := by decide +kernel
theorem dX1_writeField_57 : decode cX1_writeField 57 = .ok (.aload_n 0, 1) := by decide +kernel
theorem dX1_writeField_58 : decode cX1_writeField 58 = .ok (.getfield 27, 3) := by decide +kernel
theorem dX1_writeField_61 : decode cX1_writeField 61 = .ok (.iload_n 1, 1) := by decide +kernel
theorem dX1_writeField_62 : decode cX1_writeField 62 = .ok (.iaload, 1) := by decide +kernel
theorem dX1_writeField_63 : decode cX1_writeField 63 = .ok (.iaload, 1) := by decide +kernel
theorem dX1_writeField_64 : decode cX1_writeField 64 = .ok (.iconst 1, 1) := by decide +kernel
theorem dX1_writeField_65 : decode cX1_writeField 65 = .ok (.if_icmp .ne 5, 3) := by decide +kernel
theorem dX1_writeField_68 : decode cX1_writeField 68 = .ok (.iconst 0, 1) := by decide +kernel
theorem dX1_writeField_69 : decode cX1_writeField 69 = .ok (.ireturn, 1) := by decide +kernel
theorem dX1_writeField_70 : decode cX1_writeField 70 = .ok (.aload_n 0, 1) := by decide +kernel
theorem dX1_writeField_71 : decode cX1_writeField 71 = .ok (.getfield 45, 3) := by decide +kernel
theorem dX1_writeField_74 : decode cX1_writeField 74 = .ok (.aload_n 0, 1) := by decide +kernel
theorem dX1_writeField_75 : decode cX1_writeField 75 = .ok (.iload_n 1, 1) := by decide +kernel
theorem dX1_writeField_76 : decode cX1_writeField 76 = .ok (.invokevirtual 123, 3) := by decide +kernel
theorem dX1_writeField_79 : decode cX1_writeField 79 = .ok (.invokevirtual 126, 3) := by decide +kernel
theorem dX1_writeField_82 : decode cX1_writeField 82 = .ok (.ireturn, 1) := by decide +kernel
set_option maxRecDepth 20000 in
theorem ggX1_cardOfThing_X6_cardOf : GoodIn wsX1_cardOfThing wsX6_cardOf := goodIn_r _ [5] (by decide +kernel) (by decide +kernel)
set_option maxRecDepth 20000 in
theorem gX1_cardOfThing_X6_cardOf_n129 : GoodIn wsX1_cardOfThing (wsX6_cardOf) := ggX1_cardOfThing_X6_cardOf
theorem dX1_cardOfThing_0 : decode cX1_cardOfThing 0 = .ok (.aload_n 0, 1) := by decide +kernel
theorem dX1_cardOfThing_1 : decode cX1_cardOfThing 1 = .ok (.getfield 27, 3) := by decide +kernel
theorem dX1_cardOfThing_4 : decode cX1_cardOfThing 4 = .ok (.iload_n 1, 1) := by decide +kernel
theorem dX1_cardOfThing_5 : decode cX1_cardOfThing 5 = .ok (.iaload, 1) := by decide +kernel
theorem dX1_cardOfThing_6 : decode cX1_cardOfThing 6 = .ok (.aload_n 0, 1) := by decide +kernel
theorem dX1_cardOfThing_7 : decode cX1_cardOfThing 7 = .ok (.getfield 30, 3) := by decide +kernel
theorem dX1_cardOfThing_10 : decode cX1_cardOfThing 10 = .ok (.iload_n 1, 1) := by decide +kernel
theorem dX1_cardOfThing_11 : decode cX1_cardOfThing 11 = .ok (.iaload, 1) := by decide +kernel
theorem dX1_cardOfThing_12 : decode cX1_cardOfThing 12 = .ok (.invokestatic 129, 3) := by decide +kernel
theorem dX1_cardOfThing_15 : decode cX1_cardOfThing 15 = .ok (.ireturn, 1) := by decide +kernel
set_option maxRecDepth 20000 in
theorem ggX1_isOn_X1_isThere : GoodIn wsX1_isOn wsX1_isThere := goodIn_r _ [5, 6, 16, 17, 18, 19, 20, 21, 22, 23, 24, 25, 26, 27, 28, 29, 30, 31, 32, 33] (by decide +kernel) (by decide +kernel)
set_option maxRecDepth 20000 in
theorem gX1_isOn_X1_isThere : GoodIn wsX1_isOn (wsV RX1 90 RX1 yX1_isThere wsX1_isThere) := goodIn_app (goodIn_of _ (by decide +kernel)) ggX1_isOn_X1_isThere
set_option maxRecDepth 20000 in
theorem ggX1_isOn_X1_cardOfThing : GoodIn wsX1_isOn wsX1_cardOfThing := goodIn_r _ [10, 11, 12, 13, 14, 15, 16, 17, 18, 19, 20, 21, 22, 23, 24, 25, 26, 27, 28, 29, 30, 31, 32, 33] (by decide +kernel) (by decide +kernel)
set_option maxRecDepth 20000 in
theorem gX1_isOn_X1_cardOfThing : GoodIn wsX1_isOn (wsV RX1 123 RX1 yX1_cardOfThing wsX1_cardOfThing) := goodIn_app (goodIn_of _ (by decide +kernel)) ggX1_isOn_X1_cardOfThing
theorem dX1_isOn_0 : decode cX1_isOn 0 = .ok (.aload_n 0, 1) := by decide +kernel
theorem dX1_isOn_1 : decode cX1_isOn 1 = .ok (.iload_n 1, 1) := by decide +kernel
theorem dX1_isOn_2 : decode cX1_isOn 2 = .ok (.invokevirtual 90, 3) := by decide +kernel
theorem dX1_isOn_5 : decode cX1_isOn 5 = .ok (.ifCond .eq 16, 3) := by decide +kernel
theorem dX1_isOn_8 : decode cX1_isOn 8 = .ok (.aload_n 0, 1) := by decide +kernel
theorem dX1_isOn_9 : decode cX1_isOn 9 = .ok (.iload_n 1, 1) := by decide +kernel
theorem dX1_isOn_10 : decode cX1_isOn 10 = .ok (.invokevirtual 123, 3) := by decide +kernel
theorem dX1_isOn_13 : decode cX1_isOn 13 = .ok (.iload_n 2, 1) := by decide +kernel
theorem dX1_isOn_14 : decode cX1_isOn 14 = .ok (.if_icmp .ne 7, 3) := by decide +kernel
theorem dX1_isOn_17 : decode cX1_isOn 17 = .ok (.iconst 1, 1) := by decide +kernel
theorem dX1_isOn_18 : decode cX1_isOn 18 = .ok (.goto 4, 3) := by decide +kernel
theorem dX1_isOn_21 : decode cX1_isOn 21 = .ok (.iconst 0, 1) := by decide +kernel
theorem dX1_isOn_22 : decode cX1_isOn 22 = .ok (.ireturn, 1) := by decide +kernel
set_option maxRecDepth 20000 in
theorem ggX1_thingAt_X1_isIn : GoodIn wsX1_thingAt wsX1_isIn := goodIn_r _ [6, 7, 8, 9, 10, 5, 11, 12, 13, 14, 15, 16, 17, 18, 19, 20, 21, 22, 23, 24, 25, 26, 27, 28, 29, 30] (by decide +kernel) (by decide +kernel)
set_option maxRecDepth 20000 in
theorem gX1_thingAt_X1_isIn : GoodIn wsX1_thingAt (wsV RX1 94 RX1 yX1_isIn wsX1_isIn) := goodIn_app (goodIn_of _ (by decide +kernel)) ggX1_thingAt_X1_isIn
theorem dX1_thingAt_0 : decode cX1_thingAt 0 = .ok (.iconst 0, 1) := by decide +kernel
theorem dX1_thingAt_1 : decode cX1_thingAt 1 = .ok (.istore_n 3, 1) := by decide +kernel
theorem dX1_thingAt_2 : decode cX1_thingAt 2 = .ok (.iload_n 3, 1) := by decide +kernel
theorem dX1_thingAt_3 : decode cX1_thingAt 3 = .ok (.bipush 32, 2) := by decide +kernel
theorem dX1_thingAt_5 : decode cX1_thingAt 5 = .ok (.if_icmp .ge 30, 3) := by decide +kernel
theorem dX1_thingAt_8 : decode cX1_thingAt 8 = .ok (.aload_n 0, 1) := by decide +kernel
theorem dX1_thingAt_9 : decode cX1_thingAt 9 = .ok (.iload_n 3, 1) := by decide +kernel
theorem dX1_thingAt_10 : decode cX1_thingAt 10 = .ok (.iload_n 1, 1) := by decide +kernel
theorem dX1_thingAt_11 : decode cX1_thingAt 11 = .ok (.invokevirtual 94, 3) := by decide +kernel
theorem dX1_thingAt_14 : decode cX1_thingAt 14 = .ok (.ifCond .eq 15, 3) := by decide +kernel
theorem dX1_thingAt_17 : decode cX1_thingAt 17 = .ok (.aload_n 0, 1) := by decide +kernel
theorem dX1_thingAt_18 : decode cX1_thingAt 18 = .ok (.getfield 30, 3) := by decide +kernel
theorem dX1_thingAt_21 : decode cX1_thingAt 21 = .ok (.iload_n 3, 1) := by decide +kernel
theorem dX1_thingAt_22 : decode cX1_thingAt 22 = .ok (.iaload, 1) := by decide +kernel
theorem dX1_thingAt_23 : decode cX1_thingAt 23 = .ok (.iload_n 2, 1) := by decide +kernel
theorem dX1_thingAt_24 : decode cX1_thingAt 24 = .ok (.if_icmp .ne 5, 3) := by decide +kernel
theorem dX1_thingAt_27 : decode cX1_thingAt 27 = .ok (.iload_n 3, 1) := by decide +kernel
theorem dX1_thingAt_28 : decode cX1_thingAt 28 = .ok (.ireturn, 1) := by decide +kernel
theorem dX1_thingAt_29 : decode cX1_thingAt 29 = .ok (.iinc 3 1, 3) := by decide +kernel
theorem dX1_thingAt_32 : decode cX1_thingAt 32 = .ok (.goto (-30), 3) := by decide +kernel
theorem dX1_thingAt_35 : decode cX1_thingAt 35 = .ok (.bipush (-9), 2) := by decide +kernel
theorem dX1_thingAt_37 : decode cX1_thingAt 37 = .ok (.ireturn, 1) := by decide +kernel
set_option maxRecDepth 20000 in
theorem ggX1_refineOldest_X5_itemAt : GoodIn wsX1_refineOldest wsX5_itemAt := goodIn_r _ [7, 8, 9, 67, 68] (by decide +kernel) (by decide +kernel)
set_option maxRecDepth 20000 in
theorem gX1_refineOldest_X5_itemAt : GoodIn wsX1_refineOldest (wsV RX1 135 RX5 yX5_itemAt wsX5_itemAt) := goodIn_app (goodIn_of _ (by decide +kernel)) ggX1_refineOldest_X5_itemAt
set_option maxRecDepth 20000 in
theorem ggX1_refineOldest_X1_refineCard : GoodIn wsX1_refineOldest wsX1_refineCard := goodIn_r _ [14, 1, 15, 16, 17, 6, 18, 8, 9, 19, 20, 21, 13, 22, 23, 24, 25, 26, 27, 28, 29, 30, 31, 32, 33, 34, 35, 36, 37, 38, 39, 40, 41, 42, 43, 44, 45, 46, 47, 48, 49, 50, 51, 52, 53, 54, 55, 56, 57, 58, 59, 60, 61, 62, 63, 64, 65, 66, 67, 68] (by decide +kernel) (by decide +kernel)
set_option maxRecDepth 20000 in
theorem gX1_refineOldest_X1_refineCard : GoodIn wsX1_refineOldest (wsV RX1 138 RX1 yX1_refineCard wsX1_refineCard) := goodIn_app (goodIn_of _ (by decide +kernel)) ggX1_refineOldest_X1_refineCard
theorem dX1_refineOldest_0 : decode cX1_refineOldest 0 = .ok (.iconst 0, 1) := by decide +kernel
theorem dX1_refineOldest_1 : decode cX1_refineOldest 1 = .ok (.istore_n 2, 1) := by decide +kernel
theorem dX1_refineOldest_2 : decode cX1_refineOldest 2 = .ok (.iconst 0, 1) := by decide +kernel
theorem dX1_refineOldest_3 : decode cX1_refineOldest 3 = .ok (.istore_n 3, 1) := by decide +kernel
theorem dX1_refineOldest_4 : decode cX1_refineOldest 4 = .ok (.iload_n 3, 1) := by decide +kernel
theorem dX1_refineOldest_5 : decode cX1_refineOldest 5 = .ok (.iload_n 1, 1) := by decide +kernel
theorem dX1_refineOldest_6 : decode cX1_refineOldest 6 = .ok (.if_icmp .ge 34, 3) := by decide +kernel
theorem dX1_refineOldest_9 : decode cX1_refineOldest 9 = .ok (.aload_n 0, 1) := by decide +kernel
theorem dX1_refineOldest_10 : decode cX1_refineOldest 10 = .ok (.getfield 45, 3) := by decide +kernel
theorem dX1_refineOldest_13 : decode cX1_refineOldest 13 = .ok (.getfield 132, 3) := by decide +kernel
theorem dX1_refineOldest_16 : decode cX1_refineOldest 16 = .ok (.ifCond .le 24, 3) := by decide +kernel
theorem dX1_refineOldest_19 : decode cX1_refineOldest 19 = .ok (.aload_n 0, 1) := by decide +kernel
theorem dX1_refineOldest_20 : decode cX1_refineOldest 20 = .ok (.aload_n 0, 1) := by decide +kernel
theorem dX1_refineOldest_21 : decode cX1_refineOldest 21 = .ok (.getfield 45, 3) := by decide +kernel
theorem dX1_refineOldest_24 : decode cX1_refineOldest 24 = .ok (.iconst 0, 1) := by decide +kernel
theorem dX1_refineOldest_25 : decode cX1_refineOldest 25 = .ok (.invokevirtual 135, 3) := by decide +kernel
theorem dX1_refineOldest_28 : decode cX1_refineOldest 28 = .ok (.invokevirtual 138, 3) := by decide +kernel
theorem dX1_refineOldest_31 : decode cX1_refineOldest 31 = .ok (.iinc 2 1, 3) := by decide +kernel
theorem dX1_refineOldest_34 : decode cX1_refineOldest 34 = .ok (.iinc 3 1, 3) := by decide +kernel
theorem dX1_refineOldest_37 : decode cX1_refineOldest 37 = .ok (.goto (-33), 3) := by decide +kernel
theorem dX1_refineOldest_40 : decode cX1_refineOldest 40 = .ok (.iload_n 2, 1) := by decide +kernel
theorem dX1_refineOldest_41 : decode cX1_refineOldest 41 = .ok (.ireturn, 1) := by decide +kernel
set_option maxRecDepth 20000 in
theorem ggX1_refineCard_X5_drop : GoodIn wsX1_refineCard wsX5_drop := goodIn_r _ [6, 7, 8, 58, 59] (by decide +kernel) (by decide +kernel)
set_option maxRecDepth 20000 in
theorem gX1_refineCard_X5_drop : GoodIn wsX1_refineCard (wsV RX1 141 RX5 yX5_drop wsX5_drop) := goodIn_app (goodIn_of _ (by decide +kernel)) ggX1_refineCard_X5_drop
set_option maxRecDepth 20000 in
theorem ggX1_refineCard_X1_isOn : GoodIn wsX1_refineCard wsX1_isOn := goodIn_r _ [13, 14, 15, 16, 12, 17, 18, 19, 20, 21, 22, 23, 24, 25, 26, 27, 40, 41, 42, 43, 44, 45, 46, 47, 48, 49, 50, 51, 52, 53, 54, 55, 56, 57] (by decide +kernel) (by decide +kernel)
set_option maxRecDepth 20000 in
theorem gX1_refineCard_X1_isOn : GoodIn wsX1_refineCard (wsV RX1 144 RX1 yX1_isOn wsX1_isOn) := goodIn_app (goodIn_of _ (by decide +kernel)) ggX1_refineCard_X1_isOn
set_option maxRecDepth 20000 in
theorem ggX1_refineCard_X1_fieldOf : GoodIn wsX1_refineCard wsX1_fieldOf := goodIn_r _ [31, 32, 40, 41, 42, 43, 44, 45, 46, 47, 48, 49, 50, 51, 52, 53, 54, 55, 56, 57] (by decide +kernel) (by decide +kernel)
set_option maxRecDepth 20000 in
theorem gX1_refineCard_X1_fieldOf : GoodIn wsX1_refineCard (wsV RX1 115 RX1 yX1_fieldOf wsX1_fieldOf) := goodIn_app (goodIn_of _ (by decide +kernel)) ggX1_refineCard_X1_fieldOf
set_option maxRecDepth 20000 in
theorem ggX1_refineCard_X1_noteField : GoodIn wsX1_refineCard wsX1_noteField := goodIn_r _ [36, 23, 37, 38, 26, 39, 40, 41, 42, 43, 44, 45, 46, 47, 48, 49, 50, 51, 52, 53, 54, 55, 56, 57] (by decide +kernel) (by decide +kernel)
set_option maxRecDepth 20000 in
theorem gX1_refineCard_X1_noteField : GoodIn wsX1_refineCard (wsV RX1 147 RX1 yX1_noteField wsX1_noteField) := goodIn_app (goodIn_of _ (by decide +kernel)) ggX1_refineCard_X1_noteField
theorem dX1_refineCard_0 : decode cX1_refineCard 0 = .ok (.aload_n 0, 1) := by decide +kernel
theorem dX1_refineCard_1 : decode cX1_refineCard 1 = .ok (.getfield 45, 3) := by decide +kernel
theorem dX1_refineCard_4 : decode cX1_refineCard 4 = .ok (.iload_n 1, 1) := by decide +kernel
theorem dX1_refineCard_5 : decode cX1_refineCard 5 = .ok (.invokevirtual 141, 3) := by decide +kernel
theorem dX1_refineCard_8 : decode cX1_refineCard 8 = .ok (.iconst 0, 1) := by decide +kernel
theorem dX1_refineCard_9 : decode cX1_refineCard 9 = .ok (.istore_n 2, 1) := by decide +kernel
theorem dX1_refineCard_10 : decode cX1_refineCard 10 = .ok (.iload_n 2, 1) := by decide +kernel
theorem dX1_refineCard_11 : decode cX1_refineCard 11 = .ok (.bipush 32, 2) := by decide +kernel
theorem dX1_refineCard_13 : decode cX1_refineCard 13 = .ok (.if_icmp .ge 40, 3) := by decide +kernel
theorem dX1_refineCard_16 : decode cX1_refineCard 16 = .ok (.aload_n 0, 1) := by decide +kernel
theorem dX1_refineCard_17 : decode cX1_refineCard 17 = .ok (.iload_n 2, 1) := by decide +kernel
theorem dX1_refineCard_18 : decode cX1_refineCard 18 = .ok (.iload_n 1, 1) := by decide +kernel
theorem dX1_refineCard_19 : decode cX1_refineCard 19 = .ok (.invokevirtual 144, 3) := by decide +kernel
theorem dX1_refineCard_22 : decode cX1_refineCard 22 = .ok (.ifCond .eq 25, 3) := by decide +kernel
theorem dX1_refineCard_25 : decode cX1_refineCard 25 = .ok (.aload_n 0, 1) := by decide +kernel
theorem dX1_refineCard_26 : decode cX1_refineCard 26 = .ok (.iload_n 1, 1) := by decide +kernel
theorem dX1_refineCard_27 : decode cX1_refineCard 27 = .ok (.aload_n 0, 1) := by decide +kernel
theorem dX1_refineCard_28 : decode cX1_refineCard 28 = .ok (.iload_n 2, 1) := by decide +kernel
theorem dX1_refineCard_29 : decode cX1_refineCard 29 = .ok (.iconst 0, 1) := by decide +kernel
theorem dX1_refineCard_30 : decode cX1_refineCard 30 = .ok (.invokevirtual 115, 3) := by decide +kernel
theorem dX1_refineCard_33 : decode cX1_refineCard 33 = .ok (.invokevirtual 147, 3) := by decide +kernel
theorem dX1_refineCard_36 : decode cX1_refineCard 36 = .ok (.aload_n 0, 1) := by decide +kernel
theorem dX1_refineCard_37 : decode cX1_refineCard 37 = .ok (.iload_n 1, 1) := by decide +kernel
theorem dX1_refineCard_38 : decode cX1_refineCard 38 = .ok (.aload_n 0, 1) := by decide +kernel
theorem dX1_refineCard_39 : decode cX1_refineCard 39 = .ok (.iload_n 2, 1) := by decide +kernel
theorem dX1_refineCard_40 : decode cX1_refineCard 40 = .ok (.iconst 1, 1) := by decide +kernel
theorem dX1_refineCard_41 : decode cX1_refineCard 41 = .ok (.invokevirtual 115, 3) := by decide +kernel
theorem dX1_refineCard_44 : decode cX1_refineCard 44 = .ok (.invokevirtual 147, 3) := by decide +kernel
theorem dX1_refineCard_47 : decode cX1_refineCard 47 = .ok (.iinc 2 1, 3) := by decide +kernel
theorem dX1_refineCard_50 : decode cX1_refineCard 50 = .ok (.goto (-40), 3) := by decide +kernel
theorem dX1_refineCard_53 : decode cX1_refineCard 53 = .ok (.return_, 1) := by decide +kernel
set_option maxRecDepth 20000 in
theorem ggX1_noteField_X6_regionOfCard : GoodIn wsX1_noteField wsX6_regionOfCard := goodIn_r _ [5] (by decide +kernel) (by decide +kernel)
set_option maxRecDepth 20000 in
theorem gX1_noteField_X6_regionOfCard_n150 : GoodIn wsX1_noteField (wsX6_regionOfCard) := ggX1_noteField_X6_regionOfCard
theorem dX1_noteField_0 : decode cX1_noteField 0 = .ok (.iload_n 2, 1) := by decide +kernel
theorem dX1_noteField_1 : decode cX1_noteField 1 = .ok (.bipush (-5), 2) := by decide +kernel
theorem dX1_noteField_3 : decode cX1_noteField 3 = .ok (.if_icmp .eq 33, 3) := by decide +kernel
theorem dX1_noteField_6 : decode cX1_noteField 6 = .ok (.aload_n 0, 1) := by decide +kernel
theorem dX1_noteField_7 : decode cX1_noteField 7 = .ok (.getfield 27, 3) := by decide +kernel
theorem dX1_noteField_10 : decode cX1_noteField 10 = .ok (.iload_n 2, 1) := by decide +kernel
theorem dX1_noteField_11 : decode cX1_noteField 11 = .ok (.iaload, 1) := by decide +kernel
theorem dX1_noteField_12 : decode cX1_noteField 12 = .ok (.iload_n 1, 1) := by decide +kernel
theorem dX1_noteField_13 : decode cX1_noteField 13 = .ok (.invokestatic 150, 3) := by decide +kernel
theorem dX1_noteField_16 : decode cX1_noteField 16 = .ok (.if_icmp .eq 20, 3) := by decide +kernel
theorem dX1_noteField_19 : decode cX1_noteField 19 = .ok (.aload_n 0, 1) := by decide +kernel
theorem dX1_noteField_20 : decode cX1_noteField 20 = .ok (.getfield 21, 3) := by decide +kernel
theorem dX1_noteField_23 : decode cX1_noteField 23 = .ok (.aload_n 0, 1) := by decide +kernel
theorem dX1_noteField_24 : decode cX1_noteField 24 = .ok (.getfield 27, 3) := by decide +kernel
theorem dX1_noteField_27 : decode cX1_noteField 27 = .ok (.iload_n 2, 1) := by decide +kernel
theorem dX1_noteField_28 : decode cX1_noteField 28 = .ok (.iaload, 1) := by decide +kernel
theorem dX1_noteField_29 : decode cX1_noteField 29 = .ok (.dup2, 1) := by decide +kernel
theorem dX1_noteField_30 : decode cX1_noteField 30 = .ok (.iaload, 1) := by decide +kernel
theorem dX1_noteField_31 : decode cX1_noteField 31 = .ok (.iconst 1, 1) := by decide +kernel
theorem dX1_noteField_32 : decode cX1_noteField 32 = .ok (.iload_n 1, 1) := by decide +kernel
theorem dX1_noteField_33 : decode cX1_noteField 33 = .ok (.ishl, 1) := by decide +kernel
theorem dX1_noteField_34 : decode cX1_noteField 34 = .ok (.ior, 1) := by decide +kernel
theorem dX1_noteField_35 : decode cX1_noteField 35 = .ok (.iastore, 1) := by decide +kernel
theorem dX1_noteField_36 : decode cX1_noteField 36 = .ok (.return_, 1) := by decide +kernel
set_option maxRecDepth 20000 in
theorem ggX1_freeWithRests_X1_freeOne : GoodIn wsX1_freeWithRests wsX1_freeOne := goodIn_r _ [6, 1, 7, 8, 9, 10, 11, 12, 13, 14, 15, 16, 17, 18, 19, 20, 21, 22, 23, 24, 25, 26, 27, 28, 29, 30, 31, 32, 33, 34, 35, 36, 37, 38, 39, 40, 41, 42] (by decide +kernel) (by decide +kernel)
set_option maxRecDepth 20000 in
theorem gX1_freeWithRests_X1_freeOne : GoodIn wsX1_freeWithRests (wsV RX1 153 RX1 yX1_freeOne wsX1_freeOne) := goodIn_app (goodIn_of _ (by decide +kernel)) ggX1_freeWithRests_X1_freeOne
theorem dX1_freeWithRests_0 : decode cX1_freeWithRests 0 = .ok (.aload_n 0, 1) := by decide +kernel
theorem dX1_freeWithRests_1 : decode cX1_freeWithRests 1 = .ok (.getfield 9, 3) := by decide +kernel
theorem dX1_freeWithRests_4 : decode cX1_freeWithRests 4 = .ok (.iload_n 1, 1) := by decide +kernel
theorem dX1_freeWithRests_5 : decode cX1_freeWithRests 5 = .ok (.iaload, 1) := by decide +kernel
theorem dX1_freeWithRests_6 : decode cX1_freeWithRests 6 = .ok (.iconst 3, 1) := by decide +kernel
theorem dX1_freeWithRests_7 : decode cX1_freeWithRests 7 = .ok (.if_icmp .ne 7, 3) := by decide +kernel
theorem dX1_freeWithRests_10 : decode cX1_freeWithRests 10 = .ok (.iconst 1, 1) := by decide +kernel
theorem dX1_freeWithRests_11 : decode cX1_freeWithRests 11 = .ok (.goto 4, 3) := by decide +kernel
theorem dX1_freeWithRests_14 : decode cX1_freeWithRests 14 = .ok (.iconst 0, 1) := by decide +kernel
theorem dX1_freeWithRests_15 : decode cX1_freeWithRests 15 = .ok (.istore_n 2, 1) := by decide +kernel
theorem dX1_freeWithRests_16 : decode cX1_freeWithRests 16 = .ok (.aload_n 0, 1) := by decide +kernel
theorem dX1_freeWithRests_17 : decode cX1_freeWithRests 17 = .ok (.iload_n 1, 1) := by decide +kernel
theorem dX1_freeWithRests_18 : decode cX1_freeWithRests 18 = .ok (.invokevirtual 153, 3) := by decide +kernel
theorem dX1_freeWithRests_21 : decode cX1_freeWithRests 21 = .ok (.iload_n 1, 1) := by decide +kernel
theorem dX1_freeWithRests_22 : decode cX1_freeWithRests 22 = .ok (.iconst 1, 1) := by decide +kernel
theorem dX1_freeWithRests_23 : decode cX1_freeWithRests 23 = .ok (.iadd, 1) := by decide +kernel
theorem dX1_freeWithRests_24 : decode cX1_freeWithRests 24 = .ok (.istore_n 3, 1) := by decide +kernel
theorem dX1_freeWithRests_25 : decode cX1_freeWithRests 25 = .ok (.iload_n 2, 1) := by decide +kernel
theorem dX1_freeWithRests_26 : decode cX1_freeWithRests 26 = .ok (.ifCond .eq 30, 3) := by decide +kernel
theorem dX1_freeWithRests_29 : decode cX1_freeWithRests 29 = .ok (.iload_n 3, 1) := by decide +kernel
theorem dX1_freeWithRests_30 : decode cX1_freeWithRests 30 = .ok (.bipush 10, 2) := by decide +kernel
theorem dX1_freeWithRests_32 : decode cX1_freeWithRests 32 = .ok (.if_icmp .ge 24, 3) := by decide +kernel
theorem dX1_freeWithRests_35 : decode cX1_freeWithRests 35 = .ok (.aload_n 0, 1) := by decide +kernel
theorem dX1_freeWithRests_36 : decode cX1_freeWithRests 36 = .ok (.getfield 9, 3) := by decide +kernel
theorem dX1_freeWithRests_39 : decode cX1_freeWithRests 39 = .ok (.iload_n 3, 1) := by decide +kernel
theorem dX1_freeWithRests_40 : decode cX1_freeWithRests 40 = .ok (.iaload, 1) := by decide +kernel
theorem dX1_freeWithRests_41 : decode cX1_freeWithRests 41 = .ok (.iconst 4, 1) := by decide +kernel
theorem dX1_freeWithRests_42 : decode cX1_freeWithRests 42 = .ok (.if_icmp .ne 14, 3) := by decide +kernel
theorem dX1_freeWithRests_45 : decode cX1_freeWithRests 45 = .ok (.aload_n 0, 1) := by decide +kernel
theorem dX1_freeWithRests_46 : decode cX1_freeWithRests 46 = .ok (.iload_n 3, 1) := by decide +kernel
theorem dX1_freeWithRests_47 : decode cX1_freeWithRests 47 = .ok (.invokevirtual 153, 3) := by decide +kernel
theorem dX1_freeWithRests_50 : decode cX1_freeWithRests 50 = .ok (.iinc 3 1, 3) := by decide +kernel
theorem dX1_freeWithRests_53 : decode cX1_freeWithRests 53 = .ok (.goto (-28), 3) := by decide +kernel
theorem dX1_freeWithRests_56 : decode cX1_freeWithRests 56 = .ok (.return_, 1) := by decide +kernel
set_option maxRecDepth 20000 in
theorem ggX1_freeOne_X6_cardOf : GoodIn wsX1_freeOne wsX6_cardOf := goodIn_r _ [8] (by decide +kernel) (by decide +kernel)
set_option maxRecDepth 20000 in
theorem gX1_freeOne_X6_cardOf_n129 : GoodIn wsX1_freeOne (wsX6_cardOf) := ggX1_freeOne_X6_cardOf
set_option maxRecDepth 20000 in
theorem ggX1_freeOne_X5_drop : GoodIn wsX1_freeOne wsX5_drop := goodIn_r _ [13, 14, 15, 36, 37] (by decide +kernel) (by decide +kernel)
set_option maxRecDepth 20000 in
theorem gX1_freeOne_X5_drop : GoodIn wsX1_freeOne (wsV RX1 141 RX5 yX5_drop wsX5_drop) := goodIn_app (goodIn_of _ (by decide +kernel)) ggX1_freeOne_X5_drop
set_option maxRecDepth 20000 in
theorem ggX1_freeOne_X6_cardsOf : GoodIn wsX1_freeOne wsX6_cardsOf := goodIn_r _ [17] (by decide +kernel) (by decide +kernel)
set_option maxRecDepth 20000 in
theorem gX1_freeOne_X6_cardsOf_n156 : GoodIn wsX1_freeOne (wsX6_cardsOf) := ggX1_freeOne_X6_cardsOf
theorem dX1_freeOne_0 : decode cX1_freeOne 0 = .ok (.aload_n 0, 1) := by decide +kernel
theorem dX1_freeOne_1 : decode cX1_freeOne 1 = .ok (.getfield 9, 3) := by decide +kernel
theorem dX1_freeOne_4 : decode cX1_freeOne 4 = .ok (.iload_n 1, 1) := by decide +kernel
theorem dX1_freeOne_5 : decode cX1_freeOne 5 = .ok (.iconst 0, 1) := by decide +kernel
theorem dX1_freeOne_6 : decode cX1_freeOne 6 = .ok (.iastore, 1) := by decide +kernel
theorem dX1_freeOne_7 : decode cX1_freeOne 7 = .ok (.aload_n 0, 1) := by decide +kernel
theorem dX1_freeOne_8 : decode cX1_freeOne 8 = .ok (.getfield 15, 3) := by decide +kernel
theorem dX1_freeOne_11 : decode cX1_freeOne 11 = .ok (.iload_n 1, 1) := by decide +kernel
theorem dX1_freeOne_12 : decode cX1_freeOne 12 = .ok (.iconst 0, 1) := by decide +kernel
theorem dX1_freeOne_13 : decode cX1_freeOne 13 = .ok (.iastore, 1) := by decide +kernel
theorem dX1_freeOne_14 : decode cX1_freeOne 14 = .ok (.aload_n 0, 1) := by decide +kernel
theorem dX1_freeOne_15 : decode cX1_freeOne 15 = .ok (.getfield 18, 3) := by decide +kernel
theorem dX1_freeOne_18 : decode cX1_freeOne 18 = .ok (.iload_n 1, 1) := by decide +kernel
theorem dX1_freeOne_19 : decode cX1_freeOne 19 = .ok (.bipush (-9), 2) := by decide +kernel
theorem dX1_freeOne_21 : decode cX1_freeOne 21 = .ok (.iastore, 1) := by decide +kernel
theorem dX1_freeOne_22 : decode cX1_freeOne 22 = .ok (.aload_n 0, 1) := by decide +kernel
theorem dX1_freeOne_23 : decode cX1_freeOne 23 = .ok (.getfield 21, 3) := by decide +kernel
theorem dX1_freeOne_26 : decode cX1_freeOne 26 = .ok (.iload_n 1, 1) := by decide +kernel
theorem dX1_freeOne_27 : decode cX1_freeOne 27 = .ok (.iconst 0, 1) := by decide +kernel
theorem dX1_freeOne_28 : decode cX1_freeOne 28 = .ok (.iastore, 1) := by decide +kernel
theorem dX1_freeOne_29 : decode cX1_freeOne 29 = .ok (.aload_n 0, 1) := by decide +kernel
theorem dX1_freeOne_30 : decode cX1_freeOne 30 = .ok (.getfield 45, 3) := by decide +kernel
theorem dX1_freeOne_33 : decode cX1_freeOne 33 = .ok (.iload_n 1, 1) := by decide +kernel
theorem dX1_freeOne_34 : decode cX1_freeOne 34 = .ok (.iconst 0, 1) := by decide +kernel
theorem dX1_freeOne_35 : decode cX1_freeOne 35 = .ok (.invokestatic 129, 3) := by decide +kernel
theorem dX1_freeOne_38 : decode cX1_freeOne 38 = .ok (.invokevirtual 141, 3) := by decide +kernel
theorem dX1_freeOne_41 : decode cX1_freeOne 41 = .ok (.aload_n 0, 1) := by decide +kernel
theorem dX1_freeOne_42 : decode cX1_freeOne 42 = .ok (.getfield 45, 3) := by decide +kernel
theorem dX1_freeOne_45 : decode cX1_freeOne 45 = .ok (.iload_n 1, 1) := by decide +kernel
theorem dX1_freeOne_46 : decode cX1_freeOne 46 = .ok (.iconst 4, 1) := by decide +kernel
theorem dX1_freeOne_47 : decode cX1_freeOne 47 = .ok (.invokestatic 129, 3) := by decide +kernel
theorem dX1_freeOne_50 : decode cX1_freeOne 50 = .ok (.invokevirtual 141, 3) := by decide +kernel
theorem dX1_freeOne_53 : decode cX1_freeOne 53 = .ok (.iconst 0, 1) := by decide +kernel
theorem dX1_freeOne_54 : decode cX1_freeOne 54 = .ok (.istore_n 2, 1) := by decide +kernel
theorem dX1_freeOne_55 : decode cX1_freeOne 55 = .ok (.iload_n 2, 1) := by decide +kernel
theorem dX1_freeOne_56 : decode cX1_freeOne 56 = .ok (.bipush 10, 2) := by decide +kernel
theorem dX1_freeOne_58 : decode cX1_freeOne 58 = .ok (.if_icmp .ge 24, 3) := by decide +kernel
theorem dX1_freeOne_61 : decode cX1_freeOne 61 = .ok (.aload_n 0, 1) := by decide +kernel
theorem dX1_freeOne_62 : decode cX1_freeOne 62 = .ok (.getfield 21, 3) := by decide +kernel
theorem dX1_freeOne_65 : decode cX1_freeOne 65 = .ok (.iload_n 2, 1) := by decide +kernel
theorem dX1_freeOne_66 : decode cX1_freeOne 66 = .ok (.dup2, 1) := by decide +kernel
theorem dX1_freeOne_67 : decode cX1_freeOne 67 = .ok (.iaload, 1) := by decide +kernel
theorem dX1_freeOne_68 : decode cX1_freeOne 68 = .ok (.iload_n 1, 1) := by decide +kernel
theorem dX1_freeOne_69 : decode cX1_freeOne 69 = .ok (.invokestatic 156, 3) := by decide +kernel
theorem dX1_freeOne_72 : decode cX1_freeOne 72 = .ok (.iconst (-1), 1) := by decide +kernel
theorem dX1_freeOne_73 : decode cX1_freeOne 73 = .ok (.ixor, 1) := by decide +kernel
theorem dX1_freeOne_74 : decode cX1_freeOne 74 = .ok (.iand, 1) := by decide +kernel
theorem dX1_freeOne_75 : decode cX1_freeOne 75 = .ok (.iastore, 1) := by decide +kernel
theorem dX1_freeOne_76 : decode cX1_freeOne 76 = .ok (.iinc 2 1, 3) := by decide +kernel
theorem dX1_freeOne_79 : decode cX1_freeOne 79 = .ok (.goto (-24), 3) := by decide +kernel
theorem dX1_freeOne_82 : decode cX1_freeOne 82 = .ok (.return_, 1) := by decide +kernel
theorem dX1_endThing_0 : decode cX1_endThing 0 = .ok (.aload_n 0, 1) := by decide +kernel
theorem dX1_endThing_1 : decode cX1_endThing 1 = .ok (.getfield 24, 3) := by decide +kernel
theorem dX1_endThing_4 : decode cX1_endThing 4 = .ok (.iload_n 1, 1) := by decide +kernel
theorem dX1_endThing_5 : decode cX1_endThing 5 = .ok (.iconst 0, 1) := by decide +kernel
theorem dX1_endThing_6 : decode cX1_endThing 6 = .ok (.iastore, 1) := by decide +kernel
theorem dX1_endThing_7 : decode cX1_endThing 7 = .ok (.iconst 0, 1) := by decide +kernel
theorem dX1_endThing_8 : decode cX1_endThing 8 = .ok (.istore_n 2, 1) := by decide +kernel
theorem dX1_endThing_9 : decode cX1_endThing 9 = .ok (.iload_n 2, 1) := by decide +kernel
theorem dX1_endThing_10 : decode cX1_endThing 10 = .ok (.bipush 64, 2) := by decide +kernel
theorem dX1_endThing_12 : decode cX1_endThing 12 = .ok (.if_icmp .ge 27, 3) := by decide +kernel
theorem dX1_endThing_15 : decode cX1_endThing 15 = .ok (.aload_n 0, 1) := by decide +kernel
theorem dX1_endThing_16 : decode cX1_endThing 16 = .ok (.getfield 33, 3) := by decide +kernel
theorem dX1_endThing_19 : decode cX1_endThing 19 = .ok (.iload_n 2, 1) := by decide +kernel
theorem dX1_endThing_20 : decode cX1_endThing 20 = .ok (.iaload, 1) := by decide +kernel
theorem dX1_endThing_21 : decode cX1_endThing 21 = .ok (.iload_n 1, 1) := by decide +kernel
theorem dX1_endThing_22 : decode cX1_endThing 22 = .ok (.if_icmp .ne 11, 3) := by decide +kernel
theorem dX1_endThing_25 : decode cX1_endThing 25 = .ok (.aload_n 0, 1) := by decide +kernel
theorem dX1_endThing_26 : decode cX1_endThing 26 = .ok (.getfield 33, 3) := by decide +kernel
theorem dX1_endThing_29 : decode cX1_endThing 29 = .ok (.iload_n 2, 1) := by decide +kernel
theorem dX1_endThing_30 : decode cX1_endThing 30 = .ok (.bipush (-5), 2) := by decide +kernel
theorem dX1_endThing_32 : decode cX1_endThing 32 = .ok (.iastore, 1) := by decide +kernel
theorem dX1_endThing_33 : decode cX1_endThing 33 = .ok (.iinc 2 1, 3) := by decide +kernel
theorem dX1_endThing_36 : decode cX1_endThing 36 = .ok (.goto (-27), 3) := by decide +kernel
theorem dX1_endThing_39 : decode cX1_endThing 39 = .ok (.return_, 1) := by decide +kernel
set_option maxRecDepth 20000 in
theorem ggX1_beginMarking_J7_fill_53178 : GoodIn wsX1_beginMarking wsJ7_fill_53178 := goodIn_r _ [7] (by decide +kernel) (by decide +kernel)
set_option maxRecDepth 20000 in
theorem gX1_beginMarking_J7_fill_53178 : GoodIn wsX1_beginMarking (va_wsS RX1 67 yJ7_fill_53178 wsJ7_fill_53178) := goodIn_app (goodIn_of _ (by decide +kernel)) ggX1_beginMarking_J7_fill_53178
set_option maxRecDepth 20000 in
theorem ggX1_beginMarking_X1_becomeGrey : GoodIn wsX1_beginMarking wsX1_becomeGrey := goodIn_r _ [12, 2, 13, 14, 15, 16, 17, 18, 19, 20, 71, 72, 73, 74, 75, 76, 77, 78, 79, 80, 81, 82, 83, 84, 85, 86, 87, 88, 89, 90] (by decide +kernel) (by decide +kernel)
set_option maxRecDepth 20000 in
theorem gX1_beginMarking_X1_becomeGrey : GoodIn wsX1_beginMarking (wsV RX1 119 RX1 yX1_becomeGrey wsX1_becomeGrey) := goodIn_app (goodIn_of _ (by decide +kernel)) ggX1_beginMarking_X1_becomeGrey
set_option maxRecDepth 20000 in
theorem ggX1_beginMarking_X1_endMarkingIfNoneGrey : GoodIn wsX1_beginMarking wsX1_endMarkingIfNoneGrey := goodIn_r _ [24, 13, 25, 1, 26, 27, 28, 29, 30, 11, 31, 2, 32, 33, 34, 35, 36, 37, 38, 39, 40, 41, 42, 43, 44, 45, 46, 47, 48, 49, 50, 51, 52, 53, 54, 55, 56, 57, 58, 59, 60, 61, 62, 63, 64, 65, 66, 67, 17, 68, 19, 20, 69, 70, 71, 72, 73, 74, 75, 76, 77, 78, 79, 80, 81, 82, 83, 84, 85, 86, 87, 88, 89, 90] (by decide +kernel) (by decide +kernel)
set_option maxRecDepth 20000 in
theorem gX1_beginMarking_X1_endMarkingIfNoneGrey : GoodIn wsX1_beginMarking (wsV RX1 159 RX1 yX1_endMarkingIfNoneGrey wsX1_endMarkingIfNoneGrey) := goodIn_app (goodIn_of _ (by decide +kernel)) ggX1_beginMarking_X1_endMarkingIfNoneGrey
theorem dX1_beginMarking_0 : decode cX1_beginMarking 0 = .ok (.aload_n 0, 1) := by decide +kernel
theorem dX1_beginMarking_1 : decode cX1_beginMarking 1 = .ok (.iconst 1, 1) := by decide +kernel
theorem dX1_beginMarking_2 : decode cX1_beginMarking 2 = .ok (.putfield 83, 3) := by decide +kernel
theorem dX1_beginMarking_5 : decode cX1_beginMarking 5 = .ok (.aload_n 0, 1) := by decide +kernel
theorem dX1_beginMarking_6 : decode cX1_beginMarking 6 = .ok (.getfield 36, 3) := by decide +kernel
theorem dX1_beginMarking_9 : decode cX1_beginMarking 9 = .ok (.iconst 0, 1) := by decide +kernel
theorem dX1_beginMarking_10 : decode cX1_beginMarking 10 = .ok (.invokestatic 67, 3) := by decide +kernel
theorem dX1_beginMarking_13 : decode cX1_beginMarking 13 = .ok (.iconst 0, 1) := by decide +kernel
theorem dX1_beginMarking_14 : decode cX1_beginMarking 14 = .ok (.istore_n 1, 1) := by decide +kernel
theorem dX1_beginMarking_15 : decode cX1_beginMarking 15 = .ok (.iload_n 1, 1) := by decide +kernel
theorem dX1_beginMarking_16 : decode cX1_beginMarking 16 = .ok (.bipush 6, 2) := by decide +kernel
theorem dX1_beginMarking_18 : decode cX1_beginMarking 18 = .ok (.if_icmp .ge 19, 3) := by decide +kernel
theorem dX1_beginMarking_21 : decode cX1_beginMarking 21 = .ok (.aload_n 0, 1) := by decide +kernel
theorem dX1_beginMarking_22 : decode cX1_beginMarking 22 = .ok (.aload_n 0, 1) := by decide +kernel
theorem dX1_beginMarking_23 : decode cX1_beginMarking 23 = .ok (.getfield 39, 3) := by decide +kernel
theorem dX1_beginMarking_26 : decode cX1_beginMarking 26 = .ok (.iload_n 1, 1) := by decide +kernel
theorem dX1_beginMarking_27 : decode cX1_beginMarking 27 = .ok (.iaload, 1) := by decide +kernel
theorem dX1_beginMarking_28 : decode cX1_beginMarking 28 = .ok (.invokevirtual 119, 3) := by decide +kernel
theorem dX1_beginMarking_31 : decode cX1_beginMarking 31 = .ok (.iinc 1 1, 3) := by decide +kernel
theorem dX1_beginMarking_34 : decode cX1_beginMarking 34 = .ok (.goto (-19), 3) := by decide +kernel
theorem dX1_beginMarking_37 : decode cX1_beginMarking 37 = .ok (.aload_n 0, 1) := by decide +kernel
theorem dX1_beginMarking_38 : decode cX1_beginMarking 38 = .ok (.invokevirtual 159, 3) := by decide +kernel
theorem dX1_beginMarking_41 : decode cX1_beginMarking 41 = .ok (.return_, 1) := by decide +kernel
set_option maxRecDepth 20000 in
theorem ggX1_becomeGrey_X5_append : GoodIn wsX1_becomeGrey wsX5_append := goodIn_r _ [7, 8, 9, 28, 29] (by decide +kernel) (by decide +kernel)
set_option maxRecDepth 20000 in
theorem gX1_becomeGrey_X5_append : GoodIn wsX1_becomeGrey (wsV RX1 126 RX5 yX5_append wsX5_append) := goodIn_app (goodIn_of _ (by decide +kernel)) ggX1_becomeGrey_X5_append
theorem dX1_becomeGrey_0 : decode cX1_becomeGrey 0 = .ok (.iload_n 1, 1) := by decide +kernel
theorem dX1_becomeGrey_1 : decode cX1_becomeGrey 1 = .ok (.bipush (-5), 2) := by decide +kernel
theorem dX1_becomeGrey_3 : decode cX1_becomeGrey 3 = .ok (.if_icmp .eq 28, 3) := by decide +kernel
theorem dX1_becomeGrey_6 : decode cX1_becomeGrey 6 = .ok (.aload_n 0, 1) := by decide +kernel
theorem dX1_becomeGrey_7 : decode cX1_becomeGrey 7 = .ok (.getfield 36, 3) := by decide +kernel
theorem dX1_becomeGrey_10 : decode cX1_becomeGrey 10 = .ok (.iload_n 1, 1) := by decide +kernel
theorem dX1_becomeGrey_11 : decode cX1_becomeGrey 11 = .ok (.iaload, 1) := by decide +kernel
theorem dX1_becomeGrey_12 : decode cX1_becomeGrey 12 = .ok (.ifCond .ne 19, 3) := by decide +kernel
theorem dX1_becomeGrey_15 : decode cX1_becomeGrey 15 = .ok (.aload_n 0, 1) := by decide +kernel
theorem dX1_becomeGrey_16 : decode cX1_becomeGrey 16 = .ok (.getfield 36, 3) := by decide +kernel
theorem dX1_becomeGrey_19 : decode cX1_becomeGrey 19 = .ok (.iload_n 1, 1) := by decide +kernel
theorem dX1_becomeGrey_20 : decode cX1_becomeGrey 20 = .ok (.iconst 1, 1) := by decide +kernel
theorem dX1_becomeGrey_21 : decode cX1_becomeGrey 21 = .ok (.iastore, 1) := by decide +kernel
theorem dX1_becomeGrey_22 : decode cX1_becomeGrey 22 = .ok (.aload_n 0, 1) := by decide +kernel
theorem dX1_becomeGrey_23 : decode cX1_becomeGrey 23 = .ok (.getfield 49, 3) := by decide +kernel
theorem dX1_becomeGrey_26 : decode cX1_becomeGrey 26 = .ok (.iload_n 1, 1) := by decide +kernel
theorem dX1_becomeGrey_27 : decode cX1_becomeGrey 27 = .ok (.invokevirtual 126, 3) := by decide +kernel
theorem dX1_becomeGrey_30 : decode cX1_becomeGrey 30 = .ok (.pop, 1) := by decide +kernel
theorem dX1_becomeGrey_31 : decode cX1_becomeGrey 31 = .ok (.return_, 1) := by decide +kernel
set_option maxRecDepth 20000 in
theorem ggX1_markOldest_X5_itemAt : GoodIn wsX1_markOldest wsX5_itemAt := goodIn_r _ [7, 8, 9, 92, 93] (by decide +kernel) (by decide +kernel)
set_option maxRecDepth 20000 in
theorem gX1_markOldest_X5_itemAt : GoodIn wsX1_markOldest (wsV RX1 135 RX5 yX5_itemAt wsX5_itemAt) := goodIn_app (goodIn_of _ (by decide +kernel)) ggX1_markOldest_X5_itemAt
set_option maxRecDepth 20000 in
theorem ggX1_markOldest_X5_drop : GoodIn wsX1_markOldest wsX5_drop := goodIn_r _ [13, 8, 9, 92, 93] (by decide +kernel) (by decide +kernel)
set_option maxRecDepth 20000 in
theorem gX1_markOldest_X5_drop : GoodIn wsX1_markOldest (wsV RX1 141 RX5 yX5_drop wsX5_drop) := goodIn_app (goodIn_of _ (by decide +kernel)) ggX1_markOldest_X5_drop
set_option maxRecDepth 20000 in
theorem ggX1_markOldest_X1_fieldOf : GoodIn wsX1_markOldest wsX1_fieldOf := goodIn_r _ [18, 19, 74, 75, 76, 77, 78, 79, 80, 81, 82, 83, 84, 85, 86, 87, 88, 89, 90, 91] (by decide +kernel) (by decide +kernel)
set_option maxRecDepth 20000 in
theorem gX1_markOldest_X1_fieldOf : GoodIn wsX1_markOldest (wsV RX1 115 RX1 yX1_fieldOf wsX1_fieldOf) := goodIn_app (goodIn_of _ (by decide +kernel)) ggX1_markOldest_X1_fieldOf
set_option maxRecDepth 20000 in
theorem ggX1_markOldest_X1_becomeGrey : GoodIn wsX1_markOldest wsX1_becomeGrey := goodIn_r _ [23, 2, 1, 24, 25, 26, 6, 27, 8, 9, 74, 75, 76, 77, 78, 79, 80, 81, 82, 83, 84, 85, 86, 87, 88, 89, 90, 91, 92, 93] (by decide +kernel) (by decide +kernel)
set_option maxRecDepth 20000 in
theorem gX1_markOldest_X1_becomeGrey : GoodIn wsX1_markOldest (wsV RX1 119 RX1 yX1_becomeGrey wsX1_becomeGrey) := goodIn_app (goodIn_of _ (by decide +kernel)) ggX1_markOldest_X1_becomeGrey
set_option maxRecDepth 20000 in
theorem ggX1_markOldest_X1_endMarkingIfNoneGrey : GoodIn wsX1_markOldest wsX1_endMarkingIfNoneGrey := goodIn_r _ [31, 1, 32, 33, 34, 35, 36, 37, 38, 17, 39, 2, 40, 41, 42, 43, 44, 45, 46, 47, 48, 49, 50, 51, 52, 53, 54, 55, 56, 57, 19, 58, 59, 60, 61, 62, 63, 64, 65, 66, 67, 68, 69, 70, 71, 10, 11, 12, 6, 13, 8, 9, 72, 73, 74, 75, 76, 77, 78, 79, 80, 81, 82, 83, 84, 85, 86, 87, 88, 89, 90, 91, 92, 93] (by decide +kernel) (by decide +kernel)
set_option maxRecDepth 20000 in
theorem gX1_markOldest_X1_endMarkingIfNoneGrey : GoodIn wsX1_markOldest (wsV RX1 159 RX1 yX1_endMarkingIfNoneGrey wsX1_endMarkingIfNoneGrey) := goodIn_app (goodIn_of _ (by decide +kernel)) ggX1_markOldest_X1_endMarkingIfNoneGrey
theorem dX1_markOldest_0 : decode cX1_markOldest 0 = .ok (.aload_n 0, 1) := by decide +kernel
theorem dX1_markOldest_1 : decode cX1_markOldest 1 = .ok (.getfield 49, 3) := by decide +kernel
theorem dX1_markOldest_4 : decode cX1_markOldest 4 = .ok (.iconst 0, 1) := by decide +kernel
theorem dX1_markOldest_5 : decode cX1_markOldest 5 = .ok (.invokevirtual 135, 3) := by decide +kernel
theorem dX1_markOldest_8 : decode cX1_markOldest 8 = .ok (.istore_n 1, 1) := by decide +kernel
theorem dX1_markOldest_9 : decode cX1_markOldest 9 = .ok (.iload_n 1, 1) := by decide +kernel
theorem dX1_markOldest_10 : decode cX1_markOldest 10 = .ok (.bipush (-9), 2) := by decide +kernel
theorem dX1_markOldest_12 : decode cX1_markOldest 12 = .ok (.if_icmp .eq 38, 3) := by decide +kernel
theorem dX1_markOldest_15 : decode cX1_markOldest 15 = .ok (.aload_n 0, 1) := by decide +kernel
theorem dX1_markOldest_16 : decode cX1_markOldest 16 = .ok (.getfield 49, 3) := by decide +kernel
theorem dX1_markOldest_19 : decode cX1_markOldest 19 = .ok (.iload_n 1, 1) := by decide +kernel
theorem dX1_markOldest_20 : decode cX1_markOldest 20 = .ok (.invokevirtual 141, 3) := by decide +kernel
theorem dX1_markOldest_23 : decode cX1_markOldest 23 = .ok (.aload_n 0, 1) := by decide +kernel
theorem dX1_markOldest_24 : decode cX1_markOldest 24 = .ok (.getfield 36, 3) := by decide +kernel
theorem dX1_markOldest_27 : decode cX1_markOldest 27 = .ok (.iload_n 1, 1) := by decide +kernel
theorem dX1_markOldest_28 : decode cX1_markOldest 28 = .ok (.iconst 2, 1) := by decide +kernel
theorem dX1_markOldest_29 : decode cX1_markOldest 29 = .ok (.iastore, 1) := by decide +kernel
theorem dX1_markOldest_30 : decode cX1_markOldest 30 = .ok (.aload_n 0, 1) := by decide +kernel
theorem dX1_markOldest_31 : decode cX1_markOldest 31 = .ok (.aload_n 0, 1) := by decide +kernel
theorem dX1_markOldest_32 : decode cX1_markOldest 32 = .ok (.iload_n 1, 1) := by decide +kernel
theorem dX1_markOldest_33 : decode cX1_markOldest 33 = .ok (.iconst 0, 1) := by decide +kernel
theorem dX1_markOldest_34 : decode cX1_markOldest 34 = .ok (.invokevirtual 115, 3) := by decide +kernel
theorem dX1_markOldest_37 : decode cX1_markOldest 37 = .ok (.invokevirtual 119, 3) := by decide +kernel
theorem dX1_markOldest_40 : decode cX1_markOldest 40 = .ok (.aload_n 0, 1) := by decide +kernel
theorem dX1_markOldest_41 : decode cX1_markOldest 41 = .ok (.aload_n 0, 1) := by decide +kernel
theorem dX1_markOldest_42 : decode cX1_markOldest 42 = .ok (.iload_n 1, 1) := by decide +kernel
theorem dX1_markOldest_43 : decode cX1_markOldest 43 = .ok (.iconst 1, 1) := by decide +kernel
theorem dX1_markOldest_44 : decode cX1_markOldest 44 = .ok (.invokevirtual 115, 3) := by decide +kernel
theorem dX1_markOldest_47 : decode cX1_markOldest 47 = .ok (.invokevirtual 119, 3) := by decide +kernel
theorem dX1_markOldest_50 : decode cX1_markOldest 50 = .ok (.aload_n 0, 1) := by decide +kernel
theorem dX1_markOldest_51 : decode cX1_markOldest 51 = .ok (.invokevirtual 159, 3) := by decide +kernel
theorem dX1_markOldest_54 : decode cX1_markOldest 54 = .ok (.return_, 1) := by decide +kernel
set_option maxRecDepth 20000 in
theorem ggX1_endMarkingIfNoneGrey_X1_blackCells : GoodIn wsX1_endMarkingIfNoneGrey wsX1_blackCells := goodIn_r _ [10, 11, 12, 13, 14, 15, 9, 16, 17, 18, 19, 20, 21, 54, 55, 56, 57, 58, 59, 60, 61, 62, 63, 64, 65, 66, 67, 68, 69, 70, 71] (by decide +kernel) (by decide +kernel)
set_option maxRecDepth 20000 in
theorem gX1_endMarkingIfNoneGrey_X1_blackCells : GoodIn wsX1_endMarkingIfNoneGrey (wsV RX1 162 RX1 yX1_blackCells wsX1_blackCells) := goodIn_app (goodIn_of _ (by decide +kernel)) ggX1_endMarkingIfNoneGrey_X1_blackCells
set_option maxRecDepth 20000 in
theorem ggX1_endMarkingIfNoneGrey_X1_endThingsIn : GoodIn wsX1_endMarkingIfNoneGrey wsX1_endThingsIn := goodIn_r _ [25, 13, 14, 15, 9, 16, 17, 18, 19, 20, 21, 12, 26, 27, 28, 29, 30, 54, 55, 56, 57, 58, 59, 60, 61, 62, 63, 64, 65, 66, 67, 68, 69, 70, 71] (by decide +kernel) (by decide +kernel)
set_option maxRecDepth 20000 in
theorem gX1_endMarkingIfNoneGrey_X1_endThingsIn : GoodIn wsX1_endMarkingIfNoneGrey (wsV RX1 165 RX1 yX1_endThingsIn wsX1_endThingsIn) := goodIn_app (goodIn_of _ (by decide +kernel)) ggX1_endMarkingIfNoneGrey_X1_endThingsIn
set_option maxRecDepth 20000 in
theorem ggX1_endMarkingIfNoneGrey_X1_freeWithRests : GoodIn wsX1_endMarkingIfNoneGrey wsX1_freeWithRests := goodIn_r _ [34, 4, 35, 36, 37, 9, 38, 39, 5, 40, 41, 42, 43, 44, 45, 46, 47, 48, 49, 50, 51, 52, 53, 54, 55, 56, 57, 58, 59, 60, 61, 62, 63, 64, 65, 66, 67, 68, 69, 70, 71, 72, 73] (by decide +kernel) (by decide +kernel)
set_option maxRecDepth 20000 in
theorem gX1_endMarkingIfNoneGrey_X1_freeWithRests : GoodIn wsX1_endMarkingIfNoneGrey (wsV RX1 168 RX1 yX1_freeWithRests wsX1_freeWithRests) := goodIn_app (goodIn_of _ (by decide +kernel)) ggX1_endMarkingIfNoneGrey_X1_freeWithRests
theorem dX1_endMarkingIfNoneGrey_0 : decode cX1_endMarkingIfNoneGrey 0 = .ok (.aload_n 0, 1) := by decide +kernel
theorem dX1_endMarkingIfNoneGrey_1 : decode cX1_endMarkingIfNoneGrey 1 = .ok (.getfield 49, 3) := by decide +kernel
theorem dX1_endMarkingIfNoneGrey_4 : decode cX1_endMarkingIfNoneGrey 4 = .ok (.getfield 132, 3) := by decide +kernel
theorem dX1_endMarkingIfNoneGrey_7 : decode cX1_endMarkingIfNoneGrey 7 = .ok (.ifCond .le 4, 3) := by decide +kernel
theorem dX1_endMarkingIfNoneGrey_10 : decode cX1_endMarkingIfNoneGrey 10 = .ok (.return_, 1) := by decide +kernel
theorem dX1_endMarkingIfNoneGrey_11 : decode cX1_endMarkingIfNoneGrey 11 = .ok (.aload_n 0, 1) := by decide +kernel
theorem dX1_endMarkingIfNoneGrey_12 : decode cX1_endMarkingIfNoneGrey 12 = .ok (.iconst 0, 1) := by decide +kernel
theorem dX1_endMarkingIfNoneGrey_13 : decode cX1_endMarkingIfNoneGrey 13 = .ok (.putfield 83, 3) := by decide +kernel
theorem dX1_endMarkingIfNoneGrey_16 : decode cX1_endMarkingIfNoneGrey 16 = .ok (.iconst 0, 1) := by decide +kernel
theorem dX1_endMarkingIfNoneGrey_17 : decode cX1_endMarkingIfNoneGrey 17 = .ok (.istore_n 1, 1) := by decide +kernel
theorem dX1_endMarkingIfNoneGrey_18 : decode cX1_endMarkingIfNoneGrey 18 = .ok (.iload_n 1, 1) := by decide +kernel
theorem dX1_endMarkingIfNoneGrey_19 : decode cX1_endMarkingIfNoneGrey 19 = .ok (.bipush 10, 2) := by decide +kernel
theorem dX1_endMarkingIfNoneGrey_21 : decode cX1_endMarkingIfNoneGrey 21 = .ok (.if_icmp .ge 30, 3) := by decide +kernel
theorem dX1_endMarkingIfNoneGrey_24 : decode cX1_endMarkingIfNoneGrey 24 = .ok (.aload_n 0, 1) := by decide +kernel
theorem dX1_endMarkingIfNoneGrey_25 : decode cX1_endMarkingIfNoneGrey 25 = .ok (.getfield 9, 3) := by decide +kernel
theorem dX1_endMarkingIfNoneGrey_28 : decode cX1_endMarkingIfNoneGrey 28 = .ok (.iload_n 1, 1) := by decide +kernel
theorem dX1_endMarkingIfNoneGrey_29 : decode cX1_endMarkingIfNoneGrey 29 = .ok (.iaload, 1) := by decide +kernel
theorem dX1_endMarkingIfNoneGrey_30 : decode cX1_endMarkingIfNoneGrey 30 = .ok (.iconst 2, 1) := by decide +kernel
theorem dX1_endMarkingIfNoneGrey_31 : decode cX1_endMarkingIfNoneGrey 31 = .ok (.if_icmp .ne 14, 3) := by decide +kernel
theorem dX1_endMarkingIfNoneGrey_34 : decode cX1_endMarkingIfNoneGrey 34 = .ok (.aload_n 0, 1) := by decide +kernel
theorem dX1_endMarkingIfNoneGrey_35 : decode cX1_endMarkingIfNoneGrey 35 = .ok (.getfield 18, 3) := by decide +kernel
theorem dX1_endMarkingIfNoneGrey_38 : decode cX1_endMarkingIfNoneGrey 38 = .ok (.iload_n 1, 1) := by decide +kernel
theorem dX1_endMarkingIfNoneGrey_39 : decode cX1_endMarkingIfNoneGrey 39 = .ok (.aload_n 0, 1) := by decide +kernel
theorem dX1_endMarkingIfNoneGrey_40 : decode cX1_endMarkingIfNoneGrey 40 = .ok (.iload_n 1, 1) := by decide +kernel
theorem dX1_endMarkingIfNoneGrey_41 : decode cX1_endMarkingIfNoneGrey 41 = .ok (.invokevirtual 162, 3) := by decide +kernel
theorem dX1_endMarkingIfNoneGrey_44 : decode cX1_endMarkingIfNoneGrey 44 = .ok (.iastore, 1) := by decide +kernel
theorem dX1_endMarkingIfNoneGrey_45 : decode cX1_endMarkingIfNoneGrey 45 = .ok (.iinc 1 1, 3) := by decide +kernel
theorem dX1_endMarkingIfNoneGrey_48 : decode cX1_endMarkingIfNoneGrey 48 = .ok (.goto (-30), 3) := by decide +kernel
theorem dX1_endMarkingIfNoneGrey_51 : decode cX1_endMarkingIfNoneGrey 51 = .ok (.iconst 0, 1) := by decide +kernel
theorem dX1_endMarkingIfNoneGrey_52 : decode cX1_endMarkingIfNoneGrey 52 = .ok (.istore_n 1, 1) := by decide +kernel
theorem dX1_endMarkingIfNoneGrey_53 : decode cX1_endMarkingIfNoneGrey 53 = .ok (.iload_n 1, 1) := by decide +kernel
theorem dX1_endMarkingIfNoneGrey_54 : decode cX1_endMarkingIfNoneGrey 54 = .ok (.bipush 10, 2) := by decide +kernel
theorem dX1_endMarkingIfNoneGrey_56 : decode cX1_endMarkingIfNoneGrey 56 = .ok (.if_icmp .ge 47, 3) := by decide +kernel
theorem dX1_endMarkingIfNoneGrey_59 : decode cX1_endMarkingIfNoneGrey 59 = .ok (.aload_n 0, 1) := by decide +kernel
theorem dX1_endMarkingIfNoneGrey_60 : decode cX1_endMarkingIfNoneGrey 60 = .ok (.getfield 9, 3) := by decide +kernel
theorem dX1_endMarkingIfNoneGrey_63 : decode cX1_endMarkingIfNoneGrey 63 = .ok (.iload_n 1, 1) := by decide +kernel
theorem dX1_endMarkingIfNoneGrey_64 : decode cX1_endMarkingIfNoneGrey 64 = .ok (.iaload, 1) := by decide +kernel
theorem dX1_endMarkingIfNoneGrey_65 : decode cX1_endMarkingIfNoneGrey 65 = .ok (.iconst 2, 1) := by decide +kernel
theorem dX1_endMarkingIfNoneGrey_66 : decode cX1_endMarkingIfNoneGrey 66 = .ok (.if_icmp .eq 13, 3) := by decide +kernel
theorem dX1_endMarkingIfNoneGrey_69 : decode cX1_endMarkingIfNoneGrey 69 = .ok (.aload_n 0, 1) := by decide +kernel
theorem dX1_endMarkingIfNoneGrey_70 : decode cX1_endMarkingIfNoneGrey 70 = .ok (.getfield 9, 3) := by decide +kernel
theorem dX1_endMarkingIfNoneGrey_73 : decode cX1_endMarkingIfNoneGrey 73 = .ok (.iload_n 1, 1) := by decide +kernel
theorem dX1_endMarkingIfNoneGrey_74 : decode cX1_endMarkingIfNoneGrey 74 = .ok (.iaload, 1) := by decide +kernel
theorem dX1_endMarkingIfNoneGrey_75 : decode cX1_endMarkingIfNoneGrey 75 = .ok (.iconst 3, 1) := by decide +kernel
theorem dX1_endMarkingIfNoneGrey_76 : decode cX1_endMarkingIfNoneGrey 76 = .ok (.if_icmp .ne 21, 3) := by decide +kernel
theorem dX1_endMarkingIfNoneGrey_79 : decode cX1_endMarkingIfNoneGrey 79 = .ok (.aload_n 0, 1) := by decide +kernel
theorem dX1_endMarkingIfNoneGrey_80 : decode cX1_endMarkingIfNoneGrey 80 = .ok (.iload_n 1, 1) := by decide +kernel
theorem dX1_endMarkingIfNoneGrey_81 : decode cX1_endMarkingIfNoneGrey 81 = .ok (.invokevirtual 162, 3) := by decide +kernel
theorem dX1_endMarkingIfNoneGrey_84 : decode cX1_endMarkingIfNoneGrey 84 = .ok (.ifCond .ne 13, 3) := by decide +kernel
theorem dX1_endMarkingIfNoneGrey_87 : decode cX1_endMarkingIfNoneGrey 87 = .ok (.aload_n 0, 1) := by decide +kernel
theorem dX1_endMarkingIfNoneGrey_88 : decode cX1_endMarkingIfNoneGrey 88 = .ok (.iload_n 1, 1) := by decide +kernel
theorem dX1_endMarkingIfNoneGrey_89 : decode cX1_endMarkingIfNoneGrey 89 = .ok (.invokevirtual 165, 3) := by decide +kernel
theorem dX1_endMarkingIfNoneGrey_92 : decode cX1_endMarkingIfNoneGrey 92 = .ok (.aload_n 0, 1) := by decide +kernel
theorem dX1_endMarkingIfNoneGrey_93 : decode cX1_endMarkingIfNoneGrey 93 = .ok (.iload_n 1, 1) := by decide +kernel
theorem dX1_endMarkingIfNoneGrey_94 : decode cX1_endMarkingIfNoneGrey 94 = .ok (.invokevirtual 168, 3) := by decide +kernel
theorem dX1_endMarkingIfNoneGrey_97 : decode cX1_endMarkingIfNoneGrey 97 = .ok (.iinc 1 1, 3) := by decide +kernel
theorem dX1_endMarkingIfNoneGrey_100 : decode cX1_endMarkingIfNoneGrey 100 = .ok (.goto (-47), 3) := by decide +kernel
theorem dX1_endMarkingIfNoneGrey_103 : decode cX1_endMarkingIfNoneGrey 103 = .ok (.return_, 1) := by decide +kernel
set_option maxRecDepth 20000 in
theorem ggX1_blackCells_X1_isIn : GoodIn wsX1_blackCells wsX1_isIn := goodIn_r _ [7, 8, 9, 10, 11, 6, 12, 2, 13, 14, 15, 16, 17, 18, 19, 20, 21, 22, 23, 24, 25, 26, 27, 28, 29, 30] (by decide +kernel) (by decide +kernel)
set_option maxRecDepth 20000 in
theorem gX1_blackCells_X1_isIn : GoodIn wsX1_blackCells (wsV RX1 94 RX1 yX1_isIn wsX1_isIn) := goodIn_app (goodIn_of _ (by decide +kernel)) ggX1_blackCells_X1_isIn
theorem dX1_blackCells_0 : decode cX1_blackCells 0 = .ok (.iconst 0, 1) := by decide +kernel
theorem dX1_blackCells_1 : decode cX1_blackCells 1 = .ok (.istore_n 2, 1) := by decide +kernel
theorem dX1_blackCells_2 : decode cX1_blackCells 2 = .ok (.iconst 0, 1) := by decide +kernel
theorem dX1_blackCells_3 : decode cX1_blackCells 3 = .ok (.istore_n 3, 1) := by decide +kernel
theorem dX1_blackCells_4 : decode cX1_blackCells 4 = .ok (.iload_n 3, 1) := by decide +kernel
theorem dX1_blackCells_5 : decode cX1_blackCells 5 = .ok (.bipush 32, 2) := by decide +kernel
theorem dX1_blackCells_7 : decode cX1_blackCells 7 = .ok (.if_icmp .ge 37, 3) := by decide +kernel
theorem dX1_blackCells_10 : decode cX1_blackCells 10 = .ok (.aload_n 0, 1) := by decide +kernel
theorem dX1_blackCells_11 : decode cX1_blackCells 11 = .ok (.iload_n 3, 1) := by decide +kernel
theorem dX1_blackCells_12 : decode cX1_blackCells 12 = .ok (.iload_n 1, 1) := by decide +kernel
theorem dX1_blackCells_13 : decode cX1_blackCells 13 = .ok (.invokevirtual 94, 3) := by decide +kernel
theorem dX1_blackCells_16 : decode cX1_blackCells 16 = .ok (.ifCond .eq 22, 3) := by decide +kernel
theorem dX1_blackCells_19 : decode cX1_blackCells 19 = .ok (.aload_n 0, 1) := by decide +kernel
theorem dX1_blackCells_20 : decode cX1_blackCells 20 = .ok (.getfield 36, 3) := by decide +kernel
theorem dX1_blackCells_23 : decode cX1_blackCells 23 = .ok (.iload_n 3, 1) := by decide +kernel
theorem dX1_blackCells_24 : decode cX1_blackCells 24 = .ok (.iaload, 1) := by decide +kernel
theorem dX1_blackCells_25 : decode cX1_blackCells 25 = .ok (.iconst 2, 1) := by decide +kernel
theorem dX1_blackCells_26 : decode cX1_blackCells 26 = .ok (.if_icmp .ne 12, 3) := by decide +kernel
theorem dX1_blackCells_29 : decode cX1_blackCells 29 = .ok (.iload_n 2, 1) := by decide +kernel
theorem dX1_blackCells_30 : decode cX1_blackCells 30 = .ok (.aload_n 0, 1) := by decide +kernel
theorem dX1_blackCells_31 : decode cX1_blackCells 31 = .ok (.getfield 24, 3) := by decide +kernel
theorem dX1_blackCells_34 : decode cX1_blackCells 34 = .ok (.iload_n 3, 1) := by decide +kernel
theorem dX1_blackCells_35 : decode cX1_blackCells 35 = .ok (.iaload, 1) := by decide +kernel
theorem dX1_blackCells_36 : decode cX1_blackCells 36 = .ok (.iadd, 1) := by decide +kernel
theorem dX1_blackCells_37 : decode cX1_blackCells 37 = .ok (.istore_n 2, 1) := by decide +kernel
theorem dX1_blackCells_38 : decode cX1_blackCells 38 = .ok (.iinc 3 1, 3) := by decide +kernel
theorem dX1_blackCells_41 : decode cX1_blackCells 41 = .ok (.goto (-37), 3) := by decide +kernel
theorem dX1_blackCells_44 : decode cX1_blackCells 44 = .ok (.iload_n 2, 1) := by decide +kernel
theorem dX1_blackCells_45 : decode cX1_blackCells 45 = .ok (.ireturn, 1) := by decide +kernel
set_option maxRecDepth 20000 in
theorem ggX1_endThingsIn_X1_isIn : GoodIn wsX1_endThingsIn wsX1_isIn := goodIn_r _ [5, 6, 7, 8, 9, 4, 10, 11, 17, 18, 19, 20, 21, 22, 23, 24, 25, 26, 27, 28, 29, 30, 31, 32, 33, 34] (by decide +kernel) (by decide +kernel)
set_option maxRecDepth 20000 in
theorem gX1_endThingsIn_X1_isIn : GoodIn wsX1_endThingsIn (wsV RX1 94 RX1 yX1_isIn wsX1_isIn) := goodIn_app (goodIn_of _ (by decide +kernel)) ggX1_endThingsIn_X1_isIn
set_option maxRecDepth 20000 in
theorem ggX1_endThingsIn_X1_endThing : GoodIn wsX1_endThingsIn wsX1_endThing := goodIn_r _ [15, 11, 16, 17, 18, 19, 20, 21, 22, 23, 24, 25, 26, 27, 28, 29, 30, 31, 32, 33, 34] (by decide +kernel) (by decide +kernel)
set_option maxRecDepth 20000 in
theorem gX1_endThingsIn_X1_endThing : GoodIn wsX1_endThingsIn (wsV RX1 171 RX1 yX1_endThing wsX1_endThing) := goodIn_app (goodIn_of _ (by decide +kernel)) ggX1_endThingsIn_X1_endThing
theorem dX1_endThingsIn_0 : decode cX1_endThingsIn 0 = .ok (.iconst 0, 1) := by decide +kernel
theorem dX1_endThingsIn_1 : decode cX1_endThingsIn 1 = .ok (.istore_n 2, 1) := by decide +kernel
theorem dX1_endThingsIn_2 : decode cX1_endThingsIn 2 = .ok (.iload_n 2, 1) := by decide +kernel
theorem dX1_endThingsIn_3 : decode cX1_endThingsIn 3 = .ok (.bipush 32, 2) := by decide +kernel
theorem dX1_endThingsIn_5 : decode cX1_endThingsIn 5 = .ok (.if_icmp .ge 23, 3) := by decide +kernel
theorem dX1_endThingsIn_8 : decode cX1_endThingsIn 8 = .ok (.aload_n 0, 1) := by decide +kernel
theorem dX1_endThingsIn_9 : decode cX1_endThingsIn 9 = .ok (.iload_n 2, 1) := by decide +kernel
theorem dX1_endThingsIn_10 : decode cX1_endThingsIn 10 = .ok (.iload_n 1, 1) := by decide +kernel
theorem dX1_endThingsIn_11 : decode cX1_endThingsIn 11 = .ok (.invokevirtual 94, 3) := by decide +kernel
theorem dX1_endThingsIn_14 : decode cX1_endThingsIn 14 = .ok (.ifCond .eq 8, 3) := by decide +kernel
theorem dX1_endThingsIn_17 : decode cX1_endThingsIn 17 = .ok (.aload_n 0, 1) := by decide +kernel
theorem dX1_endThingsIn_18 : decode cX1_endThingsIn 18 = .ok (.iload_n 2, 1) := by decide +kernel
theorem dX1_endThingsIn_19 : decode cX1_endThingsIn 19 = .ok (.invokevirtual 171, 3) := by decide +kernel
theorem dX1_endThingsIn_22 : decode cX1_endThingsIn 22 = .ok (.iinc 2 1, 3) := by decide +kernel
theorem dX1_endThingsIn_25 : decode cX1_endThingsIn 25 = .ok (.goto (-23), 3) := by decide +kernel
theorem dX1_endThingsIn_28 : decode cX1_endThingsIn 28 = .ok (.return_, 1) := by decide +kernel
set_option maxRecDepth 20000 in
theorem ggX2_init_X1_init : GoodIn wsX2_init wsX1_init := goodIn_r _ [10, 11, 2, 3, 12, 13, 14, 15, 16, 17, 18, 19, 20, 21, 22, 23, 24, 25, 26, 27, 28, 29, 30, 31, 32, 33, 34, 35, 36, 37, 38, 39, 40, 44, 45, 46, 47, 48, 49, 50, 51, 52, 53, 54, 55, 56, 57, 58, 59, 60, 61, 62, 63] (by decide +kernel) (by decide +kernel)
set_option maxRecDepth 20000 in
theorem gX2_init_X1_init : GoodIn wsX2_init (wsX1_init) := ggX2_init_X1_init
theorem dX2_init_0 : decode cX2_init 0 = .ok (.aload_n 0, 1) := by decide +kernel
theorem dX2_init_1 : decode cX2_init 1 = .ok (.invokespecial 3, 3) := by decide +kernel
theorem dX2_init_4 : decode cX2_init 4 = .ok (.aload_n 0, 1) := by decide +kernel
theorem dX2_init_5 : decode cX2_init 5 = .ok (.bipush 6, 2) := by decide +kernel
theorem dX2_init_7 : decode cX2_init 7 = .ok (.anewarray 9, 3) := by decide +kernel
theorem dX2_init_10 : decode cX2_init 10 = .ok (.putfield 11, 3) := by decide +kernel
theorem dX2_init_13 : decode cX2_init 13 = .ok (.iconst 0, 1) := by decide +kernel
theorem dX2_init_14 : decode cX2_init 14 = .ok (.istore_n 1, 1) := by decide +kernel
theorem dX2_init_15 : decode cX2_init 15 = .ok (.iload_n 1, 1) := by decide +kernel
theorem dX2_init_16 : decode cX2_init 16 = .ok (.bipush 6, 2) := by decide +kernel
theorem dX2_init_18 : decode cX2_init 18 = .ok (.if_icmp .ge 22, 3) := by decide +kernel
theorem dX2_init_21 : decode cX2_init 21 = .ok (.aload_n 0, 1) := by decide +kernel
theorem dX2_init_22 : decode cX2_init 22 = .ok (.getfield 11, 3) := by decide +kernel
theorem dX2_init_25 : decode cX2_init 25 = .ok (.iload_n 1, 1) := by decide +kernel
theorem dX2_init_26 : decode cX2_init 26 = .ok (.new 9, 3) := by decide +kernel
theorem dX2_init_29 : decode cX2_init 29 = .ok (.dup, 1) := by decide +kernel
theorem dX2_init_30 : decode cX2_init 30 = .ok (.invokespecial 17, 3) := by decide +kernel
theorem dX2_init_33 : decode cX2_init 33 = .ok (.aastore, 1) := by decide +kernel
theorem dX2_init_34 : decode cX2_init 34 = .ok (.iinc 1 1, 3) := by decide +kernel
theorem dX2_init_37 : decode cX2_init 37 = .ok (.goto (-22), 3) := by decide +kernel
theorem dX2_init_40 : decode cX2_init 40 = .ok (.return_, 1) := by decide +kernel
set_option maxRecDepth 20000 in
theorem ggX2_push_X1_becomeLike : GoodIn wsX2_push wsX1_becomeLike := goodIn_r _ [12, 13, 14, 15, 16, 17, 18, 19, 20, 21, 22, 23, 24, 25, 26, 27, 28, 29, 30, 31, 32, 33, 34, 35, 36, 37, 38, 39, 40, 41, 42, 46, 47, 48, 49, 50, 51, 52, 53, 54, 55, 56, 57, 58, 59, 60, 61, 62, 63, 64, 65] (by decide +kernel) (by decide +kernel)
set_option maxRecDepth 20000 in
theorem gX2_push_X1_becomeLike : GoodIn wsX2_push (wsV RX2 22 RX1 yX1_becomeLike wsX1_becomeLike) := goodIn_app (goodIn_of _ (by decide +kernel)) ggX2_push_X1_becomeLike
theorem dX2_push_0 : decode cX2_push 0 = .ok (.aload_n 0, 1) := by decide +kernel
theorem dX2_push_1 : decode cX2_push 1 = .ok (.getfield 11, 3) := by decide +kernel
theorem dX2_push_4 : decode cX2_push 4 = .ok (.aload_n 0, 1) := by decide +kernel
theorem dX2_push_5 : decode cX2_push 5 = .ok (.getfield 18, 3) := by decide +kernel
theorem dX2_push_8 : decode cX2_push 8 = .ok (.aaload, 1) := by decide +kernel
theorem dX2_push_9 : decode cX2_push 9 = .ok (.aload_n 1, 1) := by decide +kernel
theorem dX2_push_10 : decode cX2_push 10 = .ok (.invokevirtual 22, 3) := by decide +kernel
theorem dX2_push_13 : decode cX2_push 13 = .ok (.aload_n 0, 1) := by decide +kernel
theorem dX2_push_14 : decode cX2_push 14 = .ok (.aload_n 0, 1) := by decide +kernel
theorem dX2_push_15 : decode cX2_push 15 = .ok (.getfield 18, 3) := by decide +kernel
theorem dX2_push_18 : decode cX2_push 18 = .ok (.iconst 1, 1) := by decide +kernel
theorem dX2_push_19 : decode cX2_push 19 = .ok (.iadd, 1) := by decide +kernel
theorem dX2_push_20 : decode cX2_push 20 = .ok (.bipush 6, 2) := by decide +kernel
theorem dX2_push_22 : decode cX2_push 22 = .ok (.irem, 1) := by decide +kernel
theorem dX2_push_23 : decode cX2_push 23 = .ok (.putfield 18, 3) := by decide +kernel
theorem dX2_push_26 : decode cX2_push 26 = .ok (.aload_n 0, 1) := by decide +kernel
theorem dX2_push_27 : decode cX2_push 27 = .ok (.aload_n 0, 1) := by decide +kernel
theorem dX2_push_28 : decode cX2_push 28 = .ok (.getfield 26, 3) := by decide +kernel
theorem dX2_push_31 : decode cX2_push 31 = .ok (.iconst 1, 1) := by decide +kernel
theorem dX2_push_32 : decode cX2_push 32 = .ok (.iadd, 1) := by decide +kernel
theorem dX2_push_33 : decode cX2_push 33 = .ok (.bipush 6, 2) := by decide +kernel
theorem dX2_push_35 : decode cX2_push 35 = .ok (.invokestatic 29, 3) := by decide +kernel
theorem dX2_push_38 : decode cX2_push 38 = .ok (.putfield 26, 3) := by decide +kernel
theorem dX2_push_41 : decode cX2_push 41 = .ok (.return_, 1) := by decide +kernel
set_option maxRecDepth 20000 in
theorem ggX2_pop_X1_becomeLike : GoodIn wsX2_pop wsX1_becomeLike := goodIn_r _ [8, 9, 10, 11, 12, 13, 14, 15, 16, 17, 18, 19, 20, 21, 22, 23, 24, 25, 26, 27, 28, 29, 30, 31, 32, 33, 34, 35, 36, 37, 38, 42, 43, 44, 45, 46, 47, 48, 49, 50, 51, 52, 53, 54, 55, 56, 57, 58, 59, 60, 61] (by decide +kernel) (by decide +kernel)
set_option maxRecDepth 20000 in
theorem gX2_pop_X1_becomeLike : GoodIn wsX2_pop (wsV RX2 22 RX1 yX1_becomeLike wsX1_becomeLike) := goodIn_app (goodIn_of _ (by decide +kernel)) ggX2_pop_X1_becomeLike
theorem dX2_pop_0 : decode cX2_pop 0 = .ok (.aload_n 0, 1) := by decide +kernel
theorem dX2_pop_1 : decode cX2_pop 1 = .ok (.aload_n 0, 1) := by decide +kernel
theorem dX2_pop_2 : decode cX2_pop 2 = .ok (.getfield 18, 3) := by decide +kernel
theorem dX2_pop_5 : decode cX2_pop 5 = .ok (.bipush 6, 2) := by decide +kernel
theorem dX2_pop_7 : decode cX2_pop 7 = .ok (.iadd, 1) := by decide +kernel
theorem dX2_pop_8 : decode cX2_pop 8 = .ok (.iconst 1, 1) := by decide +kernel
theorem dX2_pop_9 : decode cX2_pop 9 = .ok (.isub, 1) := by decide +kernel
theorem dX2_pop_10 : decode cX2_pop 10 = .ok (.bipush 6, 2) := by decide +kernel
theorem dX2_pop_12 : decode cX2_pop 12 = .ok (.irem, 1) := by decide +kernel
theorem dX2_pop_13 : decode cX2_pop 13 = .ok (.putfield 18, 3) := by decide +kernel
theorem dX2_pop_16 : decode cX2_pop 16 = .ok (.aload_n 0, 1) := by decide +kernel
theorem dX2_pop_17 : decode cX2_pop 17 = .ok (.dup, 1) := by decide +kernel
theorem dX2_pop_18 : decode cX2_pop 18 = .ok (.getfield 26, 3) := by decide +kernel
theorem dX2_pop_21 : decode cX2_pop 21 = .ok (.iconst 1, 1) := by decide +kernel
theorem dX2_pop_22 : decode cX2_pop 22 = .ok (.isub, 1) := by decide +kernel
theorem dX2_pop_23 : decode cX2_pop 23 = .ok (.putfield 26, 3) := by decide +kernel
theorem dX2_pop_26 : decode cX2_pop 26 = .ok (.aload_n 1, 1) := by decide +kernel
theorem dX2_pop_27 : decode cX2_pop 27 = .ok (.aload_n 0, 1) := by decide +kernel
theorem dX2_pop_28 : decode cX2_pop 28 = .ok (.getfield 11, 3) := by decide +kernel
theorem dX2_pop_31 : decode cX2_pop 31 = .ok (.aload_n 0, 1) := by decide +kernel
theorem dX2_pop_32 : decode cX2_pop 32 = .ok (.getfield 18, 3) := by decide +kernel
theorem dX2_pop_35 : decode cX2_pop 35 = .ok (.aaload, 1) := by decide +kernel
theorem dX2_pop_36 : decode cX2_pop 36 = .ok (.invokevirtual 22, 3) := by decide +kernel
theorem dX2_pop_39 : decode cX2_pop 39 = .ok (.return_, 1) := by decide +kernel
theorem dX2_forget_0 : decode cX2_forget 0 = .ok (.aload_n 0, 1) := by decide +kernel
theorem dX2_forget_1 : decode cX2_forget 1 = .ok (.iconst 0, 1) := by decide +kernel
theorem dX2_forget_2 : decode cX2_forget 2 = .ok (.putfield 26, 3) := by decide +kernel
theorem dX2_forget_5 : decode cX2_forget 5 = .ok (.return_, 1) := by decide +kernel
set_option maxRecDepth 20000 in
theorem ggX3_init_X0_init : GoodIn wsX3_init wsX0_init := goodIn_r _ [13, 14, 2, 3] (by decide +kernel) (by decide +kernel)
set_option maxRecDepth 20000 in
theorem gX3_init_X0_init_n11 : GoodIn wsX3_init (wsX0_init) := ggX3_init_X0_init
set_option maxRecDepth 20000 in
theorem ggX3_init_X5_init : GoodIn wsX3_init wsX5_init := goodIn_r _ [16, 17, 2, 3, 18, 19, 31, 32] (by decide +kernel) (by decide +kernel)
set_option maxRecDepth 20000 in
theorem gX3_init_X5_init_n20 : GoodIn wsX3_init (wsX5_init) := ggX3_init_X5_init
theorem dX3_init_0 : decode cX3_init 0 = .ok (.aload_n 0, 1) := by decide +kernel
theorem dX3_init_1 : decode cX3_init 1 = .ok (.invokespecial 3, 3) := by decide +kernel
theorem dX3_init_4 : decode cX3_init 4 = .ok (.aload_n 0, 1) := by decide +kernel
theorem dX3_init_5 : decode cX3_init 5 = .ok (.new 9, 3) := by decide +kernel
theorem dX3_init_8 : decode cX3_init 8 = .ok (.dup, 1) := by decide +kernel
theorem dX3_init_9 : decode cX3_init 9 = .ok (.invokespecial 11, 3) := by decide +kernel
theorem dX3_init_12 : decode cX3_init 12 = .ok (.putfield 12, 3) := by decide +kernel
theorem dX3_init_15 : decode cX3_init 15 = .ok (.aload_n 0, 1) := by decide +kernel
theorem dX3_init_16 : decode cX3_init 16 = .ok (.new 18, 3) := by decide +kernel
theorem dX3_init_19 : decode cX3_init 19 = .ok (.dup, 1) := by decide +kernel
theorem dX3_init_20 : decode cX3_init 20 = .ok (.invokespecial 20, 3) := by decide +kernel
theorem dX3_init_23 : decode cX3_init 23 = .ok (.putfield 21, 3) := by decide +kernel
theorem dX3_init_26 : decode cX3_init 26 = .ok (.return_, 1) := by decide +kernel
set_option maxRecDepth 20000 in
theorem ggX3_run_X3_forgetLast : GoodIn wsX3_run wsX3_forgetLast := goodIn_r _ [6, 7, 8, 9, 10, 11, 12, 13, 14, 208, 209, 210, 211, 212, 213, 214, 215, 216, 217] (by decide +kernel) (by decide +kernel)
set_option maxRecDepth 20000 in
theorem gX3_run_X3_forgetLast : GoodIn wsX3_run (wsV RX3 25 RX3 yX3_forgetLast wsX3_forgetLast) := goodIn_app (goodIn_of _ (by decide +kernel)) ggX3_run_X3_forgetLast
set_option maxRecDepth 20000 in
theorem ggX3_run_X1_refineOldest : GoodIn wsX3_run wsX1_refineOldest := goodIn_r _ [19, 20, 21, 22, 23, 24, 25, 26, 27, 28, 29, 30, 31, 18, 32, 33, 34, 35, 36, 37, 38, 39, 40, 41, 42, 43, 44, 45, 46, 47, 48, 49, 50, 51, 52, 53, 54, 55, 56, 57, 58, 59, 60, 61, 62, 63, 64, 65, 66, 218, 219, 220, 221, 222, 223, 224, 225, 226, 227, 228, 229, 230, 231, 232, 233, 234, 235, 216, 217] (by decide +kernel) (by decide +kernel)
set_option maxRecDepth 20000 in
theorem gX3_run_X1_refineOldest : GoodIn wsX3_run (wsV RX3 28 RX1 yX1_refineOldest wsX1_refineOldest) := goodIn_app (goodIn_of _ (by decide +kernel)) ggX3_run_X1_refineOldest
set_option maxRecDepth 20000 in
theorem ggX3_run_X0_choose : GoodIn wsX3_run wsX0_choose := goodIn_r _ [71, 72, 73, 74, 75, 76, 77, 78, 79, 80, 81, 82, 70, 83, 84, 85, 86, 87, 88, 89, 53, 90, 236, 237, 238, 218, 219, 220, 221, 222, 223, 224, 225, 226, 227, 228, 229, 230, 231, 232, 233, 234, 235] (by decide +kernel) (by decide +kernel)
set_option maxRecDepth 20000 in
theorem gX3_run_X0_choose : GoodIn wsX3_run (wsV RX3 34 RX0 yX0_choose wsX0_choose) := goodIn_app (goodIn_of _ (by decide +kernel)) ggX3_run_X0_choose
set_option maxRecDepth 20000 in
theorem ggX3_run_X3_findFirst : GoodIn wsX3_run wsX3_findFirst := goodIn_r _ [94, 95, 96, 8, 97, 98, 99, 5, 100, 1, 101, 102, 7, 12, 103, 104, 13, 89, 53, 90, 105, 106, 107, 25, 108, 27, 28, 109, 23, 24, 26, 218, 219, 220, 221, 222, 223, 224, 225, 226, 227, 228, 229, 230, 231, 232, 233, 234, 235, 216, 217, 208, 209, 210, 211, 212, 213, 214, 215, 236, 237, 238] (by decide +kernel) (by decide +kernel)
set_option maxRecDepth 20000 in
theorem gX3_run_X3_findFirst : GoodIn wsX3_run (wsV RX3 38 RX3 yX3_findFirst wsX3_findFirst) := goodIn_app (goodIn_of _ (by decide +kernel)) ggX3_run_X3_findFirst
set_option maxRecDepth 20000 in
theorem ggX3_run_X3_scanCards : GoodIn wsX3_run wsX3_scanCards := goodIn_r _ [113, 1, 101, 10, 114, 89, 53, 90, 65, 66, 115, 116, 117, 5, 118, 119, 120, 121, 18, 122, 51, 123, 124, 125, 126, 50, 41, 42, 43, 44, 45, 127, 128, 129, 130, 131, 56, 57, 58, 59, 97, 98, 99, 100, 102, 7, 12, 103, 104, 13, 105, 106, 107, 25, 108, 27, 28, 208, 209, 210, 211, 212, 213, 214, 215, 236, 237, 238, 218, 219, 220, 221, 222, 223, 224, 225, 226, 227, 228, 229, 230, 231, 232, 233, 234, 235, 216, 217] (by decide +kernel) (by decide +kernel)
set_option maxRecDepth 20000 in
theorem gX3_run_X3_scanCards : GoodIn wsX3_run (wsV RX3 42 RX3 yX3_scanCards wsX3_scanCards) := goodIn_app (goodIn_of _ (by decide +kernel)) ggX3_run_X3_scanCards
set_option maxRecDepth 20000 in
theorem ggX3_run_X3_moveFound : GoodIn wsX3_run wsX3_moveFound := goodIn_r _ [135, 7, 8, 109, 23, 24, 25, 26, 27, 28, 136, 137, 138, 5, 139, 9, 103, 11, 104, 14, 140, 141, 142, 18, 143, 144, 145, 146, 147, 148, 149, 150, 151, 152, 153, 50, 51, 45, 127, 128, 129, 130, 131, 56, 57, 58, 59, 97, 98, 99, 100, 1, 101, 102, 12, 13, 89, 53, 90, 105, 106, 107, 108, 208, 209, 210, 211, 212, 213, 214, 215, 216, 217, 218, 219, 220, 221, 222, 223, 224, 225, 226, 227, 228, 229, 230, 231, 232, 233, 234, 235, 236, 237, 238] (by decide +kernel) (by decide +kernel)
set_option maxRecDepth 20000 in
theorem gX3_run_X3_moveFound : GoodIn wsX3_run (wsV RX3 45 RX3 yX3_moveFound wsX3_moveFound) := goodIn_app (goodIn_of _ (by decide +kernel)) ggX3_run_X3_moveFound
set_option maxRecDepth 20000 in
theorem ggX3_run_X3_dirtyMoved : GoodIn wsX3_run wsX3_dirtyMoved := goodIn_r _ [157, 7, 8, 158, 10, 109, 23, 24, 25, 26, 27, 28, 159, 47, 48, 18, 49, 50, 51, 52, 53, 54, 105, 106, 107, 108, 89, 90, 208, 209, 210, 211, 212, 213, 214, 215, 216, 217, 218, 219, 220, 221, 222, 223, 224, 225, 226, 227, 228, 229, 230, 231, 232, 233, 234, 235] (by decide +kernel) (by decide +kernel)
set_option maxRecDepth 20000 in
theorem gX3_run_X3_dirtyMoved : GoodIn wsX3_run (wsV RX3 48 RX3 yX3_dirtyMoved wsX3_dirtyMoved) := goodIn_app (goodIn_of _ (by decide +kernel)) ggX3_run_X3_dirtyMoved
set_option maxRecDepth 20000 in
theorem ggX3_run_X3_sweepChosen : GoodIn wsX3_run wsX3_sweepChosen := goodIn_r _ [163, 1, 101, 164, 89, 53, 90, 165, 166, 167, 5, 168, 11, 104, 169, 170, 124, 125, 18, 126, 50, 41, 42, 43, 44, 45, 171, 172, 173, 174, 59, 175, 176, 177, 178, 123, 179, 180, 181, 182, 149, 183, 184, 185, 186, 144, 187, 64, 20, 52, 54, 33, 34, 35, 25, 36, 27, 28, 188, 189, 208, 209, 210, 211, 212, 213, 214, 215, 236, 237, 238, 218, 219, 220, 221, 222, 223, 224, 225, 226, 227, 228, 229, 230, 231, 232, 233, 234, 235, 216, 217] (by decide +kernel) (by decide +kernel)
set_option maxRecDepth 20000 in
theorem gX3_run_X3_sweepChosen : GoodIn wsX3_run (wsV RX3 51 RX3 yX3_sweepChosen wsX3_sweepChosen) := goodIn_app (goodIn_of _ (by decide +kernel)) ggX3_run_X3_sweepChosen
set_option maxRecDepth 20000 in
theorem ggX3_run_X3_tellCost : GoodIn wsX3_run wsX3_tellCost := goodIn_r _ [193, 14, 10, 11, 12, 194, 195, 196, 1, 197, 198, 13, 199, 200, 201, 202, 203, 204, 205, 206, 207, 208, 209, 210, 211, 212, 213, 214, 215, 218, 219, 220, 221, 222, 223, 224, 225, 226, 227, 228, 229, 230, 231, 232, 233, 234, 235, 236, 237, 238] (by decide +kernel) (by decide +kernel)
set_option maxRecDepth 20000 in
theorem gX3_run_X3_tellCost : GoodIn wsX3_run (wsV RX3 54 RX3 yX3_tellCost wsX3_tellCost) := goodIn_app (goodIn_of _ (by decide +kernel)) ggX3_run_X3_tellCost
theorem dX3_run_0 : decode cX3_run 0 = .ok (.aload_n 0, 1) := by decide +kernel
theorem dX3_run_1 : decode cX3_run 1 = .ok (.invokevirtual 25, 3) := by decide +kernel
theorem dX3_run_4 : decode cX3_run 4 = .ok (.aload_n 1, 1) := by decide +kernel
theorem dX3_run_5 : decode cX3_run 5 = .ok (.bipush 20, 2) := by decide +kernel
theorem dX3_run_7 : decode cX3_run 7 = .ok (.invokevirtual 28, 3) := by decide +kernel
theorem dX3_run_10 : decode cX3_run 10 = .ok (.pop, 1) := by decide +kernel
theorem dX3_run_11 : decode cX3_run 11 = .ok (.aload_n 0, 1) := by decide +kernel
theorem dX3_run_12 : decode cX3_run 12 = .ok (.getfield 12, 3) := by decide +kernel
theorem dX3_run_15 : decode cX3_run 15 = .ok (.aload_n 1, 1) := by decide +kernel
theorem dX3_run_16 : decode cX3_run 16 = .ok (.iload_n 2, 1) := by decide +kernel
theorem dX3_run_17 : decode cX3_run 17 = .ok (.invokevirtual 34, 3) := by decide +kernel
theorem dX3_run_20 : decode cX3_run 20 = .ok (.aload_n 0, 1) := by decide +kernel
theorem dX3_run_21 : decode cX3_run 21 = .ok (.aload_n 1, 1) := by decide +kernel
theorem dX3_run_22 : decode cX3_run 22 = .ok (.invokevirtual 38, 3) := by decide +kernel
theorem dX3_run_25 : decode cX3_run 25 = .ok (.aload_n 0, 1) := by decide +kernel
theorem dX3_run_26 : decode cX3_run 26 = .ok (.aload_n 1, 1) := by decide +kernel
theorem dX3_run_27 : decode cX3_run 27 = .ok (.invokevirtual 42, 3) := by decide +kernel
theorem dX3_run_30 : decode cX3_run 30 = .ok (.aload_n 0, 1) := by decide +kernel
theorem dX3_run_31 : decode cX3_run 31 = .ok (.aload_n 1, 1) := by decide +kernel
theorem dX3_run_32 : decode cX3_run 32 = .ok (.invokevirtual 45, 3) := by decide +kernel
theorem dX3_run_35 : decode cX3_run 35 = .ok (.aload_n 0, 1) := by decide +kernel
theorem dX3_run_36 : decode cX3_run 36 = .ok (.aload_n 1, 1) := by decide +kernel
theorem dX3_run_37 : decode cX3_run 37 = .ok (.invokevirtual 48, 3) := by decide +kernel
theorem dX3_run_40 : decode cX3_run 40 = .ok (.aload_n 0, 1) := by decide +kernel
theorem dX3_run_41 : decode cX3_run 41 = .ok (.aload_n 1, 1) := by decide +kernel
theorem dX3_run_42 : decode cX3_run 42 = .ok (.invokevirtual 51, 3) := by decide +kernel
theorem dX3_run_45 : decode cX3_run 45 = .ok (.aload_n 0, 1) := by decide +kernel
theorem dX3_run_46 : decode cX3_run 46 = .ok (.aload_n 1, 1) := by decide +kernel
theorem dX3_run_47 : decode cX3_run 47 = .ok (.invokevirtual 54, 3) := by decide +kernel
theorem dX3_run_50 : decode cX3_run 50 = .ok (.ireturn, 1) := by decide +kernel
theorem dX3_forgetLast_0 : decode cX3_forgetLast 0 = .ok (.aload_n 0, 1) := by decide +kernel
theorem dX3_forgetLast_1 : decode cX3_forgetLast 1 = .ok (.getfield 21, 3) := by decide +kernel
theorem dX3_forgetLast_4 : decode cX3_forgetLast 4 = .ok (.iconst 0, 1) := by decide +kernel
theorem dX3_forgetLast_5 : decode cX3_forgetLast 5 = .ok (.putfield 58, 3) := by decide +kernel
theorem dX3_forgetLast_8 : decode cX3_forgetLast 8 = .ok (.aload_n 0, 1) := by decide +kernel
theorem dX3_forgetLast_9 : decode cX3_forgetLast 9 = .ok (.bipush (-9), 2) := by decide +kernel
theorem dX3_forgetLast_11 : decode cX3_forgetLast 11 = .ok (.putfield 62, 3) := by decide +kernel
theorem dX3_forgetLast_14 : decode cX3_forgetLast 14 = .ok (.aload_n 0, 1) := by decide +kernel
theorem dX3_forgetLast_15 : decode cX3_forgetLast 15 = .ok (.iconst 0, 1) := by decide +kernel
theorem dX3_forgetLast_16 : decode cX3_forgetLast 16 = .ok (.putfield 65, 3) := by decide +kernel
theorem dX3_forgetLast_19 : decode cX3_forgetLast 19 = .ok (.aload_n 0, 1) := by decide +kernel
theorem dX3_forgetLast_20 : decode cX3_forgetLast 20 = .ok (.iconst 0, 1) := by decide +kernel
theorem dX3_forgetLast_21 : decode cX3_forgetLast 21 = .ok (.putfield 68, 3) := by decide +kernel
theorem dX3_forgetLast_24 : decode cX3_forgetLast 24 = .ok (.aload_n 0, 1) := by decide +kernel
theorem dX3_forgetLast_25 : decode cX3_forgetLast 25 = .ok (.iconst 0, 1) := by decide +kernel
theorem dX3_forgetLast_26 : decode cX3_forgetLast 26 = .ok (.putfield 71, 3) := by decide +kernel
theorem dX3_forgetLast_29 : decode cX3_forgetLast 29 = .ok (.aload_n 0, 1) := by decide +kernel
theorem dX3_forgetLast_30 : decode cX3_forgetLast 30 = .ok (.iconst 0, 1) := by decide +kernel
theorem dX3_forgetLast_31 : decode cX3_forgetLast 31 = .ok (.putfield 74, 3) := by decide +kernel
theorem dX3_forgetLast_34 : decode cX3_forgetLast 34 = .ok (.aload_n 0, 1) := by decide +kernel
theorem dX3_forgetLast_35 : decode cX3_forgetLast 35 = .ok (.iconst 0, 1) := by decide +kernel
theorem dX3_forgetLast_36 : decode cX3_forgetLast 36 = .ok (.putfield 77, 3) := by decide +kernel
theorem dX3_forgetLast_39 : decode cX3_forgetLast 39 = .ok (.return_, 1) := by decide +kernel
set_option maxRecDepth 20000 in
theorem ggX3_find_X6_hasBit : GoodIn wsX3_find wsX6_hasBit := goodIn_r _ [11] (by decide +kernel) (by decide +kernel)
set_option maxRecDepth 20000 in
theorem gX3_find_X6_hasBit_n87 : GoodIn wsX3_find (wsX6_hasBit) := ggX3_find_X6_hasBit
set_option maxRecDepth 20000 in
theorem ggX3_find_X5_append : GoodIn wsX3_find wsX5_append := goodIn_r _ [16, 17, 18, 48, 49] (by decide +kernel) (by decide +kernel)
set_option maxRecDepth 20000 in
theorem gX3_find_X5_append : GoodIn wsX3_find (wsV RX3 91 RX5 yX5_append wsX5_append) := goodIn_app (goodIn_of _ (by decide +kernel)) ggX3_find_X5_append
theorem dX3_find_0 : decode cX3_find 0 = .ok (.iload_n 2, 1) := by decide +kernel
theorem dX3_find_1 : decode cX3_find 1 = .ok (.bipush (-5), 2) := by decide +kernel
theorem dX3_find_3 : decode cX3_find 3 = .ok (.if_icmp .eq 33, 3) := by decide +kernel
theorem dX3_find_6 : decode cX3_find 6 = .ok (.aload_n 0, 1) := by decide +kernel
theorem dX3_find_7 : decode cX3_find 7 = .ok (.getfield 12, 3) := by decide +kernel
theorem dX3_find_10 : decode cX3_find 10 = .ok (.getfield 80, 3) := by decide +kernel
theorem dX3_find_13 : decode cX3_find 13 = .ok (.aload_n 1, 1) := by decide +kernel
theorem dX3_find_14 : decode cX3_find 14 = .ok (.getfield 83, 3) := by decide +kernel
theorem dX3_find_17 : decode cX3_find 17 = .ok (.iload_n 2, 1) := by decide +kernel
theorem dX3_find_18 : decode cX3_find 18 = .ok (.iaload, 1) := by decide +kernel
theorem dX3_find_19 : decode cX3_find 19 = .ok (.invokestatic 87, 3) := by decide +kernel
theorem dX3_find_22 : decode cX3_find 22 = .ok (.ifCond .eq 14, 3) := by decide +kernel
theorem dX3_find_25 : decode cX3_find 25 = .ok (.aload_n 0, 1) := by decide +kernel
theorem dX3_find_26 : decode cX3_find 26 = .ok (.getfield 21, 3) := by decide +kernel
theorem dX3_find_29 : decode cX3_find 29 = .ok (.iload_n 2, 1) := by decide +kernel
theorem dX3_find_30 : decode cX3_find 30 = .ok (.invokevirtual 91, 3) := by decide +kernel
theorem dX3_find_33 : decode cX3_find 33 = .ok (.ifCond .ne 4, 3) := by decide +kernel
theorem dX3_find_36 : decode cX3_find 36 = .ok (.return_, 1) := by decide +kernel
theorem dX3_find_37 : decode cX3_find 37 = .ok (.aload_n 0, 1) := by decide +kernel
theorem dX3_find_38 : decode cX3_find 38 = .ok (.dup, 1) := by decide +kernel
theorem dX3_find_39 : decode cX3_find 39 = .ok (.getfield 71, 3) := by decide +kernel
theorem dX3_find_42 : decode cX3_find 42 = .ok (.aload_n 1, 1) := by decide +kernel
theorem dX3_find_43 : decode cX3_find 43 = .ok (.getfield 95, 3) := by decide +kernel
theorem dX3_find_46 : decode cX3_find 46 = .ok (.iload_n 2, 1) := by decide +kernel
theorem dX3_find_47 : decode cX3_find 47 = .ok (.iaload, 1) := by decide +kernel
theorem dX3_find_48 : decode cX3_find 48 = .ok (.iadd, 1) := by decide +kernel
theorem dX3_find_49 : decode cX3_find 49 = .ok (.putfield 71, 3) := by decide +kernel
theorem dX3_find_52 : decode cX3_find 52 = .ok (.aload_n 1, 1) := by decide +kernel
theorem dX3_find_53 : decode cX3_find 53 = .ok (.getfield 98, 3) := by decide +kernel
theorem dX3_find_56 : decode cX3_find 56 = .ok (.aload_n 1, 1) := by decide +kernel
theorem dX3_find_57 : decode cX3_find 57 = .ok (.getfield 83, 3) := by decide +kernel
theorem dX3_find_60 : decode cX3_find 60 = .ok (.iload_n 2, 1) := by decide +kernel
theorem dX3_find_61 : decode cX3_find 61 = .ok (.iaload, 1) := by decide +kernel
theorem dX3_find_62 : decode cX3_find 62 = .ok (.iaload, 1) := by decide +kernel
theorem dX3_find_63 : decode cX3_find 63 = .ok (.iconst 1, 1) := by decide +kernel
theorem dX3_find_64 : decode cX3_find 64 = .ok (.if_icmp .ne 18, 3) := by decide +kernel
theorem dX3_find_67 : decode cX3_find 67 = .ok (.aload_n 0, 1) := by decide +kernel
theorem dX3_find_68 : decode cX3_find 68 = .ok (.dup, 1) := by decide +kernel
theorem dX3_find_69 : decode cX3_find 69 = .ok (.getfield 74, 3) := by decide +kernel
theorem dX3_find_72 : decode cX3_find 72 = .ok (.aload_n 1, 1) := by decide +kernel
theorem dX3_find_73 : decode cX3_find 73 = .ok (.getfield 95, 3) := by decide +kernel
theorem dX3_find_76 : decode cX3_find 76 = .ok (.iload_n 2, 1) := by decide +kernel
theorem dX3_find_77 : decode cX3_find 77 = .ok (.iaload, 1) := by decide +kernel
theorem dX3_find_78 : decode cX3_find 78 = .ok (.iadd, 1) := by decide +kernel
theorem dX3_find_79 : decode cX3_find 79 = .ok (.putfield 74, 3) := by decide +kernel
theorem dX3_find_82 : decode cX3_find 82 = .ok (.return_, 1) := by decide +kernel
set_option maxRecDepth 20000 in
theorem ggX3_findFirst_X3_find : GoodIn wsX3_findFirst wsX3_find := goodIn_r _ [8, 9, 10, 11, 12, 13, 14, 15, 16, 17, 18, 19, 20, 21, 22, 23, 24, 25, 26, 51, 52, 53, 54, 55, 56, 57, 58, 59, 60, 61, 31, 32, 33, 34, 35, 36, 37, 38, 39, 40, 41, 42, 43, 44, 45, 46, 47, 48, 49, 50] (by decide +kernel) (by decide +kernel)
set_option maxRecDepth 20000 in
theorem gX3_findFirst_X3_find : GoodIn wsX3_findFirst (wsV RX3 104 RX3 yX3_find wsX3_find) := goodIn_app (goodIn_of _ (by decide +kernel)) ggX3_findFirst_X3_find
set_option maxRecDepth 20000 in
theorem ggX3_findFirst_X5_itemAt : GoodIn wsX3_findFirst wsX5_itemAt := goodIn_r _ [30, 25, 26, 49, 50] (by decide +kernel) (by decide +kernel)
set_option maxRecDepth 20000 in
theorem gX3_findFirst_X5_itemAt : GoodIn wsX3_findFirst (wsV RX3 110 RX5 yX5_itemAt wsX5_itemAt) := goodIn_app (goodIn_of _ (by decide +kernel)) ggX3_findFirst_X5_itemAt
theorem dX3_findFirst_0 : decode cX3_findFirst 0 = .ok (.iconst 0, 1) := by decide +kernel
theorem dX3_findFirst_1 : decode cX3_findFirst 1 = .ok (.istore_n 2, 1) := by decide +kernel
theorem dX3_findFirst_2 : decode cX3_findFirst 2 = .ok (.iload_n 2, 1) := by decide +kernel
theorem dX3_findFirst_3 : decode cX3_findFirst 3 = .ok (.bipush 6, 2) := by decide +kernel
theorem dX3_findFirst_5 : decode cX3_findFirst 5 = .ok (.if_icmp .ge 20, 3) := by decide +kernel
theorem dX3_findFirst_8 : decode cX3_findFirst 8 = .ok (.aload_n 0, 1) := by decide +kernel
theorem dX3_findFirst_9 : decode cX3_findFirst 9 = .ok (.aload_n 1, 1) := by decide +kernel
theorem dX3_findFirst_10 : decode cX3_findFirst 10 = .ok (.aload_n 1, 1) := by decide +kernel
theorem dX3_findFirst_11 : decode cX3_findFirst 11 = .ok (.getfield 101, 3) := by decide +kernel
theorem dX3_findFirst_14 : decode cX3_findFirst 14 = .ok (.iload_n 2, 1) := by decide +kernel
theorem dX3_findFirst_15 : decode cX3_findFirst 15 = .ok (.iaload, 1) := by decide +kernel
theorem dX3_findFirst_16 : decode cX3_findFirst 16 = .ok (.invokevirtual 104, 3) := by decide +kernel
theorem dX3_findFirst_19 : decode cX3_findFirst 19 = .ok (.iinc 2 1, 3) := by decide +kernel
theorem dX3_findFirst_22 : decode cX3_findFirst 22 = .ok (.goto (-20), 3) := by decide +kernel
theorem dX3_findFirst_25 : decode cX3_findFirst 25 = .ok (.iconst 0, 1) := by decide +kernel
theorem dX3_findFirst_26 : decode cX3_findFirst 26 = .ok (.istore_n 2, 1) := by decide +kernel
theorem dX3_findFirst_27 : decode cX3_findFirst 27 = .ok (.iload_n 2, 1) := by decide +kernel
theorem dX3_findFirst_28 : decode cX3_findFirst 28 = .ok (.bipush 32, 2) := by decide +kernel
theorem dX3_findFirst_30 : decode cX3_findFirst 30 = .ok (.if_icmp .ge 33, 3) := by decide +kernel
theorem dX3_findFirst_33 : decode cX3_findFirst 33 = .ok (.iload_n 2, 1) := by decide +kernel
theorem dX3_findFirst_34 : decode cX3_findFirst 34 = .ok (.aload_n 1, 1) := by decide +kernel
theorem dX3_findFirst_35 : decode cX3_findFirst 35 = .ok (.getfield 107, 3) := by decide +kernel
theorem dX3_findFirst_38 : decode cX3_findFirst 38 = .ok (.getfield 58, 3) := by decide +kernel
theorem dX3_findFirst_41 : decode cX3_findFirst 41 = .ok (.if_icmp .ge 22, 3) := by decide +kernel
theorem dX3_findFirst_44 : decode cX3_findFirst 44 = .ok (.aload_n 0, 1) := by decide +kernel
theorem dX3_findFirst_45 : decode cX3_findFirst 45 = .ok (.aload_n 1, 1) := by decide +kernel
theorem dX3_findFirst_46 : decode cX3_findFirst 46 = .ok (.aload_n 1, 1) := by decide +kernel
theorem dX3_findFirst_47 : decode cX3_findFirst 47 = .ok (.getfield 107, 3) := by decide +kernel
theorem dX3_findFirst_50 : decode cX3_findFirst 50 = .ok (.iload_n 2, 1) := by decide +kernel
theorem dX3_findFirst_51 : decode cX3_findFirst 51 = .ok (.invokevirtual 110, 3) := by decide +kernel
theorem dX3_findFirst_54 : decode cX3_findFirst 54 = .ok (.invokevirtual 104, 3) := by decide +kernel
theorem dX3_findFirst_57 : decode cX3_findFirst 57 = .ok (.iinc 2 1, 3) := by decide +kernel
theorem dX3_findFirst_60 : decode cX3_findFirst 60 = .ok (.goto (-33), 3) := by decide +kernel
theorem dX3_findFirst_63 : decode cX3_findFirst 63 = .ok (.return_, 1) := by decide +kernel
set_option maxRecDepth 20000 in
theorem ggX3_scanCards_X6_hasBit : GoodIn wsX3_scanCards wsX6_hasBit := goodIn_r _ [7] (by decide +kernel) (by decide +kernel)
set_option maxRecDepth 20000 in
theorem gX3_scanCards_X6_hasBit_n87 : GoodIn wsX3_scanCards (wsX6_hasBit) := ggX3_scanCards_X6_hasBit
set_option maxRecDepth 20000 in
theorem ggX3_scanCards_X6_regionOfCard : GoodIn wsX3_scanCards wsX6_regionOfCard := goodIn_r _ [9] (by decide +kernel) (by decide +kernel)
set_option maxRecDepth 20000 in
theorem gX3_scanCards_X6_regionOfCard_n116 : GoodIn wsX3_scanCards (wsX6_regionOfCard) := ggX3_scanCards_X6_regionOfCard
set_option maxRecDepth 20000 in
theorem ggX3_scanCards_X3_scanCard : GoodIn wsX3_scanCards wsX3_scanCard := goodIn_r _ [14, 8, 6, 9, 15, 16, 17, 18, 19, 20, 21, 22, 23, 24, 25, 26, 27, 28, 29, 30, 31, 32, 33, 13, 34, 35, 36, 37, 38, 39, 40, 41, 42, 43, 1, 2, 44, 45, 46, 47, 48, 49, 5, 7, 50, 51, 52, 53, 54, 55, 56, 68, 69, 70, 71, 72, 73, 74, 75, 76, 77, 78, 79, 80, 81, 82, 83, 84, 85, 57, 58, 59, 60, 61, 62, 63, 64, 65, 66, 67, 86, 87] (by decide +kernel) (by decide +kernel)
set_option maxRecDepth 20000 in
theorem gX3_scanCards_X3_scanCard : GoodIn wsX3_scanCards (wsV RX3 119 RX3 yX3_scanCard wsX3_scanCard) := goodIn_app (goodIn_of _ (by decide +kernel)) ggX3_scanCards_X3_scanCard
theorem dX3_scanCards_0 : decode cX3_scanCards 0 = .ok (.iconst 0, 1) := by decide +kernel
theorem dX3_scanCards_1 : decode cX3_scanCards 1 = .ok (.istore_n 2, 1) := by decide +kernel
theorem dX3_scanCards_2 : decode cX3_scanCards 2 = .ok (.iload_n 2, 1) := by decide +kernel
theorem dX3_scanCards_3 : decode cX3_scanCards 3 = .ok (.bipush 10, 2) := by decide +kernel
theorem dX3_scanCards_5 : decode cX3_scanCards 5 = .ok (.if_icmp .ge 38, 3) := by decide +kernel
theorem dX3_scanCards_8 : decode cX3_scanCards 8 = .ok (.aload_n 0, 1) := by decide +kernel
theorem dX3_scanCards_9 : decode cX3_scanCards 9 = .ok (.getfield 12, 3) := by decide +kernel
theorem dX3_scanCards_12 : decode cX3_scanCards 12 = .ok (.getfield 80, 3) := by decide +kernel
theorem dX3_scanCards_15 : decode cX3_scanCards 15 = .ok (.iload_n 2, 1) := by decide +kernel
theorem dX3_scanCards_16 : decode cX3_scanCards 16 = .ok (.invokestatic 87, 3) := by decide +kernel
theorem dX3_scanCards_19 : decode cX3_scanCards 19 = .ok (.ifCond .eq 18, 3) := by decide +kernel
theorem dX3_scanCards_22 : decode cX3_scanCards 22 = .ok (.aload_n 0, 1) := by decide +kernel
theorem dX3_scanCards_23 : decode cX3_scanCards 23 = .ok (.dup, 1) := by decide +kernel
theorem dX3_scanCards_24 : decode cX3_scanCards 24 = .ok (.getfield 65, 3) := by decide +kernel
theorem dX3_scanCards_27 : decode cX3_scanCards 27 = .ok (.aload_n 1, 1) := by decide +kernel
theorem dX3_scanCards_28 : decode cX3_scanCards 28 = .ok (.getfield 113, 3) := by decide +kernel
theorem dX3_scanCards_31 : decode cX3_scanCards 31 = .ok (.iload_n 2, 1) := by decide +kernel
theorem dX3_scanCards_32 : decode cX3_scanCards 32 = .ok (.iaload, 1) := by decide +kernel
theorem dX3_scanCards_33 : decode cX3_scanCards 33 = .ok (.ior, 1) := by decide +kernel
theorem dX3_scanCards_34 : decode cX3_scanCards 34 = .ok (.putfield 65, 3) := by decide +kernel
theorem dX3_scanCards_37 : decode cX3_scanCards 37 = .ok (.iinc 2 1, 3) := by decide +kernel
theorem dX3_scanCards_40 : decode cX3_scanCards 40 = .ok (.goto (-38), 3) := by decide +kernel
theorem dX3_scanCards_43 : decode cX3_scanCards 43 = .ok (.iconst 0, 1) := by decide +kernel
theorem dX3_scanCards_44 : decode cX3_scanCards 44 = .ok (.istore_n 2, 1) := by decide +kernel
theorem dX3_scanCards_45 : decode cX3_scanCards 45 = .ok (.iload_n 2, 1) := by decide +kernel
theorem dX3_scanCards_46 : decode cX3_scanCards 46 = .ok (.bipush 20, 2) := by decide +kernel
theorem dX3_scanCards_48 : decode cX3_scanCards 48 = .ok (.if_icmp .ge 60, 3) := by decide +kernel
theorem dX3_scanCards_51 : decode cX3_scanCards 51 = .ok (.aload_n 0, 1) := by decide +kernel
theorem dX3_scanCards_52 : decode cX3_scanCards 52 = .ok (.getfield 12, 3) := by decide +kernel
theorem dX3_scanCards_55 : decode cX3_scanCards 55 = .ok (.getfield 80, 3) := by decide +kernel
theorem dX3_scanCards_58 : decode cX3_scanCards 58 = .ok (.iload_n 2, 1) := by decide +kernel
theorem dX3_scanCards_59 : decode cX3_scanCards 59 = .ok (.invokestatic 116, 3) := by decide +kernel
theorem dX3_scanCards_62 : decode cX3_scanCards 62 = .ok (.invokestatic 87, 3) := by decide +kernel
theorem dX3_scanCards_65 : decode cX3_scanCards 65 = .ok (.ifCond .eq 20, 3) := by decide +kernel
theorem dX3_scanCards_68 : decode cX3_scanCards 68 = .ok (.aload_n 0, 1) := by decide +kernel
theorem dX3_scanCards_69 : decode cX3_scanCards 69 = .ok (.dup, 1) := by decide +kernel
theorem dX3_scanCards_70 : decode cX3_scanCards 70 = .ok (.getfield 65, 3) := by decide +kernel
theorem dX3_scanCards_73 : decode cX3_scanCards 73 = .ok (.iconst 1, 1) := by decide +kernel
theorem dX3_scanCards_74 : decode cX3_scanCards 74 = .ok (.iload_n 2, 1) := by decide +kernel
theorem dX3_scanCards_75 : decode cX3_scanCards 75 = .ok (.ishl, 1) := by decide +kernel
theorem dX3_scanCards_76 : decode cX3_scanCards 76 = .ok (.iconst (-1), 1) := by decide +kernel
theorem dX3_scanCards_77 : decode cX3_scanCards 77 = .ok (.ixor, 1) := by decide +kernel
theorem dX3_scanCards_78 : decode cX3_scanCards 78 = .ok (.iand, 1) := by decide +kernel
theorem dX3_scanCards_79 : decode cX3_scanCards 79 = .ok (.putfield 65, 3) := by decide +kernel
theorem dX3_scanCards_82 : decode cX3_scanCards 82 = .ok (.goto 20, 3) := by decide +kernel
theorem dX3_scanCards_85 : decode cX3_scanCards 85 = .ok (.aload_n 0, 1) := by decide +kernel
theorem dX3_scanCards_86 : decode cX3_scanCards 86 = .ok (.getfield 65, 3) := by decide +kernel
theorem dX3_scanCards_89 : decode cX3_scanCards 89 = .ok (.iload_n 2, 1) := by decide +kernel
theorem dX3_scanCards_90 : decode cX3_scanCards 90 = .ok (.invokestatic 87, 3) := by decide +kernel
theorem dX3_scanCards_93 : decode cX3_scanCards 93 = .ok (.ifCond .eq 9, 3) := by decide +kernel
theorem dX3_scanCards_96 : decode cX3_scanCards 96 = .ok (.aload_n 0, 1) := by decide +kernel
theorem dX3_scanCards_97 : decode cX3_scanCards 97 = .ok (.aload_n 1, 1) := by decide +kernel
theorem dX3_scanCards_98 : decode cX3_scanCards 98 = .ok (.iload_n 2, 1) := by decide +kernel
theorem dX3_scanCards_99 : decode cX3_scanCards 99 = .ok (.invokevirtual 119, 3) := by decide +kernel
theorem dX3_scanCards_102 : decode cX3_scanCards 102 = .ok (.iinc 2 1, 3) := by decide +kernel
theorem dX3_scanCards_105 : decode cX3_scanCards 105 = .ok (.goto (-60), 3) := by decide +kernel
theorem dX3_scanCards_108 : decode cX3_scanCards 108 = .ok (.return_, 1) := by decide +kernel
set_option maxRecDepth 20000 in
theorem ggX3_scanCard_X6_regionOfCard : GoodIn wsX3_scanCard wsX6_regionOfCard := goodIn_r _ [3] (by decide +kernel) (by decide +kernel)
set_option maxRecDepth 20000 in
theorem gX3_scanCard_X6_regionOfCard_n116 : GoodIn wsX3_scanCard (wsX6_regionOfCard) := ggX3_scanCard_X6_regionOfCard
set_option maxRecDepth 20000 in
theorem ggX3_scanCard_X1_thingAt : GoodIn wsX3_scanCard wsX1_thingAt := goodIn_r _ [8, 9, 10, 11, 12, 7, 13, 14, 15, 16, 17, 18, 19, 51, 52, 53, 54, 55, 56, 57, 58, 59, 60, 61, 62, 63, 64, 65, 66, 67, 68] (by decide +kernel) (by decide +kernel)
set_option maxRecDepth 20000 in
theorem gX3_scanCard_X1_thingAt : GoodIn wsX3_scanCard (wsV RX3 122 RX1 yX1_thingAt wsX1_thingAt) := goodIn_app (goodIn_of _ (by decide +kernel)) ggX3_scanCard_X1_thingAt
set_option maxRecDepth 20000 in
theorem ggX3_scanCard_X3_findFields : GoodIn wsX3_scanCard wsX3_findFields := goodIn_r _ [24, 25, 26, 27, 7, 28, 29, 30, 31, 32, 23, 33, 34, 35, 36, 37, 38, 39, 40, 41, 42, 2, 43, 44, 45, 46, 47, 48, 49, 50, 51, 52, 53, 54, 55, 56, 57, 58, 59, 60, 61, 62, 63, 64, 65, 66, 67, 68, 69, 70, 71, 72, 73, 74, 75, 76, 77, 78, 79, 80, 81] (by decide +kernel) (by decide +kernel)
set_option maxRecDepth 20000 in
theorem gX3_scanCard_X3_findFields : GoodIn wsX3_scanCard (wsV RX3 126 RX3 yX3_findFields wsX3_findFields) := goodIn_app (goodIn_of _ (by decide +kernel)) ggX3_scanCard_X3_findFields
theorem dX3_scanCard_0 : decode cX3_scanCard 0 = .ok (.iload_n 2, 1) := by decide +kernel
theorem dX3_scanCard_1 : decode cX3_scanCard 1 = .ok (.iconst 2, 1) := by decide +kernel
theorem dX3_scanCard_2 : decode cX3_scanCard 2 = .ok (.irem, 1) := by decide +kernel
theorem dX3_scanCard_3 : decode cX3_scanCard 3 = .ok (.iconst 4, 1) := by decide +kernel
theorem dX3_scanCard_4 : decode cX3_scanCard 4 = .ok (.imul, 1) := by decide +kernel
theorem dX3_scanCard_5 : decode cX3_scanCard 5 = .ok (.istore_n 3, 1) := by decide +kernel
theorem dX3_scanCard_6 : decode cX3_scanCard 6 = .ok (.iload_n 3, 1) := by decide +kernel
theorem dX3_scanCard_7 : decode cX3_scanCard 7 = .ok (.istore 4, 2) := by decide +kernel
theorem dX3_scanCard_9 : decode cX3_scanCard 9 = .ok (.iload 4, 2) := by decide +kernel
theorem dX3_scanCard_11 : decode cX3_scanCard 11 = .ok (.iload_n 3, 1) := by decide +kernel
theorem dX3_scanCard_12 : decode cX3_scanCard 12 = .ok (.iconst 4, 1) := by decide +kernel
theorem dX3_scanCard_13 : decode cX3_scanCard 13 = .ok (.iadd, 1) := by decide +kernel
theorem dX3_scanCard_14 : decode cX3_scanCard 14 = .ok (.if_icmp .ge 35, 3) := by decide +kernel
theorem dX3_scanCard_17 : decode cX3_scanCard 17 = .ok (.aload_n 1, 1) := by decide +kernel
theorem dX3_scanCard_18 : decode cX3_scanCard 18 = .ok (.iload_n 2, 1) := by decide +kernel
theorem dX3_scanCard_19 : decode cX3_scanCard 19 = .ok (.invokestatic 116, 3) := by decide +kernel
theorem dX3_scanCard_22 : decode cX3_scanCard 22 = .ok (.iload 4, 2) := by decide +kernel
theorem dX3_scanCard_24 : decode cX3_scanCard 24 = .ok (.invokevirtual 122, 3) := by decide +kernel
theorem dX3_scanCard_27 : decode cX3_scanCard 27 = .ok (.istore 5, 2) := by decide +kernel
theorem dX3_scanCard_29 : decode cX3_scanCard 29 = .ok (.iload 5, 2) := by decide +kernel
theorem dX3_scanCard_31 : decode cX3_scanCard 31 = .ok (.bipush (-9), 2) := by decide +kernel
theorem dX3_scanCard_33 : decode cX3_scanCard 33 = .ok (.if_icmp .eq 10, 3) := by decide +kernel
theorem dX3_scanCard_36 : decode cX3_scanCard 36 = .ok (.aload_n 0, 1) := by decide +kernel
theorem dX3_scanCard_37 : decode cX3_scanCard 37 = .ok (.aload_n 1, 1) := by decide +kernel
theorem dX3_scanCard_38 : decode cX3_scanCard 38 = .ok (.iload 5, 2) := by decide +kernel
theorem dX3_scanCard_40 : decode cX3_scanCard 40 = .ok (.invokevirtual 126, 3) := by decide +kernel
theorem dX3_scanCard_43 : decode cX3_scanCard 43 = .ok (.iinc 4 1, 3) := by decide +kernel
theorem dX3_scanCard_46 : decode cX3_scanCard 46 = .ok (.goto (-37), 3) := by decide +kernel
theorem dX3_scanCard_49 : decode cX3_scanCard 49 = .ok (.return_, 1) := by decide +kernel
set_option maxRecDepth 20000 in
theorem ggX3_findFields_X1_fieldOf : GoodIn wsX3_findFields wsX1_fieldOf := goodIn_r _ [5, 6, 30, 31, 32, 33, 34, 35, 36, 37, 38, 39, 40, 41, 42, 43, 44, 45, 46, 47] (by decide +kernel) (by decide +kernel)
set_option maxRecDepth 20000 in
theorem gX3_findFields_X1_fieldOf : GoodIn wsX3_findFields (wsV RX3 129 RX1 yX1_fieldOf wsX1_fieldOf) := goodIn_app (goodIn_of _ (by decide +kernel)) ggX3_findFields_X1_fieldOf
set_option maxRecDepth 20000 in
theorem ggX3_findFields_X3_find : GoodIn wsX3_findFields wsX3_find := goodIn_r _ [11, 12, 13, 14, 15, 16, 17, 18, 19, 20, 21, 22, 23, 24, 25, 26, 27, 28, 29, 48, 49, 50, 51, 52, 53, 54, 55, 56, 57, 58, 30, 31, 32, 33, 34, 35, 36, 37, 38, 39, 40, 41, 42, 43, 44, 45, 46, 47, 59, 60] (by decide +kernel) (by decide +kernel)
set_option maxRecDepth 20000 in
theorem gX3_findFields_X3_find : GoodIn wsX3_findFields (wsV RX3 104 RX3 yX3_find wsX3_find) := goodIn_app (goodIn_of _ (by decide +kernel)) ggX3_findFields_X3_find
theorem dX3_findFields_0 : decode cX3_findFields 0 = .ok (.aload_n 0, 1) := by decide +kernel
theorem dX3_findFields_1 : decode cX3_findFields 1 = .ok (.aload_n 1, 1) := by decide +kernel
theorem dX3_findFields_2 : decode cX3_findFields 2 = .ok (.aload_n 1, 1) := by decide +kernel
theorem dX3_findFields_3 : decode cX3_findFields 3 = .ok (.iload_n 2, 1) := by decide +kernel
theorem dX3_findFields_4 : decode cX3_findFields 4 = .ok (.iconst 0, 1) := by decide +kernel
theorem dX3_findFields_5 : decode cX3_findFields 5 = .ok (.invokevirtual 129, 3) := by decide +kernel
theorem dX3_findFields_8 : decode cX3_findFields 8 = .ok (.invokevirtual 104, 3) := by decide +kernel
theorem dX3_findFields_11 : decode cX3_findFields 11 = .ok (.aload_n 0, 1) := by decide +kernel
theorem dX3_findFields_12 : decode cX3_findFields 12 = .ok (.aload_n 1, 1) := by decide +kernel
theorem dX3_findFields_13 : decode cX3_findFields 13 = .ok (.aload_n 1, 1) := by decide +kernel
theorem dX3_findFields_14 : decode cX3_findFields 14 = .ok (.iload_n 2, 1) := by decide +kernel
theorem dX3_findFields_15 : decode cX3_findFields 15 = .ok (.iconst 1, 1) := by decide +kernel
theorem dX3_findFields_16 : decode cX3_findFields 16 = .ok (.invokevirtual 129, 3) := by decide +kernel
theorem dX3_findFields_19 : decode cX3_findFields 19 = .ok (.invokevirtual 104, 3) := by decide +kernel
theorem dX3_findFields_22 : decode cX3_findFields 22 = .ok (.return_, 1) := by decide +kernel
set_option maxRecDepth 20000 in
theorem ggX3_moveFound_X5_itemAt : GoodIn wsX3_moveFound wsX5_itemAt := goodIn_r _ [7, 8, 9, 71, 72] (by decide +kernel) (by decide +kernel)
set_option maxRecDepth 20000 in
theorem gX3_moveFound_X5_itemAt : GoodIn wsX3_moveFound (wsV RX3 110 RX5 yX5_itemAt wsX5_itemAt) := goodIn_app (goodIn_of _ (by decide +kernel)) ggX3_moveFound_X5_itemAt
set_option maxRecDepth 20000 in
theorem ggX3_moveFound_X3_move : GoodIn wsX3_moveFound wsX3_move := goodIn_r _ [14, 15, 16, 17, 18, 19, 20, 21, 22, 23, 24, 25, 26, 27, 28, 29, 30, 31, 32, 33, 34, 35, 36, 37, 63, 64, 65, 66, 67, 68, 69, 70, 73, 74, 75, 76, 77, 78, 79, 80, 81, 82, 83, 84, 85, 86, 87, 88, 89, 90] (by decide +kernel) (by decide +kernel)
set_option maxRecDepth 20000 in
theorem gX3_moveFound_X3_move : GoodIn wsX3_moveFound (wsV RX3 132 RX3 yX3_move wsX3_move) := goodIn_app (goodIn_of _ (by decide +kernel)) ggX3_moveFound_X3_move
set_option maxRecDepth 20000 in
theorem ggX3_moveFound_X3_findFields : GoodIn wsX3_moveFound wsX3_findFields := goodIn_r _ [41, 42, 43, 44, 23, 45, 46, 47, 48, 49, 13, 50, 51, 52, 53, 1, 54, 16, 18, 55, 56, 57, 58, 59, 60, 61, 6, 62, 8, 9, 73, 74, 75, 76, 77, 78, 79, 80, 81, 82, 83, 84, 85, 86, 87, 88, 89, 90, 63, 64, 65, 66, 67, 68, 69, 70, 91, 92, 93, 71, 72] (by decide +kernel) (by decide +kernel)
set_option maxRecDepth 20000 in
theorem gX3_moveFound_X3_findFields : GoodIn wsX3_moveFound (wsV RX3 126 RX3 yX3_findFields wsX3_findFields) := goodIn_app (goodIn_of _ (by decide +kernel)) ggX3_moveFound_X3_findFields
theorem dX3_moveFound_0 : decode cX3_moveFound 0 = .ok (.iconst 0, 1) := by decide +kernel
theorem dX3_moveFound_1 : decode cX3_moveFound 1 = .ok (.istore_n 2, 1) := by decide +kernel
theorem dX3_moveFound_2 : decode cX3_moveFound 2 = .ok (.iload_n 2, 1) := by decide +kernel
theorem dX3_moveFound_3 : decode cX3_moveFound 3 = .ok (.bipush 32, 2) := by decide +kernel
theorem dX3_moveFound_5 : decode cX3_moveFound 5 = .ok (.if_icmp .ge 41, 3) := by decide +kernel
theorem dX3_moveFound_8 : decode cX3_moveFound 8 = .ok (.iload_n 2, 1) := by decide +kernel
theorem dX3_moveFound_9 : decode cX3_moveFound 9 = .ok (.aload_n 0, 1) := by decide +kernel
theorem dX3_moveFound_10 : decode cX3_moveFound 10 = .ok (.getfield 21, 3) := by decide +kernel
theorem dX3_moveFound_13 : decode cX3_moveFound 13 = .ok (.getfield 58, 3) := by decide +kernel
theorem dX3_moveFound_16 : decode cX3_moveFound 16 = .ok (.if_icmp .ge 30, 3) := by decide +kernel
theorem dX3_moveFound_19 : decode cX3_moveFound 19 = .ok (.aload_n 0, 1) := by decide +kernel
theorem dX3_moveFound_20 : decode cX3_moveFound 20 = .ok (.getfield 21, 3) := by decide +kernel
theorem dX3_moveFound_23 : decode cX3_moveFound 23 = .ok (.iload_n 2, 1) := by decide +kernel
theorem dX3_moveFound_24 : decode cX3_moveFound 24 = .ok (.invokevirtual 110, 3) := by decide +kernel
theorem dX3_moveFound_27 : decode cX3_moveFound 27 = .ok (.istore_n 3, 1) := by decide +kernel
theorem dX3_moveFound_28 : decode cX3_moveFound 28 = .ok (.aload_n 0, 1) := by decide +kernel
theorem dX3_moveFound_29 : decode cX3_moveFound 29 = .ok (.aload_n 1, 1) := by decide +kernel
theorem dX3_moveFound_30 : decode cX3_moveFound 30 = .ok (.iload_n 3, 1) := by decide +kernel
theorem dX3_moveFound_31 : decode cX3_moveFound 31 = .ok (.invokevirtual 132, 3) := by decide +kernel
theorem dX3_moveFound_34 : decode cX3_moveFound 34 = .ok (.aload_n 0, 1) := by decide +kernel
theorem dX3_moveFound_35 : decode cX3_moveFound 35 = .ok (.aload_n 1, 1) := by decide +kernel
theorem dX3_moveFound_36 : decode cX3_moveFound 36 = .ok (.iload_n 3, 1) := by decide +kernel
theorem dX3_moveFound_37 : decode cX3_moveFound 37 = .ok (.invokevirtual 126, 3) := by decide +kernel
theorem dX3_moveFound_40 : decode cX3_moveFound 40 = .ok (.iinc 2 1, 3) := by decide +kernel
theorem dX3_moveFound_43 : decode cX3_moveFound 43 = .ok (.goto (-41), 3) := by decide +kernel
theorem dX3_moveFound_46 : decode cX3_moveFound 46 = .ok (.return_, 1) := by decide +kernel
set_option maxRecDepth 20000 in
theorem ggX3_move_X1_hasRoom : GoodIn wsX3_move wsX1_hasRoom := goodIn_r _ [10, 11, 32, 33, 34, 35, 36, 37, 38, 39, 40, 41, 42, 43, 44, 45, 46, 47, 48, 49] (by decide +kernel) (by decide +kernel)
set_option maxRecDepth 20000 in
theorem gX3_move_X1_hasRoom : GoodIn wsX3_move (wsV RX3 135 RX1 yX1_hasRoom wsX1_hasRoom) := goodIn_app (goodIn_of _ (by decide +kernel)) ggX3_move_X1_hasRoom
set_option maxRecDepth 20000 in
theorem ggX3_move_X1_freeRow : GoodIn wsX3_move wsX1_freeRow := goodIn_r _ [15, 16, 32, 33, 34, 35, 36, 37, 38, 39, 40, 41, 42, 43, 44, 45, 46, 47, 48, 49] (by decide +kernel) (by decide +kernel)
set_option maxRecDepth 20000 in
theorem gX3_move_X1_freeRow : GoodIn wsX3_move (wsV RX3 138 RX1 yX1_freeRow wsX1_freeRow) := goodIn_app (goodIn_of _ (by decide +kernel)) ggX3_move_X1_freeRow
set_option maxRecDepth 20000 in
theorem ggX3_move_X1_layAtTop : GoodIn wsX3_move wsX1_layAtTop := goodIn_r _ [20, 21, 22, 11, 23, 32, 33, 34, 35, 36, 37, 38, 39, 40, 41, 42, 43, 44, 45, 46, 47, 48, 49] (by decide +kernel) (by decide +kernel)
set_option maxRecDepth 20000 in
theorem gX3_move_X1_layAtTop : GoodIn wsX3_move (wsV RX3 141 RX1 yX1_layAtTop wsX1_layAtTop) := goodIn_app (goodIn_of _ (by decide +kernel)) ggX3_move_X1_layAtTop
theorem dX3_move_0 : decode cX3_move 0 = .ok (.aload_n 1, 1) := by decide +kernel
theorem dX3_move_1 : decode cX3_move 1 = .ok (.aload_n 0, 1) := by decide +kernel
theorem dX3_move_2 : decode cX3_move 2 = .ok (.getfield 62, 3) := by decide +kernel
theorem dX3_move_5 : decode cX3_move 5 = .ok (.aload_n 1, 1) := by decide +kernel
theorem dX3_move_6 : decode cX3_move 6 = .ok (.getfield 95, 3) := by decide +kernel
theorem dX3_move_9 : decode cX3_move 9 = .ok (.iload_n 2, 1) := by decide +kernel
theorem dX3_move_10 : decode cX3_move 10 = .ok (.iaload, 1) := by decide +kernel
theorem dX3_move_11 : decode cX3_move 11 = .ok (.invokevirtual 135, 3) := by decide +kernel
theorem dX3_move_14 : decode cX3_move 14 = .ok (.ifCond .ne 40, 3) := by decide +kernel
theorem dX3_move_17 : decode cX3_move 17 = .ok (.aload_n 1, 1) := by decide +kernel
theorem dX3_move_18 : decode cX3_move 18 = .ok (.iconst 1, 1) := by decide +kernel
theorem dX3_move_19 : decode cX3_move 19 = .ok (.invokevirtual 138, 3) := by decide +kernel
theorem dX3_move_22 : decode cX3_move 22 = .ok (.istore_n 3, 1) := by decide +kernel
theorem dX3_move_23 : decode cX3_move 23 = .ok (.iload_n 3, 1) := by decide +kernel
theorem dX3_move_24 : decode cX3_move 24 = .ok (.bipush (-9), 2) := by decide +kernel
theorem dX3_move_26 : decode cX3_move 26 = .ok (.if_icmp .ne 16, 3) := by decide +kernel
theorem dX3_move_29 : decode cX3_move 29 = .ok (.aload_n 0, 1) := by decide +kernel
theorem dX3_move_30 : decode cX3_move 30 = .ok (.dup, 1) := by decide +kernel
theorem dX3_move_31 : decode cX3_move 31 = .ok (.getfield 68, 3) := by decide +kernel
theorem dX3_move_34 : decode cX3_move 34 = .ok (.iconst 1, 1) := by decide +kernel
theorem dX3_move_35 : decode cX3_move 35 = .ok (.iload_n 2, 1) := by decide +kernel
theorem dX3_move_36 : decode cX3_move 36 = .ok (.ishl, 1) := by decide +kernel
theorem dX3_move_37 : decode cX3_move 37 = .ok (.ior, 1) := by decide +kernel
theorem dX3_move_38 : decode cX3_move 38 = .ok (.putfield 68, 3) := by decide +kernel
theorem dX3_move_41 : decode cX3_move 41 = .ok (.return_, 1) := by decide +kernel
theorem dX3_move_42 : decode cX3_move 42 = .ok (.aload_n 1, 1) := by decide +kernel
theorem dX3_move_43 : decode cX3_move 43 = .ok (.getfield 98, 3) := by decide +kernel
theorem dX3_move_46 : decode cX3_move 46 = .ok (.iload_n 3, 1) := by decide +kernel
theorem dX3_move_47 : decode cX3_move 47 = .ok (.iconst 2, 1) := by decide +kernel
theorem dX3_move_48 : decode cX3_move 48 = .ok (.iastore, 1) := by decide +kernel
theorem dX3_move_49 : decode cX3_move 49 = .ok (.aload_n 0, 1) := by decide +kernel
theorem dX3_move_50 : decode cX3_move 50 = .ok (.iload_n 3, 1) := by decide +kernel
