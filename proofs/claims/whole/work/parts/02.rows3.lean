theorem dX7_laysChosen_45 : decode cX7_laysChosen 45 = .ok (.aload_n 0, 1) := by decide +kernel
theorem dX7_laysChosen_46 : decode cX7_laysChosen 46 = .ok (.iload_n 2, 1) := by decide +kernel
theorem dX7_laysChosen_47 : decode cX7_laysChosen 47 = .ok (.iconst 1, 1) := by decide +kernel
theorem dX7_laysChosen_48 : decode cX7_laysChosen 48 = .ok (.invokevirtual 67, 3) := by decide +kernel
theorem dX7_laysChosen_51 : decode cX7_laysChosen 51 = .ok (.iadd, 1) := by decide +kernel
theorem dX7_laysChosen_52 : decode cX7_laysChosen 52 = .ok (.putfield 155, 3) := by decide +kernel
theorem dX7_laysChosen_55 : decode cX7_laysChosen 55 = .ok (.iinc 2 1, 3) := by decide +kernel
theorem dX7_laysChosen_58 : decode cX7_laysChosen 58 = .ok (.goto (-46), 3) := by decide +kernel
theorem dX7_laysChosen_61 : decode cX7_laysChosen 61 = .ok (.aload_n 0, 1) := by decide +kernel
theorem dX7_laysChosen_62 : decode cX7_laysChosen 62 = .ok (.ldc 158, 2) := by decide +kernel
theorem dX7_laysChosen_64 : decode cX7_laysChosen 64 = .ok (.aload_n 0, 1) := by decide +kernel
theorem dX7_laysChosen_65 : decode cX7_laysChosen 65 = .ok (.getfield 13, 3) := by decide +kernel
theorem dX7_laysChosen_68 : decode cX7_laysChosen 68 = .ok (.iconst 0, 1) := by decide +kernel
theorem dX7_laysChosen_69 : decode cX7_laysChosen 69 = .ok (.faload, 1) := by decide +kernel
theorem dX7_laysChosen_70 : decode cX7_laysChosen 70 = .ok (.aload_n 0, 1) := by decide +kernel
theorem dX7_laysChosen_71 : decode cX7_laysChosen 71 = .ok (.getfield 13, 3) := by decide +kernel
theorem dX7_laysChosen_74 : decode cX7_laysChosen 74 = .ok (.iconst 1, 1) := by decide +kernel
theorem dX7_laysChosen_75 : decode cX7_laysChosen 75 = .ok (.faload, 1) := by decide +kernel
theorem dX7_laysChosen_76 : decode cX7_laysChosen 76 = .ok (.aload_n 0, 1) := by decide +kernel
theorem dX7_laysChosen_77 : decode cX7_laysChosen 77 = .ok (.getfield 155, 3) := by decide +kernel
theorem dX7_laysChosen_80 : decode cX7_laysChosen 80 = .ok (.i2f, 1) := by decide +kernel
theorem dX7_laysChosen_81 : decode cX7_laysChosen 81 = .ok (.fmul, 1) := by decide +kernel
theorem dX7_laysChosen_82 : decode cX7_laysChosen 82 = .ok (.fmul, 1) := by decide +kernel
theorem dX7_laysChosen_83 : decode cX7_laysChosen 83 = .ok (.fadd, 1) := by decide +kernel
theorem dX7_laysChosen_84 : decode cX7_laysChosen 84 = .ok (.putfield 159, 3) := by decide +kernel
theorem dX7_laysChosen_87 : decode cX7_laysChosen 87 = .ok (.bipush 8, 2) := by decide +kernel
theorem dX7_laysChosen_89 : decode cX7_laysChosen 89 = .ok (.istore_n 2, 1) := by decide +kernel
theorem dX7_laysChosen_90 : decode cX7_laysChosen 90 = .ok (.iload_n 2, 1) := by decide +kernel
theorem dX7_laysChosen_91 : decode cX7_laysChosen 91 = .ok (.iconst 1, 1) := by decide +kernel
theorem dX7_laysChosen_92 : decode cX7_laysChosen 92 = .ok (.if_icmp .le 80, 3) := by decide +kernel
theorem dX7_laysChosen_95 : decode cX7_laysChosen 95 = .ok (.iconst 0, 1) := by decide +kernel
theorem dX7_laysChosen_96 : decode cX7_laysChosen 96 = .ok (.istore_n 3, 1) := by decide +kernel
theorem dX7_laysChosen_97 : decode cX7_laysChosen 97 = .ok (.iload_n 3, 1) := by decide +kernel
theorem dX7_laysChosen_98 : decode cX7_laysChosen 98 = .ok (.bipush 10, 2) := by decide +kernel
theorem dX7_laysChosen_100 : decode cX7_laysChosen 100 = .ok (.if_icmp .ge 66, 3) := by decide +kernel
theorem dX7_laysChosen_103 : decode cX7_laysChosen 103 = .ok (.aload_n 0, 1) := by decide +kernel
theorem dX7_laysChosen_104 : decode cX7_laysChosen 104 = .ok (.iload_n 3, 1) := by decide +kernel
theorem dX7_laysChosen_105 : decode cX7_laysChosen 105 = .ok (.invokevirtual 163, 3) := by decide +kernel
theorem dX7_laysChosen_108 : decode cX7_laysChosen 108 = .ok (.iload_n 2, 1) := by decide +kernel
theorem dX7_laysChosen_109 : decode cX7_laysChosen 109 = .ok (.if_icmp .ne 51, 3) := by decide +kernel
theorem dX7_laysChosen_112 : decode cX7_laysChosen 112 = .ok (.aload_n 0, 1) := by decide +kernel
theorem dX7_laysChosen_113 : decode cX7_laysChosen 113 = .ok (.getfield 159, 3) := by decide +kernel
theorem dX7_laysChosen_116 : decode cX7_laysChosen 116 = .ok (.aload_n 0, 1) := by decide +kernel
theorem dX7_laysChosen_117 : decode cX7_laysChosen 117 = .ok (.getfield 13, 3) := by decide +kernel
theorem dX7_laysChosen_120 : decode cX7_laysChosen 120 = .ok (.iconst 0, 1) := by decide +kernel
theorem dX7_laysChosen_121 : decode cX7_laysChosen 121 = .ok (.faload, 1) := by decide +kernel
theorem dX7_laysChosen_122 : decode cX7_laysChosen 122 = .ok (.aload_n 0, 1) := by decide +kernel
theorem dX7_laysChosen_123 : decode cX7_laysChosen 123 = .ok (.iload_n 3, 1) := by decide +kernel
theorem dX7_laysChosen_124 : decode cX7_laysChosen 124 = .ok (.iconst 2, 1) := by decide +kernel
theorem dX7_laysChosen_125 : decode cX7_laysChosen 125 = .ok (.invokevirtual 67, 3) := by decide +kernel
theorem dX7_laysChosen_128 : decode cX7_laysChosen 128 = .ok (.i2f, 1) := by decide +kernel
theorem dX7_laysChosen_129 : decode cX7_laysChosen 129 = .ok (.fmul, 1) := by decide +kernel
theorem dX7_laysChosen_130 : decode cX7_laysChosen 130 = .ok (.fadd, 1) := by decide +kernel
theorem dX7_laysChosen_131 : decode cX7_laysChosen 131 = .ok (.fstore 4, 2) := by decide +kernel
theorem dX7_laysChosen_133 : decode cX7_laysChosen 133 = .ok (.fload 4, 2) := by decide +kernel
theorem dX7_laysChosen_135 : decode cX7_laysChosen 135 = .ok (.iload_n 1, 1) := by decide +kernel
theorem dX7_laysChosen_136 : decode cX7_laysChosen 136 = .ok (.i2f, 1) := by decide +kernel
theorem dX7_laysChosen_137 : decode cX7_laysChosen 137 = .ok (.fcmp .l, 1) := by decide +kernel
theorem dX7_laysChosen_138 : decode cX7_laysChosen 138 = .ok (.ifCond .le 4, 3) := by decide +kernel
theorem dX7_laysChosen_141 : decode cX7_laysChosen 141 = .ok (.return_, 1) := by decide +kernel
theorem dX7_laysChosen_142 : decode cX7_laysChosen 142 = .ok (.aload_n 0, 1) := by decide +kernel
theorem dX7_laysChosen_143 : decode cX7_laysChosen 143 = .ok (.fload 4, 2) := by decide +kernel
theorem dX7_laysChosen_145 : decode cX7_laysChosen 145 = .ok (.putfield 159, 3) := by decide +kernel
theorem dX7_laysChosen_148 : decode cX7_laysChosen 148 = .ok (.aload_n 0, 1) := by decide +kernel
theorem dX7_laysChosen_149 : decode cX7_laysChosen 149 = .ok (.dup, 1) := by decide +kernel
theorem dX7_laysChosen_150 : decode cX7_laysChosen 150 = .ok (.getfield 152, 3) := by decide +kernel
theorem dX7_laysChosen_153 : decode cX7_laysChosen 153 = .ok (.iconst 1, 1) := by decide +kernel
theorem dX7_laysChosen_154 : decode cX7_laysChosen 154 = .ok (.iload_n 3, 1) := by decide +kernel
theorem dX7_laysChosen_155 : decode cX7_laysChosen 155 = .ok (.ishl, 1) := by decide +kernel
theorem dX7_laysChosen_156 : decode cX7_laysChosen 156 = .ok (.ior, 1) := by decide +kernel
theorem dX7_laysChosen_157 : decode cX7_laysChosen 157 = .ok (.putfield 152, 3) := by decide +kernel
theorem dX7_laysChosen_160 : decode cX7_laysChosen 160 = .ok (.iinc 3 1, 3) := by decide +kernel
theorem dX7_laysChosen_163 : decode cX7_laysChosen 163 = .ok (.goto (-66), 3) := by decide +kernel
theorem dX7_laysChosen_166 : decode cX7_laysChosen 166 = .ok (.iinc 2 (-1), 3) := by decide +kernel
theorem dX7_laysChosen_169 : decode cX7_laysChosen 169 = .ok (.goto (-79), 3) := by decide +kernel
theorem dX7_laysChosen_172 : decode cX7_laysChosen 172 = .ok (.return_, 1) := by decide +kernel
theorem dX7_finds_0 : decode cX7_finds 0 = .ok (.iload_n 1, 1) := by decide +kernel
theorem dX7_finds_1 : decode cX7_finds 1 = .ok (.bipush (-5), 2) := by decide +kernel
theorem dX7_finds_3 : decode cX7_finds 3 = .ok (.if_icmp .eq 56, 3) := by decide +kernel
theorem dX7_finds_6 : decode cX7_finds 6 = .ok (.aload_n 0, 1) := by decide +kernel
theorem dX7_finds_7 : decode cX7_finds 7 = .ok (.getfield 152, 3) := by decide +kernel
theorem dX7_finds_10 : decode cX7_finds 10 = .ok (.aload_n 0, 1) := by decide +kernel
theorem dX7_finds_11 : decode cX7_finds 11 = .ok (.getfield 45, 3) := by decide +kernel
theorem dX7_finds_14 : decode cX7_finds 14 = .ok (.iload_n 1, 1) := by decide +kernel
theorem dX7_finds_15 : decode cX7_finds 15 = .ok (.iaload, 1) := by decide +kernel
theorem dX7_finds_16 : decode cX7_finds 16 = .ok (.ishr, 1) := by decide +kernel
theorem dX7_finds_17 : decode cX7_finds 17 = .ok (.iconst 1, 1) := by decide +kernel
theorem dX7_finds_18 : decode cX7_finds 18 = .ok (.iand, 1) := by decide +kernel
theorem dX7_finds_19 : decode cX7_finds 19 = .ok (.iconst 1, 1) := by decide +kernel
theorem dX7_finds_20 : decode cX7_finds 20 = .ok (.if_icmp .ne 39, 3) := by decide +kernel
theorem dX7_finds_23 : decode cX7_finds 23 = .ok (.aload_n 0, 1) := by decide +kernel
theorem dX7_finds_24 : decode cX7_finds 24 = .ok (.getfield 42, 3) := by decide +kernel
theorem dX7_finds_27 : decode cX7_finds 27 = .ok (.iload_n 1, 1) := by decide +kernel
theorem dX7_finds_28 : decode cX7_finds 28 = .ok (.baload, 1) := by decide +kernel
theorem dX7_finds_29 : decode cX7_finds 29 = .ok (.ifCond .ne 30, 3) := by decide +kernel
theorem dX7_finds_32 : decode cX7_finds 32 = .ok (.aload_n 0, 1) := by decide +kernel
theorem dX7_finds_33 : decode cX7_finds 33 = .ok (.getfield 42, 3) := by decide +kernel
theorem dX7_finds_36 : decode cX7_finds 36 = .ok (.iload_n 1, 1) := by decide +kernel
theorem dX7_finds_37 : decode cX7_finds 37 = .ok (.iconst 1, 1) := by decide +kernel
theorem dX7_finds_38 : decode cX7_finds 38 = .ok (.bastore, 1) := by decide +kernel
theorem dX7_finds_39 : decode cX7_finds 39 = .ok (.aload_n 0, 1) := by decide +kernel
theorem dX7_finds_40 : decode cX7_finds 40 = .ok (.getfield 39, 3) := by decide +kernel
theorem dX7_finds_43 : decode cX7_finds 43 = .ok (.aload_n 0, 1) := by decide +kernel
theorem dX7_finds_44 : decode cX7_finds 44 = .ok (.getfield 166, 3) := by decide +kernel
theorem dX7_finds_47 : decode cX7_finds 47 = .ok (.iload_n 1, 1) := by decide +kernel
theorem dX7_finds_48 : decode cX7_finds 48 = .ok (.iastore, 1) := by decide +kernel
theorem dX7_finds_49 : decode cX7_finds 49 = .ok (.aload_n 0, 1) := by decide +kernel
theorem dX7_finds_50 : decode cX7_finds 50 = .ok (.dup, 1) := by decide +kernel
theorem dX7_finds_51 : decode cX7_finds 51 = .ok (.getfield 166, 3) := by decide +kernel
theorem dX7_finds_54 : decode cX7_finds 54 = .ok (.iconst 1, 1) := by decide +kernel
theorem dX7_finds_55 : decode cX7_finds 55 = .ok (.iadd, 1) := by decide +kernel
theorem dX7_finds_56 : decode cX7_finds 56 = .ok (.putfield 166, 3) := by decide +kernel
theorem dX7_finds_59 : decode cX7_finds 59 = .ok (.return_, 1) := by decide +kernel
set_option maxRecDepth 20000 in
theorem ggX7_remembered_X7_ofRegion : GoodIn wsX7_remembered wsX7_ofRegion := goodIn_r _ [6, 7, 8, 9, 10, 11, 12, 13, 14, 15, 16, 17, 18, 19, 20, 21, 22, 23, 24, 25, 26, 27, 28, 29, 30, 31, 32, 33] (by decide +kernel) (by decide +kernel)
set_option maxRecDepth 20000 in
theorem gX7_remembered_X7_ofRegion : GoodIn wsX7_remembered (wsV RX7 67 RX7 yX7_ofRegion wsX7_ofRegion) := goodIn_app (goodIn_of _ (by decide +kernel)) ggX7_remembered_X7_ofRegion
theorem dX7_remembered_0 : decode cX7_remembered 0 = .ok (.iconst 0, 1) := by decide +kernel
theorem dX7_remembered_1 : decode cX7_remembered 1 = .ok (.istore_n 1, 1) := by decide +kernel
theorem dX7_remembered_2 : decode cX7_remembered 2 = .ok (.iconst 0, 1) := by decide +kernel
theorem dX7_remembered_3 : decode cX7_remembered 3 = .ok (.istore_n 2, 1) := by decide +kernel
theorem dX7_remembered_4 : decode cX7_remembered 4 = .ok (.iload_n 2, 1) := by decide +kernel
theorem dX7_remembered_5 : decode cX7_remembered 5 = .ok (.bipush 10, 2) := by decide +kernel
theorem dX7_remembered_7 : decode cX7_remembered 7 = .ok (.if_icmp .ge 34, 3) := by decide +kernel
theorem dX7_remembered_10 : decode cX7_remembered 10 = .ok (.iload_n 1, 1) := by decide +kernel
theorem dX7_remembered_11 : decode cX7_remembered 11 = .ok (.aload_n 0, 1) := by decide +kernel
theorem dX7_remembered_12 : decode cX7_remembered 12 = .ok (.getfield 152, 3) := by decide +kernel
theorem dX7_remembered_15 : decode cX7_remembered 15 = .ok (.iload_n 2, 1) := by decide +kernel
theorem dX7_remembered_16 : decode cX7_remembered 16 = .ok (.ishr, 1) := by decide +kernel
theorem dX7_remembered_17 : decode cX7_remembered 17 = .ok (.iconst 1, 1) := by decide +kernel
theorem dX7_remembered_18 : decode cX7_remembered 18 = .ok (.iand, 1) := by decide +kernel
theorem dX7_remembered_19 : decode cX7_remembered 19 = .ok (.iconst 1, 1) := by decide +kernel
theorem dX7_remembered_20 : decode cX7_remembered 20 = .ok (.if_icmp .ne 12, 3) := by decide +kernel
theorem dX7_remembered_23 : decode cX7_remembered 23 = .ok (.aload_n 0, 1) := by decide +kernel
theorem dX7_remembered_24 : decode cX7_remembered 24 = .ok (.iload_n 2, 1) := by decide +kernel
theorem dX7_remembered_25 : decode cX7_remembered 25 = .ok (.iconst 3, 1) := by decide +kernel
theorem dX7_remembered_26 : decode cX7_remembered 26 = .ok (.invokevirtual 67, 3) := by decide +kernel
theorem dX7_remembered_29 : decode cX7_remembered 29 = .ok (.goto 4, 3) := by decide +kernel
theorem dX7_remembered_32 : decode cX7_remembered 32 = .ok (.iconst 0, 1) := by decide +kernel
theorem dX7_remembered_33 : decode cX7_remembered 33 = .ok (.ior, 1) := by decide +kernel
theorem dX7_remembered_34 : decode cX7_remembered 34 = .ok (.istore_n 1, 1) := by decide +kernel
theorem dX7_remembered_35 : decode cX7_remembered 35 = .ok (.iinc 2 1, 3) := by decide +kernel
theorem dX7_remembered_38 : decode cX7_remembered 38 = .ok (.goto (-34), 3) := by decide +kernel
theorem dX7_remembered_41 : decode cX7_remembered 41 = .ok (.iconst 0, 1) := by decide +kernel
theorem dX7_remembered_42 : decode cX7_remembered 42 = .ok (.istore_n 2, 1) := by decide +kernel
theorem dX7_remembered_43 : decode cX7_remembered 43 = .ok (.iload_n 2, 1) := by decide +kernel
theorem dX7_remembered_44 : decode cX7_remembered 44 = .ok (.bipush 10, 2) := by decide +kernel
theorem dX7_remembered_46 : decode cX7_remembered 46 = .ok (.if_icmp .ge 35, 3) := by decide +kernel
theorem dX7_remembered_49 : decode cX7_remembered 49 = .ok (.iload_n 1, 1) := by decide +kernel
theorem dX7_remembered_50 : decode cX7_remembered 50 = .ok (.aload_n 0, 1) := by decide +kernel
theorem dX7_remembered_51 : decode cX7_remembered 51 = .ok (.getfield 152, 3) := by decide +kernel
theorem dX7_remembered_54 : decode cX7_remembered 54 = .ok (.iload_n 2, 1) := by decide +kernel
theorem dX7_remembered_55 : decode cX7_remembered 55 = .ok (.ishr, 1) := by decide +kernel
theorem dX7_remembered_56 : decode cX7_remembered 56 = .ok (.iconst 1, 1) := by decide +kernel
theorem dX7_remembered_57 : decode cX7_remembered 57 = .ok (.iand, 1) := by decide +kernel
theorem dX7_remembered_58 : decode cX7_remembered 58 = .ok (.iconst 1, 1) := by decide +kernel
theorem dX7_remembered_59 : decode cX7_remembered 59 = .ok (.if_icmp .ne 13, 3) := by decide +kernel
theorem dX7_remembered_62 : decode cX7_remembered 62 = .ok (.iconst 3, 1) := by decide +kernel
theorem dX7_remembered_63 : decode cX7_remembered 63 = .ok (.iconst 2, 1) := by decide +kernel
theorem dX7_remembered_64 : decode cX7_remembered 64 = .ok (.iload_n 2, 1) := by decide +kernel
theorem dX7_remembered_65 : decode cX7_remembered 65 = .ok (.imul, 1) := by decide +kernel
theorem dX7_remembered_66 : decode cX7_remembered 66 = .ok (.ishl, 1) := by decide +kernel
theorem dX7_remembered_67 : decode cX7_remembered 67 = .ok (.iconst (-1), 1) := by decide +kernel
theorem dX7_remembered_68 : decode cX7_remembered 68 = .ok (.ixor, 1) := by decide +kernel
theorem dX7_remembered_69 : decode cX7_remembered 69 = .ok (.goto 4, 3) := by decide +kernel
theorem dX7_remembered_72 : decode cX7_remembered 72 = .ok (.iconst (-1), 1) := by decide +kernel
theorem dX7_remembered_73 : decode cX7_remembered 73 = .ok (.iand, 1) := by decide +kernel
theorem dX7_remembered_74 : decode cX7_remembered 74 = .ok (.istore_n 1, 1) := by decide +kernel
theorem dX7_remembered_75 : decode cX7_remembered 75 = .ok (.iinc 2 1, 3) := by decide +kernel
theorem dX7_remembered_78 : decode cX7_remembered 78 = .ok (.goto (-35), 3) := by decide +kernel
theorem dX7_remembered_81 : decode cX7_remembered 81 = .ok (.iload_n 1, 1) := by decide +kernel
theorem dX7_remembered_82 : decode cX7_remembered 82 = .ok (.ireturn, 1) := by decide +kernel
set_option maxRecDepth 20000 in
theorem ggX7_scans_X7_isThing : GoodIn wsX7_scans wsX7_isThing := goodIn_r _ [5, 6, 7, 8, 4, 9, 27, 28, 29, 30, 31, 32, 33, 34, 35, 36, 37, 38, 39, 40, 41, 42, 43, 44, 45, 46, 47, 48, 49, 50, 51, 52] (by decide +kernel) (by decide +kernel)
set_option maxRecDepth 20000 in
theorem gX7_scans_X7_isThing : GoodIn wsX7_scans (wsV RX7 81 RX7 yX7_isThing wsX7_isThing) := goodIn_app (goodIn_of _ (by decide +kernel)) ggX7_scans_X7_isThing
set_option maxRecDepth 20000 in
theorem ggX7_scans_X7_cardOf : GoodIn wsX7_scans wsX7_cardOf := goodIn_r _ [13, 14, 15, 16, 4, 17, 6, 27, 28, 29, 30, 31, 32, 33, 34, 35, 36, 37, 38, 39, 40, 41, 42, 43, 44, 45, 46, 47, 48, 49, 50, 51, 52] (by decide +kernel) (by decide +kernel)
set_option maxRecDepth 20000 in
theorem gX7_scans_X7_cardOf : GoodIn wsX7_scans (wsV RX7 84 RX7 yX7_cardOf wsX7_cardOf) := goodIn_app (goodIn_of _ (by decide +kernel)) ggX7_scans_X7_cardOf
set_option maxRecDepth 20000 in
theorem ggX7_scans_X7_ofThing : GoodIn wsX7_scans wsX7_ofThing := goodIn_r _ [17, 6, 27, 28, 29, 30, 31, 32, 33, 34, 35, 36, 37, 38, 39, 40, 41, 42, 43, 44, 45, 46, 47, 48, 49, 50, 51, 52] (by decide +kernel) (by decide +kernel)
set_option maxRecDepth 20000 in
theorem gX7_scans_X7_ofThing : GoodIn wsX7_scans (wsV RX7 63 RX7 yX7_ofThing wsX7_ofThing) := goodIn_app (goodIn_of _ (by decide +kernel)) ggX7_scans_X7_ofThing
set_option maxRecDepth 20000 in
theorem ggX7_scans_X7_finds : GoodIn wsX7_scans wsX7_finds := goodIn_r _ [21, 22, 23, 24, 25, 26, 27, 28, 29, 30, 31, 32, 33, 34, 35, 36, 37, 38, 39, 40, 41, 42, 43, 44, 45, 46, 47, 48, 49, 50, 51, 52] (by decide +kernel) (by decide +kernel)
set_option maxRecDepth 20000 in
theorem gX7_scans_X7_finds : GoodIn wsX7_scans (wsV RX7 169 RX7 yX7_finds wsX7_finds) := goodIn_app (goodIn_of _ (by decide +kernel)) ggX7_scans_X7_finds
theorem dX7_scans_0 : decode cX7_scans 0 = .ok (.iconst 0, 1) := by decide +kernel
theorem dX7_scans_1 : decode cX7_scans 1 = .ok (.istore_n 2, 1) := by decide +kernel
theorem dX7_scans_2 : decode cX7_scans 2 = .ok (.iload_n 2, 1) := by decide +kernel
theorem dX7_scans_3 : decode cX7_scans 3 = .ok (.bipush 8, 2) := by decide +kernel
theorem dX7_scans_5 : decode cX7_scans 5 = .ok (.if_icmp .ge 70, 3) := by decide +kernel
theorem dX7_scans_8 : decode cX7_scans 8 = .ok (.iconst 0, 1) := by decide +kernel
theorem dX7_scans_9 : decode cX7_scans 9 = .ok (.istore_n 3, 1) := by decide +kernel
theorem dX7_scans_10 : decode cX7_scans 10 = .ok (.iload_n 3, 1) := by decide +kernel
theorem dX7_scans_11 : decode cX7_scans 11 = .ok (.bipush 32, 2) := by decide +kernel
theorem dX7_scans_13 : decode cX7_scans 13 = .ok (.if_icmp .ge 56, 3) := by decide +kernel
theorem dX7_scans_16 : decode cX7_scans 16 = .ok (.aload_n 0, 1) := by decide +kernel
theorem dX7_scans_17 : decode cX7_scans 17 = .ok (.iload_n 3, 1) := by decide +kernel
theorem dX7_scans_18 : decode cX7_scans 18 = .ok (.invokevirtual 81, 3) := by decide +kernel
theorem dX7_scans_21 : decode cX7_scans 21 = .ok (.ifCond .eq 42, 3) := by decide +kernel
theorem dX7_scans_24 : decode cX7_scans 24 = .ok (.aload_n 0, 1) := by decide +kernel
theorem dX7_scans_25 : decode cX7_scans 25 = .ok (.iload_n 3, 1) := by decide +kernel
theorem dX7_scans_26 : decode cX7_scans 26 = .ok (.invokevirtual 84, 3) := by decide +kernel
theorem dX7_scans_29 : decode cX7_scans 29 = .ok (.iload_n 1, 1) := by decide +kernel
theorem dX7_scans_30 : decode cX7_scans 30 = .ok (.if_icmp .ne 33, 3) := by decide +kernel
theorem dX7_scans_33 : decode cX7_scans 33 = .ok (.aload_n 0, 1) := by decide +kernel
theorem dX7_scans_34 : decode cX7_scans 34 = .ok (.iload_n 3, 1) := by decide +kernel
theorem dX7_scans_35 : decode cX7_scans 35 = .ok (.iconst 2, 1) := by decide +kernel
theorem dX7_scans_36 : decode cX7_scans 36 = .ok (.invokevirtual 63, 3) := by decide +kernel
theorem dX7_scans_39 : decode cX7_scans 39 = .ok (.iload_n 2, 1) := by decide +kernel
theorem dX7_scans_40 : decode cX7_scans 40 = .ok (.if_icmp .ne 23, 3) := by decide +kernel
theorem dX7_scans_43 : decode cX7_scans 43 = .ok (.aload_n 0, 1) := by decide +kernel
theorem dX7_scans_44 : decode cX7_scans 44 = .ok (.aload_n 0, 1) := by decide +kernel
theorem dX7_scans_45 : decode cX7_scans 45 = .ok (.iload_n 3, 1) := by decide +kernel
theorem dX7_scans_46 : decode cX7_scans 46 = .ok (.iconst 3, 1) := by decide +kernel
theorem dX7_scans_47 : decode cX7_scans 47 = .ok (.invokevirtual 63, 3) := by decide +kernel
theorem dX7_scans_50 : decode cX7_scans 50 = .ok (.invokevirtual 169, 3) := by decide +kernel
theorem dX7_scans_53 : decode cX7_scans 53 = .ok (.aload_n 0, 1) := by decide +kernel
theorem dX7_scans_54 : decode cX7_scans 54 = .ok (.aload_n 0, 1) := by decide +kernel
theorem dX7_scans_55 : decode cX7_scans 55 = .ok (.iload_n 3, 1) := by decide +kernel
theorem dX7_scans_56 : decode cX7_scans 56 = .ok (.iconst 4, 1) := by decide +kernel
theorem dX7_scans_57 : decode cX7_scans 57 = .ok (.invokevirtual 63, 3) := by decide +kernel
theorem dX7_scans_60 : decode cX7_scans 60 = .ok (.invokevirtual 169, 3) := by decide +kernel
theorem dX7_scans_63 : decode cX7_scans 63 = .ok (.iinc 3 1, 3) := by decide +kernel
theorem dX7_scans_66 : decode cX7_scans 66 = .ok (.goto (-56), 3) := by decide +kernel
theorem dX7_scans_69 : decode cX7_scans 69 = .ok (.iinc 2 1, 3) := by decide +kernel
theorem dX7_scans_72 : decode cX7_scans 72 = .ok (.goto (-70), 3) := by decide +kernel
theorem dX7_scans_75 : decode cX7_scans 75 = .ok (.return_, 1) := by decide +kernel
set_option maxRecDepth 20000 in
theorem ggX7_findsFirst_X7_ofThing : GoodIn wsX7_findsFirst wsX7_ofThing := goodIn_r _ [10, 4, 40, 41, 42, 43, 44, 45, 46, 47, 48, 49, 50, 51, 52, 53, 54, 55, 56, 57, 58, 59, 60, 61, 62, 63, 64, 65] (by decide +kernel) (by decide +kernel)
set_option maxRecDepth 20000 in
theorem gX7_findsFirst_X7_ofThing : GoodIn wsX7_findsFirst (wsV RX7 63 RX7 yX7_ofThing wsX7_ofThing) := goodIn_app (goodIn_of _ (by decide +kernel)) ggX7_findsFirst_X7_ofThing
set_option maxRecDepth 20000 in
theorem ggX7_findsFirst_X7_finds : GoodIn wsX7_findsFirst wsX7_finds := goodIn_r _ [14, 15, 3, 2, 16, 1, 40, 41, 42, 43, 44, 45, 46, 47, 48, 49, 50, 51, 52, 53, 54, 55, 56, 57, 58, 59, 60, 61, 62, 63, 64, 65] (by decide +kernel) (by decide +kernel)
set_option maxRecDepth 20000 in
theorem gX7_findsFirst_X7_finds : GoodIn wsX7_findsFirst (wsV RX7 169 RX7 yX7_finds wsX7_finds) := goodIn_app (goodIn_of _ (by decide +kernel)) ggX7_findsFirst_X7_finds
set_option maxRecDepth 20000 in
theorem ggX7_findsFirst_X7_remembered : GoodIn wsX7_findsFirst wsX7_remembered := goodIn_r _ [20, 15, 21, 22, 23, 9, 24, 4, 40, 41, 42, 43, 44, 45, 46, 47, 48, 49, 50, 51, 52, 53, 54, 55, 56, 57, 58, 59, 60, 61, 62, 63, 64, 65] (by decide +kernel) (by decide +kernel)
set_option maxRecDepth 20000 in
theorem gX7_findsFirst_X7_remembered : GoodIn wsX7_findsFirst (wsV RX7 172 RX7 yX7_remembered wsX7_remembered) := goodIn_app (goodIn_of _ (by decide +kernel)) ggX7_findsFirst_X7_remembered
set_option maxRecDepth 20000 in
theorem ggX7_findsFirst_X7_scans : GoodIn wsX7_findsFirst wsX7_scans := goodIn_r _ [28, 29, 30, 31, 9, 32, 4, 33, 34, 35, 36, 37, 38, 39, 6, 7, 8, 10, 11, 12, 13, 14, 15, 3, 2, 16, 1, 40, 41, 42, 43, 44, 45, 46, 47, 48, 49, 50, 51, 52, 53, 54, 55, 56, 57, 58, 59, 60, 61, 62, 63, 64, 65] (by decide +kernel) (by decide +kernel)
set_option maxRecDepth 20000 in
theorem gX7_findsFirst_X7_scans : GoodIn wsX7_findsFirst (wsV RX7 178 RX7 yX7_scans wsX7_scans) := goodIn_app (goodIn_of _ (by decide +kernel)) ggX7_findsFirst_X7_scans
theorem dX7_findsFirst_0 : decode cX7_findsFirst 0 = .ok (.aload_n 0, 1) := by decide +kernel
theorem dX7_findsFirst_1 : decode cX7_findsFirst 1 = .ok (.iconst 0, 1) := by decide +kernel
theorem dX7_findsFirst_2 : decode cX7_findsFirst 2 = .ok (.putfield 166, 3) := by decide +kernel
theorem dX7_findsFirst_5 : decode cX7_findsFirst 5 = .ok (.iconst 0, 1) := by decide +kernel
theorem dX7_findsFirst_6 : decode cX7_findsFirst 6 = .ok (.istore_n 1, 1) := by decide +kernel
theorem dX7_findsFirst_7 : decode cX7_findsFirst 7 = .ok (.iload_n 1, 1) := by decide +kernel
theorem dX7_findsFirst_8 : decode cX7_findsFirst 8 = .ok (.bipush 32, 2) := by decide +kernel
theorem dX7_findsFirst_10 : decode cX7_findsFirst 10 = .ok (.if_icmp .ge 28, 3) := by decide +kernel
theorem dX7_findsFirst_13 : decode cX7_findsFirst 13 = .ok (.aload_n 0, 1) := by decide +kernel
theorem dX7_findsFirst_14 : decode cX7_findsFirst 14 = .ok (.getfield 42, 3) := by decide +kernel
theorem dX7_findsFirst_17 : decode cX7_findsFirst 17 = .ok (.iload_n 1, 1) := by decide +kernel
theorem dX7_findsFirst_18 : decode cX7_findsFirst 18 = .ok (.iconst 0, 1) := by decide +kernel
theorem dX7_findsFirst_19 : decode cX7_findsFirst 19 = .ok (.bastore, 1) := by decide +kernel
theorem dX7_findsFirst_20 : decode cX7_findsFirst 20 = .ok (.aload_n 0, 1) := by decide +kernel
theorem dX7_findsFirst_21 : decode cX7_findsFirst 21 = .ok (.getfield 45, 3) := by decide +kernel
theorem dX7_findsFirst_24 : decode cX7_findsFirst 24 = .ok (.iload_n 1, 1) := by decide +kernel
theorem dX7_findsFirst_25 : decode cX7_findsFirst 25 = .ok (.aload_n 0, 1) := by decide +kernel
theorem dX7_findsFirst_26 : decode cX7_findsFirst 26 = .ok (.iload_n 1, 1) := by decide +kernel
theorem dX7_findsFirst_27 : decode cX7_findsFirst 27 = .ok (.iconst 1, 1) := by decide +kernel
theorem dX7_findsFirst_28 : decode cX7_findsFirst 28 = .ok (.invokevirtual 63, 3) := by decide +kernel
theorem dX7_findsFirst_31 : decode cX7_findsFirst 31 = .ok (.iastore, 1) := by decide +kernel
theorem dX7_findsFirst_32 : decode cX7_findsFirst 32 = .ok (.iinc 1 1, 3) := by decide +kernel
theorem dX7_findsFirst_35 : decode cX7_findsFirst 35 = .ok (.goto (-28), 3) := by decide +kernel
theorem dX7_findsFirst_38 : decode cX7_findsFirst 38 = .ok (.iconst 0, 1) := by decide +kernel
theorem dX7_findsFirst_39 : decode cX7_findsFirst 39 = .ok (.istore_n 1, 1) := by decide +kernel
theorem dX7_findsFirst_40 : decode cX7_findsFirst 40 = .ok (.iload_n 1, 1) := by decide +kernel
theorem dX7_findsFirst_41 : decode cX7_findsFirst 41 = .ok (.bipush 6, 2) := by decide +kernel
theorem dX7_findsFirst_43 : decode cX7_findsFirst 43 = .ok (.if_icmp .ge 23, 3) := by decide +kernel
theorem dX7_findsFirst_46 : decode cX7_findsFirst 46 = .ok (.aload_n 0, 1) := by decide +kernel
theorem dX7_findsFirst_47 : decode cX7_findsFirst 47 = .ok (.aload_n 0, 1) := by decide +kernel
theorem dX7_findsFirst_48 : decode cX7_findsFirst 48 = .ok (.getfield 7, 3) := by decide +kernel
theorem dX7_findsFirst_51 : decode cX7_findsFirst 51 = .ok (.sipush 192, 3) := by decide +kernel
theorem dX7_findsFirst_54 : decode cX7_findsFirst 54 = .ok (.iload_n 1, 1) := by decide +kernel
theorem dX7_findsFirst_55 : decode cX7_findsFirst 55 = .ok (.iadd, 1) := by decide +kernel
theorem dX7_findsFirst_56 : decode cX7_findsFirst 56 = .ok (.iaload, 1) := by decide +kernel
theorem dX7_findsFirst_57 : decode cX7_findsFirst 57 = .ok (.invokevirtual 169, 3) := by decide +kernel
theorem dX7_findsFirst_60 : decode cX7_findsFirst 60 = .ok (.iinc 1 1, 3) := by decide +kernel
theorem dX7_findsFirst_63 : decode cX7_findsFirst 63 = .ok (.goto (-23), 3) := by decide +kernel
theorem dX7_findsFirst_66 : decode cX7_findsFirst 66 = .ok (.iconst 0, 1) := by decide +kernel
theorem dX7_findsFirst_67 : decode cX7_findsFirst 67 = .ok (.istore_n 1, 1) := by decide +kernel
theorem dX7_findsFirst_68 : decode cX7_findsFirst 68 = .ok (.iload_n 1, 1) := by decide +kernel
theorem dX7_findsFirst_69 : decode cX7_findsFirst 69 = .ok (.aload_n 0, 1) := by decide +kernel
theorem dX7_findsFirst_70 : decode cX7_findsFirst 70 = .ok (.getfield 7, 3) := by decide +kernel
theorem dX7_findsFirst_73 : decode cX7_findsFirst 73 = .ok (.sipush 291, 3) := by decide +kernel
theorem dX7_findsFirst_76 : decode cX7_findsFirst 76 = .ok (.iaload, 1) := by decide +kernel
theorem dX7_findsFirst_77 : decode cX7_findsFirst 77 = .ok (.if_icmp .ge 35, 3) := by decide +kernel
theorem dX7_findsFirst_80 : decode cX7_findsFirst 80 = .ok (.aload_n 0, 1) := by decide +kernel
theorem dX7_findsFirst_81 : decode cX7_findsFirst 81 = .ok (.getfield 7, 3) := by decide +kernel
theorem dX7_findsFirst_84 : decode cX7_findsFirst 84 = .ok (.sipush 292, 3) := by decide +kernel
theorem dX7_findsFirst_87 : decode cX7_findsFirst 87 = .ok (.iaload, 1) := by decide +kernel
theorem dX7_findsFirst_88 : decode cX7_findsFirst 88 = .ok (.iconst 1, 1) := by decide +kernel
theorem dX7_findsFirst_89 : decode cX7_findsFirst 89 = .ok (.if_icmp .ne 23, 3) := by decide +kernel
theorem dX7_findsFirst_92 : decode cX7_findsFirst 92 = .ok (.aload_n 0, 1) := by decide +kernel
theorem dX7_findsFirst_93 : decode cX7_findsFirst 93 = .ok (.aload_n 0, 1) := by decide +kernel
theorem dX7_findsFirst_94 : decode cX7_findsFirst 94 = .ok (.getfield 7, 3) := by decide +kernel
theorem dX7_findsFirst_97 : decode cX7_findsFirst 97 = .ok (.sipush 259, 3) := by decide +kernel
theorem dX7_findsFirst_100 : decode cX7_findsFirst 100 = .ok (.iload_n 1, 1) := by decide +kernel
theorem dX7_findsFirst_101 : decode cX7_findsFirst 101 = .ok (.iadd, 1) := by decide +kernel
theorem dX7_findsFirst_102 : decode cX7_findsFirst 102 = .ok (.iaload, 1) := by decide +kernel
theorem dX7_findsFirst_103 : decode cX7_findsFirst 103 = .ok (.invokevirtual 169, 3) := by decide +kernel
theorem dX7_findsFirst_106 : decode cX7_findsFirst 106 = .ok (.iinc 1 1, 3) := by decide +kernel
theorem dX7_findsFirst_109 : decode cX7_findsFirst 109 = .ok (.goto (-41), 3) := by decide +kernel
theorem dX7_findsFirst_112 : decode cX7_findsFirst 112 = .ok (.aload_n 0, 1) := by decide +kernel
theorem dX7_findsFirst_113 : decode cX7_findsFirst 113 = .ok (.aload_n 0, 1) := by decide +kernel
theorem dX7_findsFirst_114 : decode cX7_findsFirst 114 = .ok (.invokevirtual 172, 3) := by decide +kernel
theorem dX7_findsFirst_117 : decode cX7_findsFirst 117 = .ok (.putfield 175, 3) := by decide +kernel
theorem dX7_findsFirst_120 : decode cX7_findsFirst 120 = .ok (.iconst 0, 1) := by decide +kernel
theorem dX7_findsFirst_121 : decode cX7_findsFirst 121 = .ok (.istore_n 1, 1) := by decide +kernel
theorem dX7_findsFirst_122 : decode cX7_findsFirst 122 = .ok (.iload_n 1, 1) := by decide +kernel
theorem dX7_findsFirst_123 : decode cX7_findsFirst 123 = .ok (.bipush 20, 2) := by decide +kernel
theorem dX7_findsFirst_125 : decode cX7_findsFirst 125 = .ok (.if_icmp .ge 26, 3) := by decide +kernel
theorem dX7_findsFirst_128 : decode cX7_findsFirst 128 = .ok (.aload_n 0, 1) := by decide +kernel
theorem dX7_findsFirst_129 : decode cX7_findsFirst 129 = .ok (.getfield 175, 3) := by decide +kernel
theorem dX7_findsFirst_132 : decode cX7_findsFirst 132 = .ok (.iload_n 1, 1) := by decide +kernel
theorem dX7_findsFirst_133 : decode cX7_findsFirst 133 = .ok (.ishr, 1) := by decide +kernel
theorem dX7_findsFirst_134 : decode cX7_findsFirst 134 = .ok (.iconst 1, 1) := by decide +kernel
theorem dX7_findsFirst_135 : decode cX7_findsFirst 135 = .ok (.iand, 1) := by decide +kernel
theorem dX7_findsFirst_136 : decode cX7_findsFirst 136 = .ok (.iconst 1, 1) := by decide +kernel
theorem dX7_findsFirst_137 : decode cX7_findsFirst 137 = .ok (.if_icmp .ne 8, 3) := by decide +kernel
theorem dX7_findsFirst_140 : decode cX7_findsFirst 140 = .ok (.aload_n 0, 1) := by decide +kernel
theorem dX7_findsFirst_141 : decode cX7_findsFirst 141 = .ok (.iload_n 1, 1) := by decide +kernel
theorem dX7_findsFirst_142 : decode cX7_findsFirst 142 = .ok (.invokevirtual 178, 3) := by decide +kernel
theorem dX7_findsFirst_145 : decode cX7_findsFirst 145 = .ok (.iinc 1 1, 3) := by decide +kernel
theorem dX7_findsFirst_148 : decode cX7_findsFirst 148 = .ok (.goto (-26), 3) := by decide +kernel
theorem dX7_findsFirst_151 : decode cX7_findsFirst 151 = .ok (.return_, 1) := by decide +kernel
set_option maxRecDepth 20000 in
theorem ggX7_copies_X7_ofThing : GoodIn wsX7_copies wsX7_ofThing := goodIn_r _ [10, 4, 23, 24, 25, 26, 27, 28, 29, 30, 31, 32, 33, 34, 35, 36, 37, 38, 39, 40, 41, 42, 43, 44, 45, 46, 47, 48] (by decide +kernel) (by decide +kernel)
set_option maxRecDepth 20000 in
theorem gX7_copies_X7_ofThing : GoodIn wsX7_copies (wsV RX7 63 RX7 yX7_ofThing wsX7_ofThing) := goodIn_app (goodIn_of _ (by decide +kernel)) ggX7_copies_X7_ofThing
set_option maxRecDepth 20000 in
theorem ggX7_copies_X7_ofRegion : GoodIn wsX7_copies wsX7_ofRegion := goodIn_r _ [14, 4, 23, 24, 25, 26, 27, 28, 29, 30, 31, 32, 33, 34, 35, 36, 37, 38, 39, 40, 41, 42, 43, 44, 45, 46, 47, 48] (by decide +kernel) (by decide +kernel)
set_option maxRecDepth 20000 in
theorem gX7_copies_X7_ofRegion : GoodIn wsX7_copies (wsV RX7 67 RX7 yX7_ofRegion wsX7_ofRegion) := goodIn_app (goodIn_of _ (by decide +kernel)) ggX7_copies_X7_ofRegion
set_option maxRecDepth 20000 in
theorem ggX7_copies_X7_lowestFree : GoodIn wsX7_copies wsX7_lowestFree := goodIn_r _ [18, 11, 12, 13, 9, 14, 4, 23, 24, 25, 26, 27, 28, 29, 30, 31, 32, 33, 34, 35, 36, 37, 38, 39, 40, 41, 42, 43, 44, 45, 46, 47, 48] (by decide +kernel) (by decide +kernel)
set_option maxRecDepth 20000 in
theorem gX7_copies_X7_lowestFree : GoodIn wsX7_copies (wsV RX7 112 RX7 yX7_lowestFree wsX7_lowestFree) := goodIn_app (goodIn_of _ (by decide +kernel)) ggX7_copies_X7_lowestFree
set_option maxRecDepth 20000 in
theorem ggX7_copies_X7_setsRegion : GoodIn wsX7_copies wsX7_setsRegion := goodIn_r _ [22, 4, 23, 24, 25, 26, 27, 28, 29, 30, 31, 32, 33, 34, 35, 36, 37, 38, 39, 40, 41, 42, 43, 44, 45, 46, 47, 48] (by decide +kernel) (by decide +kernel)
set_option maxRecDepth 20000 in
theorem gX7_copies_X7_setsRegion : GoodIn wsX7_copies (wsV RX7 88 RX7 yX7_setsRegion wsX7_setsRegion) := goodIn_app (goodIn_of _ (by decide +kernel)) ggX7_copies_X7_setsRegion
theorem dX7_copies_0 : decode cX7_copies 0 = .ok (.aload_n 0, 1) := by decide +kernel
theorem dX7_copies_1 : decode cX7_copies 1 = .ok (.iload_n 1, 1) := by decide +kernel
theorem dX7_copies_2 : decode cX7_copies 2 = .ok (.iconst 0, 1) := by decide +kernel
theorem dX7_copies_3 : decode cX7_copies 3 = .ok (.invokevirtual 63, 3) := by decide +kernel
theorem dX7_copies_6 : decode cX7_copies 6 = .ok (.istore_n 2, 1) := by decide +kernel
theorem dX7_copies_7 : decode cX7_copies 7 = .ok (.aload_n 0, 1) := by decide +kernel
theorem dX7_copies_8 : decode cX7_copies 8 = .ok (.getfield 181, 3) := by decide +kernel
theorem dX7_copies_11 : decode cX7_copies 11 = .ok (.bipush (-9), 2) := by decide +kernel
theorem dX7_copies_13 : decode cX7_copies 13 = .ok (.if_icmp .eq 19, 3) := by decide +kernel
theorem dX7_copies_16 : decode cX7_copies 16 = .ok (.aload_n 0, 1) := by decide +kernel
theorem dX7_copies_17 : decode cX7_copies 17 = .ok (.aload_n 0, 1) := by decide +kernel
theorem dX7_copies_18 : decode cX7_copies 18 = .ok (.getfield 181, 3) := by decide +kernel
theorem dX7_copies_21 : decode cX7_copies 21 = .ok (.iconst 1, 1) := by decide +kernel
theorem dX7_copies_22 : decode cX7_copies 22 = .ok (.invokevirtual 67, 3) := by decide +kernel
theorem dX7_copies_25 : decode cX7_copies 25 = .ok (.iload_n 2, 1) := by decide +kernel
theorem dX7_copies_26 : decode cX7_copies 26 = .ok (.iadd, 1) := by decide +kernel
theorem dX7_copies_27 : decode cX7_copies 27 = .ok (.bipush 8, 2) := by decide +kernel
theorem dX7_copies_29 : decode cX7_copies 29 = .ok (.if_icmp .le 50, 3) := by decide +kernel
theorem dX7_copies_32 : decode cX7_copies 32 = .ok (.aload_n 0, 1) := by decide +kernel
theorem dX7_copies_33 : decode cX7_copies 33 = .ok (.iconst 1, 1) := by decide +kernel
theorem dX7_copies_34 : decode cX7_copies 34 = .ok (.invokevirtual 112, 3) := by decide +kernel
theorem dX7_copies_37 : decode cX7_copies 37 = .ok (.istore_n 3, 1) := by decide +kernel
theorem dX7_copies_38 : decode cX7_copies 38 = .ok (.iload_n 3, 1) := by decide +kernel
theorem dX7_copies_39 : decode cX7_copies 39 = .ok (.bipush (-9), 2) := by decide +kernel
theorem dX7_copies_41 : decode cX7_copies 41 = .ok (.if_icmp .ne 26, 3) := by decide +kernel
theorem dX7_copies_44 : decode cX7_copies 44 = .ok (.aload_n 0, 1) := by decide +kernel
theorem dX7_copies_45 : decode cX7_copies 45 = .ok (.dup, 1) := by decide +kernel
theorem dX7_copies_46 : decode cX7_copies 46 = .ok (.getfield 184, 3) := by decide +kernel
theorem dX7_copies_49 : decode cX7_copies 49 = .ok (.iconst 1, 1) := by decide +kernel
theorem dX7_copies_50 : decode cX7_copies 50 = .ok (.iload_n 1, 1) := by decide +kernel
theorem dX7_copies_51 : decode cX7_copies 51 = .ok (.ishl, 1) := by decide +kernel
theorem dX7_copies_52 : decode cX7_copies 52 = .ok (.ior, 1) := by decide +kernel
theorem dX7_copies_53 : decode cX7_copies 53 = .ok (.putfield 184, 3) := by decide +kernel
theorem dX7_copies_56 : decode cX7_copies 56 = .ok (.aload_n 0, 1) := by decide +kernel
theorem dX7_copies_57 : decode cX7_copies 57 = .ok (.dup, 1) := by decide +kernel
theorem dX7_copies_58 : decode cX7_copies 58 = .ok (.getfield 187, 3) := by decide +kernel
theorem dX7_copies_61 : decode cX7_copies 61 = .ok (.iconst 1, 1) := by decide +kernel
theorem dX7_copies_62 : decode cX7_copies 62 = .ok (.iadd, 1) := by decide +kernel
theorem dX7_copies_63 : decode cX7_copies 63 = .ok (.putfield 187, 3) := by decide +kernel
theorem dX7_copies_66 : decode cX7_copies 66 = .ok (.return_, 1) := by decide +kernel
theorem dX7_copies_67 : decode cX7_copies 67 = .ok (.aload_n 0, 1) := by decide +kernel
theorem dX7_copies_68 : decode cX7_copies 68 = .ok (.iload_n 3, 1) := by decide +kernel
theorem dX7_copies_69 : decode cX7_copies 69 = .ok (.putfield 181, 3) := by decide +kernel
theorem dX7_copies_72 : decode cX7_copies 72 = .ok (.aload_n 0, 1) := by decide +kernel
theorem dX7_copies_73 : decode cX7_copies 73 = .ok (.iload_n 3, 1) := by decide +kernel
theorem dX7_copies_74 : decode cX7_copies 74 = .ok (.iconst 0, 1) := by decide +kernel
theorem dX7_copies_75 : decode cX7_copies 75 = .ok (.iconst 2, 1) := by decide +kernel
theorem dX7_copies_76 : decode cX7_copies 76 = .ok (.invokevirtual 88, 3) := by decide +kernel
theorem dX7_copies_79 : decode cX7_copies 79 = .ok (.aload_n 0, 1) := by decide +kernel
theorem dX7_copies_80 : decode cX7_copies 80 = .ok (.getfield 7, 3) := by decide +kernel
theorem dX7_copies_83 : decode cX7_copies 83 = .ok (.bipush 6, 2) := by decide +kernel
theorem dX7_copies_85 : decode cX7_copies 85 = .ok (.iload_n 1, 1) := by decide +kernel
theorem dX7_copies_86 : decode cX7_copies 86 = .ok (.imul, 1) := by decide +kernel
theorem dX7_copies_87 : decode cX7_copies 87 = .ok (.iconst 1, 1) := by decide +kernel
theorem dX7_copies_88 : decode cX7_copies 88 = .ok (.iadd, 1) := by decide +kernel
theorem dX7_copies_89 : decode cX7_copies 89 = .ok (.aload_n 0, 1) := by decide +kernel
theorem dX7_copies_90 : decode cX7_copies 90 = .ok (.getfield 181, 3) := by decide +kernel
theorem dX7_copies_93 : decode cX7_copies 93 = .ok (.iastore, 1) := by decide +kernel
theorem dX7_copies_94 : decode cX7_copies 94 = .ok (.aload_n 0, 1) := by decide +kernel
theorem dX7_copies_95 : decode cX7_copies 95 = .ok (.getfield 7, 3) := by decide +kernel
theorem dX7_copies_98 : decode cX7_copies 98 = .ok (.bipush 6, 2) := by decide +kernel
theorem dX7_copies_100 : decode cX7_copies 100 = .ok (.iload_n 1, 1) := by decide +kernel
theorem dX7_copies_101 : decode cX7_copies 101 = .ok (.imul, 1) := by decide +kernel
theorem dX7_copies_102 : decode cX7_copies 102 = .ok (.iconst 2, 1) := by decide +kernel
theorem dX7_copies_103 : decode cX7_copies 103 = .ok (.iadd, 1) := by decide +kernel
theorem dX7_copies_104 : decode cX7_copies 104 = .ok (.aload_n 0, 1) := by decide +kernel
theorem dX7_copies_105 : decode cX7_copies 105 = .ok (.aload_n 0, 1) := by decide +kernel
theorem dX7_copies_106 : decode cX7_copies 106 = .ok (.getfield 181, 3) := by decide +kernel
theorem dX7_copies_109 : decode cX7_copies 109 = .ok (.iconst 1, 1) := by decide +kernel
theorem dX7_copies_110 : decode cX7_copies 110 = .ok (.invokevirtual 67, 3) := by decide +kernel
theorem dX7_copies_113 : decode cX7_copies 113 = .ok (.iastore, 1) := by decide +kernel
theorem dX7_copies_114 : decode cX7_copies 114 = .ok (.aload_n 0, 1) := by decide +kernel
theorem dX7_copies_115 : decode cX7_copies 115 = .ok (.aload_n 0, 1) := by decide +kernel
theorem dX7_copies_116 : decode cX7_copies 116 = .ok (.getfield 181, 3) := by decide +kernel
theorem dX7_copies_119 : decode cX7_copies 119 = .ok (.iconst 1, 1) := by decide +kernel
theorem dX7_copies_120 : decode cX7_copies 120 = .ok (.aload_n 0, 1) := by decide +kernel
theorem dX7_copies_121 : decode cX7_copies 121 = .ok (.aload_n 0, 1) := by decide +kernel
theorem dX7_copies_122 : decode cX7_copies 122 = .ok (.getfield 181, 3) := by decide +kernel
theorem dX7_copies_125 : decode cX7_copies 125 = .ok (.iconst 1, 1) := by decide +kernel
theorem dX7_copies_126 : decode cX7_copies 126 = .ok (.invokevirtual 67, 3) := by decide +kernel
theorem dX7_copies_129 : decode cX7_copies 129 = .ok (.iload_n 2, 1) := by decide +kernel
theorem dX7_copies_130 : decode cX7_copies 130 = .ok (.iadd, 1) := by decide +kernel
theorem dX7_copies_131 : decode cX7_copies 131 = .ok (.invokevirtual 88, 3) := by decide +kernel
theorem dX7_copies_134 : decode cX7_copies 134 = .ok (.aload_n 0, 1) := by decide +kernel
theorem dX7_copies_135 : decode cX7_copies 135 = .ok (.dup, 1) := by decide +kernel
theorem dX7_copies_136 : decode cX7_copies 136 = .ok (.getfield 190, 3) := by decide +kernel
theorem dX7_copies_139 : decode cX7_copies 139 = .ok (.iload_n 2, 1) := by decide +kernel
theorem dX7_copies_140 : decode cX7_copies 140 = .ok (.iadd, 1) := by decide +kernel
theorem dX7_copies_141 : decode cX7_copies 141 = .ok (.putfield 190, 3) := by decide +kernel
theorem dX7_copies_144 : decode cX7_copies 144 = .ok (.return_, 1) := by decide +kernel
theorem dX7_ones_0 : decode cX7_ones 0 = .ok (.iconst 0, 1) := by decide +kernel
theorem dX7_ones_1 : decode cX7_ones 1 = .ok (.istore_n 1, 1) := by decide +kernel
theorem dX7_ones_2 : decode cX7_ones 2 = .ok (.iconst 0, 1) := by decide +kernel
theorem dX7_ones_3 : decode cX7_ones 3 = .ok (.istore_n 2, 1) := by decide +kernel
theorem dX7_ones_4 : decode cX7_ones 4 = .ok (.iload_n 2, 1) := by decide +kernel
theorem dX7_ones_5 : decode cX7_ones 5 = .ok (.bipush 20, 2) := by decide +kernel
theorem dX7_ones_7 : decode cX7_ones 7 = .ok (.if_icmp .ge 17, 3) := by decide +kernel
theorem dX7_ones_10 : decode cX7_ones 10 = .ok (.iload_n 1, 1) := by decide +kernel
theorem dX7_ones_11 : decode cX7_ones 11 = .ok (.iload_n 0, 1) := by decide +kernel
theorem dX7_ones_12 : decode cX7_ones 12 = .ok (.iload_n 2, 1) := by decide +kernel
theorem dX7_ones_13 : decode cX7_ones 13 = .ok (.ishr, 1) := by decide +kernel
theorem dX7_ones_14 : decode cX7_ones 14 = .ok (.iconst 1, 1) := by decide +kernel
theorem dX7_ones_15 : decode cX7_ones 15 = .ok (.iand, 1) := by decide +kernel
theorem dX7_ones_16 : decode cX7_ones 16 = .ok (.iadd, 1) := by decide +kernel
theorem dX7_ones_17 : decode cX7_ones 17 = .ok (.istore_n 1, 1) := by decide +kernel
theorem dX7_ones_18 : decode cX7_ones 18 = .ok (.iinc 2 1, 3) := by decide +kernel
theorem dX7_ones_21 : decode cX7_ones 21 = .ok (.goto (-17), 3) := by decide +kernel
theorem dX7_ones_24 : decode cX7_ones 24 = .ok (.iload_n 1, 1) := by decide +kernel
theorem dX7_ones_25 : decode cX7_ones 25 = .ok (.ireturn, 1) := by decide +kernel
set_option maxRecDepth 20000 in
theorem ggX7_hasStaying_X7_ofThing : GoodIn wsX7_hasStaying wsX7_ofThing := goodIn_r _ [6, 7, 8, 9, 10, 11, 12, 13, 14, 15, 16, 17, 18, 19, 20, 21, 22, 23, 24, 25, 26, 27, 28, 29, 30, 31, 32, 33] (by decide +kernel) (by decide +kernel)
set_option maxRecDepth 20000 in
theorem gX7_hasStaying_X7_ofThing : GoodIn wsX7_hasStaying (wsV RX7 63 RX7 yX7_ofThing wsX7_ofThing) := goodIn_app (goodIn_of _ (by decide +kernel)) ggX7_hasStaying_X7_ofThing
theorem dX7_hasStaying_0 : decode cX7_hasStaying 0 = .ok (.iconst 0, 1) := by decide +kernel
theorem dX7_hasStaying_1 : decode cX7_hasStaying 1 = .ok (.istore_n 2, 1) := by decide +kernel
theorem dX7_hasStaying_2 : decode cX7_hasStaying 2 = .ok (.iconst 0, 1) := by decide +kernel
theorem dX7_hasStaying_3 : decode cX7_hasStaying 3 = .ok (.istore_n 3, 1) := by decide +kernel
theorem dX7_hasStaying_4 : decode cX7_hasStaying 4 = .ok (.iload_n 3, 1) := by decide +kernel
theorem dX7_hasStaying_5 : decode cX7_hasStaying 5 = .ok (.bipush 32, 2) := by decide +kernel
theorem dX7_hasStaying_7 : decode cX7_hasStaying 7 = .ok (.if_icmp .ge 41, 3) := by decide +kernel
theorem dX7_hasStaying_10 : decode cX7_hasStaying 10 = .ok (.iload_n 2, 1) := by decide +kernel
theorem dX7_hasStaying_11 : decode cX7_hasStaying 11 = .ok (.ifCond .ne 25, 3) := by decide +kernel
theorem dX7_hasStaying_14 : decode cX7_hasStaying 14 = .ok (.aload_n 0, 1) := by decide +kernel
theorem dX7_hasStaying_15 : decode cX7_hasStaying 15 = .ok (.getfield 184, 3) := by decide +kernel
theorem dX7_hasStaying_18 : decode cX7_hasStaying 18 = .ok (.iload_n 3, 1) := by decide +kernel
theorem dX7_hasStaying_19 : decode cX7_hasStaying 19 = .ok (.ishr, 1) := by decide +kernel
theorem dX7_hasStaying_20 : decode cX7_hasStaying 20 = .ok (.iconst 1, 1) := by decide +kernel
theorem dX7_hasStaying_21 : decode cX7_hasStaying 21 = .ok (.iand, 1) := by decide +kernel
theorem dX7_hasStaying_22 : decode cX7_hasStaying 22 = .ok (.iconst 1, 1) := by decide +kernel
theorem dX7_hasStaying_23 : decode cX7_hasStaying 23 = .ok (.if_icmp .ne 17, 3) := by decide +kernel
theorem dX7_hasStaying_26 : decode cX7_hasStaying 26 = .ok (.aload_n 0, 1) := by decide +kernel
theorem dX7_hasStaying_27 : decode cX7_hasStaying 27 = .ok (.iload_n 3, 1) := by decide +kernel
theorem dX7_hasStaying_28 : decode cX7_hasStaying 28 = .ok (.iconst 1, 1) := by decide +kernel
theorem dX7_hasStaying_29 : decode cX7_hasStaying 29 = .ok (.invokevirtual 63, 3) := by decide +kernel
theorem dX7_hasStaying_32 : decode cX7_hasStaying 32 = .ok (.iload_n 1, 1) := by decide +kernel
theorem dX7_hasStaying_33 : decode cX7_hasStaying 33 = .ok (.if_icmp .ne 7, 3) := by decide +kernel
theorem dX7_hasStaying_36 : decode cX7_hasStaying 36 = .ok (.iconst 1, 1) := by decide +kernel
theorem dX7_hasStaying_37 : decode cX7_hasStaying 37 = .ok (.goto 4, 3) := by decide +kernel
theorem dX7_hasStaying_40 : decode cX7_hasStaying 40 = .ok (.iconst 0, 1) := by decide +kernel
theorem dX7_hasStaying_41 : decode cX7_hasStaying 41 = .ok (.istore_n 2, 1) := by decide +kernel
theorem dX7_hasStaying_42 : decode cX7_hasStaying 42 = .ok (.iinc 3 1, 3) := by decide +kernel
theorem dX7_hasStaying_45 : decode cX7_hasStaying 45 = .ok (.goto (-41), 3) := by decide +kernel
theorem dX7_hasStaying_48 : decode cX7_hasStaying 48 = .ok (.iload_n 2, 1) := by decide +kernel
theorem dX7_hasStaying_49 : decode cX7_hasStaying 49 = .ok (.ireturn, 1) := by decide +kernel
set_option maxRecDepth 20000 in
theorem ggX7_empties_X7_emptied : GoodIn wsX7_empties wsX7_emptied := goodIn_r _ [7, 8, 9, 10, 6, 11, 12, 13, 14, 15, 16, 17, 18, 19, 20, 21, 22, 23, 52, 53, 54, 55, 56, 57, 58, 59, 60, 61, 62, 63, 64, 65, 66, 67, 68, 69, 70, 71, 72, 73, 74, 75, 76, 77] (by decide +kernel) (by decide +kernel)
set_option maxRecDepth 20000 in
theorem gX7_empties_X7_emptied : GoodIn wsX7_empties (wsV RX7 139 RX7 yX7_emptied wsX7_emptied) := goodIn_app (goodIn_of _ (by decide +kernel)) ggX7_empties_X7_emptied
set_option maxRecDepth 20000 in
theorem ggX7_empties_X7_hasStaying : GoodIn wsX7_empties wsX7_hasStaying := goodIn_r _ [27, 2, 16, 17, 18, 6, 19, 12, 52, 53, 54, 55, 56, 57, 58, 59, 60, 61, 62, 63, 64, 65, 66, 67, 68, 69, 70, 71, 72, 73, 74, 75, 76, 77] (by decide +kernel) (by decide +kernel)
set_option maxRecDepth 20000 in
theorem gX7_empties_X7_hasStaying : GoodIn wsX7_empties (wsV RX7 193 RX7 yX7_hasStaying wsX7_hasStaying) := goodIn_app (goodIn_of _ (by decide +kernel)) ggX7_empties_X7_hasStaying
set_option maxRecDepth 20000 in
theorem ggX7_empties_X7_setsRegion : GoodIn wsX7_empties wsX7_setsRegion := goodIn_r _ [31, 12, 52, 53, 54, 55, 56, 57, 58, 59, 60, 61, 62, 63, 64, 65, 66, 67, 68, 69, 70, 71, 72, 73, 74, 75, 76, 77] (by decide +kernel) (by decide +kernel)
set_option maxRecDepth 20000 in
theorem gX7_empties_X7_setsRegion : GoodIn wsX7_empties (wsV RX7 88 RX7 yX7_setsRegion wsX7_setsRegion) := goodIn_app (goodIn_of _ (by decide +kernel)) ggX7_empties_X7_setsRegion
set_option maxRecDepth 20000 in
theorem ggX7_empties_X7_becomesFree : GoodIn wsX7_empties wsX7_becomesFree := goodIn_r _ [35, 36, 37, 38, 6, 39, 12, 40, 41, 42, 43, 28, 29, 30, 31, 44, 45, 46, 47, 48, 49, 50, 51, 52, 53, 54, 55, 56, 57, 58, 59, 60, 61, 62, 63, 64, 65, 66, 67, 68, 69, 70, 71, 72, 73, 74, 75, 76, 77] (by decide +kernel) (by decide +kernel)
set_option maxRecDepth 20000 in
theorem gX7_empties_X7_becomesFree : GoodIn wsX7_empties (wsV RX7 143 RX7 yX7_becomesFree wsX7_becomesFree) := goodIn_app (goodIn_of _ (by decide +kernel)) ggX7_empties_X7_becomesFree
theorem dX7_empties_0 : decode cX7_empties 0 = .ok (.iconst 0, 1) := by decide +kernel
theorem dX7_empties_1 : decode cX7_empties 1 = .ok (.istore_n 1, 1) := by decide +kernel
theorem dX7_empties_2 : decode cX7_empties 2 = .ok (.iload_n 1, 1) := by decide +kernel
theorem dX7_empties_3 : decode cX7_empties 3 = .ok (.bipush 10, 2) := by decide +kernel
theorem dX7_empties_5 : decode cX7_empties 5 = .ok (.if_icmp .ge 61, 3) := by decide +kernel
theorem dX7_empties_8 : decode cX7_empties 8 = .ok (.aload_n 0, 1) := by decide +kernel
theorem dX7_empties_9 : decode cX7_empties 9 = .ok (.getfield 152, 3) := by decide +kernel
theorem dX7_empties_12 : decode cX7_empties 12 = .ok (.iload_n 1, 1) := by decide +kernel
theorem dX7_empties_13 : decode cX7_empties 13 = .ok (.ishr, 1) := by decide +kernel
theorem dX7_empties_14 : decode cX7_empties 14 = .ok (.iconst 1, 1) := by decide +kernel
theorem dX7_empties_15 : decode cX7_empties 15 = .ok (.iand, 1) := by decide +kernel
theorem dX7_empties_16 : decode cX7_empties 16 = .ok (.iconst 1, 1) := by decide +kernel
theorem dX7_empties_17 : decode cX7_empties 17 = .ok (.if_icmp .ne 43, 3) := by decide +kernel
theorem dX7_empties_20 : decode cX7_empties 20 = .ok (.aload_n 0, 1) := by decide +kernel
theorem dX7_empties_21 : decode cX7_empties 21 = .ok (.iload_n 1, 1) := by decide +kernel
theorem dX7_empties_22 : decode cX7_empties 22 = .ok (.aload_n 0, 1) := by decide +kernel
theorem dX7_empties_23 : decode cX7_empties 23 = .ok (.getfield 184, 3) := by decide +kernel
theorem dX7_empties_26 : decode cX7_empties 26 = .ok (.invokevirtual 139, 3) := by decide +kernel
theorem dX7_empties_29 : decode cX7_empties 29 = .ok (.aload_n 0, 1) := by decide +kernel
theorem dX7_empties_30 : decode cX7_empties 30 = .ok (.iload_n 1, 1) := by decide +kernel
theorem dX7_empties_31 : decode cX7_empties 31 = .ok (.invokevirtual 193, 3) := by decide +kernel
theorem dX7_empties_34 : decode cX7_empties 34 = .ok (.ifCond .eq 21, 3) := by decide +kernel
theorem dX7_empties_37 : decode cX7_empties 37 = .ok (.aload_n 0, 1) := by decide +kernel
theorem dX7_empties_38 : decode cX7_empties 38 = .ok (.iload_n 1, 1) := by decide +kernel
theorem dX7_empties_39 : decode cX7_empties 39 = .ok (.iconst 0, 1) := by decide +kernel
theorem dX7_empties_40 : decode cX7_empties 40 = .ok (.iconst 2, 1) := by decide +kernel
theorem dX7_empties_41 : decode cX7_empties 41 = .ok (.invokevirtual 88, 3) := by decide +kernel
theorem dX7_empties_44 : decode cX7_empties 44 = .ok (.aload_n 0, 1) := by decide +kernel
theorem dX7_empties_45 : decode cX7_empties 45 = .ok (.iload_n 1, 1) := by decide +kernel
theorem dX7_empties_46 : decode cX7_empties 46 = .ok (.iconst 2, 1) := by decide +kernel
theorem dX7_empties_47 : decode cX7_empties 47 = .ok (.bipush (-9), 2) := by decide +kernel
theorem dX7_empties_49 : decode cX7_empties 49 = .ok (.invokevirtual 88, 3) := by decide +kernel
theorem dX7_empties_52 : decode cX7_empties 52 = .ok (.goto 8, 3) := by decide +kernel
theorem dX7_empties_55 : decode cX7_empties 55 = .ok (.aload_n 0, 1) := by decide +kernel
theorem dX7_empties_56 : decode cX7_empties 56 = .ok (.iload_n 1, 1) := by decide +kernel
theorem dX7_empties_57 : decode cX7_empties 57 = .ok (.invokevirtual 143, 3) := by decide +kernel
theorem dX7_empties_60 : decode cX7_empties 60 = .ok (.iinc 1 1, 3) := by decide +kernel
theorem dX7_empties_63 : decode cX7_empties 63 = .ok (.goto (-61), 3) := by decide +kernel
theorem dX7_empties_66 : decode cX7_empties 66 = .ok (.return_, 1) := by decide +kernel
set_option maxRecDepth 20000 in
theorem ggX7_learns_X7_ofThing : GoodIn wsX7_learns wsX7_ofThing := goodIn_r _ [13, 14, 15, 16, 17, 18, 19, 20, 21, 22, 23, 24, 25, 26, 27, 28, 29, 30, 31, 32, 33, 34, 35, 36, 37, 38, 39, 40] (by decide +kernel) (by decide +kernel)
set_option maxRecDepth 20000 in
theorem gX7_learns_X7_ofThing : GoodIn wsX7_learns (wsV RX7 63 RX7 yX7_ofThing wsX7_ofThing) := goodIn_app (goodIn_of _ (by decide +kernel)) ggX7_learns_X7_ofThing
theorem dX7_learns_0 : decode cX7_learns 0 = .ok (.iconst 0, 1) := by decide +kernel
theorem dX7_learns_1 : decode cX7_learns 1 = .ok (.istore_n 2, 1) := by decide +kernel
theorem dX7_learns_2 : decode cX7_learns 2 = .ok (.iconst 0, 1) := by decide +kernel
theorem dX7_learns_3 : decode cX7_learns 3 = .ok (.istore_n 3, 1) := by decide +kernel
theorem dX7_learns_4 : decode cX7_learns 4 = .ok (.iconst 0, 1) := by decide +kernel
theorem dX7_learns_5 : decode cX7_learns 5 = .ok (.istore 4, 2) := by decide +kernel
theorem dX7_learns_7 : decode cX7_learns 7 = .ok (.iload 4, 2) := by decide +kernel
theorem dX7_learns_9 : decode cX7_learns 9 = .ok (.aload_n 0, 1) := by decide +kernel
theorem dX7_learns_10 : decode cX7_learns 10 = .ok (.getfield 166, 3) := by decide +kernel
theorem dX7_learns_13 : decode cX7_learns 13 = .ok (.if_icmp .ge 60, 3) := by decide +kernel
theorem dX7_learns_16 : decode cX7_learns 16 = .ok (.aload_n 0, 1) := by decide +kernel
theorem dX7_learns_17 : decode cX7_learns 17 = .ok (.aload_n 0, 1) := by decide +kernel
theorem dX7_learns_18 : decode cX7_learns 18 = .ok (.getfield 39, 3) := by decide +kernel
theorem dX7_learns_21 : decode cX7_learns 21 = .ok (.iload 4, 2) := by decide +kernel
theorem dX7_learns_23 : decode cX7_learns 23 = .ok (.iaload, 1) := by decide +kernel
theorem dX7_learns_24 : decode cX7_learns 24 = .ok (.iconst 0, 1) := by decide +kernel
theorem dX7_learns_25 : decode cX7_learns 25 = .ok (.invokevirtual 63, 3) := by decide +kernel
theorem dX7_learns_28 : decode cX7_learns 28 = .ok (.istore 5, 2) := by decide +kernel
theorem dX7_learns_30 : decode cX7_learns 30 = .ok (.iload_n 2, 1) := by decide +kernel
theorem dX7_learns_31 : decode cX7_learns 31 = .ok (.iload 5, 2) := by decide +kernel
theorem dX7_learns_33 : decode cX7_learns 33 = .ok (.iadd, 1) := by decide +kernel
theorem dX7_learns_34 : decode cX7_learns 34 = .ok (.istore_n 2, 1) := by decide +kernel
theorem dX7_learns_35 : decode cX7_learns 35 = .ok (.iload_n 3, 1) := by decide +kernel
theorem dX7_learns_36 : decode cX7_learns 36 = .ok (.aload_n 0, 1) := by decide +kernel
theorem dX7_learns_37 : decode cX7_learns 37 = .ok (.getfield 196, 3) := by decide +kernel
theorem dX7_learns_40 : decode cX7_learns 40 = .ok (.aload_n 0, 1) := by decide +kernel
theorem dX7_learns_41 : decode cX7_learns 41 = .ok (.getfield 45, 3) := by decide +kernel
theorem dX7_learns_44 : decode cX7_learns 44 = .ok (.aload_n 0, 1) := by decide +kernel
theorem dX7_learns_45 : decode cX7_learns 45 = .ok (.getfield 39, 3) := by decide +kernel
theorem dX7_learns_48 : decode cX7_learns 48 = .ok (.iload 4, 2) := by decide +kernel
theorem dX7_learns_50 : decode cX7_learns 50 = .ok (.iaload, 1) := by decide +kernel
theorem dX7_learns_51 : decode cX7_learns 51 = .ok (.iaload, 1) := by decide +kernel
theorem dX7_learns_52 : decode cX7_learns 52 = .ok (.ishr, 1) := by decide +kernel
theorem dX7_learns_53 : decode cX7_learns 53 = .ok (.iconst 1, 1) := by decide +kernel
theorem dX7_learns_54 : decode cX7_learns 54 = .ok (.iand, 1) := by decide +kernel
theorem dX7_learns_55 : decode cX7_learns 55 = .ok (.iconst 1, 1) := by decide +kernel
theorem dX7_learns_56 : decode cX7_learns 56 = .ok (.if_icmp .ne 8, 3) := by decide +kernel
theorem dX7_learns_59 : decode cX7_learns 59 = .ok (.iload 5, 2) := by decide +kernel
theorem dX7_learns_61 : decode cX7_learns 61 = .ok (.goto 4, 3) := by decide +kernel
theorem dX7_learns_64 : decode cX7_learns 64 = .ok (.iconst 0, 1) := by decide +kernel
theorem dX7_learns_65 : decode cX7_learns 65 = .ok (.iadd, 1) := by decide +kernel
theorem dX7_learns_66 : decode cX7_learns 66 = .ok (.istore_n 3, 1) := by decide +kernel
theorem dX7_learns_67 : decode cX7_learns 67 = .ok (.iinc 4 1, 3) := by decide +kernel
theorem dX7_learns_70 : decode cX7_learns 70 = .ok (.goto (-63), 3) := by decide +kernel
theorem dX7_learns_73 : decode cX7_learns 73 = .ok (.iload_n 2, 1) := by decide +kernel
theorem dX7_learns_74 : decode cX7_learns 74 = .ok (.ifCond .le 30, 3) := by decide +kernel
theorem dX7_learns_77 : decode cX7_learns 77 = .ok (.aload_n 0, 1) := by decide +kernel
theorem dX7_learns_78 : decode cX7_learns 78 = .ok (.getfield 13, 3) := by decide +kernel
theorem dX7_learns_81 : decode cX7_learns 81 = .ok (.iconst 0, 1) := by decide +kernel
theorem dX7_learns_82 : decode cX7_learns 82 = .ok (.ldc 199, 2) := by decide +kernel
theorem dX7_learns_84 : decode cX7_learns 84 = .ok (.aload_n 0, 1) := by decide +kernel
theorem dX7_learns_85 : decode cX7_learns 85 = .ok (.getfield 13, 3) := by decide +kernel
theorem dX7_learns_88 : decode cX7_learns 88 = .ok (.iconst 0, 1) := by decide +kernel
theorem dX7_learns_89 : decode cX7_learns 89 = .ok (.faload, 1) := by decide +kernel
theorem dX7_learns_90 : decode cX7_learns 90 = .ok (.fmul, 1) := by decide +kernel
theorem dX7_learns_91 : decode cX7_learns 91 = .ok (.ldc 200, 2) := by decide +kernel
theorem dX7_learns_93 : decode cX7_learns 93 = .ok (.iload_n 1, 1) := by decide +kernel
theorem dX7_learns_94 : decode cX7_learns 94 = .ok (.bipush 10, 2) := by decide +kernel
theorem dX7_learns_96 : decode cX7_learns 96 = .ok (.isub, 1) := by decide +kernel
theorem dX7_learns_97 : decode cX7_learns 97 = .ok (.i2f, 1) := by decide +kernel
theorem dX7_learns_98 : decode cX7_learns 98 = .ok (.iload_n 2, 1) := by decide +kernel
theorem dX7_learns_99 : decode cX7_learns 99 = .ok (.i2f, 1) := by decide +kernel
theorem dX7_learns_100 : decode cX7_learns 100 = .ok (.fdiv, 1) := by decide +kernel
theorem dX7_learns_101 : decode cX7_learns 101 = .ok (.fmul, 1) := by decide +kernel
theorem dX7_learns_102 : decode cX7_learns 102 = .ok (.fadd, 1) := by decide +kernel
theorem dX7_learns_103 : decode cX7_learns 103 = .ok (.fastore, 1) := by decide +kernel
theorem dX7_learns_104 : decode cX7_learns 104 = .ok (.aload_n 0, 1) := by decide +kernel
theorem dX7_learns_105 : decode cX7_learns 105 = .ok (.getfield 155, 3) := by decide +kernel
theorem dX7_learns_108 : decode cX7_learns 108 = .ok (.ifCond .le 30, 3) := by decide +kernel
theorem dX7_learns_111 : decode cX7_learns 111 = .ok (.aload_n 0, 1) := by decide +kernel
theorem dX7_learns_112 : decode cX7_learns 112 = .ok (.getfield 13, 3) := by decide +kernel
theorem dX7_learns_115 : decode cX7_learns 115 = .ok (.iconst 1, 1) := by decide +kernel
theorem dX7_learns_116 : decode cX7_learns 116 = .ok (.ldc 199, 2) := by decide +kernel
theorem dX7_learns_118 : decode cX7_learns 118 = .ok (.aload_n 0, 1) := by decide +kernel
theorem dX7_learns_119 : decode cX7_learns 119 = .ok (.getfield 13, 3) := by decide +kernel
theorem dX7_learns_122 : decode cX7_learns 122 = .ok (.iconst 1, 1) := by decide +kernel
theorem dX7_learns_123 : decode cX7_learns 123 = .ok (.faload, 1) := by decide +kernel
theorem dX7_learns_124 : decode cX7_learns 124 = .ok (.fmul, 1) := by decide +kernel
theorem dX7_learns_125 : decode cX7_learns 125 = .ok (.ldc 200, 2) := by decide +kernel
theorem dX7_learns_127 : decode cX7_learns 127 = .ok (.iload_n 3, 1) := by decide +kernel
theorem dX7_learns_128 : decode cX7_learns 128 = .ok (.i2f, 1) := by decide +kernel
theorem dX7_learns_129 : decode cX7_learns 129 = .ok (.aload_n 0, 1) := by decide +kernel
theorem dX7_learns_130 : decode cX7_learns 130 = .ok (.getfield 155, 3) := by decide +kernel
theorem dX7_learns_133 : decode cX7_learns 133 = .ok (.i2f, 1) := by decide +kernel
theorem dX7_learns_134 : decode cX7_learns 134 = .ok (.fdiv, 1) := by decide +kernel
theorem dX7_learns_135 : decode cX7_learns 135 = .ok (.fmul, 1) := by decide +kernel
theorem dX7_learns_136 : decode cX7_learns 136 = .ok (.fadd, 1) := by decide +kernel
theorem dX7_learns_137 : decode cX7_learns 137 = .ok (.fastore, 1) := by decide +kernel
theorem dX7_learns_138 : decode cX7_learns 138 = .ok (.return_, 1) := by decide +kernel
set_option maxRecDepth 20000 in
theorem ggX7_pause_X7_refinesOne : GoodIn wsX7_pause wsX7_refinesOne := goodIn_r _ [14, 1, 15, 16, 17, 13, 18, 19, 20, 21, 22, 23, 24, 25, 26, 27, 28, 29, 30, 31, 32, 33, 126, 127, 128, 129, 130, 131, 132, 133, 134, 135, 136, 137, 138, 139, 140, 141, 142, 143, 144, 145, 146, 147, 148, 149, 150, 151] (by decide +kernel) (by decide +kernel)
set_option maxRecDepth 20000 in
theorem gX7_pause_X7_refinesOne : GoodIn wsX7_pause (wsV RX7 133 RX7 yX7_refinesOne wsX7_refinesOne) := goodIn_app (goodIn_of _ (by decide +kernel)) ggX7_pause_X7_refinesOne
set_option maxRecDepth 20000 in
theorem ggX7_pause_X7_laysChosen : GoodIn wsX7_pause wsX7_laysChosen := goodIn_r _ [37, 38, 39, 40, 41, 42, 43, 44, 45, 13, 46, 1, 47, 48, 49, 50, 126, 127, 128, 129, 130, 131, 132, 133, 134, 135, 136, 137, 138, 139, 140, 141, 142, 143, 144, 145, 146, 147, 148, 149, 150, 151] (by decide +kernel) (by decide +kernel)
set_option maxRecDepth 20000 in
theorem gX7_pause_X7_laysChosen : GoodIn wsX7_pause (wsV RX7 201 RX7 yX7_laysChosen wsX7_laysChosen) := goodIn_app (goodIn_of _ (by decide +kernel)) ggX7_pause_X7_laysChosen
set_option maxRecDepth 20000 in
theorem ggX7_pause_X7_ofRegion : GoodIn wsX7_pause wsX7_ofRegion := goodIn_r _ [46, 1, 126, 127, 128, 129, 130, 131, 132, 133, 134, 135, 136, 137, 138, 139, 140, 141, 142, 143, 144, 145, 146, 147, 148, 149, 150, 151] (by decide +kernel) (by decide +kernel)
set_option maxRecDepth 20000 in
theorem gX7_pause_X7_ofRegion : GoodIn wsX7_pause (wsV RX7 67 RX7 yX7_ofRegion wsX7_ofRegion) := goodIn_app (goodIn_of _ (by decide +kernel)) ggX7_pause_X7_ofRegion
set_option maxRecDepth 20000 in
theorem ggX7_pause_X7_findsFirst : GoodIn wsX7_pause wsX7_findsFirst := goodIn_r _ [54, 7, 55, 56, 1, 9, 30, 31, 32, 13, 33, 57, 58, 59, 60, 38, 8, 61, 62, 63, 64, 43, 44, 45, 46, 65, 66, 67, 68, 19, 20, 21, 22, 23, 24, 25, 26, 27, 28, 29, 126, 127, 128, 129, 130, 131, 132, 133, 134, 135, 136, 137, 138, 139, 140, 141, 142, 143, 144, 145, 146, 147, 148, 149, 150, 151] (by decide +kernel) (by decide +kernel)
set_option maxRecDepth 20000 in
theorem gX7_pause_X7_findsFirst : GoodIn wsX7_pause (wsV RX7 204 RX7 yX7_findsFirst wsX7_findsFirst) := goodIn_app (goodIn_of _ (by decide +kernel)) ggX7_pause_X7_findsFirst
set_option maxRecDepth 20000 in
theorem ggX7_pause_X7_copies : GoodIn wsX7_pause wsX7_copies := goodIn_r _ [72, 3, 4, 6, 1, 5, 30, 31, 32, 13, 33, 43, 44, 45, 46, 73, 74, 75, 76, 77, 78, 79, 80, 126, 127, 128, 129, 130, 131, 132, 133, 134, 135, 136, 137, 138, 139, 140, 141, 142, 143, 144, 145, 146, 147, 148, 149, 150, 151] (by decide +kernel) (by decide +kernel)
set_option maxRecDepth 20000 in
theorem gX7_pause_X7_copies : GoodIn wsX7_pause (wsV RX7 207 RX7 yX7_copies wsX7_copies) := goodIn_app (goodIn_of _ (by decide +kernel)) ggX7_pause_X7_copies
set_option maxRecDepth 20000 in
theorem ggX7_pause_X7_ofThing : GoodIn wsX7_pause wsX7_ofThing := goodIn_r _ [33, 1, 126, 127, 128, 129, 130, 131, 132, 133, 134, 135, 136, 137, 138, 139, 140, 141, 142, 143, 144, 145, 146, 147, 148, 149, 150, 151] (by decide +kernel) (by decide +kernel)
set_option maxRecDepth 20000 in
theorem gX7_pause_X7_ofThing : GoodIn wsX7_pause (wsV RX7 63 RX7 yX7_ofThing wsX7_ofThing) := goodIn_app (goodIn_of _ (by decide +kernel)) ggX7_pause_X7_ofThing
set_option maxRecDepth 20000 in
theorem ggX7_pause_X7_finds : GoodIn wsX7_pause wsX7_finds := goodIn_r _ [60, 38, 56, 55, 8, 7, 126, 127, 128, 129, 130, 131, 132, 133, 134, 135, 136, 137, 138, 139, 140, 141, 142, 143, 144, 145, 146, 147, 148, 149, 150, 151] (by decide +kernel) (by decide +kernel)
set_option maxRecDepth 20000 in
theorem gX7_pause_X7_finds : GoodIn wsX7_pause (wsV RX7 169 RX7 yX7_finds wsX7_finds) := goodIn_app (goodIn_of _ (by decide +kernel)) ggX7_pause_X7_finds
set_option maxRecDepth 20000 in
theorem ggX7_pause_X7_cardOf : GoodIn wsX7_pause wsX7_cardOf := goodIn_r _ [29, 30, 31, 32, 13, 33, 1, 126, 127, 128, 129, 130, 131, 132, 133, 134, 135, 136, 137, 138, 139, 140, 141, 142, 143, 144, 145, 146, 147, 148, 149, 150, 151] (by decide +kernel) (by decide +kernel)
set_option maxRecDepth 20000 in
theorem gX7_pause_X7_cardOf : GoodIn wsX7_pause (wsV RX7 84 RX7 yX7_cardOf wsX7_cardOf) := goodIn_app (goodIn_of _ (by decide +kernel)) ggX7_pause_X7_cardOf
set_option maxRecDepth 20000 in
theorem ggX7_pause_X7_becomesDirty : GoodIn wsX7_pause wsX7_becomesDirty := goodIn_r _ [84, 1, 85, 86, 87, 13, 88, 126, 127, 128, 129, 130, 131, 132, 133, 134, 135, 136, 137, 138, 139, 140, 141, 142, 143, 144, 145, 146, 147, 148, 149, 150, 151] (by decide +kernel) (by decide +kernel)
set_option maxRecDepth 20000 in
theorem gX7_pause_X7_becomesDirty : GoodIn wsX7_pause (wsV RX7 130 RX7 yX7_becomesDirty wsX7_becomesDirty) := goodIn_app (goodIn_of _ (by decide +kernel)) ggX7_pause_X7_becomesDirty
set_option maxRecDepth 20000 in
theorem ggX7_pause_X7_empties : GoodIn wsX7_pause wsX7_empties := goodIn_r _ [92, 38, 4, 93, 94, 95, 13, 96, 19, 20, 21, 22, 1, 23, 24, 25, 30, 31, 32, 33, 97, 98, 99, 100, 101, 102, 103, 104, 77, 78, 79, 80, 105, 106, 107, 108, 43, 44, 45, 46, 109, 110, 111, 112, 113, 114, 115, 116, 15, 16, 17, 18, 126, 127, 128, 129, 130, 131, 132, 133, 134, 135, 136, 137, 138, 139, 140, 141, 142, 143, 144, 145, 146, 147, 148, 149, 150, 151] (by decide +kernel) (by decide +kernel)
set_option maxRecDepth 20000 in
theorem gX7_pause_X7_empties : GoodIn wsX7_pause (wsV RX7 210 RX7 yX7_empties wsX7_empties) := goodIn_app (goodIn_of _ (by decide +kernel)) ggX7_pause_X7_empties
set_option maxRecDepth 20000 in
theorem ggX7_pause_X7_ones : GoodIn wsX7_pause wsX7_ones := goodIn_r _ [119] (by decide +kernel) (by decide +kernel)
set_option maxRecDepth 20000 in
theorem gX7_pause_X7_ones : GoodIn wsX7_pause (va_wsS RX7 213 yX7_ones wsX7_ones) := goodIn_app (goodIn_of _ (by decide +kernel)) ggX7_pause_X7_ones
set_option maxRecDepth 20000 in
theorem ggX7_pause_X7_learns : GoodIn wsX7_pause wsX7_learns := goodIn_r _ [123, 7, 8, 2, 56, 41, 124, 125, 39, 30, 31, 32, 13, 33, 1, 126, 127, 128, 129, 130, 131, 132, 133, 134, 135, 136, 137, 138, 139, 140, 141, 142, 143, 144, 145, 146, 147, 148, 149, 150, 151] (by decide +kernel) (by decide +kernel)
set_option maxRecDepth 20000 in
theorem gX7_pause_X7_learns : GoodIn wsX7_pause (wsV RX7 216 RX7 yX7_learns wsX7_learns) := goodIn_app (goodIn_of _ (by decide +kernel)) ggX7_pause_X7_learns
theorem dX7_pause_0 : decode cX7_pause 0 = .ok (.aload_n 0, 1) := by decide +kernel
theorem dX7_pause_1 : decode cX7_pause 1 = .ok (.getfield 7, 3) := by decide +kernel
theorem dX7_pause_4 : decode cX7_pause 4 = .ok (.sipush 258, 3) := by decide +kernel
theorem dX7_pause_7 : decode cX7_pause 7 = .ok (.iaload, 1) := by decide +kernel
theorem dX7_pause_8 : decode cX7_pause 8 = .ok (.ifCond .le 10, 3) := by decide +kernel
theorem dX7_pause_11 : decode cX7_pause 11 = .ok (.aload_n 0, 1) := by decide +kernel
theorem dX7_pause_12 : decode cX7_pause 12 = .ok (.invokevirtual 133, 3) := by decide +kernel
theorem dX7_pause_15 : decode cX7_pause 15 = .ok (.goto (-15), 3) := by decide +kernel
theorem dX7_pause_18 : decode cX7_pause 18 = .ok (.aload_n 0, 1) := by decide +kernel
theorem dX7_pause_19 : decode cX7_pause 19 = .ok (.iload_n 1, 1) := by decide +kernel
theorem dX7_pause_20 : decode cX7_pause 20 = .ok (.invokevirtual 201, 3) := by decide +kernel
theorem dX7_pause_23 : decode cX7_pause 23 = .ok (.aload_n 0, 1) := by decide +kernel
theorem dX7_pause_24 : decode cX7_pause 24 = .ok (.iconst 0, 1) := by decide +kernel
theorem dX7_pause_25 : decode cX7_pause 25 = .ok (.putfield 196, 3) := by decide +kernel
theorem dX7_pause_28 : decode cX7_pause 28 = .ok (.iconst 0, 1) := by decide +kernel
theorem dX7_pause_29 : decode cX7_pause 29 = .ok (.istore_n 2, 1) := by decide +kernel
theorem dX7_pause_30 : decode cX7_pause 30 = .ok (.iload_n 2, 1) := by decide +kernel
theorem dX7_pause_31 : decode cX7_pause 31 = .ok (.bipush 10, 2) := by decide +kernel
theorem dX7_pause_33 : decode cX7_pause 33 = .ok (.if_icmp .ge 35, 3) := by decide +kernel
theorem dX7_pause_36 : decode cX7_pause 36 = .ok (.aload_n 0, 1) := by decide +kernel
theorem dX7_pause_37 : decode cX7_pause 37 = .ok (.dup, 1) := by decide +kernel
theorem dX7_pause_38 : decode cX7_pause 38 = .ok (.getfield 196, 3) := by decide +kernel
theorem dX7_pause_41 : decode cX7_pause 41 = .ok (.aload_n 0, 1) := by decide +kernel
theorem dX7_pause_42 : decode cX7_pause 42 = .ok (.iload_n 2, 1) := by decide +kernel
theorem dX7_pause_43 : decode cX7_pause 43 = .ok (.iconst 0, 1) := by decide +kernel
theorem dX7_pause_44 : decode cX7_pause 44 = .ok (.invokevirtual 67, 3) := by decide +kernel
theorem dX7_pause_47 : decode cX7_pause 47 = .ok (.iconst 1, 1) := by decide +kernel
theorem dX7_pause_48 : decode cX7_pause 48 = .ok (.if_icmp .ne 9, 3) := by decide +kernel
theorem dX7_pause_51 : decode cX7_pause 51 = .ok (.iconst 1, 1) := by decide +kernel
theorem dX7_pause_52 : decode cX7_pause 52 = .ok (.iload_n 2, 1) := by decide +kernel
theorem dX7_pause_53 : decode cX7_pause 53 = .ok (.ishl, 1) := by decide +kernel
theorem dX7_pause_54 : decode cX7_pause 54 = .ok (.goto 4, 3) := by decide +kernel
theorem dX7_pause_57 : decode cX7_pause 57 = .ok (.iconst 0, 1) := by decide +kernel
theorem dX7_pause_58 : decode cX7_pause 58 = .ok (.ior, 1) := by decide +kernel
theorem dX7_pause_59 : decode cX7_pause 59 = .ok (.putfield 196, 3) := by decide +kernel
theorem dX7_pause_62 : decode cX7_pause 62 = .ok (.iinc 2 1, 3) := by decide +kernel
theorem dX7_pause_65 : decode cX7_pause 65 = .ok (.goto (-35), 3) := by decide +kernel
theorem dX7_pause_68 : decode cX7_pause 68 = .ok (.aload_n 0, 1) := by decide +kernel
theorem dX7_pause_69 : decode cX7_pause 69 = .ok (.invokevirtual 204, 3) := by decide +kernel
theorem dX7_pause_72 : decode cX7_pause 72 = .ok (.aload_n 0, 1) := by decide +kernel
theorem dX7_pause_73 : decode cX7_pause 73 = .ok (.bipush (-9), 2) := by decide +kernel
theorem dX7_pause_75 : decode cX7_pause 75 = .ok (.putfield 181, 3) := by decide +kernel
theorem dX7_pause_78 : decode cX7_pause 78 = .ok (.aload_n 0, 1) := by decide +kernel
theorem dX7_pause_79 : decode cX7_pause 79 = .ok (.iconst 0, 1) := by decide +kernel
theorem dX7_pause_80 : decode cX7_pause 80 = .ok (.putfield 184, 3) := by decide +kernel
theorem dX7_pause_83 : decode cX7_pause 83 = .ok (.aload_n 0, 1) := by decide +kernel
theorem dX7_pause_84 : decode cX7_pause 84 = .ok (.iconst 0, 1) := by decide +kernel
theorem dX7_pause_85 : decode cX7_pause 85 = .ok (.putfield 190, 3) := by decide +kernel
theorem dX7_pause_88 : decode cX7_pause 88 = .ok (.aload_n 0, 1) := by decide +kernel
theorem dX7_pause_89 : decode cX7_pause 89 = .ok (.iconst 0, 1) := by decide +kernel
theorem dX7_pause_90 : decode cX7_pause 90 = .ok (.putfield 187, 3) := by decide +kernel
theorem dX7_pause_93 : decode cX7_pause 93 = .ok (.iconst 0, 1) := by decide +kernel
theorem dX7_pause_94 : decode cX7_pause 94 = .ok (.istore_n 2, 1) := by decide +kernel
theorem dX7_pause_95 : decode cX7_pause 95 = .ok (.iload_n 2, 1) := by decide +kernel
theorem dX7_pause_96 : decode cX7_pause 96 = .ok (.aload_n 0, 1) := by decide +kernel
theorem dX7_pause_97 : decode cX7_pause 97 = .ok (.getfield 166, 3) := by decide +kernel
theorem dX7_pause_100 : decode cX7_pause 100 = .ok (.if_icmp .ge 49, 3) := by decide +kernel
theorem dX7_pause_103 : decode cX7_pause 103 = .ok (.aload_n 0, 1) := by decide +kernel
theorem dX7_pause_104 : decode cX7_pause 104 = .ok (.aload_n 0, 1) := by decide +kernel
theorem dX7_pause_105 : decode cX7_pause 105 = .ok (.getfield 39, 3) := by decide +kernel
theorem dX7_pause_108 : decode cX7_pause 108 = .ok (.iload_n 2, 1) := by decide +kernel
theorem dX7_pause_109 : decode cX7_pause 109 = .ok (.iaload, 1) := by decide +kernel
theorem dX7_pause_110 : decode cX7_pause 110 = .ok (.invokevirtual 207, 3) := by decide +kernel
theorem dX7_pause_113 : decode cX7_pause 113 = .ok (.aload_n 0, 1) := by decide +kernel
theorem dX7_pause_114 : decode cX7_pause 114 = .ok (.aload_n 0, 1) := by decide +kernel
theorem dX7_pause_115 : decode cX7_pause 115 = .ok (.aload_n 0, 1) := by decide +kernel
theorem dX7_pause_116 : decode cX7_pause 116 = .ok (.getfield 39, 3) := by decide +kernel
theorem dX7_pause_119 : decode cX7_pause 119 = .ok (.iload_n 2, 1) := by decide +kernel
theorem dX7_pause_120 : decode cX7_pause 120 = .ok (.iaload, 1) := by decide +kernel
theorem dX7_pause_121 : decode cX7_pause 121 = .ok (.iconst 3, 1) := by decide +kernel
theorem dX7_pause_122 : decode cX7_pause 122 = .ok (.invokevirtual 63, 3) := by decide +kernel
theorem dX7_pause_125 : decode cX7_pause 125 = .ok (.invokevirtual 169, 3) := by decide +kernel
theorem dX7_pause_128 : decode cX7_pause 128 = .ok (.aload_n 0, 1) := by decide +kernel
theorem dX7_pause_129 : decode cX7_pause 129 = .ok (.aload_n 0, 1) := by decide +kernel
theorem dX7_pause_130 : decode cX7_pause 130 = .ok (.aload_n 0, 1) := by decide +kernel
theorem dX7_pause_131 : decode cX7_pause 131 = .ok (.getfield 39, 3) := by decide +kernel
theorem dX7_pause_134 : decode cX7_pause 134 = .ok (.iload_n 2, 1) := by decide +kernel
theorem dX7_pause_135 : decode cX7_pause 135 = .ok (.iaload, 1) := by decide +kernel
theorem dX7_pause_136 : decode cX7_pause 136 = .ok (.iconst 4, 1) := by decide +kernel
theorem dX7_pause_137 : decode cX7_pause 137 = .ok (.invokevirtual 63, 3) := by decide +kernel
theorem dX7_pause_140 : decode cX7_pause 140 = .ok (.invokevirtual 169, 3) := by decide +kernel
theorem dX7_pause_143 : decode cX7_pause 143 = .ok (.iinc 2 1, 3) := by decide +kernel
theorem dX7_pause_146 : decode cX7_pause 146 = .ok (.goto (-51), 3) := by decide +kernel
theorem dX7_pause_149 : decode cX7_pause 149 = .ok (.iconst 0, 1) := by decide +kernel
theorem dX7_pause_150 : decode cX7_pause 150 = .ok (.istore_n 2, 1) := by decide +kernel
theorem dX7_pause_151 : decode cX7_pause 151 = .ok (.iload_n 2, 1) := by decide +kernel
theorem dX7_pause_152 : decode cX7_pause 152 = .ok (.aload_n 0, 1) := by decide +kernel
theorem dX7_pause_153 : decode cX7_pause 153 = .ok (.getfield 166, 3) := by decide +kernel
theorem dX7_pause_156 : decode cX7_pause 156 = .ok (.if_icmp .ge 23, 3) := by decide +kernel
theorem dX7_pause_159 : decode cX7_pause 159 = .ok (.aload_n 0, 1) := by decide +kernel
theorem dX7_pause_160 : decode cX7_pause 160 = .ok (.aload_n 0, 1) := by decide +kernel
theorem dX7_pause_161 : decode cX7_pause 161 = .ok (.aload_n 0, 1) := by decide +kernel
theorem dX7_pause_162 : decode cX7_pause 162 = .ok (.getfield 39, 3) := by decide +kernel
theorem dX7_pause_165 : decode cX7_pause 165 = .ok (.iload_n 2, 1) := by decide +kernel
theorem dX7_pause_166 : decode cX7_pause 166 = .ok (.iaload, 1) := by decide +kernel
theorem dX7_pause_167 : decode cX7_pause 167 = .ok (.invokevirtual 84, 3) := by decide +kernel
theorem dX7_pause_170 : decode cX7_pause 170 = .ok (.invokevirtual 130, 3) := by decide +kernel
theorem dX7_pause_173 : decode cX7_pause 173 = .ok (.iinc 2 1, 3) := by decide +kernel
theorem dX7_pause_176 : decode cX7_pause 176 = .ok (.goto (-25), 3) := by decide +kernel
theorem dX7_pause_179 : decode cX7_pause 179 = .ok (.iconst 0, 1) := by decide +kernel
theorem dX7_pause_180 : decode cX7_pause 180 = .ok (.istore_n 2, 1) := by decide +kernel
theorem dX7_pause_181 : decode cX7_pause 181 = .ok (.iload_n 2, 1) := by decide +kernel
theorem dX7_pause_182 : decode cX7_pause 182 = .ok (.bipush 20, 2) := by decide +kernel
theorem dX7_pause_184 : decode cX7_pause 184 = .ok (.if_icmp .ge 26, 3) := by decide +kernel
theorem dX7_pause_187 : decode cX7_pause 187 = .ok (.aload_n 0, 1) := by decide +kernel
theorem dX7_pause_188 : decode cX7_pause 188 = .ok (.getfield 175, 3) := by decide +kernel
theorem dX7_pause_191 : decode cX7_pause 191 = .ok (.iload_n 2, 1) := by decide +kernel
theorem dX7_pause_192 : decode cX7_pause 192 = .ok (.ishr, 1) := by decide +kernel
theorem dX7_pause_193 : decode cX7_pause 193 = .ok (.iconst 1, 1) := by decide +kernel
theorem dX7_pause_194 : decode cX7_pause 194 = .ok (.iand, 1) := by decide +kernel
theorem dX7_pause_195 : decode cX7_pause 195 = .ok (.iconst 1, 1) := by decide +kernel
theorem dX7_pause_196 : decode cX7_pause 196 = .ok (.if_icmp .ne 8, 3) := by decide +kernel
theorem dX7_pause_199 : decode cX7_pause 199 = .ok (.aload_n 0, 1) := by decide +kernel
theorem dX7_pause_200 : decode cX7_pause 200 = .ok (.iload_n 2, 1) := by decide +kernel
theorem dX7_pause_201 : decode cX7_pause 201 = .ok (.invokevirtual 130, 3) := by decide +kernel
theorem dX7_pause_204 : decode cX7_pause 204 = .ok (.iinc 2 1, 3) := by decide +kernel
theorem dX7_pause_207 : decode cX7_pause 207 = .ok (.goto (-26), 3) := by decide +kernel
theorem dX7_pause_210 : decode cX7_pause 210 = .ok (.aload_n 0, 1) := by decide +kernel
theorem dX7_pause_211 : decode cX7_pause 211 = .ok (.invokevirtual 210, 3) := by decide +kernel
theorem dX7_pause_214 : decode cX7_pause 214 = .ok (.bipush 10, 2) := by decide +kernel
theorem dX7_pause_216 : decode cX7_pause 216 = .ok (.aload_n 0, 1) := by decide +kernel
theorem dX7_pause_217 : decode cX7_pause 217 = .ok (.getfield 190, 3) := by decide +kernel
theorem dX7_pause_220 : decode cX7_pause 220 = .ok (.iadd, 1) := by decide +kernel
theorem dX7_pause_221 : decode cX7_pause 221 = .ok (.iconst 2, 1) := by decide +kernel
theorem dX7_pause_222 : decode cX7_pause 222 = .ok (.aload_n 0, 1) := by decide +kernel
theorem dX7_pause_223 : decode cX7_pause 223 = .ok (.getfield 175, 3) := by decide +kernel
theorem dX7_pause_226 : decode cX7_pause 226 = .ok (.invokestatic 213, 3) := by decide +kernel
theorem dX7_pause_229 : decode cX7_pause 229 = .ok (.imul, 1) := by decide +kernel
theorem dX7_pause_230 : decode cX7_pause 230 = .ok (.iadd, 1) := by decide +kernel
theorem dX7_pause_231 : decode cX7_pause 231 = .ok (.iconst 5, 1) := by decide +kernel
theorem dX7_pause_232 : decode cX7_pause 232 = .ok (.aload_n 0, 1) := by decide +kernel
theorem dX7_pause_233 : decode cX7_pause 233 = .ok (.getfield 187, 3) := by decide +kernel
theorem dX7_pause_236 : decode cX7_pause 236 = .ok (.imul, 1) := by decide +kernel
theorem dX7_pause_237 : decode cX7_pause 237 = .ok (.iadd, 1) := by decide +kernel
theorem dX7_pause_238 : decode cX7_pause 238 = .ok (.istore_n 2, 1) := by decide +kernel
theorem dX7_pause_239 : decode cX7_pause 239 = .ok (.aload_n 0, 1) := by decide +kernel
theorem dX7_pause_240 : decode cX7_pause 240 = .ok (.iload_n 2, 1) := by decide +kernel
theorem dX7_pause_241 : decode cX7_pause 241 = .ok (.invokevirtual 216, 3) := by decide +kernel
theorem dX7_pause_244 : decode cX7_pause 244 = .ok (.aload_n 0, 1) := by decide +kernel
theorem dX7_pause_245 : decode cX7_pause 245 = .ok (.getfield 7, 3) := by decide +kernel
theorem dX7_pause_248 : decode cX7_pause 248 = .ok (.sipush 293, 3) := by decide +kernel
theorem dX7_pause_251 : decode cX7_pause 251 = .ok (.dup2, 1) := by decide +kernel
theorem dX7_pause_252 : decode cX7_pause 252 = .ok (.iaload, 1) := by decide +kernel
theorem dX7_pause_253 : decode cX7_pause 253 = .ok (.iconst 1, 1) := by decide +kernel
theorem dX7_pause_254 : decode cX7_pause 254 = .ok (.iadd, 1) := by decide +kernel
theorem dX7_pause_255 : decode cX7_pause 255 = .ok (.iastore, 1) := by decide +kernel
theorem dX7_pause_256 : decode cX7_pause 256 = .ok (.aload_n 0, 1) := by decide +kernel
theorem dX7_pause_257 : decode cX7_pause 257 = .ok (.getfield 7, 3) := by decide +kernel
theorem dX7_pause_260 : decode cX7_pause 260 = .ok (.sipush 294, 3) := by decide +kernel
theorem dX7_pause_263 : decode cX7_pause 263 = .ok (.iload_n 2, 1) := by decide +kernel
theorem dX7_pause_264 : decode cX7_pause 264 = .ok (.iastore, 1) := by decide +kernel
theorem dX7_pause_265 : decode cX7_pause 265 = .ok (.aload_n 0, 1) := by decide +kernel
theorem dX7_pause_266 : decode cX7_pause 266 = .ok (.getfield 7, 3) := by decide +kernel
theorem dX7_pause_269 : decode cX7_pause 269 = .ok (.sipush 295, 3) := by decide +kernel
theorem dX7_pause_272 : decode cX7_pause 272 = .ok (.bipush (-9), 2) := by decide +kernel
theorem dX7_pause_274 : decode cX7_pause 274 = .ok (.iastore, 1) := by decide +kernel
theorem dX7_pause_275 : decode cX7_pause 275 = .ok (.iload_n 2, 1) := by decide +kernel
theorem dX7_pause_276 : decode cX7_pause 276 = .ok (.ireturn, 1) := by decide +kernel
set_option maxRecDepth 20000 in
theorem ggX7_isGoal_X7_in : GoodIn wsX7_isGoal wsX7_in := goodIn_r _ [4] (by decide +kernel) (by decide +kernel)
set_option maxRecDepth 20000 in
theorem gX7_isGoal_X7_in : GoodIn wsX7_isGoal (va_wsS RX7 59 yX7_in wsX7_in) := goodIn_app (goodIn_of _ (by decide +kernel)) ggX7_isGoal_X7_in
theorem dX7_isGoal_0 : decode cX7_isGoal 0 = .ok (.iload_n 0, 1) := by decide +kernel
theorem dX7_isGoal_1 : decode cX7_isGoal 1 = .ok (.iconst 0, 1) := by decide +kernel
theorem dX7_isGoal_2 : decode cX7_isGoal 2 = .ok (.sipush 999, 3) := by decide +kernel
theorem dX7_isGoal_5 : decode cX7_isGoal 5 = .ok (.invokestatic 59, 3) := by decide +kernel
theorem dX7_isGoal_8 : decode cX7_isGoal 8 = .ok (.ireturn, 1) := by decide +kernel
set_option maxRecDepth 20000 in
theorem ggX7_pauses_X7_isGoal : GoodIn wsX7_pauses wsX7_isGoal := goodIn_r _ [5, 6, 7, 4, 8] (by decide +kernel) (by decide +kernel)
set_option maxRecDepth 20000 in
theorem gX7_pauses_X7_isGoal : GoodIn wsX7_pauses (va_wsS RX7 219 yX7_isGoal wsX7_isGoal) := goodIn_app (goodIn_of _ (by decide +kernel)) ggX7_pauses_X7_isGoal
set_option maxRecDepth 20000 in
theorem ggX7_pauses_X7_notes : GoodIn wsX7_pauses wsX7_notes := goodIn_r _ [12, 13, 14, 15, 16, 17, 141, 142, 143, 144, 145, 146, 147, 148, 149, 150, 151, 152, 153, 154, 155, 156, 157, 158, 159, 160, 161, 162, 163, 164, 165, 166] (by decide +kernel) (by decide +kernel)
set_option maxRecDepth 20000 in
theorem gX7_pauses_X7_notes : GoodIn wsX7_pauses (wsV RX7 115 RX7 yX7_notes wsX7_notes) := goodIn_app (goodIn_of _ (by decide +kernel)) ggX7_pauses_X7_notes
set_option maxRecDepth 20000 in
theorem ggX7_pauses_X7_pause : GoodIn wsX7_pauses wsX7_pause := goodIn_r _ [21, 16, 22, 23, 24, 25, 26, 27, 28, 29, 30, 31, 32, 4, 33, 34, 35, 36, 37, 38, 39, 40, 41, 6, 7, 8, 42, 43, 44, 45, 46, 47, 48, 49, 50, 51, 52, 53, 54, 55, 56, 17, 57, 58, 59, 60, 61, 62, 63, 64, 65, 66, 67, 68, 69, 70, 71, 72, 73, 74, 75, 76, 77, 78, 79, 80, 81, 82, 83, 84, 85, 86, 87, 88, 89, 90, 91, 92, 93, 94, 95, 96, 97, 98, 99, 100, 101, 102, 103, 104, 105, 106, 107, 108, 109, 110, 111, 112, 113, 114, 115, 116, 117, 118, 119, 120, 121, 122, 123, 124, 125, 126, 127, 128, 129, 130, 131, 132, 133, 134, 135, 136, 137, 138, 139, 140, 141, 142, 143, 144, 145, 146, 147, 148, 149, 150, 151, 152, 153, 154, 155, 156, 157, 158, 159, 160, 161, 162, 163, 164, 165, 166] (by decide +kernel) (by decide +kernel)
set_option maxRecDepth 20000 in
theorem gX7_pauses_X7_pause : GoodIn wsX7_pauses (wsV RX7 222 RX7 yX7_pause wsX7_pause) := goodIn_app (goodIn_of _ (by decide +kernel)) ggX7_pauses_X7_pause
theorem dX7_pauses_0 : decode cX7_pauses 0 = .ok (.aload_n 0, 1) := by decide +kernel
theorem dX7_pauses_1 : decode cX7_pauses 1 = .ok (.iconst 0, 1) := by decide +kernel
theorem dX7_pauses_2 : decode cX7_pauses 2 = .ok (.putfield 55, 3) := by decide +kernel
theorem dX7_pauses_5 : decode cX7_pauses 5 = .ok (.iload_n 1, 1) := by decide +kernel
theorem dX7_pauses_6 : decode cX7_pauses 6 = .ok (.invokestatic 219, 3) := by decide +kernel
theorem dX7_pauses_9 : decode cX7_pauses 9 = .ok (.ifCond .ne 5, 3) := by decide +kernel
theorem dX7_pauses_12 : decode cX7_pauses 12 = .ok (.iconst (-1), 1) := by decide +kernel
theorem dX7_pauses_13 : decode cX7_pauses 13 = .ok (.ireturn, 1) := by decide +kernel
theorem dX7_pauses_14 : decode cX7_pauses 14 = .ok (.aload_n 0, 1) := by decide +kernel
theorem dX7_pauses_15 : decode cX7_pauses 15 = .ok (.invokevirtual 115, 3) := by decide +kernel
theorem dX7_pauses_18 : decode cX7_pauses 18 = .ok (.aload_n 0, 1) := by decide +kernel
theorem dX7_pauses_19 : decode cX7_pauses 19 = .ok (.iload_n 1, 1) := by decide +kernel
theorem dX7_pauses_20 : decode cX7_pauses 20 = .ok (.invokevirtual 222, 3) := by decide +kernel
theorem dX7_pauses_23 : decode cX7_pauses 23 = .ok (.ireturn, 1) := by decide +kernel
theorem dX7_undo_0 : decode cX7_undo 0 = .ok (.aload_n 0, 1) := by decide +kernel
theorem dX7_undo_1 : decode cX7_undo 1 = .ok (.iconst 0, 1) := by decide +kernel
theorem dX7_undo_2 : decode cX7_undo 2 = .ok (.putfield 55, 3) := by decide +kernel
theorem dX7_undo_5 : decode cX7_undo 5 = .ok (.aload_n 0, 1) := by decide +kernel
theorem dX7_undo_6 : decode cX7_undo 6 = .ok (.getfield 70, 3) := by decide +kernel
theorem dX7_undo_9 : decode cX7_undo 9 = .ok (.ifCond .ne 6, 3) := by decide +kernel
theorem dX7_undo_12 : decode cX7_undo 12 = .ok (.bipush (-2), 2) := by decide +kernel
theorem dX7_undo_14 : decode cX7_undo 14 = .ok (.ireturn, 1) := by decide +kernel
theorem dX7_undo_15 : decode cX7_undo 15 = .ok (.aload_n 0, 1) := by decide +kernel
theorem dX7_undo_16 : decode cX7_undo 16 = .ok (.dup, 1) := by decide +kernel
theorem dX7_undo_17 : decode cX7_undo 17 = .ok (.getfield 70, 3) := by decide +kernel
theorem dX7_undo_20 : decode cX7_undo 20 = .ok (.iconst 1, 1) := by decide +kernel
theorem dX7_undo_21 : decode cX7_undo 21 = .ok (.isub, 1) := by decide +kernel
theorem dX7_undo_22 : decode cX7_undo 22 = .ok (.putfield 70, 3) := by decide +kernel
theorem dX7_undo_25 : decode cX7_undo 25 = .ok (.iconst 0, 1) := by decide +kernel
theorem dX7_undo_26 : decode cX7_undo 26 = .ok (.istore_n 1, 1) := by decide +kernel
theorem dX7_undo_27 : decode cX7_undo 27 = .ok (.iload_n 1, 1) := by decide +kernel
theorem dX7_undo_28 : decode cX7_undo 28 = .ok (.sipush 296, 3) := by decide +kernel
theorem dX7_undo_31 : decode cX7_undo 31 = .ok (.if_icmp .ge 30, 3) := by decide +kernel
theorem dX7_undo_34 : decode cX7_undo 34 = .ok (.aload_n 0, 1) := by decide +kernel
theorem dX7_undo_35 : decode cX7_undo 35 = .ok (.getfield 7, 3) := by decide +kernel
theorem dX7_undo_38 : decode cX7_undo 38 = .ok (.iload_n 1, 1) := by decide +kernel
theorem dX7_undo_39 : decode cX7_undo 39 = .ok (.aload_n 0, 1) := by decide +kernel
theorem dX7_undo_40 : decode cX7_undo 40 = .ok (.getfield 17, 3) := by decide +kernel
theorem dX7_undo_43 : decode cX7_undo 43 = .ok (.sipush 296, 3) := by decide +kernel
theorem dX7_undo_46 : decode cX7_undo 46 = .ok (.aload_n 0, 1) := by decide +kernel
theorem dX7_undo_47 : decode cX7_undo 47 = .ok (.getfield 70, 3) := by decide +kernel
theorem dX7_undo_50 : decode cX7_undo 50 = .ok (.imul, 1) := by decide +kernel
theorem dX7_undo_51 : decode cX7_undo 51 = .ok (.iload_n 1, 1) := by decide +kernel
theorem dX7_undo_52 : decode cX7_undo 52 = .ok (.iadd, 1) := by decide +kernel
theorem dX7_undo_53 : decode cX7_undo 53 = .ok (.iaload, 1) := by decide +kernel
theorem dX7_undo_54 : decode cX7_undo 54 = .ok (.iastore, 1) := by decide +kernel
theorem dX7_undo_55 : decode cX7_undo 55 = .ok (.iinc 1 1, 3) := by decide +kernel
theorem dX7_undo_58 : decode cX7_undo 58 = .ok (.goto (-31), 3) := by decide +kernel
theorem dX7_undo_61 : decode cX7_undo 61 = .ok (.aload_n 0, 1) := by decide +kernel
theorem dX7_undo_62 : decode cX7_undo 62 = .ok (.getfield 13, 3) := by decide +kernel
theorem dX7_undo_65 : decode cX7_undo 65 = .ok (.iconst 0, 1) := by decide +kernel
theorem dX7_undo_66 : decode cX7_undo 66 = .ok (.aload_n 0, 1) := by decide +kernel
theorem dX7_undo_67 : decode cX7_undo 67 = .ok (.getfield 20, 3) := by decide +kernel
theorem dX7_undo_70 : decode cX7_undo 70 = .ok (.iconst 2, 1) := by decide +kernel
theorem dX7_undo_71 : decode cX7_undo 71 = .ok (.aload_n 0, 1) := by decide +kernel
theorem dX7_undo_72 : decode cX7_undo 72 = .ok (.getfield 70, 3) := by decide +kernel
theorem dX7_undo_75 : decode cX7_undo 75 = .ok (.imul, 1) := by decide +kernel
theorem dX7_undo_76 : decode cX7_undo 76 = .ok (.faload, 1) := by decide +kernel
theorem dX7_undo_77 : decode cX7_undo 77 = .ok (.fastore, 1) := by decide +kernel
theorem dX7_undo_78 : decode cX7_undo 78 = .ok (.aload_n 0, 1) := by decide +kernel
theorem dX7_undo_79 : decode cX7_undo 79 = .ok (.getfield 13, 3) := by decide +kernel
theorem dX7_undo_82 : decode cX7_undo 82 = .ok (.iconst 1, 1) := by decide +kernel
theorem dX7_undo_83 : decode cX7_undo 83 = .ok (.aload_n 0, 1) := by decide +kernel
theorem dX7_undo_84 : decode cX7_undo 84 = .ok (.getfield 20, 3) := by decide +kernel
theorem dX7_undo_87 : decode cX7_undo 87 = .ok (.iconst 2, 1) := by decide +kernel
theorem dX7_undo_88 : decode cX7_undo 88 = .ok (.aload_n 0, 1) := by decide +kernel
theorem dX7_undo_89 : decode cX7_undo 89 = .ok (.getfield 70, 3) := by decide +kernel
theorem dX7_undo_92 : decode cX7_undo 92 = .ok (.imul, 1) := by decide +kernel
theorem dX7_undo_93 : decode cX7_undo 93 = .ok (.iconst 1, 1) := by decide +kernel
theorem dX7_undo_94 : decode cX7_undo 94 = .ok (.iadd, 1) := by decide +kernel
theorem dX7_undo_95 : decode cX7_undo 95 = .ok (.faload, 1) := by decide +kernel
theorem dX7_undo_96 : decode cX7_undo 96 = .ok (.fastore, 1) := by decide +kernel
theorem dX7_undo_97 : decode cX7_undo 97 = .ok (.aload_n 0, 1) := by decide +kernel
theorem dX7_undo_98 : decode cX7_undo 98 = .ok (.getfield 70, 3) := by decide +kernel
theorem dX7_undo_101 : decode cX7_undo 101 = .ok (.ireturn, 1) := by decide +kernel
set_option maxRecDepth 20000 in
theorem ggX7_root_X7_isRoot : GoodIn wsX7_root wsX7_isRoot := goodIn_r _ [6, 7, 8, 5, 9] (by decide +kernel) (by decide +kernel)
set_option maxRecDepth 20000 in
theorem gX7_root_X7_isRoot : GoodIn wsX7_root (va_wsS RX7 105 yX7_isRoot wsX7_isRoot) := goodIn_app (goodIn_of _ (by decide +kernel)) ggX7_root_X7_isRoot
theorem dX7_root_0 : decode cX7_root 0 = .ok (.aload_n 0, 1) := by decide +kernel
theorem dX7_root_1 : decode cX7_root 1 = .ok (.iconst 0, 1) := by decide +kernel
theorem dX7_root_2 : decode cX7_root 2 = .ok (.putfield 55, 3) := by decide +kernel
theorem dX7_root_5 : decode cX7_root 5 = .ok (.iload_n 1, 1) := by decide +kernel
theorem dX7_root_6 : decode cX7_root 6 = .ok (.invokestatic 105, 3) := by decide +kernel
theorem dX7_root_9 : decode cX7_root 9 = .ok (.ifCond .eq 16, 3) := by decide +kernel
theorem dX7_root_12 : decode cX7_root 12 = .ok (.aload_n 0, 1) := by decide +kernel
theorem dX7_root_13 : decode cX7_root 13 = .ok (.getfield 7, 3) := by decide +kernel
theorem dX7_root_16 : decode cX7_root 16 = .ok (.sipush 192, 3) := by decide +kernel
theorem dX7_root_19 : decode cX7_root 19 = .ok (.iload_n 1, 1) := by decide +kernel
theorem dX7_root_20 : decode cX7_root 20 = .ok (.iadd, 1) := by decide +kernel
theorem dX7_root_21 : decode cX7_root 21 = .ok (.iaload, 1) := by decide +kernel
theorem dX7_root_22 : decode cX7_root 22 = .ok (.goto 4, 3) := by decide +kernel
theorem dX7_root_25 : decode cX7_root 25 = .ok (.iconst (-1), 1) := by decide +kernel
theorem dX7_root_26 : decode cX7_root 26 = .ok (.ireturn, 1) := by decide +kernel
set_option maxRecDepth 20000 in
theorem ggX7_thing_X7_in : GoodIn wsX7_thing wsX7_in := goodIn_r _ [6] (by decide +kernel) (by decide +kernel)
set_option maxRecDepth 20000 in
theorem gX7_thing_X7_in : GoodIn wsX7_thing (va_wsS RX7 59 yX7_in wsX7_in) := goodIn_app (goodIn_of _ (by decide +kernel)) ggX7_thing_X7_in
set_option maxRecDepth 20000 in
theorem ggX7_thing_X7_isThing : GoodIn wsX7_thing wsX7_isThing := goodIn_r _ [10, 2, 3, 4, 5, 6, 15, 16, 17, 18, 19, 20, 21, 22, 23, 24, 25, 26, 27, 28, 29, 30, 31, 32, 33, 34, 35, 36, 37, 38, 39, 40] (by decide +kernel) (by decide +kernel)
set_option maxRecDepth 20000 in
theorem gX7_thing_X7_isThing : GoodIn wsX7_thing (wsV RX7 81 RX7 yX7_isThing wsX7_isThing) := goodIn_app (goodIn_of _ (by decide +kernel)) ggX7_thing_X7_isThing
set_option maxRecDepth 20000 in
theorem ggX7_thing_X7_ofThing : GoodIn wsX7_thing wsX7_ofThing := goodIn_r _ [14, 2, 15, 16, 17, 18, 19, 20, 21, 22, 23, 24, 25, 26, 27, 28, 29, 30, 31, 32, 33, 34, 35, 36, 37, 38, 39, 40] (by decide +kernel) (by decide +kernel)
set_option maxRecDepth 20000 in
theorem gX7_thing_X7_ofThing : GoodIn wsX7_thing (wsV RX7 63 RX7 yX7_ofThing wsX7_ofThing) := goodIn_app (goodIn_of _ (by decide +kernel)) ggX7_thing_X7_ofThing
theorem dX7_thing_0 : decode cX7_thing 0 = .ok (.aload_n 0, 1) := by decide +kernel
theorem dX7_thing_1 : decode cX7_thing 1 = .ok (.iconst 0, 1) := by decide +kernel
theorem dX7_thing_2 : decode cX7_thing 2 = .ok (.putfield 55, 3) := by decide +kernel
theorem dX7_thing_5 : decode cX7_thing 5 = .ok (.iload_n 1, 1) := by decide +kernel
theorem dX7_thing_6 : decode cX7_thing 6 = .ok (.iconst 0, 1) := by decide +kernel
theorem dX7_thing_7 : decode cX7_thing 7 = .ok (.bipush 31, 2) := by decide +kernel
theorem dX7_thing_9 : decode cX7_thing 9 = .ok (.invokestatic 59, 3) := by decide +kernel
theorem dX7_thing_12 : decode cX7_thing 12 = .ok (.ifCond .eq 12, 3) := by decide +kernel
theorem dX7_thing_15 : decode cX7_thing 15 = .ok (.iload_n 2, 1) := by decide +kernel
theorem dX7_thing_16 : decode cX7_thing 16 = .ok (.iconst 0, 1) := by decide +kernel
theorem dX7_thing_17 : decode cX7_thing 17 = .ok (.iconst 5, 1) := by decide +kernel
theorem dX7_thing_18 : decode cX7_thing 18 = .ok (.invokestatic 59, 3) := by decide +kernel
theorem dX7_thing_21 : decode cX7_thing 21 = .ok (.ifCond .ne 5, 3) := by decide +kernel
theorem dX7_thing_24 : decode cX7_thing 24 = .ok (.iconst (-1), 1) := by decide +kernel
theorem dX7_thing_25 : decode cX7_thing 25 = .ok (.ireturn, 1) := by decide +kernel
theorem dX7_thing_26 : decode cX7_thing 26 = .ok (.aload_n 0, 1) := by decide +kernel
theorem dX7_thing_27 : decode cX7_thing 27 = .ok (.iload_n 1, 1) := by decide +kernel
theorem dX7_thing_28 : decode cX7_thing 28 = .ok (.invokevirtual 81, 3) := by decide +kernel
theorem dX7_thing_31 : decode cX7_thing 31 = .ok (.ifCond .eq 19, 3) := by decide +kernel
theorem dX7_thing_34 : decode cX7_thing 34 = .ok (.iload_n 2, 1) := by decide +kernel
theorem dX7_thing_35 : decode cX7_thing 35 = .ok (.iconst 5, 1) := by decide +kernel
theorem dX7_thing_36 : decode cX7_thing 36 = .ok (.if_icmp .ne 19, 3) := by decide +kernel
theorem dX7_thing_39 : decode cX7_thing 39 = .ok (.aload_n 0, 1) := by decide +kernel
theorem dX7_thing_40 : decode cX7_thing 40 = .ok (.getfield 7, 3) := by decide +kernel
theorem dX7_thing_43 : decode cX7_thing 43 = .ok (.sipush 292, 3) := by decide +kernel
theorem dX7_thing_46 : decode cX7_thing 46 = .ok (.iaload, 1) := by decide +kernel
theorem dX7_thing_47 : decode cX7_thing 47 = .ok (.ifCond .ne 8, 3) := by decide +kernel
theorem dX7_thing_50 : decode cX7_thing 50 = .ok (.bipush (-9), 2) := by decide +kernel
theorem dX7_thing_52 : decode cX7_thing 52 = .ok (.goto 9, 3) := by decide +kernel
theorem dX7_thing_55 : decode cX7_thing 55 = .ok (.aload_n 0, 1) := by decide +kernel
theorem dX7_thing_56 : decode cX7_thing 56 = .ok (.iload_n 1, 1) := by decide +kernel
theorem dX7_thing_57 : decode cX7_thing 57 = .ok (.iload_n 2, 1) := by decide +kernel
theorem dX7_thing_58 : decode cX7_thing 58 = .ok (.invokevirtual 63, 3) := by decide +kernel
theorem dX7_thing_61 : decode cX7_thing 61 = .ok (.ireturn, 1) := by decide +kernel
set_option maxRecDepth 20000 in
theorem ggX7_region_X7_isRegion : GoodIn wsX7_region wsX7_isRegion := goodIn_r _ [5, 6, 7, 4, 8] (by decide +kernel) (by decide +kernel)
set_option maxRecDepth 20000 in
theorem gX7_region_X7_isRegion : GoodIn wsX7_region (va_wsS RX7 225 yX7_isRegion wsX7_isRegion) := goodIn_app (goodIn_of _ (by decide +kernel)) ggX7_region_X7_isRegion
set_option maxRecDepth 20000 in
theorem ggX7_region_X7_in : GoodIn wsX7_region wsX7_in := goodIn_r _ [8] (by decide +kernel) (by decide +kernel)
set_option maxRecDepth 20000 in
theorem gX7_region_X7_in : GoodIn wsX7_region (va_wsS RX7 59 yX7_in wsX7_in) := goodIn_app (goodIn_of _ (by decide +kernel)) ggX7_region_X7_in
set_option maxRecDepth 20000 in
theorem ggX7_region_X7_isThing : GoodIn wsX7_region wsX7_isThing := goodIn_r _ [12, 13, 6, 7, 4, 8, 25, 26, 27, 28, 29, 30, 31, 32, 33, 34, 35, 36, 37, 38, 39, 40, 41, 42, 43, 44, 45, 46, 47, 48, 49, 50] (by decide +kernel) (by decide +kernel)
set_option maxRecDepth 20000 in
theorem gX7_region_X7_isThing : GoodIn wsX7_region (wsV RX7 81 RX7 yX7_isThing wsX7_isThing) := goodIn_app (goodIn_of _ (by decide +kernel)) ggX7_region_X7_isThing
set_option maxRecDepth 20000 in
theorem ggX7_region_X7_ofThing : GoodIn wsX7_region wsX7_ofThing := goodIn_r _ [17, 13, 25, 26, 27, 28, 29, 30, 31, 32, 33, 34, 35, 36, 37, 38, 39, 40, 41, 42, 43, 44, 45, 46, 47, 48, 49, 50] (by decide +kernel) (by decide +kernel)
set_option maxRecDepth 20000 in
theorem gX7_region_X7_ofThing : GoodIn wsX7_region (wsV RX7 63 RX7 yX7_ofThing wsX7_ofThing) := goodIn_app (goodIn_of _ (by decide +kernel)) ggX7_region_X7_ofThing
set_option maxRecDepth 20000 in
theorem ggX7_region_X7_ofRegion : GoodIn wsX7_region wsX7_ofRegion := goodIn_r _ [21, 13, 25, 26, 27, 28, 29, 30, 31, 32, 33, 34, 35, 36, 37, 38, 39, 40, 41, 42, 43, 44, 45, 46, 47, 48, 49, 50] (by decide +kernel) (by decide +kernel)
set_option maxRecDepth 20000 in
theorem gX7_region_X7_ofRegion : GoodIn wsX7_region (wsV RX7 67 RX7 yX7_ofRegion wsX7_ofRegion) := goodIn_app (goodIn_of _ (by decide +kernel)) ggX7_region_X7_ofRegion
set_option maxRecDepth 20000 in
theorem ggX7_region_X7_ones : GoodIn wsX7_region wsX7_ones := goodIn_r _ [24] (by decide +kernel) (by decide +kernel)
set_option maxRecDepth 20000 in
theorem gX7_region_X7_ones : GoodIn wsX7_region (va_wsS RX7 213 yX7_ones wsX7_ones) := goodIn_app (goodIn_of _ (by decide +kernel)) ggX7_region_X7_ones
theorem dX7_region_0 : decode cX7_region 0 = .ok (.aload_n 0, 1) := by decide +kernel
theorem dX7_region_1 : decode cX7_region 1 = .ok (.iconst 0, 1) := by decide +kernel
theorem dX7_region_2 : decode cX7_region 2 = .ok (.putfield 55, 3) := by decide +kernel
theorem dX7_region_5 : decode cX7_region 5 = .ok (.iload_n 1, 1) := by decide +kernel
theorem dX7_region_6 : decode cX7_region 6 = .ok (.invokestatic 225, 3) := by decide +kernel
theorem dX7_region_9 : decode cX7_region 9 = .ok (.ifCond .eq 12, 3) := by decide +kernel
theorem dX7_region_12 : decode cX7_region 12 = .ok (.iload_n 2, 1) := by decide +kernel
theorem dX7_region_13 : decode cX7_region 13 = .ok (.iconst 0, 1) := by decide +kernel
theorem dX7_region_14 : decode cX7_region 14 = .ok (.iconst 4, 1) := by decide +kernel
theorem dX7_region_15 : decode cX7_region 15 = .ok (.invokestatic 59, 3) := by decide +kernel
theorem dX7_region_18 : decode cX7_region 18 = .ok (.ifCond .ne 5, 3) := by decide +kernel
theorem dX7_region_21 : decode cX7_region 21 = .ok (.iconst (-1), 1) := by decide +kernel
theorem dX7_region_22 : decode cX7_region 22 = .ok (.ireturn, 1) := by decide +kernel
theorem dX7_region_23 : decode cX7_region 23 = .ok (.iload_n 2, 1) := by decide +kernel
theorem dX7_region_24 : decode cX7_region 24 = .ok (.iconst 3, 1) := by decide +kernel
theorem dX7_region_25 : decode cX7_region 25 = .ok (.if_icmp .ne 51, 3) := by decide +kernel
theorem dX7_region_28 : decode cX7_region 28 = .ok (.iconst 0, 1) := by decide +kernel
theorem dX7_region_29 : decode cX7_region 29 = .ok (.istore_n 3, 1) := by decide +kernel
theorem dX7_region_30 : decode cX7_region 30 = .ok (.iconst 0, 1) := by decide +kernel
theorem dX7_region_31 : decode cX7_region 31 = .ok (.istore 4, 2) := by decide +kernel
theorem dX7_region_33 : decode cX7_region 33 = .ok (.iload 4, 2) := by decide +kernel
theorem dX7_region_35 : decode cX7_region 35 = .ok (.bipush 32, 2) := by decide +kernel
theorem dX7_region_37 : decode cX7_region 37 = .ok (.if_icmp .ge 37, 3) := by decide +kernel
theorem dX7_region_40 : decode cX7_region 40 = .ok (.iload_n 3, 1) := by decide +kernel
theorem dX7_region_41 : decode cX7_region 41 = .ok (.aload_n 0, 1) := by decide +kernel
theorem dX7_region_42 : decode cX7_region 42 = .ok (.iload 4, 2) := by decide +kernel
theorem dX7_region_44 : decode cX7_region 44 = .ok (.invokevirtual 81, 3) := by decide +kernel
theorem dX7_region_47 : decode cX7_region 47 = .ok (.ifCond .eq 18, 3) := by decide +kernel
theorem dX7_region_50 : decode cX7_region 50 = .ok (.aload_n 0, 1) := by decide +kernel
theorem dX7_region_51 : decode cX7_region 51 = .ok (.iload 4, 2) := by decide +kernel
theorem dX7_region_53 : decode cX7_region 53 = .ok (.iconst 1, 1) := by decide +kernel
theorem dX7_region_54 : decode cX7_region 54 = .ok (.invokevirtual 63, 3) := by decide +kernel
theorem dX7_region_57 : decode cX7_region 57 = .ok (.iload_n 1, 1) := by decide +kernel
theorem dX7_region_58 : decode cX7_region 58 = .ok (.if_icmp .ne 7, 3) := by decide +kernel
theorem dX7_region_61 : decode cX7_region 61 = .ok (.iconst 1, 1) := by decide +kernel
theorem dX7_region_62 : decode cX7_region 62 = .ok (.goto 4, 3) := by decide +kernel
theorem dX7_region_65 : decode cX7_region 65 = .ok (.iconst 0, 1) := by decide +kernel
theorem dX7_region_66 : decode cX7_region 66 = .ok (.iadd, 1) := by decide +kernel
theorem dX7_region_67 : decode cX7_region 67 = .ok (.istore_n 3, 1) := by decide +kernel
theorem dX7_region_68 : decode cX7_region 68 = .ok (.iinc 4 1, 3) := by decide +kernel
theorem dX7_region_71 : decode cX7_region 71 = .ok (.goto (-38), 3) := by decide +kernel
theorem dX7_region_74 : decode cX7_region 74 = .ok (.iload_n 3, 1) := by decide +kernel
theorem dX7_region_75 : decode cX7_region 75 = .ok (.ireturn, 1) := by decide +kernel
theorem dX7_region_76 : decode cX7_region 76 = .ok (.iload_n 2, 1) := by decide +kernel
theorem dX7_region_77 : decode cX7_region 77 = .ok (.iconst 4, 1) := by decide +kernel
theorem dX7_region_78 : decode cX7_region 78 = .ok (.if_icmp .ne 15, 3) := by decide +kernel
theorem dX7_region_81 : decode cX7_region 81 = .ok (.aload_n 0, 1) := by decide +kernel
theorem dX7_region_82 : decode cX7_region 82 = .ok (.iload_n 1, 1) := by decide +kernel
theorem dX7_region_83 : decode cX7_region 83 = .ok (.iconst 3, 1) := by decide +kernel
theorem dX7_region_84 : decode cX7_region 84 = .ok (.invokevirtual 67, 3) := by decide +kernel
theorem dX7_region_87 : decode cX7_region 87 = .ok (.invokestatic 213, 3) := by decide +kernel
theorem dX7_region_90 : decode cX7_region 90 = .ok (.goto 9, 3) := by decide +kernel
theorem dX7_region_93 : decode cX7_region 93 = .ok (.aload_n 0, 1) := by decide +kernel
theorem dX7_region_94 : decode cX7_region 94 = .ok (.iload_n 1, 1) := by decide +kernel
theorem dX7_region_95 : decode cX7_region 95 = .ok (.iload_n 2, 1) := by decide +kernel
theorem dX7_region_96 : decode cX7_region 96 = .ok (.invokevirtual 67, 3) := by decide +kernel
theorem dX7_region_99 : decode cX7_region 99 = .ok (.ireturn, 1) := by decide +kernel
set_option maxRecDepth 20000 in
theorem ggX7_remembers_X7_isRegion : GoodIn wsX7_remembers wsX7_isRegion := goodIn_r _ [5, 6, 7, 4, 8] (by decide +kernel) (by decide +kernel)
set_option maxRecDepth 20000 in
theorem gX7_remembers_X7_isRegion : GoodIn wsX7_remembers (va_wsS RX7 225 yX7_isRegion wsX7_isRegion) := goodIn_app (goodIn_of _ (by decide +kernel)) ggX7_remembers_X7_isRegion
set_option maxRecDepth 20000 in
theorem ggX7_remembers_X7_in : GoodIn wsX7_remembers wsX7_in := goodIn_r _ [8] (by decide +kernel) (by decide +kernel)
set_option maxRecDepth 20000 in
theorem gX7_remembers_X7_in : GoodIn wsX7_remembers (va_wsS RX7 59 yX7_in wsX7_in) := goodIn_app (goodIn_of _ (by decide +kernel)) ggX7_remembers_X7_in
set_option maxRecDepth 20000 in
theorem ggX7_remembers_X7_ofRegion : GoodIn wsX7_remembers wsX7_ofRegion := goodIn_r _ [12, 13, 14, 15, 16, 17, 18, 19, 20, 21, 22, 23, 24, 25, 26, 27, 28, 29, 30, 31, 32, 33, 34, 35, 36, 37, 38, 39] (by decide +kernel) (by decide +kernel)
set_option maxRecDepth 20000 in
theorem gX7_remembers_X7_ofRegion : GoodIn wsX7_remembers (wsV RX7 67 RX7 yX7_ofRegion wsX7_ofRegion) := goodIn_app (goodIn_of _ (by decide +kernel)) ggX7_remembers_X7_ofRegion
theorem dX7_remembers_0 : decode cX7_remembers 0 = .ok (.aload_n 0, 1) := by decide +kernel
theorem dX7_remembers_1 : decode cX7_remembers 1 = .ok (.iconst 0, 1) := by decide +kernel
theorem dX7_remembers_2 : decode cX7_remembers 2 = .ok (.putfield 55, 3) := by decide +kernel
theorem dX7_remembers_5 : decode cX7_remembers 5 = .ok (.iload_n 1, 1) := by decide +kernel
theorem dX7_remembers_6 : decode cX7_remembers 6 = .ok (.invokestatic 225, 3) := by decide +kernel
theorem dX7_remembers_9 : decode cX7_remembers 9 = .ok (.ifCond .eq 26, 3) := by decide +kernel
theorem dX7_remembers_12 : decode cX7_remembers 12 = .ok (.iload_n 2, 1) := by decide +kernel
theorem dX7_remembers_13 : decode cX7_remembers 13 = .ok (.iconst 0, 1) := by decide +kernel
theorem dX7_remembers_14 : decode cX7_remembers 14 = .ok (.bipush 19, 2) := by decide +kernel
theorem dX7_remembers_16 : decode cX7_remembers 16 = .ok (.invokestatic 59, 3) := by decide +kernel
theorem dX7_remembers_19 : decode cX7_remembers 19 = .ok (.ifCond .eq 16, 3) := by decide +kernel
theorem dX7_remembers_22 : decode cX7_remembers 22 = .ok (.aload_n 0, 1) := by decide +kernel
theorem dX7_remembers_23 : decode cX7_remembers 23 = .ok (.iload_n 1, 1) := by decide +kernel
theorem dX7_remembers_24 : decode cX7_remembers 24 = .ok (.iconst 3, 1) := by decide +kernel
theorem dX7_remembers_25 : decode cX7_remembers 25 = .ok (.invokevirtual 67, 3) := by decide +kernel
theorem dX7_remembers_28 : decode cX7_remembers 28 = .ok (.iload_n 2, 1) := by decide +kernel
theorem dX7_remembers_29 : decode cX7_remembers 29 = .ok (.ishr, 1) := by decide +kernel
theorem dX7_remembers_30 : decode cX7_remembers 30 = .ok (.iconst 1, 1) := by decide +kernel
theorem dX7_remembers_31 : decode cX7_remembers 31 = .ok (.iand, 1) := by decide +kernel
theorem dX7_remembers_32 : decode cX7_remembers 32 = .ok (.goto 4, 3) := by decide +kernel
theorem dX7_remembers_35 : decode cX7_remembers 35 = .ok (.iconst (-1), 1) := by decide +kernel
theorem dX7_remembers_36 : decode cX7_remembers 36 = .ok (.ireturn, 1) := by decide +kernel
theorem dX7_dirty_0 : decode cX7_dirty 0 = .ok (.aload_n 0, 1) := by decide +kernel
theorem dX7_dirty_1 : decode cX7_dirty 1 = .ok (.iconst 0, 1) := by decide +kernel
theorem dX7_dirty_2 : decode cX7_dirty 2 = .ok (.putfield 55, 3) := by decide +kernel
theorem dX7_dirty_5 : decode cX7_dirty 5 = .ok (.iload_n 1, 1) := by decide +kernel
theorem dX7_dirty_6 : decode cX7_dirty 6 = .ok (.ifCond .ge 7, 3) := by decide +kernel
theorem dX7_dirty_9 : decode cX7_dirty 9 = .ok (.iconst (-1), 1) := by decide +kernel
theorem dX7_dirty_10 : decode cX7_dirty 10 = .ok (.goto 30, 3) := by decide +kernel
theorem dX7_dirty_13 : decode cX7_dirty 13 = .ok (.iload_n 1, 1) := by decide +kernel
theorem dX7_dirty_14 : decode cX7_dirty 14 = .ok (.aload_n 0, 1) := by decide +kernel
theorem dX7_dirty_15 : decode cX7_dirty 15 = .ok (.getfield 7, 3) := by decide +kernel
theorem dX7_dirty_18 : decode cX7_dirty 18 = .ok (.sipush 258, 3) := by decide +kernel
theorem dX7_dirty_21 : decode cX7_dirty 21 = .ok (.iaload, 1) := by decide +kernel
theorem dX7_dirty_22 : decode cX7_dirty 22 = .ok (.if_icmp .ge 16, 3) := by decide +kernel
theorem dX7_dirty_25 : decode cX7_dirty 25 = .ok (.aload_n 0, 1) := by decide +kernel
theorem dX7_dirty_26 : decode cX7_dirty 26 = .ok (.getfield 7, 3) := by decide +kernel
theorem dX7_dirty_29 : decode cX7_dirty 29 = .ok (.sipush 238, 3) := by decide +kernel
theorem dX7_dirty_32 : decode cX7_dirty 32 = .ok (.iload_n 1, 1) := by decide +kernel
theorem dX7_dirty_33 : decode cX7_dirty 33 = .ok (.iadd, 1) := by decide +kernel
theorem dX7_dirty_34 : decode cX7_dirty 34 = .ok (.iaload, 1) := by decide +kernel
theorem dX7_dirty_35 : decode cX7_dirty 35 = .ok (.goto 5, 3) := by decide +kernel
theorem dX7_dirty_38 : decode cX7_dirty 38 = .ok (.bipush (-9), 2) := by decide +kernel
theorem dX7_dirty_40 : decode cX7_dirty 40 = .ok (.ireturn, 1) := by decide +kernel
theorem dX7_grey_0 : decode cX7_grey 0 = .ok (.aload_n 0, 1) := by decide +kernel
theorem dX7_grey_1 : decode cX7_grey 1 = .ok (.iconst 0, 1) := by decide +kernel
theorem dX7_grey_2 : decode cX7_grey 2 = .ok (.putfield 55, 3) := by decide +kernel
theorem dX7_grey_5 : decode cX7_grey 5 = .ok (.iload_n 1, 1) := by decide +kernel
theorem dX7_grey_6 : decode cX7_grey 6 = .ok (.ifCond .ge 7, 3) := by decide +kernel
theorem dX7_grey_9 : decode cX7_grey 9 = .ok (.iconst (-1), 1) := by decide +kernel
theorem dX7_grey_10 : decode cX7_grey 10 = .ok (.goto 42, 3) := by decide +kernel
theorem dX7_grey_13 : decode cX7_grey 13 = .ok (.iload_n 1, 1) := by decide +kernel
theorem dX7_grey_14 : decode cX7_grey 14 = .ok (.aload_n 0, 1) := by decide +kernel
theorem dX7_grey_15 : decode cX7_grey 15 = .ok (.getfield 7, 3) := by decide +kernel
theorem dX7_grey_18 : decode cX7_grey 18 = .ok (.sipush 291, 3) := by decide +kernel
theorem dX7_grey_21 : decode cX7_grey 21 = .ok (.iaload, 1) := by decide +kernel
theorem dX7_grey_22 : decode cX7_grey 22 = .ok (.if_icmp .ge 28, 3) := by decide +kernel
theorem dX7_grey_25 : decode cX7_grey 25 = .ok (.aload_n 0, 1) := by decide +kernel
theorem dX7_grey_26 : decode cX7_grey 26 = .ok (.getfield 7, 3) := by decide +kernel
theorem dX7_grey_29 : decode cX7_grey 29 = .ok (.sipush 292, 3) := by decide +kernel
theorem dX7_grey_32 : decode cX7_grey 32 = .ok (.iaload, 1) := by decide +kernel
theorem dX7_grey_33 : decode cX7_grey 33 = .ok (.iconst 1, 1) := by decide +kernel
theorem dX7_grey_34 : decode cX7_grey 34 = .ok (.if_icmp .ne 16, 3) := by decide +kernel
theorem dX7_grey_37 : decode cX7_grey 37 = .ok (.aload_n 0, 1) := by decide +kernel
theorem dX7_grey_38 : decode cX7_grey 38 = .ok (.getfield 7, 3) := by decide +kernel
theorem dX7_grey_41 : decode cX7_grey 41 = .ok (.sipush 259, 3) := by decide +kernel
theorem dX7_grey_44 : decode cX7_grey 44 = .ok (.iload_n 1, 1) := by decide +kernel
theorem dX7_grey_45 : decode cX7_grey 45 = .ok (.iadd, 1) := by decide +kernel
theorem dX7_grey_46 : decode cX7_grey 46 = .ok (.iaload, 1) := by decide +kernel
theorem dX7_grey_47 : decode cX7_grey 47 = .ok (.goto 5, 3) := by decide +kernel
theorem dX7_grey_50 : decode cX7_grey 50 = .ok (.bipush (-9), 2) := by decide +kernel
theorem dX7_grey_52 : decode cX7_grey 52 = .ok (.ireturn, 1) := by decide +kernel
set_option maxRecDepth 20000 in
theorem ggX7_learnt_X7_in : GoodIn wsX7_learnt wsX7_in := goodIn_r _ [7] (by decide +kernel) (by decide +kernel)
set_option maxRecDepth 20000 in
theorem gX7_learnt_X7_in : GoodIn wsX7_learnt (va_wsS RX7 59 yX7_in wsX7_in) := goodIn_app (goodIn_of _ (by decide +kernel)) ggX7_learnt_X7_in
theorem dX7_learnt_0 : decode cX7_learnt 0 = .ok (.aload_n 0, 1) := by decide +kernel
theorem dX7_learnt_1 : decode cX7_learnt 1 = .ok (.iconst 0, 1) := by decide +kernel
theorem dX7_learnt_2 : decode cX7_learnt 2 = .ok (.putfield 55, 3) := by decide +kernel
theorem dX7_learnt_5 : decode cX7_learnt 5 = .ok (.iload_n 1, 1) := by decide +kernel
theorem dX7_learnt_6 : decode cX7_learnt 6 = .ok (.iconst 0, 1) := by decide +kernel
theorem dX7_learnt_7 : decode cX7_learnt 7 = .ok (.iconst 1, 1) := by decide +kernel
theorem dX7_learnt_8 : decode cX7_learnt 8 = .ok (.invokestatic 59, 3) := by decide +kernel
theorem dX7_learnt_11 : decode cX7_learnt 11 = .ok (.ifCond .eq 16, 3) := by decide +kernel
theorem dX7_learnt_14 : decode cX7_learnt 14 = .ok (.ldc 228, 2) := by decide +kernel
theorem dX7_learnt_16 : decode cX7_learnt 16 = .ok (.aload_n 0, 1) := by decide +kernel
theorem dX7_learnt_17 : decode cX7_learnt 17 = .ok (.getfield 13, 3) := by decide +kernel
theorem dX7_learnt_20 : decode cX7_learnt 20 = .ok (.iload_n 1, 1) := by decide +kernel
theorem dX7_learnt_21 : decode cX7_learnt 21 = .ok (.faload, 1) := by decide +kernel
theorem dX7_learnt_22 : decode cX7_learnt 22 = .ok (.fmul, 1) := by decide +kernel
theorem dX7_learnt_23 : decode cX7_learnt 23 = .ok (.f2i, 1) := by decide +kernel
theorem dX7_learnt_24 : decode cX7_learnt 24 = .ok (.goto 4, 3) := by decide +kernel
theorem dX7_learnt_27 : decode cX7_learnt 27 = .ok (.iconst (-1), 1) := by decide +kernel
theorem dX7_learnt_28 : decode cX7_learnt 28 = .ok (.ireturn, 1) := by decide +kernel
set_option maxRecDepth 20000 in
theorem ggX7_chooses_X7_isGoal : GoodIn wsX7_chooses wsX7_isGoal := goodIn_r _ [6, 7, 8, 5, 9] (by decide +kernel) (by decide +kernel)
set_option maxRecDepth 20000 in
theorem gX7_chooses_X7_isGoal : GoodIn wsX7_chooses (va_wsS RX7 219 yX7_isGoal wsX7_isGoal) := goodIn_app (goodIn_of _ (by decide +kernel)) ggX7_chooses_X7_isGoal
set_option maxRecDepth 20000 in
theorem ggX7_chooses_X7_laysChosen : GoodIn wsX7_chooses wsX7_laysChosen := goodIn_r _ [13, 2, 14, 15, 16, 17, 18, 19, 20, 5, 21, 22, 23, 24, 25, 26, 27, 28, 29, 30, 31, 32, 33, 34, 35, 36, 37, 38, 39, 40, 41, 42, 43, 44, 45, 46, 47, 48, 49, 50, 51, 52] (by decide +kernel) (by decide +kernel)
set_option maxRecDepth 20000 in
theorem gX7_chooses_X7_laysChosen : GoodIn wsX7_chooses (wsV RX7 201 RX7 yX7_laysChosen wsX7_laysChosen) := goodIn_app (goodIn_of _ (by decide +kernel)) ggX7_chooses_X7_laysChosen
theorem dX7_chooses_0 : decode cX7_chooses 0 = .ok (.aload_n 0, 1) := by decide +kernel
theorem dX7_chooses_1 : decode cX7_chooses 1 = .ok (.iconst 0, 1) := by decide +kernel
theorem dX7_chooses_2 : decode cX7_chooses 2 = .ok (.putfield 55, 3) := by decide +kernel
theorem dX7_chooses_5 : decode cX7_chooses 5 = .ok (.iload_n 1, 1) := by decide +kernel
theorem dX7_chooses_6 : decode cX7_chooses 6 = .ok (.invokestatic 219, 3) := by decide +kernel
theorem dX7_chooses_9 : decode cX7_chooses 9 = .ok (.ifCond .ne 5, 3) := by decide +kernel
theorem dX7_chooses_12 : decode cX7_chooses 12 = .ok (.iconst (-1), 1) := by decide +kernel
theorem dX7_chooses_13 : decode cX7_chooses 13 = .ok (.ireturn, 1) := by decide +kernel
theorem dX7_chooses_14 : decode cX7_chooses 14 = .ok (.aload_n 0, 1) := by decide +kernel
theorem dX7_chooses_15 : decode cX7_chooses 15 = .ok (.iload_n 1, 1) := by decide +kernel
theorem dX7_chooses_16 : decode cX7_chooses 16 = .ok (.invokevirtual 201, 3) := by decide +kernel
theorem dX7_chooses_19 : decode cX7_chooses 19 = .ok (.aload_n 0, 1) := by decide +kernel
theorem dX7_chooses_20 : decode cX7_chooses 20 = .ok (.getfield 152, 3) := by decide +kernel
theorem dX7_chooses_23 : decode cX7_chooses 23 = .ok (.ireturn, 1) := by decide +kernel
set_option maxRecDepth 20000 in
theorem ggX7_foretold_X7_isGoal : GoodIn wsX7_foretold wsX7_isGoal := goodIn_r _ [7, 8, 9, 6, 10] (by decide +kernel) (by decide +kernel)
set_option maxRecDepth 20000 in
theorem gX7_foretold_X7_isGoal : GoodIn wsX7_foretold (va_wsS RX7 219 yX7_isGoal wsX7_isGoal) := goodIn_app (goodIn_of _ (by decide +kernel)) ggX7_foretold_X7_isGoal
set_option maxRecDepth 20000 in
theorem ggX7_foretold_X7_laysChosen : GoodIn wsX7_foretold wsX7_laysChosen := goodIn_r _ [14, 15, 16, 17, 18, 3, 19, 20, 21, 6, 22, 23, 24, 25, 26, 27, 28, 29, 30, 31, 32, 33, 34, 35, 36, 37, 38, 39, 40, 41, 42, 43, 44, 45, 46, 47, 48, 49, 50, 51, 52, 53] (by decide +kernel) (by decide +kernel)
set_option maxRecDepth 20000 in
theorem gX7_foretold_X7_laysChosen : GoodIn wsX7_foretold (wsV RX7 201 RX7 yX7_laysChosen wsX7_laysChosen) := goodIn_app (goodIn_of _ (by decide +kernel)) ggX7_foretold_X7_laysChosen
theorem dX7_foretold_0 : decode cX7_foretold 0 = .ok (.aload_n 0, 1) := by decide +kernel
theorem dX7_foretold_1 : decode cX7_foretold 1 = .ok (.iconst 0, 1) := by decide +kernel
theorem dX7_foretold_2 : decode cX7_foretold 2 = .ok (.putfield 55, 3) := by decide +kernel
theorem dX7_foretold_5 : decode cX7_foretold 5 = .ok (.iload_n 1, 1) := by decide +kernel
theorem dX7_foretold_6 : decode cX7_foretold 6 = .ok (.invokestatic 219, 3) := by decide +kernel
theorem dX7_foretold_9 : decode cX7_foretold 9 = .ok (.ifCond .ne 5, 3) := by decide +kernel
theorem dX7_foretold_12 : decode cX7_foretold 12 = .ok (.iconst (-1), 1) := by decide +kernel
theorem dX7_foretold_13 : decode cX7_foretold 13 = .ok (.ireturn, 1) := by decide +kernel
theorem dX7_foretold_14 : decode cX7_foretold 14 = .ok (.aload_n 0, 1) := by decide +kernel
theorem dX7_foretold_15 : decode cX7_foretold 15 = .ok (.iload_n 1, 1) := by decide +kernel
theorem dX7_foretold_16 : decode cX7_foretold 16 = .ok (.invokevirtual 201, 3) := by decide +kernel
theorem dX7_foretold_19 : decode cX7_foretold 19 = .ok (.ldc 228, 2) := by decide +kernel
theorem dX7_foretold_21 : decode cX7_foretold 21 = .ok (.aload_n 0, 1) := by decide +kernel
theorem dX7_foretold_22 : decode cX7_foretold 22 = .ok (.getfield 159, 3) := by decide +kernel
theorem dX7_foretold_25 : decode cX7_foretold 25 = .ok (.fmul, 1) := by decide +kernel
theorem dX7_foretold_26 : decode cX7_foretold 26 = .ok (.f2i, 1) := by decide +kernel
theorem dX7_foretold_27 : decode cX7_foretold 27 = .ok (.ireturn, 1) := by decide +kernel
set_option maxRecDepth 20000 in
theorem ggX7_would_X7_isGoal : GoodIn wsX7_would wsX7_isGoal := goodIn_r _ [9, 10, 11, 8, 12] (by decide +kernel) (by decide +kernel)
set_option maxRecDepth 20000 in
theorem gX7_would_X7_isGoal : GoodIn wsX7_would (va_wsS RX7 219 yX7_isGoal wsX7_isGoal) := goodIn_app (goodIn_of _ (by decide +kernel)) ggX7_would_X7_isGoal
set_option maxRecDepth 20000 in
theorem ggX7_would_X7_pause : GoodIn wsX7_would wsX7_pause := goodIn_r _ [16, 3, 17, 18, 19, 20, 21, 22, 23, 24, 25, 26, 27, 8, 28, 29, 30, 31, 32, 33, 34, 35, 36, 10, 11, 12, 37, 38, 39, 40, 41, 42, 43, 44, 45, 46, 47, 48, 49, 50, 51, 5, 52, 53, 54, 55, 56, 57, 58, 59, 60, 61, 62, 63, 64, 65, 66, 67, 68, 69, 70, 71, 72, 73, 74, 75, 76, 77, 78, 79, 80, 81, 82, 83, 84, 85, 86, 87, 88, 89, 90, 91, 92, 93, 94, 95, 96, 97, 98, 99, 100, 101, 102, 103, 104, 105, 106, 107, 108, 109, 110, 111, 112, 113, 114, 115, 116, 117, 118, 119, 120, 121, 122, 123, 124, 125, 126, 127, 128, 129, 130, 131, 132, 133, 134, 135, 136, 137, 138, 139, 140, 141, 142, 143, 144, 145, 146, 147, 148, 149, 150, 151, 152, 153, 154, 155, 156, 157, 158, 159, 160, 161] (by decide +kernel) (by decide +kernel)
set_option maxRecDepth 20000 in
theorem gX7_would_X7_pause : GoodIn wsX7_would (wsV RX7 222 RX7 yX7_pause wsX7_pause) := goodIn_app (goodIn_of _ (by decide +kernel)) ggX7_would_X7_pause
theorem dX7_would_0 : decode cX7_would 0 = .ok (.aload_n 0, 1) := by decide +kernel
theorem dX7_would_1 : decode cX7_would 1 = .ok (.iconst 0, 1) := by decide +kernel
theorem dX7_would_2 : decode cX7_would 2 = .ok (.putfield 55, 3) := by decide +kernel
theorem dX7_would_5 : decode cX7_would 5 = .ok (.iload_n 1, 1) := by decide +kernel
theorem dX7_would_6 : decode cX7_would 6 = .ok (.invokestatic 219, 3) := by decide +kernel
theorem dX7_would_9 : decode cX7_would 9 = .ok (.ifCond .ne 5, 3) := by decide +kernel
theorem dX7_would_12 : decode cX7_would 12 = .ok (.iconst (-1), 1) := by decide +kernel
theorem dX7_would_13 : decode cX7_would 13 = .ok (.ireturn, 1) := by decide +kernel
theorem dX7_would_14 : decode cX7_would 14 = .ok (.iconst 0, 1) := by decide +kernel
theorem dX7_would_15 : decode cX7_would 15 = .ok (.istore_n 2, 1) := by decide +kernel
theorem dX7_would_16 : decode cX7_would 16 = .ok (.iload_n 2, 1) := by decide +kernel
theorem dX7_would_17 : decode cX7_would 17 = .ok (.sipush 296, 3) := by decide +kernel
theorem dX7_would_20 : decode cX7_would 20 = .ok (.if_icmp .ge 21, 3) := by decide +kernel
theorem dX7_would_23 : decode cX7_would 23 = .ok (.aload_n 0, 1) := by decide +kernel
theorem dX7_would_24 : decode cX7_would 24 = .ok (.getfield 33, 3) := by decide +kernel
theorem dX7_would_27 : decode cX7_would 27 = .ok (.iload_n 2, 1) := by decide +kernel
theorem dX7_would_28 : decode cX7_would 28 = .ok (.aload_n 0, 1) := by decide +kernel
theorem dX7_would_29 : decode cX7_would 29 = .ok (.getfield 7, 3) := by decide +kernel
theorem dX7_would_32 : decode cX7_would 32 = .ok (.iload_n 2, 1) := by decide +kernel
theorem dX7_would_33 : decode cX7_would 33 = .ok (.iaload, 1) := by decide +kernel
theorem dX7_would_34 : decode cX7_would 34 = .ok (.iastore, 1) := by decide +kernel
theorem dX7_would_35 : decode cX7_would 35 = .ok (.iinc 2 1, 3) := by decide +kernel
theorem dX7_would_38 : decode cX7_would 38 = .ok (.goto (-22), 3) := by decide +kernel
theorem dX7_would_41 : decode cX7_would 41 = .ok (.aload_n 0, 1) := by decide +kernel
theorem dX7_would_42 : decode cX7_would 42 = .ok (.getfield 36, 3) := by decide +kernel
theorem dX7_would_45 : decode cX7_would 45 = .ok (.iconst 0, 1) := by decide +kernel
theorem dX7_would_46 : decode cX7_would 46 = .ok (.aload_n 0, 1) := by decide +kernel
theorem dX7_would_47 : decode cX7_would 47 = .ok (.getfield 13, 3) := by decide +kernel
theorem dX7_would_50 : decode cX7_would 50 = .ok (.iconst 0, 1) := by decide +kernel
theorem dX7_would_51 : decode cX7_would 51 = .ok (.faload, 1) := by decide +kernel
theorem dX7_would_52 : decode cX7_would 52 = .ok (.fastore, 1) := by decide +kernel
theorem dX7_would_53 : decode cX7_would 53 = .ok (.aload_n 0, 1) := by decide +kernel
theorem dX7_would_54 : decode cX7_would 54 = .ok (.getfield 36, 3) := by decide +kernel
theorem dX7_would_57 : decode cX7_would 57 = .ok (.iconst 1, 1) := by decide +kernel
theorem dX7_would_58 : decode cX7_would 58 = .ok (.aload_n 0, 1) := by decide +kernel
theorem dX7_would_59 : decode cX7_would 59 = .ok (.getfield 13, 3) := by decide +kernel
theorem dX7_would_62 : decode cX7_would 62 = .ok (.iconst 1, 1) := by decide +kernel
theorem dX7_would_63 : decode cX7_would 63 = .ok (.faload, 1) := by decide +kernel
theorem dX7_would_64 : decode cX7_would 64 = .ok (.fastore, 1) := by decide +kernel
theorem dX7_would_65 : decode cX7_would 65 = .ok (.aload_n 0, 1) := by decide +kernel
theorem dX7_would_66 : decode cX7_would 66 = .ok (.iload_n 1, 1) := by decide +kernel
theorem dX7_would_67 : decode cX7_would 67 = .ok (.invokevirtual 222, 3) := by decide +kernel
theorem dX7_would_70 : decode cX7_would 70 = .ok (.istore_n 2, 1) := by decide +kernel
theorem dX7_would_71 : decode cX7_would 71 = .ok (.iconst 0, 1) := by decide +kernel
theorem dX7_would_72 : decode cX7_would 72 = .ok (.istore_n 3, 1) := by decide +kernel
theorem dX7_would_73 : decode cX7_would 73 = .ok (.iload_n 3, 1) := by decide +kernel
theorem dX7_would_74 : decode cX7_would 74 = .ok (.sipush 296, 3) := by decide +kernel
theorem dX7_would_77 : decode cX7_would 77 = .ok (.if_icmp .ge 21, 3) := by decide +kernel
theorem dX7_would_80 : decode cX7_would 80 = .ok (.aload_n 0, 1) := by decide +kernel
theorem dX7_would_81 : decode cX7_would 81 = .ok (.getfield 7, 3) := by decide +kernel
theorem dX7_would_84 : decode cX7_would 84 = .ok (.iload_n 3, 1) := by decide +kernel
theorem dX7_would_85 : decode cX7_would 85 = .ok (.aload_n 0, 1) := by decide +kernel
theorem dX7_would_86 : decode cX7_would 86 = .ok (.getfield 33, 3) := by decide +kernel
theorem dX7_would_89 : decode cX7_would 89 = .ok (.iload_n 3, 1) := by decide +kernel
theorem dX7_would_90 : decode cX7_would 90 = .ok (.iaload, 1) := by decide +kernel
theorem dX7_would_91 : decode cX7_would 91 = .ok (.iastore, 1) := by decide +kernel
theorem dX7_would_92 : decode cX7_would 92 = .ok (.iinc 3 1, 3) := by decide +kernel
theorem dX7_would_95 : decode cX7_would 95 = .ok (.goto (-22), 3) := by decide +kernel
theorem dX7_would_98 : decode cX7_would 98 = .ok (.aload_n 0, 1) := by decide +kernel
theorem dX7_would_99 : decode cX7_would 99 = .ok (.getfield 13, 3) := by decide +kernel
theorem dX7_would_102 : decode cX7_would 102 = .ok (.iconst 0, 1) := by decide +kernel
theorem dX7_would_103 : decode cX7_would 103 = .ok (.aload_n 0, 1) := by decide +kernel
theorem dX7_would_104 : decode cX7_would 104 = .ok (.getfield 36, 3) := by decide +kernel
theorem dX7_would_107 : decode cX7_would 107 = .ok (.iconst 0, 1) := by decide +kernel
theorem dX7_would_108 : decode cX7_would 108 = .ok (.faload, 1) := by decide +kernel
theorem dX7_would_109 : decode cX7_would 109 = .ok (.fastore, 1) := by decide +kernel
theorem dX7_would_110 : decode cX7_would 110 = .ok (.aload_n 0, 1) := by decide +kernel
theorem dX7_would_111 : decode cX7_would 111 = .ok (.getfield 13, 3) := by decide +kernel
theorem dX7_would_114 : decode cX7_would 114 = .ok (.iconst 1, 1) := by decide +kernel
theorem dX7_would_115 : decode cX7_would 115 = .ok (.aload_n 0, 1) := by decide +kernel
theorem dX7_would_116 : decode cX7_would 116 = .ok (.getfield 36, 3) := by decide +kernel
theorem dX7_would_119 : decode cX7_would 119 = .ok (.iconst 1, 1) := by decide +kernel
theorem dX7_would_120 : decode cX7_would 120 = .ok (.faload, 1) := by decide +kernel
theorem dX7_would_121 : decode cX7_would 121 = .ok (.fastore, 1) := by decide +kernel
theorem dX7_would_122 : decode cX7_would 122 = .ok (.iload_n 2, 1) := by decide +kernel
theorem dX7_would_123 : decode cX7_would 123 = .ok (.ireturn, 1) := by decide +kernel
theorem dX7_reaches_0 : decode cX7_reaches 0 = .ok (.iload_n 1, 1) := by decide +kernel
theorem dX7_reaches_1 : decode cX7_reaches 1 = .ok (.bipush (-5), 2) := by decide +kernel
theorem dX7_reaches_3 : decode cX7_reaches 3 = .ok (.if_icmp .eq 19, 3) := by decide +kernel
theorem dX7_reaches_6 : decode cX7_reaches 6 = .ok (.aload_n 0, 1) := by decide +kernel
theorem dX7_reaches_7 : decode cX7_reaches 7 = .ok (.getfield 48, 3) := by decide +kernel
theorem dX7_reaches_10 : decode cX7_reaches 10 = .ok (.iload_n 1, 1) := by decide +kernel
theorem dX7_reaches_11 : decode cX7_reaches 11 = .ok (.iaload, 1) := by decide +kernel
theorem dX7_reaches_12 : decode cX7_reaches 12 = .ok (.ifCond .ne 10, 3) := by decide +kernel
theorem dX7_reaches_15 : decode cX7_reaches 15 = .ok (.aload_n 0, 1) := by decide +kernel
theorem dX7_reaches_16 : decode cX7_reaches 16 = .ok (.getfield 48, 3) := by decide +kernel
theorem dX7_reaches_19 : decode cX7_reaches 19 = .ok (.iload_n 1, 1) := by decide +kernel
theorem dX7_reaches_20 : decode cX7_reaches 20 = .ok (.iload_n 2, 1) := by decide +kernel
theorem dX7_reaches_21 : decode cX7_reaches 21 = .ok (.iastore, 1) := by decide +kernel
theorem dX7_reaches_22 : decode cX7_reaches 22 = .ok (.return_, 1) := by decide +kernel
set_option maxRecDepth 20000 in
theorem ggX7_laysFar_X7_reaches : GoodIn wsX7_laysFar wsX7_reaches := goodIn_r _ [7, 1, 12, 13, 14, 15, 16, 17, 18, 19, 20, 21, 22, 23, 24, 25, 26, 27, 28, 29, 30, 31, 32, 33, 34, 35, 36, 37] (by decide +kernel) (by decide +kernel)
set_option maxRecDepth 20000 in
theorem gX7_laysFar_X7_reaches : GoodIn wsX7_laysFar (wsV RX7 229 RX7 yX7_reaches wsX7_reaches) := goodIn_app (goodIn_of _ (by decide +kernel)) ggX7_laysFar_X7_reaches
set_option maxRecDepth 20000 in
theorem ggX7_laysFar_X7_ofThing : GoodIn wsX7_laysFar wsX7_ofThing := goodIn_r _ [11, 2, 12, 13, 14, 15, 16, 17, 18, 19, 20, 21, 22, 23, 24, 25, 26, 27, 28, 29, 30, 31, 32, 33, 34, 35, 36, 37] (by decide +kernel) (by decide +kernel)
set_option maxRecDepth 20000 in
theorem gX7_laysFar_X7_ofThing : GoodIn wsX7_laysFar (wsV RX7 63 RX7 yX7_ofThing wsX7_ofThing) := goodIn_app (goodIn_of _ (by decide +kernel)) ggX7_laysFar_X7_ofThing
theorem dX7_laysFar_0 : decode cX7_laysFar 0 = .ok (.iconst 0, 1) := by decide +kernel
theorem dX7_laysFar_1 : decode cX7_laysFar 1 = .ok (.istore_n 1, 1) := by decide +kernel
theorem dX7_laysFar_2 : decode cX7_laysFar 2 = .ok (.iload_n 1, 1) := by decide +kernel
theorem dX7_laysFar_3 : decode cX7_laysFar 3 = .ok (.bipush 32, 2) := by decide +kernel
theorem dX7_laysFar_5 : decode cX7_laysFar 5 = .ok (.if_icmp .ge 16, 3) := by decide +kernel
theorem dX7_laysFar_8 : decode cX7_laysFar 8 = .ok (.aload_n 0, 1) := by decide +kernel
theorem dX7_laysFar_9 : decode cX7_laysFar 9 = .ok (.getfield 48, 3) := by decide +kernel
theorem dX7_laysFar_12 : decode cX7_laysFar 12 = .ok (.iload_n 1, 1) := by decide +kernel
theorem dX7_laysFar_13 : decode cX7_laysFar 13 = .ok (.iconst 0, 1) := by decide +kernel
theorem dX7_laysFar_14 : decode cX7_laysFar 14 = .ok (.iastore, 1) := by decide +kernel
theorem dX7_laysFar_15 : decode cX7_laysFar 15 = .ok (.iinc 1 1, 3) := by decide +kernel
theorem dX7_laysFar_18 : decode cX7_laysFar 18 = .ok (.goto (-16), 3) := by decide +kernel
theorem dX7_laysFar_21 : decode cX7_laysFar 21 = .ok (.iconst 0, 1) := by decide +kernel
theorem dX7_laysFar_22 : decode cX7_laysFar 22 = .ok (.istore_n 1, 1) := by decide +kernel
theorem dX7_laysFar_23 : decode cX7_laysFar 23 = .ok (.iload_n 1, 1) := by decide +kernel
theorem dX7_laysFar_24 : decode cX7_laysFar 24 = .ok (.bipush 6, 2) := by decide +kernel
theorem dX7_laysFar_26 : decode cX7_laysFar 26 = .ok (.if_icmp .ge 24, 3) := by decide +kernel
theorem dX7_laysFar_29 : decode cX7_laysFar 29 = .ok (.aload_n 0, 1) := by decide +kernel
theorem dX7_laysFar_30 : decode cX7_laysFar 30 = .ok (.aload_n 0, 1) := by decide +kernel
theorem dX7_laysFar_31 : decode cX7_laysFar 31 = .ok (.getfield 7, 3) := by decide +kernel
theorem dX7_laysFar_34 : decode cX7_laysFar 34 = .ok (.sipush 192, 3) := by decide +kernel
theorem dX7_laysFar_37 : decode cX7_laysFar 37 = .ok (.iload_n 1, 1) := by decide +kernel
theorem dX7_laysFar_38 : decode cX7_laysFar 38 = .ok (.iadd, 1) := by decide +kernel
theorem dX7_laysFar_39 : decode cX7_laysFar 39 = .ok (.iaload, 1) := by decide +kernel
theorem dX7_laysFar_40 : decode cX7_laysFar 40 = .ok (.iconst 1, 1) := by decide +kernel
theorem dX7_laysFar_41 : decode cX7_laysFar 41 = .ok (.invokevirtual 229, 3) := by decide +kernel
theorem dX7_laysFar_44 : decode cX7_laysFar 44 = .ok (.iinc 1 1, 3) := by decide +kernel
theorem dX7_laysFar_47 : decode cX7_laysFar 47 = .ok (.goto (-24), 3) := by decide +kernel
theorem dX7_laysFar_50 : decode cX7_laysFar 50 = .ok (.iconst 1, 1) := by decide +kernel
theorem dX7_laysFar_51 : decode cX7_laysFar 51 = .ok (.istore_n 1, 1) := by decide +kernel
theorem dX7_laysFar_52 : decode cX7_laysFar 52 = .ok (.iload_n 1, 1) := by decide +kernel
theorem dX7_laysFar_53 : decode cX7_laysFar 53 = .ok (.bipush 32, 2) := by decide +kernel
theorem dX7_laysFar_55 : decode cX7_laysFar 55 = .ok (.if_icmp .gt 59, 3) := by decide +kernel
theorem dX7_laysFar_58 : decode cX7_laysFar 58 = .ok (.iconst 0, 1) := by decide +kernel
theorem dX7_laysFar_59 : decode cX7_laysFar 59 = .ok (.istore_n 2, 1) := by decide +kernel
theorem dX7_laysFar_60 : decode cX7_laysFar 60 = .ok (.iload_n 2, 1) := by decide +kernel
theorem dX7_laysFar_61 : decode cX7_laysFar 61 = .ok (.bipush 32, 2) := by decide +kernel
theorem dX7_laysFar_63 : decode cX7_laysFar 63 = .ok (.if_icmp .ge 45, 3) := by decide +kernel
theorem dX7_laysFar_66 : decode cX7_laysFar 66 = .ok (.aload_n 0, 1) := by decide +kernel
theorem dX7_laysFar_67 : decode cX7_laysFar 67 = .ok (.getfield 48, 3) := by decide +kernel
theorem dX7_laysFar_70 : decode cX7_laysFar 70 = .ok (.iload_n 2, 1) := by decide +kernel
theorem dX7_laysFar_71 : decode cX7_laysFar 71 = .ok (.iaload, 1) := by decide +kernel
theorem dX7_laysFar_72 : decode cX7_laysFar 72 = .ok (.iload_n 1, 1) := by decide +kernel
theorem dX7_laysFar_73 : decode cX7_laysFar 73 = .ok (.if_icmp .ne 29, 3) := by decide +kernel
theorem dX7_laysFar_76 : decode cX7_laysFar 76 = .ok (.aload_n 0, 1) := by decide +kernel
theorem dX7_laysFar_77 : decode cX7_laysFar 77 = .ok (.aload_n 0, 1) := by decide +kernel
theorem dX7_laysFar_78 : decode cX7_laysFar 78 = .ok (.iload_n 2, 1) := by decide +kernel
theorem dX7_laysFar_79 : decode cX7_laysFar 79 = .ok (.iconst 3, 1) := by decide +kernel
theorem dX7_laysFar_80 : decode cX7_laysFar 80 = .ok (.invokevirtual 63, 3) := by decide +kernel
theorem dX7_laysFar_83 : decode cX7_laysFar 83 = .ok (.iload_n 1, 1) := by decide +kernel
theorem dX7_laysFar_84 : decode cX7_laysFar 84 = .ok (.iconst 1, 1) := by decide +kernel
theorem dX7_laysFar_85 : decode cX7_laysFar 85 = .ok (.iadd, 1) := by decide +kernel
theorem dX7_laysFar_86 : decode cX7_laysFar 86 = .ok (.invokevirtual 229, 3) := by decide +kernel
theorem dX7_laysFar_89 : decode cX7_laysFar 89 = .ok (.aload_n 0, 1) := by decide +kernel
theorem dX7_laysFar_90 : decode cX7_laysFar 90 = .ok (.aload_n 0, 1) := by decide +kernel
theorem dX7_laysFar_91 : decode cX7_laysFar 91 = .ok (.iload_n 2, 1) := by decide +kernel
theorem dX7_laysFar_92 : decode cX7_laysFar 92 = .ok (.iconst 4, 1) := by decide +kernel
theorem dX7_laysFar_93 : decode cX7_laysFar 93 = .ok (.invokevirtual 63, 3) := by decide +kernel
theorem dX7_laysFar_96 : decode cX7_laysFar 96 = .ok (.iload_n 1, 1) := by decide +kernel
theorem dX7_laysFar_97 : decode cX7_laysFar 97 = .ok (.iconst 1, 1) := by decide +kernel
theorem dX7_laysFar_98 : decode cX7_laysFar 98 = .ok (.iadd, 1) := by decide +kernel
theorem dX7_laysFar_99 : decode cX7_laysFar 99 = .ok (.invokevirtual 229, 3) := by decide +kernel
theorem dX7_laysFar_102 : decode cX7_laysFar 102 = .ok (.iinc 2 1, 3) := by decide +kernel
theorem dX7_laysFar_105 : decode cX7_laysFar 105 = .ok (.goto (-45), 3) := by decide +kernel
theorem dX7_laysFar_108 : decode cX7_laysFar 108 = .ok (.iinc 1 1, 3) := by decide +kernel
theorem dX7_laysFar_111 : decode cX7_laysFar 111 = .ok (.goto (-59), 3) := by decide +kernel
theorem dX7_laysFar_114 : decode cX7_laysFar 114 = .ok (.return_, 1) := by decide +kernel
set_option maxRecDepth 20000 in
theorem ggX7_rubbish_X7_in : GoodIn wsX7_rubbish wsX7_in := goodIn_r _ [6] (by decide +kernel) (by decide +kernel)
set_option maxRecDepth 20000 in
theorem gX7_rubbish_X7_in : GoodIn wsX7_rubbish (va_wsS RX7 59 yX7_in wsX7_in) := goodIn_app (goodIn_of _ (by decide +kernel)) ggX7_rubbish_X7_in
set_option maxRecDepth 20000 in
theorem ggX7_rubbish_X7_laysFar : GoodIn wsX7_rubbish wsX7_laysFar := goodIn_r _ [10, 2, 11, 12, 13, 14, 5, 15, 16, 17, 18, 19, 24, 25, 26, 27, 28, 29, 30, 31, 32, 33, 34, 35, 36, 37, 38, 39, 40, 41, 42, 43, 44, 45, 46, 47, 48, 49] (by decide +kernel) (by decide +kernel)
set_option maxRecDepth 20000 in
theorem gX7_rubbish_X7_laysFar : GoodIn wsX7_rubbish (wsV RX7 232 RX7 yX7_laysFar wsX7_laysFar) := goodIn_app (goodIn_of _ (by decide +kernel)) ggX7_rubbish_X7_laysFar
set_option maxRecDepth 20000 in
theorem ggX7_rubbish_X7_isThing : GoodIn wsX7_rubbish wsX7_isThing := goodIn_r _ [23, 11, 3, 4, 5, 6, 24, 25, 26, 27, 28, 29, 30, 31, 32, 33, 34, 35, 36, 37, 38, 39, 40, 41, 42, 43, 44, 45, 46, 47, 48, 49] (by decide +kernel) (by decide +kernel)
set_option maxRecDepth 20000 in
theorem gX7_rubbish_X7_isThing : GoodIn wsX7_rubbish (wsV RX7 81 RX7 yX7_isThing wsX7_isThing) := goodIn_app (goodIn_of _ (by decide +kernel)) ggX7_rubbish_X7_isThing
set_option maxRecDepth 20000 in
theorem ggX7_rubbish_X7_ofThing : GoodIn wsX7_rubbish wsX7_ofThing := goodIn_r _ [19, 11, 24, 25, 26, 27, 28, 29, 30, 31, 32, 33, 34, 35, 36, 37, 38, 39, 40, 41, 42, 43, 44, 45, 46, 47, 48, 49] (by decide +kernel) (by decide +kernel)
set_option maxRecDepth 20000 in
theorem gX7_rubbish_X7_ofThing : GoodIn wsX7_rubbish (wsV RX7 63 RX7 yX7_ofThing wsX7_ofThing) := goodIn_app (goodIn_of _ (by decide +kernel)) ggX7_rubbish_X7_ofThing
theorem dX7_rubbish_0 : decode cX7_rubbish 0 = .ok (.aload_n 0, 1) := by decide +kernel
theorem dX7_rubbish_1 : decode cX7_rubbish 1 = .ok (.iconst 0, 1) := by decide +kernel
theorem dX7_rubbish_2 : decode cX7_rubbish 2 = .ok (.putfield 55, 3) := by decide +kernel
theorem dX7_rubbish_5 : decode cX7_rubbish 5 = .ok (.iload_n 1, 1) := by decide +kernel
theorem dX7_rubbish_6 : decode cX7_rubbish 6 = .ok (.iconst 0, 1) := by decide +kernel
theorem dX7_rubbish_7 : decode cX7_rubbish 7 = .ok (.iconst 1, 1) := by decide +kernel
theorem dX7_rubbish_8 : decode cX7_rubbish 8 = .ok (.invokestatic 59, 3) := by decide +kernel
theorem dX7_rubbish_11 : decode cX7_rubbish 11 = .ok (.ifCond .ne 5, 3) := by decide +kernel
theorem dX7_rubbish_14 : decode cX7_rubbish 14 = .ok (.iconst (-1), 1) := by decide +kernel
theorem dX7_rubbish_15 : decode cX7_rubbish 15 = .ok (.ireturn, 1) := by decide +kernel
theorem dX7_rubbish_16 : decode cX7_rubbish 16 = .ok (.aload_n 0, 1) := by decide +kernel
theorem dX7_rubbish_17 : decode cX7_rubbish 17 = .ok (.invokevirtual 232, 3) := by decide +kernel
theorem dX7_rubbish_20 : decode cX7_rubbish 20 = .ok (.iconst 0, 1) := by decide +kernel
theorem dX7_rubbish_21 : decode cX7_rubbish 21 = .ok (.istore_n 2, 1) := by decide +kernel
theorem dX7_rubbish_22 : decode cX7_rubbish 22 = .ok (.iconst 0, 1) := by decide +kernel
theorem dX7_rubbish_23 : decode cX7_rubbish 23 = .ok (.istore_n 3, 1) := by decide +kernel
theorem dX7_rubbish_24 : decode cX7_rubbish 24 = .ok (.iload_n 3, 1) := by decide +kernel
theorem dX7_rubbish_25 : decode cX7_rubbish 25 = .ok (.bipush 32, 2) := by decide +kernel
theorem dX7_rubbish_27 : decode cX7_rubbish 27 = .ok (.if_icmp .ge 43, 3) := by decide +kernel
theorem dX7_rubbish_30 : decode cX7_rubbish 30 = .ok (.aload_n 0, 1) := by decide +kernel
theorem dX7_rubbish_31 : decode cX7_rubbish 31 = .ok (.iload_n 3, 1) := by decide +kernel
theorem dX7_rubbish_32 : decode cX7_rubbish 32 = .ok (.invokevirtual 81, 3) := by decide +kernel
theorem dX7_rubbish_35 : decode cX7_rubbish 35 = .ok (.ifCond .eq 29, 3) := by decide +kernel
theorem dX7_rubbish_38 : decode cX7_rubbish 38 = .ok (.aload_n 0, 1) := by decide +kernel
theorem dX7_rubbish_39 : decode cX7_rubbish 39 = .ok (.getfield 48, 3) := by decide +kernel
theorem dX7_rubbish_42 : decode cX7_rubbish 42 = .ok (.iload_n 3, 1) := by decide +kernel
theorem dX7_rubbish_43 : decode cX7_rubbish 43 = .ok (.iaload, 1) := by decide +kernel
theorem dX7_rubbish_44 : decode cX7_rubbish 44 = .ok (.ifCond .ne 20, 3) := by decide +kernel
theorem dX7_rubbish_47 : decode cX7_rubbish 47 = .ok (.iload_n 2, 1) := by decide +kernel
theorem dX7_rubbish_48 : decode cX7_rubbish 48 = .ok (.iload_n 1, 1) := by decide +kernel
theorem dX7_rubbish_49 : decode cX7_rubbish 49 = .ok (.ifCond .ne 7, 3) := by decide +kernel
theorem dX7_rubbish_52 : decode cX7_rubbish 52 = .ok (.iconst 1, 1) := by decide +kernel
theorem dX7_rubbish_53 : decode cX7_rubbish 53 = .ok (.goto 9, 3) := by decide +kernel
theorem dX7_rubbish_56 : decode cX7_rubbish 56 = .ok (.aload_n 0, 1) := by decide +kernel
theorem dX7_rubbish_57 : decode cX7_rubbish 57 = .ok (.iload_n 3, 1) := by decide +kernel
theorem dX7_rubbish_58 : decode cX7_rubbish 58 = .ok (.iconst 0, 1) := by decide +kernel
theorem dX7_rubbish_59 : decode cX7_rubbish 59 = .ok (.invokevirtual 63, 3) := by decide +kernel
theorem dX7_rubbish_62 : decode cX7_rubbish 62 = .ok (.iadd, 1) := by decide +kernel
theorem dX7_rubbish_63 : decode cX7_rubbish 63 = .ok (.istore_n 2, 1) := by decide +kernel
theorem dX7_rubbish_64 : decode cX7_rubbish 64 = .ok (.iinc 3 1, 3) := by decide +kernel
theorem dX7_rubbish_67 : decode cX7_rubbish 67 = .ok (.goto (-43), 3) := by decide +kernel
theorem dX7_rubbish_70 : decode cX7_rubbish 70 = .ok (.iload_n 2, 1) := by decide +kernel
theorem dX7_rubbish_71 : decode cX7_rubbish 71 = .ok (.ireturn, 1) := by decide +kernel
set_option maxRecDepth 20000 in
theorem ggX7_isFieldOf_X7_ofThing : GoodIn wsX7_isFieldOf wsX7_ofThing := goodIn_r _ [5, 6, 7, 8, 9, 10, 11, 12, 13, 14, 15, 16, 17, 18, 19, 20, 21, 22, 23, 24, 25, 26, 27, 28, 29, 30, 31, 32] (by decide +kernel) (by decide +kernel)
set_option maxRecDepth 20000 in
theorem gX7_isFieldOf_X7_ofThing : GoodIn wsX7_isFieldOf (wsV RX7 63 RX7 yX7_ofThing wsX7_ofThing) := goodIn_app (goodIn_of _ (by decide +kernel)) ggX7_isFieldOf_X7_ofThing
theorem dX7_isFieldOf_0 : decode cX7_isFieldOf 0 = .ok (.aload_n 0, 1) := by decide +kernel
theorem dX7_isFieldOf_1 : decode cX7_isFieldOf 1 = .ok (.iload_n 1, 1) := by decide +kernel
theorem dX7_isFieldOf_2 : decode cX7_isFieldOf 2 = .ok (.iconst 3, 1) := by decide +kernel
theorem dX7_isFieldOf_3 : decode cX7_isFieldOf 3 = .ok (.invokevirtual 63, 3) := by decide +kernel
theorem dX7_isFieldOf_6 : decode cX7_isFieldOf 6 = .ok (.iload_n 2, 1) := by decide +kernel
theorem dX7_isFieldOf_7 : decode cX7_isFieldOf 7 = .ok (.if_icmp .eq 13, 3) := by decide +kernel
theorem dX7_isFieldOf_10 : decode cX7_isFieldOf 10 = .ok (.aload_n 0, 1) := by decide +kernel
theorem dX7_isFieldOf_11 : decode cX7_isFieldOf 11 = .ok (.iload_n 1, 1) := by decide +kernel
theorem dX7_isFieldOf_12 : decode cX7_isFieldOf 12 = .ok (.iconst 4, 1) := by decide +kernel
theorem dX7_isFieldOf_13 : decode cX7_isFieldOf 13 = .ok (.invokevirtual 63, 3) := by decide +kernel
theorem dX7_isFieldOf_16 : decode cX7_isFieldOf 16 = .ok (.iload_n 2, 1) := by decide +kernel
theorem dX7_isFieldOf_17 : decode cX7_isFieldOf 17 = .ok (.if_icmp .ne 7, 3) := by decide +kernel
theorem dX7_isFieldOf_20 : decode cX7_isFieldOf 20 = .ok (.iconst 1, 1) := by decide +kernel
theorem dX7_isFieldOf_21 : decode cX7_isFieldOf 21 = .ok (.goto 4, 3) := by decide +kernel
theorem dX7_isFieldOf_24 : decode cX7_isFieldOf 24 = .ok (.iconst 0, 1) := by decide +kernel
theorem dX7_isFieldOf_25 : decode cX7_isFieldOf 25 = .ok (.ireturn, 1) := by decide +kernel
set_option maxRecDepth 20000 in
theorem ggX7_laysLeads_X7_isFieldOf : GoodIn wsX7_laysLeads wsX7_isFieldOf := goodIn_r _ [7, 8, 9, 10, 6, 11, 12, 13, 14, 15, 16, 17, 18, 19, 20, 21, 22, 23, 24, 25, 26, 27, 28, 29, 30, 31, 32, 33, 34, 35, 36, 37, 38] (by decide +kernel) (by decide +kernel)
set_option maxRecDepth 20000 in
theorem gX7_laysLeads_X7_isFieldOf : GoodIn wsX7_laysLeads (wsV RX7 235 RX7 yX7_isFieldOf wsX7_isFieldOf) := goodIn_app (goodIn_of _ (by decide +kernel)) ggX7_laysLeads_X7_isFieldOf
theorem dX7_laysLeads_0 : decode cX7_laysLeads 0 = .ok (.iconst 0, 1) := by decide +kernel
theorem dX7_laysLeads_1 : decode cX7_laysLeads 1 = .ok (.istore_n 2, 1) := by decide +kernel
theorem dX7_laysLeads_2 : decode cX7_laysLeads 2 = .ok (.iload_n 2, 1) := by decide +kernel
theorem dX7_laysLeads_3 : decode cX7_laysLeads 3 = .ok (.bipush 32, 2) := by decide +kernel
theorem dX7_laysLeads_5 : decode cX7_laysLeads 5 = .ok (.if_icmp .ge 25, 3) := by decide +kernel
theorem dX7_laysLeads_8 : decode cX7_laysLeads 8 = .ok (.aload_n 0, 1) := by decide +kernel
theorem dX7_laysLeads_9 : decode cX7_laysLeads 9 = .ok (.getfield 51, 3) := by decide +kernel
theorem dX7_laysLeads_12 : decode cX7_laysLeads 12 = .ok (.iload_n 2, 1) := by decide +kernel
theorem dX7_laysLeads_13 : decode cX7_laysLeads 13 = .ok (.iload_n 2, 1) := by decide +kernel
theorem dX7_laysLeads_14 : decode cX7_laysLeads 14 = .ok (.iload_n 1, 1) := by decide +kernel
theorem dX7_laysLeads_15 : decode cX7_laysLeads 15 = .ok (.if_icmp .ne 7, 3) := by decide +kernel
theorem dX7_laysLeads_18 : decode cX7_laysLeads 18 = .ok (.iconst 1, 1) := by decide +kernel
theorem dX7_laysLeads_19 : decode cX7_laysLeads 19 = .ok (.goto 4, 3) := by decide +kernel
theorem dX7_laysLeads_22 : decode cX7_laysLeads 22 = .ok (.iconst 0, 1) := by decide +kernel
theorem dX7_laysLeads_23 : decode cX7_laysLeads 23 = .ok (.bastore, 1) := by decide +kernel
theorem dX7_laysLeads_24 : decode cX7_laysLeads 24 = .ok (.iinc 2 1, 3) := by decide +kernel
theorem dX7_laysLeads_27 : decode cX7_laysLeads 27 = .ok (.goto (-25), 3) := by decide +kernel
theorem dX7_laysLeads_30 : decode cX7_laysLeads 30 = .ok (.aload_n 0, 1) := by decide +kernel
theorem dX7_laysLeads_31 : decode cX7_laysLeads 31 = .ok (.getfield 48, 3) := by decide +kernel
theorem dX7_laysLeads_34 : decode cX7_laysLeads 34 = .ok (.iload_n 1, 1) := by decide +kernel
theorem dX7_laysLeads_35 : decode cX7_laysLeads 35 = .ok (.iaload, 1) := by decide +kernel
theorem dX7_laysLeads_36 : decode cX7_laysLeads 36 = .ok (.iconst 1, 1) := by decide +kernel
theorem dX7_laysLeads_37 : decode cX7_laysLeads 37 = .ok (.isub, 1) := by decide +kernel
theorem dX7_laysLeads_38 : decode cX7_laysLeads 38 = .ok (.istore_n 2, 1) := by decide +kernel
theorem dX7_laysLeads_39 : decode cX7_laysLeads 39 = .ok (.iload_n 2, 1) := by decide +kernel
theorem dX7_laysLeads_40 : decode cX7_laysLeads 40 = .ok (.ifCond .le 102, 3) := by decide +kernel
theorem dX7_laysLeads_43 : decode cX7_laysLeads 43 = .ok (.iconst 0, 1) := by decide +kernel
theorem dX7_laysLeads_44 : decode cX7_laysLeads 44 = .ok (.istore_n 3, 1) := by decide +kernel
theorem dX7_laysLeads_45 : decode cX7_laysLeads 45 = .ok (.iload_n 3, 1) := by decide +kernel
theorem dX7_laysLeads_46 : decode cX7_laysLeads 46 = .ok (.bipush 32, 2) := by decide +kernel
theorem dX7_laysLeads_48 : decode cX7_laysLeads 48 = .ok (.if_icmp .ge 88, 3) := by decide +kernel
theorem dX7_laysLeads_51 : decode cX7_laysLeads 51 = .ok (.iconst 0, 1) := by decide +kernel
theorem dX7_laysLeads_52 : decode cX7_laysLeads 52 = .ok (.istore 4, 2) := by decide +kernel
theorem dX7_laysLeads_54 : decode cX7_laysLeads 54 = .ok (.iload 4, 2) := by decide +kernel
theorem dX7_laysLeads_56 : decode cX7_laysLeads 56 = .ok (.bipush 32, 2) := by decide +kernel
theorem dX7_laysLeads_58 : decode cX7_laysLeads 58 = .ok (.if_icmp .ge 72, 3) := by decide +kernel
theorem dX7_laysLeads_61 : decode cX7_laysLeads 61 = .ok (.aload_n 0, 1) := by decide +kernel
theorem dX7_laysLeads_62 : decode cX7_laysLeads 62 = .ok (.getfield 48, 3) := by decide +kernel
theorem dX7_laysLeads_65 : decode cX7_laysLeads 65 = .ok (.iload_n 3, 1) := by decide +kernel
theorem dX7_laysLeads_66 : decode cX7_laysLeads 66 = .ok (.iaload, 1) := by decide +kernel
theorem dX7_laysLeads_67 : decode cX7_laysLeads 67 = .ok (.iload_n 2, 1) := by decide +kernel
theorem dX7_laysLeads_68 : decode cX7_laysLeads 68 = .ok (.if_icmp .ne 62, 3) := by decide +kernel
theorem dX7_laysLeads_71 : decode cX7_laysLeads 71 = .ok (.aload_n 0, 1) := by decide +kernel
theorem dX7_laysLeads_72 : decode cX7_laysLeads 72 = .ok (.getfield 51, 3) := by decide +kernel
theorem dX7_laysLeads_75 : decode cX7_laysLeads 75 = .ok (.iload_n 3, 1) := by decide +kernel
theorem dX7_laysLeads_76 : decode cX7_laysLeads 76 = .ok (.aload_n 0, 1) := by decide +kernel
theorem dX7_laysLeads_77 : decode cX7_laysLeads 77 = .ok (.getfield 51, 3) := by decide +kernel
theorem dX7_laysLeads_80 : decode cX7_laysLeads 80 = .ok (.iload_n 3, 1) := by decide +kernel
theorem dX7_laysLeads_81 : decode cX7_laysLeads 81 = .ok (.baload, 1) := by decide +kernel
theorem dX7_laysLeads_82 : decode cX7_laysLeads 82 = .ok (.ifCond .ne 36, 3) := by decide +kernel
theorem dX7_laysLeads_85 : decode cX7_laysLeads 85 = .ok (.aload_n 0, 1) := by decide +kernel
theorem dX7_laysLeads_86 : decode cX7_laysLeads 86 = .ok (.getfield 51, 3) := by decide +kernel
theorem dX7_laysLeads_89 : decode cX7_laysLeads 89 = .ok (.iload 4, 2) := by decide +kernel
theorem dX7_laysLeads_91 : decode cX7_laysLeads 91 = .ok (.baload, 1) := by decide +kernel
theorem dX7_laysLeads_92 : decode cX7_laysLeads 92 = .ok (.ifCond .eq 30, 3) := by decide +kernel
theorem dX7_laysLeads_95 : decode cX7_laysLeads 95 = .ok (.aload_n 0, 1) := by decide +kernel
theorem dX7_laysLeads_96 : decode cX7_laysLeads 96 = .ok (.getfield 48, 3) := by decide +kernel
theorem dX7_laysLeads_99 : decode cX7_laysLeads 99 = .ok (.iload 4, 2) := by decide +kernel
theorem dX7_laysLeads_101 : decode cX7_laysLeads 101 = .ok (.iaload, 1) := by decide +kernel
theorem dX7_laysLeads_102 : decode cX7_laysLeads 102 = .ok (.iload_n 2, 1) := by decide +kernel
theorem dX7_laysLeads_103 : decode cX7_laysLeads 103 = .ok (.iconst 1, 1) := by decide +kernel
theorem dX7_laysLeads_104 : decode cX7_laysLeads 104 = .ok (.iadd, 1) := by decide +kernel
theorem dX7_laysLeads_105 : decode cX7_laysLeads 105 = .ok (.if_icmp .ne 17, 3) := by decide +kernel
theorem dX7_laysLeads_108 : decode cX7_laysLeads 108 = .ok (.aload_n 0, 1) := by decide +kernel
theorem dX7_laysLeads_109 : decode cX7_laysLeads 109 = .ok (.iload_n 3, 1) := by decide +kernel
theorem dX7_laysLeads_110 : decode cX7_laysLeads 110 = .ok (.iload 4, 2) := by decide +kernel
theorem dX7_laysLeads_112 : decode cX7_laysLeads 112 = .ok (.invokevirtual 235, 3) := by decide +kernel
theorem dX7_laysLeads_115 : decode cX7_laysLeads 115 = .ok (.ifCond .eq 7, 3) := by decide +kernel
theorem dX7_laysLeads_118 : decode cX7_laysLeads 118 = .ok (.iconst 1, 1) := by decide +kernel
theorem dX7_laysLeads_119 : decode cX7_laysLeads 119 = .ok (.goto 4, 3) := by decide +kernel
theorem dX7_laysLeads_122 : decode cX7_laysLeads 122 = .ok (.iconst 0, 1) := by decide +kernel
theorem dX7_laysLeads_123 : decode cX7_laysLeads 123 = .ok (.bastore, 1) := by decide +kernel
theorem dX7_laysLeads_124 : decode cX7_laysLeads 124 = .ok (.iinc 4 1, 3) := by decide +kernel
theorem dX7_laysLeads_127 : decode cX7_laysLeads 127 = .ok (.goto (-73), 3) := by decide +kernel
theorem dX7_laysLeads_130 : decode cX7_laysLeads 130 = .ok (.iinc 3 1, 3) := by decide +kernel
theorem dX7_laysLeads_133 : decode cX7_laysLeads 133 = .ok (.goto (-88), 3) := by decide +kernel
theorem dX7_laysLeads_136 : decode cX7_laysLeads 136 = .ok (.iinc 2 (-1), 3) := by decide +kernel
theorem dX7_laysLeads_139 : decode cX7_laysLeads 139 = .ok (.goto (-100), 3) := by decide +kernel
theorem dX7_laysLeads_142 : decode cX7_laysLeads 142 = .ok (.return_, 1) := by decide +kernel
set_option maxRecDepth 20000 in
theorem ggX7_way_X7_isThing : GoodIn wsX7_way wsX7_isThing := goodIn_r _ [8, 9, 10, 11, 7, 12, 33, 34, 35, 36, 37, 38, 39, 40, 41, 42, 43, 44, 45, 46, 47, 48, 49, 50, 51, 52, 53, 54, 55, 56, 57, 58] (by decide +kernel) (by decide +kernel)
set_option maxRecDepth 20000 in
theorem gX7_way_X7_isThing : GoodIn wsX7_way (wsV RX7 81 RX7 yX7_isThing wsX7_isThing) := goodIn_app (goodIn_of _ (by decide +kernel)) ggX7_way_X7_isThing
set_option maxRecDepth 20000 in
theorem ggX7_way_X7_laysFar : GoodIn wsX7_way wsX7_laysFar := goodIn_r _ [16, 2, 9, 17, 18, 19, 7, 20, 21, 22, 23, 24, 33, 34, 35, 36, 37, 38, 39, 40, 41, 42, 43, 44, 45, 46, 47, 48, 49, 50, 51, 52, 53, 54, 55, 56, 57, 58] (by decide +kernel) (by decide +kernel)
set_option maxRecDepth 20000 in
theorem gX7_way_X7_laysFar : GoodIn wsX7_way (wsV RX7 232 RX7 yX7_laysFar wsX7_laysFar) := goodIn_app (goodIn_of _ (by decide +kernel)) ggX7_way_X7_laysFar
set_option maxRecDepth 20000 in
theorem ggX7_way_X7_laysLeads : GoodIn wsX7_way wsX7_laysLeads := goodIn_r _ [28, 3, 2, 29, 30, 31, 7, 32, 21, 22, 23, 24, 9, 33, 34, 35, 36, 37, 38, 39, 40, 41, 42, 43, 44, 45, 46, 47, 48, 49, 50, 51, 52, 53, 54, 55, 56, 57, 58] (by decide +kernel) (by decide +kernel)
set_option maxRecDepth 20000 in
theorem gX7_way_X7_laysLeads : GoodIn wsX7_way (wsV RX7 239 RX7 yX7_laysLeads wsX7_laysLeads) := goodIn_app (goodIn_of _ (by decide +kernel)) ggX7_way_X7_laysLeads
set_option maxRecDepth 20000 in
theorem ggX7_way_X7_isFieldOf : GoodIn wsX7_way wsX7_isFieldOf := goodIn_r _ [32, 21, 22, 23, 7, 24, 9, 33, 34, 35, 36, 37, 38, 39, 40, 41, 42, 43, 44, 45, 46, 47, 48, 49, 50, 51, 52, 53, 54, 55, 56, 57, 58] (by decide +kernel) (by decide +kernel)
set_option maxRecDepth 20000 in
theorem gX7_way_X7_isFieldOf : GoodIn wsX7_way (wsV RX7 235 RX7 yX7_isFieldOf wsX7_isFieldOf) := goodIn_app (goodIn_of _ (by decide +kernel)) ggX7_way_X7_isFieldOf
theorem dX7_way_0 : decode cX7_way 0 = .ok (.aload_n 0, 1) := by decide +kernel
theorem dX7_way_1 : decode cX7_way 1 = .ok (.iconst 0, 1) := by decide +kernel
theorem dX7_way_2 : decode cX7_way 2 = .ok (.putfield 55, 3) := by decide +kernel
theorem dX7_way_5 : decode cX7_way 5 = .ok (.aload_n 0, 1) := by decide +kernel
theorem dX7_way_6 : decode cX7_way 6 = .ok (.iload_n 1, 1) := by decide +kernel
theorem dX7_way_7 : decode cX7_way 7 = .ok (.invokevirtual 81, 3) := by decide +kernel
theorem dX7_way_10 : decode cX7_way 10 = .ok (.ifCond .eq 8, 3) := by decide +kernel
theorem dX7_way_13 : decode cX7_way 13 = .ok (.iload_n 2, 1) := by decide +kernel
theorem dX7_way_14 : decode cX7_way 14 = .ok (.iconst (-1), 1) := by decide +kernel
theorem dX7_way_15 : decode cX7_way 15 = .ok (.if_icmp .ge 5, 3) := by decide +kernel
theorem dX7_way_18 : decode cX7_way 18 = .ok (.iconst (-1), 1) := by decide +kernel
theorem dX7_way_19 : decode cX7_way 19 = .ok (.ireturn, 1) := by decide +kernel
theorem dX7_way_20 : decode cX7_way 20 = .ok (.aload_n 0, 1) := by decide +kernel
theorem dX7_way_21 : decode cX7_way 21 = .ok (.invokevirtual 232, 3) := by decide +kernel
theorem dX7_way_24 : decode cX7_way 24 = .ok (.aload_n 0, 1) := by decide +kernel
theorem dX7_way_25 : decode cX7_way 25 = .ok (.getfield 48, 3) := by decide +kernel
theorem dX7_way_28 : decode cX7_way 28 = .ok (.iload_n 1, 1) := by decide +kernel
theorem dX7_way_29 : decode cX7_way 29 = .ok (.iaload, 1) := by decide +kernel
theorem dX7_way_30 : decode cX7_way 30 = .ok (.ifCond .eq 13, 3) := by decide +kernel
theorem dX7_way_33 : decode cX7_way 33 = .ok (.iload_n 2, 1) := by decide +kernel
theorem dX7_way_34 : decode cX7_way 34 = .ok (.aload_n 0, 1) := by decide +kernel
theorem dX7_way_35 : decode cX7_way 35 = .ok (.getfield 48, 3) := by decide +kernel
theorem dX7_way_38 : decode cX7_way 38 = .ok (.iload_n 1, 1) := by decide +kernel
theorem dX7_way_39 : decode cX7_way 39 = .ok (.iaload, 1) := by decide +kernel
theorem dX7_way_40 : decode cX7_way 40 = .ok (.if_icmp .lt 6, 3) := by decide +kernel
theorem dX7_way_43 : decode cX7_way 43 = .ok (.bipush (-9), 2) := by decide +kernel
theorem dX7_way_45 : decode cX7_way 45 = .ok (.ireturn, 1) := by decide +kernel
theorem dX7_way_46 : decode cX7_way 46 = .ok (.iload_n 2, 1) := by decide +kernel
theorem dX7_way_47 : decode cX7_way 47 = .ok (.ifCond .ge 10, 3) := by decide +kernel
theorem dX7_way_50 : decode cX7_way 50 = .ok (.aload_n 0, 1) := by decide +kernel
theorem dX7_way_51 : decode cX7_way 51 = .ok (.getfield 48, 3) := by decide +kernel
theorem dX7_way_54 : decode cX7_way 54 = .ok (.iload_n 1, 1) := by decide +kernel
theorem dX7_way_55 : decode cX7_way 55 = .ok (.iaload, 1) := by decide +kernel
theorem dX7_way_56 : decode cX7_way 56 = .ok (.ireturn, 1) := by decide +kernel
theorem dX7_way_57 : decode cX7_way 57 = .ok (.aload_n 0, 1) := by decide +kernel
theorem dX7_way_58 : decode cX7_way 58 = .ok (.iload_n 1, 1) := by decide +kernel
theorem dX7_way_59 : decode cX7_way 59 = .ok (.invokevirtual 239, 3) := by decide +kernel
theorem dX7_way_62 : decode cX7_way 62 = .ok (.bipush (-9), 2) := by decide +kernel
theorem dX7_way_64 : decode cX7_way 64 = .ok (.istore_n 3, 1) := by decide +kernel
theorem dX7_way_65 : decode cX7_way 65 = .ok (.iconst 1, 1) := by decide +kernel
theorem dX7_way_66 : decode cX7_way 66 = .ok (.istore 4, 2) := by decide +kernel
theorem dX7_way_68 : decode cX7_way 68 = .ok (.iload 4, 2) := by decide +kernel
theorem dX7_way_70 : decode cX7_way 70 = .ok (.iload_n 2, 1) := by decide +kernel
theorem dX7_way_71 : decode cX7_way 71 = .ok (.iconst 1, 1) := by decide +kernel
theorem dX7_way_72 : decode cX7_way 72 = .ok (.iadd, 1) := by decide +kernel
theorem dX7_way_73 : decode cX7_way 73 = .ok (.if_icmp .gt 59, 3) := by decide +kernel
theorem dX7_way_76 : decode cX7_way 76 = .ok (.iconst 0, 1) := by decide +kernel
theorem dX7_way_77 : decode cX7_way 77 = .ok (.istore 5, 2) := by decide +kernel
theorem dX7_way_79 : decode cX7_way 79 = .ok (.aload_n 0, 1) := by decide +kernel
theorem dX7_way_80 : decode cX7_way 80 = .ok (.getfield 48, 3) := by decide +kernel
theorem dX7_way_83 : decode cX7_way 83 = .ok (.iload 5, 2) := by decide +kernel
theorem dX7_way_85 : decode cX7_way 85 = .ok (.iaload, 1) := by decide +kernel
theorem dX7_way_86 : decode cX7_way 86 = .ok (.iload 4, 2) := by decide +kernel
theorem dX7_way_88 : decode cX7_way 88 = .ok (.if_icmp .ne 29, 3) := by decide +kernel
theorem dX7_way_91 : decode cX7_way 91 = .ok (.aload_n 0, 1) := by decide +kernel
theorem dX7_way_92 : decode cX7_way 92 = .ok (.getfield 51, 3) := by decide +kernel
theorem dX7_way_95 : decode cX7_way 95 = .ok (.iload 5, 2) := by decide +kernel
theorem dX7_way_97 : decode cX7_way 97 = .ok (.baload, 1) := by decide +kernel
theorem dX7_way_98 : decode cX7_way 98 = .ok (.ifCond .eq 19, 3) := by decide +kernel
theorem dX7_way_101 : decode cX7_way 101 = .ok (.iload 4, 2) := by decide +kernel
theorem dX7_way_103 : decode cX7_way 103 = .ok (.iconst 1, 1) := by decide +kernel
theorem dX7_way_104 : decode cX7_way 104 = .ok (.if_icmp .le 19, 3) := by decide +kernel
theorem dX7_way_107 : decode cX7_way 107 = .ok (.aload_n 0, 1) := by decide +kernel
theorem dX7_way_108 : decode cX7_way 108 = .ok (.iload_n 3, 1) := by decide +kernel
theorem dX7_way_109 : decode cX7_way 109 = .ok (.iload 5, 2) := by decide +kernel
theorem dX7_way_111 : decode cX7_way 111 = .ok (.invokevirtual 235, 3) := by decide +kernel
theorem dX7_way_114 : decode cX7_way 114 = .ok (.ifCond .ne 9, 3) := by decide +kernel
theorem dX7_way_117 : decode cX7_way 117 = .ok (.iinc 5 1, 3) := by decide +kernel
theorem dX7_way_120 : decode cX7_way 120 = .ok (.goto (-41), 3) := by decide +kernel
theorem dX7_way_123 : decode cX7_way 123 = .ok (.iload 5, 2) := by decide +kernel
theorem dX7_way_125 : decode cX7_way 125 = .ok (.istore_n 3, 1) := by decide +kernel
theorem dX7_way_126 : decode cX7_way 126 = .ok (.iinc 4 1, 3) := by decide +kernel
theorem dX7_way_129 : decode cX7_way 129 = .ok (.goto (-61), 3) := by decide +kernel
theorem dX7_way_132 : decode cX7_way 132 = .ok (.iload_n 3, 1) := by decide +kernel
theorem dX7_way_133 : decode cX7_way 133 = .ok (.ireturn, 1) := by decide +kernel
set_option maxRecDepth 20000 in
theorem ggX7_things_X7_isThing : GoodIn wsX7_things wsX7_isThing := goodIn_r _ [5, 6, 7, 8, 4, 9, 10, 11, 12, 13, 14, 15, 16, 17, 18, 19, 20, 21, 22, 23, 24, 25, 26, 27, 28, 29, 30, 31, 32, 33, 34, 35] (by decide +kernel) (by decide +kernel)
set_option maxRecDepth 20000 in
theorem gX7_things_X7_isThing : GoodIn wsX7_things (wsV RX7 81 RX7 yX7_isThing wsX7_isThing) := goodIn_app (goodIn_of _ (by decide +kernel)) ggX7_things_X7_isThing
theorem dX7_things_0 : decode cX7_things 0 = .ok (.iconst 0, 1) := by decide +kernel
theorem dX7_things_1 : decode cX7_things 1 = .ok (.istore_n 1, 1) := by decide +kernel
theorem dX7_things_2 : decode cX7_things 2 = .ok (.iconst 0, 1) := by decide +kernel
theorem dX7_things_3 : decode cX7_things 3 = .ok (.istore_n 2, 1) := by decide +kernel
theorem dX7_things_4 : decode cX7_things 4 = .ok (.iload_n 2, 1) := by decide +kernel
theorem dX7_things_5 : decode cX7_things 5 = .ok (.bipush 32, 2) := by decide +kernel
theorem dX7_things_7 : decode cX7_things 7 = .ok (.if_icmp .ge 25, 3) := by decide +kernel
theorem dX7_things_10 : decode cX7_things 10 = .ok (.iload_n 1, 1) := by decide +kernel
theorem dX7_things_11 : decode cX7_things 11 = .ok (.aload_n 0, 1) := by decide +kernel
theorem dX7_things_12 : decode cX7_things 12 = .ok (.iload_n 2, 1) := by decide +kernel
theorem dX7_things_13 : decode cX7_things 13 = .ok (.invokevirtual 81, 3) := by decide +kernel
theorem dX7_things_16 : decode cX7_things 16 = .ok (.ifCond .eq 7, 3) := by decide +kernel
theorem dX7_things_19 : decode cX7_things 19 = .ok (.iconst 1, 1) := by decide +kernel
theorem dX7_things_20 : decode cX7_things 20 = .ok (.goto 4, 3) := by decide +kernel
theorem dX7_things_23 : decode cX7_things 23 = .ok (.iconst 0, 1) := by decide +kernel
theorem dX7_things_24 : decode cX7_things 24 = .ok (.iadd, 1) := by decide +kernel
theorem dX7_things_25 : decode cX7_things 25 = .ok (.istore_n 1, 1) := by decide +kernel
theorem dX7_things_26 : decode cX7_things 26 = .ok (.iinc 2 1, 3) := by decide +kernel
theorem dX7_things_29 : decode cX7_things 29 = .ok (.goto (-25), 3) := by decide +kernel
theorem dX7_things_32 : decode cX7_things 32 = .ok (.iload_n 1, 1) := by decide +kernel
theorem dX7_things_33 : decode cX7_things 33 = .ok (.ireturn, 1) := by decide +kernel
set_option maxRecDepth 20000 in
theorem ggX7_keep_X7_in : GoodIn wsX7_keep wsX7_in := goodIn_r _ [10] (by decide +kernel) (by decide +kernel)
set_option maxRecDepth 20000 in
theorem gX7_keep_X7_in : GoodIn wsX7_keep (va_wsS RX7 59 yX7_in wsX7_in) := goodIn_app (goodIn_of _ (by decide +kernel)) ggX7_keep_X7_in
set_option maxRecDepth 20000 in
theorem ggX7_keep_X7_things : GoodIn wsX7_keep wsX7_things := goodIn_r _ [14, 15, 16, 17, 9, 18, 3, 7, 8, 10, 19, 20, 21, 22, 23, 24, 25, 26, 27, 28, 29, 30, 31, 32, 33, 34, 35, 36, 37, 38, 39, 40, 41, 42, 43, 44] (by decide +kernel) (by decide +kernel)
set_option maxRecDepth 20000 in
theorem gX7_keep_X7_things : GoodIn wsX7_keep (wsV RX7 242 RX7 yX7_things wsX7_things) := goodIn_app (goodIn_of _ (by decide +kernel)) ggX7_keep_X7_things
theorem dX7_keep_0 : decode cX7_keep 0 = .ok (.aload_n 0, 1) := by decide +kernel
theorem dX7_keep_1 : decode cX7_keep 1 = .ok (.iconst 0, 1) := by decide +kernel
theorem dX7_keep_2 : decode cX7_keep 2 = .ok (.putfield 55, 3) := by decide +kernel
theorem dX7_keep_5 : decode cX7_keep 5 = .ok (.iload_n 1, 1) := by decide +kernel
theorem dX7_keep_6 : decode cX7_keep 6 = .ok (.iconst 0, 1) := by decide +kernel
theorem dX7_keep_7 : decode cX7_keep 7 = .ok (.iconst 1, 1) := by decide +kernel
theorem dX7_keep_8 : decode cX7_keep 8 = .ok (.invokestatic 59, 3) := by decide +kernel
theorem dX7_keep_11 : decode cX7_keep 11 = .ok (.ifCond .ne 5, 3) := by decide +kernel
theorem dX7_keep_14 : decode cX7_keep 14 = .ok (.iconst (-1), 1) := by decide +kernel
theorem dX7_keep_15 : decode cX7_keep 15 = .ok (.ireturn, 1) := by decide +kernel
theorem dX7_keep_16 : decode cX7_keep 16 = .ok (.iconst 0, 1) := by decide +kernel
theorem dX7_keep_17 : decode cX7_keep 17 = .ok (.istore_n 2, 1) := by decide +kernel
theorem dX7_keep_18 : decode cX7_keep 18 = .ok (.iload_n 2, 1) := by decide +kernel
theorem dX7_keep_19 : decode cX7_keep 19 = .ok (.sipush 296, 3) := by decide +kernel
theorem dX7_keep_22 : decode cX7_keep 22 = .ok (.if_icmp .ge 27, 3) := by decide +kernel
theorem dX7_keep_25 : decode cX7_keep 25 = .ok (.aload_n 0, 1) := by decide +kernel
theorem dX7_keep_26 : decode cX7_keep 26 = .ok (.getfield 23, 3) := by decide +kernel
theorem dX7_keep_29 : decode cX7_keep 29 = .ok (.sipush 296, 3) := by decide +kernel
theorem dX7_keep_32 : decode cX7_keep 32 = .ok (.iload_n 1, 1) := by decide +kernel
theorem dX7_keep_33 : decode cX7_keep 33 = .ok (.imul, 1) := by decide +kernel
theorem dX7_keep_34 : decode cX7_keep 34 = .ok (.iload_n 2, 1) := by decide +kernel
theorem dX7_keep_35 : decode cX7_keep 35 = .ok (.iadd, 1) := by decide +kernel
theorem dX7_keep_36 : decode cX7_keep 36 = .ok (.aload_n 0, 1) := by decide +kernel
theorem dX7_keep_37 : decode cX7_keep 37 = .ok (.getfield 7, 3) := by decide +kernel
theorem dX7_keep_40 : decode cX7_keep 40 = .ok (.iload_n 2, 1) := by decide +kernel
theorem dX7_keep_41 : decode cX7_keep 41 = .ok (.iaload, 1) := by decide +kernel
theorem dX7_keep_42 : decode cX7_keep 42 = .ok (.iastore, 1) := by decide +kernel
theorem dX7_keep_43 : decode cX7_keep 43 = .ok (.iinc 2 1, 3) := by decide +kernel
theorem dX7_keep_46 : decode cX7_keep 46 = .ok (.goto (-28), 3) := by decide +kernel
theorem dX7_keep_49 : decode cX7_keep 49 = .ok (.aload_n 0, 1) := by decide +kernel
theorem dX7_keep_50 : decode cX7_keep 50 = .ok (.getfield 26, 3) := by decide +kernel
theorem dX7_keep_53 : decode cX7_keep 53 = .ok (.iconst 2, 1) := by decide +kernel
theorem dX7_keep_54 : decode cX7_keep 54 = .ok (.iload_n 1, 1) := by decide +kernel
theorem dX7_keep_55 : decode cX7_keep 55 = .ok (.imul, 1) := by decide +kernel
theorem dX7_keep_56 : decode cX7_keep 56 = .ok (.aload_n 0, 1) := by decide +kernel
theorem dX7_keep_57 : decode cX7_keep 57 = .ok (.getfield 13, 3) := by decide +kernel
theorem dX7_keep_60 : decode cX7_keep 60 = .ok (.iconst 0, 1) := by decide +kernel
theorem dX7_keep_61 : decode cX7_keep 61 = .ok (.faload, 1) := by decide +kernel
theorem dX7_keep_62 : decode cX7_keep 62 = .ok (.fastore, 1) := by decide +kernel
theorem dX7_keep_63 : decode cX7_keep 63 = .ok (.aload_n 0, 1) := by decide +kernel
theorem dX7_keep_64 : decode cX7_keep 64 = .ok (.getfield 26, 3) := by decide +kernel
theorem dX7_keep_67 : decode cX7_keep 67 = .ok (.iconst 2, 1) := by decide +kernel
theorem dX7_keep_68 : decode cX7_keep 68 = .ok (.iload_n 1, 1) := by decide +kernel
theorem dX7_keep_69 : decode cX7_keep 69 = .ok (.imul, 1) := by decide +kernel
theorem dX7_keep_70 : decode cX7_keep 70 = .ok (.iconst 1, 1) := by decide +kernel
theorem dX7_keep_71 : decode cX7_keep 71 = .ok (.iadd, 1) := by decide +kernel
theorem dX7_keep_72 : decode cX7_keep 72 = .ok (.aload_n 0, 1) := by decide +kernel
theorem dX7_keep_73 : decode cX7_keep 73 = .ok (.getfield 13, 3) := by decide +kernel
theorem dX7_keep_76 : decode cX7_keep 76 = .ok (.iconst 1, 1) := by decide +kernel
theorem dX7_keep_77 : decode cX7_keep 77 = .ok (.faload, 1) := by decide +kernel
theorem dX7_keep_78 : decode cX7_keep 78 = .ok (.fastore, 1) := by decide +kernel
theorem dX7_keep_79 : decode cX7_keep 79 = .ok (.aload_n 0, 1) := by decide +kernel
theorem dX7_keep_80 : decode cX7_keep 80 = .ok (.getfield 29, 3) := by decide +kernel
theorem dX7_keep_83 : decode cX7_keep 83 = .ok (.iload_n 1, 1) := by decide +kernel
theorem dX7_keep_84 : decode cX7_keep 84 = .ok (.iconst 1, 1) := by decide +kernel
theorem dX7_keep_85 : decode cX7_keep 85 = .ok (.bastore, 1) := by decide +kernel
theorem dX7_keep_86 : decode cX7_keep 86 = .ok (.aload_n 0, 1) := by decide +kernel
theorem dX7_keep_87 : decode cX7_keep 87 = .ok (.invokevirtual 242, 3) := by decide +kernel
theorem dX7_keep_90 : decode cX7_keep 90 = .ok (.ireturn, 1) := by decide +kernel
set_option maxRecDepth 20000 in
theorem ggX7_back_X7_in : GoodIn wsX7_back wsX7_in := goodIn_r _ [11] (by decide +kernel) (by decide +kernel)
set_option maxRecDepth 20000 in
theorem gX7_back_X7_in : GoodIn wsX7_back (va_wsS RX7 59 yX7_in wsX7_in) := goodIn_app (goodIn_of _ (by decide +kernel)) ggX7_back_X7_in
set_option maxRecDepth 20000 in
theorem ggX7_back_X7_things : GoodIn wsX7_back wsX7_things := goodIn_r _ [15, 16, 17, 18, 10, 19, 3, 8, 9, 11, 20, 21, 22, 23, 24, 25, 26, 27, 28, 29, 30, 31, 32, 33, 34, 35, 36, 37, 38, 39, 40, 41, 42, 43, 44, 45] (by decide +kernel) (by decide +kernel)
set_option maxRecDepth 20000 in
theorem gX7_back_X7_things : GoodIn wsX7_back (wsV RX7 242 RX7 yX7_things wsX7_things) := goodIn_app (goodIn_of _ (by decide +kernel)) ggX7_back_X7_things
theorem dX7_back_0 : decode cX7_back 0 = .ok (.aload_n 0, 1) := by decide +kernel
theorem dX7_back_1 : decode cX7_back 1 = .ok (.iconst 0, 1) := by decide +kernel
theorem dX7_back_2 : decode cX7_back 2 = .ok (.putfield 55, 3) := by decide +kernel
theorem dX7_back_5 : decode cX7_back 5 = .ok (.iload_n 1, 1) := by decide +kernel
theorem dX7_back_6 : decode cX7_back 6 = .ok (.iconst 0, 1) := by decide +kernel
theorem dX7_back_7 : decode cX7_back 7 = .ok (.iconst 1, 1) := by decide +kernel
theorem dX7_back_8 : decode cX7_back 8 = .ok (.invokestatic 59, 3) := by decide +kernel
theorem dX7_back_11 : decode cX7_back 11 = .ok (.ifCond .ne 5, 3) := by decide +kernel
theorem dX7_back_14 : decode cX7_back 14 = .ok (.iconst (-1), 1) := by decide +kernel
theorem dX7_back_15 : decode cX7_back 15 = .ok (.ireturn, 1) := by decide +kernel
theorem dX7_back_16 : decode cX7_back 16 = .ok (.aload_n 0, 1) := by decide +kernel
theorem dX7_back_17 : decode cX7_back 17 = .ok (.getfield 29, 3) := by decide +kernel
theorem dX7_back_20 : decode cX7_back 20 = .ok (.iload_n 1, 1) := by decide +kernel
theorem dX7_back_21 : decode cX7_back 21 = .ok (.baload, 1) := by decide +kernel
theorem dX7_back_22 : decode cX7_back 22 = .ok (.ifCond .ne 6, 3) := by decide +kernel
theorem dX7_back_25 : decode cX7_back 25 = .ok (.bipush (-2), 2) := by decide +kernel
theorem dX7_back_27 : decode cX7_back 27 = .ok (.ireturn, 1) := by decide +kernel
theorem dX7_back_28 : decode cX7_back 28 = .ok (.iconst 0, 1) := by decide +kernel
theorem dX7_back_29 : decode cX7_back 29 = .ok (.istore_n 2, 1) := by decide +kernel
theorem dX7_back_30 : decode cX7_back 30 = .ok (.iload_n 2, 1) := by decide +kernel
theorem dX7_back_31 : decode cX7_back 31 = .ok (.sipush 296, 3) := by decide +kernel
theorem dX7_back_34 : decode cX7_back 34 = .ok (.if_icmp .ge 27, 3) := by decide +kernel
theorem dX7_back_37 : decode cX7_back 37 = .ok (.aload_n 0, 1) := by decide +kernel
theorem dX7_back_38 : decode cX7_back 38 = .ok (.getfield 7, 3) := by decide +kernel
theorem dX7_back_41 : decode cX7_back 41 = .ok (.iload_n 2, 1) := by decide +kernel
theorem dX7_back_42 : decode cX7_back 42 = .ok (.aload_n 0, 1) := by decide +kernel
theorem dX7_back_43 : decode cX7_back 43 = .ok (.getfield 23, 3) := by decide +kernel
theorem dX7_back_46 : decode cX7_back 46 = .ok (.sipush 296, 3) := by decide +kernel
theorem dX7_back_49 : decode cX7_back 49 = .ok (.iload_n 1, 1) := by decide +kernel
theorem dX7_back_50 : decode cX7_back 50 = .ok (.imul, 1) := by decide +kernel
theorem dX7_back_51 : decode cX7_back 51 = .ok (.iload_n 2, 1) := by decide +kernel
theorem dX7_back_52 : decode cX7_back 52 = .ok (.iadd, 1) := by decide +kernel
theorem dX7_back_53 : decode cX7_back 53 = .ok (.iaload, 1) := by decide +kernel
theorem dX7_back_54 : decode cX7_back 54 = .ok (.iastore, 1) := by decide +kernel
