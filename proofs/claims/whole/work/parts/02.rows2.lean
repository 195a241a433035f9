theorem dX6_hasBit_13 : decode cX6_hasBit 13 = .ok (.iconst 0, 1) := by decide +kernel
theorem dX6_hasBit_14 : decode cX6_hasBit 14 = .ok (.ireturn, 1) := by decide +kernel
theorem dX6_cardOf_0 : decode cX6_cardOf 0 = .ok (.iconst 2, 1) := by decide +kernel
theorem dX6_cardOf_1 : decode cX6_cardOf 1 = .ok (.iload_n 0, 1) := by decide +kernel
theorem dX6_cardOf_2 : decode cX6_cardOf 2 = .ok (.imul, 1) := by decide +kernel
theorem dX6_cardOf_3 : decode cX6_cardOf 3 = .ok (.iload_n 1, 1) := by decide +kernel
theorem dX6_cardOf_4 : decode cX6_cardOf 4 = .ok (.iconst 4, 1) := by decide +kernel
theorem dX6_cardOf_5 : decode cX6_cardOf 5 = .ok (.idiv, 1) := by decide +kernel
theorem dX6_cardOf_6 : decode cX6_cardOf 6 = .ok (.iadd, 1) := by decide +kernel
theorem dX6_cardOf_7 : decode cX6_cardOf 7 = .ok (.ireturn, 1) := by decide +kernel
theorem dX6_regionOfCard_0 : decode cX6_regionOfCard 0 = .ok (.iload_n 0, 1) := by decide +kernel
theorem dX6_regionOfCard_1 : decode cX6_regionOfCard 1 = .ok (.iconst 2, 1) := by decide +kernel
theorem dX6_regionOfCard_2 : decode cX6_regionOfCard 2 = .ok (.idiv, 1) := by decide +kernel
theorem dX6_regionOfCard_3 : decode cX6_regionOfCard 3 = .ok (.ireturn, 1) := by decide +kernel
theorem dX6_cardsOf_0 : decode cX6_cardsOf 0 = .ok (.iconst 3, 1) := by decide +kernel
theorem dX6_cardsOf_1 : decode cX6_cardsOf 1 = .ok (.iconst 2, 1) := by decide +kernel
theorem dX6_cardsOf_2 : decode cX6_cardsOf 2 = .ok (.iload_n 0, 1) := by decide +kernel
theorem dX6_cardsOf_3 : decode cX6_cardsOf 3 = .ok (.imul, 1) := by decide +kernel
theorem dX6_cardsOf_4 : decode cX6_cardsOf 4 = .ok (.ishl, 1) := by decide +kernel
theorem dX6_cardsOf_5 : decode cX6_cardsOf 5 = .ok (.ireturn, 1) := by decide +kernel
theorem dX7_init_0 : decode cX7_init 0 = .ok (.aload_n 0, 1) := by decide +kernel
theorem dX7_init_1 : decode cX7_init 1 = .ok (.invokespecial 1, 3) := by decide +kernel
theorem dX7_init_4 : decode cX7_init 4 = .ok (.aload_n 0, 1) := by decide +kernel
theorem dX7_init_5 : decode cX7_init 5 = .ok (.sipush 296, 3) := by decide +kernel
theorem dX7_init_8 : decode cX7_init 8 = .ok (.newarray .int, 2) := by decide +kernel
theorem dX7_init_10 : decode cX7_init 10 = .ok (.putfield 7, 3) := by decide +kernel
theorem dX7_init_13 : decode cX7_init 13 = .ok (.aload_n 0, 1) := by decide +kernel
theorem dX7_init_14 : decode cX7_init 14 = .ok (.iconst 2, 1) := by decide +kernel
theorem dX7_init_15 : decode cX7_init 15 = .ok (.newarray .float, 2) := by decide +kernel
theorem dX7_init_17 : decode cX7_init 17 = .ok (.putfield 13, 3) := by decide +kernel
theorem dX7_init_20 : decode cX7_init 20 = .ok (.aload_n 0, 1) := by decide +kernel
theorem dX7_init_21 : decode cX7_init 21 = .ok (.sipush 1776, 3) := by decide +kernel
theorem dX7_init_24 : decode cX7_init 24 = .ok (.newarray .int, 2) := by decide +kernel
theorem dX7_init_26 : decode cX7_init 26 = .ok (.putfield 17, 3) := by decide +kernel
theorem dX7_init_29 : decode cX7_init 29 = .ok (.aload_n 0, 1) := by decide +kernel
theorem dX7_init_30 : decode cX7_init 30 = .ok (.bipush 12, 2) := by decide +kernel
theorem dX7_init_32 : decode cX7_init 32 = .ok (.newarray .float, 2) := by decide +kernel
theorem dX7_init_34 : decode cX7_init 34 = .ok (.putfield 20, 3) := by decide +kernel
theorem dX7_init_37 : decode cX7_init 37 = .ok (.aload_n 0, 1) := by decide +kernel
theorem dX7_init_38 : decode cX7_init 38 = .ok (.sipush 592, 3) := by decide +kernel
theorem dX7_init_41 : decode cX7_init 41 = .ok (.newarray .int, 2) := by decide +kernel
theorem dX7_init_43 : decode cX7_init 43 = .ok (.putfield 23, 3) := by decide +kernel
theorem dX7_init_46 : decode cX7_init 46 = .ok (.aload_n 0, 1) := by decide +kernel
theorem dX7_init_47 : decode cX7_init 47 = .ok (.iconst 4, 1) := by decide +kernel
theorem dX7_init_48 : decode cX7_init 48 = .ok (.newarray .float, 2) := by decide +kernel
theorem dX7_init_50 : decode cX7_init 50 = .ok (.putfield 26, 3) := by decide +kernel
theorem dX7_init_53 : decode cX7_init 53 = .ok (.aload_n 0, 1) := by decide +kernel
theorem dX7_init_54 : decode cX7_init 54 = .ok (.iconst 2, 1) := by decide +kernel
theorem dX7_init_55 : decode cX7_init 55 = .ok (.newarray .boolean, 2) := by decide +kernel
theorem dX7_init_57 : decode cX7_init 57 = .ok (.putfield 29, 3) := by decide +kernel
theorem dX7_init_60 : decode cX7_init 60 = .ok (.aload_n 0, 1) := by decide +kernel
theorem dX7_init_61 : decode cX7_init 61 = .ok (.sipush 296, 3) := by decide +kernel
theorem dX7_init_64 : decode cX7_init 64 = .ok (.newarray .int, 2) := by decide +kernel
theorem dX7_init_66 : decode cX7_init 66 = .ok (.putfield 33, 3) := by decide +kernel
theorem dX7_init_69 : decode cX7_init 69 = .ok (.aload_n 0, 1) := by decide +kernel
theorem dX7_init_70 : decode cX7_init 70 = .ok (.iconst 2, 1) := by decide +kernel
theorem dX7_init_71 : decode cX7_init 71 = .ok (.newarray .float, 2) := by decide +kernel
theorem dX7_init_73 : decode cX7_init 73 = .ok (.putfield 36, 3) := by decide +kernel
theorem dX7_init_76 : decode cX7_init 76 = .ok (.aload_n 0, 1) := by decide +kernel
theorem dX7_init_77 : decode cX7_init 77 = .ok (.bipush 32, 2) := by decide +kernel
theorem dX7_init_79 : decode cX7_init 79 = .ok (.newarray .int, 2) := by decide +kernel
theorem dX7_init_81 : decode cX7_init 81 = .ok (.putfield 39, 3) := by decide +kernel
theorem dX7_init_84 : decode cX7_init 84 = .ok (.aload_n 0, 1) := by decide +kernel
theorem dX7_init_85 : decode cX7_init 85 = .ok (.bipush 32, 2) := by decide +kernel
theorem dX7_init_87 : decode cX7_init 87 = .ok (.newarray .boolean, 2) := by decide +kernel
theorem dX7_init_89 : decode cX7_init 89 = .ok (.putfield 42, 3) := by decide +kernel
theorem dX7_init_92 : decode cX7_init 92 = .ok (.aload_n 0, 1) := by decide +kernel
theorem dX7_init_93 : decode cX7_init 93 = .ok (.bipush 32, 2) := by decide +kernel
theorem dX7_init_95 : decode cX7_init 95 = .ok (.newarray .int, 2) := by decide +kernel
theorem dX7_init_97 : decode cX7_init 97 = .ok (.putfield 45, 3) := by decide +kernel
theorem dX7_init_100 : decode cX7_init 100 = .ok (.aload_n 0, 1) := by decide +kernel
theorem dX7_init_101 : decode cX7_init 101 = .ok (.bipush 32, 2) := by decide +kernel
theorem dX7_init_103 : decode cX7_init 103 = .ok (.newarray .int, 2) := by decide +kernel
theorem dX7_init_105 : decode cX7_init 105 = .ok (.putfield 48, 3) := by decide +kernel
theorem dX7_init_108 : decode cX7_init 108 = .ok (.aload_n 0, 1) := by decide +kernel
theorem dX7_init_109 : decode cX7_init 109 = .ok (.bipush 32, 2) := by decide +kernel
theorem dX7_init_111 : decode cX7_init 111 = .ok (.newarray .boolean, 2) := by decide +kernel
theorem dX7_init_113 : decode cX7_init 113 = .ok (.putfield 51, 3) := by decide +kernel
theorem dX7_init_116 : decode cX7_init 116 = .ok (.iconst 0, 1) := by decide +kernel
theorem dX7_init_117 : decode cX7_init 117 = .ok (.istore_n 1, 1) := by decide +kernel
theorem dX7_init_118 : decode cX7_init 118 = .ok (.iload_n 1, 1) := by decide +kernel
theorem dX7_init_119 : decode cX7_init 119 = .ok (.bipush 6, 2) := by decide +kernel
theorem dX7_init_121 : decode cX7_init 121 = .ok (.if_icmp .ge 21, 3) := by decide +kernel
theorem dX7_init_124 : decode cX7_init 124 = .ok (.aload_n 0, 1) := by decide +kernel
theorem dX7_init_125 : decode cX7_init 125 = .ok (.getfield 7, 3) := by decide +kernel
theorem dX7_init_128 : decode cX7_init 128 = .ok (.sipush 192, 3) := by decide +kernel
theorem dX7_init_131 : decode cX7_init 131 = .ok (.iload_n 1, 1) := by decide +kernel
theorem dX7_init_132 : decode cX7_init 132 = .ok (.iadd, 1) := by decide +kernel
theorem dX7_init_133 : decode cX7_init 133 = .ok (.bipush (-5), 2) := by decide +kernel
theorem dX7_init_135 : decode cX7_init 135 = .ok (.iastore, 1) := by decide +kernel
theorem dX7_init_136 : decode cX7_init 136 = .ok (.iinc 1 1, 3) := by decide +kernel
theorem dX7_init_139 : decode cX7_init 139 = .ok (.goto (-21), 3) := by decide +kernel
theorem dX7_init_142 : decode cX7_init 142 = .ok (.iconst 0, 1) := by decide +kernel
theorem dX7_init_143 : decode cX7_init 143 = .ok (.istore_n 1, 1) := by decide +kernel
theorem dX7_init_144 : decode cX7_init 144 = .ok (.iload_n 1, 1) := by decide +kernel
theorem dX7_init_145 : decode cX7_init 145 = .ok (.bipush 10, 2) := by decide +kernel
theorem dX7_init_147 : decode cX7_init 147 = .ok (.if_icmp .ge 25, 3) := by decide +kernel
theorem dX7_init_150 : decode cX7_init 150 = .ok (.aload_n 0, 1) := by decide +kernel
theorem dX7_init_151 : decode cX7_init 151 = .ok (.getfield 7, 3) := by decide +kernel
theorem dX7_init_154 : decode cX7_init 154 = .ok (.sipush 198, 3) := by decide +kernel
theorem dX7_init_157 : decode cX7_init 157 = .ok (.iconst 4, 1) := by decide +kernel
theorem dX7_init_158 : decode cX7_init 158 = .ok (.iload_n 1, 1) := by decide +kernel
theorem dX7_init_159 : decode cX7_init 159 = .ok (.imul, 1) := by decide +kernel
theorem dX7_init_160 : decode cX7_init 160 = .ok (.iadd, 1) := by decide +kernel
theorem dX7_init_161 : decode cX7_init 161 = .ok (.iconst 2, 1) := by decide +kernel
theorem dX7_init_162 : decode cX7_init 162 = .ok (.iadd, 1) := by decide +kernel
theorem dX7_init_163 : decode cX7_init 163 = .ok (.bipush (-9), 2) := by decide +kernel
theorem dX7_init_165 : decode cX7_init 165 = .ok (.iastore, 1) := by decide +kernel
theorem dX7_init_166 : decode cX7_init 166 = .ok (.iinc 1 1, 3) := by decide +kernel
theorem dX7_init_169 : decode cX7_init 169 = .ok (.goto (-25), 3) := by decide +kernel
theorem dX7_init_172 : decode cX7_init 172 = .ok (.aload_n 0, 1) := by decide +kernel
theorem dX7_init_173 : decode cX7_init 173 = .ok (.getfield 7, 3) := by decide +kernel
theorem dX7_init_176 : decode cX7_init 176 = .ok (.sipush 294, 3) := by decide +kernel
theorem dX7_init_179 : decode cX7_init 179 = .ok (.bipush (-9), 2) := by decide +kernel
theorem dX7_init_181 : decode cX7_init 181 = .ok (.iastore, 1) := by decide +kernel
theorem dX7_init_182 : decode cX7_init 182 = .ok (.aload_n 0, 1) := by decide +kernel
theorem dX7_init_183 : decode cX7_init 183 = .ok (.getfield 7, 3) := by decide +kernel
theorem dX7_init_186 : decode cX7_init 186 = .ok (.sipush 295, 3) := by decide +kernel
theorem dX7_init_189 : decode cX7_init 189 = .ok (.bipush (-9), 2) := by decide +kernel
theorem dX7_init_191 : decode cX7_init 191 = .ok (.iastore, 1) := by decide +kernel
theorem dX7_init_192 : decode cX7_init 192 = .ok (.aload_n 0, 1) := by decide +kernel
theorem dX7_init_193 : decode cX7_init 193 = .ok (.getfield 13, 3) := by decide +kernel
theorem dX7_init_196 : decode cX7_init 196 = .ok (.iconst 0, 1) := by decide +kernel
theorem dX7_init_197 : decode cX7_init 197 = .ok (.fconst 1, 1) := by decide +kernel
theorem dX7_init_198 : decode cX7_init 198 = .ok (.fastore, 1) := by decide +kernel
theorem dX7_init_199 : decode cX7_init 199 = .ok (.aload_n 0, 1) := by decide +kernel
theorem dX7_init_200 : decode cX7_init 200 = .ok (.getfield 13, 3) := by decide +kernel
theorem dX7_init_203 : decode cX7_init 203 = .ok (.iconst 1, 1) := by decide +kernel
theorem dX7_init_204 : decode cX7_init 204 = .ok (.ldc 54, 2) := by decide +kernel
theorem dX7_init_206 : decode cX7_init 206 = .ok (.fastore, 1) := by decide +kernel
theorem dX7_init_207 : decode cX7_init 207 = .ok (.return_, 1) := by decide +kernel
theorem dX7_in_0 : decode cX7_in 0 = .ok (.iload_n 0, 1) := by decide +kernel
theorem dX7_in_1 : decode cX7_in 1 = .ok (.iload_n 1, 1) := by decide +kernel
theorem dX7_in_2 : decode cX7_in 2 = .ok (.if_icmp .lt 12, 3) := by decide +kernel
theorem dX7_in_5 : decode cX7_in 5 = .ok (.iload_n 0, 1) := by decide +kernel
theorem dX7_in_6 : decode cX7_in 6 = .ok (.iload_n 2, 1) := by decide +kernel
theorem dX7_in_7 : decode cX7_in 7 = .ok (.if_icmp .gt 7, 3) := by decide +kernel
theorem dX7_in_10 : decode cX7_in 10 = .ok (.iconst 1, 1) := by decide +kernel
theorem dX7_in_11 : decode cX7_in 11 = .ok (.goto 4, 3) := by decide +kernel
theorem dX7_in_14 : decode cX7_in 14 = .ok (.iconst 0, 1) := by decide +kernel
theorem dX7_in_15 : decode cX7_in 15 = .ok (.ireturn, 1) := by decide +kernel
set_option maxRecDepth 20000 in
theorem ggX7_isThing_X7_in : GoodIn wsX7_isThing wsX7_in := goodIn_r _ [5] (by decide +kernel) (by decide +kernel)
set_option maxRecDepth 20000 in
theorem gX7_isThing_X7_in : GoodIn wsX7_isThing (va_wsS RX7 59 yX7_in wsX7_in) := goodIn_app (goodIn_of _ (by decide +kernel)) ggX7_isThing_X7_in
theorem dX7_isThing_0 : decode cX7_isThing 0 = .ok (.iload_n 1, 1) := by decide +kernel
theorem dX7_isThing_1 : decode cX7_isThing 1 = .ok (.iconst 0, 1) := by decide +kernel
theorem dX7_isThing_2 : decode cX7_isThing 2 = .ok (.bipush 31, 2) := by decide +kernel
theorem dX7_isThing_4 : decode cX7_isThing 4 = .ok (.invokestatic 59, 3) := by decide +kernel
theorem dX7_isThing_7 : decode cX7_isThing 7 = .ok (.ifCond .eq 21, 3) := by decide +kernel
theorem dX7_isThing_10 : decode cX7_isThing 10 = .ok (.aload_n 0, 1) := by decide +kernel
theorem dX7_isThing_11 : decode cX7_isThing 11 = .ok (.getfield 7, 3) := by decide +kernel
theorem dX7_isThing_14 : decode cX7_isThing 14 = .ok (.bipush 6, 2) := by decide +kernel
theorem dX7_isThing_16 : decode cX7_isThing 16 = .ok (.iload_n 1, 1) := by decide +kernel
theorem dX7_isThing_17 : decode cX7_isThing 17 = .ok (.imul, 1) := by decide +kernel
theorem dX7_isThing_18 : decode cX7_isThing 18 = .ok (.iconst 0, 1) := by decide +kernel
theorem dX7_isThing_19 : decode cX7_isThing 19 = .ok (.iadd, 1) := by decide +kernel
theorem dX7_isThing_20 : decode cX7_isThing 20 = .ok (.iaload, 1) := by decide +kernel
theorem dX7_isThing_21 : decode cX7_isThing 21 = .ok (.ifCond .le 7, 3) := by decide +kernel
theorem dX7_isThing_24 : decode cX7_isThing 24 = .ok (.iconst 1, 1) := by decide +kernel
theorem dX7_isThing_25 : decode cX7_isThing 25 = .ok (.goto 4, 3) := by decide +kernel
theorem dX7_isThing_28 : decode cX7_isThing 28 = .ok (.iconst 0, 1) := by decide +kernel
theorem dX7_isThing_29 : decode cX7_isThing 29 = .ok (.ireturn, 1) := by decide +kernel
set_option maxRecDepth 20000 in
theorem ggX7_isRoot_X7_in : GoodIn wsX7_isRoot wsX7_in := goodIn_r _ [4] (by decide +kernel) (by decide +kernel)
set_option maxRecDepth 20000 in
theorem gX7_isRoot_X7_in : GoodIn wsX7_isRoot (va_wsS RX7 59 yX7_in wsX7_in) := goodIn_app (goodIn_of _ (by decide +kernel)) ggX7_isRoot_X7_in
theorem dX7_isRoot_0 : decode cX7_isRoot 0 = .ok (.iload_n 0, 1) := by decide +kernel
theorem dX7_isRoot_1 : decode cX7_isRoot 1 = .ok (.iconst 0, 1) := by decide +kernel
theorem dX7_isRoot_2 : decode cX7_isRoot 2 = .ok (.iconst 5, 1) := by decide +kernel
theorem dX7_isRoot_3 : decode cX7_isRoot 3 = .ok (.invokestatic 59, 3) := by decide +kernel
theorem dX7_isRoot_6 : decode cX7_isRoot 6 = .ok (.ireturn, 1) := by decide +kernel
set_option maxRecDepth 20000 in
theorem ggX7_isRegion_X7_in : GoodIn wsX7_isRegion wsX7_in := goodIn_r _ [4] (by decide +kernel) (by decide +kernel)
set_option maxRecDepth 20000 in
theorem gX7_isRegion_X7_in : GoodIn wsX7_isRegion (va_wsS RX7 59 yX7_in wsX7_in) := goodIn_app (goodIn_of _ (by decide +kernel)) ggX7_isRegion_X7_in
theorem dX7_isRegion_0 : decode cX7_isRegion 0 = .ok (.iload_n 0, 1) := by decide +kernel
theorem dX7_isRegion_1 : decode cX7_isRegion 1 = .ok (.iconst 0, 1) := by decide +kernel
theorem dX7_isRegion_2 : decode cX7_isRegion 2 = .ok (.bipush 9, 2) := by decide +kernel
theorem dX7_isRegion_4 : decode cX7_isRegion 4 = .ok (.invokestatic 59, 3) := by decide +kernel
theorem dX7_isRegion_7 : decode cX7_isRegion 7 = .ok (.ireturn, 1) := by decide +kernel
theorem dX7_ofThing_0 : decode cX7_ofThing 0 = .ok (.aload_n 0, 1) := by decide +kernel
theorem dX7_ofThing_1 : decode cX7_ofThing 1 = .ok (.getfield 7, 3) := by decide +kernel
theorem dX7_ofThing_4 : decode cX7_ofThing 4 = .ok (.bipush 6, 2) := by decide +kernel
theorem dX7_ofThing_6 : decode cX7_ofThing 6 = .ok (.iload_n 1, 1) := by decide +kernel
theorem dX7_ofThing_7 : decode cX7_ofThing 7 = .ok (.imul, 1) := by decide +kernel
theorem dX7_ofThing_8 : decode cX7_ofThing 8 = .ok (.iload_n 2, 1) := by decide +kernel
theorem dX7_ofThing_9 : decode cX7_ofThing 9 = .ok (.iadd, 1) := by decide +kernel
theorem dX7_ofThing_10 : decode cX7_ofThing 10 = .ok (.iaload, 1) := by decide +kernel
theorem dX7_ofThing_11 : decode cX7_ofThing 11 = .ok (.ireturn, 1) := by decide +kernel
theorem dX7_ofRegion_0 : decode cX7_ofRegion 0 = .ok (.aload_n 0, 1) := by decide +kernel
theorem dX7_ofRegion_1 : decode cX7_ofRegion 1 = .ok (.getfield 7, 3) := by decide +kernel
theorem dX7_ofRegion_4 : decode cX7_ofRegion 4 = .ok (.sipush 198, 3) := by decide +kernel
theorem dX7_ofRegion_7 : decode cX7_ofRegion 7 = .ok (.iconst 4, 1) := by decide +kernel
theorem dX7_ofRegion_8 : decode cX7_ofRegion 8 = .ok (.iload_n 1, 1) := by decide +kernel
theorem dX7_ofRegion_9 : decode cX7_ofRegion 9 = .ok (.imul, 1) := by decide +kernel
theorem dX7_ofRegion_10 : decode cX7_ofRegion 10 = .ok (.iadd, 1) := by decide +kernel
theorem dX7_ofRegion_11 : decode cX7_ofRegion 11 = .ok (.iload_n 2, 1) := by decide +kernel
theorem dX7_ofRegion_12 : decode cX7_ofRegion 12 = .ok (.iadd, 1) := by decide +kernel
theorem dX7_ofRegion_13 : decode cX7_ofRegion 13 = .ok (.iaload, 1) := by decide +kernel
theorem dX7_ofRegion_14 : decode cX7_ofRegion 14 = .ok (.ireturn, 1) := by decide +kernel
theorem dX7_setsRegion_0 : decode cX7_setsRegion 0 = .ok (.aload_n 0, 1) := by decide +kernel
theorem dX7_setsRegion_1 : decode cX7_setsRegion 1 = .ok (.getfield 7, 3) := by decide +kernel
theorem dX7_setsRegion_4 : decode cX7_setsRegion 4 = .ok (.sipush 198, 3) := by decide +kernel
theorem dX7_setsRegion_7 : decode cX7_setsRegion 7 = .ok (.iconst 4, 1) := by decide +kernel
theorem dX7_setsRegion_8 : decode cX7_setsRegion 8 = .ok (.iload_n 1, 1) := by decide +kernel
theorem dX7_setsRegion_9 : decode cX7_setsRegion 9 = .ok (.imul, 1) := by decide +kernel
theorem dX7_setsRegion_10 : decode cX7_setsRegion 10 = .ok (.iadd, 1) := by decide +kernel
theorem dX7_setsRegion_11 : decode cX7_setsRegion 11 = .ok (.iload_n 2, 1) := by decide +kernel
theorem dX7_setsRegion_12 : decode cX7_setsRegion 12 = .ok (.iadd, 1) := by decide +kernel
theorem dX7_setsRegion_13 : decode cX7_setsRegion 13 = .ok (.iload_n 3, 1) := by decide +kernel
theorem dX7_setsRegion_14 : decode cX7_setsRegion 14 = .ok (.iastore, 1) := by decide +kernel
theorem dX7_setsRegion_15 : decode cX7_setsRegion 15 = .ok (.return_, 1) := by decide +kernel
set_option maxRecDepth 20000 in
theorem ggX7_cardOf_X7_ofThing : GoodIn wsX7_cardOf wsX7_ofThing := goodIn_r _ [5, 6, 7, 8, 9, 10, 11, 12, 13, 14, 15, 16, 17, 18, 19, 20, 21, 22, 23, 24, 25, 26, 27, 28, 29, 30, 31, 32] (by decide +kernel) (by decide +kernel)
set_option maxRecDepth 20000 in
theorem gX7_cardOf_X7_ofThing : GoodIn wsX7_cardOf (wsV RX7 63 RX7 yX7_ofThing wsX7_ofThing) := goodIn_app (goodIn_of _ (by decide +kernel)) ggX7_cardOf_X7_ofThing
theorem dX7_cardOf_0 : decode cX7_cardOf 0 = .ok (.iconst 2, 1) := by decide +kernel
theorem dX7_cardOf_1 : decode cX7_cardOf 1 = .ok (.aload_n 0, 1) := by decide +kernel
theorem dX7_cardOf_2 : decode cX7_cardOf 2 = .ok (.iload_n 1, 1) := by decide +kernel
theorem dX7_cardOf_3 : decode cX7_cardOf 3 = .ok (.iconst 1, 1) := by decide +kernel
theorem dX7_cardOf_4 : decode cX7_cardOf 4 = .ok (.invokevirtual 63, 3) := by decide +kernel
theorem dX7_cardOf_7 : decode cX7_cardOf 7 = .ok (.imul, 1) := by decide +kernel
theorem dX7_cardOf_8 : decode cX7_cardOf 8 = .ok (.aload_n 0, 1) := by decide +kernel
theorem dX7_cardOf_9 : decode cX7_cardOf 9 = .ok (.iload_n 1, 1) := by decide +kernel
theorem dX7_cardOf_10 : decode cX7_cardOf 10 = .ok (.iconst 2, 1) := by decide +kernel
theorem dX7_cardOf_11 : decode cX7_cardOf 11 = .ok (.invokevirtual 63, 3) := by decide +kernel
theorem dX7_cardOf_14 : decode cX7_cardOf 14 = .ok (.iconst 3, 1) := by decide +kernel
theorem dX7_cardOf_15 : decode cX7_cardOf 15 = .ok (.if_icmp .le 7, 3) := by decide +kernel
theorem dX7_cardOf_18 : decode cX7_cardOf 18 = .ok (.iconst 1, 1) := by decide +kernel
theorem dX7_cardOf_19 : decode cX7_cardOf 19 = .ok (.goto 4, 3) := by decide +kernel
theorem dX7_cardOf_22 : decode cX7_cardOf 22 = .ok (.iconst 0, 1) := by decide +kernel
theorem dX7_cardOf_23 : decode cX7_cardOf 23 = .ok (.iadd, 1) := by decide +kernel
theorem dX7_cardOf_24 : decode cX7_cardOf 24 = .ok (.ireturn, 1) := by decide +kernel
set_option maxRecDepth 20000 in
theorem ggX7_kindOf_X7_ofThing : GoodIn wsX7_kindOf wsX7_ofThing := goodIn_r _ [5, 6, 11, 12, 13, 14, 15, 16, 17, 18, 19, 20, 21, 22, 23, 24, 25, 26, 27, 28, 29, 30, 31, 32, 33, 34, 35, 36] (by decide +kernel) (by decide +kernel)
set_option maxRecDepth 20000 in
theorem gX7_kindOf_X7_ofThing : GoodIn wsX7_kindOf (wsV RX7 63 RX7 yX7_ofThing wsX7_ofThing) := goodIn_app (goodIn_of _ (by decide +kernel)) ggX7_kindOf_X7_ofThing
set_option maxRecDepth 20000 in
theorem ggX7_kindOf_X7_ofRegion : GoodIn wsX7_kindOf wsX7_ofRegion := goodIn_r _ [10, 6, 11, 12, 13, 14, 15, 16, 17, 18, 19, 20, 21, 22, 23, 24, 25, 26, 27, 28, 29, 30, 31, 32, 33, 34, 35, 36] (by decide +kernel) (by decide +kernel)
set_option maxRecDepth 20000 in
theorem gX7_kindOf_X7_ofRegion : GoodIn wsX7_kindOf (wsV RX7 67 RX7 yX7_ofRegion wsX7_ofRegion) := goodIn_app (goodIn_of _ (by decide +kernel)) ggX7_kindOf_X7_ofRegion
theorem dX7_kindOf_0 : decode cX7_kindOf 0 = .ok (.aload_n 0, 1) := by decide +kernel
theorem dX7_kindOf_1 : decode cX7_kindOf 1 = .ok (.aload_n 0, 1) := by decide +kernel
theorem dX7_kindOf_2 : decode cX7_kindOf 2 = .ok (.iload_n 1, 1) := by decide +kernel
theorem dX7_kindOf_3 : decode cX7_kindOf 3 = .ok (.iconst 1, 1) := by decide +kernel
theorem dX7_kindOf_4 : decode cX7_kindOf 4 = .ok (.invokevirtual 63, 3) := by decide +kernel
theorem dX7_kindOf_7 : decode cX7_kindOf 7 = .ok (.iconst 0, 1) := by decide +kernel
theorem dX7_kindOf_8 : decode cX7_kindOf 8 = .ok (.invokevirtual 67, 3) := by decide +kernel
theorem dX7_kindOf_11 : decode cX7_kindOf 11 = .ok (.ireturn, 1) := by decide +kernel
theorem dX7_notes_0 : decode cX7_notes 0 = .ok (.aload_n 0, 1) := by decide +kernel
theorem dX7_notes_1 : decode cX7_notes 1 = .ok (.getfield 70, 3) := by decide +kernel
theorem dX7_notes_4 : decode cX7_notes 4 = .ok (.bipush 6, 2) := by decide +kernel
theorem dX7_notes_6 : decode cX7_notes 6 = .ok (.if_icmp .ne 72, 3) := by decide +kernel
theorem dX7_notes_9 : decode cX7_notes 9 = .ok (.iconst 0, 1) := by decide +kernel
theorem dX7_notes_10 : decode cX7_notes 10 = .ok (.istore_n 1, 1) := by decide +kernel
theorem dX7_notes_11 : decode cX7_notes 11 = .ok (.iload_n 1, 1) := by decide +kernel
theorem dX7_notes_12 : decode cX7_notes 12 = .ok (.sipush 1480, 3) := by decide +kernel
theorem dX7_notes_15 : decode cX7_notes 15 = .ok (.if_icmp .ge 25, 3) := by decide +kernel
theorem dX7_notes_18 : decode cX7_notes 18 = .ok (.aload_n 0, 1) := by decide +kernel
theorem dX7_notes_19 : decode cX7_notes 19 = .ok (.getfield 17, 3) := by decide +kernel
theorem dX7_notes_22 : decode cX7_notes 22 = .ok (.iload_n 1, 1) := by decide +kernel
theorem dX7_notes_23 : decode cX7_notes 23 = .ok (.aload_n 0, 1) := by decide +kernel
theorem dX7_notes_24 : decode cX7_notes 24 = .ok (.getfield 17, 3) := by decide +kernel
theorem dX7_notes_27 : decode cX7_notes 27 = .ok (.iload_n 1, 1) := by decide +kernel
theorem dX7_notes_28 : decode cX7_notes 28 = .ok (.sipush 296, 3) := by decide +kernel
theorem dX7_notes_31 : decode cX7_notes 31 = .ok (.iadd, 1) := by decide +kernel
theorem dX7_notes_32 : decode cX7_notes 32 = .ok (.iaload, 1) := by decide +kernel
theorem dX7_notes_33 : decode cX7_notes 33 = .ok (.iastore, 1) := by decide +kernel
theorem dX7_notes_34 : decode cX7_notes 34 = .ok (.iinc 1 1, 3) := by decide +kernel
theorem dX7_notes_37 : decode cX7_notes 37 = .ok (.goto (-26), 3) := by decide +kernel
theorem dX7_notes_40 : decode cX7_notes 40 = .ok (.iconst 0, 1) := by decide +kernel
theorem dX7_notes_41 : decode cX7_notes 41 = .ok (.istore_n 1, 1) := by decide +kernel
theorem dX7_notes_42 : decode cX7_notes 42 = .ok (.iload_n 1, 1) := by decide +kernel
theorem dX7_notes_43 : decode cX7_notes 43 = .ok (.bipush 10, 2) := by decide +kernel
theorem dX7_notes_45 : decode cX7_notes 45 = .ok (.if_icmp .ge 23, 3) := by decide +kernel
theorem dX7_notes_48 : decode cX7_notes 48 = .ok (.aload_n 0, 1) := by decide +kernel
theorem dX7_notes_49 : decode cX7_notes 49 = .ok (.getfield 20, 3) := by decide +kernel
theorem dX7_notes_52 : decode cX7_notes 52 = .ok (.iload_n 1, 1) := by decide +kernel
theorem dX7_notes_53 : decode cX7_notes 53 = .ok (.aload_n 0, 1) := by decide +kernel
theorem dX7_notes_54 : decode cX7_notes 54 = .ok (.getfield 20, 3) := by decide +kernel
theorem dX7_notes_57 : decode cX7_notes 57 = .ok (.iload_n 1, 1) := by decide +kernel
theorem dX7_notes_58 : decode cX7_notes 58 = .ok (.iconst 2, 1) := by decide +kernel
theorem dX7_notes_59 : decode cX7_notes 59 = .ok (.iadd, 1) := by decide +kernel
theorem dX7_notes_60 : decode cX7_notes 60 = .ok (.faload, 1) := by decide +kernel
theorem dX7_notes_61 : decode cX7_notes 61 = .ok (.fastore, 1) := by decide +kernel
theorem dX7_notes_62 : decode cX7_notes 62 = .ok (.iinc 1 1, 3) := by decide +kernel
theorem dX7_notes_65 : decode cX7_notes 65 = .ok (.goto (-23), 3) := by decide +kernel
theorem dX7_notes_68 : decode cX7_notes 68 = .ok (.aload_n 0, 1) := by decide +kernel
theorem dX7_notes_69 : decode cX7_notes 69 = .ok (.dup, 1) := by decide +kernel
theorem dX7_notes_70 : decode cX7_notes 70 = .ok (.getfield 70, 3) := by decide +kernel
theorem dX7_notes_73 : decode cX7_notes 73 = .ok (.iconst 1, 1) := by decide +kernel
theorem dX7_notes_74 : decode cX7_notes 74 = .ok (.isub, 1) := by decide +kernel
theorem dX7_notes_75 : decode cX7_notes 75 = .ok (.putfield 70, 3) := by decide +kernel
theorem dX7_notes_78 : decode cX7_notes 78 = .ok (.iconst 0, 1) := by decide +kernel
theorem dX7_notes_79 : decode cX7_notes 79 = .ok (.istore_n 1, 1) := by decide +kernel
theorem dX7_notes_80 : decode cX7_notes 80 = .ok (.iload_n 1, 1) := by decide +kernel
theorem dX7_notes_81 : decode cX7_notes 81 = .ok (.sipush 296, 3) := by decide +kernel
theorem dX7_notes_84 : decode cX7_notes 84 = .ok (.if_icmp .ge 30, 3) := by decide +kernel
theorem dX7_notes_87 : decode cX7_notes 87 = .ok (.aload_n 0, 1) := by decide +kernel
theorem dX7_notes_88 : decode cX7_notes 88 = .ok (.getfield 17, 3) := by decide +kernel
theorem dX7_notes_91 : decode cX7_notes 91 = .ok (.sipush 296, 3) := by decide +kernel
theorem dX7_notes_94 : decode cX7_notes 94 = .ok (.aload_n 0, 1) := by decide +kernel
theorem dX7_notes_95 : decode cX7_notes 95 = .ok (.getfield 70, 3) := by decide +kernel
theorem dX7_notes_98 : decode cX7_notes 98 = .ok (.imul, 1) := by decide +kernel
theorem dX7_notes_99 : decode cX7_notes 99 = .ok (.iload_n 1, 1) := by decide +kernel
theorem dX7_notes_100 : decode cX7_notes 100 = .ok (.iadd, 1) := by decide +kernel
theorem dX7_notes_101 : decode cX7_notes 101 = .ok (.aload_n 0, 1) := by decide +kernel
theorem dX7_notes_102 : decode cX7_notes 102 = .ok (.getfield 7, 3) := by decide +kernel
theorem dX7_notes_105 : decode cX7_notes 105 = .ok (.iload_n 1, 1) := by decide +kernel
theorem dX7_notes_106 : decode cX7_notes 106 = .ok (.iaload, 1) := by decide +kernel
theorem dX7_notes_107 : decode cX7_notes 107 = .ok (.iastore, 1) := by decide +kernel
theorem dX7_notes_108 : decode cX7_notes 108 = .ok (.iinc 1 1, 3) := by decide +kernel
theorem dX7_notes_111 : decode cX7_notes 111 = .ok (.goto (-31), 3) := by decide +kernel
theorem dX7_notes_114 : decode cX7_notes 114 = .ok (.aload_n 0, 1) := by decide +kernel
theorem dX7_notes_115 : decode cX7_notes 115 = .ok (.getfield 20, 3) := by decide +kernel
theorem dX7_notes_118 : decode cX7_notes 118 = .ok (.iconst 2, 1) := by decide +kernel
theorem dX7_notes_119 : decode cX7_notes 119 = .ok (.aload_n 0, 1) := by decide +kernel
theorem dX7_notes_120 : decode cX7_notes 120 = .ok (.getfield 70, 3) := by decide +kernel
theorem dX7_notes_123 : decode cX7_notes 123 = .ok (.imul, 1) := by decide +kernel
theorem dX7_notes_124 : decode cX7_notes 124 = .ok (.aload_n 0, 1) := by decide +kernel
theorem dX7_notes_125 : decode cX7_notes 125 = .ok (.getfield 13, 3) := by decide +kernel
theorem dX7_notes_128 : decode cX7_notes 128 = .ok (.iconst 0, 1) := by decide +kernel
theorem dX7_notes_129 : decode cX7_notes 129 = .ok (.faload, 1) := by decide +kernel
theorem dX7_notes_130 : decode cX7_notes 130 = .ok (.fastore, 1) := by decide +kernel
theorem dX7_notes_131 : decode cX7_notes 131 = .ok (.aload_n 0, 1) := by decide +kernel
theorem dX7_notes_132 : decode cX7_notes 132 = .ok (.getfield 20, 3) := by decide +kernel
theorem dX7_notes_135 : decode cX7_notes 135 = .ok (.iconst 2, 1) := by decide +kernel
theorem dX7_notes_136 : decode cX7_notes 136 = .ok (.aload_n 0, 1) := by decide +kernel
theorem dX7_notes_137 : decode cX7_notes 137 = .ok (.getfield 70, 3) := by decide +kernel
theorem dX7_notes_140 : decode cX7_notes 140 = .ok (.imul, 1) := by decide +kernel
theorem dX7_notes_141 : decode cX7_notes 141 = .ok (.iconst 1, 1) := by decide +kernel
theorem dX7_notes_142 : decode cX7_notes 142 = .ok (.iadd, 1) := by decide +kernel
theorem dX7_notes_143 : decode cX7_notes 143 = .ok (.aload_n 0, 1) := by decide +kernel
theorem dX7_notes_144 : decode cX7_notes 144 = .ok (.getfield 13, 3) := by decide +kernel
theorem dX7_notes_147 : decode cX7_notes 147 = .ok (.iconst 1, 1) := by decide +kernel
theorem dX7_notes_148 : decode cX7_notes 148 = .ok (.faload, 1) := by decide +kernel
theorem dX7_notes_149 : decode cX7_notes 149 = .ok (.fastore, 1) := by decide +kernel
theorem dX7_notes_150 : decode cX7_notes 150 = .ok (.aload_n 0, 1) := by decide +kernel
theorem dX7_notes_151 : decode cX7_notes 151 = .ok (.dup, 1) := by decide +kernel
theorem dX7_notes_152 : decode cX7_notes 152 = .ok (.getfield 70, 3) := by decide +kernel
theorem dX7_notes_155 : decode cX7_notes 155 = .ok (.iconst 1, 1) := by decide +kernel
theorem dX7_notes_156 : decode cX7_notes 156 = .ok (.iadd, 1) := by decide +kernel
theorem dX7_notes_157 : decode cX7_notes 157 = .ok (.putfield 70, 3) := by decide +kernel
theorem dX7_notes_160 : decode cX7_notes 160 = .ok (.return_, 1) := by decide +kernel
set_option maxRecDepth 20000 in
theorem ggX7_becomesDirty_X7_isDirty : GoodIn wsX7_becomesDirty wsX7_isDirty := goodIn_r _ [6, 1, 7, 8, 9, 10, 11, 12, 13, 14, 15, 16, 17, 18, 19, 20, 21, 22, 23, 24, 25, 26, 27, 28, 29, 30, 31, 32] (by decide +kernel) (by decide +kernel)
set_option maxRecDepth 20000 in
theorem gX7_becomesDirty_X7_isDirty : GoodIn wsX7_becomesDirty (wsV RX7 73 RX7 yX7_isDirty wsX7_isDirty) := goodIn_app (goodIn_of _ (by decide +kernel)) ggX7_becomesDirty_X7_isDirty
theorem dX7_becomesDirty_0 : decode cX7_becomesDirty 0 = .ok (.aload_n 0, 1) := by decide +kernel
theorem dX7_becomesDirty_1 : decode cX7_becomesDirty 1 = .ok (.iload_n 1, 1) := by decide +kernel
theorem dX7_becomesDirty_2 : decode cX7_becomesDirty 2 = .ok (.invokevirtual 73, 3) := by decide +kernel
theorem dX7_becomesDirty_5 : decode cX7_becomesDirty 5 = .ok (.ifCond .ne 33, 3) := by decide +kernel
theorem dX7_becomesDirty_8 : decode cX7_becomesDirty 8 = .ok (.aload_n 0, 1) := by decide +kernel
theorem dX7_becomesDirty_9 : decode cX7_becomesDirty 9 = .ok (.getfield 7, 3) := by decide +kernel
theorem dX7_becomesDirty_12 : decode cX7_becomesDirty 12 = .ok (.sipush 238, 3) := by decide +kernel
theorem dX7_becomesDirty_15 : decode cX7_becomesDirty 15 = .ok (.aload_n 0, 1) := by decide +kernel
theorem dX7_becomesDirty_16 : decode cX7_becomesDirty 16 = .ok (.getfield 7, 3) := by decide +kernel
theorem dX7_becomesDirty_19 : decode cX7_becomesDirty 19 = .ok (.sipush 258, 3) := by decide +kernel
theorem dX7_becomesDirty_22 : decode cX7_becomesDirty 22 = .ok (.iaload, 1) := by decide +kernel
theorem dX7_becomesDirty_23 : decode cX7_becomesDirty 23 = .ok (.iadd, 1) := by decide +kernel
theorem dX7_becomesDirty_24 : decode cX7_becomesDirty 24 = .ok (.iload_n 1, 1) := by decide +kernel
theorem dX7_becomesDirty_25 : decode cX7_becomesDirty 25 = .ok (.iastore, 1) := by decide +kernel
theorem dX7_becomesDirty_26 : decode cX7_becomesDirty 26 = .ok (.aload_n 0, 1) := by decide +kernel
theorem dX7_becomesDirty_27 : decode cX7_becomesDirty 27 = .ok (.getfield 7, 3) := by decide +kernel
theorem dX7_becomesDirty_30 : decode cX7_becomesDirty 30 = .ok (.sipush 258, 3) := by decide +kernel
theorem dX7_becomesDirty_33 : decode cX7_becomesDirty 33 = .ok (.dup2, 1) := by decide +kernel
theorem dX7_becomesDirty_34 : decode cX7_becomesDirty 34 = .ok (.iaload, 1) := by decide +kernel
theorem dX7_becomesDirty_35 : decode cX7_becomesDirty 35 = .ok (.iconst 1, 1) := by decide +kernel
theorem dX7_becomesDirty_36 : decode cX7_becomesDirty 36 = .ok (.iadd, 1) := by decide +kernel
theorem dX7_becomesDirty_37 : decode cX7_becomesDirty 37 = .ok (.iastore, 1) := by decide +kernel
theorem dX7_becomesDirty_38 : decode cX7_becomesDirty 38 = .ok (.return_, 1) := by decide +kernel
theorem dX7_isDirty_0 : decode cX7_isDirty 0 = .ok (.iconst 0, 1) := by decide +kernel
theorem dX7_isDirty_1 : decode cX7_isDirty 1 = .ok (.istore_n 2, 1) := by decide +kernel
theorem dX7_isDirty_2 : decode cX7_isDirty 2 = .ok (.iconst 0, 1) := by decide +kernel
theorem dX7_isDirty_3 : decode cX7_isDirty 3 = .ok (.istore_n 3, 1) := by decide +kernel
theorem dX7_isDirty_4 : decode cX7_isDirty 4 = .ok (.iload_n 3, 1) := by decide +kernel
theorem dX7_isDirty_5 : decode cX7_isDirty 5 = .ok (.aload_n 0, 1) := by decide +kernel
theorem dX7_isDirty_6 : decode cX7_isDirty 6 = .ok (.getfield 7, 3) := by decide +kernel
theorem dX7_isDirty_9 : decode cX7_isDirty 9 = .ok (.sipush 258, 3) := by decide +kernel
theorem dX7_isDirty_12 : decode cX7_isDirty 12 = .ok (.iaload, 1) := by decide +kernel
theorem dX7_isDirty_13 : decode cX7_isDirty 13 = .ok (.if_icmp .ge 33, 3) := by decide +kernel
theorem dX7_isDirty_16 : decode cX7_isDirty 16 = .ok (.iload_n 2, 1) := by decide +kernel
theorem dX7_isDirty_17 : decode cX7_isDirty 17 = .ok (.ifCond .ne 17, 3) := by decide +kernel
theorem dX7_isDirty_20 : decode cX7_isDirty 20 = .ok (.aload_n 0, 1) := by decide +kernel
theorem dX7_isDirty_21 : decode cX7_isDirty 21 = .ok (.getfield 7, 3) := by decide +kernel
theorem dX7_isDirty_24 : decode cX7_isDirty 24 = .ok (.sipush 238, 3) := by decide +kernel
theorem dX7_isDirty_27 : decode cX7_isDirty 27 = .ok (.iload_n 3, 1) := by decide +kernel
theorem dX7_isDirty_28 : decode cX7_isDirty 28 = .ok (.iadd, 1) := by decide +kernel
theorem dX7_isDirty_29 : decode cX7_isDirty 29 = .ok (.iaload, 1) := by decide +kernel
theorem dX7_isDirty_30 : decode cX7_isDirty 30 = .ok (.iload_n 1, 1) := by decide +kernel
theorem dX7_isDirty_31 : decode cX7_isDirty 31 = .ok (.if_icmp .ne 7, 3) := by decide +kernel
theorem dX7_isDirty_34 : decode cX7_isDirty 34 = .ok (.iconst 1, 1) := by decide +kernel
theorem dX7_isDirty_35 : decode cX7_isDirty 35 = .ok (.goto 4, 3) := by decide +kernel
theorem dX7_isDirty_38 : decode cX7_isDirty 38 = .ok (.iconst 0, 1) := by decide +kernel
theorem dX7_isDirty_39 : decode cX7_isDirty 39 = .ok (.istore_n 2, 1) := by decide +kernel
theorem dX7_isDirty_40 : decode cX7_isDirty 40 = .ok (.iinc 3 1, 3) := by decide +kernel
theorem dX7_isDirty_43 : decode cX7_isDirty 43 = .ok (.goto (-39), 3) := by decide +kernel
theorem dX7_isDirty_46 : decode cX7_isDirty 46 = .ok (.iload_n 2, 1) := by decide +kernel
theorem dX7_isDirty_47 : decode cX7_isDirty 47 = .ok (.ireturn, 1) := by decide +kernel
theorem dX7_leaves_0 : decode cX7_leaves 0 = .ok (.aload_n 0, 1) := by decide +kernel
theorem dX7_leaves_1 : decode cX7_leaves 1 = .ok (.getfield 7, 3) := by decide +kernel
theorem dX7_leaves_4 : decode cX7_leaves 4 = .ok (.iload_n 2, 1) := by decide +kernel
theorem dX7_leaves_5 : decode cX7_leaves 5 = .ok (.dup2, 1) := by decide +kernel
theorem dX7_leaves_6 : decode cX7_leaves 6 = .ok (.iaload, 1) := by decide +kernel
theorem dX7_leaves_7 : decode cX7_leaves 7 = .ok (.iconst 1, 1) := by decide +kernel
theorem dX7_leaves_8 : decode cX7_leaves 8 = .ok (.isub, 1) := by decide +kernel
theorem dX7_leaves_9 : decode cX7_leaves 9 = .ok (.iastore, 1) := by decide +kernel
theorem dX7_leaves_10 : decode cX7_leaves 10 = .ok (.iload_n 3, 1) := by decide +kernel
theorem dX7_leaves_11 : decode cX7_leaves 11 = .ok (.istore 4, 2) := by decide +kernel
theorem dX7_leaves_13 : decode cX7_leaves 13 = .ok (.iload 4, 2) := by decide +kernel
theorem dX7_leaves_15 : decode cX7_leaves 15 = .ok (.aload_n 0, 1) := by decide +kernel
theorem dX7_leaves_16 : decode cX7_leaves 16 = .ok (.getfield 7, 3) := by decide +kernel
theorem dX7_leaves_19 : decode cX7_leaves 19 = .ok (.iload_n 2, 1) := by decide +kernel
theorem dX7_leaves_20 : decode cX7_leaves 20 = .ok (.iaload, 1) := by decide +kernel
theorem dX7_leaves_21 : decode cX7_leaves 21 = .ok (.if_icmp .ge 29, 3) := by decide +kernel
theorem dX7_leaves_24 : decode cX7_leaves 24 = .ok (.aload_n 0, 1) := by decide +kernel
theorem dX7_leaves_25 : decode cX7_leaves 25 = .ok (.getfield 7, 3) := by decide +kernel
theorem dX7_leaves_28 : decode cX7_leaves 28 = .ok (.iload_n 1, 1) := by decide +kernel
theorem dX7_leaves_29 : decode cX7_leaves 29 = .ok (.iload 4, 2) := by decide +kernel
theorem dX7_leaves_31 : decode cX7_leaves 31 = .ok (.iadd, 1) := by decide +kernel
theorem dX7_leaves_32 : decode cX7_leaves 32 = .ok (.aload_n 0, 1) := by decide +kernel
theorem dX7_leaves_33 : decode cX7_leaves 33 = .ok (.getfield 7, 3) := by decide +kernel
theorem dX7_leaves_36 : decode cX7_leaves 36 = .ok (.iload_n 1, 1) := by decide +kernel
theorem dX7_leaves_37 : decode cX7_leaves 37 = .ok (.iload 4, 2) := by decide +kernel
theorem dX7_leaves_39 : decode cX7_leaves 39 = .ok (.iadd, 1) := by decide +kernel
theorem dX7_leaves_40 : decode cX7_leaves 40 = .ok (.iconst 1, 1) := by decide +kernel
theorem dX7_leaves_41 : decode cX7_leaves 41 = .ok (.iadd, 1) := by decide +kernel
theorem dX7_leaves_42 : decode cX7_leaves 42 = .ok (.iaload, 1) := by decide +kernel
theorem dX7_leaves_43 : decode cX7_leaves 43 = .ok (.iastore, 1) := by decide +kernel
theorem dX7_leaves_44 : decode cX7_leaves 44 = .ok (.iinc 4 1, 3) := by decide +kernel
theorem dX7_leaves_47 : decode cX7_leaves 47 = .ok (.goto (-34), 3) := by decide +kernel
theorem dX7_leaves_50 : decode cX7_leaves 50 = .ok (.return_, 1) := by decide +kernel
set_option maxRecDepth 20000 in
theorem ggX7_becomesClean_X7_leaves : GoodIn wsX7_becomesClean wsX7_leaves := goodIn_r _ [6, 1, 7, 8, 9, 10, 11, 12, 13, 14, 15, 16, 17, 18, 19, 20, 21, 22, 23, 24, 25, 26, 27, 28, 29, 30, 31, 32] (by decide +kernel) (by decide +kernel)
set_option maxRecDepth 20000 in
theorem gX7_becomesClean_X7_leaves : GoodIn wsX7_becomesClean (wsV RX7 77 RX7 yX7_leaves wsX7_leaves) := goodIn_app (goodIn_of _ (by decide +kernel)) ggX7_becomesClean_X7_leaves
theorem dX7_becomesClean_0 : decode cX7_becomesClean 0 = .ok (.aload_n 0, 1) := by decide +kernel
theorem dX7_becomesClean_1 : decode cX7_becomesClean 1 = .ok (.getfield 7, 3) := by decide +kernel
theorem dX7_becomesClean_4 : decode cX7_becomesClean 4 = .ok (.sipush 258, 3) := by decide +kernel
theorem dX7_becomesClean_7 : decode cX7_becomesClean 7 = .ok (.iaload, 1) := by decide +kernel
theorem dX7_becomesClean_8 : decode cX7_becomesClean 8 = .ok (.iconst 1, 1) := by decide +kernel
theorem dX7_becomesClean_9 : decode cX7_becomesClean 9 = .ok (.isub, 1) := by decide +kernel
theorem dX7_becomesClean_10 : decode cX7_becomesClean 10 = .ok (.istore_n 2, 1) := by decide +kernel
theorem dX7_becomesClean_11 : decode cX7_becomesClean 11 = .ok (.iload_n 2, 1) := by decide +kernel
theorem dX7_becomesClean_12 : decode cX7_becomesClean 12 = .ok (.ifCond .lt 34, 3) := by decide +kernel
theorem dX7_becomesClean_15 : decode cX7_becomesClean 15 = .ok (.aload_n 0, 1) := by decide +kernel
theorem dX7_becomesClean_16 : decode cX7_becomesClean 16 = .ok (.getfield 7, 3) := by decide +kernel
theorem dX7_becomesClean_19 : decode cX7_becomesClean 19 = .ok (.sipush 238, 3) := by decide +kernel
theorem dX7_becomesClean_22 : decode cX7_becomesClean 22 = .ok (.iload_n 2, 1) := by decide +kernel
theorem dX7_becomesClean_23 : decode cX7_becomesClean 23 = .ok (.iadd, 1) := by decide +kernel
theorem dX7_becomesClean_24 : decode cX7_becomesClean 24 = .ok (.iaload, 1) := by decide +kernel
theorem dX7_becomesClean_25 : decode cX7_becomesClean 25 = .ok (.iload_n 1, 1) := by decide +kernel
theorem dX7_becomesClean_26 : decode cX7_becomesClean 26 = .ok (.if_icmp .ne 14, 3) := by decide +kernel
theorem dX7_becomesClean_29 : decode cX7_becomesClean 29 = .ok (.aload_n 0, 1) := by decide +kernel
theorem dX7_becomesClean_30 : decode cX7_becomesClean 30 = .ok (.sipush 238, 3) := by decide +kernel
theorem dX7_becomesClean_33 : decode cX7_becomesClean 33 = .ok (.sipush 258, 3) := by decide +kernel
theorem dX7_becomesClean_36 : decode cX7_becomesClean 36 = .ok (.iload_n 2, 1) := by decide +kernel
theorem dX7_becomesClean_37 : decode cX7_becomesClean 37 = .ok (.invokevirtual 77, 3) := by decide +kernel
theorem dX7_becomesClean_40 : decode cX7_becomesClean 40 = .ok (.iinc 2 (-1), 3) := by decide +kernel
theorem dX7_becomesClean_43 : decode cX7_becomesClean 43 = .ok (.goto (-32), 3) := by decide +kernel
theorem dX7_becomesClean_46 : decode cX7_becomesClean 46 = .ok (.return_, 1) := by decide +kernel
set_option maxRecDepth 20000 in
theorem ggX7_becomesGrey_X7_ofThing : GoodIn wsX7_becomesGrey wsX7_ofThing := goodIn_r _ [6, 1, 7, 8, 9, 10, 11, 12, 13, 14, 15, 16, 17, 18, 19, 20, 21, 22, 23, 24, 25, 26, 27, 28, 29, 30, 31, 32] (by decide +kernel) (by decide +kernel)
set_option maxRecDepth 20000 in
theorem gX7_becomesGrey_X7_ofThing : GoodIn wsX7_becomesGrey (wsV RX7 63 RX7 yX7_ofThing wsX7_ofThing) := goodIn_app (goodIn_of _ (by decide +kernel)) ggX7_becomesGrey_X7_ofThing
theorem dX7_becomesGrey_0 : decode cX7_becomesGrey 0 = .ok (.iload_n 1, 1) := by decide +kernel
theorem dX7_becomesGrey_1 : decode cX7_becomesGrey 1 = .ok (.bipush (-5), 2) := by decide +kernel
theorem dX7_becomesGrey_3 : decode cX7_becomesGrey 3 = .ok (.if_icmp .eq 54, 3) := by decide +kernel
theorem dX7_becomesGrey_6 : decode cX7_becomesGrey 6 = .ok (.aload_n 0, 1) := by decide +kernel
theorem dX7_becomesGrey_7 : decode cX7_becomesGrey 7 = .ok (.iload_n 1, 1) := by decide +kernel
theorem dX7_becomesGrey_8 : decode cX7_becomesGrey 8 = .ok (.iconst 5, 1) := by decide +kernel
theorem dX7_becomesGrey_9 : decode cX7_becomesGrey 9 = .ok (.invokevirtual 63, 3) := by decide +kernel
theorem dX7_becomesGrey_12 : decode cX7_becomesGrey 12 = .ok (.ifCond .ne 45, 3) := by decide +kernel
theorem dX7_becomesGrey_15 : decode cX7_becomesGrey 15 = .ok (.aload_n 0, 1) := by decide +kernel
theorem dX7_becomesGrey_16 : decode cX7_becomesGrey 16 = .ok (.getfield 7, 3) := by decide +kernel
theorem dX7_becomesGrey_19 : decode cX7_becomesGrey 19 = .ok (.bipush 6, 2) := by decide +kernel
theorem dX7_becomesGrey_21 : decode cX7_becomesGrey 21 = .ok (.iload_n 1, 1) := by decide +kernel
theorem dX7_becomesGrey_22 : decode cX7_becomesGrey 22 = .ok (.imul, 1) := by decide +kernel
theorem dX7_becomesGrey_23 : decode cX7_becomesGrey 23 = .ok (.iconst 5, 1) := by decide +kernel
theorem dX7_becomesGrey_24 : decode cX7_becomesGrey 24 = .ok (.iadd, 1) := by decide +kernel
theorem dX7_becomesGrey_25 : decode cX7_becomesGrey 25 = .ok (.iconst 1, 1) := by decide +kernel
theorem dX7_becomesGrey_26 : decode cX7_becomesGrey 26 = .ok (.iastore, 1) := by decide +kernel
theorem dX7_becomesGrey_27 : decode cX7_becomesGrey 27 = .ok (.aload_n 0, 1) := by decide +kernel
theorem dX7_becomesGrey_28 : decode cX7_becomesGrey 28 = .ok (.getfield 7, 3) := by decide +kernel
theorem dX7_becomesGrey_31 : decode cX7_becomesGrey 31 = .ok (.sipush 259, 3) := by decide +kernel
theorem dX7_becomesGrey_34 : decode cX7_becomesGrey 34 = .ok (.aload_n 0, 1) := by decide +kernel
theorem dX7_becomesGrey_35 : decode cX7_becomesGrey 35 = .ok (.getfield 7, 3) := by decide +kernel
theorem dX7_becomesGrey_38 : decode cX7_becomesGrey 38 = .ok (.sipush 291, 3) := by decide +kernel
theorem dX7_becomesGrey_41 : decode cX7_becomesGrey 41 = .ok (.iaload, 1) := by decide +kernel
theorem dX7_becomesGrey_42 : decode cX7_becomesGrey 42 = .ok (.iadd, 1) := by decide +kernel
theorem dX7_becomesGrey_43 : decode cX7_becomesGrey 43 = .ok (.iload_n 1, 1) := by decide +kernel
theorem dX7_becomesGrey_44 : decode cX7_becomesGrey 44 = .ok (.iastore, 1) := by decide +kernel
theorem dX7_becomesGrey_45 : decode cX7_becomesGrey 45 = .ok (.aload_n 0, 1) := by decide +kernel
theorem dX7_becomesGrey_46 : decode cX7_becomesGrey 46 = .ok (.getfield 7, 3) := by decide +kernel
theorem dX7_becomesGrey_49 : decode cX7_becomesGrey 49 = .ok (.sipush 291, 3) := by decide +kernel
theorem dX7_becomesGrey_52 : decode cX7_becomesGrey 52 = .ok (.dup2, 1) := by decide +kernel
theorem dX7_becomesGrey_53 : decode cX7_becomesGrey 53 = .ok (.iaload, 1) := by decide +kernel
theorem dX7_becomesGrey_54 : decode cX7_becomesGrey 54 = .ok (.iconst 1, 1) := by decide +kernel
theorem dX7_becomesGrey_55 : decode cX7_becomesGrey 55 = .ok (.iadd, 1) := by decide +kernel
theorem dX7_becomesGrey_56 : decode cX7_becomesGrey 56 = .ok (.iastore, 1) := by decide +kernel
theorem dX7_becomesGrey_57 : decode cX7_becomesGrey 57 = .ok (.return_, 1) := by decide +kernel
set_option maxRecDepth 20000 in
theorem ggX7_refinesOne_X7_leaves : GoodIn wsX7_refinesOne wsX7_leaves := goodIn_r _ [6, 1, 22, 23, 24, 25, 26, 27, 28, 29, 30, 31, 32, 33, 34, 35, 36, 37, 38, 39, 40, 41, 42, 43, 44, 45, 46, 47] (by decide +kernel) (by decide +kernel)
set_option maxRecDepth 20000 in
theorem gX7_refinesOne_X7_leaves : GoodIn wsX7_refinesOne (wsV RX7 77 RX7 yX7_leaves wsX7_leaves) := goodIn_app (goodIn_of _ (by decide +kernel)) ggX7_refinesOne_X7_leaves
set_option maxRecDepth 20000 in
theorem ggX7_refinesOne_X7_isThing : GoodIn wsX7_refinesOne wsX7_isThing := goodIn_r _ [10, 1, 11, 12, 5, 13, 22, 23, 24, 25, 26, 27, 28, 29, 30, 31, 32, 33, 34, 35, 36, 37, 38, 39, 40, 41, 42, 43, 44, 45, 46, 47] (by decide +kernel) (by decide +kernel)
set_option maxRecDepth 20000 in
theorem gX7_refinesOne_X7_isThing : GoodIn wsX7_refinesOne (wsV RX7 81 RX7 yX7_isThing wsX7_isThing) := goodIn_app (goodIn_of _ (by decide +kernel)) ggX7_refinesOne_X7_isThing
set_option maxRecDepth 20000 in
theorem ggX7_refinesOne_X7_cardOf : GoodIn wsX7_refinesOne wsX7_cardOf := goodIn_r _ [17, 18, 19, 20, 5, 21, 1, 22, 23, 24, 25, 26, 27, 28, 29, 30, 31, 32, 33, 34, 35, 36, 37, 38, 39, 40, 41, 42, 43, 44, 45, 46, 47] (by decide +kernel) (by decide +kernel)
set_option maxRecDepth 20000 in
theorem gX7_refinesOne_X7_cardOf : GoodIn wsX7_refinesOne (wsV RX7 84 RX7 yX7_cardOf wsX7_cardOf) := goodIn_app (goodIn_of _ (by decide +kernel)) ggX7_refinesOne_X7_cardOf
set_option maxRecDepth 20000 in
theorem ggX7_refinesOne_X7_ofThing : GoodIn wsX7_refinesOne wsX7_ofThing := goodIn_r _ [21, 1, 22, 23, 24, 25, 26, 27, 28, 29, 30, 31, 32, 33, 34, 35, 36, 37, 38, 39, 40, 41, 42, 43, 44, 45, 46, 47] (by decide +kernel) (by decide +kernel)
set_option maxRecDepth 20000 in
theorem gX7_refinesOne_X7_ofThing : GoodIn wsX7_refinesOne (wsV RX7 63 RX7 yX7_ofThing wsX7_ofThing) := goodIn_app (goodIn_of _ (by decide +kernel)) ggX7_refinesOne_X7_ofThing
theorem dX7_refinesOne_0 : decode cX7_refinesOne 0 = .ok (.aload_n 0, 1) := by decide +kernel
theorem dX7_refinesOne_1 : decode cX7_refinesOne 1 = .ok (.getfield 7, 3) := by decide +kernel
theorem dX7_refinesOne_4 : decode cX7_refinesOne 4 = .ok (.sipush 238, 3) := by decide +kernel
theorem dX7_refinesOne_7 : decode cX7_refinesOne 7 = .ok (.iaload, 1) := by decide +kernel
theorem dX7_refinesOne_8 : decode cX7_refinesOne 8 = .ok (.istore_n 1, 1) := by decide +kernel
theorem dX7_refinesOne_9 : decode cX7_refinesOne 9 = .ok (.aload_n 0, 1) := by decide +kernel
theorem dX7_refinesOne_10 : decode cX7_refinesOne 10 = .ok (.sipush 238, 3) := by decide +kernel
theorem dX7_refinesOne_13 : decode cX7_refinesOne 13 = .ok (.sipush 258, 3) := by decide +kernel
theorem dX7_refinesOne_16 : decode cX7_refinesOne 16 = .ok (.iconst 0, 1) := by decide +kernel
theorem dX7_refinesOne_17 : decode cX7_refinesOne 17 = .ok (.invokevirtual 77, 3) := by decide +kernel
theorem dX7_refinesOne_20 : decode cX7_refinesOne 20 = .ok (.iconst 0, 1) := by decide +kernel
theorem dX7_refinesOne_21 : decode cX7_refinesOne 21 = .ok (.istore_n 2, 1) := by decide +kernel
theorem dX7_refinesOne_22 : decode cX7_refinesOne 22 = .ok (.iload_n 2, 1) := by decide +kernel
theorem dX7_refinesOne_23 : decode cX7_refinesOne 23 = .ok (.bipush 32, 2) := by decide +kernel
theorem dX7_refinesOne_25 : decode cX7_refinesOne 25 = .ok (.if_icmp .ge 95, 3) := by decide +kernel
theorem dX7_refinesOne_28 : decode cX7_refinesOne 28 = .ok (.iconst 0, 1) := by decide +kernel
theorem dX7_refinesOne_29 : decode cX7_refinesOne 29 = .ok (.istore_n 3, 1) := by decide +kernel
theorem dX7_refinesOne_30 : decode cX7_refinesOne 30 = .ok (.iload_n 3, 1) := by decide +kernel
theorem dX7_refinesOne_31 : decode cX7_refinesOne 31 = .ok (.iconst 2, 1) := by decide +kernel
theorem dX7_refinesOne_32 : decode cX7_refinesOne 32 = .ok (.if_icmp .ge 82, 3) := by decide +kernel
theorem dX7_refinesOne_35 : decode cX7_refinesOne 35 = .ok (.aload_n 0, 1) := by decide +kernel
theorem dX7_refinesOne_36 : decode cX7_refinesOne 36 = .ok (.iload_n 2, 1) := by decide +kernel
theorem dX7_refinesOne_37 : decode cX7_refinesOne 37 = .ok (.invokevirtual 81, 3) := by decide +kernel
theorem dX7_refinesOne_40 : decode cX7_refinesOne 40 = .ok (.ifCond .eq 74, 3) := by decide +kernel
theorem dX7_refinesOne_43 : decode cX7_refinesOne 43 = .ok (.aload_n 0, 1) := by decide +kernel
theorem dX7_refinesOne_44 : decode cX7_refinesOne 44 = .ok (.iload_n 2, 1) := by decide +kernel
theorem dX7_refinesOne_45 : decode cX7_refinesOne 45 = .ok (.invokevirtual 84, 3) := by decide +kernel
theorem dX7_refinesOne_48 : decode cX7_refinesOne 48 = .ok (.iload_n 1, 1) := by decide +kernel
theorem dX7_refinesOne_49 : decode cX7_refinesOne 49 = .ok (.if_icmp .ne 65, 3) := by decide +kernel
theorem dX7_refinesOne_52 : decode cX7_refinesOne 52 = .ok (.aload_n 0, 1) := by decide +kernel
theorem dX7_refinesOne_53 : decode cX7_refinesOne 53 = .ok (.iload_n 2, 1) := by decide +kernel
theorem dX7_refinesOne_54 : decode cX7_refinesOne 54 = .ok (.iconst 3, 1) := by decide +kernel
theorem dX7_refinesOne_55 : decode cX7_refinesOne 55 = .ok (.iload_n 3, 1) := by decide +kernel
theorem dX7_refinesOne_56 : decode cX7_refinesOne 56 = .ok (.iadd, 1) := by decide +kernel
theorem dX7_refinesOne_57 : decode cX7_refinesOne 57 = .ok (.invokevirtual 63, 3) := by decide +kernel
theorem dX7_refinesOne_60 : decode cX7_refinesOne 60 = .ok (.istore 4, 2) := by decide +kernel
theorem dX7_refinesOne_62 : decode cX7_refinesOne 62 = .ok (.iload 4, 2) := by decide +kernel
theorem dX7_refinesOne_64 : decode cX7_refinesOne 64 = .ok (.bipush (-5), 2) := by decide +kernel
theorem dX7_refinesOne_66 : decode cX7_refinesOne 66 = .ok (.if_icmp .eq 42, 3) := by decide +kernel
theorem dX7_refinesOne_69 : decode cX7_refinesOne 69 = .ok (.aload_n 0, 1) := by decide +kernel
theorem dX7_refinesOne_70 : decode cX7_refinesOne 70 = .ok (.iload 4, 2) := by decide +kernel
theorem dX7_refinesOne_72 : decode cX7_refinesOne 72 = .ok (.iconst 1, 1) := by decide +kernel
theorem dX7_refinesOne_73 : decode cX7_refinesOne 73 = .ok (.invokevirtual 63, 3) := by decide +kernel
theorem dX7_refinesOne_76 : decode cX7_refinesOne 76 = .ok (.iload_n 1, 1) := by decide +kernel
theorem dX7_refinesOne_77 : decode cX7_refinesOne 77 = .ok (.iconst 2, 1) := by decide +kernel
theorem dX7_refinesOne_78 : decode cX7_refinesOne 78 = .ok (.idiv, 1) := by decide +kernel
theorem dX7_refinesOne_79 : decode cX7_refinesOne 79 = .ok (.if_icmp .eq 29, 3) := by decide +kernel
theorem dX7_refinesOne_82 : decode cX7_refinesOne 82 = .ok (.aload_n 0, 1) := by decide +kernel
theorem dX7_refinesOne_83 : decode cX7_refinesOne 83 = .ok (.getfield 7, 3) := by decide +kernel
theorem dX7_refinesOne_86 : decode cX7_refinesOne 86 = .ok (.sipush 198, 3) := by decide +kernel
theorem dX7_refinesOne_89 : decode cX7_refinesOne 89 = .ok (.iconst 4, 1) := by decide +kernel
theorem dX7_refinesOne_90 : decode cX7_refinesOne 90 = .ok (.aload_n 0, 1) := by decide +kernel
theorem dX7_refinesOne_91 : decode cX7_refinesOne 91 = .ok (.iload 4, 2) := by decide +kernel
theorem dX7_refinesOne_93 : decode cX7_refinesOne 93 = .ok (.iconst 1, 1) := by decide +kernel
theorem dX7_refinesOne_94 : decode cX7_refinesOne 94 = .ok (.invokevirtual 63, 3) := by decide +kernel
theorem dX7_refinesOne_97 : decode cX7_refinesOne 97 = .ok (.imul, 1) := by decide +kernel
theorem dX7_refinesOne_98 : decode cX7_refinesOne 98 = .ok (.iadd, 1) := by decide +kernel
theorem dX7_refinesOne_99 : decode cX7_refinesOne 99 = .ok (.iconst 3, 1) := by decide +kernel
theorem dX7_refinesOne_100 : decode cX7_refinesOne 100 = .ok (.iadd, 1) := by decide +kernel
theorem dX7_refinesOne_101 : decode cX7_refinesOne 101 = .ok (.dup2, 1) := by decide +kernel
theorem dX7_refinesOne_102 : decode cX7_refinesOne 102 = .ok (.iaload, 1) := by decide +kernel
theorem dX7_refinesOne_103 : decode cX7_refinesOne 103 = .ok (.iconst 1, 1) := by decide +kernel
theorem dX7_refinesOne_104 : decode cX7_refinesOne 104 = .ok (.iload_n 1, 1) := by decide +kernel
theorem dX7_refinesOne_105 : decode cX7_refinesOne 105 = .ok (.ishl, 1) := by decide +kernel
theorem dX7_refinesOne_106 : decode cX7_refinesOne 106 = .ok (.ior, 1) := by decide +kernel
theorem dX7_refinesOne_107 : decode cX7_refinesOne 107 = .ok (.iastore, 1) := by decide +kernel
theorem dX7_refinesOne_108 : decode cX7_refinesOne 108 = .ok (.iinc 3 1, 3) := by decide +kernel
theorem dX7_refinesOne_111 : decode cX7_refinesOne 111 = .ok (.goto (-81), 3) := by decide +kernel
theorem dX7_refinesOne_114 : decode cX7_refinesOne 114 = .ok (.iinc 2 1, 3) := by decide +kernel
theorem dX7_refinesOne_117 : decode cX7_refinesOne 117 = .ok (.goto (-95), 3) := by decide +kernel
theorem dX7_refinesOne_120 : decode cX7_refinesOne 120 = .ok (.return_, 1) := by decide +kernel
set_option maxRecDepth 20000 in
theorem ggX7_becomesFreeAlone_X7_setsRegion : GoodIn wsX7_becomesFreeAlone wsX7_setsRegion := goodIn_r _ [5, 6, 19, 20, 21, 22, 23, 24, 25, 26, 27, 28, 29, 30, 31, 32, 33, 34, 35, 36, 37, 38, 39, 40, 41, 42, 43, 44] (by decide +kernel) (by decide +kernel)
set_option maxRecDepth 20000 in
theorem gX7_becomesFreeAlone_X7_setsRegion : GoodIn wsX7_becomesFreeAlone (wsV RX7 88 RX7 yX7_setsRegion wsX7_setsRegion) := goodIn_app (goodIn_of _ (by decide +kernel)) ggX7_becomesFreeAlone_X7_setsRegion
set_option maxRecDepth 20000 in
theorem ggX7_becomesFreeAlone_X7_becomesClean : GoodIn wsX7_becomesFreeAlone wsX7_becomesClean := goodIn_r _ [10, 6, 11, 12, 13, 4, 14, 19, 20, 21, 22, 23, 24, 25, 26, 27, 28, 29, 30, 31, 32, 33, 34, 35, 36, 37, 38, 39, 40, 41, 42, 43, 44] (by decide +kernel) (by decide +kernel)
set_option maxRecDepth 20000 in
theorem gX7_becomesFreeAlone_X7_becomesClean : GoodIn wsX7_becomesFreeAlone (wsV RX7 91 RX7 yX7_becomesClean wsX7_becomesClean) := goodIn_app (goodIn_of _ (by decide +kernel)) ggX7_becomesFreeAlone_X7_becomesClean
set_option maxRecDepth 20000 in
theorem ggX7_becomesFreeAlone_X7_ofRegion : GoodIn wsX7_becomesFreeAlone wsX7_ofRegion := goodIn_r _ [18, 6, 19, 20, 21, 22, 23, 24, 25, 26, 27, 28, 29, 30, 31, 32, 33, 34, 35, 36, 37, 38, 39, 40, 41, 42, 43, 44] (by decide +kernel) (by decide +kernel)
set_option maxRecDepth 20000 in
theorem gX7_becomesFreeAlone_X7_ofRegion : GoodIn wsX7_becomesFreeAlone (wsV RX7 67 RX7 yX7_ofRegion wsX7_ofRegion) := goodIn_app (goodIn_of _ (by decide +kernel)) ggX7_becomesFreeAlone_X7_ofRegion
theorem dX7_becomesFreeAlone_0 : decode cX7_becomesFreeAlone 0 = .ok (.aload_n 0, 1) := by decide +kernel
theorem dX7_becomesFreeAlone_1 : decode cX7_becomesFreeAlone 1 = .ok (.iload_n 1, 1) := by decide +kernel
theorem dX7_becomesFreeAlone_2 : decode cX7_becomesFreeAlone 2 = .ok (.iconst 0, 1) := by decide +kernel
theorem dX7_becomesFreeAlone_3 : decode cX7_becomesFreeAlone 3 = .ok (.iconst 0, 1) := by decide +kernel
theorem dX7_becomesFreeAlone_4 : decode cX7_becomesFreeAlone 4 = .ok (.invokevirtual 88, 3) := by decide +kernel
theorem dX7_becomesFreeAlone_7 : decode cX7_becomesFreeAlone 7 = .ok (.aload_n 0, 1) := by decide +kernel
theorem dX7_becomesFreeAlone_8 : decode cX7_becomesFreeAlone 8 = .ok (.iload_n 1, 1) := by decide +kernel
theorem dX7_becomesFreeAlone_9 : decode cX7_becomesFreeAlone 9 = .ok (.iconst 1, 1) := by decide +kernel
theorem dX7_becomesFreeAlone_10 : decode cX7_becomesFreeAlone 10 = .ok (.iconst 0, 1) := by decide +kernel
theorem dX7_becomesFreeAlone_11 : decode cX7_becomesFreeAlone 11 = .ok (.invokevirtual 88, 3) := by decide +kernel
theorem dX7_becomesFreeAlone_14 : decode cX7_becomesFreeAlone 14 = .ok (.aload_n 0, 1) := by decide +kernel
theorem dX7_becomesFreeAlone_15 : decode cX7_becomesFreeAlone 15 = .ok (.iload_n 1, 1) := by decide +kernel
theorem dX7_becomesFreeAlone_16 : decode cX7_becomesFreeAlone 16 = .ok (.iconst 2, 1) := by decide +kernel
theorem dX7_becomesFreeAlone_17 : decode cX7_becomesFreeAlone 17 = .ok (.bipush (-9), 2) := by decide +kernel
theorem dX7_becomesFreeAlone_19 : decode cX7_becomesFreeAlone 19 = .ok (.invokevirtual 88, 3) := by decide +kernel
theorem dX7_becomesFreeAlone_22 : decode cX7_becomesFreeAlone 22 = .ok (.aload_n 0, 1) := by decide +kernel
theorem dX7_becomesFreeAlone_23 : decode cX7_becomesFreeAlone 23 = .ok (.iload_n 1, 1) := by decide +kernel
theorem dX7_becomesFreeAlone_24 : decode cX7_becomesFreeAlone 24 = .ok (.iconst 3, 1) := by decide +kernel
theorem dX7_becomesFreeAlone_25 : decode cX7_becomesFreeAlone 25 = .ok (.iconst 0, 1) := by decide +kernel
theorem dX7_becomesFreeAlone_26 : decode cX7_becomesFreeAlone 26 = .ok (.invokevirtual 88, 3) := by decide +kernel
theorem dX7_becomesFreeAlone_29 : decode cX7_becomesFreeAlone 29 = .ok (.aload_n 0, 1) := by decide +kernel
theorem dX7_becomesFreeAlone_30 : decode cX7_becomesFreeAlone 30 = .ok (.iconst 2, 1) := by decide +kernel
theorem dX7_becomesFreeAlone_31 : decode cX7_becomesFreeAlone 31 = .ok (.iload_n 1, 1) := by decide +kernel
theorem dX7_becomesFreeAlone_32 : decode cX7_becomesFreeAlone 32 = .ok (.imul, 1) := by decide +kernel
theorem dX7_becomesFreeAlone_33 : decode cX7_becomesFreeAlone 33 = .ok (.invokevirtual 91, 3) := by decide +kernel
theorem dX7_becomesFreeAlone_36 : decode cX7_becomesFreeAlone 36 = .ok (.aload_n 0, 1) := by decide +kernel
theorem dX7_becomesFreeAlone_37 : decode cX7_becomesFreeAlone 37 = .ok (.iconst 2, 1) := by decide +kernel
theorem dX7_becomesFreeAlone_38 : decode cX7_becomesFreeAlone 38 = .ok (.iload_n 1, 1) := by decide +kernel
theorem dX7_becomesFreeAlone_39 : decode cX7_becomesFreeAlone 39 = .ok (.imul, 1) := by decide +kernel
theorem dX7_becomesFreeAlone_40 : decode cX7_becomesFreeAlone 40 = .ok (.iconst 1, 1) := by decide +kernel
theorem dX7_becomesFreeAlone_41 : decode cX7_becomesFreeAlone 41 = .ok (.iadd, 1) := by decide +kernel
theorem dX7_becomesFreeAlone_42 : decode cX7_becomesFreeAlone 42 = .ok (.invokevirtual 91, 3) := by decide +kernel
theorem dX7_becomesFreeAlone_45 : decode cX7_becomesFreeAlone 45 = .ok (.iconst 0, 1) := by decide +kernel
theorem dX7_becomesFreeAlone_46 : decode cX7_becomesFreeAlone 46 = .ok (.istore_n 2, 1) := by decide +kernel
theorem dX7_becomesFreeAlone_47 : decode cX7_becomesFreeAlone 47 = .ok (.iload_n 2, 1) := by decide +kernel
theorem dX7_becomesFreeAlone_48 : decode cX7_becomesFreeAlone 48 = .ok (.bipush 10, 2) := by decide +kernel
theorem dX7_becomesFreeAlone_50 : decode cX7_becomesFreeAlone 50 = .ok (.if_icmp .ge 29, 3) := by decide +kernel
theorem dX7_becomesFreeAlone_53 : decode cX7_becomesFreeAlone 53 = .ok (.aload_n 0, 1) := by decide +kernel
theorem dX7_becomesFreeAlone_54 : decode cX7_becomesFreeAlone 54 = .ok (.iload_n 2, 1) := by decide +kernel
theorem dX7_becomesFreeAlone_55 : decode cX7_becomesFreeAlone 55 = .ok (.iconst 3, 1) := by decide +kernel
theorem dX7_becomesFreeAlone_56 : decode cX7_becomesFreeAlone 56 = .ok (.aload_n 0, 1) := by decide +kernel
theorem dX7_becomesFreeAlone_57 : decode cX7_becomesFreeAlone 57 = .ok (.iload_n 2, 1) := by decide +kernel
theorem dX7_becomesFreeAlone_58 : decode cX7_becomesFreeAlone 58 = .ok (.iconst 3, 1) := by decide +kernel
theorem dX7_becomesFreeAlone_59 : decode cX7_becomesFreeAlone 59 = .ok (.invokevirtual 67, 3) := by decide +kernel
theorem dX7_becomesFreeAlone_62 : decode cX7_becomesFreeAlone 62 = .ok (.iconst 3, 1) := by decide +kernel
theorem dX7_becomesFreeAlone_63 : decode cX7_becomesFreeAlone 63 = .ok (.iconst 2, 1) := by decide +kernel
theorem dX7_becomesFreeAlone_64 : decode cX7_becomesFreeAlone 64 = .ok (.iload_n 1, 1) := by decide +kernel
theorem dX7_becomesFreeAlone_65 : decode cX7_becomesFreeAlone 65 = .ok (.imul, 1) := by decide +kernel
theorem dX7_becomesFreeAlone_66 : decode cX7_becomesFreeAlone 66 = .ok (.ishl, 1) := by decide +kernel
theorem dX7_becomesFreeAlone_67 : decode cX7_becomesFreeAlone 67 = .ok (.iconst (-1), 1) := by decide +kernel
theorem dX7_becomesFreeAlone_68 : decode cX7_becomesFreeAlone 68 = .ok (.ixor, 1) := by decide +kernel
theorem dX7_becomesFreeAlone_69 : decode cX7_becomesFreeAlone 69 = .ok (.iand, 1) := by decide +kernel
theorem dX7_becomesFreeAlone_70 : decode cX7_becomesFreeAlone 70 = .ok (.invokevirtual 88, 3) := by decide +kernel
theorem dX7_becomesFreeAlone_73 : decode cX7_becomesFreeAlone 73 = .ok (.iinc 2 1, 3) := by decide +kernel
theorem dX7_becomesFreeAlone_76 : decode cX7_becomesFreeAlone 76 = .ok (.goto (-29), 3) := by decide +kernel
theorem dX7_becomesFreeAlone_79 : decode cX7_becomesFreeAlone 79 = .ok (.return_, 1) := by decide +kernel
set_option maxRecDepth 20000 in
theorem ggX7_becomesFree_X7_ofRegion : GoodIn wsX7_becomesFree wsX7_ofRegion := goodIn_r _ [5, 6, 23, 24, 25, 26, 27, 28, 29, 30, 31, 32, 33, 34, 35, 36, 37, 38, 39, 40, 41, 42, 43, 44, 45, 46, 47, 48] (by decide +kernel) (by decide +kernel)
set_option maxRecDepth 20000 in
theorem gX7_becomesFree_X7_ofRegion : GoodIn wsX7_becomesFree (wsV RX7 67 RX7 yX7_ofRegion wsX7_ofRegion) := goodIn_app (goodIn_of _ (by decide +kernel)) ggX7_becomesFree_X7_ofRegion
set_option maxRecDepth 20000 in
theorem ggX7_becomesFree_X7_becomesFreeAlone : GoodIn wsX7_becomesFree wsX7_becomesFreeAlone := goodIn_r _ [10, 11, 12, 13, 4, 14, 6, 15, 16, 17, 18, 19, 20, 21, 22, 1, 2, 3, 5, 23, 24, 25, 26, 27, 28, 29, 30, 31, 32, 33, 34, 35, 36, 37, 38, 39, 40, 41, 42, 43, 44, 45, 46, 47, 48] (by decide +kernel) (by decide +kernel)
set_option maxRecDepth 20000 in
theorem gX7_becomesFree_X7_becomesFreeAlone : GoodIn wsX7_becomesFree (wsV RX7 95 RX7 yX7_becomesFreeAlone wsX7_becomesFreeAlone) := goodIn_app (goodIn_of _ (by decide +kernel)) ggX7_becomesFree_X7_becomesFreeAlone
theorem dX7_becomesFree_0 : decode cX7_becomesFree 0 = .ok (.aload_n 0, 1) := by decide +kernel
theorem dX7_becomesFree_1 : decode cX7_becomesFree 1 = .ok (.iload_n 1, 1) := by decide +kernel
theorem dX7_becomesFree_2 : decode cX7_becomesFree 2 = .ok (.iconst 0, 1) := by decide +kernel
theorem dX7_becomesFree_3 : decode cX7_becomesFree 3 = .ok (.invokevirtual 67, 3) := by decide +kernel
theorem dX7_becomesFree_6 : decode cX7_becomesFree 6 = .ok (.iconst 3, 1) := by decide +kernel
theorem dX7_becomesFree_7 : decode cX7_becomesFree 7 = .ok (.if_icmp .ne 7, 3) := by decide +kernel
theorem dX7_becomesFree_10 : decode cX7_becomesFree 10 = .ok (.iconst 1, 1) := by decide +kernel
theorem dX7_becomesFree_11 : decode cX7_becomesFree 11 = .ok (.goto 4, 3) := by decide +kernel
theorem dX7_becomesFree_14 : decode cX7_becomesFree 14 = .ok (.iconst 0, 1) := by decide +kernel
theorem dX7_becomesFree_15 : decode cX7_becomesFree 15 = .ok (.istore_n 2, 1) := by decide +kernel
theorem dX7_becomesFree_16 : decode cX7_becomesFree 16 = .ok (.aload_n 0, 1) := by decide +kernel
theorem dX7_becomesFree_17 : decode cX7_becomesFree 17 = .ok (.iload_n 1, 1) := by decide +kernel
theorem dX7_becomesFree_18 : decode cX7_becomesFree 18 = .ok (.invokevirtual 95, 3) := by decide +kernel
theorem dX7_becomesFree_21 : decode cX7_becomesFree 21 = .ok (.iload_n 1, 1) := by decide +kernel
theorem dX7_becomesFree_22 : decode cX7_becomesFree 22 = .ok (.iconst 1, 1) := by decide +kernel
theorem dX7_becomesFree_23 : decode cX7_becomesFree 23 = .ok (.iadd, 1) := by decide +kernel
theorem dX7_becomesFree_24 : decode cX7_becomesFree 24 = .ok (.istore_n 3, 1) := by decide +kernel
theorem dX7_becomesFree_25 : decode cX7_becomesFree 25 = .ok (.iload_n 2, 1) := by decide +kernel
theorem dX7_becomesFree_26 : decode cX7_becomesFree 26 = .ok (.ifCond .eq 30, 3) := by decide +kernel
theorem dX7_becomesFree_29 : decode cX7_becomesFree 29 = .ok (.iload_n 3, 1) := by decide +kernel
theorem dX7_becomesFree_30 : decode cX7_becomesFree 30 = .ok (.bipush 10, 2) := by decide +kernel
theorem dX7_becomesFree_32 : decode cX7_becomesFree 32 = .ok (.if_icmp .ge 24, 3) := by decide +kernel
theorem dX7_becomesFree_35 : decode cX7_becomesFree 35 = .ok (.aload_n 0, 1) := by decide +kernel
theorem dX7_becomesFree_36 : decode cX7_becomesFree 36 = .ok (.iload_n 3, 1) := by decide +kernel
theorem dX7_becomesFree_37 : decode cX7_becomesFree 37 = .ok (.iconst 0, 1) := by decide +kernel
theorem dX7_becomesFree_38 : decode cX7_becomesFree 38 = .ok (.invokevirtual 67, 3) := by decide +kernel
theorem dX7_becomesFree_41 : decode cX7_becomesFree 41 = .ok (.iconst 4, 1) := by decide +kernel
theorem dX7_becomesFree_42 : decode cX7_becomesFree 42 = .ok (.if_icmp .ne 14, 3) := by decide +kernel
theorem dX7_becomesFree_45 : decode cX7_becomesFree 45 = .ok (.aload_n 0, 1) := by decide +kernel
theorem dX7_becomesFree_46 : decode cX7_becomesFree 46 = .ok (.iload_n 3, 1) := by decide +kernel
theorem dX7_becomesFree_47 : decode cX7_becomesFree 47 = .ok (.invokevirtual 95, 3) := by decide +kernel
theorem dX7_becomesFree_50 : decode cX7_becomesFree 50 = .ok (.iinc 3 1, 3) := by decide +kernel
theorem dX7_becomesFree_53 : decode cX7_becomesFree 53 = .ok (.goto (-28), 3) := by decide +kernel
theorem dX7_becomesFree_56 : decode cX7_becomesFree 56 = .ok (.return_, 1) := by decide +kernel
set_option maxRecDepth 20000 in
theorem ggX7_isNoMore_X7_ofThing : GoodIn wsX7_isNoMore wsX7_ofThing := goodIn_r _ [6, 1, 7, 8, 9, 10, 11, 12, 13, 14, 15, 16, 17, 18, 19, 20, 21, 22, 23, 24, 25, 26, 27, 28, 29, 30, 31, 32] (by decide +kernel) (by decide +kernel)
set_option maxRecDepth 20000 in
theorem gX7_isNoMore_X7_ofThing : GoodIn wsX7_isNoMore (wsV RX7 63 RX7 yX7_ofThing wsX7_ofThing) := goodIn_app (goodIn_of _ (by decide +kernel)) ggX7_isNoMore_X7_ofThing
theorem dX7_isNoMore_0 : decode cX7_isNoMore 0 = .ok (.aload_n 0, 1) := by decide +kernel
theorem dX7_isNoMore_1 : decode cX7_isNoMore 1 = .ok (.getfield 7, 3) := by decide +kernel
theorem dX7_isNoMore_4 : decode cX7_isNoMore 4 = .ok (.bipush 6, 2) := by decide +kernel
theorem dX7_isNoMore_6 : decode cX7_isNoMore 6 = .ok (.iload_n 1, 1) := by decide +kernel
theorem dX7_isNoMore_7 : decode cX7_isNoMore 7 = .ok (.imul, 1) := by decide +kernel
theorem dX7_isNoMore_8 : decode cX7_isNoMore 8 = .ok (.iconst 0, 1) := by decide +kernel
theorem dX7_isNoMore_9 : decode cX7_isNoMore 9 = .ok (.iadd, 1) := by decide +kernel
theorem dX7_isNoMore_10 : decode cX7_isNoMore 10 = .ok (.iconst 0, 1) := by decide +kernel
theorem dX7_isNoMore_11 : decode cX7_isNoMore 11 = .ok (.iastore, 1) := by decide +kernel
theorem dX7_isNoMore_12 : decode cX7_isNoMore 12 = .ok (.iconst 0, 1) := by decide +kernel
theorem dX7_isNoMore_13 : decode cX7_isNoMore 13 = .ok (.istore_n 2, 1) := by decide +kernel
theorem dX7_isNoMore_14 : decode cX7_isNoMore 14 = .ok (.iload_n 2, 1) := by decide +kernel
theorem dX7_isNoMore_15 : decode cX7_isNoMore 15 = .ok (.bipush 32, 2) := by decide +kernel
theorem dX7_isNoMore_17 : decode cX7_isNoMore 17 = .ok (.if_icmp .ge 49, 3) := by decide +kernel
theorem dX7_isNoMore_20 : decode cX7_isNoMore 20 = .ok (.iconst 0, 1) := by decide +kernel
theorem dX7_isNoMore_21 : decode cX7_isNoMore 21 = .ok (.istore_n 3, 1) := by decide +kernel
theorem dX7_isNoMore_22 : decode cX7_isNoMore 22 = .ok (.iload_n 3, 1) := by decide +kernel
theorem dX7_isNoMore_23 : decode cX7_isNoMore 23 = .ok (.iconst 2, 1) := by decide +kernel
theorem dX7_isNoMore_24 : decode cX7_isNoMore 24 = .ok (.if_icmp .ge 36, 3) := by decide +kernel
theorem dX7_isNoMore_27 : decode cX7_isNoMore 27 = .ok (.aload_n 0, 1) := by decide +kernel
theorem dX7_isNoMore_28 : decode cX7_isNoMore 28 = .ok (.iload_n 2, 1) := by decide +kernel
theorem dX7_isNoMore_29 : decode cX7_isNoMore 29 = .ok (.iconst 3, 1) := by decide +kernel
theorem dX7_isNoMore_30 : decode cX7_isNoMore 30 = .ok (.iload_n 3, 1) := by decide +kernel
theorem dX7_isNoMore_31 : decode cX7_isNoMore 31 = .ok (.iadd, 1) := by decide +kernel
theorem dX7_isNoMore_32 : decode cX7_isNoMore 32 = .ok (.invokevirtual 63, 3) := by decide +kernel
theorem dX7_isNoMore_35 : decode cX7_isNoMore 35 = .ok (.iload_n 1, 1) := by decide +kernel
theorem dX7_isNoMore_36 : decode cX7_isNoMore 36 = .ok (.if_icmp .ne 18, 3) := by decide +kernel
theorem dX7_isNoMore_39 : decode cX7_isNoMore 39 = .ok (.aload_n 0, 1) := by decide +kernel
theorem dX7_isNoMore_40 : decode cX7_isNoMore 40 = .ok (.getfield 7, 3) := by decide +kernel
theorem dX7_isNoMore_43 : decode cX7_isNoMore 43 = .ok (.bipush 6, 2) := by decide +kernel
theorem dX7_isNoMore_45 : decode cX7_isNoMore 45 = .ok (.iload_n 2, 1) := by decide +kernel
theorem dX7_isNoMore_46 : decode cX7_isNoMore 46 = .ok (.imul, 1) := by decide +kernel
theorem dX7_isNoMore_47 : decode cX7_isNoMore 47 = .ok (.iconst 3, 1) := by decide +kernel
theorem dX7_isNoMore_48 : decode cX7_isNoMore 48 = .ok (.iadd, 1) := by decide +kernel
theorem dX7_isNoMore_49 : decode cX7_isNoMore 49 = .ok (.iload_n 3, 1) := by decide +kernel
theorem dX7_isNoMore_50 : decode cX7_isNoMore 50 = .ok (.iadd, 1) := by decide +kernel
theorem dX7_isNoMore_51 : decode cX7_isNoMore 51 = .ok (.bipush (-5), 2) := by decide +kernel
theorem dX7_isNoMore_53 : decode cX7_isNoMore 53 = .ok (.iastore, 1) := by decide +kernel
theorem dX7_isNoMore_54 : decode cX7_isNoMore 54 = .ok (.iinc 3 1, 3) := by decide +kernel
theorem dX7_isNoMore_57 : decode cX7_isNoMore 57 = .ok (.goto (-35), 3) := by decide +kernel
theorem dX7_isNoMore_60 : decode cX7_isNoMore 60 = .ok (.iinc 2 1, 3) := by decide +kernel
theorem dX7_isNoMore_63 : decode cX7_isNoMore 63 = .ok (.goto (-49), 3) := by decide +kernel
theorem dX7_isNoMore_66 : decode cX7_isNoMore 66 = .ok (.return_, 1) := by decide +kernel
set_option maxRecDepth 20000 in
theorem ggX7_emptied_X7_isThing : GoodIn wsX7_emptied wsX7_isThing := goodIn_r _ [5, 6, 7, 8, 4, 9, 18, 19, 20, 21, 22, 23, 24, 25, 26, 27, 28, 29, 30, 31, 32, 33, 34, 35, 36, 37, 38, 39, 40, 41, 42, 43] (by decide +kernel) (by decide +kernel)
set_option maxRecDepth 20000 in
theorem gX7_emptied_X7_isThing : GoodIn wsX7_emptied (wsV RX7 81 RX7 yX7_isThing wsX7_isThing) := goodIn_app (goodIn_of _ (by decide +kernel)) ggX7_emptied_X7_isThing
set_option maxRecDepth 20000 in
theorem ggX7_emptied_X7_ofThing : GoodIn wsX7_emptied wsX7_ofThing := goodIn_r _ [13, 6, 18, 19, 20, 21, 22, 23, 24, 25, 26, 27, 28, 29, 30, 31, 32, 33, 34, 35, 36, 37, 38, 39, 40, 41, 42, 43] (by decide +kernel) (by decide +kernel)
set_option maxRecDepth 20000 in
theorem gX7_emptied_X7_ofThing : GoodIn wsX7_emptied (wsV RX7 63 RX7 yX7_ofThing wsX7_ofThing) := goodIn_app (goodIn_of _ (by decide +kernel)) ggX7_emptied_X7_ofThing
set_option maxRecDepth 20000 in
theorem ggX7_emptied_X7_isNoMore : GoodIn wsX7_emptied wsX7_isNoMore := goodIn_r _ [17, 6, 10, 11, 12, 4, 13, 18, 19, 20, 21, 22, 23, 24, 25, 26, 27, 28, 29, 30, 31, 32, 33, 34, 35, 36, 37, 38, 39, 40, 41, 42, 43] (by decide +kernel) (by decide +kernel)
set_option maxRecDepth 20000 in
theorem gX7_emptied_X7_isNoMore : GoodIn wsX7_emptied (wsV RX7 98 RX7 yX7_isNoMore wsX7_isNoMore) := goodIn_app (goodIn_of _ (by decide +kernel)) ggX7_emptied_X7_isNoMore
theorem dX7_emptied_0 : decode cX7_emptied 0 = .ok (.iconst 0, 1) := by decide +kernel
theorem dX7_emptied_1 : decode cX7_emptied 1 = .ok (.istore_n 3, 1) := by decide +kernel
theorem dX7_emptied_2 : decode cX7_emptied 2 = .ok (.iload_n 3, 1) := by decide +kernel
theorem dX7_emptied_3 : decode cX7_emptied 3 = .ok (.bipush 32, 2) := by decide +kernel
theorem dX7_emptied_5 : decode cX7_emptied 5 = .ok (.if_icmp .ge 40, 3) := by decide +kernel
theorem dX7_emptied_8 : decode cX7_emptied 8 = .ok (.aload_n 0, 1) := by decide +kernel
theorem dX7_emptied_9 : decode cX7_emptied 9 = .ok (.iload_n 3, 1) := by decide +kernel
theorem dX7_emptied_10 : decode cX7_emptied 10 = .ok (.invokevirtual 81, 3) := by decide +kernel
theorem dX7_emptied_13 : decode cX7_emptied 13 = .ok (.ifCond .eq 26, 3) := by decide +kernel
theorem dX7_emptied_16 : decode cX7_emptied 16 = .ok (.aload_n 0, 1) := by decide +kernel
theorem dX7_emptied_17 : decode cX7_emptied 17 = .ok (.iload_n 3, 1) := by decide +kernel
theorem dX7_emptied_18 : decode cX7_emptied 18 = .ok (.iconst 1, 1) := by decide +kernel
theorem dX7_emptied_19 : decode cX7_emptied 19 = .ok (.invokevirtual 63, 3) := by decide +kernel
theorem dX7_emptied_22 : decode cX7_emptied 22 = .ok (.iload_n 1, 1) := by decide +kernel
theorem dX7_emptied_23 : decode cX7_emptied 23 = .ok (.if_icmp .ne 16, 3) := by decide +kernel
theorem dX7_emptied_26 : decode cX7_emptied 26 = .ok (.iload_n 2, 1) := by decide +kernel
theorem dX7_emptied_27 : decode cX7_emptied 27 = .ok (.iload_n 3, 1) := by decide +kernel
theorem dX7_emptied_28 : decode cX7_emptied 28 = .ok (.ishr, 1) := by decide +kernel
theorem dX7_emptied_29 : decode cX7_emptied 29 = .ok (.iconst 1, 1) := by decide +kernel
theorem dX7_emptied_30 : decode cX7_emptied 30 = .ok (.iand, 1) := by decide +kernel
theorem dX7_emptied_31 : decode cX7_emptied 31 = .ok (.ifCond .ne 8, 3) := by decide +kernel
theorem dX7_emptied_34 : decode cX7_emptied 34 = .ok (.aload_n 0, 1) := by decide +kernel
theorem dX7_emptied_35 : decode cX7_emptied 35 = .ok (.iload_n 3, 1) := by decide +kernel
theorem dX7_emptied_36 : decode cX7_emptied 36 = .ok (.invokevirtual 98, 3) := by decide +kernel
theorem dX7_emptied_39 : decode cX7_emptied 39 = .ok (.iinc 3 1, 3) := by decide +kernel
theorem dX7_emptied_42 : decode cX7_emptied 42 = .ok (.goto (-40), 3) := by decide +kernel
theorem dX7_emptied_45 : decode cX7_emptied 45 = .ok (.return_, 1) := by decide +kernel
set_option maxRecDepth 20000 in
theorem ggX7_lowestFree_X7_ofRegion : GoodIn wsX7_lowestFree wsX7_ofRegion := goodIn_r _ [5, 6, 7, 8, 9, 10, 11, 12, 13, 14, 15, 16, 17, 18, 19, 20, 21, 22, 23, 24, 25, 26, 27, 28, 29, 30, 31, 32] (by decide +kernel) (by decide +kernel)
set_option maxRecDepth 20000 in
theorem gX7_lowestFree_X7_ofRegion : GoodIn wsX7_lowestFree (wsV RX7 67 RX7 yX7_ofRegion wsX7_ofRegion) := goodIn_app (goodIn_of _ (by decide +kernel)) ggX7_lowestFree_X7_ofRegion
theorem dX7_lowestFree_0 : decode cX7_lowestFree 0 = .ok (.iconst 0, 1) := by decide +kernel
theorem dX7_lowestFree_1 : decode cX7_lowestFree 1 = .ok (.istore_n 2, 1) := by decide +kernel
theorem dX7_lowestFree_2 : decode cX7_lowestFree 2 = .ok (.iload_n 2, 1) := by decide +kernel
theorem dX7_lowestFree_3 : decode cX7_lowestFree 3 = .ok (.iload_n 1, 1) := by decide +kernel
theorem dX7_lowestFree_4 : decode cX7_lowestFree 4 = .ok (.iadd, 1) := by decide +kernel
theorem dX7_lowestFree_5 : decode cX7_lowestFree 5 = .ok (.bipush 10, 2) := by decide +kernel
theorem dX7_lowestFree_7 : decode cX7_lowestFree 7 = .ok (.if_icmp .gt 54, 3) := by decide +kernel
theorem dX7_lowestFree_10 : decode cX7_lowestFree 10 = .ok (.iconst 1, 1) := by decide +kernel
theorem dX7_lowestFree_11 : decode cX7_lowestFree 11 = .ok (.istore_n 3, 1) := by decide +kernel
theorem dX7_lowestFree_12 : decode cX7_lowestFree 12 = .ok (.iload_n 2, 1) := by decide +kernel
theorem dX7_lowestFree_13 : decode cX7_lowestFree 13 = .ok (.istore 4, 2) := by decide +kernel
theorem dX7_lowestFree_15 : decode cX7_lowestFree 15 = .ok (.iload 4, 2) := by decide +kernel
theorem dX7_lowestFree_17 : decode cX7_lowestFree 17 = .ok (.iload_n 2, 1) := by decide +kernel
theorem dX7_lowestFree_18 : decode cX7_lowestFree 18 = .ok (.iload_n 1, 1) := by decide +kernel
theorem dX7_lowestFree_19 : decode cX7_lowestFree 19 = .ok (.iadd, 1) := by decide +kernel
theorem dX7_lowestFree_20 : decode cX7_lowestFree 20 = .ok (.if_icmp .ge 29, 3) := by decide +kernel
theorem dX7_lowestFree_23 : decode cX7_lowestFree 23 = .ok (.iload_n 3, 1) := by decide +kernel
theorem dX7_lowestFree_24 : decode cX7_lowestFree 24 = .ok (.ifCond .eq 17, 3) := by decide +kernel
theorem dX7_lowestFree_27 : decode cX7_lowestFree 27 = .ok (.aload_n 0, 1) := by decide +kernel
theorem dX7_lowestFree_28 : decode cX7_lowestFree 28 = .ok (.iload 4, 2) := by decide +kernel
theorem dX7_lowestFree_30 : decode cX7_lowestFree 30 = .ok (.iconst 0, 1) := by decide +kernel
theorem dX7_lowestFree_31 : decode cX7_lowestFree 31 = .ok (.invokevirtual 67, 3) := by decide +kernel
theorem dX7_lowestFree_34 : decode cX7_lowestFree 34 = .ok (.ifCond .ne 7, 3) := by decide +kernel
theorem dX7_lowestFree_37 : decode cX7_lowestFree 37 = .ok (.iconst 1, 1) := by decide +kernel
theorem dX7_lowestFree_38 : decode cX7_lowestFree 38 = .ok (.goto 4, 3) := by decide +kernel
theorem dX7_lowestFree_41 : decode cX7_lowestFree 41 = .ok (.iconst 0, 1) := by decide +kernel
theorem dX7_lowestFree_42 : decode cX7_lowestFree 42 = .ok (.istore_n 3, 1) := by decide +kernel
theorem dX7_lowestFree_43 : decode cX7_lowestFree 43 = .ok (.iinc 4 1, 3) := by decide +kernel
theorem dX7_lowestFree_46 : decode cX7_lowestFree 46 = .ok (.goto (-31), 3) := by decide +kernel
theorem dX7_lowestFree_49 : decode cX7_lowestFree 49 = .ok (.iload_n 3, 1) := by decide +kernel
theorem dX7_lowestFree_50 : decode cX7_lowestFree 50 = .ok (.ifCond .eq 5, 3) := by decide +kernel
theorem dX7_lowestFree_53 : decode cX7_lowestFree 53 = .ok (.iload_n 2, 1) := by decide +kernel
theorem dX7_lowestFree_54 : decode cX7_lowestFree 54 = .ok (.ireturn, 1) := by decide +kernel
theorem dX7_lowestFree_55 : decode cX7_lowestFree 55 = .ok (.iinc 2 1, 3) := by decide +kernel
theorem dX7_lowestFree_58 : decode cX7_lowestFree 58 = .ok (.goto (-56), 3) := by decide +kernel
theorem dX7_lowestFree_61 : decode cX7_lowestFree 61 = .ok (.bipush (-9), 2) := by decide +kernel
theorem dX7_lowestFree_63 : decode cX7_lowestFree 63 = .ok (.ireturn, 1) := by decide +kernel
set_option maxRecDepth 20000 in
theorem ggX7_lowestNumber_X7_isThing : GoodIn wsX7_lowestNumber wsX7_isThing := goodIn_r _ [5, 6, 7, 8, 4, 9, 10, 11, 12, 13, 14, 15, 16, 17, 18, 19, 20, 21, 22, 23, 24, 25, 26, 27, 28, 29, 30, 31, 32, 33, 34, 35] (by decide +kernel) (by decide +kernel)
set_option maxRecDepth 20000 in
theorem gX7_lowestNumber_X7_isThing : GoodIn wsX7_lowestNumber (wsV RX7 81 RX7 yX7_isThing wsX7_isThing) := goodIn_app (goodIn_of _ (by decide +kernel)) ggX7_lowestNumber_X7_isThing
theorem dX7_lowestNumber_0 : decode cX7_lowestNumber 0 = .ok (.iconst 0, 1) := by decide +kernel
theorem dX7_lowestNumber_1 : decode cX7_lowestNumber 1 = .ok (.istore_n 1, 1) := by decide +kernel
theorem dX7_lowestNumber_2 : decode cX7_lowestNumber 2 = .ok (.iload_n 1, 1) := by decide +kernel
theorem dX7_lowestNumber_3 : decode cX7_lowestNumber 3 = .ok (.bipush 32, 2) := by decide +kernel
theorem dX7_lowestNumber_5 : decode cX7_lowestNumber 5 = .ok (.if_icmp .ge 17, 3) := by decide +kernel
theorem dX7_lowestNumber_8 : decode cX7_lowestNumber 8 = .ok (.aload_n 0, 1) := by decide +kernel
theorem dX7_lowestNumber_9 : decode cX7_lowestNumber 9 = .ok (.iload_n 1, 1) := by decide +kernel
theorem dX7_lowestNumber_10 : decode cX7_lowestNumber 10 = .ok (.invokevirtual 81, 3) := by decide +kernel
theorem dX7_lowestNumber_13 : decode cX7_lowestNumber 13 = .ok (.ifCond .eq 9, 3) := by decide +kernel
theorem dX7_lowestNumber_16 : decode cX7_lowestNumber 16 = .ok (.iinc 1 1, 3) := by decide +kernel
theorem dX7_lowestNumber_19 : decode cX7_lowestNumber 19 = .ok (.goto (-17), 3) := by decide +kernel
theorem dX7_lowestNumber_22 : decode cX7_lowestNumber 22 = .ok (.iload_n 1, 1) := by decide +kernel
theorem dX7_lowestNumber_23 : decode cX7_lowestNumber 23 = .ok (.ireturn, 1) := by decide +kernel
theorem dX7_lies_0 : decode cX7_lies 0 = .ok (.aload_n 0, 1) := by decide +kernel
theorem dX7_lies_1 : decode cX7_lies 1 = .ok (.getfield 7, 3) := by decide +kernel
theorem dX7_lies_4 : decode cX7_lies 4 = .ok (.bipush 6, 2) := by decide +kernel
theorem dX7_lies_6 : decode cX7_lies 6 = .ok (.iload_n 1, 1) := by decide +kernel
theorem dX7_lies_7 : decode cX7_lies 7 = .ok (.imul, 1) := by decide +kernel
theorem dX7_lies_8 : decode cX7_lies 8 = .ok (.iconst 0, 1) := by decide +kernel
theorem dX7_lies_9 : decode cX7_lies 9 = .ok (.iadd, 1) := by decide +kernel
theorem dX7_lies_10 : decode cX7_lies 10 = .ok (.iload_n 2, 1) := by decide +kernel
theorem dX7_lies_11 : decode cX7_lies 11 = .ok (.iastore, 1) := by decide +kernel
theorem dX7_lies_12 : decode cX7_lies 12 = .ok (.aload_n 0, 1) := by decide +kernel
theorem dX7_lies_13 : decode cX7_lies 13 = .ok (.getfield 7, 3) := by decide +kernel
theorem dX7_lies_16 : decode cX7_lies 16 = .ok (.bipush 6, 2) := by decide +kernel
theorem dX7_lies_18 : decode cX7_lies 18 = .ok (.iload_n 1, 1) := by decide +kernel
theorem dX7_lies_19 : decode cX7_lies 19 = .ok (.imul, 1) := by decide +kernel
theorem dX7_lies_20 : decode cX7_lies 20 = .ok (.iconst 1, 1) := by decide +kernel
theorem dX7_lies_21 : decode cX7_lies 21 = .ok (.iadd, 1) := by decide +kernel
theorem dX7_lies_22 : decode cX7_lies 22 = .ok (.iload_n 3, 1) := by decide +kernel
theorem dX7_lies_23 : decode cX7_lies 23 = .ok (.iastore, 1) := by decide +kernel
theorem dX7_lies_24 : decode cX7_lies 24 = .ok (.aload_n 0, 1) := by decide +kernel
theorem dX7_lies_25 : decode cX7_lies 25 = .ok (.getfield 7, 3) := by decide +kernel
theorem dX7_lies_28 : decode cX7_lies 28 = .ok (.bipush 6, 2) := by decide +kernel
theorem dX7_lies_30 : decode cX7_lies 30 = .ok (.iload_n 1, 1) := by decide +kernel
theorem dX7_lies_31 : decode cX7_lies 31 = .ok (.imul, 1) := by decide +kernel
theorem dX7_lies_32 : decode cX7_lies 32 = .ok (.iconst 2, 1) := by decide +kernel
theorem dX7_lies_33 : decode cX7_lies 33 = .ok (.iadd, 1) := by decide +kernel
theorem dX7_lies_34 : decode cX7_lies 34 = .ok (.iload 4, 2) := by decide +kernel
theorem dX7_lies_36 : decode cX7_lies 36 = .ok (.iastore, 1) := by decide +kernel
theorem dX7_lies_37 : decode cX7_lies 37 = .ok (.aload_n 0, 1) := by decide +kernel
theorem dX7_lies_38 : decode cX7_lies 38 = .ok (.getfield 7, 3) := by decide +kernel
theorem dX7_lies_41 : decode cX7_lies 41 = .ok (.bipush 6, 2) := by decide +kernel
theorem dX7_lies_43 : decode cX7_lies 43 = .ok (.iload_n 1, 1) := by decide +kernel
theorem dX7_lies_44 : decode cX7_lies 44 = .ok (.imul, 1) := by decide +kernel
theorem dX7_lies_45 : decode cX7_lies 45 = .ok (.iconst 3, 1) := by decide +kernel
theorem dX7_lies_46 : decode cX7_lies 46 = .ok (.iadd, 1) := by decide +kernel
theorem dX7_lies_47 : decode cX7_lies 47 = .ok (.bipush (-5), 2) := by decide +kernel
theorem dX7_lies_49 : decode cX7_lies 49 = .ok (.iastore, 1) := by decide +kernel
theorem dX7_lies_50 : decode cX7_lies 50 = .ok (.aload_n 0, 1) := by decide +kernel
theorem dX7_lies_51 : decode cX7_lies 51 = .ok (.getfield 7, 3) := by decide +kernel
theorem dX7_lies_54 : decode cX7_lies 54 = .ok (.bipush 6, 2) := by decide +kernel
theorem dX7_lies_56 : decode cX7_lies 56 = .ok (.iload_n 1, 1) := by decide +kernel
theorem dX7_lies_57 : decode cX7_lies 57 = .ok (.imul, 1) := by decide +kernel
theorem dX7_lies_58 : decode cX7_lies 58 = .ok (.iconst 3, 1) := by decide +kernel
theorem dX7_lies_59 : decode cX7_lies 59 = .ok (.iadd, 1) := by decide +kernel
theorem dX7_lies_60 : decode cX7_lies 60 = .ok (.iconst 1, 1) := by decide +kernel
theorem dX7_lies_61 : decode cX7_lies 61 = .ok (.iadd, 1) := by decide +kernel
theorem dX7_lies_62 : decode cX7_lies 62 = .ok (.bipush (-5), 2) := by decide +kernel
theorem dX7_lies_64 : decode cX7_lies 64 = .ok (.iastore, 1) := by decide +kernel
theorem dX7_lies_65 : decode cX7_lies 65 = .ok (.aload_n 0, 1) := by decide +kernel
theorem dX7_lies_66 : decode cX7_lies 66 = .ok (.getfield 7, 3) := by decide +kernel
theorem dX7_lies_69 : decode cX7_lies 69 = .ok (.bipush 6, 2) := by decide +kernel
theorem dX7_lies_71 : decode cX7_lies 71 = .ok (.iload_n 1, 1) := by decide +kernel
theorem dX7_lies_72 : decode cX7_lies 72 = .ok (.imul, 1) := by decide +kernel
theorem dX7_lies_73 : decode cX7_lies 73 = .ok (.iconst 5, 1) := by decide +kernel
theorem dX7_lies_74 : decode cX7_lies 74 = .ok (.iadd, 1) := by decide +kernel
theorem dX7_lies_75 : decode cX7_lies 75 = .ok (.iconst 2, 1) := by decide +kernel
theorem dX7_lies_76 : decode cX7_lies 76 = .ok (.iastore, 1) := by decide +kernel
theorem dX7_lies_77 : decode cX7_lies 77 = .ok (.return_, 1) := by decide +kernel
set_option maxRecDepth 20000 in
theorem ggX7_makesBig_X7_setsRegion : GoodIn wsX7_makesBig wsX7_setsRegion := goodIn_r _ [5, 6, 11, 12, 13, 14, 15, 16, 17, 18, 19, 20, 21, 22, 23, 24, 25, 26, 27, 28, 29, 30, 31, 32, 33, 34, 35, 36] (by decide +kernel) (by decide +kernel)
set_option maxRecDepth 20000 in
theorem gX7_makesBig_X7_setsRegion : GoodIn wsX7_makesBig (wsV RX7 88 RX7 yX7_setsRegion wsX7_setsRegion) := goodIn_app (goodIn_of _ (by decide +kernel)) ggX7_makesBig_X7_setsRegion
set_option maxRecDepth 20000 in
theorem ggX7_makesBig_X7_lies : GoodIn wsX7_makesBig wsX7_lies := goodIn_r _ [10, 6, 11, 12, 13, 14, 15, 16, 17, 18, 19, 20, 21, 22, 23, 24, 25, 26, 27, 28, 29, 30, 31, 32, 33, 34, 35, 36] (by decide +kernel) (by decide +kernel)
set_option maxRecDepth 20000 in
theorem gX7_makesBig_X7_lies : GoodIn wsX7_makesBig (wsV RX7 101 RX7 yX7_lies wsX7_lies) := goodIn_app (goodIn_of _ (by decide +kernel)) ggX7_makesBig_X7_lies
theorem dX7_makesBig_0 : decode cX7_makesBig 0 = .ok (.iload_n 3, 1) := by decide +kernel
theorem dX7_makesBig_1 : decode cX7_makesBig 1 = .ok (.istore 4, 2) := by decide +kernel
theorem dX7_makesBig_3 : decode cX7_makesBig 3 = .ok (.iload 4, 2) := by decide +kernel
theorem dX7_makesBig_5 : decode cX7_makesBig 5 = .ok (.iload_n 3, 1) := by decide +kernel
theorem dX7_makesBig_6 : decode cX7_makesBig 6 = .ok (.iload_n 2, 1) := by decide +kernel
theorem dX7_makesBig_7 : decode cX7_makesBig 7 = .ok (.bipush 7, 2) := by decide +kernel
theorem dX7_makesBig_9 : decode cX7_makesBig 9 = .ok (.iadd, 1) := by decide +kernel
theorem dX7_makesBig_10 : decode cX7_makesBig 10 = .ok (.bipush 8, 2) := by decide +kernel
theorem dX7_makesBig_12 : decode cX7_makesBig 12 = .ok (.idiv, 1) := by decide +kernel
theorem dX7_makesBig_13 : decode cX7_makesBig 13 = .ok (.iadd, 1) := by decide +kernel
theorem dX7_makesBig_14 : decode cX7_makesBig 14 = .ok (.if_icmp .ge 36, 3) := by decide +kernel
theorem dX7_makesBig_17 : decode cX7_makesBig 17 = .ok (.aload_n 0, 1) := by decide +kernel
theorem dX7_makesBig_18 : decode cX7_makesBig 18 = .ok (.iload 4, 2) := by decide +kernel
theorem dX7_makesBig_20 : decode cX7_makesBig 20 = .ok (.iconst 0, 1) := by decide +kernel
theorem dX7_makesBig_21 : decode cX7_makesBig 21 = .ok (.iload 4, 2) := by decide +kernel
theorem dX7_makesBig_23 : decode cX7_makesBig 23 = .ok (.iload_n 3, 1) := by decide +kernel
theorem dX7_makesBig_24 : decode cX7_makesBig 24 = .ok (.if_icmp .ne 7, 3) := by decide +kernel
theorem dX7_makesBig_27 : decode cX7_makesBig 27 = .ok (.iconst 3, 1) := by decide +kernel
theorem dX7_makesBig_28 : decode cX7_makesBig 28 = .ok (.goto 4, 3) := by decide +kernel
theorem dX7_makesBig_31 : decode cX7_makesBig 31 = .ok (.iconst 4, 1) := by decide +kernel
theorem dX7_makesBig_32 : decode cX7_makesBig 32 = .ok (.invokevirtual 88, 3) := by decide +kernel
theorem dX7_makesBig_35 : decode cX7_makesBig 35 = .ok (.aload_n 0, 1) := by decide +kernel
theorem dX7_makesBig_36 : decode cX7_makesBig 36 = .ok (.iload 4, 2) := by decide +kernel
theorem dX7_makesBig_38 : decode cX7_makesBig 38 = .ok (.iconst 1, 1) := by decide +kernel
theorem dX7_makesBig_39 : decode cX7_makesBig 39 = .ok (.bipush 8, 2) := by decide +kernel
theorem dX7_makesBig_41 : decode cX7_makesBig 41 = .ok (.invokevirtual 88, 3) := by decide +kernel
theorem dX7_makesBig_44 : decode cX7_makesBig 44 = .ok (.iinc 4 1, 3) := by decide +kernel
theorem dX7_makesBig_47 : decode cX7_makesBig 47 = .ok (.goto (-44), 3) := by decide +kernel
theorem dX7_makesBig_50 : decode cX7_makesBig 50 = .ok (.aload_n 0, 1) := by decide +kernel
theorem dX7_makesBig_51 : decode cX7_makesBig 51 = .ok (.iload_n 1, 1) := by decide +kernel
theorem dX7_makesBig_52 : decode cX7_makesBig 52 = .ok (.iload_n 2, 1) := by decide +kernel
theorem dX7_makesBig_53 : decode cX7_makesBig 53 = .ok (.iload_n 3, 1) := by decide +kernel
theorem dX7_makesBig_54 : decode cX7_makesBig 54 = .ok (.iconst 0, 1) := by decide +kernel
theorem dX7_makesBig_55 : decode cX7_makesBig 55 = .ok (.invokevirtual 101, 3) := by decide +kernel
theorem dX7_makesBig_58 : decode cX7_makesBig 58 = .ok (.return_, 1) := by decide +kernel
set_option maxRecDepth 20000 in
theorem ggX7_makesSmall_X7_ofRegion : GoodIn wsX7_makesSmall wsX7_ofRegion := goodIn_r _ [6, 1, 15, 16, 17, 18, 19, 20, 21, 22, 23, 24, 25, 26, 27, 28, 29, 30, 31, 32, 33, 34, 35, 36, 37, 38, 39, 40] (by decide +kernel) (by decide +kernel)
set_option maxRecDepth 20000 in
theorem gX7_makesSmall_X7_ofRegion : GoodIn wsX7_makesSmall (wsV RX7 67 RX7 yX7_ofRegion wsX7_ofRegion) := goodIn_app (goodIn_of _ (by decide +kernel)) ggX7_makesSmall_X7_ofRegion
set_option maxRecDepth 20000 in
theorem ggX7_makesSmall_X7_setsRegion : GoodIn wsX7_makesSmall wsX7_setsRegion := goodIn_r _ [10, 1, 15, 16, 17, 18, 19, 20, 21, 22, 23, 24, 25, 26, 27, 28, 29, 30, 31, 32, 33, 34, 35, 36, 37, 38, 39, 40] (by decide +kernel) (by decide +kernel)
set_option maxRecDepth 20000 in
theorem gX7_makesSmall_X7_setsRegion : GoodIn wsX7_makesSmall (wsV RX7 88 RX7 yX7_setsRegion wsX7_setsRegion) := goodIn_app (goodIn_of _ (by decide +kernel)) ggX7_makesSmall_X7_setsRegion
set_option maxRecDepth 20000 in
theorem ggX7_makesSmall_X7_lies : GoodIn wsX7_makesSmall wsX7_lies := goodIn_r _ [14, 1, 15, 16, 17, 18, 19, 20, 21, 22, 23, 24, 25, 26, 27, 28, 29, 30, 31, 32, 33, 34, 35, 36, 37, 38, 39, 40] (by decide +kernel) (by decide +kernel)
set_option maxRecDepth 20000 in
theorem gX7_makesSmall_X7_lies : GoodIn wsX7_makesSmall (wsV RX7 101 RX7 yX7_lies wsX7_lies) := goodIn_app (goodIn_of _ (by decide +kernel)) ggX7_makesSmall_X7_lies
theorem dX7_makesSmall_0 : decode cX7_makesSmall 0 = .ok (.aload_n 0, 1) := by decide +kernel
theorem dX7_makesSmall_1 : decode cX7_makesSmall 1 = .ok (.iload_n 3, 1) := by decide +kernel
theorem dX7_makesSmall_2 : decode cX7_makesSmall 2 = .ok (.iconst 0, 1) := by decide +kernel
theorem dX7_makesSmall_3 : decode cX7_makesSmall 3 = .ok (.invokevirtual 67, 3) := by decide +kernel
theorem dX7_makesSmall_6 : decode cX7_makesSmall 6 = .ok (.ifCond .ne 19, 3) := by decide +kernel
theorem dX7_makesSmall_9 : decode cX7_makesSmall 9 = .ok (.aload_n 0, 1) := by decide +kernel
theorem dX7_makesSmall_10 : decode cX7_makesSmall 10 = .ok (.iload_n 3, 1) := by decide +kernel
theorem dX7_makesSmall_11 : decode cX7_makesSmall 11 = .ok (.iconst 0, 1) := by decide +kernel
theorem dX7_makesSmall_12 : decode cX7_makesSmall 12 = .ok (.iconst 1, 1) := by decide +kernel
theorem dX7_makesSmall_13 : decode cX7_makesSmall 13 = .ok (.invokevirtual 88, 3) := by decide +kernel
theorem dX7_makesSmall_16 : decode cX7_makesSmall 16 = .ok (.aload_n 0, 1) := by decide +kernel
theorem dX7_makesSmall_17 : decode cX7_makesSmall 17 = .ok (.getfield 7, 3) := by decide +kernel
theorem dX7_makesSmall_20 : decode cX7_makesSmall 20 = .ok (.sipush 295, 3) := by decide +kernel
theorem dX7_makesSmall_23 : decode cX7_makesSmall 23 = .ok (.iload_n 3, 1) := by decide +kernel
theorem dX7_makesSmall_24 : decode cX7_makesSmall 24 = .ok (.iastore, 1) := by decide +kernel
theorem dX7_makesSmall_25 : decode cX7_makesSmall 25 = .ok (.aload_n 0, 1) := by decide +kernel
theorem dX7_makesSmall_26 : decode cX7_makesSmall 26 = .ok (.iload_n 1, 1) := by decide +kernel
theorem dX7_makesSmall_27 : decode cX7_makesSmall 27 = .ok (.iload_n 2, 1) := by decide +kernel
theorem dX7_makesSmall_28 : decode cX7_makesSmall 28 = .ok (.iload_n 3, 1) := by decide +kernel
theorem dX7_makesSmall_29 : decode cX7_makesSmall 29 = .ok (.aload_n 0, 1) := by decide +kernel
theorem dX7_makesSmall_30 : decode cX7_makesSmall 30 = .ok (.iload_n 3, 1) := by decide +kernel
theorem dX7_makesSmall_31 : decode cX7_makesSmall 31 = .ok (.iconst 1, 1) := by decide +kernel
theorem dX7_makesSmall_32 : decode cX7_makesSmall 32 = .ok (.invokevirtual 67, 3) := by decide +kernel
theorem dX7_makesSmall_35 : decode cX7_makesSmall 35 = .ok (.invokevirtual 101, 3) := by decide +kernel
theorem dX7_makesSmall_38 : decode cX7_makesSmall 38 = .ok (.aload_n 0, 1) := by decide +kernel
theorem dX7_makesSmall_39 : decode cX7_makesSmall 39 = .ok (.iload_n 3, 1) := by decide +kernel
theorem dX7_makesSmall_40 : decode cX7_makesSmall 40 = .ok (.iconst 1, 1) := by decide +kernel
theorem dX7_makesSmall_41 : decode cX7_makesSmall 41 = .ok (.aload_n 0, 1) := by decide +kernel
theorem dX7_makesSmall_42 : decode cX7_makesSmall 42 = .ok (.iload_n 3, 1) := by decide +kernel
theorem dX7_makesSmall_43 : decode cX7_makesSmall 43 = .ok (.iconst 1, 1) := by decide +kernel
theorem dX7_makesSmall_44 : decode cX7_makesSmall 44 = .ok (.invokevirtual 67, 3) := by decide +kernel
theorem dX7_makesSmall_47 : decode cX7_makesSmall 47 = .ok (.iload_n 2, 1) := by decide +kernel
theorem dX7_makesSmall_48 : decode cX7_makesSmall 48 = .ok (.iadd, 1) := by decide +kernel
theorem dX7_makesSmall_49 : decode cX7_makesSmall 49 = .ok (.invokevirtual 88, 3) := by decide +kernel
theorem dX7_makesSmall_52 : decode cX7_makesSmall 52 = .ok (.return_, 1) := by decide +kernel
set_option maxRecDepth 20000 in
theorem ggX7_makes_X7_in : GoodIn wsX7_makes wsX7_in := goodIn_r _ [6] (by decide +kernel) (by decide +kernel)
set_option maxRecDepth 20000 in
theorem gX7_makes_X7_in : GoodIn wsX7_makes (va_wsS RX7 59 yX7_in wsX7_in) := goodIn_app (goodIn_of _ (by decide +kernel)) ggX7_makes_X7_in
set_option maxRecDepth 20000 in
theorem ggX7_makes_X7_isRoot : GoodIn wsX7_makes wsX7_isRoot := goodIn_r _ [9, 3, 4, 5, 6] (by decide +kernel) (by decide +kernel)
set_option maxRecDepth 20000 in
theorem gX7_makes_X7_isRoot : GoodIn wsX7_makes (va_wsS RX7 105 yX7_isRoot wsX7_isRoot) := goodIn_app (goodIn_of _ (by decide +kernel)) ggX7_makes_X7_isRoot
set_option maxRecDepth 20000 in
theorem ggX7_makes_X7_lowestNumber : GoodIn wsX7_makes wsX7_lowestNumber := goodIn_r _ [13, 14, 15, 16, 5, 17, 2, 3, 4, 6, 50, 51, 52, 53, 54, 55, 56, 57, 58, 59, 60, 61, 62, 63, 64, 65, 66, 67, 68, 69, 70, 71, 72, 73, 74, 75] (by decide +kernel) (by decide +kernel)
set_option maxRecDepth 20000 in
theorem gX7_makes_X7_lowestNumber : GoodIn wsX7_makes (wsV RX7 108 RX7 yX7_lowestNumber wsX7_lowestNumber) := goodIn_app (goodIn_of _ (by decide +kernel)) ggX7_makes_X7_lowestNumber
set_option maxRecDepth 20000 in
theorem ggX7_makes_X7_ofRegion : GoodIn wsX7_makes wsX7_ofRegion := goodIn_r _ [21, 2, 50, 51, 52, 53, 54, 55, 56, 57, 58, 59, 60, 61, 62, 63, 64, 65, 66, 67, 68, 69, 70, 71, 72, 73, 74, 75] (by decide +kernel) (by decide +kernel)
set_option maxRecDepth 20000 in
theorem gX7_makes_X7_ofRegion : GoodIn wsX7_makes (wsV RX7 67 RX7 yX7_ofRegion wsX7_ofRegion) := goodIn_app (goodIn_of _ (by decide +kernel)) ggX7_makes_X7_ofRegion
set_option maxRecDepth 20000 in
theorem ggX7_makes_X7_lowestFree : GoodIn wsX7_makes wsX7_lowestFree := goodIn_r _ [25, 18, 19, 20, 5, 21, 2, 50, 51, 52, 53, 54, 55, 56, 57, 58, 59, 60, 61, 62, 63, 64, 65, 66, 67, 68, 69, 70, 71, 72, 73, 74, 75] (by decide +kernel) (by decide +kernel)
set_option maxRecDepth 20000 in
theorem gX7_makes_X7_lowestFree : GoodIn wsX7_makes (wsV RX7 112 RX7 yX7_lowestFree wsX7_lowestFree) := goodIn_app (goodIn_of _ (by decide +kernel)) ggX7_makes_X7_lowestFree
set_option maxRecDepth 20000 in
theorem ggX7_makes_X7_notes : GoodIn wsX7_makes wsX7_notes := goodIn_r _ [29, 30, 31, 32, 2, 33, 50, 51, 52, 53, 54, 55, 56, 57, 58, 59, 60, 61, 62, 63, 64, 65, 66, 67, 68, 69, 70, 71, 72, 73, 74, 75] (by decide +kernel) (by decide +kernel)
set_option maxRecDepth 20000 in
theorem gX7_makes_X7_notes : GoodIn wsX7_makes (wsV RX7 115 RX7 yX7_notes wsX7_notes) := goodIn_app (goodIn_of _ (by decide +kernel)) ggX7_makes_X7_notes
set_option maxRecDepth 20000 in
theorem ggX7_makes_X7_makesSmall : GoodIn wsX7_makes wsX7_makesSmall := goodIn_r _ [37, 2, 18, 19, 20, 5, 21, 38, 39, 40, 41, 42, 43, 44, 45, 50, 51, 52, 53, 54, 55, 56, 57, 58, 59, 60, 61, 62, 63, 64, 65, 66, 67, 68, 69, 70, 71, 72, 73, 74, 75] (by decide +kernel) (by decide +kernel)
set_option maxRecDepth 20000 in
theorem gX7_makes_X7_makesSmall : GoodIn wsX7_makes (wsV RX7 118 RX7 yX7_makesSmall wsX7_makesSmall) := goodIn_app (goodIn_of _ (by decide +kernel)) ggX7_makes_X7_makesSmall
set_option maxRecDepth 20000 in
theorem ggX7_makes_X7_makesBig : GoodIn wsX7_makes wsX7_makesBig := goodIn_r _ [49, 38, 39, 40, 5, 41, 2, 42, 43, 44, 45, 50, 51, 52, 53, 54, 55, 56, 57, 58, 59, 60, 61, 62, 63, 64, 65, 66, 67, 68, 69, 70, 71, 72, 73, 74, 75] (by decide +kernel) (by decide +kernel)
set_option maxRecDepth 20000 in
theorem gX7_makes_X7_makesBig : GoodIn wsX7_makes (wsV RX7 121 RX7 yX7_makesBig wsX7_makesBig) := goodIn_app (goodIn_of _ (by decide +kernel)) ggX7_makes_X7_makesBig
theorem dX7_makes_0 : decode cX7_makes 0 = .ok (.aload_n 0, 1) := by decide +kernel
theorem dX7_makes_1 : decode cX7_makes 1 = .ok (.iconst 0, 1) := by decide +kernel
theorem dX7_makes_2 : decode cX7_makes 2 = .ok (.putfield 55, 3) := by decide +kernel
theorem dX7_makes_5 : decode cX7_makes 5 = .ok (.iload_n 1, 1) := by decide +kernel
theorem dX7_makes_6 : decode cX7_makes 6 = .ok (.iconst 1, 1) := by decide +kernel
theorem dX7_makes_7 : decode cX7_makes 7 = .ok (.bipush 24, 2) := by decide +kernel
theorem dX7_makes_9 : decode cX7_makes 9 = .ok (.invokestatic 59, 3) := by decide +kernel
theorem dX7_makes_12 : decode cX7_makes 12 = .ok (.ifCond .eq 10, 3) := by decide +kernel
theorem dX7_makes_15 : decode cX7_makes 15 = .ok (.iload_n 2, 1) := by decide +kernel
theorem dX7_makes_16 : decode cX7_makes 16 = .ok (.invokestatic 105, 3) := by decide +kernel
theorem dX7_makes_19 : decode cX7_makes 19 = .ok (.ifCond .ne 5, 3) := by decide +kernel
theorem dX7_makes_22 : decode cX7_makes 22 = .ok (.iconst (-1), 1) := by decide +kernel
theorem dX7_makes_23 : decode cX7_makes 23 = .ok (.ireturn, 1) := by decide +kernel
theorem dX7_makes_24 : decode cX7_makes 24 = .ok (.aload_n 0, 1) := by decide +kernel
theorem dX7_makes_25 : decode cX7_makes 25 = .ok (.invokevirtual 108, 3) := by decide +kernel
theorem dX7_makes_28 : decode cX7_makes 28 = .ok (.istore_n 3, 1) := by decide +kernel
theorem dX7_makes_29 : decode cX7_makes 29 = .ok (.aload_n 0, 1) := by decide +kernel
theorem dX7_makes_30 : decode cX7_makes 30 = .ok (.getfield 7, 3) := by decide +kernel
theorem dX7_makes_33 : decode cX7_makes 33 = .ok (.sipush 295, 3) := by decide +kernel
theorem dX7_makes_36 : decode cX7_makes 36 = .ok (.iaload, 1) := by decide +kernel
theorem dX7_makes_37 : decode cX7_makes 37 = .ok (.istore 4, 2) := by decide +kernel
theorem dX7_makes_39 : decode cX7_makes 39 = .ok (.iload_n 1, 1) := by decide +kernel
theorem dX7_makes_40 : decode cX7_makes 40 = .ok (.iconst 5, 1) := by decide +kernel
theorem dX7_makes_41 : decode cX7_makes 41 = .ok (.if_icmp .ge 28, 3) := by decide +kernel
theorem dX7_makes_44 : decode cX7_makes 44 = .ok (.iload 4, 2) := by decide +kernel
theorem dX7_makes_46 : decode cX7_makes 46 = .ok (.bipush (-9), 2) := by decide +kernel
theorem dX7_makes_48 : decode cX7_makes 48 = .ok (.if_icmp .eq 21, 3) := by decide +kernel
theorem dX7_makes_51 : decode cX7_makes 51 = .ok (.aload_n 0, 1) := by decide +kernel
theorem dX7_makes_52 : decode cX7_makes 52 = .ok (.iload 4, 2) := by decide +kernel
theorem dX7_makes_54 : decode cX7_makes 54 = .ok (.iconst 1, 1) := by decide +kernel
theorem dX7_makes_55 : decode cX7_makes 55 = .ok (.invokevirtual 67, 3) := by decide +kernel
theorem dX7_makes_58 : decode cX7_makes 58 = .ok (.iload_n 1, 1) := by decide +kernel
theorem dX7_makes_59 : decode cX7_makes 59 = .ok (.iadd, 1) := by decide +kernel
theorem dX7_makes_60 : decode cX7_makes 60 = .ok (.bipush 8, 2) := by decide +kernel
theorem dX7_makes_62 : decode cX7_makes 62 = .ok (.if_icmp .gt 7, 3) := by decide +kernel
theorem dX7_makes_65 : decode cX7_makes 65 = .ok (.iconst 1, 1) := by decide +kernel
theorem dX7_makes_66 : decode cX7_makes 66 = .ok (.goto 4, 3) := by decide +kernel
theorem dX7_makes_69 : decode cX7_makes 69 = .ok (.iconst 0, 1) := by decide +kernel
theorem dX7_makes_70 : decode cX7_makes 70 = .ok (.istore 5, 2) := by decide +kernel
theorem dX7_makes_72 : decode cX7_makes 72 = .ok (.iload 5, 2) := by decide +kernel
theorem dX7_makes_74 : decode cX7_makes 74 = .ok (.ifCond .eq 8, 3) := by decide +kernel
theorem dX7_makes_77 : decode cX7_makes 77 = .ok (.iload 4, 2) := by decide +kernel
theorem dX7_makes_79 : decode cX7_makes 79 = .ok (.goto 23, 3) := by decide +kernel
theorem dX7_makes_82 : decode cX7_makes 82 = .ok (.aload_n 0, 1) := by decide +kernel
theorem dX7_makes_83 : decode cX7_makes 83 = .ok (.iload_n 1, 1) := by decide +kernel
theorem dX7_makes_84 : decode cX7_makes 84 = .ok (.iconst 5, 1) := by decide +kernel
theorem dX7_makes_85 : decode cX7_makes 85 = .ok (.if_icmp .ge 7, 3) := by decide +kernel
theorem dX7_makes_88 : decode cX7_makes 88 = .ok (.iconst 1, 1) := by decide +kernel
theorem dX7_makes_89 : decode cX7_makes 89 = .ok (.goto 10, 3) := by decide +kernel
theorem dX7_makes_92 : decode cX7_makes 92 = .ok (.iload_n 1, 1) := by decide +kernel
theorem dX7_makes_93 : decode cX7_makes 93 = .ok (.bipush 7, 2) := by decide +kernel
theorem dX7_makes_95 : decode cX7_makes 95 = .ok (.iadd, 1) := by decide +kernel
theorem dX7_makes_96 : decode cX7_makes 96 = .ok (.bipush 8, 2) := by decide +kernel
theorem dX7_makes_98 : decode cX7_makes 98 = .ok (.idiv, 1) := by decide +kernel
theorem dX7_makes_99 : decode cX7_makes 99 = .ok (.invokevirtual 112, 3) := by decide +kernel
theorem dX7_makes_102 : decode cX7_makes 102 = .ok (.istore 6, 2) := by decide +kernel
theorem dX7_makes_104 : decode cX7_makes 104 = .ok (.iload_n 3, 1) := by decide +kernel
theorem dX7_makes_105 : decode cX7_makes 105 = .ok (.bipush 32, 2) := by decide +kernel
theorem dX7_makes_107 : decode cX7_makes 107 = .ok (.if_icmp .eq 10, 3) := by decide +kernel
theorem dX7_makes_110 : decode cX7_makes 110 = .ok (.iload 6, 2) := by decide +kernel
theorem dX7_makes_112 : decode cX7_makes 112 = .ok (.bipush (-9), 2) := by decide +kernel
theorem dX7_makes_114 : decode cX7_makes 114 = .ok (.if_icmp .ne 6, 3) := by decide +kernel
theorem dX7_makes_117 : decode cX7_makes 117 = .ok (.bipush (-3), 2) := by decide +kernel
theorem dX7_makes_119 : decode cX7_makes 119 = .ok (.ireturn, 1) := by decide +kernel
theorem dX7_makes_120 : decode cX7_makes 120 = .ok (.aload_n 0, 1) := by decide +kernel
theorem dX7_makes_121 : decode cX7_makes 121 = .ok (.invokevirtual 115, 3) := by decide +kernel
theorem dX7_makes_124 : decode cX7_makes 124 = .ok (.iload_n 1, 1) := by decide +kernel
theorem dX7_makes_125 : decode cX7_makes 125 = .ok (.iconst 5, 1) := by decide +kernel
theorem dX7_makes_126 : decode cX7_makes 126 = .ok (.if_icmp .ge 14, 3) := by decide +kernel
theorem dX7_makes_129 : decode cX7_makes 129 = .ok (.aload_n 0, 1) := by decide +kernel
theorem dX7_makes_130 : decode cX7_makes 130 = .ok (.iload_n 3, 1) := by decide +kernel
theorem dX7_makes_131 : decode cX7_makes 131 = .ok (.iload_n 1, 1) := by decide +kernel
theorem dX7_makes_132 : decode cX7_makes 132 = .ok (.iload 6, 2) := by decide +kernel
theorem dX7_makes_134 : decode cX7_makes 134 = .ok (.invokevirtual 118, 3) := by decide +kernel
theorem dX7_makes_137 : decode cX7_makes 137 = .ok (.goto 11, 3) := by decide +kernel
theorem dX7_makes_140 : decode cX7_makes 140 = .ok (.aload_n 0, 1) := by decide +kernel
theorem dX7_makes_141 : decode cX7_makes 141 = .ok (.iload_n 3, 1) := by decide +kernel
theorem dX7_makes_142 : decode cX7_makes 142 = .ok (.iload_n 1, 1) := by decide +kernel
theorem dX7_makes_143 : decode cX7_makes 143 = .ok (.iload 6, 2) := by decide +kernel
theorem dX7_makes_145 : decode cX7_makes 145 = .ok (.invokevirtual 121, 3) := by decide +kernel
theorem dX7_makes_148 : decode cX7_makes 148 = .ok (.aload_n 0, 1) := by decide +kernel
theorem dX7_makes_149 : decode cX7_makes 149 = .ok (.getfield 7, 3) := by decide +kernel
theorem dX7_makes_152 : decode cX7_makes 152 = .ok (.sipush 192, 3) := by decide +kernel
theorem dX7_makes_155 : decode cX7_makes 155 = .ok (.iload_n 2, 1) := by decide +kernel
theorem dX7_makes_156 : decode cX7_makes 156 = .ok (.iadd, 1) := by decide +kernel
theorem dX7_makes_157 : decode cX7_makes 157 = .ok (.iload_n 3, 1) := by decide +kernel
theorem dX7_makes_158 : decode cX7_makes 158 = .ok (.iastore, 1) := by decide +kernel
theorem dX7_makes_159 : decode cX7_makes 159 = .ok (.iload_n 3, 1) := by decide +kernel
theorem dX7_makes_160 : decode cX7_makes 160 = .ok (.ireturn, 1) := by decide +kernel
set_option maxRecDepth 20000 in
theorem ggX7_writes_X7_isRoot : GoodIn wsX7_writes wsX7_isRoot := goodIn_r _ [6, 7, 8, 5, 9] (by decide +kernel) (by decide +kernel)
set_option maxRecDepth 20000 in
theorem gX7_writes_X7_isRoot : GoodIn wsX7_writes (va_wsS RX7 105 yX7_isRoot wsX7_isRoot) := goodIn_app (goodIn_of _ (by decide +kernel)) ggX7_writes_X7_isRoot
set_option maxRecDepth 20000 in
theorem ggX7_writes_X7_in : GoodIn wsX7_writes wsX7_in := goodIn_r _ [9] (by decide +kernel) (by decide +kernel)
set_option maxRecDepth 20000 in
theorem gX7_writes_X7_in : GoodIn wsX7_writes (va_wsS RX7 59 yX7_in wsX7_in) := goodIn_app (goodIn_of _ (by decide +kernel)) ggX7_writes_X7_in
set_option maxRecDepth 20000 in
theorem ggX7_writes_X7_notes : GoodIn wsX7_writes wsX7_notes := goodIn_r _ [13, 14, 15, 16, 2, 17, 46, 47, 48, 49, 50, 51, 52, 53, 54, 55, 56, 57, 58, 59, 60, 61, 62, 63, 64, 65, 66, 67, 68, 69, 70, 71] (by decide +kernel) (by decide +kernel)
set_option maxRecDepth 20000 in
theorem gX7_writes_X7_notes : GoodIn wsX7_writes (wsV RX7 115 RX7 yX7_notes wsX7_notes) := goodIn_app (goodIn_of _ (by decide +kernel)) ggX7_writes_X7_notes
set_option maxRecDepth 20000 in
theorem ggX7_writes_X7_ofThing : GoodIn wsX7_writes wsX7_ofThing := goodIn_r _ [21, 2, 46, 47, 48, 49, 50, 51, 52, 53, 54, 55, 56, 57, 58, 59, 60, 61, 62, 63, 64, 65, 66, 67, 68, 69, 70, 71] (by decide +kernel) (by decide +kernel)
set_option maxRecDepth 20000 in
theorem gX7_writes_X7_ofThing : GoodIn wsX7_writes (wsV RX7 63 RX7 yX7_ofThing wsX7_ofThing) := goodIn_app (goodIn_of _ (by decide +kernel)) ggX7_writes_X7_ofThing
set_option maxRecDepth 20000 in
theorem ggX7_writes_X7_becomesGrey : GoodIn wsX7_writes wsX7_becomesGrey := goodIn_r _ [25, 2, 18, 19, 20, 5, 21, 46, 47, 48, 49, 50, 51, 52, 53, 54, 55, 56, 57, 58, 59, 60, 61, 62, 63, 64, 65, 66, 67, 68, 69, 70, 71] (by decide +kernel) (by decide +kernel)
set_option maxRecDepth 20000 in
theorem gX7_writes_X7_becomesGrey : GoodIn wsX7_writes (wsV RX7 124 RX7 yX7_becomesGrey wsX7_becomesGrey) := goodIn_app (goodIn_of _ (by decide +kernel)) ggX7_writes_X7_becomesGrey
set_option maxRecDepth 20000 in
theorem ggX7_writes_X7_kindOf : GoodIn wsX7_writes wsX7_kindOf := goodIn_r _ [29, 18, 19, 20, 5, 21, 2, 30, 31, 32, 33, 46, 47, 48, 49, 50, 51, 52, 53, 54, 55, 56, 57, 58, 59, 60, 61, 62, 63, 64, 65, 66, 67, 68, 69, 70, 71] (by decide +kernel) (by decide +kernel)
set_option maxRecDepth 20000 in
theorem gX7_writes_X7_kindOf : GoodIn wsX7_writes (wsV RX7 127 RX7 yX7_kindOf wsX7_kindOf) := goodIn_app (goodIn_of _ (by decide +kernel)) ggX7_writes_X7_kindOf
set_option maxRecDepth 20000 in
theorem ggX7_writes_X7_cardOf : GoodIn wsX7_writes wsX7_cardOf := goodIn_r _ [37, 18, 19, 20, 5, 21, 2, 46, 47, 48, 49, 50, 51, 52, 53, 54, 55, 56, 57, 58, 59, 60, 61, 62, 63, 64, 65, 66, 67, 68, 69, 70, 71] (by decide +kernel) (by decide +kernel)
set_option maxRecDepth 20000 in
theorem gX7_writes_X7_cardOf : GoodIn wsX7_writes (wsV RX7 84 RX7 yX7_cardOf wsX7_cardOf) := goodIn_app (goodIn_of _ (by decide +kernel)) ggX7_writes_X7_cardOf
set_option maxRecDepth 20000 in
theorem ggX7_writes_X7_isDirty : GoodIn wsX7_writes wsX7_isDirty := goodIn_r _ [41, 2, 46, 47, 48, 49, 50, 51, 52, 53, 54, 55, 56, 57, 58, 59, 60, 61, 62, 63, 64, 65, 66, 67, 68, 69, 70, 71] (by decide +kernel) (by decide +kernel)
set_option maxRecDepth 20000 in
theorem gX7_writes_X7_isDirty : GoodIn wsX7_writes (wsV RX7 73 RX7 yX7_isDirty wsX7_isDirty) := goodIn_app (goodIn_of _ (by decide +kernel)) ggX7_writes_X7_isDirty
set_option maxRecDepth 20000 in
theorem ggX7_writes_X7_becomesDirty : GoodIn wsX7_writes wsX7_becomesDirty := goodIn_r _ [45, 2, 38, 39, 40, 5, 41, 46, 47, 48, 49, 50, 51, 52, 53, 54, 55, 56, 57, 58, 59, 60, 61, 62, 63, 64, 65, 66, 67, 68, 69, 70, 71] (by decide +kernel) (by decide +kernel)
set_option maxRecDepth 20000 in
theorem gX7_writes_X7_becomesDirty : GoodIn wsX7_writes (wsV RX7 130 RX7 yX7_becomesDirty wsX7_becomesDirty) := goodIn_app (goodIn_of _ (by decide +kernel)) ggX7_writes_X7_becomesDirty
theorem dX7_writes_0 : decode cX7_writes 0 = .ok (.aload_n 0, 1) := by decide +kernel
theorem dX7_writes_1 : decode cX7_writes 1 = .ok (.iconst 0, 1) := by decide +kernel
theorem dX7_writes_2 : decode cX7_writes 2 = .ok (.putfield 55, 3) := by decide +kernel
theorem dX7_writes_5 : decode cX7_writes 5 = .ok (.iload_n 1, 1) := by decide +kernel
theorem dX7_writes_6 : decode cX7_writes 6 = .ok (.invokestatic 105, 3) := by decide +kernel
theorem dX7_writes_9 : decode cX7_writes 9 = .ok (.ifCond .eq 21, 3) := by decide +kernel
theorem dX7_writes_12 : decode cX7_writes 12 = .ok (.iload_n 2, 1) := by decide +kernel
theorem dX7_writes_13 : decode cX7_writes 13 = .ok (.iconst 0, 1) := by decide +kernel
theorem dX7_writes_14 : decode cX7_writes 14 = .ok (.iconst 1, 1) := by decide +kernel
theorem dX7_writes_15 : decode cX7_writes 15 = .ok (.invokestatic 59, 3) := by decide +kernel
theorem dX7_writes_18 : decode cX7_writes 18 = .ok (.ifCond .eq 12, 3) := by decide +kernel
theorem dX7_writes_21 : decode cX7_writes 21 = .ok (.iload_n 3, 1) := by decide +kernel
theorem dX7_writes_22 : decode cX7_writes 22 = .ok (.iconst (-1), 1) := by decide +kernel
theorem dX7_writes_23 : decode cX7_writes 23 = .ok (.iconst 5, 1) := by decide +kernel
theorem dX7_writes_24 : decode cX7_writes 24 = .ok (.invokestatic 59, 3) := by decide +kernel
theorem dX7_writes_27 : decode cX7_writes 27 = .ok (.ifCond .ne 5, 3) := by decide +kernel
theorem dX7_writes_30 : decode cX7_writes 30 = .ok (.iconst (-1), 1) := by decide +kernel
theorem dX7_writes_31 : decode cX7_writes 31 = .ok (.ireturn, 1) := by decide +kernel
theorem dX7_writes_32 : decode cX7_writes 32 = .ok (.aload_n 0, 1) := by decide +kernel
theorem dX7_writes_33 : decode cX7_writes 33 = .ok (.getfield 7, 3) := by decide +kernel
theorem dX7_writes_36 : decode cX7_writes 36 = .ok (.sipush 192, 3) := by decide +kernel
theorem dX7_writes_39 : decode cX7_writes 39 = .ok (.iload_n 1, 1) := by decide +kernel
theorem dX7_writes_40 : decode cX7_writes 40 = .ok (.iadd, 1) := by decide +kernel
theorem dX7_writes_41 : decode cX7_writes 41 = .ok (.iaload, 1) := by decide +kernel
theorem dX7_writes_42 : decode cX7_writes 42 = .ok (.istore 4, 2) := by decide +kernel
theorem dX7_writes_44 : decode cX7_writes 44 = .ok (.iload 4, 2) := by decide +kernel
theorem dX7_writes_46 : decode cX7_writes 46 = .ok (.bipush (-5), 2) := by decide +kernel
theorem dX7_writes_48 : decode cX7_writes 48 = .ok (.if_icmp .ne 6, 3) := by decide +kernel
theorem dX7_writes_51 : decode cX7_writes 51 = .ok (.bipush (-2), 2) := by decide +kernel
theorem dX7_writes_53 : decode cX7_writes 53 = .ok (.ireturn, 1) := by decide +kernel
theorem dX7_writes_54 : decode cX7_writes 54 = .ok (.aload_n 0, 1) := by decide +kernel
theorem dX7_writes_55 : decode cX7_writes 55 = .ok (.invokevirtual 115, 3) := by decide +kernel
theorem dX7_writes_58 : decode cX7_writes 58 = .ok (.iload_n 3, 1) := by decide +kernel
theorem dX7_writes_59 : decode cX7_writes 59 = .ok (.ifCond .ge 8, 3) := by decide +kernel
theorem dX7_writes_62 : decode cX7_writes 62 = .ok (.bipush (-5), 2) := by decide +kernel
theorem dX7_writes_64 : decode cX7_writes 64 = .ok (.goto 13, 3) := by decide +kernel
theorem dX7_writes_67 : decode cX7_writes 67 = .ok (.aload_n 0, 1) := by decide +kernel
theorem dX7_writes_68 : decode cX7_writes 68 = .ok (.getfield 7, 3) := by decide +kernel
theorem dX7_writes_71 : decode cX7_writes 71 = .ok (.sipush 192, 3) := by decide +kernel
theorem dX7_writes_74 : decode cX7_writes 74 = .ok (.iload_n 3, 1) := by decide +kernel
theorem dX7_writes_75 : decode cX7_writes 75 = .ok (.iadd, 1) := by decide +kernel
theorem dX7_writes_76 : decode cX7_writes 76 = .ok (.iaload, 1) := by decide +kernel
theorem dX7_writes_77 : decode cX7_writes 77 = .ok (.istore 5, 2) := by decide +kernel
theorem dX7_writes_79 : decode cX7_writes 79 = .ok (.aload_n 0, 1) := by decide +kernel
theorem dX7_writes_80 : decode cX7_writes 80 = .ok (.getfield 7, 3) := by decide +kernel
theorem dX7_writes_83 : decode cX7_writes 83 = .ok (.sipush 292, 3) := by decide +kernel
theorem dX7_writes_86 : decode cX7_writes 86 = .ok (.iaload, 1) := by decide +kernel
theorem dX7_writes_87 : decode cX7_writes 87 = .ok (.iconst 1, 1) := by decide +kernel
theorem dX7_writes_88 : decode cX7_writes 88 = .ok (.if_icmp .ne 16, 3) := by decide +kernel
theorem dX7_writes_91 : decode cX7_writes 91 = .ok (.aload_n 0, 1) := by decide +kernel
theorem dX7_writes_92 : decode cX7_writes 92 = .ok (.aload_n 0, 1) := by decide +kernel
theorem dX7_writes_93 : decode cX7_writes 93 = .ok (.iload 4, 2) := by decide +kernel
theorem dX7_writes_95 : decode cX7_writes 95 = .ok (.iconst 3, 1) := by decide +kernel
theorem dX7_writes_96 : decode cX7_writes 96 = .ok (.iload_n 2, 1) := by decide +kernel
theorem dX7_writes_97 : decode cX7_writes 97 = .ok (.iadd, 1) := by decide +kernel
theorem dX7_writes_98 : decode cX7_writes 98 = .ok (.invokevirtual 63, 3) := by decide +kernel
theorem dX7_writes_101 : decode cX7_writes 101 = .ok (.invokevirtual 124, 3) := by decide +kernel
theorem dX7_writes_104 : decode cX7_writes 104 = .ok (.aload_n 0, 1) := by decide +kernel
theorem dX7_writes_105 : decode cX7_writes 105 = .ok (.getfield 7, 3) := by decide +kernel
theorem dX7_writes_108 : decode cX7_writes 108 = .ok (.bipush 6, 2) := by decide +kernel
theorem dX7_writes_110 : decode cX7_writes 110 = .ok (.iload 4, 2) := by decide +kernel
theorem dX7_writes_112 : decode cX7_writes 112 = .ok (.imul, 1) := by decide +kernel
theorem dX7_writes_113 : decode cX7_writes 113 = .ok (.iconst 3, 1) := by decide +kernel
theorem dX7_writes_114 : decode cX7_writes 114 = .ok (.iadd, 1) := by decide +kernel
theorem dX7_writes_115 : decode cX7_writes 115 = .ok (.iload_n 2, 1) := by decide +kernel
theorem dX7_writes_116 : decode cX7_writes 116 = .ok (.iadd, 1) := by decide +kernel
theorem dX7_writes_117 : decode cX7_writes 117 = .ok (.iload 5, 2) := by decide +kernel
theorem dX7_writes_119 : decode cX7_writes 119 = .ok (.iastore, 1) := by decide +kernel
theorem dX7_writes_120 : decode cX7_writes 120 = .ok (.iload 5, 2) := by decide +kernel
theorem dX7_writes_122 : decode cX7_writes 122 = .ok (.bipush (-5), 2) := by decide +kernel
theorem dX7_writes_124 : decode cX7_writes 124 = .ok (.if_icmp .eq 47, 3) := by decide +kernel
theorem dX7_writes_127 : decode cX7_writes 127 = .ok (.aload_n 0, 1) := by decide +kernel
theorem dX7_writes_128 : decode cX7_writes 128 = .ok (.iload 5, 2) := by decide +kernel
theorem dX7_writes_130 : decode cX7_writes 130 = .ok (.iconst 1, 1) := by decide +kernel
theorem dX7_writes_131 : decode cX7_writes 131 = .ok (.invokevirtual 63, 3) := by decide +kernel
theorem dX7_writes_134 : decode cX7_writes 134 = .ok (.aload_n 0, 1) := by decide +kernel
theorem dX7_writes_135 : decode cX7_writes 135 = .ok (.iload 4, 2) := by decide +kernel
theorem dX7_writes_137 : decode cX7_writes 137 = .ok (.iconst 1, 1) := by decide +kernel
theorem dX7_writes_138 : decode cX7_writes 138 = .ok (.invokevirtual 63, 3) := by decide +kernel
theorem dX7_writes_141 : decode cX7_writes 141 = .ok (.if_icmp .eq 30, 3) := by decide +kernel
theorem dX7_writes_144 : decode cX7_writes 144 = .ok (.aload_n 0, 1) := by decide +kernel
theorem dX7_writes_145 : decode cX7_writes 145 = .ok (.iload 4, 2) := by decide +kernel
theorem dX7_writes_147 : decode cX7_writes 147 = .ok (.invokevirtual 127, 3) := by decide +kernel
theorem dX7_writes_150 : decode cX7_writes 150 = .ok (.iconst 1, 1) := by decide +kernel
theorem dX7_writes_151 : decode cX7_writes 151 = .ok (.if_icmp .eq 20, 3) := by decide +kernel
theorem dX7_writes_154 : decode cX7_writes 154 = .ok (.aload_n 0, 1) := by decide +kernel
theorem dX7_writes_155 : decode cX7_writes 155 = .ok (.aload_n 0, 1) := by decide +kernel
theorem dX7_writes_156 : decode cX7_writes 156 = .ok (.iload 4, 2) := by decide +kernel
theorem dX7_writes_158 : decode cX7_writes 158 = .ok (.invokevirtual 84, 3) := by decide +kernel
theorem dX7_writes_161 : decode cX7_writes 161 = .ok (.invokevirtual 73, 3) := by decide +kernel
theorem dX7_writes_164 : decode cX7_writes 164 = .ok (.ifCond .ne 7, 3) := by decide +kernel
theorem dX7_writes_167 : decode cX7_writes 167 = .ok (.iconst 1, 1) := by decide +kernel
theorem dX7_writes_168 : decode cX7_writes 168 = .ok (.goto 4, 3) := by decide +kernel
theorem dX7_writes_171 : decode cX7_writes 171 = .ok (.iconst 0, 1) := by decide +kernel
theorem dX7_writes_172 : decode cX7_writes 172 = .ok (.istore 6, 2) := by decide +kernel
theorem dX7_writes_174 : decode cX7_writes 174 = .ok (.iload 6, 2) := by decide +kernel
theorem dX7_writes_176 : decode cX7_writes 176 = .ok (.ifCond .eq 13, 3) := by decide +kernel
theorem dX7_writes_179 : decode cX7_writes 179 = .ok (.aload_n 0, 1) := by decide +kernel
theorem dX7_writes_180 : decode cX7_writes 180 = .ok (.aload_n 0, 1) := by decide +kernel
theorem dX7_writes_181 : decode cX7_writes 181 = .ok (.iload 4, 2) := by decide +kernel
theorem dX7_writes_183 : decode cX7_writes 183 = .ok (.invokevirtual 84, 3) := by decide +kernel
theorem dX7_writes_186 : decode cX7_writes 186 = .ok (.invokevirtual 130, 3) := by decide +kernel
theorem dX7_writes_189 : decode cX7_writes 189 = .ok (.iload 6, 2) := by decide +kernel
theorem dX7_writes_191 : decode cX7_writes 191 = .ok (.ifCond .eq 7, 3) := by decide +kernel
theorem dX7_writes_194 : decode cX7_writes 194 = .ok (.iconst 1, 1) := by decide +kernel
theorem dX7_writes_195 : decode cX7_writes 195 = .ok (.goto 4, 3) := by decide +kernel
theorem dX7_writes_198 : decode cX7_writes 198 = .ok (.iconst 0, 1) := by decide +kernel
theorem dX7_writes_199 : decode cX7_writes 199 = .ok (.ireturn, 1) := by decide +kernel
set_option maxRecDepth 20000 in
theorem ggX7_takes_X7_isRoot : GoodIn wsX7_takes wsX7_isRoot := goodIn_r _ [6, 7, 8, 5, 9] (by decide +kernel) (by decide +kernel)
set_option maxRecDepth 20000 in
theorem gX7_takes_X7_isRoot : GoodIn wsX7_takes (va_wsS RX7 105 yX7_isRoot wsX7_isRoot) := goodIn_app (goodIn_of _ (by decide +kernel)) ggX7_takes_X7_isRoot
set_option maxRecDepth 20000 in
theorem ggX7_takes_X7_in : GoodIn wsX7_takes wsX7_in := goodIn_r _ [9] (by decide +kernel) (by decide +kernel)
set_option maxRecDepth 20000 in
theorem gX7_takes_X7_in : GoodIn wsX7_takes (va_wsS RX7 59 yX7_in wsX7_in) := goodIn_app (goodIn_of _ (by decide +kernel)) ggX7_takes_X7_in
set_option maxRecDepth 20000 in
theorem ggX7_takes_X7_notes : GoodIn wsX7_takes wsX7_notes := goodIn_r _ [13, 14, 15, 16, 2, 17, 22, 23, 24, 25, 26, 27, 28, 29, 30, 31, 32, 33, 34, 35, 36, 37, 38, 39, 40, 41, 42, 43, 44, 45, 46, 47] (by decide +kernel) (by decide +kernel)
set_option maxRecDepth 20000 in
theorem gX7_takes_X7_notes : GoodIn wsX7_takes (wsV RX7 115 RX7 yX7_notes wsX7_notes) := goodIn_app (goodIn_of _ (by decide +kernel)) ggX7_takes_X7_notes
set_option maxRecDepth 20000 in
theorem ggX7_takes_X7_ofThing : GoodIn wsX7_takes wsX7_ofThing := goodIn_r _ [21, 2, 22, 23, 24, 25, 26, 27, 28, 29, 30, 31, 32, 33, 34, 35, 36, 37, 38, 39, 40, 41, 42, 43, 44, 45, 46, 47] (by decide +kernel) (by decide +kernel)
set_option maxRecDepth 20000 in
theorem gX7_takes_X7_ofThing : GoodIn wsX7_takes (wsV RX7 63 RX7 yX7_ofThing wsX7_ofThing) := goodIn_app (goodIn_of _ (by decide +kernel)) ggX7_takes_X7_ofThing
theorem dX7_takes_0 : decode cX7_takes 0 = .ok (.aload_n 0, 1) := by decide +kernel
theorem dX7_takes_1 : decode cX7_takes 1 = .ok (.iconst 0, 1) := by decide +kernel
theorem dX7_takes_2 : decode cX7_takes 2 = .ok (.putfield 55, 3) := by decide +kernel
theorem dX7_takes_5 : decode cX7_takes 5 = .ok (.iload_n 1, 1) := by decide +kernel
theorem dX7_takes_6 : decode cX7_takes 6 = .ok (.invokestatic 105, 3) := by decide +kernel
theorem dX7_takes_9 : decode cX7_takes 9 = .ok (.ifCond .eq 19, 3) := by decide +kernel
theorem dX7_takes_12 : decode cX7_takes 12 = .ok (.iload_n 2, 1) := by decide +kernel
theorem dX7_takes_13 : decode cX7_takes 13 = .ok (.invokestatic 105, 3) := by decide +kernel
theorem dX7_takes_16 : decode cX7_takes 16 = .ok (.ifCond .eq 12, 3) := by decide +kernel
theorem dX7_takes_19 : decode cX7_takes 19 = .ok (.iload_n 3, 1) := by decide +kernel
theorem dX7_takes_20 : decode cX7_takes 20 = .ok (.iconst 0, 1) := by decide +kernel
theorem dX7_takes_21 : decode cX7_takes 21 = .ok (.iconst 1, 1) := by decide +kernel
theorem dX7_takes_22 : decode cX7_takes 22 = .ok (.invokestatic 59, 3) := by decide +kernel
theorem dX7_takes_25 : decode cX7_takes 25 = .ok (.ifCond .ne 5, 3) := by decide +kernel
theorem dX7_takes_28 : decode cX7_takes 28 = .ok (.iconst (-1), 1) := by decide +kernel
theorem dX7_takes_29 : decode cX7_takes 29 = .ok (.ireturn, 1) := by decide +kernel
theorem dX7_takes_30 : decode cX7_takes 30 = .ok (.aload_n 0, 1) := by decide +kernel
theorem dX7_takes_31 : decode cX7_takes 31 = .ok (.getfield 7, 3) := by decide +kernel
theorem dX7_takes_34 : decode cX7_takes 34 = .ok (.sipush 192, 3) := by decide +kernel
theorem dX7_takes_37 : decode cX7_takes 37 = .ok (.iload_n 2, 1) := by decide +kernel
theorem dX7_takes_38 : decode cX7_takes 38 = .ok (.iadd, 1) := by decide +kernel
theorem dX7_takes_39 : decode cX7_takes 39 = .ok (.iaload, 1) := by decide +kernel
theorem dX7_takes_40 : decode cX7_takes 40 = .ok (.istore 4, 2) := by decide +kernel
theorem dX7_takes_42 : decode cX7_takes 42 = .ok (.iload 4, 2) := by decide +kernel
theorem dX7_takes_44 : decode cX7_takes 44 = .ok (.bipush (-5), 2) := by decide +kernel
theorem dX7_takes_46 : decode cX7_takes 46 = .ok (.if_icmp .ne 6, 3) := by decide +kernel
theorem dX7_takes_49 : decode cX7_takes 49 = .ok (.bipush (-2), 2) := by decide +kernel
theorem dX7_takes_51 : decode cX7_takes 51 = .ok (.ireturn, 1) := by decide +kernel
theorem dX7_takes_52 : decode cX7_takes 52 = .ok (.aload_n 0, 1) := by decide +kernel
theorem dX7_takes_53 : decode cX7_takes 53 = .ok (.invokevirtual 115, 3) := by decide +kernel
theorem dX7_takes_56 : decode cX7_takes 56 = .ok (.aload_n 0, 1) := by decide +kernel
theorem dX7_takes_57 : decode cX7_takes 57 = .ok (.getfield 7, 3) := by decide +kernel
theorem dX7_takes_60 : decode cX7_takes 60 = .ok (.sipush 192, 3) := by decide +kernel
theorem dX7_takes_63 : decode cX7_takes 63 = .ok (.iload_n 1, 1) := by decide +kernel
theorem dX7_takes_64 : decode cX7_takes 64 = .ok (.iadd, 1) := by decide +kernel
theorem dX7_takes_65 : decode cX7_takes 65 = .ok (.aload_n 0, 1) := by decide +kernel
theorem dX7_takes_66 : decode cX7_takes 66 = .ok (.iload 4, 2) := by decide +kernel
theorem dX7_takes_68 : decode cX7_takes 68 = .ok (.iconst 3, 1) := by decide +kernel
theorem dX7_takes_69 : decode cX7_takes 69 = .ok (.iload_n 3, 1) := by decide +kernel
theorem dX7_takes_70 : decode cX7_takes 70 = .ok (.iadd, 1) := by decide +kernel
theorem dX7_takes_71 : decode cX7_takes 71 = .ok (.invokevirtual 63, 3) := by decide +kernel
theorem dX7_takes_74 : decode cX7_takes 74 = .ok (.iastore, 1) := by decide +kernel
theorem dX7_takes_75 : decode cX7_takes 75 = .ok (.aload_n 0, 1) := by decide +kernel
theorem dX7_takes_76 : decode cX7_takes 76 = .ok (.getfield 7, 3) := by decide +kernel
theorem dX7_takes_79 : decode cX7_takes 79 = .ok (.sipush 192, 3) := by decide +kernel
theorem dX7_takes_82 : decode cX7_takes 82 = .ok (.iload_n 1, 1) := by decide +kernel
theorem dX7_takes_83 : decode cX7_takes 83 = .ok (.iadd, 1) := by decide +kernel
theorem dX7_takes_84 : decode cX7_takes 84 = .ok (.iaload, 1) := by decide +kernel
theorem dX7_takes_85 : decode cX7_takes 85 = .ok (.ireturn, 1) := by decide +kernel
set_option maxRecDepth 20000 in
theorem ggX7_sets_X7_isRoot : GoodIn wsX7_sets wsX7_isRoot := goodIn_r _ [6, 7, 8, 5, 9] (by decide +kernel) (by decide +kernel)
set_option maxRecDepth 20000 in
theorem gX7_sets_X7_isRoot : GoodIn wsX7_sets (va_wsS RX7 105 yX7_isRoot wsX7_isRoot) := goodIn_app (goodIn_of _ (by decide +kernel)) ggX7_sets_X7_isRoot
set_option maxRecDepth 20000 in
theorem ggX7_sets_X7_in : GoodIn wsX7_sets wsX7_in := goodIn_r _ [9] (by decide +kernel) (by decide +kernel)
set_option maxRecDepth 20000 in
theorem gX7_sets_X7_in : GoodIn wsX7_sets (va_wsS RX7 59 yX7_in wsX7_in) := goodIn_app (goodIn_of _ (by decide +kernel)) ggX7_sets_X7_in
set_option maxRecDepth 20000 in
theorem ggX7_sets_X7_notes : GoodIn wsX7_sets wsX7_notes := goodIn_r _ [13, 14, 15, 16, 2, 17, 18, 19, 20, 21, 22, 23, 24, 25, 26, 27, 28, 29, 30, 31, 32, 33, 34, 35, 36, 37, 38, 39, 40, 41, 42, 43] (by decide +kernel) (by decide +kernel)
set_option maxRecDepth 20000 in
theorem gX7_sets_X7_notes : GoodIn wsX7_sets (wsV RX7 115 RX7 yX7_notes wsX7_notes) := goodIn_app (goodIn_of _ (by decide +kernel)) ggX7_sets_X7_notes
theorem dX7_sets_0 : decode cX7_sets 0 = .ok (.aload_n 0, 1) := by decide +kernel
theorem dX7_sets_1 : decode cX7_sets 1 = .ok (.iconst 0, 1) := by decide +kernel
theorem dX7_sets_2 : decode cX7_sets 2 = .ok (.putfield 55, 3) := by decide +kernel
theorem dX7_sets_5 : decode cX7_sets 5 = .ok (.iload_n 1, 1) := by decide +kernel
theorem dX7_sets_6 : decode cX7_sets 6 = .ok (.invokestatic 105, 3) := by decide +kernel
theorem dX7_sets_9 : decode cX7_sets 9 = .ok (.ifCond .eq 12, 3) := by decide +kernel
theorem dX7_sets_12 : decode cX7_sets 12 = .ok (.iload_n 2, 1) := by decide +kernel
theorem dX7_sets_13 : decode cX7_sets 13 = .ok (.iconst (-1), 1) := by decide +kernel
theorem dX7_sets_14 : decode cX7_sets 14 = .ok (.iconst 5, 1) := by decide +kernel
theorem dX7_sets_15 : decode cX7_sets 15 = .ok (.invokestatic 59, 3) := by decide +kernel
theorem dX7_sets_18 : decode cX7_sets 18 = .ok (.ifCond .ne 5, 3) := by decide +kernel
theorem dX7_sets_21 : decode cX7_sets 21 = .ok (.iconst (-1), 1) := by decide +kernel
theorem dX7_sets_22 : decode cX7_sets 22 = .ok (.ireturn, 1) := by decide +kernel
theorem dX7_sets_23 : decode cX7_sets 23 = .ok (.aload_n 0, 1) := by decide +kernel
theorem dX7_sets_24 : decode cX7_sets 24 = .ok (.invokevirtual 115, 3) := by decide +kernel
theorem dX7_sets_27 : decode cX7_sets 27 = .ok (.aload_n 0, 1) := by decide +kernel
theorem dX7_sets_28 : decode cX7_sets 28 = .ok (.getfield 7, 3) := by decide +kernel
theorem dX7_sets_31 : decode cX7_sets 31 = .ok (.sipush 192, 3) := by decide +kernel
theorem dX7_sets_34 : decode cX7_sets 34 = .ok (.iload_n 1, 1) := by decide +kernel
theorem dX7_sets_35 : decode cX7_sets 35 = .ok (.iadd, 1) := by decide +kernel
theorem dX7_sets_36 : decode cX7_sets 36 = .ok (.iaload, 1) := by decide +kernel
theorem dX7_sets_37 : decode cX7_sets 37 = .ok (.istore_n 3, 1) := by decide +kernel
theorem dX7_sets_38 : decode cX7_sets 38 = .ok (.aload_n 0, 1) := by decide +kernel
theorem dX7_sets_39 : decode cX7_sets 39 = .ok (.getfield 7, 3) := by decide +kernel
theorem dX7_sets_42 : decode cX7_sets 42 = .ok (.sipush 192, 3) := by decide +kernel
theorem dX7_sets_45 : decode cX7_sets 45 = .ok (.iload_n 1, 1) := by decide +kernel
theorem dX7_sets_46 : decode cX7_sets 46 = .ok (.iadd, 1) := by decide +kernel
theorem dX7_sets_47 : decode cX7_sets 47 = .ok (.iload_n 2, 1) := by decide +kernel
theorem dX7_sets_48 : decode cX7_sets 48 = .ok (.ifCond .ge 8, 3) := by decide +kernel
theorem dX7_sets_51 : decode cX7_sets 51 = .ok (.bipush (-5), 2) := by decide +kernel
theorem dX7_sets_53 : decode cX7_sets 53 = .ok (.goto 13, 3) := by decide +kernel
theorem dX7_sets_56 : decode cX7_sets 56 = .ok (.aload_n 0, 1) := by decide +kernel
theorem dX7_sets_57 : decode cX7_sets 57 = .ok (.getfield 7, 3) := by decide +kernel
theorem dX7_sets_60 : decode cX7_sets 60 = .ok (.sipush 192, 3) := by decide +kernel
theorem dX7_sets_63 : decode cX7_sets 63 = .ok (.iload_n 2, 1) := by decide +kernel
theorem dX7_sets_64 : decode cX7_sets 64 = .ok (.iadd, 1) := by decide +kernel
theorem dX7_sets_65 : decode cX7_sets 65 = .ok (.iaload, 1) := by decide +kernel
theorem dX7_sets_66 : decode cX7_sets 66 = .ok (.iastore, 1) := by decide +kernel
theorem dX7_sets_67 : decode cX7_sets 67 = .ok (.iload_n 3, 1) := by decide +kernel
theorem dX7_sets_68 : decode cX7_sets 68 = .ok (.ireturn, 1) := by decide +kernel
set_option maxRecDepth 20000 in
theorem ggX7_refines_X7_in : GoodIn wsX7_refines wsX7_in := goodIn_r _ [6] (by decide +kernel) (by decide +kernel)
set_option maxRecDepth 20000 in
theorem gX7_refines_X7_in : GoodIn wsX7_refines (va_wsS RX7 59 yX7_in wsX7_in) := goodIn_app (goodIn_of _ (by decide +kernel)) ggX7_refines_X7_in
set_option maxRecDepth 20000 in
theorem ggX7_refines_X7_notes : GoodIn wsX7_refines wsX7_notes := goodIn_r _ [10, 11, 12, 13, 2, 14, 35, 36, 37, 38, 39, 40, 41, 42, 43, 44, 45, 46, 47, 48, 49, 50, 51, 52, 53, 54, 55, 56, 57, 58, 59, 60] (by decide +kernel) (by decide +kernel)
set_option maxRecDepth 20000 in
theorem gX7_refines_X7_notes : GoodIn wsX7_refines (wsV RX7 115 RX7 yX7_notes wsX7_notes) := goodIn_app (goodIn_of _ (by decide +kernel)) ggX7_refines_X7_notes
set_option maxRecDepth 20000 in
theorem ggX7_refines_X7_refinesOne : GoodIn wsX7_refines wsX7_refinesOne := goodIn_r _ [18, 2, 19, 20, 21, 5, 22, 23, 24, 25, 26, 3, 4, 6, 27, 28, 29, 30, 31, 32, 33, 34, 35, 36, 37, 38, 39, 40, 41, 42, 43, 44, 45, 46, 47, 48, 49, 50, 51, 52, 53, 54, 55, 56, 57, 58, 59, 60] (by decide +kernel) (by decide +kernel)
set_option maxRecDepth 20000 in
theorem gX7_refines_X7_refinesOne : GoodIn wsX7_refines (wsV RX7 133 RX7 yX7_refinesOne wsX7_refinesOne) := goodIn_app (goodIn_of _ (by decide +kernel)) ggX7_refines_X7_refinesOne
theorem dX7_refines_0 : decode cX7_refines 0 = .ok (.aload_n 0, 1) := by decide +kernel
theorem dX7_refines_1 : decode cX7_refines 1 = .ok (.iconst 0, 1) := by decide +kernel
theorem dX7_refines_2 : decode cX7_refines 2 = .ok (.putfield 55, 3) := by decide +kernel
theorem dX7_refines_5 : decode cX7_refines 5 = .ok (.iload_n 1, 1) := by decide +kernel
theorem dX7_refines_6 : decode cX7_refines 6 = .ok (.iconst 1, 1) := by decide +kernel
theorem dX7_refines_7 : decode cX7_refines 7 = .ok (.bipush 20, 2) := by decide +kernel
theorem dX7_refines_9 : decode cX7_refines 9 = .ok (.invokestatic 59, 3) := by decide +kernel
theorem dX7_refines_12 : decode cX7_refines 12 = .ok (.ifCond .ne 5, 3) := by decide +kernel
theorem dX7_refines_15 : decode cX7_refines 15 = .ok (.iconst (-1), 1) := by decide +kernel
theorem dX7_refines_16 : decode cX7_refines 16 = .ok (.ireturn, 1) := by decide +kernel
theorem dX7_refines_17 : decode cX7_refines 17 = .ok (.aload_n 0, 1) := by decide +kernel
theorem dX7_refines_18 : decode cX7_refines 18 = .ok (.getfield 7, 3) := by decide +kernel
theorem dX7_refines_21 : decode cX7_refines 21 = .ok (.sipush 258, 3) := by decide +kernel
theorem dX7_refines_24 : decode cX7_refines 24 = .ok (.iaload, 1) := by decide +kernel
theorem dX7_refines_25 : decode cX7_refines 25 = .ok (.ifCond .ne 6, 3) := by decide +kernel
theorem dX7_refines_28 : decode cX7_refines 28 = .ok (.bipush (-2), 2) := by decide +kernel
theorem dX7_refines_30 : decode cX7_refines 30 = .ok (.ireturn, 1) := by decide +kernel
theorem dX7_refines_31 : decode cX7_refines 31 = .ok (.aload_n 0, 1) := by decide +kernel
theorem dX7_refines_32 : decode cX7_refines 32 = .ok (.invokevirtual 115, 3) := by decide +kernel
theorem dX7_refines_35 : decode cX7_refines 35 = .ok (.iload_n 1, 1) := by decide +kernel
theorem dX7_refines_36 : decode cX7_refines 36 = .ok (.aload_n 0, 1) := by decide +kernel
theorem dX7_refines_37 : decode cX7_refines 37 = .ok (.getfield 7, 3) := by decide +kernel
theorem dX7_refines_40 : decode cX7_refines 40 = .ok (.sipush 258, 3) := by decide +kernel
theorem dX7_refines_43 : decode cX7_refines 43 = .ok (.iaload, 1) := by decide +kernel
theorem dX7_refines_44 : decode cX7_refines 44 = .ok (.if_icmp .ge 7, 3) := by decide +kernel
theorem dX7_refines_47 : decode cX7_refines 47 = .ok (.iload_n 1, 1) := by decide +kernel
theorem dX7_refines_48 : decode cX7_refines 48 = .ok (.goto 11, 3) := by decide +kernel
theorem dX7_refines_51 : decode cX7_refines 51 = .ok (.aload_n 0, 1) := by decide +kernel
theorem dX7_refines_52 : decode cX7_refines 52 = .ok (.getfield 7, 3) := by decide +kernel
theorem dX7_refines_55 : decode cX7_refines 55 = .ok (.sipush 258, 3) := by decide +kernel
theorem dX7_refines_58 : decode cX7_refines 58 = .ok (.iaload, 1) := by decide +kernel
theorem dX7_refines_59 : decode cX7_refines 59 = .ok (.istore_n 2, 1) := by decide +kernel
theorem dX7_refines_60 : decode cX7_refines 60 = .ok (.iconst 0, 1) := by decide +kernel
theorem dX7_refines_61 : decode cX7_refines 61 = .ok (.istore_n 3, 1) := by decide +kernel
theorem dX7_refines_62 : decode cX7_refines 62 = .ok (.iload_n 3, 1) := by decide +kernel
theorem dX7_refines_63 : decode cX7_refines 63 = .ok (.iload_n 2, 1) := by decide +kernel
theorem dX7_refines_64 : decode cX7_refines 64 = .ok (.if_icmp .ge 13, 3) := by decide +kernel
theorem dX7_refines_67 : decode cX7_refines 67 = .ok (.aload_n 0, 1) := by decide +kernel
theorem dX7_refines_68 : decode cX7_refines 68 = .ok (.invokevirtual 133, 3) := by decide +kernel
theorem dX7_refines_71 : decode cX7_refines 71 = .ok (.iinc 3 1, 3) := by decide +kernel
theorem dX7_refines_74 : decode cX7_refines 74 = .ok (.goto (-12), 3) := by decide +kernel
theorem dX7_refines_77 : decode cX7_refines 77 = .ok (.iload_n 2, 1) := by decide +kernel
theorem dX7_refines_78 : decode cX7_refines 78 = .ok (.ireturn, 1) := by decide +kernel
set_option maxRecDepth 20000 in
theorem ggX7_blackCells_X7_isThing : GoodIn wsX7_blackCells wsX7_isThing := goodIn_r _ [5, 6, 7, 8, 4, 9, 14, 15, 16, 17, 18, 19, 20, 21, 22, 23, 24, 25, 26, 27, 28, 29, 30, 31, 32, 33, 34, 35, 36, 37, 38, 39] (by decide +kernel) (by decide +kernel)
set_option maxRecDepth 20000 in
theorem gX7_blackCells_X7_isThing : GoodIn wsX7_blackCells (wsV RX7 81 RX7 yX7_isThing wsX7_isThing) := goodIn_app (goodIn_of _ (by decide +kernel)) ggX7_blackCells_X7_isThing
set_option maxRecDepth 20000 in
theorem ggX7_blackCells_X7_ofThing : GoodIn wsX7_blackCells wsX7_ofThing := goodIn_r _ [13, 6, 14, 15, 16, 17, 18, 19, 20, 21, 22, 23, 24, 25, 26, 27, 28, 29, 30, 31, 32, 33, 34, 35, 36, 37, 38, 39] (by decide +kernel) (by decide +kernel)
set_option maxRecDepth 20000 in
theorem gX7_blackCells_X7_ofThing : GoodIn wsX7_blackCells (wsV RX7 63 RX7 yX7_ofThing wsX7_ofThing) := goodIn_app (goodIn_of _ (by decide +kernel)) ggX7_blackCells_X7_ofThing
theorem dX7_blackCells_0 : decode cX7_blackCells 0 = .ok (.iconst 0, 1) := by decide +kernel
theorem dX7_blackCells_1 : decode cX7_blackCells 1 = .ok (.istore_n 2, 1) := by decide +kernel
theorem dX7_blackCells_2 : decode cX7_blackCells 2 = .ok (.iconst 0, 1) := by decide +kernel
theorem dX7_blackCells_3 : decode cX7_blackCells 3 = .ok (.istore_n 3, 1) := by decide +kernel
theorem dX7_blackCells_4 : decode cX7_blackCells 4 = .ok (.iload_n 3, 1) := by decide +kernel
theorem dX7_blackCells_5 : decode cX7_blackCells 5 = .ok (.bipush 32, 2) := by decide +kernel
theorem dX7_blackCells_7 : decode cX7_blackCells 7 = .ok (.if_icmp .ge 50, 3) := by decide +kernel
theorem dX7_blackCells_10 : decode cX7_blackCells 10 = .ok (.iload_n 2, 1) := by decide +kernel
theorem dX7_blackCells_11 : decode cX7_blackCells 11 = .ok (.aload_n 0, 1) := by decide +kernel
theorem dX7_blackCells_12 : decode cX7_blackCells 12 = .ok (.iload_n 3, 1) := by decide +kernel
theorem dX7_blackCells_13 : decode cX7_blackCells 13 = .ok (.invokevirtual 81, 3) := by decide +kernel
theorem dX7_blackCells_16 : decode cX7_blackCells 16 = .ok (.ifCond .eq 32, 3) := by decide +kernel
theorem dX7_blackCells_19 : decode cX7_blackCells 19 = .ok (.aload_n 0, 1) := by decide +kernel
theorem dX7_blackCells_20 : decode cX7_blackCells 20 = .ok (.iload_n 3, 1) := by decide +kernel
theorem dX7_blackCells_21 : decode cX7_blackCells 21 = .ok (.iconst 1, 1) := by decide +kernel
theorem dX7_blackCells_22 : decode cX7_blackCells 22 = .ok (.invokevirtual 63, 3) := by decide +kernel
theorem dX7_blackCells_25 : decode cX7_blackCells 25 = .ok (.iload_n 1, 1) := by decide +kernel
theorem dX7_blackCells_26 : decode cX7_blackCells 26 = .ok (.if_icmp .ne 22, 3) := by decide +kernel
theorem dX7_blackCells_29 : decode cX7_blackCells 29 = .ok (.aload_n 0, 1) := by decide +kernel
theorem dX7_blackCells_30 : decode cX7_blackCells 30 = .ok (.iload_n 3, 1) := by decide +kernel
theorem dX7_blackCells_31 : decode cX7_blackCells 31 = .ok (.iconst 5, 1) := by decide +kernel
theorem dX7_blackCells_32 : decode cX7_blackCells 32 = .ok (.invokevirtual 63, 3) := by decide +kernel
theorem dX7_blackCells_35 : decode cX7_blackCells 35 = .ok (.iconst 2, 1) := by decide +kernel
theorem dX7_blackCells_36 : decode cX7_blackCells 36 = .ok (.if_icmp .ne 12, 3) := by decide +kernel
theorem dX7_blackCells_39 : decode cX7_blackCells 39 = .ok (.aload_n 0, 1) := by decide +kernel
theorem dX7_blackCells_40 : decode cX7_blackCells 40 = .ok (.iload_n 3, 1) := by decide +kernel
theorem dX7_blackCells_41 : decode cX7_blackCells 41 = .ok (.iconst 0, 1) := by decide +kernel
theorem dX7_blackCells_42 : decode cX7_blackCells 42 = .ok (.invokevirtual 63, 3) := by decide +kernel
theorem dX7_blackCells_45 : decode cX7_blackCells 45 = .ok (.goto 4, 3) := by decide +kernel
theorem dX7_blackCells_48 : decode cX7_blackCells 48 = .ok (.iconst 0, 1) := by decide +kernel
theorem dX7_blackCells_49 : decode cX7_blackCells 49 = .ok (.iadd, 1) := by decide +kernel
theorem dX7_blackCells_50 : decode cX7_blackCells 50 = .ok (.istore_n 2, 1) := by decide +kernel
theorem dX7_blackCells_51 : decode cX7_blackCells 51 = .ok (.iinc 3 1, 3) := by decide +kernel
theorem dX7_blackCells_54 : decode cX7_blackCells 54 = .ok (.goto (-50), 3) := by decide +kernel
theorem dX7_blackCells_57 : decode cX7_blackCells 57 = .ok (.iload_n 2, 1) := by decide +kernel
theorem dX7_blackCells_58 : decode cX7_blackCells 58 = .ok (.ireturn, 1) := by decide +kernel
set_option maxRecDepth 20000 in
theorem ggX7_ends_X7_ofRegion : GoodIn wsX7_ends wsX7_ofRegion := goodIn_r _ [6, 1, 50, 51, 52, 53, 54, 55, 56, 57, 58, 59, 60, 61, 62, 63, 64, 65, 66, 67, 68, 69, 70, 71, 72, 73, 74, 75] (by decide +kernel) (by decide +kernel)
set_option maxRecDepth 20000 in
theorem gX7_ends_X7_ofRegion : GoodIn wsX7_ends (wsV RX7 67 RX7 yX7_ofRegion wsX7_ofRegion) := goodIn_app (goodIn_of _ (by decide +kernel)) ggX7_ends_X7_ofRegion
set_option maxRecDepth 20000 in
theorem ggX7_ends_X7_blackCells : GoodIn wsX7_ends wsX7_blackCells := goodIn_r _ [10, 11, 12, 13, 5, 14, 1, 15, 16, 17, 18, 19, 20, 21, 50, 51, 52, 53, 54, 55, 56, 57, 58, 59, 60, 61, 62, 63, 64, 65, 66, 67, 68, 69, 70, 71, 72, 73, 74, 75] (by decide +kernel) (by decide +kernel)
set_option maxRecDepth 20000 in
theorem gX7_ends_X7_blackCells : GoodIn wsX7_ends (wsV RX7 136 RX7 yX7_blackCells wsX7_blackCells) := goodIn_app (goodIn_of _ (by decide +kernel)) ggX7_ends_X7_blackCells
set_option maxRecDepth 20000 in
theorem ggX7_ends_X7_setsRegion : GoodIn wsX7_ends wsX7_setsRegion := goodIn_r _ [25, 1, 50, 51, 52, 53, 54, 55, 56, 57, 58, 59, 60, 61, 62, 63, 64, 65, 66, 67, 68, 69, 70, 71, 72, 73, 74, 75] (by decide +kernel) (by decide +kernel)
set_option maxRecDepth 20000 in
theorem gX7_ends_X7_setsRegion : GoodIn wsX7_ends (wsV RX7 88 RX7 yX7_setsRegion wsX7_setsRegion) := goodIn_app (goodIn_of _ (by decide +kernel)) ggX7_ends_X7_setsRegion
set_option maxRecDepth 20000 in
theorem ggX7_ends_X7_emptied : GoodIn wsX7_ends wsX7_emptied := goodIn_r _ [29, 11, 12, 13, 5, 14, 1, 15, 16, 17, 18, 19, 20, 21, 30, 31, 32, 33, 50, 51, 52, 53, 54, 55, 56, 57, 58, 59, 60, 61, 62, 63, 64, 65, 66, 67, 68, 69, 70, 71, 72, 73, 74, 75] (by decide +kernel) (by decide +kernel)
set_option maxRecDepth 20000 in
theorem gX7_ends_X7_emptied : GoodIn wsX7_ends (wsV RX7 139 RX7 yX7_emptied wsX7_emptied) := goodIn_app (goodIn_of _ (by decide +kernel)) ggX7_ends_X7_emptied
set_option maxRecDepth 20000 in
theorem ggX7_ends_X7_becomesFree : GoodIn wsX7_ends wsX7_becomesFree := goodIn_r _ [37, 2, 3, 4, 5, 6, 1, 38, 39, 40, 41, 22, 23, 24, 25, 42, 43, 44, 45, 46, 47, 48, 49, 50, 51, 52, 53, 54, 55, 56, 57, 58, 59, 60, 61, 62, 63, 64, 65, 66, 67, 68, 69, 70, 71, 72, 73, 74, 75] (by decide +kernel) (by decide +kernel)
set_option maxRecDepth 20000 in
theorem gX7_ends_X7_becomesFree : GoodIn wsX7_ends (wsV RX7 143 RX7 yX7_becomesFree wsX7_becomesFree) := goodIn_app (goodIn_of _ (by decide +kernel)) ggX7_ends_X7_becomesFree
theorem dX7_ends_0 : decode cX7_ends 0 = .ok (.aload_n 0, 1) := by decide +kernel
theorem dX7_ends_1 : decode cX7_ends 1 = .ok (.getfield 7, 3) := by decide +kernel
theorem dX7_ends_4 : decode cX7_ends 4 = .ok (.sipush 292, 3) := by decide +kernel
theorem dX7_ends_7 : decode cX7_ends 7 = .ok (.iconst 0, 1) := by decide +kernel
theorem dX7_ends_8 : decode cX7_ends 8 = .ok (.iastore, 1) := by decide +kernel
theorem dX7_ends_9 : decode cX7_ends 9 = .ok (.iconst 0, 1) := by decide +kernel
theorem dX7_ends_10 : decode cX7_ends 10 = .ok (.istore_n 1, 1) := by decide +kernel
theorem dX7_ends_11 : decode cX7_ends 11 = .ok (.iload_n 1, 1) := by decide +kernel
theorem dX7_ends_12 : decode cX7_ends 12 = .ok (.bipush 10, 2) := by decide +kernel
theorem dX7_ends_14 : decode cX7_ends 14 = .ok (.if_icmp .ge 30, 3) := by decide +kernel
theorem dX7_ends_17 : decode cX7_ends 17 = .ok (.aload_n 0, 1) := by decide +kernel
theorem dX7_ends_18 : decode cX7_ends 18 = .ok (.iload_n 1, 1) := by decide +kernel
theorem dX7_ends_19 : decode cX7_ends 19 = .ok (.iconst 0, 1) := by decide +kernel
theorem dX7_ends_20 : decode cX7_ends 20 = .ok (.invokevirtual 67, 3) := by decide +kernel
theorem dX7_ends_23 : decode cX7_ends 23 = .ok (.iconst 2, 1) := by decide +kernel
theorem dX7_ends_24 : decode cX7_ends 24 = .ok (.if_icmp .ne 14, 3) := by decide +kernel
theorem dX7_ends_27 : decode cX7_ends 27 = .ok (.aload_n 0, 1) := by decide +kernel
theorem dX7_ends_28 : decode cX7_ends 28 = .ok (.iload_n 1, 1) := by decide +kernel
theorem dX7_ends_29 : decode cX7_ends 29 = .ok (.iconst 2, 1) := by decide +kernel
theorem dX7_ends_30 : decode cX7_ends 30 = .ok (.aload_n 0, 1) := by decide +kernel
theorem dX7_ends_31 : decode cX7_ends 31 = .ok (.iload_n 1, 1) := by decide +kernel
theorem dX7_ends_32 : decode cX7_ends 32 = .ok (.invokevirtual 136, 3) := by decide +kernel
theorem dX7_ends_35 : decode cX7_ends 35 = .ok (.invokevirtual 88, 3) := by decide +kernel
theorem dX7_ends_38 : decode cX7_ends 38 = .ok (.iinc 1 1, 3) := by decide +kernel
theorem dX7_ends_41 : decode cX7_ends 41 = .ok (.goto (-30), 3) := by decide +kernel
theorem dX7_ends_44 : decode cX7_ends 44 = .ok (.iconst 0, 1) := by decide +kernel
theorem dX7_ends_45 : decode cX7_ends 45 = .ok (.istore_n 1, 1) := by decide +kernel
theorem dX7_ends_46 : decode cX7_ends 46 = .ok (.iload_n 1, 1) := by decide +kernel
theorem dX7_ends_47 : decode cX7_ends 47 = .ok (.bipush 10, 2) := by decide +kernel
theorem dX7_ends_49 : decode cX7_ends 49 = .ok (.if_icmp .ge 45, 3) := by decide +kernel
theorem dX7_ends_52 : decode cX7_ends 52 = .ok (.aload_n 0, 1) := by decide +kernel
theorem dX7_ends_53 : decode cX7_ends 53 = .ok (.iload_n 1, 1) := by decide +kernel
theorem dX7_ends_54 : decode cX7_ends 54 = .ok (.iconst 0, 1) := by decide +kernel
theorem dX7_ends_55 : decode cX7_ends 55 = .ok (.invokevirtual 67, 3) := by decide +kernel
theorem dX7_ends_58 : decode cX7_ends 58 = .ok (.istore_n 2, 1) := by decide +kernel
theorem dX7_ends_59 : decode cX7_ends 59 = .ok (.iload_n 2, 1) := by decide +kernel
theorem dX7_ends_60 : decode cX7_ends 60 = .ok (.iconst 2, 1) := by decide +kernel
theorem dX7_ends_61 : decode cX7_ends 61 = .ok (.if_icmp .eq 8, 3) := by decide +kernel
theorem dX7_ends_64 : decode cX7_ends 64 = .ok (.iload_n 2, 1) := by decide +kernel
theorem dX7_ends_65 : decode cX7_ends 65 = .ok (.iconst 3, 1) := by decide +kernel
theorem dX7_ends_66 : decode cX7_ends 66 = .ok (.if_icmp .ne 22, 3) := by decide +kernel
theorem dX7_ends_69 : decode cX7_ends 69 = .ok (.aload_n 0, 1) := by decide +kernel
theorem dX7_ends_70 : decode cX7_ends 70 = .ok (.iload_n 1, 1) := by decide +kernel
theorem dX7_ends_71 : decode cX7_ends 71 = .ok (.invokevirtual 136, 3) := by decide +kernel
theorem dX7_ends_74 : decode cX7_ends 74 = .ok (.ifCond .ne 14, 3) := by decide +kernel
theorem dX7_ends_77 : decode cX7_ends 77 = .ok (.aload_n 0, 1) := by decide +kernel
theorem dX7_ends_78 : decode cX7_ends 78 = .ok (.iload_n 1, 1) := by decide +kernel
theorem dX7_ends_79 : decode cX7_ends 79 = .ok (.iconst 0, 1) := by decide +kernel
theorem dX7_ends_80 : decode cX7_ends 80 = .ok (.invokevirtual 139, 3) := by decide +kernel
theorem dX7_ends_83 : decode cX7_ends 83 = .ok (.aload_n 0, 1) := by decide +kernel
theorem dX7_ends_84 : decode cX7_ends 84 = .ok (.iload_n 1, 1) := by decide +kernel
theorem dX7_ends_85 : decode cX7_ends 85 = .ok (.invokevirtual 143, 3) := by decide +kernel
theorem dX7_ends_88 : decode cX7_ends 88 = .ok (.iinc 1 1, 3) := by decide +kernel
theorem dX7_ends_91 : decode cX7_ends 91 = .ok (.goto (-45), 3) := by decide +kernel
theorem dX7_ends_94 : decode cX7_ends 94 = .ok (.return_, 1) := by decide +kernel
set_option maxRecDepth 20000 in
theorem ggX7_begins_X7_notes : GoodIn wsX7_begins wsX7_notes := goodIn_r _ [7, 8, 9, 10, 2, 11, 67, 68, 69, 70, 71, 72, 73, 74, 75, 76, 77, 78, 79, 80, 81, 82, 83, 84, 85, 86, 87, 88, 89, 90, 91, 92] (by decide +kernel) (by decide +kernel)
set_option maxRecDepth 20000 in
theorem gX7_begins_X7_notes : GoodIn wsX7_begins (wsV RX7 115 RX7 yX7_notes wsX7_notes) := goodIn_app (goodIn_of _ (by decide +kernel)) ggX7_begins_X7_notes
set_option maxRecDepth 20000 in
theorem ggX7_begins_X7_becomesGrey : GoodIn wsX7_begins wsX7_becomesGrey := goodIn_r _ [15, 2, 16, 17, 18, 6, 19, 67, 68, 69, 70, 71, 72, 73, 74, 75, 76, 77, 78, 79, 80, 81, 82, 83, 84, 85, 86, 87, 88, 89, 90, 91, 92] (by decide +kernel) (by decide +kernel)
set_option maxRecDepth 20000 in
theorem gX7_begins_X7_becomesGrey : GoodIn wsX7_begins (wsV RX7 124 RX7 yX7_becomesGrey wsX7_becomesGrey) := goodIn_app (goodIn_of _ (by decide +kernel)) ggX7_begins_X7_becomesGrey
set_option maxRecDepth 20000 in
theorem ggX7_begins_X7_ends : GoodIn wsX7_begins wsX7_ends := goodIn_r _ [23, 2, 24, 25, 26, 6, 27, 28, 29, 30, 31, 32, 33, 34, 35, 36, 37, 38, 16, 17, 18, 19, 39, 40, 41, 42, 43, 44, 45, 46, 47, 48, 49, 50, 51, 52, 53, 54, 55, 56, 57, 58, 59, 60, 61, 62, 63, 64, 65, 66, 67, 68, 69, 70, 71, 72, 73, 74, 75, 76, 77, 78, 79, 80, 81, 82, 83, 84, 85, 86, 87, 88, 89, 90, 91, 92] (by decide +kernel) (by decide +kernel)
set_option maxRecDepth 20000 in
theorem gX7_begins_X7_ends : GoodIn wsX7_begins (wsV RX7 146 RX7 yX7_ends wsX7_ends) := goodIn_app (goodIn_of _ (by decide +kernel)) ggX7_begins_X7_ends
theorem dX7_begins_0 : decode cX7_begins 0 = .ok (.aload_n 0, 1) := by decide +kernel
theorem dX7_begins_1 : decode cX7_begins 1 = .ok (.iconst 0, 1) := by decide +kernel
theorem dX7_begins_2 : decode cX7_begins 2 = .ok (.putfield 55, 3) := by decide +kernel
theorem dX7_begins_5 : decode cX7_begins 5 = .ok (.aload_n 0, 1) := by decide +kernel
theorem dX7_begins_6 : decode cX7_begins 6 = .ok (.getfield 7, 3) := by decide +kernel
theorem dX7_begins_9 : decode cX7_begins 9 = .ok (.sipush 292, 3) := by decide +kernel
theorem dX7_begins_12 : decode cX7_begins 12 = .ok (.iaload, 1) := by decide +kernel
theorem dX7_begins_13 : decode cX7_begins 13 = .ok (.iconst 1, 1) := by decide +kernel
theorem dX7_begins_14 : decode cX7_begins 14 = .ok (.if_icmp .ne 6, 3) := by decide +kernel
theorem dX7_begins_17 : decode cX7_begins 17 = .ok (.bipush (-2), 2) := by decide +kernel
theorem dX7_begins_19 : decode cX7_begins 19 = .ok (.ireturn, 1) := by decide +kernel
theorem dX7_begins_20 : decode cX7_begins 20 = .ok (.aload_n 0, 1) := by decide +kernel
theorem dX7_begins_21 : decode cX7_begins 21 = .ok (.invokevirtual 115, 3) := by decide +kernel
theorem dX7_begins_24 : decode cX7_begins 24 = .ok (.aload_n 0, 1) := by decide +kernel
theorem dX7_begins_25 : decode cX7_begins 25 = .ok (.getfield 7, 3) := by decide +kernel
theorem dX7_begins_28 : decode cX7_begins 28 = .ok (.sipush 292, 3) := by decide +kernel
theorem dX7_begins_31 : decode cX7_begins 31 = .ok (.iconst 1, 1) := by decide +kernel
theorem dX7_begins_32 : decode cX7_begins 32 = .ok (.iastore, 1) := by decide +kernel
theorem dX7_begins_33 : decode cX7_begins 33 = .ok (.aload_n 0, 1) := by decide +kernel
theorem dX7_begins_34 : decode cX7_begins 34 = .ok (.getfield 7, 3) := by decide +kernel
theorem dX7_begins_37 : decode cX7_begins 37 = .ok (.sipush 291, 3) := by decide +kernel
theorem dX7_begins_40 : decode cX7_begins 40 = .ok (.iconst 0, 1) := by decide +kernel
theorem dX7_begins_41 : decode cX7_begins 41 = .ok (.iastore, 1) := by decide +kernel
theorem dX7_begins_42 : decode cX7_begins 42 = .ok (.iconst 0, 1) := by decide +kernel
theorem dX7_begins_43 : decode cX7_begins 43 = .ok (.istore_n 1, 1) := by decide +kernel
theorem dX7_begins_44 : decode cX7_begins 44 = .ok (.iload_n 1, 1) := by decide +kernel
theorem dX7_begins_45 : decode cX7_begins 45 = .ok (.bipush 32, 2) := by decide +kernel
theorem dX7_begins_47 : decode cX7_begins 47 = .ok (.if_icmp .ge 21, 3) := by decide +kernel
theorem dX7_begins_50 : decode cX7_begins 50 = .ok (.aload_n 0, 1) := by decide +kernel
theorem dX7_begins_51 : decode cX7_begins 51 = .ok (.getfield 7, 3) := by decide +kernel
theorem dX7_begins_54 : decode cX7_begins 54 = .ok (.bipush 6, 2) := by decide +kernel
theorem dX7_begins_56 : decode cX7_begins 56 = .ok (.iload_n 1, 1) := by decide +kernel
theorem dX7_begins_57 : decode cX7_begins 57 = .ok (.imul, 1) := by decide +kernel
theorem dX7_begins_58 : decode cX7_begins 58 = .ok (.iconst 5, 1) := by decide +kernel
theorem dX7_begins_59 : decode cX7_begins 59 = .ok (.iadd, 1) := by decide +kernel
theorem dX7_begins_60 : decode cX7_begins 60 = .ok (.iconst 0, 1) := by decide +kernel
theorem dX7_begins_61 : decode cX7_begins 61 = .ok (.iastore, 1) := by decide +kernel
theorem dX7_begins_62 : decode cX7_begins 62 = .ok (.iinc 1 1, 3) := by decide +kernel
theorem dX7_begins_65 : decode cX7_begins 65 = .ok (.goto (-21), 3) := by decide +kernel
theorem dX7_begins_68 : decode cX7_begins 68 = .ok (.iconst 0, 1) := by decide +kernel
theorem dX7_begins_69 : decode cX7_begins 69 = .ok (.istore_n 1, 1) := by decide +kernel
theorem dX7_begins_70 : decode cX7_begins 70 = .ok (.iload_n 1, 1) := by decide +kernel
theorem dX7_begins_71 : decode cX7_begins 71 = .ok (.bipush 6, 2) := by decide +kernel
theorem dX7_begins_73 : decode cX7_begins 73 = .ok (.if_icmp .ge 23, 3) := by decide +kernel
theorem dX7_begins_76 : decode cX7_begins 76 = .ok (.aload_n 0, 1) := by decide +kernel
theorem dX7_begins_77 : decode cX7_begins 77 = .ok (.aload_n 0, 1) := by decide +kernel
theorem dX7_begins_78 : decode cX7_begins 78 = .ok (.getfield 7, 3) := by decide +kernel
theorem dX7_begins_81 : decode cX7_begins 81 = .ok (.sipush 192, 3) := by decide +kernel
theorem dX7_begins_84 : decode cX7_begins 84 = .ok (.iload_n 1, 1) := by decide +kernel
theorem dX7_begins_85 : decode cX7_begins 85 = .ok (.iadd, 1) := by decide +kernel
theorem dX7_begins_86 : decode cX7_begins 86 = .ok (.iaload, 1) := by decide +kernel
theorem dX7_begins_87 : decode cX7_begins 87 = .ok (.invokevirtual 124, 3) := by decide +kernel
theorem dX7_begins_90 : decode cX7_begins 90 = .ok (.iinc 1 1, 3) := by decide +kernel
theorem dX7_begins_93 : decode cX7_begins 93 = .ok (.goto (-23), 3) := by decide +kernel
theorem dX7_begins_96 : decode cX7_begins 96 = .ok (.aload_n 0, 1) := by decide +kernel
theorem dX7_begins_97 : decode cX7_begins 97 = .ok (.getfield 7, 3) := by decide +kernel
theorem dX7_begins_100 : decode cX7_begins 100 = .ok (.sipush 291, 3) := by decide +kernel
theorem dX7_begins_103 : decode cX7_begins 103 = .ok (.iaload, 1) := by decide +kernel
theorem dX7_begins_104 : decode cX7_begins 104 = .ok (.ifCond .ne 7, 3) := by decide +kernel
theorem dX7_begins_107 : decode cX7_begins 107 = .ok (.aload_n 0, 1) := by decide +kernel
theorem dX7_begins_108 : decode cX7_begins 108 = .ok (.invokevirtual 146, 3) := by decide +kernel
theorem dX7_begins_111 : decode cX7_begins 111 = .ok (.aload_n 0, 1) := by decide +kernel
theorem dX7_begins_112 : decode cX7_begins 112 = .ok (.getfield 7, 3) := by decide +kernel
theorem dX7_begins_115 : decode cX7_begins 115 = .ok (.sipush 291, 3) := by decide +kernel
theorem dX7_begins_118 : decode cX7_begins 118 = .ok (.iaload, 1) := by decide +kernel
theorem dX7_begins_119 : decode cX7_begins 119 = .ok (.ireturn, 1) := by decide +kernel
set_option maxRecDepth 20000 in
theorem ggX7_step_X7_leaves : GoodIn wsX7_step wsX7_leaves := goodIn_r _ [6, 1, 58, 59, 60, 61, 62, 63, 64, 65, 66, 67, 68, 69, 70, 71, 72, 73, 74, 75, 76, 77, 78, 79, 80, 81, 82, 83] (by decide +kernel) (by decide +kernel)
set_option maxRecDepth 20000 in
theorem gX7_step_X7_leaves : GoodIn wsX7_step (wsV RX7 77 RX7 yX7_leaves wsX7_leaves) := goodIn_app (goodIn_of _ (by decide +kernel)) ggX7_step_X7_leaves
set_option maxRecDepth 20000 in
theorem ggX7_step_X7_ofThing : GoodIn wsX7_step wsX7_ofThing := goodIn_r _ [10, 1, 58, 59, 60, 61, 62, 63, 64, 65, 66, 67, 68, 69, 70, 71, 72, 73, 74, 75, 76, 77, 78, 79, 80, 81, 82, 83] (by decide +kernel) (by decide +kernel)
set_option maxRecDepth 20000 in
theorem gX7_step_X7_ofThing : GoodIn wsX7_step (wsV RX7 63 RX7 yX7_ofThing wsX7_ofThing) := goodIn_app (goodIn_of _ (by decide +kernel)) ggX7_step_X7_ofThing
set_option maxRecDepth 20000 in
theorem ggX7_step_X7_becomesGrey : GoodIn wsX7_step wsX7_becomesGrey := goodIn_r _ [14, 1, 7, 8, 9, 5, 10, 58, 59, 60, 61, 62, 63, 64, 65, 66, 67, 68, 69, 70, 71, 72, 73, 74, 75, 76, 77, 78, 79, 80, 81, 82, 83] (by decide +kernel) (by decide +kernel)
set_option maxRecDepth 20000 in
theorem gX7_step_X7_becomesGrey : GoodIn wsX7_step (wsV RX7 124 RX7 yX7_becomesGrey wsX7_becomesGrey) := goodIn_app (goodIn_of _ (by decide +kernel)) ggX7_step_X7_becomesGrey
set_option maxRecDepth 20000 in
theorem ggX7_step_X7_ends : GoodIn wsX7_step wsX7_ends := goodIn_r _ [18, 1, 19, 20, 21, 5, 22, 23, 24, 25, 26, 27, 28, 29, 30, 31, 32, 33, 7, 8, 9, 10, 34, 35, 36, 37, 38, 39, 40, 41, 42, 43, 44, 45, 46, 47, 48, 49, 50, 51, 52, 53, 54, 55, 56, 57, 2, 3, 4, 6, 58, 59, 60, 61, 62, 63, 64, 65, 66, 67, 68, 69, 70, 71, 72, 73, 74, 75, 76, 77, 78, 79, 80, 81, 82, 83] (by decide +kernel) (by decide +kernel)
set_option maxRecDepth 20000 in
theorem gX7_step_X7_ends : GoodIn wsX7_step (wsV RX7 146 RX7 yX7_ends wsX7_ends) := goodIn_app (goodIn_of _ (by decide +kernel)) ggX7_step_X7_ends
theorem dX7_step_0 : decode cX7_step 0 = .ok (.aload_n 0, 1) := by decide +kernel
theorem dX7_step_1 : decode cX7_step 1 = .ok (.getfield 7, 3) := by decide +kernel
theorem dX7_step_4 : decode cX7_step 4 = .ok (.sipush 259, 3) := by decide +kernel
theorem dX7_step_7 : decode cX7_step 7 = .ok (.iaload, 1) := by decide +kernel
theorem dX7_step_8 : decode cX7_step 8 = .ok (.istore_n 1, 1) := by decide +kernel
theorem dX7_step_9 : decode cX7_step 9 = .ok (.aload_n 0, 1) := by decide +kernel
theorem dX7_step_10 : decode cX7_step 10 = .ok (.sipush 259, 3) := by decide +kernel
theorem dX7_step_13 : decode cX7_step 13 = .ok (.sipush 291, 3) := by decide +kernel
theorem dX7_step_16 : decode cX7_step 16 = .ok (.iconst 0, 1) := by decide +kernel
theorem dX7_step_17 : decode cX7_step 17 = .ok (.invokevirtual 77, 3) := by decide +kernel
theorem dX7_step_20 : decode cX7_step 20 = .ok (.aload_n 0, 1) := by decide +kernel
theorem dX7_step_21 : decode cX7_step 21 = .ok (.getfield 7, 3) := by decide +kernel
theorem dX7_step_24 : decode cX7_step 24 = .ok (.bipush 6, 2) := by decide +kernel
theorem dX7_step_26 : decode cX7_step 26 = .ok (.iload_n 1, 1) := by decide +kernel
theorem dX7_step_27 : decode cX7_step 27 = .ok (.imul, 1) := by decide +kernel
theorem dX7_step_28 : decode cX7_step 28 = .ok (.iconst 5, 1) := by decide +kernel
theorem dX7_step_29 : decode cX7_step 29 = .ok (.iadd, 1) := by decide +kernel
theorem dX7_step_30 : decode cX7_step 30 = .ok (.iconst 2, 1) := by decide +kernel
theorem dX7_step_31 : decode cX7_step 31 = .ok (.iastore, 1) := by decide +kernel
theorem dX7_step_32 : decode cX7_step 32 = .ok (.aload_n 0, 1) := by decide +kernel
theorem dX7_step_33 : decode cX7_step 33 = .ok (.aload_n 0, 1) := by decide +kernel
theorem dX7_step_34 : decode cX7_step 34 = .ok (.iload_n 1, 1) := by decide +kernel
theorem dX7_step_35 : decode cX7_step 35 = .ok (.iconst 3, 1) := by decide +kernel
theorem dX7_step_36 : decode cX7_step 36 = .ok (.invokevirtual 63, 3) := by decide +kernel
theorem dX7_step_39 : decode cX7_step 39 = .ok (.invokevirtual 124, 3) := by decide +kernel
theorem dX7_step_42 : decode cX7_step 42 = .ok (.aload_n 0, 1) := by decide +kernel
theorem dX7_step_43 : decode cX7_step 43 = .ok (.aload_n 0, 1) := by decide +kernel
theorem dX7_step_44 : decode cX7_step 44 = .ok (.iload_n 1, 1) := by decide +kernel
theorem dX7_step_45 : decode cX7_step 45 = .ok (.iconst 4, 1) := by decide +kernel
theorem dX7_step_46 : decode cX7_step 46 = .ok (.invokevirtual 63, 3) := by decide +kernel
theorem dX7_step_49 : decode cX7_step 49 = .ok (.invokevirtual 124, 3) := by decide +kernel
theorem dX7_step_52 : decode cX7_step 52 = .ok (.aload_n 0, 1) := by decide +kernel
theorem dX7_step_53 : decode cX7_step 53 = .ok (.getfield 7, 3) := by decide +kernel
theorem dX7_step_56 : decode cX7_step 56 = .ok (.sipush 291, 3) := by decide +kernel
theorem dX7_step_59 : decode cX7_step 59 = .ok (.iaload, 1) := by decide +kernel
theorem dX7_step_60 : decode cX7_step 60 = .ok (.ifCond .ne 7, 3) := by decide +kernel
theorem dX7_step_63 : decode cX7_step 63 = .ok (.aload_n 0, 1) := by decide +kernel
theorem dX7_step_64 : decode cX7_step 64 = .ok (.invokevirtual 146, 3) := by decide +kernel
theorem dX7_step_67 : decode cX7_step 67 = .ok (.return_, 1) := by decide +kernel
set_option maxRecDepth 20000 in
theorem ggX7_steps_X7_in : GoodIn wsX7_steps wsX7_in := goodIn_r _ [6] (by decide +kernel) (by decide +kernel)
set_option maxRecDepth 20000 in
theorem gX7_steps_X7_in : GoodIn wsX7_steps (va_wsS RX7 59 yX7_in wsX7_in) := goodIn_app (goodIn_of _ (by decide +kernel)) ggX7_steps_X7_in
set_option maxRecDepth 20000 in
theorem ggX7_steps_X7_notes : GoodIn wsX7_steps wsX7_notes := goodIn_r _ [10, 11, 12, 13, 2, 14, 71, 72, 73, 74, 75, 76, 77, 78, 79, 80, 81, 82, 83, 84, 85, 86, 87, 88, 89, 90, 91, 92, 93, 94, 95, 96] (by decide +kernel) (by decide +kernel)
set_option maxRecDepth 20000 in
theorem gX7_steps_X7_notes : GoodIn wsX7_steps (wsV RX7 115 RX7 yX7_notes wsX7_notes) := goodIn_app (goodIn_of _ (by decide +kernel)) ggX7_steps_X7_notes
set_option maxRecDepth 20000 in
theorem ggX7_steps_X7_step : GoodIn wsX7_steps wsX7_step := goodIn_r _ [18, 2, 19, 20, 21, 5, 22, 23, 24, 25, 26, 27, 28, 29, 30, 31, 32, 33, 34, 35, 36, 37, 38, 39, 40, 41, 42, 43, 44, 45, 46, 3, 4, 6, 47, 48, 49, 50, 51, 52, 53, 54, 55, 56, 57, 58, 59, 60, 61, 62, 63, 64, 65, 66, 67, 68, 69, 70, 71, 72, 73, 74, 75, 76, 77, 78, 79, 80, 81, 82, 83, 84, 85, 86, 87, 88, 89, 90, 91, 92, 93, 94, 95, 96] (by decide +kernel) (by decide +kernel)
set_option maxRecDepth 20000 in
theorem gX7_steps_X7_step : GoodIn wsX7_steps (wsV RX7 149 RX7 yX7_step wsX7_step) := goodIn_app (goodIn_of _ (by decide +kernel)) ggX7_steps_X7_step
theorem dX7_steps_0 : decode cX7_steps 0 = .ok (.aload_n 0, 1) := by decide +kernel
theorem dX7_steps_1 : decode cX7_steps 1 = .ok (.iconst 0, 1) := by decide +kernel
theorem dX7_steps_2 : decode cX7_steps 2 = .ok (.putfield 55, 3) := by decide +kernel
theorem dX7_steps_5 : decode cX7_steps 5 = .ok (.iload_n 1, 1) := by decide +kernel
theorem dX7_steps_6 : decode cX7_steps 6 = .ok (.iconst 1, 1) := by decide +kernel
theorem dX7_steps_7 : decode cX7_steps 7 = .ok (.bipush 32, 2) := by decide +kernel
theorem dX7_steps_9 : decode cX7_steps 9 = .ok (.invokestatic 59, 3) := by decide +kernel
theorem dX7_steps_12 : decode cX7_steps 12 = .ok (.ifCond .ne 5, 3) := by decide +kernel
theorem dX7_steps_15 : decode cX7_steps 15 = .ok (.iconst (-1), 1) := by decide +kernel
theorem dX7_steps_16 : decode cX7_steps 16 = .ok (.ireturn, 1) := by decide +kernel
theorem dX7_steps_17 : decode cX7_steps 17 = .ok (.aload_n 0, 1) := by decide +kernel
theorem dX7_steps_18 : decode cX7_steps 18 = .ok (.getfield 7, 3) := by decide +kernel
theorem dX7_steps_21 : decode cX7_steps 21 = .ok (.sipush 292, 3) := by decide +kernel
theorem dX7_steps_24 : decode cX7_steps 24 = .ok (.iaload, 1) := by decide +kernel
theorem dX7_steps_25 : decode cX7_steps 25 = .ok (.ifCond .ne 6, 3) := by decide +kernel
theorem dX7_steps_28 : decode cX7_steps 28 = .ok (.bipush (-2), 2) := by decide +kernel
theorem dX7_steps_30 : decode cX7_steps 30 = .ok (.ireturn, 1) := by decide +kernel
theorem dX7_steps_31 : decode cX7_steps 31 = .ok (.aload_n 0, 1) := by decide +kernel
theorem dX7_steps_32 : decode cX7_steps 32 = .ok (.invokevirtual 115, 3) := by decide +kernel
theorem dX7_steps_35 : decode cX7_steps 35 = .ok (.iconst 0, 1) := by decide +kernel
theorem dX7_steps_36 : decode cX7_steps 36 = .ok (.istore_n 2, 1) := by decide +kernel
theorem dX7_steps_37 : decode cX7_steps 37 = .ok (.iload_n 2, 1) := by decide +kernel
theorem dX7_steps_38 : decode cX7_steps 38 = .ok (.iload_n 1, 1) := by decide +kernel
theorem dX7_steps_39 : decode cX7_steps 39 = .ok (.if_icmp .ge 25, 3) := by decide +kernel
theorem dX7_steps_42 : decode cX7_steps 42 = .ok (.aload_n 0, 1) := by decide +kernel
theorem dX7_steps_43 : decode cX7_steps 43 = .ok (.getfield 7, 3) := by decide +kernel
theorem dX7_steps_46 : decode cX7_steps 46 = .ok (.sipush 292, 3) := by decide +kernel
theorem dX7_steps_49 : decode cX7_steps 49 = .ok (.iaload, 1) := by decide +kernel
theorem dX7_steps_50 : decode cX7_steps 50 = .ok (.iconst 1, 1) := by decide +kernel
theorem dX7_steps_51 : decode cX7_steps 51 = .ok (.if_icmp .ne 13, 3) := by decide +kernel
theorem dX7_steps_54 : decode cX7_steps 54 = .ok (.aload_n 0, 1) := by decide +kernel
theorem dX7_steps_55 : decode cX7_steps 55 = .ok (.invokevirtual 149, 3) := by decide +kernel
theorem dX7_steps_58 : decode cX7_steps 58 = .ok (.iinc 2 1, 3) := by decide +kernel
theorem dX7_steps_61 : decode cX7_steps 61 = .ok (.goto (-24), 3) := by decide +kernel
theorem dX7_steps_64 : decode cX7_steps 64 = .ok (.aload_n 0, 1) := by decide +kernel
theorem dX7_steps_65 : decode cX7_steps 65 = .ok (.getfield 7, 3) := by decide +kernel
theorem dX7_steps_68 : decode cX7_steps 68 = .ok (.sipush 291, 3) := by decide +kernel
theorem dX7_steps_71 : decode cX7_steps 71 = .ok (.iaload, 1) := by decide +kernel
theorem dX7_steps_72 : decode cX7_steps 72 = .ok (.ireturn, 1) := by decide +kernel
set_option maxRecDepth 20000 in
theorem ggX7_gainOf_X7_ofRegion : GoodIn wsX7_gainOf wsX7_ofRegion := goodIn_r _ [5, 6, 7, 8, 9, 10, 11, 12, 13, 14, 15, 16, 17, 18, 19, 20, 21, 22, 23, 24, 25, 26, 27, 28, 29, 30, 31, 32] (by decide +kernel) (by decide +kernel)
set_option maxRecDepth 20000 in
theorem gX7_gainOf_X7_ofRegion : GoodIn wsX7_gainOf (wsV RX7 67 RX7 yX7_ofRegion wsX7_ofRegion) := goodIn_app (goodIn_of _ (by decide +kernel)) ggX7_gainOf_X7_ofRegion
theorem dX7_gainOf_0 : decode cX7_gainOf 0 = .ok (.aload_n 0, 1) := by decide +kernel
theorem dX7_gainOf_1 : decode cX7_gainOf 1 = .ok (.iload_n 1, 1) := by decide +kernel
theorem dX7_gainOf_2 : decode cX7_gainOf 2 = .ok (.iconst 0, 1) := by decide +kernel
theorem dX7_gainOf_3 : decode cX7_gainOf 3 = .ok (.invokevirtual 67, 3) := by decide +kernel
theorem dX7_gainOf_6 : decode cX7_gainOf 6 = .ok (.iconst 2, 1) := by decide +kernel
theorem dX7_gainOf_7 : decode cX7_gainOf 7 = .ok (.if_icmp .ne 18, 3) := by decide +kernel
theorem dX7_gainOf_10 : decode cX7_gainOf 10 = .ok (.aload_n 0, 1) := by decide +kernel
theorem dX7_gainOf_11 : decode cX7_gainOf 11 = .ok (.iload_n 1, 1) := by decide +kernel
theorem dX7_gainOf_12 : decode cX7_gainOf 12 = .ok (.iconst 2, 1) := by decide +kernel
theorem dX7_gainOf_13 : decode cX7_gainOf 13 = .ok (.invokevirtual 67, 3) := by decide +kernel
theorem dX7_gainOf_16 : decode cX7_gainOf 16 = .ok (.bipush (-9), 2) := by decide +kernel
theorem dX7_gainOf_18 : decode cX7_gainOf 18 = .ok (.if_icmp .eq 7, 3) := by decide +kernel
theorem dX7_gainOf_21 : decode cX7_gainOf 21 = .ok (.iconst 1, 1) := by decide +kernel
theorem dX7_gainOf_22 : decode cX7_gainOf 22 = .ok (.goto 4, 3) := by decide +kernel
theorem dX7_gainOf_25 : decode cX7_gainOf 25 = .ok (.iconst 0, 1) := by decide +kernel
theorem dX7_gainOf_26 : decode cX7_gainOf 26 = .ok (.istore_n 2, 1) := by decide +kernel
theorem dX7_gainOf_27 : decode cX7_gainOf 27 = .ok (.iload_n 2, 1) := by decide +kernel
theorem dX7_gainOf_28 : decode cX7_gainOf 28 = .ok (.ifCond .eq 19, 3) := by decide +kernel
theorem dX7_gainOf_31 : decode cX7_gainOf 31 = .ok (.aload_n 0, 1) := by decide +kernel
theorem dX7_gainOf_32 : decode cX7_gainOf 32 = .ok (.iload_n 1, 1) := by decide +kernel
theorem dX7_gainOf_33 : decode cX7_gainOf 33 = .ok (.iconst 1, 1) := by decide +kernel
theorem dX7_gainOf_34 : decode cX7_gainOf 34 = .ok (.invokevirtual 67, 3) := by decide +kernel
theorem dX7_gainOf_37 : decode cX7_gainOf 37 = .ok (.aload_n 0, 1) := by decide +kernel
theorem dX7_gainOf_38 : decode cX7_gainOf 38 = .ok (.iload_n 1, 1) := by decide +kernel
theorem dX7_gainOf_39 : decode cX7_gainOf 39 = .ok (.iconst 2, 1) := by decide +kernel
theorem dX7_gainOf_40 : decode cX7_gainOf 40 = .ok (.invokevirtual 67, 3) := by decide +kernel
theorem dX7_gainOf_43 : decode cX7_gainOf 43 = .ok (.isub, 1) := by decide +kernel
theorem dX7_gainOf_44 : decode cX7_gainOf 44 = .ok (.goto 4, 3) := by decide +kernel
theorem dX7_gainOf_47 : decode cX7_gainOf 47 = .ok (.iconst 0, 1) := by decide +kernel
theorem dX7_gainOf_48 : decode cX7_gainOf 48 = .ok (.ireturn, 1) := by decide +kernel
set_option maxRecDepth 20000 in
theorem ggX7_laysChosen_X7_ofRegion : GoodIn wsX7_laysChosen wsX7_ofRegion := goodIn_r _ [10, 11, 16, 17, 18, 19, 20, 21, 22, 23, 24, 25, 26, 27, 28, 29, 30, 31, 32, 33, 34, 35, 36, 37, 38, 39, 40, 41] (by decide +kernel) (by decide +kernel)
set_option maxRecDepth 20000 in
theorem gX7_laysChosen_X7_ofRegion : GoodIn wsX7_laysChosen (wsV RX7 67 RX7 yX7_ofRegion wsX7_ofRegion) := goodIn_app (goodIn_of _ (by decide +kernel)) ggX7_laysChosen_X7_ofRegion
set_option maxRecDepth 20000 in
theorem ggX7_laysChosen_X7_gainOf : GoodIn wsX7_laysChosen wsX7_gainOf := goodIn_r _ [15, 6, 7, 8, 9, 10, 11, 16, 17, 18, 19, 20, 21, 22, 23, 24, 25, 26, 27, 28, 29, 30, 31, 32, 33, 34, 35, 36, 37, 38, 39, 40, 41] (by decide +kernel) (by decide +kernel)
set_option maxRecDepth 20000 in
theorem gX7_laysChosen_X7_gainOf : GoodIn wsX7_laysChosen (wsV RX7 163 RX7 yX7_gainOf wsX7_gainOf) := goodIn_app (goodIn_of _ (by decide +kernel)) ggX7_laysChosen_X7_gainOf
theorem dX7_laysChosen_0 : decode cX7_laysChosen 0 = .ok (.aload_n 0, 1) := by decide +kernel
theorem dX7_laysChosen_1 : decode cX7_laysChosen 1 = .ok (.iconst 0, 1) := by decide +kernel
theorem dX7_laysChosen_2 : decode cX7_laysChosen 2 = .ok (.putfield 152, 3) := by decide +kernel
theorem dX7_laysChosen_5 : decode cX7_laysChosen 5 = .ok (.aload_n 0, 1) := by decide +kernel
theorem dX7_laysChosen_6 : decode cX7_laysChosen 6 = .ok (.iconst 0, 1) := by decide +kernel
theorem dX7_laysChosen_7 : decode cX7_laysChosen 7 = .ok (.putfield 155, 3) := by decide +kernel
theorem dX7_laysChosen_10 : decode cX7_laysChosen 10 = .ok (.iconst 0, 1) := by decide +kernel
theorem dX7_laysChosen_11 : decode cX7_laysChosen 11 = .ok (.istore_n 2, 1) := by decide +kernel
theorem dX7_laysChosen_12 : decode cX7_laysChosen 12 = .ok (.iload_n 2, 1) := by decide +kernel
theorem dX7_laysChosen_13 : decode cX7_laysChosen 13 = .ok (.bipush 10, 2) := by decide +kernel
theorem dX7_laysChosen_15 : decode cX7_laysChosen 15 = .ok (.if_icmp .ge 46, 3) := by decide +kernel
theorem dX7_laysChosen_18 : decode cX7_laysChosen 18 = .ok (.aload_n 0, 1) := by decide +kernel
theorem dX7_laysChosen_19 : decode cX7_laysChosen 19 = .ok (.iload_n 2, 1) := by decide +kernel
theorem dX7_laysChosen_20 : decode cX7_laysChosen 20 = .ok (.iconst 0, 1) := by decide +kernel
theorem dX7_laysChosen_21 : decode cX7_laysChosen 21 = .ok (.invokevirtual 67, 3) := by decide +kernel
theorem dX7_laysChosen_24 : decode cX7_laysChosen 24 = .ok (.iconst 1, 1) := by decide +kernel
theorem dX7_laysChosen_25 : decode cX7_laysChosen 25 = .ok (.if_icmp .ne 30, 3) := by decide +kernel
theorem dX7_laysChosen_28 : decode cX7_laysChosen 28 = .ok (.aload_n 0, 1) := by decide +kernel
theorem dX7_laysChosen_29 : decode cX7_laysChosen 29 = .ok (.dup, 1) := by decide +kernel
theorem dX7_laysChosen_30 : decode cX7_laysChosen 30 = .ok (.getfield 152, 3) := by decide +kernel
theorem dX7_laysChosen_33 : decode cX7_laysChosen 33 = .ok (.iconst 1, 1) := by decide +kernel
theorem dX7_laysChosen_34 : decode cX7_laysChosen 34 = .ok (.iload_n 2, 1) := by decide +kernel
theorem dX7_laysChosen_35 : decode cX7_laysChosen 35 = .ok (.ishl, 1) := by decide +kernel
theorem dX7_laysChosen_36 : decode cX7_laysChosen 36 = .ok (.ior, 1) := by decide +kernel
theorem dX7_laysChosen_37 : decode cX7_laysChosen 37 = .ok (.putfield 152, 3) := by decide +kernel
theorem dX7_laysChosen_40 : decode cX7_laysChosen 40 = .ok (.aload_n 0, 1) := by decide +kernel
theorem dX7_laysChosen_41 : decode cX7_laysChosen 41 = .ok (.dup, 1) := by decide +kernel
theorem dX7_laysChosen_42 : decode cX7_laysChosen 42 = .ok (.getfield 155, 3) := by decide +kernel
