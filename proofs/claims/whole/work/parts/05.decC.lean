theorem dX6_init_98 : decode cX6_init 98 = .ok (.putfield 50, 3) := by decide +kernel
theorem dX6_init_101 : decode cX6_init 101 = .ok (.aload_n 0, 1) := by decide +kernel
theorem dX6_init_102 : decode cX6_init 102 = .ok (.bipush 64, 2) := by decide +kernel
theorem dX6_init_104 : decode cX6_init 104 = .ok (.newarray .int, 2) := by decide +kernel
theorem dX6_init_106 : decode cX6_init 106 = .ok (.putfield 53, 3) := by decide +kernel
theorem dX6_init_109 : decode cX6_init 109 = .ok (.aload_n 0, 1) := by decide +kernel
theorem dX6_init_110 : decode cX6_init 110 = .ok (.bipush 64, 2) := by decide +kernel
theorem dX6_init_112 : decode cX6_init 112 = .ok (.newarray .int, 2) := by decide +kernel
theorem dX6_init_114 : decode cX6_init 114 = .ok (.putfield 56, 3) := by decide +kernel
theorem dX6_init_117 : decode cX6_init 117 = .ok (.aload_n 0, 1) := by decide +kernel
theorem dX6_init_118 : decode cX6_init 118 = .ok (.bipush 36, 2) := by decide +kernel
theorem dX6_init_120 : decode cX6_init 120 = .ok (.newarray .int, 2) := by decide +kernel
theorem dX6_init_122 : decode cX6_init 122 = .ok (.putfield 59, 3) := by decide +kernel
theorem dX6_init_125 : decode cX6_init 125 = .ok (.aload_n 0, 1) := by decide +kernel
theorem dX6_init_126 : decode cX6_init 126 = .ok (.bipush 36, 2) := by decide +kernel
theorem dX6_init_128 : decode cX6_init 128 = .ok (.newarray .int, 2) := by decide +kernel
theorem dX6_init_130 : decode cX6_init 130 = .ok (.putfield 62, 3) := by decide +kernel
theorem dX6_init_133 : decode cX6_init 133 = .ok (.aload_n 0, 1) := by decide +kernel
theorem dX6_init_134 : decode cX6_init 134 = .ok (.bipush 6, 2) := by decide +kernel
theorem dX6_init_136 : decode cX6_init 136 = .ok (.newarray .int, 2) := by decide +kernel
theorem dX6_init_138 : decode cX6_init 138 = .ok (.putfield 65, 3) := by decide +kernel
theorem dX6_init_141 : decode cX6_init 141 = .ok (.aload_n 0, 1) := by decide +kernel
theorem dX6_init_142 : decode cX6_init 142 = .ok (.bipush 36, 2) := by decide +kernel
theorem dX6_init_144 : decode cX6_init 144 = .ok (.newarray .int, 2) := by decide +kernel
theorem dX6_init_146 : decode cX6_init 146 = .ok (.putfield 68, 3) := by decide +kernel
theorem dX6_init_149 : decode cX6_init 149 = .ok (.aload_n 0, 1) := by decide +kernel
theorem dX6_init_150 : decode cX6_init 150 = .ok (.bipush 36, 2) := by decide +kernel
theorem dX6_init_152 : decode cX6_init 152 = .ok (.newarray .int, 2) := by decide +kernel
theorem dX6_init_154 : decode cX6_init 154 = .ok (.putfield 71, 3) := by decide +kernel
theorem dX6_init_157 : decode cX6_init 157 = .ok (.aload_n 0, 1) := by decide +kernel
theorem dX6_init_158 : decode cX6_init 158 = .ok (.sipush 729, 3) := by decide +kernel
theorem dX6_init_161 : decode cX6_init 161 = .ok (.newarray .boolean, 2) := by decide +kernel
theorem dX6_init_163 : decode cX6_init 163 = .ok (.putfield 74, 3) := by decide +kernel
theorem dX6_init_166 : decode cX6_init 166 = .ok (.aload_n 0, 1) := by decide +kernel
theorem dX6_init_167 : decode cX6_init 167 = .ok (.bipush 6, 2) := by decide +kernel
theorem dX6_init_169 : decode cX6_init 169 = .ok (.newarray .int, 2) := by decide +kernel
theorem dX6_init_171 : decode cX6_init 171 = .ok (.putfield 78, 3) := by decide +kernel
theorem dX6_init_174 : decode cX6_init 174 = .ok (.aload_n 0, 1) := by decide +kernel
theorem dX6_init_175 : decode cX6_init 175 = .ok (.bipush 80, 2) := by decide +kernel
theorem dX6_init_177 : decode cX6_init 177 = .ok (.newarray .long, 2) := by decide +kernel
theorem dX6_init_179 : decode cX6_init 179 = .ok (.putfield 81, 3) := by decide +kernel
theorem dX6_init_182 : decode cX6_init 182 = .ok (.iconst 0, 1) := by decide +kernel
theorem dX6_init_183 : decode cX6_init 183 = .ok (.istore_n 1, 1) := by decide +kernel
theorem dX6_init_184 : decode cX6_init 184 = .ok (.iload_n 1, 1) := by decide +kernel
theorem dX6_init_185 : decode cX6_init 185 = .ok (.bipush 6, 2) := by decide +kernel
theorem dX6_init_187 : decode cX6_init 187 = .ok (.if_icmp .ge 16, 3) := by decide +kernel
theorem dX6_init_190 : decode cX6_init 190 = .ok (.aload_n 0, 1) := by decide +kernel
theorem dX6_init_191 : decode cX6_init 191 = .ok (.getfield 19, 3) := by decide +kernel
theorem dX6_init_194 : decode cX6_init 194 = .ok (.iload_n 1, 1) := by decide +kernel
theorem dX6_init_195 : decode cX6_init 195 = .ok (.iconst (-1), 1) := by decide +kernel
theorem dX6_init_196 : decode cX6_init 196 = .ok (.iastore, 1) := by decide +kernel
theorem dX6_init_197 : decode cX6_init 197 = .ok (.iinc 1 1, 3) := by decide +kernel
theorem dX6_init_200 : decode cX6_init 200 = .ok (.goto (-16), 3) := by decide +kernel
theorem dX6_init_203 : decode cX6_init 203 = .ok (.iconst 0, 1) := by decide +kernel
theorem dX6_init_204 : decode cX6_init 204 = .ok (.istore_n 1, 1) := by decide +kernel
theorem dX6_init_205 : decode cX6_init 205 = .ok (.iload_n 1, 1) := by decide +kernel
theorem dX6_init_206 : decode cX6_init 206 = .ok (.iconst 4, 1) := by decide +kernel
theorem dX6_init_207 : decode cX6_init 207 = .ok (.if_icmp .ge 16, 3) := by decide +kernel
theorem dX6_init_210 : decode cX6_init 210 = .ok (.aload_n 0, 1) := by decide +kernel
theorem dX6_init_211 : decode cX6_init 211 = .ok (.getfield 44, 3) := by decide +kernel
theorem dX6_init_214 : decode cX6_init 214 = .ok (.iload_n 1, 1) := by decide +kernel
theorem dX6_init_215 : decode cX6_init 215 = .ok (.iconst (-1), 1) := by decide +kernel
theorem dX6_init_216 : decode cX6_init 216 = .ok (.iastore, 1) := by decide +kernel
theorem dX6_init_217 : decode cX6_init 217 = .ok (.iinc 1 1, 3) := by decide +kernel
theorem dX6_init_220 : decode cX6_init 220 = .ok (.goto (-15), 3) := by decide +kernel
theorem dX6_init_223 : decode cX6_init 223 = .ok (.return_, 1) := by decide +kernel
theorem dX6_isIn_0 : decode cX6_isIn 0 = .ok (.lload_n 0, 1) := by decide +kernel
theorem dX6_isIn_1 : decode cX6_isIn 1 = .ok (.lload_n 2, 1) := by decide +kernel
theorem dX6_isIn_2 : decode cX6_isIn 2 = .ok (.lcmp, 1) := by decide +kernel
theorem dX6_isIn_3 : decode cX6_isIn 3 = .ok (.ifCond .lt 14, 3) := by decide +kernel
theorem dX6_isIn_6 : decode cX6_isIn 6 = .ok (.lload_n 0, 1) := by decide +kernel
theorem dX6_isIn_7 : decode cX6_isIn 7 = .ok (.lload 4, 2) := by decide +kernel
theorem dX6_isIn_9 : decode cX6_isIn 9 = .ok (.lcmp, 1) := by decide +kernel
theorem dX6_isIn_10 : decode cX6_isIn 10 = .ok (.ifCond .gt 7, 3) := by decide +kernel
theorem dX6_isIn_13 : decode cX6_isIn 13 = .ok (.iconst 1, 1) := by decide +kernel
theorem dX6_isIn_14 : decode cX6_isIn 14 = .ok (.goto 4, 3) := by decide +kernel
theorem dX6_isIn_17 : decode cX6_isIn 17 = .ok (.iconst 0, 1) := by decide +kernel
theorem dX6_isIn_18 : decode cX6_isIn 18 = .ok (.ireturn, 1) := by decide +kernel
set_option maxRecDepth 20000 in
theorem ggX6_isFamily_X6_isIn : GoodIn wsX6_isFamily wsX6_isIn := goodIn_r _ [5] (by decide +kernel) (by decide +kernel)
set_option maxRecDepth 20000 in
theorem gX6_isFamily_X6_isIn : GoodIn wsX6_isFamily (va_wsS RX6 86 yX6_isIn wsX6_isIn) := goodIn_app (goodIn_of _ (by decide +kernel)) ggX6_isFamily_X6_isIn
theorem dX6_isFamily_0 : decode cX6_isFamily 0 = .ok (.iload_n 0, 1) := by decide +kernel
theorem dX6_isFamily_1 : decode cX6_isFamily 1 = .ok (.i2l, 1) := by decide +kernel
theorem dX6_isFamily_2 : decode cX6_isFamily 2 = .ok (.lconst 0, 1) := by decide +kernel
theorem dX6_isFamily_3 : decode cX6_isFamily 3 = .ok (.ldc2_w 84, 3) := by decide +kernel
theorem dX6_isFamily_6 : decode cX6_isFamily 6 = .ok (.invokestatic 86, 3) := by decide +kernel
theorem dX6_isFamily_9 : decode cX6_isFamily 9 = .ok (.ireturn, 1) := by decide +kernel
set_option maxRecDepth 20000 in
theorem ggX6_isSet_X6_isIn : GoodIn wsX6_isSet wsX6_isIn := goodIn_r _ [5] (by decide +kernel) (by decide +kernel)
set_option maxRecDepth 20000 in
theorem gX6_isSet_X6_isIn : GoodIn wsX6_isSet (va_wsS RX6 86 yX6_isIn wsX6_isIn) := goodIn_app (goodIn_of _ (by decide +kernel)) ggX6_isSet_X6_isIn
theorem dX6_isSet_0 : decode cX6_isSet 0 = .ok (.iload_n 1, 1) := by decide +kernel
theorem dX6_isSet_1 : decode cX6_isSet 1 = .ok (.i2l, 1) := by decide +kernel
theorem dX6_isSet_2 : decode cX6_isSet 2 = .ok (.lconst 0, 1) := by decide +kernel
theorem dX6_isSet_3 : decode cX6_isSet 3 = .ok (.iconst 1, 1) := by decide +kernel
theorem dX6_isSet_4 : decode cX6_isSet 4 = .ok (.aload_n 0, 1) := by decide +kernel
theorem dX6_isSet_5 : decode cX6_isSet 5 = .ok (.getfield 9, 3) := by decide +kernel
theorem dX6_isSet_8 : decode cX6_isSet 8 = .ok (.ishl, 1) := by decide +kernel
theorem dX6_isSet_9 : decode cX6_isSet 9 = .ok (.iconst 1, 1) := by decide +kernel
theorem dX6_isSet_10 : decode cX6_isSet 10 = .ok (.isub, 1) := by decide +kernel
theorem dX6_isSet_11 : decode cX6_isSet 11 = .ok (.i2l, 1) := by decide +kernel
theorem dX6_isSet_12 : decode cX6_isSet 12 = .ok (.invokestatic 86, 3) := by decide +kernel
theorem dX6_isSet_15 : decode cX6_isSet 15 = .ok (.ireturn, 1) := by decide +kernel
set_option maxRecDepth 20000 in
theorem ggX6_isPoint_X6_isIn : GoodIn wsX6_isPoint wsX6_isIn := goodIn_r _ [5] (by decide +kernel) (by decide +kernel)
set_option maxRecDepth 20000 in
theorem gX6_isPoint_X6_isIn : GoodIn wsX6_isPoint (va_wsS RX6 86 yX6_isIn wsX6_isIn) := goodIn_app (goodIn_of _ (by decide +kernel)) ggX6_isPoint_X6_isIn
theorem dX6_isPoint_0 : decode cX6_isPoint 0 = .ok (.iload_n 1, 1) := by decide +kernel
theorem dX6_isPoint_1 : decode cX6_isPoint 1 = .ok (.i2l, 1) := by decide +kernel
theorem dX6_isPoint_2 : decode cX6_isPoint 2 = .ok (.lconst 0, 1) := by decide +kernel
theorem dX6_isPoint_3 : decode cX6_isPoint 3 = .ok (.aload_n 0, 1) := by decide +kernel
theorem dX6_isPoint_4 : decode cX6_isPoint 4 = .ok (.getfield 9, 3) := by decide +kernel
theorem dX6_isPoint_7 : decode cX6_isPoint 7 = .ok (.iconst 1, 1) := by decide +kernel
theorem dX6_isPoint_8 : decode cX6_isPoint 8 = .ok (.isub, 1) := by decide +kernel
theorem dX6_isPoint_9 : decode cX6_isPoint 9 = .ok (.i2l, 1) := by decide +kernel
theorem dX6_isPoint_10 : decode cX6_isPoint 10 = .ok (.invokestatic 86, 3) := by decide +kernel
theorem dX6_isPoint_13 : decode cX6_isPoint 13 = .ok (.ireturn, 1) := by decide +kernel
theorem dX6_isMember_0 : decode cX6_isMember 0 = .ok (.aload_n 0, 1) := by decide +kernel
theorem dX6_isMember_1 : decode cX6_isMember 1 = .ok (.getfield 15, 3) := by decide +kernel
theorem dX6_isMember_4 : decode cX6_isMember 4 = .ok (.iload_n 1, 1) := by decide +kernel
theorem dX6_isMember_5 : decode cX6_isMember 5 = .ok (.laload, 1) := by decide +kernel
theorem dX6_isMember_6 : decode cX6_isMember 6 = .ok (.iload_n 2, 1) := by decide +kernel
theorem dX6_isMember_7 : decode cX6_isMember 7 = .ok (.lshr, 1) := by decide +kernel
theorem dX6_isMember_8 : decode cX6_isMember 8 = .ok (.lconst 1, 1) := by decide +kernel
theorem dX6_isMember_9 : decode cX6_isMember 9 = .ok (.land, 1) := by decide +kernel
theorem dX6_isMember_10 : decode cX6_isMember 10 = .ok (.lconst 1, 1) := by decide +kernel
theorem dX6_isMember_11 : decode cX6_isMember 11 = .ok (.lcmp, 1) := by decide +kernel
theorem dX6_isMember_12 : decode cX6_isMember 12 = .ok (.ifCond .ne 7, 3) := by decide +kernel
theorem dX6_isMember_15 : decode cX6_isMember 15 = .ok (.iconst 1, 1) := by decide +kernel
theorem dX6_isMember_16 : decode cX6_isMember 16 = .ok (.goto 4, 3) := by decide +kernel
theorem dX6_isMember_19 : decode cX6_isMember 19 = .ok (.iconst 0, 1) := by decide +kernel
theorem dX6_isMember_20 : decode cX6_isMember 20 = .ok (.ireturn, 1) := by decide +kernel
theorem dX6_ones_0 : decode cX6_ones 0 = .ok (.iconst 0, 1) := by decide +kernel
theorem dX6_ones_1 : decode cX6_ones 1 = .ok (.istore_n 1, 1) := by decide +kernel
theorem dX6_ones_2 : decode cX6_ones 2 = .ok (.iconst 0, 1) := by decide +kernel
theorem dX6_ones_3 : decode cX6_ones 3 = .ok (.istore_n 2, 1) := by decide +kernel
theorem dX6_ones_4 : decode cX6_ones 4 = .ok (.iload_n 2, 1) := by decide +kernel
theorem dX6_ones_5 : decode cX6_ones 5 = .ok (.bipush 6, 2) := by decide +kernel
theorem dX6_ones_7 : decode cX6_ones 7 = .ok (.if_icmp .ge 17, 3) := by decide +kernel
theorem dX6_ones_10 : decode cX6_ones 10 = .ok (.iload_n 1, 1) := by decide +kernel
theorem dX6_ones_11 : decode cX6_ones 11 = .ok (.iload_n 0, 1) := by decide +kernel
theorem dX6_ones_12 : decode cX6_ones 12 = .ok (.iload_n 2, 1) := by decide +kernel
theorem dX6_ones_13 : decode cX6_ones 13 = .ok (.ishr, 1) := by decide +kernel
theorem dX6_ones_14 : decode cX6_ones 14 = .ok (.iconst 1, 1) := by decide +kernel
theorem dX6_ones_15 : decode cX6_ones 15 = .ok (.iand, 1) := by decide +kernel
theorem dX6_ones_16 : decode cX6_ones 16 = .ok (.iadd, 1) := by decide +kernel
theorem dX6_ones_17 : decode cX6_ones 17 = .ok (.istore_n 1, 1) := by decide +kernel
theorem dX6_ones_18 : decode cX6_ones 18 = .ok (.iinc 2 1, 3) := by decide +kernel
theorem dX6_ones_21 : decode cX6_ones 21 = .ok (.goto (-17), 3) := by decide +kernel
theorem dX6_ones_24 : decode cX6_ones 24 = .ok (.iload_n 1, 1) := by decide +kernel
theorem dX6_ones_25 : decode cX6_ones 25 = .ok (.ireturn, 1) := by decide +kernel
theorem dX6_size_0 : decode cX6_size 0 = .ok (.iconst 0, 1) := by decide +kernel
theorem dX6_size_1 : decode cX6_size 1 = .ok (.istore_n 3, 1) := by decide +kernel
theorem dX6_size_2 : decode cX6_size 2 = .ok (.iconst 0, 1) := by decide +kernel
theorem dX6_size_3 : decode cX6_size 3 = .ok (.istore 4, 2) := by decide +kernel
theorem dX6_size_5 : decode cX6_size 5 = .ok (.iload 4, 2) := by decide +kernel
theorem dX6_size_7 : decode cX6_size 7 = .ok (.bipush 64, 2) := by decide +kernel
theorem dX6_size_9 : decode cX6_size 9 = .ok (.if_icmp .ge 19, 3) := by decide +kernel
theorem dX6_size_12 : decode cX6_size 12 = .ok (.iload_n 3, 1) := by decide +kernel
theorem dX6_size_13 : decode cX6_size 13 = .ok (.lload_n 1, 1) := by decide +kernel
theorem dX6_size_14 : decode cX6_size 14 = .ok (.iload 4, 2) := by decide +kernel
theorem dX6_size_16 : decode cX6_size 16 = .ok (.lshr, 1) := by decide +kernel
theorem dX6_size_17 : decode cX6_size 17 = .ok (.lconst 1, 1) := by decide +kernel
theorem dX6_size_18 : decode cX6_size 18 = .ok (.land, 1) := by decide +kernel
theorem dX6_size_19 : decode cX6_size 19 = .ok (.l2i, 1) := by decide +kernel
theorem dX6_size_20 : decode cX6_size 20 = .ok (.iadd, 1) := by decide +kernel
theorem dX6_size_21 : decode cX6_size 21 = .ok (.istore_n 3, 1) := by decide +kernel
theorem dX6_size_22 : decode cX6_size 22 = .ok (.iinc 4 1, 3) := by decide +kernel
theorem dX6_size_25 : decode cX6_size 25 = .ok (.goto (-20), 3) := by decide +kernel
theorem dX6_size_28 : decode cX6_size 28 = .ok (.iload_n 3, 1) := by decide +kernel
theorem dX6_size_29 : decode cX6_size 29 = .ok (.ireturn, 1) := by decide +kernel
set_option maxRecDepth 20000 in
theorem ggX6_becomes_X6_size : GoodIn wsX6_becomes wsX6_size := goodIn_r _ [7] (by decide +kernel) (by decide +kernel)
set_option maxRecDepth 20000 in
theorem gX6_becomes_X6_size : GoodIn wsX6_becomes (wsV RX6 90 RX6 yX6_size wsX6_size) := goodIn_app (goodIn_of _ (by decide +kernel)) ggX6_becomes_X6_size
theorem dX6_becomes_0 : decode cX6_becomes 0 = .ok (.aload_n 0, 1) := by decide +kernel
theorem dX6_becomes_1 : decode cX6_becomes 1 = .ok (.getfield 19, 3) := by decide +kernel
theorem dX6_becomes_4 : decode cX6_becomes 4 = .ok (.iload_n 1, 1) := by decide +kernel
theorem dX6_becomes_5 : decode cX6_becomes 5 = .ok (.iload_n 2, 1) := by decide +kernel
theorem dX6_becomes_6 : decode cX6_becomes 6 = .ok (.iastore, 1) := by decide +kernel
theorem dX6_becomes_7 : decode cX6_becomes 7 = .ok (.aload_n 0, 1) := by decide +kernel
theorem dX6_becomes_8 : decode cX6_becomes 8 = .ok (.getfield 15, 3) := by decide +kernel
theorem dX6_becomes_11 : decode cX6_becomes 11 = .ok (.iload_n 1, 1) := by decide +kernel
theorem dX6_becomes_12 : decode cX6_becomes 12 = .ok (.lload_n 3, 1) := by decide +kernel
theorem dX6_becomes_13 : decode cX6_becomes 13 = .ok (.lastore, 1) := by decide +kernel
theorem dX6_becomes_14 : decode cX6_becomes 14 = .ok (.aload_n 0, 1) := by decide +kernel
theorem dX6_becomes_15 : decode cX6_becomes 15 = .ok (.lload_n 3, 1) := by decide +kernel
theorem dX6_becomes_16 : decode cX6_becomes 16 = .ok (.invokevirtual 90, 3) := by decide +kernel
theorem dX6_becomes_19 : decode cX6_becomes 19 = .ok (.ireturn, 1) := by decide +kernel
set_option maxRecDepth 20000 in
theorem ggX6_ground_X6_isIn : GoodIn wsX6_ground wsX6_isIn := goodIn_r _ [10] (by decide +kernel) (by decide +kernel)
set_option maxRecDepth 20000 in
theorem gX6_ground_X6_isIn : GoodIn wsX6_ground (va_wsS RX6 86 yX6_isIn wsX6_isIn) := goodIn_app (goodIn_of _ (by decide +kernel)) ggX6_ground_X6_isIn
theorem dX6_ground_0 : decode cX6_ground 0 = .ok (.iload_n 1, 1) := by decide +kernel
theorem dX6_ground_1 : decode cX6_ground 1 = .ok (.i2l, 1) := by decide +kernel
theorem dX6_ground_2 : decode cX6_ground 2 = .ok (.lconst 1, 1) := by decide +kernel
theorem dX6_ground_3 : decode cX6_ground 3 = .ok (.ldc2_w 94, 3) := by decide +kernel
theorem dX6_ground_6 : decode cX6_ground 6 = .ok (.invokestatic 86, 3) := by decide +kernel
theorem dX6_ground_9 : decode cX6_ground 9 = .ok (.ifCond .ne 6, 3) := by decide +kernel
theorem dX6_ground_12 : decode cX6_ground 12 = .ok (.bipush (-2), 2) := by decide +kernel
theorem dX6_ground_14 : decode cX6_ground 14 = .ok (.ireturn, 1) := by decide +kernel
theorem dX6_ground_15 : decode cX6_ground 15 = .ok (.aload_n 0, 1) := by decide +kernel
theorem dX6_ground_16 : decode cX6_ground 16 = .ok (.getfield 9, 3) := by decide +kernel
theorem dX6_ground_19 : decode cX6_ground 19 = .ok (.istore_n 2, 1) := by decide +kernel
theorem dX6_ground_20 : decode cX6_ground 20 = .ok (.aload_n 0, 1) := by decide +kernel
theorem dX6_ground_21 : decode cX6_ground 21 = .ok (.iload_n 1, 1) := by decide +kernel
theorem dX6_ground_22 : decode cX6_ground 22 = .ok (.putfield 9, 3) := by decide +kernel
theorem dX6_ground_25 : decode cX6_ground 25 = .ok (.iconst 0, 1) := by decide +kernel
theorem dX6_ground_26 : decode cX6_ground 26 = .ok (.istore_n 3, 1) := by decide +kernel
theorem dX6_ground_27 : decode cX6_ground 27 = .ok (.iload_n 3, 1) := by decide +kernel
theorem dX6_ground_28 : decode cX6_ground 28 = .ok (.bipush 6, 2) := by decide +kernel
theorem dX6_ground_30 : decode cX6_ground 30 = .ok (.if_icmp .ge 23, 3) := by decide +kernel
theorem dX6_ground_33 : decode cX6_ground 33 = .ok (.aload_n 0, 1) := by decide +kernel
theorem dX6_ground_34 : decode cX6_ground 34 = .ok (.getfield 19, 3) := by decide +kernel
theorem dX6_ground_37 : decode cX6_ground 37 = .ok (.iload_n 3, 1) := by decide +kernel
theorem dX6_ground_38 : decode cX6_ground 38 = .ok (.iconst (-1), 1) := by decide +kernel
theorem dX6_ground_39 : decode cX6_ground 39 = .ok (.iastore, 1) := by decide +kernel
theorem dX6_ground_40 : decode cX6_ground 40 = .ok (.aload_n 0, 1) := by decide +kernel
theorem dX6_ground_41 : decode cX6_ground 41 = .ok (.getfield 15, 3) := by decide +kernel
theorem dX6_ground_44 : decode cX6_ground 44 = .ok (.iload_n 3, 1) := by decide +kernel
theorem dX6_ground_45 : decode cX6_ground 45 = .ok (.lconst 0, 1) := by decide +kernel
theorem dX6_ground_46 : decode cX6_ground 46 = .ok (.lastore, 1) := by decide +kernel
theorem dX6_ground_47 : decode cX6_ground 47 = .ok (.iinc 3 1, 3) := by decide +kernel
theorem dX6_ground_50 : decode cX6_ground 50 = .ok (.goto (-23), 3) := by decide +kernel
theorem dX6_ground_53 : decode cX6_ground 53 = .ok (.iconst 0, 1) := by decide +kernel
theorem dX6_ground_54 : decode cX6_ground 54 = .ok (.istore_n 3, 1) := by decide +kernel
theorem dX6_ground_55 : decode cX6_ground 55 = .ok (.iload_n 3, 1) := by decide +kernel
theorem dX6_ground_56 : decode cX6_ground 56 = .ok (.bipush 6, 2) := by decide +kernel
theorem dX6_ground_58 : decode cX6_ground 58 = .ok (.if_icmp .ge 16, 3) := by decide +kernel
theorem dX6_ground_61 : decode cX6_ground 61 = .ok (.aload_n 0, 1) := by decide +kernel
theorem dX6_ground_62 : decode cX6_ground 62 = .ok (.getfield 23, 3) := by decide +kernel
theorem dX6_ground_65 : decode cX6_ground 65 = .ok (.iload_n 3, 1) := by decide +kernel
theorem dX6_ground_66 : decode cX6_ground 66 = .ok (.iconst 0, 1) := by decide +kernel
theorem dX6_ground_67 : decode cX6_ground 67 = .ok (.iastore, 1) := by decide +kernel
theorem dX6_ground_68 : decode cX6_ground 68 = .ok (.iinc 3 1, 3) := by decide +kernel
theorem dX6_ground_71 : decode cX6_ground 71 = .ok (.goto (-16), 3) := by decide +kernel
theorem dX6_ground_74 : decode cX6_ground 74 = .ok (.iconst 0, 1) := by decide +kernel
theorem dX6_ground_75 : decode cX6_ground 75 = .ok (.istore_n 3, 1) := by decide +kernel
theorem dX6_ground_76 : decode cX6_ground 76 = .ok (.iload_n 3, 1) := by decide +kernel
theorem dX6_ground_77 : decode cX6_ground 77 = .ok (.bipush 36, 2) := by decide +kernel
theorem dX6_ground_79 : decode cX6_ground 79 = .ok (.if_icmp .ge 16, 3) := by decide +kernel
theorem dX6_ground_82 : decode cX6_ground 82 = .ok (.aload_n 0, 1) := by decide +kernel
theorem dX6_ground_83 : decode cX6_ground 83 = .ok (.getfield 26, 3) := by decide +kernel
theorem dX6_ground_86 : decode cX6_ground 86 = .ok (.iload_n 3, 1) := by decide +kernel
theorem dX6_ground_87 : decode cX6_ground 87 = .ok (.iconst 0, 1) := by decide +kernel
theorem dX6_ground_88 : decode cX6_ground 88 = .ok (.iastore, 1) := by decide +kernel
theorem dX6_ground_89 : decode cX6_ground 89 = .ok (.iinc 3 1, 3) := by decide +kernel
theorem dX6_ground_92 : decode cX6_ground 92 = .ok (.goto (-16), 3) := by decide +kernel
theorem dX6_ground_95 : decode cX6_ground 95 = .ok (.iload_n 2, 1) := by decide +kernel
theorem dX6_ground_96 : decode cX6_ground 96 = .ok (.ireturn, 1) := by decide +kernel
set_option maxRecDepth 20000 in
theorem ggX6_tell_X6_isFamily : GoodIn wsX6_tell wsX6_isFamily := goodIn_r _ [6, 7, 8, 9, 5, 10] (by decide +kernel) (by decide +kernel)
set_option maxRecDepth 20000 in
theorem gX6_tell_X6_isFamily : GoodIn wsX6_tell (va_wsS RX6 96 yX6_isFamily wsX6_isFamily) := goodIn_app (goodIn_of _ (by decide +kernel)) ggX6_tell_X6_isFamily
set_option maxRecDepth 20000 in
theorem ggX6_tell_X6_isSet : GoodIn wsX6_tell wsX6_isSet := goodIn_r _ [14, 15, 8, 9, 5, 10, 20, 21, 22, 23, 24, 25, 26, 27, 28, 29, 30, 31, 32, 33, 34, 35, 36, 37, 38, 39, 40, 41, 42, 43, 44] (by decide +kernel) (by decide +kernel)
set_option maxRecDepth 20000 in
theorem gX6_tell_X6_isSet : GoodIn wsX6_tell (wsV RX6 100 RX6 yX6_isSet wsX6_isSet) := goodIn_app (goodIn_of _ (by decide +kernel)) ggX6_tell_X6_isSet
set_option maxRecDepth 20000 in
theorem ggX6_tell_X6_isIn : GoodIn wsX6_tell wsX6_isIn := goodIn_r _ [10] (by decide +kernel) (by decide +kernel)
set_option maxRecDepth 20000 in
theorem gX6_tell_X6_isIn : GoodIn wsX6_tell (va_wsS RX6 86 yX6_isIn wsX6_isIn) := goodIn_app (goodIn_of _ (by decide +kernel)) ggX6_tell_X6_isIn
set_option maxRecDepth 20000 in
theorem ggX6_tell_X6_isMember : GoodIn wsX6_tell wsX6_isMember := goodIn_r _ [19, 2, 20, 21, 22, 23, 24, 25, 26, 27, 28, 29, 30, 31, 32, 33, 34, 35, 36, 37, 38, 39, 40, 41, 42, 43, 44] (by decide +kernel) (by decide +kernel)
set_option maxRecDepth 20000 in
theorem gX6_tell_X6_isMember : GoodIn wsX6_tell (wsV RX6 103 RX6 yX6_isMember wsX6_isMember) := goodIn_app (goodIn_of _ (by decide +kernel)) ggX6_tell_X6_isMember
theorem dX6_tell_0 : decode cX6_tell 0 = .ok (.iload_n 1, 1) := by decide +kernel
theorem dX6_tell_1 : decode cX6_tell 1 = .ok (.invokestatic 96, 3) := by decide +kernel
theorem dX6_tell_4 : decode cX6_tell 4 = .ok (.ifCond .eq 21, 3) := by decide +kernel
theorem dX6_tell_7 : decode cX6_tell 7 = .ok (.aload_n 0, 1) := by decide +kernel
theorem dX6_tell_8 : decode cX6_tell 8 = .ok (.iload_n 2, 1) := by decide +kernel
theorem dX6_tell_9 : decode cX6_tell 9 = .ok (.invokevirtual 100, 3) := by decide +kernel
theorem dX6_tell_12 : decode cX6_tell 12 = .ok (.ifCond .eq 13, 3) := by decide +kernel
theorem dX6_tell_15 : decode cX6_tell 15 = .ok (.iload_n 3, 1) := by decide +kernel
theorem dX6_tell_16 : decode cX6_tell 16 = .ok (.i2l, 1) := by decide +kernel
theorem dX6_tell_17 : decode cX6_tell 17 = .ok (.lconst 0, 1) := by decide +kernel
theorem dX6_tell_18 : decode cX6_tell 18 = .ok (.lconst 1, 1) := by decide +kernel
theorem dX6_tell_19 : decode cX6_tell 19 = .ok (.invokestatic 86, 3) := by decide +kernel
theorem dX6_tell_22 : decode cX6_tell 22 = .ok (.ifCond .ne 6, 3) := by decide +kernel
theorem dX6_tell_25 : decode cX6_tell 25 = .ok (.bipush (-2), 2) := by decide +kernel
theorem dX6_tell_27 : decode cX6_tell 27 = .ok (.ireturn, 1) := by decide +kernel
theorem dX6_tell_28 : decode cX6_tell 28 = .ok (.aload_n 0, 1) := by decide +kernel
theorem dX6_tell_29 : decode cX6_tell 29 = .ok (.iload_n 1, 1) := by decide +kernel
theorem dX6_tell_30 : decode cX6_tell 30 = .ok (.iload_n 2, 1) := by decide +kernel
theorem dX6_tell_31 : decode cX6_tell 31 = .ok (.invokevirtual 103, 3) := by decide +kernel
theorem dX6_tell_34 : decode cX6_tell 34 = .ok (.ifCond .eq 7, 3) := by decide +kernel
theorem dX6_tell_37 : decode cX6_tell 37 = .ok (.iconst 1, 1) := by decide +kernel
theorem dX6_tell_38 : decode cX6_tell 38 = .ok (.goto 4, 3) := by decide +kernel
theorem dX6_tell_41 : decode cX6_tell 41 = .ok (.iconst 0, 1) := by decide +kernel
theorem dX6_tell_42 : decode cX6_tell 42 = .ok (.istore 4, 2) := by decide +kernel
theorem dX6_tell_44 : decode cX6_tell 44 = .ok (.aload_n 0, 1) := by decide +kernel
theorem dX6_tell_45 : decode cX6_tell 45 = .ok (.getfield 19, 3) := by decide +kernel
theorem dX6_tell_48 : decode cX6_tell 48 = .ok (.iload_n 1, 1) := by decide +kernel
theorem dX6_tell_49 : decode cX6_tell 49 = .ok (.iconst 0, 1) := by decide +kernel
theorem dX6_tell_50 : decode cX6_tell 50 = .ok (.iastore, 1) := by decide +kernel
theorem dX6_tell_51 : decode cX6_tell 51 = .ok (.iload 4, 2) := by decide +kernel
theorem dX6_tell_53 : decode cX6_tell 53 = .ok (.iload_n 3, 1) := by decide +kernel
theorem dX6_tell_54 : decode cX6_tell 54 = .ok (.if_icmp .eq 15, 3) := by decide +kernel
theorem dX6_tell_57 : decode cX6_tell 57 = .ok (.aload_n 0, 1) := by decide +kernel
theorem dX6_tell_58 : decode cX6_tell 58 = .ok (.getfield 15, 3) := by decide +kernel
theorem dX6_tell_61 : decode cX6_tell 61 = .ok (.iload_n 1, 1) := by decide +kernel
theorem dX6_tell_62 : decode cX6_tell 62 = .ok (.dup2, 1) := by decide +kernel
theorem dX6_tell_63 : decode cX6_tell 63 = .ok (.laload, 1) := by decide +kernel
theorem dX6_tell_64 : decode cX6_tell 64 = .ok (.lconst 1, 1) := by decide +kernel
theorem dX6_tell_65 : decode cX6_tell 65 = .ok (.iload_n 2, 1) := by decide +kernel
theorem dX6_tell_66 : decode cX6_tell 66 = .ok (.lshl, 1) := by decide +kernel
theorem dX6_tell_67 : decode cX6_tell 67 = .ok (.lxor, 1) := by decide +kernel
theorem dX6_tell_68 : decode cX6_tell 68 = .ok (.lastore, 1) := by decide +kernel
theorem dX6_tell_69 : decode cX6_tell 69 = .ok (.iload 4, 2) := by decide +kernel
theorem dX6_tell_71 : decode cX6_tell 71 = .ok (.ireturn, 1) := by decide +kernel
set_option maxRecDepth 20000 in
theorem ggX6_sized_X6_isFamily : GoodIn wsX6_sized wsX6_isFamily := goodIn_r _ [5, 6, 7, 8, 4, 9] (by decide +kernel) (by decide +kernel)
set_option maxRecDepth 20000 in
theorem gX6_sized_X6_isFamily : GoodIn wsX6_sized (va_wsS RX6 96 yX6_isFamily wsX6_isFamily) := goodIn_app (goodIn_of _ (by decide +kernel)) ggX6_sized_X6_isFamily
set_option maxRecDepth 20000 in
theorem ggX6_sized_X6_isIn : GoodIn wsX6_sized wsX6_isIn := goodIn_r _ [9] (by decide +kernel) (by decide +kernel)
set_option maxRecDepth 20000 in
theorem gX6_sized_X6_isIn : GoodIn wsX6_sized (va_wsS RX6 86 yX6_isIn wsX6_isIn) := goodIn_app (goodIn_of _ (by decide +kernel)) ggX6_sized_X6_isIn
set_option maxRecDepth 20000 in
theorem ggX6_sized_X6_ones : GoodIn wsX6_sized wsX6_ones := goodIn_r _ [12] (by decide +kernel) (by decide +kernel)
set_option maxRecDepth 20000 in
theorem gX6_sized_X6_ones : GoodIn wsX6_sized (va_wsS RX6 107 yX6_ones wsX6_ones) := goodIn_app (goodIn_of _ (by decide +kernel)) ggX6_sized_X6_ones
set_option maxRecDepth 20000 in
theorem ggX6_sized_X6_becomes : GoodIn wsX6_sized wsX6_becomes := goodIn_r _ [16, 17, 18, 19, 20, 21, 4, 22, 23, 24, 25, 26, 27, 28, 29, 30, 31, 32, 33, 34, 35, 36, 37, 38, 39, 40, 41, 42, 43, 44, 45, 46, 47] (by decide +kernel) (by decide +kernel)
set_option maxRecDepth 20000 in
theorem gX6_sized_X6_becomes : GoodIn wsX6_sized (wsV RX6 111 RX6 yX6_becomes wsX6_becomes) := goodIn_app (goodIn_of _ (by decide +kernel)) ggX6_sized_X6_becomes
theorem dX6_sized_0 : decode cX6_sized 0 = .ok (.iload_n 1, 1) := by decide +kernel
theorem dX6_sized_1 : decode cX6_sized 1 = .ok (.invokestatic 96, 3) := by decide +kernel
theorem dX6_sized_4 : decode cX6_sized 4 = .ok (.ifCond .eq 32, 3) := by decide +kernel
theorem dX6_sized_7 : decode cX6_sized 7 = .ok (.iload_n 2, 1) := by decide +kernel
theorem dX6_sized_8 : decode cX6_sized 8 = .ok (.i2l, 1) := by decide +kernel
theorem dX6_sized_9 : decode cX6_sized 9 = .ok (.lconst 0, 1) := by decide +kernel
theorem dX6_sized_10 : decode cX6_sized 10 = .ok (.aload_n 0, 1) := by decide +kernel
theorem dX6_sized_11 : decode cX6_sized 11 = .ok (.getfield 9, 3) := by decide +kernel
theorem dX6_sized_14 : decode cX6_sized 14 = .ok (.i2l, 1) := by decide +kernel
theorem dX6_sized_15 : decode cX6_sized 15 = .ok (.invokestatic 86, 3) := by decide +kernel
theorem dX6_sized_18 : decode cX6_sized 18 = .ok (.ifCond .eq 18, 3) := by decide +kernel
theorem dX6_sized_21 : decode cX6_sized 21 = .ok (.iload_n 3, 1) := by decide +kernel
theorem dX6_sized_22 : decode cX6_sized 22 = .ok (.i2l, 1) := by decide +kernel
theorem dX6_sized_23 : decode cX6_sized 23 = .ok (.iload_n 2, 1) := by decide +kernel
theorem dX6_sized_24 : decode cX6_sized 24 = .ok (.i2l, 1) := by decide +kernel
theorem dX6_sized_25 : decode cX6_sized 25 = .ok (.aload_n 0, 1) := by decide +kernel
theorem dX6_sized_26 : decode cX6_sized 26 = .ok (.getfield 9, 3) := by decide +kernel
theorem dX6_sized_29 : decode cX6_sized 29 = .ok (.i2l, 1) := by decide +kernel
theorem dX6_sized_30 : decode cX6_sized 30 = .ok (.invokestatic 86, 3) := by decide +kernel
theorem dX6_sized_33 : decode cX6_sized 33 = .ok (.ifCond .ne 6, 3) := by decide +kernel
theorem dX6_sized_36 : decode cX6_sized 36 = .ok (.bipush (-2), 2) := by decide +kernel
theorem dX6_sized_38 : decode cX6_sized 38 = .ok (.ireturn, 1) := by decide +kernel
theorem dX6_sized_39 : decode cX6_sized 39 = .ok (.lconst 0, 1) := by decide +kernel
theorem dX6_sized_40 : decode cX6_sized 40 = .ok (.lstore 4, 2) := by decide +kernel
theorem dX6_sized_42 : decode cX6_sized 42 = .ok (.iconst 0, 1) := by decide +kernel
theorem dX6_sized_43 : decode cX6_sized 43 = .ok (.istore 6, 2) := by decide +kernel
theorem dX6_sized_45 : decode cX6_sized 45 = .ok (.iload 6, 2) := by decide +kernel
theorem dX6_sized_47 : decode cX6_sized 47 = .ok (.iconst 1, 1) := by decide +kernel
theorem dX6_sized_48 : decode cX6_sized 48 = .ok (.aload_n 0, 1) := by decide +kernel
theorem dX6_sized_49 : decode cX6_sized 49 = .ok (.getfield 9, 3) := by decide +kernel
theorem dX6_sized_52 : decode cX6_sized 52 = .ok (.ishl, 1) := by decide +kernel
theorem dX6_sized_53 : decode cX6_sized 53 = .ok (.if_icmp .ge 38, 3) := by decide +kernel
theorem dX6_sized_56 : decode cX6_sized 56 = .ok (.lload 4, 2) := by decide +kernel
theorem dX6_sized_58 : decode cX6_sized 58 = .ok (.iload 6, 2) := by decide +kernel
theorem dX6_sized_60 : decode cX6_sized 60 = .ok (.invokestatic 107, 3) := by decide +kernel
theorem dX6_sized_63 : decode cX6_sized 63 = .ok (.i2l, 1) := by decide +kernel
theorem dX6_sized_64 : decode cX6_sized 64 = .ok (.iload_n 2, 1) := by decide +kernel
theorem dX6_sized_65 : decode cX6_sized 65 = .ok (.i2l, 1) := by decide +kernel
theorem dX6_sized_66 : decode cX6_sized 66 = .ok (.iload_n 3, 1) := by decide +kernel
theorem dX6_sized_67 : decode cX6_sized 67 = .ok (.i2l, 1) := by decide +kernel
theorem dX6_sized_68 : decode cX6_sized 68 = .ok (.invokestatic 86, 3) := by decide +kernel
theorem dX6_sized_71 : decode cX6_sized 71 = .ok (.ifCond .eq 10, 3) := by decide +kernel
theorem dX6_sized_74 : decode cX6_sized 74 = .ok (.lconst 1, 1) := by decide +kernel
theorem dX6_sized_75 : decode cX6_sized 75 = .ok (.iload 6, 2) := by decide +kernel
theorem dX6_sized_77 : decode cX6_sized 77 = .ok (.lshl, 1) := by decide +kernel
theorem dX6_sized_78 : decode cX6_sized 78 = .ok (.goto 4, 3) := by decide +kernel
theorem dX6_sized_81 : decode cX6_sized 81 = .ok (.lconst 0, 1) := by decide +kernel
theorem dX6_sized_82 : decode cX6_sized 82 = .ok (.lor, 1) := by decide +kernel
theorem dX6_sized_83 : decode cX6_sized 83 = .ok (.lstore 4, 2) := by decide +kernel
theorem dX6_sized_85 : decode cX6_sized 85 = .ok (.iinc 6 1, 3) := by decide +kernel
theorem dX6_sized_88 : decode cX6_sized 88 = .ok (.goto (-43), 3) := by decide +kernel
theorem dX6_sized_91 : decode cX6_sized 91 = .ok (.aload_n 0, 1) := by decide +kernel
theorem dX6_sized_92 : decode cX6_sized 92 = .ok (.iload_n 1, 1) := by decide +kernel
theorem dX6_sized_93 : decode cX6_sized 93 = .ok (.iconst 1, 1) := by decide +kernel
theorem dX6_sized_94 : decode cX6_sized 94 = .ok (.lload 4, 2) := by decide +kernel
theorem dX6_sized_96 : decode cX6_sized 96 = .ok (.invokevirtual 111, 3) := by decide +kernel
theorem dX6_sized_99 : decode cX6_sized 99 = .ok (.ireturn, 1) := by decide +kernel
set_option maxRecDepth 20000 in
theorem ggX6_tabled_X6_isFamily : GoodIn wsX6_tabled wsX6_isFamily := goodIn_r _ [5, 6, 7, 8, 4, 9] (by decide +kernel) (by decide +kernel)
set_option maxRecDepth 20000 in
theorem gX6_tabled_X6_isFamily : GoodIn wsX6_tabled (va_wsS RX6 96 yX6_isFamily wsX6_isFamily) := goodIn_app (goodIn_of _ (by decide +kernel)) ggX6_tabled_X6_isFamily
set_option maxRecDepth 20000 in
theorem ggX6_tabled_X6_wholeOf : GoodIn wsX6_tabled wsX6_wholeOf := goodIn_r _ [13, 14, 15, 16, 17, 18, 4, 19, 1, 20, 21, 22, 23, 24, 25, 26, 27, 28, 29, 30, 31, 32, 33, 34, 35, 36, 37, 38, 39, 40, 51, 52, 53, 54, 55, 56, 57, 58, 59, 60, 61, 62, 63, 64, 65, 66, 67, 68, 69, 70, 71, 72, 73, 74, 75] (by decide +kernel) (by decide +kernel)
set_option maxRecDepth 20000 in
theorem gX6_tabled_X6_wholeOf : GoodIn wsX6_tabled (wsV RX6 115 RX6 yX6_wholeOf wsX6_wholeOf) := goodIn_app (goodIn_of _ (by decide +kernel)) ggX6_tabled_X6_wholeOf
set_option maxRecDepth 20000 in
theorem ggX6_tabled_X6_becomes : GoodIn wsX6_tabled wsX6_becomes := goodIn_r _ [44, 45, 46, 47, 48, 49, 4, 50, 51, 52, 53, 54, 55, 56, 57, 58, 59, 60, 61, 62, 63, 64, 65, 66, 67, 68, 69, 70, 71, 72, 73, 74, 75] (by decide +kernel) (by decide +kernel)
set_option maxRecDepth 20000 in
theorem gX6_tabled_X6_becomes : GoodIn wsX6_tabled (wsV RX6 111 RX6 yX6_becomes wsX6_becomes) := goodIn_app (goodIn_of _ (by decide +kernel)) ggX6_tabled_X6_becomes
theorem dX6_tabled_0 : decode cX6_tabled 0 = .ok (.iload_n 1, 1) := by decide +kernel
theorem dX6_tabled_1 : decode cX6_tabled 1 = .ok (.invokestatic 96, 3) := by decide +kernel
theorem dX6_tabled_4 : decode cX6_tabled 4 = .ok (.ifCond .ne 6, 3) := by decide +kernel
theorem dX6_tabled_7 : decode cX6_tabled 7 = .ok (.bipush (-2), 2) := by decide +kernel
theorem dX6_tabled_9 : decode cX6_tabled 9 = .ok (.ireturn, 1) := by decide +kernel
theorem dX6_tabled_10 : decode cX6_tabled 10 = .ok (.lconst 0, 1) := by decide +kernel
theorem dX6_tabled_11 : decode cX6_tabled 11 = .ok (.lstore_n 2, 1) := by decide +kernel
theorem dX6_tabled_12 : decode cX6_tabled 12 = .ok (.iconst 0, 1) := by decide +kernel
theorem dX6_tabled_13 : decode cX6_tabled 13 = .ok (.istore 4, 2) := by decide +kernel
theorem dX6_tabled_15 : decode cX6_tabled 15 = .ok (.iload 4, 2) := by decide +kernel
theorem dX6_tabled_17 : decode cX6_tabled 17 = .ok (.iconst 1, 1) := by decide +kernel
theorem dX6_tabled_18 : decode cX6_tabled 18 = .ok (.aload_n 0, 1) := by decide +kernel
theorem dX6_tabled_19 : decode cX6_tabled 19 = .ok (.getfield 9, 3) := by decide +kernel
theorem dX6_tabled_22 : decode cX6_tabled 22 = .ok (.ishl, 1) := by decide +kernel
theorem dX6_tabled_23 : decode cX6_tabled 23 = .ok (.if_icmp .ge 29, 3) := by decide +kernel
theorem dX6_tabled_26 : decode cX6_tabled 26 = .ok (.lload_n 2, 1) := by decide +kernel
theorem dX6_tabled_27 : decode cX6_tabled 27 = .ok (.aload_n 0, 1) := by decide +kernel
theorem dX6_tabled_28 : decode cX6_tabled 28 = .ok (.iload 4, 2) := by decide +kernel
theorem dX6_tabled_30 : decode cX6_tabled 30 = .ok (.invokevirtual 115, 3) := by decide +kernel
theorem dX6_tabled_33 : decode cX6_tabled 33 = .ok (.ifCond .eq 10, 3) := by decide +kernel
theorem dX6_tabled_36 : decode cX6_tabled 36 = .ok (.lconst 1, 1) := by decide +kernel
theorem dX6_tabled_37 : decode cX6_tabled 37 = .ok (.iload 4, 2) := by decide +kernel
theorem dX6_tabled_39 : decode cX6_tabled 39 = .ok (.lshl, 1) := by decide +kernel
theorem dX6_tabled_40 : decode cX6_tabled 40 = .ok (.goto 4, 3) := by decide +kernel
theorem dX6_tabled_43 : decode cX6_tabled 43 = .ok (.lconst 0, 1) := by decide +kernel
theorem dX6_tabled_44 : decode cX6_tabled 44 = .ok (.lor, 1) := by decide +kernel
theorem dX6_tabled_45 : decode cX6_tabled 45 = .ok (.lstore_n 2, 1) := by decide +kernel
theorem dX6_tabled_46 : decode cX6_tabled 46 = .ok (.iinc 4 1, 3) := by decide +kernel
theorem dX6_tabled_49 : decode cX6_tabled 49 = .ok (.goto (-34), 3) := by decide +kernel
theorem dX6_tabled_52 : decode cX6_tabled 52 = .ok (.aload_n 0, 1) := by decide +kernel
theorem dX6_tabled_53 : decode cX6_tabled 53 = .ok (.iload_n 1, 1) := by decide +kernel
theorem dX6_tabled_54 : decode cX6_tabled 54 = .ok (.iconst 2, 1) := by decide +kernel
theorem dX6_tabled_55 : decode cX6_tabled 55 = .ok (.lload_n 2, 1) := by decide +kernel
theorem dX6_tabled_56 : decode cX6_tabled 56 = .ok (.invokevirtual 111, 3) := by decide +kernel
theorem dX6_tabled_59 : decode cX6_tabled 59 = .ok (.ireturn, 1) := by decide +kernel
theorem dX6_twisted_0 : decode cX6_twisted 0 = .ok (.lconst 0, 1) := by decide +kernel
theorem dX6_twisted_1 : decode cX6_twisted 1 = .ok (.lstore 4, 2) := by decide +kernel
theorem dX6_twisted_3 : decode cX6_twisted 3 = .ok (.iconst 0, 1) := by decide +kernel
theorem dX6_twisted_4 : decode cX6_twisted 4 = .ok (.istore 6, 2) := by decide +kernel
theorem dX6_twisted_6 : decode cX6_twisted 6 = .ok (.iload 6, 2) := by decide +kernel
theorem dX6_twisted_8 : decode cX6_twisted 8 = .ok (.iconst 1, 1) := by decide +kernel
theorem dX6_twisted_9 : decode cX6_twisted 9 = .ok (.aload_n 0, 1) := by decide +kernel
theorem dX6_twisted_10 : decode cX6_twisted 10 = .ok (.getfield 9, 3) := by decide +kernel
theorem dX6_twisted_13 : decode cX6_twisted 13 = .ok (.ishl, 1) := by decide +kernel
theorem dX6_twisted_14 : decode cX6_twisted 14 = .ok (.if_icmp .ge 25, 3) := by decide +kernel
theorem dX6_twisted_17 : decode cX6_twisted 17 = .ok (.lload 4, 2) := by decide +kernel
theorem dX6_twisted_19 : decode cX6_twisted 19 = .ok (.lload_n 1, 1) := by decide +kernel
theorem dX6_twisted_20 : decode cX6_twisted 20 = .ok (.iload 6, 2) := by decide +kernel
theorem dX6_twisted_22 : decode cX6_twisted 22 = .ok (.lshr, 1) := by decide +kernel
theorem dX6_twisted_23 : decode cX6_twisted 23 = .ok (.lconst 1, 1) := by decide +kernel
theorem dX6_twisted_24 : decode cX6_twisted 24 = .ok (.land, 1) := by decide +kernel
theorem dX6_twisted_25 : decode cX6_twisted 25 = .ok (.iload 6, 2) := by decide +kernel
theorem dX6_twisted_27 : decode cX6_twisted 27 = .ok (.iload_n 3, 1) := by decide +kernel
theorem dX6_twisted_28 : decode cX6_twisted 28 = .ok (.ixor, 1) := by decide +kernel
theorem dX6_twisted_29 : decode cX6_twisted 29 = .ok (.lshl, 1) := by decide +kernel
theorem dX6_twisted_30 : decode cX6_twisted 30 = .ok (.lor, 1) := by decide +kernel
theorem dX6_twisted_31 : decode cX6_twisted 31 = .ok (.lstore 4, 2) := by decide +kernel
theorem dX6_twisted_33 : decode cX6_twisted 33 = .ok (.iinc 6 1, 3) := by decide +kernel
theorem dX6_twisted_36 : decode cX6_twisted 36 = .ok (.goto (-30), 3) := by decide +kernel
theorem dX6_twisted_39 : decode cX6_twisted 39 = .ok (.lload 4, 2) := by decide +kernel
theorem dX6_twisted_41 : decode cX6_twisted 41 = .ok (.lreturn, 1) := by decide +kernel
set_option maxRecDepth 20000 in
theorem ggX6_twist_X6_isFamily : GoodIn wsX6_twist wsX6_isFamily := goodIn_r _ [6, 7, 8, 9, 5, 10] (by decide +kernel) (by decide +kernel)
set_option maxRecDepth 20000 in
theorem gX6_twist_X6_isFamily : GoodIn wsX6_twist (va_wsS RX6 96 yX6_isFamily wsX6_isFamily) := goodIn_app (goodIn_of _ (by decide +kernel)) ggX6_twist_X6_isFamily
set_option maxRecDepth 20000 in
theorem ggX6_twist_X6_isSet : GoodIn wsX6_twist wsX6_isSet := goodIn_r _ [14, 15, 8, 9, 5, 10, 28, 29, 30, 31, 32, 33, 34, 35, 36, 37, 38, 39, 40, 41, 42, 43, 44, 45, 46, 47, 48, 49, 50, 51, 52] (by decide +kernel) (by decide +kernel)
set_option maxRecDepth 20000 in
theorem gX6_twist_X6_isSet : GoodIn wsX6_twist (wsV RX6 100 RX6 yX6_isSet wsX6_isSet) := goodIn_app (goodIn_of _ (by decide +kernel)) ggX6_twist_X6_isSet
set_option maxRecDepth 20000 in
theorem ggX6_twist_X6_twisted : GoodIn wsX6_twist wsX6_twisted := goodIn_r _ [19, 15, 28, 29, 30, 31, 32, 33, 34, 35, 36, 37, 38, 39, 40, 41, 42, 43, 44, 45, 46, 47, 48, 49, 50, 51, 52] (by decide +kernel) (by decide +kernel)
set_option maxRecDepth 20000 in
theorem gX6_twist_X6_twisted : GoodIn wsX6_twist (wsV RX6 118 RX6 yX6_twisted wsX6_twisted) := goodIn_app (goodIn_of _ (by decide +kernel)) ggX6_twist_X6_twisted
set_option maxRecDepth 20000 in
theorem ggX6_twist_X6_becomes : GoodIn wsX6_twist wsX6_becomes := goodIn_r _ [23, 1, 2, 24, 25, 26, 5, 27, 28, 29, 30, 31, 32, 33, 34, 35, 36, 37, 38, 39, 40, 41, 42, 43, 44, 45, 46, 47, 48, 49, 50, 51, 52] (by decide +kernel) (by decide +kernel)
set_option maxRecDepth 20000 in
theorem gX6_twist_X6_becomes : GoodIn wsX6_twist (wsV RX6 111 RX6 yX6_becomes wsX6_becomes) := goodIn_app (goodIn_of _ (by decide +kernel)) ggX6_twist_X6_becomes
theorem dX6_twist_0 : decode cX6_twist 0 = .ok (.iload_n 1, 1) := by decide +kernel
theorem dX6_twist_1 : decode cX6_twist 1 = .ok (.invokestatic 96, 3) := by decide +kernel
theorem dX6_twist_4 : decode cX6_twist 4 = .ok (.ifCond .eq 18, 3) := by decide +kernel
theorem dX6_twist_7 : decode cX6_twist 7 = .ok (.aload_n 0, 1) := by decide +kernel
theorem dX6_twist_8 : decode cX6_twist 8 = .ok (.iload_n 2, 1) := by decide +kernel
theorem dX6_twist_9 : decode cX6_twist 9 = .ok (.invokevirtual 100, 3) := by decide +kernel
theorem dX6_twist_12 : decode cX6_twist 12 = .ok (.ifCond .eq 10, 3) := by decide +kernel
theorem dX6_twist_15 : decode cX6_twist 15 = .ok (.iload_n 3, 1) := by decide +kernel
theorem dX6_twist_16 : decode cX6_twist 16 = .ok (.invokestatic 96, 3) := by decide +kernel
theorem dX6_twist_19 : decode cX6_twist 19 = .ok (.ifCond .ne 6, 3) := by decide +kernel
theorem dX6_twist_22 : decode cX6_twist 22 = .ok (.bipush (-2), 2) := by decide +kernel
theorem dX6_twist_24 : decode cX6_twist 24 = .ok (.ireturn, 1) := by decide +kernel
theorem dX6_twist_25 : decode cX6_twist 25 = .ok (.aload_n 0, 1) := by decide +kernel
theorem dX6_twist_26 : decode cX6_twist 26 = .ok (.getfield 19, 3) := by decide +kernel
theorem dX6_twist_29 : decode cX6_twist 29 = .ok (.iload_n 1, 1) := by decide +kernel
theorem dX6_twist_30 : decode cX6_twist 30 = .ok (.iaload, 1) := by decide +kernel
theorem dX6_twist_31 : decode cX6_twist 31 = .ok (.iconst (-1), 1) := by decide +kernel
theorem dX6_twist_32 : decode cX6_twist 32 = .ok (.if_icmp .ne 8, 3) := by decide +kernel
theorem dX6_twist_35 : decode cX6_twist 35 = .ok (.bipush (-11), 2) := by decide +kernel
theorem dX6_twist_37 : decode cX6_twist 37 = .ok (.goto 20, 3) := by decide +kernel
theorem dX6_twist_40 : decode cX6_twist 40 = .ok (.aload_n 0, 1) := by decide +kernel
theorem dX6_twist_41 : decode cX6_twist 41 = .ok (.iload_n 3, 1) := by decide +kernel
theorem dX6_twist_42 : decode cX6_twist 42 = .ok (.iconst 3, 1) := by decide +kernel
theorem dX6_twist_43 : decode cX6_twist 43 = .ok (.aload_n 0, 1) := by decide +kernel
theorem dX6_twist_44 : decode cX6_twist 44 = .ok (.aload_n 0, 1) := by decide +kernel
theorem dX6_twist_45 : decode cX6_twist 45 = .ok (.getfield 15, 3) := by decide +kernel
theorem dX6_twist_48 : decode cX6_twist 48 = .ok (.iload_n 1, 1) := by decide +kernel
theorem dX6_twist_49 : decode cX6_twist 49 = .ok (.laload, 1) := by decide +kernel
theorem dX6_twist_50 : decode cX6_twist 50 = .ok (.iload_n 2, 1) := by decide +kernel
theorem dX6_twist_51 : decode cX6_twist 51 = .ok (.invokevirtual 118, 3) := by decide +kernel
theorem dX6_twist_54 : decode cX6_twist 54 = .ok (.invokevirtual 111, 3) := by decide +kernel
theorem dX6_twist_57 : decode cX6_twist 57 = .ok (.ireturn, 1) := by decide +kernel
set_option maxRecDepth 20000 in
theorem ggX6_dual_X6_isFamily : GoodIn wsX6_dual wsX6_isFamily := goodIn_r _ [7, 8, 9, 10, 6, 11] (by decide +kernel) (by decide +kernel)
set_option maxRecDepth 20000 in
theorem gX6_dual_X6_isFamily : GoodIn wsX6_dual (va_wsS RX6 96 yX6_isFamily wsX6_isFamily) := goodIn_app (goodIn_of _ (by decide +kernel)) ggX6_dual_X6_isFamily
set_option maxRecDepth 20000 in
theorem ggX6_dual_X6_twisted : GoodIn wsX6_dual wsX6_twisted := goodIn_r _ [15, 3, 24, 25, 26, 27, 28, 29, 30, 31, 32, 33, 34, 35, 36, 37, 38, 39, 40, 41, 42, 43, 44, 45, 46, 47, 48] (by decide +kernel) (by decide +kernel)
set_option maxRecDepth 20000 in
theorem gX6_dual_X6_twisted : GoodIn wsX6_dual (wsV RX6 118 RX6 yX6_twisted wsX6_twisted) := goodIn_app (goodIn_of _ (by decide +kernel)) ggX6_dual_X6_twisted
set_option maxRecDepth 20000 in
theorem ggX6_dual_X6_becomes : GoodIn wsX6_dual wsX6_becomes := goodIn_r _ [19, 1, 2, 20, 21, 22, 6, 23, 24, 25, 26, 27, 28, 29, 30, 31, 32, 33, 34, 35, 36, 37, 38, 39, 40, 41, 42, 43, 44, 45, 46, 47, 48] (by decide +kernel) (by decide +kernel)
set_option maxRecDepth 20000 in
theorem gX6_dual_X6_becomes : GoodIn wsX6_dual (wsV RX6 111 RX6 yX6_becomes wsX6_becomes) := goodIn_app (goodIn_of _ (by decide +kernel)) ggX6_dual_X6_becomes
theorem dX6_dual_0 : decode cX6_dual 0 = .ok (.iload_n 1, 1) := by decide +kernel
theorem dX6_dual_1 : decode cX6_dual 1 = .ok (.invokestatic 96, 3) := by decide +kernel
theorem dX6_dual_4 : decode cX6_dual 4 = .ok (.ifCond .eq 10, 3) := by decide +kernel
theorem dX6_dual_7 : decode cX6_dual 7 = .ok (.iload_n 2, 1) := by decide +kernel
theorem dX6_dual_8 : decode cX6_dual 8 = .ok (.invokestatic 96, 3) := by decide +kernel
theorem dX6_dual_11 : decode cX6_dual 11 = .ok (.ifCond .ne 6, 3) := by decide +kernel
theorem dX6_dual_14 : decode cX6_dual 14 = .ok (.bipush (-2), 2) := by decide +kernel
theorem dX6_dual_16 : decode cX6_dual 16 = .ok (.ireturn, 1) := by decide +kernel
theorem dX6_dual_17 : decode cX6_dual 17 = .ok (.aload_n 0, 1) := by decide +kernel
theorem dX6_dual_18 : decode cX6_dual 18 = .ok (.getfield 19, 3) := by decide +kernel
theorem dX6_dual_21 : decode cX6_dual 21 = .ok (.iload_n 1, 1) := by decide +kernel
theorem dX6_dual_22 : decode cX6_dual 22 = .ok (.iaload, 1) := by decide +kernel
theorem dX6_dual_23 : decode cX6_dual 23 = .ok (.iconst (-1), 1) := by decide +kernel
theorem dX6_dual_24 : decode cX6_dual 24 = .ok (.if_icmp .ne 8, 3) := by decide +kernel
theorem dX6_dual_27 : decode cX6_dual 27 = .ok (.bipush (-11), 2) := by decide +kernel
theorem dX6_dual_29 : decode cX6_dual 29 = .ok (.goto 27, 3) := by decide +kernel
theorem dX6_dual_32 : decode cX6_dual 32 = .ok (.aload_n 0, 1) := by decide +kernel
theorem dX6_dual_33 : decode cX6_dual 33 = .ok (.iload_n 2, 1) := by decide +kernel
theorem dX6_dual_34 : decode cX6_dual 34 = .ok (.iconst 5, 1) := by decide +kernel
theorem dX6_dual_35 : decode cX6_dual 35 = .ok (.aload_n 0, 1) := by decide +kernel
theorem dX6_dual_36 : decode cX6_dual 36 = .ok (.aload_n 0, 1) := by decide +kernel
theorem dX6_dual_37 : decode cX6_dual 37 = .ok (.getfield 15, 3) := by decide +kernel
theorem dX6_dual_40 : decode cX6_dual 40 = .ok (.iload_n 1, 1) := by decide +kernel
theorem dX6_dual_41 : decode cX6_dual 41 = .ok (.laload, 1) := by decide +kernel
theorem dX6_dual_42 : decode cX6_dual 42 = .ok (.iconst 1, 1) := by decide +kernel
theorem dX6_dual_43 : decode cX6_dual 43 = .ok (.aload_n 0, 1) := by decide +kernel
theorem dX6_dual_44 : decode cX6_dual 44 = .ok (.getfield 9, 3) := by decide +kernel
theorem dX6_dual_47 : decode cX6_dual 47 = .ok (.ishl, 1) := by decide +kernel
theorem dX6_dual_48 : decode cX6_dual 48 = .ok (.iconst 1, 1) := by decide +kernel
theorem dX6_dual_49 : decode cX6_dual 49 = .ok (.isub, 1) := by decide +kernel
theorem dX6_dual_50 : decode cX6_dual 50 = .ok (.invokevirtual 118, 3) := by decide +kernel
theorem dX6_dual_53 : decode cX6_dual 53 = .ok (.invokevirtual 111, 3) := by decide +kernel
theorem dX6_dual_56 : decode cX6_dual 56 = .ok (.ireturn, 1) := by decide +kernel
set_option maxRecDepth 20000 in
theorem ggX6_reduce_X6_isFamily : GoodIn wsX6_reduce wsX6_isFamily := goodIn_r _ [7, 8, 9, 10, 6, 11] (by decide +kernel) (by decide +kernel)
set_option maxRecDepth 20000 in
theorem gX6_reduce_X6_isFamily : GoodIn wsX6_reduce (va_wsS RX6 96 yX6_isFamily wsX6_isFamily) := goodIn_app (goodIn_of _ (by decide +kernel)) ggX6_reduce_X6_isFamily
set_option maxRecDepth 20000 in
theorem ggX6_reduce_X6_isPoint : GoodIn wsX6_reduce wsX6_isPoint := goodIn_r _ [15, 2, 9, 10, 6, 11, 24, 25, 26, 27, 28, 29, 30, 31, 32, 33, 34, 35, 36, 37, 38, 39, 40, 41, 42, 43, 44, 45, 46, 47, 48] (by decide +kernel) (by decide +kernel)
set_option maxRecDepth 20000 in
theorem gX6_reduce_X6_isPoint : GoodIn wsX6_reduce (wsV RX6 122 RX6 yX6_isPoint wsX6_isPoint) := goodIn_app (goodIn_of _ (by decide +kernel)) ggX6_reduce_X6_isPoint
set_option maxRecDepth 20000 in
theorem ggX6_reduce_X6_isIn : GoodIn wsX6_reduce wsX6_isIn := goodIn_r _ [11] (by decide +kernel) (by decide +kernel)
set_option maxRecDepth 20000 in
theorem gX6_reduce_X6_isIn : GoodIn wsX6_reduce (va_wsS RX6 86 yX6_isIn wsX6_isIn) := goodIn_app (goodIn_of _ (by decide +kernel)) ggX6_reduce_X6_isIn
set_option maxRecDepth 20000 in
theorem ggX6_reduce_X6_becomes : GoodIn wsX6_reduce wsX6_becomes := goodIn_r _ [19, 1, 3, 20, 21, 22, 6, 23, 24, 25, 26, 27, 28, 29, 30, 31, 32, 33, 34, 35, 36, 37, 38, 39, 40, 41, 42, 43, 44, 45, 46, 47, 48] (by decide +kernel) (by decide +kernel)
set_option maxRecDepth 20000 in
theorem gX6_reduce_X6_becomes : GoodIn wsX6_reduce (wsV RX6 111 RX6 yX6_becomes wsX6_becomes) := goodIn_app (goodIn_of _ (by decide +kernel)) ggX6_reduce_X6_becomes
theorem dX6_reduce_0 : decode cX6_reduce 0 = .ok (.iload_n 1, 1) := by decide +kernel
theorem dX6_reduce_1 : decode cX6_reduce 1 = .ok (.invokestatic 96, 3) := by decide +kernel
theorem dX6_reduce_4 : decode cX6_reduce 4 = .ok (.ifCond .eq 29, 3) := by decide +kernel
theorem dX6_reduce_7 : decode cX6_reduce 7 = .ok (.aload_n 0, 1) := by decide +kernel
theorem dX6_reduce_8 : decode cX6_reduce 8 = .ok (.iload_n 2, 1) := by decide +kernel
theorem dX6_reduce_9 : decode cX6_reduce 9 = .ok (.invokevirtual 122, 3) := by decide +kernel
theorem dX6_reduce_12 : decode cX6_reduce 12 = .ok (.ifCond .eq 21, 3) := by decide +kernel
theorem dX6_reduce_15 : decode cX6_reduce 15 = .ok (.iload_n 3, 1) := by decide +kernel
theorem dX6_reduce_16 : decode cX6_reduce 16 = .ok (.i2l, 1) := by decide +kernel
theorem dX6_reduce_17 : decode cX6_reduce 17 = .ok (.lconst 0, 1) := by decide +kernel
theorem dX6_reduce_18 : decode cX6_reduce 18 = .ok (.lconst 1, 1) := by decide +kernel
theorem dX6_reduce_19 : decode cX6_reduce 19 = .ok (.invokestatic 86, 3) := by decide +kernel
theorem dX6_reduce_22 : decode cX6_reduce 22 = .ok (.ifCond .eq 11, 3) := by decide +kernel
theorem dX6_reduce_25 : decode cX6_reduce 25 = .ok (.iload 4, 2) := by decide +kernel
theorem dX6_reduce_27 : decode cX6_reduce 27 = .ok (.invokestatic 96, 3) := by decide +kernel
theorem dX6_reduce_30 : decode cX6_reduce 30 = .ok (.ifCond .ne 6, 3) := by decide +kernel
theorem dX6_reduce_33 : decode cX6_reduce 33 = .ok (.bipush (-2), 2) := by decide +kernel
theorem dX6_reduce_35 : decode cX6_reduce 35 = .ok (.ireturn, 1) := by decide +kernel
theorem dX6_reduce_36 : decode cX6_reduce 36 = .ok (.aload_n 0, 1) := by decide +kernel
theorem dX6_reduce_37 : decode cX6_reduce 37 = .ok (.getfield 19, 3) := by decide +kernel
theorem dX6_reduce_40 : decode cX6_reduce 40 = .ok (.iload_n 1, 1) := by decide +kernel
theorem dX6_reduce_41 : decode cX6_reduce 41 = .ok (.iaload, 1) := by decide +kernel
theorem dX6_reduce_42 : decode cX6_reduce 42 = .ok (.iconst (-1), 1) := by decide +kernel
theorem dX6_reduce_43 : decode cX6_reduce 43 = .ok (.if_icmp .ne 6, 3) := by decide +kernel
theorem dX6_reduce_46 : decode cX6_reduce 46 = .ok (.bipush (-11), 2) := by decide +kernel
theorem dX6_reduce_48 : decode cX6_reduce 48 = .ok (.ireturn, 1) := by decide +kernel
theorem dX6_reduce_49 : decode cX6_reduce 49 = .ok (.lconst 0, 1) := by decide +kernel
theorem dX6_reduce_50 : decode cX6_reduce 50 = .ok (.lstore 5, 2) := by decide +kernel
theorem dX6_reduce_52 : decode cX6_reduce 52 = .ok (.iconst 0, 1) := by decide +kernel
theorem dX6_reduce_53 : decode cX6_reduce 53 = .ok (.istore 7, 2) := by decide +kernel
theorem dX6_reduce_55 : decode cX6_reduce 55 = .ok (.iload 7, 2) := by decide +kernel
theorem dX6_reduce_57 : decode cX6_reduce 57 = .ok (.iconst 1, 1) := by decide +kernel
theorem dX6_reduce_58 : decode cX6_reduce 58 = .ok (.aload_n 0, 1) := by decide +kernel
theorem dX6_reduce_59 : decode cX6_reduce 59 = .ok (.getfield 9, 3) := by decide +kernel
theorem dX6_reduce_62 : decode cX6_reduce 62 = .ok (.ishl, 1) := by decide +kernel
theorem dX6_reduce_63 : decode cX6_reduce 63 = .ok (.if_icmp .ge 35, 3) := by decide +kernel
theorem dX6_reduce_66 : decode cX6_reduce 66 = .ok (.iload 7, 2) := by decide +kernel
theorem dX6_reduce_68 : decode cX6_reduce 68 = .ok (.iload_n 2, 1) := by decide +kernel
theorem dX6_reduce_69 : decode cX6_reduce 69 = .ok (.ishr, 1) := by decide +kernel
theorem dX6_reduce_70 : decode cX6_reduce 70 = .ok (.iconst 1, 1) := by decide +kernel
theorem dX6_reduce_71 : decode cX6_reduce 71 = .ok (.iand, 1) := by decide +kernel
theorem dX6_reduce_72 : decode cX6_reduce 72 = .ok (.iload_n 3, 1) := by decide +kernel
theorem dX6_reduce_73 : decode cX6_reduce 73 = .ok (.if_icmp .ne 19, 3) := by decide +kernel
theorem dX6_reduce_76 : decode cX6_reduce 76 = .ok (.lload 5, 2) := by decide +kernel
theorem dX6_reduce_78 : decode cX6_reduce 78 = .ok (.aload_n 0, 1) := by decide +kernel
theorem dX6_reduce_79 : decode cX6_reduce 79 = .ok (.getfield 15, 3) := by decide +kernel
theorem dX6_reduce_82 : decode cX6_reduce 82 = .ok (.iload_n 1, 1) := by decide +kernel
theorem dX6_reduce_83 : decode cX6_reduce 83 = .ok (.laload, 1) := by decide +kernel
theorem dX6_reduce_84 : decode cX6_reduce 84 = .ok (.lconst 1, 1) := by decide +kernel
theorem dX6_reduce_85 : decode cX6_reduce 85 = .ok (.iload 7, 2) := by decide +kernel
theorem dX6_reduce_87 : decode cX6_reduce 87 = .ok (.lshl, 1) := by decide +kernel
theorem dX6_reduce_88 : decode cX6_reduce 88 = .ok (.land, 1) := by decide +kernel
theorem dX6_reduce_89 : decode cX6_reduce 89 = .ok (.lor, 1) := by decide +kernel
theorem dX6_reduce_90 : decode cX6_reduce 90 = .ok (.lstore 5, 2) := by decide +kernel
theorem dX6_reduce_92 : decode cX6_reduce 92 = .ok (.iinc 7 1, 3) := by decide +kernel
theorem dX6_reduce_95 : decode cX6_reduce 95 = .ok (.goto (-40), 3) := by decide +kernel
theorem dX6_reduce_98 : decode cX6_reduce 98 = .ok (.lload 5, 2) := by decide +kernel
theorem dX6_reduce_100 : decode cX6_reduce 100 = .ok (.lconst 0, 1) := by decide +kernel
theorem dX6_reduce_101 : decode cX6_reduce 101 = .ok (.lcmp, 1) := by decide +kernel
theorem dX6_reduce_102 : decode cX6_reduce 102 = .ok (.ifCond .ne 12, 3) := by decide +kernel
theorem dX6_reduce_105 : decode cX6_reduce 105 = .ok (.aload_n 0, 1) := by decide +kernel
theorem dX6_reduce_106 : decode cX6_reduce 106 = .ok (.getfield 15, 3) := by decide +kernel
theorem dX6_reduce_109 : decode cX6_reduce 109 = .ok (.iload_n 1, 1) := by decide +kernel
theorem dX6_reduce_110 : decode cX6_reduce 110 = .ok (.laload, 1) := by decide +kernel
theorem dX6_reduce_111 : decode cX6_reduce 111 = .ok (.goto 5, 3) := by decide +kernel
theorem dX6_reduce_114 : decode cX6_reduce 114 = .ok (.lload 5, 2) := by decide +kernel
theorem dX6_reduce_116 : decode cX6_reduce 116 = .ok (.lstore 7, 2) := by decide +kernel
theorem dX6_reduce_118 : decode cX6_reduce 118 = .ok (.lconst 0, 1) := by decide +kernel
theorem dX6_reduce_119 : decode cX6_reduce 119 = .ok (.lstore 9, 2) := by decide +kernel
theorem dX6_reduce_121 : decode cX6_reduce 121 = .ok (.iconst 0, 1) := by decide +kernel
theorem dX6_reduce_122 : decode cX6_reduce 122 = .ok (.istore 11, 2) := by decide +kernel
theorem dX6_reduce_124 : decode cX6_reduce 124 = .ok (.iload 11, 2) := by decide +kernel
theorem dX6_reduce_126 : decode cX6_reduce 126 = .ok (.iconst 1, 1) := by decide +kernel
theorem dX6_reduce_127 : decode cX6_reduce 127 = .ok (.aload_n 0, 1) := by decide +kernel
theorem dX6_reduce_128 : decode cX6_reduce 128 = .ok (.getfield 9, 3) := by decide +kernel
theorem dX6_reduce_131 : decode cX6_reduce 131 = .ok (.ishl, 1) := by decide +kernel
theorem dX6_reduce_132 : decode cX6_reduce 132 = .ok (.if_icmp .ge 36, 3) := by decide +kernel
theorem dX6_reduce_135 : decode cX6_reduce 135 = .ok (.lload 7, 2) := by decide +kernel
theorem dX6_reduce_137 : decode cX6_reduce 137 = .ok (.iload 11, 2) := by decide +kernel
theorem dX6_reduce_139 : decode cX6_reduce 139 = .ok (.lshr, 1) := by decide +kernel
theorem dX6_reduce_140 : decode cX6_reduce 140 = .ok (.lconst 1, 1) := by decide +kernel
theorem dX6_reduce_141 : decode cX6_reduce 141 = .ok (.land, 1) := by decide +kernel
theorem dX6_reduce_142 : decode cX6_reduce 142 = .ok (.lconst 1, 1) := by decide +kernel
theorem dX6_reduce_143 : decode cX6_reduce 143 = .ok (.lcmp, 1) := by decide +kernel
theorem dX6_reduce_144 : decode cX6_reduce 144 = .ok (.ifCond .ne 18, 3) := by decide +kernel
theorem dX6_reduce_147 : decode cX6_reduce 147 = .ok (.lload 9, 2) := by decide +kernel
theorem dX6_reduce_149 : decode cX6_reduce 149 = .ok (.lconst 1, 1) := by decide +kernel
theorem dX6_reduce_150 : decode cX6_reduce 150 = .ok (.iload 11, 2) := by decide +kernel
theorem dX6_reduce_152 : decode cX6_reduce 152 = .ok (.iconst 1, 1) := by decide +kernel
theorem dX6_reduce_153 : decode cX6_reduce 153 = .ok (.iload_n 2, 1) := by decide +kernel
theorem dX6_reduce_154 : decode cX6_reduce 154 = .ok (.ishl, 1) := by decide +kernel
theorem dX6_reduce_155 : decode cX6_reduce 155 = .ok (.iconst (-1), 1) := by decide +kernel
theorem dX6_reduce_156 : decode cX6_reduce 156 = .ok (.ixor, 1) := by decide +kernel
theorem dX6_reduce_157 : decode cX6_reduce 157 = .ok (.iand, 1) := by decide +kernel
theorem dX6_reduce_158 : decode cX6_reduce 158 = .ok (.lshl, 1) := by decide +kernel
theorem dX6_reduce_159 : decode cX6_reduce 159 = .ok (.lor, 1) := by decide +kernel
theorem dX6_reduce_160 : decode cX6_reduce 160 = .ok (.lstore 9, 2) := by decide +kernel
theorem dX6_reduce_162 : decode cX6_reduce 162 = .ok (.iinc 11 1, 3) := by decide +kernel
theorem dX6_reduce_165 : decode cX6_reduce 165 = .ok (.goto (-41), 3) := by decide +kernel
theorem dX6_reduce_168 : decode cX6_reduce 168 = .ok (.aload_n 0, 1) := by decide +kernel
theorem dX6_reduce_169 : decode cX6_reduce 169 = .ok (.iload 4, 2) := by decide +kernel
theorem dX6_reduce_171 : decode cX6_reduce 171 = .ok (.iconst 4, 1) := by decide +kernel
theorem dX6_reduce_172 : decode cX6_reduce 172 = .ok (.lload 9, 2) := by decide +kernel
theorem dX6_reduce_174 : decode cX6_reduce 174 = .ok (.invokevirtual 111, 3) := by decide +kernel
theorem dX6_reduce_177 : decode cX6_reduce 177 = .ok (.ireturn, 1) := by decide +kernel
set_option maxRecDepth 20000 in
theorem ggX6_clear_X6_isFamily : GoodIn wsX6_clear wsX6_isFamily := goodIn_r _ [6, 7, 8, 9, 5, 10] (by decide +kernel) (by decide +kernel)
set_option maxRecDepth 20000 in
theorem gX6_clear_X6_isFamily : GoodIn wsX6_clear (va_wsS RX6 96 yX6_isFamily wsX6_isFamily) := goodIn_app (goodIn_of _ (by decide +kernel)) ggX6_clear_X6_isFamily
set_option maxRecDepth 20000 in
theorem ggX6_clear_X6_size : GoodIn wsX6_clear wsX6_size := goodIn_r _ [14] (by decide +kernel) (by decide +kernel)
set_option maxRecDepth 20000 in
theorem gX6_clear_X6_size : GoodIn wsX6_clear (wsV RX6 90 RX6 yX6_size wsX6_size) := goodIn_app (goodIn_of _ (by decide +kernel)) ggX6_clear_X6_size
theorem dX6_clear_0 : decode cX6_clear 0 = .ok (.iload_n 1, 1) := by decide +kernel
theorem dX6_clear_1 : decode cX6_clear 1 = .ok (.invokestatic 96, 3) := by decide +kernel
theorem dX6_clear_4 : decode cX6_clear 4 = .ok (.ifCond .ne 6, 3) := by decide +kernel
theorem dX6_clear_7 : decode cX6_clear 7 = .ok (.bipush (-2), 2) := by decide +kernel
theorem dX6_clear_9 : decode cX6_clear 9 = .ok (.ireturn, 1) := by decide +kernel
theorem dX6_clear_10 : decode cX6_clear 10 = .ok (.aload_n 0, 1) := by decide +kernel
theorem dX6_clear_11 : decode cX6_clear 11 = .ok (.getfield 19, 3) := by decide +kernel
theorem dX6_clear_14 : decode cX6_clear 14 = .ok (.iload_n 1, 1) := by decide +kernel
theorem dX6_clear_15 : decode cX6_clear 15 = .ok (.iaload, 1) := by decide +kernel
theorem dX6_clear_16 : decode cX6_clear 16 = .ok (.iconst (-1), 1) := by decide +kernel
theorem dX6_clear_17 : decode cX6_clear 17 = .ok (.if_icmp .ne 6, 3) := by decide +kernel
theorem dX6_clear_20 : decode cX6_clear 20 = .ok (.bipush (-11), 2) := by decide +kernel
theorem dX6_clear_22 : decode cX6_clear 22 = .ok (.ireturn, 1) := by decide +kernel
theorem dX6_clear_23 : decode cX6_clear 23 = .ok (.aload_n 0, 1) := by decide +kernel
theorem dX6_clear_24 : decode cX6_clear 24 = .ok (.aload_n 0, 1) := by decide +kernel
theorem dX6_clear_25 : decode cX6_clear 25 = .ok (.getfield 15, 3) := by decide +kernel
theorem dX6_clear_28 : decode cX6_clear 28 = .ok (.iload_n 1, 1) := by decide +kernel
theorem dX6_clear_29 : decode cX6_clear 29 = .ok (.laload, 1) := by decide +kernel
theorem dX6_clear_30 : decode cX6_clear 30 = .ok (.invokevirtual 90, 3) := by decide +kernel
theorem dX6_clear_33 : decode cX6_clear 33 = .ok (.istore_n 2, 1) := by decide +kernel
theorem dX6_clear_34 : decode cX6_clear 34 = .ok (.aload_n 0, 1) := by decide +kernel
theorem dX6_clear_35 : decode cX6_clear 35 = .ok (.getfield 15, 3) := by decide +kernel
theorem dX6_clear_38 : decode cX6_clear 38 = .ok (.iload_n 1, 1) := by decide +kernel
theorem dX6_clear_39 : decode cX6_clear 39 = .ok (.lconst 0, 1) := by decide +kernel
theorem dX6_clear_40 : decode cX6_clear 40 = .ok (.lastore, 1) := by decide +kernel
theorem dX6_clear_41 : decode cX6_clear 41 = .ok (.aload_n 0, 1) := by decide +kernel
theorem dX6_clear_42 : decode cX6_clear 42 = .ok (.getfield 19, 3) := by decide +kernel
theorem dX6_clear_45 : decode cX6_clear 45 = .ok (.iload_n 1, 1) := by decide +kernel
theorem dX6_clear_46 : decode cX6_clear 46 = .ok (.iconst (-1), 1) := by decide +kernel
theorem dX6_clear_47 : decode cX6_clear 47 = .ok (.iastore, 1) := by decide +kernel
theorem dX6_clear_48 : decode cX6_clear 48 = .ok (.iload_n 2, 1) := by decide +kernel
theorem dX6_clear_49 : decode cX6_clear 49 = .ok (.ireturn, 1) := by decide +kernel
set_option maxRecDepth 20000 in
theorem ggX6_has_X6_isFamily : GoodIn wsX6_has wsX6_isFamily := goodIn_r _ [5, 6, 7, 8, 4, 9] (by decide +kernel) (by decide +kernel)
set_option maxRecDepth 20000 in
theorem gX6_has_X6_isFamily : GoodIn wsX6_has (va_wsS RX6 96 yX6_isFamily wsX6_isFamily) := goodIn_app (goodIn_of _ (by decide +kernel)) ggX6_has_X6_isFamily
set_option maxRecDepth 20000 in
theorem ggX6_has_X6_isSet : GoodIn wsX6_has wsX6_isSet := goodIn_r _ [13, 14, 7, 8, 4, 9, 20, 21, 22, 23, 24, 25, 26, 27, 28, 29, 30, 31, 32, 33, 34, 35, 36, 37, 38, 39, 40, 41, 42, 43, 44] (by decide +kernel) (by decide +kernel)
set_option maxRecDepth 20000 in
theorem gX6_has_X6_isSet : GoodIn wsX6_has (wsV RX6 100 RX6 yX6_isSet wsX6_isSet) := goodIn_app (goodIn_of _ (by decide +kernel)) ggX6_has_X6_isSet
set_option maxRecDepth 20000 in
theorem ggX6_has_X6_isMember : GoodIn wsX6_has wsX6_isMember := goodIn_r _ [18, 19, 20, 21, 22, 23, 24, 25, 26, 27, 28, 29, 30, 31, 32, 33, 34, 35, 36, 37, 38, 39, 40, 41, 42, 43, 44] (by decide +kernel) (by decide +kernel)
set_option maxRecDepth 20000 in
theorem gX6_has_X6_isMember : GoodIn wsX6_has (wsV RX6 103 RX6 yX6_isMember wsX6_isMember) := goodIn_app (goodIn_of _ (by decide +kernel)) ggX6_has_X6_isMember
theorem dX6_has_0 : decode cX6_has 0 = .ok (.iload_n 1, 1) := by decide +kernel
theorem dX6_has_1 : decode cX6_has 1 = .ok (.invokestatic 96, 3) := by decide +kernel
theorem dX6_has_4 : decode cX6_has 4 = .ok (.ifCond .eq 11, 3) := by decide +kernel
theorem dX6_has_7 : decode cX6_has 7 = .ok (.aload_n 0, 1) := by decide +kernel
theorem dX6_has_8 : decode cX6_has 8 = .ok (.iload_n 2, 1) := by decide +kernel
theorem dX6_has_9 : decode cX6_has 9 = .ok (.invokevirtual 100, 3) := by decide +kernel
theorem dX6_has_12 : decode cX6_has 12 = .ok (.ifCond .ne 6, 3) := by decide +kernel
theorem dX6_has_15 : decode cX6_has 15 = .ok (.bipush (-2), 2) := by decide +kernel
theorem dX6_has_17 : decode cX6_has 17 = .ok (.ireturn, 1) := by decide +kernel
theorem dX6_has_18 : decode cX6_has 18 = .ok (.aload_n 0, 1) := by decide +kernel
theorem dX6_has_19 : decode cX6_has 19 = .ok (.getfield 19, 3) := by decide +kernel
theorem dX6_has_22 : decode cX6_has 22 = .ok (.iload_n 1, 1) := by decide +kernel
theorem dX6_has_23 : decode cX6_has 23 = .ok (.iaload, 1) := by decide +kernel
theorem dX6_has_24 : decode cX6_has 24 = .ok (.iconst (-1), 1) := by decide +kernel
theorem dX6_has_25 : decode cX6_has 25 = .ok (.if_icmp .ne 8, 3) := by decide +kernel
theorem dX6_has_28 : decode cX6_has 28 = .ok (.bipush (-11), 2) := by decide +kernel
theorem dX6_has_30 : decode cX6_has 30 = .ok (.goto 17, 3) := by decide +kernel
theorem dX6_has_33 : decode cX6_has 33 = .ok (.aload_n 0, 1) := by decide +kernel
theorem dX6_has_34 : decode cX6_has 34 = .ok (.iload_n 1, 1) := by decide +kernel
theorem dX6_has_35 : decode cX6_has 35 = .ok (.iload_n 2, 1) := by decide +kernel
theorem dX6_has_36 : decode cX6_has 36 = .ok (.invokevirtual 103, 3) := by decide +kernel
theorem dX6_has_39 : decode cX6_has 39 = .ok (.ifCond .eq 7, 3) := by decide +kernel
theorem dX6_has_42 : decode cX6_has 42 = .ok (.iconst 1, 1) := by decide +kernel
theorem dX6_has_43 : decode cX6_has 43 = .ok (.goto 4, 3) := by decide +kernel
theorem dX6_has_46 : decode cX6_has 46 = .ok (.iconst 0, 1) := by decide +kernel
theorem dX6_has_47 : decode cX6_has 47 = .ok (.ireturn, 1) := by decide +kernel
set_option maxRecDepth 20000 in
theorem ggX6_member_X6_isFamily : GoodIn wsX6_member wsX6_isFamily := goodIn_r _ [7, 8, 9, 10, 6, 11] (by decide +kernel) (by decide +kernel)
set_option maxRecDepth 20000 in
theorem gX6_member_X6_isFamily : GoodIn wsX6_member (va_wsS RX6 96 yX6_isFamily wsX6_isFamily) := goodIn_app (goodIn_of _ (by decide +kernel)) ggX6_member_X6_isFamily
set_option maxRecDepth 20000 in
theorem ggX6_member_X6_size : GoodIn wsX6_member wsX6_size := goodIn_r _ [15] (by decide +kernel) (by decide +kernel)
set_option maxRecDepth 20000 in
theorem gX6_member_X6_size : GoodIn wsX6_member (wsV RX6 90 RX6 yX6_size wsX6_size) := goodIn_app (goodIn_of _ (by decide +kernel)) ggX6_member_X6_size
set_option maxRecDepth 20000 in
theorem ggX6_member_X6_isMember : GoodIn wsX6_member wsX6_isMember := goodIn_r _ [19, 2, 20, 21, 22, 23, 24, 25, 26, 27, 28, 29, 30, 31, 32, 33, 34, 35, 36, 37, 38, 39, 40, 41, 42, 43, 44] (by decide +kernel) (by decide +kernel)
set_option maxRecDepth 20000 in
theorem gX6_member_X6_isMember : GoodIn wsX6_member (wsV RX6 103 RX6 yX6_isMember wsX6_isMember) := goodIn_app (goodIn_of _ (by decide +kernel)) ggX6_member_X6_isMember
theorem dX6_member_0 : decode cX6_member 0 = .ok (.iload_n 1, 1) := by decide +kernel
theorem dX6_member_1 : decode cX6_member 1 = .ok (.invokestatic 96, 3) := by decide +kernel
theorem dX6_member_4 : decode cX6_member 4 = .ok (.ifCond .eq 8, 3) := by decide +kernel
theorem dX6_member_7 : decode cX6_member 7 = .ok (.iload_n 2, 1) := by decide +kernel
theorem dX6_member_8 : decode cX6_member 8 = .ok (.iconst (-1), 1) := by decide +kernel
theorem dX6_member_9 : decode cX6_member 9 = .ok (.if_icmp .ge 6, 3) := by decide +kernel
theorem dX6_member_12 : decode cX6_member 12 = .ok (.bipush (-2), 2) := by decide +kernel
theorem dX6_member_14 : decode cX6_member 14 = .ok (.ireturn, 1) := by decide +kernel
theorem dX6_member_15 : decode cX6_member 15 = .ok (.aload_n 0, 1) := by decide +kernel
theorem dX6_member_16 : decode cX6_member 16 = .ok (.getfield 19, 3) := by decide +kernel
theorem dX6_member_19 : decode cX6_member 19 = .ok (.iload_n 1, 1) := by decide +kernel
theorem dX6_member_20 : decode cX6_member 20 = .ok (.iaload, 1) := by decide +kernel
theorem dX6_member_21 : decode cX6_member 21 = .ok (.iconst (-1), 1) := by decide +kernel
theorem dX6_member_22 : decode cX6_member 22 = .ok (.if_icmp .ne 6, 3) := by decide +kernel
theorem dX6_member_25 : decode cX6_member 25 = .ok (.bipush (-11), 2) := by decide +kernel
theorem dX6_member_27 : decode cX6_member 27 = .ok (.ireturn, 1) := by decide +kernel
theorem dX6_member_28 : decode cX6_member 28 = .ok (.iload_n 2, 1) := by decide +kernel
theorem dX6_member_29 : decode cX6_member 29 = .ok (.iconst (-1), 1) := by decide +kernel
theorem dX6_member_30 : decode cX6_member 30 = .ok (.if_icmp .ne 14, 3) := by decide +kernel
theorem dX6_member_33 : decode cX6_member 33 = .ok (.aload_n 0, 1) := by decide +kernel
theorem dX6_member_34 : decode cX6_member 34 = .ok (.aload_n 0, 1) := by decide +kernel
theorem dX6_member_35 : decode cX6_member 35 = .ok (.getfield 15, 3) := by decide +kernel
theorem dX6_member_38 : decode cX6_member 38 = .ok (.iload_n 1, 1) := by decide +kernel
theorem dX6_member_39 : decode cX6_member 39 = .ok (.laload, 1) := by decide +kernel
theorem dX6_member_40 : decode cX6_member 40 = .ok (.invokevirtual 90, 3) := by decide +kernel
theorem dX6_member_43 : decode cX6_member 43 = .ok (.ireturn, 1) := by decide +kernel
theorem dX6_member_44 : decode cX6_member 44 = .ok (.iconst 0, 1) := by decide +kernel
theorem dX6_member_45 : decode cX6_member 45 = .ok (.istore_n 3, 1) := by decide +kernel
theorem dX6_member_46 : decode cX6_member 46 = .ok (.iconst 0, 1) := by decide +kernel
theorem dX6_member_47 : decode cX6_member 47 = .ok (.istore 4, 2) := by decide +kernel
theorem dX6_member_49 : decode cX6_member 49 = .ok (.iload 4, 2) := by decide +kernel
theorem dX6_member_51 : decode cX6_member 51 = .ok (.iconst 1, 1) := by decide +kernel
theorem dX6_member_52 : decode cX6_member 52 = .ok (.aload_n 0, 1) := by decide +kernel
theorem dX6_member_53 : decode cX6_member 53 = .ok (.getfield 9, 3) := by decide +kernel
theorem dX6_member_56 : decode cX6_member 56 = .ok (.ishl, 1) := by decide +kernel
theorem dX6_member_57 : decode cX6_member 57 = .ok (.if_icmp .ge 33, 3) := by decide +kernel
theorem dX6_member_60 : decode cX6_member 60 = .ok (.aload_n 0, 1) := by decide +kernel
theorem dX6_member_61 : decode cX6_member 61 = .ok (.iload_n 1, 1) := by decide +kernel
theorem dX6_member_62 : decode cX6_member 62 = .ok (.iload 4, 2) := by decide +kernel
theorem dX6_member_64 : decode cX6_member 64 = .ok (.invokevirtual 103, 3) := by decide +kernel
theorem dX6_member_67 : decode cX6_member 67 = .ok (.ifCond .ne 6, 3) := by decide +kernel
theorem dX6_member_70 : decode cX6_member 70 = .ok (.goto 14, 3) := by decide +kernel
theorem dX6_member_73 : decode cX6_member 73 = .ok (.iload_n 3, 1) := by decide +kernel
theorem dX6_member_74 : decode cX6_member 74 = .ok (.iload_n 2, 1) := by decide +kernel
theorem dX6_member_75 : decode cX6_member 75 = .ok (.if_icmp .ne 6, 3) := by decide +kernel
theorem dX6_member_78 : decode cX6_member 78 = .ok (.iload 4, 2) := by decide +kernel
theorem dX6_member_80 : decode cX6_member 80 = .ok (.ireturn, 1) := by decide +kernel
theorem dX6_member_81 : decode cX6_member 81 = .ok (.iinc 3 1, 3) := by decide +kernel
theorem dX6_member_84 : decode cX6_member 84 = .ok (.iinc 4 1, 3) := by decide +kernel
theorem dX6_member_87 : decode cX6_member 87 = .ok (.goto (-38), 3) := by decide +kernel
theorem dX6_member_90 : decode cX6_member 90 = .ok (.bipush (-12), 2) := by decide +kernel
theorem dX6_member_92 : decode cX6_member 92 = .ok (.ireturn, 1) := by decide +kernel
set_option maxRecDepth 20000 in
theorem ggX6_areSizes_X6_isMember : GoodIn wsX6_areSizes wsX6_isMember := goodIn_r _ [6, 7, 11, 12, 13, 14, 15, 16, 17, 18, 19, 20, 21, 22, 23, 24, 25, 26, 27, 28, 29, 30, 31, 32, 33, 34, 35] (by decide +kernel) (by decide +kernel)
set_option maxRecDepth 20000 in
theorem gX6_areSizes_X6_isMember : GoodIn wsX6_areSizes (wsV RX6 103 RX6 yX6_isMember wsX6_isMember) := goodIn_app (goodIn_of _ (by decide +kernel)) ggX6_areSizes_X6_isMember
set_option maxRecDepth 20000 in
theorem ggX6_areSizes_X6_ones : GoodIn wsX6_areSizes wsX6_ones := goodIn_r _ [10] (by decide +kernel) (by decide +kernel)
set_option maxRecDepth 20000 in
theorem gX6_areSizes_X6_ones : GoodIn wsX6_areSizes (va_wsS RX6 107 yX6_ones wsX6_ones) := goodIn_app (goodIn_of _ (by decide +kernel)) ggX6_areSizes_X6_ones
theorem dX6_areSizes_0 : decode cX6_areSizes 0 = .ok (.iconst (-1), 1) := by decide +kernel
theorem dX6_areSizes_1 : decode cX6_areSizes 1 = .ok (.istore_n 3, 1) := by decide +kernel
theorem dX6_areSizes_2 : decode cX6_areSizes 2 = .ok (.iconst 0, 1) := by decide +kernel
theorem dX6_areSizes_3 : decode cX6_areSizes 3 = .ok (.istore 4, 2) := by decide +kernel
theorem dX6_areSizes_5 : decode cX6_areSizes 5 = .ok (.iload 4, 2) := by decide +kernel
theorem dX6_areSizes_7 : decode cX6_areSizes 7 = .ok (.iconst 1, 1) := by decide +kernel
theorem dX6_areSizes_8 : decode cX6_areSizes 8 = .ok (.aload_n 0, 1) := by decide +kernel
theorem dX6_areSizes_9 : decode cX6_areSizes 9 = .ok (.getfield 9, 3) := by decide +kernel
theorem dX6_areSizes_12 : decode cX6_areSizes 12 = .ok (.ishl, 1) := by decide +kernel
theorem dX6_areSizes_13 : decode cX6_areSizes 13 = .ok (.if_icmp .ge 59, 3) := by decide +kernel
theorem dX6_areSizes_16 : decode cX6_areSizes 16 = .ok (.aload_n 0, 1) := by decide +kernel
theorem dX6_areSizes_17 : decode cX6_areSizes 17 = .ok (.iload_n 1, 1) := by decide +kernel
theorem dX6_areSizes_18 : decode cX6_areSizes 18 = .ok (.iload 4, 2) := by decide +kernel
theorem dX6_areSizes_20 : decode cX6_areSizes 20 = .ok (.invokevirtual 103, 3) := by decide +kernel
theorem dX6_areSizes_23 : decode cX6_areSizes 23 = .ok (.ifCond .ne 6, 3) := by decide +kernel
theorem dX6_areSizes_26 : decode cX6_areSizes 26 = .ok (.goto 40, 3) := by decide +kernel
theorem dX6_areSizes_29 : decode cX6_areSizes 29 = .ok (.iload_n 2, 1) := by decide +kernel
theorem dX6_areSizes_30 : decode cX6_areSizes 30 = .ok (.ifCond .eq 13, 3) := by decide +kernel
theorem dX6_areSizes_33 : decode cX6_areSizes 33 = .ok (.iload 4, 2) := by decide +kernel
theorem dX6_areSizes_35 : decode cX6_areSizes 35 = .ok (.invokestatic 107, 3) := by decide +kernel
theorem dX6_areSizes_38 : decode cX6_areSizes 38 = .ok (.iconst 2, 1) := by decide +kernel
theorem dX6_areSizes_39 : decode cX6_areSizes 39 = .ok (.irem, 1) := by decide +kernel
theorem dX6_areSizes_40 : decode cX6_areSizes 40 = .ok (.goto 8, 3) := by decide +kernel
theorem dX6_areSizes_43 : decode cX6_areSizes 43 = .ok (.iload 4, 2) := by decide +kernel
theorem dX6_areSizes_45 : decode cX6_areSizes 45 = .ok (.invokestatic 107, 3) := by decide +kernel
theorem dX6_areSizes_48 : decode cX6_areSizes 48 = .ok (.istore 5, 2) := by decide +kernel
theorem dX6_areSizes_50 : decode cX6_areSizes 50 = .ok (.iload_n 3, 1) := by decide +kernel
theorem dX6_areSizes_51 : decode cX6_areSizes 51 = .ok (.iconst (-1), 1) := by decide +kernel
theorem dX6_areSizes_52 : decode cX6_areSizes 52 = .ok (.if_icmp .eq 11, 3) := by decide +kernel
theorem dX6_areSizes_55 : decode cX6_areSizes 55 = .ok (.iload 5, 2) := by decide +kernel
theorem dX6_areSizes_57 : decode cX6_areSizes 57 = .ok (.iload_n 3, 1) := by decide +kernel
theorem dX6_areSizes_58 : decode cX6_areSizes 58 = .ok (.if_icmp .eq 5, 3) := by decide +kernel
theorem dX6_areSizes_61 : decode cX6_areSizes 61 = .ok (.iconst 0, 1) := by decide +kernel
theorem dX6_areSizes_62 : decode cX6_areSizes 62 = .ok (.ireturn, 1) := by decide +kernel
theorem dX6_areSizes_63 : decode cX6_areSizes 63 = .ok (.iload 5, 2) := by decide +kernel
theorem dX6_areSizes_65 : decode cX6_areSizes 65 = .ok (.istore_n 3, 1) := by decide +kernel
theorem dX6_areSizes_66 : decode cX6_areSizes 66 = .ok (.iinc 4 1, 3) := by decide +kernel
theorem dX6_areSizes_69 : decode cX6_areSizes 69 = .ok (.goto (-64), 3) := by decide +kernel
theorem dX6_areSizes_72 : decode cX6_areSizes 72 = .ok (.iconst 1, 1) := by decide +kernel
theorem dX6_areSizes_73 : decode cX6_areSizes 73 = .ok (.ireturn, 1) := by decide +kernel
set_option maxRecDepth 20000 in
theorem ggX6_loops_X6_isMember : GoodIn wsX6_loops wsX6_isMember := goodIn_r _ [6, 7, 8, 9, 10, 11, 12, 13, 14, 15, 16, 17, 18, 19, 20, 21, 22, 23, 24, 25, 26, 27, 28, 29, 30, 31, 32] (by decide +kernel) (by decide +kernel)
set_option maxRecDepth 20000 in
theorem gX6_loops_X6_isMember : GoodIn wsX6_loops (wsV RX6 103 RX6 yX6_isMember wsX6_isMember) := goodIn_app (goodIn_of _ (by decide +kernel)) ggX6_loops_X6_isMember
theorem dX6_loops_0 : decode cX6_loops 0 = .ok (.iconst 1, 1) := by decide +kernel
theorem dX6_loops_1 : decode cX6_loops 1 = .ok (.aload_n 0, 1) := by decide +kernel
theorem dX6_loops_2 : decode cX6_loops 2 = .ok (.getfield 9, 3) := by decide +kernel
theorem dX6_loops_5 : decode cX6_loops 5 = .ok (.ishl, 1) := by decide +kernel
theorem dX6_loops_6 : decode cX6_loops 6 = .ok (.iconst 1, 1) := by decide +kernel
theorem dX6_loops_7 : decode cX6_loops 7 = .ok (.isub, 1) := by decide +kernel
theorem dX6_loops_8 : decode cX6_loops 8 = .ok (.istore_n 3, 1) := by decide +kernel
theorem dX6_loops_9 : decode cX6_loops 9 = .ok (.iconst 0, 1) := by decide +kernel
theorem dX6_loops_10 : decode cX6_loops 10 = .ok (.istore 4, 2) := by decide +kernel
theorem dX6_loops_12 : decode cX6_loops 12 = .ok (.iload 4, 2) := by decide +kernel
theorem dX6_loops_14 : decode cX6_loops 14 = .ok (.iconst 1, 1) := by decide +kernel
theorem dX6_loops_15 : decode cX6_loops 15 = .ok (.aload_n 0, 1) := by decide +kernel
theorem dX6_loops_16 : decode cX6_loops 16 = .ok (.getfield 9, 3) := by decide +kernel
theorem dX6_loops_19 : decode cX6_loops 19 = .ok (.ishl, 1) := by decide +kernel
theorem dX6_loops_20 : decode cX6_loops 20 = .ok (.if_icmp .ge 35, 3) := by decide +kernel
theorem dX6_loops_23 : decode cX6_loops 23 = .ok (.aload_n 0, 1) := by decide +kernel
theorem dX6_loops_24 : decode cX6_loops 24 = .ok (.iload_n 1, 1) := by decide +kernel
theorem dX6_loops_25 : decode cX6_loops 25 = .ok (.iload 4, 2) := by decide +kernel
theorem dX6_loops_27 : decode cX6_loops 27 = .ok (.invokevirtual 103, 3) := by decide +kernel
theorem dX6_loops_30 : decode cX6_loops 30 = .ok (.ifCond .eq 19, 3) := by decide +kernel
theorem dX6_loops_33 : decode cX6_loops 33 = .ok (.iload_n 3, 1) := by decide +kernel
theorem dX6_loops_34 : decode cX6_loops 34 = .ok (.iload_n 2, 1) := by decide +kernel
theorem dX6_loops_35 : decode cX6_loops 35 = .ok (.ifCond .eq 8, 3) := by decide +kernel
theorem dX6_loops_38 : decode cX6_loops 38 = .ok (.iload 4, 2) := by decide +kernel
theorem dX6_loops_40 : decode cX6_loops 40 = .ok (.goto 7, 3) := by decide +kernel
theorem dX6_loops_43 : decode cX6_loops 43 = .ok (.iload 4, 2) := by decide +kernel
theorem dX6_loops_45 : decode cX6_loops 45 = .ok (.iconst (-1), 1) := by decide +kernel
theorem dX6_loops_46 : decode cX6_loops 46 = .ok (.ixor, 1) := by decide +kernel
theorem dX6_loops_47 : decode cX6_loops 47 = .ok (.iand, 1) := by decide +kernel
theorem dX6_loops_48 : decode cX6_loops 48 = .ok (.istore_n 3, 1) := by decide +kernel
theorem dX6_loops_49 : decode cX6_loops 49 = .ok (.iinc 4 1, 3) := by decide +kernel
theorem dX6_loops_52 : decode cX6_loops 52 = .ok (.goto (-40), 3) := by decide +kernel
theorem dX6_loops_55 : decode cX6_loops 55 = .ok (.iload_n 3, 1) := by decide +kernel
theorem dX6_loops_56 : decode cX6_loops 56 = .ok (.ireturn, 1) := by decide +kernel
set_option maxRecDepth 20000 in
theorem ggX6_sizeOf_X6_isMember : GoodIn wsX6_sizeOf wsX6_isMember := goodIn_r _ [6, 7, 11, 12, 13, 14, 15, 16, 17, 18, 19, 20, 21, 22, 23, 24, 25, 26, 27, 28, 29, 30, 31, 32, 33, 34, 35] (by decide +kernel) (by decide +kernel)
set_option maxRecDepth 20000 in
theorem gX6_sizeOf_X6_isMember : GoodIn wsX6_sizeOf (wsV RX6 103 RX6 yX6_isMember wsX6_isMember) := goodIn_app (goodIn_of _ (by decide +kernel)) ggX6_sizeOf_X6_isMember
set_option maxRecDepth 20000 in
theorem ggX6_sizeOf_X6_ones : GoodIn wsX6_sizeOf wsX6_ones := goodIn_r _ [10] (by decide +kernel) (by decide +kernel)
set_option maxRecDepth 20000 in
theorem gX6_sizeOf_X6_ones : GoodIn wsX6_sizeOf (va_wsS RX6 107 yX6_ones wsX6_ones) := goodIn_app (goodIn_of _ (by decide +kernel)) ggX6_sizeOf_X6_ones
theorem dX6_sizeOf_0 : decode cX6_sizeOf 0 = .ok (.iconst (-1), 1) := by decide +kernel
theorem dX6_sizeOf_1 : decode cX6_sizeOf 1 = .ok (.istore_n 3, 1) := by decide +kernel
theorem dX6_sizeOf_2 : decode cX6_sizeOf 2 = .ok (.iconst 0, 1) := by decide +kernel
theorem dX6_sizeOf_3 : decode cX6_sizeOf 3 = .ok (.istore 4, 2) := by decide +kernel
theorem dX6_sizeOf_5 : decode cX6_sizeOf 5 = .ok (.iload 4, 2) := by decide +kernel
theorem dX6_sizeOf_7 : decode cX6_sizeOf 7 = .ok (.iconst 1, 1) := by decide +kernel
theorem dX6_sizeOf_8 : decode cX6_sizeOf 8 = .ok (.aload_n 0, 1) := by decide +kernel
theorem dX6_sizeOf_9 : decode cX6_sizeOf 9 = .ok (.getfield 9, 3) := by decide +kernel
theorem dX6_sizeOf_12 : decode cX6_sizeOf 12 = .ok (.ishl, 1) := by decide +kernel
theorem dX6_sizeOf_13 : decode cX6_sizeOf 13 = .ok (.if_icmp .ge 60, 3) := by decide +kernel
theorem dX6_sizeOf_16 : decode cX6_sizeOf 16 = .ok (.aload_n 0, 1) := by decide +kernel
theorem dX6_sizeOf_17 : decode cX6_sizeOf 17 = .ok (.iload_n 1, 1) := by decide +kernel
theorem dX6_sizeOf_18 : decode cX6_sizeOf 18 = .ok (.iload 4, 2) := by decide +kernel
theorem dX6_sizeOf_20 : decode cX6_sizeOf 20 = .ok (.invokevirtual 103, 3) := by decide +kernel
theorem dX6_sizeOf_23 : decode cX6_sizeOf 23 = .ok (.ifCond .ne 6, 3) := by decide +kernel
theorem dX6_sizeOf_26 : decode cX6_sizeOf 26 = .ok (.goto 41, 3) := by decide +kernel
theorem dX6_sizeOf_29 : decode cX6_sizeOf 29 = .ok (.iload 4, 2) := by decide +kernel
theorem dX6_sizeOf_31 : decode cX6_sizeOf 31 = .ok (.invokestatic 107, 3) := by decide +kernel
theorem dX6_sizeOf_34 : decode cX6_sizeOf 34 = .ok (.istore 5, 2) := by decide +kernel
theorem dX6_sizeOf_36 : decode cX6_sizeOf 36 = .ok (.iload_n 3, 1) := by decide +kernel
theorem dX6_sizeOf_37 : decode cX6_sizeOf 37 = .ok (.iconst (-1), 1) := by decide +kernel
theorem dX6_sizeOf_38 : decode cX6_sizeOf 38 = .ok (.if_icmp .eq 22, 3) := by decide +kernel
theorem dX6_sizeOf_41 : decode cX6_sizeOf 41 = .ok (.iload_n 2, 1) := by decide +kernel
theorem dX6_sizeOf_42 : decode cX6_sizeOf 42 = .ok (.ifCond .eq 12, 3) := by decide +kernel
theorem dX6_sizeOf_45 : decode cX6_sizeOf 45 = .ok (.iload 5, 2) := by decide +kernel
theorem dX6_sizeOf_47 : decode cX6_sizeOf 47 = .ok (.iload_n 3, 1) := by decide +kernel
theorem dX6_sizeOf_48 : decode cX6_sizeOf 48 = .ok (.if_icmp .ge 17, 3) := by decide +kernel
theorem dX6_sizeOf_51 : decode cX6_sizeOf 51 = .ok (.goto 9, 3) := by decide +kernel
theorem dX6_sizeOf_54 : decode cX6_sizeOf 54 = .ok (.iload 5, 2) := by decide +kernel
theorem dX6_sizeOf_56 : decode cX6_sizeOf 56 = .ok (.iload_n 3, 1) := by decide +kernel
theorem dX6_sizeOf_57 : decode cX6_sizeOf 57 = .ok (.if_icmp .le 8, 3) := by decide +kernel
theorem dX6_sizeOf_60 : decode cX6_sizeOf 60 = .ok (.iload 5, 2) := by decide +kernel
theorem dX6_sizeOf_62 : decode cX6_sizeOf 62 = .ok (.goto 4, 3) := by decide +kernel
theorem dX6_sizeOf_65 : decode cX6_sizeOf 65 = .ok (.iload_n 3, 1) := by decide +kernel
theorem dX6_sizeOf_66 : decode cX6_sizeOf 66 = .ok (.istore_n 3, 1) := by decide +kernel
theorem dX6_sizeOf_67 : decode cX6_sizeOf 67 = .ok (.iinc 4 1, 3) := by decide +kernel
theorem dX6_sizeOf_70 : decode cX6_sizeOf 70 = .ok (.goto (-65), 3) := by decide +kernel
theorem dX6_sizeOf_73 : decode cX6_sizeOf 73 = .ok (.iload_n 3, 1) := by decide +kernel
theorem dX6_sizeOf_74 : decode cX6_sizeOf 74 = .ok (.ireturn, 1) := by decide +kernel
set_option maxRecDepth 20000 in
theorem ggX6_of_X6_isFamily : GoodIn wsX6_of wsX6_isFamily := goodIn_r _ [7, 8, 9, 10, 6, 11] (by decide +kernel) (by decide +kernel)
set_option maxRecDepth 20000 in
theorem gX6_of_X6_isFamily : GoodIn wsX6_of (va_wsS RX6 96 yX6_isFamily wsX6_isFamily) := goodIn_app (goodIn_of _ (by decide +kernel)) ggX6_of_X6_isFamily
set_option maxRecDepth 20000 in
theorem ggX6_of_X6_isIn : GoodIn wsX6_of wsX6_isIn := goodIn_r _ [11] (by decide +kernel) (by decide +kernel)
set_option maxRecDepth 20000 in
theorem gX6_of_X6_isIn : GoodIn wsX6_of (va_wsS RX6 86 yX6_isIn wsX6_isIn) := goodIn_app (goodIn_of _ (by decide +kernel)) ggX6_of_X6_isIn
set_option maxRecDepth 20000 in
theorem ggX6_of_X6_failing : GoodIn wsX6_of wsX6_failing := goodIn_r _ [15, 16, 17, 18, 19, 6, 20, 3, 21, 22, 23, 24, 40, 41, 42, 43, 44, 45, 46, 47, 48, 49, 50, 51, 52, 53, 54, 55, 56, 57, 58, 59, 60, 61, 62, 63, 64] (by decide +kernel) (by decide +kernel)
set_option maxRecDepth 20000 in
theorem gX6_of_X6_failing : GoodIn wsX6_of (wsV RX6 127 RX6 yX6_failing wsX6_failing) := goodIn_app (goodIn_of _ (by decide +kernel)) ggX6_of_X6_failing
set_option maxRecDepth 20000 in
theorem ggX6_of_X6_areSizes : GoodIn wsX6_of wsX6_areSizes := goodIn_r _ [28, 16, 17, 18, 19, 6, 20, 3, 29, 30, 31, 40, 41, 42, 43, 44, 45, 46, 47, 48, 49, 50, 51, 52, 53, 54, 55, 56, 57, 58, 59, 60, 61, 62, 63, 64] (by decide +kernel) (by decide +kernel)
set_option maxRecDepth 20000 in
theorem gX6_of_X6_areSizes : GoodIn wsX6_of (wsV RX6 131 RX6 yX6_areSizes wsX6_areSizes) := goodIn_app (goodIn_of _ (by decide +kernel)) ggX6_of_X6_areSizes
set_option maxRecDepth 20000 in
theorem ggX6_of_X6_loops : GoodIn wsX6_of wsX6_loops := goodIn_r _ [35, 16, 17, 18, 19, 6, 20, 3, 40, 41, 42, 43, 44, 45, 46, 47, 48, 49, 50, 51, 52, 53, 54, 55, 56, 57, 58, 59, 60, 61, 62, 63, 64] (by decide +kernel) (by decide +kernel)
set_option maxRecDepth 20000 in
theorem gX6_of_X6_loops : GoodIn wsX6_of (wsV RX6 135 RX6 yX6_loops wsX6_loops) := goodIn_app (goodIn_of _ (by decide +kernel)) ggX6_of_X6_loops
set_option maxRecDepth 20000 in
theorem ggX6_of_X6_sizeOf : GoodIn wsX6_of wsX6_sizeOf := goodIn_r _ [39, 16, 17, 18, 19, 6, 20, 3, 29, 30, 31, 40, 41, 42, 43, 44, 45, 46, 47, 48, 49, 50, 51, 52, 53, 54, 55, 56, 57, 58, 59, 60, 61, 62, 63, 64] (by decide +kernel) (by decide +kernel)
set_option maxRecDepth 20000 in
theorem gX6_of_X6_sizeOf : GoodIn wsX6_of (wsV RX6 139 RX6 yX6_sizeOf wsX6_sizeOf) := goodIn_app (goodIn_of _ (by decide +kernel)) ggX6_of_X6_sizeOf
theorem dX6_of_0 : decode cX6_of 0 = .ok (.iload_n 1, 1) := by decide +kernel
theorem dX6_of_1 : decode cX6_of 1 = .ok (.invokestatic 96, 3) := by decide +kernel
theorem dX6_of_4 : decode cX6_of 4 = .ok (.ifCond .eq 15, 3) := by decide +kernel
theorem dX6_of_7 : decode cX6_of 7 = .ok (.iload_n 2, 1) := by decide +kernel
theorem dX6_of_8 : decode cX6_of 8 = .ok (.i2l, 1) := by decide +kernel
theorem dX6_of_9 : decode cX6_of 9 = .ok (.lconst 0, 1) := by decide +kernel
theorem dX6_of_10 : decode cX6_of 10 = .ok (.ldc2_w 125, 3) := by decide +kernel
theorem dX6_of_13 : decode cX6_of 13 = .ok (.invokestatic 86, 3) := by decide +kernel
theorem dX6_of_16 : decode cX6_of 16 = .ok (.ifCond .ne 6, 3) := by decide +kernel
theorem dX6_of_19 : decode cX6_of 19 = .ok (.bipush (-2), 2) := by decide +kernel
theorem dX6_of_21 : decode cX6_of 21 = .ok (.ireturn, 1) := by decide +kernel
theorem dX6_of_22 : decode cX6_of 22 = .ok (.aload_n 0, 1) := by decide +kernel
theorem dX6_of_23 : decode cX6_of 23 = .ok (.getfield 19, 3) := by decide +kernel
theorem dX6_of_26 : decode cX6_of 26 = .ok (.iload_n 1, 1) := by decide +kernel
theorem dX6_of_27 : decode cX6_of 27 = .ok (.iaload, 1) := by decide +kernel
theorem dX6_of_28 : decode cX6_of 28 = .ok (.iconst (-1), 1) := by decide +kernel
theorem dX6_of_29 : decode cX6_of 29 = .ok (.if_icmp .ne 6, 3) := by decide +kernel
theorem dX6_of_32 : decode cX6_of 32 = .ok (.bipush (-11), 2) := by decide +kernel
theorem dX6_of_34 : decode cX6_of 34 = .ok (.ireturn, 1) := by decide +kernel
theorem dX6_of_35 : decode cX6_of 35 = .ok (.iload_n 2, 1) := by decide +kernel
theorem dX6_of_36 : decode cX6_of 36 = .ok (.tableswitch 118 0 5 #[40, 47, 74, 89, 104, 111], 40) := by decide +kernel
theorem dX6_of_76 : decode cX6_of 76 = .ok (.aload_n 0, 1) := by decide +kernel
theorem dX6_of_77 : decode cX6_of 77 = .ok (.getfield 19, 3) := by decide +kernel
theorem dX6_of_80 : decode cX6_of 80 = .ok (.iload_n 1, 1) := by decide +kernel
theorem dX6_of_81 : decode cX6_of 81 = .ok (.iaload, 1) := by decide +kernel
theorem dX6_of_82 : decode cX6_of 82 = .ok (.ireturn, 1) := by decide +kernel
theorem dX6_of_83 : decode cX6_of 83 = .ok (.aload_n 0, 1) := by decide +kernel
theorem dX6_of_84 : decode cX6_of 84 = .ok (.getfield 15, 3) := by decide +kernel
theorem dX6_of_87 : decode cX6_of 87 = .ok (.iload_n 1, 1) := by decide +kernel
theorem dX6_of_88 : decode cX6_of 88 = .ok (.laload, 1) := by decide +kernel
theorem dX6_of_89 : decode cX6_of 89 = .ok (.lconst 0, 1) := by decide +kernel
theorem dX6_of_90 : decode cX6_of 90 = .ok (.lcmp, 1) := by decide +kernel
theorem dX6_of_91 : decode cX6_of 91 = .ok (.ifCond .eq 17, 3) := by decide +kernel
theorem dX6_of_94 : decode cX6_of 94 = .ok (.aload_n 0, 1) := by decide +kernel
theorem dX6_of_95 : decode cX6_of 95 = .ok (.iload_n 1, 1) := by decide +kernel
theorem dX6_of_96 : decode cX6_of 96 = .ok (.iconst 0, 1) := by decide +kernel
theorem dX6_of_97 : decode cX6_of 97 = .ok (.invokevirtual 127, 3) := by decide +kernel
theorem dX6_of_100 : decode cX6_of 100 = .ok (.iconst (-1), 1) := by decide +kernel
theorem dX6_of_101 : decode cX6_of 101 = .ok (.if_icmp .ne 7, 3) := by decide +kernel
theorem dX6_of_104 : decode cX6_of 104 = .ok (.iconst 1, 1) := by decide +kernel
theorem dX6_of_105 : decode cX6_of 105 = .ok (.goto 4, 3) := by decide +kernel
theorem dX6_of_108 : decode cX6_of 108 = .ok (.iconst 0, 1) := by decide +kernel
theorem dX6_of_109 : decode cX6_of 109 = .ok (.ireturn, 1) := by decide +kernel
theorem dX6_of_110 : decode cX6_of 110 = .ok (.aload_n 0, 1) := by decide +kernel
theorem dX6_of_111 : decode cX6_of 111 = .ok (.iload_n 1, 1) := by decide +kernel
theorem dX6_of_112 : decode cX6_of 112 = .ok (.iconst 1, 1) := by decide +kernel
theorem dX6_of_113 : decode cX6_of 113 = .ok (.invokevirtual 131, 3) := by decide +kernel
theorem dX6_of_116 : decode cX6_of 116 = .ok (.ifCond .eq 7, 3) := by decide +kernel
theorem dX6_of_119 : decode cX6_of 119 = .ok (.iconst 1, 1) := by decide +kernel
theorem dX6_of_120 : decode cX6_of 120 = .ok (.goto 4, 3) := by decide +kernel
theorem dX6_of_123 : decode cX6_of 123 = .ok (.iconst 0, 1) := by decide +kernel
theorem dX6_of_124 : decode cX6_of 124 = .ok (.ireturn, 1) := by decide +kernel
theorem dX6_of_125 : decode cX6_of 125 = .ok (.aload_n 0, 1) := by decide +kernel
theorem dX6_of_126 : decode cX6_of 126 = .ok (.iload_n 1, 1) := by decide +kernel
theorem dX6_of_127 : decode cX6_of 127 = .ok (.iconst 0, 1) := by decide +kernel
theorem dX6_of_128 : decode cX6_of 128 = .ok (.invokevirtual 131, 3) := by decide +kernel
theorem dX6_of_131 : decode cX6_of 131 = .ok (.ifCond .eq 7, 3) := by decide +kernel
theorem dX6_of_134 : decode cX6_of 134 = .ok (.iconst 1, 1) := by decide +kernel
theorem dX6_of_135 : decode cX6_of 135 = .ok (.goto 4, 3) := by decide +kernel
theorem dX6_of_138 : decode cX6_of 138 = .ok (.iconst 0, 1) := by decide +kernel
theorem dX6_of_139 : decode cX6_of 139 = .ok (.ireturn, 1) := by decide +kernel
theorem dX6_of_140 : decode cX6_of 140 = .ok (.aload_n 0, 1) := by decide +kernel
theorem dX6_of_141 : decode cX6_of 141 = .ok (.iload_n 1, 1) := by decide +kernel
theorem dX6_of_142 : decode cX6_of 142 = .ok (.iconst 0, 1) := by decide +kernel
theorem dX6_of_143 : decode cX6_of 143 = .ok (.invokevirtual 135, 3) := by decide +kernel
theorem dX6_of_146 : decode cX6_of 146 = .ok (.ireturn, 1) := by decide +kernel
theorem dX6_of_147 : decode cX6_of 147 = .ok (.aload_n 0, 1) := by decide +kernel
theorem dX6_of_148 : decode cX6_of 148 = .ok (.iload_n 1, 1) := by decide +kernel
theorem dX6_of_149 : decode cX6_of 149 = .ok (.iconst 1, 1) := by decide +kernel
theorem dX6_of_150 : decode cX6_of 150 = .ok (.invokevirtual 135, 3) := by decide +kernel
theorem dX6_of_153 : decode cX6_of 153 = .ok (.ireturn, 1) := by decide +kernel
theorem dX6_of_154 : decode cX6_of 154 = .ok (.aload_n 0, 1) := by decide +kernel
theorem dX6_of_155 : decode cX6_of 155 = .ok (.iload_n 1, 1) := by decide +kernel
theorem dX6_of_156 : decode cX6_of 156 = .ok (.iload_n 2, 1) := by decide +kernel
theorem dX6_of_157 : decode cX6_of 157 = .ok (.bipush 6, 2) := by decide +kernel
theorem dX6_of_159 : decode cX6_of 159 = .ok (.if_icmp .ne 7, 3) := by decide +kernel
theorem dX6_of_162 : decode cX6_of 162 = .ok (.iconst 1, 1) := by decide +kernel
theorem dX6_of_163 : decode cX6_of 163 = .ok (.goto 4, 3) := by decide +kernel
theorem dX6_of_166 : decode cX6_of 166 = .ok (.iconst 0, 1) := by decide +kernel
theorem dX6_of_167 : decode cX6_of 167 = .ok (.invokevirtual 139, 3) := by decide +kernel
theorem dX6_of_170 : decode cX6_of 170 = .ok (.ireturn, 1) := by decide +kernel
set_option maxRecDepth 20000 in
theorem ggX6_taken_X6_isFamily : GoodIn wsX6_taken wsX6_isFamily := goodIn_r _ [7, 1, 8, 9, 6, 10] (by decide +kernel) (by decide +kernel)
set_option maxRecDepth 20000 in
theorem gX6_taken_X6_isFamily : GoodIn wsX6_taken (va_wsS RX6 96 yX6_isFamily wsX6_isFamily) := goodIn_app (goodIn_of _ (by decide +kernel)) ggX6_taken_X6_isFamily
set_option maxRecDepth 20000 in
theorem ggX6_taken_X6_isIn : GoodIn wsX6_taken wsX6_isIn := goodIn_r _ [10] (by decide +kernel) (by decide +kernel)
set_option maxRecDepth 20000 in
theorem gX6_taken_X6_isIn : GoodIn wsX6_taken (va_wsS RX6 86 yX6_isIn wsX6_isIn) := goodIn_app (goodIn_of _ (by decide +kernel)) ggX6_taken_X6_isIn
set_option maxRecDepth 20000 in
theorem ggX6_taken_X6_size : GoodIn wsX6_taken wsX6_size := goodIn_r _ [14] (by decide +kernel) (by decide +kernel)
set_option maxRecDepth 20000 in
theorem gX6_taken_X6_size : GoodIn wsX6_taken (wsV RX6 90 RX6 yX6_size wsX6_size) := goodIn_app (goodIn_of _ (by decide +kernel)) ggX6_taken_X6_size
theorem dX6_taken_0 : decode cX6_taken 0 = .ok (.iload_n 1, 1) := by decide +kernel
theorem dX6_taken_1 : decode cX6_taken 1 = .ok (.invokestatic 96, 3) := by decide +kernel
theorem dX6_taken_4 : decode cX6_taken 4 = .ok (.ifCond .eq 15, 3) := by decide +kernel
theorem dX6_taken_7 : decode cX6_taken 7 = .ok (.iload_n 2, 1) := by decide +kernel
theorem dX6_taken_8 : decode cX6_taken 8 = .ok (.i2l, 1) := by decide +kernel
theorem dX6_taken_9 : decode cX6_taken 9 = .ok (.lconst 0, 1) := by decide +kernel
theorem dX6_taken_10 : decode cX6_taken 10 = .ok (.ldc2_w 84, 3) := by decide +kernel
theorem dX6_taken_13 : decode cX6_taken 13 = .ok (.invokestatic 86, 3) := by decide +kernel
theorem dX6_taken_16 : decode cX6_taken 16 = .ok (.ifCond .ne 6, 3) := by decide +kernel
theorem dX6_taken_19 : decode cX6_taken 19 = .ok (.bipush (-2), 2) := by decide +kernel
theorem dX6_taken_21 : decode cX6_taken 21 = .ok (.ireturn, 1) := by decide +kernel
theorem dX6_taken_22 : decode cX6_taken 22 = .ok (.aload_n 0, 1) := by decide +kernel
theorem dX6_taken_23 : decode cX6_taken 23 = .ok (.getfield 19, 3) := by decide +kernel
theorem dX6_taken_26 : decode cX6_taken 26 = .ok (.iload_n 1, 1) := by decide +kernel
theorem dX6_taken_27 : decode cX6_taken 27 = .ok (.iaload, 1) := by decide +kernel
theorem dX6_taken_28 : decode cX6_taken 28 = .ok (.iconst (-1), 1) := by decide +kernel
theorem dX6_taken_29 : decode cX6_taken 29 = .ok (.if_icmp .ne 6, 3) := by decide +kernel
theorem dX6_taken_32 : decode cX6_taken 32 = .ok (.bipush (-11), 2) := by decide +kernel
theorem dX6_taken_34 : decode cX6_taken 34 = .ok (.ireturn, 1) := by decide +kernel
theorem dX6_taken_35 : decode cX6_taken 35 = .ok (.iload_n 2, 1) := by decide +kernel
theorem dX6_taken_36 : decode cX6_taken 36 = .ok (.ifCond .eq 28, 3) := by decide +kernel
theorem dX6_taken_39 : decode cX6_taken 39 = .ok (.aload_n 0, 1) := by decide +kernel
theorem dX6_taken_40 : decode cX6_taken 40 = .ok (.getfield 19, 3) := by decide +kernel
theorem dX6_taken_43 : decode cX6_taken 43 = .ok (.iload_n 1, 1) := by decide +kernel
theorem dX6_taken_44 : decode cX6_taken 44 = .ok (.iaload, 1) := by decide +kernel
theorem dX6_taken_45 : decode cX6_taken 45 = .ok (.iload_n 2, 1) := by decide +kernel
theorem dX6_taken_46 : decode cX6_taken 46 = .ok (.if_icmp .eq 18, 3) := by decide +kernel
theorem dX6_taken_49 : decode cX6_taken 49 = .ok (.iload_n 2, 1) := by decide +kernel
theorem dX6_taken_50 : decode cX6_taken 50 = .ok (.iconst 3, 1) := by decide +kernel
theorem dX6_taken_51 : decode cX6_taken 51 = .ok (.if_icmp .ne 17, 3) := by decide +kernel
theorem dX6_taken_54 : decode cX6_taken 54 = .ok (.aload_n 0, 1) := by decide +kernel
theorem dX6_taken_55 : decode cX6_taken 55 = .ok (.getfield 19, 3) := by decide +kernel
theorem dX6_taken_58 : decode cX6_taken 58 = .ok (.iload_n 1, 1) := by decide +kernel
theorem dX6_taken_59 : decode cX6_taken 59 = .ok (.iaload, 1) := by decide +kernel
theorem dX6_taken_60 : decode cX6_taken 60 = .ok (.iconst 5, 1) := by decide +kernel
theorem dX6_taken_61 : decode cX6_taken 61 = .ok (.if_icmp .ne 7, 3) := by decide +kernel
theorem dX6_taken_64 : decode cX6_taken 64 = .ok (.iconst 1, 1) := by decide +kernel
theorem dX6_taken_65 : decode cX6_taken 65 = .ok (.goto 4, 3) := by decide +kernel
theorem dX6_taken_68 : decode cX6_taken 68 = .ok (.iconst 0, 1) := by decide +kernel
theorem dX6_taken_69 : decode cX6_taken 69 = .ok (.istore_n 3, 1) := by decide +kernel
theorem dX6_taken_70 : decode cX6_taken 70 = .ok (.iload_n 3, 1) := by decide +kernel
theorem dX6_taken_71 : decode cX6_taken 71 = .ok (.ifCond .eq 16, 3) := by decide +kernel
theorem dX6_taken_74 : decode cX6_taken 74 = .ok (.aload_n 0, 1) := by decide +kernel
theorem dX6_taken_75 : decode cX6_taken 75 = .ok (.aload_n 0, 1) := by decide +kernel
theorem dX6_taken_76 : decode cX6_taken 76 = .ok (.getfield 15, 3) := by decide +kernel
theorem dX6_taken_79 : decode cX6_taken 79 = .ok (.iload_n 1, 1) := by decide +kernel
theorem dX6_taken_80 : decode cX6_taken 80 = .ok (.laload, 1) := by decide +kernel
theorem dX6_taken_81 : decode cX6_taken 81 = .ok (.invokevirtual 90, 3) := by decide +kernel
theorem dX6_taken_84 : decode cX6_taken 84 = .ok (.goto 5, 3) := by decide +kernel
theorem dX6_taken_87 : decode cX6_taken 87 = .ok (.bipush (-13), 2) := by decide +kernel
theorem dX6_taken_89 : decode cX6_taken 89 = .ok (.ireturn, 1) := by decide +kernel
set_option maxRecDepth 20000 in
theorem ggX6_partnerOf_X6_isMember : GoodIn wsX6_partnerOf wsX6_isMember := goodIn_r _ [6, 7, 8, 9, 10, 11, 12, 13, 14, 15, 16, 17, 18, 19, 20, 21, 22, 23, 24, 25, 26, 27, 28, 29, 30, 31, 32] (by decide +kernel) (by decide +kernel)
set_option maxRecDepth 20000 in
theorem gX6_partnerOf_X6_isMember : GoodIn wsX6_partnerOf (wsV RX6 103 RX6 yX6_isMember wsX6_isMember) := goodIn_app (goodIn_of _ (by decide +kernel)) ggX6_partnerOf_X6_isMember
theorem dX6_partnerOf_0 : decode cX6_partnerOf 0 = .ok (.iconst 0, 1) := by decide +kernel
theorem dX6_partnerOf_1 : decode cX6_partnerOf 1 = .ok (.istore 5, 2) := by decide +kernel
theorem dX6_partnerOf_3 : decode cX6_partnerOf 3 = .ok (.iload 5, 2) := by decide +kernel
theorem dX6_partnerOf_5 : decode cX6_partnerOf 5 = .ok (.aload_n 0, 1) := by decide +kernel
theorem dX6_partnerOf_6 : decode cX6_partnerOf 6 = .ok (.getfield 9, 3) := by decide +kernel
theorem dX6_partnerOf_9 : decode cX6_partnerOf 9 = .ok (.if_icmp .ge 43, 3) := by decide +kernel
theorem dX6_partnerOf_12 : decode cX6_partnerOf 12 = .ok (.iload_n 2, 1) := by decide +kernel
theorem dX6_partnerOf_13 : decode cX6_partnerOf 13 = .ok (.iload_n 3, 1) := by decide +kernel
theorem dX6_partnerOf_14 : decode cX6_partnerOf 14 = .ok (.ixor, 1) := by decide +kernel
theorem dX6_partnerOf_15 : decode cX6_partnerOf 15 = .ok (.iload 5, 2) := by decide +kernel
theorem dX6_partnerOf_17 : decode cX6_partnerOf 17 = .ok (.ishr, 1) := by decide +kernel
theorem dX6_partnerOf_18 : decode cX6_partnerOf 18 = .ok (.iconst 1, 1) := by decide +kernel
theorem dX6_partnerOf_19 : decode cX6_partnerOf 19 = .ok (.iand, 1) := by decide +kernel
theorem dX6_partnerOf_20 : decode cX6_partnerOf 20 = .ok (.iconst 1, 1) := by decide +kernel
theorem dX6_partnerOf_21 : decode cX6_partnerOf 21 = .ok (.if_icmp .ne 25, 3) := by decide +kernel
theorem dX6_partnerOf_24 : decode cX6_partnerOf 24 = .ok (.aload_n 0, 1) := by decide +kernel
theorem dX6_partnerOf_25 : decode cX6_partnerOf 25 = .ok (.iload_n 1, 1) := by decide +kernel
theorem dX6_partnerOf_26 : decode cX6_partnerOf 26 = .ok (.iload_n 2, 1) := by decide +kernel
theorem dX6_partnerOf_27 : decode cX6_partnerOf 27 = .ok (.iconst 1, 1) := by decide +kernel
theorem dX6_partnerOf_28 : decode cX6_partnerOf 28 = .ok (.iload 4, 2) := by decide +kernel
theorem dX6_partnerOf_30 : decode cX6_partnerOf 30 = .ok (.ishl, 1) := by decide +kernel
theorem dX6_partnerOf_31 : decode cX6_partnerOf 31 = .ok (.iconst 1, 1) := by decide +kernel
theorem dX6_partnerOf_32 : decode cX6_partnerOf 32 = .ok (.iload 5, 2) := by decide +kernel
theorem dX6_partnerOf_34 : decode cX6_partnerOf 34 = .ok (.ishl, 1) := by decide +kernel
theorem dX6_partnerOf_35 : decode cX6_partnerOf 35 = .ok (.ior, 1) := by decide +kernel
theorem dX6_partnerOf_36 : decode cX6_partnerOf 36 = .ok (.ixor, 1) := by decide +kernel
theorem dX6_partnerOf_37 : decode cX6_partnerOf 37 = .ok (.invokevirtual 103, 3) := by decide +kernel
theorem dX6_partnerOf_40 : decode cX6_partnerOf 40 = .ok (.ifCond .eq 6, 3) := by decide +kernel
theorem dX6_partnerOf_43 : decode cX6_partnerOf 43 = .ok (.iload 5, 2) := by decide +kernel
theorem dX6_partnerOf_45 : decode cX6_partnerOf 45 = .ok (.ireturn, 1) := by decide +kernel
theorem dX6_partnerOf_46 : decode cX6_partnerOf 46 = .ok (.iinc 5 1, 3) := by decide +kernel
theorem dX6_partnerOf_49 : decode cX6_partnerOf 49 = .ok (.goto (-46), 3) := by decide +kernel
theorem dX6_partnerOf_52 : decode cX6_partnerOf 52 = .ok (.iconst (-1), 1) := by decide +kernel
theorem dX6_partnerOf_53 : decode cX6_partnerOf 53 = .ok (.ireturn, 1) := by decide +kernel
set_option maxRecDepth 20000 in
theorem ggX6_failing_X6_isMember : GoodIn wsX6_failing wsX6_isMember := goodIn_r _ [6, 7, 12, 13, 14, 15, 16, 17, 18, 19, 20, 21, 22, 23, 24, 25, 26, 27, 28, 29, 30, 31, 32, 33, 34, 35, 36] (by decide +kernel) (by decide +kernel)
set_option maxRecDepth 20000 in
theorem gX6_failing_X6_isMember : GoodIn wsX6_failing (wsV RX6 103 RX6 yX6_isMember wsX6_isMember) := goodIn_app (goodIn_of _ (by decide +kernel)) ggX6_failing_X6_isMember
set_option maxRecDepth 20000 in
theorem ggX6_failing_X6_partnerOf : GoodIn wsX6_failing wsX6_partnerOf := goodIn_r _ [11, 1, 2, 3, 4, 5, 6, 7, 12, 13, 14, 15, 16, 17, 18, 19, 20, 21, 22, 23, 24, 25, 26, 27, 28, 29, 30, 31, 32, 33, 34, 35, 36] (by decide +kernel) (by decide +kernel)
set_option maxRecDepth 20000 in
theorem gX6_failing_X6_partnerOf : GoodIn wsX6_failing (wsV RX6 142 RX6 yX6_partnerOf wsX6_partnerOf) := goodIn_app (goodIn_of _ (by decide +kernel)) ggX6_failing_X6_partnerOf
theorem dX6_failing_0 : decode cX6_failing 0 = .ok (.iconst 0, 1) := by decide +kernel
theorem dX6_failing_1 : decode cX6_failing 1 = .ok (.istore_n 3, 1) := by decide +kernel
theorem dX6_failing_2 : decode cX6_failing 2 = .ok (.iload_n 3, 1) := by decide +kernel
theorem dX6_failing_3 : decode cX6_failing 3 = .ok (.iconst 1, 1) := by decide +kernel
theorem dX6_failing_4 : decode cX6_failing 4 = .ok (.aload_n 0, 1) := by decide +kernel
theorem dX6_failing_5 : decode cX6_failing 5 = .ok (.getfield 9, 3) := by decide +kernel
theorem dX6_failing_8 : decode cX6_failing 8 = .ok (.ishl, 1) := by decide +kernel
theorem dX6_failing_9 : decode cX6_failing 9 = .ok (.if_icmp .ge 114, 3) := by decide +kernel
theorem dX6_failing_12 : decode cX6_failing 12 = .ok (.iconst 0, 1) := by decide +kernel
theorem dX6_failing_13 : decode cX6_failing 13 = .ok (.istore 4, 2) := by decide +kernel
theorem dX6_failing_15 : decode cX6_failing 15 = .ok (.iload 4, 2) := by decide +kernel
theorem dX6_failing_17 : decode cX6_failing 17 = .ok (.iconst 1, 1) := by decide +kernel
theorem dX6_failing_18 : decode cX6_failing 18 = .ok (.aload_n 0, 1) := by decide +kernel
theorem dX6_failing_19 : decode cX6_failing 19 = .ok (.getfield 9, 3) := by decide +kernel
theorem dX6_failing_22 : decode cX6_failing 22 = .ok (.ishl, 1) := by decide +kernel
theorem dX6_failing_23 : decode cX6_failing 23 = .ok (.if_icmp .ge 94, 3) := by decide +kernel
theorem dX6_failing_26 : decode cX6_failing 26 = .ok (.aload_n 0, 1) := by decide +kernel
theorem dX6_failing_27 : decode cX6_failing 27 = .ok (.iload_n 1, 1) := by decide +kernel
theorem dX6_failing_28 : decode cX6_failing 28 = .ok (.iload_n 3, 1) := by decide +kernel
theorem dX6_failing_29 : decode cX6_failing 29 = .ok (.invokevirtual 103, 3) := by decide +kernel
theorem dX6_failing_32 : decode cX6_failing 32 = .ok (.ifCond .eq 85, 3) := by decide +kernel
theorem dX6_failing_35 : decode cX6_failing 35 = .ok (.iconst 0, 1) := by decide +kernel
theorem dX6_failing_36 : decode cX6_failing 36 = .ok (.istore 5, 2) := by decide +kernel
theorem dX6_failing_38 : decode cX6_failing 38 = .ok (.iload 5, 2) := by decide +kernel
theorem dX6_failing_40 : decode cX6_failing 40 = .ok (.aload_n 0, 1) := by decide +kernel
theorem dX6_failing_41 : decode cX6_failing 41 = .ok (.getfield 9, 3) := by decide +kernel
theorem dX6_failing_44 : decode cX6_failing 44 = .ok (.if_icmp .ge 67, 3) := by decide +kernel
theorem dX6_failing_47 : decode cX6_failing 47 = .ok (.aload_n 0, 1) := by decide +kernel
theorem dX6_failing_48 : decode cX6_failing 48 = .ok (.iload_n 1, 1) := by decide +kernel
theorem dX6_failing_49 : decode cX6_failing 49 = .ok (.iload 4, 2) := by decide +kernel
theorem dX6_failing_51 : decode cX6_failing 51 = .ok (.invokevirtual 103, 3) := by decide +kernel
theorem dX6_failing_54 : decode cX6_failing 54 = .ok (.ifCond .eq 57, 3) := by decide +kernel
theorem dX6_failing_57 : decode cX6_failing 57 = .ok (.iload_n 3, 1) := by decide +kernel
theorem dX6_failing_58 : decode cX6_failing 58 = .ok (.iload 4, 2) := by decide +kernel
theorem dX6_failing_60 : decode cX6_failing 60 = .ok (.ixor, 1) := by decide +kernel
theorem dX6_failing_61 : decode cX6_failing 61 = .ok (.iload 5, 2) := by decide +kernel
theorem dX6_failing_63 : decode cX6_failing 63 = .ok (.ishr, 1) := by decide +kernel
theorem dX6_failing_64 : decode cX6_failing 64 = .ok (.iconst 1, 1) := by decide +kernel
theorem dX6_failing_65 : decode cX6_failing 65 = .ok (.iand, 1) := by decide +kernel
theorem dX6_failing_66 : decode cX6_failing 66 = .ok (.iconst 1, 1) := by decide +kernel
theorem dX6_failing_67 : decode cX6_failing 67 = .ok (.if_icmp .ne 38, 3) := by decide +kernel
theorem dX6_failing_70 : decode cX6_failing 70 = .ok (.aload_n 0, 1) := by decide +kernel
theorem dX6_failing_71 : decode cX6_failing 71 = .ok (.iload_n 1, 1) := by decide +kernel
theorem dX6_failing_72 : decode cX6_failing 72 = .ok (.iload_n 3, 1) := by decide +kernel
theorem dX6_failing_73 : decode cX6_failing 73 = .ok (.iload 4, 2) := by decide +kernel
theorem dX6_failing_75 : decode cX6_failing 75 = .ok (.iload 5, 2) := by decide +kernel
theorem dX6_failing_77 : decode cX6_failing 77 = .ok (.invokevirtual 142, 3) := by decide +kernel
theorem dX6_failing_80 : decode cX6_failing 80 = .ok (.iconst (-1), 1) := by decide +kernel
theorem dX6_failing_81 : decode cX6_failing 81 = .ok (.if_icmp .ne 24, 3) := by decide +kernel
theorem dX6_failing_84 : decode cX6_failing 84 = .ok (.iload_n 2, 1) := by decide +kernel
theorem dX6_failing_85 : decode cX6_failing 85 = .ok (.ifCond .ne 7, 3) := by decide +kernel
theorem dX6_failing_88 : decode cX6_failing 88 = .ok (.iload_n 3, 1) := by decide +kernel
theorem dX6_failing_89 : decode cX6_failing 89 = .ok (.goto 15, 3) := by decide +kernel
theorem dX6_failing_92 : decode cX6_failing 92 = .ok (.iload_n 2, 1) := by decide +kernel
theorem dX6_failing_93 : decode cX6_failing 93 = .ok (.iconst 1, 1) := by decide +kernel
theorem dX6_failing_94 : decode cX6_failing 94 = .ok (.if_icmp .ne 8, 3) := by decide +kernel
theorem dX6_failing_97 : decode cX6_failing 97 = .ok (.iload 4, 2) := by decide +kernel
theorem dX6_failing_99 : decode cX6_failing 99 = .ok (.goto 5, 3) := by decide +kernel
theorem dX6_failing_102 : decode cX6_failing 102 = .ok (.iload 5, 2) := by decide +kernel
theorem dX6_failing_104 : decode cX6_failing 104 = .ok (.ireturn, 1) := by decide +kernel
theorem dX6_failing_105 : decode cX6_failing 105 = .ok (.iinc 5 1, 3) := by decide +kernel
theorem dX6_failing_108 : decode cX6_failing 108 = .ok (.goto (-70), 3) := by decide +kernel
theorem dX6_failing_111 : decode cX6_failing 111 = .ok (.iinc 4 1, 3) := by decide +kernel
theorem dX6_failing_114 : decode cX6_failing 114 = .ok (.goto (-99), 3) := by decide +kernel
theorem dX6_failing_117 : decode cX6_failing 117 = .ok (.iinc 3 1, 3) := by decide +kernel
theorem dX6_failing_120 : decode cX6_failing 120 = .ok (.goto (-118), 3) := by decide +kernel
theorem dX6_failing_123 : decode cX6_failing 123 = .ok (.iconst (-1), 1) := by decide +kernel
theorem dX6_failing_124 : decode cX6_failing 124 = .ok (.ireturn, 1) := by decide +kernel
set_option maxRecDepth 20000 in
theorem ggX6_fails_X6_isFamily : GoodIn wsX6_fails wsX6_isFamily := goodIn_r _ [6, 7, 8, 9, 5, 10] (by decide +kernel) (by decide +kernel)
set_option maxRecDepth 20000 in
theorem gX6_fails_X6_isFamily : GoodIn wsX6_fails (va_wsS RX6 96 yX6_isFamily wsX6_isFamily) := goodIn_app (goodIn_of _ (by decide +kernel)) ggX6_fails_X6_isFamily
set_option maxRecDepth 20000 in
theorem ggX6_fails_X6_isIn : GoodIn wsX6_fails wsX6_isIn := goodIn_r _ [10] (by decide +kernel) (by decide +kernel)
set_option maxRecDepth 20000 in
theorem gX6_fails_X6_isIn : GoodIn wsX6_fails (va_wsS RX6 86 yX6_isIn wsX6_isIn) := goodIn_app (goodIn_of _ (by decide +kernel)) ggX6_fails_X6_isIn
set_option maxRecDepth 20000 in
theorem ggX6_fails_X6_failing : GoodIn wsX6_fails wsX6_failing := goodIn_r _ [14, 15, 16, 17, 18, 5, 19, 20, 21, 22, 23, 24, 25, 26, 27, 28, 29, 30, 31, 32, 33, 34, 35, 36, 37, 38, 39, 40, 41, 42, 43, 44, 45, 46, 47, 48, 49] (by decide +kernel) (by decide +kernel)
set_option maxRecDepth 20000 in
theorem gX6_fails_X6_failing : GoodIn wsX6_fails (wsV RX6 127 RX6 yX6_failing wsX6_failing) := goodIn_app (goodIn_of _ (by decide +kernel)) ggX6_fails_X6_failing
theorem dX6_fails_0 : decode cX6_fails 0 = .ok (.iload_n 1, 1) := by decide +kernel
theorem dX6_fails_1 : decode cX6_fails 1 = .ok (.invokestatic 96, 3) := by decide +kernel
theorem dX6_fails_4 : decode cX6_fails 4 = .ok (.ifCond .eq 15, 3) := by decide +kernel
theorem dX6_fails_7 : decode cX6_fails 7 = .ok (.iload_n 2, 1) := by decide +kernel
theorem dX6_fails_8 : decode cX6_fails 8 = .ok (.i2l, 1) := by decide +kernel
theorem dX6_fails_9 : decode cX6_fails 9 = .ok (.lconst 0, 1) := by decide +kernel
theorem dX6_fails_10 : decode cX6_fails 10 = .ok (.ldc2_w 146, 3) := by decide +kernel
theorem dX6_fails_13 : decode cX6_fails 13 = .ok (.invokestatic 86, 3) := by decide +kernel
theorem dX6_fails_16 : decode cX6_fails 16 = .ok (.ifCond .ne 6, 3) := by decide +kernel
theorem dX6_fails_19 : decode cX6_fails 19 = .ok (.bipush (-2), 2) := by decide +kernel
theorem dX6_fails_21 : decode cX6_fails 21 = .ok (.ireturn, 1) := by decide +kernel
theorem dX6_fails_22 : decode cX6_fails 22 = .ok (.aload_n 0, 1) := by decide +kernel
theorem dX6_fails_23 : decode cX6_fails 23 = .ok (.getfield 19, 3) := by decide +kernel
theorem dX6_fails_26 : decode cX6_fails 26 = .ok (.iload_n 1, 1) := by decide +kernel
theorem dX6_fails_27 : decode cX6_fails 27 = .ok (.iaload, 1) := by decide +kernel
theorem dX6_fails_28 : decode cX6_fails 28 = .ok (.iconst (-1), 1) := by decide +kernel
theorem dX6_fails_29 : decode cX6_fails 29 = .ok (.if_icmp .ne 8, 3) := by decide +kernel
theorem dX6_fails_32 : decode cX6_fails 32 = .ok (.bipush (-11), 2) := by decide +kernel
theorem dX6_fails_34 : decode cX6_fails 34 = .ok (.goto 9, 3) := by decide +kernel
theorem dX6_fails_37 : decode cX6_fails 37 = .ok (.aload_n 0, 1) := by decide +kernel
theorem dX6_fails_38 : decode cX6_fails 38 = .ok (.iload_n 1, 1) := by decide +kernel
theorem dX6_fails_39 : decode cX6_fails 39 = .ok (.iload_n 2, 1) := by decide +kernel
theorem dX6_fails_40 : decode cX6_fails 40 = .ok (.invokevirtual 127, 3) := by decide +kernel
theorem dX6_fails_43 : decode cX6_fails 43 = .ok (.ireturn, 1) := by decide +kernel
set_option maxRecDepth 20000 in
theorem ggX6_partner_X6_isFamily : GoodIn wsX6_partner wsX6_isFamily := goodIn_r _ [5, 6, 7, 8, 4, 9] (by decide +kernel) (by decide +kernel)
set_option maxRecDepth 20000 in
theorem gX6_partner_X6_isFamily : GoodIn wsX6_partner (va_wsS RX6 96 yX6_isFamily wsX6_isFamily) := goodIn_app (goodIn_of _ (by decide +kernel)) ggX6_partner_X6_isFamily
set_option maxRecDepth 20000 in
theorem ggX6_partner_X6_isSet : GoodIn wsX6_partner wsX6_isSet := goodIn_r _ [13, 14, 7, 8, 4, 9, 28, 29, 30, 31, 32, 33, 34, 35, 36, 37, 38, 39, 40, 41, 42, 43, 44, 45, 46, 47, 48, 49, 50, 51, 52] (by decide +kernel) (by decide +kernel)
set_option maxRecDepth 20000 in
theorem gX6_partner_X6_isSet : GoodIn wsX6_partner (wsV RX6 100 RX6 yX6_isSet wsX6_isSet) := goodIn_app (goodIn_of _ (by decide +kernel)) ggX6_partner_X6_isSet
set_option maxRecDepth 20000 in
theorem ggX6_partner_X6_isPoint : GoodIn wsX6_partner wsX6_isPoint := goodIn_r _ [18, 14, 7, 8, 4, 9, 28, 29, 30, 31, 32, 33, 34, 35, 36, 37, 38, 39, 40, 41, 42, 43, 44, 45, 46, 47, 48, 49, 50, 51, 52] (by decide +kernel) (by decide +kernel)
set_option maxRecDepth 20000 in
theorem gX6_partner_X6_isPoint : GoodIn wsX6_partner (wsV RX6 122 RX6 yX6_isPoint wsX6_isPoint) := goodIn_app (goodIn_of _ (by decide +kernel)) ggX6_partner_X6_isPoint
set_option maxRecDepth 20000 in
theorem ggX6_partner_X6_isMember : GoodIn wsX6_partner wsX6_isMember := goodIn_r _ [22, 23, 28, 29, 30, 31, 32, 33, 34, 35, 36, 37, 38, 39, 40, 41, 42, 43, 44, 45, 46, 47, 48, 49, 50, 51, 52] (by decide +kernel) (by decide +kernel)
set_option maxRecDepth 20000 in
theorem gX6_partner_X6_isMember : GoodIn wsX6_partner (wsV RX6 103 RX6 yX6_isMember wsX6_isMember) := goodIn_app (goodIn_of _ (by decide +kernel)) ggX6_partner_X6_isMember
set_option maxRecDepth 20000 in
theorem ggX6_partner_X6_partnerOf : GoodIn wsX6_partner wsX6_partnerOf := goodIn_r _ [27, 14, 19, 20, 21, 4, 22, 23, 28, 29, 30, 31, 32, 33, 34, 35, 36, 37, 38, 39, 40, 41, 42, 43, 44, 45, 46, 47, 48, 49, 50, 51, 52] (by decide +kernel) (by decide +kernel)
set_option maxRecDepth 20000 in
theorem gX6_partner_X6_partnerOf : GoodIn wsX6_partner (wsV RX6 142 RX6 yX6_partnerOf wsX6_partnerOf) := goodIn_app (goodIn_of _ (by decide +kernel)) ggX6_partner_X6_partnerOf
theorem dX6_partner_0 : decode cX6_partner 0 = .ok (.iload_n 1, 1) := by decide +kernel
theorem dX6_partner_1 : decode cX6_partner 1 = .ok (.invokestatic 96, 3) := by decide +kernel
theorem dX6_partner_4 : decode cX6_partner 4 = .ok (.ifCond .eq 28, 3) := by decide +kernel
theorem dX6_partner_7 : decode cX6_partner 7 = .ok (.aload_n 0, 1) := by decide +kernel
theorem dX6_partner_8 : decode cX6_partner 8 = .ok (.iload_n 2, 1) := by decide +kernel
theorem dX6_partner_9 : decode cX6_partner 9 = .ok (.invokevirtual 100, 3) := by decide +kernel
theorem dX6_partner_12 : decode cX6_partner 12 = .ok (.ifCond .eq 20, 3) := by decide +kernel
theorem dX6_partner_15 : decode cX6_partner 15 = .ok (.aload_n 0, 1) := by decide +kernel
theorem dX6_partner_16 : decode cX6_partner 16 = .ok (.iload_n 3, 1) := by decide +kernel
theorem dX6_partner_17 : decode cX6_partner 17 = .ok (.invokevirtual 100, 3) := by decide +kernel
theorem dX6_partner_20 : decode cX6_partner 20 = .ok (.ifCond .eq 12, 3) := by decide +kernel
theorem dX6_partner_23 : decode cX6_partner 23 = .ok (.aload_n 0, 1) := by decide +kernel
theorem dX6_partner_24 : decode cX6_partner 24 = .ok (.iload 4, 2) := by decide +kernel
theorem dX6_partner_26 : decode cX6_partner 26 = .ok (.invokevirtual 122, 3) := by decide +kernel
theorem dX6_partner_29 : decode cX6_partner 29 = .ok (.ifCond .ne 6, 3) := by decide +kernel
theorem dX6_partner_32 : decode cX6_partner 32 = .ok (.bipush (-2), 2) := by decide +kernel
theorem dX6_partner_34 : decode cX6_partner 34 = .ok (.ireturn, 1) := by decide +kernel
theorem dX6_partner_35 : decode cX6_partner 35 = .ok (.aload_n 0, 1) := by decide +kernel
theorem dX6_partner_36 : decode cX6_partner 36 = .ok (.getfield 19, 3) := by decide +kernel
theorem dX6_partner_39 : decode cX6_partner 39 = .ok (.iload_n 1, 1) := by decide +kernel
theorem dX6_partner_40 : decode cX6_partner 40 = .ok (.iaload, 1) := by decide +kernel
theorem dX6_partner_41 : decode cX6_partner 41 = .ok (.iconst (-1), 1) := by decide +kernel
theorem dX6_partner_42 : decode cX6_partner 42 = .ok (.if_icmp .ne 6, 3) := by decide +kernel
theorem dX6_partner_45 : decode cX6_partner 45 = .ok (.bipush (-11), 2) := by decide +kernel
theorem dX6_partner_47 : decode cX6_partner 47 = .ok (.ireturn, 1) := by decide +kernel
theorem dX6_partner_48 : decode cX6_partner 48 = .ok (.aload_n 0, 1) := by decide +kernel
theorem dX6_partner_49 : decode cX6_partner 49 = .ok (.iload_n 1, 1) := by decide +kernel
theorem dX6_partner_50 : decode cX6_partner 50 = .ok (.iload_n 2, 1) := by decide +kernel
theorem dX6_partner_51 : decode cX6_partner 51 = .ok (.invokevirtual 103, 3) := by decide +kernel
theorem dX6_partner_54 : decode cX6_partner 54 = .ok (.ifCond .eq 23, 3) := by decide +kernel
theorem dX6_partner_57 : decode cX6_partner 57 = .ok (.aload_n 0, 1) := by decide +kernel
theorem dX6_partner_58 : decode cX6_partner 58 = .ok (.iload_n 1, 1) := by decide +kernel
theorem dX6_partner_59 : decode cX6_partner 59 = .ok (.iload_n 3, 1) := by decide +kernel
theorem dX6_partner_60 : decode cX6_partner 60 = .ok (.invokevirtual 103, 3) := by decide +kernel
theorem dX6_partner_63 : decode cX6_partner 63 = .ok (.ifCond .eq 14, 3) := by decide +kernel
theorem dX6_partner_66 : decode cX6_partner 66 = .ok (.iload_n 2, 1) := by decide +kernel
theorem dX6_partner_67 : decode cX6_partner 67 = .ok (.iload_n 3, 1) := by decide +kernel
theorem dX6_partner_68 : decode cX6_partner 68 = .ok (.ixor, 1) := by decide +kernel
theorem dX6_partner_69 : decode cX6_partner 69 = .ok (.iload 4, 2) := by decide +kernel
theorem dX6_partner_71 : decode cX6_partner 71 = .ok (.ishr, 1) := by decide +kernel
theorem dX6_partner_72 : decode cX6_partner 72 = .ok (.iconst 1, 1) := by decide +kernel
theorem dX6_partner_73 : decode cX6_partner 73 = .ok (.iand, 1) := by decide +kernel
theorem dX6_partner_74 : decode cX6_partner 74 = .ok (.ifCond .ne 6, 3) := by decide +kernel
theorem dX6_partner_77 : decode cX6_partner 77 = .ok (.bipush (-3), 2) := by decide +kernel
theorem dX6_partner_79 : decode cX6_partner 79 = .ok (.ireturn, 1) := by decide +kernel
theorem dX6_partner_80 : decode cX6_partner 80 = .ok (.aload_n 0, 1) := by decide +kernel
theorem dX6_partner_81 : decode cX6_partner 81 = .ok (.iload_n 1, 1) := by decide +kernel
theorem dX6_partner_82 : decode cX6_partner 82 = .ok (.iload_n 2, 1) := by decide +kernel
theorem dX6_partner_83 : decode cX6_partner 83 = .ok (.iload_n 3, 1) := by decide +kernel
theorem dX6_partner_84 : decode cX6_partner 84 = .ok (.iload 4, 2) := by decide +kernel
theorem dX6_partner_86 : decode cX6_partner 86 = .ok (.invokevirtual 142, 3) := by decide +kernel
theorem dX6_partner_89 : decode cX6_partner 89 = .ok (.ireturn, 1) := by decide +kernel
set_option maxRecDepth 20000 in
theorem ggX6_near_X6_isFamily : GoodIn wsX6_near wsX6_isFamily := goodIn_r _ [6, 7, 8, 9, 5, 10] (by decide +kernel) (by decide +kernel)
set_option maxRecDepth 20000 in
theorem gX6_near_X6_isFamily : GoodIn wsX6_near (va_wsS RX6 96 yX6_isFamily wsX6_isFamily) := goodIn_app (goodIn_of _ (by decide +kernel)) ggX6_near_X6_isFamily
set_option maxRecDepth 20000 in
theorem ggX6_near_X6_isSet : GoodIn wsX6_near wsX6_isSet := goodIn_r _ [14, 2, 8, 9, 5, 10, 23, 24, 25, 26, 27, 28, 29, 30, 31, 32, 33, 34, 35, 36, 37, 38, 39, 40, 41, 42, 43, 44, 45, 46, 47] (by decide +kernel) (by decide +kernel)
set_option maxRecDepth 20000 in
theorem gX6_near_X6_isSet : GoodIn wsX6_near (wsV RX6 100 RX6 yX6_isSet wsX6_isSet) := goodIn_app (goodIn_of _ (by decide +kernel)) ggX6_near_X6_isSet
set_option maxRecDepth 20000 in
theorem ggX6_near_X6_isMember : GoodIn wsX6_near wsX6_isMember := goodIn_r _ [18, 19, 23, 24, 25, 26, 27, 28, 29, 30, 31, 32, 33, 34, 35, 36, 37, 38, 39, 40, 41, 42, 43, 44, 45, 46, 47] (by decide +kernel) (by decide +kernel)
set_option maxRecDepth 20000 in
theorem gX6_near_X6_isMember : GoodIn wsX6_near (wsV RX6 103 RX6 yX6_isMember wsX6_isMember) := goodIn_app (goodIn_of _ (by decide +kernel)) ggX6_near_X6_isMember
set_option maxRecDepth 20000 in
theorem ggX6_near_X6_ones : GoodIn wsX6_near wsX6_ones := goodIn_r _ [22] (by decide +kernel) (by decide +kernel)
set_option maxRecDepth 20000 in
theorem gX6_near_X6_ones : GoodIn wsX6_near (va_wsS RX6 107 yX6_ones wsX6_ones) := goodIn_app (goodIn_of _ (by decide +kernel)) ggX6_near_X6_ones
theorem dX6_near_0 : decode cX6_near 0 = .ok (.iload_n 1, 1) := by decide +kernel
theorem dX6_near_1 : decode cX6_near 1 = .ok (.invokestatic 96, 3) := by decide +kernel
theorem dX6_near_4 : decode cX6_near 4 = .ok (.ifCond .eq 11, 3) := by decide +kernel
theorem dX6_near_7 : decode cX6_near 7 = .ok (.aload_n 0, 1) := by decide +kernel
theorem dX6_near_8 : decode cX6_near 8 = .ok (.iload_n 2, 1) := by decide +kernel
theorem dX6_near_9 : decode cX6_near 9 = .ok (.invokevirtual 100, 3) := by decide +kernel
theorem dX6_near_12 : decode cX6_near 12 = .ok (.ifCond .ne 6, 3) := by decide +kernel
theorem dX6_near_15 : decode cX6_near 15 = .ok (.bipush (-2), 2) := by decide +kernel
theorem dX6_near_17 : decode cX6_near 17 = .ok (.ireturn, 1) := by decide +kernel
theorem dX6_near_18 : decode cX6_near 18 = .ok (.aload_n 0, 1) := by decide +kernel
theorem dX6_near_19 : decode cX6_near 19 = .ok (.getfield 19, 3) := by decide +kernel
theorem dX6_near_22 : decode cX6_near 22 = .ok (.iload_n 1, 1) := by decide +kernel
theorem dX6_near_23 : decode cX6_near 23 = .ok (.iaload, 1) := by decide +kernel
theorem dX6_near_24 : decode cX6_near 24 = .ok (.iconst (-1), 1) := by decide +kernel
theorem dX6_near_25 : decode cX6_near 25 = .ok (.if_icmp .ne 6, 3) := by decide +kernel
theorem dX6_near_28 : decode cX6_near 28 = .ok (.bipush (-11), 2) := by decide +kernel
theorem dX6_near_30 : decode cX6_near 30 = .ok (.ireturn, 1) := by decide +kernel
theorem dX6_near_31 : decode cX6_near 31 = .ok (.iconst (-1), 1) := by decide +kernel
theorem dX6_near_32 : decode cX6_near 32 = .ok (.istore_n 3, 1) := by decide +kernel
theorem dX6_near_33 : decode cX6_near 33 = .ok (.iconst 0, 1) := by decide +kernel
theorem dX6_near_34 : decode cX6_near 34 = .ok (.istore 4, 2) := by decide +kernel
theorem dX6_near_36 : decode cX6_near 36 = .ok (.iload 4, 2) := by decide +kernel
theorem dX6_near_38 : decode cX6_near 38 = .ok (.iconst 1, 1) := by decide +kernel
theorem dX6_near_39 : decode cX6_near 39 = .ok (.aload_n 0, 1) := by decide +kernel
theorem dX6_near_40 : decode cX6_near 40 = .ok (.getfield 9, 3) := by decide +kernel
theorem dX6_near_43 : decode cX6_near 43 = .ok (.ishl, 1) := by decide +kernel
theorem dX6_near_44 : decode cX6_near 44 = .ok (.if_icmp .ge 43, 3) := by decide +kernel
theorem dX6_near_47 : decode cX6_near 47 = .ok (.aload_n 0, 1) := by decide +kernel
theorem dX6_near_48 : decode cX6_near 48 = .ok (.iload_n 1, 1) := by decide +kernel
theorem dX6_near_49 : decode cX6_near 49 = .ok (.iload 4, 2) := by decide +kernel
theorem dX6_near_51 : decode cX6_near 51 = .ok (.invokevirtual 103, 3) := by decide +kernel
theorem dX6_near_54 : decode cX6_near 54 = .ok (.ifCond .eq 27, 3) := by decide +kernel
theorem dX6_near_57 : decode cX6_near 57 = .ok (.iload_n 3, 1) := by decide +kernel
theorem dX6_near_58 : decode cX6_near 58 = .ok (.iconst (-1), 1) := by decide +kernel
theorem dX6_near_59 : decode cX6_near 59 = .ok (.if_icmp .eq 14, 3) := by decide +kernel
theorem dX6_near_62 : decode cX6_near 62 = .ok (.iload 4, 2) := by decide +kernel
theorem dX6_near_64 : decode cX6_near 64 = .ok (.iload_n 2, 1) := by decide +kernel
theorem dX6_near_65 : decode cX6_near 65 = .ok (.ixor, 1) := by decide +kernel
theorem dX6_near_66 : decode cX6_near 66 = .ok (.invokestatic 107, 3) := by decide +kernel
theorem dX6_near_69 : decode cX6_near 69 = .ok (.iload_n 3, 1) := by decide +kernel
theorem dX6_near_70 : decode cX6_near 70 = .ok (.if_icmp .ge 11, 3) := by decide +kernel
theorem dX6_near_73 : decode cX6_near 73 = .ok (.iload 4, 2) := by decide +kernel
theorem dX6_near_75 : decode cX6_near 75 = .ok (.iload_n 2, 1) := by decide +kernel
theorem dX6_near_76 : decode cX6_near 76 = .ok (.ixor, 1) := by decide +kernel
theorem dX6_near_77 : decode cX6_near 77 = .ok (.invokestatic 107, 3) := by decide +kernel
theorem dX6_near_80 : decode cX6_near 80 = .ok (.istore_n 3, 1) := by decide +kernel
theorem dX6_near_81 : decode cX6_near 81 = .ok (.iinc 4 1, 3) := by decide +kernel
theorem dX6_near_84 : decode cX6_near 84 = .ok (.goto (-48), 3) := by decide +kernel
theorem dX6_near_87 : decode cX6_near 87 = .ok (.iload_n 3, 1) := by decide +kernel
theorem dX6_near_88 : decode cX6_near 88 = .ok (.ireturn, 1) := by decide +kernel
set_option maxRecDepth 20000 in
theorem ggX6_apart_X6_isFamily : GoodIn wsX6_apart wsX6_isFamily := goodIn_r _ [8, 9, 10, 11, 7, 12] (by decide +kernel) (by decide +kernel)
set_option maxRecDepth 20000 in
theorem gX6_apart_X6_isFamily : GoodIn wsX6_apart (va_wsS RX6 96 yX6_isFamily wsX6_isFamily) := goodIn_app (goodIn_of _ (by decide +kernel)) ggX6_apart_X6_isFamily
set_option maxRecDepth 20000 in
theorem ggX6_apart_X6_isSet : GoodIn wsX6_apart wsX6_isSet := goodIn_r _ [16, 4, 10, 11, 7, 12, 25, 26, 27, 28, 29, 30, 31, 32, 33, 34, 35, 36, 37, 38, 39, 40, 41, 42, 43, 44, 45, 46, 47, 48, 49] (by decide +kernel) (by decide +kernel)
set_option maxRecDepth 20000 in
theorem gX6_apart_X6_isSet : GoodIn wsX6_apart (wsV RX6 100 RX6 yX6_isSet wsX6_isSet) := goodIn_app (goodIn_of _ (by decide +kernel)) ggX6_apart_X6_isSet
set_option maxRecDepth 20000 in
theorem ggX6_apart_X6_isMember : GoodIn wsX6_apart wsX6_isMember := goodIn_r _ [20, 21, 25, 26, 27, 28, 29, 30, 31, 32, 33, 34, 35, 36, 37, 38, 39, 40, 41, 42, 43, 44, 45, 46, 47, 48, 49] (by decide +kernel) (by decide +kernel)
set_option maxRecDepth 20000 in
theorem gX6_apart_X6_isMember : GoodIn wsX6_apart (wsV RX6 103 RX6 yX6_isMember wsX6_isMember) := goodIn_app (goodIn_of _ (by decide +kernel)) ggX6_apart_X6_isMember
set_option maxRecDepth 20000 in
theorem ggX6_apart_X6_ones : GoodIn wsX6_apart wsX6_ones := goodIn_r _ [24] (by decide +kernel) (by decide +kernel)
set_option maxRecDepth 20000 in
theorem gX6_apart_X6_ones : GoodIn wsX6_apart (va_wsS RX6 107 yX6_ones wsX6_ones) := goodIn_app (goodIn_of _ (by decide +kernel)) ggX6_apart_X6_ones
theorem dX6_apart_0 : decode cX6_apart 0 = .ok (.iload_n 1, 1) := by decide +kernel
theorem dX6_apart_1 : decode cX6_apart 1 = .ok (.invokestatic 96, 3) := by decide +kernel
theorem dX6_apart_4 : decode cX6_apart 4 = .ok (.ifCond .eq 19, 3) := by decide +kernel
theorem dX6_apart_7 : decode cX6_apart 7 = .ok (.aload_n 0, 1) := by decide +kernel
theorem dX6_apart_8 : decode cX6_apart 8 = .ok (.iload_n 2, 1) := by decide +kernel
theorem dX6_apart_9 : decode cX6_apart 9 = .ok (.invokevirtual 100, 3) := by decide +kernel
theorem dX6_apart_12 : decode cX6_apart 12 = .ok (.ifCond .eq 11, 3) := by decide +kernel
theorem dX6_apart_15 : decode cX6_apart 15 = .ok (.aload_n 0, 1) := by decide +kernel
theorem dX6_apart_16 : decode cX6_apart 16 = .ok (.iload_n 3, 1) := by decide +kernel
theorem dX6_apart_17 : decode cX6_apart 17 = .ok (.invokevirtual 100, 3) := by decide +kernel
theorem dX6_apart_20 : decode cX6_apart 20 = .ok (.ifCond .ne 6, 3) := by decide +kernel
theorem dX6_apart_23 : decode cX6_apart 23 = .ok (.bipush (-2), 2) := by decide +kernel
theorem dX6_apart_25 : decode cX6_apart 25 = .ok (.ireturn, 1) := by decide +kernel
theorem dX6_apart_26 : decode cX6_apart 26 = .ok (.aload_n 0, 1) := by decide +kernel
theorem dX6_apart_27 : decode cX6_apart 27 = .ok (.getfield 19, 3) := by decide +kernel
theorem dX6_apart_30 : decode cX6_apart 30 = .ok (.iload_n 1, 1) := by decide +kernel
theorem dX6_apart_31 : decode cX6_apart 31 = .ok (.iaload, 1) := by decide +kernel
theorem dX6_apart_32 : decode cX6_apart 32 = .ok (.iconst (-1), 1) := by decide +kernel
theorem dX6_apart_33 : decode cX6_apart 33 = .ok (.if_icmp .ne 6, 3) := by decide +kernel
theorem dX6_apart_36 : decode cX6_apart 36 = .ok (.bipush (-11), 2) := by decide +kernel
theorem dX6_apart_38 : decode cX6_apart 38 = .ok (.ireturn, 1) := by decide +kernel
theorem dX6_apart_39 : decode cX6_apart 39 = .ok (.aload_n 0, 1) := by decide +kernel
theorem dX6_apart_40 : decode cX6_apart 40 = .ok (.iload_n 1, 1) := by decide +kernel
theorem dX6_apart_41 : decode cX6_apart 41 = .ok (.iload_n 2, 1) := by decide +kernel
theorem dX6_apart_42 : decode cX6_apart 42 = .ok (.invokevirtual 103, 3) := by decide +kernel
theorem dX6_apart_45 : decode cX6_apart 45 = .ok (.ifCond .eq 12, 3) := by decide +kernel
theorem dX6_apart_48 : decode cX6_apart 48 = .ok (.aload_n 0, 1) := by decide +kernel
theorem dX6_apart_49 : decode cX6_apart 49 = .ok (.iload_n 1, 1) := by decide +kernel
theorem dX6_apart_50 : decode cX6_apart 50 = .ok (.iload_n 3, 1) := by decide +kernel
theorem dX6_apart_51 : decode cX6_apart 51 = .ok (.invokevirtual 103, 3) := by decide +kernel
theorem dX6_apart_54 : decode cX6_apart 54 = .ok (.ifCond .ne 6, 3) := by decide +kernel
theorem dX6_apart_57 : decode cX6_apart 57 = .ok (.bipush (-3), 2) := by decide +kernel
theorem dX6_apart_59 : decode cX6_apart 59 = .ok (.ireturn, 1) := by decide +kernel
theorem dX6_apart_60 : decode cX6_apart 60 = .ok (.iconst 0, 1) := by decide +kernel
theorem dX6_apart_61 : decode cX6_apart 61 = .ok (.istore 4, 2) := by decide +kernel
theorem dX6_apart_63 : decode cX6_apart 63 = .ok (.iload 4, 2) := by decide +kernel
theorem dX6_apart_65 : decode cX6_apart 65 = .ok (.bipush 64, 2) := by decide +kernel
theorem dX6_apart_67 : decode cX6_apart 67 = .ok (.if_icmp .ge 17, 3) := by decide +kernel
theorem dX6_apart_70 : decode cX6_apart 70 = .ok (.aload_n 0, 1) := by decide +kernel
theorem dX6_apart_71 : decode cX6_apart 71 = .ok (.getfield 53, 3) := by decide +kernel
theorem dX6_apart_74 : decode cX6_apart 74 = .ok (.iload 4, 2) := by decide +kernel
theorem dX6_apart_76 : decode cX6_apart 76 = .ok (.iconst (-1), 1) := by decide +kernel
theorem dX6_apart_77 : decode cX6_apart 77 = .ok (.iastore, 1) := by decide +kernel
theorem dX6_apart_78 : decode cX6_apart 78 = .ok (.iinc 4 1, 3) := by decide +kernel
theorem dX6_apart_81 : decode cX6_apart 81 = .ok (.goto (-18), 3) := by decide +kernel
theorem dX6_apart_84 : decode cX6_apart 84 = .ok (.aload_n 0, 1) := by decide +kernel
theorem dX6_apart_85 : decode cX6_apart 85 = .ok (.getfield 53, 3) := by decide +kernel
theorem dX6_apart_88 : decode cX6_apart 88 = .ok (.iload_n 2, 1) := by decide +kernel
theorem dX6_apart_89 : decode cX6_apart 89 = .ok (.iconst 0, 1) := by decide +kernel
theorem dX6_apart_90 : decode cX6_apart 90 = .ok (.iastore, 1) := by decide +kernel
theorem dX6_apart_91 : decode cX6_apart 91 = .ok (.aload_n 0, 1) := by decide +kernel
theorem dX6_apart_92 : decode cX6_apart 92 = .ok (.getfield 56, 3) := by decide +kernel
theorem dX6_apart_95 : decode cX6_apart 95 = .ok (.iconst 0, 1) := by decide +kernel
theorem dX6_apart_96 : decode cX6_apart 96 = .ok (.iload_n 2, 1) := by decide +kernel
theorem dX6_apart_97 : decode cX6_apart 97 = .ok (.iastore, 1) := by decide +kernel
theorem dX6_apart_98 : decode cX6_apart 98 = .ok (.iconst 1, 1) := by decide +kernel
theorem dX6_apart_99 : decode cX6_apart 99 = .ok (.istore 4, 2) := by decide +kernel
theorem dX6_apart_101 : decode cX6_apart 101 = .ok (.iconst 0, 1) := by decide +kernel
theorem dX6_apart_102 : decode cX6_apart 102 = .ok (.istore 5, 2) := by decide +kernel
theorem dX6_apart_104 : decode cX6_apart 104 = .ok (.iload 5, 2) := by decide +kernel
theorem dX6_apart_106 : decode cX6_apart 106 = .ok (.iload 4, 2) := by decide +kernel
theorem dX6_apart_108 : decode cX6_apart 108 = .ok (.if_icmp .ge 102, 3) := by decide +kernel
theorem dX6_apart_111 : decode cX6_apart 111 = .ok (.aload_n 0, 1) := by decide +kernel
theorem dX6_apart_112 : decode cX6_apart 112 = .ok (.getfield 56, 3) := by decide +kernel
theorem dX6_apart_115 : decode cX6_apart 115 = .ok (.iload 5, 2) := by decide +kernel
theorem dX6_apart_117 : decode cX6_apart 117 = .ok (.iaload, 1) := by decide +kernel
theorem dX6_apart_118 : decode cX6_apart 118 = .ok (.istore 6, 2) := by decide +kernel
theorem dX6_apart_120 : decode cX6_apart 120 = .ok (.iconst 0, 1) := by decide +kernel
theorem dX6_apart_121 : decode cX6_apart 121 = .ok (.istore 7, 2) := by decide +kernel
theorem dX6_apart_123 : decode cX6_apart 123 = .ok (.iload 7, 2) := by decide +kernel
theorem dX6_apart_125 : decode cX6_apart 125 = .ok (.iconst 1, 1) := by decide +kernel
theorem dX6_apart_126 : decode cX6_apart 126 = .ok (.aload_n 0, 1) := by decide +kernel
theorem dX6_apart_127 : decode cX6_apart 127 = .ok (.getfield 9, 3) := by decide +kernel
theorem dX6_apart_130 : decode cX6_apart 130 = .ok (.ishl, 1) := by decide +kernel
theorem dX6_apart_131 : decode cX6_apart 131 = .ok (.if_icmp .ge 73, 3) := by decide +kernel
theorem dX6_apart_134 : decode cX6_apart 134 = .ok (.aload_n 0, 1) := by decide +kernel
theorem dX6_apart_135 : decode cX6_apart 135 = .ok (.iload_n 1, 1) := by decide +kernel
theorem dX6_apart_136 : decode cX6_apart 136 = .ok (.iload 7, 2) := by decide +kernel
theorem dX6_apart_138 : decode cX6_apart 138 = .ok (.invokevirtual 103, 3) := by decide +kernel
theorem dX6_apart_141 : decode cX6_apart 141 = .ok (.ifCond .eq 57, 3) := by decide +kernel
theorem dX6_apart_144 : decode cX6_apart 144 = .ok (.aload_n 0, 1) := by decide +kernel
theorem dX6_apart_145 : decode cX6_apart 145 = .ok (.getfield 53, 3) := by decide +kernel
theorem dX6_apart_148 : decode cX6_apart 148 = .ok (.iload 7, 2) := by decide +kernel
theorem dX6_apart_150 : decode cX6_apart 150 = .ok (.iaload, 1) := by decide +kernel
theorem dX6_apart_151 : decode cX6_apart 151 = .ok (.iconst (-1), 1) := by decide +kernel
theorem dX6_apart_152 : decode cX6_apart 152 = .ok (.if_icmp .ne 46, 3) := by decide +kernel
theorem dX6_apart_155 : decode cX6_apart 155 = .ok (.iload 6, 2) := by decide +kernel
theorem dX6_apart_157 : decode cX6_apart 157 = .ok (.iload 7, 2) := by decide +kernel
theorem dX6_apart_159 : decode cX6_apart 159 = .ok (.ixor, 1) := by decide +kernel
theorem dX6_apart_160 : decode cX6_apart 160 = .ok (.invokestatic 107, 3) := by decide +kernel
theorem dX6_apart_163 : decode cX6_apart 163 = .ok (.iconst 2, 1) := by decide +kernel
theorem dX6_apart_164 : decode cX6_apart 164 = .ok (.if_icmp .le 6, 3) := by decide +kernel
theorem dX6_apart_167 : decode cX6_apart 167 = .ok (.goto 31, 3) := by decide +kernel
theorem dX6_apart_170 : decode cX6_apart 170 = .ok (.aload_n 0, 1) := by decide +kernel
theorem dX6_apart_171 : decode cX6_apart 171 = .ok (.getfield 53, 3) := by decide +kernel
theorem dX6_apart_174 : decode cX6_apart 174 = .ok (.iload 7, 2) := by decide +kernel
theorem dX6_apart_176 : decode cX6_apart 176 = .ok (.aload_n 0, 1) := by decide +kernel
theorem dX6_apart_177 : decode cX6_apart 177 = .ok (.getfield 53, 3) := by decide +kernel
theorem dX6_apart_180 : decode cX6_apart 180 = .ok (.iload 6, 2) := by decide +kernel
theorem dX6_apart_182 : decode cX6_apart 182 = .ok (.iaload, 1) := by decide +kernel
theorem dX6_apart_183 : decode cX6_apart 183 = .ok (.iconst 1, 1) := by decide +kernel
theorem dX6_apart_184 : decode cX6_apart 184 = .ok (.iadd, 1) := by decide +kernel
theorem dX6_apart_185 : decode cX6_apart 185 = .ok (.iastore, 1) := by decide +kernel
theorem dX6_apart_186 : decode cX6_apart 186 = .ok (.aload_n 0, 1) := by decide +kernel
theorem dX6_apart_187 : decode cX6_apart 187 = .ok (.getfield 56, 3) := by decide +kernel
theorem dX6_apart_190 : decode cX6_apart 190 = .ok (.iload 4, 2) := by decide +kernel
theorem dX6_apart_192 : decode cX6_apart 192 = .ok (.iload 7, 2) := by decide +kernel
theorem dX6_apart_194 : decode cX6_apart 194 = .ok (.iastore, 1) := by decide +kernel
theorem dX6_apart_195 : decode cX6_apart 195 = .ok (.iinc 4 1, 3) := by decide +kernel
theorem dX6_apart_198 : decode cX6_apart 198 = .ok (.iinc 7 1, 3) := by decide +kernel
theorem dX6_apart_201 : decode cX6_apart 201 = .ok (.goto (-78), 3) := by decide +kernel
theorem dX6_apart_204 : decode cX6_apart 204 = .ok (.iinc 5 1, 3) := by decide +kernel
theorem dX6_apart_207 : decode cX6_apart 207 = .ok (.goto (-103), 3) := by decide +kernel
theorem dX6_apart_210 : decode cX6_apart 210 = .ok (.aload_n 0, 1) := by decide +kernel
theorem dX6_apart_211 : decode cX6_apart 211 = .ok (.getfield 53, 3) := by decide +kernel
theorem dX6_apart_214 : decode cX6_apart 214 = .ok (.iload_n 3, 1) := by decide +kernel
theorem dX6_apart_215 : decode cX6_apart 215 = .ok (.iaload, 1) := by decide +kernel
theorem dX6_apart_216 : decode cX6_apart 216 = .ok (.ireturn, 1) := by decide +kernel
set_option maxRecDepth 20000 in
theorem ggX6_weight_X6_isPoint : GoodIn wsX6_weight wsX6_isPoint := goodIn_r _ [8, 9, 10, 11, 7, 12, 13, 14, 15, 16, 17, 18, 19, 20, 21, 22, 23, 24, 25, 26, 27, 28, 29, 30, 31, 32, 33, 34, 35, 36, 37] (by decide +kernel) (by decide +kernel)
set_option maxRecDepth 20000 in
theorem gX6_weight_X6_isPoint : GoodIn wsX6_weight (wsV RX6 122 RX6 yX6_isPoint wsX6_isPoint) := goodIn_app (goodIn_of _ (by decide +kernel)) ggX6_weight_X6_isPoint
set_option maxRecDepth 20000 in
theorem ggX6_weight_X6_isIn : GoodIn wsX6_weight wsX6_isIn := goodIn_r _ [12] (by decide +kernel) (by decide +kernel)
set_option maxRecDepth 20000 in
theorem gX6_weight_X6_isIn : GoodIn wsX6_weight (va_wsS RX6 86 yX6_isIn wsX6_isIn) := goodIn_app (goodIn_of _ (by decide +kernel)) ggX6_weight_X6_isIn
theorem dX6_weight_0 : decode cX6_weight 0 = .ok (.aload_n 0, 1) := by decide +kernel
theorem dX6_weight_1 : decode cX6_weight 1 = .ok (.iload_n 1, 1) := by decide +kernel
theorem dX6_weight_2 : decode cX6_weight 2 = .ok (.invokevirtual 122, 3) := by decide +kernel
theorem dX6_weight_5 : decode cX6_weight 5 = .ok (.ifCond .eq 17, 3) := by decide +kernel
theorem dX6_weight_8 : decode cX6_weight 8 = .ok (.iload_n 2, 1) := by decide +kernel
theorem dX6_weight_9 : decode cX6_weight 9 = .ok (.i2l, 1) := by decide +kernel
theorem dX6_weight_10 : decode cX6_weight 10 = .ok (.ldc2_w 148, 3) := by decide +kernel
theorem dX6_weight_13 : decode cX6_weight 13 = .ok (.ldc2_w 150, 3) := by decide +kernel
theorem dX6_weight_16 : decode cX6_weight 16 = .ok (.invokestatic 86, 3) := by decide +kernel
theorem dX6_weight_19 : decode cX6_weight 19 = .ok (.ifCond .ne 7, 3) := by decide +kernel
theorem dX6_weight_22 : decode cX6_weight 22 = .ok (.sipush (-1000), 3) := by decide +kernel
theorem dX6_weight_25 : decode cX6_weight 25 = .ok (.ireturn, 1) := by decide +kernel
theorem dX6_weight_26 : decode cX6_weight 26 = .ok (.aload_n 0, 1) := by decide +kernel
theorem dX6_weight_27 : decode cX6_weight 27 = .ok (.getfield 23, 3) := by decide +kernel
theorem dX6_weight_30 : decode cX6_weight 30 = .ok (.iload_n 1, 1) := by decide +kernel
theorem dX6_weight_31 : decode cX6_weight 31 = .ok (.iaload, 1) := by decide +kernel
theorem dX6_weight_32 : decode cX6_weight 32 = .ok (.istore_n 3, 1) := by decide +kernel
theorem dX6_weight_33 : decode cX6_weight 33 = .ok (.aload_n 0, 1) := by decide +kernel
theorem dX6_weight_34 : decode cX6_weight 34 = .ok (.getfield 23, 3) := by decide +kernel
theorem dX6_weight_37 : decode cX6_weight 37 = .ok (.iload_n 1, 1) := by decide +kernel
theorem dX6_weight_38 : decode cX6_weight 38 = .ok (.iload_n 2, 1) := by decide +kernel
theorem dX6_weight_39 : decode cX6_weight 39 = .ok (.iastore, 1) := by decide +kernel
theorem dX6_weight_40 : decode cX6_weight 40 = .ok (.iload_n 3, 1) := by decide +kernel
theorem dX6_weight_41 : decode cX6_weight 41 = .ok (.ireturn, 1) := by decide +kernel
theorem dX6_weightOf_0 : decode cX6_weightOf 0 = .ok (.iconst 0, 1) := by decide +kernel
theorem dX6_weightOf_1 : decode cX6_weightOf 1 = .ok (.istore_n 2, 1) := by decide +kernel
theorem dX6_weightOf_2 : decode cX6_weightOf 2 = .ok (.iconst 0, 1) := by decide +kernel
theorem dX6_weightOf_3 : decode cX6_weightOf 3 = .ok (.istore_n 3, 1) := by decide +kernel
theorem dX6_weightOf_4 : decode cX6_weightOf 4 = .ok (.iload_n 3, 1) := by decide +kernel
theorem dX6_weightOf_5 : decode cX6_weightOf 5 = .ok (.aload_n 0, 1) := by decide +kernel
theorem dX6_weightOf_6 : decode cX6_weightOf 6 = .ok (.getfield 9, 3) := by decide +kernel
theorem dX6_weightOf_9 : decode cX6_weightOf 9 = .ok (.if_icmp .ge 24, 3) := by decide +kernel
theorem dX6_weightOf_12 : decode cX6_weightOf 12 = .ok (.iload_n 2, 1) := by decide +kernel
theorem dX6_weightOf_13 : decode cX6_weightOf 13 = .ok (.iload_n 1, 1) := by decide +kernel
theorem dX6_weightOf_14 : decode cX6_weightOf 14 = .ok (.iload_n 3, 1) := by decide +kernel
theorem dX6_weightOf_15 : decode cX6_weightOf 15 = .ok (.ishr, 1) := by decide +kernel
theorem dX6_weightOf_16 : decode cX6_weightOf 16 = .ok (.iconst 1, 1) := by decide +kernel
theorem dX6_weightOf_17 : decode cX6_weightOf 17 = .ok (.iand, 1) := by decide +kernel
theorem dX6_weightOf_18 : decode cX6_weightOf 18 = .ok (.aload_n 0, 1) := by decide +kernel
theorem dX6_weightOf_19 : decode cX6_weightOf 19 = .ok (.getfield 23, 3) := by decide +kernel
theorem dX6_weightOf_22 : decode cX6_weightOf 22 = .ok (.iload_n 3, 1) := by decide +kernel
theorem dX6_weightOf_23 : decode cX6_weightOf 23 = .ok (.iaload, 1) := by decide +kernel
theorem dX6_weightOf_24 : decode cX6_weightOf 24 = .ok (.imul, 1) := by decide +kernel
theorem dX6_weightOf_25 : decode cX6_weightOf 25 = .ok (.iadd, 1) := by decide +kernel
theorem dX6_weightOf_26 : decode cX6_weightOf 26 = .ok (.istore_n 2, 1) := by decide +kernel
theorem dX6_weightOf_27 : decode cX6_weightOf 27 = .ok (.iinc 3 1, 3) := by decide +kernel
theorem dX6_weightOf_30 : decode cX6_weightOf 30 = .ok (.goto (-26), 3) := by decide +kernel
theorem dX6_weightOf_33 : decode cX6_weightOf 33 = .ok (.iload_n 2, 1) := by decide +kernel
theorem dX6_weightOf_34 : decode cX6_weightOf 34 = .ok (.ireturn, 1) := by decide +kernel
set_option maxRecDepth 20000 in
theorem ggX6_weighs_X6_isSet : GoodIn wsX6_weighs wsX6_isSet := goodIn_r _ [5, 6, 7, 8, 4, 9, 15, 16, 17, 18, 19, 20, 21, 22, 23, 24, 25, 26, 27, 28, 29, 30, 31, 32, 33, 34, 35, 36, 37, 38, 39] (by decide +kernel) (by decide +kernel)
set_option maxRecDepth 20000 in
theorem gX6_weighs_X6_isSet : GoodIn wsX6_weighs (wsV RX6 100 RX6 yX6_isSet wsX6_isSet) := goodIn_app (goodIn_of _ (by decide +kernel)) ggX6_weighs_X6_isSet
set_option maxRecDepth 20000 in
theorem ggX6_weighs_X6_weightOf : GoodIn wsX6_weighs wsX6_weightOf := goodIn_r _ [13, 6, 14, 15, 16, 17, 18, 19, 20, 21, 22, 23, 24, 25, 26, 27, 28, 29, 30, 31, 32, 33, 34, 35, 36, 37, 38, 39] (by decide +kernel) (by decide +kernel)
set_option maxRecDepth 20000 in
theorem gX6_weighs_X6_weightOf : GoodIn wsX6_weighs (wsV RX6 152 RX6 yX6_weightOf wsX6_weightOf) := goodIn_app (goodIn_of _ (by decide +kernel)) ggX6_weighs_X6_weightOf
theorem dX6_weighs_0 : decode cX6_weighs 0 = .ok (.aload_n 0, 1) := by decide +kernel
theorem dX6_weighs_1 : decode cX6_weighs 1 = .ok (.iload_n 1, 1) := by decide +kernel
theorem dX6_weighs_2 : decode cX6_weighs 2 = .ok (.invokevirtual 100, 3) := by decide +kernel
theorem dX6_weighs_5 : decode cX6_weighs 5 = .ok (.ifCond .eq 11, 3) := by decide +kernel
theorem dX6_weighs_8 : decode cX6_weighs 8 = .ok (.aload_n 0, 1) := by decide +kernel
theorem dX6_weighs_9 : decode cX6_weighs 9 = .ok (.iload_n 1, 1) := by decide +kernel
theorem dX6_weighs_10 : decode cX6_weighs 10 = .ok (.invokevirtual 152, 3) := by decide +kernel
theorem dX6_weighs_13 : decode cX6_weighs 13 = .ok (.goto 6, 3) := by decide +kernel
theorem dX6_weighs_16 : decode cX6_weighs 16 = .ok (.sipush (-1000), 3) := by decide +kernel
theorem dX6_weighs_19 : decode cX6_weighs 19 = .ok (.ireturn, 1) := by decide +kernel
set_option maxRecDepth 20000 in
theorem ggX6_may_X6_isMember : GoodIn wsX6_may wsX6_isMember := goodIn_r _ [6, 7, 8, 9, 10, 11, 12, 13, 14, 15, 16, 17, 18, 19, 20, 21, 22, 23, 24, 25, 26, 27, 28, 29, 30, 31, 32] (by decide +kernel) (by decide +kernel)
set_option maxRecDepth 20000 in
theorem gX6_may_X6_isMember : GoodIn wsX6_may (wsV RX6 103 RX6 yX6_isMember wsX6_isMember) := goodIn_app (goodIn_of _ (by decide +kernel)) ggX6_may_X6_isMember
theorem dX6_may_0 : decode cX6_may 0 = .ok (.iconst 0, 1) := by decide +kernel
theorem dX6_may_1 : decode cX6_may 1 = .ok (.istore 4, 2) := by decide +kernel
theorem dX6_may_3 : decode cX6_may 3 = .ok (.iload 4, 2) := by decide +kernel
theorem dX6_may_5 : decode cX6_may 5 = .ok (.iconst 1, 1) := by decide +kernel
theorem dX6_may_6 : decode cX6_may 6 = .ok (.aload_n 0, 1) := by decide +kernel
theorem dX6_may_7 : decode cX6_may 7 = .ok (.getfield 9, 3) := by decide +kernel
theorem dX6_may_10 : decode cX6_may 10 = .ok (.ishl, 1) := by decide +kernel
theorem dX6_may_11 : decode cX6_may 11 = .ok (.if_icmp .ge 29, 3) := by decide +kernel
theorem dX6_may_14 : decode cX6_may 14 = .ok (.aload_n 0, 1) := by decide +kernel
theorem dX6_may_15 : decode cX6_may 15 = .ok (.iload_n 1, 1) := by decide +kernel
theorem dX6_may_16 : decode cX6_may 16 = .ok (.iload 4, 2) := by decide +kernel
theorem dX6_may_18 : decode cX6_may 18 = .ok (.invokevirtual 103, 3) := by decide +kernel
theorem dX6_may_21 : decode cX6_may 21 = .ok (.ifCond .eq 13, 3) := by decide +kernel
theorem dX6_may_24 : decode cX6_may 24 = .ok (.iload 4, 2) := by decide +kernel
theorem dX6_may_26 : decode cX6_may 26 = .ok (.iload_n 2, 1) := by decide +kernel
theorem dX6_may_27 : decode cX6_may 27 = .ok (.iand, 1) := by decide +kernel
theorem dX6_may_28 : decode cX6_may 28 = .ok (.iload_n 3, 1) := by decide +kernel
theorem dX6_may_29 : decode cX6_may 29 = .ok (.if_icmp .ne 5, 3) := by decide +kernel
theorem dX6_may_32 : decode cX6_may 32 = .ok (.iconst 1, 1) := by decide +kernel
theorem dX6_may_33 : decode cX6_may 33 = .ok (.ireturn, 1) := by decide +kernel
theorem dX6_may_34 : decode cX6_may 34 = .ok (.iinc 4 1, 3) := by decide +kernel
theorem dX6_may_37 : decode cX6_may 37 = .ok (.goto (-34), 3) := by decide +kernel
theorem dX6_may_40 : decode cX6_may 40 = .ok (.iconst 0, 1) := by decide +kernel
theorem dX6_may_41 : decode cX6_may 41 = .ok (.ireturn, 1) := by decide +kernel
theorem dX6_heaviest_0 : decode cX6_heaviest 0 = .ok (.iconst (-1), 1) := by decide +kernel
theorem dX6_heaviest_1 : decode cX6_heaviest 1 = .ok (.istore_n 2, 1) := by decide +kernel
theorem dX6_heaviest_2 : decode cX6_heaviest 2 = .ok (.iconst 0, 1) := by decide +kernel
theorem dX6_heaviest_3 : decode cX6_heaviest 3 = .ok (.istore_n 3, 1) := by decide +kernel
theorem dX6_heaviest_4 : decode cX6_heaviest 4 = .ok (.iload_n 3, 1) := by decide +kernel
theorem dX6_heaviest_5 : decode cX6_heaviest 5 = .ok (.aload_n 0, 1) := by decide +kernel
theorem dX6_heaviest_6 : decode cX6_heaviest 6 = .ok (.getfield 9, 3) := by decide +kernel
theorem dX6_heaviest_9 : decode cX6_heaviest 9 = .ok (.if_icmp .ge 97, 3) := by decide +kernel
theorem dX6_heaviest_12 : decode cX6_heaviest 12 = .ok (.iload_n 1, 1) := by decide +kernel
theorem dX6_heaviest_13 : decode cX6_heaviest 13 = .ok (.iload_n 3, 1) := by decide +kernel
theorem dX6_heaviest_14 : decode cX6_heaviest 14 = .ok (.ishr, 1) := by decide +kernel
theorem dX6_heaviest_15 : decode cX6_heaviest 15 = .ok (.iconst 1, 1) := by decide +kernel
theorem dX6_heaviest_16 : decode cX6_heaviest 16 = .ok (.iand, 1) := by decide +kernel
theorem dX6_heaviest_17 : decode cX6_heaviest 17 = .ok (.iconst 1, 1) := by decide +kernel
theorem dX6_heaviest_18 : decode cX6_heaviest 18 = .ok (.if_icmp .ne 6, 3) := by decide +kernel
theorem dX6_heaviest_21 : decode cX6_heaviest 21 = .ok (.goto 79, 3) := by decide +kernel
theorem dX6_heaviest_24 : decode cX6_heaviest 24 = .ok (.aload_n 0, 1) := by decide +kernel
theorem dX6_heaviest_25 : decode cX6_heaviest 25 = .ok (.getfield 23, 3) := by decide +kernel
theorem dX6_heaviest_28 : decode cX6_heaviest 28 = .ok (.iload_n 3, 1) := by decide +kernel
theorem dX6_heaviest_29 : decode cX6_heaviest 29 = .ok (.iaload, 1) := by decide +kernel
theorem dX6_heaviest_30 : decode cX6_heaviest 30 = .ok (.ifCond .ge 13, 3) := by decide +kernel
theorem dX6_heaviest_33 : decode cX6_heaviest 33 = .ok (.aload_n 0, 1) := by decide +kernel
theorem dX6_heaviest_34 : decode cX6_heaviest 34 = .ok (.getfield 23, 3) := by decide +kernel
theorem dX6_heaviest_37 : decode cX6_heaviest 37 = .ok (.iload_n 3, 1) := by decide +kernel
theorem dX6_heaviest_38 : decode cX6_heaviest 38 = .ok (.iaload, 1) := by decide +kernel
theorem dX6_heaviest_39 : decode cX6_heaviest 39 = .ok (.ineg, 1) := by decide +kernel
theorem dX6_heaviest_40 : decode cX6_heaviest 40 = .ok (.goto 9, 3) := by decide +kernel
theorem dX6_heaviest_43 : decode cX6_heaviest 43 = .ok (.aload_n 0, 1) := by decide +kernel
theorem dX6_heaviest_44 : decode cX6_heaviest 44 = .ok (.getfield 23, 3) := by decide +kernel
theorem dX6_heaviest_47 : decode cX6_heaviest 47 = .ok (.iload_n 3, 1) := by decide +kernel
theorem dX6_heaviest_48 : decode cX6_heaviest 48 = .ok (.iaload, 1) := by decide +kernel
theorem dX6_heaviest_49 : decode cX6_heaviest 49 = .ok (.istore 4, 2) := by decide +kernel
theorem dX6_heaviest_51 : decode cX6_heaviest 51 = .ok (.iload_n 2, 1) := by decide +kernel
theorem dX6_heaviest_52 : decode cX6_heaviest 52 = .ok (.iconst (-1), 1) := by decide +kernel
theorem dX6_heaviest_53 : decode cX6_heaviest 53 = .ok (.if_icmp .ne 7, 3) := by decide +kernel
theorem dX6_heaviest_56 : decode cX6_heaviest 56 = .ok (.iconst (-1), 1) := by decide +kernel
theorem dX6_heaviest_57 : decode cX6_heaviest 57 = .ok (.goto 28, 3) := by decide +kernel
theorem dX6_heaviest_60 : decode cX6_heaviest 60 = .ok (.aload_n 0, 1) := by decide +kernel
theorem dX6_heaviest_61 : decode cX6_heaviest 61 = .ok (.getfield 23, 3) := by decide +kernel
theorem dX6_heaviest_64 : decode cX6_heaviest 64 = .ok (.iload_n 2, 1) := by decide +kernel
theorem dX6_heaviest_65 : decode cX6_heaviest 65 = .ok (.iaload, 1) := by decide +kernel
theorem dX6_heaviest_66 : decode cX6_heaviest 66 = .ok (.ifCond .ge 13, 3) := by decide +kernel
theorem dX6_heaviest_69 : decode cX6_heaviest 69 = .ok (.aload_n 0, 1) := by decide +kernel
theorem dX6_heaviest_70 : decode cX6_heaviest 70 = .ok (.getfield 23, 3) := by decide +kernel
theorem dX6_heaviest_73 : decode cX6_heaviest 73 = .ok (.iload_n 2, 1) := by decide +kernel
theorem dX6_heaviest_74 : decode cX6_heaviest 74 = .ok (.iaload, 1) := by decide +kernel
theorem dX6_heaviest_75 : decode cX6_heaviest 75 = .ok (.ineg, 1) := by decide +kernel
theorem dX6_heaviest_76 : decode cX6_heaviest 76 = .ok (.goto 9, 3) := by decide +kernel
theorem dX6_heaviest_79 : decode cX6_heaviest 79 = .ok (.aload_n 0, 1) := by decide +kernel
theorem dX6_heaviest_80 : decode cX6_heaviest 80 = .ok (.getfield 23, 3) := by decide +kernel
theorem dX6_heaviest_83 : decode cX6_heaviest 83 = .ok (.iload_n 2, 1) := by decide +kernel
theorem dX6_heaviest_84 : decode cX6_heaviest 84 = .ok (.iaload, 1) := by decide +kernel
theorem dX6_heaviest_85 : decode cX6_heaviest 85 = .ok (.istore 5, 2) := by decide +kernel
theorem dX6_heaviest_87 : decode cX6_heaviest 87 = .ok (.iload 4, 2) := by decide +kernel
theorem dX6_heaviest_89 : decode cX6_heaviest 89 = .ok (.iload 5, 2) := by decide +kernel
theorem dX6_heaviest_91 : decode cX6_heaviest 91 = .ok (.if_icmp .le 7, 3) := by decide +kernel
theorem dX6_heaviest_94 : decode cX6_heaviest 94 = .ok (.iload_n 3, 1) := by decide +kernel
theorem dX6_heaviest_95 : decode cX6_heaviest 95 = .ok (.goto 4, 3) := by decide +kernel
theorem dX6_heaviest_98 : decode cX6_heaviest 98 = .ok (.iload_n 2, 1) := by decide +kernel
theorem dX6_heaviest_99 : decode cX6_heaviest 99 = .ok (.istore_n 2, 1) := by decide +kernel
theorem dX6_heaviest_100 : decode cX6_heaviest 100 = .ok (.iinc 3 1, 3) := by decide +kernel
theorem dX6_heaviest_103 : decode cX6_heaviest 103 = .ok (.goto (-99), 3) := by decide +kernel
theorem dX6_heaviest_106 : decode cX6_heaviest 106 = .ok (.iload_n 2, 1) := by decide +kernel
theorem dX6_heaviest_107 : decode cX6_heaviest 107 = .ok (.ireturn, 1) := by decide +kernel
set_option maxRecDepth 20000 in
theorem ggX6_greed_X6_isFamily : GoodIn wsX6_greed wsX6_isFamily := goodIn_r _ [8, 9, 10, 11, 7, 12] (by decide +kernel) (by decide +kernel)
set_option maxRecDepth 20000 in
theorem gX6_greed_X6_isFamily : GoodIn wsX6_greed (va_wsS RX6 96 yX6_isFamily wsX6_isFamily) := goodIn_app (goodIn_of _ (by decide +kernel)) ggX6_greed_X6_isFamily
set_option maxRecDepth 20000 in
theorem ggX6_greed_X6_heaviest : GoodIn wsX6_greed wsX6_heaviest := goodIn_r _ [16, 3, 4, 25, 26, 27, 28, 29, 30, 31, 32, 33, 34, 35, 36, 37, 38, 39, 40, 41, 42, 43, 44, 45, 46, 47, 48, 49] (by decide +kernel) (by decide +kernel)
set_option maxRecDepth 20000 in
theorem gX6_greed_X6_heaviest : GoodIn wsX6_greed (wsV RX6 155 RX6 yX6_heaviest wsX6_heaviest) := goodIn_app (goodIn_of _ (by decide +kernel)) ggX6_greed_X6_heaviest
set_option maxRecDepth 20000 in
theorem ggX6_greed_X6_may : GoodIn wsX6_greed wsX6_may := goodIn_r _ [20, 3, 21, 22, 23, 7, 24, 2, 25, 26, 27, 28, 29, 30, 31, 32, 33, 34, 35, 36, 37, 38, 39, 40, 41, 42, 43, 44, 45, 46, 47, 48, 49] (by decide +kernel) (by decide +kernel)
set_option maxRecDepth 20000 in
theorem gX6_greed_X6_may : GoodIn wsX6_greed (wsV RX6 158 RX6 yX6_may wsX6_may) := goodIn_app (goodIn_of _ (by decide +kernel)) ggX6_greed_X6_may
theorem dX6_greed_0 : decode cX6_greed 0 = .ok (.iload_n 1, 1) := by decide +kernel
theorem dX6_greed_1 : decode cX6_greed 1 = .ok (.invokestatic 96, 3) := by decide +kernel
theorem dX6_greed_4 : decode cX6_greed 4 = .ok (.ifCond .ne 6, 3) := by decide +kernel
theorem dX6_greed_7 : decode cX6_greed 7 = .ok (.bipush (-2), 2) := by decide +kernel
theorem dX6_greed_9 : decode cX6_greed 9 = .ok (.ireturn, 1) := by decide +kernel
theorem dX6_greed_10 : decode cX6_greed 10 = .ok (.aload_n 0, 1) := by decide +kernel
theorem dX6_greed_11 : decode cX6_greed 11 = .ok (.getfield 19, 3) := by decide +kernel
theorem dX6_greed_14 : decode cX6_greed 14 = .ok (.iload_n 1, 1) := by decide +kernel
theorem dX6_greed_15 : decode cX6_greed 15 = .ok (.iaload, 1) := by decide +kernel
theorem dX6_greed_16 : decode cX6_greed 16 = .ok (.iconst (-1), 1) := by decide +kernel
theorem dX6_greed_17 : decode cX6_greed 17 = .ok (.if_icmp .ne 6, 3) := by decide +kernel
theorem dX6_greed_20 : decode cX6_greed 20 = .ok (.bipush (-11), 2) := by decide +kernel
theorem dX6_greed_22 : decode cX6_greed 22 = .ok (.ireturn, 1) := by decide +kernel
theorem dX6_greed_23 : decode cX6_greed 23 = .ok (.aload_n 0, 1) := by decide +kernel
theorem dX6_greed_24 : decode cX6_greed 24 = .ok (.getfield 15, 3) := by decide +kernel
theorem dX6_greed_27 : decode cX6_greed 27 = .ok (.iload_n 1, 1) := by decide +kernel
theorem dX6_greed_28 : decode cX6_greed 28 = .ok (.laload, 1) := by decide +kernel
theorem dX6_greed_29 : decode cX6_greed 29 = .ok (.lconst 0, 1) := by decide +kernel
theorem dX6_greed_30 : decode cX6_greed 30 = .ok (.lcmp, 1) := by decide +kernel
theorem dX6_greed_31 : decode cX6_greed 31 = .ok (.ifCond .ne 5, 3) := by decide +kernel
theorem dX6_greed_34 : decode cX6_greed 34 = .ok (.iconst (-1), 1) := by decide +kernel
theorem dX6_greed_35 : decode cX6_greed 35 = .ok (.ireturn, 1) := by decide +kernel
theorem dX6_greed_36 : decode cX6_greed 36 = .ok (.iconst 0, 1) := by decide +kernel
theorem dX6_greed_37 : decode cX6_greed 37 = .ok (.istore_n 2, 1) := by decide +kernel
theorem dX6_greed_38 : decode cX6_greed 38 = .ok (.iconst 0, 1) := by decide +kernel
theorem dX6_greed_39 : decode cX6_greed 39 = .ok (.istore_n 3, 1) := by decide +kernel
theorem dX6_greed_40 : decode cX6_greed 40 = .ok (.iconst 0, 1) := by decide +kernel
theorem dX6_greed_41 : decode cX6_greed 41 = .ok (.istore 4, 2) := by decide +kernel
theorem dX6_greed_43 : decode cX6_greed 43 = .ok (.iload 4, 2) := by decide +kernel
theorem dX6_greed_45 : decode cX6_greed 45 = .ok (.aload_n 0, 1) := by decide +kernel
theorem dX6_greed_46 : decode cX6_greed 46 = .ok (.getfield 9, 3) := by decide +kernel
theorem dX6_greed_49 : decode cX6_greed 49 = .ok (.if_icmp .ge 86, 3) := by decide +kernel
theorem dX6_greed_52 : decode cX6_greed 52 = .ok (.aload_n 0, 1) := by decide +kernel
theorem dX6_greed_53 : decode cX6_greed 53 = .ok (.iload_n 2, 1) := by decide +kernel
theorem dX6_greed_54 : decode cX6_greed 54 = .ok (.invokevirtual 155, 3) := by decide +kernel
theorem dX6_greed_57 : decode cX6_greed 57 = .ok (.istore 5, 2) := by decide +kernel
theorem dX6_greed_59 : decode cX6_greed 59 = .ok (.iload_n 2, 1) := by decide +kernel
theorem dX6_greed_60 : decode cX6_greed 60 = .ok (.iconst 1, 1) := by decide +kernel
theorem dX6_greed_61 : decode cX6_greed 61 = .ok (.iload 5, 2) := by decide +kernel
theorem dX6_greed_63 : decode cX6_greed 63 = .ok (.ishl, 1) := by decide +kernel
theorem dX6_greed_64 : decode cX6_greed 64 = .ok (.ior, 1) := by decide +kernel
theorem dX6_greed_65 : decode cX6_greed 65 = .ok (.istore_n 2, 1) := by decide +kernel
theorem dX6_greed_66 : decode cX6_greed 66 = .ok (.aload_n 0, 1) := by decide +kernel
theorem dX6_greed_67 : decode cX6_greed 67 = .ok (.getfield 23, 3) := by decide +kernel
theorem dX6_greed_70 : decode cX6_greed 70 = .ok (.iload 5, 2) := by decide +kernel
theorem dX6_greed_72 : decode cX6_greed 72 = .ok (.iaload, 1) := by decide +kernel
theorem dX6_greed_73 : decode cX6_greed 73 = .ok (.ifCond .lt 12, 3) := by decide +kernel
theorem dX6_greed_76 : decode cX6_greed 76 = .ok (.iload_n 3, 1) := by decide +kernel
theorem dX6_greed_77 : decode cX6_greed 77 = .ok (.iconst 1, 1) := by decide +kernel
theorem dX6_greed_78 : decode cX6_greed 78 = .ok (.iload 5, 2) := by decide +kernel
theorem dX6_greed_80 : decode cX6_greed 80 = .ok (.ishl, 1) := by decide +kernel
theorem dX6_greed_81 : decode cX6_greed 81 = .ok (.ior, 1) := by decide +kernel
theorem dX6_greed_82 : decode cX6_greed 82 = .ok (.goto 4, 3) := by decide +kernel
theorem dX6_greed_85 : decode cX6_greed 85 = .ok (.iload_n 3, 1) := by decide +kernel
theorem dX6_greed_86 : decode cX6_greed 86 = .ok (.istore 6, 2) := by decide +kernel
theorem dX6_greed_88 : decode cX6_greed 88 = .ok (.aload_n 0, 1) := by decide +kernel
theorem dX6_greed_89 : decode cX6_greed 89 = .ok (.getfield 23, 3) := by decide +kernel
theorem dX6_greed_92 : decode cX6_greed 92 = .ok (.iload 5, 2) := by decide +kernel
theorem dX6_greed_94 : decode cX6_greed 94 = .ok (.iaload, 1) := by decide +kernel
theorem dX6_greed_95 : decode cX6_greed 95 = .ok (.ifCond .lt 7, 3) := by decide +kernel
theorem dX6_greed_98 : decode cX6_greed 98 = .ok (.iload_n 3, 1) := by decide +kernel
theorem dX6_greed_99 : decode cX6_greed 99 = .ok (.goto 9, 3) := by decide +kernel
theorem dX6_greed_102 : decode cX6_greed 102 = .ok (.iload_n 3, 1) := by decide +kernel
theorem dX6_greed_103 : decode cX6_greed 103 = .ok (.iconst 1, 1) := by decide +kernel
theorem dX6_greed_104 : decode cX6_greed 104 = .ok (.iload 5, 2) := by decide +kernel
theorem dX6_greed_106 : decode cX6_greed 106 = .ok (.ishl, 1) := by decide +kernel
theorem dX6_greed_107 : decode cX6_greed 107 = .ok (.ior, 1) := by decide +kernel
theorem dX6_greed_108 : decode cX6_greed 108 = .ok (.istore 7, 2) := by decide +kernel
theorem dX6_greed_110 : decode cX6_greed 110 = .ok (.aload_n 0, 1) := by decide +kernel
theorem dX6_greed_111 : decode cX6_greed 111 = .ok (.iload_n 1, 1) := by decide +kernel
theorem dX6_greed_112 : decode cX6_greed 112 = .ok (.iload_n 2, 1) := by decide +kernel
theorem dX6_greed_113 : decode cX6_greed 113 = .ok (.iload 6, 2) := by decide +kernel
theorem dX6_greed_115 : decode cX6_greed 115 = .ok (.invokevirtual 158, 3) := by decide +kernel
theorem dX6_greed_118 : decode cX6_greed 118 = .ok (.ifCond .eq 8, 3) := by decide +kernel
theorem dX6_greed_121 : decode cX6_greed 121 = .ok (.iload 6, 2) := by decide +kernel
theorem dX6_greed_123 : decode cX6_greed 123 = .ok (.goto 5, 3) := by decide +kernel
theorem dX6_greed_126 : decode cX6_greed 126 = .ok (.iload 7, 2) := by decide +kernel
theorem dX6_greed_128 : decode cX6_greed 128 = .ok (.istore_n 3, 1) := by decide +kernel
theorem dX6_greed_129 : decode cX6_greed 129 = .ok (.iinc 4 1, 3) := by decide +kernel
theorem dX6_greed_132 : decode cX6_greed 132 = .ok (.goto (-89), 3) := by decide +kernel
theorem dX6_greed_135 : decode cX6_greed 135 = .ok (.iload_n 3, 1) := by decide +kernel
theorem dX6_greed_136 : decode cX6_greed 136 = .ok (.ireturn, 1) := by decide +kernel
set_option maxRecDepth 20000 in
theorem ggX6_best_X6_isFamily : GoodIn wsX6_best wsX6_isFamily := goodIn_r _ [6, 7, 8, 9, 5, 10] (by decide +kernel) (by decide +kernel)
set_option maxRecDepth 20000 in
theorem gX6_best_X6_isFamily : GoodIn wsX6_best (va_wsS RX6 96 yX6_isFamily wsX6_isFamily) := goodIn_app (goodIn_of _ (by decide +kernel)) ggX6_best_X6_isFamily
set_option maxRecDepth 20000 in
theorem ggX6_best_X6_isMember : GoodIn wsX6_best wsX6_isMember := goodIn_r _ [14, 15, 21, 22, 23, 24, 25, 26, 27, 28, 29, 30, 31, 32, 33, 34, 35, 36, 37, 38, 39, 40, 41, 42, 43, 44, 45] (by decide +kernel) (by decide +kernel)
set_option maxRecDepth 20000 in
theorem gX6_best_X6_isMember : GoodIn wsX6_best (wsV RX6 103 RX6 yX6_isMember wsX6_isMember) := goodIn_app (goodIn_of _ (by decide +kernel)) ggX6_best_X6_isMember
set_option maxRecDepth 20000 in
theorem ggX6_best_X6_weightOf : GoodIn wsX6_best wsX6_weightOf := goodIn_r _ [19, 2, 20, 21, 22, 23, 24, 25, 26, 27, 28, 29, 30, 31, 32, 33, 34, 35, 36, 37, 38, 39, 40, 41, 42, 43, 44, 45] (by decide +kernel) (by decide +kernel)
set_option maxRecDepth 20000 in
theorem gX6_best_X6_weightOf : GoodIn wsX6_best (wsV RX6 152 RX6 yX6_weightOf wsX6_weightOf) := goodIn_app (goodIn_of _ (by decide +kernel)) ggX6_best_X6_weightOf
theorem dX6_best_0 : decode cX6_best 0 = .ok (.iload_n 1, 1) := by decide +kernel
theorem dX6_best_1 : decode cX6_best 1 = .ok (.invokestatic 96, 3) := by decide +kernel
theorem dX6_best_4 : decode cX6_best 4 = .ok (.ifCond .ne 6, 3) := by decide +kernel
theorem dX6_best_7 : decode cX6_best 7 = .ok (.bipush (-2), 2) := by decide +kernel
theorem dX6_best_9 : decode cX6_best 9 = .ok (.ireturn, 1) := by decide +kernel
theorem dX6_best_10 : decode cX6_best 10 = .ok (.aload_n 0, 1) := by decide +kernel
theorem dX6_best_11 : decode cX6_best 11 = .ok (.getfield 19, 3) := by decide +kernel
theorem dX6_best_14 : decode cX6_best 14 = .ok (.iload_n 1, 1) := by decide +kernel
theorem dX6_best_15 : decode cX6_best 15 = .ok (.iaload, 1) := by decide +kernel
theorem dX6_best_16 : decode cX6_best 16 = .ok (.iconst (-1), 1) := by decide +kernel
theorem dX6_best_17 : decode cX6_best 17 = .ok (.if_icmp .ne 6, 3) := by decide +kernel
theorem dX6_best_20 : decode cX6_best 20 = .ok (.bipush (-11), 2) := by decide +kernel
theorem dX6_best_22 : decode cX6_best 22 = .ok (.ireturn, 1) := by decide +kernel
theorem dX6_best_23 : decode cX6_best 23 = .ok (.iconst (-1), 1) := by decide +kernel
theorem dX6_best_24 : decode cX6_best 24 = .ok (.istore_n 2, 1) := by decide +kernel
theorem dX6_best_25 : decode cX6_best 25 = .ok (.iconst 0, 1) := by decide +kernel
theorem dX6_best_26 : decode cX6_best 26 = .ok (.istore_n 3, 1) := by decide +kernel
theorem dX6_best_27 : decode cX6_best 27 = .ok (.iload_n 3, 1) := by decide +kernel
theorem dX6_best_28 : decode cX6_best 28 = .ok (.iconst 1, 1) := by decide +kernel
theorem dX6_best_29 : decode cX6_best 29 = .ok (.aload_n 0, 1) := by decide +kernel
theorem dX6_best_30 : decode cX6_best 30 = .ok (.getfield 9, 3) := by decide +kernel
theorem dX6_best_33 : decode cX6_best 33 = .ok (.ishl, 1) := by decide +kernel
theorem dX6_best_34 : decode cX6_best 34 = .ok (.if_icmp .ge 38, 3) := by decide +kernel
theorem dX6_best_37 : decode cX6_best 37 = .ok (.aload_n 0, 1) := by decide +kernel
theorem dX6_best_38 : decode cX6_best 38 = .ok (.iload_n 1, 1) := by decide +kernel
theorem dX6_best_39 : decode cX6_best 39 = .ok (.iload_n 3, 1) := by decide +kernel
theorem dX6_best_40 : decode cX6_best 40 = .ok (.invokevirtual 103, 3) := by decide +kernel
theorem dX6_best_43 : decode cX6_best 43 = .ok (.ifCond .eq 23, 3) := by decide +kernel
theorem dX6_best_46 : decode cX6_best 46 = .ok (.iload_n 2, 1) := by decide +kernel
theorem dX6_best_47 : decode cX6_best 47 = .ok (.iconst (-1), 1) := by decide +kernel
theorem dX6_best_48 : decode cX6_best 48 = .ok (.if_icmp .eq 16, 3) := by decide +kernel
theorem dX6_best_51 : decode cX6_best 51 = .ok (.aload_n 0, 1) := by decide +kernel
theorem dX6_best_52 : decode cX6_best 52 = .ok (.iload_n 3, 1) := by decide +kernel
theorem dX6_best_53 : decode cX6_best 53 = .ok (.invokevirtual 152, 3) := by decide +kernel
theorem dX6_best_56 : decode cX6_best 56 = .ok (.aload_n 0, 1) := by decide +kernel
theorem dX6_best_57 : decode cX6_best 57 = .ok (.iload_n 2, 1) := by decide +kernel
theorem dX6_best_58 : decode cX6_best 58 = .ok (.invokevirtual 152, 3) := by decide +kernel
theorem dX6_best_61 : decode cX6_best 61 = .ok (.if_icmp .le 5, 3) := by decide +kernel
theorem dX6_best_64 : decode cX6_best 64 = .ok (.iload_n 3, 1) := by decide +kernel
theorem dX6_best_65 : decode cX6_best 65 = .ok (.istore_n 2, 1) := by decide +kernel
theorem dX6_best_66 : decode cX6_best 66 = .ok (.iinc 3 1, 3) := by decide +kernel
theorem dX6_best_69 : decode cX6_best 69 = .ok (.goto (-42), 3) := by decide +kernel
theorem dX6_best_72 : decode cX6_best 72 = .ok (.iload_n 2, 1) := by decide +kernel
theorem dX6_best_73 : decode cX6_best 73 = .ok (.ireturn, 1) := by decide +kernel
theorem dX6_modulo_0 : decode cX6_modulo 0 = .ok (.iload_n 0, 1) := by decide +kernel
theorem dX6_modulo_1 : decode cX6_modulo 1 = .ok (.bipush 7, 2) := by decide +kernel
theorem dX6_modulo_3 : decode cX6_modulo 3 = .ok (.irem, 1) := by decide +kernel
theorem dX6_modulo_4 : decode cX6_modulo 4 = .ok (.bipush 7, 2) := by decide +kernel
theorem dX6_modulo_6 : decode cX6_modulo 6 = .ok (.iadd, 1) := by decide +kernel
theorem dX6_modulo_7 : decode cX6_modulo 7 = .ok (.bipush 7, 2) := by decide +kernel
theorem dX6_modulo_9 : decode cX6_modulo 9 = .ok (.irem, 1) := by decide +kernel
theorem dX6_modulo_10 : decode cX6_modulo 10 = .ok (.ireturn, 1) := by decide +kernel
theorem dX6_inverse_0 : decode cX6_inverse 0 = .ok (.iconst 1, 1) := by decide +kernel
theorem dX6_inverse_1 : decode cX6_inverse 1 = .ok (.istore_n 1, 1) := by decide +kernel
theorem dX6_inverse_2 : decode cX6_inverse 2 = .ok (.iload_n 1, 1) := by decide +kernel
theorem dX6_inverse_3 : decode cX6_inverse 3 = .ok (.iload_n 0, 1) := by decide +kernel
theorem dX6_inverse_4 : decode cX6_inverse 4 = .ok (.imul, 1) := by decide +kernel
theorem dX6_inverse_5 : decode cX6_inverse 5 = .ok (.bipush 7, 2) := by decide +kernel
theorem dX6_inverse_7 : decode cX6_inverse 7 = .ok (.irem, 1) := by decide +kernel
theorem dX6_inverse_8 : decode cX6_inverse 8 = .ok (.iconst 1, 1) := by decide +kernel
theorem dX6_inverse_9 : decode cX6_inverse 9 = .ok (.if_icmp .eq 9, 3) := by decide +kernel
theorem dX6_inverse_12 : decode cX6_inverse 12 = .ok (.iinc 1 1, 3) := by decide +kernel
theorem dX6_inverse_15 : decode cX6_inverse 15 = .ok (.goto (-13), 3) := by decide +kernel
theorem dX6_inverse_18 : decode cX6_inverse 18 = .ok (.iload_n 1, 1) := by decide +kernel
theorem dX6_inverse_19 : decode cX6_inverse 19 = .ok (.ireturn, 1) := by decide +kernel
set_option maxRecDepth 20000 in
theorem ggX6_entry_X6_isPoint : GoodIn wsX6_entry wsX6_isPoint := goodIn_r _ [7, 8, 9, 10, 6, 11, 15, 16, 17, 18, 19, 20, 21, 22, 23, 24, 25, 26, 27, 28, 29, 30, 31, 32, 33, 34, 35, 36, 37, 38, 39] (by decide +kernel) (by decide +kernel)
set_option maxRecDepth 20000 in
theorem gX6_entry_X6_isPoint : GoodIn wsX6_entry (wsV RX6 122 RX6 yX6_isPoint wsX6_isPoint) := goodIn_app (goodIn_of _ (by decide +kernel)) ggX6_entry_X6_isPoint
set_option maxRecDepth 20000 in
theorem ggX6_entry_X6_isIn : GoodIn wsX6_entry wsX6_isIn := goodIn_r _ [11] (by decide +kernel) (by decide +kernel)
set_option maxRecDepth 20000 in
theorem gX6_entry_X6_isIn : GoodIn wsX6_entry (va_wsS RX6 86 yX6_isIn wsX6_isIn) := goodIn_app (goodIn_of _ (by decide +kernel)) ggX6_entry_X6_isIn
set_option maxRecDepth 20000 in
theorem ggX6_entry_X6_modulo : GoodIn wsX6_entry wsX6_modulo := goodIn_r _ [14] (by decide +kernel) (by decide +kernel)
set_option maxRecDepth 20000 in
theorem gX6_entry_X6_modulo : GoodIn wsX6_entry (va_wsS RX6 162 yX6_modulo wsX6_modulo) := goodIn_app (goodIn_of _ (by decide +kernel)) ggX6_entry_X6_modulo
theorem dX6_entry_0 : decode cX6_entry 0 = .ok (.aload_n 0, 1) := by decide +kernel
theorem dX6_entry_1 : decode cX6_entry 1 = .ok (.iload_n 1, 1) := by decide +kernel
theorem dX6_entry_2 : decode cX6_entry 2 = .ok (.invokevirtual 122, 3) := by decide +kernel
theorem dX6_entry_5 : decode cX6_entry 5 = .ok (.ifCond .eq 28, 3) := by decide +kernel
theorem dX6_entry_8 : decode cX6_entry 8 = .ok (.aload_n 0, 1) := by decide +kernel
theorem dX6_entry_9 : decode cX6_entry 9 = .ok (.iload_n 2, 1) := by decide +kernel
theorem dX6_entry_10 : decode cX6_entry 10 = .ok (.invokevirtual 122, 3) := by decide +kernel
theorem dX6_entry_13 : decode cX6_entry 13 = .ok (.ifCond .eq 20, 3) := by decide +kernel
theorem dX6_entry_16 : decode cX6_entry 16 = .ok (.iload_n 1, 1) := by decide +kernel
theorem dX6_entry_17 : decode cX6_entry 17 = .ok (.iload_n 2, 1) := by decide +kernel
theorem dX6_entry_18 : decode cX6_entry 18 = .ok (.if_icmp .eq 15, 3) := by decide +kernel
theorem dX6_entry_21 : decode cX6_entry 21 = .ok (.iload_n 3, 1) := by decide +kernel
theorem dX6_entry_22 : decode cX6_entry 22 = .ok (.i2l, 1) := by decide +kernel
theorem dX6_entry_23 : decode cX6_entry 23 = .ok (.lconst 0, 1) := by decide +kernel
theorem dX6_entry_24 : decode cX6_entry 24 = .ok (.ldc2_w 94, 3) := by decide +kernel
theorem dX6_entry_27 : decode cX6_entry 27 = .ok (.invokestatic 86, 3) := by decide +kernel
theorem dX6_entry_30 : decode cX6_entry 30 = .ok (.ifCond .ne 6, 3) := by decide +kernel
theorem dX6_entry_33 : decode cX6_entry 33 = .ok (.bipush (-2), 2) := by decide +kernel
theorem dX6_entry_35 : decode cX6_entry 35 = .ok (.ireturn, 1) := by decide +kernel
theorem dX6_entry_36 : decode cX6_entry 36 = .ok (.aload_n 0, 1) := by decide +kernel
theorem dX6_entry_37 : decode cX6_entry 37 = .ok (.getfield 26, 3) := by decide +kernel
theorem dX6_entry_40 : decode cX6_entry 40 = .ok (.bipush 6, 2) := by decide +kernel
theorem dX6_entry_42 : decode cX6_entry 42 = .ok (.iload_n 1, 1) := by decide +kernel
theorem dX6_entry_43 : decode cX6_entry 43 = .ok (.imul, 1) := by decide +kernel
theorem dX6_entry_44 : decode cX6_entry 44 = .ok (.iload_n 2, 1) := by decide +kernel
theorem dX6_entry_45 : decode cX6_entry 45 = .ok (.iadd, 1) := by decide +kernel
theorem dX6_entry_46 : decode cX6_entry 46 = .ok (.iaload, 1) := by decide +kernel
theorem dX6_entry_47 : decode cX6_entry 47 = .ok (.istore 4, 2) := by decide +kernel
theorem dX6_entry_49 : decode cX6_entry 49 = .ok (.aload_n 0, 1) := by decide +kernel
theorem dX6_entry_50 : decode cX6_entry 50 = .ok (.getfield 26, 3) := by decide +kernel
theorem dX6_entry_53 : decode cX6_entry 53 = .ok (.bipush 6, 2) := by decide +kernel
theorem dX6_entry_55 : decode cX6_entry 55 = .ok (.iload_n 1, 1) := by decide +kernel
theorem dX6_entry_56 : decode cX6_entry 56 = .ok (.imul, 1) := by decide +kernel
theorem dX6_entry_57 : decode cX6_entry 57 = .ok (.iload_n 2, 1) := by decide +kernel
theorem dX6_entry_58 : decode cX6_entry 58 = .ok (.iadd, 1) := by decide +kernel
theorem dX6_entry_59 : decode cX6_entry 59 = .ok (.iload_n 3, 1) := by decide +kernel
theorem dX6_entry_60 : decode cX6_entry 60 = .ok (.iastore, 1) := by decide +kernel
theorem dX6_entry_61 : decode cX6_entry 61 = .ok (.aload_n 0, 1) := by decide +kernel
theorem dX6_entry_62 : decode cX6_entry 62 = .ok (.getfield 26, 3) := by decide +kernel
theorem dX6_entry_65 : decode cX6_entry 65 = .ok (.bipush 6, 2) := by decide +kernel
theorem dX6_entry_67 : decode cX6_entry 67 = .ok (.iload_n 2, 1) := by decide +kernel
theorem dX6_entry_68 : decode cX6_entry 68 = .ok (.imul, 1) := by decide +kernel
theorem dX6_entry_69 : decode cX6_entry 69 = .ok (.iload_n 1, 1) := by decide +kernel
theorem dX6_entry_70 : decode cX6_entry 70 = .ok (.iadd, 1) := by decide +kernel
theorem dX6_entry_71 : decode cX6_entry 71 = .ok (.iload_n 3, 1) := by decide +kernel
theorem dX6_entry_72 : decode cX6_entry 72 = .ok (.ineg, 1) := by decide +kernel
theorem dX6_entry_73 : decode cX6_entry 73 = .ok (.invokestatic 162, 3) := by decide +kernel
theorem dX6_entry_76 : decode cX6_entry 76 = .ok (.iastore, 1) := by decide +kernel
theorem dX6_entry_77 : decode cX6_entry 77 = .ok (.iload 4, 2) := by decide +kernel
theorem dX6_entry_79 : decode cX6_entry 79 = .ok (.ireturn, 1) := by decide +kernel
set_option maxRecDepth 20000 in
theorem ggX6_entryOf_X6_isPoint : GoodIn wsX6_entryOf wsX6_isPoint := goodIn_r _ [6, 7, 8, 9, 5, 10, 11, 12, 13, 14, 15, 16, 17, 18, 19, 20, 21, 22, 23, 24, 25, 26, 27, 28, 29, 30, 31, 32, 33, 34, 35] (by decide +kernel) (by decide +kernel)
set_option maxRecDepth 20000 in
theorem gX6_entryOf_X6_isPoint : GoodIn wsX6_entryOf (wsV RX6 122 RX6 yX6_isPoint wsX6_isPoint) := goodIn_app (goodIn_of _ (by decide +kernel)) ggX6_entryOf_X6_isPoint
theorem dX6_entryOf_0 : decode cX6_entryOf 0 = .ok (.aload_n 0, 1) := by decide +kernel
theorem dX6_entryOf_1 : decode cX6_entryOf 1 = .ok (.iload_n 1, 1) := by decide +kernel
theorem dX6_entryOf_2 : decode cX6_entryOf 2 = .ok (.invokevirtual 122, 3) := by decide +kernel
theorem dX6_entryOf_5 : decode cX6_entryOf 5 = .ok (.ifCond .eq 25, 3) := by decide +kernel
theorem dX6_entryOf_8 : decode cX6_entryOf 8 = .ok (.aload_n 0, 1) := by decide +kernel
theorem dX6_entryOf_9 : decode cX6_entryOf 9 = .ok (.iload_n 2, 1) := by decide +kernel
theorem dX6_entryOf_10 : decode cX6_entryOf 10 = .ok (.invokevirtual 122, 3) := by decide +kernel
theorem dX6_entryOf_13 : decode cX6_entryOf 13 = .ok (.ifCond .eq 17, 3) := by decide +kernel
theorem dX6_entryOf_16 : decode cX6_entryOf 16 = .ok (.aload_n 0, 1) := by decide +kernel
theorem dX6_entryOf_17 : decode cX6_entryOf 17 = .ok (.getfield 26, 3) := by decide +kernel
theorem dX6_entryOf_20 : decode cX6_entryOf 20 = .ok (.bipush 6, 2) := by decide +kernel
theorem dX6_entryOf_22 : decode cX6_entryOf 22 = .ok (.iload_n 1, 1) := by decide +kernel
theorem dX6_entryOf_23 : decode cX6_entryOf 23 = .ok (.imul, 1) := by decide +kernel
theorem dX6_entryOf_24 : decode cX6_entryOf 24 = .ok (.iload_n 2, 1) := by decide +kernel
theorem dX6_entryOf_25 : decode cX6_entryOf 25 = .ok (.iadd, 1) := by decide +kernel
theorem dX6_entryOf_26 : decode cX6_entryOf 26 = .ok (.iaload, 1) := by decide +kernel
theorem dX6_entryOf_27 : decode cX6_entryOf 27 = .ok (.goto 5, 3) := by decide +kernel
theorem dX6_entryOf_30 : decode cX6_entryOf 30 = .ok (.bipush (-2), 2) := by decide +kernel
theorem dX6_entryOf_32 : decode cX6_entryOf 32 = .ok (.ireturn, 1) := by decide +kernel
theorem dX6_loads_0 : decode cX6_loads 0 = .ok (.aload_n 0, 1) := by decide +kernel
theorem dX6_loads_1 : decode cX6_loads 1 = .ok (.iconst 0, 1) := by decide +kernel
theorem dX6_loads_2 : decode cX6_loads 2 = .ok (.putfield 165, 3) := by decide +kernel
theorem dX6_loads_5 : decode cX6_loads 5 = .ok (.iconst 0, 1) := by decide +kernel
theorem dX6_loads_6 : decode cX6_loads 6 = .ok (.istore_n 2, 1) := by decide +kernel
theorem dX6_loads_7 : decode cX6_loads 7 = .ok (.iload_n 2, 1) := by decide +kernel
theorem dX6_loads_8 : decode cX6_loads 8 = .ok (.aload_n 0, 1) := by decide +kernel
theorem dX6_loads_9 : decode cX6_loads 9 = .ok (.getfield 9, 3) := by decide +kernel
theorem dX6_loads_12 : decode cX6_loads 12 = .ok (.if_icmp .ge 40, 3) := by decide +kernel
theorem dX6_loads_15 : decode cX6_loads 15 = .ok (.iload_n 1, 1) := by decide +kernel
theorem dX6_loads_16 : decode cX6_loads 16 = .ok (.iload_n 2, 1) := by decide +kernel
theorem dX6_loads_17 : decode cX6_loads 17 = .ok (.ishr, 1) := by decide +kernel
theorem dX6_loads_18 : decode cX6_loads 18 = .ok (.iconst 1, 1) := by decide +kernel
theorem dX6_loads_19 : decode cX6_loads 19 = .ok (.iand, 1) := by decide +kernel
theorem dX6_loads_20 : decode cX6_loads 20 = .ok (.ifCond .ne 6, 3) := by decide +kernel
theorem dX6_loads_23 : decode cX6_loads 23 = .ok (.goto 23, 3) := by decide +kernel
theorem dX6_loads_26 : decode cX6_loads 26 = .ok (.aload_n 0, 1) := by decide +kernel
theorem dX6_loads_27 : decode cX6_loads 27 = .ok (.getfield 65, 3) := by decide +kernel
theorem dX6_loads_30 : decode cX6_loads 30 = .ok (.aload_n 0, 1) := by decide +kernel
theorem dX6_loads_31 : decode cX6_loads 31 = .ok (.getfield 165, 3) := by decide +kernel
theorem dX6_loads_34 : decode cX6_loads 34 = .ok (.iload_n 2, 1) := by decide +kernel
theorem dX6_loads_35 : decode cX6_loads 35 = .ok (.iastore, 1) := by decide +kernel
theorem dX6_loads_36 : decode cX6_loads 36 = .ok (.aload_n 0, 1) := by decide +kernel
theorem dX6_loads_37 : decode cX6_loads 37 = .ok (.dup, 1) := by decide +kernel
theorem dX6_loads_38 : decode cX6_loads 38 = .ok (.getfield 165, 3) := by decide +kernel
theorem dX6_loads_41 : decode cX6_loads 41 = .ok (.iconst 1, 1) := by decide +kernel
theorem dX6_loads_42 : decode cX6_loads 42 = .ok (.iadd, 1) := by decide +kernel
theorem dX6_loads_43 : decode cX6_loads 43 = .ok (.putfield 165, 3) := by decide +kernel
theorem dX6_loads_46 : decode cX6_loads 46 = .ok (.iinc 2 1, 3) := by decide +kernel
theorem dX6_loads_49 : decode cX6_loads 49 = .ok (.goto (-42), 3) := by decide +kernel
theorem dX6_loads_52 : decode cX6_loads 52 = .ok (.iconst 0, 1) := by decide +kernel
theorem dX6_loads_53 : decode cX6_loads 53 = .ok (.istore_n 2, 1) := by decide +kernel
theorem dX6_loads_54 : decode cX6_loads 54 = .ok (.iload_n 2, 1) := by decide +kernel
theorem dX6_loads_55 : decode cX6_loads 55 = .ok (.aload_n 0, 1) := by decide +kernel
theorem dX6_loads_56 : decode cX6_loads 56 = .ok (.getfield 165, 3) := by decide +kernel
theorem dX6_loads_59 : decode cX6_loads 59 = .ok (.if_icmp .ge 78, 3) := by decide +kernel
theorem dX6_loads_62 : decode cX6_loads 62 = .ok (.iconst 0, 1) := by decide +kernel
theorem dX6_loads_63 : decode cX6_loads 63 = .ok (.istore_n 3, 1) := by decide +kernel
theorem dX6_loads_64 : decode cX6_loads 64 = .ok (.iload_n 3, 1) := by decide +kernel
theorem dX6_loads_65 : decode cX6_loads 65 = .ok (.aload_n 0, 1) := by decide +kernel
theorem dX6_loads_66 : decode cX6_loads 66 = .ok (.getfield 165, 3) := by decide +kernel
theorem dX6_loads_69 : decode cX6_loads 69 = .ok (.if_icmp .ge 62, 3) := by decide +kernel
theorem dX6_loads_72 : decode cX6_loads 72 = .ok (.aload_n 0, 1) := by decide +kernel
theorem dX6_loads_73 : decode cX6_loads 73 = .ok (.getfield 59, 3) := by decide +kernel
theorem dX6_loads_76 : decode cX6_loads 76 = .ok (.bipush 6, 2) := by decide +kernel
theorem dX6_loads_78 : decode cX6_loads 78 = .ok (.iload_n 2, 1) := by decide +kernel
theorem dX6_loads_79 : decode cX6_loads 79 = .ok (.imul, 1) := by decide +kernel
theorem dX6_loads_80 : decode cX6_loads 80 = .ok (.iload_n 3, 1) := by decide +kernel
theorem dX6_loads_81 : decode cX6_loads 81 = .ok (.iadd, 1) := by decide +kernel
theorem dX6_loads_82 : decode cX6_loads 82 = .ok (.aload_n 0, 1) := by decide +kernel
theorem dX6_loads_83 : decode cX6_loads 83 = .ok (.getfield 26, 3) := by decide +kernel
theorem dX6_loads_86 : decode cX6_loads 86 = .ok (.bipush 6, 2) := by decide +kernel
theorem dX6_loads_88 : decode cX6_loads 88 = .ok (.aload_n 0, 1) := by decide +kernel
theorem dX6_loads_89 : decode cX6_loads 89 = .ok (.getfield 65, 3) := by decide +kernel
theorem dX6_loads_92 : decode cX6_loads 92 = .ok (.iload_n 2, 1) := by decide +kernel
theorem dX6_loads_93 : decode cX6_loads 93 = .ok (.iaload, 1) := by decide +kernel
theorem dX6_loads_94 : decode cX6_loads 94 = .ok (.imul, 1) := by decide +kernel
theorem dX6_loads_95 : decode cX6_loads 95 = .ok (.aload_n 0, 1) := by decide +kernel
theorem dX6_loads_96 : decode cX6_loads 96 = .ok (.getfield 65, 3) := by decide +kernel
theorem dX6_loads_99 : decode cX6_loads 99 = .ok (.iload_n 3, 1) := by decide +kernel
theorem dX6_loads_100 : decode cX6_loads 100 = .ok (.iaload, 1) := by decide +kernel
theorem dX6_loads_101 : decode cX6_loads 101 = .ok (.iadd, 1) := by decide +kernel
theorem dX6_loads_102 : decode cX6_loads 102 = .ok (.iaload, 1) := by decide +kernel
theorem dX6_loads_103 : decode cX6_loads 103 = .ok (.iastore, 1) := by decide +kernel
theorem dX6_loads_104 : decode cX6_loads 104 = .ok (.aload_n 0, 1) := by decide +kernel
theorem dX6_loads_105 : decode cX6_loads 105 = .ok (.getfield 62, 3) := by decide +kernel
theorem dX6_loads_108 : decode cX6_loads 108 = .ok (.bipush 6, 2) := by decide +kernel
theorem dX6_loads_110 : decode cX6_loads 110 = .ok (.iload_n 2, 1) := by decide +kernel
theorem dX6_loads_111 : decode cX6_loads 111 = .ok (.imul, 1) := by decide +kernel
theorem dX6_loads_112 : decode cX6_loads 112 = .ok (.iload_n 3, 1) := by decide +kernel
theorem dX6_loads_113 : decode cX6_loads 113 = .ok (.iadd, 1) := by decide +kernel
theorem dX6_loads_114 : decode cX6_loads 114 = .ok (.iload_n 2, 1) := by decide +kernel
theorem dX6_loads_115 : decode cX6_loads 115 = .ok (.iload_n 3, 1) := by decide +kernel
theorem dX6_loads_116 : decode cX6_loads 116 = .ok (.if_icmp .ne 7, 3) := by decide +kernel
theorem dX6_loads_119 : decode cX6_loads 119 = .ok (.iconst 1, 1) := by decide +kernel
theorem dX6_loads_120 : decode cX6_loads 120 = .ok (.goto 4, 3) := by decide +kernel
theorem dX6_loads_123 : decode cX6_loads 123 = .ok (.iconst 0, 1) := by decide +kernel
theorem dX6_loads_124 : decode cX6_loads 124 = .ok (.iastore, 1) := by decide +kernel
theorem dX6_loads_125 : decode cX6_loads 125 = .ok (.iinc 3 1, 3) := by decide +kernel
theorem dX6_loads_128 : decode cX6_loads 128 = .ok (.goto (-64), 3) := by decide +kernel
theorem dX6_loads_131 : decode cX6_loads 131 = .ok (.iinc 2 1, 3) := by decide +kernel
theorem dX6_loads_134 : decode cX6_loads 134 = .ok (.goto (-80), 3) := by decide +kernel
theorem dX6_loads_137 : decode cX6_loads 137 = .ok (.return_, 1) := by decide +kernel
theorem dX6_changes_0 : decode cX6_changes 0 = .ok (.iconst 0, 1) := by decide +kernel
theorem dX6_changes_1 : decode cX6_changes 1 = .ok (.istore_n 3, 1) := by decide +kernel
theorem dX6_changes_2 : decode cX6_changes 2 = .ok (.iload_n 3, 1) := by decide +kernel
theorem dX6_changes_3 : decode cX6_changes 3 = .ok (.aload_n 0, 1) := by decide +kernel
theorem dX6_changes_4 : decode cX6_changes 4 = .ok (.getfield 165, 3) := by decide +kernel
theorem dX6_changes_7 : decode cX6_changes 7 = .ok (.if_icmp .ge 105, 3) := by decide +kernel
theorem dX6_changes_10 : decode cX6_changes 10 = .ok (.aload_n 0, 1) := by decide +kernel
theorem dX6_changes_11 : decode cX6_changes 11 = .ok (.getfield 59, 3) := by decide +kernel
theorem dX6_changes_14 : decode cX6_changes 14 = .ok (.bipush 6, 2) := by decide +kernel
theorem dX6_changes_16 : decode cX6_changes 16 = .ok (.iload_n 1, 1) := by decide +kernel
theorem dX6_changes_17 : decode cX6_changes 17 = .ok (.imul, 1) := by decide +kernel
theorem dX6_changes_18 : decode cX6_changes 18 = .ok (.iload_n 3, 1) := by decide +kernel
theorem dX6_changes_19 : decode cX6_changes 19 = .ok (.iadd, 1) := by decide +kernel
theorem dX6_changes_20 : decode cX6_changes 20 = .ok (.iaload, 1) := by decide +kernel
theorem dX6_changes_21 : decode cX6_changes 21 = .ok (.istore 4, 2) := by decide +kernel
theorem dX6_changes_23 : decode cX6_changes 23 = .ok (.aload_n 0, 1) := by decide +kernel
theorem dX6_changes_24 : decode cX6_changes 24 = .ok (.getfield 59, 3) := by decide +kernel
theorem dX6_changes_27 : decode cX6_changes 27 = .ok (.bipush 6, 2) := by decide +kernel
theorem dX6_changes_29 : decode cX6_changes 29 = .ok (.iload_n 1, 1) := by decide +kernel
theorem dX6_changes_30 : decode cX6_changes 30 = .ok (.imul, 1) := by decide +kernel
theorem dX6_changes_31 : decode cX6_changes 31 = .ok (.iload_n 3, 1) := by decide +kernel
theorem dX6_changes_32 : decode cX6_changes 32 = .ok (.iadd, 1) := by decide +kernel
theorem dX6_changes_33 : decode cX6_changes 33 = .ok (.aload_n 0, 1) := by decide +kernel
theorem dX6_changes_34 : decode cX6_changes 34 = .ok (.getfield 59, 3) := by decide +kernel
theorem dX6_changes_37 : decode cX6_changes 37 = .ok (.bipush 6, 2) := by decide +kernel
theorem dX6_changes_39 : decode cX6_changes 39 = .ok (.iload_n 2, 1) := by decide +kernel
theorem dX6_changes_40 : decode cX6_changes 40 = .ok (.imul, 1) := by decide +kernel
