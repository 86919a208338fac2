theorem dX9_token_0 : decode cX9_token 0 = .ok (.aload_n 0, 1) := by decide +kernel
theorem dX9_token_1 : decode cX9_token 1 = .ok (.getfield 10, 3) := by decide +kernel
theorem dX9_token_4 : decode cX9_token 4 = .ok (.iload_n 1, 1) := by decide +kernel
theorem dX9_token_5 : decode cX9_token 5 = .ok (.invokevirtual 134, 3) := by decide +kernel
theorem dX9_token_8 : decode cX9_token 8 = .ok (.ifCond .ne 5, 3) := by decide +kernel
theorem dX9_token_11 : decode cX9_token 11 = .ok (.iconst (-1), 1) := by decide +kernel
theorem dX9_token_12 : decode cX9_token 12 = .ok (.ireturn, 1) := by decide +kernel
theorem dX9_token_13 : decode cX9_token 13 = .ok (.iload_n 2, 1) := by decide +kernel
theorem dX9_token_14 : decode cX9_token 14 = .ok (.tableswitch 157 0 8 #[50, 59, 68, 86, 104, 118, 129, 139, 148], 50) := by decide +kernel
theorem dX9_token_64 : decode cX9_token 64 = .ok (.aload_n 0, 1) := by decide +kernel
theorem dX9_token_65 : decode cX9_token 65 = .ok (.getfield 10, 3) := by decide +kernel
theorem dX9_token_68 : decode cX9_token 68 = .ok (.iload_n 1, 1) := by decide +kernel
theorem dX9_token_69 : decode cX9_token 69 = .ok (.invokestatic 150, 3) := by decide +kernel
theorem dX9_token_72 : decode cX9_token 72 = .ok (.ireturn, 1) := by decide +kernel
theorem dX9_token_73 : decode cX9_token 73 = .ok (.aload_n 0, 1) := by decide +kernel
theorem dX9_token_74 : decode cX9_token 74 = .ok (.getfield 10, 3) := by decide +kernel
theorem dX9_token_77 : decode cX9_token 77 = .ok (.iload_n 1, 1) := by decide +kernel
theorem dX9_token_78 : decode cX9_token 78 = .ok (.invokestatic 154, 3) := by decide +kernel
theorem dX9_token_81 : decode cX9_token 81 = .ok (.ireturn, 1) := by decide +kernel
theorem dX9_token_82 : decode cX9_token 82 = .ok (.aload_n 0, 1) := by decide +kernel
theorem dX9_token_83 : decode cX9_token 83 = .ok (.getfield 10, 3) := by decide +kernel
theorem dX9_token_86 : decode cX9_token 86 = .ok (.iload_n 1, 1) := by decide +kernel
theorem dX9_token_87 : decode cX9_token 87 = .ok (.iconst 1, 1) := by decide +kernel
theorem dX9_token_88 : decode cX9_token 88 = .ok (.invokestatic 157, 3) := by decide +kernel
theorem dX9_token_91 : decode cX9_token 91 = .ok (.ifCond .eq 7, 3) := by decide +kernel
theorem dX9_token_94 : decode cX9_token 94 = .ok (.iconst 1, 1) := by decide +kernel
theorem dX9_token_95 : decode cX9_token 95 = .ok (.goto 4, 3) := by decide +kernel
theorem dX9_token_98 : decode cX9_token 98 = .ok (.iconst 0, 1) := by decide +kernel
theorem dX9_token_99 : decode cX9_token 99 = .ok (.ireturn, 1) := by decide +kernel
theorem dX9_token_100 : decode cX9_token 100 = .ok (.aload_n 0, 1) := by decide +kernel
theorem dX9_token_101 : decode cX9_token 101 = .ok (.getfield 10, 3) := by decide +kernel
theorem dX9_token_104 : decode cX9_token 104 = .ok (.iload_n 1, 1) := by decide +kernel
theorem dX9_token_105 : decode cX9_token 105 = .ok (.iconst 0, 1) := by decide +kernel
theorem dX9_token_106 : decode cX9_token 106 = .ok (.invokestatic 157, 3) := by decide +kernel
theorem dX9_token_109 : decode cX9_token 109 = .ok (.ifCond .eq 7, 3) := by decide +kernel
theorem dX9_token_112 : decode cX9_token 112 = .ok (.iconst 1, 1) := by decide +kernel
theorem dX9_token_113 : decode cX9_token 113 = .ok (.goto 4, 3) := by decide +kernel
theorem dX9_token_116 : decode cX9_token 116 = .ok (.iconst 0, 1) := by decide +kernel
theorem dX9_token_117 : decode cX9_token 117 = .ok (.ireturn, 1) := by decide +kernel
theorem dX9_token_118 : decode cX9_token 118 = .ok (.aload_n 0, 1) := by decide +kernel
theorem dX9_token_119 : decode cX9_token 119 = .ok (.getfield 10, 3) := by decide +kernel
theorem dX9_token_122 : decode cX9_token 122 = .ok (.iconst 1, 1) := by decide +kernel
theorem dX9_token_123 : decode cX9_token 123 = .ok (.iload_n 1, 1) := by decide +kernel
theorem dX9_token_124 : decode cX9_token 124 = .ok (.ishl, 1) := by decide +kernel
theorem dX9_token_125 : decode cX9_token 125 = .ok (.invokestatic 161, 3) := by decide +kernel
theorem dX9_token_128 : decode cX9_token 128 = .ok (.invokestatic 166, 3) := by decide +kernel
theorem dX9_token_131 : decode cX9_token 131 = .ok (.ireturn, 1) := by decide +kernel
theorem dX9_token_132 : decode cX9_token 132 = .ok (.aload_n 0, 1) := by decide +kernel
theorem dX9_token_133 : decode cX9_token 133 = .ok (.getfield 10, 3) := by decide +kernel
theorem dX9_token_136 : decode cX9_token 136 = .ok (.iconst 1, 1) := by decide +kernel
theorem dX9_token_137 : decode cX9_token 137 = .ok (.iload_n 1, 1) := by decide +kernel
theorem dX9_token_138 : decode cX9_token 138 = .ok (.ishl, 1) := by decide +kernel
theorem dX9_token_139 : decode cX9_token 139 = .ok (.invokestatic 161, 3) := by decide +kernel
theorem dX9_token_142 : decode cX9_token 142 = .ok (.ireturn, 1) := by decide +kernel
theorem dX9_token_143 : decode cX9_token 143 = .ok (.aload_n 0, 1) := by decide +kernel
theorem dX9_token_144 : decode cX9_token 144 = .ok (.getfield 10, 3) := by decide +kernel
theorem dX9_token_147 : decode cX9_token 147 = .ok (.iload_n 1, 1) := by decide +kernel
theorem dX9_token_148 : decode cX9_token 148 = .ok (.iload_n 1, 1) := by decide +kernel
theorem dX9_token_149 : decode cX9_token 149 = .ok (.invokevirtual 138, 3) := by decide +kernel
theorem dX9_token_152 : decode cX9_token 152 = .ok (.ireturn, 1) := by decide +kernel
theorem dX9_token_153 : decode cX9_token 153 = .ok (.aload_n 0, 1) := by decide +kernel
theorem dX9_token_154 : decode cX9_token 154 = .ok (.getfield 10, 3) := by decide +kernel
theorem dX9_token_157 : decode cX9_token 157 = .ok (.iload_n 1, 1) := by decide +kernel
theorem dX9_token_158 : decode cX9_token 158 = .ok (.invokestatic 172, 3) := by decide +kernel
theorem dX9_token_161 : decode cX9_token 161 = .ok (.ireturn, 1) := by decide +kernel
theorem dX9_token_162 : decode cX9_token 162 = .ok (.aload_n 0, 1) := by decide +kernel
theorem dX9_token_163 : decode cX9_token 163 = .ok (.getfield 10, 3) := by decide +kernel
theorem dX9_token_166 : decode cX9_token 166 = .ok (.iload_n 1, 1) := by decide +kernel
theorem dX9_token_167 : decode cX9_token 167 = .ok (.invokestatic 175, 3) := by decide +kernel
theorem dX9_token_170 : decode cX9_token 170 = .ok (.ireturn, 1) := by decide +kernel
theorem dX9_token_171 : decode cX9_token 171 = .ok (.iconst (-1), 1) := by decide +kernel
theorem dX9_token_172 : decode cX9_token 172 = .ok (.ireturn, 1) := by decide +kernel
set_option maxRecDepth 20000 in
theorem ggX9_ring_X6_allBits : GoodIn wsX9_ring wsX6_allBits := goodIn_r _ [6, 7, 39, 40] (by decide +kernel) (by decide +kernel)
set_option maxRecDepth 20000 in
theorem gX9_ring_X6_allBits : GoodIn wsX9_ring (wsV RX9 178 RX6 yX6_allBits wsX6_allBits) := goodIn_app (goodIn_of _ (by decide +kernel)) ggX9_ring_X6_allBits
set_option maxRecDepth 20000 in
theorem ggX9_ring_X9_isWithin : GoodIn wsX9_ring wsX9_isWithin := goodIn_r _ [11] (by decide +kernel) (by decide +kernel)
set_option maxRecDepth 20000 in
theorem gX9_ring_X9_isWithin : GoodIn wsX9_ring (va_wsS RX9 61 yX9_isWithin wsX9_isWithin) := goodIn_app (goodIn_of _ (by decide +kernel)) ggX9_ring_X9_isWithin
set_option maxRecDepth 20000 in
theorem ggX9_ring_X2_grownFrom : GoodIn wsX9_ring wsX2_grownFrom := goodIn_r _ [15, 16, 17, 14, 18, 19, 20, 21, 5, 22, 7, 23, 10, 24, 25, 26, 27, 28, 29, 39, 40] (by decide +kernel) (by decide +kernel)
set_option maxRecDepth 20000 in
theorem gX9_ring_X2_grownFrom : GoodIn wsX9_ring (va_wsS RX9 161 yX2_grownFrom wsX2_grownFrom) := goodIn_app (goodIn_of _ (by decide +kernel)) ggX9_ring_X2_grownFrom
theorem dX9_ring_0 : decode cX9_ring 0 = .ok (.iload_n 1, 1) := by decide +kernel
theorem dX9_ring_1 : decode cX9_ring 1 = .ok (.iconst 1, 1) := by decide +kernel
theorem dX9_ring_2 : decode cX9_ring 2 = .ok (.aload_n 0, 1) := by decide +kernel
theorem dX9_ring_3 : decode cX9_ring 3 = .ok (.getfield 10, 3) := by decide +kernel
theorem dX9_ring_6 : decode cX9_ring 6 = .ok (.invokevirtual 178, 3) := by decide +kernel
theorem dX9_ring_9 : decode cX9_ring 9 = .ok (.invokestatic 61, 3) := by decide +kernel
theorem dX9_ring_12 : decode cX9_ring 12 = .ok (.ifCond .ne 5, 3) := by decide +kernel
theorem dX9_ring_15 : decode cX9_ring 15 = .ok (.iconst (-1), 1) := by decide +kernel
theorem dX9_ring_16 : decode cX9_ring 16 = .ok (.ireturn, 1) := by decide +kernel
theorem dX9_ring_17 : decode cX9_ring 17 = .ok (.aload_n 0, 1) := by decide +kernel
theorem dX9_ring_18 : decode cX9_ring 18 = .ok (.getfield 10, 3) := by decide +kernel
theorem dX9_ring_21 : decode cX9_ring 21 = .ok (.iload_n 1, 1) := by decide +kernel
theorem dX9_ring_22 : decode cX9_ring 22 = .ok (.invokestatic 161, 3) := by decide +kernel
theorem dX9_ring_25 : decode cX9_ring 25 = .ok (.ireturn, 1) := by decide +kernel
set_option maxRecDepth 20000 in
theorem ggX9_ringAt_X2_atPlace : GoodIn wsX9_ringAt wsX2_atPlace := goodIn_r _ [5, 6, 7, 8, 9, 10, 11, 12, 13, 4, 14, 15, 16, 17, 18, 19, 20, 21, 22, 23, 24, 25, 26, 27, 28, 29, 39, 40] (by decide +kernel) (by decide +kernel)
set_option maxRecDepth 20000 in
theorem gX9_ringAt_X2_atPlace : GoodIn wsX9_ringAt (va_wsS RX9 181 yX2_atPlace wsX2_atPlace) := goodIn_app (goodIn_of _ (by decide +kernel)) ggX9_ringAt_X2_atPlace
theorem dX9_ringAt_0 : decode cX9_ringAt 0 = .ok (.iload_n 1, 1) := by decide +kernel
theorem dX9_ringAt_1 : decode cX9_ringAt 1 = .ok (.ifCond .ge 5, 3) := by decide +kernel
theorem dX9_ringAt_4 : decode cX9_ringAt 4 = .ok (.iconst (-1), 1) := by decide +kernel
theorem dX9_ringAt_5 : decode cX9_ringAt 5 = .ok (.ireturn, 1) := by decide +kernel
theorem dX9_ringAt_6 : decode cX9_ringAt 6 = .ok (.aload_n 0, 1) := by decide +kernel
theorem dX9_ringAt_7 : decode cX9_ringAt 7 = .ok (.getfield 10, 3) := by decide +kernel
theorem dX9_ringAt_10 : decode cX9_ringAt 10 = .ok (.iload_n 1, 1) := by decide +kernel
theorem dX9_ringAt_11 : decode cX9_ringAt 11 = .ok (.invokestatic 181, 3) := by decide +kernel
theorem dX9_ringAt_14 : decode cX9_ringAt 14 = .ok (.ireturn, 1) := by decide +kernel
set_option maxRecDepth 20000 in
theorem ggX9_count_X6_size : GoodIn wsX9_count wsX6_size := goodIn_r _ [9, 10, 107, 108] (by decide +kernel) (by decide +kernel)
set_option maxRecDepth 20000 in
theorem gX9_count_X6_size : GoodIn wsX9_count (wsV RX9 116 RX6 yX6_size wsX6_size) := goodIn_app (goodIn_of _ (by decide +kernel)) ggX9_count_X6_size
set_option maxRecDepth 20000 in
theorem ggX9_count_X8_commutingPairs : GoodIn wsX9_count wsX8_commutingPairs := goodIn_r _ [14, 15, 6, 7, 8, 9, 10, 16, 17, 13, 18, 19, 20, 21, 22, 23, 107, 108] (by decide +kernel) (by decide +kernel)
set_option maxRecDepth 20000 in
theorem gX9_count_X8_commutingPairs : GoodIn wsX9_count (va_wsS RX9 184 yX8_commutingPairs wsX8_commutingPairs) := goodIn_app (goodIn_of _ (by decide +kernel)) ggX9_count_X8_commutingPairs
set_option maxRecDepth 20000 in
theorem ggX9_count_X8_associatingTriples : GoodIn wsX9_count wsX8_associatingTriples := goodIn_r _ [26, 15, 6, 7, 8, 9, 10, 27, 28, 13, 29, 19, 20, 21, 22, 23, 107, 108] (by decide +kernel) (by decide +kernel)
set_option maxRecDepth 20000 in
theorem gX9_count_X8_associatingTriples : GoodIn wsX9_count (va_wsS RX9 73 yX8_associatingTriples wsX8_associatingTriples) := goodIn_app (goodIn_of _ (by decide +kernel)) ggX9_count_X8_associatingTriples
set_option maxRecDepth 20000 in
theorem ggX9_count_X8_neutralToken : GoodIn wsX9_count wsX8_neutralToken := goodIn_r _ [32, 15, 6, 7, 8, 9, 10, 33, 34, 13, 35, 19, 20, 21, 22, 23, 107, 108] (by decide +kernel) (by decide +kernel)
set_option maxRecDepth 20000 in
theorem gX9_count_X8_neutralToken : GoodIn wsX9_count (va_wsS RX9 187 yX8_neutralToken wsX8_neutralToken) := goodIn_app (goodIn_of _ (by decide +kernel)) ggX9_count_X8_neutralToken
set_option maxRecDepth 20000 in
theorem ggX9_count_X8_selfSums : GoodIn wsX9_count wsX8_selfSums := goodIn_r _ [38, 15, 6, 7, 8, 9, 10, 19, 20, 21, 22, 23, 107, 108] (by decide +kernel) (by decide +kernel)
set_option maxRecDepth 20000 in
theorem gX9_count_X8_selfSums : GoodIn wsX9_count (va_wsS RX9 191 yX8_selfSums wsX8_selfSums) := goodIn_app (goodIn_of _ (by decide +kernel)) ggX9_count_X8_selfSums
set_option maxRecDepth 20000 in
theorem ggX9_count_X2_howMany : GoodIn wsX9_count wsX2_howMany := goodIn_r _ [42, 43, 44, 45, 8, 46, 10, 47, 48, 41, 49, 50, 51, 52, 53, 6, 7, 9, 54, 55, 56, 57, 20, 21, 22, 23, 107, 108] (by decide +kernel) (by decide +kernel)
set_option maxRecDepth 20000 in
theorem gX9_count_X2_howMany : GoodIn wsX9_count (va_wsS RX9 194 yX2_howMany wsX2_howMany) := goodIn_app (goodIn_of _ (by decide +kernel)) ggX9_count_X2_howMany
set_option maxRecDepth 20000 in
theorem ggX9_count_X2_leastSeeds : GoodIn wsX9_count wsX2_leastSeeds := goodIn_r _ [60, 43, 44, 45, 8, 46, 10, 61, 62, 63, 64, 65, 66, 67, 68, 69, 41, 70, 50, 51, 52, 53, 6, 7, 9, 54, 55, 56, 57, 20, 21, 22, 23, 107, 108] (by decide +kernel) (by decide +kernel)
set_option maxRecDepth 20000 in
theorem gX9_count_X2_leastSeeds : GoodIn wsX9_count (va_wsS RX9 197 yX2_leastSeeds wsX2_leastSeeds) := goodIn_app (goodIn_of _ (by decide +kernel)) ggX9_count_X2_leastSeeds
set_option maxRecDepth 20000 in
theorem ggX9_count_J6_bitCount_0f7a4 : GoodIn wsX9_count wsJ6_bitCount_0f7a4 := goodIn_r _ [64, 65, 66, 67] (by decide +kernel) (by decide +kernel)
set_option maxRecDepth 20000 in
theorem gX9_count_J6_bitCount_0f7a4 : GoodIn wsX9_count (va_wsS RX9 166 yJ6_bitCount_0f7a4 wsJ6_bitCount_0f7a4) := goodIn_app (goodIn_of _ (by decide +kernel)) ggX9_count_J6_bitCount_0f7a4
set_option maxRecDepth 20000 in
theorem ggX9_count_X4_howMany : GoodIn wsX9_count wsX4_howMany := goodIn_r _ [76, 77, 6, 7, 8, 9, 10, 78, 79, 75, 80, 81, 82, 83, 84, 85, 20, 21, 22, 23, 107, 108] (by decide +kernel) (by decide +kernel)
set_option maxRecDepth 20000 in
theorem gX9_count_X4_howMany : GoodIn wsX9_count (wsV RX9 200 RX4 yX4_howMany wsX4_howMany) := goodIn_app (goodIn_of _ (by decide +kernel)) ggX9_count_X4_howMany
set_option maxRecDepth 20000 in
theorem ggX9_count_X1_length : GoodIn wsX9_count wsX1_length := goodIn_r _ [90, 91, 109, 110] (by decide +kernel) (by decide +kernel)
set_option maxRecDepth 20000 in
theorem gX9_count_X1_length : GoodIn wsX9_count (wsV RX9 110 RX1 yX1_length wsX1_length) := goodIn_app (goodIn_of _ (by decide +kernel)) ggX9_count_X1_length
set_option maxRecDepth 20000 in
theorem ggX9_count_X0_states : GoodIn wsX9_count wsX0_states := goodIn_r _ [96, 97, 111, 112] (by decide +kernel) (by decide +kernel)
set_option maxRecDepth 20000 in
theorem gX9_count_X0_states : GoodIn wsX9_count (wsV RX9 201 RX0 yX0_states wsX0_states) := goodIn_app (goodIn_of _ (by decide +kernel)) ggX9_count_X0_states
theorem dX9_count_0 : decode cX9_count 0 = .ok (.iload_n 1, 1) := by decide +kernel
theorem dX9_count_1 : decode cX9_count 1 = .ok (.tableswitch 168 0 11 #[63, 71, 79, 87, 96, 105, 113, 121, 132, 140, 152, 160], 63) := by decide +kernel
theorem dX9_count_64 : decode cX9_count 64 = .ok (.aload_n 0, 1) := by decide +kernel
theorem dX9_count_65 : decode cX9_count 65 = .ok (.getfield 10, 3) := by decide +kernel
theorem dX9_count_68 : decode cX9_count 68 = .ok (.invokevirtual 116, 3) := by decide +kernel
theorem dX9_count_71 : decode cX9_count 71 = .ok (.ireturn, 1) := by decide +kernel
theorem dX9_count_72 : decode cX9_count 72 = .ok (.aload_n 0, 1) := by decide +kernel
theorem dX9_count_73 : decode cX9_count 73 = .ok (.getfield 10, 3) := by decide +kernel
theorem dX9_count_76 : decode cX9_count 76 = .ok (.invokestatic 184, 3) := by decide +kernel
theorem dX9_count_79 : decode cX9_count 79 = .ok (.ireturn, 1) := by decide +kernel
theorem dX9_count_80 : decode cX9_count 80 = .ok (.aload_n 0, 1) := by decide +kernel
theorem dX9_count_81 : decode cX9_count 81 = .ok (.getfield 10, 3) := by decide +kernel
theorem dX9_count_84 : decode cX9_count 84 = .ok (.invokestatic 73, 3) := by decide +kernel
theorem dX9_count_87 : decode cX9_count 87 = .ok (.ireturn, 1) := by decide +kernel
theorem dX9_count_88 : decode cX9_count 88 = .ok (.aload_n 0, 1) := by decide +kernel
theorem dX9_count_89 : decode cX9_count 89 = .ok (.getfield 10, 3) := by decide +kernel
theorem dX9_count_92 : decode cX9_count 92 = .ok (.iconst 1, 1) := by decide +kernel
theorem dX9_count_93 : decode cX9_count 93 = .ok (.invokestatic 187, 3) := by decide +kernel
theorem dX9_count_96 : decode cX9_count 96 = .ok (.ireturn, 1) := by decide +kernel
theorem dX9_count_97 : decode cX9_count 97 = .ok (.aload_n 0, 1) := by decide +kernel
theorem dX9_count_98 : decode cX9_count 98 = .ok (.getfield 10, 3) := by decide +kernel
theorem dX9_count_101 : decode cX9_count 101 = .ok (.iconst 0, 1) := by decide +kernel
theorem dX9_count_102 : decode cX9_count 102 = .ok (.invokestatic 187, 3) := by decide +kernel
theorem dX9_count_105 : decode cX9_count 105 = .ok (.ireturn, 1) := by decide +kernel
theorem dX9_count_106 : decode cX9_count 106 = .ok (.aload_n 0, 1) := by decide +kernel
theorem dX9_count_107 : decode cX9_count 107 = .ok (.getfield 10, 3) := by decide +kernel
theorem dX9_count_110 : decode cX9_count 110 = .ok (.invokestatic 191, 3) := by decide +kernel
theorem dX9_count_113 : decode cX9_count 113 = .ok (.ireturn, 1) := by decide +kernel
theorem dX9_count_114 : decode cX9_count 114 = .ok (.aload_n 0, 1) := by decide +kernel
theorem dX9_count_115 : decode cX9_count 115 = .ok (.getfield 10, 3) := by decide +kernel
theorem dX9_count_118 : decode cX9_count 118 = .ok (.invokestatic 194, 3) := by decide +kernel
theorem dX9_count_121 : decode cX9_count 121 = .ok (.ireturn, 1) := by decide +kernel
theorem dX9_count_122 : decode cX9_count 122 = .ok (.aload_n 0, 1) := by decide +kernel
theorem dX9_count_123 : decode cX9_count 123 = .ok (.getfield 10, 3) := by decide +kernel
theorem dX9_count_126 : decode cX9_count 126 = .ok (.invokestatic 197, 3) := by decide +kernel
theorem dX9_count_129 : decode cX9_count 129 = .ok (.invokestatic 166, 3) := by decide +kernel
theorem dX9_count_132 : decode cX9_count 132 = .ok (.ireturn, 1) := by decide +kernel
theorem dX9_count_133 : decode cX9_count 133 = .ok (.aload_n 0, 1) := by decide +kernel
theorem dX9_count_134 : decode cX9_count 134 = .ok (.getfield 10, 3) := by decide +kernel
theorem dX9_count_137 : decode cX9_count 137 = .ok (.invokestatic 197, 3) := by decide +kernel
theorem dX9_count_140 : decode cX9_count 140 = .ok (.ireturn, 1) := by decide +kernel
theorem dX9_count_141 : decode cX9_count 141 = .ok (.aload_n 0, 1) := by decide +kernel
theorem dX9_count_142 : decode cX9_count 142 = .ok (.getfield 53, 3) := by decide +kernel
theorem dX9_count_145 : decode cX9_count 145 = .ok (.aload_n 0, 1) := by decide +kernel
theorem dX9_count_146 : decode cX9_count 146 = .ok (.getfield 10, 3) := by decide +kernel
theorem dX9_count_149 : decode cX9_count 149 = .ok (.invokevirtual 200, 3) := by decide +kernel
theorem dX9_count_152 : decode cX9_count 152 = .ok (.ireturn, 1) := by decide +kernel
theorem dX9_count_153 : decode cX9_count 153 = .ok (.aload_n 0, 1) := by decide +kernel
theorem dX9_count_154 : decode cX9_count 154 = .ok (.getfield 32, 3) := by decide +kernel
theorem dX9_count_157 : decode cX9_count 157 = .ok (.invokevirtual 110, 3) := by decide +kernel
theorem dX9_count_160 : decode cX9_count 160 = .ok (.ireturn, 1) := by decide +kernel
theorem dX9_count_161 : decode cX9_count 161 = .ok (.aload_n 0, 1) := by decide +kernel
theorem dX9_count_162 : decode cX9_count 162 = .ok (.getfield 25, 3) := by decide +kernel
theorem dX9_count_165 : decode cX9_count 165 = .ok (.invokevirtual 201, 3) := by decide +kernel
theorem dX9_count_168 : decode cX9_count 168 = .ok (.ireturn, 1) := by decide +kernel
theorem dX9_count_169 : decode cX9_count 169 = .ok (.iconst (-1), 1) := by decide +kernel
theorem dX9_count_170 : decode cX9_count 170 = .ok (.ireturn, 1) := by decide +kernel
set_option maxRecDepth 20000 in
theorem ggX9_crooked_X6_size : GoodIn wsX9_crooked wsX6_size := goodIn_r _ [6, 7, 30, 31] (by decide +kernel) (by decide +kernel)
set_option maxRecDepth 20000 in
theorem gX9_crooked_X6_size : GoodIn wsX9_crooked (wsV RX9 116 RX6 yX6_size wsX6_size) := goodIn_app (goodIn_of _ (by decide +kernel)) ggX9_crooked_X6_size
set_option maxRecDepth 20000 in
theorem ggX9_crooked_X8_associatingTriples : GoodIn wsX9_crooked wsX8_associatingTriples := goodIn_r _ [11, 12, 3, 4, 5, 6, 7, 13, 14, 10, 15, 16, 17, 18, 19, 20, 30, 31] (by decide +kernel) (by decide +kernel)
set_option maxRecDepth 20000 in
theorem gX9_crooked_X8_associatingTriples : GoodIn wsX9_crooked (va_wsS RX9 73 yX8_associatingTriples wsX8_associatingTriples) := goodIn_app (goodIn_of _ (by decide +kernel)) ggX9_crooked_X8_associatingTriples
theorem dX9_crooked_0 : decode cX9_crooked 0 = .ok (.aload_n 0, 1) := by decide +kernel
theorem dX9_crooked_1 : decode cX9_crooked 1 = .ok (.getfield 10, 3) := by decide +kernel
theorem dX9_crooked_4 : decode cX9_crooked 4 = .ok (.invokevirtual 116, 3) := by decide +kernel
theorem dX9_crooked_7 : decode cX9_crooked 7 = .ok (.istore_n 1, 1) := by decide +kernel
theorem dX9_crooked_8 : decode cX9_crooked 8 = .ok (.iload_n 1, 1) := by decide +kernel
theorem dX9_crooked_9 : decode cX9_crooked 9 = .ok (.iload_n 1, 1) := by decide +kernel
theorem dX9_crooked_10 : decode cX9_crooked 10 = .ok (.imul, 1) := by decide +kernel
theorem dX9_crooked_11 : decode cX9_crooked 11 = .ok (.iload_n 1, 1) := by decide +kernel
theorem dX9_crooked_12 : decode cX9_crooked 12 = .ok (.imul, 1) := by decide +kernel
theorem dX9_crooked_13 : decode cX9_crooked 13 = .ok (.istore_n 2, 1) := by decide +kernel
theorem dX9_crooked_14 : decode cX9_crooked 14 = .ok (.iload_n 2, 1) := by decide +kernel
theorem dX9_crooked_15 : decode cX9_crooked 15 = .ok (.ifCond .gt 5, 3) := by decide +kernel
theorem dX9_crooked_18 : decode cX9_crooked 18 = .ok (.dconst 0, 1) := by decide +kernel
theorem dX9_crooked_19 : decode cX9_crooked 19 = .ok (.dreturn, 1) := by decide +kernel
theorem dX9_crooked_20 : decode cX9_crooked 20 = .ok (.iload_n 2, 1) := by decide +kernel
theorem dX9_crooked_21 : decode cX9_crooked 21 = .ok (.aload_n 0, 1) := by decide +kernel
theorem dX9_crooked_22 : decode cX9_crooked 22 = .ok (.getfield 10, 3) := by decide +kernel
theorem dX9_crooked_25 : decode cX9_crooked 25 = .ok (.invokestatic 73, 3) := by decide +kernel
theorem dX9_crooked_28 : decode cX9_crooked 28 = .ok (.isub, 1) := by decide +kernel
theorem dX9_crooked_29 : decode cX9_crooked 29 = .ok (.i2d, 1) := by decide +kernel
theorem dX9_crooked_30 : decode cX9_crooked 30 = .ok (.iload_n 2, 1) := by decide +kernel
theorem dX9_crooked_31 : decode cX9_crooked 31 = .ok (.i2d, 1) := by decide +kernel
theorem dX9_crooked_32 : decode cX9_crooked 32 = .ok (.ddiv, 1) := by decide +kernel
theorem dX9_crooked_33 : decode cX9_crooked 33 = .ok (.dreturn, 1) := by decide +kernel
set_option maxRecDepth 20000 in
theorem ggX9_ways_X6_has : GoodIn wsX9_ways wsX6_has := goodIn_r _ [8, 9, 91, 92] (by decide +kernel) (by decide +kernel)
set_option maxRecDepth 20000 in
theorem gX9_ways_X6_has : GoodIn wsX9_ways (wsV RX9 134 RX6 yX6_has wsX6_has) := goodIn_app (goodIn_of _ (by decide +kernel)) ggX9_ways_X6_has
set_option maxRecDepth 20000 in
theorem ggX9_ways_X9_isWithin : GoodIn wsX9_ways wsX9_isWithin := goodIn_r _ [13] (by decide +kernel) (by decide +kernel)
set_option maxRecDepth 20000 in
theorem gX9_ways_X9_isWithin : GoodIn wsX9_ways (va_wsS RX9 61 yX9_isWithin wsX9_isWithin) := goodIn_app (goodIn_of _ (by decide +kernel)) ggX9_ways_X9_isWithin
set_option maxRecDepth 20000 in
theorem ggX9_ways_X3_readFrom : GoodIn wsX9_ways wsX3_readFrom := goodIn_r _ [18, 19, 20, 21, 22, 23, 24, 25, 26, 27, 28, 29, 30, 31, 32, 33, 34, 35, 36, 5, 6, 7, 8, 9, 37, 12, 38, 93, 94, 95, 96, 97, 91, 92] (by decide +kernel) (by decide +kernel)
set_option maxRecDepth 20000 in
theorem gX9_ways_X3_readFrom : GoodIn wsX9_ways (wsV RX9 126 RX3 yX3_readFrom wsX3_readFrom) := goodIn_app (goodIn_of _ (by decide +kernel)) ggX9_ways_X3_readFrom
set_option maxRecDepth 20000 in
theorem ggX9_ways_X3_waysByParts : GoodIn wsX9_ways wsX3_waysByParts := goodIn_r _ [42, 19, 43, 44, 45, 17, 46, 47, 20, 37, 12, 38, 48, 49, 50, 51, 52, 53, 54, 55, 56, 57, 58, 59, 60, 61, 62, 63, 64, 65, 66, 67, 7, 68, 9, 69, 70, 71, 72, 73, 93, 94, 95, 91, 92] (by decide +kernel) (by decide +kernel)
set_option maxRecDepth 20000 in
theorem gX9_ways_X3_waysByParts : GoodIn wsX9_ways (wsV RX9 204 RX3 yX3_waysByParts wsX3_waysByParts) := goodIn_app (goodIn_of _ (by decide +kernel)) ggX9_ways_X3_waysByParts
set_option maxRecDepth 20000 in
theorem ggX9_ways_X3_waysOneByOne : GoodIn wsX9_ways wsX3_waysOneByOne := goodIn_r _ [77, 78, 19, 20, 48, 12, 49, 79, 80, 17, 81, 69, 70, 71, 7, 72, 73, 93, 94, 95, 91, 92] (by decide +kernel) (by decide +kernel)
set_option maxRecDepth 20000 in
theorem gX9_ways_X3_waysOneByOne : GoodIn wsX9_ways (wsV RX9 207 RX3 yX3_waysOneByOne wsX3_waysOneByOne) := goodIn_app (goodIn_of _ (by decide +kernel)) ggX9_ways_X3_waysOneByOne
theorem dX9_ways_0 : decode cX9_ways 0 = .ok (.aload_n 0, 1) := by decide +kernel
theorem dX9_ways_1 : decode cX9_ways 1 = .ok (.getfield 10, 3) := by decide +kernel
theorem dX9_ways_4 : decode cX9_ways 4 = .ok (.iload_n 1, 1) := by decide +kernel
theorem dX9_ways_5 : decode cX9_ways 5 = .ok (.invokevirtual 134, 3) := by decide +kernel
theorem dX9_ways_8 : decode cX9_ways 8 = .ok (.ifCond .eq 12, 3) := by decide +kernel
theorem dX9_ways_11 : decode cX9_ways 11 = .ok (.iload_n 2, 1) := by decide +kernel
theorem dX9_ways_12 : decode cX9_ways 12 = .ok (.iconst 0, 1) := by decide +kernel
theorem dX9_ways_13 : decode cX9_ways 13 = .ok (.iconst 1, 1) := by decide +kernel
theorem dX9_ways_14 : decode cX9_ways 14 = .ok (.invokestatic 61, 3) := by decide +kernel
theorem dX9_ways_17 : decode cX9_ways 17 = .ok (.ifCond .ne 5, 3) := by decide +kernel
theorem dX9_ways_20 : decode cX9_ways 20 = .ok (.iconst (-1), 1) := by decide +kernel
theorem dX9_ways_21 : decode cX9_ways 21 = .ok (.ireturn, 1) := by decide +kernel
theorem dX9_ways_22 : decode cX9_ways 22 = .ok (.aload_n 0, 1) := by decide +kernel
theorem dX9_ways_23 : decode cX9_ways 23 = .ok (.getfield 46, 3) := by decide +kernel
theorem dX9_ways_26 : decode cX9_ways 26 = .ok (.aload_n 0, 1) := by decide +kernel
theorem dX9_ways_27 : decode cX9_ways 27 = .ok (.getfield 32, 3) := by decide +kernel
theorem dX9_ways_30 : decode cX9_ways 30 = .ok (.aload_n 0, 1) := by decide +kernel
theorem dX9_ways_31 : decode cX9_ways 31 = .ok (.getfield 10, 3) := by decide +kernel
theorem dX9_ways_34 : decode cX9_ways 34 = .ok (.invokevirtual 126, 3) := by decide +kernel
theorem dX9_ways_37 : decode cX9_ways 37 = .ok (.bipush (-4), 2) := by decide +kernel
theorem dX9_ways_39 : decode cX9_ways 39 = .ok (.if_icmp .eq 6, 3) := by decide +kernel
theorem dX9_ways_42 : decode cX9_ways 42 = .ok (.bipush (-2), 2) := by decide +kernel
theorem dX9_ways_44 : decode cX9_ways 44 = .ok (.ireturn, 1) := by decide +kernel
theorem dX9_ways_45 : decode cX9_ways 45 = .ok (.iload_n 2, 1) := by decide +kernel
theorem dX9_ways_46 : decode cX9_ways 46 = .ok (.ifCond .ne 18, 3) := by decide +kernel
theorem dX9_ways_49 : decode cX9_ways 49 = .ok (.aload_n 0, 1) := by decide +kernel
theorem dX9_ways_50 : decode cX9_ways 50 = .ok (.getfield 46, 3) := by decide +kernel
theorem dX9_ways_53 : decode cX9_ways 53 = .ok (.aload_n 0, 1) := by decide +kernel
theorem dX9_ways_54 : decode cX9_ways 54 = .ok (.getfield 10, 3) := by decide +kernel
theorem dX9_ways_57 : decode cX9_ways 57 = .ok (.iload_n 1, 1) := by decide +kernel
theorem dX9_ways_58 : decode cX9_ways 58 = .ok (.invokevirtual 204, 3) := by decide +kernel
theorem dX9_ways_61 : decode cX9_ways 61 = .ok (.goto 15, 3) := by decide +kernel
theorem dX9_ways_64 : decode cX9_ways 64 = .ok (.aload_n 0, 1) := by decide +kernel
theorem dX9_ways_65 : decode cX9_ways 65 = .ok (.getfield 46, 3) := by decide +kernel
theorem dX9_ways_68 : decode cX9_ways 68 = .ok (.aload_n 0, 1) := by decide +kernel
theorem dX9_ways_69 : decode cX9_ways 69 = .ok (.getfield 10, 3) := by decide +kernel
theorem dX9_ways_72 : decode cX9_ways 72 = .ok (.iload_n 1, 1) := by decide +kernel
theorem dX9_ways_73 : decode cX9_ways 73 = .ok (.invokevirtual 207, 3) := by decide +kernel
theorem dX9_ways_76 : decode cX9_ways 76 = .ok (.ireturn, 1) := by decide +kernel
set_option maxRecDepth 20000 in
theorem ggX9_sums_X9_isWithin : GoodIn wsX9_sums wsX9_isWithin := goodIn_r _ [7] (by decide +kernel) (by decide +kernel)
set_option maxRecDepth 20000 in
theorem gX9_sums_X9_isWithin : GoodIn wsX9_sums (va_wsS RX9 61 yX9_isWithin wsX9_isWithin) := goodIn_app (goodIn_of _ (by decide +kernel)) ggX9_sums_X9_isWithin
set_option maxRecDepth 20000 in
theorem ggX9_sums_X3_readFrom : GoodIn wsX9_sums wsX3_readFrom := goodIn_r _ [12, 13, 14, 15, 16, 17, 18, 19, 20, 21, 22, 23, 24, 25, 26, 27, 28, 29, 30, 31, 32, 33, 34, 35, 36, 6, 37, 94, 95, 96, 97, 98, 99, 100] (by decide +kernel) (by decide +kernel)
set_option maxRecDepth 20000 in
theorem gX9_sums_X3_readFrom : GoodIn wsX9_sums (wsV RX9 126 RX3 yX3_readFrom wsX3_readFrom) := goodIn_app (goodIn_of _ (by decide +kernel)) ggX9_sums_X3_readFrom
set_option maxRecDepth 20000 in
theorem ggX9_sums_X3_possibleSums : GoodIn wsX9_sums wsX3_possibleSums := goodIn_r _ [41, 13, 42, 43, 44, 11, 45, 46, 14, 36, 6, 37, 47, 48, 49, 50, 51, 52, 53, 54, 55, 56, 57, 58, 59, 60, 61, 62, 63, 64, 65, 66, 33, 67, 35, 68, 69, 70, 71, 72, 94, 95, 96, 99, 100] (by decide +kernel) (by decide +kernel)
set_option maxRecDepth 20000 in
theorem gX9_sums_X3_possibleSums : GoodIn wsX9_sums (wsV RX9 210 RX3 yX3_possibleSums wsX3_possibleSums) := goodIn_app (goodIn_of _ (by decide +kernel)) ggX9_sums_X3_possibleSums
set_option maxRecDepth 20000 in
theorem ggX9_sums_X3_sumFromLeft : GoodIn wsX9_sums wsX3_sumFromLeft := goodIn_r _ [76, 14, 13, 47, 6, 48, 68, 69, 70, 33, 71, 72, 94, 95, 96, 99, 100] (by decide +kernel) (by decide +kernel)
set_option maxRecDepth 20000 in
theorem gX9_sums_X3_sumFromLeft : GoodIn wsX9_sums (wsV RX9 213 RX3 yX3_sumFromLeft wsX3_sumFromLeft) := goodIn_app (goodIn_of _ (by decide +kernel)) ggX9_sums_X3_sumFromLeft
set_option maxRecDepth 20000 in
theorem ggX9_sums_X3_sumFromRight : GoodIn wsX9_sums wsX3_sumFromRight := goodIn_r _ [80, 14, 13, 47, 6, 48, 68, 69, 70, 33, 71, 72, 94, 95, 96, 99, 100] (by decide +kernel) (by decide +kernel)
set_option maxRecDepth 20000 in
theorem gX9_sums_X3_sumFromRight : GoodIn wsX9_sums (wsV RX9 216 RX3 yX3_sumFromRight wsX3_sumFromRight) := goodIn_app (goodIn_of _ (by decide +kernel)) ggX9_sums_X3_sumFromRight
set_option maxRecDepth 20000 in
theorem ggX9_sums_X3_likeliestSum : GoodIn wsX9_sums wsX3_likeliestSum := goodIn_r _ [84, 13, 42, 43, 44, 11, 45, 46, 14, 36, 6, 37, 47, 48, 49, 50, 51, 52, 53, 54, 55, 56, 57, 58, 59, 60, 61, 62, 63, 64, 65, 66, 33, 67, 35, 68, 69, 70, 71, 72, 94, 95, 96, 99, 100] (by decide +kernel) (by decide +kernel)
set_option maxRecDepth 20000 in
theorem gX9_sums_X3_likeliestSum : GoodIn wsX9_sums (wsV RX9 219 RX3 yX3_likeliestSum wsX3_likeliestSum) := goodIn_app (goodIn_of _ (by decide +kernel)) ggX9_sums_X3_likeliestSum
theorem dX9_sums_0 : decode cX9_sums 0 = .ok (.iload_n 1, 1) := by decide +kernel
theorem dX9_sums_1 : decode cX9_sums 1 = .ok (.iconst 0, 1) := by decide +kernel
theorem dX9_sums_2 : decode cX9_sums 2 = .ok (.iconst 3, 1) := by decide +kernel
theorem dX9_sums_3 : decode cX9_sums 3 = .ok (.invokestatic 61, 3) := by decide +kernel
theorem dX9_sums_6 : decode cX9_sums 6 = .ok (.ifCond .ne 5, 3) := by decide +kernel
theorem dX9_sums_9 : decode cX9_sums 9 = .ok (.iconst (-1), 1) := by decide +kernel
theorem dX9_sums_10 : decode cX9_sums 10 = .ok (.ireturn, 1) := by decide +kernel
theorem dX9_sums_11 : decode cX9_sums 11 = .ok (.aload_n 0, 1) := by decide +kernel
theorem dX9_sums_12 : decode cX9_sums 12 = .ok (.getfield 46, 3) := by decide +kernel
theorem dX9_sums_15 : decode cX9_sums 15 = .ok (.aload_n 0, 1) := by decide +kernel
theorem dX9_sums_16 : decode cX9_sums 16 = .ok (.getfield 32, 3) := by decide +kernel
theorem dX9_sums_19 : decode cX9_sums 19 = .ok (.aload_n 0, 1) := by decide +kernel
theorem dX9_sums_20 : decode cX9_sums 20 = .ok (.getfield 10, 3) := by decide +kernel
theorem dX9_sums_23 : decode cX9_sums 23 = .ok (.invokevirtual 126, 3) := by decide +kernel
theorem dX9_sums_26 : decode cX9_sums 26 = .ok (.bipush (-4), 2) := by decide +kernel
theorem dX9_sums_28 : decode cX9_sums 28 = .ok (.if_icmp .eq 6, 3) := by decide +kernel
theorem dX9_sums_31 : decode cX9_sums 31 = .ok (.bipush (-2), 2) := by decide +kernel
theorem dX9_sums_33 : decode cX9_sums 33 = .ok (.ireturn, 1) := by decide +kernel
theorem dX9_sums_34 : decode cX9_sums 34 = .ok (.iload_n 1, 1) := by decide +kernel
theorem dX9_sums_35 : decode cX9_sums 35 = .ok (.tableswitch 61 0 2 #[25, 37, 49], 25) := by decide +kernel
theorem dX9_sums_60 : decode cX9_sums 60 = .ok (.aload_n 0, 1) := by decide +kernel
theorem dX9_sums_61 : decode cX9_sums 61 = .ok (.getfield 46, 3) := by decide +kernel
theorem dX9_sums_64 : decode cX9_sums 64 = .ok (.aload_n 0, 1) := by decide +kernel
theorem dX9_sums_65 : decode cX9_sums 65 = .ok (.getfield 10, 3) := by decide +kernel
theorem dX9_sums_68 : decode cX9_sums 68 = .ok (.invokevirtual 210, 3) := by decide +kernel
theorem dX9_sums_71 : decode cX9_sums 71 = .ok (.ireturn, 1) := by decide +kernel
theorem dX9_sums_72 : decode cX9_sums 72 = .ok (.aload_n 0, 1) := by decide +kernel
theorem dX9_sums_73 : decode cX9_sums 73 = .ok (.getfield 46, 3) := by decide +kernel
theorem dX9_sums_76 : decode cX9_sums 76 = .ok (.aload_n 0, 1) := by decide +kernel
theorem dX9_sums_77 : decode cX9_sums 77 = .ok (.getfield 10, 3) := by decide +kernel
theorem dX9_sums_80 : decode cX9_sums 80 = .ok (.invokevirtual 213, 3) := by decide +kernel
theorem dX9_sums_83 : decode cX9_sums 83 = .ok (.ireturn, 1) := by decide +kernel
theorem dX9_sums_84 : decode cX9_sums 84 = .ok (.aload_n 0, 1) := by decide +kernel
theorem dX9_sums_85 : decode cX9_sums 85 = .ok (.getfield 46, 3) := by decide +kernel
theorem dX9_sums_88 : decode cX9_sums 88 = .ok (.aload_n 0, 1) := by decide +kernel
theorem dX9_sums_89 : decode cX9_sums 89 = .ok (.getfield 10, 3) := by decide +kernel
theorem dX9_sums_92 : decode cX9_sums 92 = .ok (.invokevirtual 216, 3) := by decide +kernel
theorem dX9_sums_95 : decode cX9_sums 95 = .ok (.ireturn, 1) := by decide +kernel
theorem dX9_sums_96 : decode cX9_sums 96 = .ok (.aload_n 0, 1) := by decide +kernel
theorem dX9_sums_97 : decode cX9_sums 97 = .ok (.getfield 46, 3) := by decide +kernel
theorem dX9_sums_100 : decode cX9_sums 100 = .ok (.aload_n 0, 1) := by decide +kernel
theorem dX9_sums_101 : decode cX9_sums 101 = .ok (.getfield 10, 3) := by decide +kernel
theorem dX9_sums_104 : decode cX9_sums 104 = .ok (.invokevirtual 219, 3) := by decide +kernel
theorem dX9_sums_107 : decode cX9_sums 107 = .ok (.ireturn, 1) := by decide +kernel
set_option maxRecDepth 20000 in
theorem ggX9_cut_X6_has : GoodIn wsX9_cut wsX6_has := goodIn_r _ [8, 9, 84, 85] (by decide +kernel) (by decide +kernel)
set_option maxRecDepth 20000 in
theorem gX9_cut_X6_has : GoodIn wsX9_cut (wsV RX9 134 RX6 yX6_has wsX6_has) := goodIn_app (goodIn_of _ (by decide +kernel)) ggX9_cut_X6_has
set_option maxRecDepth 20000 in
theorem ggX9_cut_X3_readFrom : GoodIn wsX9_cut wsX3_readFrom := goodIn_r _ [14, 15, 16, 17, 18, 19, 20, 21, 22, 23, 24, 25, 26, 27, 28, 29, 30, 31, 32, 5, 6, 7, 8, 9, 33, 34, 35, 86, 87, 88, 89, 90, 84, 85] (by decide +kernel) (by decide +kernel)
set_option maxRecDepth 20000 in
theorem gX9_cut_X3_readFrom : GoodIn wsX9_cut (wsV RX9 126 RX3 yX3_readFrom wsX3_readFrom) := goodIn_app (goodIn_of _ (by decide +kernel)) ggX9_cut_X3_readFrom
set_option maxRecDepth 20000 in
theorem ggX9_cut_X3_firstCut : GoodIn wsX9_cut wsX3_firstCut := goodIn_r _ [39, 15, 40, 41, 42, 13, 43, 44, 16, 33, 34, 35, 45, 46, 47, 48, 49, 50, 51, 52, 53, 54, 55, 56, 57, 58, 59, 60, 61, 62, 63, 64, 7, 65, 9, 66, 67, 68, 69, 70, 71, 72, 73, 74, 86, 87, 88, 84, 85] (by decide +kernel) (by decide +kernel)
set_option maxRecDepth 20000 in
theorem gX9_cut_X3_firstCut : GoodIn wsX9_cut (wsV RX9 222 RX3 yX3_firstCut wsX3_firstCut) := goodIn_app (goodIn_of _ (by decide +kernel)) ggX9_cut_X3_firstCut
theorem dX9_cut_0 : decode cX9_cut 0 = .ok (.aload_n 0, 1) := by decide +kernel
theorem dX9_cut_1 : decode cX9_cut 1 = .ok (.getfield 10, 3) := by decide +kernel
theorem dX9_cut_4 : decode cX9_cut 4 = .ok (.iload_n 1, 1) := by decide +kernel
theorem dX9_cut_5 : decode cX9_cut 5 = .ok (.invokevirtual 134, 3) := by decide +kernel
theorem dX9_cut_8 : decode cX9_cut 8 = .ok (.ifCond .ne 5, 3) := by decide +kernel
theorem dX9_cut_11 : decode cX9_cut 11 = .ok (.iconst (-1), 1) := by decide +kernel
theorem dX9_cut_12 : decode cX9_cut 12 = .ok (.ireturn, 1) := by decide +kernel
theorem dX9_cut_13 : decode cX9_cut 13 = .ok (.aload_n 0, 1) := by decide +kernel
theorem dX9_cut_14 : decode cX9_cut 14 = .ok (.getfield 46, 3) := by decide +kernel
theorem dX9_cut_17 : decode cX9_cut 17 = .ok (.aload_n 0, 1) := by decide +kernel
theorem dX9_cut_18 : decode cX9_cut 18 = .ok (.getfield 32, 3) := by decide +kernel
theorem dX9_cut_21 : decode cX9_cut 21 = .ok (.aload_n 0, 1) := by decide +kernel
theorem dX9_cut_22 : decode cX9_cut 22 = .ok (.getfield 10, 3) := by decide +kernel
theorem dX9_cut_25 : decode cX9_cut 25 = .ok (.invokevirtual 126, 3) := by decide +kernel
theorem dX9_cut_28 : decode cX9_cut 28 = .ok (.bipush (-4), 2) := by decide +kernel
theorem dX9_cut_30 : decode cX9_cut 30 = .ok (.if_icmp .eq 6, 3) := by decide +kernel
theorem dX9_cut_33 : decode cX9_cut 33 = .ok (.bipush (-2), 2) := by decide +kernel
theorem dX9_cut_35 : decode cX9_cut 35 = .ok (.ireturn, 1) := by decide +kernel
theorem dX9_cut_36 : decode cX9_cut 36 = .ok (.aload_n 0, 1) := by decide +kernel
theorem dX9_cut_37 : decode cX9_cut 37 = .ok (.getfield 46, 3) := by decide +kernel
theorem dX9_cut_40 : decode cX9_cut 40 = .ok (.aload_n 0, 1) := by decide +kernel
theorem dX9_cut_41 : decode cX9_cut 41 = .ok (.getfield 10, 3) := by decide +kernel
theorem dX9_cut_44 : decode cX9_cut 44 = .ok (.iload_n 1, 1) := by decide +kernel
theorem dX9_cut_45 : decode cX9_cut 45 = .ok (.invokevirtual 222, 3) := by decide +kernel
theorem dX9_cut_48 : decode cX9_cut 48 = .ok (.ireturn, 1) := by decide +kernel
set_option maxRecDepth 20000 in
theorem ggX9_ifSwapped_X9_areUnlikeTokens : GoodIn wsX9_ifSwapped wsX9_areUnlikeTokens := goodIn_r _ [7, 1, 8, 9, 10, 11, 12, 13, 82, 83, 84, 85, 86, 87, 88, 89, 90, 91, 92] (by decide +kernel) (by decide +kernel)
set_option maxRecDepth 20000 in
theorem gX9_ifSwapped_X9_areUnlikeTokens : GoodIn wsX9_ifSwapped (wsV RX9 79 RX9 yX9_areUnlikeTokens wsX9_areUnlikeTokens) := goodIn_app (goodIn_of _ (by decide +kernel)) ggX9_ifSwapped_X9_areUnlikeTokens
set_option maxRecDepth 20000 in
theorem ggX9_ifSwapped_X9_isWithin : GoodIn wsX9_ifSwapped wsX9_isWithin := goodIn_r _ [16] (by decide +kernel) (by decide +kernel)
set_option maxRecDepth 20000 in
theorem gX9_ifSwapped_X9_isWithin : GoodIn wsX9_ifSwapped (va_wsS RX9 61 yX9_isWithin wsX9_isWithin) := goodIn_app (goodIn_of _ (by decide +kernel)) ggX9_ifSwapped_X9_isWithin
set_option maxRecDepth 20000 in
theorem ggX9_ifSwapped_X6_isLittleSquare : GoodIn wsX9_ifSwapped wsX6_isLittleSquare := goodIn_r _ [20, 21, 22, 23, 11, 24, 25, 91, 92] (by decide +kernel) (by decide +kernel)
set_option maxRecDepth 20000 in
theorem gX9_ifSwapped_X6_isLittleSquare : GoodIn wsX9_ifSwapped (wsV RX9 98 RX6 yX6_isLittleSquare wsX6_isLittleSquare) := goodIn_app (goodIn_of _ (by decide +kernel)) ggX9_ifSwapped_X6_isLittleSquare
set_option maxRecDepth 20000 in
theorem ggX9_ifSwapped_X6_copyFrom : GoodIn wsX9_ifSwapped wsX6_copyFrom := goodIn_r _ [29, 13, 25, 30, 6, 31, 32, 33, 91, 92] (by decide +kernel) (by decide +kernel)
set_option maxRecDepth 20000 in
theorem gX9_ifSwapped_X6_copyFrom : GoodIn wsX9_ifSwapped (wsV RX9 82 RX6 yX6_copyFrom wsX6_copyFrom) := goodIn_app (goodIn_of _ (by decide +kernel)) ggX9_ifSwapped_X6_copyFrom
set_option maxRecDepth 20000 in
theorem ggX9_ifSwapped_X6_swapSquare : GoodIn wsX9_ifSwapped wsX6_swapSquare := goodIn_r _ [37, 38, 39, 40, 11, 41, 21, 22, 23, 24, 25, 42, 43, 44, 45, 32, 6, 33, 91, 92] (by decide +kernel) (by decide +kernel)
set_option maxRecDepth 20000 in
theorem gX9_ifSwapped_X6_swapSquare : GoodIn wsX9_ifSwapped (wsV RX9 102 RX6 yX6_swapSquare wsX6_swapSquare) := goodIn_app (goodIn_of _ (by decide +kernel)) ggX9_ifSwapped_X6_swapSquare
set_option maxRecDepth 20000 in
theorem ggX9_ifSwapped_X8_commutingPairs : GoodIn wsX9_ifSwapped wsX8_commutingPairs := goodIn_r _ [49, 50, 51, 52, 11, 53, 13, 54, 55, 48, 56, 57, 22, 23, 24, 25, 91, 92] (by decide +kernel) (by decide +kernel)
set_option maxRecDepth 20000 in
theorem gX9_ifSwapped_X8_commutingPairs : GoodIn wsX9_ifSwapped (va_wsS RX9 184 yX8_commutingPairs wsX8_commutingPairs) := goodIn_app (goodIn_of _ (by decide +kernel)) ggX9_ifSwapped_X8_commutingPairs
set_option maxRecDepth 20000 in
theorem ggX9_ifSwapped_X8_associatingTriples : GoodIn wsX9_ifSwapped wsX8_associatingTriples := goodIn_r _ [60, 50, 51, 52, 11, 53, 13, 61, 62, 48, 63, 57, 22, 23, 24, 25, 91, 92] (by decide +kernel) (by decide +kernel)
set_option maxRecDepth 20000 in
theorem gX9_ifSwapped_X8_associatingTriples : GoodIn wsX9_ifSwapped (va_wsS RX9 73 yX8_associatingTriples wsX8_associatingTriples) := goodIn_app (goodIn_of _ (by decide +kernel)) ggX9_ifSwapped_X8_associatingTriples
set_option maxRecDepth 20000 in
theorem ggX9_ifSwapped_X2_howMany : GoodIn wsX9_ifSwapped wsX2_howMany := goodIn_r _ [67, 68, 69, 70, 11, 71, 13, 72, 73, 66, 74, 75, 76, 77, 78, 51, 52, 53, 79, 6, 80, 81, 22, 23, 24, 25, 91, 92] (by decide +kernel) (by decide +kernel)
set_option maxRecDepth 20000 in
theorem gX9_ifSwapped_X2_howMany : GoodIn wsX9_ifSwapped (va_wsS RX9 194 yX2_howMany wsX2_howMany) := goodIn_app (goodIn_of _ (by decide +kernel)) ggX9_ifSwapped_X2_howMany
theorem dX9_ifSwapped_0 : decode cX9_ifSwapped 0 = .ok (.aload_n 0, 1) := by decide +kernel
theorem dX9_ifSwapped_1 : decode cX9_ifSwapped 1 = .ok (.iload_n 1, 1) := by decide +kernel
theorem dX9_ifSwapped_2 : decode cX9_ifSwapped 2 = .ok (.iload_n 2, 1) := by decide +kernel
theorem dX9_ifSwapped_3 : decode cX9_ifSwapped 3 = .ok (.invokevirtual 79, 3) := by decide +kernel
theorem dX9_ifSwapped_6 : decode cX9_ifSwapped 6 = .ok (.ifCond .eq 23, 3) := by decide +kernel
theorem dX9_ifSwapped_9 : decode cX9_ifSwapped 9 = .ok (.aload_n 0, 1) := by decide +kernel
theorem dX9_ifSwapped_10 : decode cX9_ifSwapped 10 = .ok (.iload_n 3, 1) := by decide +kernel
theorem dX9_ifSwapped_11 : decode cX9_ifSwapped 11 = .ok (.iload 4, 2) := by decide +kernel
theorem dX9_ifSwapped_13 : decode cX9_ifSwapped 13 = .ok (.invokevirtual 79, 3) := by decide +kernel
theorem dX9_ifSwapped_16 : decode cX9_ifSwapped 16 = .ok (.ifCond .eq 13, 3) := by decide +kernel
theorem dX9_ifSwapped_19 : decode cX9_ifSwapped 19 = .ok (.iload 5, 2) := by decide +kernel
theorem dX9_ifSwapped_21 : decode cX9_ifSwapped 21 = .ok (.iconst 0, 1) := by decide +kernel
theorem dX9_ifSwapped_22 : decode cX9_ifSwapped 22 = .ok (.iconst 2, 1) := by decide +kernel
theorem dX9_ifSwapped_23 : decode cX9_ifSwapped 23 = .ok (.invokestatic 61, 3) := by decide +kernel
theorem dX9_ifSwapped_26 : decode cX9_ifSwapped 26 = .ok (.ifCond .ne 5, 3) := by decide +kernel
theorem dX9_ifSwapped_29 : decode cX9_ifSwapped 29 = .ok (.iconst (-1), 1) := by decide +kernel
theorem dX9_ifSwapped_30 : decode cX9_ifSwapped 30 = .ok (.ireturn, 1) := by decide +kernel
theorem dX9_ifSwapped_31 : decode cX9_ifSwapped 31 = .ok (.aload_n 0, 1) := by decide +kernel
theorem dX9_ifSwapped_32 : decode cX9_ifSwapped 32 = .ok (.getfield 10, 3) := by decide +kernel
theorem dX9_ifSwapped_35 : decode cX9_ifSwapped 35 = .ok (.iload_n 1, 1) := by decide +kernel
theorem dX9_ifSwapped_36 : decode cX9_ifSwapped 36 = .ok (.iload_n 2, 1) := by decide +kernel
theorem dX9_ifSwapped_37 : decode cX9_ifSwapped 37 = .ok (.iload_n 3, 1) := by decide +kernel
theorem dX9_ifSwapped_38 : decode cX9_ifSwapped 38 = .ok (.iload 4, 2) := by decide +kernel
theorem dX9_ifSwapped_40 : decode cX9_ifSwapped 40 = .ok (.invokevirtual 98, 3) := by decide +kernel
theorem dX9_ifSwapped_43 : decode cX9_ifSwapped 43 = .ok (.ifCond .ne 6, 3) := by decide +kernel
theorem dX9_ifSwapped_46 : decode cX9_ifSwapped 46 = .ok (.bipush (-2), 2) := by decide +kernel
theorem dX9_ifSwapped_48 : decode cX9_ifSwapped 48 = .ok (.ireturn, 1) := by decide +kernel
theorem dX9_ifSwapped_49 : decode cX9_ifSwapped 49 = .ok (.aload_n 0, 1) := by decide +kernel
theorem dX9_ifSwapped_50 : decode cX9_ifSwapped 50 = .ok (.getfield 19, 3) := by decide +kernel
theorem dX9_ifSwapped_53 : decode cX9_ifSwapped 53 = .ok (.aload_n 0, 1) := by decide +kernel
theorem dX9_ifSwapped_54 : decode cX9_ifSwapped 54 = .ok (.getfield 10, 3) := by decide +kernel
theorem dX9_ifSwapped_57 : decode cX9_ifSwapped 57 = .ok (.invokevirtual 82, 3) := by decide +kernel
theorem dX9_ifSwapped_60 : decode cX9_ifSwapped 60 = .ok (.aload_n 0, 1) := by decide +kernel
theorem dX9_ifSwapped_61 : decode cX9_ifSwapped 61 = .ok (.getfield 19, 3) := by decide +kernel
theorem dX9_ifSwapped_64 : decode cX9_ifSwapped 64 = .ok (.iload_n 1, 1) := by decide +kernel
theorem dX9_ifSwapped_65 : decode cX9_ifSwapped 65 = .ok (.iload_n 2, 1) := by decide +kernel
theorem dX9_ifSwapped_66 : decode cX9_ifSwapped 66 = .ok (.iload_n 3, 1) := by decide +kernel
theorem dX9_ifSwapped_67 : decode cX9_ifSwapped 67 = .ok (.iload 4, 2) := by decide +kernel
theorem dX9_ifSwapped_69 : decode cX9_ifSwapped 69 = .ok (.invokevirtual 102, 3) := by decide +kernel
theorem dX9_ifSwapped_72 : decode cX9_ifSwapped 72 = .ok (.iload 5, 2) := by decide +kernel
theorem dX9_ifSwapped_74 : decode cX9_ifSwapped 74 = .ok (.lookupswitch 42 #[(0, 26), (1, 34)], 26) := by decide +kernel
theorem dX9_ifSwapped_100 : decode cX9_ifSwapped 100 = .ok (.aload_n 0, 1) := by decide +kernel
theorem dX9_ifSwapped_101 : decode cX9_ifSwapped 101 = .ok (.getfield 19, 3) := by decide +kernel
theorem dX9_ifSwapped_104 : decode cX9_ifSwapped 104 = .ok (.invokestatic 184, 3) := by decide +kernel
theorem dX9_ifSwapped_107 : decode cX9_ifSwapped 107 = .ok (.ireturn, 1) := by decide +kernel
theorem dX9_ifSwapped_108 : decode cX9_ifSwapped 108 = .ok (.aload_n 0, 1) := by decide +kernel
theorem dX9_ifSwapped_109 : decode cX9_ifSwapped 109 = .ok (.getfield 19, 3) := by decide +kernel
theorem dX9_ifSwapped_112 : decode cX9_ifSwapped 112 = .ok (.invokestatic 73, 3) := by decide +kernel
theorem dX9_ifSwapped_115 : decode cX9_ifSwapped 115 = .ok (.ireturn, 1) := by decide +kernel
theorem dX9_ifSwapped_116 : decode cX9_ifSwapped 116 = .ok (.aload_n 0, 1) := by decide +kernel
theorem dX9_ifSwapped_117 : decode cX9_ifSwapped 117 = .ok (.getfield 19, 3) := by decide +kernel
theorem dX9_ifSwapped_120 : decode cX9_ifSwapped 120 = .ok (.invokestatic 194, 3) := by decide +kernel
theorem dX9_ifSwapped_123 : decode cX9_ifSwapped 123 = .ok (.ireturn, 1) := by decide +kernel
set_option maxRecDepth 20000 in
theorem ggX9_best_X9_isWithin : GoodIn wsX9_best wsX9_isWithin := goodIn_r _ [6] (by decide +kernel) (by decide +kernel)
set_option maxRecDepth 20000 in
theorem gX9_best_X9_isWithin : GoodIn wsX9_best (va_wsS RX9 61 yX9_isWithin wsX9_isWithin) := goodIn_app (goodIn_of _ (by decide +kernel)) ggX9_best_X9_isWithin
set_option maxRecDepth 20000 in
theorem ggX9_best_X4_findBest : GoodIn wsX9_best wsX4_findBest := goodIn_r _ [11, 12, 13, 14, 15, 16, 17, 18, 19, 20, 21, 22, 23, 24, 25, 5, 26, 27, 28, 29, 30, 31, 10, 32, 33, 34, 35, 36, 37, 38, 39, 40, 41, 42, 43, 44, 45, 46, 47, 48, 49, 50, 51, 52, 53, 54, 55, 56, 57, 58, 59, 60, 61, 62, 63, 64, 65, 66, 67, 68, 69, 83, 84, 85, 86, 87, 88, 89, 90] (by decide +kernel) (by decide +kernel)
set_option maxRecDepth 20000 in
theorem gX9_best_X4_findBest : GoodIn wsX9_best (wsV RX9 225 RX4 yX4_findBest wsX4_findBest) := goodIn_app (goodIn_of _ (by decide +kernel)) ggX9_best_X4_findBest
set_option maxRecDepth 20000 in
theorem ggX9_best_X4_tellBest : GoodIn wsX9_best wsX4_tellBest := goodIn_r _ [73, 45, 46, 47, 48, 12, 83, 84, 85, 86, 87, 88] (by decide +kernel) (by decide +kernel)
set_option maxRecDepth 20000 in
theorem gX9_best_X4_tellBest : GoodIn wsX9_best (wsV RX9 229 RX4 yX4_tellBest wsX4_tellBest) := goodIn_app (goodIn_of _ (by decide +kernel)) ggX9_best_X4_tellBest
theorem dX9_best_0 : decode cX9_best 0 = .ok (.iload_n 1, 1) := by decide +kernel
theorem dX9_best_1 : decode cX9_best 1 = .ok (.iconst 0, 1) := by decide +kernel
theorem dX9_best_2 : decode cX9_best 2 = .ok (.iconst 4, 1) := by decide +kernel
theorem dX9_best_3 : decode cX9_best 3 = .ok (.invokestatic 61, 3) := by decide +kernel
theorem dX9_best_6 : decode cX9_best 6 = .ok (.ifCond .ne 5, 3) := by decide +kernel
theorem dX9_best_9 : decode cX9_best 9 = .ok (.iconst (-1), 1) := by decide +kernel
theorem dX9_best_10 : decode cX9_best 10 = .ok (.ireturn, 1) := by decide +kernel
theorem dX9_best_11 : decode cX9_best 11 = .ok (.aload_n 0, 1) := by decide +kernel
theorem dX9_best_12 : decode cX9_best 12 = .ok (.getfield 53, 3) := by decide +kernel
theorem dX9_best_15 : decode cX9_best 15 = .ok (.aload_n 0, 1) := by decide +kernel
theorem dX9_best_16 : decode cX9_best 16 = .ok (.getfield 10, 3) := by decide +kernel
theorem dX9_best_19 : decode cX9_best 19 = .ok (.invokevirtual 225, 3) := by decide +kernel
theorem dX9_best_22 : decode cX9_best 22 = .ok (.ifCond .eq 14, 3) := by decide +kernel
theorem dX9_best_25 : decode cX9_best 25 = .ok (.aload_n 0, 1) := by decide +kernel
theorem dX9_best_26 : decode cX9_best 26 = .ok (.getfield 53, 3) := by decide +kernel
theorem dX9_best_29 : decode cX9_best 29 = .ok (.iload_n 1, 1) := by decide +kernel
theorem dX9_best_30 : decode cX9_best 30 = .ok (.invokevirtual 229, 3) := by decide +kernel
theorem dX9_best_33 : decode cX9_best 33 = .ok (.goto 5, 3) := by decide +kernel
theorem dX9_best_36 : decode cX9_best 36 = .ok (.bipush (-4), 2) := by decide +kernel
theorem dX9_best_38 : decode cX9_best 38 = .ok (.ireturn, 1) := by decide +kernel
set_option maxRecDepth 20000 in
theorem ggX9_undo_X0_takeBack : GoodIn wsX9_undo wsX0_takeBack := goodIn_r _ [7, 8, 9, 10, 11, 6, 12, 13, 14, 15, 16, 17, 18, 19, 20, 21, 22, 23, 24, 25, 39, 40, 41, 42] (by decide +kernel) (by decide +kernel)
set_option maxRecDepth 20000 in
theorem gX9_undo_X0_takeBack : GoodIn wsX9_undo (wsV RX9 232 RX0 yX0_takeBack wsX0_takeBack) := goodIn_app (goodIn_of _ (by decide +kernel)) ggX9_undo_X0_takeBack
set_option maxRecDepth 20000 in
theorem ggX9_undo_X0_states : GoodIn wsX9_undo wsX0_states := goodIn_r _ [29, 8, 39, 40] (by decide +kernel) (by decide +kernel)
set_option maxRecDepth 20000 in
theorem gX9_undo_X0_states : GoodIn wsX9_undo (wsV RX9 201 RX0 yX0_states wsX0_states) := goodIn_app (goodIn_of _ (by decide +kernel)) ggX9_undo_X0_states
theorem dX9_undo_0 : decode cX9_undo 0 = .ok (.aload_n 0, 1) := by decide +kernel
theorem dX9_undo_1 : decode cX9_undo 1 = .ok (.getfield 25, 3) := by decide +kernel
theorem dX9_undo_4 : decode cX9_undo 4 = .ok (.aload_n 0, 1) := by decide +kernel
theorem dX9_undo_5 : decode cX9_undo 5 = .ok (.getfield 10, 3) := by decide +kernel
theorem dX9_undo_8 : decode cX9_undo 8 = .ok (.invokevirtual 232, 3) := by decide +kernel
theorem dX9_undo_11 : decode cX9_undo 11 = .ok (.ifCond .eq 13, 3) := by decide +kernel
theorem dX9_undo_14 : decode cX9_undo 14 = .ok (.aload_n 0, 1) := by decide +kernel
theorem dX9_undo_15 : decode cX9_undo 15 = .ok (.getfield 25, 3) := by decide +kernel
theorem dX9_undo_18 : decode cX9_undo 18 = .ok (.invokevirtual 201, 3) := by decide +kernel
theorem dX9_undo_21 : decode cX9_undo 21 = .ok (.goto 5, 3) := by decide +kernel
theorem dX9_undo_24 : decode cX9_undo 24 = .ok (.bipush (-2), 2) := by decide +kernel
theorem dX9_undo_26 : decode cX9_undo 26 = .ok (.ireturn, 1) := by decide +kernel
set_option maxRecDepth 20000 in
theorem ggX9_save_X6_copyFrom : GoodIn wsX9_save wsX6_copyFrom := goodIn_r _ [8, 9, 10, 11, 12, 13, 14, 15, 29, 30] (by decide +kernel) (by decide +kernel)
set_option maxRecDepth 20000 in
theorem gX9_save_X6_copyFrom : GoodIn wsX9_save (wsV RX9 82 RX6 yX6_copyFrom wsX6_copyFrom) := goodIn_app (goodIn_of _ (by decide +kernel)) ggX9_save_X6_copyFrom
set_option maxRecDepth 20000 in
theorem ggX9_save_X6_size : GoodIn wsX9_save wsX6_size := goodIn_r _ [19, 9, 29, 30] (by decide +kernel) (by decide +kernel)
set_option maxRecDepth 20000 in
theorem gX9_save_X6_size : GoodIn wsX9_save (wsV RX9 116 RX6 yX6_size wsX6_size) := goodIn_app (goodIn_of _ (by decide +kernel)) ggX9_save_X6_size
theorem dX9_save_0 : decode cX9_save 0 = .ok (.aload_n 0, 1) := by decide +kernel
theorem dX9_save_1 : decode cX9_save 1 = .ok (.getfield 16, 3) := by decide +kernel
theorem dX9_save_4 : decode cX9_save 4 = .ok (.aload_n 0, 1) := by decide +kernel
theorem dX9_save_5 : decode cX9_save 5 = .ok (.getfield 10, 3) := by decide +kernel
theorem dX9_save_8 : decode cX9_save 8 = .ok (.invokevirtual 82, 3) := by decide +kernel
theorem dX9_save_11 : decode cX9_save 11 = .ok (.aload_n 0, 1) := by decide +kernel
theorem dX9_save_12 : decode cX9_save 12 = .ok (.iconst 1, 1) := by decide +kernel
theorem dX9_save_13 : decode cX9_save 13 = .ok (.putfield 235, 3) := by decide +kernel
theorem dX9_save_16 : decode cX9_save 16 = .ok (.aload_n 0, 1) := by decide +kernel
theorem dX9_save_17 : decode cX9_save 17 = .ok (.getfield 10, 3) := by decide +kernel
theorem dX9_save_20 : decode cX9_save 20 = .ok (.invokevirtual 116, 3) := by decide +kernel
theorem dX9_save_23 : decode cX9_save 23 = .ok (.ireturn, 1) := by decide +kernel
set_option maxRecDepth 20000 in
theorem ggX9_restore_X0_record : GoodIn wsX9_restore wsX0_record := goodIn_r _ [9, 10, 11, 12, 13, 8, 14, 15, 16, 17, 18, 19, 20, 21, 22, 23, 24, 25, 26, 27, 28, 29, 30, 31, 46, 47, 48, 49] (by decide +kernel) (by decide +kernel)
set_option maxRecDepth 20000 in
theorem gX9_restore_X0_record : GoodIn wsX9_restore (wsV RX9 69 RX0 yX0_record wsX0_record) := goodIn_app (goodIn_of _ (by decide +kernel)) ggX9_restore_X0_record
set_option maxRecDepth 20000 in
theorem ggX9_restore_X6_copyFrom : GoodIn wsX9_restore wsX6_copyFrom := goodIn_r _ [24, 25, 26, 27, 28, 29, 30, 31, 48, 49] (by decide +kernel) (by decide +kernel)
set_option maxRecDepth 20000 in
theorem gX9_restore_X6_copyFrom : GoodIn wsX9_restore (wsV RX9 82 RX6 yX6_copyFrom wsX6_copyFrom) := goodIn_app (goodIn_of _ (by decide +kernel)) ggX9_restore_X6_copyFrom
set_option maxRecDepth 20000 in
theorem ggX9_restore_X6_size : GoodIn wsX9_restore wsX6_size := goodIn_r _ [36, 25, 48, 49] (by decide +kernel) (by decide +kernel)
set_option maxRecDepth 20000 in
theorem gX9_restore_X6_size : GoodIn wsX9_restore (wsV RX9 116 RX6 yX6_size wsX6_size) := goodIn_app (goodIn_of _ (by decide +kernel)) ggX9_restore_X6_size
theorem dX9_restore_0 : decode cX9_restore 0 = .ok (.aload_n 0, 1) := by decide +kernel
theorem dX9_restore_1 : decode cX9_restore 1 = .ok (.getfield 235, 3) := by decide +kernel
theorem dX9_restore_4 : decode cX9_restore 4 = .ok (.ifCond .ne 6, 3) := by decide +kernel
theorem dX9_restore_7 : decode cX9_restore 7 = .ok (.bipush (-2), 2) := by decide +kernel
theorem dX9_restore_9 : decode cX9_restore 9 = .ok (.ireturn, 1) := by decide +kernel
theorem dX9_restore_10 : decode cX9_restore 10 = .ok (.aload_n 0, 1) := by decide +kernel
theorem dX9_restore_11 : decode cX9_restore 11 = .ok (.getfield 25, 3) := by decide +kernel
theorem dX9_restore_14 : decode cX9_restore 14 = .ok (.aload_n 0, 1) := by decide +kernel
theorem dX9_restore_15 : decode cX9_restore 15 = .ok (.getfield 10, 3) := by decide +kernel
theorem dX9_restore_18 : decode cX9_restore 18 = .ok (.invokevirtual 69, 3) := by decide +kernel
theorem dX9_restore_21 : decode cX9_restore 21 = .ok (.aload_n 0, 1) := by decide +kernel
theorem dX9_restore_22 : decode cX9_restore 22 = .ok (.getfield 10, 3) := by decide +kernel
theorem dX9_restore_25 : decode cX9_restore 25 = .ok (.aload_n 0, 1) := by decide +kernel
theorem dX9_restore_26 : decode cX9_restore 26 = .ok (.getfield 16, 3) := by decide +kernel
theorem dX9_restore_29 : decode cX9_restore 29 = .ok (.invokevirtual 82, 3) := by decide +kernel
theorem dX9_restore_32 : decode cX9_restore 32 = .ok (.aload_n 0, 1) := by decide +kernel
theorem dX9_restore_33 : decode cX9_restore 33 = .ok (.getfield 10, 3) := by decide +kernel
theorem dX9_restore_36 : decode cX9_restore 36 = .ok (.invokevirtual 116, 3) := by decide +kernel
theorem dX9_restore_39 : decode cX9_restore 39 = .ok (.ireturn, 1) := by decide +kernel
set_option maxRecDepth 20000 in
theorem ggX9_changeToTrial_X6_differencesTo : GoodIn wsX9_changeToTrial wsX6_differencesTo := goodIn_r _ [8, 9, 10, 11, 12, 7, 13, 14, 49, 50] (by decide +kernel) (by decide +kernel)
set_option maxRecDepth 20000 in
theorem gX9_changeToTrial_X6_differencesTo : GoodIn wsX9_changeToTrial (wsV RX9 239 RX6 yX6_differencesTo wsX6_differencesTo) := goodIn_app (goodIn_of _ (by decide +kernel)) ggX9_changeToTrial_X6_differencesTo
set_option maxRecDepth 20000 in
theorem ggX9_changeToTrial_X0_record : GoodIn wsX9_changeToTrial wsX0_record := goodIn_r _ [19, 20, 21, 22, 23, 18, 24, 25, 26, 27, 28, 29, 30, 31, 32, 7, 33, 9, 14, 34, 35, 36, 37, 38, 51, 52, 49, 50] (by decide +kernel) (by decide +kernel)
set_option maxRecDepth 20000 in
theorem gX9_changeToTrial_X0_record : GoodIn wsX9_changeToTrial (wsV RX9 69 RX0 yX0_record wsX0_record) := goodIn_app (goodIn_of _ (by decide +kernel)) ggX9_changeToTrial_X0_record
set_option maxRecDepth 20000 in
theorem ggX9_changeToTrial_X6_copyFrom : GoodIn wsX9_changeToTrial wsX6_copyFrom := goodIn_r _ [33, 9, 14, 34, 35, 36, 37, 38, 49, 50] (by decide +kernel) (by decide +kernel)
set_option maxRecDepth 20000 in
theorem gX9_changeToTrial_X6_copyFrom : GoodIn wsX9_changeToTrial (wsV RX9 82 RX6 yX6_copyFrom wsX6_copyFrom) := goodIn_app (goodIn_of _ (by decide +kernel)) ggX9_changeToTrial_X6_copyFrom
theorem dX9_changeToTrial_0 : decode cX9_changeToTrial 0 = .ok (.aload_n 0, 1) := by decide +kernel
theorem dX9_changeToTrial_1 : decode cX9_changeToTrial 1 = .ok (.getfield 10, 3) := by decide +kernel
theorem dX9_changeToTrial_4 : decode cX9_changeToTrial 4 = .ok (.aload_n 0, 1) := by decide +kernel
theorem dX9_changeToTrial_5 : decode cX9_changeToTrial 5 = .ok (.getfield 19, 3) := by decide +kernel
theorem dX9_changeToTrial_8 : decode cX9_changeToTrial 8 = .ok (.invokevirtual 239, 3) := by decide +kernel
theorem dX9_changeToTrial_11 : decode cX9_changeToTrial 11 = .ok (.istore_n 1, 1) := by decide +kernel
theorem dX9_changeToTrial_12 : decode cX9_changeToTrial 12 = .ok (.aload_n 0, 1) := by decide +kernel
theorem dX9_changeToTrial_13 : decode cX9_changeToTrial 13 = .ok (.getfield 25, 3) := by decide +kernel
theorem dX9_changeToTrial_16 : decode cX9_changeToTrial 16 = .ok (.aload_n 0, 1) := by decide +kernel
theorem dX9_changeToTrial_17 : decode cX9_changeToTrial 17 = .ok (.getfield 10, 3) := by decide +kernel
theorem dX9_changeToTrial_20 : decode cX9_changeToTrial 20 = .ok (.invokevirtual 69, 3) := by decide +kernel
theorem dX9_changeToTrial_23 : decode cX9_changeToTrial 23 = .ok (.aload_n 0, 1) := by decide +kernel
theorem dX9_changeToTrial_24 : decode cX9_changeToTrial 24 = .ok (.getfield 10, 3) := by decide +kernel
theorem dX9_changeToTrial_27 : decode cX9_changeToTrial 27 = .ok (.aload_n 0, 1) := by decide +kernel
theorem dX9_changeToTrial_28 : decode cX9_changeToTrial 28 = .ok (.getfield 19, 3) := by decide +kernel
theorem dX9_changeToTrial_31 : decode cX9_changeToTrial 31 = .ok (.invokevirtual 82, 3) := by decide +kernel
theorem dX9_changeToTrial_34 : decode cX9_changeToTrial 34 = .ok (.iload_n 1, 1) := by decide +kernel
theorem dX9_changeToTrial_35 : decode cX9_changeToTrial 35 = .ok (.ireturn, 1) := by decide +kernel
set_option maxRecDepth 20000 in
theorem ggX9_areUnlikeTokens_X6_has : GoodIn wsX9_areUnlikeTokens wsX6_has := goodIn_r _ [6, 7, 17, 18] (by decide +kernel) (by decide +kernel)
set_option maxRecDepth 20000 in
theorem gX9_areUnlikeTokens_X6_has : GoodIn wsX9_areUnlikeTokens (wsV RX9 134 RX6 yX6_has wsX6_has) := goodIn_app (goodIn_of _ (by decide +kernel)) ggX9_areUnlikeTokens_X6_has
theorem dX9_areUnlikeTokens_0 : decode cX9_areUnlikeTokens 0 = .ok (.iload_n 1, 1) := by decide +kernel
theorem dX9_areUnlikeTokens_1 : decode cX9_areUnlikeTokens 1 = .ok (.iload_n 2, 1) := by decide +kernel
theorem dX9_areUnlikeTokens_2 : decode cX9_areUnlikeTokens 2 = .ok (.if_icmp .eq 29, 3) := by decide +kernel
theorem dX9_areUnlikeTokens_5 : decode cX9_areUnlikeTokens 5 = .ok (.aload_n 0, 1) := by decide +kernel
theorem dX9_areUnlikeTokens_6 : decode cX9_areUnlikeTokens 6 = .ok (.getfield 10, 3) := by decide +kernel
theorem dX9_areUnlikeTokens_9 : decode cX9_areUnlikeTokens 9 = .ok (.iload_n 1, 1) := by decide +kernel
theorem dX9_areUnlikeTokens_10 : decode cX9_areUnlikeTokens 10 = .ok (.invokevirtual 134, 3) := by decide +kernel
theorem dX9_areUnlikeTokens_13 : decode cX9_areUnlikeTokens 13 = .ok (.ifCond .eq 18, 3) := by decide +kernel
theorem dX9_areUnlikeTokens_16 : decode cX9_areUnlikeTokens 16 = .ok (.aload_n 0, 1) := by decide +kernel
theorem dX9_areUnlikeTokens_17 : decode cX9_areUnlikeTokens 17 = .ok (.getfield 10, 3) := by decide +kernel
theorem dX9_areUnlikeTokens_20 : decode cX9_areUnlikeTokens 20 = .ok (.iload_n 2, 1) := by decide +kernel
theorem dX9_areUnlikeTokens_21 : decode cX9_areUnlikeTokens 21 = .ok (.invokevirtual 134, 3) := by decide +kernel
theorem dX9_areUnlikeTokens_24 : decode cX9_areUnlikeTokens 24 = .ok (.ifCond .eq 7, 3) := by decide +kernel
theorem dX9_areUnlikeTokens_27 : decode cX9_areUnlikeTokens 27 = .ok (.iconst 1, 1) := by decide +kernel
theorem dX9_areUnlikeTokens_28 : decode cX9_areUnlikeTokens 28 = .ok (.goto 4, 3) := by decide +kernel
theorem dX9_areUnlikeTokens_31 : decode cX9_areUnlikeTokens 31 = .ok (.iconst 0, 1) := by decide +kernel
theorem dX9_areUnlikeTokens_32 : decode cX9_areUnlikeTokens 32 = .ok (.ireturn, 1) := by decide +kernel
theorem dX9_isWithin_0 : decode cX9_isWithin 0 = .ok (.iload_n 0, 1) := by decide +kernel
theorem dX9_isWithin_1 : decode cX9_isWithin 1 = .ok (.iload_n 1, 1) := by decide +kernel
theorem dX9_isWithin_2 : decode cX9_isWithin 2 = .ok (.if_icmp .lt 12, 3) := by decide +kernel
theorem dX9_isWithin_5 : decode cX9_isWithin 5 = .ok (.iload_n 0, 1) := by decide +kernel
theorem dX9_isWithin_6 : decode cX9_isWithin 6 = .ok (.iload_n 2, 1) := by decide +kernel
theorem dX9_isWithin_7 : decode cX9_isWithin 7 = .ok (.if_icmp .gt 7, 3) := by decide +kernel
theorem dX9_isWithin_10 : decode cX9_isWithin 10 = .ok (.iconst 1, 1) := by decide +kernel
theorem dX9_isWithin_11 : decode cX9_isWithin 11 = .ok (.goto 4, 3) := by decide +kernel
theorem dX9_isWithin_14 : decode cX9_isWithin 14 = .ok (.iconst 0, 1) := by decide +kernel
theorem dX9_isWithin_15 : decode cX9_isWithin 15 = .ok (.ireturn, 1) := by decide +kernel
theorem dX9_haveCommonDivisor_0 : decode cX9_haveCommonDivisor 0 = .ok (.iconst 2, 1) := by decide +kernel
theorem dX9_haveCommonDivisor_1 : decode cX9_haveCommonDivisor 1 = .ok (.istore_n 2, 1) := by decide +kernel
theorem dX9_haveCommonDivisor_2 : decode cX9_haveCommonDivisor 2 = .ok (.iload_n 2, 1) := by decide +kernel
theorem dX9_haveCommonDivisor_3 : decode cX9_haveCommonDivisor 3 = .ok (.bipush 8, 2) := by decide +kernel
theorem dX9_haveCommonDivisor_5 : decode cX9_haveCommonDivisor 5 = .ok (.if_icmp .gt 23, 3) := by decide +kernel
theorem dX9_haveCommonDivisor_8 : decode cX9_haveCommonDivisor 8 = .ok (.iload_n 0, 1) := by decide +kernel
theorem dX9_haveCommonDivisor_9 : decode cX9_haveCommonDivisor 9 = .ok (.iload_n 2, 1) := by decide +kernel
theorem dX9_haveCommonDivisor_10 : decode cX9_haveCommonDivisor 10 = .ok (.irem, 1) := by decide +kernel
theorem dX9_haveCommonDivisor_11 : decode cX9_haveCommonDivisor 11 = .ok (.ifCond .ne 11, 3) := by decide +kernel
theorem dX9_haveCommonDivisor_14 : decode cX9_haveCommonDivisor 14 = .ok (.iload_n 1, 1) := by decide +kernel
theorem dX9_haveCommonDivisor_15 : decode cX9_haveCommonDivisor 15 = .ok (.iload_n 2, 1) := by decide +kernel
theorem dX9_haveCommonDivisor_16 : decode cX9_haveCommonDivisor 16 = .ok (.irem, 1) := by decide +kernel
theorem dX9_haveCommonDivisor_17 : decode cX9_haveCommonDivisor 17 = .ok (.ifCond .ne 5, 3) := by decide +kernel
theorem dX9_haveCommonDivisor_20 : decode cX9_haveCommonDivisor 20 = .ok (.iconst 1, 1) := by decide +kernel
theorem dX9_haveCommonDivisor_21 : decode cX9_haveCommonDivisor 21 = .ok (.ireturn, 1) := by decide +kernel
theorem dX9_haveCommonDivisor_22 : decode cX9_haveCommonDivisor 22 = .ok (.iinc 2 1, 3) := by decide +kernel
theorem dX9_haveCommonDivisor_25 : decode cX9_haveCommonDivisor 25 = .ok (.goto (-23), 3) := by decide +kernel
theorem dX9_haveCommonDivisor_28 : decode cX9_haveCommonDivisor 28 = .ok (.iconst 0, 1) := by decide +kernel
theorem dX9_haveCommonDivisor_29 : decode cX9_haveCommonDivisor 29 = .ok (.ireturn, 1) := by decide +kernel
theorem dX9_hasBit_0 : decode cX9_hasBit 0 = .ok (.iload_n 0, 1) := by decide +kernel
theorem dX9_hasBit_1 : decode cX9_hasBit 1 = .ok (.iload_n 1, 1) := by decide +kernel
theorem dX9_hasBit_2 : decode cX9_hasBit 2 = .ok (.ishr, 1) := by decide +kernel
theorem dX9_hasBit_3 : decode cX9_hasBit 3 = .ok (.iconst 1, 1) := by decide +kernel
theorem dX9_hasBit_4 : decode cX9_hasBit 4 = .ok (.iand, 1) := by decide +kernel
theorem dX9_hasBit_5 : decode cX9_hasBit 5 = .ok (.iconst 1, 1) := by decide +kernel
theorem dX9_hasBit_6 : decode cX9_hasBit 6 = .ok (.if_icmp .ne 7, 3) := by decide +kernel
theorem dX9_hasBit_9 : decode cX9_hasBit 9 = .ok (.iconst 1, 1) := by decide +kernel
theorem dX9_hasBit_10 : decode cX9_hasBit 10 = .ok (.goto 4, 3) := by decide +kernel
theorem dX9_hasBit_13 : decode cX9_hasBit 13 = .ok (.iconst 0, 1) := by decide +kernel
theorem dX9_hasBit_14 : decode cX9_hasBit 14 = .ok (.ireturn, 1) := by decide +kernel
theorem dX9_get_0 : decode cX9_get 0 = .ok (.iload_n 1, 1) := by decide +kernel
theorem dX9_get_1 : decode cX9_get 1 = .ok (.ifCond .lt 15, 3) := by decide +kernel
theorem dX9_get_4 : decode cX9_get 4 = .ok (.iload_n 1, 1) := by decide +kernel
theorem dX9_get_5 : decode cX9_get 5 = .ok (.aload_n 0, 1) := by decide +kernel
theorem dX9_get_6 : decode cX9_get 6 = .ok (.arraylength, 1) := by decide +kernel
theorem dX9_get_7 : decode cX9_get 7 = .ok (.if_icmp .ge 9, 3) := by decide +kernel
theorem dX9_get_10 : decode cX9_get 10 = .ok (.aload_n 0, 1) := by decide +kernel
theorem dX9_get_11 : decode cX9_get 11 = .ok (.iload_n 1, 1) := by decide +kernel
theorem dX9_get_12 : decode cX9_get 12 = .ok (.iaload, 1) := by decide +kernel
theorem dX9_get_13 : decode cX9_get 13 = .ok (.goto 4, 3) := by decide +kernel
theorem dX9_get_16 : decode cX9_get 16 = .ok (.iconst 0, 1) := by decide +kernel
theorem dX9_get_17 : decode cX9_get 17 = .ok (.ireturn, 1) := by decide +kernel
theorem dX9_put_0 : decode cX9_put 0 = .ok (.iload_n 1, 1) := by decide +kernel
theorem dX9_put_1 : decode cX9_put 1 = .ok (.ifCond .lt 13, 3) := by decide +kernel
theorem dX9_put_4 : decode cX9_put 4 = .ok (.iload_n 1, 1) := by decide +kernel
theorem dX9_put_5 : decode cX9_put 5 = .ok (.aload_n 0, 1) := by decide +kernel
theorem dX9_put_6 : decode cX9_put 6 = .ok (.arraylength, 1) := by decide +kernel
theorem dX9_put_7 : decode cX9_put 7 = .ok (.if_icmp .ge 7, 3) := by decide +kernel
theorem dX9_put_10 : decode cX9_put 10 = .ok (.aload_n 0, 1) := by decide +kernel
theorem dX9_put_11 : decode cX9_put 11 = .ok (.iload_n 1, 1) := by decide +kernel
theorem dX9_put_12 : decode cX9_put 12 = .ok (.iload_n 2, 1) := by decide +kernel
theorem dX9_put_13 : decode cX9_put 13 = .ok (.iastore, 1) := by decide +kernel
theorem dX9_put_14 : decode cX9_put 14 = .ok (.return_, 1) := by decide +kernel
set_option maxRecDepth 20000 in
theorem ggX10_init_X10_lays : GoodIn wsX10_init wsX10_lays := goodIn_r _ [18, 5, 19, 20, 17, 21, 22, 23, 24, 25, 26, 27, 28, 29, 30, 31, 32, 33, 34, 35] (by decide +kernel) (by decide +kernel)
set_option maxRecDepth 20000 in
theorem gX10_init_X10_lays : GoodIn wsX10_init (wsV RX10 37 RX10 yX10_lays wsX10_lays) := goodIn_app (goodIn_of _ (by decide +kernel)) ggX10_init_X10_lays
theorem dX10_init_0 : decode cX10_init 0 = .ok (.aload_n 0, 1) := by decide +kernel
theorem dX10_init_1 : decode cX10_init 1 = .ok (.invokespecial 1, 3) := by decide +kernel
theorem dX10_init_4 : decode cX10_init 4 = .ok (.aload_n 0, 1) := by decide +kernel
theorem dX10_init_5 : decode cX10_init 5 = .ok (.bipush 65, 2) := by decide +kernel
theorem dX10_init_7 : decode cX10_init 7 = .ok (.newarray .int, 2) := by decide +kernel
theorem dX10_init_9 : decode cX10_init 9 = .ok (.putfield 7, 3) := by decide +kernel
theorem dX10_init_12 : decode cX10_init 12 = .ok (.aload_n 0, 1) := by decide +kernel
theorem dX10_init_13 : decode cX10_init 13 = .ok (.bipush 65, 2) := by decide +kernel
theorem dX10_init_15 : decode cX10_init 15 = .ok (.newarray .int, 2) := by decide +kernel
theorem dX10_init_17 : decode cX10_init 17 = .ok (.putfield 13, 3) := by decide +kernel
theorem dX10_init_20 : decode cX10_init 20 = .ok (.aload_n 0, 1) := by decide +kernel
theorem dX10_init_21 : decode cX10_init 21 = .ok (.sipush 260, 3) := by decide +kernel
theorem dX10_init_24 : decode cX10_init 24 = .ok (.newarray .int, 2) := by decide +kernel
theorem dX10_init_26 : decode cX10_init 26 = .ok (.putfield 16, 3) := by decide +kernel
theorem dX10_init_29 : decode cX10_init 29 = .ok (.aload_n 0, 1) := by decide +kernel
theorem dX10_init_30 : decode cX10_init 30 = .ok (.bipush 65, 2) := by decide +kernel
theorem dX10_init_32 : decode cX10_init 32 = .ok (.newarray .int, 2) := by decide +kernel
theorem dX10_init_34 : decode cX10_init 34 = .ok (.putfield 19, 3) := by decide +kernel
theorem dX10_init_37 : decode cX10_init 37 = .ok (.aload_n 0, 1) := by decide +kernel
theorem dX10_init_38 : decode cX10_init 38 = .ok (.bipush 80, 2) := by decide +kernel
theorem dX10_init_40 : decode cX10_init 40 = .ok (.newarray .int, 2) := by decide +kernel
theorem dX10_init_42 : decode cX10_init 42 = .ok (.putfield 22, 3) := by decide +kernel
theorem dX10_init_45 : decode cX10_init 45 = .ok (.aload_n 0, 1) := by decide +kernel
theorem dX10_init_46 : decode cX10_init 46 = .ok (.sipush 320, 3) := by decide +kernel
theorem dX10_init_49 : decode cX10_init 49 = .ok (.newarray .int, 2) := by decide +kernel
theorem dX10_init_51 : decode cX10_init 51 = .ok (.putfield 25, 3) := by decide +kernel
theorem dX10_init_54 : decode cX10_init 54 = .ok (.aload_n 0, 1) := by decide +kernel
theorem dX10_init_55 : decode cX10_init 55 = .ok (.bipush 81, 2) := by decide +kernel
theorem dX10_init_57 : decode cX10_init 57 = .ok (.newarray .int, 2) := by decide +kernel
theorem dX10_init_59 : decode cX10_init 59 = .ok (.putfield 28, 3) := by decide +kernel
theorem dX10_init_62 : decode cX10_init 62 = .ok (.aload_n 0, 1) := by decide +kernel
theorem dX10_init_63 : decode cX10_init 63 = .ok (.bipush 81, 2) := by decide +kernel
theorem dX10_init_65 : decode cX10_init 65 = .ok (.newarray .int, 2) := by decide +kernel
theorem dX10_init_67 : decode cX10_init 67 = .ok (.putfield 31, 3) := by decide +kernel
theorem dX10_init_70 : decode cX10_init 70 = .ok (.aload_n 0, 1) := by decide +kernel
theorem dX10_init_71 : decode cX10_init 71 = .ok (.sipush 392, 3) := by decide +kernel
theorem dX10_init_74 : decode cX10_init 74 = .ok (.newarray .int, 2) := by decide +kernel
theorem dX10_init_76 : decode cX10_init 76 = .ok (.putfield 34, 3) := by decide +kernel
theorem dX10_init_79 : decode cX10_init 79 = .ok (.aload_n 0, 1) := by decide +kernel
theorem dX10_init_80 : decode cX10_init 80 = .ok (.iconst 4, 1) := by decide +kernel
theorem dX10_init_81 : decode cX10_init 81 = .ok (.iconst 1, 1) := by decide +kernel
theorem dX10_init_82 : decode cX10_init 82 = .ok (.invokevirtual 37, 3) := by decide +kernel
theorem dX10_init_85 : decode cX10_init 85 = .ok (.return_, 1) := by decide +kernel
theorem dX10_in_0 : decode cX10_in 0 = .ok (.iload_n 0, 1) := by decide +kernel
theorem dX10_in_1 : decode cX10_in 1 = .ok (.iload_n 1, 1) := by decide +kernel
theorem dX10_in_2 : decode cX10_in 2 = .ok (.if_icmp .lt 12, 3) := by decide +kernel
theorem dX10_in_5 : decode cX10_in 5 = .ok (.iload_n 0, 1) := by decide +kernel
theorem dX10_in_6 : decode cX10_in 6 = .ok (.iload_n 2, 1) := by decide +kernel
theorem dX10_in_7 : decode cX10_in 7 = .ok (.if_icmp .gt 7, 3) := by decide +kernel
theorem dX10_in_10 : decode cX10_in 10 = .ok (.iconst 1, 1) := by decide +kernel
theorem dX10_in_11 : decode cX10_in 11 = .ok (.goto 4, 3) := by decide +kernel
theorem dX10_in_14 : decode cX10_in 14 = .ok (.iconst 0, 1) := by decide +kernel
theorem dX10_in_15 : decode cX10_in 15 = .ok (.ireturn, 1) := by decide +kernel
set_option maxRecDepth 20000 in
theorem ggX10_isToken_X10_in : GoodIn wsX10_isToken wsX10_in := goodIn_r _ [5] (by decide +kernel) (by decide +kernel)
set_option maxRecDepth 20000 in
theorem gX10_isToken_X10_in : GoodIn wsX10_isToken (va_wsS RX10 41 yX10_in wsX10_in) := goodIn_app (goodIn_of _ (by decide +kernel)) ggX10_isToken_X10_in
theorem dX10_isToken_0 : decode cX10_isToken 0 = .ok (.iload_n 1, 1) := by decide +kernel
theorem dX10_isToken_1 : decode cX10_isToken 1 = .ok (.iconst 0, 1) := by decide +kernel
theorem dX10_isToken_2 : decode cX10_isToken 2 = .ok (.aload_n 0, 1) := by decide +kernel
theorem dX10_isToken_3 : decode cX10_isToken 3 = .ok (.getfield 7, 3) := by decide +kernel
theorem dX10_isToken_6 : decode cX10_isToken 6 = .ok (.iconst 0, 1) := by decide +kernel
theorem dX10_isToken_7 : decode cX10_isToken 7 = .ok (.iaload, 1) := by decide +kernel
theorem dX10_isToken_8 : decode cX10_isToken 8 = .ok (.iconst 1, 1) := by decide +kernel
theorem dX10_isToken_9 : decode cX10_isToken 9 = .ok (.isub, 1) := by decide +kernel
theorem dX10_isToken_10 : decode cX10_isToken 10 = .ok (.invokestatic 41, 3) := by decide +kernel
theorem dX10_isToken_13 : decode cX10_isToken 13 = .ok (.ireturn, 1) := by decide +kernel
theorem dX10_at_0 : decode cX10_at 0 = .ok (.iconst 1, 1) := by decide +kernel
theorem dX10_at_1 : decode cX10_at 1 = .ok (.bipush 8, 2) := by decide +kernel
theorem dX10_at_3 : decode cX10_at 3 = .ok (.iload_n 0, 1) := by decide +kernel
theorem dX10_at_4 : decode cX10_at 4 = .ok (.imul, 1) := by decide +kernel
theorem dX10_at_5 : decode cX10_at 5 = .ok (.iadd, 1) := by decide +kernel
theorem dX10_at_6 : decode cX10_at 6 = .ok (.iload_n 1, 1) := by decide +kernel
theorem dX10_at_7 : decode cX10_at 7 = .ok (.iadd, 1) := by decide +kernel
theorem dX10_at_8 : decode cX10_at 8 = .ok (.ireturn, 1) := by decide +kernel
set_option maxRecDepth 20000 in
theorem ggX10_plain_X10_at : GoodIn wsX10_plain wsX10_at := goodIn_r _ [5] (by decide +kernel) (by decide +kernel)
set_option maxRecDepth 20000 in
theorem gX10_plain_X10_at : GoodIn wsX10_plain (va_wsS RX10 45 yX10_at wsX10_at) := goodIn_app (goodIn_of _ (by decide +kernel)) ggX10_plain_X10_at
theorem dX10_plain_0 : decode cX10_plain 0 = .ok (.aload_n 0, 1) := by decide +kernel
theorem dX10_plain_1 : decode cX10_plain 1 = .ok (.getfield 7, 3) := by decide +kernel
theorem dX10_plain_4 : decode cX10_plain 4 = .ok (.iload_n 1, 1) := by decide +kernel
theorem dX10_plain_5 : decode cX10_plain 5 = .ok (.iload_n 2, 1) := by decide +kernel
theorem dX10_plain_6 : decode cX10_plain 6 = .ok (.invokestatic 45, 3) := by decide +kernel
theorem dX10_plain_9 : decode cX10_plain 9 = .ok (.iaload, 1) := by decide +kernel
theorem dX10_plain_10 : decode cX10_plain 10 = .ok (.ireturn, 1) := by decide +kernel
theorem dX10_bits_0 : decode cX10_bits 0 = .ok (.iconst 0, 1) := by decide +kernel
theorem dX10_bits_1 : decode cX10_bits 1 = .ok (.istore_n 1, 1) := by decide +kernel
theorem dX10_bits_2 : decode cX10_bits 2 = .ok (.iconst 0, 1) := by decide +kernel
theorem dX10_bits_3 : decode cX10_bits 3 = .ok (.istore_n 2, 1) := by decide +kernel
theorem dX10_bits_4 : decode cX10_bits 4 = .ok (.iload_n 2, 1) := by decide +kernel
theorem dX10_bits_5 : decode cX10_bits 5 = .ok (.bipush 8, 2) := by decide +kernel
theorem dX10_bits_7 : decode cX10_bits 7 = .ok (.if_icmp .ge 17, 3) := by decide +kernel
theorem dX10_bits_10 : decode cX10_bits 10 = .ok (.iload_n 1, 1) := by decide +kernel
theorem dX10_bits_11 : decode cX10_bits 11 = .ok (.iload_n 0, 1) := by decide +kernel
theorem dX10_bits_12 : decode cX10_bits 12 = .ok (.iload_n 2, 1) := by decide +kernel
theorem dX10_bits_13 : decode cX10_bits 13 = .ok (.ishr, 1) := by decide +kernel
theorem dX10_bits_14 : decode cX10_bits 14 = .ok (.iconst 1, 1) := by decide +kernel
theorem dX10_bits_15 : decode cX10_bits 15 = .ok (.iand, 1) := by decide +kernel
theorem dX10_bits_16 : decode cX10_bits 16 = .ok (.iadd, 1) := by decide +kernel
theorem dX10_bits_17 : decode cX10_bits 17 = .ok (.istore_n 1, 1) := by decide +kernel
theorem dX10_bits_18 : decode cX10_bits 18 = .ok (.iinc 2 1, 3) := by decide +kernel
theorem dX10_bits_21 : decode cX10_bits 21 = .ok (.goto (-17), 3) := by decide +kernel
theorem dX10_bits_24 : decode cX10_bits 24 = .ok (.iload_n 1, 1) := by decide +kernel
theorem dX10_bits_25 : decode cX10_bits 25 = .ok (.ireturn, 1) := by decide +kernel
set_option maxRecDepth 20000 in
theorem ggX10_lays_X10_at : GoodIn wsX10_lays wsX10_at := goodIn_r _ [5] (by decide +kernel) (by decide +kernel)
set_option maxRecDepth 20000 in
theorem gX10_lays_X10_at : GoodIn wsX10_lays (va_wsS RX10 45 yX10_at wsX10_at) := goodIn_app (goodIn_of _ (by decide +kernel)) ggX10_lays_X10_at
theorem dX10_lays_0 : decode cX10_lays 0 = .ok (.aload_n 0, 1) := by decide +kernel
theorem dX10_lays_1 : decode cX10_lays 1 = .ok (.getfield 7, 3) := by decide +kernel
theorem dX10_lays_4 : decode cX10_lays 4 = .ok (.iconst 0, 1) := by decide +kernel
theorem dX10_lays_5 : decode cX10_lays 5 = .ok (.iload_n 1, 1) := by decide +kernel
theorem dX10_lays_6 : decode cX10_lays 6 = .ok (.iastore, 1) := by decide +kernel
theorem dX10_lays_7 : decode cX10_lays 7 = .ok (.iconst 0, 1) := by decide +kernel
theorem dX10_lays_8 : decode cX10_lays 8 = .ok (.istore_n 3, 1) := by decide +kernel
theorem dX10_lays_9 : decode cX10_lays 9 = .ok (.iload_n 3, 1) := by decide +kernel
theorem dX10_lays_10 : decode cX10_lays 10 = .ok (.bipush 8, 2) := by decide +kernel
theorem dX10_lays_12 : decode cX10_lays 12 = .ok (.if_icmp .ge 59, 3) := by decide +kernel
theorem dX10_lays_15 : decode cX10_lays 15 = .ok (.iconst 0, 1) := by decide +kernel
theorem dX10_lays_16 : decode cX10_lays 16 = .ok (.istore 4, 2) := by decide +kernel
theorem dX10_lays_18 : decode cX10_lays 18 = .ok (.iload 4, 2) := by decide +kernel
theorem dX10_lays_20 : decode cX10_lays 20 = .ok (.bipush 8, 2) := by decide +kernel
theorem dX10_lays_22 : decode cX10_lays 22 = .ok (.if_icmp .ge 43, 3) := by decide +kernel
theorem dX10_lays_25 : decode cX10_lays 25 = .ok (.aload_n 0, 1) := by decide +kernel
theorem dX10_lays_26 : decode cX10_lays 26 = .ok (.getfield 7, 3) := by decide +kernel
theorem dX10_lays_29 : decode cX10_lays 29 = .ok (.iload_n 3, 1) := by decide +kernel
theorem dX10_lays_30 : decode cX10_lays 30 = .ok (.iload 4, 2) := by decide +kernel
theorem dX10_lays_32 : decode cX10_lays 32 = .ok (.invokestatic 45, 3) := by decide +kernel
theorem dX10_lays_35 : decode cX10_lays 35 = .ok (.iload_n 3, 1) := by decide +kernel
theorem dX10_lays_36 : decode cX10_lays 36 = .ok (.iload_n 1, 1) := by decide +kernel
theorem dX10_lays_37 : decode cX10_lays 37 = .ok (.if_icmp .ge 20, 3) := by decide +kernel
theorem dX10_lays_40 : decode cX10_lays 40 = .ok (.iload 4, 2) := by decide +kernel
theorem dX10_lays_42 : decode cX10_lays 42 = .ok (.iload_n 1, 1) := by decide +kernel
theorem dX10_lays_43 : decode cX10_lays 43 = .ok (.if_icmp .ge 14, 3) := by decide +kernel
theorem dX10_lays_46 : decode cX10_lays 46 = .ok (.iload_n 2, 1) := by decide +kernel
theorem dX10_lays_47 : decode cX10_lays 47 = .ok (.iload_n 3, 1) := by decide +kernel
theorem dX10_lays_48 : decode cX10_lays 48 = .ok (.imul, 1) := by decide +kernel
theorem dX10_lays_49 : decode cX10_lays 49 = .ok (.iload 4, 2) := by decide +kernel
theorem dX10_lays_51 : decode cX10_lays 51 = .ok (.iadd, 1) := by decide +kernel
theorem dX10_lays_52 : decode cX10_lays 52 = .ok (.iload_n 1, 1) := by decide +kernel
theorem dX10_lays_53 : decode cX10_lays 53 = .ok (.irem, 1) := by decide +kernel
theorem dX10_lays_54 : decode cX10_lays 54 = .ok (.goto 4, 3) := by decide +kernel
theorem dX10_lays_57 : decode cX10_lays 57 = .ok (.iconst 0, 1) := by decide +kernel
theorem dX10_lays_58 : decode cX10_lays 58 = .ok (.iastore, 1) := by decide +kernel
theorem dX10_lays_59 : decode cX10_lays 59 = .ok (.iinc 4 1, 3) := by decide +kernel
theorem dX10_lays_62 : decode cX10_lays 62 = .ok (.goto (-44), 3) := by decide +kernel
theorem dX10_lays_65 : decode cX10_lays 65 = .ok (.iinc 3 1, 3) := by decide +kernel
theorem dX10_lays_68 : decode cX10_lays 68 = .ok (.goto (-59), 3) := by decide +kernel
theorem dX10_lays_71 : decode cX10_lays 71 = .ok (.return_, 1) := by decide +kernel
theorem dX10_records_0 : decode cX10_records 0 = .ok (.aload_n 0, 1) := by decide +kernel
theorem dX10_records_1 : decode cX10_records 1 = .ok (.getfield 49, 3) := by decide +kernel
theorem dX10_records_4 : decode cX10_records 4 = .ok (.iconst 4, 1) := by decide +kernel
theorem dX10_records_5 : decode cX10_records 5 = .ok (.if_icmp .ne 43, 3) := by decide +kernel
theorem dX10_records_8 : decode cX10_records 8 = .ok (.iconst 0, 1) := by decide +kernel
theorem dX10_records_9 : decode cX10_records 9 = .ok (.istore_n 1, 1) := by decide +kernel
theorem dX10_records_10 : decode cX10_records 10 = .ok (.iload_n 1, 1) := by decide +kernel
theorem dX10_records_11 : decode cX10_records 11 = .ok (.sipush 195, 3) := by decide +kernel
theorem dX10_records_14 : decode cX10_records 14 = .ok (.if_icmp .ge 24, 3) := by decide +kernel
theorem dX10_records_17 : decode cX10_records 17 = .ok (.aload_n 0, 1) := by decide +kernel
theorem dX10_records_18 : decode cX10_records 18 = .ok (.getfield 16, 3) := by decide +kernel
theorem dX10_records_21 : decode cX10_records 21 = .ok (.iload_n 1, 1) := by decide +kernel
theorem dX10_records_22 : decode cX10_records 22 = .ok (.aload_n 0, 1) := by decide +kernel
theorem dX10_records_23 : decode cX10_records 23 = .ok (.getfield 16, 3) := by decide +kernel
theorem dX10_records_26 : decode cX10_records 26 = .ok (.bipush 65, 2) := by decide +kernel
theorem dX10_records_28 : decode cX10_records 28 = .ok (.iload_n 1, 1) := by decide +kernel
theorem dX10_records_29 : decode cX10_records 29 = .ok (.iadd, 1) := by decide +kernel
theorem dX10_records_30 : decode cX10_records 30 = .ok (.iaload, 1) := by decide +kernel
theorem dX10_records_31 : decode cX10_records 31 = .ok (.iastore, 1) := by decide +kernel
theorem dX10_records_32 : decode cX10_records 32 = .ok (.iinc 1 1, 3) := by decide +kernel
theorem dX10_records_35 : decode cX10_records 35 = .ok (.goto (-25), 3) := by decide +kernel
theorem dX10_records_38 : decode cX10_records 38 = .ok (.aload_n 0, 1) := by decide +kernel
theorem dX10_records_39 : decode cX10_records 39 = .ok (.dup, 1) := by decide +kernel
theorem dX10_records_40 : decode cX10_records 40 = .ok (.getfield 49, 3) := by decide +kernel
theorem dX10_records_43 : decode cX10_records 43 = .ok (.iconst 1, 1) := by decide +kernel
theorem dX10_records_44 : decode cX10_records 44 = .ok (.isub, 1) := by decide +kernel
theorem dX10_records_45 : decode cX10_records 45 = .ok (.putfield 49, 3) := by decide +kernel
theorem dX10_records_48 : decode cX10_records 48 = .ok (.iconst 0, 1) := by decide +kernel
theorem dX10_records_49 : decode cX10_records 49 = .ok (.istore_n 1, 1) := by decide +kernel
theorem dX10_records_50 : decode cX10_records 50 = .ok (.iload_n 1, 1) := by decide +kernel
theorem dX10_records_51 : decode cX10_records 51 = .ok (.bipush 65, 2) := by decide +kernel
theorem dX10_records_53 : decode cX10_records 53 = .ok (.if_icmp .ge 41, 3) := by decide +kernel
theorem dX10_records_56 : decode cX10_records 56 = .ok (.aload_n 0, 1) := by decide +kernel
theorem dX10_records_57 : decode cX10_records 57 = .ok (.getfield 16, 3) := by decide +kernel
theorem dX10_records_60 : decode cX10_records 60 = .ok (.bipush 65, 2) := by decide +kernel
theorem dX10_records_62 : decode cX10_records 62 = .ok (.aload_n 0, 1) := by decide +kernel
theorem dX10_records_63 : decode cX10_records 63 = .ok (.getfield 49, 3) := by decide +kernel
theorem dX10_records_66 : decode cX10_records 66 = .ok (.imul, 1) := by decide +kernel
theorem dX10_records_67 : decode cX10_records 67 = .ok (.iload_n 1, 1) := by decide +kernel
theorem dX10_records_68 : decode cX10_records 68 = .ok (.iadd, 1) := by decide +kernel
theorem dX10_records_69 : decode cX10_records 69 = .ok (.aload_n 0, 1) := by decide +kernel
theorem dX10_records_70 : decode cX10_records 70 = .ok (.getfield 7, 3) := by decide +kernel
theorem dX10_records_73 : decode cX10_records 73 = .ok (.iload_n 1, 1) := by decide +kernel
theorem dX10_records_74 : decode cX10_records 74 = .ok (.iaload, 1) := by decide +kernel
theorem dX10_records_75 : decode cX10_records 75 = .ok (.iastore, 1) := by decide +kernel
theorem dX10_records_76 : decode cX10_records 76 = .ok (.aload_n 0, 1) := by decide +kernel
theorem dX10_records_77 : decode cX10_records 77 = .ok (.getfield 13, 3) := by decide +kernel
theorem dX10_records_80 : decode cX10_records 80 = .ok (.iload_n 1, 1) := by decide +kernel
theorem dX10_records_81 : decode cX10_records 81 = .ok (.aload_n 0, 1) := by decide +kernel
theorem dX10_records_82 : decode cX10_records 82 = .ok (.getfield 7, 3) := by decide +kernel
theorem dX10_records_85 : decode cX10_records 85 = .ok (.iload_n 1, 1) := by decide +kernel
theorem dX10_records_86 : decode cX10_records 86 = .ok (.iaload, 1) := by decide +kernel
theorem dX10_records_87 : decode cX10_records 87 = .ok (.iastore, 1) := by decide +kernel
theorem dX10_records_88 : decode cX10_records 88 = .ok (.iinc 1 1, 3) := by decide +kernel
theorem dX10_records_91 : decode cX10_records 91 = .ok (.goto (-41), 3) := by decide +kernel
theorem dX10_records_94 : decode cX10_records 94 = .ok (.aload_n 0, 1) := by decide +kernel
theorem dX10_records_95 : decode cX10_records 95 = .ok (.dup, 1) := by decide +kernel
theorem dX10_records_96 : decode cX10_records 96 = .ok (.getfield 49, 3) := by decide +kernel
theorem dX10_records_99 : decode cX10_records 99 = .ok (.iconst 1, 1) := by decide +kernel
theorem dX10_records_100 : decode cX10_records 100 = .ok (.iadd, 1) := by decide +kernel
theorem dX10_records_101 : decode cX10_records 101 = .ok (.putfield 49, 3) := by decide +kernel
theorem dX10_records_104 : decode cX10_records 104 = .ok (.return_, 1) := by decide +kernel
theorem dX10_others_0 : decode cX10_others 0 = .ok (.iconst 0, 1) := by decide +kernel
theorem dX10_others_1 : decode cX10_others 1 = .ok (.istore_n 1, 1) := by decide +kernel
theorem dX10_others_2 : decode cX10_others 2 = .ok (.iconst 1, 1) := by decide +kernel
theorem dX10_others_3 : decode cX10_others 3 = .ok (.istore_n 2, 1) := by decide +kernel
theorem dX10_others_4 : decode cX10_others 4 = .ok (.iload_n 2, 1) := by decide +kernel
theorem dX10_others_5 : decode cX10_others 5 = .ok (.bipush 65, 2) := by decide +kernel
theorem dX10_others_7 : decode cX10_others 7 = .ok (.if_icmp .ge 32, 3) := by decide +kernel
theorem dX10_others_10 : decode cX10_others 10 = .ok (.iload_n 1, 1) := by decide +kernel
theorem dX10_others_11 : decode cX10_others 11 = .ok (.aload_n 0, 1) := by decide +kernel
theorem dX10_others_12 : decode cX10_others 12 = .ok (.getfield 7, 3) := by decide +kernel
theorem dX10_others_15 : decode cX10_others 15 = .ok (.iload_n 2, 1) := by decide +kernel
theorem dX10_others_16 : decode cX10_others 16 = .ok (.iaload, 1) := by decide +kernel
theorem dX10_others_17 : decode cX10_others 17 = .ok (.aload_n 0, 1) := by decide +kernel
theorem dX10_others_18 : decode cX10_others 18 = .ok (.getfield 13, 3) := by decide +kernel
theorem dX10_others_21 : decode cX10_others 21 = .ok (.iload_n 2, 1) := by decide +kernel
theorem dX10_others_22 : decode cX10_others 22 = .ok (.iaload, 1) := by decide +kernel
theorem dX10_others_23 : decode cX10_others 23 = .ok (.if_icmp .eq 7, 3) := by decide +kernel
theorem dX10_others_26 : decode cX10_others 26 = .ok (.iconst 1, 1) := by decide +kernel
theorem dX10_others_27 : decode cX10_others 27 = .ok (.goto 4, 3) := by decide +kernel
theorem dX10_others_30 : decode cX10_others 30 = .ok (.iconst 0, 1) := by decide +kernel
theorem dX10_others_31 : decode cX10_others 31 = .ok (.iadd, 1) := by decide +kernel
theorem dX10_others_32 : decode cX10_others 32 = .ok (.istore_n 1, 1) := by decide +kernel
theorem dX10_others_33 : decode cX10_others 33 = .ok (.iinc 2 1, 3) := by decide +kernel
theorem dX10_others_36 : decode cX10_others 36 = .ok (.goto (-32), 3) := by decide +kernel
theorem dX10_others_39 : decode cX10_others 39 = .ok (.iload_n 1, 1) := by decide +kernel
theorem dX10_others_40 : decode cX10_others 40 = .ok (.ireturn, 1) := by decide +kernel
set_option maxRecDepth 20000 in
theorem ggX10_doAssociate_X10_plain : GoodIn wsX10_doAssociate wsX10_plain := goodIn_r _ [5, 6, 7, 8, 4, 9, 10, 11, 12, 13, 14, 15, 16, 17, 18, 19, 20, 21, 22, 23] (by decide +kernel) (by decide +kernel)
set_option maxRecDepth 20000 in
theorem gX10_doAssociate_X10_plain : GoodIn wsX10_doAssociate (wsV RX10 53 RX10 yX10_plain wsX10_plain) := goodIn_app (goodIn_of _ (by decide +kernel)) ggX10_doAssociate_X10_plain
theorem dX10_doAssociate_0 : decode cX10_doAssociate 0 = .ok (.aload_n 0, 1) := by decide +kernel
theorem dX10_doAssociate_1 : decode cX10_doAssociate 1 = .ok (.aload_n 0, 1) := by decide +kernel
theorem dX10_doAssociate_2 : decode cX10_doAssociate 2 = .ok (.iload_n 1, 1) := by decide +kernel
theorem dX10_doAssociate_3 : decode cX10_doAssociate 3 = .ok (.iload_n 2, 1) := by decide +kernel
theorem dX10_doAssociate_4 : decode cX10_doAssociate 4 = .ok (.invokevirtual 53, 3) := by decide +kernel
theorem dX10_doAssociate_7 : decode cX10_doAssociate 7 = .ok (.iload_n 3, 1) := by decide +kernel
theorem dX10_doAssociate_8 : decode cX10_doAssociate 8 = .ok (.invokevirtual 53, 3) := by decide +kernel
theorem dX10_doAssociate_11 : decode cX10_doAssociate 11 = .ok (.aload_n 0, 1) := by decide +kernel
theorem dX10_doAssociate_12 : decode cX10_doAssociate 12 = .ok (.iload_n 1, 1) := by decide +kernel
theorem dX10_doAssociate_13 : decode cX10_doAssociate 13 = .ok (.aload_n 0, 1) := by decide +kernel
theorem dX10_doAssociate_14 : decode cX10_doAssociate 14 = .ok (.iload_n 2, 1) := by decide +kernel
theorem dX10_doAssociate_15 : decode cX10_doAssociate 15 = .ok (.iload_n 3, 1) := by decide +kernel
theorem dX10_doAssociate_16 : decode cX10_doAssociate 16 = .ok (.invokevirtual 53, 3) := by decide +kernel
theorem dX10_doAssociate_19 : decode cX10_doAssociate 19 = .ok (.invokevirtual 53, 3) := by decide +kernel
theorem dX10_doAssociate_22 : decode cX10_doAssociate 22 = .ok (.if_icmp .ne 7, 3) := by decide +kernel
theorem dX10_doAssociate_25 : decode cX10_doAssociate 25 = .ok (.iconst 1, 1) := by decide +kernel
theorem dX10_doAssociate_26 : decode cX10_doAssociate 26 = .ok (.goto 4, 3) := by decide +kernel
theorem dX10_doAssociate_29 : decode cX10_doAssociate 29 = .ok (.iconst 0, 1) := by decide +kernel
theorem dX10_doAssociate_30 : decode cX10_doAssociate 30 = .ok (.ireturn, 1) := by decide +kernel
set_option maxRecDepth 20000 in
theorem ggX10_pairsOf_X10_doAssociate : GoodIn wsX10_pairsOf wsX10_doAssociate := goodIn_r _ [6, 7, 8, 9, 5, 10, 1, 11, 12, 13, 14, 15, 16, 17, 18, 19, 20, 21, 22, 23, 24, 25, 26, 27] (by decide +kernel) (by decide +kernel)
set_option maxRecDepth 20000 in
theorem gX10_pairsOf_X10_doAssociate : GoodIn wsX10_pairsOf (wsV RX10 56 RX10 yX10_doAssociate wsX10_doAssociate) := goodIn_app (goodIn_of _ (by decide +kernel)) ggX10_pairsOf_X10_doAssociate
theorem dX10_pairsOf_0 : decode cX10_pairsOf 0 = .ok (.iconst 0, 1) := by decide +kernel
theorem dX10_pairsOf_1 : decode cX10_pairsOf 1 = .ok (.istore_n 2, 1) := by decide +kernel
theorem dX10_pairsOf_2 : decode cX10_pairsOf 2 = .ok (.iconst 0, 1) := by decide +kernel
theorem dX10_pairsOf_3 : decode cX10_pairsOf 3 = .ok (.istore_n 3, 1) := by decide +kernel
theorem dX10_pairsOf_4 : decode cX10_pairsOf 4 = .ok (.iload_n 3, 1) := by decide +kernel
theorem dX10_pairsOf_5 : decode cX10_pairsOf 5 = .ok (.aload_n 0, 1) := by decide +kernel
theorem dX10_pairsOf_6 : decode cX10_pairsOf 6 = .ok (.getfield 7, 3) := by decide +kernel
theorem dX10_pairsOf_9 : decode cX10_pairsOf 9 = .ok (.iconst 0, 1) := by decide +kernel
theorem dX10_pairsOf_10 : decode cX10_pairsOf 10 = .ok (.iaload, 1) := by decide +kernel
theorem dX10_pairsOf_11 : decode cX10_pairsOf 11 = .ok (.if_icmp .ge 48, 3) := by decide +kernel
theorem dX10_pairsOf_14 : decode cX10_pairsOf 14 = .ok (.iconst 0, 1) := by decide +kernel
theorem dX10_pairsOf_15 : decode cX10_pairsOf 15 = .ok (.istore 4, 2) := by decide +kernel
theorem dX10_pairsOf_17 : decode cX10_pairsOf 17 = .ok (.iload 4, 2) := by decide +kernel
theorem dX10_pairsOf_19 : decode cX10_pairsOf 19 = .ok (.aload_n 0, 1) := by decide +kernel
theorem dX10_pairsOf_20 : decode cX10_pairsOf 20 = .ok (.getfield 7, 3) := by decide +kernel
theorem dX10_pairsOf_23 : decode cX10_pairsOf 23 = .ok (.iconst 0, 1) := by decide +kernel
theorem dX10_pairsOf_24 : decode cX10_pairsOf 24 = .ok (.iaload, 1) := by decide +kernel
theorem dX10_pairsOf_25 : decode cX10_pairsOf 25 = .ok (.if_icmp .ge 28, 3) := by decide +kernel
theorem dX10_pairsOf_28 : decode cX10_pairsOf 28 = .ok (.iload_n 2, 1) := by decide +kernel
theorem dX10_pairsOf_29 : decode cX10_pairsOf 29 = .ok (.aload_n 0, 1) := by decide +kernel
theorem dX10_pairsOf_30 : decode cX10_pairsOf 30 = .ok (.iload_n 1, 1) := by decide +kernel
theorem dX10_pairsOf_31 : decode cX10_pairsOf 31 = .ok (.iload_n 3, 1) := by decide +kernel
theorem dX10_pairsOf_32 : decode cX10_pairsOf 32 = .ok (.iload 4, 2) := by decide +kernel
theorem dX10_pairsOf_34 : decode cX10_pairsOf 34 = .ok (.invokevirtual 56, 3) := by decide +kernel
theorem dX10_pairsOf_37 : decode cX10_pairsOf 37 = .ok (.ifCond .eq 7, 3) := by decide +kernel
theorem dX10_pairsOf_40 : decode cX10_pairsOf 40 = .ok (.iconst 1, 1) := by decide +kernel
theorem dX10_pairsOf_41 : decode cX10_pairsOf 41 = .ok (.goto 4, 3) := by decide +kernel
theorem dX10_pairsOf_44 : decode cX10_pairsOf 44 = .ok (.iconst 0, 1) := by decide +kernel
theorem dX10_pairsOf_45 : decode cX10_pairsOf 45 = .ok (.iadd, 1) := by decide +kernel
theorem dX10_pairsOf_46 : decode cX10_pairsOf 46 = .ok (.istore_n 2, 1) := by decide +kernel
theorem dX10_pairsOf_47 : decode cX10_pairsOf 47 = .ok (.iinc 4 1, 3) := by decide +kernel
theorem dX10_pairsOf_50 : decode cX10_pairsOf 50 = .ok (.goto (-33), 3) := by decide +kernel
theorem dX10_pairsOf_53 : decode cX10_pairsOf 53 = .ok (.iinc 3 1, 3) := by decide +kernel
theorem dX10_pairsOf_56 : decode cX10_pairsOf 56 = .ok (.goto (-52), 3) := by decide +kernel
theorem dX10_pairsOf_59 : decode cX10_pairsOf 59 = .ok (.iload_n 2, 1) := by decide +kernel
theorem dX10_pairsOf_60 : decode cX10_pairsOf 60 = .ok (.ireturn, 1) := by decide +kernel
set_option maxRecDepth 20000 in
theorem ggX10_triples_X10_pairsOf : GoodIn wsX10_triples wsX10_pairsOf := goodIn_r _ [6, 1, 7, 8, 9, 5, 10, 11, 12, 13, 14, 15, 16, 17, 18, 19, 20, 21, 22, 23, 24, 25, 26, 27, 28, 29, 30, 31] (by decide +kernel) (by decide +kernel)
set_option maxRecDepth 20000 in
theorem gX10_triples_X10_pairsOf : GoodIn wsX10_triples (wsV RX10 59 RX10 yX10_pairsOf wsX10_pairsOf) := goodIn_app (goodIn_of _ (by decide +kernel)) ggX10_triples_X10_pairsOf
theorem dX10_triples_0 : decode cX10_triples 0 = .ok (.iconst 0, 1) := by decide +kernel
theorem dX10_triples_1 : decode cX10_triples 1 = .ok (.istore_n 1, 1) := by decide +kernel
theorem dX10_triples_2 : decode cX10_triples 2 = .ok (.iconst 0, 1) := by decide +kernel
theorem dX10_triples_3 : decode cX10_triples 3 = .ok (.istore_n 2, 1) := by decide +kernel
theorem dX10_triples_4 : decode cX10_triples 4 = .ok (.iload_n 2, 1) := by decide +kernel
theorem dX10_triples_5 : decode cX10_triples 5 = .ok (.aload_n 0, 1) := by decide +kernel
theorem dX10_triples_6 : decode cX10_triples 6 = .ok (.getfield 7, 3) := by decide +kernel
theorem dX10_triples_9 : decode cX10_triples 9 = .ok (.iconst 0, 1) := by decide +kernel
theorem dX10_triples_10 : decode cX10_triples 10 = .ok (.iaload, 1) := by decide +kernel
theorem dX10_triples_11 : decode cX10_triples 11 = .ok (.if_icmp .ge 17, 3) := by decide +kernel
theorem dX10_triples_14 : decode cX10_triples 14 = .ok (.iload_n 1, 1) := by decide +kernel
theorem dX10_triples_15 : decode cX10_triples 15 = .ok (.aload_n 0, 1) := by decide +kernel
theorem dX10_triples_16 : decode cX10_triples 16 = .ok (.iload_n 2, 1) := by decide +kernel
theorem dX10_triples_17 : decode cX10_triples 17 = .ok (.invokevirtual 59, 3) := by decide +kernel
theorem dX10_triples_20 : decode cX10_triples 20 = .ok (.iadd, 1) := by decide +kernel
theorem dX10_triples_21 : decode cX10_triples 21 = .ok (.istore_n 1, 1) := by decide +kernel
theorem dX10_triples_22 : decode cX10_triples 22 = .ok (.iinc 2 1, 3) := by decide +kernel
theorem dX10_triples_25 : decode cX10_triples 25 = .ok (.goto (-21), 3) := by decide +kernel
theorem dX10_triples_28 : decode cX10_triples 28 = .ok (.iload_n 1, 1) := by decide +kernel
theorem dX10_triples_29 : decode cX10_triples 29 = .ok (.ireturn, 1) := by decide +kernel
set_option maxRecDepth 20000 in
theorem ggX10_commuteWith_X10_plain : GoodIn wsX10_commuteWith wsX10_plain := goodIn_r _ [6, 1, 7, 8, 5, 9, 10, 11, 12, 13, 14, 15, 16, 17, 18, 19, 20, 21, 22, 23] (by decide +kernel) (by decide +kernel)
set_option maxRecDepth 20000 in
theorem gX10_commuteWith_X10_plain : GoodIn wsX10_commuteWith (wsV RX10 53 RX10 yX10_plain wsX10_plain) := goodIn_app (goodIn_of _ (by decide +kernel)) ggX10_commuteWith_X10_plain
theorem dX10_commuteWith_0 : decode cX10_commuteWith 0 = .ok (.iconst 0, 1) := by decide +kernel
theorem dX10_commuteWith_1 : decode cX10_commuteWith 1 = .ok (.istore_n 2, 1) := by decide +kernel
theorem dX10_commuteWith_2 : decode cX10_commuteWith 2 = .ok (.iconst 0, 1) := by decide +kernel
theorem dX10_commuteWith_3 : decode cX10_commuteWith 3 = .ok (.istore_n 3, 1) := by decide +kernel
theorem dX10_commuteWith_4 : decode cX10_commuteWith 4 = .ok (.iload_n 3, 1) := by decide +kernel
theorem dX10_commuteWith_5 : decode cX10_commuteWith 5 = .ok (.aload_n 0, 1) := by decide +kernel
theorem dX10_commuteWith_6 : decode cX10_commuteWith 6 = .ok (.getfield 7, 3) := by decide +kernel
theorem dX10_commuteWith_9 : decode cX10_commuteWith 9 = .ok (.iconst 0, 1) := by decide +kernel
theorem dX10_commuteWith_10 : decode cX10_commuteWith 10 = .ok (.iaload, 1) := by decide +kernel
theorem dX10_commuteWith_11 : decode cX10_commuteWith 11 = .ok (.if_icmp .ge 32, 3) := by decide +kernel
theorem dX10_commuteWith_14 : decode cX10_commuteWith 14 = .ok (.iload_n 2, 1) := by decide +kernel
theorem dX10_commuteWith_15 : decode cX10_commuteWith 15 = .ok (.aload_n 0, 1) := by decide +kernel
theorem dX10_commuteWith_16 : decode cX10_commuteWith 16 = .ok (.iload_n 1, 1) := by decide +kernel
theorem dX10_commuteWith_17 : decode cX10_commuteWith 17 = .ok (.iload_n 3, 1) := by decide +kernel
theorem dX10_commuteWith_18 : decode cX10_commuteWith 18 = .ok (.invokevirtual 53, 3) := by decide +kernel
theorem dX10_commuteWith_21 : decode cX10_commuteWith 21 = .ok (.aload_n 0, 1) := by decide +kernel
theorem dX10_commuteWith_22 : decode cX10_commuteWith 22 = .ok (.iload_n 3, 1) := by decide +kernel
theorem dX10_commuteWith_23 : decode cX10_commuteWith 23 = .ok (.iload_n 1, 1) := by decide +kernel
theorem dX10_commuteWith_24 : decode cX10_commuteWith 24 = .ok (.invokevirtual 53, 3) := by decide +kernel
theorem dX10_commuteWith_27 : decode cX10_commuteWith 27 = .ok (.if_icmp .ne 7, 3) := by decide +kernel
theorem dX10_commuteWith_30 : decode cX10_commuteWith 30 = .ok (.iconst 1, 1) := by decide +kernel
theorem dX10_commuteWith_31 : decode cX10_commuteWith 31 = .ok (.goto 4, 3) := by decide +kernel
theorem dX10_commuteWith_34 : decode cX10_commuteWith 34 = .ok (.iconst 0, 1) := by decide +kernel
theorem dX10_commuteWith_35 : decode cX10_commuteWith 35 = .ok (.iadd, 1) := by decide +kernel
theorem dX10_commuteWith_36 : decode cX10_commuteWith 36 = .ok (.istore_n 2, 1) := by decide +kernel
theorem dX10_commuteWith_37 : decode cX10_commuteWith 37 = .ok (.iinc 3 1, 3) := by decide +kernel
theorem dX10_commuteWith_40 : decode cX10_commuteWith 40 = .ok (.goto (-36), 3) := by decide +kernel
theorem dX10_commuteWith_43 : decode cX10_commuteWith 43 = .ok (.iload_n 2, 1) := by decide +kernel
theorem dX10_commuteWith_44 : decode cX10_commuteWith 44 = .ok (.ireturn, 1) := by decide +kernel
set_option maxRecDepth 20000 in
theorem ggX10_commute_X10_commuteWith : GoodIn wsX10_commute wsX10_commuteWith := goodIn_r _ [6, 1, 7, 8, 9, 5, 10, 11, 12, 13, 14, 15, 16, 17, 18, 19, 20, 21, 22, 23, 24, 25, 26, 27] (by decide +kernel) (by decide +kernel)
set_option maxRecDepth 20000 in
theorem gX10_commute_X10_commuteWith : GoodIn wsX10_commute (wsV RX10 63 RX10 yX10_commuteWith wsX10_commuteWith) := goodIn_app (goodIn_of _ (by decide +kernel)) ggX10_commute_X10_commuteWith
theorem dX10_commute_0 : decode cX10_commute 0 = .ok (.iconst 0, 1) := by decide +kernel
theorem dX10_commute_1 : decode cX10_commute 1 = .ok (.istore_n 1, 1) := by decide +kernel
theorem dX10_commute_2 : decode cX10_commute 2 = .ok (.iconst 0, 1) := by decide +kernel
theorem dX10_commute_3 : decode cX10_commute 3 = .ok (.istore_n 2, 1) := by decide +kernel
theorem dX10_commute_4 : decode cX10_commute 4 = .ok (.iload_n 2, 1) := by decide +kernel
theorem dX10_commute_5 : decode cX10_commute 5 = .ok (.aload_n 0, 1) := by decide +kernel
theorem dX10_commute_6 : decode cX10_commute 6 = .ok (.getfield 7, 3) := by decide +kernel
theorem dX10_commute_9 : decode cX10_commute 9 = .ok (.iconst 0, 1) := by decide +kernel
theorem dX10_commute_10 : decode cX10_commute 10 = .ok (.iaload, 1) := by decide +kernel
theorem dX10_commute_11 : decode cX10_commute 11 = .ok (.if_icmp .ge 17, 3) := by decide +kernel
theorem dX10_commute_14 : decode cX10_commute 14 = .ok (.iload_n 1, 1) := by decide +kernel
theorem dX10_commute_15 : decode cX10_commute 15 = .ok (.aload_n 0, 1) := by decide +kernel
theorem dX10_commute_16 : decode cX10_commute 16 = .ok (.iload_n 2, 1) := by decide +kernel
theorem dX10_commute_17 : decode cX10_commute 17 = .ok (.invokevirtual 63, 3) := by decide +kernel
theorem dX10_commute_20 : decode cX10_commute 20 = .ok (.iadd, 1) := by decide +kernel
theorem dX10_commute_21 : decode cX10_commute 21 = .ok (.istore_n 1, 1) := by decide +kernel
theorem dX10_commute_22 : decode cX10_commute 22 = .ok (.iinc 2 1, 3) := by decide +kernel
theorem dX10_commute_25 : decode cX10_commute 25 = .ok (.goto (-21), 3) := by decide +kernel
theorem dX10_commute_28 : decode cX10_commute 28 = .ok (.iload_n 1, 1) := by decide +kernel
theorem dX10_commute_29 : decode cX10_commute 29 = .ok (.ireturn, 1) := by decide +kernel
set_option maxRecDepth 20000 in
theorem ggX10_isRing_X10_plain : GoodIn wsX10_isRing wsX10_plain := goodIn_r _ [6, 1, 7, 8, 5, 9, 10, 11, 12, 13, 14, 15, 16, 17, 18, 19, 20, 21, 22, 23] (by decide +kernel) (by decide +kernel)
set_option maxRecDepth 20000 in
theorem gX10_isRing_X10_plain : GoodIn wsX10_isRing (wsV RX10 53 RX10 yX10_plain wsX10_plain) := goodIn_app (goodIn_of _ (by decide +kernel)) ggX10_isRing_X10_plain
theorem dX10_isRing_0 : decode cX10_isRing 0 = .ok (.iload_n 1, 1) := by decide +kernel
theorem dX10_isRing_1 : decode cX10_isRing 1 = .ok (.ifCond .le 7, 3) := by decide +kernel
theorem dX10_isRing_4 : decode cX10_isRing 4 = .ok (.iconst 1, 1) := by decide +kernel
theorem dX10_isRing_5 : decode cX10_isRing 5 = .ok (.goto 4, 3) := by decide +kernel
theorem dX10_isRing_8 : decode cX10_isRing 8 = .ok (.iconst 0, 1) := by decide +kernel
theorem dX10_isRing_9 : decode cX10_isRing 9 = .ok (.istore_n 2, 1) := by decide +kernel
theorem dX10_isRing_10 : decode cX10_isRing 10 = .ok (.iconst 0, 1) := by decide +kernel
theorem dX10_isRing_11 : decode cX10_isRing 11 = .ok (.istore_n 3, 1) := by decide +kernel
theorem dX10_isRing_12 : decode cX10_isRing 12 = .ok (.iload_n 3, 1) := by decide +kernel
theorem dX10_isRing_13 : decode cX10_isRing 13 = .ok (.aload_n 0, 1) := by decide +kernel
theorem dX10_isRing_14 : decode cX10_isRing 14 = .ok (.getfield 7, 3) := by decide +kernel
theorem dX10_isRing_17 : decode cX10_isRing 17 = .ok (.iconst 0, 1) := by decide +kernel
theorem dX10_isRing_18 : decode cX10_isRing 18 = .ok (.iaload, 1) := by decide +kernel
theorem dX10_isRing_19 : decode cX10_isRing 19 = .ok (.if_icmp .ge 80, 3) := by decide +kernel
theorem dX10_isRing_22 : decode cX10_isRing 22 = .ok (.iconst 0, 1) := by decide +kernel
theorem dX10_isRing_23 : decode cX10_isRing 23 = .ok (.istore 4, 2) := by decide +kernel
theorem dX10_isRing_25 : decode cX10_isRing 25 = .ok (.iload 4, 2) := by decide +kernel
theorem dX10_isRing_27 : decode cX10_isRing 27 = .ok (.aload_n 0, 1) := by decide +kernel
theorem dX10_isRing_28 : decode cX10_isRing 28 = .ok (.getfield 7, 3) := by decide +kernel
theorem dX10_isRing_31 : decode cX10_isRing 31 = .ok (.iconst 0, 1) := by decide +kernel
theorem dX10_isRing_32 : decode cX10_isRing 32 = .ok (.iaload, 1) := by decide +kernel
theorem dX10_isRing_33 : decode cX10_isRing 33 = .ok (.if_icmp .ge 60, 3) := by decide +kernel
theorem dX10_isRing_36 : decode cX10_isRing 36 = .ok (.iload_n 1, 1) := by decide +kernel
theorem dX10_isRing_37 : decode cX10_isRing 37 = .ok (.iload_n 3, 1) := by decide +kernel
theorem dX10_isRing_38 : decode cX10_isRing 38 = .ok (.ishr, 1) := by decide +kernel
theorem dX10_isRing_39 : decode cX10_isRing 39 = .ok (.iload_n 1, 1) := by decide +kernel
theorem dX10_isRing_40 : decode cX10_isRing 40 = .ok (.iload 4, 2) := by decide +kernel
theorem dX10_isRing_42 : decode cX10_isRing 42 = .ok (.ishr, 1) := by decide +kernel
theorem dX10_isRing_43 : decode cX10_isRing 43 = .ok (.iand, 1) := by decide +kernel
theorem dX10_isRing_44 : decode cX10_isRing 44 = .ok (.iconst 1, 1) := by decide +kernel
theorem dX10_isRing_45 : decode cX10_isRing 45 = .ok (.iand, 1) := by decide +kernel
theorem dX10_isRing_46 : decode cX10_isRing 46 = .ok (.iconst 1, 1) := by decide +kernel
theorem dX10_isRing_47 : decode cX10_isRing 47 = .ok (.if_icmp .ne 7, 3) := by decide +kernel
theorem dX10_isRing_50 : decode cX10_isRing 50 = .ok (.iconst 1, 1) := by decide +kernel
theorem dX10_isRing_51 : decode cX10_isRing 51 = .ok (.goto 4, 3) := by decide +kernel
theorem dX10_isRing_54 : decode cX10_isRing 54 = .ok (.iconst 0, 1) := by decide +kernel
theorem dX10_isRing_55 : decode cX10_isRing 55 = .ok (.istore 5, 2) := by decide +kernel
theorem dX10_isRing_57 : decode cX10_isRing 57 = .ok (.iload_n 2, 1) := by decide +kernel
theorem dX10_isRing_58 : decode cX10_isRing 58 = .ok (.ifCond .eq 27, 3) := by decide +kernel
theorem dX10_isRing_61 : decode cX10_isRing 61 = .ok (.iload 5, 2) := by decide +kernel
theorem dX10_isRing_63 : decode cX10_isRing 63 = .ok (.ifCond .eq 18, 3) := by decide +kernel
theorem dX10_isRing_66 : decode cX10_isRing 66 = .ok (.iload_n 1, 1) := by decide +kernel
theorem dX10_isRing_67 : decode cX10_isRing 67 = .ok (.aload_n 0, 1) := by decide +kernel
theorem dX10_isRing_68 : decode cX10_isRing 68 = .ok (.iload_n 3, 1) := by decide +kernel
theorem dX10_isRing_69 : decode cX10_isRing 69 = .ok (.iload 4, 2) := by decide +kernel
theorem dX10_isRing_71 : decode cX10_isRing 71 = .ok (.invokevirtual 53, 3) := by decide +kernel
theorem dX10_isRing_74 : decode cX10_isRing 74 = .ok (.ishr, 1) := by decide +kernel
theorem dX10_isRing_75 : decode cX10_isRing 75 = .ok (.iconst 1, 1) := by decide +kernel
theorem dX10_isRing_76 : decode cX10_isRing 76 = .ok (.iand, 1) := by decide +kernel
theorem dX10_isRing_77 : decode cX10_isRing 77 = .ok (.iconst 1, 1) := by decide +kernel
theorem dX10_isRing_78 : decode cX10_isRing 78 = .ok (.if_icmp .ne 7, 3) := by decide +kernel
theorem dX10_isRing_81 : decode cX10_isRing 81 = .ok (.iconst 1, 1) := by decide +kernel
theorem dX10_isRing_82 : decode cX10_isRing 82 = .ok (.goto 4, 3) := by decide +kernel
theorem dX10_isRing_85 : decode cX10_isRing 85 = .ok (.iconst 0, 1) := by decide +kernel
theorem dX10_isRing_86 : decode cX10_isRing 86 = .ok (.istore_n 2, 1) := by decide +kernel
theorem dX10_isRing_87 : decode cX10_isRing 87 = .ok (.iinc 4 1, 3) := by decide +kernel
theorem dX10_isRing_90 : decode cX10_isRing 90 = .ok (.goto (-65), 3) := by decide +kernel
theorem dX10_isRing_93 : decode cX10_isRing 93 = .ok (.iinc 3 1, 3) := by decide +kernel
theorem dX10_isRing_96 : decode cX10_isRing 96 = .ok (.goto (-84), 3) := by decide +kernel
theorem dX10_isRing_99 : decode cX10_isRing 99 = .ok (.iload_n 2, 1) := by decide +kernel
theorem dX10_isRing_100 : decode cX10_isRing 100 = .ok (.ireturn, 1) := by decide +kernel
set_option maxRecDepth 20000 in
theorem ggX10_rings_X10_isRing : GoodIn wsX10_rings wsX10_isRing := goodIn_r _ [6, 1, 7, 8, 9, 5, 10, 11, 12, 13, 14, 15, 16, 17, 18, 19, 20, 21, 22, 23, 24, 25, 26, 27] (by decide +kernel) (by decide +kernel)
set_option maxRecDepth 20000 in
theorem gX10_rings_X10_isRing : GoodIn wsX10_rings (wsV RX10 66 RX10 yX10_isRing wsX10_isRing) := goodIn_app (goodIn_of _ (by decide +kernel)) ggX10_rings_X10_isRing
theorem dX10_rings_0 : decode cX10_rings 0 = .ok (.iconst 0, 1) := by decide +kernel
theorem dX10_rings_1 : decode cX10_rings 1 = .ok (.istore_n 1, 1) := by decide +kernel
theorem dX10_rings_2 : decode cX10_rings 2 = .ok (.iconst 1, 1) := by decide +kernel
theorem dX10_rings_3 : decode cX10_rings 3 = .ok (.istore_n 2, 1) := by decide +kernel
theorem dX10_rings_4 : decode cX10_rings 4 = .ok (.iload_n 2, 1) := by decide +kernel
theorem dX10_rings_5 : decode cX10_rings 5 = .ok (.iconst 1, 1) := by decide +kernel
theorem dX10_rings_6 : decode cX10_rings 6 = .ok (.aload_n 0, 1) := by decide +kernel
theorem dX10_rings_7 : decode cX10_rings 7 = .ok (.getfield 7, 3) := by decide +kernel
theorem dX10_rings_10 : decode cX10_rings 10 = .ok (.iconst 0, 1) := by decide +kernel
theorem dX10_rings_11 : decode cX10_rings 11 = .ok (.iaload, 1) := by decide +kernel
theorem dX10_rings_12 : decode cX10_rings 12 = .ok (.ishl, 1) := by decide +kernel
theorem dX10_rings_13 : decode cX10_rings 13 = .ok (.if_icmp .ge 25, 3) := by decide +kernel
theorem dX10_rings_16 : decode cX10_rings 16 = .ok (.iload_n 1, 1) := by decide +kernel
theorem dX10_rings_17 : decode cX10_rings 17 = .ok (.aload_n 0, 1) := by decide +kernel
theorem dX10_rings_18 : decode cX10_rings 18 = .ok (.iload_n 2, 1) := by decide +kernel
theorem dX10_rings_19 : decode cX10_rings 19 = .ok (.invokevirtual 66, 3) := by decide +kernel
theorem dX10_rings_22 : decode cX10_rings 22 = .ok (.ifCond .eq 7, 3) := by decide +kernel
theorem dX10_rings_25 : decode cX10_rings 25 = .ok (.iconst 1, 1) := by decide +kernel
theorem dX10_rings_26 : decode cX10_rings 26 = .ok (.goto 4, 3) := by decide +kernel
theorem dX10_rings_29 : decode cX10_rings 29 = .ok (.iconst 0, 1) := by decide +kernel
theorem dX10_rings_30 : decode cX10_rings 30 = .ok (.iadd, 1) := by decide +kernel
theorem dX10_rings_31 : decode cX10_rings 31 = .ok (.istore_n 1, 1) := by decide +kernel
theorem dX10_rings_32 : decode cX10_rings 32 = .ok (.iinc 2 1, 3) := by decide +kernel
theorem dX10_rings_35 : decode cX10_rings 35 = .ok (.goto (-31), 3) := by decide +kernel
theorem dX10_rings_38 : decode cX10_rings 38 = .ok (.iload_n 1, 1) := by decide +kernel
theorem dX10_rings_39 : decode cX10_rings 39 = .ok (.ireturn, 1) := by decide +kernel
set_option maxRecDepth 20000 in
theorem ggX10_ringOf_X10_bits : GoodIn wsX10_ringOf wsX10_bits := goodIn_r _ [5] (by decide +kernel) (by decide +kernel)
set_option maxRecDepth 20000 in
theorem gX10_ringOf_X10_bits : GoodIn wsX10_ringOf (va_wsS RX10 70 yX10_bits wsX10_bits) := goodIn_app (goodIn_of _ (by decide +kernel)) ggX10_ringOf_X10_bits
set_option maxRecDepth 20000 in
theorem ggX10_ringOf_X10_isRing : GoodIn wsX10_ringOf wsX10_isRing := goodIn_r _ [9, 1, 10, 11, 12, 4, 13, 14, 15, 16, 17, 18, 19, 20, 21, 22, 23, 24, 25, 26, 27, 28, 29, 30] (by decide +kernel) (by decide +kernel)
set_option maxRecDepth 20000 in
theorem gX10_ringOf_X10_isRing : GoodIn wsX10_ringOf (wsV RX10 66 RX10 yX10_isRing wsX10_isRing) := goodIn_app (goodIn_of _ (by decide +kernel)) ggX10_ringOf_X10_isRing
theorem dX10_ringOf_0 : decode cX10_ringOf 0 = .ok (.iconst 1, 1) := by decide +kernel
theorem dX10_ringOf_1 : decode cX10_ringOf 1 = .ok (.aload_n 0, 1) := by decide +kernel
theorem dX10_ringOf_2 : decode cX10_ringOf 2 = .ok (.getfield 7, 3) := by decide +kernel
theorem dX10_ringOf_5 : decode cX10_ringOf 5 = .ok (.iconst 0, 1) := by decide +kernel
theorem dX10_ringOf_6 : decode cX10_ringOf 6 = .ok (.iaload, 1) := by decide +kernel
theorem dX10_ringOf_7 : decode cX10_ringOf 7 = .ok (.ishl, 1) := by decide +kernel
theorem dX10_ringOf_8 : decode cX10_ringOf 8 = .ok (.iconst 1, 1) := by decide +kernel
theorem dX10_ringOf_9 : decode cX10_ringOf 9 = .ok (.isub, 1) := by decide +kernel
theorem dX10_ringOf_10 : decode cX10_ringOf 10 = .ok (.istore_n 2, 1) := by decide +kernel
theorem dX10_ringOf_11 : decode cX10_ringOf 11 = .ok (.iconst 1, 1) := by decide +kernel
theorem dX10_ringOf_12 : decode cX10_ringOf 12 = .ok (.istore_n 3, 1) := by decide +kernel
theorem dX10_ringOf_13 : decode cX10_ringOf 13 = .ok (.iload_n 3, 1) := by decide +kernel
theorem dX10_ringOf_14 : decode cX10_ringOf 14 = .ok (.iconst 1, 1) := by decide +kernel
theorem dX10_ringOf_15 : decode cX10_ringOf 15 = .ok (.aload_n 0, 1) := by decide +kernel
theorem dX10_ringOf_16 : decode cX10_ringOf 16 = .ok (.getfield 7, 3) := by decide +kernel
theorem dX10_ringOf_19 : decode cX10_ringOf 19 = .ok (.iconst 0, 1) := by decide +kernel
theorem dX10_ringOf_20 : decode cX10_ringOf 20 = .ok (.iaload, 1) := by decide +kernel
theorem dX10_ringOf_21 : decode cX10_ringOf 21 = .ok (.ishl, 1) := by decide +kernel
theorem dX10_ringOf_22 : decode cX10_ringOf 22 = .ok (.if_icmp .ge 54, 3) := by decide +kernel
theorem dX10_ringOf_25 : decode cX10_ringOf 25 = .ok (.iload_n 1, 1) := by decide +kernel
theorem dX10_ringOf_26 : decode cX10_ringOf 26 = .ok (.iload_n 3, 1) := by decide +kernel
theorem dX10_ringOf_27 : decode cX10_ringOf 27 = .ok (.iconst (-1), 1) := by decide +kernel
theorem dX10_ringOf_28 : decode cX10_ringOf 28 = .ok (.ixor, 1) := by decide +kernel
theorem dX10_ringOf_29 : decode cX10_ringOf 29 = .ok (.iand, 1) := by decide +kernel
theorem dX10_ringOf_30 : decode cX10_ringOf 30 = .ok (.ifCond .ne 26, 3) := by decide +kernel
theorem dX10_ringOf_33 : decode cX10_ringOf 33 = .ok (.iload_n 3, 1) := by decide +kernel
theorem dX10_ringOf_34 : decode cX10_ringOf 34 = .ok (.invokestatic 70, 3) := by decide +kernel
theorem dX10_ringOf_37 : decode cX10_ringOf 37 = .ok (.iload_n 2, 1) := by decide +kernel
theorem dX10_ringOf_38 : decode cX10_ringOf 38 = .ok (.invokestatic 70, 3) := by decide +kernel
theorem dX10_ringOf_41 : decode cX10_ringOf 41 = .ok (.if_icmp .ge 15, 3) := by decide +kernel
theorem dX10_ringOf_44 : decode cX10_ringOf 44 = .ok (.aload_n 0, 1) := by decide +kernel
theorem dX10_ringOf_45 : decode cX10_ringOf 45 = .ok (.iload_n 3, 1) := by decide +kernel
theorem dX10_ringOf_46 : decode cX10_ringOf 46 = .ok (.invokevirtual 66, 3) := by decide +kernel
theorem dX10_ringOf_49 : decode cX10_ringOf 49 = .ok (.ifCond .eq 7, 3) := by decide +kernel
theorem dX10_ringOf_52 : decode cX10_ringOf 52 = .ok (.iconst 1, 1) := by decide +kernel
theorem dX10_ringOf_53 : decode cX10_ringOf 53 = .ok (.goto 4, 3) := by decide +kernel
theorem dX10_ringOf_56 : decode cX10_ringOf 56 = .ok (.iconst 0, 1) := by decide +kernel
theorem dX10_ringOf_57 : decode cX10_ringOf 57 = .ok (.istore 4, 2) := by decide +kernel
theorem dX10_ringOf_59 : decode cX10_ringOf 59 = .ok (.iload 4, 2) := by decide +kernel
theorem dX10_ringOf_61 : decode cX10_ringOf 61 = .ok (.ifCond .eq 7, 3) := by decide +kernel
theorem dX10_ringOf_64 : decode cX10_ringOf 64 = .ok (.iload_n 3, 1) := by decide +kernel
theorem dX10_ringOf_65 : decode cX10_ringOf 65 = .ok (.goto 4, 3) := by decide +kernel
theorem dX10_ringOf_68 : decode cX10_ringOf 68 = .ok (.iload_n 2, 1) := by decide +kernel
theorem dX10_ringOf_69 : decode cX10_ringOf 69 = .ok (.istore_n 2, 1) := by decide +kernel
theorem dX10_ringOf_70 : decode cX10_ringOf 70 = .ok (.iinc 3 1, 3) := by decide +kernel
theorem dX10_ringOf_73 : decode cX10_ringOf 73 = .ok (.goto (-60), 3) := by decide +kernel
theorem dX10_ringOf_76 : decode cX10_ringOf 76 = .ok (.iload_n 2, 1) := by decide +kernel
theorem dX10_ringOf_77 : decode cX10_ringOf 77 = .ok (.ireturn, 1) := by decide +kernel
set_option maxRecDepth 20000 in
theorem ggX10_fewest_X10_bits : GoodIn wsX10_fewest wsX10_bits := goodIn_r _ [5] (by decide +kernel) (by decide +kernel)
set_option maxRecDepth 20000 in
theorem gX10_fewest_X10_bits : GoodIn wsX10_fewest (va_wsS RX10 70 yX10_bits wsX10_bits) := goodIn_app (goodIn_of _ (by decide +kernel)) ggX10_fewest_X10_bits
set_option maxRecDepth 20000 in
theorem ggX10_fewest_X10_ringOf : GoodIn wsX10_fewest wsX10_ringOf := goodIn_r _ [9, 1, 2, 3, 4, 5, 10, 11, 12, 13, 14, 15, 16, 17, 18, 19, 20, 21, 22, 23, 24, 25, 26, 27, 28, 29, 30, 31, 32, 33, 34] (by decide +kernel) (by decide +kernel)
set_option maxRecDepth 20000 in
theorem gX10_fewest_X10_ringOf : GoodIn wsX10_fewest (wsV RX10 73 RX10 yX10_ringOf wsX10_ringOf) := goodIn_app (goodIn_of _ (by decide +kernel)) ggX10_fewest_X10_ringOf
theorem dX10_fewest_0 : decode cX10_fewest 0 = .ok (.iconst 1, 1) := by decide +kernel
theorem dX10_fewest_1 : decode cX10_fewest 1 = .ok (.aload_n 0, 1) := by decide +kernel
theorem dX10_fewest_2 : decode cX10_fewest 2 = .ok (.getfield 7, 3) := by decide +kernel
theorem dX10_fewest_5 : decode cX10_fewest 5 = .ok (.iconst 0, 1) := by decide +kernel
theorem dX10_fewest_6 : decode cX10_fewest 6 = .ok (.iaload, 1) := by decide +kernel
theorem dX10_fewest_7 : decode cX10_fewest 7 = .ok (.ishl, 1) := by decide +kernel
theorem dX10_fewest_8 : decode cX10_fewest 8 = .ok (.iconst 1, 1) := by decide +kernel
theorem dX10_fewest_9 : decode cX10_fewest 9 = .ok (.isub, 1) := by decide +kernel
theorem dX10_fewest_10 : decode cX10_fewest 10 = .ok (.istore_n 1, 1) := by decide +kernel
theorem dX10_fewest_11 : decode cX10_fewest 11 = .ok (.iload_n 1, 1) := by decide +kernel
theorem dX10_fewest_12 : decode cX10_fewest 12 = .ok (.istore_n 2, 1) := by decide +kernel
theorem dX10_fewest_13 : decode cX10_fewest 13 = .ok (.iload_n 2, 1) := by decide +kernel
theorem dX10_fewest_14 : decode cX10_fewest 14 = .ok (.ifCond .le 54, 3) := by decide +kernel
theorem dX10_fewest_17 : decode cX10_fewest 17 = .ok (.iload_n 2, 1) := by decide +kernel
theorem dX10_fewest_18 : decode cX10_fewest 18 = .ok (.invokestatic 70, 3) := by decide +kernel
theorem dX10_fewest_21 : decode cX10_fewest 21 = .ok (.iload_n 1, 1) := by decide +kernel
theorem dX10_fewest_22 : decode cX10_fewest 22 = .ok (.invokestatic 70, 3) := by decide +kernel
theorem dX10_fewest_25 : decode cX10_fewest 25 = .ok (.if_icmp .gt 25, 3) := by decide +kernel
theorem dX10_fewest_28 : decode cX10_fewest 28 = .ok (.aload_n 0, 1) := by decide +kernel
theorem dX10_fewest_29 : decode cX10_fewest 29 = .ok (.iload_n 2, 1) := by decide +kernel
theorem dX10_fewest_30 : decode cX10_fewest 30 = .ok (.invokevirtual 73, 3) := by decide +kernel
theorem dX10_fewest_33 : decode cX10_fewest 33 = .ok (.iconst 1, 1) := by decide +kernel
theorem dX10_fewest_34 : decode cX10_fewest 34 = .ok (.aload_n 0, 1) := by decide +kernel
theorem dX10_fewest_35 : decode cX10_fewest 35 = .ok (.getfield 7, 3) := by decide +kernel
theorem dX10_fewest_38 : decode cX10_fewest 38 = .ok (.iconst 0, 1) := by decide +kernel
theorem dX10_fewest_39 : decode cX10_fewest 39 = .ok (.iaload, 1) := by decide +kernel
theorem dX10_fewest_40 : decode cX10_fewest 40 = .ok (.ishl, 1) := by decide +kernel
theorem dX10_fewest_41 : decode cX10_fewest 41 = .ok (.iconst 1, 1) := by decide +kernel
theorem dX10_fewest_42 : decode cX10_fewest 42 = .ok (.isub, 1) := by decide +kernel
theorem dX10_fewest_43 : decode cX10_fewest 43 = .ok (.if_icmp .ne 7, 3) := by decide +kernel
theorem dX10_fewest_46 : decode cX10_fewest 46 = .ok (.iconst 1, 1) := by decide +kernel
theorem dX10_fewest_47 : decode cX10_fewest 47 = .ok (.goto 4, 3) := by decide +kernel
theorem dX10_fewest_50 : decode cX10_fewest 50 = .ok (.iconst 0, 1) := by decide +kernel
theorem dX10_fewest_51 : decode cX10_fewest 51 = .ok (.istore_n 3, 1) := by decide +kernel
theorem dX10_fewest_52 : decode cX10_fewest 52 = .ok (.iload_n 3, 1) := by decide +kernel
theorem dX10_fewest_53 : decode cX10_fewest 53 = .ok (.ifCond .eq 7, 3) := by decide +kernel
theorem dX10_fewest_56 : decode cX10_fewest 56 = .ok (.iload_n 2, 1) := by decide +kernel
theorem dX10_fewest_57 : decode cX10_fewest 57 = .ok (.goto 4, 3) := by decide +kernel
theorem dX10_fewest_60 : decode cX10_fewest 60 = .ok (.iload_n 1, 1) := by decide +kernel
theorem dX10_fewest_61 : decode cX10_fewest 61 = .ok (.istore_n 1, 1) := by decide +kernel
theorem dX10_fewest_62 : decode cX10_fewest 62 = .ok (.iinc 2 (-1), 3) := by decide +kernel
theorem dX10_fewest_65 : decode cX10_fewest 65 = .ok (.goto (-52), 3) := by decide +kernel
theorem dX10_fewest_68 : decode cX10_fewest 68 = .ok (.iload_n 1, 1) := by decide +kernel
theorem dX10_fewest_69 : decode cX10_fewest 69 = .ok (.ireturn, 1) := by decide +kernel
set_option maxRecDepth 20000 in
theorem ggX10_isSquare_X10_plain : GoodIn wsX10_isSquare wsX10_plain := goodIn_r _ [5, 6, 7, 8, 4, 9, 10, 11, 12, 13, 14, 15, 16, 17, 18, 19, 20, 21, 22, 23] (by decide +kernel) (by decide +kernel)
set_option maxRecDepth 20000 in
theorem gX10_isSquare_X10_plain : GoodIn wsX10_isSquare (wsV RX10 53 RX10 yX10_plain wsX10_plain) := goodIn_app (goodIn_of _ (by decide +kernel)) ggX10_isSquare_X10_plain
theorem dX10_isSquare_0 : decode cX10_isSquare 0 = .ok (.aload_n 0, 1) := by decide +kernel
theorem dX10_isSquare_1 : decode cX10_isSquare 1 = .ok (.iload_n 1, 1) := by decide +kernel
theorem dX10_isSquare_2 : decode cX10_isSquare 2 = .ok (.iload_n 3, 1) := by decide +kernel
theorem dX10_isSquare_3 : decode cX10_isSquare 3 = .ok (.invokevirtual 53, 3) := by decide +kernel
theorem dX10_isSquare_6 : decode cX10_isSquare 6 = .ok (.aload_n 0, 1) := by decide +kernel
theorem dX10_isSquare_7 : decode cX10_isSquare 7 = .ok (.iload_n 2, 1) := by decide +kernel
theorem dX10_isSquare_8 : decode cX10_isSquare 8 = .ok (.iload 4, 2) := by decide +kernel
theorem dX10_isSquare_10 : decode cX10_isSquare 10 = .ok (.invokevirtual 53, 3) := by decide +kernel
theorem dX10_isSquare_13 : decode cX10_isSquare 13 = .ok (.if_icmp .ne 23, 3) := by decide +kernel
theorem dX10_isSquare_16 : decode cX10_isSquare 16 = .ok (.aload_n 0, 1) := by decide +kernel
theorem dX10_isSquare_17 : decode cX10_isSquare 17 = .ok (.iload_n 1, 1) := by decide +kernel
theorem dX10_isSquare_18 : decode cX10_isSquare 18 = .ok (.iload 4, 2) := by decide +kernel
theorem dX10_isSquare_20 : decode cX10_isSquare 20 = .ok (.invokevirtual 53, 3) := by decide +kernel
theorem dX10_isSquare_23 : decode cX10_isSquare 23 = .ok (.aload_n 0, 1) := by decide +kernel
theorem dX10_isSquare_24 : decode cX10_isSquare 24 = .ok (.iload_n 2, 1) := by decide +kernel
theorem dX10_isSquare_25 : decode cX10_isSquare 25 = .ok (.iload_n 3, 1) := by decide +kernel
theorem dX10_isSquare_26 : decode cX10_isSquare 26 = .ok (.invokevirtual 53, 3) := by decide +kernel
theorem dX10_isSquare_29 : decode cX10_isSquare 29 = .ok (.if_icmp .ne 7, 3) := by decide +kernel
theorem dX10_isSquare_32 : decode cX10_isSquare 32 = .ok (.iconst 1, 1) := by decide +kernel
theorem dX10_isSquare_33 : decode cX10_isSquare 33 = .ok (.goto 4, 3) := by decide +kernel
theorem dX10_isSquare_36 : decode cX10_isSquare 36 = .ok (.iconst 0, 1) := by decide +kernel
theorem dX10_isSquare_37 : decode cX10_isSquare 37 = .ok (.ireturn, 1) := by decide +kernel
set_option maxRecDepth 20000 in
theorem ggX10_squares_X10_isSquare : GoodIn wsX10_squares wsX10_isSquare := goodIn_r _ [6, 7, 8, 9, 5, 10, 1, 11, 12, 13, 14, 15, 16, 17, 18, 19, 20, 21, 22, 23, 24, 25, 26, 27] (by decide +kernel) (by decide +kernel)
set_option maxRecDepth 20000 in
theorem gX10_squares_X10_isSquare : GoodIn wsX10_squares (wsV RX10 76 RX10 yX10_isSquare wsX10_isSquare) := goodIn_app (goodIn_of _ (by decide +kernel)) ggX10_squares_X10_isSquare
theorem dX10_squares_0 : decode cX10_squares 0 = .ok (.iconst 0, 1) := by decide +kernel
theorem dX10_squares_1 : decode cX10_squares 1 = .ok (.istore_n 1, 1) := by decide +kernel
theorem dX10_squares_2 : decode cX10_squares 2 = .ok (.iconst 0, 1) := by decide +kernel
theorem dX10_squares_3 : decode cX10_squares 3 = .ok (.istore_n 2, 1) := by decide +kernel
theorem dX10_squares_4 : decode cX10_squares 4 = .ok (.iload_n 2, 1) := by decide +kernel
theorem dX10_squares_5 : decode cX10_squares 5 = .ok (.aload_n 0, 1) := by decide +kernel
theorem dX10_squares_6 : decode cX10_squares 6 = .ok (.getfield 7, 3) := by decide +kernel
theorem dX10_squares_9 : decode cX10_squares 9 = .ok (.iconst 0, 1) := by decide +kernel
theorem dX10_squares_10 : decode cX10_squares 10 = .ok (.iaload, 1) := by decide +kernel
theorem dX10_squares_11 : decode cX10_squares 11 = .ok (.if_icmp .ge 99, 3) := by decide +kernel
theorem dX10_squares_14 : decode cX10_squares 14 = .ok (.iload_n 2, 1) := by decide +kernel
theorem dX10_squares_15 : decode cX10_squares 15 = .ok (.iconst 1, 1) := by decide +kernel
theorem dX10_squares_16 : decode cX10_squares 16 = .ok (.iadd, 1) := by decide +kernel
theorem dX10_squares_17 : decode cX10_squares 17 = .ok (.istore_n 3, 1) := by decide +kernel
theorem dX10_squares_18 : decode cX10_squares 18 = .ok (.iload_n 3, 1) := by decide +kernel
theorem dX10_squares_19 : decode cX10_squares 19 = .ok (.aload_n 0, 1) := by decide +kernel
theorem dX10_squares_20 : decode cX10_squares 20 = .ok (.getfield 7, 3) := by decide +kernel
theorem dX10_squares_23 : decode cX10_squares 23 = .ok (.iconst 0, 1) := by decide +kernel
theorem dX10_squares_24 : decode cX10_squares 24 = .ok (.iaload, 1) := by decide +kernel
theorem dX10_squares_25 : decode cX10_squares 25 = .ok (.if_icmp .ge 79, 3) := by decide +kernel
theorem dX10_squares_28 : decode cX10_squares 28 = .ok (.iconst 0, 1) := by decide +kernel
theorem dX10_squares_29 : decode cX10_squares 29 = .ok (.istore 4, 2) := by decide +kernel
theorem dX10_squares_31 : decode cX10_squares 31 = .ok (.iload 4, 2) := by decide +kernel
theorem dX10_squares_33 : decode cX10_squares 33 = .ok (.bipush 64, 2) := by decide +kernel
theorem dX10_squares_35 : decode cX10_squares 35 = .ok (.if_icmp .ge 63, 3) := by decide +kernel
theorem dX10_squares_38 : decode cX10_squares 38 = .ok (.iload_n 1, 1) := by decide +kernel
theorem dX10_squares_39 : decode cX10_squares 39 = .ok (.iload 4, 2) := by decide +kernel
theorem dX10_squares_41 : decode cX10_squares 41 = .ok (.bipush 8, 2) := by decide +kernel
theorem dX10_squares_43 : decode cX10_squares 43 = .ok (.idiv, 1) := by decide +kernel
theorem dX10_squares_44 : decode cX10_squares 44 = .ok (.iload 4, 2) := by decide +kernel
theorem dX10_squares_46 : decode cX10_squares 46 = .ok (.bipush 8, 2) := by decide +kernel
theorem dX10_squares_48 : decode cX10_squares 48 = .ok (.irem, 1) := by decide +kernel
theorem dX10_squares_49 : decode cX10_squares 49 = .ok (.if_icmp .ge 40, 3) := by decide +kernel
theorem dX10_squares_52 : decode cX10_squares 52 = .ok (.iload 4, 2) := by decide +kernel
theorem dX10_squares_54 : decode cX10_squares 54 = .ok (.bipush 8, 2) := by decide +kernel
theorem dX10_squares_56 : decode cX10_squares 56 = .ok (.irem, 1) := by decide +kernel
theorem dX10_squares_57 : decode cX10_squares 57 = .ok (.aload_n 0, 1) := by decide +kernel
theorem dX10_squares_58 : decode cX10_squares 58 = .ok (.getfield 7, 3) := by decide +kernel
theorem dX10_squares_61 : decode cX10_squares 61 = .ok (.iconst 0, 1) := by decide +kernel
theorem dX10_squares_62 : decode cX10_squares 62 = .ok (.iaload, 1) := by decide +kernel
theorem dX10_squares_63 : decode cX10_squares 63 = .ok (.if_icmp .ge 26, 3) := by decide +kernel
theorem dX10_squares_66 : decode cX10_squares 66 = .ok (.aload_n 0, 1) := by decide +kernel
theorem dX10_squares_67 : decode cX10_squares 67 = .ok (.iload_n 2, 1) := by decide +kernel
theorem dX10_squares_68 : decode cX10_squares 68 = .ok (.iload_n 3, 1) := by decide +kernel
theorem dX10_squares_69 : decode cX10_squares 69 = .ok (.iload 4, 2) := by decide +kernel
theorem dX10_squares_71 : decode cX10_squares 71 = .ok (.bipush 8, 2) := by decide +kernel
theorem dX10_squares_73 : decode cX10_squares 73 = .ok (.idiv, 1) := by decide +kernel
theorem dX10_squares_74 : decode cX10_squares 74 = .ok (.iload 4, 2) := by decide +kernel
theorem dX10_squares_76 : decode cX10_squares 76 = .ok (.bipush 8, 2) := by decide +kernel
theorem dX10_squares_78 : decode cX10_squares 78 = .ok (.irem, 1) := by decide +kernel
theorem dX10_squares_79 : decode cX10_squares 79 = .ok (.invokevirtual 76, 3) := by decide +kernel
theorem dX10_squares_82 : decode cX10_squares 82 = .ok (.ifCond .eq 7, 3) := by decide +kernel
theorem dX10_squares_85 : decode cX10_squares 85 = .ok (.iconst 1, 1) := by decide +kernel
theorem dX10_squares_86 : decode cX10_squares 86 = .ok (.goto 4, 3) := by decide +kernel
theorem dX10_squares_89 : decode cX10_squares 89 = .ok (.iconst 0, 1) := by decide +kernel
theorem dX10_squares_90 : decode cX10_squares 90 = .ok (.iadd, 1) := by decide +kernel
theorem dX10_squares_91 : decode cX10_squares 91 = .ok (.istore_n 1, 1) := by decide +kernel
theorem dX10_squares_92 : decode cX10_squares 92 = .ok (.iinc 4 1, 3) := by decide +kernel
theorem dX10_squares_95 : decode cX10_squares 95 = .ok (.goto (-64), 3) := by decide +kernel
theorem dX10_squares_98 : decode cX10_squares 98 = .ok (.iinc 3 1, 3) := by decide +kernel
theorem dX10_squares_101 : decode cX10_squares 101 = .ok (.goto (-83), 3) := by decide +kernel
theorem dX10_squares_104 : decode cX10_squares 104 = .ok (.iinc 2 1, 3) := by decide +kernel
theorem dX10_squares_107 : decode cX10_squares 107 = .ok (.goto (-103), 3) := by decide +kernel
theorem dX10_squares_110 : decode cX10_squares 110 = .ok (.iload_n 1, 1) := by decide +kernel
theorem dX10_squares_111 : decode cX10_squares 111 = .ok (.ireturn, 1) := by decide +kernel
theorem dX10_exchanges_0 : decode cX10_exchanges 0 = .ok (.aload_n 0, 1) := by decide +kernel
theorem dX10_exchanges_1 : decode cX10_exchanges 1 = .ok (.getfield 7, 3) := by decide +kernel
theorem dX10_exchanges_4 : decode cX10_exchanges 4 = .ok (.iload_n 1, 1) := by decide +kernel
theorem dX10_exchanges_5 : decode cX10_exchanges 5 = .ok (.iaload, 1) := by decide +kernel
theorem dX10_exchanges_6 : decode cX10_exchanges 6 = .ok (.istore_n 3, 1) := by decide +kernel
theorem dX10_exchanges_7 : decode cX10_exchanges 7 = .ok (.aload_n 0, 1) := by decide +kernel
theorem dX10_exchanges_8 : decode cX10_exchanges 8 = .ok (.getfield 7, 3) := by decide +kernel
theorem dX10_exchanges_11 : decode cX10_exchanges 11 = .ok (.iload_n 1, 1) := by decide +kernel
theorem dX10_exchanges_12 : decode cX10_exchanges 12 = .ok (.aload_n 0, 1) := by decide +kernel
theorem dX10_exchanges_13 : decode cX10_exchanges 13 = .ok (.getfield 7, 3) := by decide +kernel
theorem dX10_exchanges_16 : decode cX10_exchanges 16 = .ok (.iload_n 2, 1) := by decide +kernel
theorem dX10_exchanges_17 : decode cX10_exchanges 17 = .ok (.iaload, 1) := by decide +kernel
theorem dX10_exchanges_18 : decode cX10_exchanges 18 = .ok (.iastore, 1) := by decide +kernel
theorem dX10_exchanges_19 : decode cX10_exchanges 19 = .ok (.aload_n 0, 1) := by decide +kernel
theorem dX10_exchanges_20 : decode cX10_exchanges 20 = .ok (.getfield 7, 3) := by decide +kernel
theorem dX10_exchanges_23 : decode cX10_exchanges 23 = .ok (.iload_n 2, 1) := by decide +kernel
theorem dX10_exchanges_24 : decode cX10_exchanges 24 = .ok (.iload_n 3, 1) := by decide +kernel
theorem dX10_exchanges_25 : decode cX10_exchanges 25 = .ok (.iastore, 1) := by decide +kernel
theorem dX10_exchanges_26 : decode cX10_exchanges 26 = .ok (.return_, 1) := by decide +kernel
set_option maxRecDepth 20000 in
theorem ggX10_swaps_X10_at : GoodIn wsX10_swaps wsX10_at := goodIn_r _ [4] (by decide +kernel) (by decide +kernel)
set_option maxRecDepth 20000 in
theorem gX10_swaps_X10_at : GoodIn wsX10_swaps (va_wsS RX10 45 yX10_at wsX10_at) := goodIn_app (goodIn_of _ (by decide +kernel)) ggX10_swaps_X10_at
set_option maxRecDepth 20000 in
theorem ggX10_swaps_X10_exchanges : GoodIn wsX10_swaps wsX10_exchanges := goodIn_r _ [8, 9, 10, 11, 12, 13, 14, 15, 16, 17, 18, 19, 20, 21, 22, 23] (by decide +kernel) (by decide +kernel)
set_option maxRecDepth 20000 in
theorem gX10_swaps_X10_exchanges : GoodIn wsX10_swaps (wsV RX10 80 RX10 yX10_exchanges wsX10_exchanges) := goodIn_app (goodIn_of _ (by decide +kernel)) ggX10_swaps_X10_exchanges
theorem dX10_swaps_0 : decode cX10_swaps 0 = .ok (.aload_n 0, 1) := by decide +kernel
theorem dX10_swaps_1 : decode cX10_swaps 1 = .ok (.iload_n 1, 1) := by decide +kernel
theorem dX10_swaps_2 : decode cX10_swaps 2 = .ok (.iload_n 3, 1) := by decide +kernel
theorem dX10_swaps_3 : decode cX10_swaps 3 = .ok (.invokestatic 45, 3) := by decide +kernel
theorem dX10_swaps_6 : decode cX10_swaps 6 = .ok (.iload_n 1, 1) := by decide +kernel
theorem dX10_swaps_7 : decode cX10_swaps 7 = .ok (.iload 4, 2) := by decide +kernel
theorem dX10_swaps_9 : decode cX10_swaps 9 = .ok (.invokestatic 45, 3) := by decide +kernel
theorem dX10_swaps_12 : decode cX10_swaps 12 = .ok (.invokevirtual 80, 3) := by decide +kernel
theorem dX10_swaps_15 : decode cX10_swaps 15 = .ok (.aload_n 0, 1) := by decide +kernel
theorem dX10_swaps_16 : decode cX10_swaps 16 = .ok (.iload_n 2, 1) := by decide +kernel
theorem dX10_swaps_17 : decode cX10_swaps 17 = .ok (.iload_n 3, 1) := by decide +kernel
theorem dX10_swaps_18 : decode cX10_swaps 18 = .ok (.invokestatic 45, 3) := by decide +kernel
theorem dX10_swaps_21 : decode cX10_swaps 21 = .ok (.iload_n 2, 1) := by decide +kernel
theorem dX10_swaps_22 : decode cX10_swaps 22 = .ok (.iload 4, 2) := by decide +kernel
theorem dX10_swaps_24 : decode cX10_swaps 24 = .ok (.invokestatic 45, 3) := by decide +kernel
theorem dX10_swaps_27 : decode cX10_swaps 27 = .ok (.invokevirtual 80, 3) := by decide +kernel
theorem dX10_swaps_30 : decode cX10_swaps 30 = .ok (.return_, 1) := by decide +kernel
theorem dX10_arePrime_0 : decode cX10_arePrime 0 = .ok (.iconst 1, 1) := by decide +kernel
theorem dX10_arePrime_1 : decode cX10_arePrime 1 = .ok (.istore_n 2, 1) := by decide +kernel
theorem dX10_arePrime_2 : decode cX10_arePrime 2 = .ok (.iconst 2, 1) := by decide +kernel
theorem dX10_arePrime_3 : decode cX10_arePrime 3 = .ok (.istore_n 3, 1) := by decide +kernel
theorem dX10_arePrime_4 : decode cX10_arePrime 4 = .ok (.iload_n 3, 1) := by decide +kernel
theorem dX10_arePrime_5 : decode cX10_arePrime 5 = .ok (.bipush 9, 2) := by decide +kernel
theorem dX10_arePrime_7 : decode cX10_arePrime 7 = .ok (.if_icmp .ge 31, 3) := by decide +kernel
theorem dX10_arePrime_10 : decode cX10_arePrime 10 = .ok (.iload_n 2, 1) := by decide +kernel
theorem dX10_arePrime_11 : decode cX10_arePrime 11 = .ok (.ifCond .eq 19, 3) := by decide +kernel
theorem dX10_arePrime_14 : decode cX10_arePrime 14 = .ok (.iload_n 0, 1) := by decide +kernel
theorem dX10_arePrime_15 : decode cX10_arePrime 15 = .ok (.iload_n 3, 1) := by decide +kernel
theorem dX10_arePrime_16 : decode cX10_arePrime 16 = .ok (.irem, 1) := by decide +kernel
theorem dX10_arePrime_17 : decode cX10_arePrime 17 = .ok (.ifCond .ne 9, 3) := by decide +kernel
theorem dX10_arePrime_20 : decode cX10_arePrime 20 = .ok (.iload_n 1, 1) := by decide +kernel
theorem dX10_arePrime_21 : decode cX10_arePrime 21 = .ok (.iload_n 3, 1) := by decide +kernel
theorem dX10_arePrime_22 : decode cX10_arePrime 22 = .ok (.irem, 1) := by decide +kernel
theorem dX10_arePrime_23 : decode cX10_arePrime 23 = .ok (.ifCond .eq 7, 3) := by decide +kernel
theorem dX10_arePrime_26 : decode cX10_arePrime 26 = .ok (.iconst 1, 1) := by decide +kernel
theorem dX10_arePrime_27 : decode cX10_arePrime 27 = .ok (.goto 4, 3) := by decide +kernel
theorem dX10_arePrime_30 : decode cX10_arePrime 30 = .ok (.iconst 0, 1) := by decide +kernel
theorem dX10_arePrime_31 : decode cX10_arePrime 31 = .ok (.istore_n 2, 1) := by decide +kernel
theorem dX10_arePrime_32 : decode cX10_arePrime 32 = .ok (.iinc 3 1, 3) := by decide +kernel
theorem dX10_arePrime_35 : decode cX10_arePrime 35 = .ok (.goto (-31), 3) := by decide +kernel
theorem dX10_arePrime_38 : decode cX10_arePrime 38 = .ok (.iload_n 2, 1) := by decide +kernel
theorem dX10_arePrime_39 : decode cX10_arePrime 39 = .ok (.ireturn, 1) := by decide +kernel
set_option maxRecDepth 20000 in
theorem ggX10_begin_X10_in : GoodIn wsX10_begin wsX10_in := goodIn_r _ [4] (by decide +kernel) (by decide +kernel)
set_option maxRecDepth 20000 in
theorem gX10_begin_X10_in : GoodIn wsX10_begin (va_wsS RX10 41 yX10_in wsX10_in) := goodIn_app (goodIn_of _ (by decide +kernel)) ggX10_begin_X10_in
set_option maxRecDepth 20000 in
theorem ggX10_begin_X10_arePrime : GoodIn wsX10_begin wsX10_arePrime := goodIn_r _ [7] (by decide +kernel) (by decide +kernel)
set_option maxRecDepth 20000 in
theorem gX10_begin_X10_arePrime : GoodIn wsX10_begin (va_wsS RX10 83 yX10_arePrime wsX10_arePrime) := goodIn_app (goodIn_of _ (by decide +kernel)) ggX10_begin_X10_arePrime
set_option maxRecDepth 20000 in
theorem ggX10_begin_X10_records : GoodIn wsX10_begin wsX10_records := goodIn_r _ [11, 12, 13, 14, 15, 39, 40, 41, 42, 43, 44, 45, 46, 47, 48, 49, 50, 51, 52] (by decide +kernel) (by decide +kernel)
set_option maxRecDepth 20000 in
theorem gX10_begin_X10_records : GoodIn wsX10_begin (wsV RX10 87 RX10 yX10_records wsX10_records) := goodIn_app (goodIn_of _ (by decide +kernel)) ggX10_begin_X10_records
set_option maxRecDepth 20000 in
theorem ggX10_begin_X10_lays : GoodIn wsX10_begin wsX10_lays := goodIn_r _ [19, 14, 20, 21, 3, 22, 39, 40, 41, 42, 43, 44, 45, 46, 47, 48, 49, 50, 51, 52] (by decide +kernel) (by decide +kernel)
set_option maxRecDepth 20000 in
theorem gX10_begin_X10_lays : GoodIn wsX10_begin (wsV RX10 37 RX10 yX10_lays wsX10_lays) := goodIn_app (goodIn_of _ (by decide +kernel)) ggX10_begin_X10_lays
set_option maxRecDepth 20000 in
theorem ggX10_begin_X10_triples : GoodIn wsX10_begin wsX10_triples := goodIn_r _ [26, 14, 27, 28, 29, 3, 30, 31, 32, 33, 34, 35, 36, 37, 38, 20, 21, 22, 39, 40, 41, 42, 43, 44, 45, 46, 47, 48, 49, 50, 51, 52] (by decide +kernel) (by decide +kernel)
set_option maxRecDepth 20000 in
theorem gX10_begin_X10_triples : GoodIn wsX10_begin (wsV RX10 90 RX10 yX10_triples wsX10_triples) := goodIn_app (goodIn_of _ (by decide +kernel)) ggX10_begin_X10_triples
theorem dX10_begin_0 : decode cX10_begin 0 = .ok (.iload_n 1, 1) := by decide +kernel
theorem dX10_begin_1 : decode cX10_begin 1 = .ok (.iconst 2, 1) := by decide +kernel
theorem dX10_begin_2 : decode cX10_begin 2 = .ok (.bipush 8, 2) := by decide +kernel
theorem dX10_begin_4 : decode cX10_begin 4 = .ok (.invokestatic 41, 3) := by decide +kernel
theorem dX10_begin_7 : decode cX10_begin 7 = .ok (.ifCond .eq 21, 3) := by decide +kernel
theorem dX10_begin_10 : decode cX10_begin 10 = .ok (.iload_n 2, 1) := by decide +kernel
theorem dX10_begin_11 : decode cX10_begin 11 = .ok (.iconst 1, 1) := by decide +kernel
theorem dX10_begin_12 : decode cX10_begin 12 = .ok (.bipush 7, 2) := by decide +kernel
theorem dX10_begin_14 : decode cX10_begin 14 = .ok (.invokestatic 41, 3) := by decide +kernel
theorem dX10_begin_17 : decode cX10_begin 17 = .ok (.ifCond .eq 11, 3) := by decide +kernel
theorem dX10_begin_20 : decode cX10_begin 20 = .ok (.iload_n 1, 1) := by decide +kernel
theorem dX10_begin_21 : decode cX10_begin 21 = .ok (.iload_n 2, 1) := by decide +kernel
theorem dX10_begin_22 : decode cX10_begin 22 = .ok (.invokestatic 83, 3) := by decide +kernel
theorem dX10_begin_25 : decode cX10_begin 25 = .ok (.ifCond .ne 5, 3) := by decide +kernel
theorem dX10_begin_28 : decode cX10_begin 28 = .ok (.iconst (-1), 1) := by decide +kernel
theorem dX10_begin_29 : decode cX10_begin 29 = .ok (.ireturn, 1) := by decide +kernel
theorem dX10_begin_30 : decode cX10_begin 30 = .ok (.aload_n 0, 1) := by decide +kernel
