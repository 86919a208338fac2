theorem dX9_token_0 : decode cX9_token 0 = .ok (.aload_n 0, 1) := by decide +kernel
theorem dX9_token_1 : decode cX9_token 1 = .ok (.getfield 10, 3) := by decide +kernel
theorem dX9_token_4 : decode cX9_token 4 = .ok (.iload_n 1, 1) := by decide +kernel
theorem dX9_token_5 : decode cX9_token 5 = .ok (.invokevirtual 134, 3) := by decide +kernel
theorem dX9_token_8 : decode cX9_token 8 = .ok (.ifCond .ne 5, 3) := by decide +kernel
theorem dX9_token_11 : decode cX9_token 11 = .ok (.iconst (-1), 1) := by decide +kernel
theorem dX9_token_12 : decode cX9_token 12 = .ok (.ireturn, 1) := by decide +kernel
theorem dX9_token_13 : decode cX9_token 13 = .ok (.iload_n 2, 1) := by decide +kernel
theorem dX9_token_14 : decode cX9_token 14 = .ok (.tableswitch 157 0 8 #[50, 59, 68, 86, 104, 118, 129, 139, 148], 50) := by decide +kernel
theorem dX9_token_64 : decode cX9_token 64 = .ok (.aload_n 0, 1) := by decide +kernel
theorem dX9_token_65 : decode cX9_token 65 = .ok (.getfield 10, 3) := by decide +kernel
theorem dX9_token_68 : decode cX9_token 68 = .ok (.iload_n 1, 1) := by decide +kernel
theorem dX9_token_69 : decode cX9_token 69 = .ok (.invokestatic 150, 3) := by decide +kernel
theorem dX9_token_72 : decode cX9_token 72 = .ok (.ireturn, 1) := by decide +kernel
theorem dX9_token_73 : decode cX9_token 73 = .ok (.aload_n 0, 1) := by decide +kernel
theorem dX9_token_74 : decode cX9_token 74 = .ok (.getfield 10, 3) := by decide +kernel
theorem dX9_token_77 : decode cX9_token 77 = .ok (.iload_n 1, 1) := by decide +kernel
theorem dX9_token_78 : decode cX9_token 78 = .ok (.invokestatic 154, 3) := by decide +kernel
theorem dX9_token_81 : decode cX9_token 81 = .ok (.ireturn, 1) := by decide +kernel
theorem dX9_token_82 : decode cX9_token 82 = .ok (.aload_n 0, 1) := by decide +kernel
theorem dX9_token_83 : decode cX9_token 83 = .ok (.getfield 10, 3) := by decide +kernel
theorem dX9_token_86 : decode cX9_token 86 = .ok (.iload_n 1, 1) := by decide +kernel
theorem dX9_token_87 : decode cX9_token 87 = .ok (.iconst 1, 1) := by decide +kernel
theorem dX9_token_88 : decode cX9_token 88 = .ok (.invokestatic 157, 3) := by decide +kernel
theorem dX9_token_91 : decode cX9_token 91 = .ok (.ifCond .eq 7, 3) := by decide +kernel
theorem dX9_token_94 : decode cX9_token 94 = .ok (.iconst 1, 1) := by decide +kernel
theorem dX9_token_95 : decode cX9_token 95 = .ok (.goto 4, 3) := by decide +kernel
theorem dX9_token_98 : decode cX9_token 98 = .ok (.iconst 0, 1) := by decide +kernel
theorem dX9_token_99 : decode cX9_token 99 = .ok (.ireturn, 1) := by decide +kernel
theorem dX9_token_100 : decode cX9_token 100 = .ok (.aload_n 0, 1) := by decide +kernel
theorem dX9_token_101 : decode cX9_token 101 = .ok (.getfield 10, 3) := by decide +kernel
theorem dX9_token_104 : decode cX9_token 104 = .ok (.iload_n 1, 1) := by decide +kernel
theorem dX9_token_105 : decode cX9_token 105 = .ok (.iconst 0, 1) := by decide +kernel
theorem dX9_token_106 : decode cX9_token 106 = .ok (.invokestatic 157, 3) := by decide +kernel
theorem dX9_token_109 : decode cX9_token 109 = .ok (.ifCond .eq 7, 3) := by decide +kernel
theorem dX9_token_112 : decode cX9_token 112 = .ok (.iconst 1, 1) := by decide +kernel
theorem dX9_token_113 : decode cX9_token 113 = .ok (.goto 4, 3) := by decide +kernel
theorem dX9_token_116 : decode cX9_token 116 = .ok (.iconst 0, 1) := by decide +kernel
theorem dX9_token_117 : decode cX9_token 117 = .ok (.ireturn, 1) := by decide +kernel
theorem dX9_token_118 : decode cX9_token 118 = .ok (.aload_n 0, 1) := by decide +kernel
theorem dX9_token_119 : decode cX9_token 119 = .ok (.getfield 10, 3) := by decide +kernel
theorem dX9_token_122 : decode cX9_token 122 = .ok (.iconst 1, 1) := by decide +kernel
theorem dX9_token_123 : decode cX9_token 123 = .ok (.iload_n 1, 1) := by decide +kernel
theorem dX9_token_124 : decode cX9_token 124 = .ok (.ishl, 1) := by decide +kernel
theorem dX9_token_125 : decode cX9_token 125 = .ok (.invokestatic 161, 3) := by decide +kernel
theorem dX9_token_128 : decode cX9_token 128 = .ok (.invokestatic 166, 3) := by decide +kernel
theorem dX9_token_131 : decode cX9_token 131 = .ok (.ireturn, 1) := by decide +kernel
theorem dX9_token_132 : decode cX9_token 132 = .ok (.aload_n 0, 1) := by decide +kernel
theorem dX9_token_133 : decode cX9_token 133 = .ok (.getfield 10, 3) := by decide +kernel
theorem dX9_token_136 : decode cX9_token 136 = .ok (.iconst 1, 1) := by decide +kernel
theorem dX9_token_137 : decode cX9_token 137 = .ok (.iload_n 1, 1) := by decide +kernel
theorem dX9_token_138 : decode cX9_token 138 = .ok (.ishl, 1) := by decide +kernel
theorem dX9_token_139 : decode cX9_token 139 = .ok (.invokestatic 161, 3) := by decide +kernel
theorem dX9_token_142 : decode cX9_token 142 = .ok (.ireturn, 1) := by decide +kernel
theorem dX9_token_143 : decode cX9_token 143 = .ok (.aload_n 0, 1) := by decide +kernel
theorem dX9_token_144 : decode cX9_token 144 = .ok (.getfield 10, 3) := by decide +kernel
theorem dX9_token_147 : decode cX9_token 147 = .ok (.iload_n 1, 1) := by decide +kernel
theorem dX9_token_148 : decode cX9_token 148 = .ok (.iload_n 1, 1) := by decide +kernel
theorem dX9_token_149 : decode cX9_token 149 = .ok (.invokevirtual 138, 3) := by decide +kernel
theorem dX9_token_152 : decode cX9_token 152 = .ok (.ireturn, 1) := by decide +kernel
theorem dX9_token_153 : decode cX9_token 153 = .ok (.aload_n 0, 1) := by decide +kernel
theorem dX9_token_154 : decode cX9_token 154 = .ok (.getfield 10, 3) := by decide +kernel
theorem dX9_token_157 : decode cX9_token 157 = .ok (.iload_n 1, 1) := by decide +kernel
theorem dX9_token_158 : decode cX9_token 158 = .ok (.invokestatic 172, 3) := by decide +kernel
theorem dX9_token_161 : decode cX9_token 161 = .ok (.ireturn, 1) := by decide +kernel
theorem dX9_token_162 : decode cX9_token 162 = .ok (.aload_n 0, 1) := by decide +kernel
theorem dX9_token_163 : decode cX9_token 163 = .ok (.getfield 10, 3) := by decide +kernel
theorem dX9_token_166 : decode cX9_token 166 = .ok (.iload_n 1, 1) := by decide +kernel
theorem dX9_token_167 : decode cX9_token 167 = .ok (.invokestatic 175, 3) := by decide +kernel
theorem dX9_token_170 : decode cX9_token 170 = .ok (.ireturn, 1) := by decide +kernel
theorem dX9_token_171 : decode cX9_token 171 = .ok (.iconst (-1), 1) := by decide +kernel
theorem dX9_token_172 : decode cX9_token 172 = .ok (.ireturn, 1) := by decide +kernel
set_option maxRecDepth 20000 in
theorem ggX9_ring_X6_allBits : GoodIn wsX9_ring wsX6_allBits := goodIn_r _ [6, 7, 39, 40] rfl (by decide +kernel)
set_option maxRecDepth 20000 in
theorem gX9_ring_X6_allBits : GoodIn wsX9_ring (wsV RX9 178 RX6 yX6_allBits wsX6_allBits) := goodIn_app (goodIn_of _ (by decide +kernel)) ggX9_ring_X6_allBits
set_option maxRecDepth 20000 in
theorem ggX9_ring_X9_isWithin : GoodIn wsX9_ring wsX9_isWithin := goodIn_r _ [11] rfl (by decide +kernel)
set_option maxRecDepth 20000 in
theorem gX9_ring_X9_isWithin : GoodIn wsX9_ring (va_wsS RX9 61 yX9_isWithin wsX9_isWithin) := goodIn_app (goodIn_of _ (by decide +kernel)) ggX9_ring_X9_isWithin
set_option maxRecDepth 20000 in
theorem ggX9_ring_X2_grownFrom : GoodIn wsX9_ring wsX2_grownFrom := goodIn_r _ [15, 16, 17, 14, 18, 19, 20, 21, 5, 22, 7, 23, 10, 24, 25, 26, 27, 28, 29, 39, 40] rfl (by decide +kernel)
set_option maxRecDepth 20000 in
theorem gX9_ring_X2_grownFrom : GoodIn wsX9_ring (va_wsS RX9 161 yX2_grownFrom wsX2_grownFrom) := goodIn_app (goodIn_of _ (by decide +kernel)) ggX9_ring_X2_grownFrom
theorem dX9_ring_0 : decode cX9_ring 0 = .ok (.iload_n 1, 1) := by decide +kernel
theorem dX9_ring_1 : decode cX9_ring 1 = .ok (.iconst 1, 1) := by decide +kernel
theorem dX9_ring_2 : decode cX9_ring 2 = .ok (.aload_n 0, 1) := by decide +kernel
theorem dX9_ring_3 : decode cX9_ring 3 = .ok (.getfield 10, 3) := by decide +kernel
theorem dX9_ring_6 : decode cX9_ring 6 = .ok (.invokevirtual 178, 3) := by decide +kernel
theorem dX9_ring_9 : decode cX9_ring 9 = .ok (.invokestatic 61, 3) := by decide +kernel
theorem dX9_ring_12 : decode cX9_ring 12 = .ok (.ifCond .ne 5, 3) := by decide +kernel
theorem dX9_ring_15 : decode cX9_ring 15 = .ok (.iconst (-1), 1) := by decide +kernel
theorem dX9_ring_16 : decode cX9_ring 16 = .ok (.ireturn, 1) := by decide +kernel
theorem dX9_ring_17 : decode cX9_ring 17 = .ok (.aload_n 0, 1) := by decide +kernel
theorem dX9_ring_18 : decode cX9_ring 18 = .ok (.getfield 10, 3) := by decide +kernel
theorem dX9_ring_21 : decode cX9_ring 21 = .ok (.iload_n 1, 1) := by decide +kernel
theorem dX9_ring_22 : decode cX9_ring 22 = .ok (.invokestatic 161, 3) := by decide +kernel
theorem dX9_ring_25 : decode cX9_ring 25 = .ok (.ireturn, 1) := by decide +kernel
set_option maxRecDepth 20000 in
theorem ggX9_ringAt_X2_atPlace : GoodIn wsX9_ringAt wsX2_atPlace := goodIn_r _ [5, 6, 7, 8, 9, 10, 11, 12, 13, 4, 14, 15, 16, 17, 18, 19, 20, 21, 22, 23, 24, 25, 26, 27, 28, 29, 39, 40] rfl (by decide +kernel)
set_option maxRecDepth 20000 in
theorem gX9_ringAt_X2_atPlace : GoodIn wsX9_ringAt (va_wsS RX9 181 yX2_atPlace wsX2_atPlace) := goodIn_app (goodIn_of _ (by decide +kernel)) ggX9_ringAt_X2_atPlace
theorem dX9_ringAt_0 : decode cX9_ringAt 0 = .ok (.iload_n 1, 1) := by decide +kernel
theorem dX9_ringAt_1 : decode cX9_ringAt 1 = .ok (.ifCond .ge 5, 3) := by decide +kernel
theorem dX9_ringAt_4 : decode cX9_ringAt 4 = .ok (.iconst (-1), 1) := by decide +kernel
theorem dX9_ringAt_5 : decode cX9_ringAt 5 = .ok (.ireturn, 1) := by decide +kernel
theorem dX9_ringAt_6 : decode cX9_ringAt 6 = .ok (.aload_n 0, 1) := by decide +kernel
theorem dX9_ringAt_7 : decode cX9_ringAt 7 = .ok (.getfield 10, 3) := by decide +kernel
theorem dX9_ringAt_10 : decode cX9_ringAt 10 = .ok (.iload_n 1, 1) := by decide +kernel
theorem dX9_ringAt_11 : decode cX9_ringAt 11 = .ok (.invokestatic 181, 3) := by decide +kernel
theorem dX9_ringAt_14 : decode cX9_ringAt 14 = .ok (.ireturn, 1) := by decide +kernel
set_option maxRecDepth 20000 in
theorem ggX9_count_X6_size : GoodIn wsX9_count wsX6_size := goodIn_r _ [9, 10, 107, 108] rfl (by decide +kernel)
set_option maxRecDepth 20000 in
theorem gX9_count_X6_size : GoodIn wsX9_count (wsV RX9 116 RX6 yX6_size wsX6_size) := goodIn_app (goodIn_of _ (by decide +kernel)) ggX9_count_X6_size
set_option maxRecDepth 20000 in
theorem ggX9_count_X8_commutingPairs : GoodIn wsX9_count wsX8_commutingPairs := goodIn_r _ [14, 15, 6, 7, 8, 9, 10, 16, 17, 13, 18, 19, 20, 21, 22, 23, 107, 108] rfl (by decide +kernel)
set_option maxRecDepth 20000 in
theorem gX9_count_X8_commutingPairs : GoodIn wsX9_count (va_wsS RX9 184 yX8_commutingPairs wsX8_commutingPairs) := goodIn_app (goodIn_of _ (by decide +kernel)) ggX9_count_X8_commutingPairs
set_option maxRecDepth 20000 in
theorem ggX9_count_X8_associatingTriples : GoodIn wsX9_count wsX8_associatingTriples := goodIn_r _ [26, 15, 6, 7, 8, 9, 10, 27, 28, 13, 29, 19, 20, 21, 22, 23, 107, 108] rfl (by decide +kernel)
set_option maxRecDepth 20000 in
theorem gX9_count_X8_associatingTriples : GoodIn wsX9_count (va_wsS RX9 73 yX8_associatingTriples wsX8_associatingTriples) := goodIn_app (goodIn_of _ (by decide +kernel)) ggX9_count_X8_associatingTriples
set_option maxRecDepth 20000 in
theorem ggX9_count_X8_neutralToken : GoodIn wsX9_count wsX8_neutralToken := goodIn_r _ [32, 15, 6, 7, 8, 9, 10, 33, 34, 13, 35, 19, 20, 21, 22, 23, 107, 108] rfl (by decide +kernel)
set_option maxRecDepth 20000 in
theorem gX9_count_X8_neutralToken : GoodIn wsX9_count (va_wsS RX9 187 yX8_neutralToken wsX8_neutralToken) := goodIn_app (goodIn_of _ (by decide +kernel)) ggX9_count_X8_neutralToken
set_option maxRecDepth 20000 in
theorem ggX9_count_X8_selfSums : GoodIn wsX9_count wsX8_selfSums := goodIn_r _ [38, 15, 6, 7, 8, 9, 10, 19, 20, 21, 22, 23, 107, 108] rfl (by decide +kernel)
set_option maxRecDepth 20000 in
theorem gX9_count_X8_selfSums : GoodIn wsX9_count (va_wsS RX9 191 yX8_selfSums wsX8_selfSums) := goodIn_app (goodIn_of _ (by decide +kernel)) ggX9_count_X8_selfSums
set_option maxRecDepth 20000 in
theorem ggX9_count_X2_howMany : GoodIn wsX9_count wsX2_howMany := goodIn_r _ [42, 43, 44, 45, 8, 46, 10, 47, 48, 41, 49, 50, 51, 52, 53, 6, 7, 9, 54, 55, 56, 57, 20, 21, 22, 23, 107, 108] rfl (by decide +kernel)
set_option maxRecDepth 20000 in
theorem gX9_count_X2_howMany : GoodIn wsX9_count (va_wsS RX9 194 yX2_howMany wsX2_howMany) := goodIn_app (goodIn_of _ (by decide +kernel)) ggX9_count_X2_howMany
set_option maxRecDepth 20000 in
theorem ggX9_count_X2_leastSeeds : GoodIn wsX9_count wsX2_leastSeeds := goodIn_r _ [60, 43, 44, 45, 8, 46, 10, 61, 62, 63, 64, 65, 66, 67, 68, 69, 41, 70, 50, 51, 52, 53, 6, 7, 9, 54, 55, 56, 57, 20, 21, 22, 23, 107, 108] rfl (by decide +kernel)
set_option maxRecDepth 20000 in
theorem gX9_count_X2_leastSeeds : GoodIn wsX9_count (va_wsS RX9 197 yX2_leastSeeds wsX2_leastSeeds) := goodIn_app (goodIn_of _ (by decide +kernel)) ggX9_count_X2_leastSeeds
set_option maxRecDepth 20000 in
theorem ggX9_count_J6_bitCount_0f7a4 : GoodIn wsX9_count wsJ6_bitCount_0f7a4 := goodIn_r _ [64, 65, 66, 67] rfl (by decide +kernel)
set_option maxRecDepth 20000 in
theorem gX9_count_J6_bitCount_0f7a4 : GoodIn wsX9_count (va_wsS RX9 166 yJ6_bitCount_0f7a4 wsJ6_bitCount_0f7a4) := goodIn_app (goodIn_of _ (by decide +kernel)) ggX9_count_J6_bitCount_0f7a4
set_option maxRecDepth 20000 in
theorem ggX9_count_X4_howMany : GoodIn wsX9_count wsX4_howMany := goodIn_r _ [76, 77, 6, 7, 8, 9, 10, 78, 79, 75, 80, 81, 82, 83, 84, 85, 20, 21, 22, 23, 107, 108] rfl (by decide +kernel)
set_option maxRecDepth 20000 in
theorem gX9_count_X4_howMany : GoodIn wsX9_count (wsV RX9 200 RX4 yX4_howMany wsX4_howMany) := goodIn_app (goodIn_of _ (by decide +kernel)) ggX9_count_X4_howMany
set_option maxRecDepth 20000 in
theorem ggX9_count_X1_length : GoodIn wsX9_count wsX1_length := goodIn_r _ [90, 91, 109, 110] rfl (by decide +kernel)
set_option maxRecDepth 20000 in
theorem gX9_count_X1_length : GoodIn wsX9_count (wsV RX9 110 RX1 yX1_length wsX1_length) := goodIn_app (goodIn_of _ (by decide +kernel)) ggX9_count_X1_length
set_option maxRecDepth 20000 in
theorem ggX9_count_X0_states : GoodIn wsX9_count wsX0_states := goodIn_r _ [96, 97, 111, 112] rfl (by decide +kernel)
set_option maxRecDepth 20000 in
theorem gX9_count_X0_states : GoodIn wsX9_count (wsV RX9 201 RX0 yX0_states wsX0_states) := goodIn_app (goodIn_of _ (by decide +kernel)) ggX9_count_X0_states
theorem dX9_count_0 : decode cX9_count 0 = .ok (.iload_n 1, 1) := by decide +kernel
theorem dX9_count_1 : decode cX9_count 1 = .ok (.tableswitch 168 0 11 #[63, 71, 79, 87, 96, 105, 113, 121, 132, 140, 152, 160], 63) := by decide +kernel
theorem dX9_count_64 : decode cX9_count 64 = .ok (.aload_n 0, 1) := by decide +kernel
theorem dX9_count_65 : decode cX9_count 65 = .ok (.getfield 10, 3) := by decide +kernel
theorem dX9_count_68 : decode cX9_count 68 = .ok (.invokevirtual 116, 3) := by decide +kernel
theorem dX9_count_71 : decode cX9_count 71 = .ok (.ireturn, 1) := by decide +kernel
theorem dX9_count_72 : decode cX9_count 72 = .ok (.aload_n 0, 1) := by decide +kernel
theorem dX9_count_73 : decode cX9_count 73 = .ok (.getfield 10, 3) := by decide +kernel
theorem dX9_count_76 : decode cX9_count 76 = .ok (.invokestatic 184, 3) := by decide +kernel
theorem dX9_count_79 : decode cX9_count 79 = .ok (.ireturn, 1) := by decide +kernel
theorem dX9_count_80 : decode cX9_count 80 = .ok (.aload_n 0, 1) := by decide +kernel
theorem dX9_count_81 : decode cX9_count 81 = .ok (.getfield 10, 3) := by decide +kernel
theorem dX9_count_84 : decode cX9_count 84 = .ok (.invokestatic 73, 3) := by decide +kernel
theorem dX9_count_87 : decode cX9_count 87 = .ok (.ireturn, 1) := by decide +kernel
theorem dX9_count_88 : decode cX9_count 88 = .ok (.aload_n 0, 1) := by decide +kernel
theorem dX9_count_89 : decode cX9_count 89 = .ok (.getfield 10, 3) := by decide +kernel
theorem dX9_count_92 : decode cX9_count 92 = .ok (.iconst 1, 1) := by decide +kernel
theorem dX9_count_93 : decode cX9_count 93 = .ok (.invokestatic 187, 3) := by decide +kernel
theorem dX9_count_96 : decode cX9_count 96 = .ok (.ireturn, 1) := by decide +kernel
theorem dX9_count_97 : decode cX9_count 97 = .ok (.aload_n 0, 1) := by decide +kernel
theorem dX9_count_98 : decode cX9_count 98 = .ok (.getfield 10, 3) := by decide +kernel
theorem dX9_count_101 : decode cX9_count 101 = .ok (.iconst 0, 1) := by decide +kernel
theorem dX9_count_102 : decode cX9_count 102 = .ok (.invokestatic 187, 3) := by decide +kernel
theorem dX9_count_105 : decode cX9_count 105 = .ok (.ireturn, 1) := by decide +kernel
theorem dX9_count_106 : decode cX9_count 106 = .ok (.aload_n 0, 1) := by decide +kernel
theorem dX9_count_107 : decode cX9_count 107 = .ok (.getfield 10, 3) := by decide +kernel
theorem dX9_count_110 : decode cX9_count 110 = .ok (.invokestatic 191, 3) := by decide +kernel
theorem dX9_count_113 : decode cX9_count 113 = .ok (.ireturn, 1) := by decide +kernel
theorem dX9_count_114 : decode cX9_count 114 = .ok (.aload_n 0, 1) := by decide +kernel
theorem dX9_count_115 : decode cX9_count 115 = .ok (.getfield 10, 3) := by decide +kernel
theorem dX9_count_118 : decode cX9_count 118 = .ok (.invokestatic 194, 3) := by decide +kernel
theorem dX9_count_121 : decode cX9_count 121 = .ok (.ireturn, 1) := by decide +kernel
theorem dX9_count_122 : decode cX9_count 122 = .ok (.aload_n 0, 1) := by decide +kernel
theorem dX9_count_123 : decode cX9_count 123 = .ok (.getfield 10, 3) := by decide +kernel
theorem dX9_count_126 : decode cX9_count 126 = .ok (.invokestatic 197, 3) := by decide +kernel
theorem dX9_count_129 : decode cX9_count 129 = .ok (.invokestatic 166, 3) := by decide +kernel
theorem dX9_count_132 : decode cX9_count 132 = .ok (.ireturn, 1) := by decide +kernel
theorem dX9_count_133 : decode cX9_count 133 = .ok (.aload_n 0, 1) := by decide +kernel
theorem dX9_count_134 : decode cX9_count 134 = .ok (.getfield 10, 3) := by decide +kernel
theorem dX9_count_137 : decode cX9_count 137 = .ok (.invokestatic 197, 3) := by decide +kernel
theorem dX9_count_140 : decode cX9_count 140 = .ok (.ireturn, 1) := by decide +kernel
theorem dX9_count_141 : decode cX9_count 141 = .ok (.aload_n 0, 1) := by decide +kernel
theorem dX9_count_142 : decode cX9_count 142 = .ok (.getfield 53, 3) := by decide +kernel
theorem dX9_count_145 : decode cX9_count 145 = .ok (.aload_n 0, 1) := by decide +kernel
theorem dX9_count_146 : decode cX9_count 146 = .ok (.getfield 10, 3) := by decide +kernel
theorem dX9_count_149 : decode cX9_count 149 = .ok (.invokevirtual 200, 3) := by decide +kernel
theorem dX9_count_152 : decode cX9_count 152 = .ok (.ireturn, 1) := by decide +kernel
theorem dX9_count_153 : decode cX9_count 153 = .ok (.aload_n 0, 1) := by decide +kernel
theorem dX9_count_154 : decode cX9_count 154 = .ok (.getfield 32, 3) := by decide +kernel
theorem dX9_count_157 : decode cX9_count 157 = .ok (.invokevirtual 110, 3) := by decide +kernel
theorem dX9_count_160 : decode cX9_count 160 = .ok (.ireturn, 1) := by decide +kernel
theorem dX9_count_161 : decode cX9_count 161 = .ok (.aload_n 0, 1) := by decide +kernel
theorem dX9_count_162 : decode cX9_count 162 = .ok (.getfield 25, 3) := by decide +kernel
theorem dX9_count_165 : decode cX9_count 165 = .ok (.invokevirtual 201, 3) := by decide +kernel
theorem dX9_count_168 : decode cX9_count 168 = .ok (.ireturn, 1) := by decide +kernel
theorem dX9_count_169 : decode cX9_count 169 = .ok (.iconst (-1), 1) := by decide +kernel
theorem dX9_count_170 : decode cX9_count 170 = .ok (.ireturn, 1) := by decide +kernel
set_option maxRecDepth 20000 in
theorem ggX9_crooked_X6_size : GoodIn wsX9_crooked wsX6_size := goodIn_r _ [6, 7, 30, 31] rfl (by decide +kernel)
set_option maxRecDepth 20000 in
theorem gX9_crooked_X6_size : GoodIn wsX9_crooked (wsV RX9 116 RX6 yX6_size wsX6_size) := goodIn_app (goodIn_of _ (by decide +kernel)) ggX9_crooked_X6_size
set_option maxRecDepth 20000 in
theorem ggX9_crooked_X8_associatingTriples : GoodIn wsX9_crooked wsX8_associatingTriples := goodIn_r _ [11, 12, 3, 4, 5, 6, 7, 13, 14, 10, 15, 16, 17, 18, 19, 20, 30, 31] rfl (by decide +kernel)
set_option maxRecDepth 20000 in
theorem gX9_crooked_X8_associatingTriples : GoodIn wsX9_crooked (va_wsS RX9 73 yX8_associatingTriples wsX8_associatingTriples) := goodIn_app (goodIn_of _ (by decide +kernel)) ggX9_crooked_X8_associatingTriples
theorem dX9_crooked_0 : decode cX9_crooked 0 = .ok (.aload_n 0, 1) := by decide +kernel
theorem dX9_crooked_1 : decode cX9_crooked 1 = .ok (.getfield 10, 3) := by decide +kernel
theorem dX9_crooked_4 : decode cX9_crooked 4 = .ok (.invokevirtual 116, 3) := by decide +kernel
theorem dX9_crooked_7 : decode cX9_crooked 7 = .ok (.istore_n 1, 1) := by decide +kernel
theorem dX9_crooked_8 : decode cX9_crooked 8 = .ok (.iload_n 1, 1) := by decide +kernel
theorem dX9_crooked_9 : decode cX9_crooked 9 = .ok (.iload_n 1, 1) := by decide +kernel
theorem dX9_crooked_10 : decode cX9_crooked 10 = .ok (.imul, 1) := by decide +kernel
theorem dX9_crooked_11 : decode cX9_crooked 11 = .ok (.iload_n 1, 1) := by decide +kernel
theorem dX9_crooked_12 : decode cX9_crooked 12 = .ok (.imul, 1) := by decide +kernel
theorem dX9_crooked_13 : decode cX9_crooked 13 = .ok (.istore_n 2, 1) := by decide +kernel
theorem dX9_crooked_14 : decode cX9_crooked 14 = .ok (.iload_n 2, 1) := by decide +kernel
theorem dX9_crooked_15 : decode cX9_crooked 15 = .ok (.ifCond .gt 5, 3) := by decide +kernel
theorem dX9_crooked_18 : decode cX9_crooked 18 = .ok (.dconst 0, 1) := by decide +kernel
theorem dX9_crooked_19 : decode cX9_crooked 19 = .ok (.dreturn, 1) := by decide +kernel
theorem dX9_crooked_20 : decode cX9_crooked 20 = .ok (.iload_n 2, 1) := by decide +kernel
theorem dX9_crooked_21 : decode cX9_crooked 21 = .ok (.aload_n 0, 1) := by decide +kernel
theorem dX9_crooked_22 : decode cX9_crooked 22 = .ok (.getfield 10, 3) := by decide +kernel
theorem dX9_crooked_25 : decode cX9_crooked 25 = .ok (.invokestatic 73, 3) := by decide +kernel
theorem dX9_crooked_28 : decode cX9_crooked 28 = .ok (.isub, 1) := by decide +kernel
theorem dX9_crooked_29 : decode cX9_crooked 29 = .ok (.i2d, 1) := by decide +kernel
theorem dX9_crooked_30 : decode cX9_crooked 30 = .ok (.iload_n 2, 1) := by decide +kernel
theorem dX9_crooked_31 : decode cX9_crooked 31 = .ok (.i2d, 1) := by decide +kernel
theorem dX9_crooked_32 : decode cX9_crooked 32 = .ok (.ddiv, 1) := by decide +kernel
theorem dX9_crooked_33 : decode cX9_crooked 33 = .ok (.dreturn, 1) := by decide +kernel
set_option maxRecDepth 20000 in
theorem ggX9_ways_X6_has : GoodIn wsX9_ways wsX6_has := goodIn_r _ [8, 9, 91, 92] rfl (by decide +kernel)
set_option maxRecDepth 20000 in
theorem gX9_ways_X6_has : GoodIn wsX9_ways (wsV RX9 134 RX6 yX6_has wsX6_has) := goodIn_app (goodIn_of _ (by decide +kernel)) ggX9_ways_X6_has
set_option maxRecDepth 20000 in
theorem ggX9_ways_X9_isWithin : GoodIn wsX9_ways wsX9_isWithin := goodIn_r _ [13] rfl (by decide +kernel)
set_option maxRecDepth 20000 in
theorem gX9_ways_X9_isWithin : GoodIn wsX9_ways (va_wsS RX9 61 yX9_isWithin wsX9_isWithin) := goodIn_app (goodIn_of _ (by decide +kernel)) ggX9_ways_X9_isWithin
set_option maxRecDepth 20000 in
theorem ggX9_ways_X3_readFrom : GoodIn wsX9_ways wsX3_readFrom := goodIn_r _ [18, 19, 20, 21, 22, 23, 24, 25, 26, 27, 28, 29, 30, 31, 32, 33, 34, 35, 36, 5, 6, 7, 8, 9, 37, 12, 38, 93, 94, 95, 96, 97, 91, 92] rfl (by decide +kernel)
set_option maxRecDepth 20000 in
theorem gX9_ways_X3_readFrom : GoodIn wsX9_ways (wsV RX9 126 RX3 yX3_readFrom wsX3_readFrom) := goodIn_app (goodIn_of _ (by decide +kernel)) ggX9_ways_X3_readFrom
set_option maxRecDepth 20000 in
theorem ggX9_ways_X3_waysByParts : GoodIn wsX9_ways wsX3_waysByParts := goodIn_r _ [42, 19, 43, 44, 45, 17, 46, 47, 20, 37, 12, 38, 48, 49, 50, 51, 52, 53, 54, 55, 56, 57, 58, 59, 60, 61, 62, 63, 64, 65, 66, 67, 7, 68, 9, 69, 70, 71, 72, 73, 93, 94, 95, 91, 92] rfl (by decide +kernel)
set_option maxRecDepth 20000 in
theorem gX9_ways_X3_waysByParts : GoodIn wsX9_ways (wsV RX9 204 RX3 yX3_waysByParts wsX3_waysByParts) := goodIn_app (goodIn_of _ (by decide +kernel)) ggX9_ways_X3_waysByParts
set_option maxRecDepth 20000 in
theorem ggX9_ways_X3_waysOneByOne : GoodIn wsX9_ways wsX3_waysOneByOne := goodIn_r _ [77, 78, 19, 20, 48, 12, 49, 79, 80, 17, 81, 69, 70, 71, 7, 72, 73, 93, 94, 95, 91, 92] rfl (by decide +kernel)
set_option maxRecDepth 20000 in
theorem gX9_ways_X3_waysOneByOne : GoodIn wsX9_ways (wsV RX9 207 RX3 yX3_waysOneByOne wsX3_waysOneByOne) := goodIn_app (goodIn_of _ (by decide +kernel)) ggX9_ways_X3_waysOneByOne
theorem dX9_ways_0 : decode cX9_ways 0 = .ok (.aload_n 0, 1) := by decide +kernel
theorem dX9_ways_1 : decode cX9_ways 1 = .ok (.getfield 10, 3) := by decide +kernel
theorem dX9_ways_4 : decode cX9_ways 4 = .ok (.iload_n 1, 1) := by decide +kernel
theorem dX9_ways_5 : decode cX9_ways 5 = .ok (.invokevirtual 134, 3) := by decide +kernel
theorem dX9_ways_8 : decode cX9_ways 8 = .ok (.ifCond .eq 12, 3) := by decide +kernel
theorem dX9_ways_11 : decode cX9_ways 11 = .ok (.iload_n 2, 1) := by decide +kernel
theorem dX9_ways_12 : decode cX9_ways 12 = .ok (.iconst 0, 1) := by decide +kernel
theorem dX9_ways_13 : decode cX9_ways 13 = .ok (.iconst 1, 1) := by decide +kernel
theorem dX9_ways_14 : decode cX9_ways 14 = .ok (.invokestatic 61, 3) := by decide +kernel
theorem dX9_ways_17 : decode cX9_ways 17 = .ok (.ifCond .ne 5, 3) := by decide +kernel
theorem dX9_ways_20 : decode cX9_ways 20 = .ok (.iconst (-1), 1) := by decide +kernel
theorem dX9_ways_21 : decode cX9_ways 21 = .ok (.ireturn, 1) := by decide +kernel
theorem dX9_ways_22 : decode cX9_ways 22 = .ok (.aload_n 0, 1) := by decide +kernel
theorem dX9_ways_23 : decode cX9_ways 23 = .ok (.getfield 46, 3) := by decide +kernel
theorem dX9_ways_26 : decode cX9_ways 26 = .ok (.aload_n 0, 1) := by decide +kernel
theorem dX9_ways_27 : decode cX9_ways 27 = .ok (.getfield 32, 3) := by decide +kernel
theorem dX9_ways_30 : decode cX9_ways 30 = .ok (.aload_n 0, 1) := by decide +kernel
theorem dX9_ways_31 : decode cX9_ways 31 = .ok (.getfield 10, 3) := by decide +kernel
theorem dX9_ways_34 : decode cX9_ways 34 = .ok (.invokevirtual 126, 3) := by decide +kernel
theorem dX9_ways_37 : decode cX9_ways 37 = .ok (.bipush (-4), 2) := by decide +kernel
theorem dX9_ways_39 : decode cX9_ways 39 = .ok (.if_icmp .eq 6, 3) := by decide +kernel
theorem dX9_ways_42 : decode cX9_ways 42 = .ok (.bipush (-2), 2) := by decide +kernel
theorem dX9_ways_44 : decode cX9_ways 44 = .ok (.ireturn, 1) := by decide +kernel
theorem dX9_ways_45 : decode cX9_ways 45 = .ok (.iload_n 2, 1) := by decide +kernel
theorem dX9_ways_46 : decode cX9_ways 46 = .ok (.ifCond .ne 18, 3) := by decide +kernel
theorem dX9_ways_49 : decode cX9_ways 49 = .ok (.aload_n 0, 1) := by decide +kernel
theorem dX9_ways_50 : decode cX9_ways 50 = .ok (.getfield 46, 3) := by decide +kernel
theorem dX9_ways_53 : decode cX9_ways 53 = .ok (.aload_n 0, 1) := by decide +kernel
theorem dX9_ways_54 : decode cX9_ways 54 = .ok (.getfield 10, 3) := by decide +kernel
theorem dX9_ways_57 : decode cX9_ways 57 = .ok (.iload_n 1, 1) := by decide +kernel
theorem dX9_ways_58 : decode cX9_ways 58 = .ok (.invokevirtual 204, 3) := by decide +kernel
theorem dX9_ways_61 : decode cX9_ways 61 = .ok (.goto 15, 3) := by decide +kernel
theorem dX9_ways_64 : decode cX9_ways 64 = .ok (.aload_n 0, 1) := by decide +kernel
theorem dX9_ways_65 : decode cX9_ways 65 = .ok (.getfield 46, 3) := by decide +kernel
theorem dX9_ways_68 : decode cX9_ways 68 = .ok (.aload_n 0, 1) := by decide +kernel
theorem dX9_ways_69 : decode cX9_ways 69 = .ok (.getfield 10, 3) := by decide +kernel
theorem dX9_ways_72 : decode cX9_ways 72 = .ok (.iload_n 1, 1) := by decide +kernel
theorem dX9_ways_73 : decode cX9_ways 73 = .ok (.invokevirtual 207, 3) := by decide +kernel
theorem dX9_ways_76 : decode cX9_ways 76 = .ok (.ireturn, 1) := by decide +kernel
set_option maxRecDepth 20000 in
theorem ggX9_sums_X9_isWithin : GoodIn wsX9_sums wsX9_isWithin := goodIn_r _ [7] rfl (by decide +kernel)
set_option maxRecDepth 20000 in
theorem gX9_sums_X9_isWithin : GoodIn wsX9_sums (va_wsS RX9 61 yX9_isWithin wsX9_isWithin) := goodIn_app (goodIn_of _ (by decide +kernel)) ggX9_sums_X9_isWithin
set_option maxRecDepth 20000 in
theorem ggX9_sums_X3_readFrom : GoodIn wsX9_sums wsX3_readFrom := goodIn_r _ [12, 13, 14, 15, 16, 17, 18, 19, 20, 21, 22, 23, 24, 25, 26, 27, 28, 29, 30, 31, 32, 33, 34, 35, 36, 6, 37, 94, 95, 96, 97, 98, 99, 100] rfl (by decide +kernel)
set_option maxRecDepth 20000 in
theorem gX9_sums_X3_readFrom : GoodIn wsX9_sums (wsV RX9 126 RX3 yX3_readFrom wsX3_readFrom) := goodIn_app (goodIn_of _ (by decide +kernel)) ggX9_sums_X3_readFrom
set_option maxRecDepth 20000 in
theorem ggX9_sums_X3_possibleSums : GoodIn wsX9_sums wsX3_possibleSums := goodIn_r _ [41, 13, 42, 43, 44, 11, 45, 46, 14, 36, 6, 37, 47, 48, 49, 50, 51, 52, 53, 54, 55, 56, 57, 58, 59, 60, 61, 62, 63, 64, 65, 66, 33, 67, 35, 68, 69, 70, 71, 72, 94, 95, 96, 99, 100] rfl (by decide +kernel)
set_option maxRecDepth 20000 in
theorem gX9_sums_X3_possibleSums : GoodIn wsX9_sums (wsV RX9 210 RX3 yX3_possibleSums wsX3_possibleSums) := goodIn_app (goodIn_of _ (by decide +kernel)) ggX9_sums_X3_possibleSums
set_option maxRecDepth 20000 in
theorem ggX9_sums_X3_sumFromLeft : GoodIn wsX9_sums wsX3_sumFromLeft := goodIn_r _ [76, 14, 13, 47, 6, 48, 68, 69, 70, 33, 71, 72, 94, 95, 96, 99, 100] rfl (by decide +kernel)
set_option maxRecDepth 20000 in
theorem gX9_sums_X3_sumFromLeft : GoodIn wsX9_sums (wsV RX9 213 RX3 yX3_sumFromLeft wsX3_sumFromLeft) := goodIn_app (goodIn_of _ (by decide +kernel)) ggX9_sums_X3_sumFromLeft
set_option maxRecDepth 20000 in
theorem ggX9_sums_X3_sumFromRight : GoodIn wsX9_sums wsX3_sumFromRight := goodIn_r _ [80, 14, 13, 47, 6, 48, 68, 69, 70, 33, 71, 72, 94, 95, 96, 99, 100] rfl (by decide +kernel)
set_option maxRecDepth 20000 in
theorem gX9_sums_X3_sumFromRight : GoodIn wsX9_sums (wsV RX9 216 RX3 yX3_sumFromRight wsX3_sumFromRight) := goodIn_app (goodIn_of _ (by decide +kernel)) ggX9_sums_X3_sumFromRight
set_option maxRecDepth 20000 in
theorem ggX9_sums_X3_likeliestSum : GoodIn wsX9_sums wsX3_likeliestSum := goodIn_r _ [84, 13, 42, 43, 44, 11, 45, 46, 14, 36, 6, 37, 47, 48, 49, 50, 51, 52, 53, 54, 55, 56, 57, 58, 59, 60, 61, 62, 63, 64, 65, 66, 33, 67, 35, 68, 69, 70, 71, 72, 94, 95, 96, 99, 100] rfl (by decide +kernel)
set_option maxRecDepth 20000 in
theorem gX9_sums_X3_likeliestSum : GoodIn wsX9_sums (wsV RX9 219 RX3 yX3_likeliestSum wsX3_likeliestSum) := goodIn_app (goodIn_of _ (by decide +kernel)) ggX9_sums_X3_likeliestSum
theorem dX9_sums_0 : decode cX9_sums 0 = .ok (.iload_n 1, 1) := by decide +kernel
theorem dX9_sums_1 : decode cX9_sums 1 = .ok (.iconst 0, 1) := by decide +kernel
theorem dX9_sums_2 : decode cX9_sums 2 = .ok (.iconst 3, 1) := by decide +kernel
theorem dX9_sums_3 : decode cX9_sums 3 = .ok (.invokestatic 61, 3) := by decide +kernel
theorem dX9_sums_6 : decode cX9_sums 6 = .ok (.ifCond .ne 5, 3) := by decide +kernel
theorem dX9_sums_9 : decode cX9_sums 9 = .ok (.iconst (-1), 1) := by decide +kernel
theorem dX9_sums_10 : decode cX9_sums 10 = .ok (.ireturn, 1) := by decide +kernel
theorem dX9_sums_11 : decode cX9_sums 11 = .ok (.aload_n 0, 1) := by decide +kernel
theorem dX9_sums_12 : decode cX9_sums 12 = .ok (.getfield 46, 3) := by decide +kernel
theorem dX9_sums_15 : decode cX9_sums 15 = .ok (.aload_n 0, 1) := by decide +kernel
theorem dX9_sums_16 : decode cX9_sums 16 = .ok (.getfield 32, 3) := by decide +kernel
theorem dX9_sums_19 : decode cX9_sums 19 = .ok (.aload_n 0, 1) := by decide +kernel
theorem dX9_sums_20 : decode cX9_sums 20 = .ok (.getfield 10, 3) := by decide +kernel
theorem dX9_sums_23 : decode cX9_sums 23 = .ok (.invokevirtual 126, 3) := by decide +kernel
theorem dX9_sums_26 : decode cX9_sums 26 = .ok (.bipush (-4), 2) := by decide +kernel
theorem dX9_sums_28 : decode cX9_sums 28 = .ok (.if_icmp .eq 6, 3) := by decide +kernel
theorem dX9_sums_31 : decode cX9_sums 31 = .ok (.bipush (-2), 2) := by decide +kernel
theorem dX9_sums_33 : decode cX9_sums 33 = .ok (.ireturn, 1) := by decide +kernel
theorem dX9_sums_34 : decode cX9_sums 34 = .ok (.iload_n 1, 1) := by decide +kernel
theorem dX9_sums_35 : decode cX9_sums 35 = .ok (.tableswitch 61 0 2 #[25, 37, 49], 25) := by decide +kernel
theorem dX9_sums_60 : decode cX9_sums 60 = .ok (.aload_n 0, 1) := by decide +kernel
theorem dX9_sums_61 : decode cX9_sums 61 = .ok (.getfield 46, 3) := by decide +kernel
theorem dX9_sums_64 : decode cX9_sums 64 = .ok (.aload_n 0, 1) := by decide +kernel
theorem dX9_sums_65 : decode cX9_sums 65 = .ok (.getfield 10, 3) := by decide +kernel
theorem dX9_sums_68 : decode cX9_sums 68 = .ok (.invokevirtual 210, 3) := by decide +kernel
theorem dX9_sums_71 : decode cX9_sums 71 = .ok (.ireturn, 1) := by decide +kernel
theorem dX9_sums_72 : decode cX9_sums 72 = .ok (.aload_n 0, 1) := by decide +kernel
theorem dX9_sums_73 : decode cX9_sums 73 = .ok (.getfield 46, 3) := by decide +kernel
theorem dX9_sums_76 : decode cX9_sums 76 = .ok (.aload_n 0, 1) := by decide +kernel
theorem dX9_sums_77 : decode cX9_sums 77 = .ok (.getfield 10, 3) := by decide +kernel
theorem dX9_sums_80 : decode cX9_sums 80 = .ok (.invokevirtual 213, 3) := by decide +kernel
theorem dX9_sums_83 : decode cX9_sums 83 = .ok (.ireturn, 1) := by decide +kernel
theorem dX9_sums_84 : decode cX9_sums 84 = .ok (.aload_n 0, 1) := by decide +kernel
theorem dX9_sums_85 : decode cX9_sums 85 = .ok (.getfield 46, 3) := by decide +kernel
theorem dX9_sums_88 : decode cX9_sums 88 = .ok (.aload_n 0, 1) := by decide +kernel
theorem dX9_sums_89 : decode cX9_sums 89 = .ok (.getfield 10, 3) := by decide +kernel
theorem dX9_sums_92 : decode cX9_sums 92 = .ok (.invokevirtual 216, 3) := by decide +kernel
theorem dX9_sums_95 : decode cX9_sums 95 = .ok (.ireturn, 1) := by decide +kernel
theorem dX9_sums_96 : decode cX9_sums 96 = .ok (.aload_n 0, 1) := by decide +kernel
theorem dX9_sums_97 : decode cX9_sums 97 = .ok (.getfield 46, 3) := by decide +kernel
theorem dX9_sums_100 : decode cX9_sums 100 = .ok (.aload_n 0, 1) := by decide +kernel
theorem dX9_sums_101 : decode cX9_sums 101 = .ok (.getfield 10, 3) := by decide +kernel
theorem dX9_sums_104 : decode cX9_sums 104 = .ok (.invokevirtual 219, 3) := by decide +kernel
theorem dX9_sums_107 : decode cX9_sums 107 = .ok (.ireturn, 1) := by decide +kernel
set_option maxRecDepth 20000 in
theorem ggX9_cut_X6_has : GoodIn wsX9_cut wsX6_has := goodIn_r _ [8, 9, 84, 85] rfl (by decide +kernel)
set_option maxRecDepth 20000 in
theorem gX9_cut_X6_has : GoodIn wsX9_cut (wsV RX9 134 RX6 yX6_has wsX6_has) := goodIn_app (goodIn_of _ (by decide +kernel)) ggX9_cut_X6_has
set_option maxRecDepth 20000 in
theorem ggX9_cut_X3_readFrom : GoodIn wsX9_cut wsX3_readFrom := goodIn_r _ [14, 15, 16, 17, 18, 19, 20, 21, 22, 23, 24, 25, 26, 27, 28, 29, 30, 31, 32, 5, 6, 7, 8, 9, 33, 34, 35, 86, 87, 88, 89, 90, 84, 85] rfl (by decide +kernel)
set_option maxRecDepth 20000 in
theorem gX9_cut_X3_readFrom : GoodIn wsX9_cut (wsV RX9 126 RX3 yX3_readFrom wsX3_readFrom) := goodIn_app (goodIn_of _ (by decide +kernel)) ggX9_cut_X3_readFrom
set_option maxRecDepth 20000 in
theorem ggX9_cut_X3_firstCut : GoodIn wsX9_cut wsX3_firstCut := goodIn_r _ [39, 15, 40, 41, 42, 13, 43, 44, 16, 33, 34, 35, 45, 46, 47, 48, 49, 50, 51, 52, 53, 54, 55, 56, 57, 58, 59, 60, 61, 62, 63, 64, 7, 65, 9, 66, 67, 68, 69, 70, 71, 72, 73, 74, 86, 87, 88, 84, 85] rfl (by decide +kernel)
set_option maxRecDepth 20000 in
theorem gX9_cut_X3_firstCut : GoodIn wsX9_cut (wsV RX9 222 RX3 yX3_firstCut wsX3_firstCut) := goodIn_app (goodIn_of _ (by decide +kernel)) ggX9_cut_X3_firstCut
theorem dX9_cut_0 : decode cX9_cut 0 = .ok (.aload_n 0, 1) := by decide +kernel
theorem dX9_cut_1 : decode cX9_cut 1 = .ok (.getfield 10, 3) := by decide +kernel
theorem dX9_cut_4 : decode cX9_cut 4 = .ok (.iload_n 1, 1) := by decide +kernel
theorem dX9_cut_5 : decode cX9_cut 5 = .ok (.invokevirtual 134, 3) := by decide +kernel
theorem dX9_cut_8 : decode cX9_cut 8 = .ok (.ifCond .ne 5, 3) := by decide +kernel
theorem dX9_cut_11 : decode cX9_cut 11 = .ok (.iconst (-1), 1) := by decide +kernel
theorem dX9_cut_12 : decode cX9_cut 12 = .ok (.ireturn, 1) := by decide +kernel
theorem dX9_cut_13 : decode cX9_cut 13 = .ok (.aload_n 0, 1) := by decide +kernel
theorem dX9_cut_14 : decode cX9_cut 14 = .ok (.getfield 46, 3) := by decide +kernel
theorem dX9_cut_17 : decode cX9_cut 17 = .ok (.aload_n 0, 1) := by decide +kernel
theorem dX9_cut_18 : decode cX9_cut 18 = .ok (.getfield 32, 3) := by decide +kernel
theorem dX9_cut_21 : decode cX9_cut 21 = .ok (.aload_n 0, 1) := by decide +kernel
theorem dX9_cut_22 : decode cX9_cut 22 = .ok (.getfield 10, 3) := by decide +kernel
theorem dX9_cut_25 : decode cX9_cut 25 = .ok (.invokevirtual 126, 3) := by decide +kernel
theorem dX9_cut_28 : decode cX9_cut 28 = .ok (.bipush (-4), 2) := by decide +kernel
theorem dX9_cut_30 : decode cX9_cut 30 = .ok (.if_icmp .eq 6, 3) := by decide +kernel
theorem dX9_cut_33 : decode cX9_cut 33 = .ok (.bipush (-2), 2) := by decide +kernel
theorem dX9_cut_35 : decode cX9_cut 35 = .ok (.ireturn, 1) := by decide +kernel
theorem dX9_cut_36 : decode cX9_cut 36 = .ok (.aload_n 0, 1) := by decide +kernel
theorem dX9_cut_37 : decode cX9_cut 37 = .ok (.getfield 46, 3) := by decide +kernel
theorem dX9_cut_40 : decode cX9_cut 40 = .ok (.aload_n 0, 1) := by decide +kernel
theorem dX9_cut_41 : decode cX9_cut 41 = .ok (.getfield 10, 3) := by decide +kernel
theorem dX9_cut_44 : decode cX9_cut 44 = .ok (.iload_n 1, 1) := by decide +kernel
theorem dX9_cut_45 : decode cX9_cut 45 = .ok (.invokevirtual 222, 3) := by decide +kernel
theorem dX9_cut_48 : decode cX9_cut 48 = .ok (.ireturn, 1) := by decide +kernel
set_option maxRecDepth 20000 in
theorem ggX9_ifSwapped_X9_areUnlikeTokens : GoodIn wsX9_ifSwapped wsX9_areUnlikeTokens := goodIn_r _ [7, 1, 8, 9, 10, 11, 12, 13, 82, 83, 84, 85, 86, 87, 88, 89, 90, 91, 92] rfl (by decide +kernel)
set_option maxRecDepth 20000 in
theorem gX9_ifSwapped_X9_areUnlikeTokens : GoodIn wsX9_ifSwapped (wsV RX9 79 RX9 yX9_areUnlikeTokens wsX9_areUnlikeTokens) := goodIn_app (goodIn_of _ (by decide +kernel)) ggX9_ifSwapped_X9_areUnlikeTokens
set_option maxRecDepth 20000 in
theorem ggX9_ifSwapped_X9_isWithin : GoodIn wsX9_ifSwapped wsX9_isWithin := goodIn_r _ [16] rfl (by decide +kernel)
set_option maxRecDepth 20000 in
theorem gX9_ifSwapped_X9_isWithin : GoodIn wsX9_ifSwapped (va_wsS RX9 61 yX9_isWithin wsX9_isWithin) := goodIn_app (goodIn_of _ (by decide +kernel)) ggX9_ifSwapped_X9_isWithin
set_option maxRecDepth 20000 in
theorem ggX9_ifSwapped_X6_isLittleSquare : GoodIn wsX9_ifSwapped wsX6_isLittleSquare := goodIn_r _ [20, 21, 22, 23, 11, 24, 25, 91, 92] rfl (by decide +kernel)
set_option maxRecDepth 20000 in
theorem gX9_ifSwapped_X6_isLittleSquare : GoodIn wsX9_ifSwapped (wsV RX9 98 RX6 yX6_isLittleSquare wsX6_isLittleSquare) := goodIn_app (goodIn_of _ (by decide +kernel)) ggX9_ifSwapped_X6_isLittleSquare
set_option maxRecDepth 20000 in
theorem ggX9_ifSwapped_X6_copyFrom : GoodIn wsX9_ifSwapped wsX6_copyFrom := goodIn_r _ [29, 13, 25, 30, 6, 31, 32, 33, 91, 92] rfl (by decide +kernel)
set_option maxRecDepth 20000 in
theorem gX9_ifSwapped_X6_copyFrom : GoodIn wsX9_ifSwapped (wsV RX9 82 RX6 yX6_copyFrom wsX6_copyFrom) := goodIn_app (goodIn_of _ (by decide +kernel)) ggX9_ifSwapped_X6_copyFrom
set_option maxRecDepth 20000 in
theorem ggX9_ifSwapped_X6_swapSquare : GoodIn wsX9_ifSwapped wsX6_swapSquare := goodIn_r _ [37, 38, 39, 40, 11, 41, 21, 22, 23, 24, 25, 42, 43, 44, 45, 32, 6, 33, 91, 92] rfl (by decide +kernel)
set_option maxRecDepth 20000 in
theorem gX9_ifSwapped_X6_swapSquare : GoodIn wsX9_ifSwapped (wsV RX9 102 RX6 yX6_swapSquare wsX6_swapSquare) := goodIn_app (goodIn_of _ (by decide +kernel)) ggX9_ifSwapped_X6_swapSquare
set_option maxRecDepth 20000 in
theorem ggX9_ifSwapped_X8_commutingPairs : GoodIn wsX9_ifSwapped wsX8_commutingPairs := goodIn_r _ [49, 50, 51, 52, 11, 53, 13, 54, 55, 48, 56, 57, 22, 23, 24, 25, 91, 92] rfl (by decide +kernel)
set_option maxRecDepth 20000 in
theorem gX9_ifSwapped_X8_commutingPairs : GoodIn wsX9_ifSwapped (va_wsS RX9 184 yX8_commutingPairs wsX8_commutingPairs) := goodIn_app (goodIn_of _ (by decide +kernel)) ggX9_ifSwapped_X8_commutingPairs
set_option maxRecDepth 20000 in
theorem ggX9_ifSwapped_X8_associatingTriples : GoodIn wsX9_ifSwapped wsX8_associatingTriples := goodIn_r _ [60, 50, 51, 52, 11, 53, 13, 61, 62, 48, 63, 57, 22, 23, 24, 25, 91, 92] rfl (by decide +kernel)
set_option maxRecDepth 20000 in
theorem gX9_ifSwapped_X8_associatingTriples : GoodIn wsX9_ifSwapped (va_wsS RX9 73 yX8_associatingTriples wsX8_associatingTriples) := goodIn_app (goodIn_of _ (by decide +kernel)) ggX9_ifSwapped_X8_associatingTriples
set_option maxRecDepth 20000 in
theorem ggX9_ifSwapped_X2_howMany : GoodIn wsX9_ifSwapped wsX2_howMany := goodIn_r _ [67, 68, 69, 70, 11, 71, 13, 72, 73, 66, 74, 75, 76, 77, 78, 51, 52, 53, 79, 6, 80, 81, 22, 23, 24, 25, 91, 92] rfl (by decide +kernel)
set_option maxRecDepth 20000 in
theorem gX9_ifSwapped_X2_howMany : GoodIn wsX9_ifSwapped (va_wsS RX9 194 yX2_howMany wsX2_howMany) := goodIn_app (goodIn_of _ (by decide +kernel)) ggX9_ifSwapped_X2_howMany
theorem dX9_ifSwapped_0 : decode cX9_ifSwapped 0 = .ok (.aload_n 0, 1) := by decide +kernel
theorem dX9_ifSwapped_1 : decode cX9_ifSwapped 1 = .ok (.iload_n 1, 1) := by decide +kernel
theorem dX9_ifSwapped_2 : decode cX9_ifSwapped 2 = .ok (.iload_n 2, 1) := by decide +kernel
theorem dX9_ifSwapped_3 : decode cX9_ifSwapped 3 = .ok (.invokevirtual 79, 3) := by decide +kernel
theorem dX9_ifSwapped_6 : decode cX9_ifSwapped 6 = .ok (.ifCond .eq 23, 3) := by decide +kernel
theorem dX9_ifSwapped_9 : decode cX9_ifSwapped 9 = .ok (.aload_n 0, 1) := by decide +kernel
theorem dX9_ifSwapped_10 : decode cX9_ifSwapped 10 = .ok (.iload_n 3, 1) := by decide +kernel
theorem dX9_ifSwapped_11 : decode cX9_ifSwapped 11 = .ok (.iload 4, 2) := by decide +kernel
theorem dX9_ifSwapped_13 : decode cX9_ifSwapped 13 = .ok (.invokevirtual 79, 3) := by decide +kernel
theorem dX9_ifSwapped_16 : decode cX9_ifSwapped 16 = .ok (.ifCond .eq 13, 3) := by decide +kernel
theorem dX9_ifSwapped_19 : decode cX9_ifSwapped 19 = .ok (.iload 5, 2) := by decide +kernel
theorem dX9_ifSwapped_21 : decode cX9_ifSwapped 21 = .ok (.iconst 0, 1) := by decide +kernel
theorem dX9_ifSwapped_22 : decode cX9_ifSwapped 22 = .ok (.iconst 2, 1) := by decide +kernel
theorem dX9_ifSwapped_23 : decode cX9_ifSwapped 23 = .ok (.invokestatic 61, 3) := by decide +kernel
theorem dX9_ifSwapped_26 : decode cX9_ifSwapped 26 = .ok (.ifCond .ne 5, 3) := by decide +kernel
theorem dX9_ifSwapped_29 : decode cX9_ifSwapped 29 = .ok (.iconst (-1), 1) := by decide +kernel
theorem dX9_ifSwapped_30 : decode cX9_ifSwapped 30 = .ok (.ireturn, 1) := by decide +kernel
theorem dX9_ifSwapped_31 : decode cX9_ifSwapped 31 = .ok (.aload_n 0, 1) := by decide +kernel
theorem dX9_ifSwapped_32 : decode cX9_ifSwapped 32 = .ok (.getfield 10, 3) := by decide +kernel
theorem dX9_ifSwapped_35 : decode cX9_ifSwapped 35 = .ok (.iload_n 1, 1) := by decide +kernel
theorem dX9_ifSwapped_36 : decode cX9_ifSwapped 36 = .ok (.iload_n 2, 1) := by decide +kernel
theorem dX9_ifSwapped_37 : decode cX9_ifSwapped 37 = .ok (.iload_n 3, 1) := by decide +kernel
theorem dX9_ifSwapped_38 : decode cX9_ifSwapped 38 = .ok (.iload 4, 2) := by decide +kernel
theorem dX9_ifSwapped_40 : decode cX9_ifSwapped 40 = .ok (.invokevirtual 98, 3) := by decide +kernel
theorem dX9_ifSwapped_43 : decode cX9_ifSwapped 43 = .ok (.ifCond .ne 6, 3) := by decide +kernel
theorem dX9_ifSwapped_46 : decode cX9_ifSwapped 46 = .ok (.bipush (-2), 2) := by decide +kernel
theorem dX9_ifSwapped_48 : decode cX9_ifSwapped 48 = .ok (.ireturn, 1) := by decide +kernel
theorem dX9_ifSwapped_49 : decode cX9_ifSwapped 49 = .ok (.aload_n 0, 1) := by decide +kernel
theorem dX9_ifSwapped_50 : decode cX9_ifSwapped 50 = .ok (.getfield 19, 3) := by decide +kernel
theorem dX9_ifSwapped_53 : decode cX9_ifSwapped 53 = .ok (.aload_n 0, 1) := by decide +kernel
theorem dX9_ifSwapped_54 : decode cX9_ifSwapped 54 = .ok (.getfield 10, 3) := by decide +kernel
theorem dX9_ifSwapped_57 : decode cX9_ifSwapped 57 = .ok (.invokevirtual 82, 3) := by decide +kernel
theorem dX9_ifSwapped_60 : decode cX9_ifSwapped 60 = .ok (.aload_n 0, 1) := by decide +kernel
theorem dX9_ifSwapped_61 : decode cX9_ifSwapped 61 = .ok (.getfield 19, 3) := by decide +kernel
theorem dX9_ifSwapped_64 : decode cX9_ifSwapped 64 = .ok (.iload_n 1, 1) := by decide +kernel
theorem dX9_ifSwapped_65 : decode cX9_ifSwapped 65 = .ok (.iload_n 2, 1) := by decide +kernel
theorem dX9_ifSwapped_66 : decode cX9_ifSwapped 66 = .ok (.iload_n 3, 1) := by decide +kernel
theorem dX9_ifSwapped_67 : decode cX9_ifSwapped 67 = .ok (.iload 4, 2) := by decide +kernel
theorem dX9_ifSwapped_69 : decode cX9_ifSwapped 69 = .ok (.invokevirtual 102, 3) := by decide +kernel
theorem dX9_ifSwapped_72 : decode cX9_ifSwapped 72 = .ok (.iload 5, 2) := by decide +kernel
theorem dX9_ifSwapped_74 : decode cX9_ifSwapped 74 = .ok (.lookupswitch 42 #[(0, 26), (1, 34)], 26) := by decide +kernel
theorem dX9_ifSwapped_100 : decode cX9_ifSwapped 100 = .ok (.aload_n 0, 1) := by decide +kernel
theorem dX9_ifSwapped_101 : decode cX9_ifSwapped 101 = .ok (.getfield 19, 3) := by decide +kernel
theorem dX9_ifSwapped_104 : decode cX9_ifSwapped 104 = .ok (.invokestatic 184, 3) := by decide +kernel
theorem dX9_ifSwapped_107 : decode cX9_ifSwapped 107 = .ok (.ireturn, 1) := by decide +kernel
theorem dX9_ifSwapped_108 : decode cX9_ifSwapped 108 = .ok (.aload_n 0, 1) := by decide +kernel
theorem dX9_ifSwapped_109 : decode cX9_ifSwapped 109 = .ok (.getfield 19, 3) := by decide +kernel
theorem dX9_ifSwapped_112 : decode cX9_ifSwapped 112 = .ok (.invokestatic 73, 3) := by decide +kernel
theorem dX9_ifSwapped_115 : decode cX9_ifSwapped 115 = .ok (.ireturn, 1) := by decide +kernel
theorem dX9_ifSwapped_116 : decode cX9_ifSwapped 116 = .ok (.aload_n 0, 1) := by decide +kernel
theorem dX9_ifSwapped_117 : decode cX9_ifSwapped 117 = .ok (.getfield 19, 3) := by decide +kernel
theorem dX9_ifSwapped_120 : decode cX9_ifSwapped 120 = .ok (.invokestatic 194, 3) := by decide +kernel
theorem dX9_ifSwapped_123 : decode cX9_ifSwapped 123 = .ok (.ireturn, 1) := by decide +kernel
set_option maxRecDepth 20000 in
theorem ggX9_best_X9_isWithin : GoodIn wsX9_best wsX9_isWithin := goodIn_r _ [6] rfl (by decide +kernel)
set_option maxRecDepth 20000 in
theorem gX9_best_X9_isWithin : GoodIn wsX9_best (va_wsS RX9 61 yX9_isWithin wsX9_isWithin) := goodIn_app (goodIn_of _ (by decide +kernel)) ggX9_best_X9_isWithin
set_option maxRecDepth 20000 in
theorem ggX9_best_X4_findBest : GoodIn wsX9_best wsX4_findBest := goodIn_r _ [11, 12, 13, 14, 15, 16, 17, 18, 19, 20, 21, 22, 23, 24, 25, 5, 26, 27, 28, 29, 30, 31, 10, 32, 33, 34, 35, 36, 37, 38, 39, 40, 41, 42, 43, 44, 45, 46, 47, 48, 49, 50, 51, 52, 53, 54, 55, 56, 57, 58, 59, 60, 61, 62, 63, 64, 65, 66, 67, 68, 69, 83, 84, 85, 86, 87, 88, 89, 90] rfl (by decide +kernel)
set_option maxRecDepth 20000 in
theorem gX9_best_X4_findBest : GoodIn wsX9_best (wsV RX9 225 RX4 yX4_findBest wsX4_findBest) := goodIn_app (goodIn_of _ (by decide +kernel)) ggX9_best_X4_findBest
set_option maxRecDepth 20000 in
theorem ggX9_best_X4_tellBest : GoodIn wsX9_best wsX4_tellBest := goodIn_r _ [73, 45, 46, 47, 48, 12, 83, 84, 85, 86, 87, 88] rfl (by decide +kernel)
set_option maxRecDepth 20000 in
theorem gX9_best_X4_tellBest : GoodIn wsX9_best (wsV RX9 229 RX4 yX4_tellBest wsX4_tellBest) := goodIn_app (goodIn_of _ (by decide +kernel)) ggX9_best_X4_tellBest
theorem dX9_best_0 : decode cX9_best 0 = .ok (.iload_n 1, 1) := by decide +kernel
theorem dX9_best_1 : decode cX9_best 1 = .ok (.iconst 0, 1) := by decide +kernel
theorem dX9_best_2 : decode cX9_best 2 = .ok (.iconst 4, 1) := by decide +kernel
theorem dX9_best_3 : decode cX9_best 3 = .ok (.invokestatic 61, 3) := by decide +kernel
theorem dX9_best_6 : decode cX9_best 6 = .ok (.ifCond .ne 5, 3) := by decide +kernel
theorem dX9_best_9 : decode cX9_best 9 = .ok (.iconst (-1), 1) := by decide +kernel
theorem dX9_best_10 : decode cX9_best 10 = .ok (.ireturn, 1) := by decide +kernel
theorem dX9_best_11 : decode cX9_best 11 = .ok (.aload_n 0, 1) := by decide +kernel
theorem dX9_best_12 : decode cX9_best 12 = .ok (.getfield 53, 3) := by decide +kernel
theorem dX9_best_15 : decode cX9_best 15 = .ok (.aload_n 0, 1) := by decide +kernel
theorem dX9_best_16 : decode cX9_best 16 = .ok (.getfield 10, 3) := by decide +kernel
theorem dX9_best_19 : decode cX9_best 19 = .ok (.invokevirtual 225, 3) := by decide +kernel
theorem dX9_best_22 : decode cX9_best 22 = .ok (.ifCond .eq 14, 3) := by decide +kernel
theorem dX9_best_25 : decode cX9_best 25 = .ok (.aload_n 0, 1) := by decide +kernel
theorem dX9_best_26 : decode cX9_best 26 = .ok (.getfield 53, 3) := by decide +kernel
theorem dX9_best_29 : decode cX9_best 29 = .ok (.iload_n 1, 1) := by decide +kernel
theorem dX9_best_30 : decode cX9_best 30 = .ok (.invokevirtual 229, 3) := by decide +kernel
theorem dX9_best_33 : decode cX9_best 33 = .ok (.goto 5, 3) := by decide +kernel
theorem dX9_best_36 : decode cX9_best 36 = .ok (.bipush (-4), 2) := by decide +kernel
theorem dX9_best_38 : decode cX9_best 38 = .ok (.ireturn, 1) := by decide +kernel
set_option maxRecDepth 20000 in
theorem ggX9_undo_X0_takeBack : GoodIn wsX9_undo wsX0_takeBack := goodIn_r _ [7, 8, 9, 10, 11, 6, 12, 13, 14, 15, 16, 17, 18, 19, 20, 21, 22, 23, 24, 25, 39, 40, 41, 42] rfl (by decide +kernel)
set_option maxRecDepth 20000 in
theorem gX9_undo_X0_takeBack : GoodIn wsX9_undo (wsV RX9 232 RX0 yX0_takeBack wsX0_takeBack) := goodIn_app (goodIn_of _ (by decide +kernel)) ggX9_undo_X0_takeBack
set_option maxRecDepth 20000 in
theorem ggX9_undo_X0_states : GoodIn wsX9_undo wsX0_states := goodIn_r _ [29, 8, 39, 40] rfl (by decide +kernel)
set_option maxRecDepth 20000 in
theorem gX9_undo_X0_states : GoodIn wsX9_undo (wsV RX9 201 RX0 yX0_states wsX0_states) := goodIn_app (goodIn_of _ (by decide +kernel)) ggX9_undo_X0_states
theorem dX9_undo_0 : decode cX9_undo 0 = .ok (.aload_n 0, 1) := by decide +kernel
theorem dX9_undo_1 : decode cX9_undo 1 = .ok (.getfield 25, 3) := by decide +kernel
theorem dX9_undo_4 : decode cX9_undo 4 = .ok (.aload_n 0, 1) := by decide +kernel
theorem dX9_undo_5 : decode cX9_undo 5 = .ok (.getfield 10, 3) := by decide +kernel
theorem dX9_undo_8 : decode cX9_undo 8 = .ok (.invokevirtual 232, 3) := by decide +kernel
theorem dX9_undo_11 : decode cX9_undo 11 = .ok (.ifCond .eq 13, 3) := by decide +kernel
theorem dX9_undo_14 : decode cX9_undo 14 = .ok (.aload_n 0, 1) := by decide +kernel
theorem dX9_undo_15 : decode cX9_undo 15 = .ok (.getfield 25, 3) := by decide +kernel
theorem dX9_undo_18 : decode cX9_undo 18 = .ok (.invokevirtual 201, 3) := by decide +kernel
theorem dX9_undo_21 : decode cX9_undo 21 = .ok (.goto 5, 3) := by decide +kernel
theorem dX9_undo_24 : decode cX9_undo 24 = .ok (.bipush (-2), 2) := by decide +kernel
theorem dX9_undo_26 : decode cX9_undo 26 = .ok (.ireturn, 1) := by decide +kernel
set_option maxRecDepth 20000 in
theorem ggX9_save_X6_copyFrom : GoodIn wsX9_save wsX6_copyFrom := goodIn_r _ [8, 9, 10, 11, 12, 13, 14, 15, 29, 30] rfl (by decide +kernel)
set_option maxRecDepth 20000 in
theorem gX9_save_X6_copyFrom : GoodIn wsX9_save (wsV RX9 82 RX6 yX6_copyFrom wsX6_copyFrom) := goodIn_app (goodIn_of _ (by decide +kernel)) ggX9_save_X6_copyFrom
set_option maxRecDepth 20000 in
theorem ggX9_save_X6_size : GoodIn wsX9_save wsX6_size := goodIn_r _ [19, 9, 29, 30] rfl (by decide +kernel)
set_option maxRecDepth 20000 in
theorem gX9_save_X6_size : GoodIn wsX9_save (wsV RX9 116 RX6 yX6_size wsX6_size) := goodIn_app (goodIn_of _ (by decide +kernel)) ggX9_save_X6_size
theorem dX9_save_0 : decode cX9_save 0 = .ok (.aload_n 0, 1) := by decide +kernel
theorem dX9_save_1 : decode cX9_save 1 = .ok (.getfield 16, 3) := by decide +kernel
theorem dX9_save_4 : decode cX9_save 4 = .ok (.aload_n 0, 1) := by decide +kernel
theorem dX9_save_5 : decode cX9_save 5 = .ok (.getfield 10, 3) := by decide +kernel
theorem dX9_save_8 : decode cX9_save 8 = .ok (.invokevirtual 82, 3) := by decide +kernel
theorem dX9_save_11 : decode cX9_save 11 = .ok (.aload_n 0, 1) := by decide +kernel
theorem dX9_save_12 : decode cX9_save 12 = .ok (.iconst 1, 1) := by decide +kernel
theorem dX9_save_13 : decode cX9_save 13 = .ok (.putfield 235, 3) := by decide +kernel
theorem dX9_save_16 : decode cX9_save 16 = .ok (.aload_n 0, 1) := by decide +kernel
theorem dX9_save_17 : decode cX9_save 17 = .ok (.getfield 10, 3) := by decide +kernel
theorem dX9_save_20 : decode cX9_save 20 = .ok (.invokevirtual 116, 3) := by decide +kernel
theorem dX9_save_23 : decode cX9_save 23 = .ok (.ireturn, 1) := by decide +kernel
set_option maxRecDepth 20000 in
theorem ggX9_restore_X0_record : GoodIn wsX9_restore wsX0_record := goodIn_r _ [9, 10, 11, 12, 13, 8, 14, 15, 16, 17, 18, 19, 20, 21, 22, 23, 24, 25, 26, 27, 28, 29, 30, 31, 46, 47, 48, 49] rfl (by decide +kernel)
set_option maxRecDepth 20000 in
theorem gX9_restore_X0_record : GoodIn wsX9_restore (wsV RX9 69 RX0 yX0_record wsX0_record) := goodIn_app (goodIn_of _ (by decide +kernel)) ggX9_restore_X0_record
set_option maxRecDepth 20000 in
theorem ggX9_restore_X6_copyFrom : GoodIn wsX9_restore wsX6_copyFrom := goodIn_r _ [24, 25, 26, 27, 28, 29, 30, 31, 48, 49] rfl (by decide +kernel)
set_option maxRecDepth 20000 in
theorem gX9_restore_X6_copyFrom : GoodIn wsX9_restore (wsV RX9 82 RX6 yX6_copyFrom wsX6_copyFrom) := goodIn_app (goodIn_of _ (by decide +kernel)) ggX9_restore_X6_copyFrom
set_option maxRecDepth 20000 in
theorem ggX9_restore_X6_size : GoodIn wsX9_restore wsX6_size := goodIn_r _ [36, 25, 48, 49] rfl (by decide +kernel)
set_option maxRecDepth 20000 in
theorem gX9_restore_X6_size : GoodIn wsX9_restore (wsV RX9 116 RX6 yX6_size wsX6_size) := goodIn_app (goodIn_of _ (by decide +kernel)) ggX9_restore_X6_size
theorem dX9_restore_0 : decode cX9_restore 0 = .ok (.aload_n 0, 1) := by decide +kernel
theorem dX9_restore_1 : decode cX9_restore 1 = .ok (.getfield 235, 3) := by decide +kernel
theorem dX9_restore_4 : decode cX9_restore 4 = .ok (.ifCond .ne 6, 3) := by decide +kernel
theorem dX9_restore_7 : decode cX9_restore 7 = .ok (.bipush (-2), 2) := by decide +kernel
theorem dX9_restore_9 : decode cX9_restore 9 = .ok (.ireturn, 1) := by decide +kernel
theorem dX9_restore_10 : decode cX9_restore 10 = .ok (.aload_n 0, 1) := by decide +kernel
theorem dX9_restore_11 : decode cX9_restore 11 = .ok (.getfield 25, 3) := by decide +kernel
theorem dX9_restore_14 : decode cX9_restore 14 = .ok (.aload_n 0, 1) := by decide +kernel
theorem dX9_restore_15 : decode cX9_restore 15 = .ok (.getfield 10, 3) := by decide +kernel
theorem dX9_restore_18 : decode cX9_restore 18 = .ok (.invokevirtual 69, 3) := by decide +kernel
theorem dX9_restore_21 : decode cX9_restore 21 = .ok (.aload_n 0, 1) := by decide +kernel
theorem dX9_restore_22 : decode cX9_restore 22 = .ok (.getfield 10, 3) := by decide +kernel
theorem dX9_restore_25 : decode cX9_restore 25 = .ok (.aload_n 0, 1) := by decide +kernel
theorem dX9_restore_26 : decode cX9_restore 26 = .ok (.getfield 16, 3) := by decide +kernel
theorem dX9_restore_29 : decode cX9_restore 29 = .ok (.invokevirtual 82, 3) := by decide +kernel
theorem dX9_restore_32 : decode cX9_restore 32 = .ok (.aload_n 0, 1) := by decide +kernel
theorem dX9_restore_33 : decode cX9_restore 33 = .ok (.getfield 10, 3) := by decide +kernel
theorem dX9_restore_36 : decode cX9_restore 36 = .ok (.invokevirtual 116, 3) := by decide +kernel
theorem dX9_restore_39 : decode cX9_restore 39 = .ok (.ireturn, 1) := by decide +kernel
set_option maxRecDepth 20000 in
theorem ggX9_changeToTrial_X6_differencesTo : GoodIn wsX9_changeToTrial wsX6_differencesTo := goodIn_r _ [8, 9, 10, 11, 12, 7, 13, 14, 49, 50] rfl (by decide +kernel)
set_option maxRecDepth 20000 in
theorem gX9_changeToTrial_X6_differencesTo : GoodIn wsX9_changeToTrial (wsV RX9 239 RX6 yX6_differencesTo wsX6_differencesTo) := goodIn_app (goodIn_of _ (by decide +kernel)) ggX9_changeToTrial_X6_differencesTo
set_option maxRecDepth 20000 in
theorem ggX9_changeToTrial_X0_record : GoodIn wsX9_changeToTrial wsX0_record := goodIn_r _ [19, 20, 21, 22, 23, 18, 24, 25, 26, 27, 28, 29, 30, 31, 32, 7, 33, 9, 14, 34, 35, 36, 37, 38, 51, 52, 49, 50] rfl (by decide +kernel)
set_option maxRecDepth 20000 in
theorem gX9_changeToTrial_X0_record : GoodIn wsX9_changeToTrial (wsV RX9 69 RX0 yX0_record wsX0_record) := goodIn_app (goodIn_of _ (by decide +kernel)) ggX9_changeToTrial_X0_record
set_option maxRecDepth 20000 in
theorem ggX9_changeToTrial_X6_copyFrom : GoodIn wsX9_changeToTrial wsX6_copyFrom := goodIn_r _ [33, 9, 14, 34, 35, 36, 37, 38, 49, 50] rfl (by decide +kernel)
set_option maxRecDepth 20000 in
theorem gX9_changeToTrial_X6_copyFrom : GoodIn wsX9_changeToTrial (wsV RX9 82 RX6 yX6_copyFrom wsX6_copyFrom) := goodIn_app (goodIn_of _ (by decide +kernel)) ggX9_changeToTrial_X6_copyFrom
theorem dX9_changeToTrial_0 : decode cX9_changeToTrial 0 = .ok (.aload_n 0, 1) := by decide +kernel
theorem dX9_changeToTrial_1 : decode cX9_changeToTrial 1 = .ok (.getfield 10, 3) := by decide +kernel
theorem dX9_changeToTrial_4 : decode cX9_changeToTrial 4 = .ok (.aload_n 0, 1) := by decide +kernel
theorem dX9_changeToTrial_5 : decode cX9_changeToTrial 5 = .ok (.getfield 19, 3) := by decide +kernel
theorem dX9_changeToTrial_8 : decode cX9_changeToTrial 8 = .ok (.invokevirtual 239, 3) := by decide +kernel
theorem dX9_changeToTrial_11 : decode cX9_changeToTrial 11 = .ok (.istore_n 1, 1) := by decide +kernel
theorem dX9_changeToTrial_12 : decode cX9_changeToTrial 12 = .ok (.aload_n 0, 1) := by decide +kernel
theorem dX9_changeToTrial_13 : decode cX9_changeToTrial 13 = .ok (.getfield 25, 3) := by decide +kernel
theorem dX9_changeToTrial_16 : decode cX9_changeToTrial 16 = .ok (.aload_n 0, 1) := by decide +kernel
theorem dX9_changeToTrial_17 : decode cX9_changeToTrial 17 = .ok (.getfield 10, 3) := by decide +kernel
theorem dX9_changeToTrial_20 : decode cX9_changeToTrial 20 = .ok (.invokevirtual 69, 3) := by decide +kernel
theorem dX9_changeToTrial_23 : decode cX9_changeToTrial 23 = .ok (.aload_n 0, 1) := by decide +kernel
theorem dX9_changeToTrial_24 : decode cX9_changeToTrial 24 = .ok (.getfield 10, 3) := by decide +kernel
theorem dX9_changeToTrial_27 : decode cX9_changeToTrial 27 = .ok (.aload_n 0, 1) := by decide +kernel
theorem dX9_changeToTrial_28 : decode cX9_changeToTrial 28 = .ok (.getfield 19, 3) := by decide +kernel
theorem dX9_changeToTrial_31 : decode cX9_changeToTrial 31 = .ok (.invokevirtual 82, 3) := by decide +kernel
theorem dX9_changeToTrial_34 : decode cX9_changeToTrial 34 = .ok (.iload_n 1, 1) := by decide +kernel
theorem dX9_changeToTrial_35 : decode cX9_changeToTrial 35 = .ok (.ireturn, 1) := by decide +kernel
set_option maxRecDepth 20000 in
theorem ggX9_areUnlikeTokens_X6_has : GoodIn wsX9_areUnlikeTokens wsX6_has := goodIn_r _ [6, 7, 17, 18] rfl (by decide +kernel)
set_option maxRecDepth 20000 in
theorem gX9_areUnlikeTokens_X6_has : GoodIn wsX9_areUnlikeTokens (wsV RX9 134 RX6 yX6_has wsX6_has) := goodIn_app (goodIn_of _ (by decide +kernel)) ggX9_areUnlikeTokens_X6_has
theorem dX9_areUnlikeTokens_0 : decode cX9_areUnlikeTokens 0 = .ok (.iload_n 1, 1) := by decide +kernel
theorem dX9_areUnlikeTokens_1 : decode cX9_areUnlikeTokens 1 = .ok (.iload_n 2, 1) := by decide +kernel
theorem dX9_areUnlikeTokens_2 : decode cX9_areUnlikeTokens 2 = .ok (.if_icmp .eq 29, 3) := by decide +kernel
theorem dX9_areUnlikeTokens_5 : decode cX9_areUnlikeTokens 5 = .ok (.aload_n 0, 1) := by decide +kernel
theorem dX9_areUnlikeTokens_6 : decode cX9_areUnlikeTokens 6 = .ok (.getfield 10, 3) := by decide +kernel
theorem dX9_areUnlikeTokens_9 : decode cX9_areUnlikeTokens 9 = .ok (.iload_n 1, 1) := by decide +kernel
theorem dX9_areUnlikeTokens_10 : decode cX9_areUnlikeTokens 10 = .ok (.invokevirtual 134, 3) := by decide +kernel
theorem dX9_areUnlikeTokens_13 : decode cX9_areUnlikeTokens 13 = .ok (.ifCond .eq 18, 3) := by decide +kernel
theorem dX9_areUnlikeTokens_16 : decode cX9_areUnlikeTokens 16 = .ok (.aload_n 0, 1) := by decide +kernel
theorem dX9_areUnlikeTokens_17 : decode cX9_areUnlikeTokens 17 = .ok (.getfield 10, 3) := by decide +kernel
theorem dX9_areUnlikeTokens_20 : decode cX9_areUnlikeTokens 20 = .ok (.iload_n 2, 1) := by decide +kernel
theorem dX9_areUnlikeTokens_21 : decode cX9_areUnlikeTokens 21 = .ok (.invokevirtual 134, 3) := by decide +kernel
theorem dX9_areUnlikeTokens_24 : decode cX9_areUnlikeTokens 24 = .ok (.ifCond .eq 7, 3) := by decide +kernel
theorem dX9_areUnlikeTokens_27 : decode cX9_areUnlikeTokens 27 = .ok (.iconst 1, 1) := by decide +kernel
theorem dX9_areUnlikeTokens_28 : decode cX9_areUnlikeTokens 28 = .ok (.goto 4, 3) := by decide +kernel
theorem dX9_areUnlikeTokens_31 : decode cX9_areUnlikeTokens 31 = .ok (.iconst 0, 1) := by decide +kernel
theorem dX9_areUnlikeTokens_32 : decode cX9_areUnlikeTokens 32 = .ok (.ireturn, 1) := by decide +kernel
theorem dX9_isWithin_0 : decode cX9_isWithin 0 = .ok (.iload_n 0, 1) := by decide +kernel
theorem dX9_isWithin_1 : decode cX9_isWithin 1 = .ok (.iload_n 1, 1) := by decide +kernel
theorem dX9_isWithin_2 : decode cX9_isWithin 2 = .ok (.if_icmp .lt 12, 3) := by decide +kernel
theorem dX9_isWithin_5 : decode cX9_isWithin 5 = .ok (.iload_n 0, 1) := by decide +kernel
theorem dX9_isWithin_6 : decode cX9_isWithin 6 = .ok (.iload_n 2, 1) := by decide +kernel
theorem dX9_isWithin_7 : decode cX9_isWithin 7 = .ok (.if_icmp .gt 7, 3) := by decide +kernel
theorem dX9_isWithin_10 : decode cX9_isWithin 10 = .ok (.iconst 1, 1) := by decide +kernel
theorem dX9_isWithin_11 : decode cX9_isWithin 11 = .ok (.goto 4, 3) := by decide +kernel
theorem dX9_isWithin_14 : decode cX9_isWithin 14 = .ok (.iconst 0, 1) := by decide +kernel
theorem dX9_isWithin_15 : decode cX9_isWithin 15 = .ok (.ireturn, 1) := by decide +kernel
theorem dX9_haveCommonDivisor_0 : decode cX9_haveCommonDivisor 0 = .ok (.iconst 2, 1) := by decide +kernel
theorem dX9_haveCommonDivisor_1 : decode cX9_haveCommonDivisor 1 = .ok (.istore_n 2, 1) := by decide +kernel
theorem dX9_haveCommonDivisor_2 : decode cX9_haveCommonDivisor 2 = .ok (.iload_n 2, 1) := by decide +kernel
theorem dX9_haveCommonDivisor_3 : decode cX9_haveCommonDivisor 3 = .ok (.bipush 8, 2) := by decide +kernel
theorem dX9_haveCommonDivisor_5 : decode cX9_haveCommonDivisor 5 = .ok (.if_icmp .gt 23, 3) := by decide +kernel
theorem dX9_haveCommonDivisor_8 : decode cX9_haveCommonDivisor 8 = .ok (.iload_n 0, 1) := by decide +kernel
theorem dX9_haveCommonDivisor_9 : decode cX9_haveCommonDivisor 9 = .ok (.iload_n 2, 1) := by decide +kernel
theorem dX9_haveCommonDivisor_10 : decode cX9_haveCommonDivisor 10 = .ok (.irem, 1) := by decide +kernel
theorem dX9_haveCommonDivisor_11 : decode cX9_haveCommonDivisor 11 = .ok (.ifCond .ne 11, 3) := by decide +kernel
theorem dX9_haveCommonDivisor_14 : decode cX9_haveCommonDivisor 14 = .ok (.iload_n 1, 1) := by decide +kernel
theorem dX9_haveCommonDivisor_15 : decode cX9_haveCommonDivisor 15 = .ok (.iload_n 2, 1) := by decide +kernel
theorem dX9_haveCommonDivisor_16 : decode cX9_haveCommonDivisor 16 = .ok (.irem, 1) := by decide +kernel
theorem dX9_haveCommonDivisor_17 : decode cX9_haveCommonDivisor 17 = .ok (.ifCond .ne 5, 3) := by decide +kernel
theorem dX9_haveCommonDivisor_20 : decode cX9_haveCommonDivisor 20 = .ok (.iconst 1, 1) := by decide +kernel
theorem dX9_haveCommonDivisor_21 : decode cX9_haveCommonDivisor 21 = .ok (.ireturn, 1) := by decide +kernel
theorem dX9_haveCommonDivisor_22 : decode cX9_haveCommonDivisor 22 = .ok (.iinc 2 1, 3) := by decide +kernel
theorem dX9_haveCommonDivisor_25 : decode cX9_haveCommonDivisor 25 = .ok (.goto (-23), 3) := by decide +kernel
theorem dX9_haveCommonDivisor_28 : decode cX9_haveCommonDivisor 28 = .ok (.iconst 0, 1) := by decide +kernel
theorem dX9_haveCommonDivisor_29 : decode cX9_haveCommonDivisor 29 = .ok (.ireturn, 1) := by decide +kernel
theorem dX9_hasBit_0 : decode cX9_hasBit 0 = .ok (.iload_n 0, 1) := by decide +kernel
theorem dX9_hasBit_1 : decode cX9_hasBit 1 = .ok (.iload_n 1, 1) := by decide +kernel
theorem dX9_hasBit_2 : decode cX9_hasBit 2 = .ok (.ishr, 1) := by decide +kernel
theorem dX9_hasBit_3 : decode cX9_hasBit 3 = .ok (.iconst 1, 1) := by decide +kernel
theorem dX9_hasBit_4 : decode cX9_hasBit 4 = .ok (.iand, 1) := by decide +kernel
theorem dX9_hasBit_5 : decode cX9_hasBit 5 = .ok (.iconst 1, 1) := by decide +kernel
theorem dX9_hasBit_6 : decode cX9_hasBit 6 = .ok (.if_icmp .ne 7, 3) := by decide +kernel
theorem dX9_hasBit_9 : decode cX9_hasBit 9 = .ok (.iconst 1, 1) := by decide +kernel
theorem dX9_hasBit_10 : decode cX9_hasBit 10 = .ok (.goto 4, 3) := by decide +kernel
theorem dX9_hasBit_13 : decode cX9_hasBit 13 = .ok (.iconst 0, 1) := by decide +kernel
theorem dX9_hasBit_14 : decode cX9_hasBit 14 = .ok (.ireturn, 1) := by decide +kernel
theorem dX9_get_0 : decode cX9_get 0 = .ok (.iload_n 1, 1) := by decide +kernel
theorem dX9_get_1 : decode cX9_get 1 = .ok (.ifCond .lt 15, 3) := by decide +kernel
theorem dX9_get_4 : decode cX9_get 4 = .ok (.iload_n 1, 1) := by decide +kernel
theorem dX9_get_5 : decode cX9_get 5 = .ok (.aload_n 0, 1) := by decide +kernel
theorem dX9_get_6 : decode cX9_get 6 = .ok (.arraylength, 1) := by decide +kernel
theorem dX9_get_7 : decode cX9_get 7 = .ok (.if_icmp .ge 9, 3) := by decide +kernel
theorem dX9_get_10 : decode cX9_get 10 = .ok (.aload_n 0, 1) := by decide +kernel
theorem dX9_get_11 : decode cX9_get 11 = .ok (.iload_n 1, 1) := by decide +kernel
theorem dX9_get_12 : decode cX9_get 12 = .ok (.iaload, 1) := by decide +kernel
theorem dX9_get_13 : decode cX9_get 13 = .ok (.goto 4, 3) := by decide +kernel
theorem dX9_get_16 : decode cX9_get 16 = .ok (.iconst 0, 1) := by decide +kernel
theorem dX9_get_17 : decode cX9_get 17 = .ok (.ireturn, 1) := by decide +kernel
theorem dX9_put_0 : decode cX9_put 0 = .ok (.iload_n 1, 1) := by decide +kernel
theorem dX9_put_1 : decode cX9_put 1 = .ok (.ifCond .lt 13, 3) := by decide +kernel
theorem dX9_put_4 : decode cX9_put 4 = .ok (.iload_n 1, 1) := by decide +kernel
theorem dX9_put_5 : decode cX9_put 5 = .ok (.aload_n 0, 1) := by decide +kernel
theorem dX9_put_6 : decode cX9_put 6 = .ok (.arraylength, 1) := by decide +kernel
theorem dX9_put_7 : decode cX9_put 7 = .ok (.if_icmp .ge 7, 3) := by decide +kernel
theorem dX9_put_10 : decode cX9_put 10 = .ok (.aload_n 0, 1) := by decide +kernel
theorem dX9_put_11 : decode cX9_put 11 = .ok (.iload_n 1, 1) := by decide +kernel
theorem dX9_put_12 : decode cX9_put 12 = .ok (.iload_n 2, 1) := by decide +kernel
theorem dX9_put_13 : decode cX9_put 13 = .ok (.iastore, 1) := by decide +kernel
theorem dX9_put_14 : decode cX9_put 14 = .ok (.return_, 1) := by decide +kernel
theorem dJ6_bitCount_0f7a4_0 : decode cJ6_bitCount_0f7a4 0 = .ok (.iload_n 0, 1) := by decide +kernel
theorem dJ6_bitCount_0f7a4_1 : decode cJ6_bitCount_0f7a4 1 = .ok (.iload_n 0, 1) := by decide +kernel
theorem dJ6_bitCount_0f7a4_2 : decode cJ6_bitCount_0f7a4 2 = .ok (.iconst 1, 1) := by decide +kernel
theorem dJ6_bitCount_0f7a4_3 : decode cJ6_bitCount_0f7a4 3 = .ok (.iushr, 1) := by decide +kernel
theorem dJ6_bitCount_0f7a4_4 : decode cJ6_bitCount_0f7a4 4 = .ok (.ldc_w 265, 3) := by decide +kernel
theorem dJ6_bitCount_0f7a4_7 : decode cJ6_bitCount_0f7a4 7 = .ok (.iand, 1) := by decide +kernel
theorem dJ6_bitCount_0f7a4_8 : decode cJ6_bitCount_0f7a4 8 = .ok (.isub, 1) := by decide +kernel
theorem dJ6_bitCount_0f7a4_9 : decode cJ6_bitCount_0f7a4 9 = .ok (.istore_n 0, 1) := by decide +kernel
theorem dJ6_bitCount_0f7a4_10 : decode cJ6_bitCount_0f7a4 10 = .ok (.iload_n 0, 1) := by decide +kernel
theorem dJ6_bitCount_0f7a4_11 : decode cJ6_bitCount_0f7a4 11 = .ok (.ldc_w 266, 3) := by decide +kernel
theorem dJ6_bitCount_0f7a4_14 : decode cJ6_bitCount_0f7a4 14 = .ok (.iand, 1) := by decide +kernel
theorem dJ6_bitCount_0f7a4_15 : decode cJ6_bitCount_0f7a4 15 = .ok (.iload_n 0, 1) := by decide +kernel
theorem dJ6_bitCount_0f7a4_16 : decode cJ6_bitCount_0f7a4 16 = .ok (.iconst 2, 1) := by decide +kernel
theorem dJ6_bitCount_0f7a4_17 : decode cJ6_bitCount_0f7a4 17 = .ok (.iushr, 1) := by decide +kernel
theorem dJ6_bitCount_0f7a4_18 : decode cJ6_bitCount_0f7a4 18 = .ok (.ldc_w 266, 3) := by decide +kernel
theorem dJ6_bitCount_0f7a4_21 : decode cJ6_bitCount_0f7a4 21 = .ok (.iand, 1) := by decide +kernel
theorem dJ6_bitCount_0f7a4_22 : decode cJ6_bitCount_0f7a4 22 = .ok (.iadd, 1) := by decide +kernel
theorem dJ6_bitCount_0f7a4_23 : decode cJ6_bitCount_0f7a4 23 = .ok (.istore_n 0, 1) := by decide +kernel
theorem dJ6_bitCount_0f7a4_24 : decode cJ6_bitCount_0f7a4 24 = .ok (.iload_n 0, 1) := by decide +kernel
theorem dJ6_bitCount_0f7a4_25 : decode cJ6_bitCount_0f7a4 25 = .ok (.iload_n 0, 1) := by decide +kernel
theorem dJ6_bitCount_0f7a4_26 : decode cJ6_bitCount_0f7a4 26 = .ok (.iconst 4, 1) := by decide +kernel
theorem dJ6_bitCount_0f7a4_27 : decode cJ6_bitCount_0f7a4 27 = .ok (.iushr, 1) := by decide +kernel
theorem dJ6_bitCount_0f7a4_28 : decode cJ6_bitCount_0f7a4 28 = .ok (.iadd, 1) := by decide +kernel
theorem dJ6_bitCount_0f7a4_29 : decode cJ6_bitCount_0f7a4 29 = .ok (.ldc_w 267, 3) := by decide +kernel
theorem dJ6_bitCount_0f7a4_32 : decode cJ6_bitCount_0f7a4 32 = .ok (.iand, 1) := by decide +kernel
theorem dJ6_bitCount_0f7a4_33 : decode cJ6_bitCount_0f7a4 33 = .ok (.istore_n 0, 1) := by decide +kernel
theorem dJ6_bitCount_0f7a4_34 : decode cJ6_bitCount_0f7a4 34 = .ok (.iload_n 0, 1) := by decide +kernel
theorem dJ6_bitCount_0f7a4_35 : decode cJ6_bitCount_0f7a4 35 = .ok (.iload_n 0, 1) := by decide +kernel
theorem dJ6_bitCount_0f7a4_36 : decode cJ6_bitCount_0f7a4 36 = .ok (.bipush 8, 2) := by decide +kernel
theorem dJ6_bitCount_0f7a4_38 : decode cJ6_bitCount_0f7a4 38 = .ok (.iushr, 1) := by decide +kernel
theorem dJ6_bitCount_0f7a4_39 : decode cJ6_bitCount_0f7a4 39 = .ok (.iadd, 1) := by decide +kernel
theorem dJ6_bitCount_0f7a4_40 : decode cJ6_bitCount_0f7a4 40 = .ok (.istore_n 0, 1) := by decide +kernel
theorem dJ6_bitCount_0f7a4_41 : decode cJ6_bitCount_0f7a4 41 = .ok (.iload_n 0, 1) := by decide +kernel
theorem dJ6_bitCount_0f7a4_42 : decode cJ6_bitCount_0f7a4 42 = .ok (.iload_n 0, 1) := by decide +kernel
theorem dJ6_bitCount_0f7a4_43 : decode cJ6_bitCount_0f7a4 43 = .ok (.bipush 16, 2) := by decide +kernel
theorem dJ6_bitCount_0f7a4_45 : decode cJ6_bitCount_0f7a4 45 = .ok (.iushr, 1) := by decide +kernel
theorem dJ6_bitCount_0f7a4_46 : decode cJ6_bitCount_0f7a4 46 = .ok (.iadd, 1) := by decide +kernel
theorem dJ6_bitCount_0f7a4_47 : decode cJ6_bitCount_0f7a4 47 = .ok (.istore_n 0, 1) := by decide +kernel
theorem dJ6_bitCount_0f7a4_48 : decode cJ6_bitCount_0f7a4 48 = .ok (.iload_n 0, 1) := by decide +kernel
theorem dJ6_bitCount_0f7a4_49 : decode cJ6_bitCount_0f7a4 49 = .ok (.bipush 63, 2) := by decide +kernel
theorem dJ6_bitCount_0f7a4_51 : decode cJ6_bitCount_0f7a4 51 = .ok (.iand, 1) := by decide +kernel
theorem dJ6_bitCount_0f7a4_52 : decode cJ6_bitCount_0f7a4 52 = .ok (.ireturn, 1) := by decide +kernel
theorem dL_cell_0 : decode cL_cell 0 = .ok (.iload_n 1, 1) := by decide +kernel
theorem dL_cell_1 : decode cL_cell 1 = .ok (.aload_n 0, 1) := by decide +kernel
theorem dL_cell_2 : decode cL_cell 2 = .ok (.arraylength, 1) := by decide +kernel
theorem dL_cell_3 : decode cL_cell 3 = .ok (.if_icmp .ge 9, 3) := by decide +kernel
theorem dL_cell_6 : decode cL_cell 6 = .ok (.aload_n 0, 1) := by decide +kernel
theorem dL_cell_7 : decode cL_cell 7 = .ok (.iload_n 1, 1) := by decide +kernel
theorem dL_cell_8 : decode cL_cell 8 = .ok (.iaload, 1) := by decide +kernel
theorem dL_cell_9 : decode cL_cell 9 = .ok (.goto 13, 3) := by decide +kernel
theorem dL_cell_12 : decode cL_cell 12 = .ok (.ldc 7, 2) := by decide +kernel
theorem dL_cell_14 : decode cL_cell 14 = .ok (.iload_n 1, 1) := by decide +kernel
theorem dL_cell_15 : decode cL_cell 15 = .ok (.bipush 11, 2) := by decide +kernel
theorem dL_cell_17 : decode cL_cell 17 = .ok (.iadd, 1) := by decide +kernel
theorem dL_cell_18 : decode cL_cell 18 = .ok (.imul, 1) := by decide +kernel
theorem dL_cell_19 : decode cL_cell 19 = .ok (.bipush 17, 2) := by decide +kernel
theorem dL_cell_21 : decode cL_cell 21 = .ok (.iadd, 1) := by decide +kernel
theorem dL_cell_22 : decode cL_cell 22 = .ok (.ldc 8, 2) := by decide +kernel
theorem dL_cell_24 : decode cL_cell 24 = .ok (.iand, 1) := by decide +kernel
theorem dL_cell_25 : decode cL_cell 25 = .ok (.ireturn, 1) := by decide +kernel
set_option maxRecDepth 20000 in
theorem ggL_acts_X9_count : GoodIn wsL_acts wsX9_count := goodIn_r _ [5, 6, 7, 8, 9, 10, 11, 12, 13, 14, 15, 16, 17, 18, 19, 20, 21, 22, 23, 24, 25, 26, 27, 28, 29, 30, 31, 32, 33, 34, 35, 36, 37, 38, 39, 40, 41, 42, 43, 44, 45, 46, 47, 48, 49, 50, 51, 52, 53, 54, 55, 56, 57, 58, 59, 4, 60, 61, 62, 63, 64, 65, 66, 67, 68, 69, 70, 71, 72, 73, 74, 75, 76, 77, 78, 79, 80, 81, 82, 83, 84, 85, 86, 87, 88, 89, 90, 91, 92, 93, 94, 95, 96, 97, 98, 99, 100, 101, 288, 289, 290, 291, 292, 293, 294, 295, 296, 297, 298, 299, 300, 301, 302] rfl (by decide +kernel)
set_option maxRecDepth 20000 in
theorem gL_acts_X9_count : GoodIn wsL_acts (wsV RL 9 RX9 yX9_count wsX9_count) := goodIn_app (goodIn_of _ (by decide +kernel)) ggL_acts_X9_count
set_option maxRecDepth 20000 in
theorem ggL_acts_X9_begin : GoodIn wsL_acts wsX9_begin := goodIn_r _ [105, 9, 6, 106, 107, 4, 108, 109, 110, 111, 112, 113, 114, 99, 115, 101, 116, 117, 118, 119, 120, 121, 122, 123, 124, 125, 126, 127, 13, 128, 15, 28, 129, 130, 131, 132, 133, 134, 135, 136, 137, 138, 139, 140, 29, 30, 18, 31, 20, 11, 12, 14, 32, 33, 34, 24, 25, 26, 27, 288, 289, 290, 291, 292, 293, 294, 295, 296, 301, 302, 297, 298] rfl (by decide +kernel)
set_option maxRecDepth 20000 in
theorem gL_acts_X9_begin : GoodIn wsL_acts (wsV RL 15 RX9 yX9_begin wsX9_begin) := goodIn_app (goodIn_of _ (by decide +kernel)) ggL_acts_X9_begin
set_option maxRecDepth 20000 in
theorem ggL_acts_X9_rows : GoodIn wsL_acts wsX9_rows := goodIn_r _ [144, 145, 6, 146, 147, 148, 4, 149, 150, 151, 152, 13, 153, 15, 154, 126, 127, 128, 28, 129, 130, 131, 132, 155, 156, 157, 158, 159, 160, 161, 162, 89, 25, 26, 27, 137, 138, 139, 140, 163, 164, 165, 166, 9, 167, 168, 169, 170, 112, 113, 114, 99, 115, 101, 116, 117, 118, 119, 120, 121, 122, 123, 124, 125, 288, 289, 290, 291, 292, 293, 294, 295, 296, 297, 298, 301, 302] rfl (by decide +kernel)
set_option maxRecDepth 20000 in
theorem gL_acts_X9_rows : GoodIn wsL_acts (wsV RL 19 RX9 yX9_rows wsX9_rows) := goodIn_app (goodIn_of _ (by decide +kernel)) ggL_acts_X9_rows
set_option maxRecDepth 20000 in
theorem ggL_acts_X9_columns : GoodIn wsL_acts wsX9_columns := goodIn_r _ [174, 145, 6, 146, 147, 148, 4, 149, 150, 151, 152, 13, 153, 15, 154, 126, 127, 128, 28, 129, 130, 131, 132, 175, 176, 177, 178, 159, 160, 161, 162, 89, 25, 26, 27, 137, 138, 139, 140, 163, 164, 165, 166, 9, 167, 168, 169, 170, 112, 113, 114, 99, 115, 101, 116, 117, 118, 119, 120, 121, 122, 123, 124, 125, 288, 289, 290, 291, 292, 293, 294, 295, 296, 297, 298, 301, 302] rfl (by decide +kernel)
set_option maxRecDepth 20000 in
theorem gL_acts_X9_columns : GoodIn wsL_acts (wsV RL 22 RX9 yX9_columns wsX9_columns) := goodIn_app (goodIn_of _ (by decide +kernel)) ggL_acts_X9_columns
set_option maxRecDepth 20000 in
theorem ggL_acts_X9_names : GoodIn wsL_acts wsX9_names := goodIn_r _ [182, 145, 6, 146, 147, 148, 4, 149, 150, 151, 152, 13, 153, 15, 154, 126, 127, 128, 28, 129, 130, 131, 132, 183, 184, 185, 186, 89, 25, 26, 27, 137, 138, 139, 140, 163, 164, 165, 166, 9, 167, 168, 169, 170, 112, 113, 114, 99, 115, 101, 116, 117, 118, 119, 120, 121, 122, 123, 124, 125, 288, 289, 290, 291, 292, 293, 294, 295, 296, 297, 298, 301, 302] rfl (by decide +kernel)
set_option maxRecDepth 20000 in
theorem gL_acts_X9_names : GoodIn wsL_acts (wsV RL 25 RX9 yX9_names wsX9_names) := goodIn_app (goodIn_of _ (by decide +kernel)) ggL_acts_X9_names
set_option maxRecDepth 20000 in
theorem ggL_acts_X9_undo : GoodIn wsL_acts wsX9_undo := goodIn_r _ [190, 9, 6, 191, 192, 193, 99, 194, 101, 121, 122, 123, 124, 120, 125, 126, 127, 13, 128, 15, 28, 129, 4, 130, 131, 132, 96, 97, 98, 100, 288, 289, 290, 291, 292, 293, 294, 295, 296, 301, 302, 297, 298] rfl (by decide +kernel)
set_option maxRecDepth 20000 in
theorem gL_acts_X9_undo : GoodIn wsL_acts (wsV RL 28 RX9 yX9_undo wsX9_undo) := goodIn_app (goodIn_of _ (by decide +kernel)) ggL_acts_X9_undo
set_option maxRecDepth 20000 in
theorem ggL_acts_X9_save : GoodIn wsL_acts wsX9_save := goodIn_r _ [198, 199, 6, 200, 154, 126, 127, 13, 128, 15, 28, 129, 4, 130, 131, 132, 10, 11, 12, 14, 288, 289, 290, 291, 292, 293, 294, 295, 296, 297, 298] rfl (by decide +kernel)
set_option maxRecDepth 20000 in
theorem gL_acts_X9_save : GoodIn wsL_acts (wsV RL 32 RX9 yX9_save wsX9_save) := goodIn_app (goodIn_of _ (by decide +kernel)) ggL_acts_X9_save
set_option maxRecDepth 20000 in
theorem ggL_acts_X9_restore : GoodIn wsL_acts wsX9_restore := goodIn_r _ [204, 200, 9, 6, 199, 112, 113, 114, 99, 115, 101, 116, 117, 118, 119, 120, 121, 122, 123, 124, 125, 126, 127, 13, 128, 15, 28, 129, 4, 130, 131, 132, 154, 10, 11, 12, 14, 288, 289, 290, 291, 292, 293, 294, 295, 296, 301, 302, 297, 298] rfl (by decide +kernel)
set_option maxRecDepth 20000 in
theorem gL_acts_X9_restore : GoodIn wsL_acts (wsV RL 35 RX9 yX9_restore wsX9_restore) := goodIn_app (goodIn_of _ (by decide +kernel)) ggL_acts_X9_restore
set_option maxRecDepth 20000 in
theorem ggL_acts_X9_clear : GoodIn wsL_acts wsX9_clear := goodIn_r _ [208, 8, 90, 91, 92, 93, 94, 95, 209, 210, 211, 212, 288, 289, 290, 291, 292, 293, 294, 295, 296, 299, 300] rfl (by decide +kernel)
set_option maxRecDepth 20000 in
theorem gL_acts_X9_clear : GoodIn wsL_acts (wsV RL 38 RX9 yX9_clear wsX9_clear) := goodIn_app (goodIn_of _ (by decide +kernel)) ggL_acts_X9_clear
set_option maxRecDepth 20000 in
theorem ggL_acts_X9_sum : GoodIn wsL_acts wsX9_sum := goodIn_r _ [216, 6, 150, 151, 152, 13, 153, 15, 217, 25, 26, 27, 28, 288, 289, 290, 291, 292, 293, 294, 295, 296, 297, 298] rfl (by decide +kernel)
set_option maxRecDepth 20000 in
theorem gL_acts_X9_sum : GoodIn wsL_acts (wsV RL 41 RX9 yX9_sum wsX9_sum) := goodIn_app (goodIn_of _ (by decide +kernel)) ggL_acts_X9_sum
set_option maxRecDepth 20000 in
theorem ggL_acts_X9_append : GoodIn wsL_acts wsX9_append := goodIn_r _ [221, 8, 106, 107, 4, 108, 222, 223, 224, 93, 225, 95, 226, 90, 91, 92, 94, 288, 289, 290, 291, 292, 293, 294, 295, 296, 299, 300] rfl (by decide +kernel)
set_option maxRecDepth 20000 in
theorem gL_acts_X9_append : GoodIn wsL_acts (wsV RL 44 RX9 yX9_append wsX9_append) := goodIn_app (goodIn_of _ (by decide +kernel)) ggL_acts_X9_append
set_option maxRecDepth 20000 in
theorem ggL_acts_X9_load : GoodIn wsL_acts wsX9_load := goodIn_r _ [230, 145, 8, 6, 10, 11, 12, 13, 14, 15, 231, 232, 233, 234, 235, 236, 237, 93, 238, 95, 226, 239, 240, 241, 242, 243, 244, 151, 152, 153, 245, 246, 247, 248, 89, 25, 26, 27, 28, 137, 138, 139, 140, 131, 4, 132, 249, 91, 92, 94, 209, 210, 211, 212, 163, 164, 165, 166, 9, 167, 168, 169, 170, 112, 113, 114, 99, 115, 101, 116, 117, 118, 119, 120, 121, 122, 123, 124, 125, 126, 127, 128, 129, 130, 154, 288, 289, 290, 291, 292, 293, 294, 295, 296, 297, 298, 299, 300, 301, 302] rfl (by decide +kernel)
set_option maxRecDepth 20000 in
theorem gL_acts_X9_load : GoodIn wsL_acts (wsV RL 47 RX9 yX9_load wsX9_load) := goodIn_app (goodIn_of _ (by decide +kernel)) ggL_acts_X9_load
set_option maxRecDepth 20000 in
theorem ggL_acts_X9_swap : GoodIn wsL_acts wsX9_swap := goodIn_r _ [253, 6, 9, 146, 147, 148, 4, 149, 150, 151, 152, 13, 153, 15, 254, 86, 87, 88, 89, 25, 26, 27, 28, 29, 30, 18, 31, 20, 11, 12, 14, 32, 33, 34, 24, 112, 113, 114, 99, 115, 101, 116, 117, 118, 119, 120, 121, 122, 123, 124, 125, 126, 127, 128, 129, 130, 131, 132, 255, 256, 257, 258, 159, 160, 161, 162, 137, 138, 139, 140, 288, 289, 290, 291, 292, 293, 294, 295, 296, 297, 298, 301, 302] rfl (by decide +kernel)
set_option maxRecDepth 20000 in
theorem gL_acts_X9_swap : GoodIn wsL_acts (wsV RL 50 RX9 yX9_swap wsX9_swap) := goodIn_app (goodIn_of _ (by decide +kernel)) ggL_acts_X9_swap
set_option maxRecDepth 20000 in
theorem ggL_acts_X9_best : GoodIn wsL_acts wsX9_best := goodIn_r _ [262, 7, 6, 106, 107, 4, 108, 263, 264, 265, 79, 266, 267, 268, 81, 11, 12, 13, 14, 15, 269, 126, 127, 128, 28, 129, 130, 131, 132, 270, 271, 272, 273, 85, 86, 87, 88, 89, 25, 26, 27, 274, 275, 276, 277, 278, 279, 280, 281, 282, 256, 257, 258, 159, 160, 161, 162, 137, 138, 139, 140, 283, 30, 18, 31, 20, 32, 33, 34, 24, 284, 285, 286, 287, 288, 289, 290, 291, 292, 293, 294, 295, 296, 303, 304, 305, 306, 307, 308, 297, 298] rfl (by decide +kernel)
set_option maxRecDepth 20000 in
theorem gL_acts_X9_best : GoodIn wsL_acts (wsV RL 54 RX9 yX9_best wsX9_best) := goodIn_app (goodIn_of _ (by decide +kernel)) ggL_acts_X9_best
theorem dL_acts_0 : decode cL_acts 0 = .ok (.iload_n 1, 1) := by decide +kernel
theorem dL_acts_1 : decode cL_acts 1 = .ok (.bipush 16, 2) := by decide +kernel
theorem dL_acts_3 : decode cL_acts 3 = .ok (.idiv, 1) := by decide +kernel
theorem dL_acts_4 : decode cL_acts 4 = .ok (.istore_n 2, 1) := by decide +kernel
theorem dL_acts_5 : decode cL_acts 5 = .ok (.aload_n 0, 1) := by decide +kernel
theorem dL_acts_6 : decode cL_acts 6 = .ok (.iconst 0, 1) := by decide +kernel
theorem dL_acts_7 : decode cL_acts 7 = .ok (.invokevirtual 9, 3) := by decide +kernel
theorem dL_acts_10 : decode cL_acts 10 = .ok (.istore_n 3, 1) := by decide +kernel
theorem dL_acts_11 : decode cL_acts 11 = .ok (.iload_n 2, 1) := by decide +kernel
theorem dL_acts_12 : decode cL_acts 12 = .ok (.bipush 8, 2) := by decide +kernel
theorem dL_acts_14 : decode cL_acts 14 = .ok (.irem, 1) := by decide +kernel
theorem dL_acts_15 : decode cL_acts 15 = .ok (.istore 4, 2) := by decide +kernel
theorem dL_acts_17 : decode cL_acts 17 = .ok (.iload_n 2, 1) := by decide +kernel
theorem dL_acts_18 : decode cL_acts 18 = .ok (.bipush 8, 2) := by decide +kernel
theorem dL_acts_20 : decode cL_acts 20 = .ok (.idiv, 1) := by decide +kernel
theorem dL_acts_21 : decode cL_acts 21 = .ok (.bipush 8, 2) := by decide +kernel
theorem dL_acts_23 : decode cL_acts 23 = .ok (.irem, 1) := by decide +kernel
theorem dL_acts_24 : decode cL_acts 24 = .ok (.istore 5, 2) := by decide +kernel
theorem dL_acts_26 : decode cL_acts 26 = .ok (.iload_n 1, 1) := by decide +kernel
theorem dL_acts_27 : decode cL_acts 27 = .ok (.bipush 16, 2) := by decide +kernel
theorem dL_acts_29 : decode cL_acts 29 = .ok (.irem, 1) := by decide +kernel
theorem dL_acts_30 : decode cL_acts 30 = .ok (.tableswitch 221 0 11 #[62, 82, 82, 82, 93, 93, 104, 104, 113, 118, 123, 128], 62) := by decide +kernel
theorem dL_acts_92 : decode cL_acts 92 = .ok (.aload_n 0, 1) := by decide +kernel
theorem dL_acts_93 : decode cL_acts 93 = .ok (.iconst 2, 1) := by decide +kernel
theorem dL_acts_94 : decode cL_acts 94 = .ok (.iload_n 2, 1) := by decide +kernel
theorem dL_acts_95 : decode cL_acts 95 = .ok (.bipush 7, 2) := by decide +kernel
theorem dL_acts_97 : decode cL_acts 97 = .ok (.irem, 1) := by decide +kernel
theorem dL_acts_98 : decode cL_acts 98 = .ok (.iadd, 1) := by decide +kernel
theorem dL_acts_99 : decode cL_acts 99 = .ok (.iconst 1, 1) := by decide +kernel
theorem dL_acts_100 : decode cL_acts 100 = .ok (.iload_n 2, 1) := by decide +kernel
theorem dL_acts_101 : decode cL_acts 101 = .ok (.bipush 7, 2) := by decide +kernel
theorem dL_acts_103 : decode cL_acts 103 = .ok (.idiv, 1) := by decide +kernel
theorem dL_acts_104 : decode cL_acts 104 = .ok (.bipush 7, 2) := by decide +kernel
theorem dL_acts_106 : decode cL_acts 106 = .ok (.irem, 1) := by decide +kernel
theorem dL_acts_107 : decode cL_acts 107 = .ok (.iadd, 1) := by decide +kernel
theorem dL_acts_108 : decode cL_acts 108 = .ok (.invokevirtual 15, 3) := by decide +kernel
theorem dL_acts_111 : decode cL_acts 111 = .ok (.ireturn, 1) := by decide +kernel
theorem dL_acts_112 : decode cL_acts 112 = .ok (.aload_n 0, 1) := by decide +kernel
theorem dL_acts_113 : decode cL_acts 113 = .ok (.iload 4, 2) := by decide +kernel
theorem dL_acts_115 : decode cL_acts 115 = .ok (.iconst 4, 1) := by decide +kernel
theorem dL_acts_116 : decode cL_acts 116 = .ok (.irem, 1) := by decide +kernel
theorem dL_acts_117 : decode cL_acts 117 = .ok (.iload 5, 2) := by decide +kernel
theorem dL_acts_119 : decode cL_acts 119 = .ok (.invokevirtual 19, 3) := by decide +kernel
theorem dL_acts_122 : decode cL_acts 122 = .ok (.ireturn, 1) := by decide +kernel
theorem dL_acts_123 : decode cL_acts 123 = .ok (.aload_n 0, 1) := by decide +kernel
theorem dL_acts_124 : decode cL_acts 124 = .ok (.iload 4, 2) := by decide +kernel
theorem dL_acts_126 : decode cL_acts 126 = .ok (.iload 5, 2) := by decide +kernel
theorem dL_acts_128 : decode cL_acts 128 = .ok (.iconst 4, 1) := by decide +kernel
theorem dL_acts_129 : decode cL_acts 129 = .ok (.irem, 1) := by decide +kernel
theorem dL_acts_130 : decode cL_acts 130 = .ok (.invokevirtual 22, 3) := by decide +kernel
theorem dL_acts_133 : decode cL_acts 133 = .ok (.ireturn, 1) := by decide +kernel
theorem dL_acts_134 : decode cL_acts 134 = .ok (.aload_n 0, 1) := by decide +kernel
theorem dL_acts_135 : decode cL_acts 135 = .ok (.iload 4, 2) := by decide +kernel
theorem dL_acts_137 : decode cL_acts 137 = .ok (.iload 5, 2) := by decide +kernel
theorem dL_acts_139 : decode cL_acts 139 = .ok (.invokevirtual 25, 3) := by decide +kernel
theorem dL_acts_142 : decode cL_acts 142 = .ok (.ireturn, 1) := by decide +kernel
theorem dL_acts_143 : decode cL_acts 143 = .ok (.aload_n 0, 1) := by decide +kernel
theorem dL_acts_144 : decode cL_acts 144 = .ok (.invokevirtual 28, 3) := by decide +kernel
theorem dL_acts_147 : decode cL_acts 147 = .ok (.ireturn, 1) := by decide +kernel
theorem dL_acts_148 : decode cL_acts 148 = .ok (.aload_n 0, 1) := by decide +kernel
theorem dL_acts_149 : decode cL_acts 149 = .ok (.invokevirtual 32, 3) := by decide +kernel
theorem dL_acts_152 : decode cL_acts 152 = .ok (.ireturn, 1) := by decide +kernel
theorem dL_acts_153 : decode cL_acts 153 = .ok (.aload_n 0, 1) := by decide +kernel
theorem dL_acts_154 : decode cL_acts 154 = .ok (.invokevirtual 35, 3) := by decide +kernel
theorem dL_acts_157 : decode cL_acts 157 = .ok (.ireturn, 1) := by decide +kernel
theorem dL_acts_158 : decode cL_acts 158 = .ok (.aload_n 0, 1) := by decide +kernel
theorem dL_acts_159 : decode cL_acts 159 = .ok (.invokevirtual 38, 3) := by decide +kernel
theorem dL_acts_162 : decode cL_acts 162 = .ok (.istore 6, 2) := by decide +kernel
theorem dL_acts_164 : decode cL_acts 164 = .ok (.iconst 0, 1) := by decide +kernel
theorem dL_acts_165 : decode cL_acts 165 = .ok (.istore 7, 2) := by decide +kernel
theorem dL_acts_167 : decode cL_acts 167 = .ok (.iload 7, 2) := by decide +kernel
theorem dL_acts_169 : decode cL_acts 169 = .ok (.iload_n 3, 1) := by decide +kernel
theorem dL_acts_170 : decode cL_acts 170 = .ok (.iload_n 3, 1) := by decide +kernel
theorem dL_acts_171 : decode cL_acts 171 = .ok (.imul, 1) := by decide +kernel
theorem dL_acts_172 : decode cL_acts 172 = .ok (.iload_n 3, 1) := by decide +kernel
theorem dL_acts_173 : decode cL_acts 173 = .ok (.iadd, 1) := by decide +kernel
theorem dL_acts_174 : decode cL_acts 174 = .ok (.iconst 1, 1) := by decide +kernel
theorem dL_acts_175 : decode cL_acts 175 = .ok (.isub, 1) := by decide +kernel
theorem dL_acts_176 : decode cL_acts 176 = .ok (.if_icmp .ge 60, 3) := by decide +kernel
theorem dL_acts_179 : decode cL_acts 179 = .ok (.iload 7, 2) := by decide +kernel
theorem dL_acts_181 : decode cL_acts 181 = .ok (.bipush 71, 2) := by decide +kernel
theorem dL_acts_183 : decode cL_acts 183 = .ok (.if_icmp .ge 53, 3) := by decide +kernel
theorem dL_acts_186 : decode cL_acts 186 = .ok (.aload_n 0, 1) := by decide +kernel
theorem dL_acts_187 : decode cL_acts 187 = .ok (.iload 7, 2) := by decide +kernel
theorem dL_acts_189 : decode cL_acts 189 = .ok (.iload_n 3, 1) := by decide +kernel
theorem dL_acts_190 : decode cL_acts 190 = .ok (.iconst 1, 1) := by decide +kernel
theorem dL_acts_191 : decode cL_acts 191 = .ok (.iadd, 1) := by decide +kernel
theorem dL_acts_192 : decode cL_acts 192 = .ok (.irem, 1) := by decide +kernel
theorem dL_acts_193 : decode cL_acts 193 = .ok (.iload_n 3, 1) := by decide +kernel
theorem dL_acts_194 : decode cL_acts 194 = .ok (.if_icmp .ne 8, 3) := by decide +kernel
theorem dL_acts_197 : decode cL_acts 197 = .ok (.bipush 47, 2) := by decide +kernel
theorem dL_acts_199 : decode cL_acts 199 = .ok (.goto 26, 3) := by decide +kernel
theorem dL_acts_202 : decode cL_acts 202 = .ok (.bipush 48, 2) := by decide +kernel
theorem dL_acts_204 : decode cL_acts 204 = .ok (.aload_n 0, 1) := by decide +kernel
theorem dL_acts_205 : decode cL_acts 205 = .ok (.iload_n 3, 1) := by decide +kernel
theorem dL_acts_206 : decode cL_acts 206 = .ok (.iconst 1, 1) := by decide +kernel
theorem dL_acts_207 : decode cL_acts 207 = .ok (.isub, 1) := by decide +kernel
theorem dL_acts_208 : decode cL_acts 208 = .ok (.iload 7, 2) := by decide +kernel
theorem dL_acts_210 : decode cL_acts 210 = .ok (.iload_n 3, 1) := by decide +kernel
theorem dL_acts_211 : decode cL_acts 211 = .ok (.iconst 1, 1) := by decide +kernel
theorem dL_acts_212 : decode cL_acts 212 = .ok (.iadd, 1) := by decide +kernel
theorem dL_acts_213 : decode cL_acts 213 = .ok (.idiv, 1) := by decide +kernel
theorem dL_acts_214 : decode cL_acts 214 = .ok (.isub, 1) := by decide +kernel
theorem dL_acts_215 : decode cL_acts 215 = .ok (.iload 7, 2) := by decide +kernel
theorem dL_acts_217 : decode cL_acts 217 = .ok (.iload_n 3, 1) := by decide +kernel
theorem dL_acts_218 : decode cL_acts 218 = .ok (.iconst 1, 1) := by decide +kernel
theorem dL_acts_219 : decode cL_acts 219 = .ok (.iadd, 1) := by decide +kernel
theorem dL_acts_220 : decode cL_acts 220 = .ok (.irem, 1) := by decide +kernel
theorem dL_acts_221 : decode cL_acts 221 = .ok (.invokevirtual 41, 3) := by decide +kernel
theorem dL_acts_224 : decode cL_acts 224 = .ok (.iadd, 1) := by decide +kernel
theorem dL_acts_225 : decode cL_acts 225 = .ok (.invokevirtual 44, 3) := by decide +kernel
theorem dL_acts_228 : decode cL_acts 228 = .ok (.istore 6, 2) := by decide +kernel
theorem dL_acts_230 : decode cL_acts 230 = .ok (.iinc 7 1, 3) := by decide +kernel
theorem dL_acts_233 : decode cL_acts 233 = .ok (.goto (-66), 3) := by decide +kernel
theorem dL_acts_236 : decode cL_acts 236 = .ok (.iload 6, 2) := by decide +kernel
theorem dL_acts_238 : decode cL_acts 238 = .ok (.ifCond .ge 8, 3) := by decide +kernel
theorem dL_acts_241 : decode cL_acts 241 = .ok (.bipush (-9), 2) := by decide +kernel
theorem dL_acts_243 : decode cL_acts 243 = .ok (.goto 7, 3) := by decide +kernel
theorem dL_acts_246 : decode cL_acts 246 = .ok (.aload_n 0, 1) := by decide +kernel
theorem dL_acts_247 : decode cL_acts 247 = .ok (.invokevirtual 47, 3) := by decide +kernel
theorem dL_acts_250 : decode cL_acts 250 = .ok (.ireturn, 1) := by decide +kernel
theorem dL_acts_251 : decode cL_acts 251 = .ok (.iload_n 2, 1) := by decide +kernel
theorem dL_acts_252 : decode cL_acts 252 = .ok (.iconst 3, 1) := by decide +kernel
theorem dL_acts_253 : decode cL_acts 253 = .ok (.irem, 1) := by decide +kernel
theorem dL_acts_254 : decode cL_acts 254 = .ok (.ifCond .ne 29, 3) := by decide +kernel
theorem dL_acts_257 : decode cL_acts 257 = .ok (.aload_n 0, 1) := by decide +kernel
theorem dL_acts_258 : decode cL_acts 258 = .ok (.iload 4, 2) := by decide +kernel
theorem dL_acts_260 : decode cL_acts 260 = .ok (.iload 5, 2) := by decide +kernel
theorem dL_acts_262 : decode cL_acts 262 = .ok (.iload_n 2, 1) := by decide +kernel
theorem dL_acts_263 : decode cL_acts 263 = .ok (.bipush 64, 2) := by decide +kernel
theorem dL_acts_265 : decode cL_acts 265 = .ok (.idiv, 1) := by decide +kernel
theorem dL_acts_266 : decode cL_acts 266 = .ok (.bipush 8, 2) := by decide +kernel
theorem dL_acts_268 : decode cL_acts 268 = .ok (.irem, 1) := by decide +kernel
theorem dL_acts_269 : decode cL_acts 269 = .ok (.iload_n 2, 1) := by decide +kernel
theorem dL_acts_270 : decode cL_acts 270 = .ok (.sipush 512, 3) := by decide +kernel
theorem dL_acts_273 : decode cL_acts 273 = .ok (.idiv, 1) := by decide +kernel
theorem dL_acts_274 : decode cL_acts 274 = .ok (.bipush 8, 2) := by decide +kernel
theorem dL_acts_276 : decode cL_acts 276 = .ok (.irem, 1) := by decide +kernel
theorem dL_acts_277 : decode cL_acts 277 = .ok (.invokevirtual 50, 3) := by decide +kernel
theorem dL_acts_280 : decode cL_acts 280 = .ok (.goto 40, 3) := by decide +kernel
theorem dL_acts_283 : decode cL_acts 283 = .ok (.aload_n 0, 1) := by decide +kernel
theorem dL_acts_284 : decode cL_acts 284 = .ok (.iconst 0, 1) := by decide +kernel
theorem dL_acts_285 : decode cL_acts 285 = .ok (.invokevirtual 54, 3) := by decide +kernel
theorem dL_acts_288 : decode cL_acts 288 = .ok (.ifCond .ge 8, 3) := by decide +kernel
theorem dL_acts_291 : decode cL_acts 291 = .ok (.bipush (-4), 2) := by decide +kernel
theorem dL_acts_293 : decode cL_acts 293 = .ok (.goto 27, 3) := by decide +kernel
theorem dL_acts_296 : decode cL_acts 296 = .ok (.aload_n 0, 1) := by decide +kernel
theorem dL_acts_297 : decode cL_acts 297 = .ok (.aload_n 0, 1) := by decide +kernel
theorem dL_acts_298 : decode cL_acts 298 = .ok (.iconst 1, 1) := by decide +kernel
theorem dL_acts_299 : decode cL_acts 299 = .ok (.invokevirtual 54, 3) := by decide +kernel
theorem dL_acts_302 : decode cL_acts 302 = .ok (.aload_n 0, 1) := by decide +kernel
theorem dL_acts_303 : decode cL_acts 303 = .ok (.iconst 0, 1) := by decide +kernel
theorem dL_acts_304 : decode cL_acts 304 = .ok (.invokevirtual 54, 3) := by decide +kernel
theorem dL_acts_307 : decode cL_acts 307 = .ok (.aload_n 0, 1) := by decide +kernel
theorem dL_acts_308 : decode cL_acts 308 = .ok (.iconst 2, 1) := by decide +kernel
theorem dL_acts_309 : decode cL_acts 309 = .ok (.invokevirtual 54, 3) := by decide +kernel
theorem dL_acts_312 : decode cL_acts 312 = .ok (.aload_n 0, 1) := by decide +kernel
theorem dL_acts_313 : decode cL_acts 313 = .ok (.iconst 3, 1) := by decide +kernel
theorem dL_acts_314 : decode cL_acts 314 = .ok (.invokevirtual 54, 3) := by decide +kernel
theorem dL_acts_317 : decode cL_acts 317 = .ok (.invokevirtual 50, 3) := by decide +kernel
theorem dL_acts_320 : decode cL_acts 320 = .ok (.ireturn, 1) := by decide +kernel
set_option maxRecDepth 20000 in
theorem ggL_hangs_X9_count : GoodIn wsL_hangs wsX9_count := goodIn_r _ [5, 6, 7, 8, 9, 10, 11, 12, 13, 14, 15, 16, 17, 18, 19, 20, 21, 22, 23, 24, 25, 26, 27, 28, 29, 30, 31, 32, 33, 34, 35, 36, 37, 38, 39, 40, 41, 42, 43, 44, 45, 46, 47, 48, 49, 50, 51, 52, 53, 54, 55, 56, 57, 58, 59, 4, 60, 61, 62, 63, 64, 65, 66, 67, 68, 69, 70, 71, 72, 73, 74, 75, 76, 77, 78, 79, 80, 81, 82, 83, 84, 85, 86, 87, 88, 89, 90, 91, 92, 93, 94, 95, 96, 97, 98, 99, 100, 101, 218, 219, 220, 221, 222, 223, 224, 225, 226, 227, 228, 229, 230, 231, 232] rfl (by decide +kernel)
set_option maxRecDepth 20000 in
theorem gL_hangs_X9_count : GoodIn wsL_hangs (wsV RL 9 RX9 yX9_count wsX9_count) := goodIn_app (goodIn_of _ (by decide +kernel)) ggL_hangs_X9_count
set_option maxRecDepth 20000 in
theorem ggL_hangs_X9_sum : GoodIn wsL_hangs wsX9_sum := goodIn_r _ [105, 6, 106, 107, 108, 13, 109, 15, 110, 25, 26, 27, 28, 218, 219, 220, 221, 222, 223, 224, 225, 226, 227, 228] rfl (by decide +kernel)
set_option maxRecDepth 20000 in
theorem gL_hangs_X9_sum : GoodIn wsL_hangs (wsV RL 41 RX9 yX9_sum wsX9_sum) := goodIn_app (goodIn_of _ (by decide +kernel)) ggL_hangs_X9_sum
set_option maxRecDepth 20000 in
theorem ggL_hangs_X9_between : GoodIn wsL_hangs wsX9_between := goodIn_r _ [114, 6, 106, 107, 108, 13, 109, 15, 115, 116, 117, 118, 119, 11, 12, 14, 120, 121, 122, 123, 25, 26, 27, 28, 218, 219, 220, 221, 222, 223, 224, 225, 226, 227, 228] rfl (by decide +kernel)
set_option maxRecDepth 20000 in
theorem gL_hangs_X9_between : GoodIn wsL_hangs (wsV RL 57 RX9 yX9_between wsX9_between) := goodIn_app (goodIn_of _ (by decide +kernel)) ggL_hangs_X9_between
set_option maxRecDepth 20000 in
theorem ggL_hangs_X9_returns : GoodIn wsL_hangs wsX9_returns := goodIn_r _ [127, 6, 106, 107, 108, 13, 109, 15, 128, 129, 117, 130, 120, 121, 122, 123, 25, 26, 27, 28, 218, 219, 220, 221, 222, 223, 224, 225, 226, 227, 228] rfl (by decide +kernel)
set_option maxRecDepth 20000 in
theorem gL_hangs_X9_returns : GoodIn wsL_hangs (wsV RL 61 RX9 yX9_returns wsX9_returns) := goodIn_app (goodIn_of _ (by decide +kernel)) ggL_hangs_X9_returns
set_option maxRecDepth 20000 in
theorem ggL_hangs_X9_token : GoodIn wsL_hangs wsX9_token := goodIn_r _ [134, 6, 106, 107, 108, 13, 109, 15, 135, 22, 18, 23, 20, 11, 12, 14, 24, 25, 26, 27, 28, 136, 33, 34, 137, 39, 40, 138, 73, 46, 74, 55, 56, 57, 58, 59, 4, 60, 61, 75, 66, 67, 68, 69, 70, 71, 110, 139, 140, 117, 141, 119, 142, 143, 144, 123, 145, 146, 147, 148, 149, 150, 151, 129, 130, 120, 121, 122, 218, 219, 220, 221, 222, 223, 224, 225, 226, 227, 228] rfl (by decide +kernel)
set_option maxRecDepth 20000 in
theorem gL_hangs_X9_token : GoodIn wsL_hangs (wsV RL 64 RX9 yX9_token wsX9_token) := goodIn_app (goodIn_of _ (by decide +kernel)) ggL_hangs_X9_token
set_option maxRecDepth 20000 in
theorem ggL_hangs_X9_ring : GoodIn wsL_hangs wsX9_ring := goodIn_r _ [155, 6, 156, 49, 50, 13, 51, 15, 157, 158, 4, 159, 138, 73, 46, 74, 55, 56, 57, 58, 11, 12, 14, 59, 60, 61, 25, 26, 27, 28, 218, 219, 220, 221, 222, 223, 224, 225, 226, 227, 228] rfl (by decide +kernel)
set_option maxRecDepth 20000 in
theorem gL_hangs_X9_ring : GoodIn wsL_hangs (wsV RL 67 RX9 yX9_ring wsX9_ring) := goodIn_app (goodIn_of _ (by decide +kernel)) ggL_hangs_X9_ring
set_option maxRecDepth 20000 in
theorem ggL_hangs_X9_ringAt : GoodIn wsL_hangs wsX9_ringAt := goodIn_r _ [163, 6, 164, 165, 46, 166, 48, 49, 50, 13, 51, 15, 52, 53, 54, 55, 56, 57, 58, 11, 12, 14, 59, 4, 60, 61, 25, 26, 27, 28, 218, 219, 220, 221, 222, 223, 224, 225, 226, 227, 228] rfl (by decide +kernel)
set_option maxRecDepth 20000 in
theorem gL_hangs_X9_ringAt : GoodIn wsL_hangs (wsV RL 70 RX9 yX9_ringAt wsX9_ringAt) := goodIn_app (goodIn_of _ (by decide +kernel)) ggL_hangs_X9_ringAt
set_option maxRecDepth 20000 in
theorem ggL_hangs_X9_crooked : GoodIn wsL_hangs wsX9_crooked := goodIn_r _ [170, 6, 10, 11, 12, 13, 14, 15, 29, 30, 18, 31, 20, 32, 33, 34, 24, 25, 26, 27, 28, 218, 219, 220, 221, 222, 223, 224, 225, 226, 227, 228] rfl (by decide +kernel)
set_option maxRecDepth 20000 in
theorem gL_hangs_X9_crooked : GoodIn wsL_hangs (wsV RL 73 RX9 yX9_crooked wsX9_crooked) := goodIn_app (goodIn_of _ (by decide +kernel)) ggL_hangs_X9_crooked
set_option maxRecDepth 20000 in
theorem ggL_hangs_X9_best : GoodIn wsL_hangs wsX9_best := goodIn_r _ [174, 7, 6, 157, 158, 4, 159, 175, 176, 177, 79, 178, 179, 180, 81, 11, 12, 13, 14, 15, 181, 182, 183, 184, 28, 185, 186, 187, 188, 189, 190, 191, 192, 85, 86, 87, 88, 89, 25, 26, 27, 193, 194, 195, 196, 197, 198, 199, 200, 201, 202, 203, 204, 205, 206, 207, 208, 209, 210, 211, 212, 213, 30, 18, 31, 20, 32, 33, 34, 24, 214, 215, 216, 217, 218, 219, 220, 221, 222, 223, 224, 225, 226, 233, 234, 235, 236, 237, 238, 227, 228] rfl (by decide +kernel)
set_option maxRecDepth 20000 in
theorem gL_hangs_X9_best : GoodIn wsL_hangs (wsV RL 54 RX9 yX9_best wsX9_best) := goodIn_app (goodIn_of _ (by decide +kernel)) ggL_hangs_X9_best
theorem dL_hangs_0 : decode cL_hangs 0 = .ok (.aload_n 0, 1) := by decide +kernel
theorem dL_hangs_1 : decode cL_hangs 1 = .ok (.iconst 0, 1) := by decide +kernel
theorem dL_hangs_2 : decode cL_hangs 2 = .ok (.invokevirtual 9, 3) := by decide +kernel
theorem dL_hangs_5 : decode cL_hangs 5 = .ok (.istore_n 1, 1) := by decide +kernel
theorem dL_hangs_6 : decode cL_hangs 6 = .ok (.iconst 0, 1) := by decide +kernel
theorem dL_hangs_7 : decode cL_hangs 7 = .ok (.istore_n 2, 1) := by decide +kernel
theorem dL_hangs_8 : decode cL_hangs 8 = .ok (.iconst 0, 1) := by decide +kernel
theorem dL_hangs_9 : decode cL_hangs 9 = .ok (.istore_n 3, 1) := by decide +kernel
theorem dL_hangs_10 : decode cL_hangs 10 = .ok (.iconst 0, 1) := by decide +kernel
theorem dL_hangs_11 : decode cL_hangs 11 = .ok (.istore 4, 2) := by decide +kernel
theorem dL_hangs_13 : decode cL_hangs 13 = .ok (.iload_n 1, 1) := by decide +kernel
theorem dL_hangs_14 : decode cL_hangs 14 = .ok (.iconst 1, 1) := by decide +kernel
theorem dL_hangs_15 : decode cL_hangs 15 = .ok (.if_icmp .le 13, 3) := by decide +kernel
theorem dL_hangs_18 : decode cL_hangs 18 = .ok (.iload_n 1, 1) := by decide +kernel
theorem dL_hangs_19 : decode cL_hangs 19 = .ok (.bipush 9, 2) := by decide +kernel
theorem dL_hangs_21 : decode cL_hangs 21 = .ok (.if_icmp .ge 7, 3) := by decide +kernel
theorem dL_hangs_24 : decode cL_hangs 24 = .ok (.iconst 1, 1) := by decide +kernel
theorem dL_hangs_25 : decode cL_hangs 25 = .ok (.goto 4, 3) := by decide +kernel
theorem dL_hangs_28 : decode cL_hangs 28 = .ok (.iconst 0, 1) := by decide +kernel
theorem dL_hangs_29 : decode cL_hangs 29 = .ok (.istore 5, 2) := by decide +kernel
theorem dL_hangs_31 : decode cL_hangs 31 = .ok (.iconst 0, 1) := by decide +kernel
theorem dL_hangs_32 : decode cL_hangs 32 = .ok (.istore 6, 2) := by decide +kernel
theorem dL_hangs_34 : decode cL_hangs 34 = .ok (.iload 6, 2) := by decide +kernel
theorem dL_hangs_36 : decode cL_hangs 36 = .ok (.iload_n 1, 1) := by decide +kernel
theorem dL_hangs_37 : decode cL_hangs 37 = .ok (.if_icmp .ge 393, 3) := by decide +kernel
theorem dL_hangs_40 : decode cL_hangs 40 = .ok (.iload 5, 2) := by decide +kernel
theorem dL_hangs_42 : decode cL_hangs 42 = .ok (.ifCond .eq 388, 3) := by decide +kernel
theorem dL_hangs_45 : decode cL_hangs 45 = .ok (.iconst 0, 1) := by decide +kernel
theorem dL_hangs_46 : decode cL_hangs 46 = .ok (.istore 7, 2) := by decide +kernel
theorem dL_hangs_48 : decode cL_hangs 48 = .ok (.iconst 0, 1) := by decide +kernel
theorem dL_hangs_49 : decode cL_hangs 49 = .ok (.istore 8, 2) := by decide +kernel
theorem dL_hangs_51 : decode cL_hangs 51 = .ok (.iconst 0, 1) := by decide +kernel
theorem dL_hangs_52 : decode cL_hangs 52 = .ok (.istore 9, 2) := by decide +kernel
theorem dL_hangs_54 : decode cL_hangs 54 = .ok (.iload 9, 2) := by decide +kernel
theorem dL_hangs_56 : decode cL_hangs 56 = .ok (.iload_n 1, 1) := by decide +kernel
theorem dL_hangs_57 : decode cL_hangs 57 = .ok (.if_icmp .ge 187, 3) := by decide +kernel
theorem dL_hangs_60 : decode cL_hangs 60 = .ok (.iload 5, 2) := by decide +kernel
theorem dL_hangs_62 : decode cL_hangs 62 = .ok (.ifCond .eq 182, 3) := by decide +kernel
theorem dL_hangs_65 : decode cL_hangs 65 = .ok (.aload_n 0, 1) := by decide +kernel
theorem dL_hangs_66 : decode cL_hangs 66 = .ok (.iload 6, 2) := by decide +kernel
theorem dL_hangs_68 : decode cL_hangs 68 = .ok (.iload 9, 2) := by decide +kernel
theorem dL_hangs_70 : decode cL_hangs 70 = .ok (.invokevirtual 41, 3) := by decide +kernel
theorem dL_hangs_73 : decode cL_hangs 73 = .ok (.istore 10, 2) := by decide +kernel
theorem dL_hangs_75 : decode cL_hangs 75 = .ok (.aload_n 0, 1) := by decide +kernel
theorem dL_hangs_76 : decode cL_hangs 76 = .ok (.iload 9, 2) := by decide +kernel
theorem dL_hangs_78 : decode cL_hangs 78 = .ok (.iload 6, 2) := by decide +kernel
theorem dL_hangs_80 : decode cL_hangs 80 = .ok (.invokevirtual 41, 3) := by decide +kernel
theorem dL_hangs_83 : decode cL_hangs 83 = .ok (.istore 11, 2) := by decide +kernel
theorem dL_hangs_85 : decode cL_hangs 85 = .ok (.iload 10, 2) := by decide +kernel
theorem dL_hangs_87 : decode cL_hangs 87 = .ok (.ifCond .lt 112, 3) := by decide +kernel
theorem dL_hangs_90 : decode cL_hangs 90 = .ok (.iload 10, 2) := by decide +kernel
theorem dL_hangs_92 : decode cL_hangs 92 = .ok (.iload_n 1, 1) := by decide +kernel
theorem dL_hangs_93 : decode cL_hangs 93 = .ok (.if_icmp .ge 106, 3) := by decide +kernel
theorem dL_hangs_96 : decode cL_hangs 96 = .ok (.iload 11, 2) := by decide +kernel
theorem dL_hangs_98 : decode cL_hangs 98 = .ok (.ifCond .lt 101, 3) := by decide +kernel
theorem dL_hangs_101 : decode cL_hangs 101 = .ok (.iload 11, 2) := by decide +kernel
theorem dL_hangs_103 : decode cL_hangs 103 = .ok (.iload_n 1, 1) := by decide +kernel
theorem dL_hangs_104 : decode cL_hangs 104 = .ok (.if_icmp .ge 95, 3) := by decide +kernel
theorem dL_hangs_107 : decode cL_hangs 107 = .ok (.aload_n 0, 1) := by decide +kernel
theorem dL_hangs_108 : decode cL_hangs 108 = .ok (.iload 6, 2) := by decide +kernel
theorem dL_hangs_110 : decode cL_hangs 110 = .ok (.iload 10, 2) := by decide +kernel
theorem dL_hangs_112 : decode cL_hangs 112 = .ok (.iconst 0, 1) := by decide +kernel
theorem dL_hangs_113 : decode cL_hangs 113 = .ok (.invokevirtual 57, 3) := by decide +kernel
theorem dL_hangs_116 : decode cL_hangs 116 = .ok (.iload 9, 2) := by decide +kernel
theorem dL_hangs_118 : decode cL_hangs 118 = .ok (.if_icmp .ne 81, 3) := by decide +kernel
theorem dL_hangs_121 : decode cL_hangs 121 = .ok (.aload_n 0, 1) := by decide +kernel
theorem dL_hangs_122 : decode cL_hangs 122 = .ok (.iload 6, 2) := by decide +kernel
theorem dL_hangs_124 : decode cL_hangs 124 = .ok (.iload 11, 2) := by decide +kernel
theorem dL_hangs_126 : decode cL_hangs 126 = .ok (.iconst 1, 1) := by decide +kernel
theorem dL_hangs_127 : decode cL_hangs 127 = .ok (.invokevirtual 57, 3) := by decide +kernel
theorem dL_hangs_130 : decode cL_hangs 130 = .ok (.iload 9, 2) := by decide +kernel
theorem dL_hangs_132 : decode cL_hangs 132 = .ok (.if_icmp .ne 67, 3) := by decide +kernel
theorem dL_hangs_135 : decode cL_hangs 135 = .ok (.aload_n 0, 1) := by decide +kernel
theorem dL_hangs_136 : decode cL_hangs 136 = .ok (.iload 9, 2) := by decide +kernel
theorem dL_hangs_138 : decode cL_hangs 138 = .ok (.iload 6, 2) := by decide +kernel
theorem dL_hangs_140 : decode cL_hangs 140 = .ok (.iconst 1, 1) := by decide +kernel
theorem dL_hangs_141 : decode cL_hangs 141 = .ok (.invokevirtual 61, 3) := by decide +kernel
theorem dL_hangs_144 : decode cL_hangs 144 = .ok (.iconst 1, 1) := by decide +kernel
theorem dL_hangs_145 : decode cL_hangs 145 = .ok (.if_icmp .lt 54, 3) := by decide +kernel
theorem dL_hangs_148 : decode cL_hangs 148 = .ok (.aload_n 0, 1) := by decide +kernel
theorem dL_hangs_149 : decode cL_hangs 149 = .ok (.iload 9, 2) := by decide +kernel
theorem dL_hangs_151 : decode cL_hangs 151 = .ok (.iload 6, 2) := by decide +kernel
theorem dL_hangs_153 : decode cL_hangs 153 = .ok (.iconst 1, 1) := by decide +kernel
theorem dL_hangs_154 : decode cL_hangs 154 = .ok (.invokevirtual 61, 3) := by decide +kernel
theorem dL_hangs_157 : decode cL_hangs 157 = .ok (.iload_n 1, 1) := by decide +kernel
theorem dL_hangs_158 : decode cL_hangs 158 = .ok (.if_icmp .gt 41, 3) := by decide +kernel
theorem dL_hangs_161 : decode cL_hangs 161 = .ok (.aload_n 0, 1) := by decide +kernel
theorem dL_hangs_162 : decode cL_hangs 162 = .ok (.iload 9, 2) := by decide +kernel
theorem dL_hangs_164 : decode cL_hangs 164 = .ok (.iload 6, 2) := by decide +kernel
theorem dL_hangs_166 : decode cL_hangs 166 = .ok (.iconst 0, 1) := by decide +kernel
theorem dL_hangs_167 : decode cL_hangs 167 = .ok (.invokevirtual 61, 3) := by decide +kernel
theorem dL_hangs_170 : decode cL_hangs 170 = .ok (.iload_n 1, 1) := by decide +kernel
theorem dL_hangs_171 : decode cL_hangs 171 = .ok (.if_icmp .gt 28, 3) := by decide +kernel
theorem dL_hangs_174 : decode cL_hangs 174 = .ok (.aload_n 0, 1) := by decide +kernel
theorem dL_hangs_175 : decode cL_hangs 175 = .ok (.iload 6, 2) := by decide +kernel
theorem dL_hangs_177 : decode cL_hangs 177 = .ok (.bipush 8, 2) := by decide +kernel
theorem dL_hangs_179 : decode cL_hangs 179 = .ok (.invokevirtual 64, 3) := by decide +kernel
theorem dL_hangs_182 : decode cL_hangs 182 = .ok (.aload_n 0, 1) := by decide +kernel
theorem dL_hangs_183 : decode cL_hangs 183 = .ok (.iload 9, 2) := by decide +kernel
theorem dL_hangs_185 : decode cL_hangs 185 = .ok (.iload 6, 2) := by decide +kernel
theorem dL_hangs_187 : decode cL_hangs 187 = .ok (.iconst 1, 1) := by decide +kernel
theorem dL_hangs_188 : decode cL_hangs 188 = .ok (.invokevirtual 61, 3) := by decide +kernel
theorem dL_hangs_191 : decode cL_hangs 191 = .ok (.irem, 1) := by decide +kernel
theorem dL_hangs_192 : decode cL_hangs 192 = .ok (.ifCond .ne 7, 3) := by decide +kernel
theorem dL_hangs_195 : decode cL_hangs 195 = .ok (.iconst 1, 1) := by decide +kernel
theorem dL_hangs_196 : decode cL_hangs 196 = .ok (.goto 4, 3) := by decide +kernel
theorem dL_hangs_199 : decode cL_hangs 199 = .ok (.iconst 0, 1) := by decide +kernel
theorem dL_hangs_200 : decode cL_hangs 200 = .ok (.istore 5, 2) := by decide +kernel
theorem dL_hangs_202 : decode cL_hangs 202 = .ok (.iload 7, 2) := by decide +kernel
theorem dL_hangs_204 : decode cL_hangs 204 = .ok (.iload 5, 2) := by decide +kernel
theorem dL_hangs_206 : decode cL_hangs 206 = .ok (.ifCond .eq 10, 3) := by decide +kernel
theorem dL_hangs_209 : decode cL_hangs 209 = .ok (.iconst 1, 1) := by decide +kernel
theorem dL_hangs_210 : decode cL_hangs 210 = .ok (.iload 10, 2) := by decide +kernel
theorem dL_hangs_212 : decode cL_hangs 212 = .ok (.ishl, 1) := by decide +kernel
theorem dL_hangs_213 : decode cL_hangs 213 = .ok (.goto 4, 3) := by decide +kernel
theorem dL_hangs_216 : decode cL_hangs 216 = .ok (.iconst 0, 1) := by decide +kernel
theorem dL_hangs_217 : decode cL_hangs 217 = .ok (.ior, 1) := by decide +kernel
theorem dL_hangs_218 : decode cL_hangs 218 = .ok (.istore 7, 2) := by decide +kernel
theorem dL_hangs_220 : decode cL_hangs 220 = .ok (.iload 8, 2) := by decide +kernel
theorem dL_hangs_222 : decode cL_hangs 222 = .ok (.iload 5, 2) := by decide +kernel
theorem dL_hangs_224 : decode cL_hangs 224 = .ok (.ifCond .eq 10, 3) := by decide +kernel
theorem dL_hangs_227 : decode cL_hangs 227 = .ok (.iconst 1, 1) := by decide +kernel
theorem dL_hangs_228 : decode cL_hangs 228 = .ok (.iload 11, 2) := by decide +kernel
theorem dL_hangs_230 : decode cL_hangs 230 = .ok (.ishl, 1) := by decide +kernel
theorem dL_hangs_231 : decode cL_hangs 231 = .ok (.goto 4, 3) := by decide +kernel
theorem dL_hangs_234 : decode cL_hangs 234 = .ok (.iconst 0, 1) := by decide +kernel
theorem dL_hangs_235 : decode cL_hangs 235 = .ok (.ior, 1) := by decide +kernel
theorem dL_hangs_236 : decode cL_hangs 236 = .ok (.istore 8, 2) := by decide +kernel
theorem dL_hangs_238 : decode cL_hangs 238 = .ok (.iinc 9 1, 3) := by decide +kernel
theorem dL_hangs_241 : decode cL_hangs 241 = .ok (.goto (-187), 3) := by decide +kernel
theorem dL_hangs_244 : decode cL_hangs 244 = .ok (.aload_n 0, 1) := by decide +kernel
theorem dL_hangs_245 : decode cL_hangs 245 = .ok (.iload 6, 2) := by decide +kernel
theorem dL_hangs_247 : decode cL_hangs 247 = .ok (.iconst 5, 1) := by decide +kernel
theorem dL_hangs_248 : decode cL_hangs 248 = .ok (.invokevirtual 64, 3) := by decide +kernel
theorem dL_hangs_251 : decode cL_hangs 251 = .ok (.istore 9, 2) := by decide +kernel
theorem dL_hangs_253 : decode cL_hangs 253 = .ok (.iload 5, 2) := by decide +kernel
theorem dL_hangs_255 : decode cL_hangs 255 = .ok (.ifCond .eq 123, 3) := by decide +kernel
theorem dL_hangs_258 : decode cL_hangs 258 = .ok (.iload 7, 2) := by decide +kernel
theorem dL_hangs_260 : decode cL_hangs 260 = .ok (.iconst 1, 1) := by decide +kernel
theorem dL_hangs_261 : decode cL_hangs 261 = .ok (.iload_n 1, 1) := by decide +kernel
theorem dL_hangs_262 : decode cL_hangs 262 = .ok (.ishl, 1) := by decide +kernel
theorem dL_hangs_263 : decode cL_hangs 263 = .ok (.iconst 1, 1) := by decide +kernel
theorem dL_hangs_264 : decode cL_hangs 264 = .ok (.isub, 1) := by decide +kernel
theorem dL_hangs_265 : decode cL_hangs 265 = .ok (.if_icmp .ne 113, 3) := by decide +kernel
theorem dL_hangs_268 : decode cL_hangs 268 = .ok (.iload 8, 2) := by decide +kernel
theorem dL_hangs_270 : decode cL_hangs 270 = .ok (.iload 7, 2) := by decide +kernel
theorem dL_hangs_272 : decode cL_hangs 272 = .ok (.if_icmp .ne 106, 3) := by decide +kernel
theorem dL_hangs_275 : decode cL_hangs 275 = .ok (.iload 9, 2) := by decide +kernel
theorem dL_hangs_277 : decode cL_hangs 277 = .ok (.iload 6, 2) := by decide +kernel
theorem dL_hangs_279 : decode cL_hangs 279 = .ok (.ishr, 1) := by decide +kernel
theorem dL_hangs_280 : decode cL_hangs 280 = .ok (.iconst 1, 1) := by decide +kernel
theorem dL_hangs_281 : decode cL_hangs 281 = .ok (.iand, 1) := by decide +kernel
theorem dL_hangs_282 : decode cL_hangs 282 = .ok (.iconst 1, 1) := by decide +kernel
theorem dL_hangs_283 : decode cL_hangs 283 = .ok (.if_icmp .ne 95, 3) := by decide +kernel
theorem dL_hangs_286 : decode cL_hangs 286 = .ok (.iload 9, 2) := by decide +kernel
theorem dL_hangs_288 : decode cL_hangs 288 = .ok (.aload_n 0, 1) := by decide +kernel
theorem dL_hangs_289 : decode cL_hangs 289 = .ok (.iload 6, 2) := by decide +kernel
theorem dL_hangs_291 : decode cL_hangs 291 = .ok (.bipush 6, 2) := by decide +kernel
theorem dL_hangs_293 : decode cL_hangs 293 = .ok (.invokevirtual 64, 3) := by decide +kernel
theorem dL_hangs_296 : decode cL_hangs 296 = .ok (.ishr, 1) := by decide +kernel
theorem dL_hangs_297 : decode cL_hangs 297 = .ok (.iconst 1, 1) := by decide +kernel
theorem dL_hangs_298 : decode cL_hangs 298 = .ok (.iand, 1) := by decide +kernel
theorem dL_hangs_299 : decode cL_hangs 299 = .ok (.iconst 1, 1) := by decide +kernel
theorem dL_hangs_300 : decode cL_hangs 300 = .ok (.if_icmp .ne 78, 3) := by decide +kernel
theorem dL_hangs_303 : decode cL_hangs 303 = .ok (.aload_n 0, 1) := by decide +kernel
theorem dL_hangs_304 : decode cL_hangs 304 = .ok (.iconst 1, 1) := by decide +kernel
theorem dL_hangs_305 : decode cL_hangs 305 = .ok (.iload 6, 2) := by decide +kernel
theorem dL_hangs_307 : decode cL_hangs 307 = .ok (.ishl, 1) := by decide +kernel
theorem dL_hangs_308 : decode cL_hangs 308 = .ok (.invokevirtual 67, 3) := by decide +kernel
theorem dL_hangs_311 : decode cL_hangs 311 = .ok (.iload 9, 2) := by decide +kernel
theorem dL_hangs_313 : decode cL_hangs 313 = .ok (.if_icmp .ne 65, 3) := by decide +kernel
theorem dL_hangs_316 : decode cL_hangs 316 = .ok (.aload_n 0, 1) := by decide +kernel
theorem dL_hangs_317 : decode cL_hangs 317 = .ok (.iload 9, 2) := by decide +kernel
theorem dL_hangs_319 : decode cL_hangs 319 = .ok (.invokevirtual 67, 3) := by decide +kernel
theorem dL_hangs_322 : decode cL_hangs 322 = .ok (.iload 9, 2) := by decide +kernel
theorem dL_hangs_324 : decode cL_hangs 324 = .ok (.if_icmp .ne 54, 3) := by decide +kernel
theorem dL_hangs_327 : decode cL_hangs 327 = .ok (.aload_n 0, 1) := by decide +kernel
theorem dL_hangs_328 : decode cL_hangs 328 = .ok (.iload 6, 2) := by decide +kernel
theorem dL_hangs_330 : decode cL_hangs 330 = .ok (.bipush 7, 2) := by decide +kernel
theorem dL_hangs_332 : decode cL_hangs 332 = .ok (.invokevirtual 64, 3) := by decide +kernel
theorem dL_hangs_335 : decode cL_hangs 335 = .ok (.iconst 1, 1) := by decide +kernel
theorem dL_hangs_336 : decode cL_hangs 336 = .ok (.if_icmp .lt 42, 3) := by decide +kernel
theorem dL_hangs_339 : decode cL_hangs 339 = .ok (.aload_n 0, 1) := by decide +kernel
theorem dL_hangs_340 : decode cL_hangs 340 = .ok (.iload 6, 2) := by decide +kernel
theorem dL_hangs_342 : decode cL_hangs 342 = .ok (.bipush 7, 2) := by decide +kernel
theorem dL_hangs_344 : decode cL_hangs 344 = .ok (.invokevirtual 64, 3) := by decide +kernel
theorem dL_hangs_347 : decode cL_hangs 347 = .ok (.iload_n 1, 1) := by decide +kernel
theorem dL_hangs_348 : decode cL_hangs 348 = .ok (.if_icmp .gt 30, 3) := by decide +kernel
theorem dL_hangs_351 : decode cL_hangs 351 = .ok (.aload_n 0, 1) := by decide +kernel
theorem dL_hangs_352 : decode cL_hangs 352 = .ok (.iload 6, 2) := by decide +kernel
theorem dL_hangs_354 : decode cL_hangs 354 = .ok (.bipush 9, 2) := by decide +kernel
theorem dL_hangs_356 : decode cL_hangs 356 = .ok (.invokevirtual 64, 3) := by decide +kernel
theorem dL_hangs_359 : decode cL_hangs 359 = .ok (.iconst (-1), 1) := by decide +kernel
theorem dL_hangs_360 : decode cL_hangs 360 = .ok (.if_icmp .ne 18, 3) := by decide +kernel
theorem dL_hangs_363 : decode cL_hangs 363 = .ok (.aload_n 0, 1) := by decide +kernel
theorem dL_hangs_364 : decode cL_hangs 364 = .ok (.iload 6, 2) := by decide +kernel
theorem dL_hangs_366 : decode cL_hangs 366 = .ok (.iconst (-1), 1) := by decide +kernel
theorem dL_hangs_367 : decode cL_hangs 367 = .ok (.invokevirtual 64, 3) := by decide +kernel
theorem dL_hangs_370 : decode cL_hangs 370 = .ok (.iconst (-1), 1) := by decide +kernel
theorem dL_hangs_371 : decode cL_hangs 371 = .ok (.if_icmp .ne 7, 3) := by decide +kernel
theorem dL_hangs_374 : decode cL_hangs 374 = .ok (.iconst 1, 1) := by decide +kernel
theorem dL_hangs_375 : decode cL_hangs 375 = .ok (.goto 4, 3) := by decide +kernel
theorem dL_hangs_378 : decode cL_hangs 378 = .ok (.iconst 0, 1) := by decide +kernel
theorem dL_hangs_379 : decode cL_hangs 379 = .ok (.istore 5, 2) := by decide +kernel
theorem dL_hangs_381 : decode cL_hangs 381 = .ok (.iload_n 2, 1) := by decide +kernel
theorem dL_hangs_382 : decode cL_hangs 382 = .ok (.aload_n 0, 1) := by decide +kernel
theorem dL_hangs_383 : decode cL_hangs 383 = .ok (.iload 6, 2) := by decide +kernel
theorem dL_hangs_385 : decode cL_hangs 385 = .ok (.iconst 0, 1) := by decide +kernel
theorem dL_hangs_386 : decode cL_hangs 386 = .ok (.invokevirtual 64, 3) := by decide +kernel
theorem dL_hangs_389 : decode cL_hangs 389 = .ok (.iadd, 1) := by decide +kernel
theorem dL_hangs_390 : decode cL_hangs 390 = .ok (.istore_n 2, 1) := by decide +kernel
theorem dL_hangs_391 : decode cL_hangs 391 = .ok (.iload_n 3, 1) := by decide +kernel
theorem dL_hangs_392 : decode cL_hangs 392 = .ok (.aload_n 0, 1) := by decide +kernel
theorem dL_hangs_393 : decode cL_hangs 393 = .ok (.iload 6, 2) := by decide +kernel
theorem dL_hangs_395 : decode cL_hangs 395 = .ok (.iconst 1, 1) := by decide +kernel
theorem dL_hangs_396 : decode cL_hangs 396 = .ok (.invokevirtual 64, 3) := by decide +kernel
theorem dL_hangs_399 : decode cL_hangs 399 = .ok (.iadd, 1) := by decide +kernel
theorem dL_hangs_400 : decode cL_hangs 400 = .ok (.istore_n 3, 1) := by decide +kernel
theorem dL_hangs_401 : decode cL_hangs 401 = .ok (.iload 4, 2) := by decide +kernel
theorem dL_hangs_403 : decode cL_hangs 403 = .ok (.aload_n 0, 1) := by decide +kernel
theorem dL_hangs_404 : decode cL_hangs 404 = .ok (.iload 6, 2) := by decide +kernel
theorem dL_hangs_406 : decode cL_hangs 406 = .ok (.bipush 6, 2) := by decide +kernel
theorem dL_hangs_408 : decode cL_hangs 408 = .ok (.invokevirtual 64, 3) := by decide +kernel
theorem dL_hangs_411 : decode cL_hangs 411 = .ok (.iload 6, 2) := by decide +kernel
theorem dL_hangs_413 : decode cL_hangs 413 = .ok (.if_icmp .ne 7, 3) := by decide +kernel
theorem dL_hangs_416 : decode cL_hangs 416 = .ok (.iconst 1, 1) := by decide +kernel
theorem dL_hangs_417 : decode cL_hangs 417 = .ok (.goto 4, 3) := by decide +kernel
theorem dL_hangs_420 : decode cL_hangs 420 = .ok (.iconst 0, 1) := by decide +kernel
theorem dL_hangs_421 : decode cL_hangs 421 = .ok (.iadd, 1) := by decide +kernel
theorem dL_hangs_422 : decode cL_hangs 422 = .ok (.istore 4, 2) := by decide +kernel
theorem dL_hangs_424 : decode cL_hangs 424 = .ok (.iinc 6 1, 3) := by decide +kernel
theorem dL_hangs_427 : decode cL_hangs 427 = .ok (.goto (-393), 3) := by decide +kernel
theorem dL_hangs_430 : decode cL_hangs 430 = .ok (.iload 5, 2) := by decide +kernel
theorem dL_hangs_432 : decode cL_hangs 432 = .ok (.ifCond .ne 5, 3) := by decide +kernel
theorem dL_hangs_435 : decode cL_hangs 435 = .ok (.iconst 0, 1) := by decide +kernel
theorem dL_hangs_436 : decode cL_hangs 436 = .ok (.ireturn, 1) := by decide +kernel
theorem dL_hangs_437 : decode cL_hangs 437 = .ok (.aload_n 0, 1) := by decide +kernel
theorem dL_hangs_438 : decode cL_hangs 438 = .ok (.iconst 3, 1) := by decide +kernel
theorem dL_hangs_439 : decode cL_hangs 439 = .ok (.invokevirtual 9, 3) := by decide +kernel
theorem dL_hangs_442 : decode cL_hangs 442 = .ok (.istore 6, 2) := by decide +kernel
theorem dL_hangs_444 : decode cL_hangs 444 = .ok (.aload_n 0, 1) := by decide +kernel
theorem dL_hangs_445 : decode cL_hangs 445 = .ok (.iconst 4, 1) := by decide +kernel
theorem dL_hangs_446 : decode cL_hangs 446 = .ok (.invokevirtual 9, 3) := by decide +kernel
theorem dL_hangs_449 : decode cL_hangs 449 = .ok (.istore 7, 2) := by decide +kernel
theorem dL_hangs_451 : decode cL_hangs 451 = .ok (.aload_n 0, 1) := by decide +kernel
theorem dL_hangs_452 : decode cL_hangs 452 = .ok (.bipush 8, 2) := by decide +kernel
theorem dL_hangs_454 : decode cL_hangs 454 = .ok (.invokevirtual 9, 3) := by decide +kernel
theorem dL_hangs_457 : decode cL_hangs 457 = .ok (.istore 8, 2) := by decide +kernel
theorem dL_hangs_459 : decode cL_hangs 459 = .ok (.iconst 0, 1) := by decide +kernel
theorem dL_hangs_460 : decode cL_hangs 460 = .ok (.istore 9, 2) := by decide +kernel
theorem dL_hangs_462 : decode cL_hangs 462 = .ok (.iconst 0, 1) := by decide +kernel
theorem dL_hangs_463 : decode cL_hangs 463 = .ok (.istore 10, 2) := by decide +kernel
theorem dL_hangs_465 : decode cL_hangs 465 = .ok (.iload 10, 2) := by decide +kernel
theorem dL_hangs_467 : decode cL_hangs 467 = .ok (.sipush 255, 3) := by decide +kernel
theorem dL_hangs_470 : decode cL_hangs 470 = .ok (.if_icmp .ge 68, 3) := by decide +kernel
theorem dL_hangs_473 : decode cL_hangs 473 = .ok (.aload_n 0, 1) := by decide +kernel
theorem dL_hangs_474 : decode cL_hangs 474 = .ok (.iload 10, 2) := by decide +kernel
theorem dL_hangs_476 : decode cL_hangs 476 = .ok (.invokevirtual 70, 3) := by decide +kernel
theorem dL_hangs_479 : decode cL_hangs 479 = .ok (.ifCond .le 59, 3) := by decide +kernel
theorem dL_hangs_482 : decode cL_hangs 482 = .ok (.iload 5, 2) := by decide +kernel
theorem dL_hangs_484 : decode cL_hangs 484 = .ok (.ifCond .eq 37, 3) := by decide +kernel
theorem dL_hangs_487 : decode cL_hangs 487 = .ok (.aload_n 0, 1) := by decide +kernel
theorem dL_hangs_488 : decode cL_hangs 488 = .ok (.iload 10, 2) := by decide +kernel
theorem dL_hangs_490 : decode cL_hangs 490 = .ok (.invokevirtual 70, 3) := by decide +kernel
theorem dL_hangs_493 : decode cL_hangs 493 = .ok (.iload 9, 2) := by decide +kernel
theorem dL_hangs_495 : decode cL_hangs 495 = .ok (.if_icmp .le 26, 3) := by decide +kernel
theorem dL_hangs_498 : decode cL_hangs 498 = .ok (.aload_n 0, 1) := by decide +kernel
theorem dL_hangs_499 : decode cL_hangs 499 = .ok (.aload_n 0, 1) := by decide +kernel
theorem dL_hangs_500 : decode cL_hangs 500 = .ok (.iload 10, 2) := by decide +kernel
theorem dL_hangs_502 : decode cL_hangs 502 = .ok (.invokevirtual 70, 3) := by decide +kernel
theorem dL_hangs_505 : decode cL_hangs 505 = .ok (.invokevirtual 67, 3) := by decide +kernel
theorem dL_hangs_508 : decode cL_hangs 508 = .ok (.aload_n 0, 1) := by decide +kernel
theorem dL_hangs_509 : decode cL_hangs 509 = .ok (.iload 10, 2) := by decide +kernel
theorem dL_hangs_511 : decode cL_hangs 511 = .ok (.invokevirtual 70, 3) := by decide +kernel
theorem dL_hangs_514 : decode cL_hangs 514 = .ok (.if_icmp .ne 7, 3) := by decide +kernel
theorem dL_hangs_517 : decode cL_hangs 517 = .ok (.iconst 1, 1) := by decide +kernel
theorem dL_hangs_518 : decode cL_hangs 518 = .ok (.goto 4, 3) := by decide +kernel
theorem dL_hangs_521 : decode cL_hangs 521 = .ok (.iconst 0, 1) := by decide +kernel
theorem dL_hangs_522 : decode cL_hangs 522 = .ok (.istore 5, 2) := by decide +kernel
theorem dL_hangs_524 : decode cL_hangs 524 = .ok (.aload_n 0, 1) := by decide +kernel
theorem dL_hangs_525 : decode cL_hangs 525 = .ok (.iload 10, 2) := by decide +kernel
theorem dL_hangs_527 : decode cL_hangs 527 = .ok (.invokevirtual 70, 3) := by decide +kernel
theorem dL_hangs_530 : decode cL_hangs 530 = .ok (.istore 9, 2) := by decide +kernel
theorem dL_hangs_532 : decode cL_hangs 532 = .ok (.iinc 10 1, 3) := by decide +kernel
theorem dL_hangs_535 : decode cL_hangs 535 = .ok (.goto (-70), 3) := by decide +kernel
theorem dL_hangs_538 : decode cL_hangs 538 = .ok (.iload 5, 2) := by decide +kernel
theorem dL_hangs_540 : decode cL_hangs 540 = .ok (.ifCond .eq 258, 3) := by decide +kernel
theorem dL_hangs_543 : decode cL_hangs 543 = .ok (.iload 9, 2) := by decide +kernel
theorem dL_hangs_545 : decode cL_hangs 545 = .ok (.iconst 1, 1) := by decide +kernel
theorem dL_hangs_546 : decode cL_hangs 546 = .ok (.iload_n 1, 1) := by decide +kernel
theorem dL_hangs_547 : decode cL_hangs 547 = .ok (.ishl, 1) := by decide +kernel
theorem dL_hangs_548 : decode cL_hangs 548 = .ok (.iconst 1, 1) := by decide +kernel
theorem dL_hangs_549 : decode cL_hangs 549 = .ok (.isub, 1) := by decide +kernel
theorem dL_hangs_550 : decode cL_hangs 550 = .ok (.if_icmp .ne 248, 3) := by decide +kernel
theorem dL_hangs_553 : decode cL_hangs 553 = .ok (.aload_n 0, 1) := by decide +kernel
theorem dL_hangs_554 : decode cL_hangs 554 = .ok (.bipush 6, 2) := by decide +kernel
theorem dL_hangs_556 : decode cL_hangs 556 = .ok (.invokevirtual 9, 3) := by decide +kernel
theorem dL_hangs_559 : decode cL_hangs 559 = .ok (.iconst 1, 1) := by decide +kernel
theorem dL_hangs_560 : decode cL_hangs 560 = .ok (.if_icmp .lt 238, 3) := by decide +kernel
theorem dL_hangs_563 : decode cL_hangs 563 = .ok (.aload_n 0, 1) := by decide +kernel
theorem dL_hangs_564 : decode cL_hangs 564 = .ok (.aload_n 0, 1) := by decide +kernel
theorem dL_hangs_565 : decode cL_hangs 565 = .ok (.bipush 6, 2) := by decide +kernel
theorem dL_hangs_567 : decode cL_hangs 567 = .ok (.invokevirtual 9, 3) := by decide +kernel
theorem dL_hangs_570 : decode cL_hangs 570 = .ok (.invokevirtual 70, 3) := by decide +kernel
theorem dL_hangs_573 : decode cL_hangs 573 = .ok (.bipush (-4), 2) := by decide +kernel
theorem dL_hangs_575 : decode cL_hangs 575 = .ok (.if_icmp .ne 223, 3) := by decide +kernel
theorem dL_hangs_578 : decode cL_hangs 578 = .ok (.aload_n 0, 1) := by decide +kernel
theorem dL_hangs_579 : decode cL_hangs 579 = .ok (.aload_n 0, 1) := by decide +kernel
theorem dL_hangs_580 : decode cL_hangs 580 = .ok (.bipush 6, 2) := by decide +kernel
theorem dL_hangs_582 : decode cL_hangs 582 = .ok (.invokevirtual 9, 3) := by decide +kernel
theorem dL_hangs_585 : decode cL_hangs 585 = .ok (.iconst 1, 1) := by decide +kernel
theorem dL_hangs_586 : decode cL_hangs 586 = .ok (.isub, 1) := by decide +kernel
theorem dL_hangs_587 : decode cL_hangs 587 = .ok (.invokevirtual 70, 3) := by decide +kernel
theorem dL_hangs_590 : decode cL_hangs 590 = .ok (.iload 9, 2) := by decide +kernel
theorem dL_hangs_592 : decode cL_hangs 592 = .ok (.if_icmp .ne 206, 3) := by decide +kernel
theorem dL_hangs_595 : decode cL_hangs 595 = .ok (.aload_n 0, 1) := by decide +kernel
theorem dL_hangs_596 : decode cL_hangs 596 = .ok (.iload 8, 2) := by decide +kernel
theorem dL_hangs_598 : decode cL_hangs 598 = .ok (.invokevirtual 67, 3) := by decide +kernel
theorem dL_hangs_601 : decode cL_hangs 601 = .ok (.iload 9, 2) := by decide +kernel
theorem dL_hangs_603 : decode cL_hangs 603 = .ok (.if_icmp .ne 195, 3) := by decide +kernel
theorem dL_hangs_606 : decode cL_hangs 606 = .ok (.aload_n 0, 1) := by decide +kernel
theorem dL_hangs_607 : decode cL_hangs 607 = .ok (.iconst 1, 1) := by decide +kernel
theorem dL_hangs_608 : decode cL_hangs 608 = .ok (.invokevirtual 9, 3) := by decide +kernel
theorem dL_hangs_611 : decode cL_hangs 611 = .ok (.iload_n 2, 1) := by decide +kernel
theorem dL_hangs_612 : decode cL_hangs 612 = .ok (.if_icmp .ne 186, 3) := by decide +kernel
theorem dL_hangs_615 : decode cL_hangs 615 = .ok (.aload_n 0, 1) := by decide +kernel
theorem dL_hangs_616 : decode cL_hangs 616 = .ok (.iconst 2, 1) := by decide +kernel
theorem dL_hangs_617 : decode cL_hangs 617 = .ok (.invokevirtual 9, 3) := by decide +kernel
theorem dL_hangs_620 : decode cL_hangs 620 = .ok (.iload_n 3, 1) := by decide +kernel
theorem dL_hangs_621 : decode cL_hangs 621 = .ok (.if_icmp .ne 177, 3) := by decide +kernel
theorem dL_hangs_624 : decode cL_hangs 624 = .ok (.aload_n 0, 1) := by decide +kernel
theorem dL_hangs_625 : decode cL_hangs 625 = .ok (.iconst 5, 1) := by decide +kernel
theorem dL_hangs_626 : decode cL_hangs 626 = .ok (.invokevirtual 9, 3) := by decide +kernel
theorem dL_hangs_629 : decode cL_hangs 629 = .ok (.iload 4, 2) := by decide +kernel
theorem dL_hangs_631 : decode cL_hangs 631 = .ok (.if_icmp .ne 167, 3) := by decide +kernel
theorem dL_hangs_634 : decode cL_hangs 634 = .ok (.iload 6, 2) := by decide +kernel
theorem dL_hangs_636 : decode cL_hangs 636 = .ok (.bipush (-4), 2) := by decide +kernel
theorem dL_hangs_638 : decode cL_hangs 638 = .ok (.if_icmp .eq 38, 3) := by decide +kernel
theorem dL_hangs_641 : decode cL_hangs 641 = .ok (.aload_n 0, 1) := by decide +kernel
theorem dL_hangs_642 : decode cL_hangs 642 = .ok (.iload 6, 2) := by decide +kernel
theorem dL_hangs_644 : decode cL_hangs 644 = .ok (.iconst 2, 1) := by decide +kernel
theorem dL_hangs_645 : decode cL_hangs 645 = .ok (.invokevirtual 64, 3) := by decide +kernel
theorem dL_hangs_648 : decode cL_hangs 648 = .ok (.iconst 1, 1) := by decide +kernel
theorem dL_hangs_649 : decode cL_hangs 649 = .ok (.if_icmp .ne 149, 3) := by decide +kernel
theorem dL_hangs_652 : decode cL_hangs 652 = .ok (.aload_n 0, 1) := by decide +kernel
theorem dL_hangs_653 : decode cL_hangs 653 = .ok (.iload 6, 2) := by decide +kernel
theorem dL_hangs_655 : decode cL_hangs 655 = .ok (.bipush 7, 2) := by decide +kernel
theorem dL_hangs_657 : decode cL_hangs 657 = .ok (.invokevirtual 64, 3) := by decide +kernel
theorem dL_hangs_660 : decode cL_hangs 660 = .ok (.iload_n 1, 1) := by decide +kernel
theorem dL_hangs_661 : decode cL_hangs 661 = .ok (.if_icmp .ne 137, 3) := by decide +kernel
theorem dL_hangs_664 : decode cL_hangs 664 = .ok (.aload_n 0, 1) := by decide +kernel
theorem dL_hangs_665 : decode cL_hangs 665 = .ok (.iload 6, 2) := by decide +kernel
theorem dL_hangs_667 : decode cL_hangs 667 = .ok (.bipush 8, 2) := by decide +kernel
theorem dL_hangs_669 : decode cL_hangs 669 = .ok (.invokevirtual 64, 3) := by decide +kernel
theorem dL_hangs_672 : decode cL_hangs 672 = .ok (.iconst 1, 1) := by decide +kernel
theorem dL_hangs_673 : decode cL_hangs 673 = .ok (.if_icmp .ne 125, 3) := by decide +kernel
theorem dL_hangs_676 : decode cL_hangs 676 = .ok (.iload 7, 2) := by decide +kernel
theorem dL_hangs_678 : decode cL_hangs 678 = .ok (.bipush (-4), 2) := by decide +kernel
theorem dL_hangs_680 : decode cL_hangs 680 = .ok (.if_icmp .eq 14, 3) := by decide +kernel
theorem dL_hangs_683 : decode cL_hangs 683 = .ok (.aload_n 0, 1) := by decide +kernel
theorem dL_hangs_684 : decode cL_hangs 684 = .ok (.iload 7, 2) := by decide +kernel
theorem dL_hangs_686 : decode cL_hangs 686 = .ok (.iconst 3, 1) := by decide +kernel
theorem dL_hangs_687 : decode cL_hangs 687 = .ok (.invokevirtual 64, 3) := by decide +kernel
theorem dL_hangs_690 : decode cL_hangs 690 = .ok (.iconst 1, 1) := by decide +kernel
theorem dL_hangs_691 : decode cL_hangs 691 = .ok (.if_icmp .ne 107, 3) := by decide +kernel
theorem dL_hangs_694 : decode cL_hangs 694 = .ok (.iload 6, 2) := by decide +kernel
theorem dL_hangs_696 : decode cL_hangs 696 = .ok (.bipush (-4), 2) := by decide +kernel
theorem dL_hangs_698 : decode cL_hangs 698 = .ok (.if_icmp .eq 17, 3) := by decide +kernel
theorem dL_hangs_701 : decode cL_hangs 701 = .ok (.iload 7, 2) := by decide +kernel
theorem dL_hangs_703 : decode cL_hangs 703 = .ok (.bipush (-4), 2) := by decide +kernel
theorem dL_hangs_705 : decode cL_hangs 705 = .ok (.if_icmp .eq 10, 3) := by decide +kernel
theorem dL_hangs_708 : decode cL_hangs 708 = .ok (.iload 6, 2) := by decide +kernel
theorem dL_hangs_710 : decode cL_hangs 710 = .ok (.iload 7, 2) := by decide +kernel
theorem dL_hangs_712 : decode cL_hangs 712 = .ok (.if_icmp .ne 86, 3) := by decide +kernel
theorem dL_hangs_715 : decode cL_hangs 715 = .ok (.aload_n 0, 1) := by decide +kernel
theorem dL_hangs_716 : decode cL_hangs 716 = .ok (.invokevirtual 73, 3) := by decide +kernel
theorem dL_hangs_719 : decode cL_hangs 719 = .ok (.dconst 0, 1) := by decide +kernel
theorem dL_hangs_720 : decode cL_hangs 720 = .ok (.dcmp .l, 1) := by decide +kernel
theorem dL_hangs_721 : decode cL_hangs 721 = .ok (.ifCond .lt 77, 3) := by decide +kernel
theorem dL_hangs_724 : decode cL_hangs 724 = .ok (.aload_n 0, 1) := by decide +kernel
theorem dL_hangs_725 : decode cL_hangs 725 = .ok (.invokevirtual 73, 3) := by decide +kernel
theorem dL_hangs_728 : decode cL_hangs 728 = .ok (.dconst 1, 1) := by decide +kernel
theorem dL_hangs_729 : decode cL_hangs 729 = .ok (.dcmp .g, 1) := by decide +kernel
theorem dL_hangs_730 : decode cL_hangs 730 = .ok (.ifCond .gt 68, 3) := by decide +kernel
theorem dL_hangs_733 : decode cL_hangs 733 = .ok (.aload_n 0, 1) := by decide +kernel
theorem dL_hangs_734 : decode cL_hangs 734 = .ok (.invokevirtual 73, 3) := by decide +kernel
theorem dL_hangs_737 : decode cL_hangs 737 = .ok (.dconst 0, 1) := by decide +kernel
theorem dL_hangs_738 : decode cL_hangs 738 = .ok (.dcmp .l, 1) := by decide +kernel
theorem dL_hangs_739 : decode cL_hangs 739 = .ok (.ifCond .ne 7, 3) := by decide +kernel
theorem dL_hangs_742 : decode cL_hangs 742 = .ok (.iconst 1, 1) := by decide +kernel
theorem dL_hangs_743 : decode cL_hangs 743 = .ok (.goto 4, 3) := by decide +kernel
theorem dL_hangs_746 : decode cL_hangs 746 = .ok (.iconst 0, 1) := by decide +kernel
theorem dL_hangs_747 : decode cL_hangs 747 = .ok (.iload_n 3, 1) := by decide +kernel
theorem dL_hangs_748 : decode cL_hangs 748 = .ok (.iload_n 1, 1) := by decide +kernel
theorem dL_hangs_749 : decode cL_hangs 749 = .ok (.iload_n 1, 1) := by decide +kernel
theorem dL_hangs_750 : decode cL_hangs 750 = .ok (.imul, 1) := by decide +kernel
theorem dL_hangs_751 : decode cL_hangs 751 = .ok (.iload_n 1, 1) := by decide +kernel
theorem dL_hangs_752 : decode cL_hangs 752 = .ok (.imul, 1) := by decide +kernel
theorem dL_hangs_753 : decode cL_hangs 753 = .ok (.if_icmp .ne 7, 3) := by decide +kernel
theorem dL_hangs_756 : decode cL_hangs 756 = .ok (.iconst 1, 1) := by decide +kernel
theorem dL_hangs_757 : decode cL_hangs 757 = .ok (.goto 4, 3) := by decide +kernel
theorem dL_hangs_760 : decode cL_hangs 760 = .ok (.iconst 0, 1) := by decide +kernel
theorem dL_hangs_761 : decode cL_hangs 761 = .ok (.if_icmp .ne 37, 3) := by decide +kernel
theorem dL_hangs_764 : decode cL_hangs 764 = .ok (.aload_n 0, 1) := by decide +kernel
theorem dL_hangs_765 : decode cL_hangs 765 = .ok (.bipush 9, 2) := by decide +kernel
theorem dL_hangs_767 : decode cL_hangs 767 = .ok (.invokevirtual 9, 3) := by decide +kernel
theorem dL_hangs_770 : decode cL_hangs 770 = .ok (.ifCond .le 7, 3) := by decide +kernel
theorem dL_hangs_773 : decode cL_hangs 773 = .ok (.iconst 1, 1) := by decide +kernel
theorem dL_hangs_774 : decode cL_hangs 774 = .ok (.goto 4, 3) := by decide +kernel
theorem dL_hangs_777 : decode cL_hangs 777 = .ok (.iconst 0, 1) := by decide +kernel
theorem dL_hangs_778 : decode cL_hangs 778 = .ok (.aload_n 0, 1) := by decide +kernel
theorem dL_hangs_779 : decode cL_hangs 779 = .ok (.iconst 4, 1) := by decide +kernel
theorem dL_hangs_780 : decode cL_hangs 780 = .ok (.invokevirtual 54, 3) := by decide +kernel
theorem dL_hangs_783 : decode cL_hangs 783 = .ok (.ifCond .lt 7, 3) := by decide +kernel
theorem dL_hangs_786 : decode cL_hangs 786 = .ok (.iconst 1, 1) := by decide +kernel
theorem dL_hangs_787 : decode cL_hangs 787 = .ok (.goto 4, 3) := by decide +kernel
theorem dL_hangs_790 : decode cL_hangs 790 = .ok (.iconst 0, 1) := by decide +kernel
theorem dL_hangs_791 : decode cL_hangs 791 = .ok (.if_icmp .ne 7, 3) := by decide +kernel
theorem dL_hangs_794 : decode cL_hangs 794 = .ok (.iconst 1, 1) := by decide +kernel
theorem dL_hangs_795 : decode cL_hangs 795 = .ok (.goto 4, 3) := by decide +kernel
theorem dL_hangs_798 : decode cL_hangs 798 = .ok (.iconst 0, 1) := by decide +kernel
theorem dL_hangs_799 : decode cL_hangs 799 = .ok (.ireturn, 1) := by decide +kernel
set_option maxRecDepth 20000 in
theorem ggL_same_X9_count : GoodIn wsL_same wsX9_count := goodIn_r _ [5, 6, 7, 8, 9, 10, 11, 12, 13, 14, 15, 16, 17, 18, 19, 20, 21, 22, 23, 24, 25, 26, 27, 28, 29, 30, 31, 32, 33, 34, 35, 36, 37, 38, 39, 40, 41, 42, 43, 44, 45, 46, 47, 48, 49, 50, 51, 52, 53, 54, 55, 56, 57, 58, 59, 4, 60, 61, 62, 63, 64, 65, 66, 67, 68, 69, 70, 71, 72, 73, 74, 75, 76, 77, 78, 79, 80, 81, 82, 83, 84, 85, 86, 87, 88, 89, 90, 91, 92, 93, 94, 95, 96, 97, 98, 99, 100, 101, 111, 112, 113, 114, 115, 116, 117, 118, 119, 120, 121, 122, 123, 124, 125] rfl (by decide +kernel)
set_option maxRecDepth 20000 in
theorem gL_same_X9_count : GoodIn wsL_same (wsV RL 9 RX9 yX9_count wsX9_count) := goodIn_app (goodIn_of _ (by decide +kernel)) ggL_same_X9_count
set_option maxRecDepth 20000 in
theorem ggL_same_X9_sum : GoodIn wsL_same wsX9_sum := goodIn_r _ [105, 6, 106, 107, 108, 13, 109, 15, 110, 25, 26, 27, 28, 111, 112, 113, 114, 115, 116, 117, 118, 119, 120, 121] rfl (by decide +kernel)
set_option maxRecDepth 20000 in
theorem gL_same_X9_sum : GoodIn wsL_same (wsV RL 41 RX9 yX9_sum wsX9_sum) := goodIn_app (goodIn_of _ (by decide +kernel)) ggL_same_X9_sum
theorem dL_same_0 : decode cL_same 0 = .ok (.aload_n 0, 1) := by decide +kernel
theorem dL_same_1 : decode cL_same 1 = .ok (.iconst 0, 1) := by decide +kernel
theorem dL_same_2 : decode cL_same 2 = .ok (.invokevirtual 9, 3) := by decide +kernel
theorem dL_same_5 : decode cL_same 5 = .ok (.aload_n 1, 1) := by decide +kernel
theorem dL_same_6 : decode cL_same 6 = .ok (.iconst 0, 1) := by decide +kernel
theorem dL_same_7 : decode cL_same 7 = .ok (.invokevirtual 9, 3) := by decide +kernel
theorem dL_same_10 : decode cL_same 10 = .ok (.if_icmp .ne 50, 3) := by decide +kernel
theorem dL_same_13 : decode cL_same 13 = .ok (.aload_n 0, 1) := by decide +kernel
theorem dL_same_14 : decode cL_same 14 = .ok (.iconst 2, 1) := by decide +kernel
theorem dL_same_15 : decode cL_same 15 = .ok (.invokevirtual 9, 3) := by decide +kernel
theorem dL_same_18 : decode cL_same 18 = .ok (.aload_n 1, 1) := by decide +kernel
theorem dL_same_19 : decode cL_same 19 = .ok (.iconst 2, 1) := by decide +kernel
theorem dL_same_20 : decode cL_same 20 = .ok (.invokevirtual 9, 3) := by decide +kernel
theorem dL_same_23 : decode cL_same 23 = .ok (.if_icmp .ne 37, 3) := by decide +kernel
theorem dL_same_26 : decode cL_same 26 = .ok (.aload_n 0, 1) := by decide +kernel
theorem dL_same_27 : decode cL_same 27 = .ok (.bipush 6, 2) := by decide +kernel
theorem dL_same_29 : decode cL_same 29 = .ok (.invokevirtual 9, 3) := by decide +kernel
theorem dL_same_32 : decode cL_same 32 = .ok (.aload_n 1, 1) := by decide +kernel
theorem dL_same_33 : decode cL_same 33 = .ok (.bipush 6, 2) := by decide +kernel
theorem dL_same_35 : decode cL_same 35 = .ok (.invokevirtual 9, 3) := by decide +kernel
theorem dL_same_38 : decode cL_same 38 = .ok (.if_icmp .ne 22, 3) := by decide +kernel
theorem dL_same_41 : decode cL_same 41 = .ok (.aload_n 0, 1) := by decide +kernel
theorem dL_same_42 : decode cL_same 42 = .ok (.bipush 11, 2) := by decide +kernel
theorem dL_same_44 : decode cL_same 44 = .ok (.invokevirtual 9, 3) := by decide +kernel
theorem dL_same_47 : decode cL_same 47 = .ok (.aload_n 1, 1) := by decide +kernel
theorem dL_same_48 : decode cL_same 48 = .ok (.bipush 11, 2) := by decide +kernel
theorem dL_same_50 : decode cL_same 50 = .ok (.invokevirtual 9, 3) := by decide +kernel
theorem dL_same_53 : decode cL_same 53 = .ok (.if_icmp .ne 7, 3) := by decide +kernel
theorem dL_same_56 : decode cL_same 56 = .ok (.iconst 1, 1) := by decide +kernel
theorem dL_same_57 : decode cL_same 57 = .ok (.goto 4, 3) := by decide +kernel
theorem dL_same_60 : decode cL_same 60 = .ok (.iconst 0, 1) := by decide +kernel
theorem dL_same_61 : decode cL_same 61 = .ok (.istore_n 2, 1) := by decide +kernel
theorem dL_same_62 : decode cL_same 62 = .ok (.iconst 0, 1) := by decide +kernel
theorem dL_same_63 : decode cL_same 63 = .ok (.istore_n 3, 1) := by decide +kernel
theorem dL_same_64 : decode cL_same 64 = .ok (.iload_n 3, 1) := by decide +kernel
theorem dL_same_65 : decode cL_same 65 = .ok (.bipush 64, 2) := by decide +kernel
theorem dL_same_67 : decode cL_same 67 = .ok (.if_icmp .ge 46, 3) := by decide +kernel
theorem dL_same_70 : decode cL_same 70 = .ok (.iload_n 2, 1) := by decide +kernel
theorem dL_same_71 : decode cL_same 71 = .ok (.ifCond .eq 42, 3) := by decide +kernel
theorem dL_same_74 : decode cL_same 74 = .ok (.aload_n 0, 1) := by decide +kernel
theorem dL_same_75 : decode cL_same 75 = .ok (.iload_n 3, 1) := by decide +kernel
theorem dL_same_76 : decode cL_same 76 = .ok (.bipush 8, 2) := by decide +kernel
theorem dL_same_78 : decode cL_same 78 = .ok (.idiv, 1) := by decide +kernel
theorem dL_same_79 : decode cL_same 79 = .ok (.iload_n 3, 1) := by decide +kernel
theorem dL_same_80 : decode cL_same 80 = .ok (.bipush 8, 2) := by decide +kernel
theorem dL_same_82 : decode cL_same 82 = .ok (.irem, 1) := by decide +kernel
theorem dL_same_83 : decode cL_same 83 = .ok (.invokevirtual 41, 3) := by decide +kernel
