theorem dL_same_86 : decode cL_same 86 = .ok (.aload_n 1, 1) := by decide +kernel
theorem dL_same_87 : decode cL_same 87 = .ok (.iload_n 3, 1) := by decide +kernel
theorem dL_same_88 : decode cL_same 88 = .ok (.bipush 8, 2) := by decide +kernel
theorem dL_same_90 : decode cL_same 90 = .ok (.idiv, 1) := by decide +kernel
theorem dL_same_91 : decode cL_same 91 = .ok (.iload_n 3, 1) := by decide +kernel
theorem dL_same_92 : decode cL_same 92 = .ok (.bipush 8, 2) := by decide +kernel
theorem dL_same_94 : decode cL_same 94 = .ok (.irem, 1) := by decide +kernel
theorem dL_same_95 : decode cL_same 95 = .ok (.invokevirtual 41, 3) := by decide +kernel
theorem dL_same_98 : decode cL_same 98 = .ok (.if_icmp .ne 7, 3) := by decide +kernel
theorem dL_same_101 : decode cL_same 101 = .ok (.iconst 1, 1) := by decide +kernel
theorem dL_same_102 : decode cL_same 102 = .ok (.goto 4, 3) := by decide +kernel
theorem dL_same_105 : decode cL_same 105 = .ok (.iconst 0, 1) := by decide +kernel
theorem dL_same_106 : decode cL_same 106 = .ok (.istore_n 2, 1) := by decide +kernel
theorem dL_same_107 : decode cL_same 107 = .ok (.iinc 3 1, 3) := by decide +kernel
theorem dL_same_110 : decode cL_same 110 = .ok (.goto (-46), 3) := by decide +kernel
theorem dL_same_113 : decode cL_same 113 = .ok (.iload_n 2, 1) := by decide +kernel
theorem dL_same_114 : decode cL_same 114 = .ok (.ireturn, 1) := by decide +kernel
set_option maxRecDepth 20000 in
theorem ggL_refuses_X9_count : GoodIn wsL_refuses wsX9_count := goodIn_r _ [5, 6, 7, 8, 9, 10, 11, 12, 13, 14, 15, 16, 17, 18, 19, 20, 21, 22, 23, 24, 25, 26, 27, 28, 29, 30, 31, 32, 33, 34, 35, 36, 37, 38, 39, 40, 41, 42, 43, 44, 45, 46, 47, 48, 49, 50, 51, 52, 53, 54, 55, 56, 57, 58, 59, 4, 60, 61, 62, 63, 64, 65, 66, 67, 68, 69, 70, 71, 72, 73, 74, 75, 76, 77, 78, 79, 80, 81, 82, 83, 84, 85, 86, 87, 88, 89, 90, 91, 92, 93, 94, 95, 96, 97, 98, 99, 100, 101, 440, 441, 442, 443, 444, 445, 446, 447, 448, 449, 450, 451, 452, 453, 454] rfl (by decide +kernel)
set_option maxRecDepth 20000 in
theorem gL_refuses_X9_count : GoodIn wsL_refuses (wsV RL 9 RX9 yX9_count wsX9_count) := goodIn_app (goodIn_of _ (by decide +kernel)) ggL_refuses_X9_count
set_option maxRecDepth 20000 in
theorem ggL_refuses_X9_begin : GoodIn wsL_refuses wsX9_begin := goodIn_r _ [105, 9, 6, 106, 107, 4, 108, 109, 110, 111, 112, 113, 114, 99, 115, 101, 116, 117, 118, 119, 120, 121, 122, 123, 124, 125, 126, 127, 13, 128, 15, 28, 129, 130, 131, 132, 133, 134, 135, 136, 137, 138, 139, 140, 29, 30, 18, 31, 20, 11, 12, 14, 32, 33, 34, 24, 25, 26, 27, 440, 441, 442, 443, 444, 445, 446, 447, 448, 453, 454, 449, 450] rfl (by decide +kernel)
set_option maxRecDepth 20000 in
theorem gL_refuses_X9_begin : GoodIn wsL_refuses (wsV RL 15 RX9 yX9_begin wsX9_begin) := goodIn_app (goodIn_of _ (by decide +kernel)) ggL_refuses_X9_begin
set_option maxRecDepth 20000 in
theorem ggL_refuses_X9_rows : GoodIn wsL_refuses wsX9_rows := goodIn_r _ [144, 145, 6, 146, 147, 148, 4, 149, 150, 151, 152, 13, 153, 15, 154, 126, 127, 128, 28, 129, 130, 131, 132, 155, 156, 157, 158, 159, 160, 161, 162, 89, 25, 26, 27, 137, 138, 139, 140, 163, 164, 165, 166, 9, 167, 168, 169, 170, 112, 113, 114, 99, 115, 101, 116, 117, 118, 119, 120, 121, 122, 123, 124, 125, 440, 441, 442, 443, 444, 445, 446, 447, 448, 449, 450, 453, 454] rfl (by decide +kernel)
set_option maxRecDepth 20000 in
theorem gL_refuses_X9_rows : GoodIn wsL_refuses (wsV RL 19 RX9 yX9_rows wsX9_rows) := goodIn_app (goodIn_of _ (by decide +kernel)) ggL_refuses_X9_rows
set_option maxRecDepth 20000 in
theorem ggL_refuses_X9_columns : GoodIn wsL_refuses wsX9_columns := goodIn_r _ [174, 145, 6, 146, 147, 148, 4, 149, 150, 151, 152, 13, 153, 15, 154, 126, 127, 128, 28, 129, 130, 131, 132, 175, 176, 177, 178, 159, 160, 161, 162, 89, 25, 26, 27, 137, 138, 139, 140, 163, 164, 165, 166, 9, 167, 168, 169, 170, 112, 113, 114, 99, 115, 101, 116, 117, 118, 119, 120, 121, 122, 123, 124, 125, 440, 441, 442, 443, 444, 445, 446, 447, 448, 449, 450, 453, 454] rfl (by decide +kernel)
set_option maxRecDepth 20000 in
theorem gL_refuses_X9_columns : GoodIn wsL_refuses (wsV RL 22 RX9 yX9_columns wsX9_columns) := goodIn_app (goodIn_of _ (by decide +kernel)) ggL_refuses_X9_columns
set_option maxRecDepth 20000 in
theorem ggL_refuses_X9_names : GoodIn wsL_refuses wsX9_names := goodIn_r _ [182, 145, 6, 146, 147, 148, 4, 149, 150, 151, 152, 13, 153, 15, 154, 126, 127, 128, 28, 129, 130, 131, 132, 183, 184, 185, 186, 89, 25, 26, 27, 137, 138, 139, 140, 163, 164, 165, 166, 9, 167, 168, 169, 170, 112, 113, 114, 99, 115, 101, 116, 117, 118, 119, 120, 121, 122, 123, 124, 125, 440, 441, 442, 443, 444, 445, 446, 447, 448, 449, 450, 453, 454] rfl (by decide +kernel)
set_option maxRecDepth 20000 in
theorem gL_refuses_X9_names : GoodIn wsL_refuses (wsV RL 25 RX9 yX9_names wsX9_names) := goodIn_app (goodIn_of _ (by decide +kernel)) ggL_refuses_X9_names
set_option maxRecDepth 20000 in
theorem ggL_refuses_X9_swap : GoodIn wsL_refuses wsX9_swap := goodIn_r _ [190, 6, 9, 146, 147, 148, 4, 149, 150, 151, 152, 13, 153, 15, 191, 86, 87, 88, 89, 25, 26, 27, 28, 29, 30, 18, 31, 20, 11, 12, 14, 32, 33, 34, 24, 112, 113, 114, 99, 115, 101, 116, 117, 118, 119, 120, 121, 122, 123, 124, 125, 126, 127, 128, 129, 130, 131, 132, 192, 193, 194, 195, 159, 160, 161, 162, 137, 138, 139, 140, 440, 441, 442, 443, 444, 445, 446, 447, 448, 449, 450, 453, 454] rfl (by decide +kernel)
set_option maxRecDepth 20000 in
theorem gL_refuses_X9_swap : GoodIn wsL_refuses (wsV RL 50 RX9 yX9_swap wsX9_swap) := goodIn_app (goodIn_of _ (by decide +kernel)) ggL_refuses_X9_swap
set_option maxRecDepth 20000 in
theorem ggL_refuses_X9_ifSwapped : GoodIn wsL_refuses wsX9_ifSwapped := goodIn_r _ [199, 6, 145, 146, 147, 148, 4, 149, 150, 151, 152, 13, 153, 15, 106, 107, 108, 191, 86, 87, 88, 89, 25, 26, 27, 28, 154, 126, 127, 128, 129, 130, 131, 132, 192, 193, 194, 195, 159, 160, 161, 162, 137, 138, 139, 140, 16, 17, 18, 19, 20, 11, 12, 14, 21, 22, 23, 24, 29, 30, 31, 32, 33, 34, 44, 45, 46, 47, 48, 49, 50, 51, 52, 53, 54, 55, 56, 57, 58, 59, 60, 61, 440, 441, 442, 443, 444, 445, 446, 447, 448, 449, 450] rfl (by decide +kernel)
set_option maxRecDepth 20000 in
theorem gL_refuses_X9_ifSwapped : GoodIn wsL_refuses (wsV RL 77 RX9 yX9_ifSwapped wsX9_ifSwapped) := goodIn_app (goodIn_of _ (by decide +kernel)) ggL_refuses_X9_ifSwapped
set_option maxRecDepth 20000 in
theorem ggL_refuses_X9_best : GoodIn wsL_refuses wsX9_best := goodIn_r _ [203, 7, 6, 106, 107, 4, 108, 204, 205, 206, 79, 207, 208, 209, 81, 11, 12, 13, 14, 15, 210, 126, 127, 128, 28, 129, 130, 131, 132, 211, 212, 213, 214, 85, 86, 87, 88, 89, 25, 26, 27, 215, 216, 217, 218, 219, 220, 221, 222, 223, 193, 194, 195, 159, 160, 161, 162, 137, 138, 139, 140, 224, 30, 18, 31, 20, 32, 33, 34, 24, 225, 226, 227, 228, 440, 441, 442, 443, 444, 445, 446, 447, 448, 455, 456, 457, 458, 459, 460, 449, 450] rfl (by decide +kernel)
set_option maxRecDepth 20000 in
theorem gL_refuses_X9_best : GoodIn wsL_refuses (wsV RL 54 RX9 yX9_best wsX9_best) := goodIn_app (goodIn_of _ (by decide +kernel)) ggL_refuses_X9_best
set_option maxRecDepth 20000 in
theorem ggL_refuses_X9_append : GoodIn wsL_refuses wsX9_append := goodIn_r _ [232, 8, 106, 107, 4, 108, 233, 234, 235, 93, 236, 95, 237, 90, 91, 92, 94, 440, 441, 442, 443, 444, 445, 446, 447, 448, 451, 452] rfl (by decide +kernel)
set_option maxRecDepth 20000 in
theorem gL_refuses_X9_append : GoodIn wsL_refuses (wsV RL 44 RX9 yX9_append wsX9_append) := goodIn_app (goodIn_of _ (by decide +kernel)) ggL_refuses_X9_append
set_option maxRecDepth 20000 in
theorem ggL_refuses_X9_fault : GoodIn wsL_refuses wsX9_fault := goodIn_r _ [241, 145, 8, 6, 242, 243, 10, 11, 12, 13, 14, 15, 244, 245, 246, 247, 248, 249, 250, 93, 251, 95, 237, 252, 253, 254, 255, 256, 257, 151, 152, 153, 258, 259, 260, 261, 89, 25, 26, 27, 28, 137, 138, 139, 140, 131, 4, 132, 262, 91, 92, 94, 263, 264, 265, 266, 267, 268, 269, 270, 271, 272, 273, 274, 275, 276, 277, 278, 279, 280, 281, 282, 283, 284, 285, 286, 287, 288, 129, 130, 289, 290, 291, 292, 293, 294, 295, 296, 297, 298, 299, 300, 301, 302, 303, 440, 441, 442, 443, 444, 445, 446, 447, 448, 449, 450, 451, 452, 461, 462, 463, 464, 465, 466, 467, 468, 469, 470, 471, 472] rfl (by decide +kernel)
set_option maxRecDepth 20000 in
theorem gL_refuses_X9_fault : GoodIn wsL_refuses (wsV RL 81 RX9 yX9_fault wsX9_fault) := goodIn_app (goodIn_of _ (by decide +kernel)) ggL_refuses_X9_fault
set_option maxRecDepth 20000 in
theorem ggL_refuses_X9_step : GoodIn wsL_refuses wsX9_step := goodIn_r _ [307, 242, 8, 6, 106, 107, 4, 108, 263, 264, 265, 266, 267, 268, 269, 270, 271, 131, 132, 272, 91, 92, 93, 94, 95, 273, 274, 275, 276, 277, 249, 250, 251, 237, 278, 253, 254, 255, 256, 279, 151, 152, 13, 153, 15, 280, 281, 282, 283, 284, 285, 286, 287, 288, 129, 130, 289, 25, 26, 27, 28, 290, 291, 292, 293, 308, 309, 310, 311, 440, 441, 442, 443, 444, 445, 446, 447, 448, 461, 462, 463, 464, 465, 466, 467, 468, 469, 451, 452, 449, 450] rfl (by decide +kernel)
set_option maxRecDepth 20000 in
theorem gL_refuses_X9_step : GoodIn wsL_refuses (wsV RL 84 RX9 yX9_step wsX9_step) := goodIn_app (goodIn_of _ (by decide +kernel)) ggL_refuses_X9_step
set_option maxRecDepth 20000 in
theorem ggL_refuses_X9_sum : GoodIn wsL_refuses wsX9_sum := goodIn_r _ [315, 6, 150, 151, 152, 13, 153, 15, 316, 25, 26, 27, 28, 440, 441, 442, 443, 444, 445, 446, 447, 448, 449, 450] rfl (by decide +kernel)
set_option maxRecDepth 20000 in
theorem gL_refuses_X9_sum : GoodIn wsL_refuses (wsV RL 41 RX9 yX9_sum wsX9_sum) := goodIn_app (goodIn_of _ (by decide +kernel)) ggL_refuses_X9_sum
set_option maxRecDepth 20000 in
theorem ggL_refuses_X9_between : GoodIn wsL_refuses wsX9_between := goodIn_r _ [320, 6, 150, 151, 152, 13, 153, 15, 321, 322, 323, 324, 325, 11, 12, 14, 326, 327, 328, 329, 25, 26, 27, 28, 440, 441, 442, 443, 444, 445, 446, 447, 448, 449, 450] rfl (by decide +kernel)
set_option maxRecDepth 20000 in
theorem gL_refuses_X9_between : GoodIn wsL_refuses (wsV RL 57 RX9 yX9_between wsX9_between) := goodIn_app (goodIn_of _ (by decide +kernel)) ggL_refuses_X9_between
set_option maxRecDepth 20000 in
theorem ggL_refuses_X9_returns : GoodIn wsL_refuses wsX9_returns := goodIn_r _ [333, 6, 150, 151, 152, 13, 153, 15, 334, 335, 323, 336, 326, 327, 328, 329, 25, 26, 27, 28, 440, 441, 442, 443, 444, 445, 446, 447, 448, 449, 450] rfl (by decide +kernel)
set_option maxRecDepth 20000 in
theorem gL_refuses_X9_returns : GoodIn wsL_refuses (wsV RL 61 RX9 yX9_returns wsX9_returns) := goodIn_app (goodIn_of _ (by decide +kernel)) ggL_refuses_X9_returns
set_option maxRecDepth 20000 in
theorem ggL_refuses_X9_token : GoodIn wsL_refuses wsX9_token := goodIn_r _ [340, 6, 150, 151, 152, 13, 153, 15, 341, 22, 18, 23, 20, 11, 12, 14, 24, 25, 26, 27, 28, 342, 33, 34, 343, 39, 40, 344, 73, 46, 74, 55, 56, 57, 58, 59, 4, 60, 61, 75, 66, 67, 68, 69, 70, 71, 316, 345, 346, 323, 347, 325, 348, 349, 350, 329, 351, 352, 353, 354, 355, 356, 357, 335, 336, 326, 327, 328, 440, 441, 442, 443, 444, 445, 446, 447, 448, 449, 450] rfl (by decide +kernel)
set_option maxRecDepth 20000 in
theorem gL_refuses_X9_token : GoodIn wsL_refuses (wsV RL 64 RX9 yX9_token wsX9_token) := goodIn_app (goodIn_of _ (by decide +kernel)) ggL_refuses_X9_token
set_option maxRecDepth 20000 in
theorem ggL_refuses_X9_ring : GoodIn wsL_refuses wsX9_ring := goodIn_r _ [361, 6, 362, 49, 50, 13, 51, 15, 106, 107, 4, 108, 344, 73, 46, 74, 55, 56, 57, 58, 11, 12, 14, 59, 60, 61, 25, 26, 27, 28, 440, 441, 442, 443, 444, 445, 446, 447, 448, 449, 450] rfl (by decide +kernel)
set_option maxRecDepth 20000 in
theorem gL_refuses_X9_ring : GoodIn wsL_refuses (wsV RL 67 RX9 yX9_ring wsX9_ring) := goodIn_app (goodIn_of _ (by decide +kernel)) ggL_refuses_X9_ring
set_option maxRecDepth 20000 in
theorem ggL_refuses_X9_ringAt : GoodIn wsL_refuses wsX9_ringAt := goodIn_r _ [366, 6, 367, 368, 46, 369, 48, 49, 50, 13, 51, 15, 52, 53, 54, 55, 56, 57, 58, 11, 12, 14, 59, 4, 60, 61, 25, 26, 27, 28, 440, 441, 442, 443, 444, 445, 446, 447, 448, 449, 450] rfl (by decide +kernel)
set_option maxRecDepth 20000 in
theorem gL_refuses_X9_ringAt : GoodIn wsL_refuses (wsV RL 70 RX9 yX9_ringAt wsX9_ringAt) := goodIn_app (goodIn_of _ (by decide +kernel)) ggL_refuses_X9_ringAt
set_option maxRecDepth 20000 in
theorem ggL_refuses_X9_ways : GoodIn wsL_refuses wsX9_ways := goodIn_r _ [373, 6, 243, 8, 150, 151, 152, 13, 153, 15, 106, 107, 4, 108, 294, 295, 296, 297, 298, 299, 300, 301, 91, 92, 93, 94, 95, 302, 253, 254, 255, 256, 249, 250, 251, 237, 303, 131, 132, 374, 375, 376, 377, 378, 379, 380, 381, 382, 129, 130, 383, 384, 385, 386, 387, 388, 389, 390, 391, 392, 393, 394, 395, 396, 397, 398, 11, 12, 14, 399, 25, 26, 27, 28, 400, 401, 402, 403, 404, 405, 406, 407, 440, 441, 442, 443, 444, 445, 446, 447, 448, 449, 450, 470, 471, 472, 451, 452] rfl (by decide +kernel)
set_option maxRecDepth 20000 in
theorem gL_refuses_X9_ways : GoodIn wsL_refuses (wsV RL 87 RX9 yX9_ways wsX9_ways) := goodIn_app (goodIn_of _ (by decide +kernel)) ggL_refuses_X9_ways
set_option maxRecDepth 20000 in
theorem ggL_refuses_X9_sums : GoodIn wsL_refuses wsX9_sums := goodIn_r _ [411, 243, 8, 6, 106, 107, 4, 108, 294, 295, 296, 297, 298, 299, 300, 301, 91, 92, 93, 94, 95, 302, 253, 254, 255, 256, 249, 250, 251, 237, 303, 151, 152, 13, 153, 15, 131, 132, 412, 413, 414, 415, 378, 379, 380, 381, 382, 129, 130, 383, 384, 385, 386, 387, 388, 389, 390, 391, 392, 393, 394, 395, 396, 397, 398, 11, 12, 14, 399, 25, 26, 27, 28, 416, 417, 418, 419, 420, 421, 422, 423, 424, 425, 426, 427, 440, 441, 442, 443, 444, 445, 446, 447, 448, 470, 471, 472, 451, 452, 449, 450] rfl (by decide +kernel)
set_option maxRecDepth 20000 in
theorem gL_refuses_X9_sums : GoodIn wsL_refuses (wsV RL 90 RX9 yX9_sums wsX9_sums) := goodIn_app (goodIn_of _ (by decide +kernel)) ggL_refuses_X9_sums
set_option maxRecDepth 20000 in
theorem ggL_refuses_X9_cut : GoodIn wsL_refuses wsX9_cut := goodIn_r _ [431, 6, 243, 8, 150, 151, 152, 13, 153, 15, 294, 295, 296, 297, 298, 299, 300, 301, 91, 92, 93, 94, 95, 302, 253, 254, 255, 256, 249, 250, 251, 237, 303, 131, 4, 132, 432, 433, 434, 435, 378, 379, 380, 381, 382, 129, 130, 383, 384, 385, 386, 387, 388, 389, 390, 391, 392, 393, 394, 395, 396, 397, 398, 11, 12, 14, 399, 25, 26, 27, 28, 436, 437, 438, 439, 440, 441, 442, 443, 444, 445, 446, 447, 448, 449, 450, 470, 471, 472, 451, 452] rfl (by decide +kernel)
set_option maxRecDepth 20000 in
theorem gL_refuses_X9_cut : GoodIn wsL_refuses (wsV RL 93 RX9 yX9_cut wsX9_cut) := goodIn_app (goodIn_of _ (by decide +kernel)) ggL_refuses_X9_cut
theorem dL_refuses_0 : decode cL_refuses 0 = .ok (.aload_n 0, 1) := by decide +kernel
theorem dL_refuses_1 : decode cL_refuses 1 = .ok (.iconst 0, 1) := by decide +kernel
theorem dL_refuses_2 : decode cL_refuses 2 = .ok (.invokevirtual 9, 3) := by decide +kernel
theorem dL_refuses_5 : decode cL_refuses 5 = .ok (.istore_n 2, 1) := by decide +kernel
theorem dL_refuses_6 : decode cL_refuses 6 = .ok (.iload_n 1, 1) := by decide +kernel
theorem dL_refuses_7 : decode cL_refuses 7 = .ok (.iconst 2, 1) := by decide +kernel
theorem dL_refuses_8 : decode cL_refuses 8 = .ok (.irem, 1) := by decide +kernel
theorem dL_refuses_9 : decode cL_refuses 9 = .ok (.ifCond .ne 9, 3) := by decide +kernel
theorem dL_refuses_12 : decode cL_refuses 12 = .ok (.iload_n 2, 1) := by decide +kernel
theorem dL_refuses_13 : decode cL_refuses 13 = .ok (.iload_n 1, 1) := by decide +kernel
theorem dL_refuses_14 : decode cL_refuses 14 = .ok (.iadd, 1) := by decide +kernel
theorem dL_refuses_15 : decode cL_refuses 15 = .ok (.goto 6, 3) := by decide +kernel
theorem dL_refuses_18 : decode cL_refuses 18 = .ok (.iconst (-1), 1) := by decide +kernel
theorem dL_refuses_19 : decode cL_refuses 19 = .ok (.iload_n 1, 1) := by decide +kernel
theorem dL_refuses_20 : decode cL_refuses 20 = .ok (.isub, 1) := by decide +kernel
theorem dL_refuses_21 : decode cL_refuses 21 = .ok (.istore_n 3, 1) := by decide +kernel
theorem dL_refuses_22 : decode cL_refuses 22 = .ok (.aload_n 0, 1) := by decide +kernel
theorem dL_refuses_23 : decode cL_refuses 23 = .ok (.iconst 1, 1) := by decide +kernel
theorem dL_refuses_24 : decode cL_refuses 24 = .ok (.iconst 1, 1) := by decide +kernel
theorem dL_refuses_25 : decode cL_refuses 25 = .ok (.invokevirtual 15, 3) := by decide +kernel
theorem dL_refuses_28 : decode cL_refuses 28 = .ok (.iconst (-1), 1) := by decide +kernel
theorem dL_refuses_29 : decode cL_refuses 29 = .ok (.if_icmp .ne 254, 3) := by decide +kernel
theorem dL_refuses_32 : decode cL_refuses 32 = .ok (.aload_n 0, 1) := by decide +kernel
theorem dL_refuses_33 : decode cL_refuses 33 = .ok (.bipush 9, 2) := by decide +kernel
theorem dL_refuses_35 : decode cL_refuses 35 = .ok (.iload_n 1, 1) := by decide +kernel
theorem dL_refuses_36 : decode cL_refuses 36 = .ok (.iadd, 1) := by decide +kernel
theorem dL_refuses_37 : decode cL_refuses 37 = .ok (.iconst 1, 1) := by decide +kernel
theorem dL_refuses_38 : decode cL_refuses 38 = .ok (.invokevirtual 15, 3) := by decide +kernel
theorem dL_refuses_41 : decode cL_refuses 41 = .ok (.iconst (-1), 1) := by decide +kernel
theorem dL_refuses_42 : decode cL_refuses 42 = .ok (.if_icmp .ne 241, 3) := by decide +kernel
theorem dL_refuses_45 : decode cL_refuses 45 = .ok (.aload_n 0, 1) := by decide +kernel
theorem dL_refuses_46 : decode cL_refuses 46 = .ok (.iconst 4, 1) := by decide +kernel
theorem dL_refuses_47 : decode cL_refuses 47 = .ok (.iconst 2, 1) := by decide +kernel
theorem dL_refuses_48 : decode cL_refuses 48 = .ok (.invokevirtual 15, 3) := by decide +kernel
theorem dL_refuses_51 : decode cL_refuses 51 = .ok (.iconst (-1), 1) := by decide +kernel
theorem dL_refuses_52 : decode cL_refuses 52 = .ok (.if_icmp .ne 231, 3) := by decide +kernel
theorem dL_refuses_55 : decode cL_refuses 55 = .ok (.aload_n 0, 1) := by decide +kernel
theorem dL_refuses_56 : decode cL_refuses 56 = .ok (.bipush 6, 2) := by decide +kernel
theorem dL_refuses_58 : decode cL_refuses 58 = .ok (.iconst 3, 1) := by decide +kernel
theorem dL_refuses_59 : decode cL_refuses 59 = .ok (.invokevirtual 15, 3) := by decide +kernel
theorem dL_refuses_62 : decode cL_refuses 62 = .ok (.iconst (-1), 1) := by decide +kernel
theorem dL_refuses_63 : decode cL_refuses 63 = .ok (.if_icmp .ne 220, 3) := by decide +kernel
theorem dL_refuses_66 : decode cL_refuses 66 = .ok (.aload_n 0, 1) := by decide +kernel
theorem dL_refuses_67 : decode cL_refuses 67 = .ok (.iconst 5, 1) := by decide +kernel
theorem dL_refuses_68 : decode cL_refuses 68 = .ok (.bipush 8, 2) := by decide +kernel
theorem dL_refuses_70 : decode cL_refuses 70 = .ok (.iload_n 1, 1) := by decide +kernel
theorem dL_refuses_71 : decode cL_refuses 71 = .ok (.iadd, 1) := by decide +kernel
theorem dL_refuses_72 : decode cL_refuses 72 = .ok (.invokevirtual 15, 3) := by decide +kernel
theorem dL_refuses_75 : decode cL_refuses 75 = .ok (.iconst (-1), 1) := by decide +kernel
theorem dL_refuses_76 : decode cL_refuses 76 = .ok (.if_icmp .ne 207, 3) := by decide +kernel
theorem dL_refuses_79 : decode cL_refuses 79 = .ok (.aload_n 0, 1) := by decide +kernel
theorem dL_refuses_80 : decode cL_refuses 80 = .ok (.iconst 5, 1) := by decide +kernel
theorem dL_refuses_81 : decode cL_refuses 81 = .ok (.iconst 0, 1) := by decide +kernel
theorem dL_refuses_82 : decode cL_refuses 82 = .ok (.invokevirtual 15, 3) := by decide +kernel
theorem dL_refuses_85 : decode cL_refuses 85 = .ok (.iconst (-1), 1) := by decide +kernel
theorem dL_refuses_86 : decode cL_refuses 86 = .ok (.if_icmp .ne 197, 3) := by decide +kernel
theorem dL_refuses_89 : decode cL_refuses 89 = .ok (.aload_n 0, 1) := by decide +kernel
theorem dL_refuses_90 : decode cL_refuses 90 = .ok (.iconst 0, 1) := by decide +kernel
theorem dL_refuses_91 : decode cL_refuses 91 = .ok (.iconst 0, 1) := by decide +kernel
theorem dL_refuses_92 : decode cL_refuses 92 = .ok (.invokevirtual 19, 3) := by decide +kernel
theorem dL_refuses_95 : decode cL_refuses 95 = .ok (.iconst (-1), 1) := by decide +kernel
theorem dL_refuses_96 : decode cL_refuses 96 = .ok (.if_icmp .ne 187, 3) := by decide +kernel
theorem dL_refuses_99 : decode cL_refuses 99 = .ok (.aload_n 0, 1) := by decide +kernel
theorem dL_refuses_100 : decode cL_refuses 100 = .ok (.iload_n 3, 1) := by decide +kernel
theorem dL_refuses_101 : decode cL_refuses 101 = .ok (.iconst 0, 1) := by decide +kernel
theorem dL_refuses_102 : decode cL_refuses 102 = .ok (.invokevirtual 19, 3) := by decide +kernel
theorem dL_refuses_105 : decode cL_refuses 105 = .ok (.iconst (-1), 1) := by decide +kernel
theorem dL_refuses_106 : decode cL_refuses 106 = .ok (.if_icmp .ne 177, 3) := by decide +kernel
theorem dL_refuses_109 : decode cL_refuses 109 = .ok (.aload_n 0, 1) := by decide +kernel
theorem dL_refuses_110 : decode cL_refuses 110 = .ok (.iconst 0, 1) := by decide +kernel
theorem dL_refuses_111 : decode cL_refuses 111 = .ok (.iload_n 3, 1) := by decide +kernel
theorem dL_refuses_112 : decode cL_refuses 112 = .ok (.invokevirtual 19, 3) := by decide +kernel
theorem dL_refuses_115 : decode cL_refuses 115 = .ok (.iconst (-1), 1) := by decide +kernel
theorem dL_refuses_116 : decode cL_refuses 116 = .ok (.if_icmp .ne 167, 3) := by decide +kernel
theorem dL_refuses_119 : decode cL_refuses 119 = .ok (.aload_n 0, 1) := by decide +kernel
theorem dL_refuses_120 : decode cL_refuses 120 = .ok (.iconst 1, 1) := by decide +kernel
theorem dL_refuses_121 : decode cL_refuses 121 = .ok (.iconst 1, 1) := by decide +kernel
theorem dL_refuses_122 : decode cL_refuses 122 = .ok (.invokevirtual 22, 3) := by decide +kernel
theorem dL_refuses_125 : decode cL_refuses 125 = .ok (.iconst (-1), 1) := by decide +kernel
theorem dL_refuses_126 : decode cL_refuses 126 = .ok (.if_icmp .ne 157, 3) := by decide +kernel
theorem dL_refuses_129 : decode cL_refuses 129 = .ok (.aload_n 0, 1) := by decide +kernel
theorem dL_refuses_130 : decode cL_refuses 130 = .ok (.iload_n 3, 1) := by decide +kernel
theorem dL_refuses_131 : decode cL_refuses 131 = .ok (.iconst 0, 1) := by decide +kernel
theorem dL_refuses_132 : decode cL_refuses 132 = .ok (.invokevirtual 22, 3) := by decide +kernel
theorem dL_refuses_135 : decode cL_refuses 135 = .ok (.iconst (-1), 1) := by decide +kernel
theorem dL_refuses_136 : decode cL_refuses 136 = .ok (.if_icmp .ne 147, 3) := by decide +kernel
theorem dL_refuses_139 : decode cL_refuses 139 = .ok (.aload_n 0, 1) := by decide +kernel
theorem dL_refuses_140 : decode cL_refuses 140 = .ok (.iconst 1, 1) := by decide +kernel
theorem dL_refuses_141 : decode cL_refuses 141 = .ok (.iconst 1, 1) := by decide +kernel
theorem dL_refuses_142 : decode cL_refuses 142 = .ok (.invokevirtual 25, 3) := by decide +kernel
theorem dL_refuses_145 : decode cL_refuses 145 = .ok (.iconst (-1), 1) := by decide +kernel
theorem dL_refuses_146 : decode cL_refuses 146 = .ok (.if_icmp .ne 137, 3) := by decide +kernel
theorem dL_refuses_149 : decode cL_refuses 149 = .ok (.aload_n 0, 1) := by decide +kernel
theorem dL_refuses_150 : decode cL_refuses 150 = .ok (.iconst 0, 1) := by decide +kernel
theorem dL_refuses_151 : decode cL_refuses 151 = .ok (.iload_n 3, 1) := by decide +kernel
theorem dL_refuses_152 : decode cL_refuses 152 = .ok (.invokevirtual 25, 3) := by decide +kernel
theorem dL_refuses_155 : decode cL_refuses 155 = .ok (.iconst (-1), 1) := by decide +kernel
theorem dL_refuses_156 : decode cL_refuses 156 = .ok (.if_icmp .ne 127, 3) := by decide +kernel
theorem dL_refuses_159 : decode cL_refuses 159 = .ok (.aload_n 0, 1) := by decide +kernel
theorem dL_refuses_160 : decode cL_refuses 160 = .ok (.iconst 0, 1) := by decide +kernel
theorem dL_refuses_161 : decode cL_refuses 161 = .ok (.iconst 0, 1) := by decide +kernel
theorem dL_refuses_162 : decode cL_refuses 162 = .ok (.iconst 0, 1) := by decide +kernel
theorem dL_refuses_163 : decode cL_refuses 163 = .ok (.iconst 1, 1) := by decide +kernel
theorem dL_refuses_164 : decode cL_refuses 164 = .ok (.invokevirtual 50, 3) := by decide +kernel
theorem dL_refuses_167 : decode cL_refuses 167 = .ok (.iconst (-1), 1) := by decide +kernel
theorem dL_refuses_168 : decode cL_refuses 168 = .ok (.if_icmp .ne 115, 3) := by decide +kernel
theorem dL_refuses_171 : decode cL_refuses 171 = .ok (.aload_n 0, 1) := by decide +kernel
theorem dL_refuses_172 : decode cL_refuses 172 = .ok (.iconst 0, 1) := by decide +kernel
theorem dL_refuses_173 : decode cL_refuses 173 = .ok (.iconst 1, 1) := by decide +kernel
theorem dL_refuses_174 : decode cL_refuses 174 = .ok (.iconst 1, 1) := by decide +kernel
theorem dL_refuses_175 : decode cL_refuses 175 = .ok (.iconst 1, 1) := by decide +kernel
theorem dL_refuses_176 : decode cL_refuses 176 = .ok (.invokevirtual 50, 3) := by decide +kernel
theorem dL_refuses_179 : decode cL_refuses 179 = .ok (.iconst (-1), 1) := by decide +kernel
theorem dL_refuses_180 : decode cL_refuses 180 = .ok (.if_icmp .ne 103, 3) := by decide +kernel
theorem dL_refuses_183 : decode cL_refuses 183 = .ok (.aload_n 0, 1) := by decide +kernel
theorem dL_refuses_184 : decode cL_refuses 184 = .ok (.iload_n 3, 1) := by decide +kernel
theorem dL_refuses_185 : decode cL_refuses 185 = .ok (.iconst 0, 1) := by decide +kernel
theorem dL_refuses_186 : decode cL_refuses 186 = .ok (.iconst 0, 1) := by decide +kernel
theorem dL_refuses_187 : decode cL_refuses 187 = .ok (.iconst 1, 1) := by decide +kernel
theorem dL_refuses_188 : decode cL_refuses 188 = .ok (.invokevirtual 50, 3) := by decide +kernel
theorem dL_refuses_191 : decode cL_refuses 191 = .ok (.iconst (-1), 1) := by decide +kernel
theorem dL_refuses_192 : decode cL_refuses 192 = .ok (.if_icmp .ne 91, 3) := by decide +kernel
theorem dL_refuses_195 : decode cL_refuses 195 = .ok (.aload_n 0, 1) := by decide +kernel
theorem dL_refuses_196 : decode cL_refuses 196 = .ok (.iconst 0, 1) := by decide +kernel
theorem dL_refuses_197 : decode cL_refuses 197 = .ok (.iconst 1, 1) := by decide +kernel
theorem dL_refuses_198 : decode cL_refuses 198 = .ok (.iconst 0, 1) := by decide +kernel
theorem dL_refuses_199 : decode cL_refuses 199 = .ok (.iload_n 3, 1) := by decide +kernel
theorem dL_refuses_200 : decode cL_refuses 200 = .ok (.invokevirtual 50, 3) := by decide +kernel
theorem dL_refuses_203 : decode cL_refuses 203 = .ok (.iconst (-1), 1) := by decide +kernel
theorem dL_refuses_204 : decode cL_refuses 204 = .ok (.if_icmp .ne 79, 3) := by decide +kernel
theorem dL_refuses_207 : decode cL_refuses 207 = .ok (.aload_n 0, 1) := by decide +kernel
theorem dL_refuses_208 : decode cL_refuses 208 = .ok (.iconst 0, 1) := by decide +kernel
theorem dL_refuses_209 : decode cL_refuses 209 = .ok (.iconst 1, 1) := by decide +kernel
theorem dL_refuses_210 : decode cL_refuses 210 = .ok (.iload_n 3, 1) := by decide +kernel
theorem dL_refuses_211 : decode cL_refuses 211 = .ok (.iconst 0, 1) := by decide +kernel
theorem dL_refuses_212 : decode cL_refuses 212 = .ok (.iconst 0, 1) := by decide +kernel
theorem dL_refuses_213 : decode cL_refuses 213 = .ok (.invokevirtual 77, 3) := by decide +kernel
theorem dL_refuses_216 : decode cL_refuses 216 = .ok (.iconst (-1), 1) := by decide +kernel
theorem dL_refuses_217 : decode cL_refuses 217 = .ok (.if_icmp .ne 66, 3) := by decide +kernel
theorem dL_refuses_220 : decode cL_refuses 220 = .ok (.aload_n 0, 1) := by decide +kernel
theorem dL_refuses_221 : decode cL_refuses 221 = .ok (.iconst 0, 1) := by decide +kernel
theorem dL_refuses_222 : decode cL_refuses 222 = .ok (.iconst 1, 1) := by decide +kernel
theorem dL_refuses_223 : decode cL_refuses 223 = .ok (.iconst 0, 1) := by decide +kernel
theorem dL_refuses_224 : decode cL_refuses 224 = .ok (.iconst 1, 1) := by decide +kernel
theorem dL_refuses_225 : decode cL_refuses 225 = .ok (.iconst 3, 1) := by decide +kernel
theorem dL_refuses_226 : decode cL_refuses 226 = .ok (.iload_n 1, 1) := by decide +kernel
theorem dL_refuses_227 : decode cL_refuses 227 = .ok (.iadd, 1) := by decide +kernel
theorem dL_refuses_228 : decode cL_refuses 228 = .ok (.invokevirtual 77, 3) := by decide +kernel
theorem dL_refuses_231 : decode cL_refuses 231 = .ok (.iconst (-1), 1) := by decide +kernel
theorem dL_refuses_232 : decode cL_refuses 232 = .ok (.if_icmp .ne 51, 3) := by decide +kernel
theorem dL_refuses_235 : decode cL_refuses 235 = .ok (.aload_n 0, 1) := by decide +kernel
theorem dL_refuses_236 : decode cL_refuses 236 = .ok (.iconst 5, 1) := by decide +kernel
theorem dL_refuses_237 : decode cL_refuses 237 = .ok (.iload_n 1, 1) := by decide +kernel
theorem dL_refuses_238 : decode cL_refuses 238 = .ok (.iadd, 1) := by decide +kernel
theorem dL_refuses_239 : decode cL_refuses 239 = .ok (.invokevirtual 54, 3) := by decide +kernel
theorem dL_refuses_242 : decode cL_refuses 242 = .ok (.iconst (-1), 1) := by decide +kernel
theorem dL_refuses_243 : decode cL_refuses 243 = .ok (.if_icmp .ne 40, 3) := by decide +kernel
theorem dL_refuses_246 : decode cL_refuses 246 = .ok (.aload_n 0, 1) := by decide +kernel
theorem dL_refuses_247 : decode cL_refuses 247 = .ok (.iconst (-1), 1) := by decide +kernel
theorem dL_refuses_248 : decode cL_refuses 248 = .ok (.invokevirtual 54, 3) := by decide +kernel
theorem dL_refuses_251 : decode cL_refuses 251 = .ok (.iconst (-1), 1) := by decide +kernel
theorem dL_refuses_252 : decode cL_refuses 252 = .ok (.if_icmp .ne 31, 3) := by decide +kernel
theorem dL_refuses_255 : decode cL_refuses 255 = .ok (.aload_n 0, 1) := by decide +kernel
theorem dL_refuses_256 : decode cL_refuses 256 = .ok (.bipush 32, 2) := by decide +kernel
theorem dL_refuses_258 : decode cL_refuses 258 = .ok (.iload_n 1, 1) := by decide +kernel
theorem dL_refuses_259 : decode cL_refuses 259 = .ok (.isub, 1) := by decide +kernel
theorem dL_refuses_260 : decode cL_refuses 260 = .ok (.invokevirtual 44, 3) := by decide +kernel
theorem dL_refuses_263 : decode cL_refuses 263 = .ok (.iconst (-1), 1) := by decide +kernel
theorem dL_refuses_264 : decode cL_refuses 264 = .ok (.if_icmp .ne 19, 3) := by decide +kernel
theorem dL_refuses_267 : decode cL_refuses 267 = .ok (.aload_n 0, 1) := by decide +kernel
theorem dL_refuses_268 : decode cL_refuses 268 = .ok (.bipush 127, 2) := by decide +kernel
theorem dL_refuses_270 : decode cL_refuses 270 = .ok (.iload_n 1, 1) := by decide +kernel
theorem dL_refuses_271 : decode cL_refuses 271 = .ok (.iadd, 1) := by decide +kernel
theorem dL_refuses_272 : decode cL_refuses 272 = .ok (.invokevirtual 44, 3) := by decide +kernel
theorem dL_refuses_275 : decode cL_refuses 275 = .ok (.iconst (-1), 1) := by decide +kernel
theorem dL_refuses_276 : decode cL_refuses 276 = .ok (.if_icmp .ne 7, 3) := by decide +kernel
theorem dL_refuses_279 : decode cL_refuses 279 = .ok (.iconst 1, 1) := by decide +kernel
theorem dL_refuses_280 : decode cL_refuses 280 = .ok (.goto 4, 3) := by decide +kernel
theorem dL_refuses_283 : decode cL_refuses 283 = .ok (.iconst 0, 1) := by decide +kernel
theorem dL_refuses_284 : decode cL_refuses 284 = .ok (.istore 4, 2) := by decide +kernel
theorem dL_refuses_286 : decode cL_refuses 286 = .ok (.iload 4, 2) := by decide +kernel
theorem dL_refuses_288 : decode cL_refuses 288 = .ok (.ifCond .eq 232, 3) := by decide +kernel
theorem dL_refuses_291 : decode cL_refuses 291 = .ok (.aload_n 0, 1) := by decide +kernel
theorem dL_refuses_292 : decode cL_refuses 292 = .ok (.iconst 3, 1) := by decide +kernel
theorem dL_refuses_293 : decode cL_refuses 293 = .ok (.iload_n 1, 1) := by decide +kernel
theorem dL_refuses_294 : decode cL_refuses 294 = .ok (.iadd, 1) := by decide +kernel
theorem dL_refuses_295 : decode cL_refuses 295 = .ok (.invokevirtual 81, 3) := by decide +kernel
theorem dL_refuses_298 : decode cL_refuses 298 = .ok (.iconst (-1), 1) := by decide +kernel
theorem dL_refuses_299 : decode cL_refuses 299 = .ok (.if_icmp .ne 221, 3) := by decide +kernel
theorem dL_refuses_302 : decode cL_refuses 302 = .ok (.aload_n 0, 1) := by decide +kernel
theorem dL_refuses_303 : decode cL_refuses 303 = .ok (.iconst (-1), 1) := by decide +kernel
theorem dL_refuses_304 : decode cL_refuses 304 = .ok (.invokevirtual 81, 3) := by decide +kernel
theorem dL_refuses_307 : decode cL_refuses 307 = .ok (.iconst (-1), 1) := by decide +kernel
theorem dL_refuses_308 : decode cL_refuses 308 = .ok (.if_icmp .ne 212, 3) := by decide +kernel
theorem dL_refuses_311 : decode cL_refuses 311 = .ok (.aload_n 0, 1) := by decide +kernel
theorem dL_refuses_312 : decode cL_refuses 312 = .ok (.iconst (-1), 1) := by decide +kernel
theorem dL_refuses_313 : decode cL_refuses 313 = .ok (.iload_n 1, 1) := by decide +kernel
theorem dL_refuses_314 : decode cL_refuses 314 = .ok (.isub, 1) := by decide +kernel
theorem dL_refuses_315 : decode cL_refuses 315 = .ok (.iconst 0, 1) := by decide +kernel
theorem dL_refuses_316 : decode cL_refuses 316 = .ok (.invokevirtual 84, 3) := by decide +kernel
theorem dL_refuses_319 : decode cL_refuses 319 = .ok (.iconst (-1), 1) := by decide +kernel
theorem dL_refuses_320 : decode cL_refuses 320 = .ok (.if_icmp .ne 200, 3) := by decide +kernel
theorem dL_refuses_323 : decode cL_refuses 323 = .ok (.aload_n 0, 1) := by decide +kernel
theorem dL_refuses_324 : decode cL_refuses 324 = .ok (.iconst 0, 1) := by decide +kernel
theorem dL_refuses_325 : decode cL_refuses 325 = .ok (.iconst 4, 1) := by decide +kernel
theorem dL_refuses_326 : decode cL_refuses 326 = .ok (.iload_n 1, 1) := by decide +kernel
theorem dL_refuses_327 : decode cL_refuses 327 = .ok (.iadd, 1) := by decide +kernel
theorem dL_refuses_328 : decode cL_refuses 328 = .ok (.invokevirtual 84, 3) := by decide +kernel
theorem dL_refuses_331 : decode cL_refuses 331 = .ok (.iconst (-1), 1) := by decide +kernel
theorem dL_refuses_332 : decode cL_refuses 332 = .ok (.if_icmp .ne 188, 3) := by decide +kernel
theorem dL_refuses_335 : decode cL_refuses 335 = .ok (.aload_n 0, 1) := by decide +kernel
theorem dL_refuses_336 : decode cL_refuses 336 = .ok (.iload_n 3, 1) := by decide +kernel
theorem dL_refuses_337 : decode cL_refuses 337 = .ok (.iconst 0, 1) := by decide +kernel
theorem dL_refuses_338 : decode cL_refuses 338 = .ok (.invokevirtual 41, 3) := by decide +kernel
theorem dL_refuses_341 : decode cL_refuses 341 = .ok (.iconst (-1), 1) := by decide +kernel
theorem dL_refuses_342 : decode cL_refuses 342 = .ok (.if_icmp .ne 178, 3) := by decide +kernel
theorem dL_refuses_345 : decode cL_refuses 345 = .ok (.aload_n 0, 1) := by decide +kernel
theorem dL_refuses_346 : decode cL_refuses 346 = .ok (.iconst 0, 1) := by decide +kernel
theorem dL_refuses_347 : decode cL_refuses 347 = .ok (.iload_n 3, 1) := by decide +kernel
theorem dL_refuses_348 : decode cL_refuses 348 = .ok (.invokevirtual 41, 3) := by decide +kernel
theorem dL_refuses_351 : decode cL_refuses 351 = .ok (.iconst (-1), 1) := by decide +kernel
theorem dL_refuses_352 : decode cL_refuses 352 = .ok (.if_icmp .ne 168, 3) := by decide +kernel
theorem dL_refuses_355 : decode cL_refuses 355 = .ok (.aload_n 0, 1) := by decide +kernel
theorem dL_refuses_356 : decode cL_refuses 356 = .ok (.iload_n 3, 1) := by decide +kernel
theorem dL_refuses_357 : decode cL_refuses 357 = .ok (.iconst 0, 1) := by decide +kernel
theorem dL_refuses_358 : decode cL_refuses 358 = .ok (.iconst 1, 1) := by decide +kernel
theorem dL_refuses_359 : decode cL_refuses 359 = .ok (.invokevirtual 57, 3) := by decide +kernel
theorem dL_refuses_362 : decode cL_refuses 362 = .ok (.iconst (-1), 1) := by decide +kernel
theorem dL_refuses_363 : decode cL_refuses 363 = .ok (.if_icmp .ne 157, 3) := by decide +kernel
theorem dL_refuses_366 : decode cL_refuses 366 = .ok (.aload_n 0, 1) := by decide +kernel
theorem dL_refuses_367 : decode cL_refuses 367 = .ok (.iconst 0, 1) := by decide +kernel
theorem dL_refuses_368 : decode cL_refuses 368 = .ok (.iload_n 3, 1) := by decide +kernel
theorem dL_refuses_369 : decode cL_refuses 369 = .ok (.iconst 0, 1) := by decide +kernel
theorem dL_refuses_370 : decode cL_refuses 370 = .ok (.invokevirtual 57, 3) := by decide +kernel
theorem dL_refuses_373 : decode cL_refuses 373 = .ok (.iconst (-1), 1) := by decide +kernel
theorem dL_refuses_374 : decode cL_refuses 374 = .ok (.if_icmp .ne 146, 3) := by decide +kernel
theorem dL_refuses_377 : decode cL_refuses 377 = .ok (.aload_n 0, 1) := by decide +kernel
theorem dL_refuses_378 : decode cL_refuses 378 = .ok (.iload_n 3, 1) := by decide +kernel
theorem dL_refuses_379 : decode cL_refuses 379 = .ok (.iconst 0, 1) := by decide +kernel
theorem dL_refuses_380 : decode cL_refuses 380 = .ok (.iconst 1, 1) := by decide +kernel
theorem dL_refuses_381 : decode cL_refuses 381 = .ok (.invokevirtual 61, 3) := by decide +kernel
theorem dL_refuses_384 : decode cL_refuses 384 = .ok (.iconst (-1), 1) := by decide +kernel
theorem dL_refuses_385 : decode cL_refuses 385 = .ok (.if_icmp .ne 135, 3) := by decide +kernel
theorem dL_refuses_388 : decode cL_refuses 388 = .ok (.aload_n 0, 1) := by decide +kernel
theorem dL_refuses_389 : decode cL_refuses 389 = .ok (.iconst 0, 1) := by decide +kernel
theorem dL_refuses_390 : decode cL_refuses 390 = .ok (.iload_n 3, 1) := by decide +kernel
theorem dL_refuses_391 : decode cL_refuses 391 = .ok (.iconst 0, 1) := by decide +kernel
theorem dL_refuses_392 : decode cL_refuses 392 = .ok (.invokevirtual 61, 3) := by decide +kernel
theorem dL_refuses_395 : decode cL_refuses 395 = .ok (.iconst (-1), 1) := by decide +kernel
theorem dL_refuses_396 : decode cL_refuses 396 = .ok (.if_icmp .ne 124, 3) := by decide +kernel
theorem dL_refuses_399 : decode cL_refuses 399 = .ok (.aload_n 0, 1) := by decide +kernel
theorem dL_refuses_400 : decode cL_refuses 400 = .ok (.iload_n 3, 1) := by decide +kernel
theorem dL_refuses_401 : decode cL_refuses 401 = .ok (.iconst 0, 1) := by decide +kernel
theorem dL_refuses_402 : decode cL_refuses 402 = .ok (.invokevirtual 64, 3) := by decide +kernel
theorem dL_refuses_405 : decode cL_refuses 405 = .ok (.iconst (-1), 1) := by decide +kernel
theorem dL_refuses_406 : decode cL_refuses 406 = .ok (.if_icmp .ne 114, 3) := by decide +kernel
theorem dL_refuses_409 : decode cL_refuses 409 = .ok (.aload_n 0, 1) := by decide +kernel
theorem dL_refuses_410 : decode cL_refuses 410 = .ok (.iconst 0, 1) := by decide +kernel
theorem dL_refuses_411 : decode cL_refuses 411 = .ok (.invokevirtual 67, 3) := by decide +kernel
theorem dL_refuses_414 : decode cL_refuses 414 = .ok (.iconst (-1), 1) := by decide +kernel
theorem dL_refuses_415 : decode cL_refuses 415 = .ok (.if_icmp .ne 105, 3) := by decide +kernel
theorem dL_refuses_418 : decode cL_refuses 418 = .ok (.aload_n 0, 1) := by decide +kernel
theorem dL_refuses_419 : decode cL_refuses 419 = .ok (.iconst 1, 1) := by decide +kernel
theorem dL_refuses_420 : decode cL_refuses 420 = .ok (.iload_n 2, 1) := by decide +kernel
theorem dL_refuses_421 : decode cL_refuses 421 = .ok (.ishl, 1) := by decide +kernel
theorem dL_refuses_422 : decode cL_refuses 422 = .ok (.invokevirtual 67, 3) := by decide +kernel
theorem dL_refuses_425 : decode cL_refuses 425 = .ok (.iconst (-1), 1) := by decide +kernel
theorem dL_refuses_426 : decode cL_refuses 426 = .ok (.if_icmp .ne 94, 3) := by decide +kernel
theorem dL_refuses_429 : decode cL_refuses 429 = .ok (.aload_n 0, 1) := by decide +kernel
theorem dL_refuses_430 : decode cL_refuses 430 = .ok (.iconst (-1), 1) := by decide +kernel
theorem dL_refuses_431 : decode cL_refuses 431 = .ok (.iload_n 1, 1) := by decide +kernel
theorem dL_refuses_432 : decode cL_refuses 432 = .ok (.isub, 1) := by decide +kernel
theorem dL_refuses_433 : decode cL_refuses 433 = .ok (.invokevirtual 67, 3) := by decide +kernel
theorem dL_refuses_436 : decode cL_refuses 436 = .ok (.iconst (-1), 1) := by decide +kernel
theorem dL_refuses_437 : decode cL_refuses 437 = .ok (.if_icmp .ne 83, 3) := by decide +kernel
theorem dL_refuses_440 : decode cL_refuses 440 = .ok (.aload_n 0, 1) := by decide +kernel
theorem dL_refuses_441 : decode cL_refuses 441 = .ok (.iconst (-1), 1) := by decide +kernel
theorem dL_refuses_442 : decode cL_refuses 442 = .ok (.iload_n 1, 1) := by decide +kernel
theorem dL_refuses_443 : decode cL_refuses 443 = .ok (.isub, 1) := by decide +kernel
theorem dL_refuses_444 : decode cL_refuses 444 = .ok (.invokevirtual 70, 3) := by decide +kernel
theorem dL_refuses_447 : decode cL_refuses 447 = .ok (.iconst (-1), 1) := by decide +kernel
theorem dL_refuses_448 : decode cL_refuses 448 = .ok (.if_icmp .ne 72, 3) := by decide +kernel
theorem dL_refuses_451 : decode cL_refuses 451 = .ok (.aload_n 0, 1) := by decide +kernel
theorem dL_refuses_452 : decode cL_refuses 452 = .ok (.bipush 12, 2) := by decide +kernel
theorem dL_refuses_454 : decode cL_refuses 454 = .ok (.iload_n 1, 1) := by decide +kernel
theorem dL_refuses_455 : decode cL_refuses 455 = .ok (.iadd, 1) := by decide +kernel
theorem dL_refuses_456 : decode cL_refuses 456 = .ok (.invokevirtual 9, 3) := by decide +kernel
theorem dL_refuses_459 : decode cL_refuses 459 = .ok (.iconst (-1), 1) := by decide +kernel
theorem dL_refuses_460 : decode cL_refuses 460 = .ok (.if_icmp .ne 60, 3) := by decide +kernel
theorem dL_refuses_463 : decode cL_refuses 463 = .ok (.aload_n 0, 1) := by decide +kernel
theorem dL_refuses_464 : decode cL_refuses 464 = .ok (.iconst (-1), 1) := by decide +kernel
theorem dL_refuses_465 : decode cL_refuses 465 = .ok (.iload_n 1, 1) := by decide +kernel
theorem dL_refuses_466 : decode cL_refuses 466 = .ok (.isub, 1) := by decide +kernel
theorem dL_refuses_467 : decode cL_refuses 467 = .ok (.invokevirtual 9, 3) := by decide +kernel
theorem dL_refuses_470 : decode cL_refuses 470 = .ok (.iconst (-1), 1) := by decide +kernel
theorem dL_refuses_471 : decode cL_refuses 471 = .ok (.if_icmp .ne 49, 3) := by decide +kernel
theorem dL_refuses_474 : decode cL_refuses 474 = .ok (.aload_n 0, 1) := by decide +kernel
theorem dL_refuses_475 : decode cL_refuses 475 = .ok (.iload_n 3, 1) := by decide +kernel
theorem dL_refuses_476 : decode cL_refuses 476 = .ok (.iconst 0, 1) := by decide +kernel
theorem dL_refuses_477 : decode cL_refuses 477 = .ok (.invokevirtual 87, 3) := by decide +kernel
theorem dL_refuses_480 : decode cL_refuses 480 = .ok (.iconst (-1), 1) := by decide +kernel
theorem dL_refuses_481 : decode cL_refuses 481 = .ok (.if_icmp .ne 39, 3) := by decide +kernel
theorem dL_refuses_484 : decode cL_refuses 484 = .ok (.aload_n 0, 1) := by decide +kernel
theorem dL_refuses_485 : decode cL_refuses 485 = .ok (.iconst 0, 1) := by decide +kernel
theorem dL_refuses_486 : decode cL_refuses 486 = .ok (.iconst 2, 1) := by decide +kernel
theorem dL_refuses_487 : decode cL_refuses 487 = .ok (.iload_n 1, 1) := by decide +kernel
theorem dL_refuses_488 : decode cL_refuses 488 = .ok (.iadd, 1) := by decide +kernel
theorem dL_refuses_489 : decode cL_refuses 489 = .ok (.invokevirtual 87, 3) := by decide +kernel
theorem dL_refuses_492 : decode cL_refuses 492 = .ok (.iconst (-1), 1) := by decide +kernel
theorem dL_refuses_493 : decode cL_refuses 493 = .ok (.if_icmp .ne 27, 3) := by decide +kernel
theorem dL_refuses_496 : decode cL_refuses 496 = .ok (.aload_n 0, 1) := by decide +kernel
theorem dL_refuses_497 : decode cL_refuses 497 = .ok (.iconst 4, 1) := by decide +kernel
theorem dL_refuses_498 : decode cL_refuses 498 = .ok (.iload_n 1, 1) := by decide +kernel
theorem dL_refuses_499 : decode cL_refuses 499 = .ok (.iadd, 1) := by decide +kernel
theorem dL_refuses_500 : decode cL_refuses 500 = .ok (.invokevirtual 90, 3) := by decide +kernel
theorem dL_refuses_503 : decode cL_refuses 503 = .ok (.iconst (-1), 1) := by decide +kernel
theorem dL_refuses_504 : decode cL_refuses 504 = .ok (.if_icmp .ne 16, 3) := by decide +kernel
theorem dL_refuses_507 : decode cL_refuses 507 = .ok (.aload_n 0, 1) := by decide +kernel
theorem dL_refuses_508 : decode cL_refuses 508 = .ok (.iload_n 3, 1) := by decide +kernel
theorem dL_refuses_509 : decode cL_refuses 509 = .ok (.invokevirtual 93, 3) := by decide +kernel
theorem dL_refuses_512 : decode cL_refuses 512 = .ok (.iconst (-1), 1) := by decide +kernel
theorem dL_refuses_513 : decode cL_refuses 513 = .ok (.if_icmp .ne 7, 3) := by decide +kernel
theorem dL_refuses_516 : decode cL_refuses 516 = .ok (.iconst 1, 1) := by decide +kernel
theorem dL_refuses_517 : decode cL_refuses 517 = .ok (.goto 4, 3) := by decide +kernel
theorem dL_refuses_520 : decode cL_refuses 520 = .ok (.iconst 0, 1) := by decide +kernel
theorem dL_refuses_521 : decode cL_refuses 521 = .ok (.ireturn, 1) := by decide +kernel
set_option maxRecDepth 20000 in
theorem ggL_isBack_X9_count : GoodIn wsL_isBack wsX9_count := goodIn_r _ [5, 6, 7, 8, 9, 10, 11, 12, 13, 14, 15, 16, 17, 18, 19, 20, 21, 22, 23, 24, 25, 26, 27, 28, 29, 30, 31, 32, 33, 34, 35, 36, 37, 38, 39, 40, 41, 42, 43, 44, 45, 46, 47, 48, 49, 50, 51, 52, 53, 54, 55, 56, 57, 58, 59, 4, 60, 61, 62, 63, 64, 65, 66, 67, 68, 69, 70, 71, 72, 73, 74, 75, 76, 77, 78, 79, 80, 81, 82, 83, 84, 85, 86, 87, 88, 89, 90, 91, 92, 93, 94, 95, 96, 97, 98, 99, 100, 101, 227, 228, 229, 230, 231, 232, 233, 234, 235, 236, 237, 238, 239, 240, 241] rfl (by decide +kernel)
set_option maxRecDepth 20000 in
theorem gL_isBack_X9_count : GoodIn wsL_isBack (wsV RL 9 RX9 yX9_count wsX9_count) := goodIn_app (goodIn_of _ (by decide +kernel)) ggL_isBack_X9_count
set_option maxRecDepth 20000 in
theorem ggL_isBack_X9_rows : GoodIn wsL_isBack wsX9_rows := goodIn_r _ [105, 106, 6, 107, 108, 109, 4, 110, 111, 112, 113, 13, 114, 15, 115, 116, 117, 118, 28, 119, 120, 121, 122, 123, 124, 125, 126, 127, 128, 129, 130, 89, 25, 26, 27, 131, 132, 133, 134, 135, 136, 137, 138, 9, 139, 140, 141, 142, 143, 144, 145, 99, 146, 101, 147, 148, 149, 150, 151, 152, 153, 154, 155, 156, 227, 228, 229, 230, 231, 232, 233, 234, 235, 236, 237, 240, 241] rfl (by decide +kernel)
set_option maxRecDepth 20000 in
theorem gL_isBack_X9_rows : GoodIn wsL_isBack (wsV RL 19 RX9 yX9_rows wsX9_rows) := goodIn_app (goodIn_of _ (by decide +kernel)) ggL_isBack_X9_rows
set_option maxRecDepth 20000 in
theorem ggL_isBack_X9_undo : GoodIn wsL_isBack wsX9_undo := goodIn_r _ [160, 9, 6, 161, 162, 163, 99, 164, 101, 152, 153, 154, 155, 151, 156, 116, 117, 13, 118, 15, 28, 119, 4, 120, 121, 122, 96, 97, 98, 100, 227, 228, 229, 230, 231, 232, 233, 234, 235, 240, 241, 236, 237] rfl (by decide +kernel)
set_option maxRecDepth 20000 in
theorem gL_isBack_X9_undo : GoodIn wsL_isBack (wsV RL 28 RX9 yX9_undo wsX9_undo) := goodIn_app (goodIn_of _ (by decide +kernel)) ggL_isBack_X9_undo
set_option maxRecDepth 20000 in
theorem ggL_isBack_X9_columns : GoodIn wsL_isBack wsX9_columns := goodIn_r _ [168, 106, 6, 107, 108, 109, 4, 110, 111, 112, 113, 13, 114, 15, 115, 116, 117, 118, 28, 119, 120, 121, 122, 169, 170, 171, 172, 127, 128, 129, 130, 89, 25, 26, 27, 131, 132, 133, 134, 135, 136, 137, 138, 9, 139, 140, 141, 142, 143, 144, 145, 99, 146, 101, 147, 148, 149, 150, 151, 152, 153, 154, 155, 156, 227, 228, 229, 230, 231, 232, 233, 234, 235, 236, 237, 240, 241] rfl (by decide +kernel)
set_option maxRecDepth 20000 in
theorem gL_isBack_X9_columns : GoodIn wsL_isBack (wsV RL 22 RX9 yX9_columns wsX9_columns) := goodIn_app (goodIn_of _ (by decide +kernel)) ggL_isBack_X9_columns
set_option maxRecDepth 20000 in
theorem ggL_isBack_X9_names : GoodIn wsL_isBack wsX9_names := goodIn_r _ [176, 106, 6, 107, 108, 109, 4, 110, 111, 112, 113, 13, 114, 15, 115, 116, 117, 118, 28, 119, 120, 121, 122, 177, 178, 179, 180, 89, 25, 26, 27, 131, 132, 133, 134, 135, 136, 137, 138, 9, 139, 140, 141, 142, 143, 144, 145, 99, 146, 101, 147, 148, 149, 150, 151, 152, 153, 154, 155, 156, 227, 228, 229, 230, 231, 232, 233, 234, 235, 236, 237, 240, 241] rfl (by decide +kernel)
set_option maxRecDepth 20000 in
theorem gL_isBack_X9_names : GoodIn wsL_isBack (wsV RL 25 RX9 yX9_names wsX9_names) := goodIn_app (goodIn_of _ (by decide +kernel)) ggL_isBack_X9_names
set_option maxRecDepth 20000 in
theorem ggL_isBack_X9_best : GoodIn wsL_isBack wsX9_best := goodIn_r _ [184, 7, 6, 185, 186, 4, 187, 188, 189, 190, 79, 191, 192, 193, 81, 11, 12, 13, 14, 15, 194, 116, 117, 118, 28, 119, 120, 121, 122, 195, 196, 197, 198, 85, 86, 87, 88, 89, 25, 26, 27, 199, 200, 201, 202, 203, 204, 205, 206, 207, 208, 209, 210, 127, 128, 129, 130, 131, 132, 133, 134, 211, 30, 18, 31, 20, 32, 33, 34, 24, 212, 213, 214, 215, 227, 228, 229, 230, 231, 232, 233, 234, 235, 242, 243, 244, 245, 246, 247, 236, 237] rfl (by decide +kernel)
set_option maxRecDepth 20000 in
theorem gL_isBack_X9_best : GoodIn wsL_isBack (wsV RL 54 RX9 yX9_best wsX9_best) := goodIn_app (goodIn_of _ (by decide +kernel)) ggL_isBack_X9_best
set_option maxRecDepth 20000 in
theorem ggL_isBack_X9_swap : GoodIn wsL_isBack wsX9_swap := goodIn_r _ [219, 6, 9, 107, 108, 109, 4, 110, 111, 112, 113, 13, 114, 15, 220, 86, 87, 88, 89, 25, 26, 27, 28, 29, 30, 18, 31, 20, 11, 12, 14, 32, 33, 34, 24, 143, 144, 145, 99, 146, 101, 147, 148, 149, 150, 151, 152, 153, 154, 155, 156, 116, 117, 118, 119, 120, 121, 122, 221, 208, 209, 210, 127, 128, 129, 130, 131, 132, 133, 134, 227, 228, 229, 230, 231, 232, 233, 234, 235, 236, 237, 240, 241] rfl (by decide +kernel)
set_option maxRecDepth 20000 in
theorem gL_isBack_X9_swap : GoodIn wsL_isBack (wsV RL 50 RX9 yX9_swap wsX9_swap) := goodIn_app (goodIn_of _ (by decide +kernel)) ggL_isBack_X9_swap
set_option maxRecDepth 20000 in
theorem ggL_isBack_X9_sum : GoodIn wsL_isBack wsX9_sum := goodIn_r _ [225, 6, 111, 112, 113, 13, 114, 15, 226, 25, 26, 27, 28, 227, 228, 229, 230, 231, 232, 233, 234, 235, 236, 237] rfl (by decide +kernel)
set_option maxRecDepth 20000 in
theorem gL_isBack_X9_sum : GoodIn wsL_isBack (wsV RL 41 RX9 yX9_sum wsX9_sum) := goodIn_app (goodIn_of _ (by decide +kernel)) ggL_isBack_X9_sum
theorem dL_isBack_0 : decode cL_isBack 0 = .ok (.aload_n 0, 1) := by decide +kernel
theorem dL_isBack_1 : decode cL_isBack 1 = .ok (.iconst 0, 1) := by decide +kernel
theorem dL_isBack_2 : decode cL_isBack 2 = .ok (.invokevirtual 9, 3) := by decide +kernel
theorem dL_isBack_5 : decode cL_isBack 5 = .ok (.istore_n 3, 1) := by decide +kernel
theorem dL_isBack_6 : decode cL_isBack 6 = .ok (.iload_n 2, 1) := by decide +kernel
theorem dL_isBack_7 : decode cL_isBack 7 = .ok (.iload_n 3, 1) := by decide +kernel
theorem dL_isBack_8 : decode cL_isBack 8 = .ok (.irem, 1) := by decide +kernel
theorem dL_isBack_9 : decode cL_isBack 9 = .ok (.istore 4, 2) := by decide +kernel
theorem dL_isBack_11 : decode cL_isBack 11 = .ok (.iload 4, 2) := by decide +kernel
theorem dL_isBack_13 : decode cL_isBack 13 = .ok (.iconst 1, 1) := by decide +kernel
theorem dL_isBack_14 : decode cL_isBack 14 = .ok (.iadd, 1) := by decide +kernel
theorem dL_isBack_15 : decode cL_isBack 15 = .ok (.iload_n 2, 1) := by decide +kernel
theorem dL_isBack_16 : decode cL_isBack 16 = .ok (.bipush 8, 2) := by decide +kernel
theorem dL_isBack_18 : decode cL_isBack 18 = .ok (.idiv, 1) := by decide +kernel
theorem dL_isBack_19 : decode cL_isBack 19 = .ok (.iload_n 3, 1) := by decide +kernel
theorem dL_isBack_20 : decode cL_isBack 20 = .ok (.iconst 1, 1) := by decide +kernel
theorem dL_isBack_21 : decode cL_isBack 21 = .ok (.isub, 1) := by decide +kernel
theorem dL_isBack_22 : decode cL_isBack 22 = .ok (.irem, 1) := by decide +kernel
theorem dL_isBack_23 : decode cL_isBack 23 = .ok (.iadd, 1) := by decide +kernel
theorem dL_isBack_24 : decode cL_isBack 24 = .ok (.iload_n 3, 1) := by decide +kernel
theorem dL_isBack_25 : decode cL_isBack 25 = .ok (.irem, 1) := by decide +kernel
theorem dL_isBack_26 : decode cL_isBack 26 = .ok (.istore 5, 2) := by decide +kernel
theorem dL_isBack_28 : decode cL_isBack 28 = .ok (.aload_n 0, 1) := by decide +kernel
theorem dL_isBack_29 : decode cL_isBack 29 = .ok (.iload 4, 2) := by decide +kernel
theorem dL_isBack_31 : decode cL_isBack 31 = .ok (.iload 5, 2) := by decide +kernel
theorem dL_isBack_33 : decode cL_isBack 33 = .ok (.invokevirtual 19, 3) := by decide +kernel
theorem dL_isBack_36 : decode cL_isBack 36 = .ok (.iconst 2, 1) := by decide +kernel
theorem dL_isBack_37 : decode cL_isBack 37 = .ok (.iload_n 3, 1) := by decide +kernel
theorem dL_isBack_38 : decode cL_isBack 38 = .ok (.imul, 1) := by decide +kernel
theorem dL_isBack_39 : decode cL_isBack 39 = .ok (.if_icmp .ne 74, 3) := by decide +kernel
theorem dL_isBack_42 : decode cL_isBack 42 = .ok (.aload_n 0, 1) := by decide +kernel
theorem dL_isBack_43 : decode cL_isBack 43 = .ok (.iload 5, 2) := by decide +kernel
theorem dL_isBack_45 : decode cL_isBack 45 = .ok (.iload 4, 2) := by decide +kernel
theorem dL_isBack_47 : decode cL_isBack 47 = .ok (.invokevirtual 19, 3) := by decide +kernel
theorem dL_isBack_50 : decode cL_isBack 50 = .ok (.iconst 2, 1) := by decide +kernel
theorem dL_isBack_51 : decode cL_isBack 51 = .ok (.iload_n 3, 1) := by decide +kernel
theorem dL_isBack_52 : decode cL_isBack 52 = .ok (.imul, 1) := by decide +kernel
theorem dL_isBack_53 : decode cL_isBack 53 = .ok (.if_icmp .ne 60, 3) := by decide +kernel
theorem dL_isBack_56 : decode cL_isBack 56 = .ok (.aload_n 0, 1) := by decide +kernel
theorem dL_isBack_57 : decode cL_isBack 57 = .ok (.invokevirtual 28, 3) := by decide +kernel
theorem dL_isBack_60 : decode cL_isBack 60 = .ok (.ifCond .lt 53, 3) := by decide +kernel
theorem dL_isBack_63 : decode cL_isBack 63 = .ok (.aload_n 0, 1) := by decide +kernel
theorem dL_isBack_64 : decode cL_isBack 64 = .ok (.invokevirtual 28, 3) := by decide +kernel
theorem dL_isBack_67 : decode cL_isBack 67 = .ok (.ifCond .lt 46, 3) := by decide +kernel
theorem dL_isBack_70 : decode cL_isBack 70 = .ok (.aload_n 0, 1) := by decide +kernel
theorem dL_isBack_71 : decode cL_isBack 71 = .ok (.iload 4, 2) := by decide +kernel
theorem dL_isBack_73 : decode cL_isBack 73 = .ok (.iload 5, 2) := by decide +kernel
theorem dL_isBack_75 : decode cL_isBack 75 = .ok (.invokevirtual 22, 3) := by decide +kernel
theorem dL_isBack_78 : decode cL_isBack 78 = .ok (.iconst 2, 1) := by decide +kernel
theorem dL_isBack_79 : decode cL_isBack 79 = .ok (.iload_n 3, 1) := by decide +kernel
theorem dL_isBack_80 : decode cL_isBack 80 = .ok (.imul, 1) := by decide +kernel
theorem dL_isBack_81 : decode cL_isBack 81 = .ok (.if_icmp .ne 32, 3) := by decide +kernel
theorem dL_isBack_84 : decode cL_isBack 84 = .ok (.aload_n 0, 1) := by decide +kernel
theorem dL_isBack_85 : decode cL_isBack 85 = .ok (.iload 4, 2) := by decide +kernel
theorem dL_isBack_87 : decode cL_isBack 87 = .ok (.iload 5, 2) := by decide +kernel
theorem dL_isBack_89 : decode cL_isBack 89 = .ok (.invokevirtual 25, 3) := by decide +kernel
theorem dL_isBack_92 : decode cL_isBack 92 = .ok (.ifCond .le 21, 3) := by decide +kernel
theorem dL_isBack_95 : decode cL_isBack 95 = .ok (.aload_n 0, 1) := by decide +kernel
theorem dL_isBack_96 : decode cL_isBack 96 = .ok (.invokevirtual 28, 3) := by decide +kernel
theorem dL_isBack_99 : decode cL_isBack 99 = .ok (.ifCond .lt 14, 3) := by decide +kernel
theorem dL_isBack_102 : decode cL_isBack 102 = .ok (.aload_n 0, 1) := by decide +kernel
theorem dL_isBack_103 : decode cL_isBack 103 = .ok (.invokevirtual 28, 3) := by decide +kernel
theorem dL_isBack_106 : decode cL_isBack 106 = .ok (.ifCond .lt 7, 3) := by decide +kernel
theorem dL_isBack_109 : decode cL_isBack 109 = .ok (.iconst 1, 1) := by decide +kernel
theorem dL_isBack_110 : decode cL_isBack 110 = .ok (.goto 4, 3) := by decide +kernel
theorem dL_isBack_113 : decode cL_isBack 113 = .ok (.iconst 0, 1) := by decide +kernel
theorem dL_isBack_114 : decode cL_isBack 114 = .ok (.istore 6, 2) := by decide +kernel
theorem dL_isBack_116 : decode cL_isBack 116 = .ok (.aload_n 0, 1) := by decide +kernel
theorem dL_isBack_117 : decode cL_isBack 117 = .ok (.iconst 0, 1) := by decide +kernel
theorem dL_isBack_118 : decode cL_isBack 118 = .ok (.invokevirtual 54, 3) := by decide +kernel
theorem dL_isBack_121 : decode cL_isBack 121 = .ok (.istore 7, 2) := by decide +kernel
theorem dL_isBack_123 : decode cL_isBack 123 = .ok (.iload 6, 2) := by decide +kernel
theorem dL_isBack_125 : decode cL_isBack 125 = .ok (.ifCond .eq 122, 3) := by decide +kernel
theorem dL_isBack_128 : decode cL_isBack 128 = .ok (.iload 7, 2) := by decide +kernel
theorem dL_isBack_130 : decode cL_isBack 130 = .ok (.ifCond .lt 117, 3) := by decide +kernel
theorem dL_isBack_133 : decode cL_isBack 133 = .ok (.aload_n 0, 1) := by decide +kernel
theorem dL_isBack_134 : decode cL_isBack 134 = .ok (.iconst 1, 1) := by decide +kernel
theorem dL_isBack_135 : decode cL_isBack 135 = .ok (.invokevirtual 54, 3) := by decide +kernel
theorem dL_isBack_138 : decode cL_isBack 138 = .ok (.istore 8, 2) := by decide +kernel
theorem dL_isBack_140 : decode cL_isBack 140 = .ok (.aload_n 0, 1) := by decide +kernel
theorem dL_isBack_141 : decode cL_isBack 141 = .ok (.iconst 2, 1) := by decide +kernel
theorem dL_isBack_142 : decode cL_isBack 142 = .ok (.invokevirtual 54, 3) := by decide +kernel
theorem dL_isBack_145 : decode cL_isBack 145 = .ok (.istore 9, 2) := by decide +kernel
theorem dL_isBack_147 : decode cL_isBack 147 = .ok (.aload_n 0, 1) := by decide +kernel
theorem dL_isBack_148 : decode cL_isBack 148 = .ok (.iconst 3, 1) := by decide +kernel
theorem dL_isBack_149 : decode cL_isBack 149 = .ok (.invokevirtual 54, 3) := by decide +kernel
theorem dL_isBack_152 : decode cL_isBack 152 = .ok (.istore 10, 2) := by decide +kernel
theorem dL_isBack_154 : decode cL_isBack 154 = .ok (.aload_n 0, 1) := by decide +kernel
theorem dL_isBack_155 : decode cL_isBack 155 = .ok (.iconst 4, 1) := by decide +kernel
theorem dL_isBack_156 : decode cL_isBack 156 = .ok (.invokevirtual 54, 3) := by decide +kernel
theorem dL_isBack_159 : decode cL_isBack 159 = .ok (.istore 11, 2) := by decide +kernel
theorem dL_isBack_161 : decode cL_isBack 161 = .ok (.aload_n 0, 1) := by decide +kernel
theorem dL_isBack_162 : decode cL_isBack 162 = .ok (.iconst 2, 1) := by decide +kernel
theorem dL_isBack_163 : decode cL_isBack 163 = .ok (.invokevirtual 9, 3) := by decide +kernel
theorem dL_isBack_166 : decode cL_isBack 166 = .ok (.istore 12, 2) := by decide +kernel
theorem dL_isBack_168 : decode cL_isBack 168 = .ok (.aload_n 0, 1) := by decide +kernel
theorem dL_isBack_169 : decode cL_isBack 169 = .ok (.iload 7, 2) := by decide +kernel
theorem dL_isBack_171 : decode cL_isBack 171 = .ok (.iload 8, 2) := by decide +kernel
theorem dL_isBack_173 : decode cL_isBack 173 = .ok (.iload 9, 2) := by decide +kernel
theorem dL_isBack_175 : decode cL_isBack 175 = .ok (.iload 10, 2) := by decide +kernel
theorem dL_isBack_177 : decode cL_isBack 177 = .ok (.invokevirtual 50, 3) := by decide +kernel
theorem dL_isBack_180 : decode cL_isBack 180 = .ok (.sipush 1000, 3) := by decide +kernel
theorem dL_isBack_183 : decode cL_isBack 183 = .ok (.iload 11, 2) := by decide +kernel
theorem dL_isBack_185 : decode cL_isBack 185 = .ok (.iadd, 1) := by decide +kernel
theorem dL_isBack_186 : decode cL_isBack 186 = .ok (.iload 12, 2) := by decide +kernel
theorem dL_isBack_188 : decode cL_isBack 188 = .ok (.isub, 1) := by decide +kernel
theorem dL_isBack_189 : decode cL_isBack 189 = .ok (.if_icmp .ne 55, 3) := by decide +kernel
theorem dL_isBack_192 : decode cL_isBack 192 = .ok (.aload_n 0, 1) := by decide +kernel
theorem dL_isBack_193 : decode cL_isBack 193 = .ok (.iconst 2, 1) := by decide +kernel
theorem dL_isBack_194 : decode cL_isBack 194 = .ok (.invokevirtual 9, 3) := by decide +kernel
theorem dL_isBack_197 : decode cL_isBack 197 = .ok (.iload 11, 2) := by decide +kernel
theorem dL_isBack_199 : decode cL_isBack 199 = .ok (.if_icmp .ne 45, 3) := by decide +kernel
theorem dL_isBack_202 : decode cL_isBack 202 = .ok (.aload_n 0, 1) := by decide +kernel
theorem dL_isBack_203 : decode cL_isBack 203 = .ok (.iload 8, 2) := by decide +kernel
theorem dL_isBack_205 : decode cL_isBack 205 = .ok (.iload 7, 2) := by decide +kernel
theorem dL_isBack_207 : decode cL_isBack 207 = .ok (.iload 10, 2) := by decide +kernel
theorem dL_isBack_209 : decode cL_isBack 209 = .ok (.iload 9, 2) := by decide +kernel
theorem dL_isBack_211 : decode cL_isBack 211 = .ok (.invokevirtual 50, 3) := by decide +kernel
theorem dL_isBack_214 : decode cL_isBack 214 = .ok (.sipush 1000, 3) := by decide +kernel
theorem dL_isBack_217 : decode cL_isBack 217 = .ok (.iload 12, 2) := by decide +kernel
theorem dL_isBack_219 : decode cL_isBack 219 = .ok (.iadd, 1) := by decide +kernel
theorem dL_isBack_220 : decode cL_isBack 220 = .ok (.iload 11, 2) := by decide +kernel
theorem dL_isBack_222 : decode cL_isBack 222 = .ok (.isub, 1) := by decide +kernel
theorem dL_isBack_223 : decode cL_isBack 223 = .ok (.if_icmp .ne 21, 3) := by decide +kernel
theorem dL_isBack_226 : decode cL_isBack 226 = .ok (.aload_n 0, 1) := by decide +kernel
theorem dL_isBack_227 : decode cL_isBack 227 = .ok (.invokevirtual 28, 3) := by decide +kernel
theorem dL_isBack_230 : decode cL_isBack 230 = .ok (.ifCond .lt 14, 3) := by decide +kernel
theorem dL_isBack_233 : decode cL_isBack 233 = .ok (.aload_n 0, 1) := by decide +kernel
theorem dL_isBack_234 : decode cL_isBack 234 = .ok (.invokevirtual 28, 3) := by decide +kernel
theorem dL_isBack_237 : decode cL_isBack 237 = .ok (.ifCond .lt 7, 3) := by decide +kernel
theorem dL_isBack_240 : decode cL_isBack 240 = .ok (.iconst 1, 1) := by decide +kernel
theorem dL_isBack_241 : decode cL_isBack 241 = .ok (.goto 4, 3) := by decide +kernel
theorem dL_isBack_244 : decode cL_isBack 244 = .ok (.iconst 0, 1) := by decide +kernel
theorem dL_isBack_245 : decode cL_isBack 245 = .ok (.istore 6, 2) := by decide +kernel
theorem dL_isBack_247 : decode cL_isBack 247 = .ok (.iconst 0, 1) := by decide +kernel
theorem dL_isBack_248 : decode cL_isBack 248 = .ok (.istore 8, 2) := by decide +kernel
theorem dL_isBack_250 : decode cL_isBack 250 = .ok (.iload 8, 2) := by decide +kernel
theorem dL_isBack_252 : decode cL_isBack 252 = .ok (.bipush 64, 2) := by decide +kernel
theorem dL_isBack_254 : decode cL_isBack 254 = .ok (.if_icmp .ge 52, 3) := by decide +kernel
theorem dL_isBack_257 : decode cL_isBack 257 = .ok (.iload 6, 2) := by decide +kernel
theorem dL_isBack_259 : decode cL_isBack 259 = .ok (.ifCond .eq 47, 3) := by decide +kernel
theorem dL_isBack_262 : decode cL_isBack 262 = .ok (.aload_n 0, 1) := by decide +kernel
theorem dL_isBack_263 : decode cL_isBack 263 = .ok (.iload 8, 2) := by decide +kernel
theorem dL_isBack_265 : decode cL_isBack 265 = .ok (.bipush 8, 2) := by decide +kernel
theorem dL_isBack_267 : decode cL_isBack 267 = .ok (.idiv, 1) := by decide +kernel
theorem dL_isBack_268 : decode cL_isBack 268 = .ok (.iload 8, 2) := by decide +kernel
theorem dL_isBack_270 : decode cL_isBack 270 = .ok (.bipush 8, 2) := by decide +kernel
theorem dL_isBack_272 : decode cL_isBack 272 = .ok (.irem, 1) := by decide +kernel
theorem dL_isBack_273 : decode cL_isBack 273 = .ok (.invokevirtual 41, 3) := by decide +kernel
theorem dL_isBack_276 : decode cL_isBack 276 = .ok (.aload_n 1, 1) := by decide +kernel
theorem dL_isBack_277 : decode cL_isBack 277 = .ok (.iload 8, 2) := by decide +kernel
theorem dL_isBack_279 : decode cL_isBack 279 = .ok (.bipush 8, 2) := by decide +kernel
theorem dL_isBack_281 : decode cL_isBack 281 = .ok (.idiv, 1) := by decide +kernel
theorem dL_isBack_282 : decode cL_isBack 282 = .ok (.iload 8, 2) := by decide +kernel
theorem dL_isBack_284 : decode cL_isBack 284 = .ok (.bipush 8, 2) := by decide +kernel
theorem dL_isBack_286 : decode cL_isBack 286 = .ok (.irem, 1) := by decide +kernel
theorem dL_isBack_287 : decode cL_isBack 287 = .ok (.invokevirtual 41, 3) := by decide +kernel
theorem dL_isBack_290 : decode cL_isBack 290 = .ok (.if_icmp .ne 7, 3) := by decide +kernel
theorem dL_isBack_293 : decode cL_isBack 293 = .ok (.iconst 1, 1) := by decide +kernel
theorem dL_isBack_294 : decode cL_isBack 294 = .ok (.goto 4, 3) := by decide +kernel
theorem dL_isBack_297 : decode cL_isBack 297 = .ok (.iconst 0, 1) := by decide +kernel
theorem dL_isBack_298 : decode cL_isBack 298 = .ok (.istore 6, 2) := by decide +kernel
theorem dL_isBack_300 : decode cL_isBack 300 = .ok (.iinc 8 1, 3) := by decide +kernel
theorem dL_isBack_303 : decode cL_isBack 303 = .ok (.goto (-53), 3) := by decide +kernel
theorem dL_isBack_306 : decode cL_isBack 306 = .ok (.iload 6, 2) := by decide +kernel
theorem dL_isBack_308 : decode cL_isBack 308 = .ok (.ireturn, 1) := by decide +kernel
set_option maxRecDepth 20000 in
theorem ggL_law_X9_init : GoodIn wsL_law wsX9_init := goodIn_r _ [6, 7, 8, 9, 10, 11, 12, 13, 14, 15, 16, 17, 18, 19, 20, 21, 22, 23, 24, 25, 26, 27, 28, 29, 30, 31, 32, 33, 34, 35, 36, 37, 38, 39, 40, 41, 42, 43, 44, 45, 46, 47, 48, 49, 50, 51, 52, 53, 54, 55, 56, 57, 58, 59, 60, 61, 62, 63, 64, 65, 66, 67, 68, 69, 70, 71, 72, 73, 74, 75, 76, 77, 78, 79, 80, 81, 82, 83, 84, 85, 86, 87, 2, 88, 562, 563, 553, 554, 555, 556, 557, 558, 559, 560, 561, 564, 565, 566, 567, 568, 569, 570, 571, 572, 573, 574, 575, 576, 577, 578, 579, 580, 581, 582, 583, 584, 585] rfl (by decide +kernel)
set_option maxRecDepth 20000 in
theorem gL_law_X9_init : GoodIn wsL_law (wsX9_init) := ggL_law_X9_init
set_option maxRecDepth 20000 in
theorem ggL_law_X9_undo : GoodIn wsL_law wsX9_undo := goodIn_r _ [92, 19, 13, 93, 94, 95, 18, 96, 97, 98, 99, 100, 101, 47, 102, 103, 104, 12, 105, 82, 41, 106, 2, 107, 87, 88, 108, 109, 110, 111, 553, 554, 555, 556, 557, 558, 559, 560, 561, 564, 565, 562, 563] rfl (by decide +kernel)
set_option maxRecDepth 20000 in
theorem gL_law_X9_undo : GoodIn wsL_law (wsV RL 28 RX9 yX9_undo wsX9_undo) := goodIn_app (goodIn_of _ (by decide +kernel)) ggL_law_X9_undo
set_option maxRecDepth 20000 in
theorem ggL_law_X9_restore : GoodIn wsL_law wsX9_restore := goodIn_r _ [115, 116, 19, 13, 14, 117, 118, 119, 18, 120, 97, 121, 122, 123, 124, 47, 98, 99, 100, 101, 102, 103, 104, 12, 105, 82, 41, 106, 2, 107, 87, 88, 125, 126, 127, 128, 129, 553, 554, 555, 556, 557, 558, 559, 560, 561, 564, 565, 562, 563] rfl (by decide +kernel)
set_option maxRecDepth 20000 in
theorem gL_law_X9_restore : GoodIn wsL_law (wsV RL 35 RX9 yX9_restore wsX9_restore) := goodIn_app (goodIn_of _ (by decide +kernel)) ggL_law_X9_restore
set_option maxRecDepth 20000 in
theorem ggL_law_X9_count : GoodIn wsL_law wsX9_count := goodIn_r _ [133, 13, 35, 23, 19, 126, 127, 128, 12, 129, 82, 134, 135, 136, 137, 138, 139, 140, 141, 142, 143, 144, 145, 41, 146, 147, 148, 149, 150, 151, 152, 153, 154, 155, 156, 157, 158, 159, 160, 161, 162, 163, 164, 165, 166, 167, 168, 169, 170, 171, 172, 173, 174, 175, 176, 2, 177, 178, 179, 180, 181, 182, 183, 184, 185, 186, 187, 188, 189, 190, 191, 192, 193, 194, 195, 34, 196, 197, 198, 199, 200, 201, 202, 203, 204, 205, 206, 207, 208, 22, 209, 210, 108, 109, 110, 18, 111, 97, 553, 554, 555, 556, 557, 558, 559, 560, 561, 562, 563, 566, 567, 564, 565] rfl (by decide +kernel)
set_option maxRecDepth 20000 in
theorem gL_law_X9_count : GoodIn wsL_law (wsV RL 9 RX9 yX9_count wsX9_count) := goodIn_app (goodIn_of _ (by decide +kernel)) ggL_law_X9_count
set_option maxRecDepth 20000 in
theorem ggL_law_X9_fault : GoodIn wsL_law wsX9_fault := goodIn_r _ [214, 15, 23, 13, 27, 31, 126, 127, 128, 12, 129, 82, 215, 216, 217, 218, 219, 220, 221, 22, 222, 210, 54, 223, 224, 225, 226, 227, 228, 229, 230, 231, 232, 233, 234, 235, 205, 143, 144, 145, 41, 83, 84, 85, 86, 87, 2, 88, 236, 207, 208, 209, 237, 238, 239, 26, 240, 241, 242, 243, 59, 244, 245, 246, 247, 248, 249, 250, 251, 252, 253, 254, 255, 61, 62, 63, 64, 60, 106, 107, 256, 257, 258, 259, 260, 261, 262, 263, 30, 264, 265, 69, 266, 267, 268, 553, 554, 555, 556, 557, 558, 559, 560, 561, 562, 563, 566, 567, 568, 569, 570, 571, 572, 573, 574, 575, 576, 577, 578, 579] rfl (by decide +kernel)
set_option maxRecDepth 20000 in
theorem gL_law_X9_fault : GoodIn wsL_law (wsV RL 81 RX9 yX9_fault wsX9_fault) := goodIn_app (goodIn_of _ (by decide +kernel)) ggL_law_X9_fault
set_option maxRecDepth 20000 in
theorem ggL_law_X9_load : GoodIn wsL_law wsX9_load := goodIn_r _ [272, 15, 23, 13, 126, 127, 128, 12, 129, 82, 215, 216, 217, 218, 219, 220, 221, 22, 222, 210, 54, 223, 224, 225, 226, 227, 228, 229, 230, 231, 232, 233, 234, 235, 205, 143, 144, 145, 41, 83, 84, 85, 86, 87, 2, 88, 236, 207, 208, 209, 273, 274, 275, 276, 277, 278, 279, 280, 19, 281, 282, 283, 284, 117, 118, 119, 18, 120, 97, 121, 122, 123, 124, 47, 98, 99, 100, 101, 102, 103, 104, 105, 106, 107, 125, 553, 554, 555, 556, 557, 558, 559, 560, 561, 562, 563, 566, 567, 564, 565] rfl (by decide +kernel)
set_option maxRecDepth 20000 in
theorem gL_law_X9_load : GoodIn wsL_law (wsV RL 47 RX9 yX9_load wsX9_load) := goodIn_app (goodIn_of _ (by decide +kernel)) ggL_law_X9_load
set_option maxRecDepth 20000 in
theorem ggL_law_X9_value : GoodIn wsL_law wsX9_value := goodIn_r _ [288, 27, 23, 13, 237, 238, 239, 26, 240, 241, 242, 243, 59, 87, 2, 88, 244, 207, 208, 22, 209, 210, 245, 246, 247, 248, 249, 220, 221, 222, 54, 250, 224, 225, 226, 227, 251, 229, 230, 12, 231, 82, 252, 253, 254, 255, 61, 62, 63, 64, 60, 106, 107, 256, 143, 144, 145, 41, 257, 258, 259, 260, 289, 290, 291, 292, 553, 554, 555, 556, 557, 558, 559, 560, 561, 568, 569, 570, 571, 572, 573, 574, 575, 576, 566, 567, 562, 563] rfl (by decide +kernel)
set_option maxRecDepth 20000 in
theorem gL_law_X9_value : GoodIn wsL_law (wsV RL 97 RX9 yX9_value wsX9_value) := goodIn_app (goodIn_of _ (by decide +kernel)) ggL_law_X9_value
set_option maxRecDepth 20000 in
theorem ggL_law_X9_ways : GoodIn wsL_law wsX9_ways := goodIn_r _ [296, 13, 31, 23, 297, 229, 230, 12, 231, 82, 298, 299, 2, 300, 261, 262, 263, 30, 264, 265, 69, 266, 207, 208, 22, 209, 210, 267, 224, 225, 226, 227, 220, 221, 222, 54, 268, 87, 88, 301, 302, 303, 304, 305, 306, 307, 308, 70, 106, 107, 309, 310, 311, 312, 313, 314, 315, 316, 317, 318, 319, 320, 321, 322, 323, 324, 127, 128, 129, 325, 143, 144, 145, 41, 326, 327, 328, 329, 330, 331, 332, 333, 553, 554, 555, 556, 557, 558, 559, 560, 561, 562, 563, 577, 578, 579, 566, 567] rfl (by decide +kernel)
set_option maxRecDepth 20000 in
theorem gL_law_X9_ways : GoodIn wsL_law (wsV RL 87 RX9 yX9_ways wsX9_ways) := goodIn_app (goodIn_of _ (by decide +kernel)) ggL_law_X9_ways
set_option maxRecDepth 20000 in
theorem ggL_law_L_hangs : GoodIn wsL_law wsL_hangs := goodIn_r _ [337, 130, 131, 132, 2, 133, 13, 35, 23, 19, 126, 127, 128, 12, 129, 82, 134, 135, 136, 137, 138, 139, 140, 141, 142, 143, 144, 145, 41, 146, 147, 148, 149, 150, 151, 152, 153, 154, 155, 156, 157, 158, 159, 160, 161, 162, 163, 164, 165, 166, 167, 168, 169, 170, 171, 172, 173, 174, 175, 176, 177, 178, 179, 180, 181, 182, 183, 184, 185, 186, 187, 188, 189, 190, 191, 192, 193, 194, 195, 34, 196, 197, 198, 199, 200, 201, 202, 203, 204, 205, 206, 207, 208, 22, 209, 210, 108, 109, 110, 18, 111, 97, 338, 339, 340, 341, 297, 229, 230, 231, 342, 343, 344, 345, 346, 347, 348, 349, 350, 351, 352, 353, 354, 355, 356, 357, 358, 359, 360, 361, 362, 363, 364, 365, 366, 367, 368, 369, 370, 371, 372, 373, 374, 375, 376, 377, 378, 379, 380, 381, 382, 383, 384, 385, 386, 387, 388, 298, 299, 300, 389, 390, 391, 392, 393, 394, 395, 396, 397, 398, 399, 400, 401, 402, 403, 404, 405, 406, 407, 408, 76, 409, 103, 104, 105, 106, 107, 87, 88, 410, 411, 412, 413, 414, 415, 416, 417, 418, 419, 420, 421, 422, 423, 424, 425, 426, 427, 428, 429, 83, 84, 85, 86, 430, 431, 432, 433, 434, 553, 554, 555, 556, 557, 558, 559, 560, 561, 562, 563, 566, 567, 564, 565, 580, 581, 582, 583, 584, 585] rfl (by decide +kernel)
set_option maxRecDepth 20000 in
theorem gL_law_L_hangs : GoodIn wsL_law (va_wsS RL 100 yL_hangs wsL_hangs) := goodIn_app (goodIn_of _ (by decide +kernel)) ggL_law_L_hangs
set_option maxRecDepth 20000 in
theorem ggL_law_L_cell : GoodIn wsL_law wsL_cell := goodIn_r _ [437, 438, 439] rfl (by decide +kernel)
set_option maxRecDepth 20000 in
theorem gL_law_L_cell : GoodIn wsL_law (va_wsS RL 106 yL_cell wsL_cell) := goodIn_app (goodIn_of _ (by decide +kernel)) ggL_law_L_cell
set_option maxRecDepth 20000 in
theorem ggL_law_L_acts : GoodIn wsL_law wsL_acts := goodIn_r _ [442, 130, 131, 132, 2, 133, 13, 35, 23, 19, 126, 127, 128, 12, 129, 82, 134, 135, 136, 137, 138, 139, 140, 141, 142, 143, 144, 145, 41, 146, 147, 148, 149, 150, 151, 152, 153, 154, 155, 156, 157, 158, 159, 160, 161, 162, 163, 164, 165, 166, 167, 168, 169, 170, 171, 172, 173, 174, 175, 176, 177, 178, 179, 180, 181, 182, 183, 184, 185, 186, 187, 188, 189, 190, 191, 192, 193, 194, 195, 34, 196, 197, 198, 199, 200, 201, 202, 203, 204, 205, 206, 207, 208, 22, 209, 210, 108, 109, 110, 18, 111, 97, 443, 444, 445, 446, 298, 299, 300, 447, 448, 449, 117, 118, 119, 120, 121, 122, 123, 124, 47, 98, 99, 100, 101, 102, 103, 104, 105, 106, 107, 87, 88, 78, 79, 80, 81, 83, 84, 85, 86, 450, 451, 452, 453, 15, 454, 455, 456, 457, 297, 229, 230, 231, 125, 458, 459, 460, 461, 426, 427, 428, 429, 277, 278, 279, 280, 281, 282, 283, 284, 462, 463, 464, 465, 466, 467, 468, 469, 470, 471, 472, 473, 474, 475, 476, 477, 89, 90, 91, 92, 93, 94, 95, 96, 478, 479, 480, 481, 14, 116, 112, 113, 114, 115, 482, 483, 484, 485, 273, 274, 275, 276, 338, 339, 340, 341, 342, 486, 487, 488, 489, 490, 491, 492, 493, 54, 269, 270, 271, 272, 215, 216, 217, 218, 219, 220, 221, 222, 223, 224, 225, 226, 227, 228, 232, 233, 234, 235, 236, 494, 495, 496, 497, 498, 499, 423, 424, 425, 400, 401, 402, 403, 404, 405, 406, 407, 408, 76, 409, 410, 411, 412, 413, 414, 415, 416, 417, 418, 419, 420, 421, 422, 430, 431, 432, 433, 434, 553, 554, 555, 556, 557, 558, 559, 560, 561, 562, 563, 566, 567, 564, 565, 580, 581, 582, 583, 584, 585] rfl (by decide +kernel)
set_option maxRecDepth 20000 in
theorem gL_law_L_acts : GoodIn wsL_law (va_wsS RL 110 yL_acts wsL_acts) := goodIn_app (goodIn_of _ (by decide +kernel)) ggL_law_L_acts
set_option maxRecDepth 20000 in
theorem ggL_law_L_refuses : GoodIn wsL_law wsL_refuses := goodIn_r _ [502, 130, 131, 132, 2, 133, 13, 35, 23, 19, 126, 127, 128, 12, 129, 82, 134, 135, 136, 137, 138, 139, 140, 141, 142, 143, 144, 145, 41, 146, 147, 148, 149, 150, 151, 152, 153, 154, 155, 156, 157, 158, 159, 160, 161, 162, 163, 164, 165, 166, 167, 168, 169, 170, 171, 172, 173, 174, 175, 176, 177, 178, 179, 180, 181, 182, 183, 184, 185, 186, 187, 188, 189, 190, 191, 192, 193, 194, 195, 34, 196, 197, 198, 199, 200, 201, 202, 203, 204, 205, 206, 207, 208, 22, 209, 210, 108, 109, 110, 18, 111, 97, 443, 444, 445, 446, 298, 299, 300, 447, 448, 449, 117, 118, 119, 120, 121, 122, 123, 124, 47, 98, 99, 100, 101, 102, 103, 104, 105, 106, 107, 87, 88, 78, 79, 80, 81, 83, 84, 85, 86, 450, 451, 452, 453, 15, 454, 455, 456, 457, 297, 229, 230, 231, 125, 458, 459, 460, 461, 426, 427, 428, 429, 277, 278, 279, 280, 281, 282, 283, 284, 462, 463, 464, 465, 466, 467, 468, 469, 470, 471, 472, 473, 474, 475, 476, 477, 494, 495, 496, 497, 498, 499, 423, 424, 425, 503, 504, 505, 506, 400, 401, 402, 403, 404, 405, 406, 407, 408, 76, 409, 410, 411, 412, 413, 414, 415, 416, 417, 418, 419, 420, 421, 422, 430, 431, 432, 433, 434, 486, 487, 488, 489, 490, 491, 492, 493, 54, 211, 212, 213, 214, 27, 31, 215, 216, 217, 218, 219, 220, 221, 222, 223, 224, 225, 226, 227, 228, 232, 233, 234, 235, 236, 237, 238, 239, 26, 240, 241, 242, 243, 59, 244, 245, 246, 247, 248, 249, 250, 251, 252, 253, 254, 255, 61, 62, 63, 64, 60, 256, 257, 258, 259, 260, 261, 262, 263, 30, 264, 265, 69, 266, 267, 268, 507, 508, 509, 510, 511, 512, 513, 514, 338, 339, 340, 341, 342, 343, 344, 345, 346, 347, 348, 349, 350, 351, 352, 353, 354, 355, 356, 357, 358, 359, 360, 361, 362, 363, 364, 365, 366, 367, 368, 369, 370, 371, 372, 373, 374, 375, 376, 377, 378, 379, 380, 381, 382, 383, 384, 385, 386, 387, 388, 389, 390, 391, 392, 393, 394, 395, 293, 294, 295, 296, 301, 302, 303, 304, 305, 306, 307, 308, 70, 309, 310, 311, 312, 313, 314, 315, 316, 317, 318, 319, 320, 321, 322, 323, 324, 325, 326, 327, 328, 329, 330, 331, 332, 333, 515, 516, 517, 518, 519, 520, 521, 522, 523, 524, 525, 526, 527, 528, 529, 530, 531, 532, 533, 534, 535, 536, 537, 538, 539, 540, 541, 542, 543, 544, 545, 546, 553, 554, 555, 556, 557, 558, 559, 560, 561, 562, 563, 566, 567, 564, 565, 580, 581, 582, 583, 584, 585, 568, 569, 570, 571, 572, 573, 574, 575, 576, 577, 578, 579] rfl (by decide +kernel)
set_option maxRecDepth 20000 in
theorem gL_law_L_refuses : GoodIn wsL_law (va_wsS RL 115 yL_refuses wsL_refuses) := goodIn_app (goodIn_of _ (by decide +kernel)) ggL_law_L_refuses
set_option maxRecDepth 20000 in
theorem ggL_law_L_same : GoodIn wsL_law wsL_same := goodIn_r _ [549, 130, 131, 132, 2, 133, 13, 35, 23, 19, 126, 127, 128, 12, 129, 82, 134, 135, 136, 137, 138, 139, 140, 141, 142, 143, 144, 145, 41, 146, 147, 148, 149, 150, 151, 152, 153, 154, 155, 156, 157, 158, 159, 160, 161, 162, 163, 164, 165, 166, 167, 168, 169, 170, 171, 172, 173, 174, 175, 176, 177, 178, 179, 180, 181, 182, 183, 184, 185, 186, 187, 188, 189, 190, 191, 192, 193, 194, 195, 34, 196, 197, 198, 199, 200, 201, 202, 203, 204, 205, 206, 207, 208, 22, 209, 210, 108, 109, 110, 18, 111, 97, 338, 339, 340, 341, 297, 229, 230, 231, 342, 553, 554, 555, 556, 557, 558, 559, 560, 561, 562, 563, 566, 567, 564, 565] rfl (by decide +kernel)
set_option maxRecDepth 20000 in
theorem gL_law_L_same : GoodIn wsL_law (va_wsS RL 119 yL_same wsL_same) := goodIn_app (goodIn_of _ (by decide +kernel)) ggL_law_L_same
set_option maxRecDepth 20000 in
theorem ggL_law_L_isBack : GoodIn wsL_law wsL_isBack := goodIn_r _ [552, 130, 131, 132, 2, 133, 13, 35, 23, 19, 126, 127, 128, 12, 129, 82, 134, 135, 136, 137, 138, 139, 140, 141, 142, 143, 144, 145, 41, 146, 147, 148, 149, 150, 151, 152, 153, 154, 155, 156, 157, 158, 159, 160, 161, 162, 163, 164, 165, 166, 167, 168, 169, 170, 171, 172, 173, 174, 175, 176, 177, 178, 179, 180, 181, 182, 183, 184, 185, 186, 187, 188, 189, 190, 191, 192, 193, 194, 195, 34, 196, 197, 198, 199, 200, 201, 202, 203, 204, 205, 206, 207, 208, 22, 209, 210, 108, 109, 110, 18, 111, 97, 450, 451, 452, 453, 15, 454, 455, 456, 457, 297, 229, 230, 231, 125, 103, 104, 105, 106, 107, 87, 88, 458, 459, 460, 461, 426, 427, 428, 429, 83, 84, 85, 86, 277, 278, 279, 280, 281, 282, 283, 284, 117, 118, 119, 120, 121, 122, 123, 124, 47, 98, 99, 100, 101, 102, 89, 90, 91, 92, 93, 94, 95, 96, 462, 463, 464, 465, 466, 467, 468, 469, 470, 471, 472, 473, 474, 475, 476, 477, 400, 401, 402, 403, 298, 299, 300, 404, 405, 406, 407, 408, 76, 409, 410, 411, 412, 413, 414, 415, 416, 417, 418, 419, 420, 421, 422, 423, 424, 425, 430, 431, 432, 433, 434, 494, 495, 496, 497, 498, 499, 338, 339, 340, 341, 342, 553, 554, 555, 556, 557, 558, 559, 560, 561, 562, 563, 566, 567, 564, 565, 580, 581, 582, 583, 584, 585] rfl (by decide +kernel)
set_option maxRecDepth 20000 in
theorem gL_law_L_isBack : GoodIn wsL_law (va_wsS RL 123 yL_isBack wsL_isBack) := goodIn_app (goodIn_of _ (by decide +kernel)) ggL_law_L_isBack
theorem dL_law_0 : decode cL_law 0 = .ok (.new 10, 3) := by decide +kernel
theorem dL_law_3 : decode cL_law 3 = .ok (.dup, 1) := by decide +kernel
theorem dL_law_4 : decode cL_law 4 = .ok (.invokespecial 96, 3) := by decide +kernel
theorem dL_law_7 : decode cL_law 7 = .ok (.astore_n 1, 1) := by decide +kernel
theorem dL_law_8 : decode cL_law 8 = .ok (.new 10, 3) := by decide +kernel
theorem dL_law_11 : decode cL_law 11 = .ok (.dup, 1) := by decide +kernel
theorem dL_law_12 : decode cL_law 12 = .ok (.invokespecial 96, 3) := by decide +kernel
theorem dL_law_15 : decode cL_law 15 = .ok (.astore_n 2, 1) := by decide +kernel
theorem dL_law_16 : decode cL_law 16 = .ok (.aload_n 1, 1) := by decide +kernel
theorem dL_law_17 : decode cL_law 17 = .ok (.invokevirtual 28, 3) := by decide +kernel
theorem dL_law_20 : decode cL_law 20 = .ok (.bipush (-2), 2) := by decide +kernel
theorem dL_law_22 : decode cL_law 22 = .ok (.if_icmp .ne 121, 3) := by decide +kernel
theorem dL_law_25 : decode cL_law 25 = .ok (.aload_n 1, 1) := by decide +kernel
theorem dL_law_26 : decode cL_law 26 = .ok (.invokevirtual 35, 3) := by decide +kernel
theorem dL_law_29 : decode cL_law 29 = .ok (.bipush (-2), 2) := by decide +kernel
theorem dL_law_31 : decode cL_law 31 = .ok (.if_icmp .ne 112, 3) := by decide +kernel
theorem dL_law_34 : decode cL_law 34 = .ok (.aload_n 1, 1) := by decide +kernel
theorem dL_law_35 : decode cL_law 35 = .ok (.iconst 0, 1) := by decide +kernel
theorem dL_law_36 : decode cL_law 36 = .ok (.invokevirtual 9, 3) := by decide +kernel
theorem dL_law_39 : decode cL_law 39 = .ok (.iconst 4, 1) := by decide +kernel
theorem dL_law_40 : decode cL_law 40 = .ok (.if_icmp .ne 103, 3) := by decide +kernel
theorem dL_law_43 : decode cL_law 43 = .ok (.aload_n 1, 1) := by decide +kernel
theorem dL_law_44 : decode cL_law 44 = .ok (.iconst 1, 1) := by decide +kernel
theorem dL_law_45 : decode cL_law 45 = .ok (.invokevirtual 9, 3) := by decide +kernel
theorem dL_law_48 : decode cL_law 48 = .ok (.bipush 16, 2) := by decide +kernel
theorem dL_law_50 : decode cL_law 50 = .ok (.if_icmp .ne 93, 3) := by decide +kernel
theorem dL_law_53 : decode cL_law 53 = .ok (.aload_n 1, 1) := by decide +kernel
theorem dL_law_54 : decode cL_law 54 = .ok (.iconst 2, 1) := by decide +kernel
theorem dL_law_55 : decode cL_law 55 = .ok (.invokevirtual 9, 3) := by decide +kernel
theorem dL_law_58 : decode cL_law 58 = .ok (.bipush 64, 2) := by decide +kernel
theorem dL_law_60 : decode cL_law 60 = .ok (.if_icmp .ne 83, 3) := by decide +kernel
theorem dL_law_63 : decode cL_law 63 = .ok (.aload_n 1, 1) := by decide +kernel
theorem dL_law_64 : decode cL_law 64 = .ok (.iconst 3, 1) := by decide +kernel
theorem dL_law_65 : decode cL_law 65 = .ok (.invokevirtual 9, 3) := by decide +kernel
theorem dL_law_68 : decode cL_law 68 = .ok (.ifCond .ne 75, 3) := by decide +kernel
theorem dL_law_71 : decode cL_law 71 = .ok (.aload_n 1, 1) := by decide +kernel
theorem dL_law_72 : decode cL_law 72 = .ok (.iconst 4, 1) := by decide +kernel
theorem dL_law_73 : decode cL_law 73 = .ok (.invokevirtual 9, 3) := by decide +kernel
theorem dL_law_76 : decode cL_law 76 = .ok (.ifCond .ne 67, 3) := by decide +kernel
theorem dL_law_79 : decode cL_law 79 = .ok (.aload_n 1, 1) := by decide +kernel
theorem dL_law_80 : decode cL_law 80 = .ok (.iconst 0, 1) := by decide +kernel
theorem dL_law_81 : decode cL_law 81 = .ok (.invokevirtual 81, 3) := by decide +kernel
theorem dL_law_84 : decode cL_law 84 = .ok (.ifCond .ne 59, 3) := by decide +kernel
theorem dL_law_87 : decode cL_law 87 = .ok (.aload_n 1, 1) := by decide +kernel
theorem dL_law_88 : decode cL_law 88 = .ok (.iconst 1, 1) := by decide +kernel
theorem dL_law_89 : decode cL_law 89 = .ok (.invokevirtual 81, 3) := by decide +kernel
theorem dL_law_92 : decode cL_law 92 = .ok (.ifCond .ne 51, 3) := by decide +kernel
theorem dL_law_95 : decode cL_law 95 = .ok (.aload_n 1, 1) := by decide +kernel
theorem dL_law_96 : decode cL_law 96 = .ok (.iconst 2, 1) := by decide +kernel
theorem dL_law_97 : decode cL_law 97 = .ok (.invokevirtual 81, 3) := by decide +kernel
theorem dL_law_100 : decode cL_law 100 = .ok (.ifCond .ne 43, 3) := by decide +kernel
theorem dL_law_103 : decode cL_law 103 = .ok (.aload_n 1, 1) := by decide +kernel
theorem dL_law_104 : decode cL_law 104 = .ok (.invokevirtual 47, 3) := by decide +kernel
theorem dL_law_107 : decode cL_law 107 = .ok (.bipush (-2), 2) := by decide +kernel
theorem dL_law_109 : decode cL_law 109 = .ok (.if_icmp .ne 34, 3) := by decide +kernel
theorem dL_law_112 : decode cL_law 112 = .ok (.aload_n 1, 1) := by decide +kernel
theorem dL_law_113 : decode cL_law 113 = .ok (.invokevirtual 97, 3) := by decide +kernel
theorem dL_law_116 : decode cL_law 116 = .ok (.bipush (-2), 2) := by decide +kernel
theorem dL_law_118 : decode cL_law 118 = .ok (.if_icmp .ne 25, 3) := by decide +kernel
theorem dL_law_121 : decode cL_law 121 = .ok (.aload_n 1, 1) := by decide +kernel
theorem dL_law_122 : decode cL_law 122 = .ok (.iconst 0, 1) := by decide +kernel
theorem dL_law_123 : decode cL_law 123 = .ok (.iconst 0, 1) := by decide +kernel
theorem dL_law_124 : decode cL_law 124 = .ok (.invokevirtual 87, 3) := by decide +kernel
theorem dL_law_127 : decode cL_law 127 = .ok (.bipush (-2), 2) := by decide +kernel
theorem dL_law_129 : decode cL_law 129 = .ok (.if_icmp .ne 14, 3) := by decide +kernel
theorem dL_law_132 : decode cL_law 132 = .ok (.aload_n 1, 1) := by decide +kernel
theorem dL_law_133 : decode cL_law 133 = .ok (.invokestatic 100, 3) := by decide +kernel
theorem dL_law_136 : decode cL_law 136 = .ok (.ifCond .eq 7, 3) := by decide +kernel
theorem dL_law_139 : decode cL_law 139 = .ok (.iconst 1, 1) := by decide +kernel
theorem dL_law_140 : decode cL_law 140 = .ok (.goto 4, 3) := by decide +kernel
theorem dL_law_143 : decode cL_law 143 = .ok (.iconst 0, 1) := by decide +kernel
theorem dL_law_144 : decode cL_law 144 = .ok (.istore_n 3, 1) := by decide +kernel
theorem dL_law_145 : decode cL_law 145 = .ok (.iconst 0, 1) := by decide +kernel
theorem dL_law_146 : decode cL_law 146 = .ok (.istore 4, 2) := by decide +kernel
theorem dL_law_148 : decode cL_law 148 = .ok (.iload 4, 2) := by decide +kernel
theorem dL_law_150 : decode cL_law 150 = .ok (.bipush 24, 2) := by decide +kernel
theorem dL_law_152 : decode cL_law 152 = .ok (.if_icmp .ge 99, 3) := by decide +kernel
theorem dL_law_155 : decode cL_law 155 = .ok (.iload_n 3, 1) := by decide +kernel
theorem dL_law_156 : decode cL_law 156 = .ok (.ifCond .eq 95, 3) := by decide +kernel
theorem dL_law_159 : decode cL_law 159 = .ok (.aload_n 0, 1) := by decide +kernel
theorem dL_law_160 : decode cL_law 160 = .ok (.iload 4, 2) := by decide +kernel
theorem dL_law_162 : decode cL_law 162 = .ok (.invokestatic 106, 3) := by decide +kernel
theorem dL_law_165 : decode cL_law 165 = .ok (.istore 5, 2) := by decide +kernel
theorem dL_law_167 : decode cL_law 167 = .ok (.aload_n 1, 1) := by decide +kernel
theorem dL_law_168 : decode cL_law 168 = .ok (.iload 5, 2) := by decide +kernel
theorem dL_law_170 : decode cL_law 170 = .ok (.invokestatic 110, 3) := by decide +kernel
theorem dL_law_173 : decode cL_law 173 = .ok (.istore 6, 2) := by decide +kernel
theorem dL_law_175 : decode cL_law 175 = .ok (.iload 4, 2) := by decide +kernel
theorem dL_law_177 : decode cL_law 177 = .ok (.iconst 3, 1) := by decide +kernel
theorem dL_law_178 : decode cL_law 178 = .ok (.irem, 1) := by decide +kernel
theorem dL_law_179 : decode cL_law 179 = .ok (.ifCond .gt 15, 3) := by decide +kernel
theorem dL_law_182 : decode cL_law 182 = .ok (.aload_n 2, 1) := by decide +kernel
theorem dL_law_183 : decode cL_law 183 = .ok (.iload 5, 2) := by decide +kernel
theorem dL_law_185 : decode cL_law 185 = .ok (.ldc 114, 2) := by decide +kernel
theorem dL_law_187 : decode cL_law 187 = .ok (.irem, 1) := by decide +kernel
theorem dL_law_188 : decode cL_law 188 = .ok (.invokestatic 115, 3) := by decide +kernel
theorem dL_law_191 : decode cL_law 191 = .ok (.ifCond .eq 52, 3) := by decide +kernel
theorem dL_law_194 : decode cL_law 194 = .ok (.aload_n 2, 1) := by decide +kernel
theorem dL_law_195 : decode cL_law 195 = .ok (.iload 5, 2) := by decide +kernel
theorem dL_law_197 : decode cL_law 197 = .ok (.invokestatic 110, 3) := by decide +kernel
theorem dL_law_200 : decode cL_law 200 = .ok (.iload 6, 2) := by decide +kernel
theorem dL_law_202 : decode cL_law 202 = .ok (.if_icmp .ne 41, 3) := by decide +kernel
theorem dL_law_205 : decode cL_law 205 = .ok (.aload_n 1, 1) := by decide +kernel
theorem dL_law_206 : decode cL_law 206 = .ok (.aload_n 2, 1) := by decide +kernel
theorem dL_law_207 : decode cL_law 207 = .ok (.invokestatic 119, 3) := by decide +kernel
theorem dL_law_210 : decode cL_law 210 = .ok (.ifCond .eq 33, 3) := by decide +kernel
theorem dL_law_213 : decode cL_law 213 = .ok (.iload 4, 2) := by decide +kernel
theorem dL_law_215 : decode cL_law 215 = .ok (.iconst 3, 1) := by decide +kernel
theorem dL_law_216 : decode cL_law 216 = .ok (.irem, 1) := by decide +kernel
theorem dL_law_217 : decode cL_law 217 = .ok (.iconst 2, 1) := by decide +kernel
theorem dL_law_218 : decode cL_law 218 = .ok (.if_icmp .lt 21, 3) := by decide +kernel
theorem dL_law_221 : decode cL_law 221 = .ok (.iload 4, 2) := by decide +kernel
theorem dL_law_223 : decode cL_law 223 = .ok (.iconst 2, 1) := by decide +kernel
theorem dL_law_224 : decode cL_law 224 = .ok (.irem, 1) := by decide +kernel
theorem dL_law_225 : decode cL_law 225 = .ok (.ifCond .ne 7, 3) := by decide +kernel
theorem dL_law_228 : decode cL_law 228 = .ok (.aload_n 1, 1) := by decide +kernel
theorem dL_law_229 : decode cL_law 229 = .ok (.goto 4, 3) := by decide +kernel
theorem dL_law_232 : decode cL_law 232 = .ok (.aload_n 2, 1) := by decide +kernel
theorem dL_law_233 : decode cL_law 233 = .ok (.invokestatic 100, 3) := by decide +kernel
theorem dL_law_236 : decode cL_law 236 = .ok (.ifCond .eq 7, 3) := by decide +kernel
theorem dL_law_239 : decode cL_law 239 = .ok (.iconst 1, 1) := by decide +kernel
theorem dL_law_240 : decode cL_law 240 = .ok (.goto 4, 3) := by decide +kernel
theorem dL_law_243 : decode cL_law 243 = .ok (.iconst 0, 1) := by decide +kernel
theorem dL_law_244 : decode cL_law 244 = .ok (.istore_n 3, 1) := by decide +kernel
theorem dL_law_245 : decode cL_law 245 = .ok (.iinc 4 1, 3) := by decide +kernel
theorem dL_law_248 : decode cL_law 248 = .ok (.goto (-100), 3) := by decide +kernel
theorem dL_law_251 : decode cL_law 251 = .ok (.iload_n 3, 1) := by decide +kernel
theorem dL_law_252 : decode cL_law 252 = .ok (.ifCond .eq 28, 3) := by decide +kernel
theorem dL_law_255 : decode cL_law 255 = .ok (.aload_n 1, 1) := by decide +kernel
theorem dL_law_256 : decode cL_law 256 = .ok (.invokestatic 100, 3) := by decide +kernel
theorem dL_law_259 : decode cL_law 259 = .ok (.ifCond .eq 21, 3) := by decide +kernel
theorem dL_law_262 : decode cL_law 262 = .ok (.aload_n 1, 1) := by decide +kernel
theorem dL_law_263 : decode cL_law 263 = .ok (.aload_n 2, 1) := by decide +kernel
theorem dL_law_264 : decode cL_law 264 = .ok (.aload_n 0, 1) := by decide +kernel
theorem dL_law_265 : decode cL_law 265 = .ok (.bipush 24, 2) := by decide +kernel
theorem dL_law_267 : decode cL_law 267 = .ok (.invokestatic 106, 3) := by decide +kernel
theorem dL_law_270 : decode cL_law 270 = .ok (.invokestatic 123, 3) := by decide +kernel
theorem dL_law_273 : decode cL_law 273 = .ok (.ifCond .eq 7, 3) := by decide +kernel
theorem dL_law_276 : decode cL_law 276 = .ok (.iconst 1, 1) := by decide +kernel
theorem dL_law_277 : decode cL_law 277 = .ok (.goto 4, 3) := by decide +kernel
theorem dL_law_280 : decode cL_law 280 = .ok (.iconst 0, 1) := by decide +kernel
theorem dL_law_281 : decode cL_law 281 = .ok (.ireturn, 1) := by decide +kernel
abbrev vwCl : List vw_C := [(RX0, TX0, 2), (RX1, TX1, 2), (RX3, TX3, 3), (RX4, TX4, 6), (RX5, TX5, 9), (RX6, TX6, 2), (RX9, TX9, 9)]
