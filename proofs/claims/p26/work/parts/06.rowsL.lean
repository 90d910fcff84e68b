theorem dJ9_max_7cf53_0 : decode cJ9_max_7cf53 0 = .ok (.iload_n 0, 1) := by decide +kernel
theorem dJ9_max_7cf53_1 : decode cJ9_max_7cf53 1 = .ok (.iload_n 1, 1) := by decide +kernel
theorem dJ9_max_7cf53_2 : decode cJ9_max_7cf53 2 = .ok (.if_icmp .lt 7, 3) := by decide +kernel
theorem dJ9_max_7cf53_5 : decode cJ9_max_7cf53 5 = .ok (.iload_n 0, 1) := by decide +kernel
theorem dJ9_max_7cf53_6 : decode cJ9_max_7cf53 6 = .ok (.goto 4, 3) := by decide +kernel
theorem dJ9_max_7cf53_9 : decode cJ9_max_7cf53 9 = .ok (.iload_n 1, 1) := by decide +kernel
theorem dJ9_max_7cf53_10 : decode cJ9_max_7cf53 10 = .ok (.ireturn, 1) := by decide +kernel
theorem dJ9_min_7cf53_0 : decode cJ9_min_7cf53 0 = .ok (.iload_n 0, 1) := by decide +kernel
theorem dJ9_min_7cf53_1 : decode cJ9_min_7cf53 1 = .ok (.iload_n 1, 1) := by decide +kernel
theorem dJ9_min_7cf53_2 : decode cJ9_min_7cf53 2 = .ok (.if_icmp .gt 7, 3) := by decide +kernel
theorem dJ9_min_7cf53_5 : decode cJ9_min_7cf53 5 = .ok (.iload_n 0, 1) := by decide +kernel
theorem dJ9_min_7cf53_6 : decode cJ9_min_7cf53 6 = .ok (.goto 4, 3) := by decide +kernel
theorem dJ9_min_7cf53_9 : decode cJ9_min_7cf53 9 = .ok (.iload_n 1, 1) := by decide +kernel
theorem dJ9_min_7cf53_10 : decode cJ9_min_7cf53 10 = .ok (.ireturn, 1) := by decide +kernel
theorem dL_cell_0 : decode cL_cell 0 = .ok (.iload_n 1, 1) := by decide +kernel
theorem dL_cell_1 : decode cL_cell 1 = .ok (.aload_n 0, 1) := by decide +kernel
theorem dL_cell_2 : decode cL_cell 2 = .ok (.arraylength, 1) := by decide +kernel
theorem dL_cell_3 : decode cL_cell 3 = .ok (.if_icmp .ge 9, 3) := by decide +kernel
theorem dL_cell_6 : decode cL_cell 6 = .ok (.aload_n 0, 1) := by decide +kernel
theorem dL_cell_7 : decode cL_cell 7 = .ok (.iload_n 1, 1) := by decide +kernel
theorem dL_cell_8 : decode cL_cell 8 = .ok (.iaload, 1) := by decide +kernel
theorem dL_cell_9 : decode cL_cell 9 = .ok (.goto 11, 3) := by decide +kernel
theorem dL_cell_12 : decode cL_cell 12 = .ok (.ldc 7, 2) := by decide +kernel
theorem dL_cell_14 : decode cL_cell 14 = .ok (.iload_n 1, 1) := by decide +kernel
theorem dL_cell_15 : decode cL_cell 15 = .ok (.imul, 1) := by decide +kernel
theorem dL_cell_16 : decode cL_cell 16 = .ok (.sipush 977, 3) := by decide +kernel
theorem dL_cell_19 : decode cL_cell 19 = .ok (.iadd, 1) := by decide +kernel
theorem dL_cell_20 : decode cL_cell 20 = .ok (.ireturn, 1) := by decide +kernel
theorem dL_low_0 : decode cL_low 0 = .ok (.iload_n 0, 1) := by decide +kernel
theorem dL_low_1 : decode cL_low 1 = .ok (.ldc 8, 2) := by decide +kernel
theorem dL_low_3 : decode cL_low 3 = .ok (.iand, 1) := by decide +kernel
theorem dL_low_4 : decode cL_low 4 = .ok (.iload_n 1, 1) := by decide +kernel
theorem dL_low_5 : decode cL_low 5 = .ok (.irem, 1) := by decide +kernel
theorem dL_low_6 : decode cL_low 6 = .ok (.ireturn, 1) := by decide +kernel
set_option maxRecDepth 20000 in
theorem ggL_act_X3_count : GoodIn wsL_act wsX3_count := goodIn_r _ [5, 6, 7, 8, 9, 10, 11, 12, 13, 14, 15, 16, 17, 18, 19, 20, 21, 22, 23, 24, 25, 26, 27, 28, 29, 30, 31, 32, 33, 34, 35, 36, 37, 38, 39, 40, 41, 42, 43, 44, 45, 46, 47, 48, 49, 50, 51, 52, 53, 54, 55, 56, 57, 4, 58, 261, 262, 263, 264, 265, 266, 267, 268, 269, 270, 271, 272, 273, 274, 275, 276, 277, 278, 279, 280, 281, 282, 283, 284, 285, 286, 287, 288, 289, 290, 291, 292, 293] (by decide +kernel) (by decide +kernel)
set_option maxRecDepth 20000 in
theorem gL_act_X3_count : GoodIn wsL_act (wsV RL 9 RX3 yX3_count wsX3_count) := goodIn_app (goodIn_of _ (by decide +kernel)) ggL_act_X3_count
set_option maxRecDepth 20000 in
theorem ggL_act_L_low : GoodIn wsL_act wsL_low := goodIn_r _ [62, 63] (by decide +kernel) (by decide +kernel)
set_option maxRecDepth 20000 in
theorem gL_act_L_low : GoodIn wsL_act (va_wsS RL 15 yL_low wsL_low) := goodIn_app (goodIn_of _ (by decide +kernel)) ggL_act_L_low
set_option maxRecDepth 20000 in
theorem ggL_act_X3_come : GoodIn wsL_act wsX3_come := goodIn_r _ [67, 18, 6, 68, 69, 70, 71, 72, 73, 74, 75, 76, 77, 78, 79, 80, 81, 25, 82, 83, 84, 85, 86, 87, 28, 88, 89, 41, 90, 91, 27, 92, 93, 94, 95, 96, 97, 98, 99, 100, 101, 102, 103, 104, 57, 4, 58, 105, 106, 107, 108, 109, 110, 111, 112, 261, 262, 263, 264, 265, 266, 267, 285, 286, 268, 269, 270, 271, 272, 273, 274, 275, 276, 277, 278, 279, 280, 281, 282, 283, 284] (by decide +kernel) (by decide +kernel)
set_option maxRecDepth 20000 in
theorem gL_act_X3_come : GoodIn wsL_act (wsV RL 21 RX3 yX3_come wsX3_come) := goodIn_app (goodIn_of _ (by decide +kernel)) ggL_act_X3_come
set_option maxRecDepth 20000 in
theorem ggL_act_X3_leave : GoodIn wsL_act wsX3_leave := goodIn_r _ [116, 18, 6, 68, 69, 70, 71, 72, 73, 74, 75, 76, 77, 78, 79, 80, 81, 25, 82, 83, 84, 85, 86, 87, 28, 88, 89, 41, 90, 91, 27, 92, 93, 94, 95, 96, 97, 98, 99, 100, 117, 118, 119, 120, 121, 122, 123, 124, 125, 126, 127, 128, 129, 130, 131, 105, 106, 107, 4, 108, 109, 110, 111, 112, 261, 262, 263, 264, 265, 266, 267, 285, 286, 268, 269, 270, 271, 272, 273, 274, 275, 276, 277, 278, 279, 280, 281, 282, 283, 284] (by decide +kernel) (by decide +kernel)
set_option maxRecDepth 20000 in
theorem gL_act_X3_leave : GoodIn wsL_act (wsV RL 25 RX3 yX3_leave wsX3_leave) := goodIn_app (goodIn_of _ (by decide +kernel)) ggL_act_X3_leave
set_option maxRecDepth 20000 in
theorem ggL_act_X3_letAhead : GoodIn wsL_act wsX3_letAhead := goodIn_r _ [135, 18, 6, 68, 69, 70, 71, 72, 73, 74, 75, 76, 77, 78, 79, 80, 81, 25, 82, 83, 84, 85, 86, 87, 28, 88, 89, 41, 90, 91, 27, 92, 93, 94, 95, 96, 97, 98, 99, 100, 136, 137, 138, 139, 140, 141, 142, 143, 144, 145, 146, 105, 106, 107, 4, 108, 109, 110, 111, 112, 261, 262, 263, 264, 265, 266, 267, 285, 286, 268, 269, 270, 271, 272, 273, 274, 275, 276, 277, 278, 279, 280, 281, 282, 283, 284] (by decide +kernel) (by decide +kernel)
set_option maxRecDepth 20000 in
theorem gL_act_X3_letAhead : GoodIn wsL_act (wsV RL 28 RX3 yX3_letAhead wsX3_letAhead) := goodIn_app (goodIn_of _ (by decide +kernel)) ggL_act_X3_letAhead
set_option maxRecDepth 20000 in
theorem ggL_act_X3_swap : GoodIn wsL_act wsX3_swap := goodIn_r _ [150, 18, 6, 68, 69, 70, 71, 72, 73, 74, 75, 76, 77, 78, 79, 80, 81, 25, 82, 83, 84, 85, 86, 87, 28, 88, 89, 41, 90, 91, 27, 92, 93, 94, 95, 96, 97, 98, 99, 100, 151, 152, 153, 154, 140, 141, 142, 143, 155, 156, 157, 158, 144, 145, 146, 105, 106, 107, 4, 108, 109, 110, 111, 112, 261, 262, 263, 264, 265, 266, 267, 285, 286, 268, 269, 270, 271, 272, 273, 274, 275, 276, 277, 278, 279, 280, 281, 282, 283, 284] (by decide +kernel) (by decide +kernel)
set_option maxRecDepth 20000 in
theorem gL_act_X3_swap : GoodIn wsL_act (wsV RL 31 RX3 yX3_swap wsX3_swap) := goodIn_app (goodIn_of _ (by decide +kernel)) ggL_act_X3_swap
set_option maxRecDepth 20000 in
theorem ggL_act_X3_set : GoodIn wsL_act wsX3_set := goodIn_r _ [162, 18, 6, 68, 69, 70, 71, 72, 73, 74, 75, 76, 77, 78, 79, 80, 81, 25, 82, 83, 84, 85, 86, 87, 28, 88, 89, 41, 90, 91, 27, 92, 93, 94, 95, 96, 97, 98, 99, 100, 163, 164, 165, 166, 57, 4, 58, 105, 106, 107, 108, 109, 110, 111, 112, 261, 262, 263, 264, 265, 266, 267, 285, 286, 268, 269, 270, 271, 272, 273, 274, 275, 276, 277, 278, 279, 280, 281, 282, 283, 284] (by decide +kernel) (by decide +kernel)
set_option maxRecDepth 20000 in
theorem gL_act_X3_set : GoodIn wsL_act (wsV RL 34 RX3 yX3_set wsX3_set) := goodIn_app (goodIn_of _ (by decide +kernel)) ggL_act_X3_set
set_option maxRecDepth 20000 in
theorem ggL_act_X3_serve : GoodIn wsL_act wsX3_serve := goodIn_r _ [170, 18, 6, 68, 69, 70, 71, 72, 73, 74, 75, 76, 77, 78, 79, 80, 81, 25, 82, 83, 84, 85, 86, 87, 28, 88, 89, 41, 90, 91, 27, 92, 93, 94, 95, 96, 97, 98, 99, 100, 171, 172, 173, 174, 175, 176, 177, 178, 54, 55, 48, 56, 179, 180, 181, 182, 183, 184, 185, 186, 187, 188, 189, 190, 125, 126, 127, 128, 129, 130, 131, 105, 106, 107, 4, 108, 109, 110, 111, 112, 261, 262, 263, 264, 265, 266, 267, 285, 286, 268, 269, 270, 271, 272, 273, 274, 275, 276, 277, 278, 279, 280, 281, 282, 283, 284] (by decide +kernel) (by decide +kernel)
set_option maxRecDepth 20000 in
theorem gL_act_X3_serve : GoodIn wsL_act (wsV RL 37 RX3 yX3_serve wsX3_serve) := goodIn_app (goodIn_of _ (by decide +kernel)) ggL_act_X3_serve
set_option maxRecDepth 20000 in
theorem ggL_act_X3_pass : GoodIn wsL_act wsX3_pass := goodIn_r _ [194, 18, 6, 68, 69, 70, 71, 72, 73, 74, 75, 76, 77, 78, 79, 80, 81, 25, 82, 83, 84, 85, 86, 87, 28, 88, 89, 41, 90, 91, 27, 92, 93, 94, 95, 96, 97, 98, 99, 100, 195, 196, 197, 198, 199, 46, 47, 48, 49, 57, 4, 58, 105, 106, 107, 108, 109, 110, 111, 112, 261, 262, 263, 264, 265, 266, 267, 285, 286, 268, 269, 270, 271, 272, 273, 274, 275, 276, 277, 278, 279, 280, 281, 282, 283, 284] (by decide +kernel) (by decide +kernel)
set_option maxRecDepth 20000 in
theorem gL_act_X3_pass : GoodIn wsL_act (wsV RL 41 RX3 yX3_pass wsX3_pass) := goodIn_app (goodIn_of _ (by decide +kernel)) ggL_act_X3_pass
set_option maxRecDepth 20000 in
theorem ggL_act_L_gust : GoodIn wsL_act wsL_gust := goodIn_r _ [202, 203, 1, 2, 3, 4, 5, 6, 7, 8, 9, 10, 11, 12, 13, 14, 15, 16, 17, 18, 19, 20, 21, 22, 23, 24, 25, 26, 27, 28, 29, 30, 31, 32, 33, 34, 35, 36, 37, 38, 39, 40, 41, 42, 43, 44, 45, 46, 47, 48, 49, 50, 51, 52, 53, 54, 55, 56, 57, 58, 204, 205, 206, 207, 208, 209, 122, 123, 124, 210, 211, 212, 213, 214, 215, 216, 217, 218, 219, 220, 221, 222, 223, 224, 225, 226, 227, 228, 229, 230, 231, 232, 233, 234, 235, 236, 237, 238, 239, 240, 241, 242, 243, 244, 245, 246, 247, 68, 69, 70, 71, 72, 73, 74, 75, 76, 77, 78, 79, 80, 81, 82, 83, 84, 85, 86, 87, 88, 89, 90, 91, 92, 93, 94, 95, 96, 97, 98, 99, 100, 248, 249, 250, 251, 252, 253, 254, 255, 256, 125, 126, 127, 128, 129, 130, 131, 105, 106, 107, 108, 109, 110, 111, 112, 257, 258, 259, 260, 261, 262, 263, 264, 265, 266, 267, 268, 269, 270, 271, 272, 273, 274, 275, 276, 277, 278, 279, 280, 281, 282, 283, 284, 285, 286, 287, 288, 289, 290, 291, 292, 293] (by decide +kernel) (by decide +kernel)
set_option maxRecDepth 20000 in
theorem gL_act_L_gust : GoodIn wsL_act (va_wsS RL 44 yL_gust wsL_gust) := goodIn_app (goodIn_of _ (by decide +kernel)) ggL_act_L_gust
theorem dL_act_0 : decode cL_act 0 = .ok (.iload_n 2, 1) := by decide +kernel
theorem dL_act_1 : decode cL_act 1 = .ok (.aload_n 0, 1) := by decide +kernel
theorem dL_act_2 : decode cL_act 2 = .ok (.iconst 0, 1) := by decide +kernel
theorem dL_act_3 : decode cL_act 3 = .ok (.invokevirtual 9, 3) := by decide +kernel
theorem dL_act_6 : decode cL_act 6 = .ok (.iconst 1, 1) := by decide +kernel
theorem dL_act_7 : decode cL_act 7 = .ok (.iadd, 1) := by decide +kernel
theorem dL_act_8 : decode cL_act 8 = .ok (.invokestatic 15, 3) := by decide +kernel
theorem dL_act_11 : decode cL_act 11 = .ok (.istore 4, 2) := by decide +kernel
theorem dL_act_13 : decode cL_act 13 = .ok (.iload_n 1, 1) := by decide +kernel
theorem dL_act_14 : decode cL_act 14 = .ok (.tableswitch 149 0 12 #[66, 66, 66, 66, 66, 96, 103, 110, 110, 110, 117, 133, 138], 66) := by decide +kernel
theorem dL_act_80 : decode cL_act 80 = .ok (.aload_n 0, 1) := by decide +kernel
theorem dL_act_81 : decode cL_act 81 = .ok (.bipush 8, 2) := by decide +kernel
theorem dL_act_83 : decode cL_act 83 = .ok (.iload_n 2, 1) := by decide +kernel
theorem dL_act_84 : decode cL_act 84 = .ok (.sipush 300, 3) := by decide +kernel
theorem dL_act_87 : decode cL_act 87 = .ok (.invokestatic 15, 3) := by decide +kernel
theorem dL_act_90 : decode cL_act 90 = .ok (.iadd, 1) := by decide +kernel
theorem dL_act_91 : decode cL_act 91 = .ok (.iload_n 3, 1) := by decide +kernel
theorem dL_act_92 : decode cL_act 92 = .ok (.bipush 40, 2) := by decide +kernel
theorem dL_act_94 : decode cL_act 94 = .ok (.invokestatic 15, 3) := by decide +kernel
theorem dL_act_97 : decode cL_act 97 = .ok (.iload_n 3, 1) := by decide +kernel
theorem dL_act_98 : decode cL_act 98 = .ok (.bipush 6, 2) := by decide +kernel
theorem dL_act_100 : decode cL_act 100 = .ok (.ishr, 1) := by decide +kernel
theorem dL_act_101 : decode cL_act 101 = .ok (.bipush 7, 2) := by decide +kernel
theorem dL_act_103 : decode cL_act 103 = .ok (.invokestatic 15, 3) := by decide +kernel
theorem dL_act_106 : decode cL_act 106 = .ok (.invokevirtual 21, 3) := by decide +kernel
theorem dL_act_109 : decode cL_act 109 = .ok (.ireturn, 1) := by decide +kernel
theorem dL_act_110 : decode cL_act 110 = .ok (.aload_n 0, 1) := by decide +kernel
theorem dL_act_111 : decode cL_act 111 = .ok (.iload 4, 2) := by decide +kernel
theorem dL_act_113 : decode cL_act 113 = .ok (.invokevirtual 25, 3) := by decide +kernel
theorem dL_act_116 : decode cL_act 116 = .ok (.ireturn, 1) := by decide +kernel
theorem dL_act_117 : decode cL_act 117 = .ok (.aload_n 0, 1) := by decide +kernel
theorem dL_act_118 : decode cL_act 118 = .ok (.iload 4, 2) := by decide +kernel
theorem dL_act_120 : decode cL_act 120 = .ok (.invokevirtual 28, 3) := by decide +kernel
theorem dL_act_123 : decode cL_act 123 = .ok (.ireturn, 1) := by decide +kernel
theorem dL_act_124 : decode cL_act 124 = .ok (.aload_n 0, 1) := by decide +kernel
theorem dL_act_125 : decode cL_act 125 = .ok (.iload 4, 2) := by decide +kernel
theorem dL_act_127 : decode cL_act 127 = .ok (.invokevirtual 31, 3) := by decide +kernel
theorem dL_act_130 : decode cL_act 130 = .ok (.ireturn, 1) := by decide +kernel
theorem dL_act_131 : decode cL_act 131 = .ok (.aload_n 0, 1) := by decide +kernel
theorem dL_act_132 : decode cL_act 132 = .ok (.iload_n 2, 1) := by decide +kernel
theorem dL_act_133 : decode cL_act 133 = .ok (.iconst 4, 1) := by decide +kernel
theorem dL_act_134 : decode cL_act 134 = .ok (.invokestatic 15, 3) := by decide +kernel
theorem dL_act_137 : decode cL_act 137 = .ok (.iload_n 3, 1) := by decide +kernel
theorem dL_act_138 : decode cL_act 138 = .ok (.bipush 20, 2) := by decide +kernel
theorem dL_act_140 : decode cL_act 140 = .ok (.invokestatic 15, 3) := by decide +kernel
theorem dL_act_143 : decode cL_act 143 = .ok (.invokevirtual 34, 3) := by decide +kernel
theorem dL_act_146 : decode cL_act 146 = .ok (.ireturn, 1) := by decide +kernel
theorem dL_act_147 : decode cL_act 147 = .ok (.aload_n 0, 1) := by decide +kernel
theorem dL_act_148 : decode cL_act 148 = .ok (.invokevirtual 37, 3) := by decide +kernel
theorem dL_act_151 : decode cL_act 151 = .ok (.ireturn, 1) := by decide +kernel
theorem dL_act_152 : decode cL_act 152 = .ok (.aload_n 0, 1) := by decide +kernel
theorem dL_act_153 : decode cL_act 153 = .ok (.iload_n 2, 1) := by decide +kernel
theorem dL_act_154 : decode cL_act 154 = .ok (.bipush 9, 2) := by decide +kernel
theorem dL_act_156 : decode cL_act 156 = .ok (.invokestatic 15, 3) := by decide +kernel
theorem dL_act_159 : decode cL_act 159 = .ok (.invokevirtual 41, 3) := by decide +kernel
theorem dL_act_162 : decode cL_act 162 = .ok (.ireturn, 1) := by decide +kernel
theorem dL_act_163 : decode cL_act 163 = .ok (.aload_n 0, 1) := by decide +kernel
theorem dL_act_164 : decode cL_act 164 = .ok (.iconst 1, 1) := by decide +kernel
theorem dL_act_165 : decode cL_act 165 = .ok (.iload_n 2, 1) := by decide +kernel
theorem dL_act_166 : decode cL_act 166 = .ok (.bipush 60, 2) := by decide +kernel
theorem dL_act_168 : decode cL_act 168 = .ok (.invokestatic 15, 3) := by decide +kernel
theorem dL_act_171 : decode cL_act 171 = .ok (.iadd, 1) := by decide +kernel
theorem dL_act_172 : decode cL_act 172 = .ok (.iload_n 3, 1) := by decide +kernel
theorem dL_act_173 : decode cL_act 173 = .ok (.iconst 3, 1) := by decide +kernel
theorem dL_act_174 : decode cL_act 174 = .ok (.invokestatic 15, 3) := by decide +kernel
theorem dL_act_177 : decode cL_act 177 = .ok (.invokestatic 44, 3) := by decide +kernel
theorem dL_act_180 : decode cL_act 180 = .ok (.ireturn, 1) := by decide +kernel
set_option maxRecDepth 20000 in
theorem ggL_gust_X3_count : GoodIn wsL_gust wsX3_count := goodIn_r _ [6, 7, 8, 9, 10, 11, 12, 13, 14, 15, 16, 17, 18, 19, 20, 21, 22, 23, 24, 25, 26, 27, 28, 29, 30, 31, 32, 33, 34, 35, 36, 37, 38, 39, 40, 41, 42, 43, 44, 45, 46, 47, 48, 49, 50, 51, 52, 53, 54, 55, 56, 57, 58, 5, 59, 168, 169, 170, 171, 172, 173, 174, 175, 176, 177, 178, 179, 180, 181, 182, 183, 184, 185, 186, 187, 188, 189, 190, 191, 192, 193, 194, 195, 196, 197, 198, 199, 200] (by decide +kernel) (by decide +kernel)
set_option maxRecDepth 20000 in
theorem gL_gust_X3_count : GoodIn wsL_gust (wsV RL 9 RX3 yX3_count wsX3_count) := goodIn_app (goodIn_of _ (by decide +kernel)) ggL_gust_X3_count
set_option maxRecDepth 20000 in
theorem ggL_gust_X3_ifGust : GoodIn wsL_gust wsX3_ifGust := goodIn_r _ [63, 7, 64, 65, 66, 67, 26, 68, 28, 69, 70, 5, 71, 72, 58, 59, 73, 74, 75, 76, 42, 43, 44, 45, 46, 47, 48, 49, 50, 51, 52, 53, 54, 55, 56, 57, 77, 78, 79, 80, 81, 82, 83, 84, 29, 85, 86, 87, 88, 89, 90, 168, 169, 170, 171, 172, 173, 174, 175, 176, 177, 178, 179, 180, 181, 182, 183, 184, 185, 186, 187, 188, 189, 190, 191] (by decide +kernel) (by decide +kernel)
set_option maxRecDepth 20000 in
theorem gL_gust_X3_ifGust : GoodIn wsL_gust (wsV RL 48 RX3 yX3_ifGust wsX3_ifGust) := goodIn_app (goodIn_of _ (by decide +kernel)) ggL_gust_X3_ifGust
set_option maxRecDepth 20000 in
theorem ggL_gust_X3_person : GoodIn wsL_gust wsX3_person := goodIn_r _ [94, 7, 95, 96, 64, 97, 98, 99, 65, 66, 67, 26, 68, 28, 100, 44, 45, 46, 42, 47, 48, 49, 50, 101, 52, 53, 54, 55, 56, 57, 102, 39, 40, 41, 43, 51, 58, 5, 59, 168, 169, 170, 171, 172, 173, 174, 175, 176, 177, 178, 179, 180, 181, 182, 183, 184, 185, 186, 187, 188, 189, 190, 191] (by decide +kernel) (by decide +kernel)
set_option maxRecDepth 20000 in
theorem gL_gust_X3_person : GoodIn wsL_gust (wsV RL 52 RX3 yX3_person wsX3_person) := goodIn_app (goodIn_of _ (by decide +kernel)) ggL_gust_X3_person
set_option maxRecDepth 20000 in
theorem ggL_gust_X3_gust : GoodIn wsL_gust wsX3_gust := goodIn_r _ [106, 19, 7, 107, 108, 109, 110, 111, 112, 113, 114, 115, 116, 117, 118, 119, 120, 26, 121, 122, 123, 124, 125, 126, 29, 127, 128, 42, 129, 130, 28, 131, 132, 133, 134, 135, 136, 137, 138, 139, 140, 141, 142, 143, 70, 5, 71, 72, 58, 59, 144, 82, 83, 84, 55, 56, 49, 57, 85, 86, 87, 88, 89, 78, 79, 80, 43, 44, 45, 46, 47, 48, 50, 51, 52, 53, 54, 90, 74, 75, 76, 145, 146, 147, 148, 149, 150, 151, 152, 153, 154, 155, 156, 157, 158, 159, 160, 161, 162, 163, 168, 169, 170, 171, 172, 173, 174, 192, 193, 175, 176, 177, 178, 179, 180, 181, 182, 183, 184, 185, 186, 187, 188, 189, 190, 191] (by decide +kernel) (by decide +kernel)
set_option maxRecDepth 20000 in
theorem gL_gust_X3_gust : GoodIn wsL_gust (wsV RL 55 RX3 yX3_gust wsX3_gust) := goodIn_app (goodIn_of _ (by decide +kernel)) ggL_gust_X3_gust
set_option maxRecDepth 20000 in
theorem ggL_gust_X3_placeOf : GoodIn wsL_gust wsX3_placeOf := goodIn_r _ [167, 7, 8, 95, 72, 58, 5, 59, 168, 169, 170, 171, 172, 173, 174, 175, 176, 177, 178, 179, 180, 181, 182, 183, 184, 185, 186, 187, 188, 189, 190, 191] (by decide +kernel) (by decide +kernel)
set_option maxRecDepth 20000 in
theorem gL_gust_X3_placeOf : GoodIn wsL_gust (wsV RL 57 RX3 yX3_placeOf wsX3_placeOf) := goodIn_app (goodIn_of _ (by decide +kernel)) ggL_gust_X3_placeOf
theorem dL_gust_0 : decode cL_gust 0 = .ok (.aload_n 0, 1) := by decide +kernel
theorem dL_gust_1 : decode cL_gust 1 = .ok (.iconst 0, 1) := by decide +kernel
theorem dL_gust_2 : decode cL_gust 2 = .ok (.invokevirtual 9, 3) := by decide +kernel
theorem dL_gust_5 : decode cL_gust 5 = .ok (.istore_n 3, 1) := by decide +kernel
theorem dL_gust_6 : decode cL_gust 6 = .ok (.bipush 16, 2) := by decide +kernel
theorem dL_gust_8 : decode cL_gust 8 = .ok (.newarray .int, 2) := by decide +kernel
theorem dL_gust_10 : decode cL_gust 10 = .ok (.astore 4, 2) := by decide +kernel
theorem dL_gust_12 : decode cL_gust 12 = .ok (.bipush 16, 2) := by decide +kernel
theorem dL_gust_14 : decode cL_gust 14 = .ok (.newarray .int, 2) := by decide +kernel
theorem dL_gust_16 : decode cL_gust 16 = .ok (.astore 5, 2) := by decide +kernel
theorem dL_gust_18 : decode cL_gust 18 = .ok (.iconst 0, 1) := by decide +kernel
theorem dL_gust_19 : decode cL_gust 19 = .ok (.istore 6, 2) := by decide +kernel
theorem dL_gust_21 : decode cL_gust 21 = .ok (.iconst 0, 1) := by decide +kernel
theorem dL_gust_22 : decode cL_gust 22 = .ok (.istore 7, 2) := by decide +kernel
theorem dL_gust_24 : decode cL_gust 24 = .ok (.iload 7, 2) := by decide +kernel
theorem dL_gust_26 : decode cL_gust 26 = .ok (.iload_n 3, 1) := by decide +kernel
theorem dL_gust_27 : decode cL_gust 27 = .ok (.if_icmp .ge 49, 3) := by decide +kernel
theorem dL_gust_30 : decode cL_gust 30 = .ok (.aload 4, 2) := by decide +kernel
theorem dL_gust_32 : decode cL_gust 32 = .ok (.iload 7, 2) := by decide +kernel
theorem dL_gust_34 : decode cL_gust 34 = .ok (.aload_n 0, 1) := by decide +kernel
theorem dL_gust_35 : decode cL_gust 35 = .ok (.iload 7, 2) := by decide +kernel
theorem dL_gust_37 : decode cL_gust 37 = .ok (.iload_n 1, 1) := by decide +kernel
theorem dL_gust_38 : decode cL_gust 38 = .ok (.iload_n 2, 1) := by decide +kernel
theorem dL_gust_39 : decode cL_gust 39 = .ok (.iconst 2, 1) := by decide +kernel
theorem dL_gust_40 : decode cL_gust 40 = .ok (.invokevirtual 48, 3) := by decide +kernel
theorem dL_gust_43 : decode cL_gust 43 = .ok (.iastore, 1) := by decide +kernel
theorem dL_gust_44 : decode cL_gust 44 = .ok (.aload 5, 2) := by decide +kernel
theorem dL_gust_46 : decode cL_gust 46 = .ok (.iload 7, 2) := by decide +kernel
theorem dL_gust_48 : decode cL_gust 48 = .ok (.aload_n 0, 1) := by decide +kernel
theorem dL_gust_49 : decode cL_gust 49 = .ok (.iload 7, 2) := by decide +kernel
theorem dL_gust_51 : decode cL_gust 51 = .ok (.iconst 0, 1) := by decide +kernel
theorem dL_gust_52 : decode cL_gust 52 = .ok (.invokevirtual 52, 3) := by decide +kernel
theorem dL_gust_55 : decode cL_gust 55 = .ok (.iastore, 1) := by decide +kernel
theorem dL_gust_56 : decode cL_gust 56 = .ok (.iload 6, 2) := by decide +kernel
theorem dL_gust_58 : decode cL_gust 58 = .ok (.aload_n 0, 1) := by decide +kernel
theorem dL_gust_59 : decode cL_gust 59 = .ok (.iload 7, 2) := by decide +kernel
theorem dL_gust_61 : decode cL_gust 61 = .ok (.iload_n 1, 1) := by decide +kernel
theorem dL_gust_62 : decode cL_gust 62 = .ok (.iload_n 2, 1) := by decide +kernel
theorem dL_gust_63 : decode cL_gust 63 = .ok (.iconst 3, 1) := by decide +kernel
theorem dL_gust_64 : decode cL_gust 64 = .ok (.invokevirtual 48, 3) := by decide +kernel
theorem dL_gust_67 : decode cL_gust 67 = .ok (.iadd, 1) := by decide +kernel
theorem dL_gust_68 : decode cL_gust 68 = .ok (.istore 6, 2) := by decide +kernel
theorem dL_gust_70 : decode cL_gust 70 = .ok (.iinc 7 1, 3) := by decide +kernel
theorem dL_gust_73 : decode cL_gust 73 = .ok (.goto (-49), 3) := by decide +kernel
theorem dL_gust_76 : decode cL_gust 76 = .ok (.aload_n 0, 1) := by decide +kernel
theorem dL_gust_77 : decode cL_gust 77 = .ok (.iconst 3, 1) := by decide +kernel
theorem dL_gust_78 : decode cL_gust 78 = .ok (.invokevirtual 9, 3) := by decide +kernel
theorem dL_gust_81 : decode cL_gust 81 = .ok (.istore 7, 2) := by decide +kernel
theorem dL_gust_83 : decode cL_gust 83 = .ok (.aload_n 0, 1) := by decide +kernel
theorem dL_gust_84 : decode cL_gust 84 = .ok (.iload_n 1, 1) := by decide +kernel
theorem dL_gust_85 : decode cL_gust 85 = .ok (.iload_n 2, 1) := by decide +kernel
theorem dL_gust_86 : decode cL_gust 86 = .ok (.invokevirtual 55, 3) := by decide +kernel
theorem dL_gust_89 : decode cL_gust 89 = .ok (.istore 8, 2) := by decide +kernel
theorem dL_gust_91 : decode cL_gust 91 = .ok (.iload_n 3, 1) := by decide +kernel
theorem dL_gust_92 : decode cL_gust 92 = .ok (.ifCond .ne 18, 3) := by decide +kernel
theorem dL_gust_95 : decode cL_gust 95 = .ok (.iload 8, 2) := by decide +kernel
theorem dL_gust_97 : decode cL_gust 97 = .ok (.bipush (-5), 2) := by decide +kernel
theorem dL_gust_99 : decode cL_gust 99 = .ok (.if_icmp .ne 7, 3) := by decide +kernel
theorem dL_gust_102 : decode cL_gust 102 = .ok (.iconst 1, 1) := by decide +kernel
theorem dL_gust_103 : decode cL_gust 103 = .ok (.goto 44, 3) := by decide +kernel
theorem dL_gust_106 : decode cL_gust 106 = .ok (.iconst 0, 1) := by decide +kernel
theorem dL_gust_107 : decode cL_gust 107 = .ok (.goto 40, 3) := by decide +kernel
theorem dL_gust_110 : decode cL_gust 110 = .ok (.iload 8, 2) := by decide +kernel
theorem dL_gust_112 : decode cL_gust 112 = .ok (.iload 6, 2) := by decide +kernel
theorem dL_gust_114 : decode cL_gust 114 = .ok (.if_icmp .ne 32, 3) := by decide +kernel
theorem dL_gust_117 : decode cL_gust 117 = .ok (.aload_n 0, 1) := by decide +kernel
theorem dL_gust_118 : decode cL_gust 118 = .ok (.iconst 3, 1) := by decide +kernel
theorem dL_gust_119 : decode cL_gust 119 = .ok (.invokevirtual 9, 3) := by decide +kernel
theorem dL_gust_122 : decode cL_gust 122 = .ok (.iload 7, 2) := by decide +kernel
theorem dL_gust_124 : decode cL_gust 124 = .ok (.iload 6, 2) := by decide +kernel
theorem dL_gust_126 : decode cL_gust 126 = .ok (.iadd, 1) := by decide +kernel
theorem dL_gust_127 : decode cL_gust 127 = .ok (.if_icmp .ne 19, 3) := by decide +kernel
theorem dL_gust_130 : decode cL_gust 130 = .ok (.aload_n 0, 1) := by decide +kernel
theorem dL_gust_131 : decode cL_gust 131 = .ok (.iconst 0, 1) := by decide +kernel
theorem dL_gust_132 : decode cL_gust 132 = .ok (.invokevirtual 9, 3) := by decide +kernel
theorem dL_gust_135 : decode cL_gust 135 = .ok (.iload_n 3, 1) := by decide +kernel
theorem dL_gust_136 : decode cL_gust 136 = .ok (.iload 6, 2) := by decide +kernel
theorem dL_gust_138 : decode cL_gust 138 = .ok (.isub, 1) := by decide +kernel
theorem dL_gust_139 : decode cL_gust 139 = .ok (.if_icmp .ne 7, 3) := by decide +kernel
theorem dL_gust_142 : decode cL_gust 142 = .ok (.iconst 1, 1) := by decide +kernel
theorem dL_gust_143 : decode cL_gust 143 = .ok (.goto 4, 3) := by decide +kernel
theorem dL_gust_146 : decode cL_gust 146 = .ok (.iconst 0, 1) := by decide +kernel
theorem dL_gust_147 : decode cL_gust 147 = .ok (.istore 9, 2) := by decide +kernel
theorem dL_gust_149 : decode cL_gust 149 = .ok (.iconst 0, 1) := by decide +kernel
theorem dL_gust_150 : decode cL_gust 150 = .ok (.istore 10, 2) := by decide +kernel
theorem dL_gust_152 : decode cL_gust 152 = .ok (.iload 10, 2) := by decide +kernel
theorem dL_gust_154 : decode cL_gust 154 = .ok (.iload_n 3, 1) := by decide +kernel
theorem dL_gust_155 : decode cL_gust 155 = .ok (.if_icmp .ge 69, 3) := by decide +kernel
theorem dL_gust_158 : decode cL_gust 158 = .ok (.iload 9, 2) := by decide +kernel
theorem dL_gust_160 : decode cL_gust 160 = .ok (.ifCond .eq 64, 3) := by decide +kernel
theorem dL_gust_163 : decode cL_gust 163 = .ok (.aload_n 0, 1) := by decide +kernel
theorem dL_gust_164 : decode cL_gust 164 = .ok (.aload 5, 2) := by decide +kernel
theorem dL_gust_166 : decode cL_gust 166 = .ok (.iload 10, 2) := by decide +kernel
theorem dL_gust_168 : decode cL_gust 168 = .ok (.iaload, 1) := by decide +kernel
theorem dL_gust_169 : decode cL_gust 169 = .ok (.invokevirtual 57, 3) := by decide +kernel
theorem dL_gust_172 : decode cL_gust 172 = .ok (.istore 11, 2) := by decide +kernel
theorem dL_gust_174 : decode cL_gust 174 = .ok (.iload 11, 2) := by decide +kernel
theorem dL_gust_176 : decode cL_gust 176 = .ok (.bipush (-5), 2) := by decide +kernel
theorem dL_gust_178 : decode cL_gust 178 = .ok (.if_icmp .eq 33, 3) := by decide +kernel
theorem dL_gust_181 : decode cL_gust 181 = .ok (.aload_n 0, 1) := by decide +kernel
theorem dL_gust_182 : decode cL_gust 182 = .ok (.iload 11, 2) := by decide +kernel
theorem dL_gust_184 : decode cL_gust 184 = .ok (.iconst 1, 1) := by decide +kernel
theorem dL_gust_185 : decode cL_gust 185 = .ok (.invokevirtual 52, 3) := by decide +kernel
theorem dL_gust_188 : decode cL_gust 188 = .ok (.aload 4, 2) := by decide +kernel
theorem dL_gust_190 : decode cL_gust 190 = .ok (.iload 10, 2) := by decide +kernel
theorem dL_gust_192 : decode cL_gust 192 = .ok (.iaload, 1) := by decide +kernel
theorem dL_gust_193 : decode cL_gust 193 = .ok (.if_icmp .ne 22, 3) := by decide +kernel
theorem dL_gust_196 : decode cL_gust 196 = .ok (.aload 4, 2) := by decide +kernel
theorem dL_gust_198 : decode cL_gust 198 = .ok (.iload 10, 2) := by decide +kernel
theorem dL_gust_200 : decode cL_gust 200 = .ok (.iaload, 1) := by decide +kernel
theorem dL_gust_201 : decode cL_gust 201 = .ok (.aload_n 0, 1) := by decide +kernel
theorem dL_gust_202 : decode cL_gust 202 = .ok (.iload 11, 2) := by decide +kernel
theorem dL_gust_204 : decode cL_gust 204 = .ok (.iconst 2, 1) := by decide +kernel
theorem dL_gust_205 : decode cL_gust 205 = .ok (.invokevirtual 52, 3) := by decide +kernel
theorem dL_gust_208 : decode cL_gust 208 = .ok (.if_icmp .gt 7, 3) := by decide +kernel
theorem dL_gust_211 : decode cL_gust 211 = .ok (.iconst 1, 1) := by decide +kernel
theorem dL_gust_212 : decode cL_gust 212 = .ok (.goto 4, 3) := by decide +kernel
theorem dL_gust_215 : decode cL_gust 215 = .ok (.iconst 0, 1) := by decide +kernel
theorem dL_gust_216 : decode cL_gust 216 = .ok (.istore 9, 2) := by decide +kernel
theorem dL_gust_218 : decode cL_gust 218 = .ok (.iinc 10 1, 3) := by decide +kernel
theorem dL_gust_221 : decode cL_gust 221 = .ok (.goto (-69), 3) := by decide +kernel
theorem dL_gust_224 : decode cL_gust 224 = .ok (.iload 9, 2) := by decide +kernel
theorem dL_gust_226 : decode cL_gust 226 = .ok (.ifCond .eq 8, 3) := by decide +kernel
theorem dL_gust_229 : decode cL_gust 229 = .ok (.iload 8, 2) := by decide +kernel
theorem dL_gust_231 : decode cL_gust 231 = .ok (.goto 5, 3) := by decide +kernel
theorem dL_gust_234 : decode cL_gust 234 = .ok (.bipush (-100), 2) := by decide +kernel
theorem dL_gust_236 : decode cL_gust 236 = .ok (.ireturn, 1) := by decide +kernel
set_option maxRecDepth 20000 in
theorem ggL_reaches_X3_person : GoodIn wsL_reaches wsX3_person := goodIn_r _ [5, 6, 7, 8, 9, 10, 11, 12, 13, 14, 15, 16, 17, 18, 19, 20, 21, 22, 23, 24, 25, 26, 27, 28, 29, 30, 31, 32, 33, 34, 35, 36, 37, 38, 39, 40, 41, 4, 42, 76, 77, 78, 79, 80, 81, 82, 83, 84, 85, 86, 87, 88, 89, 90, 91, 92, 93, 94, 95, 96, 97, 98, 99] (by decide +kernel) (by decide +kernel)
set_option maxRecDepth 20000 in
theorem gL_reaches_X3_person : GoodIn wsL_reaches (wsV RL 52 RX3 yX3_person wsX3_person) := goodIn_app (goodIn_of _ (by decide +kernel)) ggL_reaches_X3_person
set_option maxRecDepth 20000 in
theorem ggL_reaches_X3_count : GoodIn wsL_reaches wsX3_count := goodIn_r _ [46, 6, 47, 48, 49, 50, 51, 52, 53, 54, 55, 56, 57, 58, 59, 60, 61, 62, 63, 64, 16, 65, 18, 66, 67, 68, 69, 70, 71, 72, 73, 74, 75, 36, 37, 38, 23, 39, 20, 21, 22, 24, 25, 26, 27, 40, 29, 30, 31, 32, 33, 34, 41, 4, 42, 76, 77, 78, 79, 80, 81, 82, 83, 84, 85, 86, 87, 88, 89, 90, 91, 92, 93, 94, 95, 96, 97, 98, 99, 100, 101, 102, 103, 104, 105, 106, 107, 108] (by decide +kernel) (by decide +kernel)
set_option maxRecDepth 20000 in
theorem gL_reaches_X3_count : GoodIn wsL_reaches (wsV RL 9 RX3 yX3_count wsX3_count) := goodIn_app (goodIn_of _ (by decide +kernel)) ggL_reaches_X3_count
theorem dL_reaches_0 : decode cL_reaches 0 = .ok (.aload_n 0, 1) := by decide +kernel
theorem dL_reaches_1 : decode cL_reaches 1 = .ok (.iload_n 1, 1) := by decide +kernel
theorem dL_reaches_2 : decode cL_reaches 2 = .ok (.iconst 4, 1) := by decide +kernel
theorem dL_reaches_3 : decode cL_reaches 3 = .ok (.invokevirtual 52, 3) := by decide +kernel
theorem dL_reaches_6 : decode cL_reaches 6 = .ok (.istore_n 3, 1) := by decide +kernel
theorem dL_reaches_7 : decode cL_reaches 7 = .ok (.iload_n 3, 1) := by decide +kernel
theorem dL_reaches_8 : decode cL_reaches 8 = .ok (.ifCond .le 40, 3) := by decide +kernel
theorem dL_reaches_11 : decode cL_reaches 11 = .ok (.iload_n 2, 1) := by decide +kernel
theorem dL_reaches_12 : decode cL_reaches 12 = .ok (.ifCond .lt 36, 3) := by decide +kernel
theorem dL_reaches_15 : decode cL_reaches 15 = .ok (.iload_n 2, 1) := by decide +kernel
theorem dL_reaches_16 : decode cL_reaches 16 = .ok (.aload_n 0, 1) := by decide +kernel
theorem dL_reaches_17 : decode cL_reaches 17 = .ok (.iconst 0, 1) := by decide +kernel
theorem dL_reaches_18 : decode cL_reaches 18 = .ok (.invokevirtual 9, 3) := by decide +kernel
theorem dL_reaches_21 : decode cL_reaches 21 = .ok (.if_icmp .ge 27, 3) := by decide +kernel
theorem dL_reaches_24 : decode cL_reaches 24 = .ok (.iload_n 2, 1) := by decide +kernel
theorem dL_reaches_25 : decode cL_reaches 25 = .ok (.iload_n 1, 1) := by decide +kernel
theorem dL_reaches_26 : decode cL_reaches 26 = .ok (.iload_n 3, 1) := by decide +kernel
theorem dL_reaches_27 : decode cL_reaches 27 = .ok (.iconst 2, 1) := by decide +kernel
theorem dL_reaches_28 : decode cL_reaches 28 = .ok (.idiv, 1) := by decide +kernel
theorem dL_reaches_29 : decode cL_reaches 29 = .ok (.isub, 1) := by decide +kernel
theorem dL_reaches_30 : decode cL_reaches 30 = .ok (.if_icmp .lt 18, 3) := by decide +kernel
theorem dL_reaches_33 : decode cL_reaches 33 = .ok (.iload_n 2, 1) := by decide +kernel
theorem dL_reaches_34 : decode cL_reaches 34 = .ok (.iload_n 1, 1) := by decide +kernel
theorem dL_reaches_35 : decode cL_reaches 35 = .ok (.iload_n 3, 1) := by decide +kernel
theorem dL_reaches_36 : decode cL_reaches 36 = .ok (.iconst 1, 1) := by decide +kernel
theorem dL_reaches_37 : decode cL_reaches 37 = .ok (.isub, 1) := by decide +kernel
theorem dL_reaches_38 : decode cL_reaches 38 = .ok (.iconst 2, 1) := by decide +kernel
theorem dL_reaches_39 : decode cL_reaches 39 = .ok (.idiv, 1) := by decide +kernel
theorem dL_reaches_40 : decode cL_reaches 40 = .ok (.iadd, 1) := by decide +kernel
theorem dL_reaches_41 : decode cL_reaches 41 = .ok (.if_icmp .gt 7, 3) := by decide +kernel
theorem dL_reaches_44 : decode cL_reaches 44 = .ok (.iconst 1, 1) := by decide +kernel
theorem dL_reaches_45 : decode cL_reaches 45 = .ok (.goto 4, 3) := by decide +kernel
theorem dL_reaches_48 : decode cL_reaches 48 = .ok (.iconst 0, 1) := by decide +kernel
theorem dL_reaches_49 : decode cL_reaches 49 = .ok (.ireturn, 1) := by decide +kernel
set_option maxRecDepth 20000 in
theorem ggL_isGust_X3_count : GoodIn wsL_isGust wsX3_count := goodIn_r _ [5, 6, 7, 8, 9, 10, 11, 12, 13, 14, 15, 16, 17, 18, 19, 20, 21, 22, 23, 24, 25, 26, 27, 28, 29, 30, 31, 32, 33, 34, 35, 36, 37, 38, 39, 40, 41, 42, 43, 44, 45, 46, 47, 48, 49, 50, 51, 52, 53, 54, 55, 56, 57, 4, 58, 106, 107, 108, 109, 110, 111, 112, 113, 114, 115, 116, 117, 118, 119, 120, 121, 122, 123, 124, 125, 126, 127, 128, 129, 130, 131, 132, 133, 134, 135, 136, 137, 138] (by decide +kernel) (by decide +kernel)
set_option maxRecDepth 20000 in
theorem gL_isGust_X3_count : GoodIn wsL_isGust (wsV RL 9 RX3 yX3_count wsX3_count) := goodIn_app (goodIn_of _ (by decide +kernel)) ggL_isGust_X3_count
set_option maxRecDepth 20000 in
theorem ggL_isGust_L_reaches : GoodIn wsL_isGust wsL_reaches := goodIn_r _ [62, 63, 64, 65, 4, 66, 6, 67, 68, 69, 70, 71, 72, 73, 74, 75, 25, 76, 27, 77, 43, 44, 45, 41, 46, 47, 48, 49, 78, 51, 52, 53, 54, 55, 56, 79, 38, 39, 40, 42, 50, 57, 58, 1, 2, 3, 5, 7, 8, 9, 10, 11, 12, 13, 14, 15, 16, 17, 18, 19, 20, 21, 22, 23, 24, 26, 28, 29, 30, 31, 32, 33, 34, 35, 36, 37, 106, 107, 108, 109, 110, 111, 112, 113, 114, 115, 116, 117, 118, 119, 120, 121, 122, 123, 124, 125, 126, 127, 128, 129, 130, 131, 132, 133, 134, 135, 136, 137, 138] (by decide +kernel) (by decide +kernel)
set_option maxRecDepth 20000 in
theorem gL_isGust_L_reaches : GoodIn wsL_isGust (va_wsS RL 60 yL_reaches wsL_reaches) := goodIn_app (goodIn_of _ (by decide +kernel)) ggL_isGust_L_reaches
set_option maxRecDepth 20000 in
theorem ggL_isGust_X3_person : GoodIn wsL_isGust wsX3_person := goodIn_r _ [66, 6, 67, 68, 69, 70, 71, 72, 73, 74, 75, 25, 76, 27, 77, 43, 44, 45, 41, 46, 47, 48, 49, 78, 51, 52, 53, 54, 55, 56, 79, 38, 39, 40, 42, 50, 57, 4, 58, 106, 107, 108, 109, 110, 111, 112, 113, 114, 115, 116, 117, 118, 119, 120, 121, 122, 123, 124, 125, 126, 127, 128, 129] (by decide +kernel) (by decide +kernel)
set_option maxRecDepth 20000 in
theorem gL_isGust_X3_person : GoodIn wsL_isGust (wsV RL 52 RX3 yX3_person wsX3_person) := goodIn_app (goodIn_of _ (by decide +kernel)) ggL_isGust_X3_person
set_option maxRecDepth 20000 in
theorem ggL_isGust_X3_ifGust : GoodIn wsL_isGust wsX3_ifGust := goodIn_r _ [83, 6, 69, 73, 74, 75, 25, 76, 27, 84, 85, 4, 86, 87, 57, 58, 88, 89, 90, 91, 41, 42, 43, 44, 45, 46, 47, 48, 49, 50, 51, 52, 53, 54, 55, 56, 92, 93, 94, 95, 96, 97, 98, 99, 28, 100, 101, 102, 103, 104, 105, 106, 107, 108, 109, 110, 111, 112, 113, 114, 115, 116, 117, 118, 119, 120, 121, 122, 123, 124, 125, 126, 127, 128, 129] (by decide +kernel) (by decide +kernel)
set_option maxRecDepth 20000 in
theorem gL_isGust_X3_ifGust : GoodIn wsL_isGust (wsV RL 48 RX3 yX3_ifGust wsX3_ifGust) := goodIn_app (goodIn_of _ (by decide +kernel)) ggL_isGust_X3_ifGust
theorem dL_isGust_0 : decode cL_isGust 0 = .ok (.iconst 0, 1) := by decide +kernel
theorem dL_isGust_1 : decode cL_isGust 1 = .ok (.istore 4, 2) := by decide +kernel
theorem dL_isGust_3 : decode cL_isGust 3 = .ok (.iconst 0, 1) := by decide +kernel
theorem dL_isGust_4 : decode cL_isGust 4 = .ok (.istore 5, 2) := by decide +kernel
theorem dL_isGust_6 : decode cL_isGust 6 = .ok (.iconst 0, 1) := by decide +kernel
theorem dL_isGust_7 : decode cL_isGust 7 = .ok (.istore 6, 2) := by decide +kernel
theorem dL_isGust_9 : decode cL_isGust 9 = .ok (.iload 6, 2) := by decide +kernel
theorem dL_isGust_11 : decode cL_isGust 11 = .ok (.aload_n 0, 1) := by decide +kernel
theorem dL_isGust_12 : decode cL_isGust 12 = .ok (.iconst 0, 1) := by decide +kernel
theorem dL_isGust_13 : decode cL_isGust 13 = .ok (.invokevirtual 9, 3) := by decide +kernel
theorem dL_isGust_16 : decode cL_isGust 16 = .ok (.if_icmp .ge 106, 3) := by decide +kernel
theorem dL_isGust_19 : decode cL_isGust 19 = .ok (.aload_n 0, 1) := by decide +kernel
theorem dL_isGust_20 : decode cL_isGust 20 = .ok (.iload 6, 2) := by decide +kernel
theorem dL_isGust_22 : decode cL_isGust 22 = .ok (.iload_n 1, 1) := by decide +kernel
theorem dL_isGust_23 : decode cL_isGust 23 = .ok (.invokestatic 60, 3) := by decide +kernel
theorem dL_isGust_26 : decode cL_isGust 26 = .ok (.istore 7, 2) := by decide +kernel
theorem dL_isGust_28 : decode cL_isGust 28 = .ok (.iload 4, 2) := by decide +kernel
theorem dL_isGust_30 : decode cL_isGust 30 = .ok (.iload 7, 2) := by decide +kernel
theorem dL_isGust_32 : decode cL_isGust 32 = .ok (.ifCond .ne 37, 3) := by decide +kernel
theorem dL_isGust_35 : decode cL_isGust 35 = .ok (.iload_n 3, 1) := by decide +kernel
theorem dL_isGust_36 : decode cL_isGust 36 = .ok (.iconst 1, 1) := by decide +kernel
theorem dL_isGust_37 : decode cL_isGust 37 = .ok (.if_icmp .ne 15, 3) := by decide +kernel
theorem dL_isGust_40 : decode cL_isGust 40 = .ok (.aload_n 0, 1) := by decide +kernel
theorem dL_isGust_41 : decode cL_isGust 41 = .ok (.iload 6, 2) := by decide +kernel
theorem dL_isGust_43 : decode cL_isGust 43 = .ok (.iload_n 1, 1) := by decide +kernel
theorem dL_isGust_44 : decode cL_isGust 44 = .ok (.iconst 1, 1) := by decide +kernel
theorem dL_isGust_45 : decode cL_isGust 45 = .ok (.isub, 1) := by decide +kernel
theorem dL_isGust_46 : decode cL_isGust 46 = .ok (.invokestatic 60, 3) := by decide +kernel
theorem dL_isGust_49 : decode cL_isGust 49 = .ok (.ifCond .ne 20, 3) := by decide +kernel
theorem dL_isGust_52 : decode cL_isGust 52 = .ok (.iload_n 3, 1) := by decide +kernel
theorem dL_isGust_53 : decode cL_isGust 53 = .ok (.iconst 2, 1) := by decide +kernel
theorem dL_isGust_54 : decode cL_isGust 54 = .ok (.if_icmp .ne 19, 3) := by decide +kernel
theorem dL_isGust_57 : decode cL_isGust 57 = .ok (.aload_n 0, 1) := by decide +kernel
theorem dL_isGust_58 : decode cL_isGust 58 = .ok (.iload 6, 2) := by decide +kernel
theorem dL_isGust_60 : decode cL_isGust 60 = .ok (.iload_n 1, 1) := by decide +kernel
theorem dL_isGust_61 : decode cL_isGust 61 = .ok (.iconst 1, 1) := by decide +kernel
theorem dL_isGust_62 : decode cL_isGust 62 = .ok (.iadd, 1) := by decide +kernel
theorem dL_isGust_63 : decode cL_isGust 63 = .ok (.invokestatic 60, 3) := by decide +kernel
theorem dL_isGust_66 : decode cL_isGust 66 = .ok (.ifCond .eq 7, 3) := by decide +kernel
theorem dL_isGust_69 : decode cL_isGust 69 = .ok (.iconst 1, 1) := by decide +kernel
theorem dL_isGust_70 : decode cL_isGust 70 = .ok (.goto 4, 3) := by decide +kernel
theorem dL_isGust_73 : decode cL_isGust 73 = .ok (.iconst 0, 1) := by decide +kernel
theorem dL_isGust_74 : decode cL_isGust 74 = .ok (.iadd, 1) := by decide +kernel
theorem dL_isGust_75 : decode cL_isGust 75 = .ok (.istore 4, 2) := by decide +kernel
theorem dL_isGust_77 : decode cL_isGust 77 = .ok (.iload 5, 2) := by decide +kernel
theorem dL_isGust_79 : decode cL_isGust 79 = .ok (.iload 7, 2) := by decide +kernel
theorem dL_isGust_81 : decode cL_isGust 81 = .ok (.ifCond .ne 31, 3) := by decide +kernel
theorem dL_isGust_84 : decode cL_isGust 84 = .ok (.aload_n 0, 1) := by decide +kernel
theorem dL_isGust_85 : decode cL_isGust 85 = .ok (.iload 6, 2) := by decide +kernel
theorem dL_isGust_87 : decode cL_isGust 87 = .ok (.iload_n 1, 1) := by decide +kernel
theorem dL_isGust_88 : decode cL_isGust 88 = .ok (.iconst 1, 1) := by decide +kernel
theorem dL_isGust_89 : decode cL_isGust 89 = .ok (.isub, 1) := by decide +kernel
theorem dL_isGust_90 : decode cL_isGust 90 = .ok (.invokestatic 60, 3) := by decide +kernel
theorem dL_isGust_93 : decode cL_isGust 93 = .ok (.ifCond .ne 15, 3) := by decide +kernel
theorem dL_isGust_96 : decode cL_isGust 96 = .ok (.aload_n 0, 1) := by decide +kernel
theorem dL_isGust_97 : decode cL_isGust 97 = .ok (.iload 6, 2) := by decide +kernel
theorem dL_isGust_99 : decode cL_isGust 99 = .ok (.iload_n 1, 1) := by decide +kernel
theorem dL_isGust_100 : decode cL_isGust 100 = .ok (.iconst 1, 1) := by decide +kernel
theorem dL_isGust_101 : decode cL_isGust 101 = .ok (.iadd, 1) := by decide +kernel
theorem dL_isGust_102 : decode cL_isGust 102 = .ok (.invokestatic 60, 3) := by decide +kernel
theorem dL_isGust_105 : decode cL_isGust 105 = .ok (.ifCond .eq 7, 3) := by decide +kernel
theorem dL_isGust_108 : decode cL_isGust 108 = .ok (.iconst 1, 1) := by decide +kernel
theorem dL_isGust_109 : decode cL_isGust 109 = .ok (.goto 4, 3) := by decide +kernel
theorem dL_isGust_112 : decode cL_isGust 112 = .ok (.iconst 0, 1) := by decide +kernel
theorem dL_isGust_113 : decode cL_isGust 113 = .ok (.iadd, 1) := by decide +kernel
theorem dL_isGust_114 : decode cL_isGust 114 = .ok (.istore 5, 2) := by decide +kernel
theorem dL_isGust_116 : decode cL_isGust 116 = .ok (.iinc 6 1, 3) := by decide +kernel
theorem dL_isGust_119 : decode cL_isGust 119 = .ok (.goto (-110), 3) := by decide +kernel
theorem dL_isGust_122 : decode cL_isGust 122 = .ok (.aload_n 0, 1) := by decide +kernel
theorem dL_isGust_123 : decode cL_isGust 123 = .ok (.iload_n 1, 1) := by decide +kernel
theorem dL_isGust_124 : decode cL_isGust 124 = .ok (.iconst 1, 1) := by decide +kernel
theorem dL_isGust_125 : decode cL_isGust 125 = .ok (.invokevirtual 52, 3) := by decide +kernel
theorem dL_isGust_128 : decode cL_isGust 128 = .ok (.iload 4, 2) := by decide +kernel
theorem dL_isGust_130 : decode cL_isGust 130 = .ok (.ifCond .le 7, 3) := by decide +kernel
theorem dL_isGust_133 : decode cL_isGust 133 = .ok (.iconst 0, 1) := by decide +kernel
theorem dL_isGust_134 : decode cL_isGust 134 = .ok (.goto 4, 3) := by decide +kernel
theorem dL_isGust_137 : decode cL_isGust 137 = .ok (.iload_n 2, 1) := by decide +kernel
theorem dL_isGust_138 : decode cL_isGust 138 = .ok (.iadd, 1) := by decide +kernel
theorem dL_isGust_139 : decode cL_isGust 139 = .ok (.iload 5, 2) := by decide +kernel
theorem dL_isGust_141 : decode cL_isGust 141 = .ok (.iload_n 2, 1) := by decide +kernel
theorem dL_isGust_142 : decode cL_isGust 142 = .ok (.iconst 2, 1) := by decide +kernel
theorem dL_isGust_143 : decode cL_isGust 143 = .ok (.idiv, 1) := by decide +kernel
theorem dL_isGust_144 : decode cL_isGust 144 = .ok (.imul, 1) := by decide +kernel
theorem dL_isGust_145 : decode cL_isGust 145 = .ok (.iadd, 1) := by decide +kernel
theorem dL_isGust_146 : decode cL_isGust 146 = .ok (.istore 6, 2) := by decide +kernel
theorem dL_isGust_148 : decode cL_isGust 148 = .ok (.iload 6, 2) := by decide +kernel
theorem dL_isGust_150 : decode cL_isGust 150 = .ok (.sipush 999, 3) := by decide +kernel
theorem dL_isGust_153 : decode cL_isGust 153 = .ok (.if_icmp .le 9, 3) := by decide +kernel
theorem dL_isGust_156 : decode cL_isGust 156 = .ok (.sipush 999, 3) := by decide +kernel
theorem dL_isGust_159 : decode cL_isGust 159 = .ok (.goto 5, 3) := by decide +kernel
theorem dL_isGust_162 : decode cL_isGust 162 = .ok (.iload 6, 2) := by decide +kernel
theorem dL_isGust_164 : decode cL_isGust 164 = .ok (.istore 6, 2) := by decide +kernel
theorem dL_isGust_166 : decode cL_isGust 166 = .ok (.aload_n 0, 1) := by decide +kernel
theorem dL_isGust_167 : decode cL_isGust 167 = .ok (.iload_n 1, 1) := by decide +kernel
theorem dL_isGust_168 : decode cL_isGust 168 = .ok (.iload_n 2, 1) := by decide +kernel
theorem dL_isGust_169 : decode cL_isGust 169 = .ok (.iload_n 3, 1) := by decide +kernel
theorem dL_isGust_170 : decode cL_isGust 170 = .ok (.iconst 0, 1) := by decide +kernel
theorem dL_isGust_171 : decode cL_isGust 171 = .ok (.invokevirtual 48, 3) := by decide +kernel
theorem dL_isGust_174 : decode cL_isGust 174 = .ok (.iload 4, 2) := by decide +kernel
theorem dL_isGust_176 : decode cL_isGust 176 = .ok (.ifCond .le 7, 3) := by decide +kernel
theorem dL_isGust_179 : decode cL_isGust 179 = .ok (.iconst 1, 1) := by decide +kernel
theorem dL_isGust_180 : decode cL_isGust 180 = .ok (.goto 4, 3) := by decide +kernel
theorem dL_isGust_183 : decode cL_isGust 183 = .ok (.iconst 0, 1) := by decide +kernel
theorem dL_isGust_184 : decode cL_isGust 184 = .ok (.if_icmp .ne 60, 3) := by decide +kernel
theorem dL_isGust_187 : decode cL_isGust 187 = .ok (.aload_n 0, 1) := by decide +kernel
theorem dL_isGust_188 : decode cL_isGust 188 = .ok (.iload_n 1, 1) := by decide +kernel
theorem dL_isGust_189 : decode cL_isGust 189 = .ok (.iload_n 2, 1) := by decide +kernel
theorem dL_isGust_190 : decode cL_isGust 190 = .ok (.iload_n 3, 1) := by decide +kernel
theorem dL_isGust_191 : decode cL_isGust 191 = .ok (.iconst 1, 1) := by decide +kernel
theorem dL_isGust_192 : decode cL_isGust 192 = .ok (.invokevirtual 48, 3) := by decide +kernel
theorem dL_isGust_195 : decode cL_isGust 195 = .ok (.iload 5, 2) := by decide +kernel
theorem dL_isGust_197 : decode cL_isGust 197 = .ok (.if_icmp .ne 47, 3) := by decide +kernel
theorem dL_isGust_200 : decode cL_isGust 200 = .ok (.aload_n 0, 1) := by decide +kernel
theorem dL_isGust_201 : decode cL_isGust 201 = .ok (.iload_n 1, 1) := by decide +kernel
theorem dL_isGust_202 : decode cL_isGust 202 = .ok (.iload_n 2, 1) := by decide +kernel
theorem dL_isGust_203 : decode cL_isGust 203 = .ok (.iload_n 3, 1) := by decide +kernel
theorem dL_isGust_204 : decode cL_isGust 204 = .ok (.iconst 2, 1) := by decide +kernel
theorem dL_isGust_205 : decode cL_isGust 205 = .ok (.invokevirtual 48, 3) := by decide +kernel
theorem dL_isGust_208 : decode cL_isGust 208 = .ok (.iload 6, 2) := by decide +kernel
theorem dL_isGust_210 : decode cL_isGust 210 = .ok (.if_icmp .ne 34, 3) := by decide +kernel
theorem dL_isGust_213 : decode cL_isGust 213 = .ok (.aload_n 0, 1) := by decide +kernel
theorem dL_isGust_214 : decode cL_isGust 214 = .ok (.iload_n 1, 1) := by decide +kernel
theorem dL_isGust_215 : decode cL_isGust 215 = .ok (.iload_n 2, 1) := by decide +kernel
theorem dL_isGust_216 : decode cL_isGust 216 = .ok (.iload_n 3, 1) := by decide +kernel
theorem dL_isGust_217 : decode cL_isGust 217 = .ok (.iconst 3, 1) := by decide +kernel
theorem dL_isGust_218 : decode cL_isGust 218 = .ok (.invokevirtual 48, 3) := by decide +kernel
theorem dL_isGust_221 : decode cL_isGust 221 = .ok (.iload 6, 2) := by decide +kernel
theorem dL_isGust_223 : decode cL_isGust 223 = .ok (.aload_n 0, 1) := by decide +kernel
theorem dL_isGust_224 : decode cL_isGust 224 = .ok (.iload_n 1, 1) := by decide +kernel
theorem dL_isGust_225 : decode cL_isGust 225 = .ok (.iconst 2, 1) := by decide +kernel
theorem dL_isGust_226 : decode cL_isGust 226 = .ok (.invokevirtual 52, 3) := by decide +kernel
theorem dL_isGust_229 : decode cL_isGust 229 = .ok (.if_icmp .le 7, 3) := by decide +kernel
theorem dL_isGust_232 : decode cL_isGust 232 = .ok (.iconst 1, 1) := by decide +kernel
theorem dL_isGust_233 : decode cL_isGust 233 = .ok (.goto 4, 3) := by decide +kernel
theorem dL_isGust_236 : decode cL_isGust 236 = .ok (.iconst 0, 1) := by decide +kernel
theorem dL_isGust_237 : decode cL_isGust 237 = .ok (.if_icmp .ne 7, 3) := by decide +kernel
theorem dL_isGust_240 : decode cL_isGust 240 = .ok (.iconst 1, 1) := by decide +kernel
theorem dL_isGust_241 : decode cL_isGust 241 = .ok (.goto 4, 3) := by decide +kernel
theorem dL_isGust_244 : decode cL_isGust 244 = .ok (.iconst 0, 1) := by decide +kernel
theorem dL_isGust_245 : decode cL_isGust 245 = .ok (.ireturn, 1) := by decide +kernel
set_option maxRecDepth 20000 in
theorem ggL_isPerson_X3_person : GoodIn wsL_isPerson wsX3_person := goodIn_r _ [5, 6, 7, 8, 9, 10, 11, 12, 13, 14, 15, 16, 17, 18, 19, 20, 21, 22, 23, 24, 25, 26, 27, 28, 29, 30, 31, 32, 33, 34, 35, 36, 37, 38, 39, 40, 41, 4, 42, 126, 127, 128, 129, 130, 131, 132, 133, 134, 135, 136, 137, 138, 139, 140, 141, 142, 143, 144, 145, 146, 147, 148, 149] (by decide +kernel) (by decide +kernel)
set_option maxRecDepth 20000 in
theorem gL_isPerson_X3_person : GoodIn wsL_isPerson (wsV RL 52 RX3 yX3_person wsX3_person) := goodIn_app (goodIn_of _ (by decide +kernel)) ggL_isPerson_X3_person
set_option maxRecDepth 20000 in
theorem ggL_isPerson_X3_count : GoodIn wsL_isPerson wsX3_count := goodIn_r _ [46, 6, 47, 48, 49, 50, 51, 52, 53, 54, 55, 56, 57, 58, 59, 60, 61, 62, 63, 64, 16, 65, 18, 66, 67, 68, 69, 70, 71, 72, 73, 74, 75, 36, 37, 38, 23, 39, 20, 21, 22, 24, 25, 26, 27, 40, 29, 30, 31, 32, 33, 34, 41, 4, 42, 126, 127, 128, 129, 130, 131, 132, 133, 134, 135, 136, 137, 138, 139, 140, 141, 142, 143, 144, 145, 146, 147, 148, 149, 150, 151, 152, 153, 154, 155, 156, 157, 158] (by decide +kernel) (by decide +kernel)
set_option maxRecDepth 20000 in
theorem gL_isPerson_X3_count : GoodIn wsL_isPerson (wsV RL 9 RX3 yX3_count wsX3_count) := goodIn_app (goodIn_of _ (by decide +kernel)) ggL_isPerson_X3_count
set_option maxRecDepth 20000 in
theorem ggL_isPerson_L_reaches : GoodIn wsL_isPerson wsL_reaches := goodIn_r _ [79, 1, 2, 3, 4, 5, 6, 7, 8, 9, 10, 11, 12, 13, 14, 15, 16, 17, 18, 19, 20, 21, 22, 23, 24, 25, 26, 27, 28, 29, 30, 31, 32, 33, 34, 35, 36, 37, 38, 39, 40, 41, 42, 43, 44, 45, 46, 47, 48, 49, 50, 51, 52, 53, 54, 55, 56, 57, 58, 59, 60, 61, 62, 63, 64, 65, 66, 67, 68, 69, 70, 71, 72, 73, 74, 75, 126, 127, 128, 129, 130, 131, 132, 133, 134, 135, 136, 137, 138, 139, 140, 141, 142, 143, 144, 145, 146, 147, 148, 149, 150, 151, 152, 153, 154, 155, 156, 157, 158] (by decide +kernel) (by decide +kernel)
set_option maxRecDepth 20000 in
theorem gL_isPerson_L_reaches : GoodIn wsL_isPerson (va_wsS RL 60 yL_reaches wsL_reaches) := goodIn_app (goodIn_of _ (by decide +kernel)) ggL_isPerson_L_reaches
set_option maxRecDepth 20000 in
theorem ggL_isPerson_X3_placeOf : GoodIn wsL_isPerson wsX3_placeOf := goodIn_r _ [83, 6, 47, 7, 84, 41, 4, 42, 126, 127, 128, 129, 130, 131, 132, 133, 134, 135, 136, 137, 138, 139, 140, 141, 142, 143, 144, 145, 146, 147, 148, 149] (by decide +kernel) (by decide +kernel)
set_option maxRecDepth 20000 in
theorem gL_isPerson_X3_placeOf : GoodIn wsL_isPerson (wsV RL 57 RX3 yX3_placeOf wsX3_placeOf) := goodIn_app (goodIn_of _ (by decide +kernel)) ggL_isPerson_X3_placeOf
set_option maxRecDepth 20000 in
theorem ggL_isPerson_L_low : GoodIn wsL_isPerson wsL_low := goodIn_r _ [87, 88] (by decide +kernel) (by decide +kernel)
set_option maxRecDepth 20000 in
theorem gL_isPerson_L_low : GoodIn wsL_isPerson (va_wsS RL 15 yL_low wsL_low) := goodIn_app (goodIn_of _ (by decide +kernel)) ggL_isPerson_L_low
set_option maxRecDepth 20000 in
theorem ggL_isPerson_X3_bears : GoodIn wsL_isPerson wsX3_bears := goodIn_r _ [92, 6, 13, 14, 15, 16, 17, 18, 84, 41, 4, 42, 93, 94, 95, 96, 97, 66, 98, 99, 100, 101, 102, 103, 104, 105, 23, 39, 20, 21, 22, 24, 25, 26, 27, 40, 29, 30, 31, 32, 33, 34, 106, 107, 108, 109, 126, 127, 128, 129, 130, 131, 132, 133, 134, 135, 136, 137, 138, 139, 140, 141, 142, 143, 144, 145, 146, 147, 148, 149] (by decide +kernel) (by decide +kernel)
set_option maxRecDepth 20000 in
theorem gL_isPerson_X3_bears : GoodIn wsL_isPerson (wsV RL 64 RX3 yX3_bears wsX3_bears) := goodIn_app (goodIn_of _ (by decide +kernel)) ggL_isPerson_X3_bears
set_option maxRecDepth 20000 in
theorem ggL_isPerson_X3_ifGust : GoodIn wsL_isPerson wsX3_ifGust := goodIn_r _ [113, 6, 9, 13, 14, 15, 16, 17, 18, 114, 115, 4, 116, 84, 41, 42, 117, 107, 108, 109, 23, 39, 20, 21, 22, 24, 25, 26, 27, 40, 29, 30, 31, 32, 33, 34, 118, 103, 104, 105, 119, 120, 121, 122, 66, 98, 99, 100, 101, 102, 106, 126, 127, 128, 129, 130, 131, 132, 133, 134, 135, 136, 137, 138, 139, 140, 141, 142, 143, 144, 145, 146, 147, 148, 149] (by decide +kernel) (by decide +kernel)
set_option maxRecDepth 20000 in
theorem gL_isPerson_X3_ifGust : GoodIn wsL_isPerson (wsV RL 48 RX3 yX3_ifGust wsX3_ifGust) := goodIn_app (goodIn_of _ (by decide +kernel)) ggL_isPerson_X3_ifGust
set_option maxRecDepth 20000 in
theorem ggL_isPerson_L_isGust : GoodIn wsL_isPerson wsL_isGust := goodIn_r _ [125, 43, 44, 45, 4, 46, 6, 47, 48, 49, 50, 51, 52, 53, 54, 55, 56, 57, 58, 59, 60, 61, 62, 63, 64, 16, 65, 18, 66, 67, 68, 69, 70, 71, 72, 73, 74, 75, 36, 37, 38, 23, 39, 20, 21, 22, 24, 25, 26, 27, 40, 29, 30, 31, 32, 33, 34, 41, 42, 76, 77, 78, 79, 1, 2, 3, 5, 7, 8, 9, 10, 11, 12, 13, 14, 15, 17, 19, 28, 35, 110, 111, 112, 113, 114, 115, 116, 84, 117, 107, 108, 109, 118, 103, 104, 105, 119, 120, 121, 122, 98, 99, 100, 101, 102, 106, 126, 127, 128, 129, 130, 131, 132, 133, 134, 135, 136, 137, 138, 139, 140, 141, 142, 143, 144, 145, 146, 147, 148, 149, 150, 151, 152, 153, 154, 155, 156, 157, 158] (by decide +kernel) (by decide +kernel)
set_option maxRecDepth 20000 in
theorem gL_isPerson_L_isGust : GoodIn wsL_isPerson (va_wsS RL 67 yL_isGust wsL_isGust) := goodIn_app (goodIn_of _ (by decide +kernel)) ggL_isPerson_L_isGust
theorem dL_isPerson_0 : decode cL_isPerson 0 = .ok (.aload_n 0, 1) := by decide +kernel
theorem dL_isPerson_1 : decode cL_isPerson 1 = .ok (.iload_n 1, 1) := by decide +kernel
theorem dL_isPerson_2 : decode cL_isPerson 2 = .ok (.iconst 4, 1) := by decide +kernel
theorem dL_isPerson_3 : decode cL_isPerson 3 = .ok (.invokevirtual 52, 3) := by decide +kernel
theorem dL_isPerson_6 : decode cL_isPerson 6 = .ok (.istore_n 3, 1) := by decide +kernel
theorem dL_isPerson_7 : decode cL_isPerson 7 = .ok (.aload_n 0, 1) := by decide +kernel
theorem dL_isPerson_8 : decode cL_isPerson 8 = .ok (.iload_n 1, 1) := by decide +kernel
theorem dL_isPerson_9 : decode cL_isPerson 9 = .ok (.iconst 5, 1) := by decide +kernel
theorem dL_isPerson_10 : decode cL_isPerson 10 = .ok (.invokevirtual 52, 3) := by decide +kernel
theorem dL_isPerson_13 : decode cL_isPerson 13 = .ok (.istore 4, 2) := by decide +kernel
theorem dL_isPerson_15 : decode cL_isPerson 15 = .ok (.aload_n 0, 1) := by decide +kernel
theorem dL_isPerson_16 : decode cL_isPerson 16 = .ok (.iload_n 1, 1) := by decide +kernel
theorem dL_isPerson_17 : decode cL_isPerson 17 = .ok (.bipush 6, 2) := by decide +kernel
theorem dL_isPerson_19 : decode cL_isPerson 19 = .ok (.invokevirtual 52, 3) := by decide +kernel
theorem dL_isPerson_22 : decode cL_isPerson 22 = .ok (.istore 5, 2) := by decide +kernel
theorem dL_isPerson_24 : decode cL_isPerson 24 = .ok (.iconst 0, 1) := by decide +kernel
theorem dL_isPerson_25 : decode cL_isPerson 25 = .ok (.istore 6, 2) := by decide +kernel
theorem dL_isPerson_27 : decode cL_isPerson 27 = .ok (.iconst 0, 1) := by decide +kernel
theorem dL_isPerson_28 : decode cL_isPerson 28 = .ok (.istore 7, 2) := by decide +kernel
theorem dL_isPerson_30 : decode cL_isPerson 30 = .ok (.iload 7, 2) := by decide +kernel
theorem dL_isPerson_32 : decode cL_isPerson 32 = .ok (.aload_n 0, 1) := by decide +kernel
theorem dL_isPerson_33 : decode cL_isPerson 33 = .ok (.iconst 0, 1) := by decide +kernel
theorem dL_isPerson_34 : decode cL_isPerson 34 = .ok (.invokevirtual 9, 3) := by decide +kernel
theorem dL_isPerson_37 : decode cL_isPerson 37 = .ok (.if_icmp .ge 29, 3) := by decide +kernel
theorem dL_isPerson_40 : decode cL_isPerson 40 = .ok (.iload 6, 2) := by decide +kernel
theorem dL_isPerson_42 : decode cL_isPerson 42 = .ok (.aload_n 0, 1) := by decide +kernel
theorem dL_isPerson_43 : decode cL_isPerson 43 = .ok (.iload 7, 2) := by decide +kernel
theorem dL_isPerson_45 : decode cL_isPerson 45 = .ok (.iload_n 1, 1) := by decide +kernel
theorem dL_isPerson_46 : decode cL_isPerson 46 = .ok (.invokestatic 60, 3) := by decide +kernel
theorem dL_isPerson_49 : decode cL_isPerson 49 = .ok (.ifCond .eq 7, 3) := by decide +kernel
theorem dL_isPerson_52 : decode cL_isPerson 52 = .ok (.iconst 1, 1) := by decide +kernel
theorem dL_isPerson_53 : decode cL_isPerson 53 = .ok (.goto 4, 3) := by decide +kernel
theorem dL_isPerson_56 : decode cL_isPerson 56 = .ok (.iconst 0, 1) := by decide +kernel
theorem dL_isPerson_57 : decode cL_isPerson 57 = .ok (.iadd, 1) := by decide +kernel
theorem dL_isPerson_58 : decode cL_isPerson 58 = .ok (.istore 6, 2) := by decide +kernel
theorem dL_isPerson_60 : decode cL_isPerson 60 = .ok (.iinc 7 1, 3) := by decide +kernel
theorem dL_isPerson_63 : decode cL_isPerson 63 = .ok (.goto (-33), 3) := by decide +kernel
theorem dL_isPerson_66 : decode cL_isPerson 66 = .ok (.aload_n 0, 1) := by decide +kernel
theorem dL_isPerson_67 : decode cL_isPerson 67 = .ok (.aload_n 0, 1) := by decide +kernel
theorem dL_isPerson_68 : decode cL_isPerson 68 = .ok (.iload_n 1, 1) := by decide +kernel
theorem dL_isPerson_69 : decode cL_isPerson 69 = .ok (.iconst 0, 1) := by decide +kernel
theorem dL_isPerson_70 : decode cL_isPerson 70 = .ok (.invokevirtual 52, 3) := by decide +kernel
theorem dL_isPerson_73 : decode cL_isPerson 73 = .ok (.invokevirtual 57, 3) := by decide +kernel
theorem dL_isPerson_76 : decode cL_isPerson 76 = .ok (.iload_n 1, 1) := by decide +kernel
theorem dL_isPerson_77 : decode cL_isPerson 77 = .ok (.if_icmp .ne 108, 3) := by decide +kernel
theorem dL_isPerson_80 : decode cL_isPerson 80 = .ok (.aload_n 0, 1) := by decide +kernel
theorem dL_isPerson_81 : decode cL_isPerson 81 = .ok (.iload_n 1, 1) := by decide +kernel
theorem dL_isPerson_82 : decode cL_isPerson 82 = .ok (.iconst 1, 1) := by decide +kernel
theorem dL_isPerson_83 : decode cL_isPerson 83 = .ok (.invokevirtual 52, 3) := by decide +kernel
theorem dL_isPerson_86 : decode cL_isPerson 86 = .ok (.ifCond .lt 99, 3) := by decide +kernel
theorem dL_isPerson_89 : decode cL_isPerson 89 = .ok (.aload_n 0, 1) := by decide +kernel
theorem dL_isPerson_90 : decode cL_isPerson 90 = .ok (.iload_n 1, 1) := by decide +kernel
theorem dL_isPerson_91 : decode cL_isPerson 91 = .ok (.iconst 1, 1) := by decide +kernel
theorem dL_isPerson_92 : decode cL_isPerson 92 = .ok (.invokevirtual 52, 3) := by decide +kernel
theorem dL_isPerson_95 : decode cL_isPerson 95 = .ok (.aload_n 0, 1) := by decide +kernel
theorem dL_isPerson_96 : decode cL_isPerson 96 = .ok (.iload_n 1, 1) := by decide +kernel
theorem dL_isPerson_97 : decode cL_isPerson 97 = .ok (.iconst 2, 1) := by decide +kernel
theorem dL_isPerson_98 : decode cL_isPerson 98 = .ok (.invokevirtual 52, 3) := by decide +kernel
theorem dL_isPerson_101 : decode cL_isPerson 101 = .ok (.if_icmp .gt 84, 3) := by decide +kernel
theorem dL_isPerson_104 : decode cL_isPerson 104 = .ok (.aload_n 0, 1) := by decide +kernel
theorem dL_isPerson_105 : decode cL_isPerson 105 = .ok (.iload_n 1, 1) := by decide +kernel
theorem dL_isPerson_106 : decode cL_isPerson 106 = .ok (.bipush 7, 2) := by decide +kernel
theorem dL_isPerson_108 : decode cL_isPerson 108 = .ok (.invokevirtual 52, 3) := by decide +kernel
theorem dL_isPerson_111 : decode cL_isPerson 111 = .ok (.iload 6, 2) := by decide +kernel
theorem dL_isPerson_113 : decode cL_isPerson 113 = .ok (.if_icmp .ne 72, 3) := by decide +kernel
theorem dL_isPerson_116 : decode cL_isPerson 116 = .ok (.iload_n 3, 1) := by decide +kernel
theorem dL_isPerson_117 : decode cL_isPerson 117 = .ok (.ifCond .ne 20, 3) := by decide +kernel
theorem dL_isPerson_120 : decode cL_isPerson 120 = .ok (.iload 4, 2) := by decide +kernel
theorem dL_isPerson_122 : decode cL_isPerson 122 = .ok (.bipush (-5), 2) := by decide +kernel
theorem dL_isPerson_124 : decode cL_isPerson 124 = .ok (.if_icmp .ne 61, 3) := by decide +kernel
theorem dL_isPerson_127 : decode cL_isPerson 127 = .ok (.iload 5, 2) := by decide +kernel
theorem dL_isPerson_129 : decode cL_isPerson 129 = .ok (.bipush (-5), 2) := by decide +kernel
theorem dL_isPerson_131 : decode cL_isPerson 131 = .ok (.if_icmp .ne 54, 3) := by decide +kernel
theorem dL_isPerson_134 : decode cL_isPerson 134 = .ok (.goto 47, 3) := by decide +kernel
theorem dL_isPerson_137 : decode cL_isPerson 137 = .ok (.aload_n 0, 1) := by decide +kernel
theorem dL_isPerson_138 : decode cL_isPerson 138 = .ok (.iload_n 1, 1) := by decide +kernel
theorem dL_isPerson_139 : decode cL_isPerson 139 = .ok (.iload 4, 2) := by decide +kernel
theorem dL_isPerson_141 : decode cL_isPerson 141 = .ok (.invokestatic 60, 3) := by decide +kernel
theorem dL_isPerson_144 : decode cL_isPerson 144 = .ok (.ifCond .eq 41, 3) := by decide +kernel
theorem dL_isPerson_147 : decode cL_isPerson 147 = .ok (.aload_n 0, 1) := by decide +kernel
theorem dL_isPerson_148 : decode cL_isPerson 148 = .ok (.iload_n 1, 1) := by decide +kernel
theorem dL_isPerson_149 : decode cL_isPerson 149 = .ok (.iload 5, 2) := by decide +kernel
theorem dL_isPerson_151 : decode cL_isPerson 151 = .ok (.invokestatic 60, 3) := by decide +kernel
theorem dL_isPerson_154 : decode cL_isPerson 154 = .ok (.ifCond .eq 31, 3) := by decide +kernel
theorem dL_isPerson_157 : decode cL_isPerson 157 = .ok (.aload_n 0, 1) := by decide +kernel
theorem dL_isPerson_158 : decode cL_isPerson 158 = .ok (.iload_n 1, 1) := by decide +kernel
theorem dL_isPerson_159 : decode cL_isPerson 159 = .ok (.iload 4, 2) := by decide +kernel
theorem dL_isPerson_161 : decode cL_isPerson 161 = .ok (.iconst 1, 1) := by decide +kernel
theorem dL_isPerson_162 : decode cL_isPerson 162 = .ok (.isub, 1) := by decide +kernel
theorem dL_isPerson_163 : decode cL_isPerson 163 = .ok (.invokestatic 60, 3) := by decide +kernel
theorem dL_isPerson_166 : decode cL_isPerson 166 = .ok (.ifCond .ne 19, 3) := by decide +kernel
theorem dL_isPerson_169 : decode cL_isPerson 169 = .ok (.aload_n 0, 1) := by decide +kernel
theorem dL_isPerson_170 : decode cL_isPerson 170 = .ok (.iload_n 1, 1) := by decide +kernel
theorem dL_isPerson_171 : decode cL_isPerson 171 = .ok (.iload 5, 2) := by decide +kernel
theorem dL_isPerson_173 : decode cL_isPerson 173 = .ok (.iconst 1, 1) := by decide +kernel
theorem dL_isPerson_174 : decode cL_isPerson 174 = .ok (.iadd, 1) := by decide +kernel
theorem dL_isPerson_175 : decode cL_isPerson 175 = .ok (.invokestatic 60, 3) := by decide +kernel
theorem dL_isPerson_178 : decode cL_isPerson 178 = .ok (.ifCond .ne 7, 3) := by decide +kernel
theorem dL_isPerson_181 : decode cL_isPerson 181 = .ok (.iconst 1, 1) := by decide +kernel
theorem dL_isPerson_182 : decode cL_isPerson 182 = .ok (.goto 4, 3) := by decide +kernel
theorem dL_isPerson_185 : decode cL_isPerson 185 = .ok (.iconst 0, 1) := by decide +kernel
theorem dL_isPerson_186 : decode cL_isPerson 186 = .ok (.istore 7, 2) := by decide +kernel
theorem dL_isPerson_188 : decode cL_isPerson 188 = .ok (.iconst 1, 1) := by decide +kernel
theorem dL_isPerson_189 : decode cL_isPerson 189 = .ok (.iload_n 2, 1) := by decide +kernel
theorem dL_isPerson_190 : decode cL_isPerson 190 = .ok (.bipush 99, 2) := by decide +kernel
theorem dL_isPerson_192 : decode cL_isPerson 192 = .ok (.invokestatic 15, 3) := by decide +kernel
theorem dL_isPerson_195 : decode cL_isPerson 195 = .ok (.iadd, 1) := by decide +kernel
theorem dL_isPerson_196 : decode cL_isPerson 196 = .ok (.istore 8, 2) := by decide +kernel
theorem dL_isPerson_198 : decode cL_isPerson 198 = .ok (.aload_n 0, 1) := by decide +kernel
theorem dL_isPerson_199 : decode cL_isPerson 199 = .ok (.iload_n 1, 1) := by decide +kernel
theorem dL_isPerson_200 : decode cL_isPerson 200 = .ok (.iload 8, 2) := by decide +kernel
theorem dL_isPerson_202 : decode cL_isPerson 202 = .ok (.invokevirtual 64, 3) := by decide +kernel
theorem dL_isPerson_205 : decode cL_isPerson 205 = .ok (.istore 9, 2) := by decide +kernel
theorem dL_isPerson_207 : decode cL_isPerson 207 = .ok (.aload_n 0, 1) := by decide +kernel
theorem dL_isPerson_208 : decode cL_isPerson 208 = .ok (.iload_n 1, 1) := by decide +kernel
theorem dL_isPerson_209 : decode cL_isPerson 209 = .ok (.iload 8, 2) := by decide +kernel
theorem dL_isPerson_211 : decode cL_isPerson 211 = .ok (.iconst 0, 1) := by decide +kernel
theorem dL_isPerson_212 : decode cL_isPerson 212 = .ok (.iconst 0, 1) := by decide +kernel
theorem dL_isPerson_213 : decode cL_isPerson 213 = .ok (.invokevirtual 48, 3) := by decide +kernel
theorem dL_isPerson_216 : decode cL_isPerson 216 = .ok (.iconst 1, 1) := by decide +kernel
theorem dL_isPerson_217 : decode cL_isPerson 217 = .ok (.if_icmp .ne 7, 3) := by decide +kernel
theorem dL_isPerson_220 : decode cL_isPerson 220 = .ok (.iconst 0, 1) := by decide +kernel
theorem dL_isPerson_221 : decode cL_isPerson 221 = .ok (.goto 5, 3) := by decide +kernel
theorem dL_isPerson_224 : decode cL_isPerson 224 = .ok (.iload 8, 2) := by decide +kernel
theorem dL_isPerson_226 : decode cL_isPerson 226 = .ok (.istore 10, 2) := by decide +kernel
theorem dL_isPerson_228 : decode cL_isPerson 228 = .ok (.iload 10, 2) := by decide +kernel
theorem dL_isPerson_230 : decode cL_isPerson 230 = .ok (.aload_n 0, 1) := by decide +kernel
theorem dL_isPerson_231 : decode cL_isPerson 231 = .ok (.iload_n 1, 1) := by decide +kernel
theorem dL_isPerson_232 : decode cL_isPerson 232 = .ok (.iload 8, 2) := by decide +kernel
theorem dL_isPerson_234 : decode cL_isPerson 234 = .ok (.iconst 0, 1) := by decide +kernel
theorem dL_isPerson_235 : decode cL_isPerson 235 = .ok (.iconst 1, 1) := by decide +kernel
theorem dL_isPerson_236 : decode cL_isPerson 236 = .ok (.invokevirtual 48, 3) := by decide +kernel
theorem dL_isPerson_239 : decode cL_isPerson 239 = .ok (.iload 8, 2) := by decide +kernel
theorem dL_isPerson_241 : decode cL_isPerson 241 = .ok (.iconst 2, 1) := by decide +kernel
theorem dL_isPerson_242 : decode cL_isPerson 242 = .ok (.idiv, 1) := by decide +kernel
theorem dL_isPerson_243 : decode cL_isPerson 243 = .ok (.imul, 1) := by decide +kernel
theorem dL_isPerson_244 : decode cL_isPerson 244 = .ok (.iadd, 1) := by decide +kernel
theorem dL_isPerson_245 : decode cL_isPerson 245 = .ok (.istore 10, 2) := by decide +kernel
theorem dL_isPerson_247 : decode cL_isPerson 247 = .ok (.iload 10, 2) := by decide +kernel
theorem dL_isPerson_249 : decode cL_isPerson 249 = .ok (.ifCond .eq 15, 3) := by decide +kernel
theorem dL_isPerson_252 : decode cL_isPerson 252 = .ok (.aload_n 0, 1) := by decide +kernel
theorem dL_isPerson_253 : decode cL_isPerson 253 = .ok (.iload_n 1, 1) := by decide +kernel
theorem dL_isPerson_254 : decode cL_isPerson 254 = .ok (.iconst 2, 1) := by decide +kernel
theorem dL_isPerson_255 : decode cL_isPerson 255 = .ok (.invokevirtual 52, 3) := by decide +kernel
theorem dL_isPerson_258 : decode cL_isPerson 258 = .ok (.sipush 999, 3) := by decide +kernel
theorem dL_isPerson_261 : decode cL_isPerson 261 = .ok (.if_icmp .ne 18, 3) := by decide +kernel
theorem dL_isPerson_264 : decode cL_isPerson 264 = .ok (.iload 9, 2) := by decide +kernel
theorem dL_isPerson_266 : decode cL_isPerson 266 = .ok (.bipush (-5), 2) := by decide +kernel
theorem dL_isPerson_268 : decode cL_isPerson 268 = .ok (.if_icmp .ne 7, 3) := by decide +kernel
theorem dL_isPerson_271 : decode cL_isPerson 271 = .ok (.iconst 1, 1) := by decide +kernel
theorem dL_isPerson_272 : decode cL_isPerson 272 = .ok (.goto 61, 3) := by decide +kernel
theorem dL_isPerson_275 : decode cL_isPerson 275 = .ok (.iconst 0, 1) := by decide +kernel
theorem dL_isPerson_276 : decode cL_isPerson 276 = .ok (.goto 57, 3) := by decide +kernel
theorem dL_isPerson_279 : decode cL_isPerson 279 = .ok (.iload 9, 2) := by decide +kernel
theorem dL_isPerson_281 : decode cL_isPerson 281 = .ok (.ifCond .lt 51, 3) := by decide +kernel
theorem dL_isPerson_284 : decode cL_isPerson 284 = .ok (.aload_n 0, 1) := by decide +kernel
theorem dL_isPerson_285 : decode cL_isPerson 285 = .ok (.iload_n 1, 1) := by decide +kernel
theorem dL_isPerson_286 : decode cL_isPerson 286 = .ok (.iconst 1, 1) := by decide +kernel
theorem dL_isPerson_287 : decode cL_isPerson 287 = .ok (.invokevirtual 52, 3) := by decide +kernel
theorem dL_isPerson_290 : decode cL_isPerson 290 = .ok (.iload 9, 2) := by decide +kernel
theorem dL_isPerson_292 : decode cL_isPerson 292 = .ok (.iload 10, 2) := by decide +kernel
theorem dL_isPerson_294 : decode cL_isPerson 294 = .ok (.imul, 1) := by decide +kernel
theorem dL_isPerson_295 : decode cL_isPerson 295 = .ok (.iadd, 1) := by decide +kernel
theorem dL_isPerson_296 : decode cL_isPerson 296 = .ok (.aload_n 0, 1) := by decide +kernel
theorem dL_isPerson_297 : decode cL_isPerson 297 = .ok (.iload_n 1, 1) := by decide +kernel
theorem dL_isPerson_298 : decode cL_isPerson 298 = .ok (.iconst 2, 1) := by decide +kernel
theorem dL_isPerson_299 : decode cL_isPerson 299 = .ok (.invokevirtual 52, 3) := by decide +kernel
theorem dL_isPerson_302 : decode cL_isPerson 302 = .ok (.if_icmp .gt 30, 3) := by decide +kernel
theorem dL_isPerson_305 : decode cL_isPerson 305 = .ok (.aload_n 0, 1) := by decide +kernel
theorem dL_isPerson_306 : decode cL_isPerson 306 = .ok (.iload_n 1, 1) := by decide +kernel
theorem dL_isPerson_307 : decode cL_isPerson 307 = .ok (.iconst 1, 1) := by decide +kernel
theorem dL_isPerson_308 : decode cL_isPerson 308 = .ok (.invokevirtual 52, 3) := by decide +kernel
theorem dL_isPerson_311 : decode cL_isPerson 311 = .ok (.iload 9, 2) := by decide +kernel
theorem dL_isPerson_313 : decode cL_isPerson 313 = .ok (.iconst 1, 1) := by decide +kernel
theorem dL_isPerson_314 : decode cL_isPerson 314 = .ok (.iadd, 1) := by decide +kernel
theorem dL_isPerson_315 : decode cL_isPerson 315 = .ok (.iload 10, 2) := by decide +kernel
theorem dL_isPerson_317 : decode cL_isPerson 317 = .ok (.imul, 1) := by decide +kernel
theorem dL_isPerson_318 : decode cL_isPerson 318 = .ok (.iadd, 1) := by decide +kernel
theorem dL_isPerson_319 : decode cL_isPerson 319 = .ok (.aload_n 0, 1) := by decide +kernel
theorem dL_isPerson_320 : decode cL_isPerson 320 = .ok (.iload_n 1, 1) := by decide +kernel
theorem dL_isPerson_321 : decode cL_isPerson 321 = .ok (.iconst 2, 1) := by decide +kernel
theorem dL_isPerson_322 : decode cL_isPerson 322 = .ok (.invokevirtual 52, 3) := by decide +kernel
theorem dL_isPerson_325 : decode cL_isPerson 325 = .ok (.if_icmp .le 7, 3) := by decide +kernel
theorem dL_isPerson_328 : decode cL_isPerson 328 = .ok (.iconst 1, 1) := by decide +kernel
theorem dL_isPerson_329 : decode cL_isPerson 329 = .ok (.goto 4, 3) := by decide +kernel
theorem dL_isPerson_332 : decode cL_isPerson 332 = .ok (.iconst 0, 1) := by decide +kernel
theorem dL_isPerson_333 : decode cL_isPerson 333 = .ok (.istore 11, 2) := by decide +kernel
theorem dL_isPerson_335 : decode cL_isPerson 335 = .ok (.iload 7, 2) := by decide +kernel
theorem dL_isPerson_337 : decode cL_isPerson 337 = .ok (.ifCond .eq 30, 3) := by decide +kernel
theorem dL_isPerson_340 : decode cL_isPerson 340 = .ok (.iload 11, 2) := by decide +kernel
theorem dL_isPerson_342 : decode cL_isPerson 342 = .ok (.ifCond .eq 25, 3) := by decide +kernel
theorem dL_isPerson_345 : decode cL_isPerson 345 = .ok (.aload_n 0, 1) := by decide +kernel
theorem dL_isPerson_346 : decode cL_isPerson 346 = .ok (.iload_n 1, 1) := by decide +kernel
theorem dL_isPerson_347 : decode cL_isPerson 347 = .ok (.iload 8, 2) := by decide +kernel
theorem dL_isPerson_349 : decode cL_isPerson 349 = .ok (.iload_n 2, 1) := by decide +kernel
theorem dL_isPerson_350 : decode cL_isPerson 350 = .ok (.bipush 8, 2) := by decide +kernel
theorem dL_isPerson_352 : decode cL_isPerson 352 = .ok (.ishr, 1) := by decide +kernel
theorem dL_isPerson_353 : decode cL_isPerson 353 = .ok (.iconst 3, 1) := by decide +kernel
theorem dL_isPerson_354 : decode cL_isPerson 354 = .ok (.invokestatic 15, 3) := by decide +kernel
theorem dL_isPerson_357 : decode cL_isPerson 357 = .ok (.invokestatic 67, 3) := by decide +kernel
theorem dL_isPerson_360 : decode cL_isPerson 360 = .ok (.ifCond .eq 7, 3) := by decide +kernel
theorem dL_isPerson_363 : decode cL_isPerson 363 = .ok (.iconst 1, 1) := by decide +kernel
theorem dL_isPerson_364 : decode cL_isPerson 364 = .ok (.goto 4, 3) := by decide +kernel
theorem dL_isPerson_367 : decode cL_isPerson 367 = .ok (.iconst 0, 1) := by decide +kernel
theorem dL_isPerson_368 : decode cL_isPerson 368 = .ok (.ireturn, 1) := by decide +kernel
set_option maxRecDepth 20000 in
theorem ggL_all_X3_count : GoodIn wsL_all wsX3_count := goodIn_r _ [5, 6, 7, 8, 9, 10, 11, 12, 13, 14, 15, 16, 17, 18, 19, 20, 21, 22, 23, 24, 25, 26, 27, 28, 29, 30, 31, 32, 33, 34, 35, 36, 37, 38, 39, 40, 41, 42, 43, 44, 45, 46, 47, 48, 49, 50, 51, 52, 53, 54, 55, 56, 57, 4, 58, 90, 91, 92, 93, 94, 95, 96, 97, 98, 99, 100, 101, 102, 103, 104, 105, 106, 107, 108, 109, 110, 111, 112, 113, 114, 115, 116, 117, 118, 119, 120, 121, 122] (by decide +kernel) (by decide +kernel)
set_option maxRecDepth 20000 in
theorem gL_all_X3_count : GoodIn wsL_all (wsV RL 9 RX3 yX3_count wsX3_count) := goodIn_app (goodIn_of _ (by decide +kernel)) ggL_all_X3_count
set_option maxRecDepth 20000 in
theorem ggL_all_X3_ifGust : GoodIn wsL_all wsX3_ifGust := goodIn_r _ [62, 6, 63, 64, 65, 66, 25, 67, 27, 68, 69, 4, 70, 71, 57, 58, 72, 73, 74, 75, 41, 42, 43, 44, 45, 46, 47, 48, 49, 50, 51, 52, 53, 54, 55, 56, 76, 77, 78, 79, 80, 81, 82, 83, 28, 84, 85, 86, 87, 88, 89, 90, 91, 92, 93, 94, 95, 96, 97, 98, 99, 100, 101, 102, 103, 104, 105, 106, 107, 108, 109, 110, 111, 112, 113] (by decide +kernel) (by decide +kernel)
set_option maxRecDepth 20000 in
theorem gL_all_X3_ifGust : GoodIn wsL_all (wsV RL 48 RX3 yX3_ifGust wsX3_ifGust) := goodIn_app (goodIn_of _ (by decide +kernel)) ggL_all_X3_ifGust
theorem dL_all_0 : decode cL_all 0 = .ok (.iconst 0, 1) := by decide +kernel
theorem dL_all_1 : decode cL_all 1 = .ok (.istore_n 3, 1) := by decide +kernel
theorem dL_all_2 : decode cL_all 2 = .ok (.iconst 0, 1) := by decide +kernel
theorem dL_all_3 : decode cL_all 3 = .ok (.istore 4, 2) := by decide +kernel
theorem dL_all_5 : decode cL_all 5 = .ok (.iload 4, 2) := by decide +kernel
theorem dL_all_7 : decode cL_all 7 = .ok (.aload_n 0, 1) := by decide +kernel
theorem dL_all_8 : decode cL_all 8 = .ok (.iconst 0, 1) := by decide +kernel
theorem dL_all_9 : decode cL_all 9 = .ok (.invokevirtual 9, 3) := by decide +kernel
theorem dL_all_12 : decode cL_all 12 = .ok (.if_icmp .ge 21, 3) := by decide +kernel
theorem dL_all_15 : decode cL_all 15 = .ok (.iload_n 3, 1) := by decide +kernel
theorem dL_all_16 : decode cL_all 16 = .ok (.aload_n 0, 1) := by decide +kernel
theorem dL_all_17 : decode cL_all 17 = .ok (.iload 4, 2) := by decide +kernel
theorem dL_all_19 : decode cL_all 19 = .ok (.iload_n 1, 1) := by decide +kernel
theorem dL_all_20 : decode cL_all 20 = .ok (.iload_n 2, 1) := by decide +kernel
theorem dL_all_21 : decode cL_all 21 = .ok (.iconst 2, 1) := by decide +kernel
theorem dL_all_22 : decode cL_all 22 = .ok (.invokevirtual 48, 3) := by decide +kernel
theorem dL_all_25 : decode cL_all 25 = .ok (.iadd, 1) := by decide +kernel
theorem dL_all_26 : decode cL_all 26 = .ok (.istore_n 3, 1) := by decide +kernel
theorem dL_all_27 : decode cL_all 27 = .ok (.iinc 4 1, 3) := by decide +kernel
theorem dL_all_30 : decode cL_all 30 = .ok (.goto (-25), 3) := by decide +kernel
theorem dL_all_33 : decode cL_all 33 = .ok (.iload_n 3, 1) := by decide +kernel
theorem dL_all_34 : decode cL_all 34 = .ok (.ireturn, 1) := by decide +kernel
set_option maxRecDepth 20000 in
theorem ggL_isBest_X3_bestSwap : GoodIn wsL_isBest wsX3_bestSwap := goodIn_r _ [5, 6, 7, 8, 4, 9, 10, 11, 12, 13, 14, 15, 16, 17, 18, 19, 20, 21, 22, 23, 24, 25, 26, 27, 28, 29, 30, 31, 32, 33, 34, 35, 36, 37, 38, 39, 40, 41, 42, 43, 44, 45, 46, 47, 48, 49, 50, 51, 52, 53, 54, 55, 56, 57, 58, 59, 60, 61, 62, 194, 195, 196, 197, 198, 199, 200, 201, 202, 203, 204, 205, 206, 207, 208, 209, 210, 211, 212, 213, 214, 215, 216, 217] (by decide +kernel) (by decide +kernel)
set_option maxRecDepth 20000 in
theorem gL_isBest_X3_bestSwap : GoodIn wsL_isBest (wsV RL 71 RX3 yX3_bestSwap wsX3_bestSwap) := goodIn_app (goodIn_of _ (by decide +kernel)) ggL_isBest_X3_bestSwap
set_option maxRecDepth 20000 in
theorem ggL_isBest_L_all : GoodIn wsL_isBest wsL_all := goodIn_r _ [66, 67, 68, 69, 4, 70, 6, 71, 72, 73, 74, 75, 76, 77, 78, 79, 80, 81, 82, 83, 84, 85, 86, 87, 88, 16, 89, 18, 28, 90, 91, 92, 93, 94, 95, 96, 97, 98, 99, 100, 101, 19, 41, 42, 43, 44, 45, 46, 31, 47, 48, 49, 50, 51, 29, 30, 32, 11, 12, 102, 103, 104, 105, 106, 107, 108, 109, 110, 7, 8, 9, 10, 111, 53, 54, 55, 112, 38, 39, 40, 113, 25, 26, 27, 33, 34, 35, 36, 37, 52, 194, 195, 196, 197, 198, 199, 200, 201, 202, 203, 204, 205, 206, 207, 208, 209, 210, 211, 212, 213, 214, 215, 216, 217, 218, 219, 220, 221, 222, 223, 224, 225, 226] (by decide +kernel) (by decide +kernel)
set_option maxRecDepth 20000 in
theorem gL_isBest_L_all : GoodIn wsL_isBest (va_wsS RL 74 yL_all wsL_all) := goodIn_app (goodIn_of _ (by decide +kernel)) ggL_isBest_L_all
set_option maxRecDepth 20000 in
theorem ggL_isBest_X3_count : GoodIn wsL_isBest wsX3_count := goodIn_r _ [70, 6, 71, 72, 73, 74, 75, 76, 77, 78, 79, 80, 81, 82, 83, 84, 85, 86, 87, 88, 16, 89, 18, 28, 90, 91, 92, 93, 94, 95, 96, 97, 98, 99, 100, 101, 19, 41, 42, 43, 44, 45, 46, 31, 47, 48, 49, 50, 51, 29, 30, 32, 11, 4, 12, 194, 195, 196, 197, 198, 199, 200, 201, 202, 203, 204, 205, 206, 207, 208, 209, 210, 211, 212, 213, 214, 215, 216, 217, 218, 219, 220, 221, 222, 223, 224, 225, 226] (by decide +kernel) (by decide +kernel)
set_option maxRecDepth 20000 in
theorem gL_isBest_X3_count : GoodIn wsL_isBest (wsV RL 9 RX3 yX3_count wsX3_count) := goodIn_app (goodIn_of _ (by decide +kernel)) ggL_isBest_X3_count
set_option maxRecDepth 20000 in
theorem ggL_isBest_X3_reason : GoodIn wsL_isBest wsX3_reason := goodIn_r _ [117, 6, 118, 119, 120, 16, 121, 18, 122, 57, 58, 59, 19, 28, 194, 195, 196, 197, 198, 199, 200, 201, 202, 203, 204, 205, 206, 207, 208, 209, 210, 211, 212, 213, 214, 215, 216, 217] (by decide +kernel) (by decide +kernel)
set_option maxRecDepth 20000 in
theorem gL_isBest_X3_reason : GoodIn wsL_isBest (wsV RL 77 RX3 yX3_reason wsX3_reason) := goodIn_app (goodIn_of _ (by decide +kernel)) ggL_isBest_X3_reason
set_option maxRecDepth 20000 in
theorem ggL_isBest_X3_person : GoodIn wsL_isBest wsX3_person := goodIn_r _ [126, 6, 127, 128, 106, 129, 130, 131, 107, 108, 109, 16, 110, 18, 132, 42, 43, 44, 19, 45, 46, 31, 47, 133, 49, 50, 51, 29, 30, 32, 134, 99, 100, 101, 41, 48, 11, 4, 12, 194, 195, 196, 197, 198, 199, 200, 201, 202, 203, 204, 205, 206, 207, 208, 209, 210, 211, 212, 213, 214, 215, 216, 217] (by decide +kernel) (by decide +kernel)
set_option maxRecDepth 20000 in
theorem gL_isBest_X3_person : GoodIn wsL_isBest (wsV RL 52 RX3 yX3_person wsX3_person) := goodIn_app (goodIn_of _ (by decide +kernel)) ggL_isBest_X3_person
set_option maxRecDepth 20000 in
theorem ggL_isBest_X3_swap : GoodIn wsL_isBest wsX3_swap := goodIn_r _ [138, 82, 6, 139, 140, 141, 142, 143, 144, 145, 146, 147, 148, 149, 150, 151, 152, 16, 153, 154, 155, 156, 157, 158, 28, 159, 160, 19, 161, 162, 18, 163, 164, 165, 166, 167, 168, 169, 170, 171, 172, 173, 174, 175, 176, 119, 120, 121, 56, 57, 58, 59, 60, 61, 62, 177, 178, 179, 4, 180, 181, 182, 183, 184, 194, 195, 196, 197, 198, 199, 200, 218, 219, 201, 202, 203, 204, 205, 206, 207, 208, 209, 210, 211, 212, 213, 214, 215, 216, 217] (by decide +kernel) (by decide +kernel)
set_option maxRecDepth 20000 in
theorem gL_isBest_X3_swap : GoodIn wsL_isBest (wsV RL 31 RX3 yX3_swap wsX3_swap) := goodIn_app (goodIn_of _ (by decide +kernel)) ggL_isBest_X3_swap
set_option maxRecDepth 20000 in
theorem ggL_isBest_X3_undo : GoodIn wsL_isBest wsX3_undo := goodIn_r _ [188, 82, 83, 6, 189, 190, 191, 142, 192, 149, 148, 193, 151, 152, 16, 153, 154, 155, 156, 157, 158, 28, 159, 160, 19, 161, 162, 18, 163, 164, 165, 166, 167, 168, 169, 170, 171, 194, 195, 196, 197, 198, 199, 200, 218, 219, 201, 202, 203, 204, 205, 206, 207, 208, 209, 210, 211, 212, 213, 214, 215, 216, 217] (by decide +kernel) (by decide +kernel)
set_option maxRecDepth 20000 in
theorem gL_isBest_X3_undo : GoodIn wsL_isBest (wsV RL 80 RX3 yX3_undo wsX3_undo) := goodIn_app (goodIn_of _ (by decide +kernel)) ggL_isBest_X3_undo
theorem dL_isBest_0 : decode cL_isBest 0 = .ok (.aload_n 0, 1) := by decide +kernel
theorem dL_isBest_1 : decode cL_isBest 1 = .ok (.iload_n 1, 1) := by decide +kernel
theorem dL_isBest_2 : decode cL_isBest 2 = .ok (.iload_n 2, 1) := by decide +kernel
theorem dL_isBest_3 : decode cL_isBest 3 = .ok (.invokevirtual 71, 3) := by decide +kernel
theorem dL_isBest_6 : decode cL_isBest 6 = .ok (.istore_n 3, 1) := by decide +kernel
theorem dL_isBest_7 : decode cL_isBest 7 = .ok (.aload_n 0, 1) := by decide +kernel
theorem dL_isBest_8 : decode cL_isBest 8 = .ok (.iload_n 1, 1) := by decide +kernel
theorem dL_isBest_9 : decode cL_isBest 9 = .ok (.iload_n 2, 1) := by decide +kernel
theorem dL_isBest_10 : decode cL_isBest 10 = .ok (.invokestatic 74, 3) := by decide +kernel
theorem dL_isBest_13 : decode cL_isBest 13 = .ok (.istore 4, 2) := by decide +kernel
theorem dL_isBest_15 : decode cL_isBest 15 = .ok (.bipush (-5), 2) := by decide +kernel
theorem dL_isBest_17 : decode cL_isBest 17 = .ok (.istore 5, 2) := by decide +kernel
theorem dL_isBest_19 : decode cL_isBest 19 = .ok (.iconst 0, 1) := by decide +kernel
theorem dL_isBest_20 : decode cL_isBest 20 = .ok (.istore 6, 2) := by decide +kernel
theorem dL_isBest_22 : decode cL_isBest 22 = .ok (.iload 6, 2) := by decide +kernel
theorem dL_isBest_24 : decode cL_isBest 24 = .ok (.iconst 1, 1) := by decide +kernel
theorem dL_isBest_25 : decode cL_isBest 25 = .ok (.iadd, 1) := by decide +kernel
theorem dL_isBest_26 : decode cL_isBest 26 = .ok (.aload_n 0, 1) := by decide +kernel
theorem dL_isBest_27 : decode cL_isBest 27 = .ok (.iconst 0, 1) := by decide +kernel
theorem dL_isBest_28 : decode cL_isBest 28 = .ok (.invokevirtual 9, 3) := by decide +kernel
theorem dL_isBest_31 : decode cL_isBest 31 = .ok (.if_icmp .ge 109, 3) := by decide +kernel
theorem dL_isBest_34 : decode cL_isBest 34 = .ok (.aload_n 0, 1) := by decide +kernel
theorem dL_isBest_35 : decode cL_isBest 35 = .ok (.iload 6, 2) := by decide +kernel
theorem dL_isBest_37 : decode cL_isBest 37 = .ok (.invokevirtual 77, 3) := by decide +kernel
theorem dL_isBest_40 : decode cL_isBest 40 = .ok (.istore 7, 2) := by decide +kernel
theorem dL_isBest_42 : decode cL_isBest 42 = .ok (.aload_n 0, 1) := by decide +kernel
theorem dL_isBest_43 : decode cL_isBest 43 = .ok (.iload 6, 2) := by decide +kernel
theorem dL_isBest_45 : decode cL_isBest 45 = .ok (.iconst 1, 1) := by decide +kernel
theorem dL_isBest_46 : decode cL_isBest 46 = .ok (.iadd, 1) := by decide +kernel
theorem dL_isBest_47 : decode cL_isBest 47 = .ok (.iconst 4, 1) := by decide +kernel
theorem dL_isBest_48 : decode cL_isBest 48 = .ok (.invokevirtual 52, 3) := by decide +kernel
theorem dL_isBest_51 : decode cL_isBest 51 = .ok (.istore 8, 2) := by decide +kernel
theorem dL_isBest_53 : decode cL_isBest 53 = .ok (.aload_n 0, 1) := by decide +kernel
theorem dL_isBest_54 : decode cL_isBest 54 = .ok (.iload 6, 2) := by decide +kernel
theorem dL_isBest_56 : decode cL_isBest 56 = .ok (.invokevirtual 31, 3) := by decide +kernel
theorem dL_isBest_59 : decode cL_isBest 59 = .ok (.istore 9, 2) := by decide +kernel
theorem dL_isBest_61 : decode cL_isBest 61 = .ok (.iload 9, 2) := by decide +kernel
theorem dL_isBest_63 : decode cL_isBest 63 = .ok (.iload 7, 2) := by decide +kernel
theorem dL_isBest_65 : decode cL_isBest 65 = .ok (.ifCond .le 11, 3) := by decide +kernel
theorem dL_isBest_68 : decode cL_isBest 68 = .ok (.bipush (-10), 2) := by decide +kernel
theorem dL_isBest_70 : decode cL_isBest 70 = .ok (.iload 7, 2) := by decide +kernel
theorem dL_isBest_72 : decode cL_isBest 72 = .ok (.isub, 1) := by decide +kernel
theorem dL_isBest_73 : decode cL_isBest 73 = .ok (.goto 5, 3) := by decide +kernel
theorem dL_isBest_76 : decode cL_isBest 76 = .ok (.iload 8, 2) := by decide +kernel
theorem dL_isBest_78 : decode cL_isBest 78 = .ok (.if_icmp .eq 5, 3) := by decide +kernel
theorem dL_isBest_81 : decode cL_isBest 81 = .ok (.iconst 0, 1) := by decide +kernel
theorem dL_isBest_82 : decode cL_isBest 82 = .ok (.ireturn, 1) := by decide +kernel
theorem dL_isBest_83 : decode cL_isBest 83 = .ok (.iload 9, 2) := by decide +kernel
theorem dL_isBest_85 : decode cL_isBest 85 = .ok (.ifCond .lt 49, 3) := by decide +kernel
theorem dL_isBest_88 : decode cL_isBest 88 = .ok (.aload_n 0, 1) := by decide +kernel
theorem dL_isBest_89 : decode cL_isBest 89 = .ok (.iload_n 1, 1) := by decide +kernel
theorem dL_isBest_90 : decode cL_isBest 90 = .ok (.iload_n 2, 1) := by decide +kernel
theorem dL_isBest_91 : decode cL_isBest 91 = .ok (.invokestatic 74, 3) := by decide +kernel
theorem dL_isBest_94 : decode cL_isBest 94 = .ok (.istore 10, 2) := by decide +kernel
theorem dL_isBest_96 : decode cL_isBest 96 = .ok (.iload 10, 2) := by decide +kernel
theorem dL_isBest_98 : decode cL_isBest 98 = .ok (.iload 4, 2) := by decide +kernel
theorem dL_isBest_100 : decode cL_isBest 100 = .ok (.if_icmp .ge 8, 3) := by decide +kernel
theorem dL_isBest_103 : decode cL_isBest 103 = .ok (.iload 6, 2) := by decide +kernel
theorem dL_isBest_105 : decode cL_isBest 105 = .ok (.goto 5, 3) := by decide +kernel
theorem dL_isBest_108 : decode cL_isBest 108 = .ok (.iload 5, 2) := by decide +kernel
theorem dL_isBest_110 : decode cL_isBest 110 = .ok (.istore 5, 2) := by decide +kernel
theorem dL_isBest_112 : decode cL_isBest 112 = .ok (.iload 10, 2) := by decide +kernel
theorem dL_isBest_114 : decode cL_isBest 114 = .ok (.iload 4, 2) := by decide +kernel
theorem dL_isBest_116 : decode cL_isBest 116 = .ok (.if_icmp .ge 8, 3) := by decide +kernel
theorem dL_isBest_119 : decode cL_isBest 119 = .ok (.iload 10, 2) := by decide +kernel
theorem dL_isBest_121 : decode cL_isBest 121 = .ok (.goto 5, 3) := by decide +kernel
theorem dL_isBest_124 : decode cL_isBest 124 = .ok (.iload 4, 2) := by decide +kernel
theorem dL_isBest_126 : decode cL_isBest 126 = .ok (.istore 4, 2) := by decide +kernel
theorem dL_isBest_128 : decode cL_isBest 128 = .ok (.aload_n 0, 1) := by decide +kernel
theorem dL_isBest_129 : decode cL_isBest 129 = .ok (.invokevirtual 80, 3) := by decide +kernel
theorem dL_isBest_132 : decode cL_isBest 132 = .ok (.istore 9, 2) := by decide +kernel
theorem dL_isBest_134 : decode cL_isBest 134 = .ok (.iinc 6 1, 3) := by decide +kernel
theorem dL_isBest_137 : decode cL_isBest 137 = .ok (.goto (-115), 3) := by decide +kernel
theorem dL_isBest_140 : decode cL_isBest 140 = .ok (.iload_n 3, 1) := by decide +kernel
theorem dL_isBest_141 : decode cL_isBest 141 = .ok (.iload 5, 2) := by decide +kernel
theorem dL_isBest_143 : decode cL_isBest 143 = .ok (.if_icmp .ne 7, 3) := by decide +kernel
theorem dL_isBest_146 : decode cL_isBest 146 = .ok (.iconst 1, 1) := by decide +kernel
theorem dL_isBest_147 : decode cL_isBest 147 = .ok (.goto 4, 3) := by decide +kernel
theorem dL_isBest_150 : decode cL_isBest 150 = .ok (.iconst 0, 1) := by decide +kernel
theorem dL_isBest_151 : decode cL_isBest 151 = .ok (.ireturn, 1) := by decide +kernel
set_option maxRecDepth 20000 in
theorem ggL_holds_X3_count : GoodIn wsL_holds wsX3_count := goodIn_r _ [5, 6, 7, 8, 9, 10, 11, 12, 13, 14, 15, 16, 17, 18, 19, 20, 21, 22, 23, 24, 25, 26, 27, 28, 29, 30, 31, 32, 33, 34, 35, 36, 37, 38, 39, 40, 41, 42, 43, 44, 45, 46, 47, 48, 49, 50, 51, 52, 53, 54, 55, 56, 57, 4, 58, 151, 152, 153, 154, 155, 156, 157, 158, 159, 160, 161, 162, 163, 164, 165, 166, 167, 168, 169, 170, 171, 172, 173, 174, 175, 176, 177, 178, 179, 180, 181, 182, 183] (by decide +kernel) (by decide +kernel)
set_option maxRecDepth 20000 in
theorem gL_holds_X3_count : GoodIn wsL_holds (wsV RL 9 RX3 yX3_count wsX3_count) := goodIn_app (goodIn_of _ (by decide +kernel)) ggL_holds_X3_count
set_option maxRecDepth 20000 in
theorem ggL_holds_X3_person : GoodIn wsL_holds wsX3_person := goodIn_r _ [62, 6, 63, 64, 65, 66, 67, 68, 69, 70, 71, 25, 72, 27, 73, 43, 44, 45, 41, 46, 47, 48, 49, 74, 51, 52, 53, 54, 55, 56, 75, 38, 39, 40, 42, 50, 57, 4, 58, 151, 152, 153, 154, 155, 156, 157, 158, 159, 160, 161, 162, 163, 164, 165, 166, 167, 168, 169, 170, 171, 172, 173, 174] (by decide +kernel) (by decide +kernel)
set_option maxRecDepth 20000 in
theorem gL_holds_X3_person : GoodIn wsL_holds (wsV RL 52 RX3 yX3_person wsX3_person) := goodIn_app (goodIn_of _ (by decide +kernel)) ggL_holds_X3_person
set_option maxRecDepth 20000 in
theorem ggL_holds_L_isPerson : GoodIn wsL_holds wsL_isPerson := goodIn_r _ [79, 59, 60, 61, 4, 62, 6, 63, 64, 65, 66, 67, 68, 69, 70, 71, 25, 72, 27, 73, 43, 44, 45, 41, 46, 47, 48, 49, 74, 51, 52, 53, 54, 55, 56, 75, 38, 39, 40, 42, 50, 57, 58, 1, 2, 3, 5, 7, 8, 9, 10, 11, 12, 13, 14, 15, 16, 17, 18, 19, 20, 21, 22, 23, 24, 26, 28, 29, 30, 31, 32, 33, 34, 35, 36, 37, 80, 81, 78, 82, 83, 84, 85, 86, 87, 88, 89, 90, 91, 92, 93, 94, 95, 96, 97, 98, 99, 100, 101, 102, 103, 104, 105, 106, 107, 108, 109, 110, 111, 112, 113, 114, 115, 116, 117, 118, 119, 120, 121, 122, 123, 124, 125, 126, 127, 128, 151, 152, 153, 154, 155, 156, 157, 158, 159, 160, 161, 162, 163, 164, 165, 166, 167, 168, 169, 170, 171, 172, 173, 174, 175, 176, 177, 178, 179, 180, 181, 182, 183] (by decide +kernel) (by decide +kernel)
set_option maxRecDepth 20000 in
theorem gL_holds_L_isPerson : GoodIn wsL_holds (va_wsS RL 83 yL_isPerson wsL_isPerson) := goodIn_app (goodIn_of _ (by decide +kernel)) ggL_holds_L_isPerson
set_option maxRecDepth 20000 in
theorem ggL_holds_X3_payer : GoodIn wsL_holds wsX3_payer := goodIn_r _ [132, 6, 7, 87, 57, 4, 58, 133, 134, 135, 25, 136, 28, 137, 138, 139, 140, 27, 141, 54, 55, 48, 56, 142, 143, 144, 145, 146, 147, 148, 149, 150, 151, 152, 153, 154, 155, 156, 157, 158, 159, 160, 161, 162, 163, 164, 165, 166, 167, 168, 169, 170, 171, 172, 173, 174] (by decide +kernel) (by decide +kernel)
set_option maxRecDepth 20000 in
theorem gL_holds_X3_payer : GoodIn wsL_holds (wsV RL 86 RX3 yX3_payer wsX3_payer) := goodIn_app (goodIn_of _ (by decide +kernel)) ggL_holds_X3_payer
theorem dL_holds_0 : decode cL_holds 0 = .ok (.aload_n 0, 1) := by decide +kernel
theorem dL_holds_1 : decode cL_holds 1 = .ok (.iconst 0, 1) := by decide +kernel
theorem dL_holds_2 : decode cL_holds 2 = .ok (.invokevirtual 9, 3) := by decide +kernel
theorem dL_holds_5 : decode cL_holds 5 = .ok (.istore_n 2, 1) := by decide +kernel
theorem dL_holds_6 : decode cL_holds 6 = .ok (.iconst 0, 1) := by decide +kernel
theorem dL_holds_7 : decode cL_holds 7 = .ok (.istore_n 3, 1) := by decide +kernel
theorem dL_holds_8 : decode cL_holds 8 = .ok (.iconst 0, 1) := by decide +kernel
theorem dL_holds_9 : decode cL_holds 9 = .ok (.istore 4, 2) := by decide +kernel
theorem dL_holds_11 : decode cL_holds 11 = .ok (.aload_n 0, 1) := by decide +kernel
theorem dL_holds_12 : decode cL_holds 12 = .ok (.iload_n 2, 1) := by decide +kernel
theorem dL_holds_13 : decode cL_holds 13 = .ok (.iconst 0, 1) := by decide +kernel
theorem dL_holds_14 : decode cL_holds 14 = .ok (.invokevirtual 52, 3) := by decide +kernel
theorem dL_holds_17 : decode cL_holds 17 = .ok (.iconst (-1), 1) := by decide +kernel
theorem dL_holds_18 : decode cL_holds 18 = .ok (.if_icmp .ne 34, 3) := by decide +kernel
theorem dL_holds_21 : decode cL_holds 21 = .ok (.aload_n 0, 1) := by decide +kernel
theorem dL_holds_22 : decode cL_holds 22 = .ok (.iconst 1, 1) := by decide +kernel
theorem dL_holds_23 : decode cL_holds 23 = .ok (.invokevirtual 9, 3) := by decide +kernel
theorem dL_holds_26 : decode cL_holds 26 = .ok (.iload_n 2, 1) := by decide +kernel
theorem dL_holds_27 : decode cL_holds 27 = .ok (.aload_n 0, 1) := by decide +kernel
theorem dL_holds_28 : decode cL_holds 28 = .ok (.iconst 2, 1) := by decide +kernel
theorem dL_holds_29 : decode cL_holds 29 = .ok (.invokevirtual 9, 3) := by decide +kernel
theorem dL_holds_32 : decode cL_holds 32 = .ok (.iadd, 1) := by decide +kernel
theorem dL_holds_33 : decode cL_holds 33 = .ok (.aload_n 0, 1) := by decide +kernel
theorem dL_holds_34 : decode cL_holds 34 = .ok (.iconst 3, 1) := by decide +kernel
theorem dL_holds_35 : decode cL_holds 35 = .ok (.invokevirtual 9, 3) := by decide +kernel
theorem dL_holds_38 : decode cL_holds 38 = .ok (.iadd, 1) := by decide +kernel
theorem dL_holds_39 : decode cL_holds 39 = .ok (.aload_n 0, 1) := by decide +kernel
theorem dL_holds_40 : decode cL_holds 40 = .ok (.iconst 4, 1) := by decide +kernel
theorem dL_holds_41 : decode cL_holds 41 = .ok (.invokevirtual 9, 3) := by decide +kernel
theorem dL_holds_44 : decode cL_holds 44 = .ok (.iadd, 1) := by decide +kernel
theorem dL_holds_45 : decode cL_holds 45 = .ok (.if_icmp .ne 7, 3) := by decide +kernel
theorem dL_holds_48 : decode cL_holds 48 = .ok (.iconst 1, 1) := by decide +kernel
theorem dL_holds_49 : decode cL_holds 49 = .ok (.goto 4, 3) := by decide +kernel
theorem dL_holds_52 : decode cL_holds 52 = .ok (.iconst 0, 1) := by decide +kernel
theorem dL_holds_53 : decode cL_holds 53 = .ok (.istore 5, 2) := by decide +kernel
theorem dL_holds_55 : decode cL_holds 55 = .ok (.iconst 0, 1) := by decide +kernel
theorem dL_holds_56 : decode cL_holds 56 = .ok (.istore 6, 2) := by decide +kernel
theorem dL_holds_58 : decode cL_holds 58 = .ok (.iload 6, 2) := by decide +kernel
theorem dL_holds_60 : decode cL_holds 60 = .ok (.iload_n 2, 1) := by decide +kernel
theorem dL_holds_61 : decode cL_holds 61 = .ok (.if_icmp .ge 89, 3) := by decide +kernel
theorem dL_holds_64 : decode cL_holds 64 = .ok (.iload 5, 2) := by decide +kernel
theorem dL_holds_66 : decode cL_holds 66 = .ok (.ifCond .eq 84, 3) := by decide +kernel
theorem dL_holds_69 : decode cL_holds 69 = .ok (.aload_n 0, 1) := by decide +kernel
theorem dL_holds_70 : decode cL_holds 70 = .ok (.iload 6, 2) := by decide +kernel
theorem dL_holds_72 : decode cL_holds 72 = .ok (.iload_n 1, 1) := by decide +kernel
theorem dL_holds_73 : decode cL_holds 73 = .ok (.iload 6, 2) := by decide +kernel
theorem dL_holds_75 : decode cL_holds 75 = .ok (.iadd, 1) := by decide +kernel
theorem dL_holds_76 : decode cL_holds 76 = .ok (.invokestatic 83, 3) := by decide +kernel
theorem dL_holds_79 : decode cL_holds 79 = .ok (.ifCond .eq 31, 3) := by decide +kernel
theorem dL_holds_82 : decode cL_holds 82 = .ok (.iload 6, 2) := by decide +kernel
theorem dL_holds_84 : decode cL_holds 84 = .ok (.ifCond .eq 22, 3) := by decide +kernel
theorem dL_holds_87 : decode cL_holds 87 = .ok (.aload_n 0, 1) := by decide +kernel
theorem dL_holds_88 : decode cL_holds 88 = .ok (.iload 6, 2) := by decide +kernel
theorem dL_holds_90 : decode cL_holds 90 = .ok (.iconst 0, 1) := by decide +kernel
theorem dL_holds_91 : decode cL_holds 91 = .ok (.invokevirtual 52, 3) := by decide +kernel
theorem dL_holds_94 : decode cL_holds 94 = .ok (.aload_n 0, 1) := by decide +kernel
theorem dL_holds_95 : decode cL_holds 95 = .ok (.iload 6, 2) := by decide +kernel
theorem dL_holds_97 : decode cL_holds 97 = .ok (.iconst 1, 1) := by decide +kernel
theorem dL_holds_98 : decode cL_holds 98 = .ok (.isub, 1) := by decide +kernel
theorem dL_holds_99 : decode cL_holds 99 = .ok (.iconst 0, 1) := by decide +kernel
theorem dL_holds_100 : decode cL_holds 100 = .ok (.invokevirtual 52, 3) := by decide +kernel
theorem dL_holds_103 : decode cL_holds 103 = .ok (.if_icmp .eq 7, 3) := by decide +kernel
theorem dL_holds_106 : decode cL_holds 106 = .ok (.iconst 1, 1) := by decide +kernel
theorem dL_holds_107 : decode cL_holds 107 = .ok (.goto 4, 3) := by decide +kernel
theorem dL_holds_110 : decode cL_holds 110 = .ok (.iconst 0, 1) := by decide +kernel
theorem dL_holds_111 : decode cL_holds 111 = .ok (.istore 5, 2) := by decide +kernel
theorem dL_holds_113 : decode cL_holds 113 = .ok (.iload_n 3, 1) := by decide +kernel
theorem dL_holds_114 : decode cL_holds 114 = .ok (.aload_n 0, 1) := by decide +kernel
theorem dL_holds_115 : decode cL_holds 115 = .ok (.iload 6, 2) := by decide +kernel
theorem dL_holds_117 : decode cL_holds 117 = .ok (.iconst 1, 1) := by decide +kernel
theorem dL_holds_118 : decode cL_holds 118 = .ok (.invokevirtual 52, 3) := by decide +kernel
theorem dL_holds_121 : decode cL_holds 121 = .ok (.iadd, 1) := by decide +kernel
theorem dL_holds_122 : decode cL_holds 122 = .ok (.istore_n 3, 1) := by decide +kernel
theorem dL_holds_123 : decode cL_holds 123 = .ok (.iload 4, 2) := by decide +kernel
theorem dL_holds_125 : decode cL_holds 125 = .ok (.aload_n 0, 1) := by decide +kernel
theorem dL_holds_126 : decode cL_holds 126 = .ok (.iload 6, 2) := by decide +kernel
theorem dL_holds_128 : decode cL_holds 128 = .ok (.bipush 7, 2) := by decide +kernel
theorem dL_holds_130 : decode cL_holds 130 = .ok (.invokevirtual 52, 3) := by decide +kernel
theorem dL_holds_133 : decode cL_holds 133 = .ok (.ifCond .ne 7, 3) := by decide +kernel
theorem dL_holds_136 : decode cL_holds 136 = .ok (.iconst 1, 1) := by decide +kernel
theorem dL_holds_137 : decode cL_holds 137 = .ok (.goto 4, 3) := by decide +kernel
theorem dL_holds_140 : decode cL_holds 140 = .ok (.iconst 0, 1) := by decide +kernel
theorem dL_holds_141 : decode cL_holds 141 = .ok (.iadd, 1) := by decide +kernel
theorem dL_holds_142 : decode cL_holds 142 = .ok (.istore 4, 2) := by decide +kernel
theorem dL_holds_144 : decode cL_holds 144 = .ok (.iinc 6 1, 3) := by decide +kernel
theorem dL_holds_147 : decode cL_holds 147 = .ok (.goto (-89), 3) := by decide +kernel
theorem dL_holds_150 : decode cL_holds 150 = .ok (.aload_n 0, 1) := by decide +kernel
theorem dL_holds_151 : decode cL_holds 151 = .ok (.bipush 11, 2) := by decide +kernel
theorem dL_holds_153 : decode cL_holds 153 = .ok (.invokevirtual 9, 3) := by decide +kernel
theorem dL_holds_156 : decode cL_holds 156 = .ok (.istore 6, 2) := by decide +kernel
theorem dL_holds_158 : decode cL_holds 158 = .ok (.iload 5, 2) := by decide +kernel
theorem dL_holds_160 : decode cL_holds 160 = .ok (.ifCond .eq 52, 3) := by decide +kernel
theorem dL_holds_163 : decode cL_holds 163 = .ok (.iload_n 3, 1) := by decide +kernel
theorem dL_holds_164 : decode cL_holds 164 = .ok (.aload_n 0, 1) := by decide +kernel
theorem dL_holds_165 : decode cL_holds 165 = .ok (.bipush 10, 2) := by decide +kernel
theorem dL_holds_167 : decode cL_holds 167 = .ok (.invokevirtual 9, 3) := by decide +kernel
theorem dL_holds_170 : decode cL_holds 170 = .ok (.if_icmp .ne 42, 3) := by decide +kernel
theorem dL_holds_173 : decode cL_holds 173 = .ok (.iload 4, 2) := by decide +kernel
theorem dL_holds_175 : decode cL_holds 175 = .ok (.aload_n 0, 1) := by decide +kernel
theorem dL_holds_176 : decode cL_holds 176 = .ok (.bipush 12, 2) := by decide +kernel
theorem dL_holds_178 : decode cL_holds 178 = .ok (.invokevirtual 9, 3) := by decide +kernel
theorem dL_holds_181 : decode cL_holds 181 = .ok (.if_icmp .ne 31, 3) := by decide +kernel
theorem dL_holds_184 : decode cL_holds 184 = .ok (.iload 6, 2) := by decide +kernel
theorem dL_holds_186 : decode cL_holds 186 = .ok (.bipush (-5), 2) := by decide +kernel
theorem dL_holds_188 : decode cL_holds 188 = .ok (.if_icmp .ne 7, 3) := by decide +kernel
theorem dL_holds_191 : decode cL_holds 191 = .ok (.iconst 1, 1) := by decide +kernel
theorem dL_holds_192 : decode cL_holds 192 = .ok (.goto 4, 3) := by decide +kernel
theorem dL_holds_195 : decode cL_holds 195 = .ok (.iconst 0, 1) := by decide +kernel
theorem dL_holds_196 : decode cL_holds 196 = .ok (.iload_n 2, 1) := by decide +kernel
theorem dL_holds_197 : decode cL_holds 197 = .ok (.ifCond .ne 7, 3) := by decide +kernel
theorem dL_holds_200 : decode cL_holds 200 = .ok (.iconst 1, 1) := by decide +kernel
theorem dL_holds_201 : decode cL_holds 201 = .ok (.goto 4, 3) := by decide +kernel
theorem dL_holds_204 : decode cL_holds 204 = .ok (.iconst 0, 1) := by decide +kernel
theorem dL_holds_205 : decode cL_holds 205 = .ok (.if_icmp .ne 7, 3) := by decide +kernel
theorem dL_holds_208 : decode cL_holds 208 = .ok (.iconst 1, 1) := by decide +kernel
theorem dL_holds_209 : decode cL_holds 209 = .ok (.goto 4, 3) := by decide +kernel
theorem dL_holds_212 : decode cL_holds 212 = .ok (.iconst 0, 1) := by decide +kernel
theorem dL_holds_213 : decode cL_holds 213 = .ok (.istore 5, 2) := by decide +kernel
theorem dL_holds_215 : decode cL_holds 215 = .ok (.iconst 0, 1) := by decide +kernel
theorem dL_holds_216 : decode cL_holds 216 = .ok (.istore 7, 2) := by decide +kernel
theorem dL_holds_218 : decode cL_holds 218 = .ok (.iload 7, 2) := by decide +kernel
theorem dL_holds_220 : decode cL_holds 220 = .ok (.iload_n 2, 1) := by decide +kernel
theorem dL_holds_221 : decode cL_holds 221 = .ok (.if_icmp .ge 62, 3) := by decide +kernel
theorem dL_holds_224 : decode cL_holds 224 = .ok (.iload 5, 2) := by decide +kernel
theorem dL_holds_226 : decode cL_holds 226 = .ok (.ifCond .eq 57, 3) := by decide +kernel
theorem dL_holds_229 : decode cL_holds 229 = .ok (.aload_n 0, 1) := by decide +kernel
theorem dL_holds_230 : decode cL_holds 230 = .ok (.iload 7, 2) := by decide +kernel
theorem dL_holds_232 : decode cL_holds 232 = .ok (.iconst 1, 1) := by decide +kernel
theorem dL_holds_233 : decode cL_holds 233 = .ok (.invokevirtual 52, 3) := by decide +kernel
theorem dL_holds_236 : decode cL_holds 236 = .ok (.aload_n 0, 1) := by decide +kernel
theorem dL_holds_237 : decode cL_holds 237 = .ok (.iload 6, 2) := by decide +kernel
theorem dL_holds_239 : decode cL_holds 239 = .ok (.iconst 1, 1) := by decide +kernel
theorem dL_holds_240 : decode cL_holds 240 = .ok (.invokevirtual 52, 3) := by decide +kernel
theorem dL_holds_243 : decode cL_holds 243 = .ok (.if_icmp .lt 27, 3) := by decide +kernel
theorem dL_holds_246 : decode cL_holds 246 = .ok (.iload 7, 2) := by decide +kernel
theorem dL_holds_248 : decode cL_holds 248 = .ok (.iload 6, 2) := by decide +kernel
theorem dL_holds_250 : decode cL_holds 250 = .ok (.if_icmp .lt 24, 3) := by decide +kernel
theorem dL_holds_253 : decode cL_holds 253 = .ok (.aload_n 0, 1) := by decide +kernel
theorem dL_holds_254 : decode cL_holds 254 = .ok (.iload 7, 2) := by decide +kernel
theorem dL_holds_256 : decode cL_holds 256 = .ok (.iconst 1, 1) := by decide +kernel
theorem dL_holds_257 : decode cL_holds 257 = .ok (.invokevirtual 52, 3) := by decide +kernel
theorem dL_holds_260 : decode cL_holds 260 = .ok (.aload_n 0, 1) := by decide +kernel
theorem dL_holds_261 : decode cL_holds 261 = .ok (.iload 6, 2) := by decide +kernel
theorem dL_holds_263 : decode cL_holds 263 = .ok (.iconst 1, 1) := by decide +kernel
theorem dL_holds_264 : decode cL_holds 264 = .ok (.invokevirtual 52, 3) := by decide +kernel
theorem dL_holds_267 : decode cL_holds 267 = .ok (.if_icmp .ne 7, 3) := by decide +kernel
theorem dL_holds_270 : decode cL_holds 270 = .ok (.iconst 1, 1) := by decide +kernel
theorem dL_holds_271 : decode cL_holds 271 = .ok (.goto 4, 3) := by decide +kernel
theorem dL_holds_274 : decode cL_holds 274 = .ok (.iconst 0, 1) := by decide +kernel
theorem dL_holds_275 : decode cL_holds 275 = .ok (.istore 5, 2) := by decide +kernel
theorem dL_holds_277 : decode cL_holds 277 = .ok (.iinc 7 1, 3) := by decide +kernel
theorem dL_holds_280 : decode cL_holds 280 = .ok (.goto (-62), 3) := by decide +kernel
theorem dL_holds_283 : decode cL_holds 283 = .ok (.aload_n 0, 1) := by decide +kernel
theorem dL_holds_284 : decode cL_holds 284 = .ok (.iconst 0, 1) := by decide +kernel
theorem dL_holds_285 : decode cL_holds 285 = .ok (.invokevirtual 86, 3) := by decide +kernel
theorem dL_holds_288 : decode cL_holds 288 = .ok (.istore 7, 2) := by decide +kernel
theorem dL_holds_290 : decode cL_holds 290 = .ok (.aload_n 0, 1) := by decide +kernel
theorem dL_holds_291 : decode cL_holds 291 = .ok (.bipush 14, 2) := by decide +kernel
theorem dL_holds_293 : decode cL_holds 293 = .ok (.invokevirtual 9, 3) := by decide +kernel
theorem dL_holds_296 : decode cL_holds 296 = .ok (.iload_n 2, 1) := by decide +kernel
theorem dL_holds_297 : decode cL_holds 297 = .ok (.if_icmp .ge 12, 3) := by decide +kernel
theorem dL_holds_300 : decode cL_holds 300 = .ok (.aload_n 0, 1) := by decide +kernel
theorem dL_holds_301 : decode cL_holds 301 = .ok (.bipush 14, 2) := by decide +kernel
theorem dL_holds_303 : decode cL_holds 303 = .ok (.invokevirtual 9, 3) := by decide +kernel
theorem dL_holds_306 : decode cL_holds 306 = .ok (.goto 4, 3) := by decide +kernel
theorem dL_holds_309 : decode cL_holds 309 = .ok (.iload_n 2, 1) := by decide +kernel
theorem dL_holds_310 : decode cL_holds 310 = .ok (.istore 8, 2) := by decide +kernel
theorem dL_holds_312 : decode cL_holds 312 = .ok (.iload 8, 2) := by decide +kernel
theorem dL_holds_314 : decode cL_holds 314 = .ok (.aload_n 0, 1) := by decide +kernel
theorem dL_holds_315 : decode cL_holds 315 = .ok (.bipush 15, 2) := by decide +kernel
theorem dL_holds_317 : decode cL_holds 317 = .ok (.invokevirtual 9, 3) := by decide +kernel
theorem dL_holds_320 : decode cL_holds 320 = .ok (.imul, 1) := by decide +kernel
theorem dL_holds_321 : decode cL_holds 321 = .ok (.istore 9, 2) := by decide +kernel
theorem dL_holds_323 : decode cL_holds 323 = .ok (.iload 5, 2) := by decide +kernel
theorem dL_holds_325 : decode cL_holds 325 = .ok (.ifCond .eq 65, 3) := by decide +kernel
theorem dL_holds_328 : decode cL_holds 328 = .ok (.iload_n 2, 1) := by decide +kernel
theorem dL_holds_329 : decode cL_holds 329 = .ok (.ifCond .ne 13, 3) := by decide +kernel
theorem dL_holds_332 : decode cL_holds 332 = .ok (.iload 7, 2) := by decide +kernel
theorem dL_holds_334 : decode cL_holds 334 = .ok (.bipush (-5), 2) := by decide +kernel
theorem dL_holds_336 : decode cL_holds 336 = .ok (.if_icmp .ne 54, 3) := by decide +kernel
theorem dL_holds_339 : decode cL_holds 339 = .ok (.goto 47, 3) := by decide +kernel
theorem dL_holds_342 : decode cL_holds 342 = .ok (.iload 7, 2) := by decide +kernel
theorem dL_holds_344 : decode cL_holds 344 = .ok (.ifCond .lt 46, 3) := by decide +kernel
theorem dL_holds_347 : decode cL_holds 347 = .ok (.iload 7, 2) := by decide +kernel
theorem dL_holds_349 : decode cL_holds 349 = .ok (.iload 8, 2) := by decide +kernel
theorem dL_holds_351 : decode cL_holds 351 = .ok (.if_icmp .ge 39, 3) := by decide +kernel
theorem dL_holds_354 : decode cL_holds 354 = .ok (.aload_n 0, 1) := by decide +kernel
theorem dL_holds_355 : decode cL_holds 355 = .ok (.iconst 1, 1) := by decide +kernel
theorem dL_holds_356 : decode cL_holds 356 = .ok (.invokevirtual 86, 3) := by decide +kernel
theorem dL_holds_359 : decode cL_holds 359 = .ok (.iload 9, 2) := by decide +kernel
theorem dL_holds_361 : decode cL_holds 361 = .ok (.aload_n 0, 1) := by decide +kernel
theorem dL_holds_362 : decode cL_holds 362 = .ok (.iload 7, 2) := by decide +kernel
theorem dL_holds_364 : decode cL_holds 364 = .ok (.iconst 3, 1) := by decide +kernel
theorem dL_holds_365 : decode cL_holds 365 = .ok (.invokevirtual 52, 3) := by decide +kernel
theorem dL_holds_368 : decode cL_holds 368 = .ok (.if_icmp .ge 8, 3) := by decide +kernel
theorem dL_holds_371 : decode cL_holds 371 = .ok (.iload 9, 2) := by decide +kernel
theorem dL_holds_373 : decode cL_holds 373 = .ok (.goto 10, 3) := by decide +kernel
theorem dL_holds_376 : decode cL_holds 376 = .ok (.aload_n 0, 1) := by decide +kernel
theorem dL_holds_377 : decode cL_holds 377 = .ok (.iload 7, 2) := by decide +kernel
theorem dL_holds_379 : decode cL_holds 379 = .ok (.iconst 3, 1) := by decide +kernel
theorem dL_holds_380 : decode cL_holds 380 = .ok (.invokevirtual 52, 3) := by decide +kernel
theorem dL_holds_383 : decode cL_holds 383 = .ok (.if_icmp .ne 7, 3) := by decide +kernel
theorem dL_holds_386 : decode cL_holds 386 = .ok (.iconst 1, 1) := by decide +kernel
theorem dL_holds_387 : decode cL_holds 387 = .ok (.goto 4, 3) := by decide +kernel
theorem dL_holds_390 : decode cL_holds 390 = .ok (.iconst 0, 1) := by decide +kernel
theorem dL_holds_391 : decode cL_holds 391 = .ok (.ireturn, 1) := by decide +kernel
set_option maxRecDepth 20000 in
theorem ggL_law_X3_init : GoodIn wsL_law wsX3_init := goodIn_r _ [5, 6, 7, 8, 9, 10, 11, 12, 13, 14, 15, 16, 17, 18, 19, 20, 21, 22, 23, 24, 25, 26, 27, 28, 29, 30, 31, 32, 33, 34, 35, 36, 37, 38, 39, 40, 41, 42, 43, 44, 45, 46, 47, 48, 372, 373, 374, 375, 376, 377, 378, 379, 380, 381, 382, 383, 384, 385, 386, 387, 388, 365, 366, 367, 368, 369, 370, 371, 389, 390, 391, 392, 393, 394, 395, 396, 397] (by decide +kernel) (by decide +kernel)
set_option maxRecDepth 20000 in
theorem gL_law_X3_init : GoodIn wsL_law (wsX3_init) := ggL_law_X3_init
set_option maxRecDepth 20000 in
theorem ggL_law_L_holds : GoodIn wsL_law wsL_holds := goodIn_r _ [52, 53, 54, 55, 2, 56, 12, 57, 58, 59, 60, 61, 62, 63, 64, 65, 66, 67, 17, 68, 21, 69, 70, 71, 72, 11, 73, 74, 29, 75, 76, 77, 78, 79, 80, 81, 82, 83, 84, 85, 86, 32, 87, 88, 89, 90, 91, 92, 93, 94, 95, 96, 97, 98, 99, 100, 101, 102, 103, 104, 105, 106, 107, 108, 109, 110, 111, 112, 113, 114, 115, 116, 117, 118, 119, 120, 121, 122, 51, 123, 124, 125, 126, 127, 128, 129, 130, 131, 132, 133, 134, 135, 136, 137, 138, 139, 140, 141, 142, 143, 30, 144, 145, 146, 147, 148, 149, 150, 151, 152, 153, 154, 155, 156, 157, 158, 159, 160, 161, 162, 163, 164, 165, 166, 167, 168, 169, 170, 171, 172, 173, 174, 175, 176, 177, 178, 179, 180, 181, 182, 183, 34, 184, 185, 186, 187, 31, 188, 189, 190, 191, 365, 366, 367, 368, 369, 370, 371, 372, 373, 374, 375, 376, 377, 378, 379, 380, 381, 382, 383, 384, 385, 386, 387, 388, 389, 390, 391, 392, 393, 394, 395, 396, 397] (by decide +kernel) (by decide +kernel)
set_option maxRecDepth 20000 in
theorem gL_law_L_holds : GoodIn wsL_law (va_wsS RL 90 yL_holds wsL_holds) := goodIn_app (goodIn_of _ (by decide +kernel)) ggL_law_L_holds
set_option maxRecDepth 20000 in
theorem ggL_law_X3_undo : GoodIn wsL_law wsX3_undo := goodIn_r _ [195, 17, 68, 12, 196, 197, 198, 16, 199, 200, 40, 201, 202, 203, 11, 204, 28, 205, 206, 207, 208, 29, 30, 31, 32, 33, 34, 74, 209, 210, 211, 212, 213, 214, 215, 216, 217, 365, 366, 367, 368, 369, 370, 371, 389, 390, 372, 373, 374, 375, 376, 377, 378, 379, 380, 381, 382, 383, 384, 385, 386, 387, 388] (by decide +kernel) (by decide +kernel)
set_option maxRecDepth 20000 in
theorem gL_law_X3_undo : GoodIn wsL_law (wsV RL 80 RX3 yX3_undo wsX3_undo) := goodIn_app (goodIn_of _ (by decide +kernel)) ggL_law_X3_undo
set_option maxRecDepth 20000 in
theorem ggL_law_X3_restore : GoodIn wsL_law wsX3_restore := goodIn_r _ [221, 222, 17, 12, 13, 57, 223, 224, 225, 16, 226, 227, 228, 229, 230, 40, 200, 231, 202, 203, 11, 204, 28, 205, 206, 207, 208, 29, 30, 31, 32, 33, 34, 74, 209, 210, 211, 212, 213, 214, 215, 216, 217, 201, 232, 233, 234, 2, 235, 236, 237, 238, 239, 365, 366, 367, 368, 369, 370, 371, 372, 373, 374, 375, 376, 377, 378, 379, 380, 381, 382, 383, 384, 385, 386, 387, 388, 389, 390] (by decide +kernel) (by decide +kernel)
set_option maxRecDepth 20000 in
theorem gL_law_X3_restore : GoodIn wsL_law (wsV RL 94 RX3 yX3_restore wsX3_restore) := goodIn_app (goodIn_of _ (by decide +kernel)) ggL_law_X3_restore
set_option maxRecDepth 20000 in
theorem ggL_law_L_cell : GoodIn wsL_law wsL_cell := goodIn_r _ [242, 243] (by decide +kernel) (by decide +kernel)
set_option maxRecDepth 20000 in
theorem gL_law_L_cell : GoodIn wsL_law (va_wsS RL 97 yL_cell wsL_cell) := goodIn_app (goodIn_of _ (by decide +kernel)) ggL_law_L_cell
set_option maxRecDepth 20000 in
theorem ggL_law_L_low : GoodIn wsL_law wsL_low := goodIn_r _ [134, 135] (by decide +kernel) (by decide +kernel)
set_option maxRecDepth 20000 in
theorem gL_law_L_low : GoodIn wsL_law (va_wsS RL 15 yL_low wsL_low) := goodIn_app (goodIn_of _ (by decide +kernel)) ggL_law_L_low
set_option maxRecDepth 20000 in
theorem ggL_law_X3_count : GoodIn wsL_law wsX3_count := goodIn_r _ [56, 12, 57, 58, 59, 60, 61, 62, 63, 64, 65, 66, 67, 17, 68, 21, 69, 70, 71, 72, 11, 73, 74, 29, 75, 76, 77, 78, 79, 80, 81, 82, 83, 84, 85, 86, 32, 87, 88, 89, 90, 91, 92, 93, 94, 95, 96, 97, 98, 99, 100, 101, 102, 2, 103, 365, 366, 367, 368, 369, 370, 371, 372, 373, 374, 375, 376, 377, 378, 379, 380, 381, 382, 383, 384, 385, 386, 387, 388, 389, 390, 391, 392, 393, 394, 395, 396, 397] (by decide +kernel) (by decide +kernel)
set_option maxRecDepth 20000 in
theorem gL_law_X3_count : GoodIn wsL_law (wsV RL 9 RX3 yX3_count wsX3_count) := goodIn_app (goodIn_of _ (by decide +kernel)) ggL_law_X3_count
set_option maxRecDepth 20000 in
theorem ggL_law_X3_payer : GoodIn wsL_law wsX3_payer := goodIn_r _ [175, 12, 57, 131, 102, 2, 103, 176, 177, 178, 11, 179, 29, 180, 181, 182, 183, 74, 34, 99, 100, 93, 101, 184, 185, 186, 187, 31, 188, 189, 190, 191, 365, 366, 367, 368, 369, 370, 371, 372, 373, 374, 375, 376, 377, 378, 379, 380, 381, 382, 383, 384, 385, 386, 387, 388] (by decide +kernel) (by decide +kernel)
set_option maxRecDepth 20000 in
theorem gL_law_X3_payer : GoodIn wsL_law (wsV RL 86 RX3 yX3_payer wsX3_payer) := goodIn_app (goodIn_of _ (by decide +kernel)) ggL_law_X3_payer
set_option maxRecDepth 20000 in
theorem ggL_law_L_act : GoodIn wsL_law wsL_act := goodIn_r _ [246, 53, 54, 55, 2, 56, 12, 57, 58, 59, 60, 61, 62, 63, 64, 65, 66, 67, 17, 68, 21, 69, 70, 71, 72, 11, 73, 74, 29, 75, 76, 77, 78, 79, 80, 81, 82, 83, 84, 85, 86, 32, 87, 88, 89, 90, 91, 92, 93, 94, 95, 96, 97, 98, 99, 100, 101, 102, 103, 132, 133, 51, 134, 135, 247, 248, 249, 250, 223, 224, 225, 16, 226, 227, 228, 229, 230, 40, 200, 231, 202, 203, 204, 28, 205, 206, 207, 208, 30, 31, 33, 34, 209, 210, 211, 212, 213, 214, 215, 216, 217, 251, 252, 253, 254, 232, 233, 234, 235, 236, 237, 238, 239, 255, 256, 257, 258, 259, 260, 261, 262, 263, 115, 116, 117, 264, 265, 266, 267, 268, 269, 270, 271, 272, 273, 274, 275, 276, 277, 278, 279, 280, 281, 282, 283, 284, 285, 286, 287, 288, 289, 290, 291, 292, 293, 294, 295, 296, 297, 298, 299, 300, 301, 302, 303, 304, 305, 306, 307, 308, 309, 310, 311, 312, 313, 180, 181, 182, 183, 314, 177, 178, 179, 315, 185, 186, 187, 188, 189, 190, 191, 316, 317, 318, 319, 320, 321, 322, 323, 324, 325, 326, 327, 27, 156, 157, 158, 159, 110, 114, 160, 161, 162, 131, 163, 153, 154, 155, 164, 149, 150, 151, 165, 166, 167, 168, 144, 145, 146, 147, 148, 152, 104, 105, 106, 107, 108, 109, 111, 112, 113, 118, 119, 120, 328, 329, 330, 331, 332, 333, 334, 335, 336, 337, 338, 339, 340, 127, 128, 129, 130, 365, 366, 367, 368, 369, 370, 371, 372, 373, 374, 375, 376, 377, 378, 379, 380, 381, 382, 383, 384, 385, 386, 387, 388, 389, 390, 391, 392, 393, 394, 395, 396, 397] (by decide +kernel) (by decide +kernel)
set_option maxRecDepth 20000 in
theorem gL_law_L_act : GoodIn wsL_law (va_wsS RL 101 yL_act wsL_act) := goodIn_app (goodIn_of _ (by decide +kernel)) ggL_law_L_act
set_option maxRecDepth 20000 in
theorem ggL_law_L_isBest : GoodIn wsL_law wsL_isBest := goodIn_r _ [343, 344, 345, 346, 2, 347, 12, 160, 161, 162, 131, 102, 103, 348, 349, 350, 11, 351, 74, 32, 352, 353, 354, 355, 336, 166, 167, 168, 29, 99, 100, 93, 101, 144, 145, 146, 147, 148, 149, 150, 151, 87, 88, 89, 90, 91, 92, 94, 95, 96, 97, 98, 152, 153, 154, 155, 294, 295, 296, 297, 283, 284, 285, 356, 357, 51, 358, 53, 54, 55, 56, 57, 58, 59, 60, 61, 62, 63, 64, 65, 66, 67, 17, 68, 21, 69, 70, 71, 72, 73, 75, 76, 77, 78, 79, 80, 81, 82, 83, 84, 85, 86, 156, 157, 158, 159, 110, 114, 115, 116, 117, 163, 164, 165, 359, 360, 361, 362, 363, 280, 281, 282, 364, 104, 105, 106, 107, 108, 109, 111, 112, 113, 118, 119, 120, 286, 287, 288, 289, 223, 224, 225, 16, 226, 227, 228, 229, 230, 40, 200, 231, 202, 203, 204, 28, 205, 206, 207, 208, 30, 31, 33, 34, 209, 210, 211, 212, 213, 214, 215, 216, 217, 290, 291, 292, 293, 279, 232, 233, 234, 235, 236, 237, 238, 239, 192, 193, 194, 195, 196, 197, 198, 199, 201, 365, 366, 367, 368, 369, 370, 371, 372, 373, 374, 375, 376, 377, 378, 379, 380, 381, 382, 383, 384, 385, 386, 387, 388, 389, 390, 391, 392, 393, 394, 395, 396, 397] (by decide +kernel) (by decide +kernel)
set_option maxRecDepth 20000 in
theorem gL_law_L_isBest : GoodIn wsL_law (va_wsS RL 105 yL_isBest wsL_isBest) := goodIn_app (goodIn_of _ (by decide +kernel)) ggL_law_L_isBest
theorem dL_law_0 : decode cL_law 0 = .ok (.new 10, 3) := by decide +kernel
theorem dL_law_3 : decode cL_law 3 = .ok (.dup, 1) := by decide +kernel
theorem dL_law_4 : decode cL_law 4 = .ok (.invokespecial 89, 3) := by decide +kernel
theorem dL_law_7 : decode cL_law 7 = .ok (.astore_n 1, 1) := by decide +kernel
theorem dL_law_8 : decode cL_law 8 = .ok (.aload_n 1, 1) := by decide +kernel
theorem dL_law_9 : decode cL_law 9 = .ok (.iconst 5, 1) := by decide +kernel
theorem dL_law_10 : decode cL_law 10 = .ok (.invokestatic 90, 3) := by decide +kernel
theorem dL_law_13 : decode cL_law 13 = .ok (.ifCond .eq 25, 3) := by decide +kernel
theorem dL_law_16 : decode cL_law 16 = .ok (.aload_n 1, 1) := by decide +kernel
theorem dL_law_17 : decode cL_law 17 = .ok (.invokevirtual 80, 3) := by decide +kernel
theorem dL_law_20 : decode cL_law 20 = .ok (.bipush (-5), 2) := by decide +kernel
theorem dL_law_22 : decode cL_law 22 = .ok (.if_icmp .ne 16, 3) := by decide +kernel
theorem dL_law_25 : decode cL_law 25 = .ok (.aload_n 1, 1) := by decide +kernel
theorem dL_law_26 : decode cL_law 26 = .ok (.invokevirtual 94, 3) := by decide +kernel
theorem dL_law_29 : decode cL_law 29 = .ok (.bipush (-5), 2) := by decide +kernel
theorem dL_law_31 : decode cL_law 31 = .ok (.if_icmp .ne 7, 3) := by decide +kernel
theorem dL_law_34 : decode cL_law 34 = .ok (.iconst 1, 1) := by decide +kernel
theorem dL_law_35 : decode cL_law 35 = .ok (.goto 4, 3) := by decide +kernel
theorem dL_law_38 : decode cL_law 38 = .ok (.iconst 0, 1) := by decide +kernel
theorem dL_law_39 : decode cL_law 39 = .ok (.istore_n 2, 1) := by decide +kernel
theorem dL_law_40 : decode cL_law 40 = .ok (.iconst 0, 1) := by decide +kernel
theorem dL_law_41 : decode cL_law 41 = .ok (.istore_n 3, 1) := by decide +kernel
theorem dL_law_42 : decode cL_law 42 = .ok (.aload_n 0, 1) := by decide +kernel
theorem dL_law_43 : decode cL_law 43 = .ok (.arraylength, 1) := by decide +kernel
theorem dL_law_44 : decode cL_law 44 = .ok (.iconst 3, 1) := by decide +kernel
theorem dL_law_45 : decode cL_law 45 = .ok (.idiv, 1) := by decide +kernel
theorem dL_law_46 : decode cL_law 46 = .ok (.bipush 34, 2) := by decide +kernel
theorem dL_law_48 : decode cL_law 48 = .ok (.if_icmp .le 8, 3) := by decide +kernel
theorem dL_law_51 : decode cL_law 51 = .ok (.bipush 34, 2) := by decide +kernel
theorem dL_law_53 : decode cL_law 53 = .ok (.goto 7, 3) := by decide +kernel
theorem dL_law_56 : decode cL_law 56 = .ok (.aload_n 0, 1) := by decide +kernel
theorem dL_law_57 : decode cL_law 57 = .ok (.arraylength, 1) := by decide +kernel
theorem dL_law_58 : decode cL_law 58 = .ok (.iconst 3, 1) := by decide +kernel
theorem dL_law_59 : decode cL_law 59 = .ok (.idiv, 1) := by decide +kernel
theorem dL_law_60 : decode cL_law 60 = .ok (.istore 4, 2) := by decide +kernel
theorem dL_law_62 : decode cL_law 62 = .ok (.iconst 0, 1) := by decide +kernel
theorem dL_law_63 : decode cL_law 63 = .ok (.istore 5, 2) := by decide +kernel
theorem dL_law_65 : decode cL_law 65 = .ok (.iload 5, 2) := by decide +kernel
theorem dL_law_67 : decode cL_law 67 = .ok (.iload 4, 2) := by decide +kernel
theorem dL_law_69 : decode cL_law 69 = .ok (.if_icmp .ge 256, 3) := by decide +kernel
theorem dL_law_72 : decode cL_law 72 = .ok (.iload_n 2, 1) := by decide +kernel
theorem dL_law_73 : decode cL_law 73 = .ok (.ifCond .eq 252, 3) := by decide +kernel
theorem dL_law_76 : decode cL_law 76 = .ok (.aload_n 0, 1) := by decide +kernel
theorem dL_law_77 : decode cL_law 77 = .ok (.iconst 3, 1) := by decide +kernel
theorem dL_law_78 : decode cL_law 78 = .ok (.iload 5, 2) := by decide +kernel
theorem dL_law_80 : decode cL_law 80 = .ok (.imul, 1) := by decide +kernel
theorem dL_law_81 : decode cL_law 81 = .ok (.invokestatic 97, 3) := by decide +kernel
theorem dL_law_84 : decode cL_law 84 = .ok (.bipush 16, 2) := by decide +kernel
theorem dL_law_86 : decode cL_law 86 = .ok (.invokestatic 15, 3) := by decide +kernel
theorem dL_law_89 : decode cL_law 89 = .ok (.istore 6, 2) := by decide +kernel
theorem dL_law_91 : decode cL_law 91 = .ok (.aload_n 1, 1) := by decide +kernel
theorem dL_law_92 : decode cL_law 92 = .ok (.bipush 16, 2) := by decide +kernel
theorem dL_law_94 : decode cL_law 94 = .ok (.invokevirtual 9, 3) := by decide +kernel
theorem dL_law_97 : decode cL_law 97 = .ok (.istore 7, 2) := by decide +kernel
theorem dL_law_99 : decode cL_law 99 = .ok (.aload_n 1, 1) := by decide +kernel
theorem dL_law_100 : decode cL_law 100 = .ok (.iconst 4, 1) := by decide +kernel
theorem dL_law_101 : decode cL_law 101 = .ok (.invokevirtual 9, 3) := by decide +kernel
theorem dL_law_104 : decode cL_law 104 = .ok (.istore 8, 2) := by decide +kernel
theorem dL_law_106 : decode cL_law 106 = .ok (.aload_n 1, 1) := by decide +kernel
theorem dL_law_107 : decode cL_law 107 = .ok (.iconst 1, 1) := by decide +kernel
theorem dL_law_108 : decode cL_law 108 = .ok (.invokevirtual 86, 3) := by decide +kernel
theorem dL_law_111 : decode cL_law 111 = .ok (.istore 9, 2) := by decide +kernel
theorem dL_law_113 : decode cL_law 113 = .ok (.aload_n 1, 1) := by decide +kernel
theorem dL_law_114 : decode cL_law 114 = .ok (.bipush 15, 2) := by decide +kernel
theorem dL_law_116 : decode cL_law 116 = .ok (.invokevirtual 9, 3) := by decide +kernel
theorem dL_law_119 : decode cL_law 119 = .ok (.istore 10, 2) := by decide +kernel
theorem dL_law_121 : decode cL_law 121 = .ok (.aload_n 1, 1) := by decide +kernel
theorem dL_law_122 : decode cL_law 122 = .ok (.iload 6, 2) := by decide +kernel
theorem dL_law_124 : decode cL_law 124 = .ok (.aload_n 0, 1) := by decide +kernel
theorem dL_law_125 : decode cL_law 125 = .ok (.iconst 3, 1) := by decide +kernel
theorem dL_law_126 : decode cL_law 126 = .ok (.iload 5, 2) := by decide +kernel
theorem dL_law_128 : decode cL_law 128 = .ok (.imul, 1) := by decide +kernel
theorem dL_law_129 : decode cL_law 129 = .ok (.iconst 1, 1) := by decide +kernel
theorem dL_law_130 : decode cL_law 130 = .ok (.iadd, 1) := by decide +kernel
theorem dL_law_131 : decode cL_law 131 = .ok (.invokestatic 97, 3) := by decide +kernel
theorem dL_law_134 : decode cL_law 134 = .ok (.aload_n 0, 1) := by decide +kernel
theorem dL_law_135 : decode cL_law 135 = .ok (.iconst 3, 1) := by decide +kernel
theorem dL_law_136 : decode cL_law 136 = .ok (.iload 5, 2) := by decide +kernel
theorem dL_law_138 : decode cL_law 138 = .ok (.imul, 1) := by decide +kernel
theorem dL_law_139 : decode cL_law 139 = .ok (.iconst 2, 1) := by decide +kernel
theorem dL_law_140 : decode cL_law 140 = .ok (.iadd, 1) := by decide +kernel
theorem dL_law_141 : decode cL_law 141 = .ok (.invokestatic 97, 3) := by decide +kernel
theorem dL_law_144 : decode cL_law 144 = .ok (.invokestatic 101, 3) := by decide +kernel
theorem dL_law_147 : decode cL_law 147 = .ok (.istore 11, 2) := by decide +kernel
theorem dL_law_149 : decode cL_law 149 = .ok (.iload_n 3, 1) := by decide +kernel
theorem dL_law_150 : decode cL_law 150 = .ok (.aload_n 1, 1) := by decide +kernel
theorem dL_law_151 : decode cL_law 151 = .ok (.iconst 4, 1) := by decide +kernel
theorem dL_law_152 : decode cL_law 152 = .ok (.invokevirtual 9, 3) := by decide +kernel
theorem dL_law_155 : decode cL_law 155 = .ok (.iload 8, 2) := by decide +kernel
theorem dL_law_157 : decode cL_law 157 = .ok (.isub, 1) := by decide +kernel
theorem dL_law_158 : decode cL_law 158 = .ok (.iload 10, 2) := by decide +kernel
theorem dL_law_160 : decode cL_law 160 = .ok (.imul, 1) := by decide +kernel
theorem dL_law_161 : decode cL_law 161 = .ok (.iadd, 1) := by decide +kernel
theorem dL_law_162 : decode cL_law 162 = .ok (.istore_n 3, 1) := by decide +kernel
theorem dL_law_163 : decode cL_law 163 = .ok (.iload 11, 2) := by decide +kernel
theorem dL_law_165 : decode cL_law 165 = .ok (.bipush (-100), 2) := by decide +kernel
theorem dL_law_167 : decode cL_law 167 = .ok (.if_icmp .eq 85, 3) := by decide +kernel
theorem dL_law_170 : decode cL_law 170 = .ok (.aload_n 1, 1) := by decide +kernel
theorem dL_law_171 : decode cL_law 171 = .ok (.bipush 16, 2) := by decide +kernel
theorem dL_law_173 : decode cL_law 173 = .ok (.invokevirtual 9, 3) := by decide +kernel
theorem dL_law_176 : decode cL_law 176 = .ok (.iload 11, 2) := by decide +kernel
theorem dL_law_178 : decode cL_law 178 = .ok (.ifCond .ge 8, 3) := by decide +kernel
theorem dL_law_181 : decode cL_law 181 = .ok (.iload 7, 2) := by decide +kernel
theorem dL_law_183 : decode cL_law 183 = .ok (.goto 17, 3) := by decide +kernel
theorem dL_law_186 : decode cL_law 186 = .ok (.iload 7, 2) := by decide +kernel
theorem dL_law_188 : decode cL_law 188 = .ok (.iconst 4, 1) := by decide +kernel
theorem dL_law_189 : decode cL_law 189 = .ok (.if_icmp .ne 7, 3) := by decide +kernel
theorem dL_law_192 : decode cL_law 192 = .ok (.iconst 4, 1) := by decide +kernel
theorem dL_law_193 : decode cL_law 193 = .ok (.goto 7, 3) := by decide +kernel
theorem dL_law_196 : decode cL_law 196 = .ok (.iload 7, 2) := by decide +kernel
theorem dL_law_198 : decode cL_law 198 = .ok (.iconst 1, 1) := by decide +kernel
theorem dL_law_199 : decode cL_law 199 = .ok (.iadd, 1) := by decide +kernel
theorem dL_law_200 : decode cL_law 200 = .ok (.if_icmp .ne 52, 3) := by decide +kernel
theorem dL_law_203 : decode cL_law 203 = .ok (.iload 6, 2) := by decide +kernel
theorem dL_law_205 : decode cL_law 205 = .ok (.bipush 11, 2) := by decide +kernel
theorem dL_law_207 : decode cL_law 207 = .ok (.if_icmp .ne 10, 3) := by decide +kernel
theorem dL_law_210 : decode cL_law 210 = .ok (.iload 11, 2) := by decide +kernel
theorem dL_law_212 : decode cL_law 212 = .ok (.iload 9, 2) := by decide +kernel
theorem dL_law_214 : decode cL_law 214 = .ok (.if_icmp .ne 38, 3) := by decide +kernel
theorem dL_law_217 : decode cL_law 217 = .ok (.iload_n 3, 1) := by decide +kernel
theorem dL_law_218 : decode cL_law 218 = .ok (.aload_n 1, 1) := by decide +kernel
theorem dL_law_219 : decode cL_law 219 = .ok (.iconst 5, 1) := by decide +kernel
theorem dL_law_220 : decode cL_law 220 = .ok (.invokevirtual 9, 3) := by decide +kernel
theorem dL_law_223 : decode cL_law 223 = .ok (.aload_n 1, 1) := by decide +kernel
theorem dL_law_224 : decode cL_law 224 = .ok (.bipush 6, 2) := by decide +kernel
theorem dL_law_226 : decode cL_law 226 = .ok (.invokevirtual 9, 3) := by decide +kernel
theorem dL_law_229 : decode cL_law 229 = .ok (.iadd, 1) := by decide +kernel
theorem dL_law_230 : decode cL_law 230 = .ok (.if_icmp .ne 22, 3) := by decide +kernel
theorem dL_law_233 : decode cL_law 233 = .ok (.aload_n 1, 1) := by decide +kernel
theorem dL_law_234 : decode cL_law 234 = .ok (.aload_n 0, 1) := by decide +kernel
theorem dL_law_235 : decode cL_law 235 = .ok (.iconst 3, 1) := by decide +kernel
theorem dL_law_236 : decode cL_law 236 = .ok (.iload 5, 2) := by decide +kernel
theorem dL_law_238 : decode cL_law 238 = .ok (.imul, 1) := by decide +kernel
theorem dL_law_239 : decode cL_law 239 = .ok (.invokestatic 97, 3) := by decide +kernel
theorem dL_law_242 : decode cL_law 242 = .ok (.invokestatic 90, 3) := by decide +kernel
theorem dL_law_245 : decode cL_law 245 = .ok (.ifCond .eq 7, 3) := by decide +kernel
theorem dL_law_248 : decode cL_law 248 = .ok (.iconst 1, 1) := by decide +kernel
theorem dL_law_249 : decode cL_law 249 = .ok (.goto 4, 3) := by decide +kernel
theorem dL_law_252 : decode cL_law 252 = .ok (.iconst 0, 1) := by decide +kernel
theorem dL_law_253 : decode cL_law 253 = .ok (.istore_n 2, 1) := by decide +kernel
theorem dL_law_254 : decode cL_law 254 = .ok (.iload_n 2, 1) := by decide +kernel
theorem dL_law_255 : decode cL_law 255 = .ok (.ifCond .eq 62, 3) := by decide +kernel
theorem dL_law_258 : decode cL_law 258 = .ok (.iload 5, 2) := by decide +kernel
theorem dL_law_260 : decode cL_law 260 = .ok (.iconst 3, 1) := by decide +kernel
theorem dL_law_261 : decode cL_law 261 = .ok (.irem, 1) := by decide +kernel
theorem dL_law_262 : decode cL_law 262 = .ok (.iconst 2, 1) := by decide +kernel
theorem dL_law_263 : decode cL_law 263 = .ok (.if_icmp .ne 50, 3) := by decide +kernel
theorem dL_law_266 : decode cL_law 266 = .ok (.aload_n 1, 1) := by decide +kernel
theorem dL_law_267 : decode cL_law 267 = .ok (.iconst 1, 1) := by decide +kernel
theorem dL_law_268 : decode cL_law 268 = .ok (.aload_n 0, 1) := by decide +kernel
theorem dL_law_269 : decode cL_law 269 = .ok (.iconst 3, 1) := by decide +kernel
theorem dL_law_270 : decode cL_law 270 = .ok (.iload 5, 2) := by decide +kernel
theorem dL_law_272 : decode cL_law 272 = .ok (.imul, 1) := by decide +kernel
theorem dL_law_273 : decode cL_law 273 = .ok (.iconst 1, 1) := by decide +kernel
theorem dL_law_274 : decode cL_law 274 = .ok (.iadd, 1) := by decide +kernel
theorem dL_law_275 : decode cL_law 275 = .ok (.invokestatic 97, 3) := by decide +kernel
theorem dL_law_278 : decode cL_law 278 = .ok (.bipush 99, 2) := by decide +kernel
theorem dL_law_280 : decode cL_law 280 = .ok (.invokestatic 15, 3) := by decide +kernel
theorem dL_law_283 : decode cL_law 283 = .ok (.iadd, 1) := by decide +kernel
theorem dL_law_284 : decode cL_law 284 = .ok (.aload_n 0, 1) := by decide +kernel
theorem dL_law_285 : decode cL_law 285 = .ok (.iconst 3, 1) := by decide +kernel
theorem dL_law_286 : decode cL_law 286 = .ok (.iload 5, 2) := by decide +kernel
theorem dL_law_288 : decode cL_law 288 = .ok (.imul, 1) := by decide +kernel
theorem dL_law_289 : decode cL_law 289 = .ok (.iconst 2, 1) := by decide +kernel
theorem dL_law_290 : decode cL_law 290 = .ok (.iadd, 1) := by decide +kernel
theorem dL_law_291 : decode cL_law 291 = .ok (.invokestatic 97, 3) := by decide +kernel
theorem dL_law_294 : decode cL_law 294 = .ok (.iconst 3, 1) := by decide +kernel
theorem dL_law_295 : decode cL_law 295 = .ok (.invokestatic 15, 3) := by decide +kernel
theorem dL_law_298 : decode cL_law 298 = .ok (.invokestatic 105, 3) := by decide +kernel
theorem dL_law_301 : decode cL_law 301 = .ok (.ifCond .eq 16, 3) := by decide +kernel
theorem dL_law_304 : decode cL_law 304 = .ok (.aload_n 1, 1) := by decide +kernel
theorem dL_law_305 : decode cL_law 305 = .ok (.bipush 7, 2) := by decide +kernel
theorem dL_law_307 : decode cL_law 307 = .ok (.invokestatic 90, 3) := by decide +kernel
theorem dL_law_310 : decode cL_law 310 = .ok (.ifCond .eq 7, 3) := by decide +kernel
theorem dL_law_313 : decode cL_law 313 = .ok (.iconst 1, 1) := by decide +kernel
theorem dL_law_314 : decode cL_law 314 = .ok (.goto 4, 3) := by decide +kernel
theorem dL_law_317 : decode cL_law 317 = .ok (.iconst 0, 1) := by decide +kernel
theorem dL_law_318 : decode cL_law 318 = .ok (.istore_n 2, 1) := by decide +kernel
theorem dL_law_319 : decode cL_law 319 = .ok (.iinc 5 1, 3) := by decide +kernel
theorem dL_law_322 : decode cL_law 322 = .ok (.goto (-257), 3) := by decide +kernel
theorem dL_law_325 : decode cL_law 325 = .ok (.iload_n 2, 1) := by decide +kernel
theorem dL_law_326 : decode cL_law 326 = .ok (.ireturn, 1) := by decide +kernel
