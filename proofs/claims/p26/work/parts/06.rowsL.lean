theorem dJ9_max_7cf53_0 : decode cJ9_max_7cf53 0 = .ok (.iload_n 0, 1) := by decide +kernel
theorem dJ9_max_7cf53_1 : decode cJ9_max_7cf53 1 = .ok (.iload_n 1, 1) := by decide +kernel
theorem dJ9_max_7cf53_2 : decode cJ9_max_7cf53 2 = .ok (.if_icmp .lt 7, 3) := by decide +kernel
theorem dJ9_max_7cf53_5 : decode cJ9_max_7cf53 5 = .ok (.iload_n 0, 1) := by decide +kernel
theorem dJ9_max_7cf53_6 : decode cJ9_max_7cf53 6 = .ok (.goto 4, 3) := by decide +kernel
theorem dJ9_max_7cf53_9 : decode cJ9_max_7cf53 9 = .ok (.iload_n 1, 1) := by decide +kernel
theorem dJ9_max_7cf53_10 : decode cJ9_max_7cf53 10 = .ok (.ireturn, 1) := by decide +kernel
theorem dJ9_min_7cf53_0 : decode cJ9_min_7cf53 0 = .ok (.iload_n 0, 1) := by decide +kernel
theorem dJ9_min_7cf53_1 : decode cJ9_min_7cf53 1 = .ok (.iload_n 1, 1) := by decide +kernel
theorem dJ9_min_7cf53_2 : decode cJ9_min_7cf53 2 = .ok (.if_icmp .gt 7, 3) := by decide +kernel
theorem dJ9_min_7cf53_5 : decode cJ9_min_7cf53 5 = .ok (.iload_n 0, 1) := by decide +kernel
theorem dJ9_min_7cf53_6 : decode cJ9_min_7cf53 6 = .ok (.goto 4, 3) := by decide +kernel
theorem dJ9_min_7cf53_9 : decode cJ9_min_7cf53 9 = .ok (.iload_n 1, 1) := by decide +kernel
theorem dJ9_min_7cf53_10 : decode cJ9_min_7cf53 10 = .ok (.ireturn, 1) := by decide +kernel
theorem dL_cell_0 : decode cL_cell 0 = .ok (.iload_n 1, 1) := by decide +kernel
theorem dL_cell_1 : decode cL_cell 1 = .ok (.aload_n 0, 1) := by decide +kernel
theorem dL_cell_2 : decode cL_cell 2 = .ok (.arraylength, 1) := by decide +kernel
theorem dL_cell_3 : decode cL_cell 3 = .ok (.if_icmp .ge 9, 3) := by decide +kernel
theorem dL_cell_6 : decode cL_cell 6 = .ok (.aload_n 0, 1) := by decide +kernel
theorem dL_cell_7 : decode cL_cell 7 = .ok (.iload_n 1, 1) := by decide +kernel
theorem dL_cell_8 : decode cL_cell 8 = .ok (.iaload, 1) := by decide +kernel
theorem dL_cell_9 : decode cL_cell 9 = .ok (.goto 11, 3) := by decide +kernel
theorem dL_cell_12 : decode cL_cell 12 = .ok (.ldc 7, 2) := by decide +kernel
theorem dL_cell_14 : decode cL_cell 14 = .ok (.iload_n 1, 1) := by decide +kernel
theorem dL_cell_15 : decode cL_cell 15 = .ok (.imul, 1) := by decide +kernel
theorem dL_cell_16 : decode cL_cell 16 = .ok (.sipush 977, 3) := by decide +kernel
theorem dL_cell_19 : decode cL_cell 19 = .ok (.iadd, 1) := by decide +kernel
theorem dL_cell_20 : decode cL_cell 20 = .ok (.ireturn, 1) := by decide +kernel
theorem dL_low_0 : decode cL_low 0 = .ok (.iload_n 0, 1) := by decide +kernel
theorem dL_low_1 : decode cL_low 1 = .ok (.ldc 8, 2) := by decide +kernel
theorem dL_low_3 : decode cL_low 3 = .ok (.iand, 1) := by decide +kernel
theorem dL_low_4 : decode cL_low 4 = .ok (.iload_n 1, 1) := by decide +kernel
theorem dL_low_5 : decode cL_low 5 = .ok (.irem, 1) := by decide +kernel
theorem dL_low_6 : decode cL_low 6 = .ok (.ireturn, 1) := by decide +kernel
set_option maxRecDepth 20000 in
theorem ggL_act_X3_count_0 : GoodIn wsL_act [.code yX3_count cX3_count 2 (some .int)] := goodIn_r _ [5] (by decide +kernel) (by decide +kernel)
set_option maxRecDepth 20000 in
theorem ggL_act_X3_count_1 : GoodIn wsL_act wsX3_count_r1 := goodIn_r _ [6, 7, 8, 9, 10, 11, 12, 13, 14, 15, 16, 17, 18, 19, 20, 21, 22, 23, 24, 25, 26, 27, 28, 29] (by decide +kernel) (by decide +kernel)
set_option maxRecDepth 20000 in
theorem ggL_act_X3_count_2 : GoodIn wsL_act wsX3_count_r2 := goodIn_r _ [30, 31, 32, 33, 34, 35, 36, 37, 38, 39, 40, 41, 42, 43, 44, 45, 46, 47, 48, 49, 50, 51, 52, 53] (by decide +kernel) (by decide +kernel)
set_option maxRecDepth 20000 in
theorem ggL_act_X3_count_3 : GoodIn wsL_act wsX3_count_r3 := goodIn_r _ [54, 55, 56, 57, 4, 58] (by decide +kernel) (by decide +kernel)
set_option maxRecDepth 20000 in
theorem ggL_act_X3_count_4 : GoodIn wsL_act wsX30 := goodIn_r _ [261, 262, 263, 264, 265, 266, 267] (by decide +kernel) (by decide +kernel)
set_option maxRecDepth 20000 in
theorem ggL_act_X3_count_5 : GoodIn wsL_act wsX10 := goodIn_r _ [268, 269, 270, 271, 272, 273, 274, 275, 276, 277, 278, 279, 280, 281, 282, 283, 284] (by decide +kernel) (by decide +kernel)
set_option maxRecDepth 20000 in
theorem ggL_act_X3_count_6 : GoodIn wsL_act wsX00 := goodIn_r _ [285, 286] (by decide +kernel) (by decide +kernel)
set_option maxRecDepth 20000 in
theorem ggL_act_X3_count_7 : GoodIn wsL_act wsX20 := goodIn_r _ [287, 288, 289, 290, 291, 292, 293] (by decide +kernel) (by decide +kernel)
theorem ggL_act_X3_count : GoodIn wsL_act wsX3_count := fun w h => (List.mem_cons.mp h).elim (fun z => ggL_act_X3_count_0 w (List.mem_singleton.mpr z)) (fun z => (List.forall_mem_append.mpr ⟨List.forall_mem_append.mpr ⟨List.forall_mem_append.mpr ⟨List.forall_mem_append.mpr ⟨List.forall_mem_append.mpr ⟨ggL_act_X3_count_1, List.forall_mem_append.mpr ⟨ggL_act_X3_count_2, ggL_act_X3_count_3⟩⟩, ggL_act_X3_count_4⟩, ggL_act_X3_count_5⟩, ggL_act_X3_count_6⟩, ggL_act_X3_count_7⟩) w z)
set_option maxRecDepth 20000 in
theorem gL_act_X3_count : GoodIn wsL_act (wsV RL 9 RX3 yX3_count wsX3_count) := goodIn_app (goodIn_of _ (by decide +kernel)) ggL_act_X3_count
set_option maxRecDepth 20000 in
theorem ggL_act_L_low : GoodIn wsL_act wsL_low := goodIn_r _ [62, 63] (by decide +kernel) (by decide +kernel)
set_option maxRecDepth 20000 in
theorem gL_act_L_low : GoodIn wsL_act (va_wsS RL 15 yL_low wsL_low) := goodIn_app (goodIn_of _ (by decide +kernel)) ggL_act_L_low
set_option maxRecDepth 20000 in
theorem ggL_act_X3_come_0 : GoodIn wsL_act [.code yX3_come cX3_come 4 (some .int)] := goodIn_r _ [67] (by decide +kernel) (by decide +kernel)
set_option maxRecDepth 20000 in
theorem ggL_act_X3_come_1 : GoodIn wsL_act wsX3_come_r1 := goodIn_r _ [18, 6, 68, 69, 70, 71, 72, 73, 74, 75, 76, 77, 78, 79, 80, 81, 25, 82, 83, 84, 85, 86, 87, 28] (by decide +kernel) (by decide +kernel)
set_option maxRecDepth 20000 in
theorem ggL_act_X3_come_2 : GoodIn wsL_act wsX3_come_r2 := goodIn_r _ [88, 89, 41, 90, 91, 27, 92, 93, 94, 95, 96, 97, 98, 99, 100, 101, 102, 103, 104, 57, 4, 58, 105, 106] (by decide +kernel) (by decide +kernel)
set_option maxRecDepth 20000 in
theorem ggL_act_X3_come_3 : GoodIn wsL_act wsX3_come_r3 := goodIn_r _ [107, 108, 109, 110, 111, 112] (by decide +kernel) (by decide +kernel)
set_option maxRecDepth 20000 in
theorem ggL_act_X3_come_4 : GoodIn wsL_act wsX30 := goodIn_r _ [261, 262, 263, 264, 265, 266, 267] (by decide +kernel) (by decide +kernel)
set_option maxRecDepth 20000 in
theorem ggL_act_X3_come_5 : GoodIn wsL_act wsX00 := goodIn_r _ [285, 286] (by decide +kernel) (by decide +kernel)
set_option maxRecDepth 20000 in
theorem ggL_act_X3_come_6 : GoodIn wsL_act wsX10 := goodIn_r _ [268, 269, 270, 271, 272, 273, 274, 275, 276, 277, 278, 279, 280, 281, 282, 283, 284] (by decide +kernel) (by decide +kernel)
theorem ggL_act_X3_come : GoodIn wsL_act wsX3_come := fun w h => (List.mem_cons.mp h).elim (fun z => ggL_act_X3_come_0 w (List.mem_singleton.mpr z)) (fun z => (List.forall_mem_append.mpr ⟨List.forall_mem_append.mpr ⟨List.forall_mem_append.mpr ⟨List.forall_mem_append.mpr ⟨ggL_act_X3_come_1, List.forall_mem_append.mpr ⟨ggL_act_X3_come_2, ggL_act_X3_come_3⟩⟩, ggL_act_X3_come_4⟩, ggL_act_X3_come_5⟩, ggL_act_X3_come_6⟩) w z)
set_option maxRecDepth 20000 in
theorem gL_act_X3_come : GoodIn wsL_act (wsV RL 21 RX3 yX3_come wsX3_come) := goodIn_app (goodIn_of _ (by decide +kernel)) ggL_act_X3_come
set_option maxRecDepth 20000 in
theorem ggL_act_X3_leave_0 : GoodIn wsL_act [.code yX3_leave cX3_leave 2 (some .int)] := goodIn_r _ [116] (by decide +kernel) (by decide +kernel)
set_option maxRecDepth 20000 in
theorem ggL_act_X3_leave_1 : GoodIn wsL_act wsX3_leave_r1 := goodIn_r _ [18, 6, 68, 69, 70, 71, 72, 73, 74, 75, 76, 77, 78, 79, 80, 81, 25, 82, 83, 84, 85, 86, 87, 28] (by decide +kernel) (by decide +kernel)
set_option maxRecDepth 20000 in
theorem ggL_act_X3_leave_2 : GoodIn wsL_act wsX3_leave_r2 := goodIn_r _ [88, 89, 41, 90, 91, 27, 92, 93, 94, 95, 96, 97, 98, 99, 100, 117, 118, 119, 120, 121, 122, 123, 124, 125] (by decide +kernel) (by decide +kernel)
set_option maxRecDepth 20000 in
theorem ggL_act_X3_leave_3 : GoodIn wsL_act wsX3_leave_r3 := goodIn_r _ [126, 127, 128, 129, 130, 131, 105, 106, 107, 4, 108, 109, 110, 111, 112] (by decide +kernel) (by decide +kernel)
set_option maxRecDepth 20000 in
theorem ggL_act_X3_leave_4 : GoodIn wsL_act wsX30 := goodIn_r _ [261, 262, 263, 264, 265, 266, 267] (by decide +kernel) (by decide +kernel)
set_option maxRecDepth 20000 in
theorem ggL_act_X3_leave_5 : GoodIn wsL_act wsX00 := goodIn_r _ [285, 286] (by decide +kernel) (by decide +kernel)
set_option maxRecDepth 20000 in
theorem ggL_act_X3_leave_6 : GoodIn wsL_act wsX10 := goodIn_r _ [268, 269, 270, 271, 272, 273, 274, 275, 276, 277, 278, 279, 280, 281, 282, 283, 284] (by decide +kernel) (by decide +kernel)
theorem ggL_act_X3_leave : GoodIn wsL_act wsX3_leave := fun w h => (List.mem_cons.mp h).elim (fun z => ggL_act_X3_leave_0 w (List.mem_singleton.mpr z)) (fun z => (List.forall_mem_append.mpr ⟨List.forall_mem_append.mpr ⟨List.forall_mem_append.mpr ⟨List.forall_mem_append.mpr ⟨ggL_act_X3_leave_1, List.forall_mem_append.mpr ⟨ggL_act_X3_leave_2, ggL_act_X3_leave_3⟩⟩, ggL_act_X3_leave_4⟩, ggL_act_X3_leave_5⟩, ggL_act_X3_leave_6⟩) w z)
set_option maxRecDepth 20000 in
theorem gL_act_X3_leave : GoodIn wsL_act (wsV RL 25 RX3 yX3_leave wsX3_leave) := goodIn_app (goodIn_of _ (by decide +kernel)) ggL_act_X3_leave
set_option maxRecDepth 20000 in
theorem ggL_act_X3_letAhead_0 : GoodIn wsL_act [.code yX3_letAhead cX3_letAhead 2 (some .int)] := goodIn_r _ [135] (by decide +kernel) (by decide +kernel)
set_option maxRecDepth 20000 in
theorem ggL_act_X3_letAhead_1 : GoodIn wsL_act wsX3_letAhead_r1 := goodIn_r _ [18, 6, 68, 69, 70, 71, 72, 73, 74, 75, 76, 77, 78, 79, 80, 81, 25, 82, 83, 84, 85, 86, 87, 28] (by decide +kernel) (by decide +kernel)
set_option maxRecDepth 20000 in
theorem ggL_act_X3_letAhead_2 : GoodIn wsL_act wsX3_letAhead_r2 := goodIn_r _ [88, 89, 41, 90, 91, 27, 92, 93, 94, 95, 96, 97, 98, 99, 100, 136, 137, 138, 139, 140, 141, 142, 143, 144] (by decide +kernel) (by decide +kernel)
set_option maxRecDepth 20000 in
theorem ggL_act_X3_letAhead_3 : GoodIn wsL_act wsX3_letAhead_r3 := goodIn_r _ [145, 146, 105, 106, 107, 4, 108, 109, 110, 111, 112] (by decide +kernel) (by decide +kernel)
set_option maxRecDepth 20000 in
theorem ggL_act_X3_letAhead_4 : GoodIn wsL_act wsX30 := goodIn_r _ [261, 262, 263, 264, 265, 266, 267] (by decide +kernel) (by decide +kernel)
set_option maxRecDepth 20000 in
theorem ggL_act_X3_letAhead_5 : GoodIn wsL_act wsX00 := goodIn_r _ [285, 286] (by decide +kernel) (by decide +kernel)
set_option maxRecDepth 20000 in
theorem ggL_act_X3_letAhead_6 : GoodIn wsL_act wsX10 := goodIn_r _ [268, 269, 270, 271, 272, 273, 274, 275, 276, 277, 278, 279, 280, 281, 282, 283, 284] (by decide +kernel) (by decide +kernel)
theorem ggL_act_X3_letAhead : GoodIn wsL_act wsX3_letAhead := fun w h => (List.mem_cons.mp h).elim (fun z => ggL_act_X3_letAhead_0 w (List.mem_singleton.mpr z)) (fun z => (List.forall_mem_append.mpr ⟨List.forall_mem_append.mpr ⟨List.forall_mem_append.mpr ⟨List.forall_mem_append.mpr ⟨ggL_act_X3_letAhead_1, List.forall_mem_append.mpr ⟨ggL_act_X3_letAhead_2, ggL_act_X3_letAhead_3⟩⟩, ggL_act_X3_letAhead_4⟩, ggL_act_X3_letAhead_5⟩, ggL_act_X3_letAhead_6⟩) w z)
set_option maxRecDepth 20000 in
theorem gL_act_X3_letAhead : GoodIn wsL_act (wsV RL 28 RX3 yX3_letAhead wsX3_letAhead) := goodIn_app (goodIn_of _ (by decide +kernel)) ggL_act_X3_letAhead
set_option maxRecDepth 20000 in
theorem ggL_act_X3_swap_0 : GoodIn wsL_act [.code yX3_swap cX3_swap 2 (some .int)] := goodIn_r _ [150] (by decide +kernel) (by decide +kernel)
set_option maxRecDepth 20000 in
theorem ggL_act_X3_swap_1 : GoodIn wsL_act wsX3_swap_r1 := goodIn_r _ [18, 6, 68, 69, 70, 71, 72, 73, 74, 75, 76, 77, 78, 79, 80, 81, 25, 82, 83, 84, 85, 86, 87, 28] (by decide +kernel) (by decide +kernel)
set_option maxRecDepth 20000 in
theorem ggL_act_X3_swap_2 : GoodIn wsL_act wsX3_swap_r2 := goodIn_r _ [88, 89, 41, 90, 91, 27, 92, 93, 94, 95, 96, 97, 98, 99, 100, 151, 152, 153, 154, 140, 141, 142, 143, 155] (by decide +kernel) (by decide +kernel)
set_option maxRecDepth 20000 in
theorem ggL_act_X3_swap_3 : GoodIn wsL_act wsX3_swap_r3 := goodIn_r _ [156, 157, 158, 144, 145, 146, 105, 106, 107, 4, 108, 109, 110, 111, 112] (by decide +kernel) (by decide +kernel)
set_option maxRecDepth 20000 in
theorem ggL_act_X3_swap_4 : GoodIn wsL_act wsX30 := goodIn_r _ [261, 262, 263, 264, 265, 266, 267] (by decide +kernel) (by decide +kernel)
set_option maxRecDepth 20000 in
theorem ggL_act_X3_swap_5 : GoodIn wsL_act wsX00 := goodIn_r _ [285, 286] (by decide +kernel) (by decide +kernel)
set_option maxRecDepth 20000 in
theorem ggL_act_X3_swap_6 : GoodIn wsL_act wsX10 := goodIn_r _ [268, 269, 270, 271, 272, 273, 274, 275, 276, 277, 278, 279, 280, 281, 282, 283, 284] (by decide +kernel) (by decide +kernel)
theorem ggL_act_X3_swap : GoodIn wsL_act wsX3_swap := fun w h => (List.mem_cons.mp h).elim (fun z => ggL_act_X3_swap_0 w (List.mem_singleton.mpr z)) (fun z => (List.forall_mem_append.mpr ⟨List.forall_mem_append.mpr ⟨List.forall_mem_append.mpr ⟨List.forall_mem_append.mpr ⟨ggL_act_X3_swap_1, List.forall_mem_append.mpr ⟨ggL_act_X3_swap_2, ggL_act_X3_swap_3⟩⟩, ggL_act_X3_swap_4⟩, ggL_act_X3_swap_5⟩, ggL_act_X3_swap_6⟩) w z)
set_option maxRecDepth 20000 in
theorem gL_act_X3_swap : GoodIn wsL_act (wsV RL 31 RX3 yX3_swap wsX3_swap) := goodIn_app (goodIn_of _ (by decide +kernel)) ggL_act_X3_swap
set_option maxRecDepth 20000 in
theorem ggL_act_X3_set_0 : GoodIn wsL_act [.code yX3_set cX3_set 3 (some .int)] := goodIn_r _ [162] (by decide +kernel) (by decide +kernel)
set_option maxRecDepth 20000 in
theorem ggL_act_X3_set_1 : GoodIn wsL_act wsX3_set_r1 := goodIn_r _ [18, 6, 68, 69, 70, 71, 72, 73, 74, 75, 76, 77, 78, 79, 80, 81, 25, 82, 83, 84, 85, 86, 87, 28] (by decide +kernel) (by decide +kernel)
set_option maxRecDepth 20000 in
theorem ggL_act_X3_set_2 : GoodIn wsL_act wsX3_set_r2 := goodIn_r _ [88, 89, 41, 90, 91, 27, 92, 93, 94, 95, 96, 97, 98, 99, 100, 163, 164, 165, 166, 57, 4, 58, 105, 106] (by decide +kernel) (by decide +kernel)
set_option maxRecDepth 20000 in
theorem ggL_act_X3_set_3 : GoodIn wsL_act wsX3_set_r3 := goodIn_r _ [107, 108, 109, 110, 111, 112] (by decide +kernel) (by decide +kernel)
set_option maxRecDepth 20000 in
theorem ggL_act_X3_set_4 : GoodIn wsL_act wsX30 := goodIn_r _ [261, 262, 263, 264, 265, 266, 267] (by decide +kernel) (by decide +kernel)
set_option maxRecDepth 20000 in
theorem ggL_act_X3_set_5 : GoodIn wsL_act wsX00 := goodIn_r _ [285, 286] (by decide +kernel) (by decide +kernel)
set_option maxRecDepth 20000 in
theorem ggL_act_X3_set_6 : GoodIn wsL_act wsX10 := goodIn_r _ [268, 269, 270, 271, 272, 273, 274, 275, 276, 277, 278, 279, 280, 281, 282, 283, 284] (by decide +kernel) (by decide +kernel)
theorem ggL_act_X3_set : GoodIn wsL_act wsX3_set := fun w h => (List.mem_cons.mp h).elim (fun z => ggL_act_X3_set_0 w (List.mem_singleton.mpr z)) (fun z => (List.forall_mem_append.mpr ⟨List.forall_mem_append.mpr ⟨List.forall_mem_append.mpr ⟨List.forall_mem_append.mpr ⟨ggL_act_X3_set_1, List.forall_mem_append.mpr ⟨ggL_act_X3_set_2, ggL_act_X3_set_3⟩⟩, ggL_act_X3_set_4⟩, ggL_act_X3_set_5⟩, ggL_act_X3_set_6⟩) w z)
set_option maxRecDepth 20000 in
theorem gL_act_X3_set : GoodIn wsL_act (wsV RL 34 RX3 yX3_set wsX3_set) := goodIn_app (goodIn_of _ (by decide +kernel)) ggL_act_X3_set
set_option maxRecDepth 20000 in
theorem ggL_act_X3_serve_0 : GoodIn wsL_act [.code yX3_serve cX3_serve 1 (some .int)] := goodIn_r _ [170] (by decide +kernel) (by decide +kernel)
set_option maxRecDepth 20000 in
theorem ggL_act_X3_serve_1 : GoodIn wsL_act wsX3_serve_r1 := goodIn_r _ [18, 6, 68, 69, 70, 71, 72, 73, 74, 75, 76, 77, 78, 79, 80, 81, 25, 82, 83, 84, 85, 86, 87, 28] (by decide +kernel) (by decide +kernel)
set_option maxRecDepth 20000 in
theorem ggL_act_X3_serve_2 : GoodIn wsL_act wsX3_serve_r2 := goodIn_r _ [88, 89, 41, 90, 91, 27, 92, 93, 94, 95, 96, 97, 98, 99, 100, 171, 172, 173, 174, 175, 176, 177, 178, 54] (by decide +kernel) (by decide +kernel)
set_option maxRecDepth 20000 in
theorem ggL_act_X3_serve_3 : GoodIn wsL_act wsX3_serve_r3 := goodIn_r _ [55, 48, 56, 179, 180, 181, 182, 183, 184, 185, 186, 187, 188, 189, 190, 125, 126, 127, 128, 129, 130, 131, 105, 106] (by decide +kernel) (by decide +kernel)
set_option maxRecDepth 20000 in
theorem ggL_act_X3_serve_4 : GoodIn wsL_act wsX3_serve_r4 := goodIn_r _ [107, 4, 108, 109, 110, 111, 112] (by decide +kernel) (by decide +kernel)
set_option maxRecDepth 20000 in
theorem ggL_act_X3_serve_5 : GoodIn wsL_act wsX30 := goodIn_r _ [261, 262, 263, 264, 265, 266, 267] (by decide +kernel) (by decide +kernel)
set_option maxRecDepth 20000 in
theorem ggL_act_X3_serve_6 : GoodIn wsL_act wsX00 := goodIn_r _ [285, 286] (by decide +kernel) (by decide +kernel)
set_option maxRecDepth 20000 in
theorem ggL_act_X3_serve_7 : GoodIn wsL_act wsX10 := goodIn_r _ [268, 269, 270, 271, 272, 273, 274, 275, 276, 277, 278, 279, 280, 281, 282, 283, 284] (by decide +kernel) (by decide +kernel)
theorem ggL_act_X3_serve : GoodIn wsL_act wsX3_serve := fun w h => (List.mem_cons.mp h).elim (fun z => ggL_act_X3_serve_0 w (List.mem_singleton.mpr z)) (fun z => (List.forall_mem_append.mpr ⟨List.forall_mem_append.mpr ⟨List.forall_mem_append.mpr ⟨List.forall_mem_append.mpr ⟨ggL_act_X3_serve_1, List.forall_mem_append.mpr ⟨ggL_act_X3_serve_2, List.forall_mem_append.mpr ⟨ggL_act_X3_serve_3, ggL_act_X3_serve_4⟩⟩⟩, ggL_act_X3_serve_5⟩, ggL_act_X3_serve_6⟩, ggL_act_X3_serve_7⟩) w z)
set_option maxRecDepth 20000 in
theorem gL_act_X3_serve : GoodIn wsL_act (wsV RL 37 RX3 yX3_serve wsX3_serve) := goodIn_app (goodIn_of _ (by decide +kernel)) ggL_act_X3_serve
set_option maxRecDepth 20000 in
theorem ggL_act_X3_pass_0 : GoodIn wsL_act [.code yX3_pass cX3_pass 2 (some .int)] := goodIn_r _ [194] (by decide +kernel) (by decide +kernel)
set_option maxRecDepth 20000 in
theorem ggL_act_X3_pass_1 : GoodIn wsL_act wsX3_pass_r1 := goodIn_r _ [18, 6, 68, 69, 70, 71, 72, 73, 74, 75, 76, 77, 78, 79, 80, 81, 25, 82, 83, 84, 85, 86, 87, 28] (by decide +kernel) (by decide +kernel)
set_option maxRecDepth 20000 in
theorem ggL_act_X3_pass_2 : GoodIn wsL_act wsX3_pass_r2 := goodIn_r _ [88, 89, 41, 90, 91, 27, 92, 93, 94, 95, 96, 97, 98, 99, 100, 195, 196, 197, 198, 199, 46, 47, 48, 49] (by decide +kernel) (by decide +kernel)
set_option maxRecDepth 20000 in
theorem ggL_act_X3_pass_3 : GoodIn wsL_act wsX3_pass_r3 := goodIn_r _ [57, 4, 58, 105, 106, 107, 108, 109, 110, 111, 112] (by decide +kernel) (by decide +kernel)
set_option maxRecDepth 20000 in
theorem ggL_act_X3_pass_4 : GoodIn wsL_act wsX30 := goodIn_r _ [261, 262, 263, 264, 265, 266, 267] (by decide +kernel) (by decide +kernel)
set_option maxRecDepth 20000 in
theorem ggL_act_X3_pass_5 : GoodIn wsL_act wsX00 := goodIn_r _ [285, 286] (by decide +kernel) (by decide +kernel)
set_option maxRecDepth 20000 in
theorem ggL_act_X3_pass_6 : GoodIn wsL_act wsX10 := goodIn_r _ [268, 269, 270, 271, 272, 273, 274, 275, 276, 277, 278, 279, 280, 281, 282, 283, 284] (by decide +kernel) (by decide +kernel)
theorem ggL_act_X3_pass : GoodIn wsL_act wsX3_pass := fun w h => (List.mem_cons.mp h).elim (fun z => ggL_act_X3_pass_0 w (List.mem_singleton.mpr z)) (fun z => (List.forall_mem_append.mpr ⟨List.forall_mem_append.mpr ⟨List.forall_mem_append.mpr ⟨List.forall_mem_append.mpr ⟨ggL_act_X3_pass_1, List.forall_mem_append.mpr ⟨ggL_act_X3_pass_2, ggL_act_X3_pass_3⟩⟩, ggL_act_X3_pass_4⟩, ggL_act_X3_pass_5⟩, ggL_act_X3_pass_6⟩) w z)
set_option maxRecDepth 20000 in
theorem gL_act_X3_pass : GoodIn wsL_act (wsV RL 41 RX3 yX3_pass wsX3_pass) := goodIn_app (goodIn_of _ (by decide +kernel)) ggL_act_X3_pass
set_option maxRecDepth 20000 in
theorem ggL_act_L_gust_0 : GoodIn wsL_act [.code yL_gust cL_gust 12 (some .int)] := goodIn_r _ [202] (by decide +kernel) (by decide +kernel)
set_option maxRecDepth 20000 in
theorem ggL_act_L_gust_1 : GoodIn wsL_act wsL_gust_r1 := goodIn_r _ [203, 1, 2, 3, 4, 5, 6, 7, 8, 9, 10, 11, 12, 13, 14, 15, 16, 17, 18, 19, 20, 21, 22, 23] (by decide +kernel) (by decide +kernel)
set_option maxRecDepth 20000 in
theorem ggL_act_L_gust_2 : GoodIn wsL_act wsL_gust_r2 := goodIn_r _ [24, 25, 26, 27, 28, 29, 30, 31, 32, 33, 34, 35, 36, 37, 38, 39, 40, 41, 42, 43, 44, 45, 46, 47] (by decide +kernel) (by decide +kernel)
set_option maxRecDepth 20000 in
theorem ggL_act_L_gust_3 : GoodIn wsL_act wsL_gust_r3 := goodIn_r _ [48, 49, 50, 51, 52, 53, 54, 55, 56, 57, 58, 204, 205, 206, 207, 208, 209, 122, 123, 124, 210, 211, 212, 213] (by decide +kernel) (by decide +kernel)
set_option maxRecDepth 20000 in
theorem ggL_act_L_gust_4 : GoodIn wsL_act wsL_gust_r4 := goodIn_r _ [214, 215, 216, 217, 218, 219, 220, 221, 222, 223, 224, 225, 226, 227, 228, 229, 230, 231, 232, 233, 234, 235, 236, 237] (by decide +kernel) (by decide +kernel)
set_option maxRecDepth 20000 in
theorem ggL_act_L_gust_5 : GoodIn wsL_act wsL_gust_r5 := goodIn_r _ [238, 239, 240, 241, 242, 243, 244, 245, 246, 247, 68, 69, 70, 71, 72, 73, 74, 75, 76, 77, 78, 79, 80, 81] (by decide +kernel) (by decide +kernel)
set_option maxRecDepth 20000 in
theorem ggL_act_L_gust_6 : GoodIn wsL_act wsL_gust_r6 := goodIn_r _ [82, 83, 84, 85, 86, 87, 88, 89, 90, 91, 92, 93, 94, 95, 96, 97, 98, 99, 100, 248, 249, 250, 251, 252] (by decide +kernel) (by decide +kernel)
set_option maxRecDepth 20000 in
theorem ggL_act_L_gust_7 : GoodIn wsL_act wsL_gust_r7 := goodIn_r _ [253, 254, 255, 256, 125, 126, 127, 128, 129, 130, 131, 105, 106, 107, 108, 109, 110, 111, 112, 257, 258, 259, 260] (by decide +kernel) (by decide +kernel)
set_option maxRecDepth 20000 in
theorem ggL_act_L_gust_8 : GoodIn wsL_act wsX30 := goodIn_r _ [261, 262, 263, 264, 265, 266, 267] (by decide +kernel) (by decide +kernel)
set_option maxRecDepth 20000 in
theorem ggL_act_L_gust_9 : GoodIn wsL_act wsX10 := goodIn_r _ [268, 269, 270, 271, 272, 273, 274, 275, 276, 277, 278, 279, 280, 281, 282, 283, 284] (by decide +kernel) (by decide +kernel)
set_option maxRecDepth 20000 in
theorem ggL_act_L_gust_10 : GoodIn wsL_act wsX00 := goodIn_r _ [285, 286] (by decide +kernel) (by decide +kernel)
set_option maxRecDepth 20000 in
theorem ggL_act_L_gust_11 : GoodIn wsL_act wsX20 := goodIn_r _ [287, 288, 289, 290, 291, 292, 293] (by decide +kernel) (by decide +kernel)
theorem ggL_act_L_gust : GoodIn wsL_act wsL_gust := fun w h => (List.mem_cons.mp h).elim (fun z => ggL_act_L_gust_0 w (List.mem_singleton.mpr z)) (fun z => (List.forall_mem_append.mpr ⟨List.forall_mem_append.mpr ⟨List.forall_mem_append.mpr ⟨List.forall_mem_append.mpr ⟨List.forall_mem_append.mpr ⟨ggL_act_L_gust_1, List.forall_mem_append.mpr ⟨ggL_act_L_gust_2, List.forall_mem_append.mpr ⟨ggL_act_L_gust_3, List.forall_mem_append.mpr ⟨ggL_act_L_gust_4, List.forall_mem_append.mpr ⟨ggL_act_L_gust_5, List.forall_mem_append.mpr ⟨ggL_act_L_gust_6, ggL_act_L_gust_7⟩⟩⟩⟩⟩⟩, ggL_act_L_gust_8⟩, ggL_act_L_gust_9⟩, ggL_act_L_gust_10⟩, ggL_act_L_gust_11⟩) w z)
set_option maxRecDepth 20000 in
theorem gL_act_L_gust : GoodIn wsL_act (va_wsS RL 44 yL_gust wsL_gust) := goodIn_app (goodIn_of _ (by decide +kernel)) ggL_act_L_gust
theorem dL_act_0 : decode cL_act 0 = .ok (.iload_n 2, 1) := by decide +kernel
theorem dL_act_1 : decode cL_act 1 = .ok (.aload_n 0, 1) := by decide +kernel
theorem dL_act_2 : decode cL_act 2 = .ok (.iconst 0, 1) := by decide +kernel
theorem dL_act_3 : decode cL_act 3 = .ok (.invokevirtual 9, 3) := by decide +kernel
theorem dL_act_6 : decode cL_act 6 = .ok (.iconst 1, 1) := by decide +kernel
theorem dL_act_7 : decode cL_act 7 = .ok (.iadd, 1) := by decide +kernel
theorem dL_act_8 : decode cL_act 8 = .ok (.invokestatic 15, 3) := by decide +kernel
theorem dL_act_11 : decode cL_act 11 = .ok (.istore 4, 2) := by decide +kernel
theorem dL_act_13 : decode cL_act 13 = .ok (.iload_n 1, 1) := by decide +kernel
theorem dL_act_14 : decode cL_act 14 = .ok (.tableswitch 149 0 12 #[66, 66, 66, 66, 66, 96, 103, 110, 110, 110, 117, 133, 138], 66) := by decide +kernel
theorem dL_act_80 : decode cL_act 80 = .ok (.aload_n 0, 1) := by decide +kernel
theorem dL_act_81 : decode cL_act 81 = .ok (.bipush 8, 2) := by decide +kernel
theorem dL_act_83 : decode cL_act 83 = .ok (.iload_n 2, 1) := by decide +kernel
theorem dL_act_84 : decode cL_act 84 = .ok (.sipush 300, 3) := by decide +kernel
theorem dL_act_87 : decode cL_act 87 = .ok (.invokestatic 15, 3) := by decide +kernel
theorem dL_act_90 : decode cL_act 90 = .ok (.iadd, 1) := by decide +kernel
theorem dL_act_91 : decode cL_act 91 = .ok (.iload_n 3, 1) := by decide +kernel
theorem dL_act_92 : decode cL_act 92 = .ok (.bipush 40, 2) := by decide +kernel
theorem dL_act_94 : decode cL_act 94 = .ok (.invokestatic 15, 3) := by decide +kernel
theorem dL_act_97 : decode cL_act 97 = .ok (.iload_n 3, 1) := by decide +kernel
theorem dL_act_98 : decode cL_act 98 = .ok (.bipush 6, 2) := by decide +kernel
theorem dL_act_100 : decode cL_act 100 = .ok (.ishr, 1) := by decide +kernel
theorem dL_act_101 : decode cL_act 101 = .ok (.bipush 7, 2) := by decide +kernel
theorem dL_act_103 : decode cL_act 103 = .ok (.invokestatic 15, 3) := by decide +kernel
theorem dL_act_106 : decode cL_act 106 = .ok (.invokevirtual 21, 3) := by decide +kernel
theorem dL_act_109 : decode cL_act 109 = .ok (.ireturn, 1) := by decide +kernel
theorem dL_act_110 : decode cL_act 110 = .ok (.aload_n 0, 1) := by decide +kernel
theorem dL_act_111 : decode cL_act 111 = .ok (.iload 4, 2) := by decide +kernel
theorem dL_act_113 : decode cL_act 113 = .ok (.invokevirtual 25, 3) := by decide +kernel
theorem dL_act_116 : decode cL_act 116 = .ok (.ireturn, 1) := by decide +kernel
theorem dL_act_117 : decode cL_act 117 = .ok (.aload_n 0, 1) := by decide +kernel
theorem dL_act_118 : decode cL_act 118 = .ok (.iload 4, 2) := by decide +kernel
theorem dL_act_120 : decode cL_act 120 = .ok (.invokevirtual 28, 3) := by decide +kernel
theorem dL_act_123 : decode cL_act 123 = .ok (.ireturn, 1) := by decide +kernel
theorem dL_act_124 : decode cL_act 124 = .ok (.aload_n 0, 1) := by decide +kernel
theorem dL_act_125 : decode cL_act 125 = .ok (.iload 4, 2) := by decide +kernel
theorem dL_act_127 : decode cL_act 127 = .ok (.invokevirtual 31, 3) := by decide +kernel
theorem dL_act_130 : decode cL_act 130 = .ok (.ireturn, 1) := by decide +kernel
theorem dL_act_131 : decode cL_act 131 = .ok (.aload_n 0, 1) := by decide +kernel
theorem dL_act_132 : decode cL_act 132 = .ok (.iload_n 2, 1) := by decide +kernel
theorem dL_act_133 : decode cL_act 133 = .ok (.iconst 4, 1) := by decide +kernel
theorem dL_act_134 : decode cL_act 134 = .ok (.invokestatic 15, 3) := by decide +kernel
theorem dL_act_137 : decode cL_act 137 = .ok (.iload_n 3, 1) := by decide +kernel
theorem dL_act_138 : decode cL_act 138 = .ok (.bipush 20, 2) := by decide +kernel
theorem dL_act_140 : decode cL_act 140 = .ok (.invokestatic 15, 3) := by decide +kernel
theorem dL_act_143 : decode cL_act 143 = .ok (.invokevirtual 34, 3) := by decide +kernel
theorem dL_act_146 : decode cL_act 146 = .ok (.ireturn, 1) := by decide +kernel
theorem dL_act_147 : decode cL_act 147 = .ok (.aload_n 0, 1) := by decide +kernel
theorem dL_act_148 : decode cL_act 148 = .ok (.invokevirtual 37, 3) := by decide +kernel
theorem dL_act_151 : decode cL_act 151 = .ok (.ireturn, 1) := by decide +kernel
theorem dL_act_152 : decode cL_act 152 = .ok (.aload_n 0, 1) := by decide +kernel
theorem dL_act_153 : decode cL_act 153 = .ok (.iload_n 2, 1) := by decide +kernel
theorem dL_act_154 : decode cL_act 154 = .ok (.bipush 9, 2) := by decide +kernel
theorem dL_act_156 : decode cL_act 156 = .ok (.invokestatic 15, 3) := by decide +kernel
theorem dL_act_159 : decode cL_act 159 = .ok (.invokevirtual 41, 3) := by decide +kernel
theorem dL_act_162 : decode cL_act 162 = .ok (.ireturn, 1) := by decide +kernel
theorem dL_act_163 : decode cL_act 163 = .ok (.aload_n 0, 1) := by decide +kernel
theorem dL_act_164 : decode cL_act 164 = .ok (.iconst 1, 1) := by decide +kernel
theorem dL_act_165 : decode cL_act 165 = .ok (.iload_n 2, 1) := by decide +kernel
theorem dL_act_166 : decode cL_act 166 = .ok (.bipush 60, 2) := by decide +kernel
theorem dL_act_168 : decode cL_act 168 = .ok (.invokestatic 15, 3) := by decide +kernel
theorem dL_act_171 : decode cL_act 171 = .ok (.iadd, 1) := by decide +kernel
theorem dL_act_172 : decode cL_act 172 = .ok (.iload_n 3, 1) := by decide +kernel
theorem dL_act_173 : decode cL_act 173 = .ok (.iconst 3, 1) := by decide +kernel
theorem dL_act_174 : decode cL_act 174 = .ok (.invokestatic 15, 3) := by decide +kernel
theorem dL_act_177 : decode cL_act 177 = .ok (.invokestatic 44, 3) := by decide +kernel
theorem dL_act_180 : decode cL_act 180 = .ok (.ireturn, 1) := by decide +kernel
set_option maxRecDepth 20000 in
theorem ggL_gust_X3_count_0 : GoodIn wsL_gust [.code yX3_count cX3_count 2 (some .int)] := goodIn_r _ [6] (by decide +kernel) (by decide +kernel)
set_option maxRecDepth 20000 in
theorem ggL_gust_X3_count_1 : GoodIn wsL_gust wsX3_count_r1 := goodIn_r _ [7, 8, 9, 10, 11, 12, 13, 14, 15, 16, 17, 18, 19, 20, 21, 22, 23, 24, 25, 26, 27, 28, 29, 30] (by decide +kernel) (by decide +kernel)
set_option maxRecDepth 20000 in
theorem ggL_gust_X3_count_2 : GoodIn wsL_gust wsX3_count_r2 := goodIn_r _ [31, 32, 33, 34, 35, 36, 37, 38, 39, 40, 41, 42, 43, 44, 45, 46, 47, 48, 49, 50, 51, 52, 53, 54] (by decide +kernel) (by decide +kernel)
set_option maxRecDepth 20000 in
theorem ggL_gust_X3_count_3 : GoodIn wsL_gust wsX3_count_r3 := goodIn_r _ [55, 56, 57, 58, 5, 59] (by decide +kernel) (by decide +kernel)
set_option maxRecDepth 20000 in
theorem ggL_gust_X3_count_4 : GoodIn wsL_gust wsX30 := goodIn_r _ [168, 169, 170, 171, 172, 173, 174] (by decide +kernel) (by decide +kernel)
set_option maxRecDepth 20000 in
theorem ggL_gust_X3_count_5 : GoodIn wsL_gust wsX10 := goodIn_r _ [175, 176, 177, 178, 179, 180, 181, 182, 183, 184, 185, 186, 187, 188, 189, 190, 191] (by decide +kernel) (by decide +kernel)
set_option maxRecDepth 20000 in
theorem ggL_gust_X3_count_6 : GoodIn wsL_gust wsX00 := goodIn_r _ [192, 193] (by decide +kernel) (by decide +kernel)
set_option maxRecDepth 20000 in
theorem ggL_gust_X3_count_7 : GoodIn wsL_gust wsX20 := goodIn_r _ [194, 195, 196, 197, 198, 199, 200] (by decide +kernel) (by decide +kernel)
theorem ggL_gust_X3_count : GoodIn wsL_gust wsX3_count := fun w h => (List.mem_cons.mp h).elim (fun z => ggL_gust_X3_count_0 w (List.mem_singleton.mpr z)) (fun z => (List.forall_mem_append.mpr ⟨List.forall_mem_append.mpr ⟨List.forall_mem_append.mpr ⟨List.forall_mem_append.mpr ⟨List.forall_mem_append.mpr ⟨ggL_gust_X3_count_1, List.forall_mem_append.mpr ⟨ggL_gust_X3_count_2, ggL_gust_X3_count_3⟩⟩, ggL_gust_X3_count_4⟩, ggL_gust_X3_count_5⟩, ggL_gust_X3_count_6⟩, ggL_gust_X3_count_7⟩) w z)
set_option maxRecDepth 20000 in
theorem gL_gust_X3_count : GoodIn wsL_gust (wsV RL 9 RX3 yX3_count wsX3_count) := goodIn_app (goodIn_of _ (by decide +kernel)) ggL_gust_X3_count
set_option maxRecDepth 20000 in
theorem ggL_gust_X3_ifGust_0 : GoodIn wsL_gust [.code yX3_ifGust cX3_ifGust 5 (some .int)] := goodIn_r _ [63] (by decide +kernel) (by decide +kernel)
set_option maxRecDepth 20000 in
theorem ggL_gust_X3_ifGust_1 : GoodIn wsL_gust wsX3_ifGust_r1 := goodIn_r _ [7, 64, 65, 66, 67, 26, 68, 28, 69, 70, 5, 71, 72, 58, 59, 73, 74, 75, 76, 42, 43, 44, 45, 46] (by decide +kernel) (by decide +kernel)
set_option maxRecDepth 20000 in
theorem ggL_gust_X3_ifGust_2 : GoodIn wsL_gust wsX3_ifGust_r2 := goodIn_r _ [47, 48, 49, 50, 51, 52, 53, 54, 55, 56, 57, 77, 78, 79, 80, 81, 82, 83, 84, 29, 85, 86, 87, 88] (by decide +kernel) (by decide +kernel)
set_option maxRecDepth 20000 in
theorem ggL_gust_X3_ifGust_3 : GoodIn wsL_gust wsX3_ifGust_r3 := goodIn_r _ [89, 90] (by decide +kernel) (by decide +kernel)
set_option maxRecDepth 20000 in
theorem ggL_gust_X3_ifGust_4 : GoodIn wsL_gust wsX30 := goodIn_r _ [168, 169, 170, 171, 172, 173, 174] (by decide +kernel) (by decide +kernel)
set_option maxRecDepth 20000 in
theorem ggL_gust_X3_ifGust_5 : GoodIn wsL_gust wsX10 := goodIn_r _ [175, 176, 177, 178, 179, 180, 181, 182, 183, 184, 185, 186, 187, 188, 189, 190, 191] (by decide +kernel) (by decide +kernel)
theorem ggL_gust_X3_ifGust : GoodIn wsL_gust wsX3_ifGust := fun w h => (List.mem_cons.mp h).elim (fun z => ggL_gust_X3_ifGust_0 w (List.mem_singleton.mpr z)) (fun z => (List.forall_mem_append.mpr ⟨List.forall_mem_append.mpr ⟨List.forall_mem_append.mpr ⟨ggL_gust_X3_ifGust_1, List.forall_mem_append.mpr ⟨ggL_gust_X3_ifGust_2, ggL_gust_X3_ifGust_3⟩⟩, ggL_gust_X3_ifGust_4⟩, ggL_gust_X3_ifGust_5⟩) w z)
set_option maxRecDepth 20000 in
theorem gL_gust_X3_ifGust : GoodIn wsL_gust (wsV RL 48 RX3 yX3_ifGust wsX3_ifGust) := goodIn_app (goodIn_of _ (by decide +kernel)) ggL_gust_X3_ifGust
set_option maxRecDepth 20000 in
theorem ggL_gust_X3_person_0 : GoodIn wsL_gust [.code yX3_person cX3_person 3 (some .int)] := goodIn_r _ [94] (by decide +kernel) (by decide +kernel)
set_option maxRecDepth 20000 in
theorem ggL_gust_X3_person_1 : GoodIn wsL_gust wsX3_person_r1 := goodIn_r _ [7, 95, 96, 64, 97, 98, 99, 65, 66, 67, 26, 68, 28, 100, 44, 45, 46, 42, 47, 48, 49, 50, 101, 52] (by decide +kernel) (by decide +kernel)
set_option maxRecDepth 20000 in
theorem ggL_gust_X3_person_2 : GoodIn wsL_gust wsX3_person_r2 := goodIn_r _ [53, 54, 55, 56, 57, 102, 39, 40, 41, 43, 51, 58, 5, 59] (by decide +kernel) (by decide +kernel)
set_option maxRecDepth 20000 in
theorem ggL_gust_X3_person_3 : GoodIn wsL_gust wsX30 := goodIn_r _ [168, 169, 170, 171, 172, 173, 174] (by decide +kernel) (by decide +kernel)
set_option maxRecDepth 20000 in
theorem ggL_gust_X3_person_4 : GoodIn wsL_gust wsX10 := goodIn_r _ [175, 176, 177, 178, 179, 180, 181, 182, 183, 184, 185, 186, 187, 188, 189, 190, 191] (by decide +kernel) (by decide +kernel)
theorem ggL_gust_X3_person : GoodIn wsL_gust wsX3_person := fun w h => (List.mem_cons.mp h).elim (fun z => ggL_gust_X3_person_0 w (List.mem_singleton.mpr z)) (fun z => (List.forall_mem_append.mpr ⟨List.forall_mem_append.mpr ⟨List.forall_mem_append.mpr ⟨ggL_gust_X3_person_1, ggL_gust_X3_person_2⟩, ggL_gust_X3_person_3⟩, ggL_gust_X3_person_4⟩) w z)
set_option maxRecDepth 20000 in
theorem gL_gust_X3_person : GoodIn wsL_gust (wsV RL 52 RX3 yX3_person wsX3_person) := goodIn_app (goodIn_of _ (by decide +kernel)) ggL_gust_X3_person
set_option maxRecDepth 20000 in
theorem ggL_gust_X3_gust_0 : GoodIn wsL_gust [.code yX3_gust cX3_gust 3 (some .int)] := goodIn_r _ [106] (by decide +kernel) (by decide +kernel)
set_option maxRecDepth 20000 in
theorem ggL_gust_X3_gust_1 : GoodIn wsL_gust wsX3_gust_r1 := goodIn_r _ [19, 7, 107, 108, 109, 110, 111, 112, 113, 114, 115, 116, 117, 118, 119, 120, 26, 121, 122, 123, 124, 125, 126, 29] (by decide +kernel) (by decide +kernel)
set_option maxRecDepth 20000 in
theorem ggL_gust_X3_gust_2 : GoodIn wsL_gust wsX3_gust_r2 := goodIn_r _ [127, 128, 42, 129, 130, 28, 131, 132, 133, 134, 135, 136, 137, 138, 139, 140, 141, 142, 143, 70, 5, 71, 72, 58] (by decide +kernel) (by decide +kernel)
set_option maxRecDepth 20000 in
theorem ggL_gust_X3_gust_3 : GoodIn wsL_gust wsX3_gust_r3 := goodIn_r _ [59, 144, 82, 83, 84, 55, 56, 49, 57, 85, 86, 87, 88, 89, 78, 79, 80, 43, 44, 45, 46, 47, 48, 50] (by decide +kernel) (by decide +kernel)
set_option maxRecDepth 20000 in
theorem ggL_gust_X3_gust_4 : GoodIn wsL_gust wsX3_gust_r4 := goodIn_r _ [51, 52, 53, 54, 90, 74, 75, 76, 145, 146, 147, 148, 149, 150, 151, 152, 153, 154, 155, 156, 157, 158, 159, 160] (by decide +kernel) (by decide +kernel)
set_option maxRecDepth 20000 in
theorem ggL_gust_X3_gust_5 : GoodIn wsL_gust wsX3_gust_r5 := goodIn_r _ [161, 162, 163] (by decide +kernel) (by decide +kernel)
set_option maxRecDepth 20000 in
theorem ggL_gust_X3_gust_6 : GoodIn wsL_gust wsX30 := goodIn_r _ [168, 169, 170, 171, 172, 173, 174] (by decide +kernel) (by decide +kernel)
set_option maxRecDepth 20000 in
theorem ggL_gust_X3_gust_7 : GoodIn wsL_gust wsX00 := goodIn_r _ [192, 193] (by decide +kernel) (by decide +kernel)
set_option maxRecDepth 20000 in
theorem ggL_gust_X3_gust_8 : GoodIn wsL_gust wsX10 := goodIn_r _ [175, 176, 177, 178, 179, 180, 181, 182, 183, 184, 185, 186, 187, 188, 189, 190, 191] (by decide +kernel) (by decide +kernel)
theorem ggL_gust_X3_gust : GoodIn wsL_gust wsX3_gust := fun w h => (List.mem_cons.mp h).elim (fun z => ggL_gust_X3_gust_0 w (List.mem_singleton.mpr z)) (fun z => (List.forall_mem_append.mpr ⟨List.forall_mem_append.mpr ⟨List.forall_mem_append.mpr ⟨List.forall_mem_append.mpr ⟨ggL_gust_X3_gust_1, List.forall_mem_append.mpr ⟨ggL_gust_X3_gust_2, List.forall_mem_append.mpr ⟨ggL_gust_X3_gust_3, List.forall_mem_append.mpr ⟨ggL_gust_X3_gust_4, ggL_gust_X3_gust_5⟩⟩⟩⟩, ggL_gust_X3_gust_6⟩, ggL_gust_X3_gust_7⟩, ggL_gust_X3_gust_8⟩) w z)
set_option maxRecDepth 20000 in
theorem gL_gust_X3_gust : GoodIn wsL_gust (wsV RL 55 RX3 yX3_gust wsX3_gust) := goodIn_app (goodIn_of _ (by decide +kernel)) ggL_gust_X3_gust
set_option maxRecDepth 20000 in
theorem ggL_gust_X3_placeOf : GoodIn wsL_gust wsX3_placeOf := goodIn_r _ [167, 7, 8, 95, 72, 58, 5, 59, 168, 169, 170, 171, 172, 173, 174, 175, 176, 177, 178, 179, 180, 181, 182, 183, 184, 185, 186, 187, 188, 189, 190, 191] (by decide +kernel) (by decide +kernel)
set_option maxRecDepth 20000 in
theorem gL_gust_X3_placeOf : GoodIn wsL_gust (wsV RL 57 RX3 yX3_placeOf wsX3_placeOf) := goodIn_app (goodIn_of _ (by decide +kernel)) ggL_gust_X3_placeOf
theorem dL_gust_0 : decode cL_gust 0 = .ok (.aload_n 0, 1) := by decide +kernel
theorem dL_gust_1 : decode cL_gust 1 = .ok (.iconst 0, 1) := by decide +kernel
theorem dL_gust_2 : decode cL_gust 2 = .ok (.invokevirtual 9, 3) := by decide +kernel
theorem dL_gust_5 : decode cL_gust 5 = .ok (.istore_n 3, 1) := by decide +kernel
theorem dL_gust_6 : decode cL_gust 6 = .ok (.bipush 16, 2) := by decide +kernel
theorem dL_gust_8 : decode cL_gust 8 = .ok (.newarray .int, 2) := by decide +kernel
theorem dL_gust_10 : decode cL_gust 10 = .ok (.astore 4, 2) := by decide +kernel
theorem dL_gust_12 : decode cL_gust 12 = .ok (.bipush 16, 2) := by decide +kernel
theorem dL_gust_14 : decode cL_gust 14 = .ok (.newarray .int, 2) := by decide +kernel
theorem dL_gust_16 : decode cL_gust 16 = .ok (.astore 5, 2) := by decide +kernel
theorem dL_gust_18 : decode cL_gust 18 = .ok (.iconst 0, 1) := by decide +kernel
theorem dL_gust_19 : decode cL_gust 19 = .ok (.istore 6, 2) := by decide +kernel
theorem dL_gust_21 : decode cL_gust 21 = .ok (.iconst 0, 1) := by decide +kernel
theorem dL_gust_22 : decode cL_gust 22 = .ok (.istore 7, 2) := by decide +kernel
theorem dL_gust_24 : decode cL_gust 24 = .ok (.iload 7, 2) := by decide +kernel
theorem dL_gust_26 : decode cL_gust 26 = .ok (.iload_n 3, 1) := by decide +kernel
theorem dL_gust_27 : decode cL_gust 27 = .ok (.if_icmp .ge 49, 3) := by decide +kernel
theorem dL_gust_30 : decode cL_gust 30 = .ok (.aload 4, 2) := by decide +kernel
theorem dL_gust_32 : decode cL_gust 32 = .ok (.iload 7, 2) := by decide +kernel
theorem dL_gust_34 : decode cL_gust 34 = .ok (.aload_n 0, 1) := by decide +kernel
theorem dL_gust_35 : decode cL_gust 35 = .ok (.iload 7, 2) := by decide +kernel
theorem dL_gust_37 : decode cL_gust 37 = .ok (.iload_n 1, 1) := by decide +kernel
theorem dL_gust_38 : decode cL_gust 38 = .ok (.iload_n 2, 1) := by decide +kernel
theorem dL_gust_39 : decode cL_gust 39 = .ok (.iconst 2, 1) := by decide +kernel
theorem dL_gust_40 : decode cL_gust 40 = .ok (.invokevirtual 48, 3) := by decide +kernel
theorem dL_gust_43 : decode cL_gust 43 = .ok (.iastore, 1) := by decide +kernel
theorem dL_gust_44 : decode cL_gust 44 = .ok (.aload 5, 2) := by decide +kernel
theorem dL_gust_46 : decode cL_gust 46 = .ok (.iload 7, 2) := by decide +kernel
theorem dL_gust_48 : decode cL_gust 48 = .ok (.aload_n 0, 1) := by decide +kernel
theorem dL_gust_49 : decode cL_gust 49 = .ok (.iload 7, 2) := by decide +kernel
theorem dL_gust_51 : decode cL_gust 51 = .ok (.iconst 0, 1) := by decide +kernel
theorem dL_gust_52 : decode cL_gust 52 = .ok (.invokevirtual 52, 3) := by decide +kernel
theorem dL_gust_55 : decode cL_gust 55 = .ok (.iastore, 1) := by decide +kernel
theorem dL_gust_56 : decode cL_gust 56 = .ok (.iload 6, 2) := by decide +kernel
theorem dL_gust_58 : decode cL_gust 58 = .ok (.aload_n 0, 1) := by decide +kernel
theorem dL_gust_59 : decode cL_gust 59 = .ok (.iload 7, 2) := by decide +kernel
theorem dL_gust_61 : decode cL_gust 61 = .ok (.iload_n 1, 1) := by decide +kernel
theorem dL_gust_62 : decode cL_gust 62 = .ok (.iload_n 2, 1) := by decide +kernel
theorem dL_gust_63 : decode cL_gust 63 = .ok (.iconst 3, 1) := by decide +kernel
theorem dL_gust_64 : decode cL_gust 64 = .ok (.invokevirtual 48, 3) := by decide +kernel
theorem dL_gust_67 : decode cL_gust 67 = .ok (.iadd, 1) := by decide +kernel
theorem dL_gust_68 : decode cL_gust 68 = .ok (.istore 6, 2) := by decide +kernel
theorem dL_gust_70 : decode cL_gust 70 = .ok (.iinc 7 1, 3) := by decide +kernel
theorem dL_gust_73 : decode cL_gust 73 = .ok (.goto (-49), 3) := by decide +kernel
theorem dL_gust_76 : decode cL_gust 76 = .ok (.aload_n 0, 1) := by decide +kernel
theorem dL_gust_77 : decode cL_gust 77 = .ok (.iconst 3, 1) := by decide +kernel
theorem dL_gust_78 : decode cL_gust 78 = .ok (.invokevirtual 9, 3) := by decide +kernel
theorem dL_gust_81 : decode cL_gust 81 = .ok (.istore 7, 2) := by decide +kernel
theorem dL_gust_83 : decode cL_gust 83 = .ok (.aload_n 0, 1) := by decide +kernel
theorem dL_gust_84 : decode cL_gust 84 = .ok (.iload_n 1, 1) := by decide +kernel
theorem dL_gust_85 : decode cL_gust 85 = .ok (.iload_n 2, 1) := by decide +kernel
theorem dL_gust_86 : decode cL_gust 86 = .ok (.invokevirtual 55, 3) := by decide +kernel
theorem dL_gust_89 : decode cL_gust 89 = .ok (.istore 8, 2) := by decide +kernel
theorem dL_gust_91 : decode cL_gust 91 = .ok (.iload_n 3, 1) := by decide +kernel
theorem dL_gust_92 : decode cL_gust 92 = .ok (.ifCond .ne 18, 3) := by decide +kernel
theorem dL_gust_95 : decode cL_gust 95 = .ok (.iload 8, 2) := by decide +kernel
theorem dL_gust_97 : decode cL_gust 97 = .ok (.bipush (-5), 2) := by decide +kernel
theorem dL_gust_99 : decode cL_gust 99 = .ok (.if_icmp .ne 7, 3) := by decide +kernel
theorem dL_gust_102 : decode cL_gust 102 = .ok (.iconst 1, 1) := by decide +kernel
theorem dL_gust_103 : decode cL_gust 103 = .ok (.goto 44, 3) := by decide +kernel
theorem dL_gust_106 : decode cL_gust 106 = .ok (.iconst 0, 1) := by decide +kernel
theorem dL_gust_107 : decode cL_gust 107 = .ok (.goto 40, 3) := by decide +kernel
theorem dL_gust_110 : decode cL_gust 110 = .ok (.iload 8, 2) := by decide +kernel
theorem dL_gust_112 : decode cL_gust 112 = .ok (.iload 6, 2) := by decide +kernel
theorem dL_gust_114 : decode cL_gust 114 = .ok (.if_icmp .ne 32, 3) := by decide +kernel
theorem dL_gust_117 : decode cL_gust 117 = .ok (.aload_n 0, 1) := by decide +kernel
theorem dL_gust_118 : decode cL_gust 118 = .ok (.iconst 3, 1) := by decide +kernel
theorem dL_gust_119 : decode cL_gust 119 = .ok (.invokevirtual 9, 3) := by decide +kernel
theorem dL_gust_122 : decode cL_gust 122 = .ok (.iload 7, 2) := by decide +kernel
theorem dL_gust_124 : decode cL_gust 124 = .ok (.iload 6, 2) := by decide +kernel
theorem dL_gust_126 : decode cL_gust 126 = .ok (.iadd, 1) := by decide +kernel
theorem dL_gust_127 : decode cL_gust 127 = .ok (.if_icmp .ne 19, 3) := by decide +kernel
theorem dL_gust_130 : decode cL_gust 130 = .ok (.aload_n 0, 1) := by decide +kernel
theorem dL_gust_131 : decode cL_gust 131 = .ok (.iconst 0, 1) := by decide +kernel
theorem dL_gust_132 : decode cL_gust 132 = .ok (.invokevirtual 9, 3) := by decide +kernel
theorem dL_gust_135 : decode cL_gust 135 = .ok (.iload_n 3, 1) := by decide +kernel
theorem dL_gust_136 : decode cL_gust 136 = .ok (.iload 6, 2) := by decide +kernel
theorem dL_gust_138 : decode cL_gust 138 = .ok (.isub, 1) := by decide +kernel
theorem dL_gust_139 : decode cL_gust 139 = .ok (.if_icmp .ne 7, 3) := by decide +kernel
theorem dL_gust_142 : decode cL_gust 142 = .ok (.iconst 1, 1) := by decide +kernel
theorem dL_gust_143 : decode cL_gust 143 = .ok (.goto 4, 3) := by decide +kernel
theorem dL_gust_146 : decode cL_gust 146 = .ok (.iconst 0, 1) := by decide +kernel
theorem dL_gust_147 : decode cL_gust 147 = .ok (.istore 9, 2) := by decide +kernel
theorem dL_gust_149 : decode cL_gust 149 = .ok (.iconst 0, 1) := by decide +kernel
theorem dL_gust_150 : decode cL_gust 150 = .ok (.istore 10, 2) := by decide +kernel
theorem dL_gust_152 : decode cL_gust 152 = .ok (.iload 10, 2) := by decide +kernel
theorem dL_gust_154 : decode cL_gust 154 = .ok (.iload_n 3, 1) := by decide +kernel
theorem dL_gust_155 : decode cL_gust 155 = .ok (.if_icmp .ge 69, 3) := by decide +kernel
theorem dL_gust_158 : decode cL_gust 158 = .ok (.iload 9, 2) := by decide +kernel
theorem dL_gust_160 : decode cL_gust 160 = .ok (.ifCond .eq 64, 3) := by decide +kernel
theorem dL_gust_163 : decode cL_gust 163 = .ok (.aload_n 0, 1) := by decide +kernel
theorem dL_gust_164 : decode cL_gust 164 = .ok (.aload 5, 2) := by decide +kernel
theorem dL_gust_166 : decode cL_gust 166 = .ok (.iload 10, 2) := by decide +kernel
theorem dL_gust_168 : decode cL_gust 168 = .ok (.iaload, 1) := by decide +kernel
theorem dL_gust_169 : decode cL_gust 169 = .ok (.invokevirtual 57, 3) := by decide +kernel
theorem dL_gust_172 : decode cL_gust 172 = .ok (.istore 11, 2) := by decide +kernel
theorem dL_gust_174 : decode cL_gust 174 = .ok (.iload 11, 2) := by decide +kernel
theorem dL_gust_176 : decode cL_gust 176 = .ok (.bipush (-5), 2) := by decide +kernel
theorem dL_gust_178 : decode cL_gust 178 = .ok (.if_icmp .eq 33, 3) := by decide +kernel
theorem dL_gust_181 : decode cL_gust 181 = .ok (.aload_n 0, 1) := by decide +kernel
theorem dL_gust_182 : decode cL_gust 182 = .ok (.iload 11, 2) := by decide +kernel
theorem dL_gust_184 : decode cL_gust 184 = .ok (.iconst 1, 1) := by decide +kernel
theorem dL_gust_185 : decode cL_gust 185 = .ok (.invokevirtual 52, 3) := by decide +kernel
theorem dL_gust_188 : decode cL_gust 188 = .ok (.aload 4, 2) := by decide +kernel
theorem dL_gust_190 : decode cL_gust 190 = .ok (.iload 10, 2) := by decide +kernel
theorem dL_gust_192 : decode cL_gust 192 = .ok (.iaload, 1) := by decide +kernel
theorem dL_gust_193 : decode cL_gust 193 = .ok (.if_icmp .ne 22, 3) := by decide +kernel
theorem dL_gust_196 : decode cL_gust 196 = .ok (.aload 4, 2) := by decide +kernel
theorem dL_gust_198 : decode cL_gust 198 = .ok (.iload 10, 2) := by decide +kernel
theorem dL_gust_200 : decode cL_gust 200 = .ok (.iaload, 1) := by decide +kernel
theorem dL_gust_201 : decode cL_gust 201 = .ok (.aload_n 0, 1) := by decide +kernel
theorem dL_gust_202 : decode cL_gust 202 = .ok (.iload 11, 2) := by decide +kernel
theorem dL_gust_204 : decode cL_gust 204 = .ok (.iconst 2, 1) := by decide +kernel
theorem dL_gust_205 : decode cL_gust 205 = .ok (.invokevirtual 52, 3) := by decide +kernel
theorem dL_gust_208 : decode cL_gust 208 = .ok (.if_icmp .gt 7, 3) := by decide +kernel
theorem dL_gust_211 : decode cL_gust 211 = .ok (.iconst 1, 1) := by decide +kernel
theorem dL_gust_212 : decode cL_gust 212 = .ok (.goto 4, 3) := by decide +kernel
theorem dL_gust_215 : decode cL_gust 215 = .ok (.iconst 0, 1) := by decide +kernel
theorem dL_gust_216 : decode cL_gust 216 = .ok (.istore 9, 2) := by decide +kernel
theorem dL_gust_218 : decode cL_gust 218 = .ok (.iinc 10 1, 3) := by decide +kernel
theorem dL_gust_221 : decode cL_gust 221 = .ok (.goto (-69), 3) := by decide +kernel
theorem dL_gust_224 : decode cL_gust 224 = .ok (.iload 9, 2) := by decide +kernel
theorem dL_gust_226 : decode cL_gust 226 = .ok (.ifCond .eq 8, 3) := by decide +kernel
theorem dL_gust_229 : decode cL_gust 229 = .ok (.iload 8, 2) := by decide +kernel
theorem dL_gust_231 : decode cL_gust 231 = .ok (.goto 5, 3) := by decide +kernel
theorem dL_gust_234 : decode cL_gust 234 = .ok (.bipush (-100), 2) := by decide +kernel
theorem dL_gust_236 : decode cL_gust 236 = .ok (.ireturn, 1) := by decide +kernel
set_option maxRecDepth 20000 in
theorem ggL_reaches_X3_person_0 : GoodIn wsL_reaches [.code yX3_person cX3_person 3 (some .int)] := goodIn_r _ [5] (by decide +kernel) (by decide +kernel)
set_option maxRecDepth 20000 in
theorem ggL_reaches_X3_person_1 : GoodIn wsL_reaches wsX3_person_r1 := goodIn_r _ [6, 7, 8, 9, 10, 11, 12, 13, 14, 15, 16, 17, 18, 19, 20, 21, 22, 23, 24, 25, 26, 27, 28, 29] (by decide +kernel) (by decide +kernel)
set_option maxRecDepth 20000 in
theorem ggL_reaches_X3_person_2 : GoodIn wsL_reaches wsX3_person_r2 := goodIn_r _ [30, 31, 32, 33, 34, 35, 36, 37, 38, 39, 40, 41, 4, 42] (by decide +kernel) (by decide +kernel)
set_option maxRecDepth 20000 in
theorem ggL_reaches_X3_person_3 : GoodIn wsL_reaches wsX30 := goodIn_r _ [76, 77, 78, 79, 80, 81, 82] (by decide +kernel) (by decide +kernel)
set_option maxRecDepth 20000 in
theorem ggL_reaches_X3_person_4 : GoodIn wsL_reaches wsX10 := goodIn_r _ [83, 84, 85, 86, 87, 88, 89, 90, 91, 92, 93, 94, 95, 96, 97, 98, 99] (by decide +kernel) (by decide +kernel)
theorem ggL_reaches_X3_person : GoodIn wsL_reaches wsX3_person := fun w h => (List.mem_cons.mp h).elim (fun z => ggL_reaches_X3_person_0 w (List.mem_singleton.mpr z)) (fun z => (List.forall_mem_append.mpr ⟨List.forall_mem_append.mpr ⟨List.forall_mem_append.mpr ⟨ggL_reaches_X3_person_1, ggL_reaches_X3_person_2⟩, ggL_reaches_X3_person_3⟩, ggL_reaches_X3_person_4⟩) w z)
set_option maxRecDepth 20000 in
theorem gL_reaches_X3_person : GoodIn wsL_reaches (wsV RL 52 RX3 yX3_person wsX3_person) := goodIn_app (goodIn_of _ (by decide +kernel)) ggL_reaches_X3_person
set_option maxRecDepth 20000 in
theorem ggL_reaches_X3_count_0 : GoodIn wsL_reaches [.code yX3_count cX3_count 2 (some .int)] := goodIn_r _ [46] (by decide +kernel) (by decide +kernel)
set_option maxRecDepth 20000 in
theorem ggL_reaches_X3_count_1 : GoodIn wsL_reaches wsX3_count_r1 := goodIn_r _ [6, 47, 48, 49, 50, 51, 52, 53, 54, 55, 56, 57, 58, 59, 60, 61, 62, 63, 64, 16, 65, 18, 66, 67] (by decide +kernel) (by decide +kernel)
set_option maxRecDepth 20000 in
theorem ggL_reaches_X3_count_2 : GoodIn wsL_reaches wsX3_count_r2 := goodIn_r _ [68, 69, 70, 71, 72, 73, 74, 75, 36, 37, 38, 23, 39, 20, 21, 22, 24, 25, 26, 27, 40, 29, 30, 31] (by decide +kernel) (by decide +kernel)
set_option maxRecDepth 20000 in
theorem ggL_reaches_X3_count_3 : GoodIn wsL_reaches wsX3_count_r3 := goodIn_r _ [32, 33, 34, 41, 4, 42] (by decide +kernel) (by decide +kernel)
set_option maxRecDepth 20000 in
theorem ggL_reaches_X3_count_4 : GoodIn wsL_reaches wsX30 := goodIn_r _ [76, 77, 78, 79, 80, 81, 82] (by decide +kernel) (by decide +kernel)
set_option maxRecDepth 20000 in
theorem ggL_reaches_X3_count_5 : GoodIn wsL_reaches wsX10 := goodIn_r _ [83, 84, 85, 86, 87, 88, 89, 90, 91, 92, 93, 94, 95, 96, 97, 98, 99] (by decide +kernel) (by decide +kernel)
set_option maxRecDepth 20000 in
theorem ggL_reaches_X3_count_6 : GoodIn wsL_reaches wsX00 := goodIn_r _ [100, 101] (by decide +kernel) (by decide +kernel)
set_option maxRecDepth 20000 in
theorem ggL_reaches_X3_count_7 : GoodIn wsL_reaches wsX20 := goodIn_r _ [102, 103, 104, 105, 106, 107, 108] (by decide +kernel) (by decide +kernel)
theorem ggL_reaches_X3_count : GoodIn wsL_reaches wsX3_count := fun w h => (List.mem_cons.mp h).elim (fun z => ggL_reaches_X3_count_0 w (List.mem_singleton.mpr z)) (fun z => (List.forall_mem_append.mpr ⟨List.forall_mem_append.mpr ⟨List.forall_mem_append.mpr ⟨List.forall_mem_append.mpr ⟨List.forall_mem_append.mpr ⟨ggL_reaches_X3_count_1, List.forall_mem_append.mpr ⟨ggL_reaches_X3_count_2, ggL_reaches_X3_count_3⟩⟩, ggL_reaches_X3_count_4⟩, ggL_reaches_X3_count_5⟩, ggL_reaches_X3_count_6⟩, ggL_reaches_X3_count_7⟩) w z)
set_option maxRecDepth 20000 in
theorem gL_reaches_X3_count : GoodIn wsL_reaches (wsV RL 9 RX3 yX3_count wsX3_count) := goodIn_app (goodIn_of _ (by decide +kernel)) ggL_reaches_X3_count
theorem dL_reaches_0 : decode cL_reaches 0 = .ok (.aload_n 0, 1) := by decide +kernel
theorem dL_reaches_1 : decode cL_reaches 1 = .ok (.iload_n 1, 1) := by decide +kernel
theorem dL_reaches_2 : decode cL_reaches 2 = .ok (.iconst 4, 1) := by decide +kernel
theorem dL_reaches_3 : decode cL_reaches 3 = .ok (.invokevirtual 52, 3) := by decide +kernel
theorem dL_reaches_6 : decode cL_reaches 6 = .ok (.istore_n 3, 1) := by decide +kernel
theorem dL_reaches_7 : decode cL_reaches 7 = .ok (.iload_n 3, 1) := by decide +kernel
theorem dL_reaches_8 : decode cL_reaches 8 = .ok (.ifCond .le 40, 3) := by decide +kernel
theorem dL_reaches_11 : decode cL_reaches 11 = .ok (.iload_n 2, 1) := by decide +kernel
theorem dL_reaches_12 : decode cL_reaches 12 = .ok (.ifCond .lt 36, 3) := by decide +kernel
theorem dL_reaches_15 : decode cL_reaches 15 = .ok (.iload_n 2, 1) := by decide +kernel
theorem dL_reaches_16 : decode cL_reaches 16 = .ok (.aload_n 0, 1) := by decide +kernel
theorem dL_reaches_17 : decode cL_reaches 17 = .ok (.iconst 0, 1) := by decide +kernel
theorem dL_reaches_18 : decode cL_reaches 18 = .ok (.invokevirtual 9, 3) := by decide +kernel
theorem dL_reaches_21 : decode cL_reaches 21 = .ok (.if_icmp .ge 27, 3) := by decide +kernel
theorem dL_reaches_24 : decode cL_reaches 24 = .ok (.iload_n 2, 1) := by decide +kernel
theorem dL_reaches_25 : decode cL_reaches 25 = .ok (.iload_n 1, 1) := by decide +kernel
theorem dL_reaches_26 : decode cL_reaches 26 = .ok (.iload_n 3, 1) := by decide +kernel
theorem dL_reaches_27 : decode cL_reaches 27 = .ok (.iconst 2, 1) := by decide +kernel
theorem dL_reaches_28 : decode cL_reaches 28 = .ok (.idiv, 1) := by decide +kernel
theorem dL_reaches_29 : decode cL_reaches 29 = .ok (.isub, 1) := by decide +kernel
theorem dL_reaches_30 : decode cL_reaches 30 = .ok (.if_icmp .lt 18, 3) := by decide +kernel
theorem dL_reaches_33 : decode cL_reaches 33 = .ok (.iload_n 2, 1) := by decide +kernel
theorem dL_reaches_34 : decode cL_reaches 34 = .ok (.iload_n 1, 1) := by decide +kernel
theorem dL_reaches_35 : decode cL_reaches 35 = .ok (.iload_n 3, 1) := by decide +kernel
theorem dL_reaches_36 : decode cL_reaches 36 = .ok (.iconst 1, 1) := by decide +kernel
theorem dL_reaches_37 : decode cL_reaches 37 = .ok (.isub, 1) := by decide +kernel
theorem dL_reaches_38 : decode cL_reaches 38 = .ok (.iconst 2, 1) := by decide +kernel
theorem dL_reaches_39 : decode cL_reaches 39 = .ok (.idiv, 1) := by decide +kernel
theorem dL_reaches_40 : decode cL_reaches 40 = .ok (.iadd, 1) := by decide +kernel
theorem dL_reaches_41 : decode cL_reaches 41 = .ok (.if_icmp .gt 7, 3) := by decide +kernel
theorem dL_reaches_44 : decode cL_reaches 44 = .ok (.iconst 1, 1) := by decide +kernel
theorem dL_reaches_45 : decode cL_reaches 45 = .ok (.goto 4, 3) := by decide +kernel
theorem dL_reaches_48 : decode cL_reaches 48 = .ok (.iconst 0, 1) := by decide +kernel
theorem dL_reaches_49 : decode cL_reaches 49 = .ok (.ireturn, 1) := by decide +kernel
set_option maxRecDepth 20000 in
theorem ggL_isGust_X3_count_0 : GoodIn wsL_isGust [.code yX3_count cX3_count 2 (some .int)] := goodIn_r _ [5] (by decide +kernel) (by decide +kernel)
set_option maxRecDepth 20000 in
theorem ggL_isGust_X3_count_1 : GoodIn wsL_isGust wsX3_count_r1 := goodIn_r _ [6, 7, 8, 9, 10, 11, 12, 13, 14, 15, 16, 17, 18, 19, 20, 21, 22, 23, 24, 25, 26, 27, 28, 29] (by decide +kernel) (by decide +kernel)
set_option maxRecDepth 20000 in
theorem ggL_isGust_X3_count_2 : GoodIn wsL_isGust wsX3_count_r2 := goodIn_r _ [30, 31, 32, 33, 34, 35, 36, 37, 38, 39, 40, 41, 42, 43, 44, 45, 46, 47, 48, 49, 50, 51, 52, 53] (by decide +kernel) (by decide +kernel)
set_option maxRecDepth 20000 in
theorem ggL_isGust_X3_count_3 : GoodIn wsL_isGust wsX3_count_r3 := goodIn_r _ [54, 55, 56, 57, 4, 58] (by decide +kernel) (by decide +kernel)
set_option maxRecDepth 20000 in
theorem ggL_isGust_X3_count_4 : GoodIn wsL_isGust wsX30 := goodIn_r _ [106, 107, 108, 109, 110, 111, 112] (by decide +kernel) (by decide +kernel)
set_option maxRecDepth 20000 in
theorem ggL_isGust_X3_count_5 : GoodIn wsL_isGust wsX10 := goodIn_r _ [113, 114, 115, 116, 117, 118, 119, 120, 121, 122, 123, 124, 125, 126, 127, 128, 129] (by decide +kernel) (by decide +kernel)
set_option maxRecDepth 20000 in
theorem ggL_isGust_X3_count_6 : GoodIn wsL_isGust wsX00 := goodIn_r _ [130, 131] (by decide +kernel) (by decide +kernel)
set_option maxRecDepth 20000 in
theorem ggL_isGust_X3_count_7 : GoodIn wsL_isGust wsX20 := goodIn_r _ [132, 133, 134, 135, 136, 137, 138] (by decide +kernel) (by decide +kernel)
theorem ggL_isGust_X3_count : GoodIn wsL_isGust wsX3_count := fun w h => (List.mem_cons.mp h).elim (fun z => ggL_isGust_X3_count_0 w (List.mem_singleton.mpr z)) (fun z => (List.forall_mem_append.mpr ⟨List.forall_mem_append.mpr ⟨List.forall_mem_append.mpr ⟨List.forall_mem_append.mpr ⟨List.forall_mem_append.mpr ⟨ggL_isGust_X3_count_1, List.forall_mem_append.mpr ⟨ggL_isGust_X3_count_2, ggL_isGust_X3_count_3⟩⟩, ggL_isGust_X3_count_4⟩, ggL_isGust_X3_count_5⟩, ggL_isGust_X3_count_6⟩, ggL_isGust_X3_count_7⟩) w z)
set_option maxRecDepth 20000 in
theorem gL_isGust_X3_count : GoodIn wsL_isGust (wsV RL 9 RX3 yX3_count wsX3_count) := goodIn_app (goodIn_of _ (by decide +kernel)) ggL_isGust_X3_count
set_option maxRecDepth 20000 in
theorem ggL_isGust_L_reaches_0 : GoodIn wsL_isGust [.code yL_reaches cL_reaches 4 (some .boolean)] := goodIn_r _ [62] (by decide +kernel) (by decide +kernel)
set_option maxRecDepth 20000 in
theorem ggL_isGust_L_reaches_1 : GoodIn wsL_isGust wsL_reaches_r1 := goodIn_r _ [63, 64, 65, 4, 66, 6, 67, 68, 69, 70, 71, 72, 73, 74, 75, 25, 76, 27, 77, 43, 44, 45, 41, 46] (by decide +kernel) (by decide +kernel)
set_option maxRecDepth 20000 in
theorem ggL_isGust_L_reaches_2 : GoodIn wsL_isGust wsL_reaches_r2 := goodIn_r _ [47, 48, 49, 78, 51, 52, 53, 54, 55, 56, 79, 38, 39, 40, 42, 50, 57, 58, 1, 2, 3, 5, 7, 8] (by decide +kernel) (by decide +kernel)
set_option maxRecDepth 20000 in
theorem ggL_isGust_L_reaches_3 : GoodIn wsL_isGust wsL_reaches_r3 := goodIn_r _ [9, 10, 11, 12, 13, 14, 15, 16, 17, 18, 19, 20, 21, 22, 23, 24, 26, 28, 29, 30, 31, 32, 33, 34] (by decide +kernel) (by decide +kernel)
set_option maxRecDepth 20000 in
theorem ggL_isGust_L_reaches_4 : GoodIn wsL_isGust wsL_reaches_r4 := goodIn_r _ [35, 36, 37] (by decide +kernel) (by decide +kernel)
set_option maxRecDepth 20000 in
theorem ggL_isGust_L_reaches_5 : GoodIn wsL_isGust wsX30 := goodIn_r _ [106, 107, 108, 109, 110, 111, 112] (by decide +kernel) (by decide +kernel)
set_option maxRecDepth 20000 in
theorem ggL_isGust_L_reaches_6 : GoodIn wsL_isGust wsX10 := goodIn_r _ [113, 114, 115, 116, 117, 118, 119, 120, 121, 122, 123, 124, 125, 126, 127, 128, 129] (by decide +kernel) (by decide +kernel)
set_option maxRecDepth 20000 in
theorem ggL_isGust_L_reaches_7 : GoodIn wsL_isGust wsX00 := goodIn_r _ [130, 131] (by decide +kernel) (by decide +kernel)
set_option maxRecDepth 20000 in
theorem ggL_isGust_L_reaches_8 : GoodIn wsL_isGust wsX20 := goodIn_r _ [132, 133, 134, 135, 136, 137, 138] (by decide +kernel) (by decide +kernel)
theorem ggL_isGust_L_reaches : GoodIn wsL_isGust wsL_reaches := fun w h => (List.mem_cons.mp h).elim (fun z => ggL_isGust_L_reaches_0 w (List.mem_singleton.mpr z)) (fun z => (List.forall_mem_append.mpr ⟨List.forall_mem_append.mpr ⟨List.forall_mem_append.mpr ⟨List.forall_mem_append.mpr ⟨List.forall_mem_append.mpr ⟨ggL_isGust_L_reaches_1, List.forall_mem_append.mpr ⟨ggL_isGust_L_reaches_2, List.forall_mem_append.mpr ⟨ggL_isGust_L_reaches_3, ggL_isGust_L_reaches_4⟩⟩⟩, ggL_isGust_L_reaches_5⟩, ggL_isGust_L_reaches_6⟩, ggL_isGust_L_reaches_7⟩, ggL_isGust_L_reaches_8⟩) w z)
set_option maxRecDepth 20000 in
theorem gL_isGust_L_reaches : GoodIn wsL_isGust (va_wsS RL 60 yL_reaches wsL_reaches) := goodIn_app (goodIn_of _ (by decide +kernel)) ggL_isGust_L_reaches
set_option maxRecDepth 20000 in
theorem ggL_isGust_X3_person_0 : GoodIn wsL_isGust [.code yX3_person cX3_person 3 (some .int)] := goodIn_r _ [66] (by decide +kernel) (by decide +kernel)
set_option maxRecDepth 20000 in
theorem ggL_isGust_X3_person_1 : GoodIn wsL_isGust wsX3_person_r1 := goodIn_r _ [6, 67, 68, 69, 70, 71, 72, 73, 74, 75, 25, 76, 27, 77, 43, 44, 45, 41, 46, 47, 48, 49, 78, 51] (by decide +kernel) (by decide +kernel)
set_option maxRecDepth 20000 in
theorem ggL_isGust_X3_person_2 : GoodIn wsL_isGust wsX3_person_r2 := goodIn_r _ [52, 53, 54, 55, 56, 79, 38, 39, 40, 42, 50, 57, 4, 58] (by decide +kernel) (by decide +kernel)
set_option maxRecDepth 20000 in
theorem ggL_isGust_X3_person_3 : GoodIn wsL_isGust wsX30 := goodIn_r _ [106, 107, 108, 109, 110, 111, 112] (by decide +kernel) (by decide +kernel)
set_option maxRecDepth 20000 in
theorem ggL_isGust_X3_person_4 : GoodIn wsL_isGust wsX10 := goodIn_r _ [113, 114, 115, 116, 117, 118, 119, 120, 121, 122, 123, 124, 125, 126, 127, 128, 129] (by decide +kernel) (by decide +kernel)
theorem ggL_isGust_X3_person : GoodIn wsL_isGust wsX3_person := fun w h => (List.mem_cons.mp h).elim (fun z => ggL_isGust_X3_person_0 w (List.mem_singleton.mpr z)) (fun z => (List.forall_mem_append.mpr ⟨List.forall_mem_append.mpr ⟨List.forall_mem_append.mpr ⟨ggL_isGust_X3_person_1, ggL_isGust_X3_person_2⟩, ggL_isGust_X3_person_3⟩, ggL_isGust_X3_person_4⟩) w z)
set_option maxRecDepth 20000 in
theorem gL_isGust_X3_person : GoodIn wsL_isGust (wsV RL 52 RX3 yX3_person wsX3_person) := goodIn_app (goodIn_of _ (by decide +kernel)) ggL_isGust_X3_person
set_option maxRecDepth 20000 in
theorem ggL_isGust_X3_ifGust_0 : GoodIn wsL_isGust [.code yX3_ifGust cX3_ifGust 5 (some .int)] := goodIn_r _ [83] (by decide +kernel) (by decide +kernel)
set_option maxRecDepth 20000 in
theorem ggL_isGust_X3_ifGust_1 : GoodIn wsL_isGust wsX3_ifGust_r1 := goodIn_r _ [6, 69, 73, 74, 75, 25, 76, 27, 84, 85, 4, 86, 87, 57, 58, 88, 89, 90, 91, 41, 42, 43, 44, 45] (by decide +kernel) (by decide +kernel)
set_option maxRecDepth 20000 in
theorem ggL_isGust_X3_ifGust_2 : GoodIn wsL_isGust wsX3_ifGust_r2 := goodIn_r _ [46, 47, 48, 49, 50, 51, 52, 53, 54, 55, 56, 92, 93, 94, 95, 96, 97, 98, 99, 28, 100, 101, 102, 103] (by decide +kernel) (by decide +kernel)
set_option maxRecDepth 20000 in
theorem ggL_isGust_X3_ifGust_3 : GoodIn wsL_isGust wsX3_ifGust_r3 := goodIn_r _ [104, 105] (by decide +kernel) (by decide +kernel)
set_option maxRecDepth 20000 in
theorem ggL_isGust_X3_ifGust_4 : GoodIn wsL_isGust wsX30 := goodIn_r _ [106, 107, 108, 109, 110, 111, 112] (by decide +kernel) (by decide +kernel)
set_option maxRecDepth 20000 in
theorem ggL_isGust_X3_ifGust_5 : GoodIn wsL_isGust wsX10 := goodIn_r _ [113, 114, 115, 116, 117, 118, 119, 120, 121, 122, 123, 124, 125, 126, 127, 128, 129] (by decide +kernel) (by decide +kernel)
theorem ggL_isGust_X3_ifGust : GoodIn wsL_isGust wsX3_ifGust := fun w h => (List.mem_cons.mp h).elim (fun z => ggL_isGust_X3_ifGust_0 w (List.mem_singleton.mpr z)) (fun z => (List.forall_mem_append.mpr ⟨List.forall_mem_append.mpr ⟨List.forall_mem_append.mpr ⟨ggL_isGust_X3_ifGust_1, List.forall_mem_append.mpr ⟨ggL_isGust_X3_ifGust_2, ggL_isGust_X3_ifGust_3⟩⟩, ggL_isGust_X3_ifGust_4⟩, ggL_isGust_X3_ifGust_5⟩) w z)
set_option maxRecDepth 20000 in
theorem gL_isGust_X3_ifGust : GoodIn wsL_isGust (wsV RL 48 RX3 yX3_ifGust wsX3_ifGust) := goodIn_app (goodIn_of _ (by decide +kernel)) ggL_isGust_X3_ifGust
theorem dL_isGust_0 : decode cL_isGust 0 = .ok (.iconst 0, 1) := by decide +kernel
theorem dL_isGust_1 : decode cL_isGust 1 = .ok (.istore 4, 2) := by decide +kernel
theorem dL_isGust_3 : decode cL_isGust 3 = .ok (.iconst 0, 1) := by decide +kernel
theorem dL_isGust_4 : decode cL_isGust 4 = .ok (.istore 5, 2) := by decide +kernel
theorem dL_isGust_6 : decode cL_isGust 6 = .ok (.iconst 0, 1) := by decide +kernel
theorem dL_isGust_7 : decode cL_isGust 7 = .ok (.istore 6, 2) := by decide +kernel
theorem dL_isGust_9 : decode cL_isGust 9 = .ok (.iload 6, 2) := by decide +kernel
theorem dL_isGust_11 : decode cL_isGust 11 = .ok (.aload_n 0, 1) := by decide +kernel
theorem dL_isGust_12 : decode cL_isGust 12 = .ok (.iconst 0, 1) := by decide +kernel
theorem dL_isGust_13 : decode cL_isGust 13 = .ok (.invokevirtual 9, 3) := by decide +kernel
theorem dL_isGust_16 : decode cL_isGust 16 = .ok (.if_icmp .ge 106, 3) := by decide +kernel
theorem dL_isGust_19 : decode cL_isGust 19 = .ok (.aload_n 0, 1) := by decide +kernel
theorem dL_isGust_20 : decode cL_isGust 20 = .ok (.iload 6, 2) := by decide +kernel
theorem dL_isGust_22 : decode cL_isGust 22 = .ok (.iload_n 1, 1) := by decide +kernel
theorem dL_isGust_23 : decode cL_isGust 23 = .ok (.invokestatic 60, 3) := by decide +kernel
theorem dL_isGust_26 : decode cL_isGust 26 = .ok (.istore 7, 2) := by decide +kernel
theorem dL_isGust_28 : decode cL_isGust 28 = .ok (.iload 4, 2) := by decide +kernel
theorem dL_isGust_30 : decode cL_isGust 30 = .ok (.iload 7, 2) := by decide +kernel
theorem dL_isGust_32 : decode cL_isGust 32 = .ok (.ifCond .ne 37, 3) := by decide +kernel
theorem dL_isGust_35 : decode cL_isGust 35 = .ok (.iload_n 3, 1) := by decide +kernel
theorem dL_isGust_36 : decode cL_isGust 36 = .ok (.iconst 1, 1) := by decide +kernel
theorem dL_isGust_37 : decode cL_isGust 37 = .ok (.if_icmp .ne 15, 3) := by decide +kernel
theorem dL_isGust_40 : decode cL_isGust 40 = .ok (.aload_n 0, 1) := by decide +kernel
theorem dL_isGust_41 : decode cL_isGust 41 = .ok (.iload 6, 2) := by decide +kernel
theorem dL_isGust_43 : decode cL_isGust 43 = .ok (.iload_n 1, 1) := by decide +kernel
theorem dL_isGust_44 : decode cL_isGust 44 = .ok (.iconst 1, 1) := by decide +kernel
theorem dL_isGust_45 : decode cL_isGust 45 = .ok (.isub, 1) := by decide +kernel
theorem dL_isGust_46 : decode cL_isGust 46 = .ok (.invokestatic 60, 3) := by decide +kernel
theorem dL_isGust_49 : decode cL_isGust 49 = .ok (.ifCond .ne 20, 3) := by decide +kernel
theorem dL_isGust_52 : decode cL_isGust 52 = .ok (.iload_n 3, 1) := by decide +kernel
theorem dL_isGust_53 : decode cL_isGust 53 = .ok (.iconst 2, 1) := by decide +kernel
theorem dL_isGust_54 : decode cL_isGust 54 = .ok (.if_icmp .ne 19, 3) := by decide +kernel
theorem dL_isGust_57 : decode cL_isGust 57 = .ok (.aload_n 0, 1) := by decide +kernel
theorem dL_isGust_58 : decode cL_isGust 58 = .ok (.iload 6, 2) := by decide +kernel
theorem dL_isGust_60 : decode cL_isGust 60 = .ok (.iload_n 1, 1) := by decide +kernel
theorem dL_isGust_61 : decode cL_isGust 61 = .ok (.iconst 1, 1) := by decide +kernel
theorem dL_isGust_62 : decode cL_isGust 62 = .ok (.iadd, 1) := by decide +kernel
theorem dL_isGust_63 : decode cL_isGust 63 = .ok (.invokestatic 60, 3) := by decide +kernel
theorem dL_isGust_66 : decode cL_isGust 66 = .ok (.ifCond .eq 7, 3) := by decide +kernel
theorem dL_isGust_69 : decode cL_isGust 69 = .ok (.iconst 1, 1) := by decide +kernel
theorem dL_isGust_70 : decode cL_isGust 70 = .ok (.goto 4, 3) := by decide +kernel
theorem dL_isGust_73 : decode cL_isGust 73 = .ok (.iconst 0, 1) := by decide +kernel
theorem dL_isGust_74 : decode cL_isGust 74 = .ok (.iadd, 1) := by decide +kernel
theorem dL_isGust_75 : decode cL_isGust 75 = .ok (.istore 4, 2) := by decide +kernel
theorem dL_isGust_77 : decode cL_isGust 77 = .ok (.iload 5, 2) := by decide +kernel
theorem dL_isGust_79 : decode cL_isGust 79 = .ok (.iload 7, 2) := by decide +kernel
theorem dL_isGust_81 : decode cL_isGust 81 = .ok (.ifCond .ne 31, 3) := by decide +kernel
theorem dL_isGust_84 : decode cL_isGust 84 = .ok (.aload_n 0, 1) := by decide +kernel
theorem dL_isGust_85 : decode cL_isGust 85 = .ok (.iload 6, 2) := by decide +kernel
theorem dL_isGust_87 : decode cL_isGust 87 = .ok (.iload_n 1, 1) := by decide +kernel
theorem dL_isGust_88 : decode cL_isGust 88 = .ok (.iconst 1, 1) := by decide +kernel
theorem dL_isGust_89 : decode cL_isGust 89 = .ok (.isub, 1) := by decide +kernel
theorem dL_isGust_90 : decode cL_isGust 90 = .ok (.invokestatic 60, 3) := by decide +kernel
theorem dL_isGust_93 : decode cL_isGust 93 = .ok (.ifCond .ne 15, 3) := by decide +kernel
theorem dL_isGust_96 : decode cL_isGust 96 = .ok (.aload_n 0, 1) := by decide +kernel
theorem dL_isGust_97 : decode cL_isGust 97 = .ok (.iload 6, 2) := by decide +kernel
theorem dL_isGust_99 : decode cL_isGust 99 = .ok (.iload_n 1, 1) := by decide +kernel
theorem dL_isGust_100 : decode cL_isGust 100 = .ok (.iconst 1, 1) := by decide +kernel
theorem dL_isGust_101 : decode cL_isGust 101 = .ok (.iadd, 1) := by decide +kernel
theorem dL_isGust_102 : decode cL_isGust 102 = .ok (.invokestatic 60, 3) := by decide +kernel
theorem dL_isGust_105 : decode cL_isGust 105 = .ok (.ifCond .eq 7, 3) := by decide +kernel
theorem dL_isGust_108 : decode cL_isGust 108 = .ok (.iconst 1, 1) := by decide +kernel
theorem dL_isGust_109 : decode cL_isGust 109 = .ok (.goto 4, 3) := by decide +kernel
theorem dL_isGust_112 : decode cL_isGust 112 = .ok (.iconst 0, 1) := by decide +kernel
theorem dL_isGust_113 : decode cL_isGust 113 = .ok (.iadd, 1) := by decide +kernel
theorem dL_isGust_114 : decode cL_isGust 114 = .ok (.istore 5, 2) := by decide +kernel
theorem dL_isGust_116 : decode cL_isGust 116 = .ok (.iinc 6 1, 3) := by decide +kernel
theorem dL_isGust_119 : decode cL_isGust 119 = .ok (.goto (-110), 3) := by decide +kernel
theorem dL_isGust_122 : decode cL_isGust 122 = .ok (.aload_n 0, 1) := by decide +kernel
theorem dL_isGust_123 : decode cL_isGust 123 = .ok (.iload_n 1, 1) := by decide +kernel
theorem dL_isGust_124 : decode cL_isGust 124 = .ok (.iconst 1, 1) := by decide +kernel
theorem dL_isGust_125 : decode cL_isGust 125 = .ok (.invokevirtual 52, 3) := by decide +kernel
theorem dL_isGust_128 : decode cL_isGust 128 = .ok (.iload 4, 2) := by decide +kernel
theorem dL_isGust_130 : decode cL_isGust 130 = .ok (.ifCond .le 7, 3) := by decide +kernel
theorem dL_isGust_133 : decode cL_isGust 133 = .ok (.iconst 0, 1) := by decide +kernel
theorem dL_isGust_134 : decode cL_isGust 134 = .ok (.goto 4, 3) := by decide +kernel
theorem dL_isGust_137 : decode cL_isGust 137 = .ok (.iload_n 2, 1) := by decide +kernel
theorem dL_isGust_138 : decode cL_isGust 138 = .ok (.iadd, 1) := by decide +kernel
theorem dL_isGust_139 : decode cL_isGust 139 = .ok (.iload 5, 2) := by decide +kernel
theorem dL_isGust_141 : decode cL_isGust 141 = .ok (.iload_n 2, 1) := by decide +kernel
theorem dL_isGust_142 : decode cL_isGust 142 = .ok (.iconst 2, 1) := by decide +kernel
theorem dL_isGust_143 : decode cL_isGust 143 = .ok (.idiv, 1) := by decide +kernel
theorem dL_isGust_144 : decode cL_isGust 144 = .ok (.imul, 1) := by decide +kernel
theorem dL_isGust_145 : decode cL_isGust 145 = .ok (.iadd, 1) := by decide +kernel
theorem dL_isGust_146 : decode cL_isGust 146 = .ok (.istore 6, 2) := by decide +kernel
theorem dL_isGust_148 : decode cL_isGust 148 = .ok (.iload 6, 2) := by decide +kernel
theorem dL_isGust_150 : decode cL_isGust 150 = .ok (.sipush 999, 3) := by decide +kernel
theorem dL_isGust_153 : decode cL_isGust 153 = .ok (.if_icmp .le 9, 3) := by decide +kernel
theorem dL_isGust_156 : decode cL_isGust 156 = .ok (.sipush 999, 3) := by decide +kernel
theorem dL_isGust_159 : decode cL_isGust 159 = .ok (.goto 5, 3) := by decide +kernel
theorem dL_isGust_162 : decode cL_isGust 162 = .ok (.iload 6, 2) := by decide +kernel
theorem dL_isGust_164 : decode cL_isGust 164 = .ok (.istore 6, 2) := by decide +kernel
theorem dL_isGust_166 : decode cL_isGust 166 = .ok (.aload_n 0, 1) := by decide +kernel
theorem dL_isGust_167 : decode cL_isGust 167 = .ok (.iload_n 1, 1) := by decide +kernel
theorem dL_isGust_168 : decode cL_isGust 168 = .ok (.iload_n 2, 1) := by decide +kernel
theorem dL_isGust_169 : decode cL_isGust 169 = .ok (.iload_n 3, 1) := by decide +kernel
theorem dL_isGust_170 : decode cL_isGust 170 = .ok (.iconst 0, 1) := by decide +kernel
theorem dL_isGust_171 : decode cL_isGust 171 = .ok (.invokevirtual 48, 3) := by decide +kernel
theorem dL_isGust_174 : decode cL_isGust 174 = .ok (.iload 4, 2) := by decide +kernel
theorem dL_isGust_176 : decode cL_isGust 176 = .ok (.ifCond .le 7, 3) := by decide +kernel
theorem dL_isGust_179 : decode cL_isGust 179 = .ok (.iconst 1, 1) := by decide +kernel
theorem dL_isGust_180 : decode cL_isGust 180 = .ok (.goto 4, 3) := by decide +kernel
theorem dL_isGust_183 : decode cL_isGust 183 = .ok (.iconst 0, 1) := by decide +kernel
theorem dL_isGust_184 : decode cL_isGust 184 = .ok (.if_icmp .ne 60, 3) := by decide +kernel
theorem dL_isGust_187 : decode cL_isGust 187 = .ok (.aload_n 0, 1) := by decide +kernel
theorem dL_isGust_188 : decode cL_isGust 188 = .ok (.iload_n 1, 1) := by decide +kernel
theorem dL_isGust_189 : decode cL_isGust 189 = .ok (.iload_n 2, 1) := by decide +kernel
theorem dL_isGust_190 : decode cL_isGust 190 = .ok (.iload_n 3, 1) := by decide +kernel
theorem dL_isGust_191 : decode cL_isGust 191 = .ok (.iconst 1, 1) := by decide +kernel
theorem dL_isGust_192 : decode cL_isGust 192 = .ok (.invokevirtual 48, 3) := by decide +kernel
theorem dL_isGust_195 : decode cL_isGust 195 = .ok (.iload 5, 2) := by decide +kernel
theorem dL_isGust_197 : decode cL_isGust 197 = .ok (.if_icmp .ne 47, 3) := by decide +kernel
theorem dL_isGust_200 : decode cL_isGust 200 = .ok (.aload_n 0, 1) := by decide +kernel
theorem dL_isGust_201 : decode cL_isGust 201 = .ok (.iload_n 1, 1) := by decide +kernel
theorem dL_isGust_202 : decode cL_isGust 202 = .ok (.iload_n 2, 1) := by decide +kernel
theorem dL_isGust_203 : decode cL_isGust 203 = .ok (.iload_n 3, 1) := by decide +kernel
theorem dL_isGust_204 : decode cL_isGust 204 = .ok (.iconst 2, 1) := by decide +kernel
theorem dL_isGust_205 : decode cL_isGust 205 = .ok (.invokevirtual 48, 3) := by decide +kernel
theorem dL_isGust_208 : decode cL_isGust 208 = .ok (.iload 6, 2) := by decide +kernel
theorem dL_isGust_210 : decode cL_isGust 210 = .ok (.if_icmp .ne 34, 3) := by decide +kernel
theorem dL_isGust_213 : decode cL_isGust 213 = .ok (.aload_n 0, 1) := by decide +kernel
theorem dL_isGust_214 : decode cL_isGust 214 = .ok (.iload_n 1, 1) := by decide +kernel
theorem dL_isGust_215 : decode cL_isGust 215 = .ok (.iload_n 2, 1) := by decide +kernel
theorem dL_isGust_216 : decode cL_isGust 216 = .ok (.iload_n 3, 1) := by decide +kernel
theorem dL_isGust_217 : decode cL_isGust 217 = .ok (.iconst 3, 1) := by decide +kernel
theorem dL_isGust_218 : decode cL_isGust 218 = .ok (.invokevirtual 48, 3) := by decide +kernel
theorem dL_isGust_221 : decode cL_isGust 221 = .ok (.iload 6, 2) := by decide +kernel
theorem dL_isGust_223 : decode cL_isGust 223 = .ok (.aload_n 0, 1) := by decide +kernel
theorem dL_isGust_224 : decode cL_isGust 224 = .ok (.iload_n 1, 1) := by decide +kernel
theorem dL_isGust_225 : decode cL_isGust 225 = .ok (.iconst 2, 1) := by decide +kernel
theorem dL_isGust_226 : decode cL_isGust 226 = .ok (.invokevirtual 52, 3) := by decide +kernel
theorem dL_isGust_229 : decode cL_isGust 229 = .ok (.if_icmp .le 7, 3) := by decide +kernel
theorem dL_isGust_232 : decode cL_isGust 232 = .ok (.iconst 1, 1) := by decide +kernel
theorem dL_isGust_233 : decode cL_isGust 233 = .ok (.goto 4, 3) := by decide +kernel
theorem dL_isGust_236 : decode cL_isGust 236 = .ok (.iconst 0, 1) := by decide +kernel
theorem dL_isGust_237 : decode cL_isGust 237 = .ok (.if_icmp .ne 7, 3) := by decide +kernel
theorem dL_isGust_240 : decode cL_isGust 240 = .ok (.iconst 1, 1) := by decide +kernel
theorem dL_isGust_241 : decode cL_isGust 241 = .ok (.goto 4, 3) := by decide +kernel
theorem dL_isGust_244 : decode cL_isGust 244 = .ok (.iconst 0, 1) := by decide +kernel
theorem dL_isGust_245 : decode cL_isGust 245 = .ok (.ireturn, 1) := by decide +kernel
set_option maxRecDepth 20000 in
theorem ggL_all_X3_count_0 : GoodIn wsL_all [.code yX3_count cX3_count 2 (some .int)] := goodIn_r _ [5] (by decide +kernel) (by decide +kernel)
set_option maxRecDepth 20000 in
theorem ggL_all_X3_count_1 : GoodIn wsL_all wsX3_count_r1 := goodIn_r _ [6, 7, 8, 9, 10, 11, 12, 13, 14, 15, 16, 17, 18, 19, 20, 21, 22, 23, 24, 25, 26, 27, 28, 29] (by decide +kernel) (by decide +kernel)
set_option maxRecDepth 20000 in
theorem ggL_all_X3_count_2 : GoodIn wsL_all wsX3_count_r2 := goodIn_r _ [30, 31, 32, 33, 34, 35, 36, 37, 38, 39, 40, 41, 42, 43, 44, 45, 46, 47, 48, 49, 50, 51, 52, 53] (by decide +kernel) (by decide +kernel)
set_option maxRecDepth 20000 in
theorem ggL_all_X3_count_3 : GoodIn wsL_all wsX3_count_r3 := goodIn_r _ [54, 55, 56, 57, 4, 58] (by decide +kernel) (by decide +kernel)
set_option maxRecDepth 20000 in
theorem ggL_all_X3_count_4 : GoodIn wsL_all wsX30 := goodIn_r _ [90, 91, 92, 93, 94, 95, 96] (by decide +kernel) (by decide +kernel)
set_option maxRecDepth 20000 in
theorem ggL_all_X3_count_5 : GoodIn wsL_all wsX10 := goodIn_r _ [97, 98, 99, 100, 101, 102, 103, 104, 105, 106, 107, 108, 109, 110, 111, 112, 113] (by decide +kernel) (by decide +kernel)
set_option maxRecDepth 20000 in
theorem ggL_all_X3_count_6 : GoodIn wsL_all wsX00 := goodIn_r _ [114, 115] (by decide +kernel) (by decide +kernel)
set_option maxRecDepth 20000 in
theorem ggL_all_X3_count_7 : GoodIn wsL_all wsX20 := goodIn_r _ [116, 117, 118, 119, 120, 121, 122] (by decide +kernel) (by decide +kernel)
theorem ggL_all_X3_count : GoodIn wsL_all wsX3_count := fun w h => (List.mem_cons.mp h).elim (fun z => ggL_all_X3_count_0 w (List.mem_singleton.mpr z)) (fun z => (List.forall_mem_append.mpr ⟨List.forall_mem_append.mpr ⟨List.forall_mem_append.mpr ⟨List.forall_mem_append.mpr ⟨List.forall_mem_append.mpr ⟨ggL_all_X3_count_1, List.forall_mem_append.mpr ⟨ggL_all_X3_count_2, ggL_all_X3_count_3⟩⟩, ggL_all_X3_count_4⟩, ggL_all_X3_count_5⟩, ggL_all_X3_count_6⟩, ggL_all_X3_count_7⟩) w z)
set_option maxRecDepth 20000 in
theorem gL_all_X3_count : GoodIn wsL_all (wsV RL 9 RX3 yX3_count wsX3_count) := goodIn_app (goodIn_of _ (by decide +kernel)) ggL_all_X3_count
set_option maxRecDepth 20000 in
theorem ggL_all_X3_ifGust_0 : GoodIn wsL_all [.code yX3_ifGust cX3_ifGust 5 (some .int)] := goodIn_r _ [62] (by decide +kernel) (by decide +kernel)
set_option maxRecDepth 20000 in
theorem ggL_all_X3_ifGust_1 : GoodIn wsL_all wsX3_ifGust_r1 := goodIn_r _ [6, 63, 64, 65, 66, 25, 67, 27, 68, 69, 4, 70, 71, 57, 58, 72, 73, 74, 75, 41, 42, 43, 44, 45] (by decide +kernel) (by decide +kernel)
set_option maxRecDepth 20000 in
theorem ggL_all_X3_ifGust_2 : GoodIn wsL_all wsX3_ifGust_r2 := goodIn_r _ [46, 47, 48, 49, 50, 51, 52, 53, 54, 55, 56, 76, 77, 78, 79, 80, 81, 82, 83, 28, 84, 85, 86, 87] (by decide +kernel) (by decide +kernel)
set_option maxRecDepth 20000 in
theorem ggL_all_X3_ifGust_3 : GoodIn wsL_all wsX3_ifGust_r3 := goodIn_r _ [88, 89] (by decide +kernel) (by decide +kernel)
set_option maxRecDepth 20000 in
theorem ggL_all_X3_ifGust_4 : GoodIn wsL_all wsX30 := goodIn_r _ [90, 91, 92, 93, 94, 95, 96] (by decide +kernel) (by decide +kernel)
set_option maxRecDepth 20000 in
theorem ggL_all_X3_ifGust_5 : GoodIn wsL_all wsX10 := goodIn_r _ [97, 98, 99, 100, 101, 102, 103, 104, 105, 106, 107, 108, 109, 110, 111, 112, 113] (by decide +kernel) (by decide +kernel)
theorem ggL_all_X3_ifGust : GoodIn wsL_all wsX3_ifGust := fun w h => (List.mem_cons.mp h).elim (fun z => ggL_all_X3_ifGust_0 w (List.mem_singleton.mpr z)) (fun z => (List.forall_mem_append.mpr ⟨List.forall_mem_append.mpr ⟨List.forall_mem_append.mpr ⟨ggL_all_X3_ifGust_1, List.forall_mem_append.mpr ⟨ggL_all_X3_ifGust_2, ggL_all_X3_ifGust_3⟩⟩, ggL_all_X3_ifGust_4⟩, ggL_all_X3_ifGust_5⟩) w z)
set_option maxRecDepth 20000 in
theorem gL_all_X3_ifGust : GoodIn wsL_all (wsV RL 48 RX3 yX3_ifGust wsX3_ifGust) := goodIn_app (goodIn_of _ (by decide +kernel)) ggL_all_X3_ifGust
theorem dL_all_0 : decode cL_all 0 = .ok (.iconst 0, 1) := by decide +kernel
theorem dL_all_1 : decode cL_all 1 = .ok (.istore_n 3, 1) := by decide +kernel
theorem dL_all_2 : decode cL_all 2 = .ok (.iconst 0, 1) := by decide +kernel
theorem dL_all_3 : decode cL_all 3 = .ok (.istore 4, 2) := by decide +kernel
theorem dL_all_5 : decode cL_all 5 = .ok (.iload 4, 2) := by decide +kernel
theorem dL_all_7 : decode cL_all 7 = .ok (.aload_n 0, 1) := by decide +kernel
theorem dL_all_8 : decode cL_all 8 = .ok (.iconst 0, 1) := by decide +kernel
theorem dL_all_9 : decode cL_all 9 = .ok (.invokevirtual 9, 3) := by decide +kernel
theorem dL_all_12 : decode cL_all 12 = .ok (.if_icmp .ge 21, 3) := by decide +kernel
theorem dL_all_15 : decode cL_all 15 = .ok (.iload_n 3, 1) := by decide +kernel
theorem dL_all_16 : decode cL_all 16 = .ok (.aload_n 0, 1) := by decide +kernel
theorem dL_all_17 : decode cL_all 17 = .ok (.iload 4, 2) := by decide +kernel
theorem dL_all_19 : decode cL_all 19 = .ok (.iload_n 1, 1) := by decide +kernel
theorem dL_all_20 : decode cL_all 20 = .ok (.iload_n 2, 1) := by decide +kernel
theorem dL_all_21 : decode cL_all 21 = .ok (.iconst 2, 1) := by decide +kernel
theorem dL_all_22 : decode cL_all 22 = .ok (.invokevirtual 48, 3) := by decide +kernel
theorem dL_all_25 : decode cL_all 25 = .ok (.iadd, 1) := by decide +kernel
theorem dL_all_26 : decode cL_all 26 = .ok (.istore_n 3, 1) := by decide +kernel
theorem dL_all_27 : decode cL_all 27 = .ok (.iinc 4 1, 3) := by decide +kernel
theorem dL_all_30 : decode cL_all 30 = .ok (.goto (-25), 3) := by decide +kernel
theorem dL_all_33 : decode cL_all 33 = .ok (.iload_n 3, 1) := by decide +kernel
theorem dL_all_34 : decode cL_all 34 = .ok (.ireturn, 1) := by decide +kernel
