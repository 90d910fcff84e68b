theorem dX2_init_0 : decode cX2_init 0 = .ok (.aload_n 0, 1) := by decide +kernel
theorem dX2_init_1 : decode cX2_init 1 = .ok (.invokespecial 3, 3) := by decide +kernel
theorem dX2_init_4 : decode cX2_init 4 = .ok (.aload_n 0, 1) := by decide +kernel
theorem dX2_init_5 : decode cX2_init 5 = .ok (.bipush 60, 2) := by decide +kernel
theorem dX2_init_7 : decode cX2_init 7 = .ok (.newarray .char, 2) := by decide +kernel
theorem dX2_init_9 : decode cX2_init 9 = .ok (.putfield 11, 3) := by decide +kernel
theorem dX2_init_12 : decode cX2_init 12 = .ok (.aload_n 0, 1) := by decide +kernel
theorem dX2_init_13 : decode cX2_init 13 = .ok (.bipush 30, 2) := by decide +kernel
theorem dX2_init_15 : decode cX2_init 15 = .ok (.newarray .char, 2) := by decide +kernel
theorem dX2_init_17 : decode cX2_init 17 = .ok (.putfield 15, 3) := by decide +kernel
theorem dX2_init_20 : decode cX2_init 20 = .ok (.aload_n 0, 1) := by decide +kernel
theorem dX2_init_21 : decode cX2_init 21 = .ok (.bipush 30, 2) := by decide +kernel
theorem dX2_init_23 : decode cX2_init 23 = .ok (.newarray .int, 2) := by decide +kernel
theorem dX2_init_25 : decode cX2_init 25 = .ok (.putfield 18, 3) := by decide +kernel
theorem dX2_init_28 : decode cX2_init 28 = .ok (.aload_n 0, 1) := by decide +kernel
theorem dX2_init_29 : decode cX2_init 29 = .ok (.bipush 30, 2) := by decide +kernel
theorem dX2_init_31 : decode cX2_init 31 = .ok (.newarray .int, 2) := by decide +kernel
theorem dX2_init_33 : decode cX2_init 33 = .ok (.putfield 22, 3) := by decide +kernel
theorem dX2_init_36 : decode cX2_init 36 = .ok (.return_, 1) := by decide +kernel
set_option maxRecDepth 20000 in
theorem ggX3_init_X1_init : GoodIn wsX3_init wsX1_init := goodIn_r _ [20, 21, 2, 3, 22, 23, 24, 25, 26, 27, 28, 29, 44, 45, 46, 47, 48, 49, 50, 51, 52, 53, 54, 55, 56, 57, 58, 59, 60] (by decide +kernel) (by decide +kernel)
set_option maxRecDepth 20000 in
theorem gX3_init_X1_init_n9 : GoodIn wsX3_init (wsX1_init) := ggX3_init_X1_init
set_option maxRecDepth 20000 in
theorem ggX3_init_X0_init : GoodIn wsX3_init wsX0_init := goodIn_r _ [32, 33, 2, 3, 34, 35, 5, 6, 19, 20, 21, 22, 23, 24, 25, 26, 27, 28, 29, 68, 69, 44, 45, 46, 47, 48, 49, 50, 51, 52, 53, 54, 55, 56, 57, 58, 59, 60] (by decide +kernel) (by decide +kernel)
set_option maxRecDepth 20000 in
theorem gX3_init_X0_init : GoodIn wsX3_init (wsX0_init) := ggX3_init_X0_init
set_option maxRecDepth 20000 in
theorem ggX3_init_X2_init : GoodIn wsX3_init wsX2_init := goodIn_r _ [37, 38, 2, 3, 39, 40, 41, 22, 42, 43, 70, 71, 72, 73, 74, 75, 76] (by decide +kernel) (by decide +kernel)
set_option maxRecDepth 20000 in
theorem gX3_init_X2_init_n28 : GoodIn wsX3_init (wsX2_init) := ggX3_init_X2_init
theorem dX3_init_0 : decode cX3_init 0 = .ok (.aload_n 0, 1) := by decide +kernel
theorem dX3_init_1 : decode cX3_init 1 = .ok (.invokespecial 1, 3) := by decide +kernel
theorem dX3_init_4 : decode cX3_init 4 = .ok (.aload_n 0, 1) := by decide +kernel
theorem dX3_init_5 : decode cX3_init 5 = .ok (.new 7, 3) := by decide +kernel
theorem dX3_init_8 : decode cX3_init 8 = .ok (.dup, 1) := by decide +kernel
theorem dX3_init_9 : decode cX3_init 9 = .ok (.invokespecial 9, 3) := by decide +kernel
theorem dX3_init_12 : decode cX3_init 12 = .ok (.putfield 10, 3) := by decide +kernel
theorem dX3_init_15 : decode cX3_init 15 = .ok (.aload_n 0, 1) := by decide +kernel
theorem dX3_init_16 : decode cX3_init 16 = .ok (.new 7, 3) := by decide +kernel
theorem dX3_init_19 : decode cX3_init 19 = .ok (.dup, 1) := by decide +kernel
theorem dX3_init_20 : decode cX3_init 20 = .ok (.invokespecial 9, 3) := by decide +kernel
theorem dX3_init_23 : decode cX3_init 23 = .ok (.putfield 16, 3) := by decide +kernel
theorem dX3_init_26 : decode cX3_init 26 = .ok (.aload_n 0, 1) := by decide +kernel
theorem dX3_init_27 : decode cX3_init 27 = .ok (.new 19, 3) := by decide +kernel
theorem dX3_init_30 : decode cX3_init 30 = .ok (.dup, 1) := by decide +kernel
theorem dX3_init_31 : decode cX3_init 31 = .ok (.invokespecial 21, 3) := by decide +kernel
theorem dX3_init_34 : decode cX3_init 34 = .ok (.putfield 22, 3) := by decide +kernel
theorem dX3_init_37 : decode cX3_init 37 = .ok (.aload_n 0, 1) := by decide +kernel
theorem dX3_init_38 : decode cX3_init 38 = .ok (.new 26, 3) := by decide +kernel
theorem dX3_init_41 : decode cX3_init 41 = .ok (.dup, 1) := by decide +kernel
theorem dX3_init_42 : decode cX3_init 42 = .ok (.invokespecial 28, 3) := by decide +kernel
theorem dX3_init_45 : decode cX3_init 45 = .ok (.putfield 29, 3) := by decide +kernel
theorem dX3_init_48 : decode cX3_init 48 = .ok (.aload_n 0, 1) := by decide +kernel
theorem dX3_init_49 : decode cX3_init 49 = .ok (.bipush (-5), 2) := by decide +kernel
theorem dX3_init_51 : decode cX3_init 51 = .ok (.putfield 33, 3) := by decide +kernel
theorem dX3_init_54 : decode cX3_init 54 = .ok (.aload_n 0, 1) := by decide +kernel
theorem dX3_init_55 : decode cX3_init 55 = .ok (.bipush (-5), 2) := by decide +kernel
theorem dX3_init_57 : decode cX3_init 57 = .ok (.putfield 37, 3) := by decide +kernel
theorem dX3_init_60 : decode cX3_init 60 = .ok (.return_, 1) := by decide +kernel
set_option maxRecDepth 20000 in
theorem ggX3_come_X0_draft : GoodIn wsX3_come wsX0_draft := goodIn_r _ [7, 8, 9, 10, 6, 11, 12, 13, 14, 15, 16, 17, 18, 19, 20, 21, 22, 23, 24, 25, 26, 27, 28, 29, 30, 31, 32, 33, 34, 35, 36, 37, 38, 39, 62, 63, 64, 65, 66, 67, 68, 69, 70, 71, 72, 73, 74, 75, 76, 77, 78, 79, 80] (by decide +kernel) (by decide +kernel)
set_option maxRecDepth 20000 in
theorem gX3_come_X0_draft : GoodIn wsX3_come (wsV RX3 40 RX0 yX0_draft wsX0_draft) := goodIn_app (goodIn_of _ (by decide +kernel)) ggX3_come_X0_draft
set_option maxRecDepth 20000 in
theorem ggX3_come_X1_admit : GoodIn wsX3_come wsX1_admit := goodIn_r _ [43, 30, 31, 19, 24, 25, 26, 27, 28, 44, 45, 46, 64, 65, 66, 67, 68, 69, 70, 71, 72, 73, 74, 75, 76, 77, 78, 79, 80] (by decide +kernel) (by decide +kernel)
set_option maxRecDepth 20000 in
theorem gX3_come_X1_admit : GoodIn wsX3_come (wsV RX3 44 RX1 yX1_admit wsX1_admit) := goodIn_app (goodIn_of _ (by decide +kernel)) ggX3_come_X1_admit
set_option maxRecDepth 20000 in
theorem ggX3_come_X3_recorded : GoodIn wsX3_come wsX3_recorded := goodIn_r _ [50, 1, 51, 52, 53, 6, 54, 13, 12, 55, 56, 57, 58, 59, 60, 61, 62, 63] (by decide +kernel) (by decide +kernel)
set_option maxRecDepth 20000 in
theorem gX3_come_X3_recorded : GoodIn wsX3_come (wsV RX3 48 RX3 yX3_recorded wsX3_recorded) := goodIn_app (goodIn_of _ (by decide +kernel)) ggX3_come_X3_recorded
theorem dX3_come_0 : decode cX3_come 0 = .ok (.aload_n 0, 1) := by decide +kernel
theorem dX3_come_1 : decode cX3_come 1 = .ok (.getfield 22, 3) := by decide +kernel
theorem dX3_come_4 : decode cX3_come 4 = .ok (.aload_n 0, 1) := by decide +kernel
theorem dX3_come_5 : decode cX3_come 5 = .ok (.getfield 10, 3) := by decide +kernel
theorem dX3_come_8 : decode cX3_come 8 = .ok (.invokevirtual 40, 3) := by decide +kernel
theorem dX3_come_11 : decode cX3_come 11 = .ok (.aload_n 0, 1) := by decide +kernel
theorem dX3_come_12 : decode cX3_come 12 = .ok (.aload_n 0, 1) := by decide +kernel
theorem dX3_come_13 : decode cX3_come 13 = .ok (.getfield 10, 3) := by decide +kernel
theorem dX3_come_16 : decode cX3_come 16 = .ok (.iload_n 1, 1) := by decide +kernel
theorem dX3_come_17 : decode cX3_come 17 = .ok (.iload_n 2, 1) := by decide +kernel
theorem dX3_come_18 : decode cX3_come 18 = .ok (.iload_n 3, 1) := by decide +kernel
theorem dX3_come_19 : decode cX3_come 19 = .ok (.invokevirtual 44, 3) := by decide +kernel
theorem dX3_come_22 : decode cX3_come 22 = .ok (.invokevirtual 48, 3) := by decide +kernel
theorem dX3_come_25 : decode cX3_come 25 = .ok (.ireturn, 1) := by decide +kernel
set_option maxRecDepth 20000 in
theorem ggX3_leave_X0_draft : GoodIn wsX3_leave wsX0_draft := goodIn_r _ [7, 8, 9, 10, 6, 11, 12, 13, 14, 15, 16, 17, 18, 19, 20, 21, 22, 23, 24, 25, 26, 27, 28, 29, 30, 31, 32, 33, 34, 35, 36, 37, 38, 39, 71, 72, 73, 74, 75, 76, 77, 78, 79, 80, 81, 82, 83, 84, 85, 86, 87, 88, 89] (by decide +kernel) (by decide +kernel)
set_option maxRecDepth 20000 in
theorem gX3_leave_X0_draft : GoodIn wsX3_leave (wsV RX3 40 RX0 yX0_draft wsX0_draft) := goodIn_app (goodIn_of _ (by decide +kernel)) ggX3_leave_X0_draft
set_option maxRecDepth 20000 in
theorem ggX3_leave_X1_dismiss : GoodIn wsX3_leave wsX1_dismiss := goodIn_r _ [43, 24, 32, 44, 45, 46, 17, 47, 30, 48, 49, 50, 51, 19, 25, 26, 27, 28, 52, 53, 54, 20, 21, 22, 23, 73, 74, 75, 76, 77, 78, 79, 80, 81, 82, 83, 84, 85, 86, 87, 88, 89] (by decide +kernel) (by decide +kernel)
set_option maxRecDepth 20000 in
theorem gX3_leave_X1_dismiss : GoodIn wsX3_leave (wsV RX3 52 RX1 yX1_dismiss wsX1_dismiss) := goodIn_app (goodIn_of _ (by decide +kernel)) ggX3_leave_X1_dismiss
set_option maxRecDepth 20000 in
theorem ggX3_leave_X3_recorded : GoodIn wsX3_leave wsX3_recorded := goodIn_r _ [59, 1, 60, 61, 62, 6, 63, 13, 12, 64, 65, 66, 67, 68, 69, 70, 71, 72] (by decide +kernel) (by decide +kernel)
set_option maxRecDepth 20000 in
theorem gX3_leave_X3_recorded : GoodIn wsX3_leave (wsV RX3 48 RX3 yX3_recorded wsX3_recorded) := goodIn_app (goodIn_of _ (by decide +kernel)) ggX3_leave_X3_recorded
theorem dX3_leave_0 : decode cX3_leave 0 = .ok (.aload_n 0, 1) := by decide +kernel
theorem dX3_leave_1 : decode cX3_leave 1 = .ok (.getfield 22, 3) := by decide +kernel
theorem dX3_leave_4 : decode cX3_leave 4 = .ok (.aload_n 0, 1) := by decide +kernel
theorem dX3_leave_5 : decode cX3_leave 5 = .ok (.getfield 10, 3) := by decide +kernel
theorem dX3_leave_8 : decode cX3_leave 8 = .ok (.invokevirtual 40, 3) := by decide +kernel
theorem dX3_leave_11 : decode cX3_leave 11 = .ok (.aload_n 0, 1) := by decide +kernel
theorem dX3_leave_12 : decode cX3_leave 12 = .ok (.aload_n 0, 1) := by decide +kernel
theorem dX3_leave_13 : decode cX3_leave 13 = .ok (.getfield 10, 3) := by decide +kernel
theorem dX3_leave_16 : decode cX3_leave 16 = .ok (.iload_n 1, 1) := by decide +kernel
theorem dX3_leave_17 : decode cX3_leave 17 = .ok (.invokevirtual 52, 3) := by decide +kernel
theorem dX3_leave_20 : decode cX3_leave 20 = .ok (.invokevirtual 48, 3) := by decide +kernel
theorem dX3_leave_23 : decode cX3_leave 23 = .ok (.ireturn, 1) := by decide +kernel
set_option maxRecDepth 20000 in
theorem ggX3_letAhead_X0_draft : GoodIn wsX3_letAhead wsX0_draft := goodIn_r _ [7, 8, 9, 10, 6, 11, 12, 13, 14, 15, 16, 17, 18, 19, 20, 21, 22, 23, 24, 25, 26, 27, 28, 29, 30, 31, 32, 33, 34, 35, 36, 37, 38, 39, 67, 68, 69, 70, 71, 72, 73, 74, 75, 76, 77, 78, 79, 80, 81, 82, 83, 84, 85] (by decide +kernel) (by decide +kernel)
set_option maxRecDepth 20000 in
theorem gX3_letAhead_X0_draft : GoodIn wsX3_letAhead (wsV RX3 40 RX0 yX0_draft wsX0_draft) := goodIn_app (goodIn_of _ (by decide +kernel)) ggX3_letAhead_X0_draft
set_option maxRecDepth 20000 in
theorem ggX3_letAhead_X1_changePlaces : GoodIn wsX3_letAhead wsX1_changePlaces := goodIn_r _ [43, 19, 24, 25, 26, 27, 28, 44, 45, 46, 17, 47, 30, 48, 49, 50, 69, 70, 71, 72, 73, 74, 75, 76, 77, 78, 79, 80, 81, 82, 83, 84, 85] (by decide +kernel) (by decide +kernel)
set_option maxRecDepth 20000 in
theorem gX3_letAhead_X1_changePlaces : GoodIn wsX3_letAhead (wsV RX3 55 RX1 yX1_changePlaces wsX1_changePlaces) := goodIn_app (goodIn_of _ (by decide +kernel)) ggX3_letAhead_X1_changePlaces
set_option maxRecDepth 20000 in
theorem ggX3_letAhead_X3_recorded : GoodIn wsX3_letAhead wsX3_recorded := goodIn_r _ [55, 1, 56, 57, 58, 6, 59, 13, 12, 60, 61, 62, 63, 64, 65, 66, 67, 68] (by decide +kernel) (by decide +kernel)
set_option maxRecDepth 20000 in
theorem gX3_letAhead_X3_recorded : GoodIn wsX3_letAhead (wsV RX3 48 RX3 yX3_recorded wsX3_recorded) := goodIn_app (goodIn_of _ (by decide +kernel)) ggX3_letAhead_X3_recorded
theorem dX3_letAhead_0 : decode cX3_letAhead 0 = .ok (.aload_n 0, 1) := by decide +kernel
theorem dX3_letAhead_1 : decode cX3_letAhead 1 = .ok (.getfield 22, 3) := by decide +kernel
theorem dX3_letAhead_4 : decode cX3_letAhead 4 = .ok (.aload_n 0, 1) := by decide +kernel
theorem dX3_letAhead_5 : decode cX3_letAhead 5 = .ok (.getfield 10, 3) := by decide +kernel
theorem dX3_letAhead_8 : decode cX3_letAhead 8 = .ok (.invokevirtual 40, 3) := by decide +kernel
theorem dX3_letAhead_11 : decode cX3_letAhead 11 = .ok (.aload_n 0, 1) := by decide +kernel
theorem dX3_letAhead_12 : decode cX3_letAhead 12 = .ok (.aload_n 0, 1) := by decide +kernel
theorem dX3_letAhead_13 : decode cX3_letAhead 13 = .ok (.getfield 10, 3) := by decide +kernel
theorem dX3_letAhead_16 : decode cX3_letAhead 16 = .ok (.iload_n 1, 1) := by decide +kernel
theorem dX3_letAhead_17 : decode cX3_letAhead 17 = .ok (.invokevirtual 55, 3) := by decide +kernel
theorem dX3_letAhead_20 : decode cX3_letAhead 20 = .ok (.invokevirtual 48, 3) := by decide +kernel
theorem dX3_letAhead_23 : decode cX3_letAhead 23 = .ok (.ireturn, 1) := by decide +kernel
set_option maxRecDepth 20000 in
theorem ggX3_swap_X0_draft : GoodIn wsX3_swap wsX0_draft := goodIn_r _ [7, 8, 9, 10, 6, 11, 12, 13, 14, 15, 16, 17, 18, 19, 20, 21, 22, 23, 24, 25, 26, 27, 28, 29, 30, 31, 32, 33, 34, 35, 36, 37, 38, 39, 71, 72, 73, 74, 75, 76, 77, 78, 79, 80, 81, 82, 83, 84, 85, 86, 87, 88, 89] (by decide +kernel) (by decide +kernel)
set_option maxRecDepth 20000 in
theorem gX3_swap_X0_draft : GoodIn wsX3_swap (wsV RX3 40 RX0 yX0_draft wsX0_draft) := goodIn_app (goodIn_of _ (by decide +kernel)) ggX3_swap_X0_draft
set_option maxRecDepth 20000 in
theorem ggX3_swap_X1_swapUmbrellas : GoodIn wsX3_swap wsX1_swapUmbrellas := goodIn_r _ [43, 27, 28, 37, 44, 45, 46, 17, 47, 30, 48, 49, 50, 51, 24, 52, 53, 54, 73, 74, 75, 76, 77, 78, 79, 80, 81, 82, 83, 84, 85, 86, 87, 88, 89] (by decide +kernel) (by decide +kernel)
set_option maxRecDepth 20000 in
theorem gX3_swap_X1_swapUmbrellas : GoodIn wsX3_swap (wsV RX3 58 RX1 yX1_swapUmbrellas wsX1_swapUmbrellas) := goodIn_app (goodIn_of _ (by decide +kernel)) ggX3_swap_X1_swapUmbrellas
set_option maxRecDepth 20000 in
theorem ggX3_swap_X3_recorded : GoodIn wsX3_swap wsX3_recorded := goodIn_r _ [59, 1, 60, 61, 62, 6, 63, 13, 12, 64, 65, 66, 67, 68, 69, 70, 71, 72] (by decide +kernel) (by decide +kernel)
set_option maxRecDepth 20000 in
theorem gX3_swap_X3_recorded : GoodIn wsX3_swap (wsV RX3 48 RX3 yX3_recorded wsX3_recorded) := goodIn_app (goodIn_of _ (by decide +kernel)) ggX3_swap_X3_recorded
theorem dX3_swap_0 : decode cX3_swap 0 = .ok (.aload_n 0, 1) := by decide +kernel
theorem dX3_swap_1 : decode cX3_swap 1 = .ok (.getfield 22, 3) := by decide +kernel
theorem dX3_swap_4 : decode cX3_swap 4 = .ok (.aload_n 0, 1) := by decide +kernel
theorem dX3_swap_5 : decode cX3_swap 5 = .ok (.getfield 10, 3) := by decide +kernel
theorem dX3_swap_8 : decode cX3_swap 8 = .ok (.invokevirtual 40, 3) := by decide +kernel
theorem dX3_swap_11 : decode cX3_swap 11 = .ok (.aload_n 0, 1) := by decide +kernel
theorem dX3_swap_12 : decode cX3_swap 12 = .ok (.aload_n 0, 1) := by decide +kernel
theorem dX3_swap_13 : decode cX3_swap 13 = .ok (.getfield 10, 3) := by decide +kernel
theorem dX3_swap_16 : decode cX3_swap 16 = .ok (.iload_n 1, 1) := by decide +kernel
theorem dX3_swap_17 : decode cX3_swap 17 = .ok (.invokevirtual 58, 3) := by decide +kernel
theorem dX3_swap_20 : decode cX3_swap 20 = .ok (.invokevirtual 48, 3) := by decide +kernel
theorem dX3_swap_23 : decode cX3_swap 23 = .ok (.ireturn, 1) := by decide +kernel
set_option maxRecDepth 20000 in
theorem ggX3_set_X0_draft : GoodIn wsX3_set wsX0_draft := goodIn_r _ [7, 8, 9, 10, 6, 11, 12, 13, 14, 15, 16, 17, 18, 19, 20, 21, 22, 23, 24, 25, 26, 27, 28, 29, 30, 31, 32, 33, 34, 35, 36, 37, 38, 39, 62, 63, 64, 65, 66, 67, 68, 69, 70, 71, 72, 73, 74, 75, 76, 77, 78, 79, 80] (by decide +kernel) (by decide +kernel)
set_option maxRecDepth 20000 in
theorem gX3_set_X0_draft : GoodIn wsX3_set (wsV RX3 40 RX0 yX0_draft wsX0_draft) := goodIn_app (goodIn_of _ (by decide +kernel)) ggX3_set_X0_draft
set_option maxRecDepth 20000 in
theorem ggX3_set_X1_changeSetting : GoodIn wsX3_set wsX1_changeSetting := goodIn_r _ [43, 29, 44, 45, 46, 64, 65, 66, 67, 68, 69, 70, 71, 72, 73, 74, 75, 76, 77, 78, 79, 80] (by decide +kernel) (by decide +kernel)
set_option maxRecDepth 20000 in
theorem gX3_set_X1_changeSetting : GoodIn wsX3_set (wsV RX3 61 RX1 yX1_changeSetting wsX1_changeSetting) := goodIn_app (goodIn_of _ (by decide +kernel)) ggX3_set_X1_changeSetting
set_option maxRecDepth 20000 in
theorem ggX3_set_X3_recorded : GoodIn wsX3_set wsX3_recorded := goodIn_r _ [50, 1, 51, 52, 53, 6, 54, 13, 12, 55, 56, 57, 58, 59, 60, 61, 62, 63] (by decide +kernel) (by decide +kernel)
set_option maxRecDepth 20000 in
theorem gX3_set_X3_recorded : GoodIn wsX3_set (wsV RX3 48 RX3 yX3_recorded wsX3_recorded) := goodIn_app (goodIn_of _ (by decide +kernel)) ggX3_set_X3_recorded
theorem dX3_set_0 : decode cX3_set 0 = .ok (.aload_n 0, 1) := by decide +kernel
theorem dX3_set_1 : decode cX3_set 1 = .ok (.getfield 22, 3) := by decide +kernel
theorem dX3_set_4 : decode cX3_set 4 = .ok (.aload_n 0, 1) := by decide +kernel
theorem dX3_set_5 : decode cX3_set 5 = .ok (.getfield 10, 3) := by decide +kernel
theorem dX3_set_8 : decode cX3_set 8 = .ok (.invokevirtual 40, 3) := by decide +kernel
theorem dX3_set_11 : decode cX3_set 11 = .ok (.aload_n 0, 1) := by decide +kernel
theorem dX3_set_12 : decode cX3_set 12 = .ok (.aload_n 0, 1) := by decide +kernel
theorem dX3_set_13 : decode cX3_set 13 = .ok (.getfield 10, 3) := by decide +kernel
theorem dX3_set_16 : decode cX3_set 16 = .ok (.iload_n 1, 1) := by decide +kernel
theorem dX3_set_17 : decode cX3_set 17 = .ok (.iload_n 2, 1) := by decide +kernel
theorem dX3_set_18 : decode cX3_set 18 = .ok (.invokevirtual 61, 3) := by decide +kernel
theorem dX3_set_21 : decode cX3_set 21 = .ok (.invokevirtual 48, 3) := by decide +kernel
theorem dX3_set_24 : decode cX3_set 24 = .ok (.ireturn, 1) := by decide +kernel
set_option maxRecDepth 20000 in
theorem ggX3_gust_X0_draft : GoodIn wsX3_gust wsX0_draft := goodIn_r _ [7, 8, 9, 10, 6, 11, 12, 13, 14, 15, 16, 17, 18, 19, 20, 21, 22, 23, 24, 25, 26, 27, 28, 29, 30, 31, 32, 33, 34, 35, 36, 37, 38, 39, 107, 108, 109, 110, 111, 112, 113, 114, 115, 116, 117, 118, 119, 120, 121, 122, 123, 124, 125] (by decide +kernel) (by decide +kernel)
set_option maxRecDepth 20000 in
theorem gX3_gust_X0_draft : GoodIn wsX3_gust (wsV RX3 40 RX0 yX0_draft wsX0_draft) := goodIn_app (goodIn_of _ (by decide +kernel)) ggX3_gust_X0_draft
set_option maxRecDepth 20000 in
theorem ggX3_gust_X1_rain : GoodIn wsX3_gust wsX1_rain := goodIn_r _ [43, 30, 24, 38, 44, 45, 46, 47, 48, 49, 50, 51, 52, 17, 53, 54, 55, 56, 57, 58, 59, 60, 61, 62, 63, 64, 65, 27, 66, 67, 68, 69, 70, 71, 72, 73, 74, 75, 76, 77, 78, 79, 80, 81, 82, 83, 84, 25, 33, 85, 86, 87, 88, 19, 26, 28, 89, 90, 91, 20, 21, 22, 23, 109, 110, 111, 112, 113, 114, 115, 116, 117, 118, 119, 120, 121, 122, 123, 124, 125] (by decide +kernel) (by decide +kernel)
set_option maxRecDepth 20000 in
theorem gX3_gust_X1_rain : GoodIn wsX3_gust (wsV RX3 65 RX1 yX1_rain wsX1_rain) := goodIn_app (goodIn_of _ (by decide +kernel)) ggX3_gust_X1_rain
set_option maxRecDepth 20000 in
theorem ggX3_gust_X3_recorded : GoodIn wsX3_gust wsX3_recorded := goodIn_r _ [95, 1, 96, 97, 98, 6, 99, 13, 12, 100, 101, 102, 103, 104, 105, 106, 107, 108] (by decide +kernel) (by decide +kernel)
set_option maxRecDepth 20000 in
theorem gX3_gust_X3_recorded : GoodIn wsX3_gust (wsV RX3 48 RX3 yX3_recorded wsX3_recorded) := goodIn_app (goodIn_of _ (by decide +kernel)) ggX3_gust_X3_recorded
theorem dX3_gust_0 : decode cX3_gust 0 = .ok (.aload_n 0, 1) := by decide +kernel
theorem dX3_gust_1 : decode cX3_gust 1 = .ok (.getfield 22, 3) := by decide +kernel
theorem dX3_gust_4 : decode cX3_gust 4 = .ok (.aload_n 0, 1) := by decide +kernel
theorem dX3_gust_5 : decode cX3_gust 5 = .ok (.getfield 10, 3) := by decide +kernel
theorem dX3_gust_8 : decode cX3_gust 8 = .ok (.invokevirtual 40, 3) := by decide +kernel
theorem dX3_gust_11 : decode cX3_gust 11 = .ok (.aload_n 0, 1) := by decide +kernel
theorem dX3_gust_12 : decode cX3_gust 12 = .ok (.aload_n 0, 1) := by decide +kernel
theorem dX3_gust_13 : decode cX3_gust 13 = .ok (.getfield 10, 3) := by decide +kernel
theorem dX3_gust_16 : decode cX3_gust 16 = .ok (.iload_n 1, 1) := by decide +kernel
theorem dX3_gust_17 : decode cX3_gust 17 = .ok (.iload_n 2, 1) := by decide +kernel
theorem dX3_gust_18 : decode cX3_gust 18 = .ok (.invokevirtual 65, 3) := by decide +kernel
theorem dX3_gust_21 : decode cX3_gust 21 = .ok (.invokevirtual 48, 3) := by decide +kernel
theorem dX3_gust_24 : decode cX3_gust 24 = .ok (.ireturn, 1) := by decide +kernel
set_option maxRecDepth 20000 in
theorem ggX3_pass_X0_draft : GoodIn wsX3_pass wsX0_draft := goodIn_r _ [7, 8, 9, 10, 6, 11, 12, 13, 14, 15, 16, 17, 18, 19, 20, 21, 22, 23, 24, 25, 26, 27, 28, 29, 30, 31, 32, 33, 34, 35, 36, 37, 38, 39, 67, 68, 69, 70, 71, 72, 73, 74, 75, 76, 77, 78, 79, 80, 81, 82, 83, 84, 85] (by decide +kernel) (by decide +kernel)
set_option maxRecDepth 20000 in
theorem gX3_pass_X0_draft : GoodIn wsX3_pass (wsV RX3 40 RX0 yX0_draft wsX0_draft) := goodIn_app (goodIn_of _ (by decide +kernel)) ggX3_pass_X0_draft
set_option maxRecDepth 20000 in
theorem ggX3_pass_X1_dry : GoodIn wsX3_pass wsX1_dry := goodIn_r _ [43, 39, 44, 30, 24, 29, 45, 46, 47, 48, 49, 50, 51, 69, 70, 71, 72, 73, 74, 75, 76, 77, 78, 79, 80, 81, 82, 83, 84, 85] (by decide +kernel) (by decide +kernel)
set_option maxRecDepth 20000 in
theorem gX3_pass_X1_dry : GoodIn wsX3_pass (wsV RX3 68 RX1 yX1_dry wsX1_dry) := goodIn_app (goodIn_of _ (by decide +kernel)) ggX3_pass_X1_dry
set_option maxRecDepth 20000 in
theorem ggX3_pass_X3_recorded : GoodIn wsX3_pass wsX3_recorded := goodIn_r _ [55, 1, 56, 57, 58, 6, 59, 13, 12, 60, 61, 62, 63, 64, 65, 66, 67, 68] (by decide +kernel) (by decide +kernel)
set_option maxRecDepth 20000 in
theorem gX3_pass_X3_recorded : GoodIn wsX3_pass (wsV RX3 48 RX3 yX3_recorded wsX3_recorded) := goodIn_app (goodIn_of _ (by decide +kernel)) ggX3_pass_X3_recorded
theorem dX3_pass_0 : decode cX3_pass 0 = .ok (.aload_n 0, 1) := by decide +kernel
theorem dX3_pass_1 : decode cX3_pass 1 = .ok (.getfield 22, 3) := by decide +kernel
theorem dX3_pass_4 : decode cX3_pass 4 = .ok (.aload_n 0, 1) := by decide +kernel
theorem dX3_pass_5 : decode cX3_pass 5 = .ok (.getfield 10, 3) := by decide +kernel
theorem dX3_pass_8 : decode cX3_pass 8 = .ok (.invokevirtual 40, 3) := by decide +kernel
theorem dX3_pass_11 : decode cX3_pass 11 = .ok (.aload_n 0, 1) := by decide +kernel
theorem dX3_pass_12 : decode cX3_pass 12 = .ok (.aload_n 0, 1) := by decide +kernel
theorem dX3_pass_13 : decode cX3_pass 13 = .ok (.getfield 10, 3) := by decide +kernel
theorem dX3_pass_16 : decode cX3_pass 16 = .ok (.iload_n 1, 1) := by decide +kernel
theorem dX3_pass_17 : decode cX3_pass 17 = .ok (.invokevirtual 68, 3) := by decide +kernel
theorem dX3_pass_20 : decode cX3_pass 20 = .ok (.invokevirtual 48, 3) := by decide +kernel
theorem dX3_pass_23 : decode cX3_pass 23 = .ok (.ireturn, 1) := by decide +kernel
set_option maxRecDepth 20000 in
theorem ggX3_serve_X0_draft : GoodIn wsX3_serve wsX0_draft := goodIn_r _ [7, 8, 9, 10, 6, 11, 12, 13, 14, 15, 16, 17, 18, 19, 20, 21, 22, 23, 24, 25, 26, 27, 28, 29, 30, 31, 32, 33, 34, 35, 36, 37, 38, 39, 87, 88, 89, 90, 91, 92, 93, 94, 95, 96, 97, 98, 99, 100, 101, 102, 103, 104, 105] (by decide +kernel) (by decide +kernel)
set_option maxRecDepth 20000 in
theorem gX3_serve_X0_draft : GoodIn wsX3_serve (wsV RX3 40 RX0 yX0_draft wsX0_draft) := goodIn_app (goodIn_of _ (by decide +kernel)) ggX3_serve_X0_draft
set_option maxRecDepth 20000 in
theorem ggX3_serve_X1_serveFirst : GoodIn wsX3_serve wsX1_serveFirst := goodIn_r _ [43, 30, 35, 36, 34, 44, 45, 46, 17, 47, 29, 48, 49, 50, 51, 52, 53, 54, 55, 24, 56, 57, 58, 59, 26, 60, 61, 62, 63, 64, 65, 66, 67, 19, 25, 27, 28, 68, 69, 70, 20, 21, 22, 23, 89, 90, 91, 92, 93, 94, 95, 96, 97, 98, 99, 100, 101, 102, 103, 104, 105] (by decide +kernel) (by decide +kernel)
set_option maxRecDepth 20000 in
theorem gX3_serve_X1_serveFirst : GoodIn wsX3_serve (wsV RX3 71 RX1 yX1_serveFirst wsX1_serveFirst) := goodIn_app (goodIn_of _ (by decide +kernel)) ggX3_serve_X1_serveFirst
set_option maxRecDepth 20000 in
theorem ggX3_serve_X3_recorded : GoodIn wsX3_serve wsX3_recorded := goodIn_r _ [75, 1, 76, 77, 78, 6, 79, 13, 12, 80, 81, 82, 83, 84, 85, 86, 87, 88] (by decide +kernel) (by decide +kernel)
set_option maxRecDepth 20000 in
theorem gX3_serve_X3_recorded : GoodIn wsX3_serve (wsV RX3 48 RX3 yX3_recorded wsX3_recorded) := goodIn_app (goodIn_of _ (by decide +kernel)) ggX3_serve_X3_recorded
theorem dX3_serve_0 : decode cX3_serve 0 = .ok (.aload_n 0, 1) := by decide +kernel
theorem dX3_serve_1 : decode cX3_serve 1 = .ok (.getfield 22, 3) := by decide +kernel
theorem dX3_serve_4 : decode cX3_serve 4 = .ok (.aload_n 0, 1) := by decide +kernel
theorem dX3_serve_5 : decode cX3_serve 5 = .ok (.getfield 10, 3) := by decide +kernel
theorem dX3_serve_8 : decode cX3_serve 8 = .ok (.invokevirtual 40, 3) := by decide +kernel
theorem dX3_serve_11 : decode cX3_serve 11 = .ok (.aload_n 0, 1) := by decide +kernel
theorem dX3_serve_12 : decode cX3_serve 12 = .ok (.aload_n 0, 1) := by decide +kernel
theorem dX3_serve_13 : decode cX3_serve 13 = .ok (.getfield 10, 3) := by decide +kernel
theorem dX3_serve_16 : decode cX3_serve 16 = .ok (.invokevirtual 71, 3) := by decide +kernel
theorem dX3_serve_19 : decode cX3_serve 19 = .ok (.invokevirtual 48, 3) := by decide +kernel
theorem dX3_serve_22 : decode cX3_serve 22 = .ok (.ireturn, 1) := by decide +kernel
set_option maxRecDepth 20000 in
theorem ggX3_undo_X0_takeLatest : GoodIn wsX3_undo wsX0_takeLatest := goodIn_r _ [8, 9, 10, 44, 45] (by decide +kernel) (by decide +kernel)
set_option maxRecDepth 20000 in
theorem gX3_undo_X0_takeLatest : GoodIn wsX3_undo (wsV RX3 117 RX0 yX0_takeLatest wsX0_takeLatest) := goodIn_app (goodIn_of _ (by decide +kernel)) ggX3_undo_X0_takeLatest
set_option maxRecDepth 20000 in
theorem ggX3_undo_X1_copyFrom : GoodIn wsX3_undo wsX1_copyFrom := goodIn_r _ [15, 16, 17, 18, 19, 20, 21, 22, 23, 24, 25, 26, 27, 28, 29, 30, 31, 32, 33, 34, 35, 36, 46, 47, 48, 49, 50, 51, 52, 53, 54, 55, 56, 57, 58, 59, 60, 61, 62] (by decide +kernel) (by decide +kernel)
set_option maxRecDepth 20000 in
theorem gX3_undo_X1_copyFrom : GoodIn wsX3_undo (wsV RX3 111 RX1 yX1_copyFrom wsX1_copyFrom) := goodIn_app (goodIn_of _ (by decide +kernel)) ggX3_undo_X1_copyFrom
theorem dX3_undo_0 : decode cX3_undo 0 = .ok (.aload_n 0, 1) := by decide +kernel
theorem dX3_undo_1 : decode cX3_undo 1 = .ok (.getfield 22, 3) := by decide +kernel
theorem dX3_undo_4 : decode cX3_undo 4 = .ok (.getfield 114, 3) := by decide +kernel
theorem dX3_undo_7 : decode cX3_undo 7 = .ok (.ifCond .ne 6, 3) := by decide +kernel
theorem dX3_undo_10 : decode cX3_undo 10 = .ok (.bipush (-5), 2) := by decide +kernel
theorem dX3_undo_12 : decode cX3_undo 12 = .ok (.ireturn, 1) := by decide +kernel
theorem dX3_undo_13 : decode cX3_undo 13 = .ok (.aload_n 0, 1) := by decide +kernel
theorem dX3_undo_14 : decode cX3_undo 14 = .ok (.getfield 10, 3) := by decide +kernel
theorem dX3_undo_17 : decode cX3_undo 17 = .ok (.aload_n 0, 1) := by decide +kernel
theorem dX3_undo_18 : decode cX3_undo 18 = .ok (.getfield 22, 3) := by decide +kernel
theorem dX3_undo_21 : decode cX3_undo 21 = .ok (.invokevirtual 117, 3) := by decide +kernel
theorem dX3_undo_24 : decode cX3_undo 24 = .ok (.invokevirtual 111, 3) := by decide +kernel
theorem dX3_undo_27 : decode cX3_undo 27 = .ok (.aload_n 0, 1) := by decide +kernel
theorem dX3_undo_28 : decode cX3_undo 28 = .ok (.getfield 22, 3) := by decide +kernel
theorem dX3_undo_31 : decode cX3_undo 31 = .ok (.getfield 114, 3) := by decide +kernel
theorem dX3_undo_34 : decode cX3_undo 34 = .ok (.ireturn, 1) := by decide +kernel
set_option maxRecDepth 20000 in
theorem ggX3_restore_X0_draft : GoodIn wsX3_restore wsX0_draft := goodIn_r _ [10, 11, 12, 13, 9, 14, 15, 16, 17, 18, 19, 20, 21, 22, 23, 24, 25, 26, 27, 28, 29, 30, 31, 32, 33, 34, 35, 36, 37, 38, 39, 40, 41, 42, 77, 78, 60, 61, 62, 63, 64, 65, 66, 67, 68, 69, 70, 71, 72, 73, 74, 75, 76] (by decide +kernel) (by decide +kernel)
set_option maxRecDepth 20000 in
theorem gX3_restore_X0_draft : GoodIn wsX3_restore (wsV RX3 40 RX0 yX0_draft wsX0_draft) := goodIn_app (goodIn_of _ (by decide +kernel)) ggX3_restore_X0_draft
set_option maxRecDepth 20000 in
theorem ggX3_restore_X1_copyFrom : GoodIn wsX3_restore wsX1_copyFrom := goodIn_r _ [21, 22, 23, 24, 25, 26, 27, 28, 29, 30, 31, 32, 33, 34, 35, 36, 37, 38, 39, 40, 41, 42, 60, 61, 62, 63, 64, 65, 66, 67, 68, 69, 70, 71, 72, 73, 74, 75, 76] (by decide +kernel) (by decide +kernel)
set_option maxRecDepth 20000 in
theorem gX3_restore_X1_copyFrom : GoodIn wsX3_restore (wsV RX3 111 RX1 yX1_copyFrom wsX1_copyFrom) := goodIn_app (goodIn_of _ (by decide +kernel)) ggX3_restore_X1_copyFrom
set_option maxRecDepth 20000 in
theorem ggX3_restore_X3_recorded : GoodIn wsX3_restore wsX3_recorded := goodIn_r _ [48, 2, 49, 50, 51, 9, 52, 16, 15, 53, 54, 55, 56, 57, 58, 59, 77, 78] (by decide +kernel) (by decide +kernel)
set_option maxRecDepth 20000 in
theorem gX3_restore_X3_recorded : GoodIn wsX3_restore (wsV RX3 48 RX3 yX3_recorded wsX3_recorded) := goodIn_app (goodIn_of _ (by decide +kernel)) ggX3_restore_X3_recorded
theorem dX3_restore_0 : decode cX3_restore 0 = .ok (.aload_n 0, 1) := by decide +kernel
theorem dX3_restore_1 : decode cX3_restore 1 = .ok (.getfield 120, 3) := by decide +kernel
theorem dX3_restore_4 : decode cX3_restore 4 = .ok (.ifCond .ne 6, 3) := by decide +kernel
theorem dX3_restore_7 : decode cX3_restore 7 = .ok (.bipush (-5), 2) := by decide +kernel
theorem dX3_restore_9 : decode cX3_restore 9 = .ok (.ireturn, 1) := by decide +kernel
theorem dX3_restore_10 : decode cX3_restore 10 = .ok (.aload_n 0, 1) := by decide +kernel
theorem dX3_restore_11 : decode cX3_restore 11 = .ok (.getfield 22, 3) := by decide +kernel
theorem dX3_restore_14 : decode cX3_restore 14 = .ok (.aload_n 0, 1) := by decide +kernel
theorem dX3_restore_15 : decode cX3_restore 15 = .ok (.getfield 10, 3) := by decide +kernel
theorem dX3_restore_18 : decode cX3_restore 18 = .ok (.invokevirtual 40, 3) := by decide +kernel
theorem dX3_restore_21 : decode cX3_restore 21 = .ok (.aload_n 0, 1) := by decide +kernel
theorem dX3_restore_22 : decode cX3_restore 22 = .ok (.getfield 10, 3) := by decide +kernel
theorem dX3_restore_25 : decode cX3_restore 25 = .ok (.aload_n 0, 1) := by decide +kernel
theorem dX3_restore_26 : decode cX3_restore 26 = .ok (.getfield 16, 3) := by decide +kernel
theorem dX3_restore_29 : decode cX3_restore 29 = .ok (.invokevirtual 111, 3) := by decide +kernel
theorem dX3_restore_32 : decode cX3_restore 32 = .ok (.aload_n 0, 1) := by decide +kernel
theorem dX3_restore_33 : decode cX3_restore 33 = .ok (.aload_n 0, 1) := by decide +kernel
theorem dX3_restore_34 : decode cX3_restore 34 = .ok (.getfield 10, 3) := by decide +kernel
theorem dX3_restore_37 : decode cX3_restore 37 = .ok (.getfield 124, 3) := by decide +kernel
theorem dX3_restore_40 : decode cX3_restore 40 = .ok (.invokevirtual 48, 3) := by decide +kernel
theorem dX3_restore_43 : decode cX3_restore 43 = .ok (.ireturn, 1) := by decide +kernel
set_option maxRecDepth 20000 in
theorem ggX3_person_X1_isPlace : GoodIn wsX3_person wsX1_isPlace := goodIn_r _ [12, 13, 46, 47, 48, 49, 50, 51, 52, 53, 54, 55, 56, 57, 58, 59, 60, 61, 62] (by decide +kernel) (by decide +kernel)
set_option maxRecDepth 20000 in
theorem gX3_person_X1_isPlace : GoodIn wsX3_person (wsV RX3 127 RX1 yX1_isPlace wsX1_isPlace) := goodIn_app (goodIn_of _ (by decide +kernel)) ggX3_person_X1_isPlace
set_option maxRecDepth 20000 in
theorem ggX3_person_X1_leastReached : GoodIn wsX3_person wsX1_leastReached := goodIn_r _ [17, 18, 19, 20, 21, 22, 46, 47, 48, 49, 50, 51, 52, 53, 54, 55, 56, 57, 58, 59, 60, 61, 62] (by decide +kernel) (by decide +kernel)
set_option maxRecDepth 20000 in
theorem gX3_person_X1_leastReached : GoodIn wsX3_person (wsV RX3 145 RX1 yX1_leastReached wsX1_leastReached) := goodIn_app (goodIn_of _ (by decide +kernel)) ggX3_person_X1_leastReached
set_option maxRecDepth 20000 in
theorem ggX3_person_X1_greatestReached : GoodIn wsX3_person wsX1_greatestReached := goodIn_r _ [26, 13, 18, 27, 28, 21, 29, 46, 47, 48, 49, 50, 51, 52, 53, 54, 55, 56, 57, 58, 59, 60, 61, 62] (by decide +kernel) (by decide +kernel)
set_option maxRecDepth 20000 in
theorem gX3_person_X1_greatestReached : GoodIn wsX3_person (wsV RX3 148 RX1 yX1_greatestReached wsX1_greatestReached) := goodIn_app (goodIn_of _ (by decide +kernel)) ggX3_person_X1_greatestReached
set_option maxRecDepth 20000 in
theorem ggX3_person_X1_umbrellasOver : GoodIn wsX3_person wsX1_umbrellasOver := goodIn_r _ [33, 13, 18, 34, 15, 16, 11, 17, 19, 20, 21, 22, 35, 24, 25, 26, 27, 28, 29, 36, 37, 38, 46, 47, 48, 49, 50, 51, 52, 53, 54, 55, 56, 57, 58, 59, 60, 61, 62] (by decide +kernel) (by decide +kernel)
set_option maxRecDepth 20000 in
theorem gX3_person_X1_umbrellasOver : GoodIn wsX3_person (wsV RX3 151 RX1 yX1_umbrellasOver wsX1_umbrellasOver) := goodIn_app (goodIn_of _ (by decide +kernel)) ggX3_person_X1_umbrellasOver
theorem dX3_person_0 : decode cX3_person 0 = .ok (.aload_n 0, 1) := by decide +kernel
theorem dX3_person_1 : decode cX3_person 1 = .ok (.getfield 10, 3) := by decide +kernel
theorem dX3_person_4 : decode cX3_person 4 = .ok (.iload_n 1, 1) := by decide +kernel
theorem dX3_person_5 : decode cX3_person 5 = .ok (.invokevirtual 127, 3) := by decide +kernel
theorem dX3_person_8 : decode cX3_person 8 = .ok (.ifCond .ne 5, 3) := by decide +kernel
theorem dX3_person_11 : decode cX3_person 11 = .ok (.iconst (-1), 1) := by decide +kernel
theorem dX3_person_12 : decode cX3_person 12 = .ok (.ireturn, 1) := by decide +kernel
theorem dX3_person_13 : decode cX3_person 13 = .ok (.iload_n 2, 1) := by decide +kernel
theorem dX3_person_14 : decode cX3_person 14 = .ok (.tableswitch 171 0 8 #[50, 60, 70, 80, 90, 100, 126, 152, 161], 50) := by decide +kernel
theorem dX3_person_64 : decode cX3_person 64 = .ok (.aload_n 0, 1) := by decide +kernel
theorem dX3_person_65 : decode cX3_person 65 = .ok (.getfield 10, 3) := by decide +kernel
theorem dX3_person_68 : decode cX3_person 68 = .ok (.getfield 130, 3) := by decide +kernel
theorem dX3_person_71 : decode cX3_person 71 = .ok (.iload_n 1, 1) := by decide +kernel
theorem dX3_person_72 : decode cX3_person 72 = .ok (.iaload, 1) := by decide +kernel
theorem dX3_person_73 : decode cX3_person 73 = .ok (.ireturn, 1) := by decide +kernel
theorem dX3_person_74 : decode cX3_person 74 = .ok (.aload_n 0, 1) := by decide +kernel
theorem dX3_person_75 : decode cX3_person 75 = .ok (.getfield 10, 3) := by decide +kernel
theorem dX3_person_78 : decode cX3_person 78 = .ok (.getfield 133, 3) := by decide +kernel
theorem dX3_person_81 : decode cX3_person 81 = .ok (.iload_n 1, 1) := by decide +kernel
theorem dX3_person_82 : decode cX3_person 82 = .ok (.iaload, 1) := by decide +kernel
theorem dX3_person_83 : decode cX3_person 83 = .ok (.ireturn, 1) := by decide +kernel
theorem dX3_person_84 : decode cX3_person 84 = .ok (.aload_n 0, 1) := by decide +kernel
theorem dX3_person_85 : decode cX3_person 85 = .ok (.getfield 10, 3) := by decide +kernel
theorem dX3_person_88 : decode cX3_person 88 = .ok (.getfield 136, 3) := by decide +kernel
theorem dX3_person_91 : decode cX3_person 91 = .ok (.iload_n 1, 1) := by decide +kernel
theorem dX3_person_92 : decode cX3_person 92 = .ok (.iaload, 1) := by decide +kernel
theorem dX3_person_93 : decode cX3_person 93 = .ok (.ireturn, 1) := by decide +kernel
theorem dX3_person_94 : decode cX3_person 94 = .ok (.aload_n 0, 1) := by decide +kernel
theorem dX3_person_95 : decode cX3_person 95 = .ok (.getfield 10, 3) := by decide +kernel
theorem dX3_person_98 : decode cX3_person 98 = .ok (.getfield 139, 3) := by decide +kernel
theorem dX3_person_101 : decode cX3_person 101 = .ok (.iload_n 1, 1) := by decide +kernel
theorem dX3_person_102 : decode cX3_person 102 = .ok (.iaload, 1) := by decide +kernel
theorem dX3_person_103 : decode cX3_person 103 = .ok (.ireturn, 1) := by decide +kernel
theorem dX3_person_104 : decode cX3_person 104 = .ok (.aload_n 0, 1) := by decide +kernel
theorem dX3_person_105 : decode cX3_person 105 = .ok (.getfield 10, 3) := by decide +kernel
theorem dX3_person_108 : decode cX3_person 108 = .ok (.getfield 142, 3) := by decide +kernel
theorem dX3_person_111 : decode cX3_person 111 = .ok (.iload_n 1, 1) := by decide +kernel
theorem dX3_person_112 : decode cX3_person 112 = .ok (.iaload, 1) := by decide +kernel
theorem dX3_person_113 : decode cX3_person 113 = .ok (.ireturn, 1) := by decide +kernel
theorem dX3_person_114 : decode cX3_person 114 = .ok (.aload_n 0, 1) := by decide +kernel
theorem dX3_person_115 : decode cX3_person 115 = .ok (.getfield 10, 3) := by decide +kernel
theorem dX3_person_118 : decode cX3_person 118 = .ok (.getfield 142, 3) := by decide +kernel
theorem dX3_person_121 : decode cX3_person 121 = .ok (.iload_n 1, 1) := by decide +kernel
theorem dX3_person_122 : decode cX3_person 122 = .ok (.iaload, 1) := by decide +kernel
theorem dX3_person_123 : decode cX3_person 123 = .ok (.ifCond .ne 8, 3) := by decide +kernel
theorem dX3_person_126 : decode cX3_person 126 = .ok (.bipush (-5), 2) := by decide +kernel
theorem dX3_person_128 : decode cX3_person 128 = .ok (.goto 11, 3) := by decide +kernel
theorem dX3_person_131 : decode cX3_person 131 = .ok (.aload_n 0, 1) := by decide +kernel
theorem dX3_person_132 : decode cX3_person 132 = .ok (.getfield 10, 3) := by decide +kernel
theorem dX3_person_135 : decode cX3_person 135 = .ok (.iload_n 1, 1) := by decide +kernel
theorem dX3_person_136 : decode cX3_person 136 = .ok (.invokevirtual 145, 3) := by decide +kernel
theorem dX3_person_139 : decode cX3_person 139 = .ok (.ireturn, 1) := by decide +kernel
theorem dX3_person_140 : decode cX3_person 140 = .ok (.aload_n 0, 1) := by decide +kernel
theorem dX3_person_141 : decode cX3_person 141 = .ok (.getfield 10, 3) := by decide +kernel
theorem dX3_person_144 : decode cX3_person 144 = .ok (.getfield 142, 3) := by decide +kernel
theorem dX3_person_147 : decode cX3_person 147 = .ok (.iload_n 1, 1) := by decide +kernel
theorem dX3_person_148 : decode cX3_person 148 = .ok (.iaload, 1) := by decide +kernel
theorem dX3_person_149 : decode cX3_person 149 = .ok (.ifCond .ne 8, 3) := by decide +kernel
theorem dX3_person_152 : decode cX3_person 152 = .ok (.bipush (-5), 2) := by decide +kernel
theorem dX3_person_154 : decode cX3_person 154 = .ok (.goto 11, 3) := by decide +kernel
theorem dX3_person_157 : decode cX3_person 157 = .ok (.aload_n 0, 1) := by decide +kernel
theorem dX3_person_158 : decode cX3_person 158 = .ok (.getfield 10, 3) := by decide +kernel
theorem dX3_person_161 : decode cX3_person 161 = .ok (.iload_n 1, 1) := by decide +kernel
theorem dX3_person_162 : decode cX3_person 162 = .ok (.invokevirtual 148, 3) := by decide +kernel
theorem dX3_person_165 : decode cX3_person 165 = .ok (.ireturn, 1) := by decide +kernel
theorem dX3_person_166 : decode cX3_person 166 = .ok (.aload_n 0, 1) := by decide +kernel
theorem dX3_person_167 : decode cX3_person 167 = .ok (.getfield 10, 3) := by decide +kernel
theorem dX3_person_170 : decode cX3_person 170 = .ok (.iload_n 1, 1) := by decide +kernel
theorem dX3_person_171 : decode cX3_person 171 = .ok (.invokevirtual 151, 3) := by decide +kernel
theorem dX3_person_174 : decode cX3_person 174 = .ok (.ireturn, 1) := by decide +kernel
theorem dX3_person_175 : decode cX3_person 175 = .ok (.aload_n 0, 1) := by decide +kernel
theorem dX3_person_176 : decode cX3_person 176 = .ok (.getfield 10, 3) := by decide +kernel
theorem dX3_person_179 : decode cX3_person 179 = .ok (.getfield 154, 3) := by decide +kernel
theorem dX3_person_182 : decode cX3_person 182 = .ok (.iload_n 1, 1) := by decide +kernel
theorem dX3_person_183 : decode cX3_person 183 = .ok (.iaload, 1) := by decide +kernel
theorem dX3_person_184 : decode cX3_person 184 = .ok (.ireturn, 1) := by decide +kernel
theorem dX3_person_185 : decode cX3_person 185 = .ok (.bipush (-2), 2) := by decide +kernel
theorem dX3_person_187 : decode cX3_person 187 = .ok (.ireturn, 1) := by decide +kernel
set_option maxRecDepth 20000 in
theorem ggX3_placeOf_X3_isWithin : GoodIn wsX3_placeOf wsX3_isWithin := goodIn_r _ [7] (by decide +kernel) (by decide +kernel)
set_option maxRecDepth 20000 in
theorem gX3_placeOf_X3_isWithin : GoodIn wsX3_placeOf (va_wsS RX3 157 yX3_isWithin wsX3_isWithin) := goodIn_app (goodIn_of _ (by decide +kernel)) ggX3_placeOf_X3_isWithin
theorem dX3_placeOf_0 : decode cX3_placeOf 0 = .ok (.iload_n 1, 1) := by decide +kernel
theorem dX3_placeOf_1 : decode cX3_placeOf 1 = .ok (.iconst 0, 1) := by decide +kernel
theorem dX3_placeOf_2 : decode cX3_placeOf 2 = .ok (.sipush 199, 3) := by decide +kernel
theorem dX3_placeOf_5 : decode cX3_placeOf 5 = .ok (.invokestatic 157, 3) := by decide +kernel
theorem dX3_placeOf_8 : decode cX3_placeOf 8 = .ok (.ifCond .ne 6, 3) := by decide +kernel
theorem dX3_placeOf_11 : decode cX3_placeOf 11 = .ok (.bipush (-2), 2) := by decide +kernel
theorem dX3_placeOf_13 : decode cX3_placeOf 13 = .ok (.ireturn, 1) := by decide +kernel
theorem dX3_placeOf_14 : decode cX3_placeOf 14 = .ok (.iconst 0, 1) := by decide +kernel
theorem dX3_placeOf_15 : decode cX3_placeOf 15 = .ok (.istore_n 2, 1) := by decide +kernel
theorem dX3_placeOf_16 : decode cX3_placeOf 16 = .ok (.iload_n 2, 1) := by decide +kernel
theorem dX3_placeOf_17 : decode cX3_placeOf 17 = .ok (.aload_n 0, 1) := by decide +kernel
theorem dX3_placeOf_18 : decode cX3_placeOf 18 = .ok (.getfield 10, 3) := by decide +kernel
theorem dX3_placeOf_21 : decode cX3_placeOf 21 = .ok (.getfield 124, 3) := by decide +kernel
theorem dX3_placeOf_24 : decode cX3_placeOf 24 = .ok (.if_icmp .ge 24, 3) := by decide +kernel
theorem dX3_placeOf_27 : decode cX3_placeOf 27 = .ok (.aload_n 0, 1) := by decide +kernel
theorem dX3_placeOf_28 : decode cX3_placeOf 28 = .ok (.getfield 10, 3) := by decide +kernel
theorem dX3_placeOf_31 : decode cX3_placeOf 31 = .ok (.getfield 130, 3) := by decide +kernel
theorem dX3_placeOf_34 : decode cX3_placeOf 34 = .ok (.iload_n 2, 1) := by decide +kernel
theorem dX3_placeOf_35 : decode cX3_placeOf 35 = .ok (.iaload, 1) := by decide +kernel
theorem dX3_placeOf_36 : decode cX3_placeOf 36 = .ok (.iload_n 1, 1) := by decide +kernel
theorem dX3_placeOf_37 : decode cX3_placeOf 37 = .ok (.if_icmp .ne 5, 3) := by decide +kernel
theorem dX3_placeOf_40 : decode cX3_placeOf 40 = .ok (.iload_n 2, 1) := by decide +kernel
theorem dX3_placeOf_41 : decode cX3_placeOf 41 = .ok (.ireturn, 1) := by decide +kernel
theorem dX3_placeOf_42 : decode cX3_placeOf 42 = .ok (.iinc 2 1, 3) := by decide +kernel
theorem dX3_placeOf_45 : decode cX3_placeOf 45 = .ok (.goto (-29), 3) := by decide +kernel
theorem dX3_placeOf_48 : decode cX3_placeOf 48 = .ok (.bipush (-5), 2) := by decide +kernel
theorem dX3_placeOf_50 : decode cX3_placeOf 50 = .ok (.ireturn, 1) := by decide +kernel
set_option maxRecDepth 20000 in
theorem ggX3_ifGust_X1_isPlace : GoodIn wsX3_ifGust wsX1_isPlace := goodIn_r _ [7, 8, 58, 59, 60, 61, 62, 63, 64, 65, 66, 67, 68, 69, 70, 71, 72, 73, 74] (by decide +kernel) (by decide +kernel)
set_option maxRecDepth 20000 in
theorem gX3_ifGust_X1_isPlace : GoodIn wsX3_ifGust (wsV RX3 127 RX1 yX1_isPlace wsX1_isPlace) := goodIn_app (goodIn_of _ (by decide +kernel)) ggX3_ifGust_X1_isPlace
set_option maxRecDepth 20000 in
theorem ggX3_ifGust_X3_isGust : GoodIn wsX3_ifGust wsX3_isGust := goodIn_r _ [12, 13, 14, 11, 15] (by decide +kernel) (by decide +kernel)
set_option maxRecDepth 20000 in
theorem gX3_ifGust_X3_isGust : GoodIn wsX3_ifGust (va_wsS RX3 161 yX3_isGust wsX3_isGust) := goodIn_app (goodIn_of _ (by decide +kernel)) ggX3_ifGust_X3_isGust
set_option maxRecDepth 20000 in
theorem ggX3_ifGust_X1_isCovered : GoodIn wsX3_ifGust wsX1_isCovered := goodIn_r _ [19, 8, 20, 21, 22, 23, 6, 24, 25, 26, 27, 28, 29, 30, 31, 32, 33, 34, 35, 58, 59, 60, 61, 62, 63, 64, 65, 66, 67, 68, 69, 70, 71, 72, 73, 74] (by decide +kernel) (by decide +kernel)
set_option maxRecDepth 20000 in
theorem gX3_ifGust_X1_isCovered : GoodIn wsX3_ifGust (wsV RX3 165 RX1 yX1_isCovered wsX1_isCovered) := goodIn_app (goodIn_of _ (by decide +kernel)) ggX3_ifGust_X1_isCovered
set_option maxRecDepth 20000 in
theorem ggX3_ifGust_X1_umbrellasRunningOnto : GoodIn wsX3_ifGust wsX1_umbrellasRunningOnto := goodIn_r _ [39, 8, 20, 21, 22, 23, 6, 24, 25, 26, 27, 28, 29, 30, 31, 32, 33, 34, 35, 58, 59, 60, 61, 62, 63, 64, 65, 66, 67, 68, 69, 70, 71, 72, 73, 74] (by decide +kernel) (by decide +kernel)
set_option maxRecDepth 20000 in
theorem gX3_ifGust_X1_umbrellasRunningOnto : GoodIn wsX3_ifGust (wsV RX3 168 RX1 yX1_umbrellasRunningOnto wsX1_umbrellasRunningOnto) := goodIn_app (goodIn_of _ (by decide +kernel)) ggX3_ifGust_X1_umbrellasRunningOnto
set_option maxRecDepth 20000 in
theorem ggX3_ifGust_X1_wetnessAfter : GoodIn wsX3_ifGust wsX1_wetnessAfter := goodIn_r _ [43, 44, 33, 34, 27, 35, 45, 46, 47, 6, 48, 49, 37, 38, 39, 8, 20, 21, 22, 23, 24, 25, 26, 28, 29, 30, 31, 32, 50, 17, 18, 19, 58, 59, 60, 61, 62, 63, 64, 65, 66, 67, 68, 69, 70, 71, 72, 73, 74] (by decide +kernel) (by decide +kernel)
set_option maxRecDepth 20000 in
theorem gX3_ifGust_X1_wetnessAfter : GoodIn wsX3_ifGust (wsV RX3 171 RX1 yX1_wetnessAfter wsX1_wetnessAfter) := goodIn_app (goodIn_of _ (by decide +kernel)) ggX3_ifGust_X1_wetnessAfter
theorem dX3_ifGust_0 : decode cX3_ifGust 0 = .ok (.aload_n 0, 1) := by decide +kernel
theorem dX3_ifGust_1 : decode cX3_ifGust 1 = .ok (.getfield 10, 3) := by decide +kernel
theorem dX3_ifGust_4 : decode cX3_ifGust 4 = .ok (.iload_n 1, 1) := by decide +kernel
theorem dX3_ifGust_5 : decode cX3_ifGust 5 = .ok (.invokevirtual 127, 3) := by decide +kernel
theorem dX3_ifGust_8 : decode cX3_ifGust 8 = .ok (.ifCond .ne 5, 3) := by decide +kernel
theorem dX3_ifGust_11 : decode cX3_ifGust 11 = .ok (.iconst (-1), 1) := by decide +kernel
theorem dX3_ifGust_12 : decode cX3_ifGust 12 = .ok (.ireturn, 1) := by decide +kernel
theorem dX3_ifGust_13 : decode cX3_ifGust 13 = .ok (.iload_n 2, 1) := by decide +kernel
theorem dX3_ifGust_14 : decode cX3_ifGust 14 = .ok (.iload_n 3, 1) := by decide +kernel
theorem dX3_ifGust_15 : decode cX3_ifGust 15 = .ok (.invokestatic 161, 3) := by decide +kernel
theorem dX3_ifGust_18 : decode cX3_ifGust 18 = .ok (.ifCond .ne 6, 3) := by decide +kernel
theorem dX3_ifGust_21 : decode cX3_ifGust 21 = .ok (.bipush (-2), 2) := by decide +kernel
theorem dX3_ifGust_23 : decode cX3_ifGust 23 = .ok (.ireturn, 1) := by decide +kernel
theorem dX3_ifGust_24 : decode cX3_ifGust 24 = .ok (.iload 4, 2) := by decide +kernel
theorem dX3_ifGust_26 : decode cX3_ifGust 26 = .ok (.tableswitch 96 0 3 #[30, 48, 57, 68], 30) := by decide +kernel
theorem dX3_ifGust_56 : decode cX3_ifGust 56 = .ok (.aload_n 0, 1) := by decide +kernel
theorem dX3_ifGust_57 : decode cX3_ifGust 57 = .ok (.getfield 10, 3) := by decide +kernel
theorem dX3_ifGust_60 : decode cX3_ifGust 60 = .ok (.iload_n 1, 1) := by decide +kernel
theorem dX3_ifGust_61 : decode cX3_ifGust 61 = .ok (.iload_n 3, 1) := by decide +kernel
theorem dX3_ifGust_62 : decode cX3_ifGust 62 = .ok (.invokevirtual 165, 3) := by decide +kernel
theorem dX3_ifGust_65 : decode cX3_ifGust 65 = .ok (.ifCond .eq 7, 3) := by decide +kernel
theorem dX3_ifGust_68 : decode cX3_ifGust 68 = .ok (.iconst 1, 1) := by decide +kernel
theorem dX3_ifGust_69 : decode cX3_ifGust 69 = .ok (.goto 4, 3) := by decide +kernel
theorem dX3_ifGust_72 : decode cX3_ifGust 72 = .ok (.iconst 0, 1) := by decide +kernel
theorem dX3_ifGust_73 : decode cX3_ifGust 73 = .ok (.ireturn, 1) := by decide +kernel
theorem dX3_ifGust_74 : decode cX3_ifGust 74 = .ok (.aload_n 0, 1) := by decide +kernel
theorem dX3_ifGust_75 : decode cX3_ifGust 75 = .ok (.getfield 10, 3) := by decide +kernel
theorem dX3_ifGust_78 : decode cX3_ifGust 78 = .ok (.iload_n 1, 1) := by decide +kernel
theorem dX3_ifGust_79 : decode cX3_ifGust 79 = .ok (.invokevirtual 168, 3) := by decide +kernel
theorem dX3_ifGust_82 : decode cX3_ifGust 82 = .ok (.ireturn, 1) := by decide +kernel
theorem dX3_ifGust_83 : decode cX3_ifGust 83 = .ok (.aload_n 0, 1) := by decide +kernel
theorem dX3_ifGust_84 : decode cX3_ifGust 84 = .ok (.getfield 10, 3) := by decide +kernel
theorem dX3_ifGust_87 : decode cX3_ifGust 87 = .ok (.iload_n 1, 1) := by decide +kernel
theorem dX3_ifGust_88 : decode cX3_ifGust 88 = .ok (.iload_n 2, 1) := by decide +kernel
theorem dX3_ifGust_89 : decode cX3_ifGust 89 = .ok (.iload_n 3, 1) := by decide +kernel
theorem dX3_ifGust_90 : decode cX3_ifGust 90 = .ok (.invokevirtual 171, 3) := by decide +kernel
theorem dX3_ifGust_93 : decode cX3_ifGust 93 = .ok (.ireturn, 1) := by decide +kernel
theorem dX3_ifGust_94 : decode cX3_ifGust 94 = .ok (.aload_n 0, 1) := by decide +kernel
theorem dX3_ifGust_95 : decode cX3_ifGust 95 = .ok (.getfield 10, 3) := by decide +kernel
theorem dX3_ifGust_98 : decode cX3_ifGust 98 = .ok (.iload_n 1, 1) := by decide +kernel
theorem dX3_ifGust_99 : decode cX3_ifGust 99 = .ok (.iload_n 2, 1) := by decide +kernel
theorem dX3_ifGust_100 : decode cX3_ifGust 100 = .ok (.iload_n 3, 1) := by decide +kernel
theorem dX3_ifGust_101 : decode cX3_ifGust 101 = .ok (.invokevirtual 171, 3) := by decide +kernel
theorem dX3_ifGust_104 : decode cX3_ifGust 104 = .ok (.aload_n 0, 1) := by decide +kernel
theorem dX3_ifGust_105 : decode cX3_ifGust 105 = .ok (.getfield 10, 3) := by decide +kernel
theorem dX3_ifGust_108 : decode cX3_ifGust 108 = .ok (.getfield 136, 3) := by decide +kernel
theorem dX3_ifGust_111 : decode cX3_ifGust 111 = .ok (.iload_n 1, 1) := by decide +kernel
theorem dX3_ifGust_112 : decode cX3_ifGust 112 = .ok (.iaload, 1) := by decide +kernel
theorem dX3_ifGust_113 : decode cX3_ifGust 113 = .ok (.if_icmp .le 7, 3) := by decide +kernel
theorem dX3_ifGust_116 : decode cX3_ifGust 116 = .ok (.iconst 1, 1) := by decide +kernel
theorem dX3_ifGust_117 : decode cX3_ifGust 117 = .ok (.goto 4, 3) := by decide +kernel
theorem dX3_ifGust_120 : decode cX3_ifGust 120 = .ok (.iconst 0, 1) := by decide +kernel
theorem dX3_ifGust_121 : decode cX3_ifGust 121 = .ok (.ireturn, 1) := by decide +kernel
theorem dX3_ifGust_122 : decode cX3_ifGust 122 = .ok (.bipush (-2), 2) := by decide +kernel
theorem dX3_ifGust_124 : decode cX3_ifGust 124 = .ok (.ireturn, 1) := by decide +kernel
set_option maxRecDepth 20000 in
theorem ggX3_reason_X1_hasNeighbour : GoodIn wsX3_reason wsX1_hasNeighbour := goodIn_r _ [6, 7, 21, 22, 23, 24, 25, 26, 27, 28, 29, 30, 31, 32, 33, 34, 35, 36, 37] (by decide +kernel) (by decide +kernel)
set_option maxRecDepth 20000 in
theorem gX3_reason_X1_hasNeighbour : GoodIn wsX3_reason (wsV RX3 174 RX1 yX1_hasNeighbour wsX1_hasNeighbour) := goodIn_app (goodIn_of _ (by decide +kernel)) ggX3_reason_X1_hasNeighbour
set_option maxRecDepth 20000 in
theorem ggX3_reason_X1_refusal : GoodIn wsX3_reason wsX1_refusal := goodIn_r _ [11, 12, 13, 21, 22, 23, 24, 25, 26, 27, 28, 29, 30, 31, 32, 33, 34, 35, 36, 37] (by decide +kernel) (by decide +kernel)
set_option maxRecDepth 20000 in
theorem gX3_reason_X1_refusal : GoodIn wsX3_reason (wsV RX3 177 RX1 yX1_refusal wsX1_refusal) := goodIn_app (goodIn_of _ (by decide +kernel)) ggX3_reason_X1_refusal
theorem dX3_reason_0 : decode cX3_reason 0 = .ok (.aload_n 0, 1) := by decide +kernel
theorem dX3_reason_1 : decode cX3_reason 1 = .ok (.getfield 10, 3) := by decide +kernel
theorem dX3_reason_4 : decode cX3_reason 4 = .ok (.iload_n 1, 1) := by decide +kernel
theorem dX3_reason_5 : decode cX3_reason 5 = .ok (.invokevirtual 174, 3) := by decide +kernel
theorem dX3_reason_8 : decode cX3_reason 8 = .ok (.ifCond .eq 14, 3) := by decide +kernel
theorem dX3_reason_11 : decode cX3_reason 11 = .ok (.aload_n 0, 1) := by decide +kernel
theorem dX3_reason_12 : decode cX3_reason 12 = .ok (.getfield 10, 3) := by decide +kernel
theorem dX3_reason_15 : decode cX3_reason 15 = .ok (.iload_n 1, 1) := by decide +kernel
theorem dX3_reason_16 : decode cX3_reason 16 = .ok (.invokevirtual 177, 3) := by decide +kernel
theorem dX3_reason_19 : decode cX3_reason 19 = .ok (.goto 4, 3) := by decide +kernel
theorem dX3_reason_22 : decode cX3_reason 22 = .ok (.iconst (-1), 1) := by decide +kernel
theorem dX3_reason_23 : decode cX3_reason 23 = .ok (.ireturn, 1) := by decide +kernel
set_option maxRecDepth 20000 in
theorem ggX3_bestSwap_X3_isGust : GoodIn wsX3_bestSwap wsX3_isGust := goodIn_r _ [5, 6, 7, 4, 8] (by decide +kernel) (by decide +kernel)
set_option maxRecDepth 20000 in
theorem gX3_bestSwap_X3_isGust : GoodIn wsX3_bestSwap (va_wsS RX3 161 yX3_isGust wsX3_isGust) := goodIn_app (goodIn_of _ (by decide +kernel)) ggX3_bestSwap_X3_isGust
set_option maxRecDepth 20000 in
theorem ggX3_bestSwap_X1_driestSwap : GoodIn wsX3_bestSwap wsX1_driestSwap := goodIn_r _ [13, 14, 15, 16, 17, 18, 12, 19, 20, 21, 22, 23, 24, 25, 26, 27, 28, 29, 30, 31, 32, 33, 34, 35, 36, 37, 38, 39, 40, 41, 42, 43, 44, 45, 46, 47, 48, 49, 50, 51, 52, 53, 54, 55, 56, 57, 58, 66, 67, 68, 69, 70, 71, 72, 73, 74, 75, 76, 77, 78, 79, 80, 81, 82] (by decide +kernel) (by decide +kernel)
set_option maxRecDepth 20000 in
theorem gX3_bestSwap_X1_driestSwap : GoodIn wsX3_bestSwap (wsV RX3 180 RX1 yX1_driestSwap wsX1_driestSwap) := goodIn_app (goodIn_of _ (by decide +kernel)) ggX3_bestSwap_X1_driestSwap
theorem dX3_bestSwap_0 : decode cX3_bestSwap 0 = .ok (.iload_n 1, 1) := by decide +kernel
theorem dX3_bestSwap_1 : decode cX3_bestSwap 1 = .ok (.iload_n 2, 1) := by decide +kernel
theorem dX3_bestSwap_2 : decode cX3_bestSwap 2 = .ok (.invokestatic 161, 3) := by decide +kernel
theorem dX3_bestSwap_5 : decode cX3_bestSwap 5 = .ok (.ifCond .eq 15, 3) := by decide +kernel
theorem dX3_bestSwap_8 : decode cX3_bestSwap 8 = .ok (.aload_n 0, 1) := by decide +kernel
theorem dX3_bestSwap_9 : decode cX3_bestSwap 9 = .ok (.getfield 10, 3) := by decide +kernel
theorem dX3_bestSwap_12 : decode cX3_bestSwap 12 = .ok (.iload_n 1, 1) := by decide +kernel
theorem dX3_bestSwap_13 : decode cX3_bestSwap 13 = .ok (.iload_n 2, 1) := by decide +kernel
theorem dX3_bestSwap_14 : decode cX3_bestSwap 14 = .ok (.invokevirtual 180, 3) := by decide +kernel
theorem dX3_bestSwap_17 : decode cX3_bestSwap 17 = .ok (.goto 5, 3) := by decide +kernel
theorem dX3_bestSwap_20 : decode cX3_bestSwap 20 = .ok (.bipush (-2), 2) := by decide +kernel
theorem dX3_bestSwap_22 : decode cX3_bestSwap 22 = .ok (.ireturn, 1) := by decide +kernel
set_option maxRecDepth 20000 in
theorem ggX3_payer_X3_isWithin : GoodIn wsX3_payer wsX3_isWithin := goodIn_r _ [6] (by decide +kernel) (by decide +kernel)
set_option maxRecDepth 20000 in
theorem gX3_payer_X3_isWithin : GoodIn wsX3_payer (va_wsS RX3 157 yX3_isWithin wsX3_isWithin) := goodIn_app (goodIn_of _ (by decide +kernel)) ggX3_payer_X3_isWithin
set_option maxRecDepth 20000 in
theorem ggX3_payer_X1_driestToServe : GoodIn wsX3_payer wsX1_driestToServe := goodIn_r _ [11, 12, 13, 14, 15, 10, 16, 17, 18, 19, 20, 21, 22, 39, 40, 41, 42, 43, 44, 45, 46, 47, 48, 49, 50, 51, 52, 53, 54, 55] (by decide +kernel) (by decide +kernel)
set_option maxRecDepth 20000 in
theorem gX3_payer_X1_driestToServe : GoodIn wsX3_payer (wsV RX3 183 RX1 yX1_driestToServe wsX1_driestToServe) := goodIn_app (goodIn_of _ (by decide +kernel)) ggX3_payer_X1_driestToServe
set_option maxRecDepth 20000 in
theorem ggX3_payer_X1_paidFrom : GoodIn wsX3_payer wsX1_paidFrom := goodIn_r _ [26, 27, 19, 20, 21, 22, 28, 29, 30, 10, 31, 18, 13, 14, 15, 16, 17, 39, 40, 41, 42, 43, 44, 45, 46, 47, 48, 49, 50, 51, 52, 53, 54, 55] (by decide +kernel) (by decide +kernel)
set_option maxRecDepth 20000 in
theorem gX3_payer_X1_paidFrom : GoodIn wsX3_payer (wsV RX3 186 RX1 yX1_paidFrom wsX1_paidFrom) := goodIn_app (goodIn_of _ (by decide +kernel)) ggX3_payer_X1_paidFrom
theorem dX3_payer_0 : decode cX3_payer 0 = .ok (.iload_n 1, 1) := by decide +kernel
theorem dX3_payer_1 : decode cX3_payer 1 = .ok (.iconst 0, 1) := by decide +kernel
theorem dX3_payer_2 : decode cX3_payer 2 = .ok (.iconst 1, 1) := by decide +kernel
theorem dX3_payer_3 : decode cX3_payer 3 = .ok (.invokestatic 157, 3) := by decide +kernel
theorem dX3_payer_6 : decode cX3_payer 6 = .ok (.ifCond .ne 6, 3) := by decide +kernel
theorem dX3_payer_9 : decode cX3_payer 9 = .ok (.bipush (-2), 2) := by decide +kernel
theorem dX3_payer_11 : decode cX3_payer 11 = .ok (.ireturn, 1) := by decide +kernel
theorem dX3_payer_12 : decode cX3_payer 12 = .ok (.aload_n 0, 1) := by decide +kernel
theorem dX3_payer_13 : decode cX3_payer 13 = .ok (.getfield 10, 3) := by decide +kernel
theorem dX3_payer_16 : decode cX3_payer 16 = .ok (.getfield 124, 3) := by decide +kernel
theorem dX3_payer_19 : decode cX3_payer 19 = .ok (.ifCond .ne 6, 3) := by decide +kernel
theorem dX3_payer_22 : decode cX3_payer 22 = .ok (.bipush (-5), 2) := by decide +kernel
theorem dX3_payer_24 : decode cX3_payer 24 = .ok (.ireturn, 1) := by decide +kernel
theorem dX3_payer_25 : decode cX3_payer 25 = .ok (.aload_n 0, 1) := by decide +kernel
theorem dX3_payer_26 : decode cX3_payer 26 = .ok (.getfield 10, 3) := by decide +kernel
theorem dX3_payer_29 : decode cX3_payer 29 = .ok (.invokevirtual 183, 3) := by decide +kernel
theorem dX3_payer_32 : decode cX3_payer 32 = .ok (.istore_n 2, 1) := by decide +kernel
theorem dX3_payer_33 : decode cX3_payer 33 = .ok (.iload_n 1, 1) := by decide +kernel
theorem dX3_payer_34 : decode cX3_payer 34 = .ok (.ifCond .ne 7, 3) := by decide +kernel
theorem dX3_payer_37 : decode cX3_payer 37 = .ok (.iload_n 2, 1) := by decide +kernel
theorem dX3_payer_38 : decode cX3_payer 38 = .ok (.goto 11, 3) := by decide +kernel
theorem dX3_payer_41 : decode cX3_payer 41 = .ok (.aload_n 0, 1) := by decide +kernel
theorem dX3_payer_42 : decode cX3_payer 42 = .ok (.getfield 10, 3) := by decide +kernel
theorem dX3_payer_45 : decode cX3_payer 45 = .ok (.iload_n 2, 1) := by decide +kernel
theorem dX3_payer_46 : decode cX3_payer 46 = .ok (.invokevirtual 186, 3) := by decide +kernel
theorem dX3_payer_49 : decode cX3_payer 49 = .ok (.ireturn, 1) := by decide +kernel
set_option maxRecDepth 20000 in
theorem ggX3_bears_X1_isPlace : GoodIn wsX3_bears wsX1_isPlace := goodIn_r _ [6, 7, 53, 54, 55, 56, 57, 58, 59, 60, 61, 62, 63, 64, 65, 66, 67, 68, 69] (by decide +kernel) (by decide +kernel)
set_option maxRecDepth 20000 in
theorem gX3_bears_X1_isPlace : GoodIn wsX3_bears (wsV RX3 127 RX1 yX1_isPlace wsX1_isPlace) := goodIn_app (goodIn_of _ (by decide +kernel)) ggX3_bears_X1_isPlace
set_option maxRecDepth 20000 in
theorem ggX3_bears_X3_isWithin : GoodIn wsX3_bears wsX3_isWithin := goodIn_r _ [11] (by decide +kernel) (by decide +kernel)
set_option maxRecDepth 20000 in
theorem gX3_bears_X3_isWithin : GoodIn wsX3_bears (va_wsS RX3 157 yX3_isWithin wsX3_isWithin) := goodIn_app (goodIn_of _ (by decide +kernel)) ggX3_bears_X3_isWithin
set_option maxRecDepth 20000 in
theorem ggX3_bears_X1_gustsBorne : GoodIn wsX3_bears wsX1_gustsBorne := goodIn_r _ [15, 16, 17, 18, 19, 20, 5, 21, 22, 23, 24, 25, 7, 26, 27, 28, 29, 30, 31, 32, 33, 34, 35, 36, 37, 38, 39, 40, 41, 42, 43, 44, 45, 53, 54, 55, 56, 57, 58, 59, 60, 61, 62, 63, 64, 65, 66, 67, 68, 69] (by decide +kernel) (by decide +kernel)
set_option maxRecDepth 20000 in
theorem gX3_bears_X1_gustsBorne : GoodIn wsX3_bears (wsV RX3 189 RX1 yX1_gustsBorne wsX1_gustsBorne) := goodIn_app (goodIn_of _ (by decide +kernel)) ggX3_bears_X1_gustsBorne
theorem dX3_bears_0 : decode cX3_bears 0 = .ok (.aload_n 0, 1) := by decide +kernel
theorem dX3_bears_1 : decode cX3_bears 1 = .ok (.getfield 10, 3) := by decide +kernel
theorem dX3_bears_4 : decode cX3_bears 4 = .ok (.iload_n 1, 1) := by decide +kernel
theorem dX3_bears_5 : decode cX3_bears 5 = .ok (.invokevirtual 127, 3) := by decide +kernel
theorem dX3_bears_8 : decode cX3_bears 8 = .ok (.ifCond .ne 5, 3) := by decide +kernel
theorem dX3_bears_11 : decode cX3_bears 11 = .ok (.iconst (-1), 1) := by decide +kernel
theorem dX3_bears_12 : decode cX3_bears 12 = .ok (.ireturn, 1) := by decide +kernel
theorem dX3_bears_13 : decode cX3_bears 13 = .ok (.iload_n 2, 1) := by decide +kernel
theorem dX3_bears_14 : decode cX3_bears 14 = .ok (.iconst 1, 1) := by decide +kernel
theorem dX3_bears_15 : decode cX3_bears 15 = .ok (.bipush 99, 2) := by decide +kernel
theorem dX3_bears_17 : decode cX3_bears 17 = .ok (.invokestatic 157, 3) := by decide +kernel
theorem dX3_bears_20 : decode cX3_bears 20 = .ok (.ifCond .ne 6, 3) := by decide +kernel
theorem dX3_bears_23 : decode cX3_bears 23 = .ok (.bipush (-2), 2) := by decide +kernel
theorem dX3_bears_25 : decode cX3_bears 25 = .ok (.ireturn, 1) := by decide +kernel
theorem dX3_bears_26 : decode cX3_bears 26 = .ok (.aload_n 0, 1) := by decide +kernel
theorem dX3_bears_27 : decode cX3_bears 27 = .ok (.getfield 10, 3) := by decide +kernel
theorem dX3_bears_30 : decode cX3_bears 30 = .ok (.iload_n 1, 1) := by decide +kernel
theorem dX3_bears_31 : decode cX3_bears 31 = .ok (.iload_n 2, 1) := by decide +kernel
theorem dX3_bears_32 : decode cX3_bears 32 = .ok (.invokevirtual 189, 3) := by decide +kernel
theorem dX3_bears_35 : decode cX3_bears 35 = .ok (.ireturn, 1) := by decide +kernel
set_option maxRecDepth 20000 in
theorem ggX3_count_X1_totalWetness : GoodIn wsX3_count wsX1_totalWetness := goodIn_r _ [21, 22, 23, 62, 63, 64, 65, 66, 67, 68, 69, 70, 71, 72, 73, 74, 75, 76, 77, 78] (by decide +kernel) (by decide +kernel)
set_option maxRecDepth 20000 in
theorem gX3_count_X1_totalWetness : GoodIn wsX3_count (wsV RX3 219 RX1 yX1_totalWetness wsX1_totalWetness) := goodIn_app (goodIn_of _ (by decide +kernel)) ggX3_count_X1_totalWetness
set_option maxRecDepth 20000 in
theorem ggX3_count_X1_wettest : GoodIn wsX3_count wsX1_wettest := goodIn_r _ [27, 22, 23, 62, 63, 64, 65, 66, 67, 68, 69, 70, 71, 72, 73, 74, 75, 76, 77, 78] (by decide +kernel) (by decide +kernel)
set_option maxRecDepth 20000 in
theorem gX3_count_X1_wettest : GoodIn wsX3_count (wsV RX3 222 RX1 yX1_wettest wsX1_wettest) := goodIn_app (goodIn_of _ (by decide +kernel)) ggX3_count_X1_wettest
set_option maxRecDepth 20000 in
theorem ggX3_count_X1_placesUnreached : GoodIn wsX3_count wsX1_placesUnreached := goodIn_r _ [31, 22, 32, 33, 34, 20, 35, 36, 37, 38, 39, 40, 41, 42, 43, 44, 45, 46, 47, 48, 49, 50, 51, 52, 53, 54, 62, 63, 64, 65, 66, 67, 68, 69, 70, 71, 72, 73, 74, 75, 76, 77, 78] (by decide +kernel) (by decide +kernel)
set_option maxRecDepth 20000 in
theorem gX3_count_X1_placesUnreached : GoodIn wsX3_count (wsV RX3 225 RX1 yX1_placesUnreached wsX1_placesUnreached) := goodIn_app (goodIn_of _ (by decide +kernel)) ggX3_count_X1_placesUnreached
theorem dX3_count_0 : decode cX3_count 0 = .ok (.iload_n 1, 1) := by decide +kernel
theorem dX3_count_1 : decode cX3_count 1 = .ok (.tableswitch 237 0 17 #[87, 95, 103, 111, 119, 127, 135, 143, 151, 159, 167, 175, 183, 191, 201, 211, 221, 229], 87) := by decide +kernel
theorem dX3_count_88 : decode cX3_count 88 = .ok (.aload_n 0, 1) := by decide +kernel
theorem dX3_count_89 : decode cX3_count 89 = .ok (.getfield 10, 3) := by decide +kernel
theorem dX3_count_92 : decode cX3_count 92 = .ok (.getfield 124, 3) := by decide +kernel
theorem dX3_count_95 : decode cX3_count 95 = .ok (.ireturn, 1) := by decide +kernel
theorem dX3_count_96 : decode cX3_count 96 = .ok (.aload_n 0, 1) := by decide +kernel
theorem dX3_count_97 : decode cX3_count 97 = .ok (.getfield 10, 3) := by decide +kernel
theorem dX3_count_100 : decode cX3_count 100 = .ok (.getfield 192, 3) := by decide +kernel
theorem dX3_count_103 : decode cX3_count 103 = .ok (.ireturn, 1) := by decide +kernel
theorem dX3_count_104 : decode cX3_count 104 = .ok (.aload_n 0, 1) := by decide +kernel
theorem dX3_count_105 : decode cX3_count 105 = .ok (.getfield 10, 3) := by decide +kernel
theorem dX3_count_108 : decode cX3_count 108 = .ok (.getfield 195, 3) := by decide +kernel
theorem dX3_count_111 : decode cX3_count 111 = .ok (.ireturn, 1) := by decide +kernel
theorem dX3_count_112 : decode cX3_count 112 = .ok (.aload_n 0, 1) := by decide +kernel
theorem dX3_count_113 : decode cX3_count 113 = .ok (.getfield 10, 3) := by decide +kernel
theorem dX3_count_116 : decode cX3_count 116 = .ok (.getfield 198, 3) := by decide +kernel
theorem dX3_count_119 : decode cX3_count 119 = .ok (.ireturn, 1) := by decide +kernel
theorem dX3_count_120 : decode cX3_count 120 = .ok (.aload_n 0, 1) := by decide +kernel
theorem dX3_count_121 : decode cX3_count 121 = .ok (.getfield 10, 3) := by decide +kernel
theorem dX3_count_124 : decode cX3_count 124 = .ok (.getfield 201, 3) := by decide +kernel
theorem dX3_count_127 : decode cX3_count 127 = .ok (.ireturn, 1) := by decide +kernel
theorem dX3_count_128 : decode cX3_count 128 = .ok (.aload_n 0, 1) := by decide +kernel
theorem dX3_count_129 : decode cX3_count 129 = .ok (.getfield 10, 3) := by decide +kernel
theorem dX3_count_132 : decode cX3_count 132 = .ok (.getfield 204, 3) := by decide +kernel
theorem dX3_count_135 : decode cX3_count 135 = .ok (.ireturn, 1) := by decide +kernel
theorem dX3_count_136 : decode cX3_count 136 = .ok (.aload_n 0, 1) := by decide +kernel
theorem dX3_count_137 : decode cX3_count 137 = .ok (.getfield 10, 3) := by decide +kernel
theorem dX3_count_140 : decode cX3_count 140 = .ok (.getfield 207, 3) := by decide +kernel
theorem dX3_count_143 : decode cX3_count 143 = .ok (.ireturn, 1) := by decide +kernel
theorem dX3_count_144 : decode cX3_count 144 = .ok (.aload_n 0, 1) := by decide +kernel
theorem dX3_count_145 : decode cX3_count 145 = .ok (.getfield 10, 3) := by decide +kernel
theorem dX3_count_148 : decode cX3_count 148 = .ok (.getfield 210, 3) := by decide +kernel
theorem dX3_count_151 : decode cX3_count 151 = .ok (.ireturn, 1) := by decide +kernel
theorem dX3_count_152 : decode cX3_count 152 = .ok (.aload_n 0, 1) := by decide +kernel
theorem dX3_count_153 : decode cX3_count 153 = .ok (.getfield 10, 3) := by decide +kernel
theorem dX3_count_156 : decode cX3_count 156 = .ok (.getfield 213, 3) := by decide +kernel
theorem dX3_count_159 : decode cX3_count 159 = .ok (.ireturn, 1) := by decide +kernel
theorem dX3_count_160 : decode cX3_count 160 = .ok (.aload_n 0, 1) := by decide +kernel
theorem dX3_count_161 : decode cX3_count 161 = .ok (.getfield 10, 3) := by decide +kernel
theorem dX3_count_164 : decode cX3_count 164 = .ok (.getfield 216, 3) := by decide +kernel
theorem dX3_count_167 : decode cX3_count 167 = .ok (.ireturn, 1) := by decide +kernel
theorem dX3_count_168 : decode cX3_count 168 = .ok (.aload_n 0, 1) := by decide +kernel
theorem dX3_count_169 : decode cX3_count 169 = .ok (.getfield 10, 3) := by decide +kernel
theorem dX3_count_172 : decode cX3_count 172 = .ok (.invokevirtual 219, 3) := by decide +kernel
theorem dX3_count_175 : decode cX3_count 175 = .ok (.ireturn, 1) := by decide +kernel
theorem dX3_count_176 : decode cX3_count 176 = .ok (.aload_n 0, 1) := by decide +kernel
theorem dX3_count_177 : decode cX3_count 177 = .ok (.getfield 10, 3) := by decide +kernel
theorem dX3_count_180 : decode cX3_count 180 = .ok (.invokevirtual 222, 3) := by decide +kernel
theorem dX3_count_183 : decode cX3_count 183 = .ok (.ireturn, 1) := by decide +kernel
theorem dX3_count_184 : decode cX3_count 184 = .ok (.aload_n 0, 1) := by decide +kernel
theorem dX3_count_185 : decode cX3_count 185 = .ok (.getfield 10, 3) := by decide +kernel
theorem dX3_count_188 : decode cX3_count 188 = .ok (.invokevirtual 225, 3) := by decide +kernel
theorem dX3_count_191 : decode cX3_count 191 = .ok (.ireturn, 1) := by decide +kernel
theorem dX3_count_192 : decode cX3_count 192 = .ok (.aload_n 0, 1) := by decide +kernel
theorem dX3_count_193 : decode cX3_count 193 = .ok (.getfield 10, 3) := by decide +kernel
theorem dX3_count_196 : decode cX3_count 196 = .ok (.getfield 228, 3) := by decide +kernel
theorem dX3_count_199 : decode cX3_count 199 = .ok (.iconst 0, 1) := by decide +kernel
theorem dX3_count_200 : decode cX3_count 200 = .ok (.iaload, 1) := by decide +kernel
theorem dX3_count_201 : decode cX3_count 201 = .ok (.ireturn, 1) := by decide +kernel
theorem dX3_count_202 : decode cX3_count 202 = .ok (.aload_n 0, 1) := by decide +kernel
theorem dX3_count_203 : decode cX3_count 203 = .ok (.getfield 10, 3) := by decide +kernel
theorem dX3_count_206 : decode cX3_count 206 = .ok (.getfield 228, 3) := by decide +kernel
theorem dX3_count_209 : decode cX3_count 209 = .ok (.iconst 1, 1) := by decide +kernel
theorem dX3_count_210 : decode cX3_count 210 = .ok (.iaload, 1) := by decide +kernel
theorem dX3_count_211 : decode cX3_count 211 = .ok (.ireturn, 1) := by decide +kernel
theorem dX3_count_212 : decode cX3_count 212 = .ok (.aload_n 0, 1) := by decide +kernel
theorem dX3_count_213 : decode cX3_count 213 = .ok (.getfield 10, 3) := by decide +kernel
theorem dX3_count_216 : decode cX3_count 216 = .ok (.getfield 228, 3) := by decide +kernel
theorem dX3_count_219 : decode cX3_count 219 = .ok (.iconst 2, 1) := by decide +kernel
theorem dX3_count_220 : decode cX3_count 220 = .ok (.iaload, 1) := by decide +kernel
theorem dX3_count_221 : decode cX3_count 221 = .ok (.ireturn, 1) := by decide +kernel
theorem dX3_count_222 : decode cX3_count 222 = .ok (.aload_n 0, 1) := by decide +kernel
theorem dX3_count_223 : decode cX3_count 223 = .ok (.getfield 22, 3) := by decide +kernel
theorem dX3_count_226 : decode cX3_count 226 = .ok (.getfield 114, 3) := by decide +kernel
theorem dX3_count_229 : decode cX3_count 229 = .ok (.ireturn, 1) := by decide +kernel
theorem dX3_count_230 : decode cX3_count 230 = .ok (.aload_n 0, 1) := by decide +kernel
theorem dX3_count_231 : decode cX3_count 231 = .ok (.getfield 29, 3) := by decide +kernel
theorem dX3_count_234 : decode cX3_count 234 = .ok (.getfield 231, 3) := by decide +kernel
theorem dX3_count_237 : decode cX3_count 237 = .ok (.ireturn, 1) := by decide +kernel
theorem dX3_count_238 : decode cX3_count 238 = .ok (.bipush (-2), 2) := by decide +kernel
theorem dX3_count_240 : decode cX3_count 240 = .ok (.ireturn, 1) := by decide +kernel
set_option maxRecDepth 20000 in
theorem ggX3_recorded_X0_keepDraft : GoodIn wsX3_recorded wsX0_keepDraft := goodIn_r _ [6, 7, 8, 16, 17] (by decide +kernel) (by decide +kernel)
set_option maxRecDepth 20000 in
theorem gX3_recorded_X0_keepDraft : GoodIn wsX3_recorded (wsV RX3 234 RX0 yX0_keepDraft wsX0_keepDraft) := goodIn_app (goodIn_of _ (by decide +kernel)) ggX3_recorded_X0_keepDraft
theorem dX3_recorded_0 : decode cX3_recorded 0 = .ok (.iload_n 1, 1) := by decide +kernel
theorem dX3_recorded_1 : decode cX3_recorded 1 = .ok (.ifCond .lt 10, 3) := by decide +kernel
theorem dX3_recorded_4 : decode cX3_recorded 4 = .ok (.aload_n 0, 1) := by decide +kernel
theorem dX3_recorded_5 : decode cX3_recorded 5 = .ok (.getfield 22, 3) := by decide +kernel
theorem dX3_recorded_8 : decode cX3_recorded 8 = .ok (.invokevirtual 234, 3) := by decide +kernel
theorem dX3_recorded_11 : decode cX3_recorded 11 = .ok (.iload_n 1, 1) := by decide +kernel
theorem dX3_recorded_12 : decode cX3_recorded 12 = .ok (.ireturn, 1) := by decide +kernel
set_option maxRecDepth 20000 in
theorem ggX3_isGust_X3_isWithin : GoodIn wsX3_isGust wsX3_isWithin := goodIn_r _ [4] (by decide +kernel) (by decide +kernel)
set_option maxRecDepth 20000 in
theorem gX3_isGust_X3_isWithin : GoodIn wsX3_isGust (va_wsS RX3 157 yX3_isWithin wsX3_isWithin) := goodIn_app (goodIn_of _ (by decide +kernel)) ggX3_isGust_X3_isWithin
theorem dX3_isGust_0 : decode cX3_isGust 0 = .ok (.iload_n 0, 1) := by decide +kernel
theorem dX3_isGust_1 : decode cX3_isGust 1 = .ok (.iconst 1, 1) := by decide +kernel
theorem dX3_isGust_2 : decode cX3_isGust 2 = .ok (.bipush 99, 2) := by decide +kernel
theorem dX3_isGust_4 : decode cX3_isGust 4 = .ok (.invokestatic 157, 3) := by decide +kernel
theorem dX3_isGust_7 : decode cX3_isGust 7 = .ok (.ifCond .eq 16, 3) := by decide +kernel
theorem dX3_isGust_10 : decode cX3_isGust 10 = .ok (.iload_n 1, 1) := by decide +kernel
theorem dX3_isGust_11 : decode cX3_isGust 11 = .ok (.iconst 0, 1) := by decide +kernel
theorem dX3_isGust_12 : decode cX3_isGust 12 = .ok (.iconst 2, 1) := by decide +kernel
theorem dX3_isGust_13 : decode cX3_isGust 13 = .ok (.invokestatic 157, 3) := by decide +kernel
theorem dX3_isGust_16 : decode cX3_isGust 16 = .ok (.ifCond .eq 7, 3) := by decide +kernel
theorem dX3_isGust_19 : decode cX3_isGust 19 = .ok (.iconst 1, 1) := by decide +kernel
theorem dX3_isGust_20 : decode cX3_isGust 20 = .ok (.goto 4, 3) := by decide +kernel
theorem dX3_isGust_23 : decode cX3_isGust 23 = .ok (.iconst 0, 1) := by decide +kernel
theorem dX3_isGust_24 : decode cX3_isGust 24 = .ok (.ireturn, 1) := by decide +kernel
theorem dX3_isWithin_0 : decode cX3_isWithin 0 = .ok (.iload_n 0, 1) := by decide +kernel
theorem dX3_isWithin_1 : decode cX3_isWithin 1 = .ok (.iload_n 1, 1) := by decide +kernel
theorem dX3_isWithin_2 : decode cX3_isWithin 2 = .ok (.if_icmp .lt 12, 3) := by decide +kernel
theorem dX3_isWithin_5 : decode cX3_isWithin 5 = .ok (.iload_n 0, 1) := by decide +kernel
theorem dX3_isWithin_6 : decode cX3_isWithin 6 = .ok (.iload_n 2, 1) := by decide +kernel
theorem dX3_isWithin_7 : decode cX3_isWithin 7 = .ok (.if_icmp .gt 7, 3) := by decide +kernel
theorem dX3_isWithin_10 : decode cX3_isWithin 10 = .ok (.iconst 1, 1) := by decide +kernel
theorem dX3_isWithin_11 : decode cX3_isWithin 11 = .ok (.goto 4, 3) := by decide +kernel
theorem dX3_isWithin_14 : decode cX3_isWithin 14 = .ok (.iconst 0, 1) := by decide +kernel
theorem dX3_isWithin_15 : decode cX3_isWithin 15 = .ok (.ireturn, 1) := by decide +kernel
