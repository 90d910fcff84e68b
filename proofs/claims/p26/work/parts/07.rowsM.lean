set_option maxRecDepth 20000 in
theorem ggL_isPerson_X3_person_0 : GoodIn wsL_isPerson [.code yX3_person cX3_person 3 (some .int)] := goodIn_r _ [5] (by decide +kernel) (by decide +kernel)
set_option maxRecDepth 20000 in
theorem ggL_isPerson_X3_person_1 : GoodIn wsL_isPerson wsX3_person_r1 := goodIn_r _ [6, 7, 8, 9, 10, 11, 12, 13, 14, 15, 16, 17, 18, 19, 20, 21, 22, 23, 24, 25, 26, 27, 28, 29] (by decide +kernel) (by decide +kernel)
set_option maxRecDepth 20000 in
theorem ggL_isPerson_X3_person_2 : GoodIn wsL_isPerson wsX3_person_r2 := goodIn_r _ [30, 31, 32, 33, 34, 35, 36, 37, 38, 39, 40, 41, 4, 42] (by decide +kernel) (by decide +kernel)
set_option maxRecDepth 20000 in
theorem ggL_isPerson_X3_person_3 : GoodIn wsL_isPerson wsX30 := goodIn_r _ [126, 127, 128, 129, 130, 131, 132] (by decide +kernel) (by decide +kernel)
set_option maxRecDepth 20000 in
theorem ggL_isPerson_X3_person_4 : GoodIn wsL_isPerson wsX10 := goodIn_r _ [133, 134, 135, 136, 137, 138, 139, 140, 141, 142, 143, 144, 145, 146, 147, 148, 149] (by decide +kernel) (by decide +kernel)
theorem ggL_isPerson_X3_person : GoodIn wsL_isPerson wsX3_person := fun w h => (List.mem_cons.mp h).elim (fun z => ggL_isPerson_X3_person_0 w (List.mem_singleton.mpr z)) (fun z => (List.forall_mem_append.mpr ⟨List.forall_mem_append.mpr ⟨List.forall_mem_append.mpr ⟨ggL_isPerson_X3_person_1, ggL_isPerson_X3_person_2⟩, ggL_isPerson_X3_person_3⟩, ggL_isPerson_X3_person_4⟩) w z)
set_option maxRecDepth 20000 in
theorem gL_isPerson_X3_person : GoodIn wsL_isPerson (wsV RL 52 RX3 yX3_person wsX3_person) := goodIn_app (goodIn_of _ (by decide +kernel)) ggL_isPerson_X3_person
set_option maxRecDepth 20000 in
theorem ggL_isPerson_X3_count_0 : GoodIn wsL_isPerson [.code yX3_count cX3_count 2 (some .int)] := goodIn_r _ [46] (by decide +kernel) (by decide +kernel)
set_option maxRecDepth 20000 in
theorem ggL_isPerson_X3_count_1 : GoodIn wsL_isPerson wsX3_count_r1 := goodIn_r _ [6, 47, 48, 49, 50, 51, 52, 53, 54, 55, 56, 57, 58, 59, 60, 61, 62, 63, 64, 16, 65, 18, 66, 67] (by decide +kernel) (by decide +kernel)
set_option maxRecDepth 20000 in
theorem ggL_isPerson_X3_count_2 : GoodIn wsL_isPerson wsX3_count_r2 := goodIn_r _ [68, 69, 70, 71, 72, 73, 74, 75, 36, 37, 38, 23, 39, 20, 21, 22, 24, 25, 26, 27, 40, 29, 30, 31] (by decide +kernel) (by decide +kernel)
set_option maxRecDepth 20000 in
theorem ggL_isPerson_X3_count_3 : GoodIn wsL_isPerson wsX3_count_r3 := goodIn_r _ [32, 33, 34, 41, 4, 42] (by decide +kernel) (by decide +kernel)
set_option maxRecDepth 20000 in
theorem ggL_isPerson_X3_count_4 : GoodIn wsL_isPerson wsX30 := goodIn_r _ [126, 127, 128, 129, 130, 131, 132] (by decide +kernel) (by decide +kernel)
set_option maxRecDepth 20000 in
theorem ggL_isPerson_X3_count_5 : GoodIn wsL_isPerson wsX10 := goodIn_r _ [133, 134, 135, 136, 137, 138, 139, 140, 141, 142, 143, 144, 145, 146, 147, 148, 149] (by decide +kernel) (by decide +kernel)
set_option maxRecDepth 20000 in
theorem ggL_isPerson_X3_count_6 : GoodIn wsL_isPerson wsX00 := goodIn_r _ [150, 151] (by decide +kernel) (by decide +kernel)
set_option maxRecDepth 20000 in
theorem ggL_isPerson_X3_count_7 : GoodIn wsL_isPerson wsX20 := goodIn_r _ [152, 153, 154, 155, 156, 157, 158] (by decide +kernel) (by decide +kernel)
theorem ggL_isPerson_X3_count : GoodIn wsL_isPerson wsX3_count := fun w h => (List.mem_cons.mp h).elim (fun z => ggL_isPerson_X3_count_0 w (List.mem_singleton.mpr z)) (fun z => (List.forall_mem_append.mpr ⟨List.forall_mem_append.mpr ⟨List.forall_mem_append.mpr ⟨List.forall_mem_append.mpr ⟨List.forall_mem_append.mpr ⟨ggL_isPerson_X3_count_1, List.forall_mem_append.mpr ⟨ggL_isPerson_X3_count_2, ggL_isPerson_X3_count_3⟩⟩, ggL_isPerson_X3_count_4⟩, ggL_isPerson_X3_count_5⟩, ggL_isPerson_X3_count_6⟩, ggL_isPerson_X3_count_7⟩) w z)
set_option maxRecDepth 20000 in
theorem gL_isPerson_X3_count : GoodIn wsL_isPerson (wsV RL 9 RX3 yX3_count wsX3_count) := goodIn_app (goodIn_of _ (by decide +kernel)) ggL_isPerson_X3_count
set_option maxRecDepth 20000 in
theorem ggL_isPerson_L_reaches_0 : GoodIn wsL_isPerson [.code yL_reaches cL_reaches 4 (some .boolean)] := goodIn_r _ [79] (by decide +kernel) (by decide +kernel)
set_option maxRecDepth 20000 in
theorem ggL_isPerson_L_reaches_1 : GoodIn wsL_isPerson wsL_reaches_r1 := goodIn_r _ [1, 2, 3, 4, 5, 6, 7, 8, 9, 10, 11, 12, 13, 14, 15, 16, 17, 18, 19, 20, 21, 22, 23, 24] (by decide +kernel) (by decide +kernel)
set_option maxRecDepth 20000 in
theorem ggL_isPerson_L_reaches_2 : GoodIn wsL_isPerson wsL_reaches_r2 := goodIn_r _ [25, 26, 27, 28, 29, 30, 31, 32, 33, 34, 35, 36, 37, 38, 39, 40, 41, 42, 43, 44, 45, 46, 47, 48] (by decide +kernel) (by decide +kernel)
set_option maxRecDepth 20000 in
theorem ggL_isPerson_L_reaches_3 : GoodIn wsL_isPerson wsL_reaches_r3 := goodIn_r _ [49, 50, 51, 52, 53, 54, 55, 56, 57, 58, 59, 60, 61, 62, 63, 64, 65, 66, 67, 68, 69, 70, 71, 72] (by decide +kernel) (by decide +kernel)
set_option maxRecDepth 20000 in
theorem ggL_isPerson_L_reaches_4 : GoodIn wsL_isPerson wsL_reaches_r4 := goodIn_r _ [73, 74, 75] (by decide +kernel) (by decide +kernel)
set_option maxRecDepth 20000 in
theorem ggL_isPerson_L_reaches_5 : GoodIn wsL_isPerson wsX30 := goodIn_r _ [126, 127, 128, 129, 130, 131, 132] (by decide +kernel) (by decide +kernel)
set_option maxRecDepth 20000 in
theorem ggL_isPerson_L_reaches_6 : GoodIn wsL_isPerson wsX10 := goodIn_r _ [133, 134, 135, 136, 137, 138, 139, 140, 141, 142, 143, 144, 145, 146, 147, 148, 149] (by decide +kernel) (by decide +kernel)
set_option maxRecDepth 20000 in
theorem ggL_isPerson_L_reaches_7 : GoodIn wsL_isPerson wsX00 := goodIn_r _ [150, 151] (by decide +kernel) (by decide +kernel)
set_option maxRecDepth 20000 in
theorem ggL_isPerson_L_reaches_8 : GoodIn wsL_isPerson wsX20 := goodIn_r _ [152, 153, 154, 155, 156, 157, 158] (by decide +kernel) (by decide +kernel)
theorem ggL_isPerson_L_reaches : GoodIn wsL_isPerson wsL_reaches := fun w h => (List.mem_cons.mp h).elim (fun z => ggL_isPerson_L_reaches_0 w (List.mem_singleton.mpr z)) (fun z => (List.forall_mem_append.mpr ⟨List.forall_mem_append.mpr ⟨List.forall_mem_append.mpr ⟨List.forall_mem_append.mpr ⟨List.forall_mem_append.mpr ⟨ggL_isPerson_L_reaches_1, List.forall_mem_append.mpr ⟨ggL_isPerson_L_reaches_2, List.forall_mem_append.mpr ⟨ggL_isPerson_L_reaches_3, ggL_isPerson_L_reaches_4⟩⟩⟩, ggL_isPerson_L_reaches_5⟩, ggL_isPerson_L_reaches_6⟩, ggL_isPerson_L_reaches_7⟩, ggL_isPerson_L_reaches_8⟩) w z)
set_option maxRecDepth 20000 in
theorem gL_isPerson_L_reaches : GoodIn wsL_isPerson (va_wsS RL 60 yL_reaches wsL_reaches) := goodIn_app (goodIn_of _ (by decide +kernel)) ggL_isPerson_L_reaches
set_option maxRecDepth 20000 in
theorem ggL_isPerson_X3_placeOf : GoodIn wsL_isPerson wsX3_placeOf := goodIn_r _ [83, 6, 47, 7, 84, 41, 4, 42, 126, 127, 128, 129, 130, 131, 132, 133, 134, 135, 136, 137, 138, 139, 140, 141, 142, 143, 144, 145, 146, 147, 148, 149] (by decide +kernel) (by decide +kernel)
set_option maxRecDepth 20000 in
theorem gL_isPerson_X3_placeOf : GoodIn wsL_isPerson (wsV RL 57 RX3 yX3_placeOf wsX3_placeOf) := goodIn_app (goodIn_of _ (by decide +kernel)) ggL_isPerson_X3_placeOf
set_option maxRecDepth 20000 in
theorem ggL_isPerson_L_low : GoodIn wsL_isPerson wsL_low := goodIn_r _ [87, 88] (by decide +kernel) (by decide +kernel)
set_option maxRecDepth 20000 in
theorem gL_isPerson_L_low : GoodIn wsL_isPerson (va_wsS RL 15 yL_low wsL_low) := goodIn_app (goodIn_of _ (by decide +kernel)) ggL_isPerson_L_low
set_option maxRecDepth 20000 in
theorem ggL_isPerson_X3_bears_0 : GoodIn wsL_isPerson [.code yX3_bears cX3_bears 3 (some .int)] := goodIn_r _ [92] (by decide +kernel) (by decide +kernel)
set_option maxRecDepth 20000 in
theorem ggL_isPerson_X3_bears_1 : GoodIn wsL_isPerson wsX3_bears_r1 := goodIn_r _ [6, 13, 14, 15, 16, 17, 18, 84, 41, 4, 42, 93, 94, 95, 96, 97, 66, 98, 99, 100, 101, 102, 103, 104] (by decide +kernel) (by decide +kernel)
set_option maxRecDepth 20000 in
theorem ggL_isPerson_X3_bears_2 : GoodIn wsL_isPerson wsX3_bears_r2 := goodIn_r _ [105, 23, 39, 20, 21, 22, 24, 25, 26, 27, 40, 29, 30, 31, 32, 33, 34, 106, 107, 108, 109] (by decide +kernel) (by decide +kernel)
set_option maxRecDepth 20000 in
theorem ggL_isPerson_X3_bears_3 : GoodIn wsL_isPerson wsX30 := goodIn_r _ [126, 127, 128, 129, 130, 131, 132] (by decide +kernel) (by decide +kernel)
set_option maxRecDepth 20000 in
theorem ggL_isPerson_X3_bears_4 : GoodIn wsL_isPerson wsX10 := goodIn_r _ [133, 134, 135, 136, 137, 138, 139, 140, 141, 142, 143, 144, 145, 146, 147, 148, 149] (by decide +kernel) (by decide +kernel)
theorem ggL_isPerson_X3_bears : GoodIn wsL_isPerson wsX3_bears := fun w h => (List.mem_cons.mp h).elim (fun z => ggL_isPerson_X3_bears_0 w (List.mem_singleton.mpr z)) (fun z => (List.forall_mem_append.mpr ⟨List.forall_mem_append.mpr ⟨List.forall_mem_append.mpr ⟨ggL_isPerson_X3_bears_1, ggL_isPerson_X3_bears_2⟩, ggL_isPerson_X3_bears_3⟩, ggL_isPerson_X3_bears_4⟩) w z)
set_option maxRecDepth 20000 in
theorem gL_isPerson_X3_bears : GoodIn wsL_isPerson (wsV RL 64 RX3 yX3_bears wsX3_bears) := goodIn_app (goodIn_of _ (by decide +kernel)) ggL_isPerson_X3_bears
set_option maxRecDepth 20000 in
theorem ggL_isPerson_X3_ifGust_0 : GoodIn wsL_isPerson [.code yX3_ifGust cX3_ifGust 5 (some .int)] := goodIn_r _ [113] (by decide +kernel) (by decide +kernel)
set_option maxRecDepth 20000 in
theorem ggL_isPerson_X3_ifGust_1 : GoodIn wsL_isPerson wsX3_ifGust_r1 := goodIn_r _ [6, 9, 13, 14, 15, 16, 17, 18, 114, 115, 4, 116, 84, 41, 42, 117, 107, 108, 109, 23, 39, 20, 21, 22] (by decide +kernel) (by decide +kernel)
set_option maxRecDepth 20000 in
theorem ggL_isPerson_X3_ifGust_2 : GoodIn wsL_isPerson wsX3_ifGust_r2 := goodIn_r _ [24, 25, 26, 27, 40, 29, 30, 31, 32, 33, 34, 118, 103, 104, 105, 119, 120, 121, 122, 66, 98, 99, 100, 101] (by decide +kernel) (by decide +kernel)
set_option maxRecDepth 20000 in
theorem ggL_isPerson_X3_ifGust_3 : GoodIn wsL_isPerson wsX3_ifGust_r3 := goodIn_r _ [102, 106] (by decide +kernel) (by decide +kernel)
set_option maxRecDepth 20000 in
theorem ggL_isPerson_X3_ifGust_4 : GoodIn wsL_isPerson wsX30 := goodIn_r _ [126, 127, 128, 129, 130, 131, 132] (by decide +kernel) (by decide +kernel)
set_option maxRecDepth 20000 in
theorem ggL_isPerson_X3_ifGust_5 : GoodIn wsL_isPerson wsX10 := goodIn_r _ [133, 134, 135, 136, 137, 138, 139, 140, 141, 142, 143, 144, 145, 146, 147, 148, 149] (by decide +kernel) (by decide +kernel)
theorem ggL_isPerson_X3_ifGust : GoodIn wsL_isPerson wsX3_ifGust := fun w h => (List.mem_cons.mp h).elim (fun z => ggL_isPerson_X3_ifGust_0 w (List.mem_singleton.mpr z)) (fun z => (List.forall_mem_append.mpr ⟨List.forall_mem_append.mpr ⟨List.forall_mem_append.mpr ⟨ggL_isPerson_X3_ifGust_1, List.forall_mem_append.mpr ⟨ggL_isPerson_X3_ifGust_2, ggL_isPerson_X3_ifGust_3⟩⟩, ggL_isPerson_X3_ifGust_4⟩, ggL_isPerson_X3_ifGust_5⟩) w z)
set_option maxRecDepth 20000 in
theorem gL_isPerson_X3_ifGust : GoodIn wsL_isPerson (wsV RL 48 RX3 yX3_ifGust wsX3_ifGust) := goodIn_app (goodIn_of _ (by decide +kernel)) ggL_isPerson_X3_ifGust
set_option maxRecDepth 20000 in
theorem ggL_isPerson_L_isGust_0 : GoodIn wsL_isPerson [.code yL_isGust cL_isGust 8 (some .boolean)] := goodIn_r _ [125] (by decide +kernel) (by decide +kernel)
set_option maxRecDepth 20000 in
theorem ggL_isPerson_L_isGust_1 : GoodIn wsL_isPerson wsL_isGust_r1 := goodIn_r _ [43, 44, 45, 4, 46, 6, 47, 48, 49, 50, 51, 52, 53, 54, 55, 56, 57, 58, 59, 60, 61, 62, 63, 64] (by decide +kernel) (by decide +kernel)
set_option maxRecDepth 20000 in
theorem ggL_isPerson_L_isGust_2 : GoodIn wsL_isPerson wsL_isGust_r2 := goodIn_r _ [16, 65, 18, 66, 67, 68, 69, 70, 71, 72, 73, 74, 75, 36, 37, 38, 23, 39, 20, 21, 22, 24, 25, 26] (by decide +kernel) (by decide +kernel)
set_option maxRecDepth 20000 in
theorem ggL_isPerson_L_isGust_3 : GoodIn wsL_isPerson wsL_isGust_r3 := goodIn_r _ [27, 40, 29, 30, 31, 32, 33, 34, 41, 42, 76, 77, 78, 79, 1, 2, 3, 5, 7, 8, 9, 10, 11, 12] (by decide +kernel) (by decide +kernel)
set_option maxRecDepth 20000 in
theorem ggL_isPerson_L_isGust_4 : GoodIn wsL_isPerson wsL_isGust_r4 := goodIn_r _ [13, 14, 15, 17, 19, 28, 35, 110, 111, 112, 113, 114, 115, 116, 84, 117, 107, 108, 109, 118, 103, 104, 105, 119] (by decide +kernel) (by decide +kernel)
set_option maxRecDepth 20000 in
theorem ggL_isPerson_L_isGust_5 : GoodIn wsL_isPerson wsL_isGust_r5 := goodIn_r _ [120, 121, 122, 98, 99, 100, 101, 102, 106] (by decide +kernel) (by decide +kernel)
set_option maxRecDepth 20000 in
theorem ggL_isPerson_L_isGust_6 : GoodIn wsL_isPerson wsX30 := goodIn_r _ [126, 127, 128, 129, 130, 131, 132] (by decide +kernel) (by decide +kernel)
set_option maxRecDepth 20000 in
theorem ggL_isPerson_L_isGust_7 : GoodIn wsL_isPerson wsX10 := goodIn_r _ [133, 134, 135, 136, 137, 138, 139, 140, 141, 142, 143, 144, 145, 146, 147, 148, 149] (by decide +kernel) (by decide +kernel)
set_option maxRecDepth 20000 in
theorem ggL_isPerson_L_isGust_8 : GoodIn wsL_isPerson wsX00 := goodIn_r _ [150, 151] (by decide +kernel) (by decide +kernel)
set_option maxRecDepth 20000 in
theorem ggL_isPerson_L_isGust_9 : GoodIn wsL_isPerson wsX20 := goodIn_r _ [152, 153, 154, 155, 156, 157, 158] (by decide +kernel) (by decide +kernel)
theorem ggL_isPerson_L_isGust : GoodIn wsL_isPerson wsL_isGust := fun w h => (List.mem_cons.mp h).elim (fun z => ggL_isPerson_L_isGust_0 w (List.mem_singleton.mpr z)) (fun z => (List.forall_mem_append.mpr ⟨List.forall_mem_append.mpr ⟨List.forall_mem_append.mpr ⟨List.forall_mem_append.mpr ⟨List.forall_mem_append.mpr ⟨ggL_isPerson_L_isGust_1, List.forall_mem_append.mpr ⟨ggL_isPerson_L_isGust_2, List.forall_mem_append.mpr ⟨ggL_isPerson_L_isGust_3, List.forall_mem_append.mpr ⟨ggL_isPerson_L_isGust_4, ggL_isPerson_L_isGust_5⟩⟩⟩⟩, ggL_isPerson_L_isGust_6⟩, ggL_isPerson_L_isGust_7⟩, ggL_isPerson_L_isGust_8⟩, ggL_isPerson_L_isGust_9⟩) w z)
set_option maxRecDepth 20000 in
theorem gL_isPerson_L_isGust : GoodIn wsL_isPerson (va_wsS RL 67 yL_isGust wsL_isGust) := goodIn_app (goodIn_of _ (by decide +kernel)) ggL_isPerson_L_isGust
theorem dL_isPerson_0 : decode cL_isPerson 0 = .ok (.aload_n 0, 1) := by decide +kernel
theorem dL_isPerson_1 : decode cL_isPerson 1 = .ok (.iload_n 1, 1) := by decide +kernel
theorem dL_isPerson_2 : decode cL_isPerson 2 = .ok (.iconst 4, 1) := by decide +kernel
theorem dL_isPerson_3 : decode cL_isPerson 3 = .ok (.invokevirtual 52, 3) := by decide +kernel
theorem dL_isPerson_6 : decode cL_isPerson 6 = .ok (.istore_n 3, 1) := by decide +kernel
theorem dL_isPerson_7 : decode cL_isPerson 7 = .ok (.aload_n 0, 1) := by decide +kernel
theorem dL_isPerson_8 : decode cL_isPerson 8 = .ok (.iload_n 1, 1) := by decide +kernel
theorem dL_isPerson_9 : decode cL_isPerson 9 = .ok (.iconst 5, 1) := by decide +kernel
theorem dL_isPerson_10 : decode cL_isPerson 10 = .ok (.invokevirtual 52, 3) := by decide +kernel
theorem dL_isPerson_13 : decode cL_isPerson 13 = .ok (.istore 4, 2) := by decide +kernel
theorem dL_isPerson_15 : decode cL_isPerson 15 = .ok (.aload_n 0, 1) := by decide +kernel
theorem dL_isPerson_16 : decode cL_isPerson 16 = .ok (.iload_n 1, 1) := by decide +kernel
theorem dL_isPerson_17 : decode cL_isPerson 17 = .ok (.bipush 6, 2) := by decide +kernel
theorem dL_isPerson_19 : decode cL_isPerson 19 = .ok (.invokevirtual 52, 3) := by decide +kernel
theorem dL_isPerson_22 : decode cL_isPerson 22 = .ok (.istore 5, 2) := by decide +kernel
theorem dL_isPerson_24 : decode cL_isPerson 24 = .ok (.iconst 0, 1) := by decide +kernel
theorem dL_isPerson_25 : decode cL_isPerson 25 = .ok (.istore 6, 2) := by decide +kernel
theorem dL_isPerson_27 : decode cL_isPerson 27 = .ok (.iconst 0, 1) := by decide +kernel
theorem dL_isPerson_28 : decode cL_isPerson 28 = .ok (.istore 7, 2) := by decide +kernel
theorem dL_isPerson_30 : decode cL_isPerson 30 = .ok (.iload 7, 2) := by decide +kernel
theorem dL_isPerson_32 : decode cL_isPerson 32 = .ok (.aload_n 0, 1) := by decide +kernel
theorem dL_isPerson_33 : decode cL_isPerson 33 = .ok (.iconst 0, 1) := by decide +kernel
theorem dL_isPerson_34 : decode cL_isPerson 34 = .ok (.invokevirtual 9, 3) := by decide +kernel
theorem dL_isPerson_37 : decode cL_isPerson 37 = .ok (.if_icmp .ge 29, 3) := by decide +kernel
theorem dL_isPerson_40 : decode cL_isPerson 40 = .ok (.iload 6, 2) := by decide +kernel
theorem dL_isPerson_42 : decode cL_isPerson 42 = .ok (.aload_n 0, 1) := by decide +kernel
theorem dL_isPerson_43 : decode cL_isPerson 43 = .ok (.iload 7, 2) := by decide +kernel
theorem dL_isPerson_45 : decode cL_isPerson 45 = .ok (.iload_n 1, 1) := by decide +kernel
theorem dL_isPerson_46 : decode cL_isPerson 46 = .ok (.invokestatic 60, 3) := by decide +kernel
theorem dL_isPerson_49 : decode cL_isPerson 49 = .ok (.ifCond .eq 7, 3) := by decide +kernel
theorem dL_isPerson_52 : decode cL_isPerson 52 = .ok (.iconst 1, 1) := by decide +kernel
theorem dL_isPerson_53 : decode cL_isPerson 53 = .ok (.goto 4, 3) := by decide +kernel
theorem dL_isPerson_56 : decode cL_isPerson 56 = .ok (.iconst 0, 1) := by decide +kernel
theorem dL_isPerson_57 : decode cL_isPerson 57 = .ok (.iadd, 1) := by decide +kernel
theorem dL_isPerson_58 : decode cL_isPerson 58 = .ok (.istore 6, 2) := by decide +kernel
theorem dL_isPerson_60 : decode cL_isPerson 60 = .ok (.iinc 7 1, 3) := by decide +kernel
theorem dL_isPerson_63 : decode cL_isPerson 63 = .ok (.goto (-33), 3) := by decide +kernel
theorem dL_isPerson_66 : decode cL_isPerson 66 = .ok (.aload_n 0, 1) := by decide +kernel
theorem dL_isPerson_67 : decode cL_isPerson 67 = .ok (.aload_n 0, 1) := by decide +kernel
theorem dL_isPerson_68 : decode cL_isPerson 68 = .ok (.iload_n 1, 1) := by decide +kernel
theorem dL_isPerson_69 : decode cL_isPerson 69 = .ok (.iconst 0, 1) := by decide +kernel
theorem dL_isPerson_70 : decode cL_isPerson 70 = .ok (.invokevirtual 52, 3) := by decide +kernel
theorem dL_isPerson_73 : decode cL_isPerson 73 = .ok (.invokevirtual 57, 3) := by decide +kernel
theorem dL_isPerson_76 : decode cL_isPerson 76 = .ok (.iload_n 1, 1) := by decide +kernel
theorem dL_isPerson_77 : decode cL_isPerson 77 = .ok (.if_icmp .ne 108, 3) := by decide +kernel
theorem dL_isPerson_80 : decode cL_isPerson 80 = .ok (.aload_n 0, 1) := by decide +kernel
theorem dL_isPerson_81 : decode cL_isPerson 81 = .ok (.iload_n 1, 1) := by decide +kernel
theorem dL_isPerson_82 : decode cL_isPerson 82 = .ok (.iconst 1, 1) := by decide +kernel
theorem dL_isPerson_83 : decode cL_isPerson 83 = .ok (.invokevirtual 52, 3) := by decide +kernel
theorem dL_isPerson_86 : decode cL_isPerson 86 = .ok (.ifCond .lt 99, 3) := by decide +kernel
theorem dL_isPerson_89 : decode cL_isPerson 89 = .ok (.aload_n 0, 1) := by decide +kernel
theorem dL_isPerson_90 : decode cL_isPerson 90 = .ok (.iload_n 1, 1) := by decide +kernel
theorem dL_isPerson_91 : decode cL_isPerson 91 = .ok (.iconst 1, 1) := by decide +kernel
theorem dL_isPerson_92 : decode cL_isPerson 92 = .ok (.invokevirtual 52, 3) := by decide +kernel
theorem dL_isPerson_95 : decode cL_isPerson 95 = .ok (.aload_n 0, 1) := by decide +kernel
theorem dL_isPerson_96 : decode cL_isPerson 96 = .ok (.iload_n 1, 1) := by decide +kernel
theorem dL_isPerson_97 : decode cL_isPerson 97 = .ok (.iconst 2, 1) := by decide +kernel
theorem dL_isPerson_98 : decode cL_isPerson 98 = .ok (.invokevirtual 52, 3) := by decide +kernel
theorem dL_isPerson_101 : decode cL_isPerson 101 = .ok (.if_icmp .gt 84, 3) := by decide +kernel
theorem dL_isPerson_104 : decode cL_isPerson 104 = .ok (.aload_n 0, 1) := by decide +kernel
theorem dL_isPerson_105 : decode cL_isPerson 105 = .ok (.iload_n 1, 1) := by decide +kernel
theorem dL_isPerson_106 : decode cL_isPerson 106 = .ok (.bipush 7, 2) := by decide +kernel
theorem dL_isPerson_108 : decode cL_isPerson 108 = .ok (.invokevirtual 52, 3) := by decide +kernel
theorem dL_isPerson_111 : decode cL_isPerson 111 = .ok (.iload 6, 2) := by decide +kernel
theorem dL_isPerson_113 : decode cL_isPerson 113 = .ok (.if_icmp .ne 72, 3) := by decide +kernel
theorem dL_isPerson_116 : decode cL_isPerson 116 = .ok (.iload_n 3, 1) := by decide +kernel
theorem dL_isPerson_117 : decode cL_isPerson 117 = .ok (.ifCond .ne 20, 3) := by decide +kernel
theorem dL_isPerson_120 : decode cL_isPerson 120 = .ok (.iload 4, 2) := by decide +kernel
theorem dL_isPerson_122 : decode cL_isPerson 122 = .ok (.bipush (-5), 2) := by decide +kernel
theorem dL_isPerson_124 : decode cL_isPerson 124 = .ok (.if_icmp .ne 61, 3) := by decide +kernel
theorem dL_isPerson_127 : decode cL_isPerson 127 = .ok (.iload 5, 2) := by decide +kernel
theorem dL_isPerson_129 : decode cL_isPerson 129 = .ok (.bipush (-5), 2) := by decide +kernel
theorem dL_isPerson_131 : decode cL_isPerson 131 = .ok (.if_icmp .ne 54, 3) := by decide +kernel
theorem dL_isPerson_134 : decode cL_isPerson 134 = .ok (.goto 47, 3) := by decide +kernel
theorem dL_isPerson_137 : decode cL_isPerson 137 = .ok (.aload_n 0, 1) := by decide +kernel
theorem dL_isPerson_138 : decode cL_isPerson 138 = .ok (.iload_n 1, 1) := by decide +kernel
theorem dL_isPerson_139 : decode cL_isPerson 139 = .ok (.iload 4, 2) := by decide +kernel
theorem dL_isPerson_141 : decode cL_isPerson 141 = .ok (.invokestatic 60, 3) := by decide +kernel
theorem dL_isPerson_144 : decode cL_isPerson 144 = .ok (.ifCond .eq 41, 3) := by decide +kernel
theorem dL_isPerson_147 : decode cL_isPerson 147 = .ok (.aload_n 0, 1) := by decide +kernel
theorem dL_isPerson_148 : decode cL_isPerson 148 = .ok (.iload_n 1, 1) := by decide +kernel
theorem dL_isPerson_149 : decode cL_isPerson 149 = .ok (.iload 5, 2) := by decide +kernel
theorem dL_isPerson_151 : decode cL_isPerson 151 = .ok (.invokestatic 60, 3) := by decide +kernel
theorem dL_isPerson_154 : decode cL_isPerson 154 = .ok (.ifCond .eq 31, 3) := by decide +kernel
theorem dL_isPerson_157 : decode cL_isPerson 157 = .ok (.aload_n 0, 1) := by decide +kernel
theorem dL_isPerson_158 : decode cL_isPerson 158 = .ok (.iload_n 1, 1) := by decide +kernel
theorem dL_isPerson_159 : decode cL_isPerson 159 = .ok (.iload 4, 2) := by decide +kernel
theorem dL_isPerson_161 : decode cL_isPerson 161 = .ok (.iconst 1, 1) := by decide +kernel
theorem dL_isPerson_162 : decode cL_isPerson 162 = .ok (.isub, 1) := by decide +kernel
theorem dL_isPerson_163 : decode cL_isPerson 163 = .ok (.invokestatic 60, 3) := by decide +kernel
theorem dL_isPerson_166 : decode cL_isPerson 166 = .ok (.ifCond .ne 19, 3) := by decide +kernel
theorem dL_isPerson_169 : decode cL_isPerson 169 = .ok (.aload_n 0, 1) := by decide +kernel
theorem dL_isPerson_170 : decode cL_isPerson 170 = .ok (.iload_n 1, 1) := by decide +kernel
theorem dL_isPerson_171 : decode cL_isPerson 171 = .ok (.iload 5, 2) := by decide +kernel
theorem dL_isPerson_173 : decode cL_isPerson 173 = .ok (.iconst 1, 1) := by decide +kernel
theorem dL_isPerson_174 : decode cL_isPerson 174 = .ok (.iadd, 1) := by decide +kernel
theorem dL_isPerson_175 : decode cL_isPerson 175 = .ok (.invokestatic 60, 3) := by decide +kernel
theorem dL_isPerson_178 : decode cL_isPerson 178 = .ok (.ifCond .ne 7, 3) := by decide +kernel
theorem dL_isPerson_181 : decode cL_isPerson 181 = .ok (.iconst 1, 1) := by decide +kernel
theorem dL_isPerson_182 : decode cL_isPerson 182 = .ok (.goto 4, 3) := by decide +kernel
theorem dL_isPerson_185 : decode cL_isPerson 185 = .ok (.iconst 0, 1) := by decide +kernel
theorem dL_isPerson_186 : decode cL_isPerson 186 = .ok (.istore 7, 2) := by decide +kernel
theorem dL_isPerson_188 : decode cL_isPerson 188 = .ok (.iconst 1, 1) := by decide +kernel
theorem dL_isPerson_189 : decode cL_isPerson 189 = .ok (.iload_n 2, 1) := by decide +kernel
theorem dL_isPerson_190 : decode cL_isPerson 190 = .ok (.bipush 99, 2) := by decide +kernel
theorem dL_isPerson_192 : decode cL_isPerson 192 = .ok (.invokestatic 15, 3) := by decide +kernel
theorem dL_isPerson_195 : decode cL_isPerson 195 = .ok (.iadd, 1) := by decide +kernel
theorem dL_isPerson_196 : decode cL_isPerson 196 = .ok (.istore 8, 2) := by decide +kernel
theorem dL_isPerson_198 : decode cL_isPerson 198 = .ok (.aload_n 0, 1) := by decide +kernel
theorem dL_isPerson_199 : decode cL_isPerson 199 = .ok (.iload_n 1, 1) := by decide +kernel
theorem dL_isPerson_200 : decode cL_isPerson 200 = .ok (.iload 8, 2) := by decide +kernel
theorem dL_isPerson_202 : decode cL_isPerson 202 = .ok (.invokevirtual 64, 3) := by decide +kernel
theorem dL_isPerson_205 : decode cL_isPerson 205 = .ok (.istore 9, 2) := by decide +kernel
theorem dL_isPerson_207 : decode cL_isPerson 207 = .ok (.aload_n 0, 1) := by decide +kernel
theorem dL_isPerson_208 : decode cL_isPerson 208 = .ok (.iload_n 1, 1) := by decide +kernel
theorem dL_isPerson_209 : decode cL_isPerson 209 = .ok (.iload 8, 2) := by decide +kernel
theorem dL_isPerson_211 : decode cL_isPerson 211 = .ok (.iconst 0, 1) := by decide +kernel
theorem dL_isPerson_212 : decode cL_isPerson 212 = .ok (.iconst 0, 1) := by decide +kernel
theorem dL_isPerson_213 : decode cL_isPerson 213 = .ok (.invokevirtual 48, 3) := by decide +kernel
theorem dL_isPerson_216 : decode cL_isPerson 216 = .ok (.iconst 1, 1) := by decide +kernel
theorem dL_isPerson_217 : decode cL_isPerson 217 = .ok (.if_icmp .ne 7, 3) := by decide +kernel
theorem dL_isPerson_220 : decode cL_isPerson 220 = .ok (.iconst 0, 1) := by decide +kernel
theorem dL_isPerson_221 : decode cL_isPerson 221 = .ok (.goto 5, 3) := by decide +kernel
theorem dL_isPerson_224 : decode cL_isPerson 224 = .ok (.iload 8, 2) := by decide +kernel
theorem dL_isPerson_226 : decode cL_isPerson 226 = .ok (.istore 10, 2) := by decide +kernel
theorem dL_isPerson_228 : decode cL_isPerson 228 = .ok (.iload 10, 2) := by decide +kernel
theorem dL_isPerson_230 : decode cL_isPerson 230 = .ok (.aload_n 0, 1) := by decide +kernel
theorem dL_isPerson_231 : decode cL_isPerson 231 = .ok (.iload_n 1, 1) := by decide +kernel
theorem dL_isPerson_232 : decode cL_isPerson 232 = .ok (.iload 8, 2) := by decide +kernel
theorem dL_isPerson_234 : decode cL_isPerson 234 = .ok (.iconst 0, 1) := by decide +kernel
theorem dL_isPerson_235 : decode cL_isPerson 235 = .ok (.iconst 1, 1) := by decide +kernel
theorem dL_isPerson_236 : decode cL_isPerson 236 = .ok (.invokevirtual 48, 3) := by decide +kernel
theorem dL_isPerson_239 : decode cL_isPerson 239 = .ok (.iload 8, 2) := by decide +kernel
theorem dL_isPerson_241 : decode cL_isPerson 241 = .ok (.iconst 2, 1) := by decide +kernel
theorem dL_isPerson_242 : decode cL_isPerson 242 = .ok (.idiv, 1) := by decide +kernel
theorem dL_isPerson_243 : decode cL_isPerson 243 = .ok (.imul, 1) := by decide +kernel
theorem dL_isPerson_244 : decode cL_isPerson 244 = .ok (.iadd, 1) := by decide +kernel
theorem dL_isPerson_245 : decode cL_isPerson 245 = .ok (.istore 10, 2) := by decide +kernel
theorem dL_isPerson_247 : decode cL_isPerson 247 = .ok (.iload 10, 2) := by decide +kernel
theorem dL_isPerson_249 : decode cL_isPerson 249 = .ok (.ifCond .eq 15, 3) := by decide +kernel
theorem dL_isPerson_252 : decode cL_isPerson 252 = .ok (.aload_n 0, 1) := by decide +kernel
theorem dL_isPerson_253 : decode cL_isPerson 253 = .ok (.iload_n 1, 1) := by decide +kernel
theorem dL_isPerson_254 : decode cL_isPerson 254 = .ok (.iconst 2, 1) := by decide +kernel
theorem dL_isPerson_255 : decode cL_isPerson 255 = .ok (.invokevirtual 52, 3) := by decide +kernel
theorem dL_isPerson_258 : decode cL_isPerson 258 = .ok (.sipush 999, 3) := by decide +kernel
theorem dL_isPerson_261 : decode cL_isPerson 261 = .ok (.if_icmp .ne 18, 3) := by decide +kernel
theorem dL_isPerson_264 : decode cL_isPerson 264 = .ok (.iload 9, 2) := by decide +kernel
theorem dL_isPerson_266 : decode cL_isPerson 266 = .ok (.bipush (-5), 2) := by decide +kernel
theorem dL_isPerson_268 : decode cL_isPerson 268 = .ok (.if_icmp .ne 7, 3) := by decide +kernel
theorem dL_isPerson_271 : decode cL_isPerson 271 = .ok (.iconst 1, 1) := by decide +kernel
theorem dL_isPerson_272 : decode cL_isPerson 272 = .ok (.goto 61, 3) := by decide +kernel
theorem dL_isPerson_275 : decode cL_isPerson 275 = .ok (.iconst 0, 1) := by decide +kernel
theorem dL_isPerson_276 : decode cL_isPerson 276 = .ok (.goto 57, 3) := by decide +kernel
theorem dL_isPerson_279 : decode cL_isPerson 279 = .ok (.iload 9, 2) := by decide +kernel
theorem dL_isPerson_281 : decode cL_isPerson 281 = .ok (.ifCond .lt 51, 3) := by decide +kernel
theorem dL_isPerson_284 : decode cL_isPerson 284 = .ok (.aload_n 0, 1) := by decide +kernel
theorem dL_isPerson_285 : decode cL_isPerson 285 = .ok (.iload_n 1, 1) := by decide +kernel
theorem dL_isPerson_286 : decode cL_isPerson 286 = .ok (.iconst 1, 1) := by decide +kernel
theorem dL_isPerson_287 : decode cL_isPerson 287 = .ok (.invokevirtual 52, 3) := by decide +kernel
theorem dL_isPerson_290 : decode cL_isPerson 290 = .ok (.iload 9, 2) := by decide +kernel
theorem dL_isPerson_292 : decode cL_isPerson 292 = .ok (.iload 10, 2) := by decide +kernel
theorem dL_isPerson_294 : decode cL_isPerson 294 = .ok (.imul, 1) := by decide +kernel
theorem dL_isPerson_295 : decode cL_isPerson 295 = .ok (.iadd, 1) := by decide +kernel
theorem dL_isPerson_296 : decode cL_isPerson 296 = .ok (.aload_n 0, 1) := by decide +kernel
theorem dL_isPerson_297 : decode cL_isPerson 297 = .ok (.iload_n 1, 1) := by decide +kernel
theorem dL_isPerson_298 : decode cL_isPerson 298 = .ok (.iconst 2, 1) := by decide +kernel
theorem dL_isPerson_299 : decode cL_isPerson 299 = .ok (.invokevirtual 52, 3) := by decide +kernel
theorem dL_isPerson_302 : decode cL_isPerson 302 = .ok (.if_icmp .gt 30, 3) := by decide +kernel
theorem dL_isPerson_305 : decode cL_isPerson 305 = .ok (.aload_n 0, 1) := by decide +kernel
theorem dL_isPerson_306 : decode cL_isPerson 306 = .ok (.iload_n 1, 1) := by decide +kernel
theorem dL_isPerson_307 : decode cL_isPerson 307 = .ok (.iconst 1, 1) := by decide +kernel
theorem dL_isPerson_308 : decode cL_isPerson 308 = .ok (.invokevirtual 52, 3) := by decide +kernel
theorem dL_isPerson_311 : decode cL_isPerson 311 = .ok (.iload 9, 2) := by decide +kernel
theorem dL_isPerson_313 : decode cL_isPerson 313 = .ok (.iconst 1, 1) := by decide +kernel
theorem dL_isPerson_314 : decode cL_isPerson 314 = .ok (.iadd, 1) := by decide +kernel
theorem dL_isPerson_315 : decode cL_isPerson 315 = .ok (.iload 10, 2) := by decide +kernel
theorem dL_isPerson_317 : decode cL_isPerson 317 = .ok (.imul, 1) := by decide +kernel
theorem dL_isPerson_318 : decode cL_isPerson 318 = .ok (.iadd, 1) := by decide +kernel
theorem dL_isPerson_319 : decode cL_isPerson 319 = .ok (.aload_n 0, 1) := by decide +kernel
theorem dL_isPerson_320 : decode cL_isPerson 320 = .ok (.iload_n 1, 1) := by decide +kernel
theorem dL_isPerson_321 : decode cL_isPerson 321 = .ok (.iconst 2, 1) := by decide +kernel
theorem dL_isPerson_322 : decode cL_isPerson 322 = .ok (.invokevirtual 52, 3) := by decide +kernel
theorem dL_isPerson_325 : decode cL_isPerson 325 = .ok (.if_icmp .le 7, 3) := by decide +kernel
theorem dL_isPerson_328 : decode cL_isPerson 328 = .ok (.iconst 1, 1) := by decide +kernel
theorem dL_isPerson_329 : decode cL_isPerson 329 = .ok (.goto 4, 3) := by decide +kernel
theorem dL_isPerson_332 : decode cL_isPerson 332 = .ok (.iconst 0, 1) := by decide +kernel
theorem dL_isPerson_333 : decode cL_isPerson 333 = .ok (.istore 11, 2) := by decide +kernel
theorem dL_isPerson_335 : decode cL_isPerson 335 = .ok (.iload 7, 2) := by decide +kernel
theorem dL_isPerson_337 : decode cL_isPerson 337 = .ok (.ifCond .eq 30, 3) := by decide +kernel
theorem dL_isPerson_340 : decode cL_isPerson 340 = .ok (.iload 11, 2) := by decide +kernel
theorem dL_isPerson_342 : decode cL_isPerson 342 = .ok (.ifCond .eq 25, 3) := by decide +kernel
theorem dL_isPerson_345 : decode cL_isPerson 345 = .ok (.aload_n 0, 1) := by decide +kernel
theorem dL_isPerson_346 : decode cL_isPerson 346 = .ok (.iload_n 1, 1) := by decide +kernel
theorem dL_isPerson_347 : decode cL_isPerson 347 = .ok (.iload 8, 2) := by decide +kernel
theorem dL_isPerson_349 : decode cL_isPerson 349 = .ok (.iload_n 2, 1) := by decide +kernel
theorem dL_isPerson_350 : decode cL_isPerson 350 = .ok (.bipush 8, 2) := by decide +kernel
theorem dL_isPerson_352 : decode cL_isPerson 352 = .ok (.ishr, 1) := by decide +kernel
theorem dL_isPerson_353 : decode cL_isPerson 353 = .ok (.iconst 3, 1) := by decide +kernel
theorem dL_isPerson_354 : decode cL_isPerson 354 = .ok (.invokestatic 15, 3) := by decide +kernel
theorem dL_isPerson_357 : decode cL_isPerson 357 = .ok (.invokestatic 67, 3) := by decide +kernel
theorem dL_isPerson_360 : decode cL_isPerson 360 = .ok (.ifCond .eq 7, 3) := by decide +kernel
theorem dL_isPerson_363 : decode cL_isPerson 363 = .ok (.iconst 1, 1) := by decide +kernel
theorem dL_isPerson_364 : decode cL_isPerson 364 = .ok (.goto 4, 3) := by decide +kernel
theorem dL_isPerson_367 : decode cL_isPerson 367 = .ok (.iconst 0, 1) := by decide +kernel
theorem dL_isPerson_368 : decode cL_isPerson 368 = .ok (.ireturn, 1) := by decide +kernel
set_option maxRecDepth 20000 in
theorem ggL_isBest_X3_bestSwap_0 : GoodIn wsL_isBest [.code yX3_bestSwap cX3_bestSwap 3 (some .int)] := goodIn_r _ [5] (by decide +kernel) (by decide +kernel)
set_option maxRecDepth 20000 in
theorem ggL_isBest_X3_bestSwap_1 : GoodIn wsL_isBest wsX3_bestSwap_r1 := goodIn_r _ [6, 7, 8, 4, 9, 10, 11, 12, 13, 14, 15, 16, 17, 18, 19, 20, 21, 22, 23, 24, 25, 26, 27, 28] (by decide +kernel) (by decide +kernel)
set_option maxRecDepth 20000 in
theorem ggL_isBest_X3_bestSwap_2 : GoodIn wsL_isBest wsX3_bestSwap_r2 := goodIn_r _ [29, 30, 31, 32, 33, 34, 35, 36, 37, 38, 39, 40, 41, 42, 43, 44, 45, 46, 47, 48, 49, 50, 51, 52] (by decide +kernel) (by decide +kernel)
set_option maxRecDepth 20000 in
theorem ggL_isBest_X3_bestSwap_3 : GoodIn wsL_isBest wsX3_bestSwap_r3 := goodIn_r _ [53, 54, 55, 56, 57, 58, 59, 60, 61, 62] (by decide +kernel) (by decide +kernel)
set_option maxRecDepth 20000 in
theorem ggL_isBest_X3_bestSwap_4 : GoodIn wsL_isBest wsX30 := goodIn_r _ [194, 195, 196, 197, 198, 199, 200] (by decide +kernel) (by decide +kernel)
set_option maxRecDepth 20000 in
theorem ggL_isBest_X3_bestSwap_5 : GoodIn wsL_isBest wsX10 := goodIn_r _ [201, 202, 203, 204, 205, 206, 207, 208, 209, 210, 211, 212, 213, 214, 215, 216, 217] (by decide +kernel) (by decide +kernel)
theorem ggL_isBest_X3_bestSwap : GoodIn wsL_isBest wsX3_bestSwap := fun w h => (List.mem_cons.mp h).elim (fun z => ggL_isBest_X3_bestSwap_0 w (List.mem_singleton.mpr z)) (fun z => (List.forall_mem_append.mpr ⟨List.forall_mem_append.mpr ⟨List.forall_mem_append.mpr ⟨ggL_isBest_X3_bestSwap_1, List.forall_mem_append.mpr ⟨ggL_isBest_X3_bestSwap_2, ggL_isBest_X3_bestSwap_3⟩⟩, ggL_isBest_X3_bestSwap_4⟩, ggL_isBest_X3_bestSwap_5⟩) w z)
set_option maxRecDepth 20000 in
theorem gL_isBest_X3_bestSwap : GoodIn wsL_isBest (wsV RL 71 RX3 yX3_bestSwap wsX3_bestSwap) := goodIn_app (goodIn_of _ (by decide +kernel)) ggL_isBest_X3_bestSwap
set_option maxRecDepth 20000 in
theorem ggL_isBest_L_all_0 : GoodIn wsL_isBest [.code yL_all cL_all 5 (some .int)] := goodIn_r _ [66] (by decide +kernel) (by decide +kernel)
set_option maxRecDepth 20000 in
theorem ggL_isBest_L_all_1 : GoodIn wsL_isBest wsL_all_r1 := goodIn_r _ [67, 68, 69, 4, 70, 6, 71, 72, 73, 74, 75, 76, 77, 78, 79, 80, 81, 82, 83, 84, 85, 86, 87, 88] (by decide +kernel) (by decide +kernel)
set_option maxRecDepth 20000 in
theorem ggL_isBest_L_all_2 : GoodIn wsL_isBest wsL_all_r2 := goodIn_r _ [16, 89, 18, 28, 90, 91, 92, 93, 94, 95, 96, 97, 98, 99, 100, 101, 19, 41, 42, 43, 44, 45, 46, 31] (by decide +kernel) (by decide +kernel)
set_option maxRecDepth 20000 in
theorem ggL_isBest_L_all_3 : GoodIn wsL_isBest wsL_all_r3 := goodIn_r _ [47, 48, 49, 50, 51, 29, 30, 32, 11, 12, 102, 103, 104, 105, 106, 107, 108, 109, 110, 7, 8, 9, 10, 111] (by decide +kernel) (by decide +kernel)
set_option maxRecDepth 20000 in
theorem ggL_isBest_L_all_4 : GoodIn wsL_isBest wsL_all_r4 := goodIn_r _ [53, 54, 55, 112, 38, 39, 40, 113, 25, 26, 27, 33, 34, 35, 36, 37, 52] (by decide +kernel) (by decide +kernel)
set_option maxRecDepth 20000 in
theorem ggL_isBest_L_all_5 : GoodIn wsL_isBest wsX30 := goodIn_r _ [194, 195, 196, 197, 198, 199, 200] (by decide +kernel) (by decide +kernel)
set_option maxRecDepth 20000 in
theorem ggL_isBest_L_all_6 : GoodIn wsL_isBest wsX10 := goodIn_r _ [201, 202, 203, 204, 205, 206, 207, 208, 209, 210, 211, 212, 213, 214, 215, 216, 217] (by decide +kernel) (by decide +kernel)
set_option maxRecDepth 20000 in
theorem ggL_isBest_L_all_7 : GoodIn wsL_isBest wsX00 := goodIn_r _ [218, 219] (by decide +kernel) (by decide +kernel)
set_option maxRecDepth 20000 in
theorem ggL_isBest_L_all_8 : GoodIn wsL_isBest wsX20 := goodIn_r _ [220, 221, 222, 223, 224, 225, 226] (by decide +kernel) (by decide +kernel)
theorem ggL_isBest_L_all : GoodIn wsL_isBest wsL_all := fun w h => (List.mem_cons.mp h).elim (fun z => ggL_isBest_L_all_0 w (List.mem_singleton.mpr z)) (fun z => (List.forall_mem_append.mpr ⟨List.forall_mem_append.mpr ⟨List.forall_mem_append.mpr ⟨List.forall_mem_append.mpr ⟨List.forall_mem_append.mpr ⟨ggL_isBest_L_all_1, List.forall_mem_append.mpr ⟨ggL_isBest_L_all_2, List.forall_mem_append.mpr ⟨ggL_isBest_L_all_3, ggL_isBest_L_all_4⟩⟩⟩, ggL_isBest_L_all_5⟩, ggL_isBest_L_all_6⟩, ggL_isBest_L_all_7⟩, ggL_isBest_L_all_8⟩) w z)
set_option maxRecDepth 20000 in
theorem gL_isBest_L_all : GoodIn wsL_isBest (va_wsS RL 74 yL_all wsL_all) := goodIn_app (goodIn_of _ (by decide +kernel)) ggL_isBest_L_all
set_option maxRecDepth 20000 in
theorem ggL_isBest_X3_count_0 : GoodIn wsL_isBest [.code yX3_count cX3_count 2 (some .int)] := goodIn_r _ [70] (by decide +kernel) (by decide +kernel)
set_option maxRecDepth 20000 in
theorem ggL_isBest_X3_count_1 : GoodIn wsL_isBest wsX3_count_r1 := goodIn_r _ [6, 71, 72, 73, 74, 75, 76, 77, 78, 79, 80, 81, 82, 83, 84, 85, 86, 87, 88, 16, 89, 18, 28, 90] (by decide +kernel) (by decide +kernel)
set_option maxRecDepth 20000 in
theorem ggL_isBest_X3_count_2 : GoodIn wsL_isBest wsX3_count_r2 := goodIn_r _ [91, 92, 93, 94, 95, 96, 97, 98, 99, 100, 101, 19, 41, 42, 43, 44, 45, 46, 31, 47, 48, 49, 50, 51] (by decide +kernel) (by decide +kernel)
set_option maxRecDepth 20000 in
theorem ggL_isBest_X3_count_3 : GoodIn wsL_isBest wsX3_count_r3 := goodIn_r _ [29, 30, 32, 11, 4, 12] (by decide +kernel) (by decide +kernel)
set_option maxRecDepth 20000 in
theorem ggL_isBest_X3_count_4 : GoodIn wsL_isBest wsX30 := goodIn_r _ [194, 195, 196, 197, 198, 199, 200] (by decide +kernel) (by decide +kernel)
set_option maxRecDepth 20000 in
theorem ggL_isBest_X3_count_5 : GoodIn wsL_isBest wsX10 := goodIn_r _ [201, 202, 203, 204, 205, 206, 207, 208, 209, 210, 211, 212, 213, 214, 215, 216, 217] (by decide +kernel) (by decide +kernel)
set_option maxRecDepth 20000 in
theorem ggL_isBest_X3_count_6 : GoodIn wsL_isBest wsX00 := goodIn_r _ [218, 219] (by decide +kernel) (by decide +kernel)
set_option maxRecDepth 20000 in
theorem ggL_isBest_X3_count_7 : GoodIn wsL_isBest wsX20 := goodIn_r _ [220, 221, 222, 223, 224, 225, 226] (by decide +kernel) (by decide +kernel)
theorem ggL_isBest_X3_count : GoodIn wsL_isBest wsX3_count := fun w h => (List.mem_cons.mp h).elim (fun z => ggL_isBest_X3_count_0 w (List.mem_singleton.mpr z)) (fun z => (List.forall_mem_append.mpr ⟨List.forall_mem_append.mpr ⟨List.forall_mem_append.mpr ⟨List.forall_mem_append.mpr ⟨List.forall_mem_append.mpr ⟨ggL_isBest_X3_count_1, List.forall_mem_append.mpr ⟨ggL_isBest_X3_count_2, ggL_isBest_X3_count_3⟩⟩, ggL_isBest_X3_count_4⟩, ggL_isBest_X3_count_5⟩, ggL_isBest_X3_count_6⟩, ggL_isBest_X3_count_7⟩) w z)
set_option maxRecDepth 20000 in
theorem gL_isBest_X3_count : GoodIn wsL_isBest (wsV RL 9 RX3 yX3_count wsX3_count) := goodIn_app (goodIn_of _ (by decide +kernel)) ggL_isBest_X3_count
set_option maxRecDepth 20000 in
theorem ggL_isBest_X3_reason : GoodIn wsL_isBest wsX3_reason := goodIn_r _ [117, 6, 118, 119, 120, 16, 121, 18, 122, 57, 58, 59, 19, 28, 194, 195, 196, 197, 198, 199, 200, 201, 202, 203, 204, 205, 206, 207, 208, 209, 210, 211, 212, 213, 214, 215, 216, 217] (by decide +kernel) (by decide +kernel)
set_option maxRecDepth 20000 in
theorem gL_isBest_X3_reason : GoodIn wsL_isBest (wsV RL 77 RX3 yX3_reason wsX3_reason) := goodIn_app (goodIn_of _ (by decide +kernel)) ggL_isBest_X3_reason
set_option maxRecDepth 20000 in
theorem ggL_isBest_X3_person_0 : GoodIn wsL_isBest [.code yX3_person cX3_person 3 (some .int)] := goodIn_r _ [126] (by decide +kernel) (by decide +kernel)
set_option maxRecDepth 20000 in
theorem ggL_isBest_X3_person_1 : GoodIn wsL_isBest wsX3_person_r1 := goodIn_r _ [6, 127, 128, 106, 129, 130, 131, 107, 108, 109, 16, 110, 18, 132, 42, 43, 44, 19, 45, 46, 31, 47, 133, 49] (by decide +kernel) (by decide +kernel)
set_option maxRecDepth 20000 in
theorem ggL_isBest_X3_person_2 : GoodIn wsL_isBest wsX3_person_r2 := goodIn_r _ [50, 51, 29, 30, 32, 134, 99, 100, 101, 41, 48, 11, 4, 12] (by decide +kernel) (by decide +kernel)
set_option maxRecDepth 20000 in
theorem ggL_isBest_X3_person_3 : GoodIn wsL_isBest wsX30 := goodIn_r _ [194, 195, 196, 197, 198, 199, 200] (by decide +kernel) (by decide +kernel)
set_option maxRecDepth 20000 in
theorem ggL_isBest_X3_person_4 : GoodIn wsL_isBest wsX10 := goodIn_r _ [201, 202, 203, 204, 205, 206, 207, 208, 209, 210, 211, 212, 213, 214, 215, 216, 217] (by decide +kernel) (by decide +kernel)
theorem ggL_isBest_X3_person : GoodIn wsL_isBest wsX3_person := fun w h => (List.mem_cons.mp h).elim (fun z => ggL_isBest_X3_person_0 w (List.mem_singleton.mpr z)) (fun z => (List.forall_mem_append.mpr ⟨List.forall_mem_append.mpr ⟨List.forall_mem_append.mpr ⟨ggL_isBest_X3_person_1, ggL_isBest_X3_person_2⟩, ggL_isBest_X3_person_3⟩, ggL_isBest_X3_person_4⟩) w z)
set_option maxRecDepth 20000 in
theorem gL_isBest_X3_person : GoodIn wsL_isBest (wsV RL 52 RX3 yX3_person wsX3_person) := goodIn_app (goodIn_of _ (by decide +kernel)) ggL_isBest_X3_person
set_option maxRecDepth 20000 in
theorem ggL_isBest_X3_swap_0 : GoodIn wsL_isBest [.code yX3_swap cX3_swap 2 (some .int)] := goodIn_r _ [138] (by decide +kernel) (by decide +kernel)
set_option maxRecDepth 20000 in
theorem ggL_isBest_X3_swap_1 : GoodIn wsL_isBest wsX3_swap_r1 := goodIn_r _ [82, 6, 139, 140, 141, 142, 143, 144, 145, 146, 147, 148, 149, 150, 151, 152, 16, 153, 154, 155, 156, 157, 158, 28] (by decide +kernel) (by decide +kernel)
set_option maxRecDepth 20000 in
theorem ggL_isBest_X3_swap_2 : GoodIn wsL_isBest wsX3_swap_r2 := goodIn_r _ [159, 160, 19, 161, 162, 18, 163, 164, 165, 166, 167, 168, 169, 170, 171, 172, 173, 174, 175, 176, 119, 120, 121, 56] (by decide +kernel) (by decide +kernel)
set_option maxRecDepth 20000 in
theorem ggL_isBest_X3_swap_3 : GoodIn wsL_isBest wsX3_swap_r3 := goodIn_r _ [57, 58, 59, 60, 61, 62, 177, 178, 179, 4, 180, 181, 182, 183, 184] (by decide +kernel) (by decide +kernel)
set_option maxRecDepth 20000 in
theorem ggL_isBest_X3_swap_4 : GoodIn wsL_isBest wsX30 := goodIn_r _ [194, 195, 196, 197, 198, 199, 200] (by decide +kernel) (by decide +kernel)
set_option maxRecDepth 20000 in
theorem ggL_isBest_X3_swap_5 : GoodIn wsL_isBest wsX00 := goodIn_r _ [218, 219] (by decide +kernel) (by decide +kernel)
set_option maxRecDepth 20000 in
theorem ggL_isBest_X3_swap_6 : GoodIn wsL_isBest wsX10 := goodIn_r _ [201, 202, 203, 204, 205, 206, 207, 208, 209, 210, 211, 212, 213, 214, 215, 216, 217] (by decide +kernel) (by decide +kernel)
theorem ggL_isBest_X3_swap : GoodIn wsL_isBest wsX3_swap := fun w h => (List.mem_cons.mp h).elim (fun z => ggL_isBest_X3_swap_0 w (List.mem_singleton.mpr z)) (fun z => (List.forall_mem_append.mpr ⟨List.forall_mem_append.mpr ⟨List.forall_mem_append.mpr ⟨List.forall_mem_append.mpr ⟨ggL_isBest_X3_swap_1, List.forall_mem_append.mpr ⟨ggL_isBest_X3_swap_2, ggL_isBest_X3_swap_3⟩⟩, ggL_isBest_X3_swap_4⟩, ggL_isBest_X3_swap_5⟩, ggL_isBest_X3_swap_6⟩) w z)
set_option maxRecDepth 20000 in
theorem gL_isBest_X3_swap : GoodIn wsL_isBest (wsV RL 31 RX3 yX3_swap wsX3_swap) := goodIn_app (goodIn_of _ (by decide +kernel)) ggL_isBest_X3_swap
set_option maxRecDepth 20000 in
theorem ggL_isBest_X3_undo_0 : GoodIn wsL_isBest [.code yX3_undo cX3_undo 1 (some .int)] := goodIn_r _ [188] (by decide +kernel) (by decide +kernel)
set_option maxRecDepth 20000 in
theorem ggL_isBest_X3_undo_1 : GoodIn wsL_isBest wsX3_undo_r1 := goodIn_r _ [82, 83, 6, 189, 190, 191, 142, 192, 149, 148, 193, 151, 152, 16, 153, 154, 155, 156, 157, 158, 28, 159, 160, 19] (by decide +kernel) (by decide +kernel)
set_option maxRecDepth 20000 in
theorem ggL_isBest_X3_undo_2 : GoodIn wsL_isBest wsX3_undo_r2 := goodIn_r _ [161, 162, 18, 163, 164, 165, 166, 167, 168, 169, 170, 171] (by decide +kernel) (by decide +kernel)
set_option maxRecDepth 20000 in
theorem ggL_isBest_X3_undo_3 : GoodIn wsL_isBest wsX30 := goodIn_r _ [194, 195, 196, 197, 198, 199, 200] (by decide +kernel) (by decide +kernel)
set_option maxRecDepth 20000 in
theorem ggL_isBest_X3_undo_4 : GoodIn wsL_isBest wsX00 := goodIn_r _ [218, 219] (by decide +kernel) (by decide +kernel)
set_option maxRecDepth 20000 in
theorem ggL_isBest_X3_undo_5 : GoodIn wsL_isBest wsX10 := goodIn_r _ [201, 202, 203, 204, 205, 206, 207, 208, 209, 210, 211, 212, 213, 214, 215, 216, 217] (by decide +kernel) (by decide +kernel)
theorem ggL_isBest_X3_undo : GoodIn wsL_isBest wsX3_undo := fun w h => (List.mem_cons.mp h).elim (fun z => ggL_isBest_X3_undo_0 w (List.mem_singleton.mpr z)) (fun z => (List.forall_mem_append.mpr ⟨List.forall_mem_append.mpr ⟨List.forall_mem_append.mpr ⟨List.forall_mem_append.mpr ⟨ggL_isBest_X3_undo_1, ggL_isBest_X3_undo_2⟩, ggL_isBest_X3_undo_3⟩, ggL_isBest_X3_undo_4⟩, ggL_isBest_X3_undo_5⟩) w z)
set_option maxRecDepth 20000 in
theorem gL_isBest_X3_undo : GoodIn wsL_isBest (wsV RL 80 RX3 yX3_undo wsX3_undo) := goodIn_app (goodIn_of _ (by decide +kernel)) ggL_isBest_X3_undo
theorem dL_isBest_0 : decode cL_isBest 0 = .ok (.aload_n 0, 1) := by decide +kernel
theorem dL_isBest_1 : decode cL_isBest 1 = .ok (.iload_n 1, 1) := by decide +kernel
theorem dL_isBest_2 : decode cL_isBest 2 = .ok (.iload_n 2, 1) := by decide +kernel
theorem dL_isBest_3 : decode cL_isBest 3 = .ok (.invokevirtual 71, 3) := by decide +kernel
theorem dL_isBest_6 : decode cL_isBest 6 = .ok (.istore_n 3, 1) := by decide +kernel
theorem dL_isBest_7 : decode cL_isBest 7 = .ok (.aload_n 0, 1) := by decide +kernel
theorem dL_isBest_8 : decode cL_isBest 8 = .ok (.iload_n 1, 1) := by decide +kernel
theorem dL_isBest_9 : decode cL_isBest 9 = .ok (.iload_n 2, 1) := by decide +kernel
theorem dL_isBest_10 : decode cL_isBest 10 = .ok (.invokestatic 74, 3) := by decide +kernel
theorem dL_isBest_13 : decode cL_isBest 13 = .ok (.istore 4, 2) := by decide +kernel
theorem dL_isBest_15 : decode cL_isBest 15 = .ok (.bipush (-5), 2) := by decide +kernel
theorem dL_isBest_17 : decode cL_isBest 17 = .ok (.istore 5, 2) := by decide +kernel
theorem dL_isBest_19 : decode cL_isBest 19 = .ok (.iconst 0, 1) := by decide +kernel
theorem dL_isBest_20 : decode cL_isBest 20 = .ok (.istore 6, 2) := by decide +kernel
theorem dL_isBest_22 : decode cL_isBest 22 = .ok (.iload 6, 2) := by decide +kernel
theorem dL_isBest_24 : decode cL_isBest 24 = .ok (.iconst 1, 1) := by decide +kernel
theorem dL_isBest_25 : decode cL_isBest 25 = .ok (.iadd, 1) := by decide +kernel
theorem dL_isBest_26 : decode cL_isBest 26 = .ok (.aload_n 0, 1) := by decide +kernel
theorem dL_isBest_27 : decode cL_isBest 27 = .ok (.iconst 0, 1) := by decide +kernel
theorem dL_isBest_28 : decode cL_isBest 28 = .ok (.invokevirtual 9, 3) := by decide +kernel
theorem dL_isBest_31 : decode cL_isBest 31 = .ok (.if_icmp .ge 109, 3) := by decide +kernel
theorem dL_isBest_34 : decode cL_isBest 34 = .ok (.aload_n 0, 1) := by decide +kernel
theorem dL_isBest_35 : decode cL_isBest 35 = .ok (.iload 6, 2) := by decide +kernel
theorem dL_isBest_37 : decode cL_isBest 37 = .ok (.invokevirtual 77, 3) := by decide +kernel
theorem dL_isBest_40 : decode cL_isBest 40 = .ok (.istore 7, 2) := by decide +kernel
theorem dL_isBest_42 : decode cL_isBest 42 = .ok (.aload_n 0, 1) := by decide +kernel
theorem dL_isBest_43 : decode cL_isBest 43 = .ok (.iload 6, 2) := by decide +kernel
theorem dL_isBest_45 : decode cL_isBest 45 = .ok (.iconst 1, 1) := by decide +kernel
theorem dL_isBest_46 : decode cL_isBest 46 = .ok (.iadd, 1) := by decide +kernel
theorem dL_isBest_47 : decode cL_isBest 47 = .ok (.iconst 4, 1) := by decide +kernel
theorem dL_isBest_48 : decode cL_isBest 48 = .ok (.invokevirtual 52, 3) := by decide +kernel
theorem dL_isBest_51 : decode cL_isBest 51 = .ok (.istore 8, 2) := by decide +kernel
theorem dL_isBest_53 : decode cL_isBest 53 = .ok (.aload_n 0, 1) := by decide +kernel
theorem dL_isBest_54 : decode cL_isBest 54 = .ok (.iload 6, 2) := by decide +kernel
theorem dL_isBest_56 : decode cL_isBest 56 = .ok (.invokevirtual 31, 3) := by decide +kernel
theorem dL_isBest_59 : decode cL_isBest 59 = .ok (.istore 9, 2) := by decide +kernel
theorem dL_isBest_61 : decode cL_isBest 61 = .ok (.iload 9, 2) := by decide +kernel
theorem dL_isBest_63 : decode cL_isBest 63 = .ok (.iload 7, 2) := by decide +kernel
theorem dL_isBest_65 : decode cL_isBest 65 = .ok (.ifCond .le 11, 3) := by decide +kernel
theorem dL_isBest_68 : decode cL_isBest 68 = .ok (.bipush (-10), 2) := by decide +kernel
theorem dL_isBest_70 : decode cL_isBest 70 = .ok (.iload 7, 2) := by decide +kernel
theorem dL_isBest_72 : decode cL_isBest 72 = .ok (.isub, 1) := by decide +kernel
theorem dL_isBest_73 : decode cL_isBest 73 = .ok (.goto 5, 3) := by decide +kernel
theorem dL_isBest_76 : decode cL_isBest 76 = .ok (.iload 8, 2) := by decide +kernel
theorem dL_isBest_78 : decode cL_isBest 78 = .ok (.if_icmp .eq 5, 3) := by decide +kernel
theorem dL_isBest_81 : decode cL_isBest 81 = .ok (.iconst 0, 1) := by decide +kernel
theorem dL_isBest_82 : decode cL_isBest 82 = .ok (.ireturn, 1) := by decide +kernel
theorem dL_isBest_83 : decode cL_isBest 83 = .ok (.iload 9, 2) := by decide +kernel
theorem dL_isBest_85 : decode cL_isBest 85 = .ok (.ifCond .lt 49, 3) := by decide +kernel
theorem dL_isBest_88 : decode cL_isBest 88 = .ok (.aload_n 0, 1) := by decide +kernel
theorem dL_isBest_89 : decode cL_isBest 89 = .ok (.iload_n 1, 1) := by decide +kernel
theorem dL_isBest_90 : decode cL_isBest 90 = .ok (.iload_n 2, 1) := by decide +kernel
theorem dL_isBest_91 : decode cL_isBest 91 = .ok (.invokestatic 74, 3) := by decide +kernel
theorem dL_isBest_94 : decode cL_isBest 94 = .ok (.istore 10, 2) := by decide +kernel
theorem dL_isBest_96 : decode cL_isBest 96 = .ok (.iload 10, 2) := by decide +kernel
theorem dL_isBest_98 : decode cL_isBest 98 = .ok (.iload 4, 2) := by decide +kernel
theorem dL_isBest_100 : decode cL_isBest 100 = .ok (.if_icmp .ge 8, 3) := by decide +kernel
theorem dL_isBest_103 : decode cL_isBest 103 = .ok (.iload 6, 2) := by decide +kernel
theorem dL_isBest_105 : decode cL_isBest 105 = .ok (.goto 5, 3) := by decide +kernel
theorem dL_isBest_108 : decode cL_isBest 108 = .ok (.iload 5, 2) := by decide +kernel
theorem dL_isBest_110 : decode cL_isBest 110 = .ok (.istore 5, 2) := by decide +kernel
theorem dL_isBest_112 : decode cL_isBest 112 = .ok (.iload 10, 2) := by decide +kernel
theorem dL_isBest_114 : decode cL_isBest 114 = .ok (.iload 4, 2) := by decide +kernel
theorem dL_isBest_116 : decode cL_isBest 116 = .ok (.if_icmp .ge 8, 3) := by decide +kernel
theorem dL_isBest_119 : decode cL_isBest 119 = .ok (.iload 10, 2) := by decide +kernel
theorem dL_isBest_121 : decode cL_isBest 121 = .ok (.goto 5, 3) := by decide +kernel
theorem dL_isBest_124 : decode cL_isBest 124 = .ok (.iload 4, 2) := by decide +kernel
theorem dL_isBest_126 : decode cL_isBest 126 = .ok (.istore 4, 2) := by decide +kernel
theorem dL_isBest_128 : decode cL_isBest 128 = .ok (.aload_n 0, 1) := by decide +kernel
theorem dL_isBest_129 : decode cL_isBest 129 = .ok (.invokevirtual 80, 3) := by decide +kernel
theorem dL_isBest_132 : decode cL_isBest 132 = .ok (.istore 9, 2) := by decide +kernel
theorem dL_isBest_134 : decode cL_isBest 134 = .ok (.iinc 6 1, 3) := by decide +kernel
theorem dL_isBest_137 : decode cL_isBest 137 = .ok (.goto (-115), 3) := by decide +kernel
theorem dL_isBest_140 : decode cL_isBest 140 = .ok (.iload_n 3, 1) := by decide +kernel
theorem dL_isBest_141 : decode cL_isBest 141 = .ok (.iload 5, 2) := by decide +kernel
theorem dL_isBest_143 : decode cL_isBest 143 = .ok (.if_icmp .ne 7, 3) := by decide +kernel
theorem dL_isBest_146 : decode cL_isBest 146 = .ok (.iconst 1, 1) := by decide +kernel
theorem dL_isBest_147 : decode cL_isBest 147 = .ok (.goto 4, 3) := by decide +kernel
theorem dL_isBest_150 : decode cL_isBest 150 = .ok (.iconst 0, 1) := by decide +kernel
theorem dL_isBest_151 : decode cL_isBest 151 = .ok (.ireturn, 1) := by decide +kernel
set_option maxRecDepth 20000 in
theorem ggL_holds_X3_count_0 : GoodIn wsL_holds [.code yX3_count cX3_count 2 (some .int)] := goodIn_r _ [5] (by decide +kernel) (by decide +kernel)
set_option maxRecDepth 20000 in
theorem ggL_holds_X3_count_1 : GoodIn wsL_holds wsX3_count_r1 := goodIn_r _ [6, 7, 8, 9, 10, 11, 12, 13, 14, 15, 16, 17, 18, 19, 20, 21, 22, 23, 24, 25, 26, 27, 28, 29] (by decide +kernel) (by decide +kernel)
set_option maxRecDepth 20000 in
theorem ggL_holds_X3_count_2 : GoodIn wsL_holds wsX3_count_r2 := goodIn_r _ [30, 31, 32, 33, 34, 35, 36, 37, 38, 39, 40, 41, 42, 43, 44, 45, 46, 47, 48, 49, 50, 51, 52, 53] (by decide +kernel) (by decide +kernel)
set_option maxRecDepth 20000 in
theorem ggL_holds_X3_count_3 : GoodIn wsL_holds wsX3_count_r3 := goodIn_r _ [54, 55, 56, 57, 4, 58] (by decide +kernel) (by decide +kernel)
set_option maxRecDepth 20000 in
theorem ggL_holds_X3_count_4 : GoodIn wsL_holds wsX30 := goodIn_r _ [151, 152, 153, 154, 155, 156, 157] (by decide +kernel) (by decide +kernel)
set_option maxRecDepth 20000 in
theorem ggL_holds_X3_count_5 : GoodIn wsL_holds wsX10 := goodIn_r _ [158, 159, 160, 161, 162, 163, 164, 165, 166, 167, 168, 169, 170, 171, 172, 173, 174] (by decide +kernel) (by decide +kernel)
set_option maxRecDepth 20000 in
theorem ggL_holds_X3_count_6 : GoodIn wsL_holds wsX00 := goodIn_r _ [175, 176] (by decide +kernel) (by decide +kernel)
set_option maxRecDepth 20000 in
theorem ggL_holds_X3_count_7 : GoodIn wsL_holds wsX20 := goodIn_r _ [177, 178, 179, 180, 181, 182, 183] (by decide +kernel) (by decide +kernel)
theorem ggL_holds_X3_count : GoodIn wsL_holds wsX3_count := fun w h => (List.mem_cons.mp h).elim (fun z => ggL_holds_X3_count_0 w (List.mem_singleton.mpr z)) (fun z => (List.forall_mem_append.mpr ⟨List.forall_mem_append.mpr ⟨List.forall_mem_append.mpr ⟨List.forall_mem_append.mpr ⟨List.forall_mem_append.mpr ⟨ggL_holds_X3_count_1, List.forall_mem_append.mpr ⟨ggL_holds_X3_count_2, ggL_holds_X3_count_3⟩⟩, ggL_holds_X3_count_4⟩, ggL_holds_X3_count_5⟩, ggL_holds_X3_count_6⟩, ggL_holds_X3_count_7⟩) w z)
set_option maxRecDepth 20000 in
theorem gL_holds_X3_count : GoodIn wsL_holds (wsV RL 9 RX3 yX3_count wsX3_count) := goodIn_app (goodIn_of _ (by decide +kernel)) ggL_holds_X3_count
set_option maxRecDepth 20000 in
theorem ggL_holds_X3_person_0 : GoodIn wsL_holds [.code yX3_person cX3_person 3 (some .int)] := goodIn_r _ [62] (by decide +kernel) (by decide +kernel)
set_option maxRecDepth 20000 in
theorem ggL_holds_X3_person_1 : GoodIn wsL_holds wsX3_person_r1 := goodIn_r _ [6, 63, 64, 65, 66, 67, 68, 69, 70, 71, 25, 72, 27, 73, 43, 44, 45, 41, 46, 47, 48, 49, 74, 51] (by decide +kernel) (by decide +kernel)
set_option maxRecDepth 20000 in
theorem ggL_holds_X3_person_2 : GoodIn wsL_holds wsX3_person_r2 := goodIn_r _ [52, 53, 54, 55, 56, 75, 38, 39, 40, 42, 50, 57, 4, 58] (by decide +kernel) (by decide +kernel)
set_option maxRecDepth 20000 in
theorem ggL_holds_X3_person_3 : GoodIn wsL_holds wsX30 := goodIn_r _ [151, 152, 153, 154, 155, 156, 157] (by decide +kernel) (by decide +kernel)
set_option maxRecDepth 20000 in
theorem ggL_holds_X3_person_4 : GoodIn wsL_holds wsX10 := goodIn_r _ [158, 159, 160, 161, 162, 163, 164, 165, 166, 167, 168, 169, 170, 171, 172, 173, 174] (by decide +kernel) (by decide +kernel)
theorem ggL_holds_X3_person : GoodIn wsL_holds wsX3_person := fun w h => (List.mem_cons.mp h).elim (fun z => ggL_holds_X3_person_0 w (List.mem_singleton.mpr z)) (fun z => (List.forall_mem_append.mpr ⟨List.forall_mem_append.mpr ⟨List.forall_mem_append.mpr ⟨ggL_holds_X3_person_1, ggL_holds_X3_person_2⟩, ggL_holds_X3_person_3⟩, ggL_holds_X3_person_4⟩) w z)
set_option maxRecDepth 20000 in
theorem gL_holds_X3_person : GoodIn wsL_holds (wsV RL 52 RX3 yX3_person wsX3_person) := goodIn_app (goodIn_of _ (by decide +kernel)) ggL_holds_X3_person
set_option maxRecDepth 20000 in
theorem ggL_holds_L_isPerson_0 : GoodIn wsL_holds [.code yL_isPerson cL_isPerson 12 (some .boolean)] := goodIn_r _ [79] (by decide +kernel) (by decide +kernel)
set_option maxRecDepth 20000 in
theorem ggL_holds_L_isPerson_1 : GoodIn wsL_holds wsL_isPerson_r1 := goodIn_r _ [59, 60, 61, 4, 62, 6, 63, 64, 65, 66, 67, 68, 69, 70, 71, 25, 72, 27, 73, 43, 44, 45, 41, 46] (by decide +kernel) (by decide +kernel)
set_option maxRecDepth 20000 in
theorem ggL_holds_L_isPerson_2 : GoodIn wsL_holds wsL_isPerson_r2 := goodIn_r _ [47, 48, 49, 74, 51, 52, 53, 54, 55, 56, 75, 38, 39, 40, 42, 50, 57, 58, 1, 2, 3, 5, 7, 8] (by decide +kernel) (by decide +kernel)
set_option maxRecDepth 20000 in
theorem ggL_holds_L_isPerson_3 : GoodIn wsL_holds wsL_isPerson_r3 := goodIn_r _ [9, 10, 11, 12, 13, 14, 15, 16, 17, 18, 19, 20, 21, 22, 23, 24, 26, 28, 29, 30, 31, 32, 33, 34] (by decide +kernel) (by decide +kernel)
set_option maxRecDepth 20000 in
theorem ggL_holds_L_isPerson_4 : GoodIn wsL_holds wsL_isPerson_r4 := goodIn_r _ [35, 36, 37, 80, 81, 78, 82, 83, 84, 85, 86, 87, 88, 89, 90, 91, 92, 93, 94, 95, 96, 97, 98, 99] (by decide +kernel) (by decide +kernel)
set_option maxRecDepth 20000 in
theorem ggL_holds_L_isPerson_5 : GoodIn wsL_holds wsL_isPerson_r5 := goodIn_r _ [100, 101, 102, 103, 104, 105, 106, 107, 108, 109, 110, 111, 112, 113, 114, 115, 116, 117, 118, 119, 120, 121, 122, 123] (by decide +kernel) (by decide +kernel)
set_option maxRecDepth 20000 in
theorem ggL_holds_L_isPerson_6 : GoodIn wsL_holds wsL_isPerson_r6 := goodIn_r _ [124, 125, 126, 127, 128] (by decide +kernel) (by decide +kernel)
set_option maxRecDepth 20000 in
theorem ggL_holds_L_isPerson_7 : GoodIn wsL_holds wsX30 := goodIn_r _ [151, 152, 153, 154, 155, 156, 157] (by decide +kernel) (by decide +kernel)
set_option maxRecDepth 20000 in
theorem ggL_holds_L_isPerson_8 : GoodIn wsL_holds wsX10 := goodIn_r _ [158, 159, 160, 161, 162, 163, 164, 165, 166, 167, 168, 169, 170, 171, 172, 173, 174] (by decide +kernel) (by decide +kernel)
set_option maxRecDepth 20000 in
theorem ggL_holds_L_isPerson_9 : GoodIn wsL_holds wsX00 := goodIn_r _ [175, 176] (by decide +kernel) (by decide +kernel)
set_option maxRecDepth 20000 in
theorem ggL_holds_L_isPerson_10 : GoodIn wsL_holds wsX20 := goodIn_r _ [177, 178, 179, 180, 181, 182, 183] (by decide +kernel) (by decide +kernel)
theorem ggL_holds_L_isPerson : GoodIn wsL_holds wsL_isPerson := fun w h => (List.mem_cons.mp h).elim (fun z => ggL_holds_L_isPerson_0 w (List.mem_singleton.mpr z)) (fun z => (List.forall_mem_append.mpr ⟨List.forall_mem_append.mpr ⟨List.forall_mem_append.mpr ⟨List.forall_mem_append.mpr ⟨List.forall_mem_append.mpr ⟨ggL_holds_L_isPerson_1, List.forall_mem_append.mpr ⟨ggL_holds_L_isPerson_2, List.forall_mem_append.mpr ⟨ggL_holds_L_isPerson_3, List.forall_mem_append.mpr ⟨ggL_holds_L_isPerson_4, List.forall_mem_append.mpr ⟨ggL_holds_L_isPerson_5, ggL_holds_L_isPerson_6⟩⟩⟩⟩⟩, ggL_holds_L_isPerson_7⟩, ggL_holds_L_isPerson_8⟩, ggL_holds_L_isPerson_9⟩, ggL_holds_L_isPerson_10⟩) w z)
set_option maxRecDepth 20000 in
theorem gL_holds_L_isPerson : GoodIn wsL_holds (va_wsS RL 83 yL_isPerson wsL_isPerson) := goodIn_app (goodIn_of _ (by decide +kernel)) ggL_holds_L_isPerson
set_option maxRecDepth 20000 in
theorem ggL_holds_X3_payer : GoodIn wsL_holds wsX3_payer := goodIn_r _ [132, 6, 7, 87, 57, 4, 58, 133, 134, 135, 25, 136, 28, 137, 138, 139, 140, 27, 141, 54, 55, 48, 56, 142, 143, 144, 145, 146, 147, 148, 149, 150, 151, 152, 153, 154, 155, 156, 157, 158, 159, 160, 161, 162, 163, 164, 165, 166, 167, 168, 169, 170, 171, 172, 173, 174] (by decide +kernel) (by decide +kernel)
set_option maxRecDepth 20000 in
theorem gL_holds_X3_payer : GoodIn wsL_holds (wsV RL 86 RX3 yX3_payer wsX3_payer) := goodIn_app (goodIn_of _ (by decide +kernel)) ggL_holds_X3_payer
theorem dL_holds_0 : decode cL_holds 0 = .ok (.aload_n 0, 1) := by decide +kernel
theorem dL_holds_1 : decode cL_holds 1 = .ok (.iconst 0, 1) := by decide +kernel
theorem dL_holds_2 : decode cL_holds 2 = .ok (.invokevirtual 9, 3) := by decide +kernel
theorem dL_holds_5 : decode cL_holds 5 = .ok (.istore_n 2, 1) := by decide +kernel
theorem dL_holds_6 : decode cL_holds 6 = .ok (.iconst 0, 1) := by decide +kernel
theorem dL_holds_7 : decode cL_holds 7 = .ok (.istore_n 3, 1) := by decide +kernel
theorem dL_holds_8 : decode cL_holds 8 = .ok (.iconst 0, 1) := by decide +kernel
theorem dL_holds_9 : decode cL_holds 9 = .ok (.istore 4, 2) := by decide +kernel
theorem dL_holds_11 : decode cL_holds 11 = .ok (.aload_n 0, 1) := by decide +kernel
theorem dL_holds_12 : decode cL_holds 12 = .ok (.iload_n 2, 1) := by decide +kernel
theorem dL_holds_13 : decode cL_holds 13 = .ok (.iconst 0, 1) := by decide +kernel
theorem dL_holds_14 : decode cL_holds 14 = .ok (.invokevirtual 52, 3) := by decide +kernel
theorem dL_holds_17 : decode cL_holds 17 = .ok (.iconst (-1), 1) := by decide +kernel
theorem dL_holds_18 : decode cL_holds 18 = .ok (.if_icmp .ne 34, 3) := by decide +kernel
theorem dL_holds_21 : decode cL_holds 21 = .ok (.aload_n 0, 1) := by decide +kernel
theorem dL_holds_22 : decode cL_holds 22 = .ok (.iconst 1, 1) := by decide +kernel
theorem dL_holds_23 : decode cL_holds 23 = .ok (.invokevirtual 9, 3) := by decide +kernel
theorem dL_holds_26 : decode cL_holds 26 = .ok (.iload_n 2, 1) := by decide +kernel
theorem dL_holds_27 : decode cL_holds 27 = .ok (.aload_n 0, 1) := by decide +kernel
theorem dL_holds_28 : decode cL_holds 28 = .ok (.iconst 2, 1) := by decide +kernel
theorem dL_holds_29 : decode cL_holds 29 = .ok (.invokevirtual 9, 3) := by decide +kernel
theorem dL_holds_32 : decode cL_holds 32 = .ok (.iadd, 1) := by decide +kernel
theorem dL_holds_33 : decode cL_holds 33 = .ok (.aload_n 0, 1) := by decide +kernel
theorem dL_holds_34 : decode cL_holds 34 = .ok (.iconst 3, 1) := by decide +kernel
theorem dL_holds_35 : decode cL_holds 35 = .ok (.invokevirtual 9, 3) := by decide +kernel
theorem dL_holds_38 : decode cL_holds 38 = .ok (.iadd, 1) := by decide +kernel
theorem dL_holds_39 : decode cL_holds 39 = .ok (.aload_n 0, 1) := by decide +kernel
theorem dL_holds_40 : decode cL_holds 40 = .ok (.iconst 4, 1) := by decide +kernel
theorem dL_holds_41 : decode cL_holds 41 = .ok (.invokevirtual 9, 3) := by decide +kernel
theorem dL_holds_44 : decode cL_holds 44 = .ok (.iadd, 1) := by decide +kernel
theorem dL_holds_45 : decode cL_holds 45 = .ok (.if_icmp .ne 7, 3) := by decide +kernel
theorem dL_holds_48 : decode cL_holds 48 = .ok (.iconst 1, 1) := by decide +kernel
theorem dL_holds_49 : decode cL_holds 49 = .ok (.goto 4, 3) := by decide +kernel
theorem dL_holds_52 : decode cL_holds 52 = .ok (.iconst 0, 1) := by decide +kernel
theorem dL_holds_53 : decode cL_holds 53 = .ok (.istore 5, 2) := by decide +kernel
theorem dL_holds_55 : decode cL_holds 55 = .ok (.iconst 0, 1) := by decide +kernel
theorem dL_holds_56 : decode cL_holds 56 = .ok (.istore 6, 2) := by decide +kernel
theorem dL_holds_58 : decode cL_holds 58 = .ok (.iload 6, 2) := by decide +kernel
theorem dL_holds_60 : decode cL_holds 60 = .ok (.iload_n 2, 1) := by decide +kernel
theorem dL_holds_61 : decode cL_holds 61 = .ok (.if_icmp .ge 89, 3) := by decide +kernel
theorem dL_holds_64 : decode cL_holds 64 = .ok (.iload 5, 2) := by decide +kernel
theorem dL_holds_66 : decode cL_holds 66 = .ok (.ifCond .eq 84, 3) := by decide +kernel
theorem dL_holds_69 : decode cL_holds 69 = .ok (.aload_n 0, 1) := by decide +kernel
theorem dL_holds_70 : decode cL_holds 70 = .ok (.iload 6, 2) := by decide +kernel
theorem dL_holds_72 : decode cL_holds 72 = .ok (.iload_n 1, 1) := by decide +kernel
theorem dL_holds_73 : decode cL_holds 73 = .ok (.iload 6, 2) := by decide +kernel
theorem dL_holds_75 : decode cL_holds 75 = .ok (.iadd, 1) := by decide +kernel
theorem dL_holds_76 : decode cL_holds 76 = .ok (.invokestatic 83, 3) := by decide +kernel
theorem dL_holds_79 : decode cL_holds 79 = .ok (.ifCond .eq 31, 3) := by decide +kernel
theorem dL_holds_82 : decode cL_holds 82 = .ok (.iload 6, 2) := by decide +kernel
theorem dL_holds_84 : decode cL_holds 84 = .ok (.ifCond .eq 22, 3) := by decide +kernel
theorem dL_holds_87 : decode cL_holds 87 = .ok (.aload_n 0, 1) := by decide +kernel
theorem dL_holds_88 : decode cL_holds 88 = .ok (.iload 6, 2) := by decide +kernel
theorem dL_holds_90 : decode cL_holds 90 = .ok (.iconst 0, 1) := by decide +kernel
theorem dL_holds_91 : decode cL_holds 91 = .ok (.invokevirtual 52, 3) := by decide +kernel
theorem dL_holds_94 : decode cL_holds 94 = .ok (.aload_n 0, 1) := by decide +kernel
theorem dL_holds_95 : decode cL_holds 95 = .ok (.iload 6, 2) := by decide +kernel
theorem dL_holds_97 : decode cL_holds 97 = .ok (.iconst 1, 1) := by decide +kernel
theorem dL_holds_98 : decode cL_holds 98 = .ok (.isub, 1) := by decide +kernel
theorem dL_holds_99 : decode cL_holds 99 = .ok (.iconst 0, 1) := by decide +kernel
theorem dL_holds_100 : decode cL_holds 100 = .ok (.invokevirtual 52, 3) := by decide +kernel
theorem dL_holds_103 : decode cL_holds 103 = .ok (.if_icmp .eq 7, 3) := by decide +kernel
theorem dL_holds_106 : decode cL_holds 106 = .ok (.iconst 1, 1) := by decide +kernel
theorem dL_holds_107 : decode cL_holds 107 = .ok (.goto 4, 3) := by decide +kernel
theorem dL_holds_110 : decode cL_holds 110 = .ok (.iconst 0, 1) := by decide +kernel
theorem dL_holds_111 : decode cL_holds 111 = .ok (.istore 5, 2) := by decide +kernel
theorem dL_holds_113 : decode cL_holds 113 = .ok (.iload_n 3, 1) := by decide +kernel
theorem dL_holds_114 : decode cL_holds 114 = .ok (.aload_n 0, 1) := by decide +kernel
theorem dL_holds_115 : decode cL_holds 115 = .ok (.iload 6, 2) := by decide +kernel
theorem dL_holds_117 : decode cL_holds 117 = .ok (.iconst 1, 1) := by decide +kernel
theorem dL_holds_118 : decode cL_holds 118 = .ok (.invokevirtual 52, 3) := by decide +kernel
theorem dL_holds_121 : decode cL_holds 121 = .ok (.iadd, 1) := by decide +kernel
theorem dL_holds_122 : decode cL_holds 122 = .ok (.istore_n 3, 1) := by decide +kernel
theorem dL_holds_123 : decode cL_holds 123 = .ok (.iload 4, 2) := by decide +kernel
theorem dL_holds_125 : decode cL_holds 125 = .ok (.aload_n 0, 1) := by decide +kernel
theorem dL_holds_126 : decode cL_holds 126 = .ok (.iload 6, 2) := by decide +kernel
theorem dL_holds_128 : decode cL_holds 128 = .ok (.bipush 7, 2) := by decide +kernel
theorem dL_holds_130 : decode cL_holds 130 = .ok (.invokevirtual 52, 3) := by decide +kernel
theorem dL_holds_133 : decode cL_holds 133 = .ok (.ifCond .ne 7, 3) := by decide +kernel
theorem dL_holds_136 : decode cL_holds 136 = .ok (.iconst 1, 1) := by decide +kernel
theorem dL_holds_137 : decode cL_holds 137 = .ok (.goto 4, 3) := by decide +kernel
theorem dL_holds_140 : decode cL_holds 140 = .ok (.iconst 0, 1) := by decide +kernel
theorem dL_holds_141 : decode cL_holds 141 = .ok (.iadd, 1) := by decide +kernel
theorem dL_holds_142 : decode cL_holds 142 = .ok (.istore 4, 2) := by decide +kernel
theorem dL_holds_144 : decode cL_holds 144 = .ok (.iinc 6 1, 3) := by decide +kernel
theorem dL_holds_147 : decode cL_holds 147 = .ok (.goto (-89), 3) := by decide +kernel
theorem dL_holds_150 : decode cL_holds 150 = .ok (.aload_n 0, 1) := by decide +kernel
theorem dL_holds_151 : decode cL_holds 151 = .ok (.bipush 11, 2) := by decide +kernel
theorem dL_holds_153 : decode cL_holds 153 = .ok (.invokevirtual 9, 3) := by decide +kernel
theorem dL_holds_156 : decode cL_holds 156 = .ok (.istore 6, 2) := by decide +kernel
theorem dL_holds_158 : decode cL_holds 158 = .ok (.iload 5, 2) := by decide +kernel
theorem dL_holds_160 : decode cL_holds 160 = .ok (.ifCond .eq 52, 3) := by decide +kernel
theorem dL_holds_163 : decode cL_holds 163 = .ok (.iload_n 3, 1) := by decide +kernel
theorem dL_holds_164 : decode cL_holds 164 = .ok (.aload_n 0, 1) := by decide +kernel
theorem dL_holds_165 : decode cL_holds 165 = .ok (.bipush 10, 2) := by decide +kernel
theorem dL_holds_167 : decode cL_holds 167 = .ok (.invokevirtual 9, 3) := by decide +kernel
theorem dL_holds_170 : decode cL_holds 170 = .ok (.if_icmp .ne 42, 3) := by decide +kernel
theorem dL_holds_173 : decode cL_holds 173 = .ok (.iload 4, 2) := by decide +kernel
theorem dL_holds_175 : decode cL_holds 175 = .ok (.aload_n 0, 1) := by decide +kernel
theorem dL_holds_176 : decode cL_holds 176 = .ok (.bipush 12, 2) := by decide +kernel
theorem dL_holds_178 : decode cL_holds 178 = .ok (.invokevirtual 9, 3) := by decide +kernel
theorem dL_holds_181 : decode cL_holds 181 = .ok (.if_icmp .ne 31, 3) := by decide +kernel
theorem dL_holds_184 : decode cL_holds 184 = .ok (.iload 6, 2) := by decide +kernel
theorem dL_holds_186 : decode cL_holds 186 = .ok (.bipush (-5), 2) := by decide +kernel
theorem dL_holds_188 : decode cL_holds 188 = .ok (.if_icmp .ne 7, 3) := by decide +kernel
theorem dL_holds_191 : decode cL_holds 191 = .ok (.iconst 1, 1) := by decide +kernel
theorem dL_holds_192 : decode cL_holds 192 = .ok (.goto 4, 3) := by decide +kernel
theorem dL_holds_195 : decode cL_holds 195 = .ok (.iconst 0, 1) := by decide +kernel
theorem dL_holds_196 : decode cL_holds 196 = .ok (.iload_n 2, 1) := by decide +kernel
theorem dL_holds_197 : decode cL_holds 197 = .ok (.ifCond .ne 7, 3) := by decide +kernel
theorem dL_holds_200 : decode cL_holds 200 = .ok (.iconst 1, 1) := by decide +kernel
theorem dL_holds_201 : decode cL_holds 201 = .ok (.goto 4, 3) := by decide +kernel
theorem dL_holds_204 : decode cL_holds 204 = .ok (.iconst 0, 1) := by decide +kernel
theorem dL_holds_205 : decode cL_holds 205 = .ok (.if_icmp .ne 7, 3) := by decide +kernel
theorem dL_holds_208 : decode cL_holds 208 = .ok (.iconst 1, 1) := by decide +kernel
theorem dL_holds_209 : decode cL_holds 209 = .ok (.goto 4, 3) := by decide +kernel
theorem dL_holds_212 : decode cL_holds 212 = .ok (.iconst 0, 1) := by decide +kernel
theorem dL_holds_213 : decode cL_holds 213 = .ok (.istore 5, 2) := by decide +kernel
theorem dL_holds_215 : decode cL_holds 215 = .ok (.iconst 0, 1) := by decide +kernel
theorem dL_holds_216 : decode cL_holds 216 = .ok (.istore 7, 2) := by decide +kernel
theorem dL_holds_218 : decode cL_holds 218 = .ok (.iload 7, 2) := by decide +kernel
theorem dL_holds_220 : decode cL_holds 220 = .ok (.iload_n 2, 1) := by decide +kernel
theorem dL_holds_221 : decode cL_holds 221 = .ok (.if_icmp .ge 62, 3) := by decide +kernel
theorem dL_holds_224 : decode cL_holds 224 = .ok (.iload 5, 2) := by decide +kernel
theorem dL_holds_226 : decode cL_holds 226 = .ok (.ifCond .eq 57, 3) := by decide +kernel
theorem dL_holds_229 : decode cL_holds 229 = .ok (.aload_n 0, 1) := by decide +kernel
theorem dL_holds_230 : decode cL_holds 230 = .ok (.iload 7, 2) := by decide +kernel
theorem dL_holds_232 : decode cL_holds 232 = .ok (.iconst 1, 1) := by decide +kernel
theorem dL_holds_233 : decode cL_holds 233 = .ok (.invokevirtual 52, 3) := by decide +kernel
theorem dL_holds_236 : decode cL_holds 236 = .ok (.aload_n 0, 1) := by decide +kernel
theorem dL_holds_237 : decode cL_holds 237 = .ok (.iload 6, 2) := by decide +kernel
theorem dL_holds_239 : decode cL_holds 239 = .ok (.iconst 1, 1) := by decide +kernel
theorem dL_holds_240 : decode cL_holds 240 = .ok (.invokevirtual 52, 3) := by decide +kernel
theorem dL_holds_243 : decode cL_holds 243 = .ok (.if_icmp .lt 27, 3) := by decide +kernel
theorem dL_holds_246 : decode cL_holds 246 = .ok (.iload 7, 2) := by decide +kernel
theorem dL_holds_248 : decode cL_holds 248 = .ok (.iload 6, 2) := by decide +kernel
theorem dL_holds_250 : decode cL_holds 250 = .ok (.if_icmp .lt 24, 3) := by decide +kernel
theorem dL_holds_253 : decode cL_holds 253 = .ok (.aload_n 0, 1) := by decide +kernel
theorem dL_holds_254 : decode cL_holds 254 = .ok (.iload 7, 2) := by decide +kernel
theorem dL_holds_256 : decode cL_holds 256 = .ok (.iconst 1, 1) := by decide +kernel
theorem dL_holds_257 : decode cL_holds 257 = .ok (.invokevirtual 52, 3) := by decide +kernel
theorem dL_holds_260 : decode cL_holds 260 = .ok (.aload_n 0, 1) := by decide +kernel
theorem dL_holds_261 : decode cL_holds 261 = .ok (.iload 6, 2) := by decide +kernel
theorem dL_holds_263 : decode cL_holds 263 = .ok (.iconst 1, 1) := by decide +kernel
theorem dL_holds_264 : decode cL_holds 264 = .ok (.invokevirtual 52, 3) := by decide +kernel
theorem dL_holds_267 : decode cL_holds 267 = .ok (.if_icmp .ne 7, 3) := by decide +kernel
theorem dL_holds_270 : decode cL_holds 270 = .ok (.iconst 1, 1) := by decide +kernel
theorem dL_holds_271 : decode cL_holds 271 = .ok (.goto 4, 3) := by decide +kernel
theorem dL_holds_274 : decode cL_holds 274 = .ok (.iconst 0, 1) := by decide +kernel
theorem dL_holds_275 : decode cL_holds 275 = .ok (.istore 5, 2) := by decide +kernel
theorem dL_holds_277 : decode cL_holds 277 = .ok (.iinc 7 1, 3) := by decide +kernel
theorem dL_holds_280 : decode cL_holds 280 = .ok (.goto (-62), 3) := by decide +kernel
theorem dL_holds_283 : decode cL_holds 283 = .ok (.aload_n 0, 1) := by decide +kernel
theorem dL_holds_284 : decode cL_holds 284 = .ok (.iconst 0, 1) := by decide +kernel
theorem dL_holds_285 : decode cL_holds 285 = .ok (.invokevirtual 86, 3) := by decide +kernel
theorem dL_holds_288 : decode cL_holds 288 = .ok (.istore 7, 2) := by decide +kernel
theorem dL_holds_290 : decode cL_holds 290 = .ok (.aload_n 0, 1) := by decide +kernel
theorem dL_holds_291 : decode cL_holds 291 = .ok (.bipush 14, 2) := by decide +kernel
theorem dL_holds_293 : decode cL_holds 293 = .ok (.invokevirtual 9, 3) := by decide +kernel
theorem dL_holds_296 : decode cL_holds 296 = .ok (.iload_n 2, 1) := by decide +kernel
theorem dL_holds_297 : decode cL_holds 297 = .ok (.if_icmp .ge 12, 3) := by decide +kernel
theorem dL_holds_300 : decode cL_holds 300 = .ok (.aload_n 0, 1) := by decide +kernel
theorem dL_holds_301 : decode cL_holds 301 = .ok (.bipush 14, 2) := by decide +kernel
theorem dL_holds_303 : decode cL_holds 303 = .ok (.invokevirtual 9, 3) := by decide +kernel
theorem dL_holds_306 : decode cL_holds 306 = .ok (.goto 4, 3) := by decide +kernel
theorem dL_holds_309 : decode cL_holds 309 = .ok (.iload_n 2, 1) := by decide +kernel
theorem dL_holds_310 : decode cL_holds 310 = .ok (.istore 8, 2) := by decide +kernel
theorem dL_holds_312 : decode cL_holds 312 = .ok (.iload 8, 2) := by decide +kernel
theorem dL_holds_314 : decode cL_holds 314 = .ok (.aload_n 0, 1) := by decide +kernel
theorem dL_holds_315 : decode cL_holds 315 = .ok (.bipush 15, 2) := by decide +kernel
theorem dL_holds_317 : decode cL_holds 317 = .ok (.invokevirtual 9, 3) := by decide +kernel
theorem dL_holds_320 : decode cL_holds 320 = .ok (.imul, 1) := by decide +kernel
theorem dL_holds_321 : decode cL_holds 321 = .ok (.istore 9, 2) := by decide +kernel
theorem dL_holds_323 : decode cL_holds 323 = .ok (.iload 5, 2) := by decide +kernel
theorem dL_holds_325 : decode cL_holds 325 = .ok (.ifCond .eq 65, 3) := by decide +kernel
theorem dL_holds_328 : decode cL_holds 328 = .ok (.iload_n 2, 1) := by decide +kernel
theorem dL_holds_329 : decode cL_holds 329 = .ok (.ifCond .ne 13, 3) := by decide +kernel
theorem dL_holds_332 : decode cL_holds 332 = .ok (.iload 7, 2) := by decide +kernel
theorem dL_holds_334 : decode cL_holds 334 = .ok (.bipush (-5), 2) := by decide +kernel
theorem dL_holds_336 : decode cL_holds 336 = .ok (.if_icmp .ne 54, 3) := by decide +kernel
theorem dL_holds_339 : decode cL_holds 339 = .ok (.goto 47, 3) := by decide +kernel
theorem dL_holds_342 : decode cL_holds 342 = .ok (.iload 7, 2) := by decide +kernel
theorem dL_holds_344 : decode cL_holds 344 = .ok (.ifCond .lt 46, 3) := by decide +kernel
theorem dL_holds_347 : decode cL_holds 347 = .ok (.iload 7, 2) := by decide +kernel
theorem dL_holds_349 : decode cL_holds 349 = .ok (.iload 8, 2) := by decide +kernel
theorem dL_holds_351 : decode cL_holds 351 = .ok (.if_icmp .ge 39, 3) := by decide +kernel
theorem dL_holds_354 : decode cL_holds 354 = .ok (.aload_n 0, 1) := by decide +kernel
theorem dL_holds_355 : decode cL_holds 355 = .ok (.iconst 1, 1) := by decide +kernel
theorem dL_holds_356 : decode cL_holds 356 = .ok (.invokevirtual 86, 3) := by decide +kernel
theorem dL_holds_359 : decode cL_holds 359 = .ok (.iload 9, 2) := by decide +kernel
theorem dL_holds_361 : decode cL_holds 361 = .ok (.aload_n 0, 1) := by decide +kernel
theorem dL_holds_362 : decode cL_holds 362 = .ok (.iload 7, 2) := by decide +kernel
theorem dL_holds_364 : decode cL_holds 364 = .ok (.iconst 3, 1) := by decide +kernel
theorem dL_holds_365 : decode cL_holds 365 = .ok (.invokevirtual 52, 3) := by decide +kernel
theorem dL_holds_368 : decode cL_holds 368 = .ok (.if_icmp .ge 8, 3) := by decide +kernel
theorem dL_holds_371 : decode cL_holds 371 = .ok (.iload 9, 2) := by decide +kernel
theorem dL_holds_373 : decode cL_holds 373 = .ok (.goto 10, 3) := by decide +kernel
theorem dL_holds_376 : decode cL_holds 376 = .ok (.aload_n 0, 1) := by decide +kernel
theorem dL_holds_377 : decode cL_holds 377 = .ok (.iload 7, 2) := by decide +kernel
theorem dL_holds_379 : decode cL_holds 379 = .ok (.iconst 3, 1) := by decide +kernel
theorem dL_holds_380 : decode cL_holds 380 = .ok (.invokevirtual 52, 3) := by decide +kernel
theorem dL_holds_383 : decode cL_holds 383 = .ok (.if_icmp .ne 7, 3) := by decide +kernel
theorem dL_holds_386 : decode cL_holds 386 = .ok (.iconst 1, 1) := by decide +kernel
theorem dL_holds_387 : decode cL_holds 387 = .ok (.goto 4, 3) := by decide +kernel
theorem dL_holds_390 : decode cL_holds 390 = .ok (.iconst 0, 1) := by decide +kernel
theorem dL_holds_391 : decode cL_holds 391 = .ok (.ireturn, 1) := by decide +kernel
