theorem dX4_init_0 : decode cX4_init 0 = .ok (.aload_n 0, 1) := by decide +kernel
theorem dX4_init_1 : decode cX4_init 1 = .ok (.invokespecial 1, 3) := by decide +kernel
theorem dX4_init_4 : decode cX4_init 4 = .ok (.aload_n 0, 1) := by decide +kernel
theorem dX4_init_5 : decode cX4_init 5 = .ok (.bipush 109, 2) := by decide +kernel
theorem dX4_init_7 : decode cX4_init 7 = .ok (.newarray .int, 2) := by decide +kernel
theorem dX4_init_9 : decode cX4_init 9 = .ok (.putfield 7, 3) := by decide +kernel
theorem dX4_init_12 : decode cX4_init 12 = .ok (.aload_n 0, 1) := by decide +kernel
theorem dX4_init_13 : decode cX4_init 13 = .ok (.bipush 109, 2) := by decide +kernel
theorem dX4_init_15 : decode cX4_init 15 = .ok (.newarray .int, 2) := by decide +kernel
theorem dX4_init_17 : decode cX4_init 17 = .ok (.putfield 13, 3) := by decide +kernel
theorem dX4_init_20 : decode cX4_init 20 = .ok (.aload_n 0, 1) := by decide +kernel
theorem dX4_init_21 : decode cX4_init 21 = .ok (.bipush 109, 2) := by decide +kernel
theorem dX4_init_23 : decode cX4_init 23 = .ok (.newarray .int, 2) := by decide +kernel
theorem dX4_init_25 : decode cX4_init 25 = .ok (.putfield 16, 3) := by decide +kernel
theorem dX4_init_28 : decode cX4_init 28 = .ok (.aload_n 0, 1) := by decide +kernel
theorem dX4_init_29 : decode cX4_init 29 = .ok (.sipush 436, 3) := by decide +kernel
theorem dX4_init_32 : decode cX4_init 32 = .ok (.newarray .int, 2) := by decide +kernel
theorem dX4_init_34 : decode cX4_init 34 = .ok (.putfield 19, 3) := by decide +kernel
theorem dX4_init_37 : decode cX4_init 37 = .ok (.aload_n 0, 1) := by decide +kernel
theorem dX4_init_38 : decode cX4_init 38 = .ok (.bipush 60, 2) := by decide +kernel
theorem dX4_init_40 : decode cX4_init 40 = .ok (.newarray .int, 2) := by decide +kernel
theorem dX4_init_42 : decode cX4_init 42 = .ok (.putfield 22, 3) := by decide +kernel
theorem dX4_init_45 : decode cX4_init 45 = .ok (.aload_n 0, 1) := by decide +kernel
theorem dX4_init_46 : decode cX4_init 46 = .ok (.bipush (-5), 2) := by decide +kernel
theorem dX4_init_48 : decode cX4_init 48 = .ok (.putfield 25, 3) := by decide +kernel
theorem dX4_init_51 : decode cX4_init 51 = .ok (.aload_n 0, 1) := by decide +kernel
theorem dX4_init_52 : decode cX4_init 52 = .ok (.bipush (-5), 2) := by decide +kernel
theorem dX4_init_54 : decode cX4_init 54 = .ok (.putfield 29, 3) := by decide +kernel
theorem dX4_init_57 : decode cX4_init 57 = .ok (.aload_n 0, 1) := by decide +kernel
theorem dX4_init_58 : decode cX4_init 58 = .ok (.getfield 7, 3) := by decide +kernel
theorem dX4_init_61 : decode cX4_init 61 = .ok (.bipush 10, 2) := by decide +kernel
theorem dX4_init_63 : decode cX4_init 63 = .ok (.iconst 3, 1) := by decide +kernel
theorem dX4_init_64 : decode cX4_init 64 = .ok (.iastore, 1) := by decide +kernel
theorem dX4_init_65 : decode cX4_init 65 = .ok (.aload_n 0, 1) := by decide +kernel
theorem dX4_init_66 : decode cX4_init 66 = .ok (.getfield 7, 3) := by decide +kernel
theorem dX4_init_69 : decode cX4_init 69 = .ok (.bipush 11, 2) := by decide +kernel
theorem dX4_init_71 : decode cX4_init 71 = .ok (.iconst 2, 1) := by decide +kernel
theorem dX4_init_72 : decode cX4_init 72 = .ok (.iastore, 1) := by decide +kernel
theorem dX4_init_73 : decode cX4_init 73 = .ok (.aload_n 0, 1) := by decide +kernel
theorem dX4_init_74 : decode cX4_init 74 = .ok (.getfield 7, 3) := by decide +kernel
theorem dX4_init_77 : decode cX4_init 77 = .ok (.bipush 12, 2) := by decide +kernel
theorem dX4_init_79 : decode cX4_init 79 = .ok (.iconst 5, 1) := by decide +kernel
theorem dX4_init_80 : decode cX4_init 80 = .ok (.iastore, 1) := by decide +kernel
theorem dX4_init_81 : decode cX4_init 81 = .ok (.return_, 1) := by decide +kernel
theorem dX4_in_0 : decode cX4_in 0 = .ok (.iload_n 0, 1) := by decide +kernel
theorem dX4_in_1 : decode cX4_in 1 = .ok (.iload_n 1, 1) := by decide +kernel
theorem dX4_in_2 : decode cX4_in 2 = .ok (.if_icmp .lt 12, 3) := by decide +kernel
theorem dX4_in_5 : decode cX4_in 5 = .ok (.iload_n 0, 1) := by decide +kernel
theorem dX4_in_6 : decode cX4_in 6 = .ok (.iload_n 2, 1) := by decide +kernel
theorem dX4_in_7 : decode cX4_in 7 = .ok (.if_icmp .gt 7, 3) := by decide +kernel
theorem dX4_in_10 : decode cX4_in 10 = .ok (.iconst 1, 1) := by decide +kernel
theorem dX4_in_11 : decode cX4_in 11 = .ok (.goto 4, 3) := by decide +kernel
theorem dX4_in_14 : decode cX4_in 14 = .ok (.iconst 0, 1) := by decide +kernel
theorem dX4_in_15 : decode cX4_in 15 = .ok (.ireturn, 1) := by decide +kernel
set_option maxRecDepth 20000 in
theorem ggX4_isPlace_X4_in : GoodIn wsX4_isPlace wsX4_in := goodIn_r _ [5] (by decide +kernel) (by decide +kernel)
set_option maxRecDepth 20000 in
theorem gX4_isPlace_X4_in : GoodIn wsX4_isPlace (va_wsS RX4 32 yX4_in wsX4_in) := goodIn_app (goodIn_of _ (by decide +kernel)) ggX4_isPlace_X4_in
theorem dX4_isPlace_0 : decode cX4_isPlace 0 = .ok (.iload_n 1, 1) := by decide +kernel
theorem dX4_isPlace_1 : decode cX4_isPlace 1 = .ok (.iconst 0, 1) := by decide +kernel
theorem dX4_isPlace_2 : decode cX4_isPlace 2 = .ok (.aload_n 0, 1) := by decide +kernel
theorem dX4_isPlace_3 : decode cX4_isPlace 3 = .ok (.getfield 7, 3) := by decide +kernel
theorem dX4_isPlace_6 : decode cX4_isPlace 6 = .ok (.iconst 0, 1) := by decide +kernel
theorem dX4_isPlace_7 : decode cX4_isPlace 7 = .ok (.iaload, 1) := by decide +kernel
theorem dX4_isPlace_8 : decode cX4_isPlace 8 = .ok (.iconst 1, 1) := by decide +kernel
theorem dX4_isPlace_9 : decode cX4_isPlace 9 = .ok (.isub, 1) := by decide +kernel
theorem dX4_isPlace_10 : decode cX4_isPlace 10 = .ok (.invokestatic 32, 3) := by decide +kernel
theorem dX4_isPlace_13 : decode cX4_isPlace 13 = .ok (.ireturn, 1) := by decide +kernel
theorem dX4_at_0 : decode cX4_at 0 = .ok (.bipush 13, 2) := by decide +kernel
theorem dX4_at_2 : decode cX4_at 2 = .ok (.bipush 6, 2) := by decide +kernel
theorem dX4_at_4 : decode cX4_at 4 = .ok (.iload_n 0, 1) := by decide +kernel
theorem dX4_at_5 : decode cX4_at 5 = .ok (.imul, 1) := by decide +kernel
theorem dX4_at_6 : decode cX4_at 6 = .ok (.iadd, 1) := by decide +kernel
theorem dX4_at_7 : decode cX4_at 7 = .ok (.iload_n 1, 1) := by decide +kernel
theorem dX4_at_8 : decode cX4_at 8 = .ok (.iadd, 1) := by decide +kernel
theorem dX4_at_9 : decode cX4_at 9 = .ok (.ireturn, 1) := by decide +kernel
set_option maxRecDepth 20000 in
theorem ggX4_of_X4_at : GoodIn wsX4_of wsX4_at := goodIn_r _ [5] (by decide +kernel) (by decide +kernel)
set_option maxRecDepth 20000 in
theorem gX4_of_X4_at : GoodIn wsX4_of (va_wsS RX4 36 yX4_at wsX4_at) := goodIn_app (goodIn_of _ (by decide +kernel)) ggX4_of_X4_at
theorem dX4_of_0 : decode cX4_of 0 = .ok (.aload_n 0, 1) := by decide +kernel
theorem dX4_of_1 : decode cX4_of 1 = .ok (.getfield 7, 3) := by decide +kernel
theorem dX4_of_4 : decode cX4_of 4 = .ok (.iload_n 1, 1) := by decide +kernel
theorem dX4_of_5 : decode cX4_of 5 = .ok (.iload_n 2, 1) := by decide +kernel
theorem dX4_of_6 : decode cX4_of 6 = .ok (.invokestatic 36, 3) := by decide +kernel
theorem dX4_of_9 : decode cX4_of 9 = .ok (.iaload, 1) := by decide +kernel
theorem dX4_of_10 : decode cX4_of 10 = .ok (.ireturn, 1) := by decide +kernel
theorem dX4_looks_0 : decode cX4_looks 0 = .ok (.iconst 0, 1) := by decide +kernel
theorem dX4_looks_1 : decode cX4_looks 1 = .ok (.istore_n 1, 1) := by decide +kernel
theorem dX4_looks_2 : decode cX4_looks 2 = .ok (.iload_n 1, 1) := by decide +kernel
theorem dX4_looks_3 : decode cX4_looks 3 = .ok (.bipush 109, 2) := by decide +kernel
theorem dX4_looks_5 : decode cX4_looks 5 = .ok (.if_icmp .ge 21, 3) := by decide +kernel
theorem dX4_looks_8 : decode cX4_looks 8 = .ok (.aload_n 0, 1) := by decide +kernel
theorem dX4_looks_9 : decode cX4_looks 9 = .ok (.getfield 13, 3) := by decide +kernel
theorem dX4_looks_12 : decode cX4_looks 12 = .ok (.iload_n 1, 1) := by decide +kernel
theorem dX4_looks_13 : decode cX4_looks 13 = .ok (.aload_n 0, 1) := by decide +kernel
theorem dX4_looks_14 : decode cX4_looks 14 = .ok (.getfield 7, 3) := by decide +kernel
theorem dX4_looks_17 : decode cX4_looks 17 = .ok (.iload_n 1, 1) := by decide +kernel
theorem dX4_looks_18 : decode cX4_looks 18 = .ok (.iaload, 1) := by decide +kernel
theorem dX4_looks_19 : decode cX4_looks 19 = .ok (.iastore, 1) := by decide +kernel
theorem dX4_looks_20 : decode cX4_looks 20 = .ok (.iinc 1 1, 3) := by decide +kernel
theorem dX4_looks_23 : decode cX4_looks 23 = .ok (.goto (-21), 3) := by decide +kernel
theorem dX4_looks_26 : decode cX4_looks 26 = .ok (.return_, 1) := by decide +kernel
theorem dX4_records_0 : decode cX4_records 0 = .ok (.aload_n 0, 1) := by decide +kernel
theorem dX4_records_1 : decode cX4_records 1 = .ok (.getfield 40, 3) := by decide +kernel
theorem dX4_records_4 : decode cX4_records 4 = .ok (.iconst 4, 1) := by decide +kernel
theorem dX4_records_5 : decode cX4_records 5 = .ok (.if_icmp .ne 43, 3) := by decide +kernel
theorem dX4_records_8 : decode cX4_records 8 = .ok (.iconst 0, 1) := by decide +kernel
theorem dX4_records_9 : decode cX4_records 9 = .ok (.istore_n 1, 1) := by decide +kernel
theorem dX4_records_10 : decode cX4_records 10 = .ok (.iload_n 1, 1) := by decide +kernel
theorem dX4_records_11 : decode cX4_records 11 = .ok (.sipush 327, 3) := by decide +kernel
theorem dX4_records_14 : decode cX4_records 14 = .ok (.if_icmp .ge 24, 3) := by decide +kernel
theorem dX4_records_17 : decode cX4_records 17 = .ok (.aload_n 0, 1) := by decide +kernel
theorem dX4_records_18 : decode cX4_records 18 = .ok (.getfield 19, 3) := by decide +kernel
theorem dX4_records_21 : decode cX4_records 21 = .ok (.iload_n 1, 1) := by decide +kernel
theorem dX4_records_22 : decode cX4_records 22 = .ok (.aload_n 0, 1) := by decide +kernel
theorem dX4_records_23 : decode cX4_records 23 = .ok (.getfield 19, 3) := by decide +kernel
theorem dX4_records_26 : decode cX4_records 26 = .ok (.bipush 109, 2) := by decide +kernel
theorem dX4_records_28 : decode cX4_records 28 = .ok (.iload_n 1, 1) := by decide +kernel
theorem dX4_records_29 : decode cX4_records 29 = .ok (.iadd, 1) := by decide +kernel
theorem dX4_records_30 : decode cX4_records 30 = .ok (.iaload, 1) := by decide +kernel
theorem dX4_records_31 : decode cX4_records 31 = .ok (.iastore, 1) := by decide +kernel
theorem dX4_records_32 : decode cX4_records 32 = .ok (.iinc 1 1, 3) := by decide +kernel
theorem dX4_records_35 : decode cX4_records 35 = .ok (.goto (-25), 3) := by decide +kernel
theorem dX4_records_38 : decode cX4_records 38 = .ok (.aload_n 0, 1) := by decide +kernel
theorem dX4_records_39 : decode cX4_records 39 = .ok (.dup, 1) := by decide +kernel
theorem dX4_records_40 : decode cX4_records 40 = .ok (.getfield 40, 3) := by decide +kernel
theorem dX4_records_43 : decode cX4_records 43 = .ok (.iconst 1, 1) := by decide +kernel
theorem dX4_records_44 : decode cX4_records 44 = .ok (.isub, 1) := by decide +kernel
theorem dX4_records_45 : decode cX4_records 45 = .ok (.putfield 40, 3) := by decide +kernel
theorem dX4_records_48 : decode cX4_records 48 = .ok (.iconst 0, 1) := by decide +kernel
theorem dX4_records_49 : decode cX4_records 49 = .ok (.istore_n 1, 1) := by decide +kernel
theorem dX4_records_50 : decode cX4_records 50 = .ok (.iload_n 1, 1) := by decide +kernel
theorem dX4_records_51 : decode cX4_records 51 = .ok (.bipush 109, 2) := by decide +kernel
theorem dX4_records_53 : decode cX4_records 53 = .ok (.if_icmp .ge 29, 3) := by decide +kernel
theorem dX4_records_56 : decode cX4_records 56 = .ok (.aload_n 0, 1) := by decide +kernel
theorem dX4_records_57 : decode cX4_records 57 = .ok (.getfield 19, 3) := by decide +kernel
theorem dX4_records_60 : decode cX4_records 60 = .ok (.bipush 109, 2) := by decide +kernel
theorem dX4_records_62 : decode cX4_records 62 = .ok (.aload_n 0, 1) := by decide +kernel
theorem dX4_records_63 : decode cX4_records 63 = .ok (.getfield 40, 3) := by decide +kernel
theorem dX4_records_66 : decode cX4_records 66 = .ok (.imul, 1) := by decide +kernel
theorem dX4_records_67 : decode cX4_records 67 = .ok (.iload_n 1, 1) := by decide +kernel
theorem dX4_records_68 : decode cX4_records 68 = .ok (.iadd, 1) := by decide +kernel
theorem dX4_records_69 : decode cX4_records 69 = .ok (.aload_n 0, 1) := by decide +kernel
theorem dX4_records_70 : decode cX4_records 70 = .ok (.getfield 13, 3) := by decide +kernel
theorem dX4_records_73 : decode cX4_records 73 = .ok (.iload_n 1, 1) := by decide +kernel
theorem dX4_records_74 : decode cX4_records 74 = .ok (.iaload, 1) := by decide +kernel
theorem dX4_records_75 : decode cX4_records 75 = .ok (.iastore, 1) := by decide +kernel
theorem dX4_records_76 : decode cX4_records 76 = .ok (.iinc 1 1, 3) := by decide +kernel
theorem dX4_records_79 : decode cX4_records 79 = .ok (.goto (-29), 3) := by decide +kernel
theorem dX4_records_82 : decode cX4_records 82 = .ok (.aload_n 0, 1) := by decide +kernel
theorem dX4_records_83 : decode cX4_records 83 = .ok (.dup, 1) := by decide +kernel
theorem dX4_records_84 : decode cX4_records 84 = .ok (.getfield 40, 3) := by decide +kernel
theorem dX4_records_87 : decode cX4_records 87 = .ok (.iconst 1, 1) := by decide +kernel
theorem dX4_records_88 : decode cX4_records 88 = .ok (.iadd, 1) := by decide +kernel
theorem dX4_records_89 : decode cX4_records 89 = .ok (.putfield 40, 3) := by decide +kernel
theorem dX4_records_92 : decode cX4_records 92 = .ok (.return_, 1) := by decide +kernel
set_option maxRecDepth 20000 in
theorem ggX4_know_X4_looks : GoodIn wsX4_know wsX4_looks := goodIn_r _ [5, 6, 7, 14, 15, 16, 17, 18, 19, 20, 21, 22, 23, 24, 25, 26, 27, 28, 29] (by decide +kernel) (by decide +kernel)
set_option maxRecDepth 20000 in
theorem gX4_know_X4_looks : GoodIn wsX4_know (wsV RX4 43 RX4 yX4_looks wsX4_looks) := goodIn_app (goodIn_of _ (by decide +kernel)) ggX4_know_X4_looks
set_option maxRecDepth 20000 in
theorem ggX4_know_X4_records : GoodIn wsX4_know wsX4_records := goodIn_r _ [11, 12, 13, 6, 14, 15, 16, 17, 18, 19, 20, 21, 22, 23, 24, 25, 26, 27, 28, 29] (by decide +kernel) (by decide +kernel)
set_option maxRecDepth 20000 in
theorem gX4_know_X4_records : GoodIn wsX4_know (wsV RX4 46 RX4 yX4_records wsX4_records) := goodIn_app (goodIn_of _ (by decide +kernel)) ggX4_know_X4_records
theorem dX4_know_0 : decode cX4_know 0 = .ok (.aload_n 0, 1) := by decide +kernel
theorem dX4_know_1 : decode cX4_know 1 = .ok (.invokevirtual 43, 3) := by decide +kernel
theorem dX4_know_4 : decode cX4_know 4 = .ok (.aload_n 0, 1) := by decide +kernel
theorem dX4_know_5 : decode cX4_know 5 = .ok (.invokevirtual 46, 3) := by decide +kernel
theorem dX4_know_8 : decode cX4_know 8 = .ok (.return_, 1) := by decide +kernel
set_option maxRecDepth 20000 in
theorem ggX4_leastOf_X4_of : GoodIn wsX4_leastOf wsX4_of := goodIn_r _ [5, 6, 7, 8, 4, 9, 10, 11, 12, 13, 14, 15, 16, 17, 18, 19, 20, 21, 22, 23, 24, 25] (by decide +kernel) (by decide +kernel)
set_option maxRecDepth 20000 in
theorem gX4_leastOf_X4_of : GoodIn wsX4_leastOf (wsV RX4 49 RX4 yX4_of wsX4_of) := goodIn_app (goodIn_of _ (by decide +kernel)) ggX4_leastOf_X4_of
theorem dX4_leastOf_0 : decode cX4_leastOf 0 = .ok (.iload_n 1, 1) := by decide +kernel
theorem dX4_leastOf_1 : decode cX4_leastOf 1 = .ok (.aload_n 0, 1) := by decide +kernel
theorem dX4_leastOf_2 : decode cX4_leastOf 2 = .ok (.iload_n 1, 1) := by decide +kernel
theorem dX4_leastOf_3 : decode cX4_leastOf 3 = .ok (.iconst 4, 1) := by decide +kernel
theorem dX4_leastOf_4 : decode cX4_leastOf 4 = .ok (.invokevirtual 49, 3) := by decide +kernel
theorem dX4_leastOf_7 : decode cX4_leastOf 7 = .ok (.iconst 2, 1) := by decide +kernel
theorem dX4_leastOf_8 : decode cX4_leastOf 8 = .ok (.idiv, 1) := by decide +kernel
theorem dX4_leastOf_9 : decode cX4_leastOf 9 = .ok (.isub, 1) := by decide +kernel
theorem dX4_leastOf_10 : decode cX4_leastOf 10 = .ok (.istore_n 2, 1) := by decide +kernel
theorem dX4_leastOf_11 : decode cX4_leastOf 11 = .ok (.iload_n 2, 1) := by decide +kernel
theorem dX4_leastOf_12 : decode cX4_leastOf 12 = .ok (.ifCond .ge 7, 3) := by decide +kernel
theorem dX4_leastOf_15 : decode cX4_leastOf 15 = .ok (.iconst 0, 1) := by decide +kernel
theorem dX4_leastOf_16 : decode cX4_leastOf 16 = .ok (.goto 4, 3) := by decide +kernel
theorem dX4_leastOf_19 : decode cX4_leastOf 19 = .ok (.iload_n 2, 1) := by decide +kernel
theorem dX4_leastOf_20 : decode cX4_leastOf 20 = .ok (.ireturn, 1) := by decide +kernel
set_option maxRecDepth 20000 in
theorem ggX4_greatestOf_X4_of : GoodIn wsX4_greatestOf wsX4_of := goodIn_r _ [6, 1, 7, 8, 5, 9, 10, 11, 12, 13, 14, 15, 16, 17, 18, 19, 20, 21, 22, 23, 24, 25] (by decide +kernel) (by decide +kernel)
set_option maxRecDepth 20000 in
theorem gX4_greatestOf_X4_of : GoodIn wsX4_greatestOf (wsV RX4 49 RX4 yX4_of wsX4_of) := goodIn_app (goodIn_of _ (by decide +kernel)) ggX4_greatestOf_X4_of
theorem dX4_greatestOf_0 : decode cX4_greatestOf 0 = .ok (.iload_n 1, 1) := by decide +kernel
theorem dX4_greatestOf_1 : decode cX4_greatestOf 1 = .ok (.aload_n 0, 1) := by decide +kernel
theorem dX4_greatestOf_2 : decode cX4_greatestOf 2 = .ok (.iload_n 1, 1) := by decide +kernel
theorem dX4_greatestOf_3 : decode cX4_greatestOf 3 = .ok (.iconst 4, 1) := by decide +kernel
theorem dX4_greatestOf_4 : decode cX4_greatestOf 4 = .ok (.invokevirtual 49, 3) := by decide +kernel
theorem dX4_greatestOf_7 : decode cX4_greatestOf 7 = .ok (.iconst 1, 1) := by decide +kernel
theorem dX4_greatestOf_8 : decode cX4_greatestOf 8 = .ok (.isub, 1) := by decide +kernel
theorem dX4_greatestOf_9 : decode cX4_greatestOf 9 = .ok (.iconst 2, 1) := by decide +kernel
theorem dX4_greatestOf_10 : decode cX4_greatestOf 10 = .ok (.idiv, 1) := by decide +kernel
theorem dX4_greatestOf_11 : decode cX4_greatestOf 11 = .ok (.iadd, 1) := by decide +kernel
theorem dX4_greatestOf_12 : decode cX4_greatestOf 12 = .ok (.istore_n 2, 1) := by decide +kernel
theorem dX4_greatestOf_13 : decode cX4_greatestOf 13 = .ok (.iload_n 2, 1) := by decide +kernel
theorem dX4_greatestOf_14 : decode cX4_greatestOf 14 = .ok (.aload_n 0, 1) := by decide +kernel
theorem dX4_greatestOf_15 : decode cX4_greatestOf 15 = .ok (.getfield 7, 3) := by decide +kernel
theorem dX4_greatestOf_18 : decode cX4_greatestOf 18 = .ok (.iconst 0, 1) := by decide +kernel
theorem dX4_greatestOf_19 : decode cX4_greatestOf 19 = .ok (.iaload, 1) := by decide +kernel
theorem dX4_greatestOf_20 : decode cX4_greatestOf 20 = .ok (.if_icmp .ge 7, 3) := by decide +kernel
theorem dX4_greatestOf_23 : decode cX4_greatestOf 23 = .ok (.iload_n 2, 1) := by decide +kernel
theorem dX4_greatestOf_24 : decode cX4_greatestOf 24 = .ok (.goto 11, 3) := by decide +kernel
theorem dX4_greatestOf_27 : decode cX4_greatestOf 27 = .ok (.aload_n 0, 1) := by decide +kernel
theorem dX4_greatestOf_28 : decode cX4_greatestOf 28 = .ok (.getfield 7, 3) := by decide +kernel
theorem dX4_greatestOf_31 : decode cX4_greatestOf 31 = .ok (.iconst 0, 1) := by decide +kernel
theorem dX4_greatestOf_32 : decode cX4_greatestOf 32 = .ok (.iaload, 1) := by decide +kernel
theorem dX4_greatestOf_33 : decode cX4_greatestOf 33 = .ok (.iconst 1, 1) := by decide +kernel
theorem dX4_greatestOf_34 : decode cX4_greatestOf 34 = .ok (.isub, 1) := by decide +kernel
theorem dX4_greatestOf_35 : decode cX4_greatestOf 35 = .ok (.ireturn, 1) := by decide +kernel
set_option maxRecDepth 20000 in
theorem ggX4_reaching_X4_of : GoodIn wsX4_reaching wsX4_of := goodIn_r _ [6, 1, 7, 8, 5, 9, 21, 22, 23, 24, 25, 26, 27, 28, 29, 30, 31, 32, 33, 34, 35, 36] (by decide +kernel) (by decide +kernel)
set_option maxRecDepth 20000 in
theorem gX4_reaching_X4_of : GoodIn wsX4_reaching (wsV RX4 49 RX4 yX4_of wsX4_of) := goodIn_app (goodIn_of _ (by decide +kernel)) ggX4_reaching_X4_of
set_option maxRecDepth 20000 in
theorem ggX4_reaching_X4_leastOf : GoodIn wsX4_reaching wsX4_leastOf := goodIn_r _ [13, 2, 3, 4, 5, 6, 1, 7, 8, 9, 21, 22, 23, 24, 25, 26, 27, 28, 29, 30, 31, 32, 33, 34, 35, 36] (by decide +kernel) (by decide +kernel)
set_option maxRecDepth 20000 in
theorem gX4_reaching_X4_leastOf : GoodIn wsX4_reaching (wsV RX4 52 RX4 yX4_leastOf wsX4_leastOf) := goodIn_app (goodIn_of _ (by decide +kernel)) ggX4_reaching_X4_leastOf
set_option maxRecDepth 20000 in
theorem ggX4_reaching_X4_greatestOf : GoodIn wsX4_reaching wsX4_greatestOf := goodIn_r _ [17, 1, 2, 3, 4, 5, 6, 7, 8, 9, 21, 22, 23, 24, 25, 26, 27, 28, 29, 30, 31, 32, 33, 34, 35, 36] (by decide +kernel) (by decide +kernel)
set_option maxRecDepth 20000 in
theorem gX4_reaching_X4_greatestOf : GoodIn wsX4_reaching (wsV RX4 56 RX4 yX4_greatestOf wsX4_greatestOf) := goodIn_app (goodIn_of _ (by decide +kernel)) ggX4_reaching_X4_greatestOf
set_option maxRecDepth 20000 in
theorem ggX4_reaching_X4_in : GoodIn wsX4_reaching wsX4_in := goodIn_r _ [20] (by decide +kernel) (by decide +kernel)
set_option maxRecDepth 20000 in
theorem gX4_reaching_X4_in : GoodIn wsX4_reaching (va_wsS RX4 32 yX4_in wsX4_in) := goodIn_app (goodIn_of _ (by decide +kernel)) ggX4_reaching_X4_in
theorem dX4_reaching_0 : decode cX4_reaching 0 = .ok (.iconst 0, 1) := by decide +kernel
theorem dX4_reaching_1 : decode cX4_reaching 1 = .ok (.istore_n 2, 1) := by decide +kernel
theorem dX4_reaching_2 : decode cX4_reaching 2 = .ok (.iconst 0, 1) := by decide +kernel
theorem dX4_reaching_3 : decode cX4_reaching 3 = .ok (.istore_n 3, 1) := by decide +kernel
theorem dX4_reaching_4 : decode cX4_reaching 4 = .ok (.iload_n 3, 1) := by decide +kernel
theorem dX4_reaching_5 : decode cX4_reaching 5 = .ok (.aload_n 0, 1) := by decide +kernel
theorem dX4_reaching_6 : decode cX4_reaching 6 = .ok (.getfield 7, 3) := by decide +kernel
theorem dX4_reaching_9 : decode cX4_reaching 9 = .ok (.iconst 0, 1) := by decide +kernel
theorem dX4_reaching_10 : decode cX4_reaching 10 = .ok (.iaload, 1) := by decide +kernel
theorem dX4_reaching_11 : decode cX4_reaching 11 = .ok (.if_icmp .ge 43, 3) := by decide +kernel
theorem dX4_reaching_14 : decode cX4_reaching 14 = .ok (.iload_n 2, 1) := by decide +kernel
theorem dX4_reaching_15 : decode cX4_reaching 15 = .ok (.aload_n 0, 1) := by decide +kernel
theorem dX4_reaching_16 : decode cX4_reaching 16 = .ok (.iload_n 3, 1) := by decide +kernel
theorem dX4_reaching_17 : decode cX4_reaching 17 = .ok (.iconst 4, 1) := by decide +kernel
theorem dX4_reaching_18 : decode cX4_reaching 18 = .ok (.invokevirtual 49, 3) := by decide +kernel
theorem dX4_reaching_21 : decode cX4_reaching 21 = .ok (.ifCond .le 24, 3) := by decide +kernel
theorem dX4_reaching_24 : decode cX4_reaching 24 = .ok (.iload_n 1, 1) := by decide +kernel
theorem dX4_reaching_25 : decode cX4_reaching 25 = .ok (.aload_n 0, 1) := by decide +kernel
theorem dX4_reaching_26 : decode cX4_reaching 26 = .ok (.iload_n 3, 1) := by decide +kernel
theorem dX4_reaching_27 : decode cX4_reaching 27 = .ok (.invokevirtual 52, 3) := by decide +kernel
theorem dX4_reaching_30 : decode cX4_reaching 30 = .ok (.aload_n 0, 1) := by decide +kernel
theorem dX4_reaching_31 : decode cX4_reaching 31 = .ok (.iload_n 3, 1) := by decide +kernel
theorem dX4_reaching_32 : decode cX4_reaching 32 = .ok (.invokevirtual 56, 3) := by decide +kernel
theorem dX4_reaching_35 : decode cX4_reaching 35 = .ok (.invokestatic 32, 3) := by decide +kernel
theorem dX4_reaching_38 : decode cX4_reaching 38 = .ok (.ifCond .eq 7, 3) := by decide +kernel
theorem dX4_reaching_41 : decode cX4_reaching 41 = .ok (.iconst 1, 1) := by decide +kernel
theorem dX4_reaching_42 : decode cX4_reaching 42 = .ok (.goto 4, 3) := by decide +kernel
theorem dX4_reaching_45 : decode cX4_reaching 45 = .ok (.iconst 0, 1) := by decide +kernel
theorem dX4_reaching_46 : decode cX4_reaching 46 = .ok (.iadd, 1) := by decide +kernel
theorem dX4_reaching_47 : decode cX4_reaching 47 = .ok (.istore_n 2, 1) := by decide +kernel
theorem dX4_reaching_48 : decode cX4_reaching 48 = .ok (.iinc 3 1, 3) := by decide +kernel
theorem dX4_reaching_51 : decode cX4_reaching 51 = .ok (.goto (-47), 3) := by decide +kernel
theorem dX4_reaching_54 : decode cX4_reaching 54 = .ok (.iload_n 2, 1) := by decide +kernel
theorem dX4_reaching_55 : decode cX4_reaching 55 = .ok (.ireturn, 1) := by decide +kernel
set_option maxRecDepth 20000 in
theorem ggX4_isCovered_X4_reaching : GoodIn wsX4_isCovered wsX4_reaching := goodIn_r _ [5, 6, 7, 8, 9, 4, 10, 11, 12, 13, 14, 15, 16, 17, 18, 19, 20, 21, 22, 23, 24, 25, 26, 27, 28, 29, 30, 31, 32, 33, 34, 35, 36, 37, 38, 39, 40] (by decide +kernel) (by decide +kernel)
set_option maxRecDepth 20000 in
theorem gX4_isCovered_X4_reaching : GoodIn wsX4_isCovered (wsV RX4 59 RX4 yX4_reaching wsX4_reaching) := goodIn_app (goodIn_of _ (by decide +kernel)) ggX4_isCovered_X4_reaching
theorem dX4_isCovered_0 : decode cX4_isCovered 0 = .ok (.aload_n 0, 1) := by decide +kernel
theorem dX4_isCovered_1 : decode cX4_isCovered 1 = .ok (.iload_n 1, 1) := by decide +kernel
theorem dX4_isCovered_2 : decode cX4_isCovered 2 = .ok (.invokevirtual 59, 3) := by decide +kernel
theorem dX4_isCovered_5 : decode cX4_isCovered 5 = .ok (.ifCond .gt 33, 3) := by decide +kernel
theorem dX4_isCovered_8 : decode cX4_isCovered 8 = .ok (.iload_n 2, 1) := by decide +kernel
theorem dX4_isCovered_9 : decode cX4_isCovered 9 = .ok (.iconst 1, 1) := by decide +kernel
theorem dX4_isCovered_10 : decode cX4_isCovered 10 = .ok (.if_icmp .ne 13, 3) := by decide +kernel
theorem dX4_isCovered_13 : decode cX4_isCovered 13 = .ok (.aload_n 0, 1) := by decide +kernel
theorem dX4_isCovered_14 : decode cX4_isCovered 14 = .ok (.iload_n 1, 1) := by decide +kernel
theorem dX4_isCovered_15 : decode cX4_isCovered 15 = .ok (.iconst 1, 1) := by decide +kernel
theorem dX4_isCovered_16 : decode cX4_isCovered 16 = .ok (.isub, 1) := by decide +kernel
theorem dX4_isCovered_17 : decode cX4_isCovered 17 = .ok (.invokevirtual 59, 3) := by decide +kernel
theorem dX4_isCovered_20 : decode cX4_isCovered 20 = .ok (.ifCond .gt 18, 3) := by decide +kernel
theorem dX4_isCovered_23 : decode cX4_isCovered 23 = .ok (.iload_n 2, 1) := by decide +kernel
theorem dX4_isCovered_24 : decode cX4_isCovered 24 = .ok (.iconst 2, 1) := by decide +kernel
theorem dX4_isCovered_25 : decode cX4_isCovered 25 = .ok (.if_icmp .ne 17, 3) := by decide +kernel
theorem dX4_isCovered_28 : decode cX4_isCovered 28 = .ok (.aload_n 0, 1) := by decide +kernel
theorem dX4_isCovered_29 : decode cX4_isCovered 29 = .ok (.iload_n 1, 1) := by decide +kernel
theorem dX4_isCovered_30 : decode cX4_isCovered 30 = .ok (.iconst 1, 1) := by decide +kernel
theorem dX4_isCovered_31 : decode cX4_isCovered 31 = .ok (.iadd, 1) := by decide +kernel
theorem dX4_isCovered_32 : decode cX4_isCovered 32 = .ok (.invokevirtual 59, 3) := by decide +kernel
theorem dX4_isCovered_35 : decode cX4_isCovered 35 = .ok (.ifCond .le 7, 3) := by decide +kernel
theorem dX4_isCovered_38 : decode cX4_isCovered 38 = .ok (.iconst 1, 1) := by decide +kernel
theorem dX4_isCovered_39 : decode cX4_isCovered 39 = .ok (.goto 4, 3) := by decide +kernel
theorem dX4_isCovered_42 : decode cX4_isCovered 42 = .ok (.iconst 0, 1) := by decide +kernel
theorem dX4_isCovered_43 : decode cX4_isCovered 43 = .ok (.ireturn, 1) := by decide +kernel
set_option maxRecDepth 20000 in
theorem ggX4_running_X4_of : GoodIn wsX4_running wsX4_of := goodIn_r _ [6, 1, 7, 8, 5, 9, 18, 19, 20, 21, 22, 23, 24, 25, 26, 27, 28, 29, 30, 31, 32, 33] (by decide +kernel) (by decide +kernel)
set_option maxRecDepth 20000 in
theorem gX4_running_X4_of : GoodIn wsX4_running (wsV RX4 49 RX4 yX4_of wsX4_of) := goodIn_app (goodIn_of _ (by decide +kernel)) ggX4_running_X4_of
set_option maxRecDepth 20000 in
theorem ggX4_running_X4_leastOf : GoodIn wsX4_running wsX4_leastOf := goodIn_r _ [13, 2, 3, 4, 5, 6, 1, 7, 8, 9, 18, 19, 20, 21, 22, 23, 24, 25, 26, 27, 28, 29, 30, 31, 32, 33] (by decide +kernel) (by decide +kernel)
set_option maxRecDepth 20000 in
theorem gX4_running_X4_leastOf : GoodIn wsX4_running (wsV RX4 52 RX4 yX4_leastOf wsX4_leastOf) := goodIn_app (goodIn_of _ (by decide +kernel)) ggX4_running_X4_leastOf
set_option maxRecDepth 20000 in
theorem ggX4_running_X4_greatestOf : GoodIn wsX4_running wsX4_greatestOf := goodIn_r _ [17, 1, 2, 3, 4, 5, 6, 7, 8, 9, 18, 19, 20, 21, 22, 23, 24, 25, 26, 27, 28, 29, 30, 31, 32, 33] (by decide +kernel) (by decide +kernel)
set_option maxRecDepth 20000 in
theorem gX4_running_X4_greatestOf : GoodIn wsX4_running (wsV RX4 56 RX4 yX4_greatestOf wsX4_greatestOf) := goodIn_app (goodIn_of _ (by decide +kernel)) ggX4_running_X4_greatestOf
theorem dX4_running_0 : decode cX4_running 0 = .ok (.iconst 0, 1) := by decide +kernel
theorem dX4_running_1 : decode cX4_running 1 = .ok (.istore_n 2, 1) := by decide +kernel
theorem dX4_running_2 : decode cX4_running 2 = .ok (.iconst 0, 1) := by decide +kernel
theorem dX4_running_3 : decode cX4_running 3 = .ok (.istore_n 3, 1) := by decide +kernel
theorem dX4_running_4 : decode cX4_running 4 = .ok (.iload_n 3, 1) := by decide +kernel
theorem dX4_running_5 : decode cX4_running 5 = .ok (.aload_n 0, 1) := by decide +kernel
theorem dX4_running_6 : decode cX4_running 6 = .ok (.getfield 7, 3) := by decide +kernel
theorem dX4_running_9 : decode cX4_running 9 = .ok (.iconst 0, 1) := by decide +kernel
theorem dX4_running_10 : decode cX4_running 10 = .ok (.iaload, 1) := by decide +kernel
theorem dX4_running_11 : decode cX4_running 11 = .ok (.if_icmp .ge 48, 3) := by decide +kernel
theorem dX4_running_14 : decode cX4_running 14 = .ok (.iload_n 2, 1) := by decide +kernel
theorem dX4_running_15 : decode cX4_running 15 = .ok (.aload_n 0, 1) := by decide +kernel
theorem dX4_running_16 : decode cX4_running 16 = .ok (.iload_n 3, 1) := by decide +kernel
theorem dX4_running_17 : decode cX4_running 17 = .ok (.iconst 4, 1) := by decide +kernel
theorem dX4_running_18 : decode cX4_running 18 = .ok (.invokevirtual 49, 3) := by decide +kernel
theorem dX4_running_21 : decode cX4_running 21 = .ok (.ifCond .le 29, 3) := by decide +kernel
theorem dX4_running_24 : decode cX4_running 24 = .ok (.iload_n 1, 1) := by decide +kernel
theorem dX4_running_25 : decode cX4_running 25 = .ok (.aload_n 0, 1) := by decide +kernel
theorem dX4_running_26 : decode cX4_running 26 = .ok (.iload_n 3, 1) := by decide +kernel
theorem dX4_running_27 : decode cX4_running 27 = .ok (.invokevirtual 52, 3) := by decide +kernel
theorem dX4_running_30 : decode cX4_running 30 = .ok (.iconst 1, 1) := by decide +kernel
theorem dX4_running_31 : decode cX4_running 31 = .ok (.isub, 1) := by decide +kernel
theorem dX4_running_32 : decode cX4_running 32 = .ok (.if_icmp .eq 14, 3) := by decide +kernel
theorem dX4_running_35 : decode cX4_running 35 = .ok (.iload_n 1, 1) := by decide +kernel
theorem dX4_running_36 : decode cX4_running 36 = .ok (.aload_n 0, 1) := by decide +kernel
theorem dX4_running_37 : decode cX4_running 37 = .ok (.iload_n 3, 1) := by decide +kernel
theorem dX4_running_38 : decode cX4_running 38 = .ok (.invokevirtual 56, 3) := by decide +kernel
theorem dX4_running_41 : decode cX4_running 41 = .ok (.iconst 1, 1) := by decide +kernel
theorem dX4_running_42 : decode cX4_running 42 = .ok (.iadd, 1) := by decide +kernel
theorem dX4_running_43 : decode cX4_running 43 = .ok (.if_icmp .ne 7, 3) := by decide +kernel
theorem dX4_running_46 : decode cX4_running 46 = .ok (.iconst 1, 1) := by decide +kernel
theorem dX4_running_47 : decode cX4_running 47 = .ok (.goto 4, 3) := by decide +kernel
theorem dX4_running_50 : decode cX4_running 50 = .ok (.iconst 0, 1) := by decide +kernel
theorem dX4_running_51 : decode cX4_running 51 = .ok (.iadd, 1) := by decide +kernel
theorem dX4_running_52 : decode cX4_running 52 = .ok (.istore_n 2, 1) := by decide +kernel
theorem dX4_running_53 : decode cX4_running 53 = .ok (.iinc 3 1, 3) := by decide +kernel
theorem dX4_running_56 : decode cX4_running 56 = .ok (.goto (-52), 3) := by decide +kernel
theorem dX4_running_59 : decode cX4_running 59 = .ok (.iload_n 2, 1) := by decide +kernel
theorem dX4_running_60 : decode cX4_running 60 = .ok (.ireturn, 1) := by decide +kernel
set_option maxRecDepth 20000 in
theorem ggX4_wetter_X4_isCovered : GoodIn wsX4_wetter wsX4_isCovered := goodIn_r _ [5, 6, 7, 8, 4, 9, 10, 11, 12, 13, 14, 15, 16, 17, 18, 19, 20, 21, 22, 23, 24, 25, 26, 27, 28, 33, 34, 35, 36, 37, 38, 39, 40, 41, 42, 43, 44, 45, 46, 47, 48] (by decide +kernel) (by decide +kernel)
set_option maxRecDepth 20000 in
theorem gX4_wetter_X4_isCovered : GoodIn wsX4_wetter (wsV RX4 62 RX4 yX4_isCovered wsX4_isCovered) := goodIn_app (goodIn_of _ (by decide +kernel)) ggX4_wetter_X4_isCovered
set_option maxRecDepth 20000 in
theorem ggX4_wetter_X4_running : GoodIn wsX4_wetter wsX4_running := goodIn_r _ [32, 10, 11, 12, 13, 4, 14, 15, 16, 17, 18, 19, 20, 21, 22, 23, 24, 25, 33, 34, 35, 36, 37, 38, 39, 40, 41, 42, 43, 44, 45, 46, 47, 48] (by decide +kernel) (by decide +kernel)
set_option maxRecDepth 20000 in
theorem gX4_wetter_X4_running : GoodIn wsX4_wetter (wsV RX4 66 RX4 yX4_running wsX4_running) := goodIn_app (goodIn_of _ (by decide +kernel)) ggX4_wetter_X4_running
theorem dX4_wetter_0 : decode cX4_wetter 0 = .ok (.aload_n 0, 1) := by decide +kernel
theorem dX4_wetter_1 : decode cX4_wetter 1 = .ok (.iload_n 1, 1) := by decide +kernel
theorem dX4_wetter_2 : decode cX4_wetter 2 = .ok (.iload_n 3, 1) := by decide +kernel
theorem dX4_wetter_3 : decode cX4_wetter 3 = .ok (.invokevirtual 62, 3) := by decide +kernel
theorem dX4_wetter_6 : decode cX4_wetter 6 = .ok (.ifCond .eq 7, 3) := by decide +kernel
theorem dX4_wetter_9 : decode cX4_wetter 9 = .ok (.iconst 0, 1) := by decide +kernel
theorem dX4_wetter_10 : decode cX4_wetter 10 = .ok (.goto 4, 3) := by decide +kernel
theorem dX4_wetter_13 : decode cX4_wetter 13 = .ok (.iload_n 2, 1) := by decide +kernel
theorem dX4_wetter_14 : decode cX4_wetter 14 = .ok (.aload_n 0, 1) := by decide +kernel
theorem dX4_wetter_15 : decode cX4_wetter 15 = .ok (.iload_n 1, 1) := by decide +kernel
theorem dX4_wetter_16 : decode cX4_wetter 16 = .ok (.invokevirtual 66, 3) := by decide +kernel
theorem dX4_wetter_19 : decode cX4_wetter 19 = .ok (.iload_n 2, 1) := by decide +kernel
theorem dX4_wetter_20 : decode cX4_wetter 20 = .ok (.iconst 2, 1) := by decide +kernel
theorem dX4_wetter_21 : decode cX4_wetter 21 = .ok (.idiv, 1) := by decide +kernel
theorem dX4_wetter_22 : decode cX4_wetter 22 = .ok (.imul, 1) := by decide +kernel
theorem dX4_wetter_23 : decode cX4_wetter 23 = .ok (.iadd, 1) := by decide +kernel
theorem dX4_wetter_24 : decode cX4_wetter 24 = .ok (.ireturn, 1) := by decide +kernel
set_option maxRecDepth 20000 in
theorem ggX4_wetBy_X4_of : GoodIn wsX4_wetBy wsX4_of := goodIn_r _ [5, 6, 7, 8, 4, 9, 37, 38, 39, 40, 41, 42, 43, 44, 45, 46, 47, 48, 49, 50, 51, 52] (by decide +kernel) (by decide +kernel)
set_option maxRecDepth 20000 in
theorem gX4_wetBy_X4_of : GoodIn wsX4_wetBy (wsV RX4 49 RX4 yX4_of wsX4_of) := goodIn_app (goodIn_of _ (by decide +kernel)) ggX4_wetBy_X4_of
set_option maxRecDepth 20000 in
theorem ggX4_wetBy_X4_wetter : GoodIn wsX4_wetBy wsX4_wetter := goodIn_r _ [13, 14, 15, 16, 4, 17, 18, 19, 20, 21, 6, 1, 2, 3, 5, 7, 8, 9, 22, 23, 24, 25, 26, 27, 28, 29, 30, 31, 32, 33, 34, 35, 36, 37, 38, 39, 40, 41, 42, 43, 44, 45, 46, 47, 48, 49, 50, 51, 52] (by decide +kernel) (by decide +kernel)
set_option maxRecDepth 20000 in
theorem gX4_wetBy_X4_wetter : GoodIn wsX4_wetBy (wsV RX4 69 RX4 yX4_wetter wsX4_wetter) := goodIn_app (goodIn_of _ (by decide +kernel)) ggX4_wetBy_X4_wetter
theorem dX4_wetBy_0 : decode cX4_wetBy 0 = .ok (.aload_n 0, 1) := by decide +kernel
theorem dX4_wetBy_1 : decode cX4_wetBy 1 = .ok (.iload_n 1, 1) := by decide +kernel
theorem dX4_wetBy_2 : decode cX4_wetBy 2 = .ok (.iconst 1, 1) := by decide +kernel
theorem dX4_wetBy_3 : decode cX4_wetBy 3 = .ok (.invokevirtual 49, 3) := by decide +kernel
theorem dX4_wetBy_6 : decode cX4_wetBy 6 = .ok (.aload_n 0, 1) := by decide +kernel
theorem dX4_wetBy_7 : decode cX4_wetBy 7 = .ok (.iload_n 1, 1) := by decide +kernel
theorem dX4_wetBy_8 : decode cX4_wetBy 8 = .ok (.iload_n 2, 1) := by decide +kernel
theorem dX4_wetBy_9 : decode cX4_wetBy 9 = .ok (.iload_n 3, 1) := by decide +kernel
theorem dX4_wetBy_10 : decode cX4_wetBy 10 = .ok (.invokevirtual 69, 3) := by decide +kernel
theorem dX4_wetBy_13 : decode cX4_wetBy 13 = .ok (.iadd, 1) := by decide +kernel
theorem dX4_wetBy_14 : decode cX4_wetBy 14 = .ok (.istore 4, 2) := by decide +kernel
theorem dX4_wetBy_16 : decode cX4_wetBy 16 = .ok (.iload 4, 2) := by decide +kernel
theorem dX4_wetBy_18 : decode cX4_wetBy 18 = .ok (.sipush 999, 3) := by decide +kernel
theorem dX4_wetBy_21 : decode cX4_wetBy 21 = .ok (.if_icmp .ge 8, 3) := by decide +kernel
theorem dX4_wetBy_24 : decode cX4_wetBy 24 = .ok (.iload 4, 2) := by decide +kernel
theorem dX4_wetBy_26 : decode cX4_wetBy 26 = .ok (.goto 6, 3) := by decide +kernel
theorem dX4_wetBy_29 : decode cX4_wetBy 29 = .ok (.sipush 999, 3) := by decide +kernel
theorem dX4_wetBy_32 : decode cX4_wetBy 32 = .ok (.ireturn, 1) := by decide +kernel
set_option maxRecDepth 20000 in
theorem ggX4_goes_X4_at : GoodIn wsX4_goes wsX4_at := goodIn_r _ [5] (by decide +kernel) (by decide +kernel)
set_option maxRecDepth 20000 in
theorem gX4_goes_X4_at : GoodIn wsX4_goes (va_wsS RX4 36 yX4_at wsX4_at) := goodIn_app (goodIn_of _ (by decide +kernel)) ggX4_goes_X4_at
theorem dX4_goes_0 : decode cX4_goes 0 = .ok (.aload_n 0, 1) := by decide +kernel
theorem dX4_goes_1 : decode cX4_goes 1 = .ok (.getfield 7, 3) := by decide +kernel
theorem dX4_goes_4 : decode cX4_goes 4 = .ok (.iconst 0, 1) := by decide +kernel
theorem dX4_goes_5 : decode cX4_goes 5 = .ok (.dup2, 1) := by decide +kernel
theorem dX4_goes_6 : decode cX4_goes 6 = .ok (.iaload, 1) := by decide +kernel
theorem dX4_goes_7 : decode cX4_goes 7 = .ok (.iconst 1, 1) := by decide +kernel
theorem dX4_goes_8 : decode cX4_goes 8 = .ok (.isub, 1) := by decide +kernel
theorem dX4_goes_9 : decode cX4_goes 9 = .ok (.iastore, 1) := by decide +kernel
theorem dX4_goes_10 : decode cX4_goes 10 = .ok (.iload_n 1, 1) := by decide +kernel
theorem dX4_goes_11 : decode cX4_goes 11 = .ok (.iconst 0, 1) := by decide +kernel
theorem dX4_goes_12 : decode cX4_goes 12 = .ok (.invokestatic 36, 3) := by decide +kernel
theorem dX4_goes_15 : decode cX4_goes 15 = .ok (.istore_n 2, 1) := by decide +kernel
theorem dX4_goes_16 : decode cX4_goes 16 = .ok (.iload_n 2, 1) := by decide +kernel
theorem dX4_goes_17 : decode cX4_goes 17 = .ok (.aload_n 0, 1) := by decide +kernel
theorem dX4_goes_18 : decode cX4_goes 18 = .ok (.getfield 7, 3) := by decide +kernel
theorem dX4_goes_21 : decode cX4_goes 21 = .ok (.iconst 0, 1) := by decide +kernel
theorem dX4_goes_22 : decode cX4_goes 22 = .ok (.iaload, 1) := by decide +kernel
theorem dX4_goes_23 : decode cX4_goes 23 = .ok (.iconst 0, 1) := by decide +kernel
theorem dX4_goes_24 : decode cX4_goes 24 = .ok (.invokestatic 36, 3) := by decide +kernel
theorem dX4_goes_27 : decode cX4_goes 27 = .ok (.if_icmp .ge 24, 3) := by decide +kernel
theorem dX4_goes_30 : decode cX4_goes 30 = .ok (.aload_n 0, 1) := by decide +kernel
theorem dX4_goes_31 : decode cX4_goes 31 = .ok (.getfield 7, 3) := by decide +kernel
theorem dX4_goes_34 : decode cX4_goes 34 = .ok (.iload_n 2, 1) := by decide +kernel
theorem dX4_goes_35 : decode cX4_goes 35 = .ok (.aload_n 0, 1) := by decide +kernel
theorem dX4_goes_36 : decode cX4_goes 36 = .ok (.getfield 7, 3) := by decide +kernel
theorem dX4_goes_39 : decode cX4_goes 39 = .ok (.iload_n 2, 1) := by decide +kernel
theorem dX4_goes_40 : decode cX4_goes 40 = .ok (.bipush 6, 2) := by decide +kernel
theorem dX4_goes_42 : decode cX4_goes 42 = .ok (.iadd, 1) := by decide +kernel
theorem dX4_goes_43 : decode cX4_goes 43 = .ok (.iaload, 1) := by decide +kernel
theorem dX4_goes_44 : decode cX4_goes 44 = .ok (.iastore, 1) := by decide +kernel
theorem dX4_goes_45 : decode cX4_goes 45 = .ok (.iinc 2 1, 3) := by decide +kernel
theorem dX4_goes_48 : decode cX4_goes 48 = .ok (.goto (-32), 3) := by decide +kernel
theorem dX4_goes_51 : decode cX4_goes 51 = .ok (.iconst 0, 1) := by decide +kernel
theorem dX4_goes_52 : decode cX4_goes 52 = .ok (.istore_n 2, 1) := by decide +kernel
theorem dX4_goes_53 : decode cX4_goes 53 = .ok (.iload_n 2, 1) := by decide +kernel
theorem dX4_goes_54 : decode cX4_goes 54 = .ok (.bipush 6, 2) := by decide +kernel
theorem dX4_goes_56 : decode cX4_goes 56 = .ok (.if_icmp .ge 25, 3) := by decide +kernel
theorem dX4_goes_59 : decode cX4_goes 59 = .ok (.aload_n 0, 1) := by decide +kernel
theorem dX4_goes_60 : decode cX4_goes 60 = .ok (.getfield 7, 3) := by decide +kernel
theorem dX4_goes_63 : decode cX4_goes 63 = .ok (.aload_n 0, 1) := by decide +kernel
theorem dX4_goes_64 : decode cX4_goes 64 = .ok (.getfield 7, 3) := by decide +kernel
theorem dX4_goes_67 : decode cX4_goes 67 = .ok (.iconst 0, 1) := by decide +kernel
theorem dX4_goes_68 : decode cX4_goes 68 = .ok (.iaload, 1) := by decide +kernel
theorem dX4_goes_69 : decode cX4_goes 69 = .ok (.iload_n 2, 1) := by decide +kernel
theorem dX4_goes_70 : decode cX4_goes 70 = .ok (.invokestatic 36, 3) := by decide +kernel
theorem dX4_goes_73 : decode cX4_goes 73 = .ok (.iconst 0, 1) := by decide +kernel
theorem dX4_goes_74 : decode cX4_goes 74 = .ok (.iastore, 1) := by decide +kernel
theorem dX4_goes_75 : decode cX4_goes 75 = .ok (.iinc 2 1, 3) := by decide +kernel
theorem dX4_goes_78 : decode cX4_goes 78 = .ok (.goto (-25), 3) := by decide +kernel
theorem dX4_goes_81 : decode cX4_goes 81 = .ok (.return_, 1) := by decide +kernel
set_option maxRecDepth 20000 in
theorem ggX4_gusts_X4_at : GoodIn wsX4_gusts wsX4_at := goodIn_r _ [5] (by decide +kernel) (by decide +kernel)
set_option maxRecDepth 20000 in
theorem gX4_gusts_X4_at : GoodIn wsX4_gusts (va_wsS RX4 36 yX4_at wsX4_at) := goodIn_app (goodIn_of _ (by decide +kernel)) ggX4_gusts_X4_at
set_option maxRecDepth 20000 in
theorem ggX4_gusts_X4_wetBy : GoodIn wsX4_gusts wsX4_wetBy := goodIn_r _ [9, 10, 11, 12, 4, 13, 1, 2, 3, 5, 14, 15, 16, 17, 18, 19, 20, 21, 22, 23, 24, 25, 26, 27, 28, 29, 30, 31, 32, 33, 34, 35, 36, 37, 38, 39, 40, 45, 46, 47, 48, 49, 50, 51, 52, 53, 54, 55, 56, 57, 58, 59, 60] (by decide +kernel) (by decide +kernel)
set_option maxRecDepth 20000 in
theorem gX4_gusts_X4_wetBy : GoodIn wsX4_gusts (wsV RX4 73 RX4 yX4_wetBy wsX4_wetBy) := goodIn_app (goodIn_of _ (by decide +kernel)) ggX4_gusts_X4_wetBy
set_option maxRecDepth 20000 in
theorem ggX4_gusts_X4_of : GoodIn wsX4_gusts wsX4_of := goodIn_r _ [13, 1, 2, 3, 4, 5, 45, 46, 47, 48, 49, 50, 51, 52, 53, 54, 55, 56, 57, 58, 59, 60] (by decide +kernel) (by decide +kernel)
set_option maxRecDepth 20000 in
theorem gX4_gusts_X4_of : GoodIn wsX4_gusts (wsV RX4 49 RX4 yX4_of wsX4_of) := goodIn_app (goodIn_of _ (by decide +kernel)) ggX4_gusts_X4_of
set_option maxRecDepth 20000 in
theorem ggX4_gusts_X4_goes : GoodIn wsX4_gusts wsX4_goes := goodIn_r _ [44, 1, 2, 3, 4, 5, 45, 46, 47, 48, 49, 50, 51, 52, 53, 54, 55, 56, 57, 58, 59, 60] (by decide +kernel) (by decide +kernel)
set_option maxRecDepth 20000 in
theorem gX4_gusts_X4_goes : GoodIn wsX4_gusts (wsV RX4 76 RX4 yX4_goes wsX4_goes) := goodIn_app (goodIn_of _ (by decide +kernel)) ggX4_gusts_X4_goes
theorem dX4_gusts_0 : decode cX4_gusts 0 = .ok (.aload_n 0, 1) := by decide +kernel
theorem dX4_gusts_1 : decode cX4_gusts 1 = .ok (.getfield 7, 3) := by decide +kernel
theorem dX4_gusts_4 : decode cX4_gusts 4 = .ok (.iconst 0, 1) := by decide +kernel
theorem dX4_gusts_5 : decode cX4_gusts 5 = .ok (.iaload, 1) := by decide +kernel
theorem dX4_gusts_6 : decode cX4_gusts 6 = .ok (.ifCond .ne 6, 3) := by decide +kernel
theorem dX4_gusts_9 : decode cX4_gusts 9 = .ok (.bipush (-5), 2) := by decide +kernel
theorem dX4_gusts_11 : decode cX4_gusts 11 = .ok (.ireturn, 1) := by decide +kernel
theorem dX4_gusts_12 : decode cX4_gusts 12 = .ok (.iconst 0, 1) := by decide +kernel
theorem dX4_gusts_13 : decode cX4_gusts 13 = .ok (.istore_n 3, 1) := by decide +kernel
theorem dX4_gusts_14 : decode cX4_gusts 14 = .ok (.iload_n 3, 1) := by decide +kernel
theorem dX4_gusts_15 : decode cX4_gusts 15 = .ok (.aload_n 0, 1) := by decide +kernel
theorem dX4_gusts_16 : decode cX4_gusts 16 = .ok (.getfield 7, 3) := by decide +kernel
theorem dX4_gusts_19 : decode cX4_gusts 19 = .ok (.iconst 0, 1) := by decide +kernel
theorem dX4_gusts_20 : decode cX4_gusts 20 = .ok (.iaload, 1) := by decide +kernel
theorem dX4_gusts_21 : decode cX4_gusts 21 = .ok (.if_icmp .ge 26, 3) := by decide +kernel
theorem dX4_gusts_24 : decode cX4_gusts 24 = .ok (.aload_n 0, 1) := by decide +kernel
theorem dX4_gusts_25 : decode cX4_gusts 25 = .ok (.getfield 7, 3) := by decide +kernel
theorem dX4_gusts_28 : decode cX4_gusts 28 = .ok (.iload_n 3, 1) := by decide +kernel
theorem dX4_gusts_29 : decode cX4_gusts 29 = .ok (.iconst 1, 1) := by decide +kernel
theorem dX4_gusts_30 : decode cX4_gusts 30 = .ok (.invokestatic 36, 3) := by decide +kernel
theorem dX4_gusts_33 : decode cX4_gusts 33 = .ok (.aload_n 0, 1) := by decide +kernel
theorem dX4_gusts_34 : decode cX4_gusts 34 = .ok (.iload_n 3, 1) := by decide +kernel
theorem dX4_gusts_35 : decode cX4_gusts 35 = .ok (.iload_n 1, 1) := by decide +kernel
theorem dX4_gusts_36 : decode cX4_gusts 36 = .ok (.iload_n 2, 1) := by decide +kernel
theorem dX4_gusts_37 : decode cX4_gusts 37 = .ok (.invokevirtual 73, 3) := by decide +kernel
theorem dX4_gusts_40 : decode cX4_gusts 40 = .ok (.iastore, 1) := by decide +kernel
theorem dX4_gusts_41 : decode cX4_gusts 41 = .ok (.iinc 3 1, 3) := by decide +kernel
theorem dX4_gusts_44 : decode cX4_gusts 44 = .ok (.goto (-30), 3) := by decide +kernel
theorem dX4_gusts_47 : decode cX4_gusts 47 = .ok (.iconst 0, 1) := by decide +kernel
theorem dX4_gusts_48 : decode cX4_gusts 48 = .ok (.istore_n 3, 1) := by decide +kernel
theorem dX4_gusts_49 : decode cX4_gusts 49 = .ok (.aload_n 0, 1) := by decide +kernel
theorem dX4_gusts_50 : decode cX4_gusts 50 = .ok (.getfield 7, 3) := by decide +kernel
theorem dX4_gusts_53 : decode cX4_gusts 53 = .ok (.iconst 0, 1) := by decide +kernel
theorem dX4_gusts_54 : decode cX4_gusts 54 = .ok (.iaload, 1) := by decide +kernel
theorem dX4_gusts_55 : decode cX4_gusts 55 = .ok (.iconst 1, 1) := by decide +kernel
theorem dX4_gusts_56 : decode cX4_gusts 56 = .ok (.isub, 1) := by decide +kernel
theorem dX4_gusts_57 : decode cX4_gusts 57 = .ok (.istore 4, 2) := by decide +kernel
theorem dX4_gusts_59 : decode cX4_gusts 59 = .ok (.iload 4, 2) := by decide +kernel
theorem dX4_gusts_61 : decode cX4_gusts 61 = .ok (.ifCond .lt 35, 3) := by decide +kernel
theorem dX4_gusts_64 : decode cX4_gusts 64 = .ok (.aload_n 0, 1) := by decide +kernel
theorem dX4_gusts_65 : decode cX4_gusts 65 = .ok (.iload 4, 2) := by decide +kernel
theorem dX4_gusts_67 : decode cX4_gusts 67 = .ok (.iconst 1, 1) := by decide +kernel
theorem dX4_gusts_68 : decode cX4_gusts 68 = .ok (.invokevirtual 49, 3) := by decide +kernel
theorem dX4_gusts_71 : decode cX4_gusts 71 = .ok (.aload_n 0, 1) := by decide +kernel
theorem dX4_gusts_72 : decode cX4_gusts 72 = .ok (.iload 4, 2) := by decide +kernel
theorem dX4_gusts_74 : decode cX4_gusts 74 = .ok (.iconst 2, 1) := by decide +kernel
theorem dX4_gusts_75 : decode cX4_gusts 75 = .ok (.invokevirtual 49, 3) := by decide +kernel
theorem dX4_gusts_78 : decode cX4_gusts 78 = .ok (.if_icmp .le 12, 3) := by decide +kernel
theorem dX4_gusts_81 : decode cX4_gusts 81 = .ok (.aload_n 0, 1) := by decide +kernel
theorem dX4_gusts_82 : decode cX4_gusts 82 = .ok (.iload 4, 2) := by decide +kernel
theorem dX4_gusts_84 : decode cX4_gusts 84 = .ok (.invokevirtual 76, 3) := by decide +kernel
theorem dX4_gusts_87 : decode cX4_gusts 87 = .ok (.iinc 3 1, 3) := by decide +kernel
theorem dX4_gusts_90 : decode cX4_gusts 90 = .ok (.iinc 4 (-1), 3) := by decide +kernel
theorem dX4_gusts_93 : decode cX4_gusts 93 = .ok (.goto (-34), 3) := by decide +kernel
theorem dX4_gusts_96 : decode cX4_gusts 96 = .ok (.aload_n 0, 1) := by decide +kernel
theorem dX4_gusts_97 : decode cX4_gusts 97 = .ok (.getfield 7, 3) := by decide +kernel
theorem dX4_gusts_100 : decode cX4_gusts 100 = .ok (.iconst 3, 1) := by decide +kernel
theorem dX4_gusts_101 : decode cX4_gusts 101 = .ok (.dup2, 1) := by decide +kernel
theorem dX4_gusts_102 : decode cX4_gusts 102 = .ok (.iaload, 1) := by decide +kernel
theorem dX4_gusts_103 : decode cX4_gusts 103 = .ok (.iload_n 3, 1) := by decide +kernel
theorem dX4_gusts_104 : decode cX4_gusts 104 = .ok (.iadd, 1) := by decide +kernel
theorem dX4_gusts_105 : decode cX4_gusts 105 = .ok (.iastore, 1) := by decide +kernel
theorem dX4_gusts_106 : decode cX4_gusts 106 = .ok (.aload_n 0, 1) := by decide +kernel
theorem dX4_gusts_107 : decode cX4_gusts 107 = .ok (.getfield 7, 3) := by decide +kernel
theorem dX4_gusts_110 : decode cX4_gusts 110 = .ok (.bipush 8, 2) := by decide +kernel
theorem dX4_gusts_112 : decode cX4_gusts 112 = .ok (.dup2, 1) := by decide +kernel
theorem dX4_gusts_113 : decode cX4_gusts 113 = .ok (.iaload, 1) := by decide +kernel
theorem dX4_gusts_114 : decode cX4_gusts 114 = .ok (.iconst 1, 1) := by decide +kernel
theorem dX4_gusts_115 : decode cX4_gusts 115 = .ok (.iadd, 1) := by decide +kernel
theorem dX4_gusts_116 : decode cX4_gusts 116 = .ok (.iastore, 1) := by decide +kernel
theorem dX4_gusts_117 : decode cX4_gusts 117 = .ok (.iload_n 3, 1) := by decide +kernel
theorem dX4_gusts_118 : decode cX4_gusts 118 = .ok (.ireturn, 1) := by decide +kernel
set_option maxRecDepth 20000 in
theorem ggX4_passes_X4_of : GoodIn wsX4_passes wsX4_of := goodIn_r _ [7, 1, 8, 9, 6, 10, 11, 12, 13, 14, 15, 16, 17, 18, 19, 20, 21, 22, 23, 24, 25, 26] (by decide +kernel) (by decide +kernel)
set_option maxRecDepth 20000 in
theorem gX4_passes_X4_of : GoodIn wsX4_passes (wsV RX4 49 RX4 yX4_of wsX4_of) := goodIn_app (goodIn_of _ (by decide +kernel)) ggX4_passes_X4_of
set_option maxRecDepth 20000 in
theorem ggX4_passes_X4_at : GoodIn wsX4_passes wsX4_at := goodIn_r _ [10] (by decide +kernel) (by decide +kernel)
set_option maxRecDepth 20000 in
theorem gX4_passes_X4_at : GoodIn wsX4_passes (va_wsS RX4 36 yX4_at wsX4_at) := goodIn_app (goodIn_of _ (by decide +kernel)) ggX4_passes_X4_at
theorem dX4_passes_0 : decode cX4_passes 0 = .ok (.aload_n 0, 1) := by decide +kernel
theorem dX4_passes_1 : decode cX4_passes 1 = .ok (.getfield 7, 3) := by decide +kernel
theorem dX4_passes_4 : decode cX4_passes 4 = .ok (.bipush 9, 2) := by decide +kernel
theorem dX4_passes_6 : decode cX4_passes 6 = .ok (.iaload, 1) := by decide +kernel
theorem dX4_passes_7 : decode cX4_passes 7 = .ok (.iload_n 1, 1) := by decide +kernel
theorem dX4_passes_8 : decode cX4_passes 8 = .ok (.iadd, 1) := by decide +kernel
theorem dX4_passes_9 : decode cX4_passes 9 = .ok (.ldc 80, 2) := by decide +kernel
theorem dX4_passes_11 : decode cX4_passes 11 = .ok (.if_icmp .le 6, 3) := by decide +kernel
theorem dX4_passes_14 : decode cX4_passes 14 = .ok (.bipush (-3), 2) := by decide +kernel
theorem dX4_passes_16 : decode cX4_passes 16 = .ok (.ireturn, 1) := by decide +kernel
theorem dX4_passes_17 : decode cX4_passes 17 = .ok (.iconst 0, 1) := by decide +kernel
theorem dX4_passes_18 : decode cX4_passes 18 = .ok (.istore_n 2, 1) := by decide +kernel
theorem dX4_passes_19 : decode cX4_passes 19 = .ok (.iconst 0, 1) := by decide +kernel
theorem dX4_passes_20 : decode cX4_passes 20 = .ok (.istore_n 3, 1) := by decide +kernel
theorem dX4_passes_21 : decode cX4_passes 21 = .ok (.iload_n 3, 1) := by decide +kernel
theorem dX4_passes_22 : decode cX4_passes 22 = .ok (.aload_n 0, 1) := by decide +kernel
theorem dX4_passes_23 : decode cX4_passes 23 = .ok (.getfield 7, 3) := by decide +kernel
theorem dX4_passes_26 : decode cX4_passes 26 = .ok (.iconst 0, 1) := by decide +kernel
theorem dX4_passes_27 : decode cX4_passes 27 = .ok (.iaload, 1) := by decide +kernel
theorem dX4_passes_28 : decode cX4_passes 28 = .ok (.if_icmp .ge 61, 3) := by decide +kernel
theorem dX4_passes_31 : decode cX4_passes 31 = .ok (.aload_n 0, 1) := by decide +kernel
theorem dX4_passes_32 : decode cX4_passes 32 = .ok (.iload_n 3, 1) := by decide +kernel
theorem dX4_passes_33 : decode cX4_passes 33 = .ok (.iconst 1, 1) := by decide +kernel
theorem dX4_passes_34 : decode cX4_passes 34 = .ok (.invokevirtual 49, 3) := by decide +kernel
theorem dX4_passes_37 : decode cX4_passes 37 = .ok (.iload_n 1, 1) := by decide +kernel
theorem dX4_passes_38 : decode cX4_passes 38 = .ok (.aload_n 0, 1) := by decide +kernel
theorem dX4_passes_39 : decode cX4_passes 39 = .ok (.getfield 7, 3) := by decide +kernel
theorem dX4_passes_42 : decode cX4_passes 42 = .ok (.bipush 10, 2) := by decide +kernel
theorem dX4_passes_44 : decode cX4_passes 44 = .ok (.iaload, 1) := by decide +kernel
theorem dX4_passes_45 : decode cX4_passes 45 = .ok (.imul, 1) := by decide +kernel
theorem dX4_passes_46 : decode cX4_passes 46 = .ok (.isub, 1) := by decide +kernel
theorem dX4_passes_47 : decode cX4_passes 47 = .ok (.istore 4, 2) := by decide +kernel
theorem dX4_passes_49 : decode cX4_passes 49 = .ok (.aload_n 0, 1) := by decide +kernel
theorem dX4_passes_50 : decode cX4_passes 50 = .ok (.getfield 7, 3) := by decide +kernel
theorem dX4_passes_53 : decode cX4_passes 53 = .ok (.iload_n 3, 1) := by decide +kernel
theorem dX4_passes_54 : decode cX4_passes 54 = .ok (.iconst 1, 1) := by decide +kernel
theorem dX4_passes_55 : decode cX4_passes 55 = .ok (.invokestatic 36, 3) := by decide +kernel
theorem dX4_passes_58 : decode cX4_passes 58 = .ok (.iload 4, 2) := by decide +kernel
theorem dX4_passes_60 : decode cX4_passes 60 = .ok (.ifCond .ge 7, 3) := by decide +kernel
theorem dX4_passes_63 : decode cX4_passes 63 = .ok (.iconst 0, 1) := by decide +kernel
theorem dX4_passes_64 : decode cX4_passes 64 = .ok (.goto 5, 3) := by decide +kernel
theorem dX4_passes_67 : decode cX4_passes 67 = .ok (.iload 4, 2) := by decide +kernel
theorem dX4_passes_69 : decode cX4_passes 69 = .ok (.iastore, 1) := by decide +kernel
theorem dX4_passes_70 : decode cX4_passes 70 = .ok (.iload_n 2, 1) := by decide +kernel
theorem dX4_passes_71 : decode cX4_passes 71 = .ok (.iload 4, 2) := by decide +kernel
theorem dX4_passes_73 : decode cX4_passes 73 = .ok (.ifCond .gt 7, 3) := by decide +kernel
theorem dX4_passes_76 : decode cX4_passes 76 = .ok (.iconst 1, 1) := by decide +kernel
theorem dX4_passes_77 : decode cX4_passes 77 = .ok (.goto 4, 3) := by decide +kernel
theorem dX4_passes_80 : decode cX4_passes 80 = .ok (.iconst 0, 1) := by decide +kernel
theorem dX4_passes_81 : decode cX4_passes 81 = .ok (.iadd, 1) := by decide +kernel
theorem dX4_passes_82 : decode cX4_passes 82 = .ok (.istore_n 2, 1) := by decide +kernel
theorem dX4_passes_83 : decode cX4_passes 83 = .ok (.iinc 3 1, 3) := by decide +kernel
theorem dX4_passes_86 : decode cX4_passes 86 = .ok (.goto (-65), 3) := by decide +kernel
theorem dX4_passes_89 : decode cX4_passes 89 = .ok (.aload_n 0, 1) := by decide +kernel
theorem dX4_passes_90 : decode cX4_passes 90 = .ok (.getfield 7, 3) := by decide +kernel
theorem dX4_passes_93 : decode cX4_passes 93 = .ok (.bipush 9, 2) := by decide +kernel
theorem dX4_passes_95 : decode cX4_passes 95 = .ok (.dup2, 1) := by decide +kernel
theorem dX4_passes_96 : decode cX4_passes 96 = .ok (.iaload, 1) := by decide +kernel
theorem dX4_passes_97 : decode cX4_passes 97 = .ok (.iload_n 1, 1) := by decide +kernel
theorem dX4_passes_98 : decode cX4_passes 98 = .ok (.iadd, 1) := by decide +kernel
theorem dX4_passes_99 : decode cX4_passes 99 = .ok (.iastore, 1) := by decide +kernel
theorem dX4_passes_100 : decode cX4_passes 100 = .ok (.iload_n 2, 1) := by decide +kernel
theorem dX4_passes_101 : decode cX4_passes 101 = .ok (.ireturn, 1) := by decide +kernel
theorem dX4_served_0 : decode cX4_served 0 = .ok (.aload_n 0, 1) := by decide +kernel
theorem dX4_served_1 : decode cX4_served 1 = .ok (.getfield 7, 3) := by decide +kernel
theorem dX4_served_4 : decode cX4_served 4 = .ok (.bipush 11, 2) := by decide +kernel
theorem dX4_served_6 : decode cX4_served 6 = .ok (.iaload, 1) := by decide +kernel
theorem dX4_served_7 : decode cX4_served 7 = .ok (.aload_n 0, 1) := by decide +kernel
theorem dX4_served_8 : decode cX4_served 8 = .ok (.getfield 7, 3) := by decide +kernel
theorem dX4_served_11 : decode cX4_served 11 = .ok (.iconst 0, 1) := by decide +kernel
theorem dX4_served_12 : decode cX4_served 12 = .ok (.iaload, 1) := by decide +kernel
theorem dX4_served_13 : decode cX4_served 13 = .ok (.if_icmp .ge 13, 3) := by decide +kernel
theorem dX4_served_16 : decode cX4_served 16 = .ok (.aload_n 0, 1) := by decide +kernel
theorem dX4_served_17 : decode cX4_served 17 = .ok (.getfield 7, 3) := by decide +kernel
theorem dX4_served_20 : decode cX4_served 20 = .ok (.bipush 11, 2) := by decide +kernel
theorem dX4_served_22 : decode cX4_served 22 = .ok (.iaload, 1) := by decide +kernel
theorem dX4_served_23 : decode cX4_served 23 = .ok (.goto 9, 3) := by decide +kernel
theorem dX4_served_26 : decode cX4_served 26 = .ok (.aload_n 0, 1) := by decide +kernel
theorem dX4_served_27 : decode cX4_served 27 = .ok (.getfield 7, 3) := by decide +kernel
theorem dX4_served_30 : decode cX4_served 30 = .ok (.iconst 0, 1) := by decide +kernel
theorem dX4_served_31 : decode cX4_served 31 = .ok (.iaload, 1) := by decide +kernel
theorem dX4_served_32 : decode cX4_served 32 = .ok (.ireturn, 1) := by decide +kernel
set_option maxRecDepth 20000 in
theorem ggX4_driest_X4_served : GoodIn wsX4_driest wsX4_served := goodIn_r _ [5, 6, 14, 15, 16, 17, 18, 19, 20, 21, 22, 23, 24, 25, 26, 27, 28, 29] (by decide +kernel) (by decide +kernel)
set_option maxRecDepth 20000 in
theorem gX4_driest_X4_served : GoodIn wsX4_driest (wsV RX4 81 RX4 yX4_served wsX4_served) := goodIn_app (goodIn_of _ (by decide +kernel)) ggX4_driest_X4_served
set_option maxRecDepth 20000 in
theorem ggX4_driest_X4_of : GoodIn wsX4_driest wsX4_of := goodIn_r _ [10, 6, 11, 12, 4, 13, 14, 15, 16, 17, 18, 19, 20, 21, 22, 23, 24, 25, 26, 27, 28, 29] (by decide +kernel) (by decide +kernel)
set_option maxRecDepth 20000 in
theorem gX4_driest_X4_of : GoodIn wsX4_driest (wsV RX4 49 RX4 yX4_of wsX4_of) := goodIn_app (goodIn_of _ (by decide +kernel)) ggX4_driest_X4_of
theorem dX4_driest_0 : decode cX4_driest 0 = .ok (.iconst 0, 1) := by decide +kernel
theorem dX4_driest_1 : decode cX4_driest 1 = .ok (.istore_n 1, 1) := by decide +kernel
theorem dX4_driest_2 : decode cX4_driest 2 = .ok (.iconst 1, 1) := by decide +kernel
theorem dX4_driest_3 : decode cX4_driest 3 = .ok (.istore_n 2, 1) := by decide +kernel
theorem dX4_driest_4 : decode cX4_driest 4 = .ok (.iload_n 2, 1) := by decide +kernel
theorem dX4_driest_5 : decode cX4_driest 5 = .ok (.aload_n 0, 1) := by decide +kernel
theorem dX4_driest_6 : decode cX4_driest 6 = .ok (.invokevirtual 81, 3) := by decide +kernel
theorem dX4_driest_9 : decode cX4_driest 9 = .ok (.if_icmp .ge 30, 3) := by decide +kernel
theorem dX4_driest_12 : decode cX4_driest 12 = .ok (.aload_n 0, 1) := by decide +kernel
theorem dX4_driest_13 : decode cX4_driest 13 = .ok (.iload_n 2, 1) := by decide +kernel
theorem dX4_driest_14 : decode cX4_driest 14 = .ok (.iconst 1, 1) := by decide +kernel
theorem dX4_driest_15 : decode cX4_driest 15 = .ok (.invokevirtual 49, 3) := by decide +kernel
theorem dX4_driest_18 : decode cX4_driest 18 = .ok (.aload_n 0, 1) := by decide +kernel
theorem dX4_driest_19 : decode cX4_driest 19 = .ok (.iload_n 1, 1) := by decide +kernel
theorem dX4_driest_20 : decode cX4_driest 20 = .ok (.iconst 1, 1) := by decide +kernel
theorem dX4_driest_21 : decode cX4_driest 21 = .ok (.invokevirtual 49, 3) := by decide +kernel
theorem dX4_driest_24 : decode cX4_driest 24 = .ok (.if_icmp .ge 7, 3) := by decide +kernel
theorem dX4_driest_27 : decode cX4_driest 27 = .ok (.iload_n 2, 1) := by decide +kernel
theorem dX4_driest_28 : decode cX4_driest 28 = .ok (.goto 4, 3) := by decide +kernel
theorem dX4_driest_31 : decode cX4_driest 31 = .ok (.iload_n 1, 1) := by decide +kernel
theorem dX4_driest_32 : decode cX4_driest 32 = .ok (.istore_n 1, 1) := by decide +kernel
theorem dX4_driest_33 : decode cX4_driest 33 = .ok (.iinc 2 1, 3) := by decide +kernel
theorem dX4_driest_36 : decode cX4_driest 36 = .ok (.goto (-32), 3) := by decide +kernel
theorem dX4_driest_39 : decode cX4_driest 39 = .ok (.iload_n 1, 1) := by decide +kernel
theorem dX4_driest_40 : decode cX4_driest 40 = .ok (.ireturn, 1) := by decide +kernel
set_option maxRecDepth 20000 in
theorem ggX4_coinsPaid_X4_served : GoodIn wsX4_coinsPaid wsX4_served := goodIn_r _ [6, 1, 18, 19, 20, 21, 22, 23, 24, 25, 26, 27, 28, 29, 30, 31, 32, 33] (by decide +kernel) (by decide +kernel)
set_option maxRecDepth 20000 in
theorem gX4_coinsPaid_X4_served : GoodIn wsX4_coinsPaid (wsV RX4 81 RX4 yX4_served wsX4_served) := goodIn_app (goodIn_of _ (by decide +kernel)) ggX4_coinsPaid_X4_served
set_option maxRecDepth 20000 in
theorem ggX4_coinsPaid_X4_driest : GoodIn wsX4_coinsPaid wsX4_driest := goodIn_r _ [10, 2, 3, 4, 5, 6, 1, 11, 12, 13, 14, 15, 16, 17, 18, 19, 20, 21, 22, 23, 24, 25, 26, 27, 28, 29, 30, 31, 32, 33] (by decide +kernel) (by decide +kernel)
set_option maxRecDepth 20000 in
theorem gX4_coinsPaid_X4_driest : GoodIn wsX4_coinsPaid (wsV RX4 85 RX4 yX4_driest wsX4_driest) := goodIn_app (goodIn_of _ (by decide +kernel)) ggX4_coinsPaid_X4_driest
set_option maxRecDepth 20000 in
theorem ggX4_coinsPaid_X4_of : GoodIn wsX4_coinsPaid wsX4_of := goodIn_r _ [14, 1, 15, 16, 5, 17, 18, 19, 20, 21, 22, 23, 24, 25, 26, 27, 28, 29, 30, 31, 32, 33] (by decide +kernel) (by decide +kernel)
set_option maxRecDepth 20000 in
theorem gX4_coinsPaid_X4_of : GoodIn wsX4_coinsPaid (wsV RX4 49 RX4 yX4_of wsX4_of) := goodIn_app (goodIn_of _ (by decide +kernel)) ggX4_coinsPaid_X4_of
theorem dX4_coinsPaid_0 : decode cX4_coinsPaid 0 = .ok (.aload_n 0, 1) := by decide +kernel
theorem dX4_coinsPaid_1 : decode cX4_coinsPaid 1 = .ok (.invokevirtual 81, 3) := by decide +kernel
theorem dX4_coinsPaid_4 : decode cX4_coinsPaid 4 = .ok (.aload_n 0, 1) := by decide +kernel
theorem dX4_coinsPaid_5 : decode cX4_coinsPaid 5 = .ok (.getfield 7, 3) := by decide +kernel
theorem dX4_coinsPaid_8 : decode cX4_coinsPaid 8 = .ok (.bipush 12, 2) := by decide +kernel
theorem dX4_coinsPaid_10 : decode cX4_coinsPaid 10 = .ok (.iaload, 1) := by decide +kernel
theorem dX4_coinsPaid_11 : decode cX4_coinsPaid 11 = .ok (.imul, 1) := by decide +kernel
theorem dX4_coinsPaid_12 : decode cX4_coinsPaid 12 = .ok (.istore_n 1, 1) := by decide +kernel
theorem dX4_coinsPaid_13 : decode cX4_coinsPaid 13 = .ok (.iload_n 1, 1) := by decide +kernel
theorem dX4_coinsPaid_14 : decode cX4_coinsPaid 14 = .ok (.aload_n 0, 1) := by decide +kernel
theorem dX4_coinsPaid_15 : decode cX4_coinsPaid 15 = .ok (.aload_n 0, 1) := by decide +kernel
theorem dX4_coinsPaid_16 : decode cX4_coinsPaid 16 = .ok (.invokevirtual 85, 3) := by decide +kernel
theorem dX4_coinsPaid_19 : decode cX4_coinsPaid 19 = .ok (.iconst 3, 1) := by decide +kernel
theorem dX4_coinsPaid_20 : decode cX4_coinsPaid 20 = .ok (.invokevirtual 49, 3) := by decide +kernel
theorem dX4_coinsPaid_23 : decode cX4_coinsPaid 23 = .ok (.if_icmp .ge 7, 3) := by decide +kernel
theorem dX4_coinsPaid_26 : decode cX4_coinsPaid 26 = .ok (.iload_n 1, 1) := by decide +kernel
theorem dX4_coinsPaid_27 : decode cX4_coinsPaid 27 = .ok (.goto 12, 3) := by decide +kernel
theorem dX4_coinsPaid_30 : decode cX4_coinsPaid 30 = .ok (.aload_n 0, 1) := by decide +kernel
theorem dX4_coinsPaid_31 : decode cX4_coinsPaid 31 = .ok (.aload_n 0, 1) := by decide +kernel
theorem dX4_coinsPaid_32 : decode cX4_coinsPaid 32 = .ok (.invokevirtual 85, 3) := by decide +kernel
theorem dX4_coinsPaid_35 : decode cX4_coinsPaid 35 = .ok (.iconst 3, 1) := by decide +kernel
theorem dX4_coinsPaid_36 : decode cX4_coinsPaid 36 = .ok (.invokevirtual 49, 3) := by decide +kernel
theorem dX4_coinsPaid_39 : decode cX4_coinsPaid 39 = .ok (.ireturn, 1) := by decide +kernel
set_option maxRecDepth 20000 in
theorem ggX4_serves_X4_served : GoodIn wsX4_serves wsX4_served := goodIn_r _ [6, 1, 26, 27, 28, 29, 30, 31, 32, 33, 34, 35, 36, 37, 38, 39, 40, 41] (by decide +kernel) (by decide +kernel)
set_option maxRecDepth 20000 in
theorem gX4_serves_X4_served : GoodIn wsX4_serves (wsV RX4 81 RX4 yX4_served wsX4_served) := goodIn_app (goodIn_of _ (by decide +kernel)) ggX4_serves_X4_served
set_option maxRecDepth 20000 in
theorem ggX4_serves_X4_coinsPaid : GoodIn wsX4_serves wsX4_coinsPaid := goodIn_r _ [10, 1, 2, 3, 4, 5, 6, 11, 12, 13, 14, 15, 16, 17, 18, 19, 20, 21, 26, 27, 28, 29, 30, 31, 32, 33, 34, 35, 36, 37, 38, 39, 40, 41] (by decide +kernel) (by decide +kernel)
set_option maxRecDepth 20000 in
theorem gX4_serves_X4_coinsPaid : GoodIn wsX4_serves (wsV RX4 88 RX4 yX4_coinsPaid wsX4_coinsPaid) := goodIn_app (goodIn_of _ (by decide +kernel)) ggX4_serves_X4_coinsPaid
set_option maxRecDepth 20000 in
theorem ggX4_serves_X4_goes : GoodIn wsX4_serves wsX4_goes := goodIn_r _ [25, 1, 19, 20, 5, 21, 26, 27, 28, 29, 30, 31, 32, 33, 34, 35, 36, 37, 38, 39, 40, 41] (by decide +kernel) (by decide +kernel)
set_option maxRecDepth 20000 in
theorem gX4_serves_X4_goes : GoodIn wsX4_serves (wsV RX4 76 RX4 yX4_goes wsX4_goes) := goodIn_app (goodIn_of _ (by decide +kernel)) ggX4_serves_X4_goes
theorem dX4_serves_0 : decode cX4_serves 0 = .ok (.aload_n 0, 1) := by decide +kernel
theorem dX4_serves_1 : decode cX4_serves 1 = .ok (.getfield 7, 3) := by decide +kernel
theorem dX4_serves_4 : decode cX4_serves 4 = .ok (.iconst 0, 1) := by decide +kernel
theorem dX4_serves_5 : decode cX4_serves 5 = .ok (.iaload, 1) := by decide +kernel
theorem dX4_serves_6 : decode cX4_serves 6 = .ok (.ifCond .ne 6, 3) := by decide +kernel
theorem dX4_serves_9 : decode cX4_serves 9 = .ok (.bipush (-5), 2) := by decide +kernel
theorem dX4_serves_11 : decode cX4_serves 11 = .ok (.ireturn, 1) := by decide +kernel
theorem dX4_serves_12 : decode cX4_serves 12 = .ok (.aload_n 0, 1) := by decide +kernel
theorem dX4_serves_13 : decode cX4_serves 13 = .ok (.invokevirtual 81, 3) := by decide +kernel
theorem dX4_serves_16 : decode cX4_serves 16 = .ok (.istore_n 1, 1) := by decide +kernel
theorem dX4_serves_17 : decode cX4_serves 17 = .ok (.aload_n 0, 1) := by decide +kernel
theorem dX4_serves_18 : decode cX4_serves 18 = .ok (.invokevirtual 88, 3) := by decide +kernel
theorem dX4_serves_21 : decode cX4_serves 21 = .ok (.istore_n 2, 1) := by decide +kernel
theorem dX4_serves_22 : decode cX4_serves 22 = .ok (.aload_n 0, 1) := by decide +kernel
theorem dX4_serves_23 : decode cX4_serves 23 = .ok (.getfield 7, 3) := by decide +kernel
theorem dX4_serves_26 : decode cX4_serves 26 = .ok (.iconst 4, 1) := by decide +kernel
theorem dX4_serves_27 : decode cX4_serves 27 = .ok (.dup2, 1) := by decide +kernel
theorem dX4_serves_28 : decode cX4_serves 28 = .ok (.iaload, 1) := by decide +kernel
theorem dX4_serves_29 : decode cX4_serves 29 = .ok (.iload_n 1, 1) := by decide +kernel
theorem dX4_serves_30 : decode cX4_serves 30 = .ok (.iadd, 1) := by decide +kernel
theorem dX4_serves_31 : decode cX4_serves 31 = .ok (.iastore, 1) := by decide +kernel
theorem dX4_serves_32 : decode cX4_serves 32 = .ok (.aload_n 0, 1) := by decide +kernel
theorem dX4_serves_33 : decode cX4_serves 33 = .ok (.getfield 7, 3) := by decide +kernel
theorem dX4_serves_36 : decode cX4_serves 36 = .ok (.iconst 5, 1) := by decide +kernel
theorem dX4_serves_37 : decode cX4_serves 37 = .ok (.dup2, 1) := by decide +kernel
theorem dX4_serves_38 : decode cX4_serves 38 = .ok (.iaload, 1) := by decide +kernel
theorem dX4_serves_39 : decode cX4_serves 39 = .ok (.iload_n 2, 1) := by decide +kernel
theorem dX4_serves_40 : decode cX4_serves 40 = .ok (.iadd, 1) := by decide +kernel
theorem dX4_serves_41 : decode cX4_serves 41 = .ok (.iastore, 1) := by decide +kernel
theorem dX4_serves_42 : decode cX4_serves 42 = .ok (.aload_n 0, 1) := by decide +kernel
theorem dX4_serves_43 : decode cX4_serves 43 = .ok (.getfield 7, 3) := by decide +kernel
theorem dX4_serves_46 : decode cX4_serves 46 = .ok (.bipush 6, 2) := by decide +kernel
theorem dX4_serves_48 : decode cX4_serves 48 = .ok (.dup2, 1) := by decide +kernel
theorem dX4_serves_49 : decode cX4_serves 49 = .ok (.iaload, 1) := by decide +kernel
theorem dX4_serves_50 : decode cX4_serves 50 = .ok (.iload_n 1, 1) := by decide +kernel
theorem dX4_serves_51 : decode cX4_serves 51 = .ok (.aload_n 0, 1) := by decide +kernel
theorem dX4_serves_52 : decode cX4_serves 52 = .ok (.getfield 7, 3) := by decide +kernel
theorem dX4_serves_55 : decode cX4_serves 55 = .ok (.bipush 12, 2) := by decide +kernel
theorem dX4_serves_57 : decode cX4_serves 57 = .ok (.iaload, 1) := by decide +kernel
theorem dX4_serves_58 : decode cX4_serves 58 = .ok (.imul, 1) := by decide +kernel
theorem dX4_serves_59 : decode cX4_serves 59 = .ok (.iload_n 2, 1) := by decide +kernel
theorem dX4_serves_60 : decode cX4_serves 60 = .ok (.isub, 1) := by decide +kernel
theorem dX4_serves_61 : decode cX4_serves 61 = .ok (.iadd, 1) := by decide +kernel
theorem dX4_serves_62 : decode cX4_serves 62 = .ok (.iastore, 1) := by decide +kernel
theorem dX4_serves_63 : decode cX4_serves 63 = .ok (.iconst 0, 1) := by decide +kernel
theorem dX4_serves_64 : decode cX4_serves 64 = .ok (.istore_n 3, 1) := by decide +kernel
theorem dX4_serves_65 : decode cX4_serves 65 = .ok (.iload_n 3, 1) := by decide +kernel
theorem dX4_serves_66 : decode cX4_serves 66 = .ok (.iload_n 1, 1) := by decide +kernel
theorem dX4_serves_67 : decode cX4_serves 67 = .ok (.if_icmp .ge 14, 3) := by decide +kernel
theorem dX4_serves_70 : decode cX4_serves 70 = .ok (.aload_n 0, 1) := by decide +kernel
theorem dX4_serves_71 : decode cX4_serves 71 = .ok (.iconst 0, 1) := by decide +kernel
theorem dX4_serves_72 : decode cX4_serves 72 = .ok (.invokevirtual 76, 3) := by decide +kernel
theorem dX4_serves_75 : decode cX4_serves 75 = .ok (.iinc 3 1, 3) := by decide +kernel
theorem dX4_serves_78 : decode cX4_serves 78 = .ok (.goto (-13), 3) := by decide +kernel
theorem dX4_serves_81 : decode cX4_serves 81 = .ok (.iload_n 2, 1) := by decide +kernel
theorem dX4_serves_82 : decode cX4_serves 82 = .ok (.ireturn, 1) := by decide +kernel
set_option maxRecDepth 20000 in
theorem ggX4_arePair_X4_isPlace : GoodIn wsX4_arePair wsX4_isPlace := goodIn_r _ [5, 6, 7, 8, 4, 9, 10, 11, 12, 13, 14, 15, 16, 17, 18, 19, 20, 21, 22, 23, 24, 25] (by decide +kernel) (by decide +kernel)
set_option maxRecDepth 20000 in
theorem gX4_arePair_X4_isPlace : GoodIn wsX4_arePair (wsV RX4 91 RX4 yX4_isPlace wsX4_isPlace) := goodIn_app (goodIn_of _ (by decide +kernel)) ggX4_arePair_X4_isPlace
theorem dX4_arePair_0 : decode cX4_arePair 0 = .ok (.aload_n 0, 1) := by decide +kernel
theorem dX4_arePair_1 : decode cX4_arePair 1 = .ok (.iload_n 1, 1) := by decide +kernel
theorem dX4_arePair_2 : decode cX4_arePair 2 = .ok (.invokevirtual 91, 3) := by decide +kernel
theorem dX4_arePair_5 : decode cX4_arePair 5 = .ok (.ifCond .eq 17, 3) := by decide +kernel
theorem dX4_arePair_8 : decode cX4_arePair 8 = .ok (.aload_n 0, 1) := by decide +kernel
theorem dX4_arePair_9 : decode cX4_arePair 9 = .ok (.iload_n 1, 1) := by decide +kernel
theorem dX4_arePair_10 : decode cX4_arePair 10 = .ok (.iconst 1, 1) := by decide +kernel
theorem dX4_arePair_11 : decode cX4_arePair 11 = .ok (.iadd, 1) := by decide +kernel
theorem dX4_arePair_12 : decode cX4_arePair 12 = .ok (.invokevirtual 91, 3) := by decide +kernel
theorem dX4_arePair_15 : decode cX4_arePair 15 = .ok (.ifCond .eq 7, 3) := by decide +kernel
theorem dX4_arePair_18 : decode cX4_arePair 18 = .ok (.iconst 1, 1) := by decide +kernel
theorem dX4_arePair_19 : decode cX4_arePair 19 = .ok (.goto 4, 3) := by decide +kernel
theorem dX4_arePair_22 : decode cX4_arePair 22 = .ok (.iconst 0, 1) := by decide +kernel
theorem dX4_arePair_23 : decode cX4_arePair 23 = .ok (.ireturn, 1) := by decide +kernel
set_option maxRecDepth 20000 in
theorem ggX4_why_X4_of : GoodIn wsX4_why wsX4_of := goodIn_r _ [5, 6, 7, 8, 4, 9, 10, 11, 12, 13, 14, 15, 16, 17, 18, 19, 20, 21, 22, 23, 24, 25] (by decide +kernel) (by decide +kernel)
set_option maxRecDepth 20000 in
theorem gX4_why_X4_of : GoodIn wsX4_why (wsV RX4 49 RX4 yX4_of wsX4_of) := goodIn_app (goodIn_of _ (by decide +kernel)) ggX4_why_X4_of
theorem dX4_why_0 : decode cX4_why 0 = .ok (.aload_n 0, 1) := by decide +kernel
theorem dX4_why_1 : decode cX4_why 1 = .ok (.iload_n 1, 1) := by decide +kernel
theorem dX4_why_2 : decode cX4_why 2 = .ok (.iconst 4, 1) := by decide +kernel
theorem dX4_why_3 : decode cX4_why 3 = .ok (.invokevirtual 49, 3) := by decide +kernel
theorem dX4_why_6 : decode cX4_why 6 = .ok (.istore_n 2, 1) := by decide +kernel
theorem dX4_why_7 : decode cX4_why 7 = .ok (.aload_n 0, 1) := by decide +kernel
theorem dX4_why_8 : decode cX4_why 8 = .ok (.iload_n 1, 1) := by decide +kernel
theorem dX4_why_9 : decode cX4_why 9 = .ok (.iconst 1, 1) := by decide +kernel
theorem dX4_why_10 : decode cX4_why 10 = .ok (.iadd, 1) := by decide +kernel
theorem dX4_why_11 : decode cX4_why 11 = .ok (.iconst 4, 1) := by decide +kernel
theorem dX4_why_12 : decode cX4_why 12 = .ok (.invokevirtual 49, 3) := by decide +kernel
theorem dX4_why_15 : decode cX4_why 15 = .ok (.istore_n 3, 1) := by decide +kernel
theorem dX4_why_16 : decode cX4_why 16 = .ok (.iload_n 2, 1) := by decide +kernel
theorem dX4_why_17 : decode cX4_why 17 = .ok (.iload_n 3, 1) := by decide +kernel
theorem dX4_why_18 : decode cX4_why 18 = .ok (.if_icmp .le 21, 3) := by decide +kernel
theorem dX4_why_21 : decode cX4_why 21 = .ok (.aload_n 0, 1) := by decide +kernel
theorem dX4_why_22 : decode cX4_why 22 = .ok (.iload_n 1, 1) := by decide +kernel
theorem dX4_why_23 : decode cX4_why 23 = .ok (.iconst 1, 1) := by decide +kernel
theorem dX4_why_24 : decode cX4_why 24 = .ok (.invokevirtual 49, 3) := by decide +kernel
theorem dX4_why_27 : decode cX4_why 27 = .ok (.aload_n 0, 1) := by decide +kernel
theorem dX4_why_28 : decode cX4_why 28 = .ok (.iload_n 1, 1) := by decide +kernel
theorem dX4_why_29 : decode cX4_why 29 = .ok (.iconst 1, 1) := by decide +kernel
theorem dX4_why_30 : decode cX4_why 30 = .ok (.iadd, 1) := by decide +kernel
theorem dX4_why_31 : decode cX4_why 31 = .ok (.iconst 1, 1) := by decide +kernel
theorem dX4_why_32 : decode cX4_why 32 = .ok (.invokevirtual 49, 3) := by decide +kernel
theorem dX4_why_35 : decode cX4_why 35 = .ok (.isub, 1) := by decide +kernel
theorem dX4_why_36 : decode cX4_why 36 = .ok (.goto 18, 3) := by decide +kernel
theorem dX4_why_39 : decode cX4_why 39 = .ok (.aload_n 0, 1) := by decide +kernel
theorem dX4_why_40 : decode cX4_why 40 = .ok (.iload_n 1, 1) := by decide +kernel
theorem dX4_why_41 : decode cX4_why 41 = .ok (.iconst 1, 1) := by decide +kernel
theorem dX4_why_42 : decode cX4_why 42 = .ok (.iadd, 1) := by decide +kernel
theorem dX4_why_43 : decode cX4_why 43 = .ok (.iconst 1, 1) := by decide +kernel
theorem dX4_why_44 : decode cX4_why 44 = .ok (.invokevirtual 49, 3) := by decide +kernel
theorem dX4_why_47 : decode cX4_why 47 = .ok (.aload_n 0, 1) := by decide +kernel
theorem dX4_why_48 : decode cX4_why 48 = .ok (.iload_n 1, 1) := by decide +kernel
theorem dX4_why_49 : decode cX4_why 49 = .ok (.iconst 1, 1) := by decide +kernel
theorem dX4_why_50 : decode cX4_why 50 = .ok (.invokevirtual 49, 3) := by decide +kernel
theorem dX4_why_53 : decode cX4_why 53 = .ok (.isub, 1) := by decide +kernel
theorem dX4_why_54 : decode cX4_why 54 = .ok (.istore 4, 2) := by decide +kernel
theorem dX4_why_56 : decode cX4_why 56 = .ok (.iload_n 2, 1) := by decide +kernel
theorem dX4_why_57 : decode cX4_why 57 = .ok (.iload_n 3, 1) := by decide +kernel
theorem dX4_why_58 : decode cX4_why 58 = .ok (.if_icmp .ne 7, 3) := by decide +kernel
theorem dX4_why_61 : decode cX4_why 61 = .ok (.iconst 1, 1) := by decide +kernel
theorem dX4_why_62 : decode cX4_why 62 = .ok (.goto 32, 3) := by decide +kernel
theorem dX4_why_65 : decode cX4_why 65 = .ok (.iload_n 2, 1) := by decide +kernel
theorem dX4_why_66 : decode cX4_why 66 = .ok (.ifCond .eq 7, 3) := by decide +kernel
theorem dX4_why_69 : decode cX4_why 69 = .ok (.iload_n 3, 1) := by decide +kernel
theorem dX4_why_70 : decode cX4_why 70 = .ok (.ifCond .ne 14, 3) := by decide +kernel
theorem dX4_why_73 : decode cX4_why 73 = .ok (.iload 4, 2) := by decide +kernel
theorem dX4_why_75 : decode cX4_why 75 = .ok (.bipush (-50), 2) := by decide +kernel
theorem dX4_why_77 : decode cX4_why 77 = .ok (.if_icmp .le 7, 3) := by decide +kernel
theorem dX4_why_80 : decode cX4_why 80 = .ok (.iconst 2, 1) := by decide +kernel
theorem dX4_why_81 : decode cX4_why 81 = .ok (.goto 13, 3) := by decide +kernel
theorem dX4_why_84 : decode cX4_why 84 = .ok (.iload 4, 2) := by decide +kernel
theorem dX4_why_86 : decode cX4_why 86 = .ok (.ifCond .le 7, 3) := by decide +kernel
theorem dX4_why_89 : decode cX4_why 89 = .ok (.iconst 3, 1) := by decide +kernel
theorem dX4_why_90 : decode cX4_why 90 = .ok (.goto 4, 3) := by decide +kernel
theorem dX4_why_93 : decode cX4_why 93 = .ok (.iconst 0, 1) := by decide +kernel
theorem dX4_why_94 : decode cX4_why 94 = .ok (.ireturn, 1) := by decide +kernel
set_option maxRecDepth 20000 in
theorem ggX4_exchange_X4_of : GoodIn wsX4_exchange wsX4_of := goodIn_r _ [6, 1, 7, 8, 5, 9, 10, 11, 12, 13, 14, 15, 16, 17, 18, 19, 20, 21, 22, 23, 24, 25] (by decide +kernel) (by decide +kernel)
set_option maxRecDepth 20000 in
theorem gX4_exchange_X4_of : GoodIn wsX4_exchange (wsV RX4 49 RX4 yX4_of wsX4_of) := goodIn_app (goodIn_of _ (by decide +kernel)) ggX4_exchange_X4_of
set_option maxRecDepth 20000 in
theorem ggX4_exchange_X4_at : GoodIn wsX4_exchange wsX4_at := goodIn_r _ [9] (by decide +kernel) (by decide +kernel)
set_option maxRecDepth 20000 in
theorem gX4_exchange_X4_at : GoodIn wsX4_exchange (va_wsS RX4 36 yX4_at wsX4_at) := goodIn_app (goodIn_of _ (by decide +kernel)) ggX4_exchange_X4_at
theorem dX4_exchange_0 : decode cX4_exchange 0 = .ok (.aload_n 0, 1) := by decide +kernel
theorem dX4_exchange_1 : decode cX4_exchange 1 = .ok (.iload_n 1, 1) := by decide +kernel
theorem dX4_exchange_2 : decode cX4_exchange 2 = .ok (.iload_n 2, 1) := by decide +kernel
theorem dX4_exchange_3 : decode cX4_exchange 3 = .ok (.invokevirtual 49, 3) := by decide +kernel
theorem dX4_exchange_6 : decode cX4_exchange 6 = .ok (.istore_n 3, 1) := by decide +kernel
theorem dX4_exchange_7 : decode cX4_exchange 7 = .ok (.aload_n 0, 1) := by decide +kernel
theorem dX4_exchange_8 : decode cX4_exchange 8 = .ok (.getfield 7, 3) := by decide +kernel
theorem dX4_exchange_11 : decode cX4_exchange 11 = .ok (.iload_n 1, 1) := by decide +kernel
theorem dX4_exchange_12 : decode cX4_exchange 12 = .ok (.iload_n 2, 1) := by decide +kernel
theorem dX4_exchange_13 : decode cX4_exchange 13 = .ok (.invokestatic 36, 3) := by decide +kernel
theorem dX4_exchange_16 : decode cX4_exchange 16 = .ok (.aload_n 0, 1) := by decide +kernel
theorem dX4_exchange_17 : decode cX4_exchange 17 = .ok (.iload_n 1, 1) := by decide +kernel
theorem dX4_exchange_18 : decode cX4_exchange 18 = .ok (.iconst 1, 1) := by decide +kernel
theorem dX4_exchange_19 : decode cX4_exchange 19 = .ok (.iadd, 1) := by decide +kernel
theorem dX4_exchange_20 : decode cX4_exchange 20 = .ok (.iload_n 2, 1) := by decide +kernel
theorem dX4_exchange_21 : decode cX4_exchange 21 = .ok (.invokevirtual 49, 3) := by decide +kernel
theorem dX4_exchange_24 : decode cX4_exchange 24 = .ok (.iastore, 1) := by decide +kernel
theorem dX4_exchange_25 : decode cX4_exchange 25 = .ok (.aload_n 0, 1) := by decide +kernel
theorem dX4_exchange_26 : decode cX4_exchange 26 = .ok (.getfield 7, 3) := by decide +kernel
theorem dX4_exchange_29 : decode cX4_exchange 29 = .ok (.iload_n 1, 1) := by decide +kernel
theorem dX4_exchange_30 : decode cX4_exchange 30 = .ok (.iconst 1, 1) := by decide +kernel
theorem dX4_exchange_31 : decode cX4_exchange 31 = .ok (.iadd, 1) := by decide +kernel
theorem dX4_exchange_32 : decode cX4_exchange 32 = .ok (.iload_n 2, 1) := by decide +kernel
theorem dX4_exchange_33 : decode cX4_exchange 33 = .ok (.invokestatic 36, 3) := by decide +kernel
theorem dX4_exchange_36 : decode cX4_exchange 36 = .ok (.iload_n 3, 1) := by decide +kernel
theorem dX4_exchange_37 : decode cX4_exchange 37 = .ok (.iastore, 1) := by decide +kernel
theorem dX4_exchange_38 : decode cX4_exchange 38 = .ok (.return_, 1) := by decide +kernel
set_option maxRecDepth 20000 in
theorem ggX4_swaps_X4_arePair : GoodIn wsX4_swaps wsX4_arePair := goodIn_r _ [6, 7, 8, 9, 5, 10, 1, 11, 12, 13, 29, 30, 31, 32, 33, 34, 35, 36, 37, 38, 39, 40, 41, 42, 43, 44] (by decide +kernel) (by decide +kernel)
set_option maxRecDepth 20000 in
theorem gX4_swaps_X4_arePair : GoodIn wsX4_swaps (wsV RX4 95 RX4 yX4_arePair wsX4_arePair) := goodIn_app (goodIn_of _ (by decide +kernel)) ggX4_swaps_X4_arePair
set_option maxRecDepth 20000 in
theorem ggX4_swaps_X4_why : GoodIn wsX4_swaps wsX4_why := goodIn_r _ [17, 18, 19, 20, 5, 21, 1, 22, 23, 24, 29, 30, 31, 32, 33, 34, 35, 36, 37, 38, 39, 40, 41, 42, 43, 44] (by decide +kernel) (by decide +kernel)
set_option maxRecDepth 20000 in
theorem gX4_swaps_X4_why : GoodIn wsX4_swaps (wsV RX4 98 RX4 yX4_why wsX4_why) := goodIn_app (goodIn_of _ (by decide +kernel)) ggX4_swaps_X4_why
set_option maxRecDepth 20000 in
theorem ggX4_swaps_X4_exchange : GoodIn wsX4_swaps wsX4_exchange := goodIn_r _ [28, 1, 18, 19, 20, 5, 21, 22, 23, 24, 29, 30, 31, 32, 33, 34, 35, 36, 37, 38, 39, 40, 41, 42, 43, 44] (by decide +kernel) (by decide +kernel)
set_option maxRecDepth 20000 in
theorem gX4_swaps_X4_exchange : GoodIn wsX4_swaps (wsV RX4 101 RX4 yX4_exchange wsX4_exchange) := goodIn_app (goodIn_of _ (by decide +kernel)) ggX4_swaps_X4_exchange
set_option maxRecDepth 20000 in
theorem ggX4_swaps_X4_at : GoodIn wsX4_swaps wsX4_at := goodIn_r _ [24] (by decide +kernel) (by decide +kernel)
set_option maxRecDepth 20000 in
theorem gX4_swaps_X4_at : GoodIn wsX4_swaps (va_wsS RX4 36 yX4_at wsX4_at) := goodIn_app (goodIn_of _ (by decide +kernel)) ggX4_swaps_X4_at
set_option maxRecDepth 20000 in
theorem ggX4_swaps_X4_of : GoodIn wsX4_swaps wsX4_of := goodIn_r _ [21, 1, 22, 23, 5, 24, 29, 30, 31, 32, 33, 34, 35, 36, 37, 38, 39, 40, 41, 42, 43, 44] (by decide +kernel) (by decide +kernel)
set_option maxRecDepth 20000 in
theorem gX4_swaps_X4_of : GoodIn wsX4_swaps (wsV RX4 49 RX4 yX4_of wsX4_of) := goodIn_app (goodIn_of _ (by decide +kernel)) ggX4_swaps_X4_of
theorem dX4_swaps_0 : decode cX4_swaps 0 = .ok (.aload_n 0, 1) := by decide +kernel
theorem dX4_swaps_1 : decode cX4_swaps 1 = .ok (.iload_n 1, 1) := by decide +kernel
theorem dX4_swaps_2 : decode cX4_swaps 2 = .ok (.invokevirtual 95, 3) := by decide +kernel
theorem dX4_swaps_5 : decode cX4_swaps 5 = .ok (.ifCond .ne 5, 3) := by decide +kernel
theorem dX4_swaps_8 : decode cX4_swaps 8 = .ok (.iconst (-1), 1) := by decide +kernel
theorem dX4_swaps_9 : decode cX4_swaps 9 = .ok (.ireturn, 1) := by decide +kernel
theorem dX4_swaps_10 : decode cX4_swaps 10 = .ok (.aload_n 0, 1) := by decide +kernel
theorem dX4_swaps_11 : decode cX4_swaps 11 = .ok (.iload_n 1, 1) := by decide +kernel
theorem dX4_swaps_12 : decode cX4_swaps 12 = .ok (.invokevirtual 98, 3) := by decide +kernel
theorem dX4_swaps_15 : decode cX4_swaps 15 = .ok (.ifCond .le 12, 3) := by decide +kernel
theorem dX4_swaps_18 : decode cX4_swaps 18 = .ok (.bipush (-10), 2) := by decide +kernel
theorem dX4_swaps_20 : decode cX4_swaps 20 = .ok (.aload_n 0, 1) := by decide +kernel
theorem dX4_swaps_21 : decode cX4_swaps 21 = .ok (.iload_n 1, 1) := by decide +kernel
theorem dX4_swaps_22 : decode cX4_swaps 22 = .ok (.invokevirtual 98, 3) := by decide +kernel
theorem dX4_swaps_25 : decode cX4_swaps 25 = .ok (.isub, 1) := by decide +kernel
theorem dX4_swaps_26 : decode cX4_swaps 26 = .ok (.ireturn, 1) := by decide +kernel
theorem dX4_swaps_27 : decode cX4_swaps 27 = .ok (.aload_n 0, 1) := by decide +kernel
theorem dX4_swaps_28 : decode cX4_swaps 28 = .ok (.iload_n 1, 1) := by decide +kernel
theorem dX4_swaps_29 : decode cX4_swaps 29 = .ok (.iconst 4, 1) := by decide +kernel
theorem dX4_swaps_30 : decode cX4_swaps 30 = .ok (.invokevirtual 101, 3) := by decide +kernel
theorem dX4_swaps_33 : decode cX4_swaps 33 = .ok (.aload_n 0, 1) := by decide +kernel
theorem dX4_swaps_34 : decode cX4_swaps 34 = .ok (.getfield 7, 3) := by decide +kernel
theorem dX4_swaps_37 : decode cX4_swaps 37 = .ok (.iload_n 1, 1) := by decide +kernel
theorem dX4_swaps_38 : decode cX4_swaps 38 = .ok (.iconst 5, 1) := by decide +kernel
theorem dX4_swaps_39 : decode cX4_swaps 39 = .ok (.invokestatic 36, 3) := by decide +kernel
theorem dX4_swaps_42 : decode cX4_swaps 42 = .ok (.dup2, 1) := by decide +kernel
theorem dX4_swaps_43 : decode cX4_swaps 43 = .ok (.iaload, 1) := by decide +kernel
theorem dX4_swaps_44 : decode cX4_swaps 44 = .ok (.iconst 1, 1) := by decide +kernel
theorem dX4_swaps_45 : decode cX4_swaps 45 = .ok (.iadd, 1) := by decide +kernel
theorem dX4_swaps_46 : decode cX4_swaps 46 = .ok (.iastore, 1) := by decide +kernel
theorem dX4_swaps_47 : decode cX4_swaps 47 = .ok (.aload_n 0, 1) := by decide +kernel
theorem dX4_swaps_48 : decode cX4_swaps 48 = .ok (.getfield 7, 3) := by decide +kernel
theorem dX4_swaps_51 : decode cX4_swaps 51 = .ok (.iload_n 1, 1) := by decide +kernel
theorem dX4_swaps_52 : decode cX4_swaps 52 = .ok (.iconst 1, 1) := by decide +kernel
theorem dX4_swaps_53 : decode cX4_swaps 53 = .ok (.iadd, 1) := by decide +kernel
theorem dX4_swaps_54 : decode cX4_swaps 54 = .ok (.iconst 5, 1) := by decide +kernel
theorem dX4_swaps_55 : decode cX4_swaps 55 = .ok (.invokestatic 36, 3) := by decide +kernel
theorem dX4_swaps_58 : decode cX4_swaps 58 = .ok (.dup2, 1) := by decide +kernel
theorem dX4_swaps_59 : decode cX4_swaps 59 = .ok (.iaload, 1) := by decide +kernel
theorem dX4_swaps_60 : decode cX4_swaps 60 = .ok (.iconst 1, 1) := by decide +kernel
theorem dX4_swaps_61 : decode cX4_swaps 61 = .ok (.iadd, 1) := by decide +kernel
theorem dX4_swaps_62 : decode cX4_swaps 62 = .ok (.iastore, 1) := by decide +kernel
theorem dX4_swaps_63 : decode cX4_swaps 63 = .ok (.aload_n 0, 1) := by decide +kernel
theorem dX4_swaps_64 : decode cX4_swaps 64 = .ok (.getfield 7, 3) := by decide +kernel
theorem dX4_swaps_67 : decode cX4_swaps 67 = .ok (.bipush 7, 2) := by decide +kernel
theorem dX4_swaps_69 : decode cX4_swaps 69 = .ok (.dup2, 1) := by decide +kernel
theorem dX4_swaps_70 : decode cX4_swaps 70 = .ok (.iaload, 1) := by decide +kernel
theorem dX4_swaps_71 : decode cX4_swaps 71 = .ok (.iconst 1, 1) := by decide +kernel
theorem dX4_swaps_72 : decode cX4_swaps 72 = .ok (.iadd, 1) := by decide +kernel
theorem dX4_swaps_73 : decode cX4_swaps 73 = .ok (.iastore, 1) := by decide +kernel
theorem dX4_swaps_74 : decode cX4_swaps 74 = .ok (.aload_n 0, 1) := by decide +kernel
theorem dX4_swaps_75 : decode cX4_swaps 75 = .ok (.iload_n 1, 1) := by decide +kernel
theorem dX4_swaps_76 : decode cX4_swaps 76 = .ok (.iconst 4, 1) := by decide +kernel
theorem dX4_swaps_77 : decode cX4_swaps 77 = .ok (.invokevirtual 49, 3) := by decide +kernel
theorem dX4_swaps_80 : decode cX4_swaps 80 = .ok (.ireturn, 1) := by decide +kernel
set_option maxRecDepth 20000 in
theorem ggX4_acted_X4_records : GoodIn wsX4_acted wsX4_records := goodIn_r _ [5, 6, 7, 8, 9, 10, 11, 12, 13, 14, 15, 16, 17, 18, 19, 20, 21, 22, 23, 24] (by decide +kernel) (by decide +kernel)
set_option maxRecDepth 20000 in
theorem gX4_acted_X4_records : GoodIn wsX4_acted (wsV RX4 46 RX4 yX4_records wsX4_records) := goodIn_app (goodIn_of _ (by decide +kernel)) ggX4_acted_X4_records
theorem dX4_acted_0 : decode cX4_acted 0 = .ok (.iload_n 1, 1) := by decide +kernel
theorem dX4_acted_1 : decode cX4_acted 1 = .ok (.ifCond .lt 7, 3) := by decide +kernel
theorem dX4_acted_4 : decode cX4_acted 4 = .ok (.aload_n 0, 1) := by decide +kernel
theorem dX4_acted_5 : decode cX4_acted 5 = .ok (.invokevirtual 46, 3) := by decide +kernel
theorem dX4_acted_8 : decode cX4_acted 8 = .ok (.iload_n 1, 1) := by decide +kernel
theorem dX4_acted_9 : decode cX4_acted 9 = .ok (.ireturn, 1) := by decide +kernel
set_option maxRecDepth 20000 in
theorem ggX4_come_X4_in : GoodIn wsX4_come wsX4_in := goodIn_r _ [5] (by decide +kernel) (by decide +kernel)
set_option maxRecDepth 20000 in
theorem gX4_come_X4_in : GoodIn wsX4_come (va_wsS RX4 32 yX4_in wsX4_in) := goodIn_app (goodIn_of _ (by decide +kernel)) ggX4_come_X4_in
set_option maxRecDepth 20000 in
theorem ggX4_come_X4_know : GoodIn wsX4_come wsX4_know := goodIn_r _ [9, 10, 11, 12, 4, 13, 14, 1, 15, 16, 17, 18, 19, 20, 24, 25, 26, 27, 28, 29, 30, 31, 32, 33, 34, 35, 36, 37, 38, 39] (by decide +kernel) (by decide +kernel)
set_option maxRecDepth 20000 in
theorem gX4_come_X4_know : GoodIn wsX4_come (wsV RX4 105 RX4 yX4_know wsX4_know) := goodIn_app (goodIn_of _ (by decide +kernel)) ggX4_come_X4_know
set_option maxRecDepth 20000 in
theorem ggX4_come_X4_at : GoodIn wsX4_come wsX4_at := goodIn_r _ [23] (by decide +kernel) (by decide +kernel)
set_option maxRecDepth 20000 in
theorem gX4_come_X4_at : GoodIn wsX4_come (va_wsS RX4 36 yX4_at wsX4_at) := goodIn_app (goodIn_of _ (by decide +kernel)) ggX4_come_X4_at
theorem dX4_come_0 : decode cX4_come 0 = .ok (.iload_n 1, 1) := by decide +kernel
theorem dX4_come_1 : decode cX4_come 1 = .ok (.bipush 10, 2) := by decide +kernel
theorem dX4_come_3 : decode cX4_come 3 = .ok (.sipush 999, 3) := by decide +kernel
theorem dX4_come_6 : decode cX4_come 6 = .ok (.invokestatic 32, 3) := by decide +kernel
theorem dX4_come_9 : decode cX4_come 9 = .ok (.ifCond .eq 23, 3) := by decide +kernel
theorem dX4_come_12 : decode cX4_come 12 = .ok (.iload_n 2, 1) := by decide +kernel
theorem dX4_come_13 : decode cX4_come 13 = .ok (.iconst 0, 1) := by decide +kernel
theorem dX4_come_14 : decode cX4_come 14 = .ok (.sipush 9999, 3) := by decide +kernel
theorem dX4_come_17 : decode cX4_come 17 = .ok (.invokestatic 32, 3) := by decide +kernel
theorem dX4_come_20 : decode cX4_come 20 = .ok (.ifCond .eq 12, 3) := by decide +kernel
theorem dX4_come_23 : decode cX4_come 23 = .ok (.iload_n 3, 1) := by decide +kernel
theorem dX4_come_24 : decode cX4_come 24 = .ok (.iconst 0, 1) := by decide +kernel
theorem dX4_come_25 : decode cX4_come 25 = .ok (.iconst 5, 1) := by decide +kernel
theorem dX4_come_26 : decode cX4_come 26 = .ok (.invokestatic 32, 3) := by decide +kernel
theorem dX4_come_29 : decode cX4_come 29 = .ok (.ifCond .ne 6, 3) := by decide +kernel
theorem dX4_come_32 : decode cX4_come 32 = .ok (.bipush (-2), 2) := by decide +kernel
theorem dX4_come_34 : decode cX4_come 34 = .ok (.ireturn, 1) := by decide +kernel
theorem dX4_come_35 : decode cX4_come 35 = .ok (.aload_n 0, 1) := by decide +kernel
theorem dX4_come_36 : decode cX4_come 36 = .ok (.getfield 7, 3) := by decide +kernel
theorem dX4_come_39 : decode cX4_come 39 = .ok (.iconst 0, 1) := by decide +kernel
theorem dX4_come_40 : decode cX4_come 40 = .ok (.iaload, 1) := by decide +kernel
theorem dX4_come_41 : decode cX4_come 41 = .ok (.bipush 16, 2) := by decide +kernel
theorem dX4_come_43 : decode cX4_come 43 = .ok (.if_icmp .eq 15, 3) := by decide +kernel
theorem dX4_come_46 : decode cX4_come 46 = .ok (.aload_n 0, 1) := by decide +kernel
theorem dX4_come_47 : decode cX4_come 47 = .ok (.getfield 7, 3) := by decide +kernel
theorem dX4_come_50 : decode cX4_come 50 = .ok (.iconst 1, 1) := by decide +kernel
theorem dX4_come_51 : decode cX4_come 51 = .ok (.iaload, 1) := by decide +kernel
theorem dX4_come_52 : decode cX4_come 52 = .ok (.sipush 200, 3) := by decide +kernel
theorem dX4_come_55 : decode cX4_come 55 = .ok (.if_icmp .ne 6, 3) := by decide +kernel
theorem dX4_come_58 : decode cX4_come 58 = .ok (.bipush (-3), 2) := by decide +kernel
theorem dX4_come_60 : decode cX4_come 60 = .ok (.ireturn, 1) := by decide +kernel
theorem dX4_come_61 : decode cX4_come 61 = .ok (.aload_n 0, 1) := by decide +kernel
theorem dX4_come_62 : decode cX4_come 62 = .ok (.invokevirtual 105, 3) := by decide +kernel
theorem dX4_come_65 : decode cX4_come 65 = .ok (.aload_n 0, 1) := by decide +kernel
theorem dX4_come_66 : decode cX4_come 66 = .ok (.getfield 7, 3) := by decide +kernel
theorem dX4_come_69 : decode cX4_come 69 = .ok (.iconst 0, 1) := by decide +kernel
theorem dX4_come_70 : decode cX4_come 70 = .ok (.iaload, 1) := by decide +kernel
theorem dX4_come_71 : decode cX4_come 71 = .ok (.istore 4, 2) := by decide +kernel
theorem dX4_come_73 : decode cX4_come 73 = .ok (.aload_n 0, 1) := by decide +kernel
theorem dX4_come_74 : decode cX4_come 74 = .ok (.getfield 7, 3) := by decide +kernel
theorem dX4_come_77 : decode cX4_come 77 = .ok (.iconst 0, 1) := by decide +kernel
theorem dX4_come_78 : decode cX4_come 78 = .ok (.dup2, 1) := by decide +kernel
theorem dX4_come_79 : decode cX4_come 79 = .ok (.iaload, 1) := by decide +kernel
theorem dX4_come_80 : decode cX4_come 80 = .ok (.iconst 1, 1) := by decide +kernel
theorem dX4_come_81 : decode cX4_come 81 = .ok (.iadd, 1) := by decide +kernel
theorem dX4_come_82 : decode cX4_come 82 = .ok (.iastore, 1) := by decide +kernel
theorem dX4_come_83 : decode cX4_come 83 = .ok (.aload_n 0, 1) := by decide +kernel
theorem dX4_come_84 : decode cX4_come 84 = .ok (.getfield 7, 3) := by decide +kernel
theorem dX4_come_87 : decode cX4_come 87 = .ok (.iload 4, 2) := by decide +kernel
theorem dX4_come_89 : decode cX4_come 89 = .ok (.iconst 0, 1) := by decide +kernel
theorem dX4_come_90 : decode cX4_come 90 = .ok (.invokestatic 36, 3) := by decide +kernel
theorem dX4_come_93 : decode cX4_come 93 = .ok (.aload_n 0, 1) := by decide +kernel
theorem dX4_come_94 : decode cX4_come 94 = .ok (.getfield 7, 3) := by decide +kernel
theorem dX4_come_97 : decode cX4_come 97 = .ok (.iconst 1, 1) := by decide +kernel
theorem dX4_come_98 : decode cX4_come 98 = .ok (.iaload, 1) := by decide +kernel
theorem dX4_come_99 : decode cX4_come 99 = .ok (.iastore, 1) := by decide +kernel
theorem dX4_come_100 : decode cX4_come 100 = .ok (.aload_n 0, 1) := by decide +kernel
theorem dX4_come_101 : decode cX4_come 101 = .ok (.getfield 7, 3) := by decide +kernel
theorem dX4_come_104 : decode cX4_come 104 = .ok (.iload 4, 2) := by decide +kernel
theorem dX4_come_106 : decode cX4_come 106 = .ok (.iconst 1, 1) := by decide +kernel
theorem dX4_come_107 : decode cX4_come 107 = .ok (.invokestatic 36, 3) := by decide +kernel
theorem dX4_come_110 : decode cX4_come 110 = .ok (.iconst 0, 1) := by decide +kernel
theorem dX4_come_111 : decode cX4_come 111 = .ok (.iastore, 1) := by decide +kernel
theorem dX4_come_112 : decode cX4_come 112 = .ok (.aload_n 0, 1) := by decide +kernel
theorem dX4_come_113 : decode cX4_come 113 = .ok (.getfield 7, 3) := by decide +kernel
theorem dX4_come_116 : decode cX4_come 116 = .ok (.iload 4, 2) := by decide +kernel
theorem dX4_come_118 : decode cX4_come 118 = .ok (.iconst 2, 1) := by decide +kernel
theorem dX4_come_119 : decode cX4_come 119 = .ok (.invokestatic 36, 3) := by decide +kernel
theorem dX4_come_122 : decode cX4_come 122 = .ok (.iload_n 1, 1) := by decide +kernel
theorem dX4_come_123 : decode cX4_come 123 = .ok (.iastore, 1) := by decide +kernel
theorem dX4_come_124 : decode cX4_come 124 = .ok (.aload_n 0, 1) := by decide +kernel
theorem dX4_come_125 : decode cX4_come 125 = .ok (.getfield 7, 3) := by decide +kernel
theorem dX4_come_128 : decode cX4_come 128 = .ok (.iload 4, 2) := by decide +kernel
theorem dX4_come_130 : decode cX4_come 130 = .ok (.iconst 3, 1) := by decide +kernel
theorem dX4_come_131 : decode cX4_come 131 = .ok (.invokestatic 36, 3) := by decide +kernel
theorem dX4_come_134 : decode cX4_come 134 = .ok (.iload_n 2, 1) := by decide +kernel
theorem dX4_come_135 : decode cX4_come 135 = .ok (.iastore, 1) := by decide +kernel
theorem dX4_come_136 : decode cX4_come 136 = .ok (.aload_n 0, 1) := by decide +kernel
theorem dX4_come_137 : decode cX4_come 137 = .ok (.getfield 7, 3) := by decide +kernel
theorem dX4_come_140 : decode cX4_come 140 = .ok (.iload 4, 2) := by decide +kernel
theorem dX4_come_142 : decode cX4_come 142 = .ok (.iconst 4, 1) := by decide +kernel
theorem dX4_come_143 : decode cX4_come 143 = .ok (.invokestatic 36, 3) := by decide +kernel
theorem dX4_come_146 : decode cX4_come 146 = .ok (.iload_n 3, 1) := by decide +kernel
theorem dX4_come_147 : decode cX4_come 147 = .ok (.iastore, 1) := by decide +kernel
theorem dX4_come_148 : decode cX4_come 148 = .ok (.aload_n 0, 1) := by decide +kernel
theorem dX4_come_149 : decode cX4_come 149 = .ok (.getfield 7, 3) := by decide +kernel
theorem dX4_come_152 : decode cX4_come 152 = .ok (.iload 4, 2) := by decide +kernel
theorem dX4_come_154 : decode cX4_come 154 = .ok (.iconst 5, 1) := by decide +kernel
theorem dX4_come_155 : decode cX4_come 155 = .ok (.invokestatic 36, 3) := by decide +kernel
theorem dX4_come_158 : decode cX4_come 158 = .ok (.iconst 0, 1) := by decide +kernel
theorem dX4_come_159 : decode cX4_come 159 = .ok (.iastore, 1) := by decide +kernel
theorem dX4_come_160 : decode cX4_come 160 = .ok (.aload_n 0, 1) := by decide +kernel
theorem dX4_come_161 : decode cX4_come 161 = .ok (.getfield 7, 3) := by decide +kernel
theorem dX4_come_164 : decode cX4_come 164 = .ok (.iconst 1, 1) := by decide +kernel
theorem dX4_come_165 : decode cX4_come 165 = .ok (.dup2, 1) := by decide +kernel
theorem dX4_come_166 : decode cX4_come 166 = .ok (.iaload, 1) := by decide +kernel
theorem dX4_come_167 : decode cX4_come 167 = .ok (.iconst 1, 1) := by decide +kernel
theorem dX4_come_168 : decode cX4_come 168 = .ok (.iadd, 1) := by decide +kernel
theorem dX4_come_169 : decode cX4_come 169 = .ok (.iastore, 1) := by decide +kernel
theorem dX4_come_170 : decode cX4_come 170 = .ok (.iload 4, 2) := by decide +kernel
theorem dX4_come_172 : decode cX4_come 172 = .ok (.ireturn, 1) := by decide +kernel
set_option maxRecDepth 20000 in
theorem ggX4_leave_X4_isPlace : GoodIn wsX4_leave wsX4_isPlace := goodIn_r _ [6, 1, 7, 8, 5, 9, 36, 37, 38, 39, 40, 41, 42, 43, 44, 45, 46, 47, 48, 49, 50, 51] (by decide +kernel) (by decide +kernel)
set_option maxRecDepth 20000 in
theorem gX4_leave_X4_isPlace : GoodIn wsX4_leave (wsV RX4 91 RX4 yX4_isPlace wsX4_isPlace) := goodIn_app (goodIn_of _ (by decide +kernel)) ggX4_leave_X4_isPlace
set_option maxRecDepth 20000 in
theorem ggX4_leave_X4_know : GoodIn wsX4_leave wsX4_know := goodIn_r _ [13, 14, 15, 16, 5, 17, 18, 1, 19, 20, 21, 22, 23, 24, 36, 37, 38, 39, 40, 41, 42, 43, 44, 45, 46, 47, 48, 49, 50, 51] (by decide +kernel) (by decide +kernel)
set_option maxRecDepth 20000 in
theorem gX4_leave_X4_know : GoodIn wsX4_leave (wsV RX4 105 RX4 yX4_know wsX4_know) := goodIn_app (goodIn_of _ (by decide +kernel)) ggX4_leave_X4_know
set_option maxRecDepth 20000 in
theorem ggX4_leave_X4_of : GoodIn wsX4_leave wsX4_of := goodIn_r _ [28, 1, 29, 30, 5, 31, 36, 37, 38, 39, 40, 41, 42, 43, 44, 45, 46, 47, 48, 49, 50, 51] (by decide +kernel) (by decide +kernel)
set_option maxRecDepth 20000 in
theorem gX4_leave_X4_of : GoodIn wsX4_leave (wsV RX4 49 RX4 yX4_of wsX4_of) := goodIn_app (goodIn_of _ (by decide +kernel)) ggX4_leave_X4_of
set_option maxRecDepth 20000 in
theorem ggX4_leave_X4_goes : GoodIn wsX4_leave wsX4_goes := goodIn_r _ [35, 1, 29, 30, 5, 31, 36, 37, 38, 39, 40, 41, 42, 43, 44, 45, 46, 47, 48, 49, 50, 51] (by decide +kernel) (by decide +kernel)
set_option maxRecDepth 20000 in
theorem gX4_leave_X4_goes : GoodIn wsX4_leave (wsV RX4 76 RX4 yX4_goes wsX4_goes) := goodIn_app (goodIn_of _ (by decide +kernel)) ggX4_leave_X4_goes
theorem dX4_leave_0 : decode cX4_leave 0 = .ok (.aload_n 0, 1) := by decide +kernel
theorem dX4_leave_1 : decode cX4_leave 1 = .ok (.iload_n 1, 1) := by decide +kernel
theorem dX4_leave_2 : decode cX4_leave 2 = .ok (.invokevirtual 91, 3) := by decide +kernel
theorem dX4_leave_5 : decode cX4_leave 5 = .ok (.ifCond .ne 5, 3) := by decide +kernel
theorem dX4_leave_8 : decode cX4_leave 8 = .ok (.iconst (-1), 1) := by decide +kernel
theorem dX4_leave_9 : decode cX4_leave 9 = .ok (.ireturn, 1) := by decide +kernel
theorem dX4_leave_10 : decode cX4_leave 10 = .ok (.aload_n 0, 1) := by decide +kernel
theorem dX4_leave_11 : decode cX4_leave 11 = .ok (.invokevirtual 105, 3) := by decide +kernel
theorem dX4_leave_14 : decode cX4_leave 14 = .ok (.aload_n 0, 1) := by decide +kernel
theorem dX4_leave_15 : decode cX4_leave 15 = .ok (.iload_n 1, 1) := by decide +kernel
theorem dX4_leave_16 : decode cX4_leave 16 = .ok (.iconst 1, 1) := by decide +kernel
theorem dX4_leave_17 : decode cX4_leave 17 = .ok (.invokevirtual 49, 3) := by decide +kernel
theorem dX4_leave_20 : decode cX4_leave 20 = .ok (.istore_n 2, 1) := by decide +kernel
theorem dX4_leave_21 : decode cX4_leave 21 = .ok (.aload_n 0, 1) := by decide +kernel
theorem dX4_leave_22 : decode cX4_leave 22 = .ok (.iload_n 1, 1) := by decide +kernel
theorem dX4_leave_23 : decode cX4_leave 23 = .ok (.invokevirtual 76, 3) := by decide +kernel
theorem dX4_leave_26 : decode cX4_leave 26 = .ok (.aload_n 0, 1) := by decide +kernel
theorem dX4_leave_27 : decode cX4_leave 27 = .ok (.getfield 7, 3) := by decide +kernel
theorem dX4_leave_30 : decode cX4_leave 30 = .ok (.iconst 2, 1) := by decide +kernel
theorem dX4_leave_31 : decode cX4_leave 31 = .ok (.dup2, 1) := by decide +kernel
theorem dX4_leave_32 : decode cX4_leave 32 = .ok (.iaload, 1) := by decide +kernel
theorem dX4_leave_33 : decode cX4_leave 33 = .ok (.iconst 1, 1) := by decide +kernel
theorem dX4_leave_34 : decode cX4_leave 34 = .ok (.iadd, 1) := by decide +kernel
theorem dX4_leave_35 : decode cX4_leave 35 = .ok (.iastore, 1) := by decide +kernel
theorem dX4_leave_36 : decode cX4_leave 36 = .ok (.iload_n 2, 1) := by decide +kernel
theorem dX4_leave_37 : decode cX4_leave 37 = .ok (.ireturn, 1) := by decide +kernel
set_option maxRecDepth 20000 in
theorem ggX4_letAhead_X4_arePair : GoodIn wsX4_letAhead wsX4_arePair := goodIn_r _ [5, 6, 7, 8, 4, 9, 10, 11, 12, 13, 40, 41, 42, 43, 44, 45, 46, 47, 48, 49, 50, 51, 52, 53, 54, 55] (by decide +kernel) (by decide +kernel)
set_option maxRecDepth 20000 in
theorem gX4_letAhead_X4_arePair : GoodIn wsX4_letAhead (wsV RX4 95 RX4 yX4_arePair wsX4_arePair) := goodIn_app (goodIn_of _ (by decide +kernel)) ggX4_letAhead_X4_arePair
set_option maxRecDepth 20000 in
theorem ggX4_letAhead_X4_know : GoodIn wsX4_letAhead wsX4_know := goodIn_r _ [17, 18, 19, 20, 4, 21, 22, 10, 23, 24, 25, 26, 27, 28, 40, 41, 42, 43, 44, 45, 46, 47, 48, 49, 50, 51, 52, 53, 54, 55] (by decide +kernel) (by decide +kernel)
set_option maxRecDepth 20000 in
theorem gX4_letAhead_X4_know : GoodIn wsX4_letAhead (wsV RX4 105 RX4 yX4_know wsX4_know) := goodIn_app (goodIn_of _ (by decide +kernel)) ggX4_letAhead_X4_know
set_option maxRecDepth 20000 in
theorem ggX4_letAhead_X4_exchange : GoodIn wsX4_letAhead wsX4_exchange := goodIn_r _ [32, 10, 33, 34, 35, 4, 36, 37, 38, 39, 40, 41, 42, 43, 44, 45, 46, 47, 48, 49, 50, 51, 52, 53, 54, 55] (by decide +kernel) (by decide +kernel)
set_option maxRecDepth 20000 in
theorem gX4_letAhead_X4_exchange : GoodIn wsX4_letAhead (wsV RX4 101 RX4 yX4_exchange wsX4_exchange) := goodIn_app (goodIn_of _ (by decide +kernel)) ggX4_letAhead_X4_exchange
set_option maxRecDepth 20000 in
theorem ggX4_letAhead_X4_of : GoodIn wsX4_letAhead wsX4_of := goodIn_r _ [36, 10, 37, 38, 4, 39, 40, 41, 42, 43, 44, 45, 46, 47, 48, 49, 50, 51, 52, 53, 54, 55] (by decide +kernel) (by decide +kernel)
set_option maxRecDepth 20000 in
theorem gX4_letAhead_X4_of : GoodIn wsX4_letAhead (wsV RX4 49 RX4 yX4_of wsX4_of) := goodIn_app (goodIn_of _ (by decide +kernel)) ggX4_letAhead_X4_of
theorem dX4_letAhead_0 : decode cX4_letAhead 0 = .ok (.aload_n 0, 1) := by decide +kernel
theorem dX4_letAhead_1 : decode cX4_letAhead 1 = .ok (.iload_n 1, 1) := by decide +kernel
theorem dX4_letAhead_2 : decode cX4_letAhead 2 = .ok (.invokevirtual 95, 3) := by decide +kernel
theorem dX4_letAhead_5 : decode cX4_letAhead 5 = .ok (.ifCond .ne 5, 3) := by decide +kernel
theorem dX4_letAhead_8 : decode cX4_letAhead 8 = .ok (.iconst (-1), 1) := by decide +kernel
theorem dX4_letAhead_9 : decode cX4_letAhead 9 = .ok (.ireturn, 1) := by decide +kernel
theorem dX4_letAhead_10 : decode cX4_letAhead 10 = .ok (.aload_n 0, 1) := by decide +kernel
theorem dX4_letAhead_11 : decode cX4_letAhead 11 = .ok (.invokevirtual 105, 3) := by decide +kernel
theorem dX4_letAhead_14 : decode cX4_letAhead 14 = .ok (.iconst 0, 1) := by decide +kernel
theorem dX4_letAhead_15 : decode cX4_letAhead 15 = .ok (.istore_n 2, 1) := by decide +kernel
theorem dX4_letAhead_16 : decode cX4_letAhead 16 = .ok (.iload_n 2, 1) := by decide +kernel
theorem dX4_letAhead_17 : decode cX4_letAhead 17 = .ok (.bipush 6, 2) := by decide +kernel
theorem dX4_letAhead_19 : decode cX4_letAhead 19 = .ok (.if_icmp .ge 15, 3) := by decide +kernel
theorem dX4_letAhead_22 : decode cX4_letAhead 22 = .ok (.aload_n 0, 1) := by decide +kernel
theorem dX4_letAhead_23 : decode cX4_letAhead 23 = .ok (.iload_n 1, 1) := by decide +kernel
theorem dX4_letAhead_24 : decode cX4_letAhead 24 = .ok (.iload_n 2, 1) := by decide +kernel
theorem dX4_letAhead_25 : decode cX4_letAhead 25 = .ok (.invokevirtual 101, 3) := by decide +kernel
theorem dX4_letAhead_28 : decode cX4_letAhead 28 = .ok (.iinc 2 1, 3) := by decide +kernel
theorem dX4_letAhead_31 : decode cX4_letAhead 31 = .ok (.goto (-15), 3) := by decide +kernel
theorem dX4_letAhead_34 : decode cX4_letAhead 34 = .ok (.aload_n 0, 1) := by decide +kernel
theorem dX4_letAhead_35 : decode cX4_letAhead 35 = .ok (.iload_n 1, 1) := by decide +kernel
theorem dX4_letAhead_36 : decode cX4_letAhead 36 = .ok (.iconst 0, 1) := by decide +kernel
theorem dX4_letAhead_37 : decode cX4_letAhead 37 = .ok (.invokevirtual 49, 3) := by decide +kernel
theorem dX4_letAhead_40 : decode cX4_letAhead 40 = .ok (.ireturn, 1) := by decide +kernel
set_option maxRecDepth 20000 in
theorem ggX4_swap_X4_looks : GoodIn wsX4_swap wsX4_looks := goodIn_r _ [5, 6, 7, 48, 49, 50, 51, 52, 53, 54, 55, 56, 57, 58, 59, 60, 61, 62, 63] (by decide +kernel) (by decide +kernel)
set_option maxRecDepth 20000 in
theorem gX4_swap_X4_looks : GoodIn wsX4_swap (wsV RX4 43 RX4 yX4_looks wsX4_looks) := goodIn_app (goodIn_of _ (by decide +kernel)) ggX4_swap_X4_looks
set_option maxRecDepth 20000 in
theorem ggX4_swap_X4_swaps : GoodIn wsX4_swap wsX4_swaps := goodIn_r _ [11, 7, 12, 13, 14, 4, 15, 16, 17, 18, 19, 20, 21, 22, 23, 24, 25, 26, 27, 28, 29, 30, 31, 32, 33, 34, 35, 36, 37, 48, 49, 50, 51, 52, 53, 54, 55, 56, 57, 58, 59, 60, 61, 62, 63] (by decide +kernel) (by decide +kernel)
set_option maxRecDepth 20000 in
theorem gX4_swap_X4_swaps : GoodIn wsX4_swap (wsV RX4 108 RX4 yX4_swaps wsX4_swaps) := goodIn_app (goodIn_of _ (by decide +kernel)) ggX4_swap_X4_swaps
set_option maxRecDepth 20000 in
theorem ggX4_swap_X4_acted : GoodIn wsX4_swap wsX4_acted := goodIn_r _ [41, 42, 43, 44, 4, 45, 46, 47, 6, 48, 49, 50, 51, 52, 53, 54, 55, 56, 57, 58, 59, 60, 61, 62, 63] (by decide +kernel) (by decide +kernel)
set_option maxRecDepth 20000 in
theorem gX4_swap_X4_acted : GoodIn wsX4_swap (wsV RX4 111 RX4 yX4_acted wsX4_acted) := goodIn_app (goodIn_of _ (by decide +kernel)) ggX4_swap_X4_acted
theorem dX4_swap_0 : decode cX4_swap 0 = .ok (.aload_n 0, 1) := by decide +kernel
theorem dX4_swap_1 : decode cX4_swap 1 = .ok (.invokevirtual 43, 3) := by decide +kernel
theorem dX4_swap_4 : decode cX4_swap 4 = .ok (.aload_n 0, 1) := by decide +kernel
theorem dX4_swap_5 : decode cX4_swap 5 = .ok (.aload_n 0, 1) := by decide +kernel
theorem dX4_swap_6 : decode cX4_swap 6 = .ok (.iload_n 1, 1) := by decide +kernel
theorem dX4_swap_7 : decode cX4_swap 7 = .ok (.invokevirtual 108, 3) := by decide +kernel
theorem dX4_swap_10 : decode cX4_swap 10 = .ok (.invokevirtual 111, 3) := by decide +kernel
theorem dX4_swap_13 : decode cX4_swap 13 = .ok (.ireturn, 1) := by decide +kernel
set_option maxRecDepth 20000 in
theorem ggX4_set_X4_in : GoodIn wsX4_set wsX4_in := goodIn_r _ [5] (by decide +kernel) (by decide +kernel)
set_option maxRecDepth 20000 in
theorem gX4_set_X4_in : GoodIn wsX4_set (va_wsS RX4 32 yX4_in wsX4_in) := goodIn_app (goodIn_of _ (by decide +kernel)) ggX4_set_X4_in
set_option maxRecDepth 20000 in
theorem ggX4_set_X4_know : GoodIn wsX4_set wsX4_know := goodIn_r _ [9, 10, 11, 12, 4, 13, 14, 1, 15, 16, 17, 18, 19, 20, 21, 22, 23, 24, 25, 26, 27, 28, 29, 30, 31, 32, 33, 34, 35, 36] (by decide +kernel) (by decide +kernel)
set_option maxRecDepth 20000 in
theorem gX4_set_X4_know : GoodIn wsX4_set (wsV RX4 105 RX4 yX4_know wsX4_know) := goodIn_app (goodIn_of _ (by decide +kernel)) ggX4_set_X4_know
theorem dX4_set_0 : decode cX4_set 0 = .ok (.iload_n 1, 1) := by decide +kernel
theorem dX4_set_1 : decode cX4_set 1 = .ok (.iconst 0, 1) := by decide +kernel
theorem dX4_set_2 : decode cX4_set 2 = .ok (.iconst 2, 1) := by decide +kernel
theorem dX4_set_3 : decode cX4_set 3 = .ok (.invokestatic 32, 3) := by decide +kernel
theorem dX4_set_6 : decode cX4_set 6 = .ok (.ifCond .ne 5, 3) := by decide +kernel
theorem dX4_set_9 : decode cX4_set 9 = .ok (.iconst (-1), 1) := by decide +kernel
theorem dX4_set_10 : decode cX4_set 10 = .ok (.ireturn, 1) := by decide +kernel
theorem dX4_set_11 : decode cX4_set 11 = .ok (.iload_n 2, 1) := by decide +kernel
theorem dX4_set_12 : decode cX4_set 12 = .ok (.iload_n 1, 1) := by decide +kernel
theorem dX4_set_13 : decode cX4_set 13 = .ok (.iconst 1, 1) := by decide +kernel
theorem dX4_set_14 : decode cX4_set 14 = .ok (.if_icmp .ne 7, 3) := by decide +kernel
theorem dX4_set_17 : decode cX4_set 17 = .ok (.iconst 1, 1) := by decide +kernel
theorem dX4_set_18 : decode cX4_set 18 = .ok (.goto 4, 3) := by decide +kernel
theorem dX4_set_21 : decode cX4_set 21 = .ok (.iconst 0, 1) := by decide +kernel
theorem dX4_set_22 : decode cX4_set 22 = .ok (.iload_n 1, 1) := by decide +kernel
theorem dX4_set_23 : decode cX4_set 23 = .ok (.ifCond .ne 8, 3) := by decide +kernel
theorem dX4_set_26 : decode cX4_set 26 = .ok (.bipush 50, 2) := by decide +kernel
theorem dX4_set_28 : decode cX4_set 28 = .ok (.goto 14, 3) := by decide +kernel
theorem dX4_set_31 : decode cX4_set 31 = .ok (.iload_n 1, 1) := by decide +kernel
theorem dX4_set_32 : decode cX4_set 32 = .ok (.iconst 1, 1) := by decide +kernel
theorem dX4_set_33 : decode cX4_set 33 = .ok (.if_icmp .ne 7, 3) := by decide +kernel
theorem dX4_set_36 : decode cX4_set 36 = .ok (.iconst 4, 1) := by decide +kernel
theorem dX4_set_37 : decode cX4_set 37 = .ok (.goto 5, 3) := by decide +kernel
theorem dX4_set_40 : decode cX4_set 40 = .ok (.bipush 99, 2) := by decide +kernel
theorem dX4_set_42 : decode cX4_set 42 = .ok (.invokestatic 32, 3) := by decide +kernel
theorem dX4_set_45 : decode cX4_set 45 = .ok (.ifCond .ne 6, 3) := by decide +kernel
theorem dX4_set_48 : decode cX4_set 48 = .ok (.bipush (-2), 2) := by decide +kernel
theorem dX4_set_50 : decode cX4_set 50 = .ok (.ireturn, 1) := by decide +kernel
theorem dX4_set_51 : decode cX4_set 51 = .ok (.aload_n 0, 1) := by decide +kernel
theorem dX4_set_52 : decode cX4_set 52 = .ok (.getfield 7, 3) := by decide +kernel
theorem dX4_set_55 : decode cX4_set 55 = .ok (.bipush 10, 2) := by decide +kernel
theorem dX4_set_57 : decode cX4_set 57 = .ok (.iload_n 1, 1) := by decide +kernel
theorem dX4_set_58 : decode cX4_set 58 = .ok (.iadd, 1) := by decide +kernel
theorem dX4_set_59 : decode cX4_set 59 = .ok (.iaload, 1) := by decide +kernel
theorem dX4_set_60 : decode cX4_set 60 = .ok (.istore_n 3, 1) := by decide +kernel
theorem dX4_set_61 : decode cX4_set 61 = .ok (.iload_n 3, 1) := by decide +kernel
theorem dX4_set_62 : decode cX4_set 62 = .ok (.iload_n 2, 1) := by decide +kernel
theorem dX4_set_63 : decode cX4_set 63 = .ok (.if_icmp .ne 6, 3) := by decide +kernel
theorem dX4_set_66 : decode cX4_set 66 = .ok (.bipush (-5), 2) := by decide +kernel
theorem dX4_set_68 : decode cX4_set 68 = .ok (.ireturn, 1) := by decide +kernel
theorem dX4_set_69 : decode cX4_set 69 = .ok (.aload_n 0, 1) := by decide +kernel
theorem dX4_set_70 : decode cX4_set 70 = .ok (.invokevirtual 105, 3) := by decide +kernel
theorem dX4_set_73 : decode cX4_set 73 = .ok (.aload_n 0, 1) := by decide +kernel
theorem dX4_set_74 : decode cX4_set 74 = .ok (.getfield 7, 3) := by decide +kernel
theorem dX4_set_77 : decode cX4_set 77 = .ok (.bipush 10, 2) := by decide +kernel
theorem dX4_set_79 : decode cX4_set 79 = .ok (.iload_n 1, 1) := by decide +kernel
theorem dX4_set_80 : decode cX4_set 80 = .ok (.iadd, 1) := by decide +kernel
theorem dX4_set_81 : decode cX4_set 81 = .ok (.iload_n 2, 1) := by decide +kernel
theorem dX4_set_82 : decode cX4_set 82 = .ok (.iastore, 1) := by decide +kernel
theorem dX4_set_83 : decode cX4_set 83 = .ok (.iload_n 3, 1) := by decide +kernel
theorem dX4_set_84 : decode cX4_set 84 = .ok (.ireturn, 1) := by decide +kernel
set_option maxRecDepth 20000 in
theorem ggX4_isGust_X4_in : GoodIn wsX4_isGust wsX4_in := goodIn_r _ [4] (by decide +kernel) (by decide +kernel)
set_option maxRecDepth 20000 in
theorem gX4_isGust_X4_in : GoodIn wsX4_isGust (va_wsS RX4 32 yX4_in wsX4_in) := goodIn_app (goodIn_of _ (by decide +kernel)) ggX4_isGust_X4_in
theorem dX4_isGust_0 : decode cX4_isGust 0 = .ok (.iload_n 0, 1) := by decide +kernel
theorem dX4_isGust_1 : decode cX4_isGust 1 = .ok (.iconst 1, 1) := by decide +kernel
theorem dX4_isGust_2 : decode cX4_isGust 2 = .ok (.bipush 99, 2) := by decide +kernel
theorem dX4_isGust_4 : decode cX4_isGust 4 = .ok (.invokestatic 32, 3) := by decide +kernel
theorem dX4_isGust_7 : decode cX4_isGust 7 = .ok (.ifCond .eq 16, 3) := by decide +kernel
theorem dX4_isGust_10 : decode cX4_isGust 10 = .ok (.iload_n 1, 1) := by decide +kernel
theorem dX4_isGust_11 : decode cX4_isGust 11 = .ok (.iconst 0, 1) := by decide +kernel
theorem dX4_isGust_12 : decode cX4_isGust 12 = .ok (.iconst 2, 1) := by decide +kernel
theorem dX4_isGust_13 : decode cX4_isGust 13 = .ok (.invokestatic 32, 3) := by decide +kernel
theorem dX4_isGust_16 : decode cX4_isGust 16 = .ok (.ifCond .eq 7, 3) := by decide +kernel
theorem dX4_isGust_19 : decode cX4_isGust 19 = .ok (.iconst 1, 1) := by decide +kernel
theorem dX4_isGust_20 : decode cX4_isGust 20 = .ok (.goto 4, 3) := by decide +kernel
theorem dX4_isGust_23 : decode cX4_isGust 23 = .ok (.iconst 0, 1) := by decide +kernel
theorem dX4_isGust_24 : decode cX4_isGust 24 = .ok (.ireturn, 1) := by decide +kernel
set_option maxRecDepth 20000 in
theorem ggX4_gust_X4_looks : GoodIn wsX4_gust wsX4_looks := goodIn_r _ [5, 6, 7, 67, 68, 69, 70, 71, 72, 73, 74, 75, 76, 77, 78, 79, 80, 81, 82] (by decide +kernel) (by decide +kernel)
set_option maxRecDepth 20000 in
theorem gX4_gust_X4_looks : GoodIn wsX4_gust (wsV RX4 43 RX4 yX4_looks wsX4_looks) := goodIn_app (goodIn_of _ (by decide +kernel)) ggX4_gust_X4_looks
set_option maxRecDepth 20000 in
theorem ggX4_gust_X4_isGust : GoodIn wsX4_gust wsX4_isGust := goodIn_r _ [10, 11, 12, 4, 13] (by decide +kernel) (by decide +kernel)
set_option maxRecDepth 20000 in
theorem gX4_gust_X4_isGust : GoodIn wsX4_gust (va_wsS RX4 114 yX4_isGust wsX4_isGust) := goodIn_app (goodIn_of _ (by decide +kernel)) ggX4_gust_X4_isGust
set_option maxRecDepth 20000 in
theorem ggX4_gust_X4_gusts : GoodIn wsX4_gust wsX4_gusts := goodIn_r _ [17, 7, 18, 19, 4, 20, 21, 22, 23, 24, 25, 26, 27, 28, 29, 30, 31, 32, 33, 34, 35, 36, 37, 38, 39, 40, 41, 42, 43, 44, 45, 46, 47, 48, 11, 12, 13, 49, 50, 51, 52, 53, 54, 55, 56, 67, 68, 69, 70, 71, 72, 73, 74, 75, 76, 77, 78, 79, 80, 81, 82] (by decide +kernel) (by decide +kernel)
set_option maxRecDepth 20000 in
theorem gX4_gust_X4_gusts : GoodIn wsX4_gust (wsV RX4 117 RX4 yX4_gusts wsX4_gusts) := goodIn_app (goodIn_of _ (by decide +kernel)) ggX4_gust_X4_gusts
set_option maxRecDepth 20000 in
theorem ggX4_gust_X4_acted : GoodIn wsX4_gust wsX4_acted := goodIn_r _ [60, 61, 62, 63, 4, 64, 65, 66, 6, 67, 68, 69, 70, 71, 72, 73, 74, 75, 76, 77, 78, 79, 80, 81, 82] (by decide +kernel) (by decide +kernel)
set_option maxRecDepth 20000 in
theorem gX4_gust_X4_acted : GoodIn wsX4_gust (wsV RX4 111 RX4 yX4_acted wsX4_acted) := goodIn_app (goodIn_of _ (by decide +kernel)) ggX4_gust_X4_acted
theorem dX4_gust_0 : decode cX4_gust 0 = .ok (.aload_n 0, 1) := by decide +kernel
theorem dX4_gust_1 : decode cX4_gust 1 = .ok (.invokevirtual 43, 3) := by decide +kernel
theorem dX4_gust_4 : decode cX4_gust 4 = .ok (.iload_n 1, 1) := by decide +kernel
theorem dX4_gust_5 : decode cX4_gust 5 = .ok (.iload_n 2, 1) := by decide +kernel
theorem dX4_gust_6 : decode cX4_gust 6 = .ok (.invokestatic 114, 3) := by decide +kernel
theorem dX4_gust_9 : decode cX4_gust 9 = .ok (.ifCond .eq 16, 3) := by decide +kernel
theorem dX4_gust_12 : decode cX4_gust 12 = .ok (.aload_n 0, 1) := by decide +kernel
theorem dX4_gust_13 : decode cX4_gust 13 = .ok (.aload_n 0, 1) := by decide +kernel
theorem dX4_gust_14 : decode cX4_gust 14 = .ok (.iload_n 1, 1) := by decide +kernel
theorem dX4_gust_15 : decode cX4_gust 15 = .ok (.iload_n 2, 1) := by decide +kernel
theorem dX4_gust_16 : decode cX4_gust 16 = .ok (.invokevirtual 117, 3) := by decide +kernel
theorem dX4_gust_19 : decode cX4_gust 19 = .ok (.invokevirtual 111, 3) := by decide +kernel
theorem dX4_gust_22 : decode cX4_gust 22 = .ok (.goto 5, 3) := by decide +kernel
theorem dX4_gust_25 : decode cX4_gust 25 = .ok (.bipush (-2), 2) := by decide +kernel
theorem dX4_gust_27 : decode cX4_gust 27 = .ok (.ireturn, 1) := by decide +kernel
set_option maxRecDepth 20000 in
theorem ggX4_pass_X4_looks : GoodIn wsX4_pass wsX4_looks := goodIn_r _ [5, 6, 7, 33, 34, 35, 36, 37, 38, 39, 40, 41, 42, 43, 44, 45, 46, 47, 48] (by decide +kernel) (by decide +kernel)
set_option maxRecDepth 20000 in
theorem gX4_pass_X4_looks : GoodIn wsX4_pass (wsV RX4 43 RX4 yX4_looks wsX4_looks) := goodIn_app (goodIn_of _ (by decide +kernel)) ggX4_pass_X4_looks
set_option maxRecDepth 20000 in
theorem ggX4_pass_X4_in : GoodIn wsX4_pass wsX4_in := goodIn_r _ [10] (by decide +kernel) (by decide +kernel)
set_option maxRecDepth 20000 in
theorem gX4_pass_X4_in : GoodIn wsX4_pass (va_wsS RX4 32 yX4_in wsX4_in) := goodIn_app (goodIn_of _ (by decide +kernel)) ggX4_pass_X4_in
set_option maxRecDepth 20000 in
theorem ggX4_pass_X4_passes : GoodIn wsX4_pass wsX4_passes := goodIn_r _ [14, 7, 15, 16, 17, 18, 4, 19, 20, 21, 22, 33, 34, 35, 36, 37, 38, 39, 40, 41, 42, 43, 44, 45, 46, 47, 48] (by decide +kernel) (by decide +kernel)
set_option maxRecDepth 20000 in
theorem gX4_pass_X4_passes : GoodIn wsX4_pass (wsV RX4 120 RX4 yX4_passes wsX4_passes) := goodIn_app (goodIn_of _ (by decide +kernel)) ggX4_pass_X4_passes
set_option maxRecDepth 20000 in
theorem ggX4_pass_X4_acted : GoodIn wsX4_pass wsX4_acted := goodIn_r _ [26, 27, 28, 29, 4, 30, 31, 32, 6, 33, 34, 35, 36, 37, 38, 39, 40, 41, 42, 43, 44, 45, 46, 47, 48] (by decide +kernel) (by decide +kernel)
set_option maxRecDepth 20000 in
theorem gX4_pass_X4_acted : GoodIn wsX4_pass (wsV RX4 111 RX4 yX4_acted wsX4_acted) := goodIn_app (goodIn_of _ (by decide +kernel)) ggX4_pass_X4_acted
theorem dX4_pass_0 : decode cX4_pass 0 = .ok (.aload_n 0, 1) := by decide +kernel
theorem dX4_pass_1 : decode cX4_pass 1 = .ok (.invokevirtual 43, 3) := by decide +kernel
theorem dX4_pass_4 : decode cX4_pass 4 = .ok (.iload_n 1, 1) := by decide +kernel
theorem dX4_pass_5 : decode cX4_pass 5 = .ok (.iconst 1, 1) := by decide +kernel
theorem dX4_pass_6 : decode cX4_pass 6 = .ok (.bipush 99, 2) := by decide +kernel
theorem dX4_pass_8 : decode cX4_pass 8 = .ok (.invokestatic 32, 3) := by decide +kernel
theorem dX4_pass_11 : decode cX4_pass 11 = .ok (.ifCond .eq 15, 3) := by decide +kernel
theorem dX4_pass_14 : decode cX4_pass 14 = .ok (.aload_n 0, 1) := by decide +kernel
theorem dX4_pass_15 : decode cX4_pass 15 = .ok (.aload_n 0, 1) := by decide +kernel
theorem dX4_pass_16 : decode cX4_pass 16 = .ok (.iload_n 1, 1) := by decide +kernel
theorem dX4_pass_17 : decode cX4_pass 17 = .ok (.invokevirtual 120, 3) := by decide +kernel
theorem dX4_pass_20 : decode cX4_pass 20 = .ok (.invokevirtual 111, 3) := by decide +kernel
theorem dX4_pass_23 : decode cX4_pass 23 = .ok (.goto 5, 3) := by decide +kernel
theorem dX4_pass_26 : decode cX4_pass 26 = .ok (.bipush (-2), 2) := by decide +kernel
theorem dX4_pass_28 : decode cX4_pass 28 = .ok (.ireturn, 1) := by decide +kernel
set_option maxRecDepth 20000 in
theorem ggX4_serve_X4_looks : GoodIn wsX4_serve wsX4_looks := goodIn_r _ [5, 6, 7, 45, 46, 47, 48, 49, 50, 51, 52, 53, 54, 55, 56, 57, 58, 59, 60] (by decide +kernel) (by decide +kernel)
set_option maxRecDepth 20000 in
theorem gX4_serve_X4_looks : GoodIn wsX4_serve (wsV RX4 43 RX4 yX4_looks wsX4_looks) := goodIn_app (goodIn_of _ (by decide +kernel)) ggX4_serve_X4_looks
set_option maxRecDepth 20000 in
theorem ggX4_serve_X4_serves : GoodIn wsX4_serve wsX4_serves := goodIn_r _ [11, 7, 12, 13, 14, 4, 15, 16, 17, 18, 19, 20, 21, 22, 23, 24, 25, 26, 27, 28, 29, 30, 31, 32, 33, 34, 45, 46, 47, 48, 49, 50, 51, 52, 53, 54, 55, 56, 57, 58, 59, 60] (by decide +kernel) (by decide +kernel)
set_option maxRecDepth 20000 in
theorem gX4_serve_X4_serves : GoodIn wsX4_serve (wsV RX4 123 RX4 yX4_serves wsX4_serves) := goodIn_app (goodIn_of _ (by decide +kernel)) ggX4_serve_X4_serves
set_option maxRecDepth 20000 in
theorem ggX4_serve_X4_acted : GoodIn wsX4_serve wsX4_acted := goodIn_r _ [38, 39, 40, 41, 4, 42, 43, 44, 6, 45, 46, 47, 48, 49, 50, 51, 52, 53, 54, 55, 56, 57, 58, 59, 60] (by decide +kernel) (by decide +kernel)
set_option maxRecDepth 20000 in
theorem gX4_serve_X4_acted : GoodIn wsX4_serve (wsV RX4 111 RX4 yX4_acted wsX4_acted) := goodIn_app (goodIn_of _ (by decide +kernel)) ggX4_serve_X4_acted
theorem dX4_serve_0 : decode cX4_serve 0 = .ok (.aload_n 0, 1) := by decide +kernel
theorem dX4_serve_1 : decode cX4_serve 1 = .ok (.invokevirtual 43, 3) := by decide +kernel
theorem dX4_serve_4 : decode cX4_serve 4 = .ok (.aload_n 0, 1) := by decide +kernel
theorem dX4_serve_5 : decode cX4_serve 5 = .ok (.aload_n 0, 1) := by decide +kernel
theorem dX4_serve_6 : decode cX4_serve 6 = .ok (.invokevirtual 123, 3) := by decide +kernel
theorem dX4_serve_9 : decode cX4_serve 9 = .ok (.invokevirtual 111, 3) := by decide +kernel
theorem dX4_serve_12 : decode cX4_serve 12 = .ok (.ireturn, 1) := by decide +kernel
theorem dX4_type_0 : decode cX4_type 0 = .ok (.aload_n 0, 1) := by decide +kernel
theorem dX4_type_1 : decode cX4_type 1 = .ok (.getfield 126, 3) := by decide +kernel
theorem dX4_type_4 : decode cX4_type 4 = .ok (.bipush 60, 2) := by decide +kernel
theorem dX4_type_6 : decode cX4_type 6 = .ok (.if_icmp .ne 6, 3) := by decide +kernel
theorem dX4_type_9 : decode cX4_type 9 = .ok (.bipush (-3), 2) := by decide +kernel
theorem dX4_type_11 : decode cX4_type 11 = .ok (.ireturn, 1) := by decide +kernel
theorem dX4_type_12 : decode cX4_type 12 = .ok (.aload_n 0, 1) := by decide +kernel
theorem dX4_type_13 : decode cX4_type 13 = .ok (.getfield 22, 3) := by decide +kernel
theorem dX4_type_16 : decode cX4_type 16 = .ok (.aload_n 0, 1) := by decide +kernel
theorem dX4_type_17 : decode cX4_type 17 = .ok (.getfield 126, 3) := by decide +kernel
theorem dX4_type_20 : decode cX4_type 20 = .ok (.iload_n 1, 1) := by decide +kernel
theorem dX4_type_21 : decode cX4_type 21 = .ok (.iastore, 1) := by decide +kernel
theorem dX4_type_22 : decode cX4_type 22 = .ok (.aload_n 0, 1) := by decide +kernel
theorem dX4_type_23 : decode cX4_type 23 = .ok (.dup, 1) := by decide +kernel
theorem dX4_type_24 : decode cX4_type 24 = .ok (.getfield 126, 3) := by decide +kernel
theorem dX4_type_27 : decode cX4_type 27 = .ok (.iconst 1, 1) := by decide +kernel
theorem dX4_type_28 : decode cX4_type 28 = .ok (.iadd, 1) := by decide +kernel
theorem dX4_type_29 : decode cX4_type 29 = .ok (.putfield 126, 3) := by decide +kernel
theorem dX4_type_32 : decode cX4_type 32 = .ok (.aload_n 0, 1) := by decide +kernel
theorem dX4_type_33 : decode cX4_type 33 = .ok (.getfield 126, 3) := by decide +kernel
theorem dX4_type_36 : decode cX4_type 36 = .ok (.ireturn, 1) := by decide +kernel
theorem dX4_clearText_0 : decode cX4_clearText 0 = .ok (.aload_n 0, 1) := by decide +kernel
theorem dX4_clearText_1 : decode cX4_clearText 1 = .ok (.getfield 126, 3) := by decide +kernel
theorem dX4_clearText_4 : decode cX4_clearText 4 = .ok (.istore_n 1, 1) := by decide +kernel
theorem dX4_clearText_5 : decode cX4_clearText 5 = .ok (.aload_n 0, 1) := by decide +kernel
theorem dX4_clearText_6 : decode cX4_clearText 6 = .ok (.iconst 0, 1) := by decide +kernel
theorem dX4_clearText_7 : decode cX4_clearText 7 = .ok (.putfield 126, 3) := by decide +kernel
theorem dX4_clearText_10 : decode cX4_clearText 10 = .ok (.iload_n 1, 1) := by decide +kernel
theorem dX4_clearText_11 : decode cX4_clearText 11 = .ok (.ireturn, 1) := by decide +kernel
set_option maxRecDepth 20000 in
theorem ggX4_isNext_X4_in : GoodIn wsX4_isNext wsX4_in := goodIn_r _ [8] (by decide +kernel) (by decide +kernel)
set_option maxRecDepth 20000 in
theorem gX4_isNext_X4_in : GoodIn wsX4_isNext (va_wsS RX4 32 yX4_in wsX4_in) := goodIn_app (goodIn_of _ (by decide +kernel)) ggX4_isNext_X4_in
theorem dX4_isNext_0 : decode cX4_isNext 0 = .ok (.aload_n 0, 1) := by decide +kernel
theorem dX4_isNext_1 : decode cX4_isNext 1 = .ok (.getfield 129, 3) := by decide +kernel
theorem dX4_isNext_4 : decode cX4_isNext 4 = .ok (.ifCond .ne 35, 3) := by decide +kernel
theorem dX4_isNext_7 : decode cX4_isNext 7 = .ok (.aload_n 0, 1) := by decide +kernel
theorem dX4_isNext_8 : decode cX4_isNext 8 = .ok (.getfield 133, 3) := by decide +kernel
theorem dX4_isNext_11 : decode cX4_isNext 11 = .ok (.aload_n 0, 1) := by decide +kernel
theorem dX4_isNext_12 : decode cX4_isNext 12 = .ok (.getfield 126, 3) := by decide +kernel
theorem dX4_isNext_15 : decode cX4_isNext 15 = .ok (.if_icmp .ge 24, 3) := by decide +kernel
theorem dX4_isNext_18 : decode cX4_isNext 18 = .ok (.aload_n 0, 1) := by decide +kernel
theorem dX4_isNext_19 : decode cX4_isNext 19 = .ok (.getfield 22, 3) := by decide +kernel
theorem dX4_isNext_22 : decode cX4_isNext 22 = .ok (.aload_n 0, 1) := by decide +kernel
theorem dX4_isNext_23 : decode cX4_isNext 23 = .ok (.getfield 133, 3) := by decide +kernel
theorem dX4_isNext_26 : decode cX4_isNext 26 = .ok (.iaload, 1) := by decide +kernel
theorem dX4_isNext_27 : decode cX4_isNext 27 = .ok (.iload_n 1, 1) := by decide +kernel
theorem dX4_isNext_28 : decode cX4_isNext 28 = .ok (.iload_n 2, 1) := by decide +kernel
theorem dX4_isNext_29 : decode cX4_isNext 29 = .ok (.invokestatic 32, 3) := by decide +kernel
theorem dX4_isNext_32 : decode cX4_isNext 32 = .ok (.ifCond .eq 7, 3) := by decide +kernel
theorem dX4_isNext_35 : decode cX4_isNext 35 = .ok (.iconst 1, 1) := by decide +kernel
theorem dX4_isNext_36 : decode cX4_isNext 36 = .ok (.goto 4, 3) := by decide +kernel
theorem dX4_isNext_39 : decode cX4_isNext 39 = .ok (.iconst 0, 1) := by decide +kernel
theorem dX4_isNext_40 : decode cX4_isNext 40 = .ok (.ireturn, 1) := by decide +kernel
set_option maxRecDepth 20000 in
theorem ggX4_takes_X4_in : GoodIn wsX4_takes wsX4_in := goodIn_r _ [8] (by decide +kernel) (by decide +kernel)
set_option maxRecDepth 20000 in
theorem gX4_takes_X4_in : GoodIn wsX4_takes (va_wsS RX4 32 yX4_in wsX4_in) := goodIn_app (goodIn_of _ (by decide +kernel)) ggX4_takes_X4_in
theorem dX4_takes_0 : decode cX4_takes 0 = .ok (.aload_n 0, 1) := by decide +kernel
theorem dX4_takes_1 : decode cX4_takes 1 = .ok (.getfield 133, 3) := by decide +kernel
theorem dX4_takes_4 : decode cX4_takes 4 = .ok (.aload_n 0, 1) := by decide +kernel
theorem dX4_takes_5 : decode cX4_takes 5 = .ok (.getfield 126, 3) := by decide +kernel
theorem dX4_takes_8 : decode cX4_takes 8 = .ok (.if_icmp .ge 15, 3) := by decide +kernel
theorem dX4_takes_11 : decode cX4_takes 11 = .ok (.aload_n 0, 1) := by decide +kernel
theorem dX4_takes_12 : decode cX4_takes 12 = .ok (.getfield 22, 3) := by decide +kernel
theorem dX4_takes_15 : decode cX4_takes 15 = .ok (.aload_n 0, 1) := by decide +kernel
theorem dX4_takes_16 : decode cX4_takes 16 = .ok (.getfield 133, 3) := by decide +kernel
theorem dX4_takes_19 : decode cX4_takes 19 = .ok (.iaload, 1) := by decide +kernel
theorem dX4_takes_20 : decode cX4_takes 20 = .ok (.goto 4, 3) := by decide +kernel
theorem dX4_takes_23 : decode cX4_takes 23 = .ok (.iconst 0, 1) := by decide +kernel
theorem dX4_takes_24 : decode cX4_takes 24 = .ok (.istore_n 3, 1) := by decide +kernel
theorem dX4_takes_25 : decode cX4_takes 25 = .ok (.aload_n 0, 1) := by decide +kernel
theorem dX4_takes_26 : decode cX4_takes 26 = .ok (.aload_n 0, 1) := by decide +kernel
theorem dX4_takes_27 : decode cX4_takes 27 = .ok (.getfield 129, 3) := by decide +kernel
theorem dX4_takes_30 : decode cX4_takes 30 = .ok (.ifCond .ne 12, 3) := by decide +kernel
theorem dX4_takes_33 : decode cX4_takes 33 = .ok (.iload_n 3, 1) := by decide +kernel
theorem dX4_takes_34 : decode cX4_takes 34 = .ok (.iload_n 1, 1) := by decide +kernel
theorem dX4_takes_35 : decode cX4_takes 35 = .ok (.iload_n 2, 1) := by decide +kernel
theorem dX4_takes_36 : decode cX4_takes 36 = .ok (.invokestatic 32, 3) := by decide +kernel
theorem dX4_takes_39 : decode cX4_takes 39 = .ok (.ifCond .ne 7, 3) := by decide +kernel
theorem dX4_takes_42 : decode cX4_takes 42 = .ok (.iconst 1, 1) := by decide +kernel
theorem dX4_takes_43 : decode cX4_takes 43 = .ok (.goto 4, 3) := by decide +kernel
theorem dX4_takes_46 : decode cX4_takes 46 = .ok (.iconst 0, 1) := by decide +kernel
theorem dX4_takes_47 : decode cX4_takes 47 = .ok (.putfield 129, 3) := by decide +kernel
theorem dX4_takes_50 : decode cX4_takes 50 = .ok (.aload_n 0, 1) := by decide +kernel
theorem dX4_takes_51 : decode cX4_takes 51 = .ok (.dup, 1) := by decide +kernel
theorem dX4_takes_52 : decode cX4_takes 52 = .ok (.getfield 133, 3) := by decide +kernel
theorem dX4_takes_55 : decode cX4_takes 55 = .ok (.aload_n 0, 1) := by decide +kernel
theorem dX4_takes_56 : decode cX4_takes 56 = .ok (.getfield 129, 3) := by decide +kernel
theorem dX4_takes_59 : decode cX4_takes 59 = .ok (.ifCond .eq 7, 3) := by decide +kernel
theorem dX4_takes_62 : decode cX4_takes 62 = .ok (.iconst 0, 1) := by decide +kernel
theorem dX4_takes_63 : decode cX4_takes 63 = .ok (.goto 4, 3) := by decide +kernel
theorem dX4_takes_66 : decode cX4_takes 66 = .ok (.iconst 1, 1) := by decide +kernel
theorem dX4_takes_67 : decode cX4_takes 67 = .ok (.iadd, 1) := by decide +kernel
theorem dX4_takes_68 : decode cX4_takes 68 = .ok (.putfield 133, 3) := by decide +kernel
theorem dX4_takes_71 : decode cX4_takes 71 = .ok (.iload_n 3, 1) := by decide +kernel
theorem dX4_takes_72 : decode cX4_takes 72 = .ok (.iload_n 1, 1) := by decide +kernel
theorem dX4_takes_73 : decode cX4_takes 73 = .ok (.isub, 1) := by decide +kernel
theorem dX4_takes_74 : decode cX4_takes 74 = .ok (.ireturn, 1) := by decide +kernel
set_option maxRecDepth 20000 in
theorem ggX4_takesNumber_X4_takes : GoodIn wsX4_takesNumber wsX4_takes := goodIn_r _ [7, 2, 8, 1, 9, 10, 11, 6, 12, 17, 18, 19, 20, 21, 22, 23, 24, 25, 26, 27, 28, 29, 30, 31, 32] (by decide +kernel) (by decide +kernel)
set_option maxRecDepth 20000 in
theorem gX4_takesNumber_X4_takes : GoodIn wsX4_takesNumber (wsV RX4 136 RX4 yX4_takes wsX4_takes) := goodIn_app (goodIn_of _ (by decide +kernel)) ggX4_takesNumber_X4_takes
set_option maxRecDepth 20000 in
theorem ggX4_takesNumber_X4_isNext : GoodIn wsX4_takesNumber wsX4_isNext := goodIn_r _ [16, 9, 2, 8, 1, 10, 11, 6, 12, 17, 18, 19, 20, 21, 22, 23, 24, 25, 26, 27, 28, 29, 30, 31, 32] (by decide +kernel) (by decide +kernel)
set_option maxRecDepth 20000 in
theorem gX4_takesNumber_X4_isNext : GoodIn wsX4_takesNumber (wsV RX4 139 RX4 yX4_isNext wsX4_isNext) := goodIn_app (goodIn_of _ (by decide +kernel)) ggX4_takesNumber_X4_isNext
theorem dX4_takesNumber_0 : decode cX4_takesNumber 0 = .ok (.iload_n 1, 1) := by decide +kernel
theorem dX4_takesNumber_1 : decode cX4_takesNumber 1 = .ok (.aload_n 0, 1) := by decide +kernel
theorem dX4_takesNumber_2 : decode cX4_takesNumber 2 = .ok (.bipush 48, 2) := by decide +kernel
theorem dX4_takesNumber_4 : decode cX4_takesNumber 4 = .ok (.iload_n 1, 1) := by decide +kernel
theorem dX4_takesNumber_5 : decode cX4_takesNumber 5 = .ok (.iadd, 1) := by decide +kernel
theorem dX4_takesNumber_6 : decode cX4_takesNumber 6 = .ok (.bipush 57, 2) := by decide +kernel
theorem dX4_takesNumber_8 : decode cX4_takesNumber 8 = .ok (.invokevirtual 136, 3) := by decide +kernel
theorem dX4_takesNumber_11 : decode cX4_takesNumber 11 = .ok (.iadd, 1) := by decide +kernel
theorem dX4_takesNumber_12 : decode cX4_takesNumber 12 = .ok (.istore_n 3, 1) := by decide +kernel
theorem dX4_takesNumber_13 : decode cX4_takesNumber 13 = .ok (.iload_n 3, 1) := by decide +kernel
theorem dX4_takesNumber_14 : decode cX4_takesNumber 14 = .ok (.ifCond .le 7, 3) := by decide +kernel
theorem dX4_takesNumber_17 : decode cX4_takesNumber 17 = .ok (.iconst 1, 1) := by decide +kernel
theorem dX4_takesNumber_18 : decode cX4_takesNumber 18 = .ok (.goto 4, 3) := by decide +kernel
theorem dX4_takesNumber_21 : decode cX4_takesNumber 21 = .ok (.iconst 0, 1) := by decide +kernel
theorem dX4_takesNumber_22 : decode cX4_takesNumber 22 = .ok (.istore 4, 2) := by decide +kernel
theorem dX4_takesNumber_24 : decode cX4_takesNumber 24 = .ok (.iload 4, 2) := by decide +kernel
theorem dX4_takesNumber_26 : decode cX4_takesNumber 26 = .ok (.ifCond .eq 68, 3) := by decide +kernel
theorem dX4_takesNumber_29 : decode cX4_takesNumber 29 = .ok (.aload_n 0, 1) := by decide +kernel
theorem dX4_takesNumber_30 : decode cX4_takesNumber 30 = .ok (.bipush 48, 2) := by decide +kernel
theorem dX4_takesNumber_32 : decode cX4_takesNumber 32 = .ok (.bipush 57, 2) := by decide +kernel
theorem dX4_takesNumber_34 : decode cX4_takesNumber 34 = .ok (.invokevirtual 139, 3) := by decide +kernel
theorem dX4_takesNumber_37 : decode cX4_takesNumber 37 = .ok (.ifCond .eq 28, 3) := by decide +kernel
theorem dX4_takesNumber_40 : decode cX4_takesNumber 40 = .ok (.bipush 10, 2) := by decide +kernel
theorem dX4_takesNumber_42 : decode cX4_takesNumber 42 = .ok (.iload_n 3, 1) := by decide +kernel
theorem dX4_takesNumber_43 : decode cX4_takesNumber 43 = .ok (.imul, 1) := by decide +kernel
theorem dX4_takesNumber_44 : decode cX4_takesNumber 44 = .ok (.aload_n 0, 1) := by decide +kernel
theorem dX4_takesNumber_45 : decode cX4_takesNumber 45 = .ok (.getfield 22, 3) := by decide +kernel
theorem dX4_takesNumber_48 : decode cX4_takesNumber 48 = .ok (.aload_n 0, 1) := by decide +kernel
theorem dX4_takesNumber_49 : decode cX4_takesNumber 49 = .ok (.getfield 133, 3) := by decide +kernel
theorem dX4_takesNumber_52 : decode cX4_takesNumber 52 = .ok (.iaload, 1) := by decide +kernel
theorem dX4_takesNumber_53 : decode cX4_takesNumber 53 = .ok (.iadd, 1) := by decide +kernel
theorem dX4_takesNumber_54 : decode cX4_takesNumber 54 = .ok (.bipush 48, 2) := by decide +kernel
theorem dX4_takesNumber_56 : decode cX4_takesNumber 56 = .ok (.isub, 1) := by decide +kernel
theorem dX4_takesNumber_57 : decode cX4_takesNumber 57 = .ok (.iload_n 2, 1) := by decide +kernel
theorem dX4_takesNumber_58 : decode cX4_takesNumber 58 = .ok (.if_icmp .gt 7, 3) := by decide +kernel
theorem dX4_takesNumber_61 : decode cX4_takesNumber 61 = .ok (.iconst 1, 1) := by decide +kernel
theorem dX4_takesNumber_62 : decode cX4_takesNumber 62 = .ok (.goto 4, 3) := by decide +kernel
theorem dX4_takesNumber_65 : decode cX4_takesNumber 65 = .ok (.iconst 0, 1) := by decide +kernel
theorem dX4_takesNumber_66 : decode cX4_takesNumber 66 = .ok (.istore 4, 2) := by decide +kernel
theorem dX4_takesNumber_68 : decode cX4_takesNumber 68 = .ok (.iload 4, 2) := by decide +kernel
theorem dX4_takesNumber_70 : decode cX4_takesNumber 70 = .ok (.ifCond .eq 19, 3) := by decide +kernel
theorem dX4_takesNumber_73 : decode cX4_takesNumber 73 = .ok (.bipush 10, 2) := by decide +kernel
theorem dX4_takesNumber_75 : decode cX4_takesNumber 75 = .ok (.iload_n 3, 1) := by decide +kernel
theorem dX4_takesNumber_76 : decode cX4_takesNumber 76 = .ok (.imul, 1) := by decide +kernel
theorem dX4_takesNumber_77 : decode cX4_takesNumber 77 = .ok (.aload_n 0, 1) := by decide +kernel
theorem dX4_takesNumber_78 : decode cX4_takesNumber 78 = .ok (.bipush 48, 2) := by decide +kernel
theorem dX4_takesNumber_80 : decode cX4_takesNumber 80 = .ok (.bipush 57, 2) := by decide +kernel
theorem dX4_takesNumber_82 : decode cX4_takesNumber 82 = .ok (.invokevirtual 136, 3) := by decide +kernel
theorem dX4_takesNumber_85 : decode cX4_takesNumber 85 = .ok (.iadd, 1) := by decide +kernel
theorem dX4_takesNumber_86 : decode cX4_takesNumber 86 = .ok (.goto 4, 3) := by decide +kernel
theorem dX4_takesNumber_89 : decode cX4_takesNumber 89 = .ok (.iload_n 3, 1) := by decide +kernel
theorem dX4_takesNumber_90 : decode cX4_takesNumber 90 = .ok (.istore_n 3, 1) := by decide +kernel
theorem dX4_takesNumber_91 : decode cX4_takesNumber 91 = .ok (.goto (-67), 3) := by decide +kernel
theorem dX4_takesNumber_94 : decode cX4_takesNumber 94 = .ok (.iload_n 3, 1) := by decide +kernel
theorem dX4_takesNumber_95 : decode cX4_takesNumber 95 = .ok (.ireturn, 1) := by decide +kernel
set_option maxRecDepth 20000 in
theorem ggX4_readThing_X4_takesNumber : GoodIn wsX4_readThing wsX4_takesNumber := goodIn_r _ [12, 3, 1, 13, 14, 15, 11, 16, 2, 5, 17, 18, 19, 20, 21, 22, 23, 24, 25, 26, 27, 28, 29, 30, 31, 32, 33, 34, 35, 36, 37, 38, 39] (by decide +kernel) (by decide +kernel)
set_option maxRecDepth 20000 in
theorem gX4_readThing_X4_takesNumber : GoodIn wsX4_readThing (wsV RX4 145 RX4 yX4_takesNumber wsX4_takesNumber) := goodIn_app (goodIn_of _ (by decide +kernel)) ggX4_readThing_X4_takesNumber
set_option maxRecDepth 20000 in
theorem ggX4_readThing_X4_isNext : GoodIn wsX4_readThing wsX4_isNext := goodIn_r _ [23, 5, 1, 2, 3, 17, 18, 11, 19, 24, 25, 26, 27, 28, 29, 30, 31, 32, 33, 34, 35, 36, 37, 38, 39] (by decide +kernel) (by decide +kernel)
set_option maxRecDepth 20000 in
theorem gX4_readThing_X4_isNext : GoodIn wsX4_readThing (wsV RX4 139 RX4 yX4_isNext wsX4_isNext) := goodIn_app (goodIn_of _ (by decide +kernel)) ggX4_readThing_X4_isNext
theorem dX4_readThing_0 : decode cX4_readThing 0 = .ok (.aload_n 0, 1) := by decide +kernel
theorem dX4_readThing_1 : decode cX4_readThing 1 = .ok (.aload_n 0, 1) := by decide +kernel
theorem dX4_readThing_2 : decode cX4_readThing 2 = .ok (.getfield 133, 3) := by decide +kernel
theorem dX4_readThing_5 : decode cX4_readThing 5 = .ok (.aload_n 0, 1) := by decide +kernel
theorem dX4_readThing_6 : decode cX4_readThing 6 = .ok (.getfield 126, 3) := by decide +kernel
theorem dX4_readThing_9 : decode cX4_readThing 9 = .ok (.if_icmp .ge 15, 3) := by decide +kernel
theorem dX4_readThing_12 : decode cX4_readThing 12 = .ok (.aload_n 0, 1) := by decide +kernel
theorem dX4_readThing_13 : decode cX4_readThing 13 = .ok (.getfield 22, 3) := by decide +kernel
theorem dX4_readThing_16 : decode cX4_readThing 16 = .ok (.aload_n 0, 1) := by decide +kernel
theorem dX4_readThing_17 : decode cX4_readThing 17 = .ok (.getfield 133, 3) := by decide +kernel
theorem dX4_readThing_20 : decode cX4_readThing 20 = .ok (.iaload, 1) := by decide +kernel
theorem dX4_readThing_21 : decode cX4_readThing 21 = .ok (.goto 4, 3) := by decide +kernel
theorem dX4_readThing_24 : decode cX4_readThing 24 = .ok (.iconst 0, 1) := by decide +kernel
theorem dX4_readThing_25 : decode cX4_readThing 25 = .ok (.putfield 142, 3) := by decide +kernel
theorem dX4_readThing_28 : decode cX4_readThing 28 = .ok (.aload_n 0, 1) := by decide +kernel
theorem dX4_readThing_29 : decode cX4_readThing 29 = .ok (.aload_n 0, 1) := by decide +kernel
theorem dX4_readThing_30 : decode cX4_readThing 30 = .ok (.getfield 129, 3) := by decide +kernel
theorem dX4_readThing_33 : decode cX4_readThing 33 = .ok (.ifCond .ne 39, 3) := by decide +kernel
theorem dX4_readThing_36 : decode cX4_readThing 36 = .ok (.aload_n 0, 1) := by decide +kernel
theorem dX4_readThing_37 : decode cX4_readThing 37 = .ok (.getfield 142, 3) := by decide +kernel
theorem dX4_readThing_40 : decode cX4_readThing 40 = .ok (.bipush 103, 2) := by decide +kernel
theorem dX4_readThing_42 : decode cX4_readThing 42 = .ok (.if_icmp .eq 34, 3) := by decide +kernel
theorem dX4_readThing_45 : decode cX4_readThing 45 = .ok (.aload_n 0, 1) := by decide +kernel
theorem dX4_readThing_46 : decode cX4_readThing 46 = .ok (.getfield 142, 3) := by decide +kernel
theorem dX4_readThing_49 : decode cX4_readThing 49 = .ok (.bipush 46, 2) := by decide +kernel
theorem dX4_readThing_51 : decode cX4_readThing 51 = .ok (.if_icmp .eq 25, 3) := by decide +kernel
theorem dX4_readThing_54 : decode cX4_readThing 54 = .ok (.aload_n 0, 1) := by decide +kernel
theorem dX4_readThing_55 : decode cX4_readThing 55 = .ok (.getfield 142, 3) := by decide +kernel
theorem dX4_readThing_58 : decode cX4_readThing 58 = .ok (.bipush 99, 2) := by decide +kernel
theorem dX4_readThing_60 : decode cX4_readThing 60 = .ok (.if_icmp .eq 16, 3) := by decide +kernel
theorem dX4_readThing_63 : decode cX4_readThing 63 = .ok (.aload_n 0, 1) := by decide +kernel
theorem dX4_readThing_64 : decode cX4_readThing 64 = .ok (.getfield 142, 3) := by decide +kernel
theorem dX4_readThing_67 : decode cX4_readThing 67 = .ok (.bipush 120, 2) := by decide +kernel
theorem dX4_readThing_69 : decode cX4_readThing 69 = .ok (.if_icmp .eq 7, 3) := by decide +kernel
theorem dX4_readThing_72 : decode cX4_readThing 72 = .ok (.iconst 1, 1) := by decide +kernel
theorem dX4_readThing_73 : decode cX4_readThing 73 = .ok (.goto 4, 3) := by decide +kernel
theorem dX4_readThing_76 : decode cX4_readThing 76 = .ok (.iconst 0, 1) := by decide +kernel
theorem dX4_readThing_77 : decode cX4_readThing 77 = .ok (.putfield 129, 3) := by decide +kernel
theorem dX4_readThing_80 : decode cX4_readThing 80 = .ok (.aload_n 0, 1) := by decide +kernel
theorem dX4_readThing_81 : decode cX4_readThing 81 = .ok (.dup, 1) := by decide +kernel
theorem dX4_readThing_82 : decode cX4_readThing 82 = .ok (.getfield 133, 3) := by decide +kernel
theorem dX4_readThing_85 : decode cX4_readThing 85 = .ok (.aload_n 0, 1) := by decide +kernel
theorem dX4_readThing_86 : decode cX4_readThing 86 = .ok (.getfield 129, 3) := by decide +kernel
theorem dX4_readThing_89 : decode cX4_readThing 89 = .ok (.ifCond .eq 7, 3) := by decide +kernel
theorem dX4_readThing_92 : decode cX4_readThing 92 = .ok (.iconst 0, 1) := by decide +kernel
theorem dX4_readThing_93 : decode cX4_readThing 93 = .ok (.goto 4, 3) := by decide +kernel
theorem dX4_readThing_96 : decode cX4_readThing 96 = .ok (.iconst 1, 1) := by decide +kernel
theorem dX4_readThing_97 : decode cX4_readThing 97 = .ok (.iadd, 1) := by decide +kernel
theorem dX4_readThing_98 : decode cX4_readThing 98 = .ok (.putfield 133, 3) := by decide +kernel
theorem dX4_readThing_101 : decode cX4_readThing 101 = .ok (.aload_n 0, 1) := by decide +kernel
theorem dX4_readThing_102 : decode cX4_readThing 102 = .ok (.aload_n 0, 1) := by decide +kernel
theorem dX4_readThing_103 : decode cX4_readThing 103 = .ok (.getfield 142, 3) := by decide +kernel
theorem dX4_readThing_106 : decode cX4_readThing 106 = .ok (.bipush 99, 2) := by decide +kernel
theorem dX4_readThing_108 : decode cX4_readThing 108 = .ok (.if_icmp .ne 7, 3) := by decide +kernel
theorem dX4_readThing_111 : decode cX4_readThing 111 = .ok (.iconst 0, 1) := by decide +kernel
theorem dX4_readThing_112 : decode cX4_readThing 112 = .ok (.goto 29, 3) := by decide +kernel
theorem dX4_readThing_115 : decode cX4_readThing 115 = .ok (.aload_n 0, 1) := by decide +kernel
theorem dX4_readThing_116 : decode cX4_readThing 116 = .ok (.getfield 142, 3) := by decide +kernel
theorem dX4_readThing_119 : decode cX4_readThing 119 = .ok (.bipush 120, 2) := by decide +kernel
theorem dX4_readThing_121 : decode cX4_readThing 121 = .ok (.if_icmp .ne 13, 3) := by decide +kernel
theorem dX4_readThing_124 : decode cX4_readThing 124 = .ok (.aload_n 0, 1) := by decide +kernel
theorem dX4_readThing_125 : decode cX4_readThing 125 = .ok (.iconst 0, 1) := by decide +kernel
theorem dX4_readThing_126 : decode cX4_readThing 126 = .ok (.bipush 15, 2) := by decide +kernel
theorem dX4_readThing_128 : decode cX4_readThing 128 = .ok (.invokevirtual 145, 3) := by decide +kernel
theorem dX4_readThing_131 : decode cX4_readThing 131 = .ok (.goto 10, 3) := by decide +kernel
theorem dX4_readThing_134 : decode cX4_readThing 134 = .ok (.aload_n 0, 1) := by decide +kernel
theorem dX4_readThing_135 : decode cX4_readThing 135 = .ok (.iconst 1, 1) := by decide +kernel
theorem dX4_readThing_136 : decode cX4_readThing 136 = .ok (.bipush 99, 2) := by decide +kernel
theorem dX4_readThing_138 : decode cX4_readThing 138 = .ok (.invokevirtual 145, 3) := by decide +kernel
theorem dX4_readThing_141 : decode cX4_readThing 141 = .ok (.putfield 148, 3) := by decide +kernel
theorem dX4_readThing_144 : decode cX4_readThing 144 = .ok (.aload_n 0, 1) := by decide +kernel
theorem dX4_readThing_145 : decode cX4_readThing 145 = .ok (.aload_n 0, 1) := by decide +kernel
theorem dX4_readThing_146 : decode cX4_readThing 146 = .ok (.getfield 142, 3) := by decide +kernel
theorem dX4_readThing_149 : decode cX4_readThing 149 = .ok (.bipush 103, 2) := by decide +kernel
theorem dX4_readThing_151 : decode cX4_readThing 151 = .ok (.if_icmp .ne 18, 3) := by decide +kernel
theorem dX4_readThing_154 : decode cX4_readThing 154 = .ok (.aload_n 0, 1) := by decide +kernel
theorem dX4_readThing_155 : decode cX4_readThing 155 = .ok (.bipush 60, 2) := by decide +kernel
theorem dX4_readThing_157 : decode cX4_readThing 157 = .ok (.bipush 60, 2) := by decide +kernel
theorem dX4_readThing_159 : decode cX4_readThing 159 = .ok (.invokevirtual 139, 3) := by decide +kernel
theorem dX4_readThing_162 : decode cX4_readThing 162 = .ok (.ifCond .eq 7, 3) := by decide +kernel
theorem dX4_readThing_165 : decode cX4_readThing 165 = .ok (.iconst 1, 1) := by decide +kernel
theorem dX4_readThing_166 : decode cX4_readThing 166 = .ok (.goto 28, 3) := by decide +kernel
theorem dX4_readThing_169 : decode cX4_readThing 169 = .ok (.aload_n 0, 1) := by decide +kernel
theorem dX4_readThing_170 : decode cX4_readThing 170 = .ok (.getfield 142, 3) := by decide +kernel
theorem dX4_readThing_173 : decode cX4_readThing 173 = .ok (.bipush 103, 2) := by decide +kernel
theorem dX4_readThing_175 : decode cX4_readThing 175 = .ok (.if_icmp .ne 18, 3) := by decide +kernel
theorem dX4_readThing_178 : decode cX4_readThing 178 = .ok (.aload_n 0, 1) := by decide +kernel
theorem dX4_readThing_179 : decode cX4_readThing 179 = .ok (.bipush 62, 2) := by decide +kernel
theorem dX4_readThing_181 : decode cX4_readThing 181 = .ok (.bipush 62, 2) := by decide +kernel
theorem dX4_readThing_183 : decode cX4_readThing 183 = .ok (.invokevirtual 139, 3) := by decide +kernel
theorem dX4_readThing_186 : decode cX4_readThing 186 = .ok (.ifCond .eq 7, 3) := by decide +kernel
theorem dX4_readThing_189 : decode cX4_readThing 189 = .ok (.iconst 2, 1) := by decide +kernel
theorem dX4_readThing_190 : decode cX4_readThing 190 = .ok (.goto 4, 3) := by decide +kernel
theorem dX4_readThing_193 : decode cX4_readThing 193 = .ok (.iconst 0, 1) := by decide +kernel
theorem dX4_readThing_194 : decode cX4_readThing 194 = .ok (.putfield 151, 3) := by decide +kernel
theorem dX4_readThing_197 : decode cX4_readThing 197 = .ok (.aload_n 0, 1) := by decide +kernel
theorem dX4_readThing_198 : decode cX4_readThing 198 = .ok (.dup, 1) := by decide +kernel
theorem dX4_readThing_199 : decode cX4_readThing 199 = .ok (.getfield 133, 3) := by decide +kernel
theorem dX4_readThing_202 : decode cX4_readThing 202 = .ok (.aload_n 0, 1) := by decide +kernel
theorem dX4_readThing_203 : decode cX4_readThing 203 = .ok (.getfield 151, 3) := by decide +kernel
theorem dX4_readThing_206 : decode cX4_readThing 206 = .ok (.ifCond .le 7, 3) := by decide +kernel
theorem dX4_readThing_209 : decode cX4_readThing 209 = .ok (.iconst 1, 1) := by decide +kernel
theorem dX4_readThing_210 : decode cX4_readThing 210 = .ok (.goto 4, 3) := by decide +kernel
theorem dX4_readThing_213 : decode cX4_readThing 213 = .ok (.iconst 0, 1) := by decide +kernel
theorem dX4_readThing_214 : decode cX4_readThing 214 = .ok (.iadd, 1) := by decide +kernel
theorem dX4_readThing_215 : decode cX4_readThing 215 = .ok (.putfield 133, 3) := by decide +kernel
theorem dX4_readThing_218 : decode cX4_readThing 218 = .ok (.return_, 1) := by decide +kernel
set_option maxRecDepth 20000 in
theorem ggX4_does_X4_gusts : GoodIn wsX4_does wsX4_gusts := goodIn_r _ [8, 9, 10, 11, 7, 12, 13, 14, 15, 16, 17, 18, 19, 20, 21, 22, 23, 24, 25, 26, 27, 28, 29, 30, 31, 32, 33, 34, 35, 36, 37, 38, 39, 40, 41, 42, 43, 44, 45, 46, 47, 48, 49, 50, 51, 93, 94, 95, 96, 97, 98, 99, 100, 101, 102, 103, 104, 105, 106, 107, 108] (by decide +kernel) (by decide +kernel)
set_option maxRecDepth 20000 in
theorem gX4_does_X4_gusts : GoodIn wsX4_does (wsV RX4 117 RX4 yX4_gusts wsX4_gusts) := goodIn_app (goodIn_of _ (by decide +kernel)) ggX4_does_X4_gusts
set_option maxRecDepth 20000 in
theorem ggX4_does_X4_passes : GoodIn wsX4_does wsX4_passes := goodIn_r _ [55, 9, 56, 17, 18, 19, 7, 20, 10, 11, 12, 93, 94, 95, 96, 97, 98, 99, 100, 101, 102, 103, 104, 105, 106, 107, 108] (by decide +kernel) (by decide +kernel)
set_option maxRecDepth 20000 in
theorem gX4_does_X4_passes : GoodIn wsX4_does (wsV RX4 120 RX4 yX4_passes wsX4_passes) := goodIn_app (goodIn_of _ (by decide +kernel)) ggX4_does_X4_passes
set_option maxRecDepth 20000 in
theorem ggX4_does_X4_serves : GoodIn wsX4_does wsX4_serves := goodIn_r _ [60, 9, 61, 62, 63, 7, 64, 65, 66, 67, 68, 69, 70, 71, 72, 17, 18, 19, 20, 10, 11, 12, 48, 49, 50, 51, 93, 94, 95, 96, 97, 98, 99, 100, 101, 102, 103, 104, 105, 106, 107, 108] (by decide +kernel) (by decide +kernel)
set_option maxRecDepth 20000 in
theorem gX4_does_X4_serves : GoodIn wsX4_does (wsV RX4 123 RX4 yX4_serves wsX4_serves) := goodIn_app (goodIn_of _ (by decide +kernel)) ggX4_does_X4_serves
set_option maxRecDepth 20000 in
theorem ggX4_does_X4_swaps : GoodIn wsX4_does wsX4_swaps := goodIn_r _ [76, 9, 77, 78, 79, 7, 80, 81, 82, 83, 84, 41, 42, 43, 85, 86, 87, 88, 17, 18, 19, 20, 10, 11, 12, 89, 90, 91, 92, 93, 94, 95, 96, 97, 98, 99, 100, 101, 102, 103, 104, 105, 106, 107, 108] (by decide +kernel) (by decide +kernel)
set_option maxRecDepth 20000 in
theorem gX4_does_X4_swaps : GoodIn wsX4_does (wsV RX4 108 RX4 yX4_swaps wsX4_swaps) := goodIn_app (goodIn_of _ (by decide +kernel)) ggX4_does_X4_swaps
theorem dX4_does_0 : decode cX4_does 0 = .ok (.aload_n 0, 1) := by decide +kernel
theorem dX4_does_1 : decode cX4_does 1 = .ok (.getfield 142, 3) := by decide +kernel
theorem dX4_does_4 : decode cX4_does 4 = .ok (.lookupswitch 63 #[(46, 49), (99, 58), (103, 36)], 36) := by decide +kernel
theorem dX4_does_40 : decode cX4_does 40 = .ok (.aload_n 0, 1) := by decide +kernel
theorem dX4_does_41 : decode cX4_does 41 = .ok (.aload_n 0, 1) := by decide +kernel
theorem dX4_does_42 : decode cX4_does 42 = .ok (.getfield 148, 3) := by decide +kernel
theorem dX4_does_45 : decode cX4_does 45 = .ok (.aload_n 0, 1) := by decide +kernel
theorem dX4_does_46 : decode cX4_does 46 = .ok (.getfield 151, 3) := by decide +kernel
theorem dX4_does_49 : decode cX4_does 49 = .ok (.invokevirtual 117, 3) := by decide +kernel
theorem dX4_does_52 : decode cX4_does 52 = .ok (.ireturn, 1) := by decide +kernel
theorem dX4_does_53 : decode cX4_does 53 = .ok (.aload_n 0, 1) := by decide +kernel
theorem dX4_does_54 : decode cX4_does 54 = .ok (.aload_n 0, 1) := by decide +kernel
theorem dX4_does_55 : decode cX4_does 55 = .ok (.getfield 148, 3) := by decide +kernel
theorem dX4_does_58 : decode cX4_does 58 = .ok (.invokevirtual 120, 3) := by decide +kernel
theorem dX4_does_61 : decode cX4_does 61 = .ok (.ireturn, 1) := by decide +kernel
theorem dX4_does_62 : decode cX4_does 62 = .ok (.aload_n 0, 1) := by decide +kernel
theorem dX4_does_63 : decode cX4_does 63 = .ok (.invokevirtual 123, 3) := by decide +kernel
theorem dX4_does_66 : decode cX4_does 66 = .ok (.ireturn, 1) := by decide +kernel
theorem dX4_does_67 : decode cX4_does 67 = .ok (.aload_n 0, 1) := by decide +kernel
theorem dX4_does_68 : decode cX4_does 68 = .ok (.aload_n 0, 1) := by decide +kernel
theorem dX4_does_69 : decode cX4_does 69 = .ok (.getfield 148, 3) := by decide +kernel
theorem dX4_does_72 : decode cX4_does 72 = .ok (.invokevirtual 108, 3) := by decide +kernel
theorem dX4_does_75 : decode cX4_does 75 = .ok (.ireturn, 1) := by decide +kernel
set_option maxRecDepth 20000 in
theorem ggX4_runs_X4_readThing : GoodIn wsX4_runs wsX4_readThing := goodIn_r _ [9, 1, 4, 10, 11, 2, 12, 13, 14, 15, 16, 8, 17, 18, 19, 20, 21, 22, 23, 24, 25, 26, 27, 28, 118, 119, 120, 121, 122, 123, 124, 125, 126, 127, 128, 129, 130, 131, 132, 133] (by decide +kernel) (by decide +kernel)
set_option maxRecDepth 20000 in
theorem gX4_runs_X4_readThing : GoodIn wsX4_runs (wsV RX4 157 RX4 yX4_readThing wsX4_readThing) := goodIn_app (goodIn_of _ (by decide +kernel)) ggX4_runs_X4_readThing
set_option maxRecDepth 20000 in
theorem ggX4_runs_X4_does : GoodIn wsX4_runs wsX4_does := goodIn_r _ [32, 11, 12, 13, 33, 34, 35, 8, 36, 37, 38, 39, 40, 41, 42, 43, 44, 45, 46, 47, 48, 49, 50, 51, 52, 53, 54, 55, 56, 57, 58, 59, 60, 61, 62, 63, 64, 65, 66, 67, 68, 22, 23, 24, 69, 70, 71, 72, 73, 74, 75, 76, 77, 78, 79, 80, 81, 82, 83, 84, 85, 86, 87, 88, 89, 90, 91, 92, 93, 94, 95, 96, 97, 98, 99, 100, 101, 102, 103, 104, 105, 106, 107, 108, 109, 110, 111, 112, 113, 114, 115, 116, 117, 118, 119, 120, 121, 122, 123, 124, 125, 126, 127, 128, 129, 130, 131, 132, 133] (by decide +kernel) (by decide +kernel)
set_option maxRecDepth 20000 in
theorem gX4_runs_X4_does : GoodIn wsX4_runs (wsV RX4 160 RX4 yX4_does wsX4_does) := goodIn_app (goodIn_of _ (by decide +kernel)) ggX4_runs_X4_does
set_option maxRecDepth 20000 in
theorem ggX4_runs_X4_takes : GoodIn wsX4_runs wsX4_takes := goodIn_r _ [21, 1, 4, 10, 2, 22, 23, 8, 24, 118, 119, 120, 121, 122, 123, 124, 125, 126, 127, 128, 129, 130, 131, 132, 133] (by decide +kernel) (by decide +kernel)
set_option maxRecDepth 20000 in
theorem gX4_runs_X4_takes : GoodIn wsX4_runs (wsV RX4 136 RX4 yX4_takes wsX4_takes) := goodIn_app (goodIn_of _ (by decide +kernel)) ggX4_runs_X4_takes
theorem dX4_runs_0 : decode cX4_runs 0 = .ok (.aload_n 0, 1) := by decide +kernel
theorem dX4_runs_1 : decode cX4_runs 1 = .ok (.iconst 0, 1) := by decide +kernel
theorem dX4_runs_2 : decode cX4_runs 2 = .ok (.putfield 133, 3) := by decide +kernel
theorem dX4_runs_5 : decode cX4_runs 5 = .ok (.aload_n 0, 1) := by decide +kernel
theorem dX4_runs_6 : decode cX4_runs 6 = .ok (.iconst 0, 1) := by decide +kernel
theorem dX4_runs_7 : decode cX4_runs 7 = .ok (.putfield 129, 3) := by decide +kernel
theorem dX4_runs_10 : decode cX4_runs 10 = .ok (.aload_n 0, 1) := by decide +kernel
theorem dX4_runs_11 : decode cX4_runs 11 = .ok (.iconst 0, 1) := by decide +kernel
theorem dX4_runs_12 : decode cX4_runs 12 = .ok (.putfield 154, 3) := by decide +kernel
theorem dX4_runs_15 : decode cX4_runs 15 = .ok (.iconst 0, 1) := by decide +kernel
theorem dX4_runs_16 : decode cX4_runs 16 = .ok (.istore_n 2, 1) := by decide +kernel
theorem dX4_runs_17 : decode cX4_runs 17 = .ok (.iconst 1, 1) := by decide +kernel
theorem dX4_runs_18 : decode cX4_runs 18 = .ok (.istore_n 3, 1) := by decide +kernel
theorem dX4_runs_19 : decode cX4_runs 19 = .ok (.iload_n 3, 1) := by decide +kernel
theorem dX4_runs_20 : decode cX4_runs 20 = .ok (.ifCond .eq 126, 3) := by decide +kernel
theorem dX4_runs_23 : decode cX4_runs 23 = .ok (.aload_n 0, 1) := by decide +kernel
theorem dX4_runs_24 : decode cX4_runs 24 = .ok (.invokevirtual 157, 3) := by decide +kernel
theorem dX4_runs_27 : decode cX4_runs 27 = .ok (.iload_n 1, 1) := by decide +kernel
theorem dX4_runs_28 : decode cX4_runs 28 = .ok (.ifCond .eq 10, 3) := by decide +kernel
theorem dX4_runs_31 : decode cX4_runs 31 = .ok (.aload_n 0, 1) := by decide +kernel
theorem dX4_runs_32 : decode cX4_runs 32 = .ok (.invokevirtual 160, 3) := by decide +kernel
theorem dX4_runs_35 : decode cX4_runs 35 = .ok (.goto 4, 3) := by decide +kernel
theorem dX4_runs_38 : decode cX4_runs 38 = .ok (.iconst 0, 1) := by decide +kernel
theorem dX4_runs_39 : decode cX4_runs 39 = .ok (.istore 4, 2) := by decide +kernel
theorem dX4_runs_41 : decode cX4_runs 41 = .ok (.aload_n 0, 1) := by decide +kernel
theorem dX4_runs_42 : decode cX4_runs 42 = .ok (.iload 4, 2) := by decide +kernel
theorem dX4_runs_44 : decode cX4_runs 44 = .ok (.ifCond .ge 22, 3) := by decide +kernel
theorem dX4_runs_47 : decode cX4_runs 47 = .ok (.iload 4, 2) := by decide +kernel
theorem dX4_runs_49 : decode cX4_runs 49 = .ok (.bipush (-5), 2) := by decide +kernel
theorem dX4_runs_51 : decode cX4_runs 51 = .ok (.if_icmp .eq 15, 3) := by decide +kernel
theorem dX4_runs_54 : decode cX4_runs 54 = .ok (.iload 4, 2) := by decide +kernel
theorem dX4_runs_56 : decode cX4_runs 56 = .ok (.bipush (-10), 2) := by decide +kernel
theorem dX4_runs_58 : decode cX4_runs 58 = .ok (.if_icmp .le 8, 3) := by decide +kernel
theorem dX4_runs_61 : decode cX4_runs 61 = .ok (.iload 4, 2) := by decide +kernel
theorem dX4_runs_63 : decode cX4_runs 63 = .ok (.goto 4, 3) := by decide +kernel
theorem dX4_runs_66 : decode cX4_runs 66 = .ok (.iconst 0, 1) := by decide +kernel
theorem dX4_runs_67 : decode cX4_runs 67 = .ok (.putfield 154, 3) := by decide +kernel
theorem dX4_runs_70 : decode cX4_runs 70 = .ok (.iload_n 2, 1) := by decide +kernel
theorem dX4_runs_71 : decode cX4_runs 71 = .ok (.aload_n 0, 1) := by decide +kernel
theorem dX4_runs_72 : decode cX4_runs 72 = .ok (.getfield 154, 3) := by decide +kernel
theorem dX4_runs_75 : decode cX4_runs 75 = .ok (.ifCond .ge 7, 3) := by decide +kernel
theorem dX4_runs_78 : decode cX4_runs 78 = .ok (.iconst 0, 1) := by decide +kernel
theorem dX4_runs_79 : decode cX4_runs 79 = .ok (.goto 4, 3) := by decide +kernel
theorem dX4_runs_82 : decode cX4_runs 82 = .ok (.iconst 1, 1) := by decide +kernel
theorem dX4_runs_83 : decode cX4_runs 83 = .ok (.iadd, 1) := by decide +kernel
theorem dX4_runs_84 : decode cX4_runs 84 = .ok (.istore_n 2, 1) := by decide +kernel
theorem dX4_runs_85 : decode cX4_runs 85 = .ok (.aload_n 0, 1) := by decide +kernel
theorem dX4_runs_86 : decode cX4_runs 86 = .ok (.getfield 154, 3) := by decide +kernel
theorem dX4_runs_89 : decode cX4_runs 89 = .ok (.ifCond .ne 25, 3) := by decide +kernel
theorem dX4_runs_92 : decode cX4_runs 92 = .ok (.aload_n 0, 1) := by decide +kernel
theorem dX4_runs_93 : decode cX4_runs 93 = .ok (.getfield 129, 3) := by decide +kernel
theorem dX4_runs_96 : decode cX4_runs 96 = .ok (.ifCond .ne 18, 3) := by decide +kernel
theorem dX4_runs_99 : decode cX4_runs 99 = .ok (.aload_n 0, 1) := by decide +kernel
theorem dX4_runs_100 : decode cX4_runs 100 = .ok (.getfield 133, 3) := by decide +kernel
theorem dX4_runs_103 : decode cX4_runs 103 = .ok (.aload_n 0, 1) := by decide +kernel
theorem dX4_runs_104 : decode cX4_runs 104 = .ok (.getfield 126, 3) := by decide +kernel
theorem dX4_runs_107 : decode cX4_runs 107 = .ok (.if_icmp .ge 7, 3) := by decide +kernel
theorem dX4_runs_110 : decode cX4_runs 110 = .ok (.iconst 1, 1) := by decide +kernel
theorem dX4_runs_111 : decode cX4_runs 111 = .ok (.goto 4, 3) := by decide +kernel
theorem dX4_runs_114 : decode cX4_runs 114 = .ok (.iconst 0, 1) := by decide +kernel
theorem dX4_runs_115 : decode cX4_runs 115 = .ok (.istore_n 3, 1) := by decide +kernel
theorem dX4_runs_116 : decode cX4_runs 116 = .ok (.iload_n 3, 1) := by decide +kernel
theorem dX4_runs_117 : decode cX4_runs 117 = .ok (.ifCond .eq 26, 3) := by decide +kernel
theorem dX4_runs_120 : decode cX4_runs 120 = .ok (.aload_n 0, 1) := by decide +kernel
theorem dX4_runs_121 : decode cX4_runs 121 = .ok (.bipush 59, 2) := by decide +kernel
theorem dX4_runs_123 : decode cX4_runs 123 = .ok (.bipush 59, 2) := by decide +kernel
theorem dX4_runs_125 : decode cX4_runs 125 = .ok (.invokevirtual 136, 3) := by decide +kernel
theorem dX4_runs_128 : decode cX4_runs 128 = .ok (.istore 5, 2) := by decide +kernel
theorem dX4_runs_130 : decode cX4_runs 130 = .ok (.aload_n 0, 1) := by decide +kernel
theorem dX4_runs_131 : decode cX4_runs 131 = .ok (.getfield 129, 3) := by decide +kernel
theorem dX4_runs_134 : decode cX4_runs 134 = .ok (.ifCond .ne 7, 3) := by decide +kernel
theorem dX4_runs_137 : decode cX4_runs 137 = .ok (.iconst 1, 1) := by decide +kernel
theorem dX4_runs_138 : decode cX4_runs 138 = .ok (.goto 4, 3) := by decide +kernel
theorem dX4_runs_141 : decode cX4_runs 141 = .ok (.iconst 0, 1) := by decide +kernel
theorem dX4_runs_142 : decode cX4_runs 142 = .ok (.istore_n 3, 1) := by decide +kernel
theorem dX4_runs_143 : decode cX4_runs 143 = .ok (.goto (-124), 3) := by decide +kernel
theorem dX4_runs_146 : decode cX4_runs 146 = .ok (.iload_n 2, 1) := by decide +kernel
theorem dX4_runs_147 : decode cX4_runs 147 = .ok (.ireturn, 1) := by decide +kernel
set_option maxRecDepth 20000 in
theorem ggX4_perform_X4_runs : GoodIn wsX4_perform wsX4_runs := goodIn_r _ [12, 2, 1, 3, 13, 14, 15, 16, 11, 17, 18, 19, 20, 21, 22, 23, 24, 25, 26, 27, 28, 29, 30, 31, 32, 33, 34, 35, 36, 37, 38, 39, 40, 41, 42, 43, 44, 6, 45, 46, 47, 48, 49, 50, 51, 52, 53, 54, 55, 56, 57, 58, 59, 60, 61, 62, 63, 64, 65, 66, 67, 68, 69, 70, 71, 72, 73, 74, 75, 76, 77, 78, 79, 80, 81, 82, 83, 84, 85, 86, 87, 88, 89, 90, 91, 92, 93, 94, 95, 96, 97, 98, 99, 100, 101, 102, 103, 104, 105, 106, 107, 108, 109, 110, 111, 112, 113, 114, 115, 116, 117, 118, 119, 120, 121, 122, 123, 124, 135, 136, 137, 138, 139, 140, 141, 142, 143, 144, 145, 146, 147, 148, 149, 150] (by decide +kernel) (by decide +kernel)
set_option maxRecDepth 20000 in
theorem gX4_perform_X4_runs : GoodIn wsX4_perform (wsV RX4 163 RX4 yX4_runs wsX4_runs) := goodIn_app (goodIn_of _ (by decide +kernel)) ggX4_perform_X4_runs
set_option maxRecDepth 20000 in
theorem ggX4_perform_X4_looks : GoodIn wsX4_perform wsX4_looks := goodIn_r _ [128, 7, 6, 135, 136, 137, 138, 139, 140, 141, 142, 143, 144, 145, 146, 147, 148, 149, 150] (by decide +kernel) (by decide +kernel)
set_option maxRecDepth 20000 in
theorem gX4_perform_X4_looks : GoodIn wsX4_perform (wsV RX4 43 RX4 yX4_looks wsX4_looks) := goodIn_app (goodIn_of _ (by decide +kernel)) ggX4_perform_X4_looks
set_option maxRecDepth 20000 in
theorem ggX4_perform_X4_records : GoodIn wsX4_perform wsX4_records := goodIn_r _ [132, 133, 134, 7, 135, 136, 137, 138, 139, 140, 141, 142, 143, 144, 145, 146, 147, 148, 149, 150] (by decide +kernel) (by decide +kernel)
set_option maxRecDepth 20000 in
theorem gX4_perform_X4_records : GoodIn wsX4_perform (wsV RX4 46 RX4 yX4_records wsX4_records) := goodIn_app (goodIn_of _ (by decide +kernel)) ggX4_perform_X4_records
theorem dX4_perform_0 : decode cX4_perform 0 = .ok (.aload_n 0, 1) := by decide +kernel
theorem dX4_perform_1 : decode cX4_perform 1 = .ok (.iconst 0, 1) := by decide +kernel
theorem dX4_perform_2 : decode cX4_perform 2 = .ok (.invokevirtual 163, 3) := by decide +kernel
theorem dX4_perform_5 : decode cX4_perform 5 = .ok (.istore_n 1, 1) := by decide +kernel
theorem dX4_perform_6 : decode cX4_perform 6 = .ok (.aload_n 0, 1) := by decide +kernel
theorem dX4_perform_7 : decode cX4_perform 7 = .ok (.getfield 129, 3) := by decide +kernel
theorem dX4_perform_10 : decode cX4_perform 10 = .ok (.ifCond .eq 11, 3) := by decide +kernel
theorem dX4_perform_13 : decode cX4_perform 13 = .ok (.bipush (-100), 2) := by decide +kernel
theorem dX4_perform_15 : decode cX4_perform 15 = .ok (.aload_n 0, 1) := by decide +kernel
theorem dX4_perform_16 : decode cX4_perform 16 = .ok (.getfield 133, 3) := by decide +kernel
theorem dX4_perform_19 : decode cX4_perform 19 = .ok (.isub, 1) := by decide +kernel
theorem dX4_perform_20 : decode cX4_perform 20 = .ok (.ireturn, 1) := by decide +kernel
theorem dX4_perform_21 : decode cX4_perform 21 = .ok (.aload_n 0, 1) := by decide +kernel
theorem dX4_perform_22 : decode cX4_perform 22 = .ok (.invokevirtual 43, 3) := by decide +kernel
theorem dX4_perform_25 : decode cX4_perform 25 = .ok (.aload_n 0, 1) := by decide +kernel
theorem dX4_perform_26 : decode cX4_perform 26 = .ok (.iconst 1, 1) := by decide +kernel
theorem dX4_perform_27 : decode cX4_perform 27 = .ok (.invokevirtual 163, 3) := by decide +kernel
theorem dX4_perform_30 : decode cX4_perform 30 = .ok (.istore_n 2, 1) := by decide +kernel
theorem dX4_perform_31 : decode cX4_perform 31 = .ok (.aload_n 0, 1) := by decide +kernel
theorem dX4_perform_32 : decode cX4_perform 32 = .ok (.getfield 154, 3) := by decide +kernel
theorem dX4_perform_35 : decode cX4_perform 35 = .ok (.ifCond .ge 45, 3) := by decide +kernel
theorem dX4_perform_38 : decode cX4_perform 38 = .ok (.aload_n 0, 1) := by decide +kernel
theorem dX4_perform_39 : decode cX4_perform 39 = .ok (.iload_n 2, 1) := by decide +kernel
theorem dX4_perform_40 : decode cX4_perform 40 = .ok (.putfield 25, 3) := by decide +kernel
theorem dX4_perform_43 : decode cX4_perform 43 = .ok (.aload_n 0, 1) := by decide +kernel
theorem dX4_perform_44 : decode cX4_perform 44 = .ok (.aload_n 0, 1) := by decide +kernel
theorem dX4_perform_45 : decode cX4_perform 45 = .ok (.getfield 154, 3) := by decide +kernel
theorem dX4_perform_48 : decode cX4_perform 48 = .ok (.putfield 29, 3) := by decide +kernel
theorem dX4_perform_51 : decode cX4_perform 51 = .ok (.iconst 0, 1) := by decide +kernel
theorem dX4_perform_52 : decode cX4_perform 52 = .ok (.istore_n 3, 1) := by decide +kernel
theorem dX4_perform_53 : decode cX4_perform 53 = .ok (.iload_n 3, 1) := by decide +kernel
theorem dX4_perform_54 : decode cX4_perform 54 = .ok (.bipush 109, 2) := by decide +kernel
theorem dX4_perform_56 : decode cX4_perform 56 = .ok (.if_icmp .ge 21, 3) := by decide +kernel
theorem dX4_perform_59 : decode cX4_perform 59 = .ok (.aload_n 0, 1) := by decide +kernel
theorem dX4_perform_60 : decode cX4_perform 60 = .ok (.getfield 7, 3) := by decide +kernel
theorem dX4_perform_63 : decode cX4_perform 63 = .ok (.iload_n 3, 1) := by decide +kernel
theorem dX4_perform_64 : decode cX4_perform 64 = .ok (.aload_n 0, 1) := by decide +kernel
theorem dX4_perform_65 : decode cX4_perform 65 = .ok (.getfield 13, 3) := by decide +kernel
theorem dX4_perform_68 : decode cX4_perform 68 = .ok (.iload_n 3, 1) := by decide +kernel
theorem dX4_perform_69 : decode cX4_perform 69 = .ok (.iaload, 1) := by decide +kernel
theorem dX4_perform_70 : decode cX4_perform 70 = .ok (.iastore, 1) := by decide +kernel
theorem dX4_perform_71 : decode cX4_perform 71 = .ok (.iinc 3 1, 3) := by decide +kernel
theorem dX4_perform_74 : decode cX4_perform 74 = .ok (.goto (-21), 3) := by decide +kernel
theorem dX4_perform_77 : decode cX4_perform 77 = .ok (.bipush (-4), 2) := by decide +kernel
theorem dX4_perform_79 : decode cX4_perform 79 = .ok (.ireturn, 1) := by decide +kernel
theorem dX4_perform_80 : decode cX4_perform 80 = .ok (.aload_n 0, 1) := by decide +kernel
theorem dX4_perform_81 : decode cX4_perform 81 = .ok (.invokevirtual 46, 3) := by decide +kernel
theorem dX4_perform_84 : decode cX4_perform 84 = .ok (.iload_n 2, 1) := by decide +kernel
theorem dX4_perform_85 : decode cX4_perform 85 = .ok (.ireturn, 1) := by decide +kernel
theorem dX4_stopped_0 : decode cX4_stopped 0 = .ok (.iload_n 1, 1) := by decide +kernel
theorem dX4_stopped_1 : decode cX4_stopped 1 = .ok (.ifCond .ne 10, 3) := by decide +kernel
theorem dX4_stopped_4 : decode cX4_stopped 4 = .ok (.aload_n 0, 1) := by decide +kernel
theorem dX4_stopped_5 : decode cX4_stopped 5 = .ok (.getfield 25, 3) := by decide +kernel
theorem dX4_stopped_8 : decode cX4_stopped 8 = .ok (.goto 17, 3) := by decide +kernel
theorem dX4_stopped_11 : decode cX4_stopped 11 = .ok (.iload_n 1, 1) := by decide +kernel
theorem dX4_stopped_12 : decode cX4_stopped 12 = .ok (.iconst 1, 1) := by decide +kernel
theorem dX4_stopped_13 : decode cX4_stopped 13 = .ok (.if_icmp .ne 10, 3) := by decide +kernel
theorem dX4_stopped_16 : decode cX4_stopped 16 = .ok (.aload_n 0, 1) := by decide +kernel
theorem dX4_stopped_17 : decode cX4_stopped 17 = .ok (.getfield 29, 3) := by decide +kernel
theorem dX4_stopped_20 : decode cX4_stopped 20 = .ok (.goto 5, 3) := by decide +kernel
theorem dX4_stopped_23 : decode cX4_stopped 23 = .ok (.bipush (-2), 2) := by decide +kernel
theorem dX4_stopped_25 : decode cX4_stopped 25 = .ok (.ireturn, 1) := by decide +kernel
theorem dX4_undo_0 : decode cX4_undo 0 = .ok (.aload_n 0, 1) := by decide +kernel
theorem dX4_undo_1 : decode cX4_undo 1 = .ok (.getfield 40, 3) := by decide +kernel
theorem dX4_undo_4 : decode cX4_undo 4 = .ok (.ifCond .ne 6, 3) := by decide +kernel
theorem dX4_undo_7 : decode cX4_undo 7 = .ok (.bipush (-5), 2) := by decide +kernel
theorem dX4_undo_9 : decode cX4_undo 9 = .ok (.ireturn, 1) := by decide +kernel
theorem dX4_undo_10 : decode cX4_undo 10 = .ok (.aload_n 0, 1) := by decide +kernel
theorem dX4_undo_11 : decode cX4_undo 11 = .ok (.dup, 1) := by decide +kernel
theorem dX4_undo_12 : decode cX4_undo 12 = .ok (.getfield 40, 3) := by decide +kernel
theorem dX4_undo_15 : decode cX4_undo 15 = .ok (.iconst 1, 1) := by decide +kernel
theorem dX4_undo_16 : decode cX4_undo 16 = .ok (.isub, 1) := by decide +kernel
theorem dX4_undo_17 : decode cX4_undo 17 = .ok (.putfield 40, 3) := by decide +kernel
theorem dX4_undo_20 : decode cX4_undo 20 = .ok (.iconst 0, 1) := by decide +kernel
theorem dX4_undo_21 : decode cX4_undo 21 = .ok (.istore_n 1, 1) := by decide +kernel
theorem dX4_undo_22 : decode cX4_undo 22 = .ok (.iload_n 1, 1) := by decide +kernel
theorem dX4_undo_23 : decode cX4_undo 23 = .ok (.bipush 109, 2) := by decide +kernel
theorem dX4_undo_25 : decode cX4_undo 25 = .ok (.if_icmp .ge 29, 3) := by decide +kernel
theorem dX4_undo_28 : decode cX4_undo 28 = .ok (.aload_n 0, 1) := by decide +kernel
theorem dX4_undo_29 : decode cX4_undo 29 = .ok (.getfield 7, 3) := by decide +kernel
theorem dX4_undo_32 : decode cX4_undo 32 = .ok (.iload_n 1, 1) := by decide +kernel
theorem dX4_undo_33 : decode cX4_undo 33 = .ok (.aload_n 0, 1) := by decide +kernel
theorem dX4_undo_34 : decode cX4_undo 34 = .ok (.getfield 19, 3) := by decide +kernel
theorem dX4_undo_37 : decode cX4_undo 37 = .ok (.bipush 109, 2) := by decide +kernel
theorem dX4_undo_39 : decode cX4_undo 39 = .ok (.aload_n 0, 1) := by decide +kernel
theorem dX4_undo_40 : decode cX4_undo 40 = .ok (.getfield 40, 3) := by decide +kernel
theorem dX4_undo_43 : decode cX4_undo 43 = .ok (.imul, 1) := by decide +kernel
theorem dX4_undo_44 : decode cX4_undo 44 = .ok (.iload_n 1, 1) := by decide +kernel
theorem dX4_undo_45 : decode cX4_undo 45 = .ok (.iadd, 1) := by decide +kernel
theorem dX4_undo_46 : decode cX4_undo 46 = .ok (.iaload, 1) := by decide +kernel
theorem dX4_undo_47 : decode cX4_undo 47 = .ok (.iastore, 1) := by decide +kernel
theorem dX4_undo_48 : decode cX4_undo 48 = .ok (.iinc 1 1, 3) := by decide +kernel
theorem dX4_undo_51 : decode cX4_undo 51 = .ok (.goto (-29), 3) := by decide +kernel
theorem dX4_undo_54 : decode cX4_undo 54 = .ok (.aload_n 0, 1) := by decide +kernel
theorem dX4_undo_55 : decode cX4_undo 55 = .ok (.getfield 40, 3) := by decide +kernel
theorem dX4_undo_58 : decode cX4_undo 58 = .ok (.ireturn, 1) := by decide +kernel
theorem dX4_keep_0 : decode cX4_keep 0 = .ok (.iconst 0, 1) := by decide +kernel
theorem dX4_keep_1 : decode cX4_keep 1 = .ok (.istore_n 1, 1) := by decide +kernel
theorem dX4_keep_2 : decode cX4_keep 2 = .ok (.iload_n 1, 1) := by decide +kernel
theorem dX4_keep_3 : decode cX4_keep 3 = .ok (.bipush 109, 2) := by decide +kernel
theorem dX4_keep_5 : decode cX4_keep 5 = .ok (.if_icmp .ge 21, 3) := by decide +kernel
theorem dX4_keep_8 : decode cX4_keep 8 = .ok (.aload_n 0, 1) := by decide +kernel
theorem dX4_keep_9 : decode cX4_keep 9 = .ok (.getfield 16, 3) := by decide +kernel
theorem dX4_keep_12 : decode cX4_keep 12 = .ok (.iload_n 1, 1) := by decide +kernel
theorem dX4_keep_13 : decode cX4_keep 13 = .ok (.aload_n 0, 1) := by decide +kernel
theorem dX4_keep_14 : decode cX4_keep 14 = .ok (.getfield 7, 3) := by decide +kernel
theorem dX4_keep_17 : decode cX4_keep 17 = .ok (.iload_n 1, 1) := by decide +kernel
theorem dX4_keep_18 : decode cX4_keep 18 = .ok (.iaload, 1) := by decide +kernel
theorem dX4_keep_19 : decode cX4_keep 19 = .ok (.iastore, 1) := by decide +kernel
theorem dX4_keep_20 : decode cX4_keep 20 = .ok (.iinc 1 1, 3) := by decide +kernel
theorem dX4_keep_23 : decode cX4_keep 23 = .ok (.goto (-21), 3) := by decide +kernel
theorem dX4_keep_26 : decode cX4_keep 26 = .ok (.aload_n 0, 1) := by decide +kernel
theorem dX4_keep_27 : decode cX4_keep 27 = .ok (.iconst 1, 1) := by decide +kernel
theorem dX4_keep_28 : decode cX4_keep 28 = .ok (.putfield 167, 3) := by decide +kernel
theorem dX4_keep_31 : decode cX4_keep 31 = .ok (.aload_n 0, 1) := by decide +kernel
theorem dX4_keep_32 : decode cX4_keep 32 = .ok (.getfield 7, 3) := by decide +kernel
theorem dX4_keep_35 : decode cX4_keep 35 = .ok (.iconst 0, 1) := by decide +kernel
theorem dX4_keep_36 : decode cX4_keep 36 = .ok (.iaload, 1) := by decide +kernel
theorem dX4_keep_37 : decode cX4_keep 37 = .ok (.ireturn, 1) := by decide +kernel
set_option maxRecDepth 20000 in
theorem ggX4_restore_X4_know : GoodIn wsX4_restore wsX4_know := goodIn_r _ [8, 9, 10, 11, 7, 12, 13, 2, 14, 15, 16, 17, 18, 19, 20, 21, 22, 23, 24, 25, 26, 27, 28, 29, 30, 31, 32, 33, 34, 35] (by decide +kernel) (by decide +kernel)
set_option maxRecDepth 20000 in
theorem gX4_restore_X4_know : GoodIn wsX4_restore (wsV RX4 105 RX4 yX4_know wsX4_know) := goodIn_app (goodIn_of _ (by decide +kernel)) ggX4_restore_X4_know
theorem dX4_restore_0 : decode cX4_restore 0 = .ok (.aload_n 0, 1) := by decide +kernel
theorem dX4_restore_1 : decode cX4_restore 1 = .ok (.getfield 167, 3) := by decide +kernel
theorem dX4_restore_4 : decode cX4_restore 4 = .ok (.ifCond .ne 6, 3) := by decide +kernel
theorem dX4_restore_7 : decode cX4_restore 7 = .ok (.bipush (-5), 2) := by decide +kernel
theorem dX4_restore_9 : decode cX4_restore 9 = .ok (.ireturn, 1) := by decide +kernel
theorem dX4_restore_10 : decode cX4_restore 10 = .ok (.aload_n 0, 1) := by decide +kernel
theorem dX4_restore_11 : decode cX4_restore 11 = .ok (.invokevirtual 105, 3) := by decide +kernel
theorem dX4_restore_14 : decode cX4_restore 14 = .ok (.iconst 0, 1) := by decide +kernel
theorem dX4_restore_15 : decode cX4_restore 15 = .ok (.istore_n 1, 1) := by decide +kernel
theorem dX4_restore_16 : decode cX4_restore 16 = .ok (.iload_n 1, 1) := by decide +kernel
theorem dX4_restore_17 : decode cX4_restore 17 = .ok (.bipush 109, 2) := by decide +kernel
theorem dX4_restore_19 : decode cX4_restore 19 = .ok (.if_icmp .ge 21, 3) := by decide +kernel
theorem dX4_restore_22 : decode cX4_restore 22 = .ok (.aload_n 0, 1) := by decide +kernel
theorem dX4_restore_23 : decode cX4_restore 23 = .ok (.getfield 7, 3) := by decide +kernel
theorem dX4_restore_26 : decode cX4_restore 26 = .ok (.iload_n 1, 1) := by decide +kernel
theorem dX4_restore_27 : decode cX4_restore 27 = .ok (.aload_n 0, 1) := by decide +kernel
theorem dX4_restore_28 : decode cX4_restore 28 = .ok (.getfield 16, 3) := by decide +kernel
theorem dX4_restore_31 : decode cX4_restore 31 = .ok (.iload_n 1, 1) := by decide +kernel
theorem dX4_restore_32 : decode cX4_restore 32 = .ok (.iaload, 1) := by decide +kernel
theorem dX4_restore_33 : decode cX4_restore 33 = .ok (.iastore, 1) := by decide +kernel
theorem dX4_restore_34 : decode cX4_restore 34 = .ok (.iinc 1 1, 3) := by decide +kernel
theorem dX4_restore_37 : decode cX4_restore 37 = .ok (.goto (-21), 3) := by decide +kernel
theorem dX4_restore_40 : decode cX4_restore 40 = .ok (.aload_n 0, 1) := by decide +kernel
theorem dX4_restore_41 : decode cX4_restore 41 = .ok (.getfield 7, 3) := by decide +kernel
theorem dX4_restore_44 : decode cX4_restore 44 = .ok (.iconst 0, 1) := by decide +kernel
theorem dX4_restore_45 : decode cX4_restore 45 = .ok (.iaload, 1) := by decide +kernel
theorem dX4_restore_46 : decode cX4_restore 46 = .ok (.ireturn, 1) := by decide +kernel
set_option maxRecDepth 20000 in
theorem ggX4_person_X4_isPlace : GoodIn wsX4_person wsX4_isPlace := goodIn_r _ [5, 6, 7, 8, 4, 9, 29, 30, 31, 32, 33, 34, 35, 36, 37, 38, 39, 40, 41, 42, 43, 44] (by decide +kernel) (by decide +kernel)
set_option maxRecDepth 20000 in
theorem gX4_person_X4_isPlace : GoodIn wsX4_person (wsV RX4 91 RX4 yX4_isPlace wsX4_isPlace) := goodIn_app (goodIn_of _ (by decide +kernel)) ggX4_person_X4_isPlace
set_option maxRecDepth 20000 in
theorem ggX4_person_X4_of : GoodIn wsX4_person wsX4_of := goodIn_r _ [13, 6, 14, 15, 4, 16, 29, 30, 31, 32, 33, 34, 35, 36, 37, 38, 39, 40, 41, 42, 43, 44] (by decide +kernel) (by decide +kernel)
set_option maxRecDepth 20000 in
theorem gX4_person_X4_of : GoodIn wsX4_person (wsV RX4 49 RX4 yX4_of wsX4_of) := goodIn_app (goodIn_of _ (by decide +kernel)) ggX4_person_X4_of
set_option maxRecDepth 20000 in
theorem ggX4_person_X4_leastOf : GoodIn wsX4_person wsX4_leastOf := goodIn_r _ [20, 10, 11, 12, 4, 13, 6, 14, 15, 16, 29, 30, 31, 32, 33, 34, 35, 36, 37, 38, 39, 40, 41, 42, 43, 44] (by decide +kernel) (by decide +kernel)
set_option maxRecDepth 20000 in
theorem gX4_person_X4_leastOf : GoodIn wsX4_person (wsV RX4 52 RX4 yX4_leastOf wsX4_leastOf) := goodIn_app (goodIn_of _ (by decide +kernel)) ggX4_person_X4_leastOf
set_option maxRecDepth 20000 in
theorem ggX4_person_X4_greatestOf : GoodIn wsX4_person wsX4_greatestOf := goodIn_r _ [24, 6, 10, 11, 12, 4, 13, 14, 15, 16, 29, 30, 31, 32, 33, 34, 35, 36, 37, 38, 39, 40, 41, 42, 43, 44] (by decide +kernel) (by decide +kernel)
set_option maxRecDepth 20000 in
theorem gX4_person_X4_greatestOf : GoodIn wsX4_person (wsV RX4 56 RX4 yX4_greatestOf wsX4_greatestOf) := goodIn_app (goodIn_of _ (by decide +kernel)) ggX4_person_X4_greatestOf
set_option maxRecDepth 20000 in
theorem ggX4_person_X4_reaching : GoodIn wsX4_person wsX4_reaching := goodIn_r _ [28, 6, 10, 11, 12, 4, 13, 14, 15, 16, 17, 18, 19, 20, 21, 22, 23, 24, 7, 8, 9, 29, 30, 31, 32, 33, 34, 35, 36, 37, 38, 39, 40, 41, 42, 43, 44] (by decide +kernel) (by decide +kernel)
set_option maxRecDepth 20000 in
theorem gX4_person_X4_reaching : GoodIn wsX4_person (wsV RX4 59 RX4 yX4_reaching wsX4_reaching) := goodIn_app (goodIn_of _ (by decide +kernel)) ggX4_person_X4_reaching
set_option maxRecDepth 20000 in
theorem ggX4_person_X4_in : GoodIn wsX4_person wsX4_in := goodIn_r _ [9] (by decide +kernel) (by decide +kernel)
set_option maxRecDepth 20000 in
theorem gX4_person_X4_in : GoodIn wsX4_person (va_wsS RX4 32 yX4_in wsX4_in) := goodIn_app (goodIn_of _ (by decide +kernel)) ggX4_person_X4_in
theorem dX4_person_0 : decode cX4_person 0 = .ok (.aload_n 0, 1) := by decide +kernel
theorem dX4_person_1 : decode cX4_person 1 = .ok (.iload_n 1, 1) := by decide +kernel
theorem dX4_person_2 : decode cX4_person 2 = .ok (.invokevirtual 91, 3) := by decide +kernel
theorem dX4_person_5 : decode cX4_person 5 = .ok (.ifCond .ne 5, 3) := by decide +kernel
theorem dX4_person_8 : decode cX4_person 8 = .ok (.iconst (-1), 1) := by decide +kernel
theorem dX4_person_9 : decode cX4_person 9 = .ok (.ireturn, 1) := by decide +kernel
theorem dX4_person_10 : decode cX4_person 10 = .ok (.iload_n 2, 1) := by decide +kernel
theorem dX4_person_11 : decode cX4_person 11 = .ok (.tableswitch 82 5 8 #[29, 49, 69, 75], 29) := by decide +kernel
theorem dX4_person_40 : decode cX4_person 40 = .ok (.aload_n 0, 1) := by decide +kernel
theorem dX4_person_41 : decode cX4_person 41 = .ok (.iload_n 1, 1) := by decide +kernel
theorem dX4_person_42 : decode cX4_person 42 = .ok (.iconst 4, 1) := by decide +kernel
theorem dX4_person_43 : decode cX4_person 43 = .ok (.invokevirtual 49, 3) := by decide +kernel
theorem dX4_person_46 : decode cX4_person 46 = .ok (.ifCond .ne 8, 3) := by decide +kernel
theorem dX4_person_49 : decode cX4_person 49 = .ok (.bipush (-5), 2) := by decide +kernel
theorem dX4_person_51 : decode cX4_person 51 = .ok (.goto 8, 3) := by decide +kernel
theorem dX4_person_54 : decode cX4_person 54 = .ok (.aload_n 0, 1) := by decide +kernel
theorem dX4_person_55 : decode cX4_person 55 = .ok (.iload_n 1, 1) := by decide +kernel
theorem dX4_person_56 : decode cX4_person 56 = .ok (.invokevirtual 52, 3) := by decide +kernel
theorem dX4_person_59 : decode cX4_person 59 = .ok (.ireturn, 1) := by decide +kernel
theorem dX4_person_60 : decode cX4_person 60 = .ok (.aload_n 0, 1) := by decide +kernel
theorem dX4_person_61 : decode cX4_person 61 = .ok (.iload_n 1, 1) := by decide +kernel
theorem dX4_person_62 : decode cX4_person 62 = .ok (.iconst 4, 1) := by decide +kernel
theorem dX4_person_63 : decode cX4_person 63 = .ok (.invokevirtual 49, 3) := by decide +kernel
theorem dX4_person_66 : decode cX4_person 66 = .ok (.ifCond .ne 8, 3) := by decide +kernel
theorem dX4_person_69 : decode cX4_person 69 = .ok (.bipush (-5), 2) := by decide +kernel
theorem dX4_person_71 : decode cX4_person 71 = .ok (.goto 8, 3) := by decide +kernel
theorem dX4_person_74 : decode cX4_person 74 = .ok (.aload_n 0, 1) := by decide +kernel
theorem dX4_person_75 : decode cX4_person 75 = .ok (.iload_n 1, 1) := by decide +kernel
theorem dX4_person_76 : decode cX4_person 76 = .ok (.invokevirtual 56, 3) := by decide +kernel
theorem dX4_person_79 : decode cX4_person 79 = .ok (.ireturn, 1) := by decide +kernel
theorem dX4_person_80 : decode cX4_person 80 = .ok (.aload_n 0, 1) := by decide +kernel
theorem dX4_person_81 : decode cX4_person 81 = .ok (.iload_n 1, 1) := by decide +kernel
theorem dX4_person_82 : decode cX4_person 82 = .ok (.invokevirtual 59, 3) := by decide +kernel
theorem dX4_person_85 : decode cX4_person 85 = .ok (.ireturn, 1) := by decide +kernel
theorem dX4_person_86 : decode cX4_person 86 = .ok (.aload_n 0, 1) := by decide +kernel
theorem dX4_person_87 : decode cX4_person 87 = .ok (.iload_n 1, 1) := by decide +kernel
theorem dX4_person_88 : decode cX4_person 88 = .ok (.iconst 5, 1) := by decide +kernel
theorem dX4_person_89 : decode cX4_person 89 = .ok (.invokevirtual 49, 3) := by decide +kernel
theorem dX4_person_92 : decode cX4_person 92 = .ok (.ireturn, 1) := by decide +kernel
theorem dX4_person_93 : decode cX4_person 93 = .ok (.iload_n 2, 1) := by decide +kernel
theorem dX4_person_94 : decode cX4_person 94 = .ok (.iconst 0, 1) := by decide +kernel
theorem dX4_person_95 : decode cX4_person 95 = .ok (.iconst 4, 1) := by decide +kernel
theorem dX4_person_96 : decode cX4_person 96 = .ok (.invokestatic 32, 3) := by decide +kernel
theorem dX4_person_99 : decode cX4_person 99 = .ok (.ifCond .eq 12, 3) := by decide +kernel
theorem dX4_person_102 : decode cX4_person 102 = .ok (.aload_n 0, 1) := by decide +kernel
theorem dX4_person_103 : decode cX4_person 103 = .ok (.iload_n 1, 1) := by decide +kernel
theorem dX4_person_104 : decode cX4_person 104 = .ok (.iload_n 2, 1) := by decide +kernel
theorem dX4_person_105 : decode cX4_person 105 = .ok (.invokevirtual 49, 3) := by decide +kernel
theorem dX4_person_108 : decode cX4_person 108 = .ok (.goto 5, 3) := by decide +kernel
theorem dX4_person_111 : decode cX4_person 111 = .ok (.bipush (-2), 2) := by decide +kernel
theorem dX4_person_113 : decode cX4_person 113 = .ok (.ireturn, 1) := by decide +kernel
set_option maxRecDepth 20000 in
theorem ggX4_placeOf_X4_in : GoodIn wsX4_placeOf wsX4_in := goodIn_r _ [5] (by decide +kernel) (by decide +kernel)
set_option maxRecDepth 20000 in
theorem gX4_placeOf_X4_in : GoodIn wsX4_placeOf (va_wsS RX4 32 yX4_in wsX4_in) := goodIn_app (goodIn_of _ (by decide +kernel)) ggX4_placeOf_X4_in
set_option maxRecDepth 20000 in
theorem ggX4_placeOf_X4_of : GoodIn wsX4_placeOf wsX4_of := goodIn_r _ [9, 1, 10, 11, 4, 12, 13, 14, 15, 16, 17, 18, 19, 20, 21, 22, 23, 24, 25, 26, 27, 28] (by decide +kernel) (by decide +kernel)
set_option maxRecDepth 20000 in
theorem gX4_placeOf_X4_of : GoodIn wsX4_placeOf (wsV RX4 49 RX4 yX4_of wsX4_of) := goodIn_app (goodIn_of _ (by decide +kernel)) ggX4_placeOf_X4_of
theorem dX4_placeOf_0 : decode cX4_placeOf 0 = .ok (.iload_n 1, 1) := by decide +kernel
theorem dX4_placeOf_1 : decode cX4_placeOf 1 = .ok (.iconst 0, 1) := by decide +kernel
theorem dX4_placeOf_2 : decode cX4_placeOf 2 = .ok (.sipush 199, 3) := by decide +kernel
theorem dX4_placeOf_5 : decode cX4_placeOf 5 = .ok (.invokestatic 32, 3) := by decide +kernel
theorem dX4_placeOf_8 : decode cX4_placeOf 8 = .ok (.ifCond .ne 6, 3) := by decide +kernel
theorem dX4_placeOf_11 : decode cX4_placeOf 11 = .ok (.bipush (-2), 2) := by decide +kernel
theorem dX4_placeOf_13 : decode cX4_placeOf 13 = .ok (.ireturn, 1) := by decide +kernel
theorem dX4_placeOf_14 : decode cX4_placeOf 14 = .ok (.iconst 0, 1) := by decide +kernel
theorem dX4_placeOf_15 : decode cX4_placeOf 15 = .ok (.istore_n 2, 1) := by decide +kernel
theorem dX4_placeOf_16 : decode cX4_placeOf 16 = .ok (.iload_n 2, 1) := by decide +kernel
theorem dX4_placeOf_17 : decode cX4_placeOf 17 = .ok (.aload_n 0, 1) := by decide +kernel
theorem dX4_placeOf_18 : decode cX4_placeOf 18 = .ok (.getfield 7, 3) := by decide +kernel
theorem dX4_placeOf_21 : decode cX4_placeOf 21 = .ok (.iconst 0, 1) := by decide +kernel
theorem dX4_placeOf_22 : decode cX4_placeOf 22 = .ok (.iaload, 1) := by decide +kernel
theorem dX4_placeOf_23 : decode cX4_placeOf 23 = .ok (.if_icmp .ge 21, 3) := by decide +kernel
theorem dX4_placeOf_26 : decode cX4_placeOf 26 = .ok (.aload_n 0, 1) := by decide +kernel
theorem dX4_placeOf_27 : decode cX4_placeOf 27 = .ok (.iload_n 2, 1) := by decide +kernel
theorem dX4_placeOf_28 : decode cX4_placeOf 28 = .ok (.iconst 0, 1) := by decide +kernel
theorem dX4_placeOf_29 : decode cX4_placeOf 29 = .ok (.invokevirtual 49, 3) := by decide +kernel
theorem dX4_placeOf_32 : decode cX4_placeOf 32 = .ok (.iload_n 1, 1) := by decide +kernel
theorem dX4_placeOf_33 : decode cX4_placeOf 33 = .ok (.if_icmp .ne 5, 3) := by decide +kernel
theorem dX4_placeOf_36 : decode cX4_placeOf 36 = .ok (.iload_n 2, 1) := by decide +kernel
theorem dX4_placeOf_37 : decode cX4_placeOf 37 = .ok (.ireturn, 1) := by decide +kernel
theorem dX4_placeOf_38 : decode cX4_placeOf 38 = .ok (.iinc 2 1, 3) := by decide +kernel
theorem dX4_placeOf_41 : decode cX4_placeOf 41 = .ok (.goto (-25), 3) := by decide +kernel
theorem dX4_placeOf_44 : decode cX4_placeOf 44 = .ok (.bipush (-5), 2) := by decide +kernel
theorem dX4_placeOf_46 : decode cX4_placeOf 46 = .ok (.ireturn, 1) := by decide +kernel
set_option maxRecDepth 20000 in
theorem ggX4_told_X4_isCovered : GoodIn wsX4_told wsX4_isCovered := goodIn_r _ [5, 6, 7, 8, 4, 9, 10, 11, 12, 13, 14, 15, 16, 17, 18, 19, 20, 21, 22, 23, 24, 25, 26, 27, 28, 41, 42, 43, 44, 45, 46, 47, 48, 49, 50, 51, 52, 53, 54, 55, 56] (by decide +kernel) (by decide +kernel)
set_option maxRecDepth 20000 in
theorem gX4_told_X4_isCovered : GoodIn wsX4_told (wsV RX4 62 RX4 yX4_isCovered wsX4_isCovered) := goodIn_app (goodIn_of _ (by decide +kernel)) ggX4_told_X4_isCovered
set_option maxRecDepth 20000 in
theorem ggX4_told_X4_running : GoodIn wsX4_told wsX4_running := goodIn_r _ [32, 10, 11, 12, 13, 4, 14, 15, 16, 17, 18, 19, 20, 21, 22, 23, 24, 25, 41, 42, 43, 44, 45, 46, 47, 48, 49, 50, 51, 52, 53, 54, 55, 56] (by decide +kernel) (by decide +kernel)
set_option maxRecDepth 20000 in
theorem gX4_told_X4_running : GoodIn wsX4_told (wsV RX4 66 RX4 yX4_running wsX4_running) := goodIn_app (goodIn_of _ (by decide +kernel)) ggX4_told_X4_running
set_option maxRecDepth 20000 in
theorem ggX4_told_X4_wetBy : GoodIn wsX4_told wsX4_wetBy := goodIn_r _ [36, 11, 12, 13, 4, 14, 10, 15, 16, 17, 37, 38, 39, 40, 1, 2, 3, 5, 6, 7, 8, 9, 18, 19, 20, 21, 22, 23, 24, 25, 26, 27, 28, 29, 30, 31, 32, 41, 42, 43, 44, 45, 46, 47, 48, 49, 50, 51, 52, 53, 54, 55, 56] (by decide +kernel) (by decide +kernel)
set_option maxRecDepth 20000 in
theorem gX4_told_X4_wetBy : GoodIn wsX4_told (wsV RX4 73 RX4 yX4_wetBy wsX4_wetBy) := goodIn_app (goodIn_of _ (by decide +kernel)) ggX4_told_X4_wetBy
set_option maxRecDepth 20000 in
theorem ggX4_told_X4_of : GoodIn wsX4_told wsX4_of := goodIn_r _ [14, 10, 15, 16, 4, 17, 41, 42, 43, 44, 45, 46, 47, 48, 49, 50, 51, 52, 53, 54, 55, 56] (by decide +kernel) (by decide +kernel)
set_option maxRecDepth 20000 in
theorem gX4_told_X4_of : GoodIn wsX4_told (wsV RX4 49 RX4 yX4_of wsX4_of) := goodIn_app (goodIn_of _ (by decide +kernel)) ggX4_told_X4_of
theorem dX4_told_0 : decode cX4_told 0 = .ok (.iload 4, 2) := by decide +kernel
theorem dX4_told_2 : decode cX4_told 2 = .ok (.tableswitch 55 0 2 #[26, 41, 47], 26) := by decide +kernel
theorem dX4_told_28 : decode cX4_told 28 = .ok (.aload_n 0, 1) := by decide +kernel
theorem dX4_told_29 : decode cX4_told 29 = .ok (.iload_n 1, 1) := by decide +kernel
theorem dX4_told_30 : decode cX4_told 30 = .ok (.iload_n 3, 1) := by decide +kernel
theorem dX4_told_31 : decode cX4_told 31 = .ok (.invokevirtual 62, 3) := by decide +kernel
theorem dX4_told_34 : decode cX4_told 34 = .ok (.ifCond .eq 7, 3) := by decide +kernel
theorem dX4_told_37 : decode cX4_told 37 = .ok (.iconst 1, 1) := by decide +kernel
theorem dX4_told_38 : decode cX4_told 38 = .ok (.goto 4, 3) := by decide +kernel
theorem dX4_told_41 : decode cX4_told 41 = .ok (.iconst 0, 1) := by decide +kernel
theorem dX4_told_42 : decode cX4_told 42 = .ok (.ireturn, 1) := by decide +kernel
theorem dX4_told_43 : decode cX4_told 43 = .ok (.aload_n 0, 1) := by decide +kernel
theorem dX4_told_44 : decode cX4_told 44 = .ok (.iload_n 1, 1) := by decide +kernel
theorem dX4_told_45 : decode cX4_told 45 = .ok (.invokevirtual 66, 3) := by decide +kernel
theorem dX4_told_48 : decode cX4_told 48 = .ok (.ireturn, 1) := by decide +kernel
theorem dX4_told_49 : decode cX4_told 49 = .ok (.aload_n 0, 1) := by decide +kernel
theorem dX4_told_50 : decode cX4_told 50 = .ok (.iload_n 1, 1) := by decide +kernel
theorem dX4_told_51 : decode cX4_told 51 = .ok (.iload_n 2, 1) := by decide +kernel
theorem dX4_told_52 : decode cX4_told 52 = .ok (.iload_n 3, 1) := by decide +kernel
theorem dX4_told_53 : decode cX4_told 53 = .ok (.invokevirtual 73, 3) := by decide +kernel
theorem dX4_told_56 : decode cX4_told 56 = .ok (.ireturn, 1) := by decide +kernel
theorem dX4_told_57 : decode cX4_told 57 = .ok (.aload_n 0, 1) := by decide +kernel
theorem dX4_told_58 : decode cX4_told 58 = .ok (.iload_n 1, 1) := by decide +kernel
theorem dX4_told_59 : decode cX4_told 59 = .ok (.iload_n 2, 1) := by decide +kernel
theorem dX4_told_60 : decode cX4_told 60 = .ok (.iload_n 3, 1) := by decide +kernel
theorem dX4_told_61 : decode cX4_told 61 = .ok (.invokevirtual 73, 3) := by decide +kernel
theorem dX4_told_64 : decode cX4_told 64 = .ok (.aload_n 0, 1) := by decide +kernel
theorem dX4_told_65 : decode cX4_told 65 = .ok (.iload_n 1, 1) := by decide +kernel
theorem dX4_told_66 : decode cX4_told 66 = .ok (.iconst 2, 1) := by decide +kernel
theorem dX4_told_67 : decode cX4_told 67 = .ok (.invokevirtual 49, 3) := by decide +kernel
theorem dX4_told_70 : decode cX4_told 70 = .ok (.if_icmp .le 7, 3) := by decide +kernel
theorem dX4_told_73 : decode cX4_told 73 = .ok (.iconst 1, 1) := by decide +kernel
theorem dX4_told_74 : decode cX4_told 74 = .ok (.goto 4, 3) := by decide +kernel
theorem dX4_told_77 : decode cX4_told 77 = .ok (.iconst 0, 1) := by decide +kernel
theorem dX4_told_78 : decode cX4_told 78 = .ok (.ireturn, 1) := by decide +kernel
set_option maxRecDepth 20000 in
theorem ggX4_ifGust_X4_isPlace : GoodIn wsX4_ifGust wsX4_isPlace := goodIn_r _ [5, 6, 7, 8, 4, 9, 52, 53, 54, 55, 56, 57, 58, 59, 60, 61, 62, 63, 64, 65, 66, 67] (by decide +kernel) (by decide +kernel)
set_option maxRecDepth 20000 in
theorem gX4_ifGust_X4_isPlace : GoodIn wsX4_ifGust (wsV RX4 91 RX4 yX4_isPlace wsX4_isPlace) := goodIn_app (goodIn_of _ (by decide +kernel)) ggX4_ifGust_X4_isPlace
set_option maxRecDepth 20000 in
theorem ggX4_ifGust_X4_isGust : GoodIn wsX4_ifGust wsX4_isGust := goodIn_r _ [12, 7, 8, 4, 9] (by decide +kernel) (by decide +kernel)
set_option maxRecDepth 20000 in
theorem gX4_ifGust_X4_isGust : GoodIn wsX4_ifGust (va_wsS RX4 114 yX4_isGust wsX4_isGust) := goodIn_app (goodIn_of _ (by decide +kernel)) ggX4_ifGust_X4_isGust
set_option maxRecDepth 20000 in
theorem ggX4_ifGust_X4_in : GoodIn wsX4_ifGust wsX4_in := goodIn_r _ [9] (by decide +kernel) (by decide +kernel)
set_option maxRecDepth 20000 in
theorem gX4_ifGust_X4_in : GoodIn wsX4_ifGust (va_wsS RX4 32 yX4_in wsX4_in) := goodIn_app (goodIn_of _ (by decide +kernel)) ggX4_ifGust_X4_in
set_option maxRecDepth 20000 in
theorem ggX4_ifGust_X4_told : GoodIn wsX4_ifGust wsX4_told := goodIn_r _ [16, 17, 18, 19, 4, 20, 21, 22, 23, 24, 6, 25, 26, 27, 28, 29, 30, 31, 32, 33, 34, 35, 36, 37, 38, 39, 7, 8, 9, 40, 41, 42, 43, 44, 45, 46, 47, 48, 49, 50, 51, 52, 53, 54, 55, 56, 57, 58, 59, 60, 61, 62, 63, 64, 65, 66, 67] (by decide +kernel) (by decide +kernel)
set_option maxRecDepth 20000 in
theorem gX4_ifGust_X4_told : GoodIn wsX4_ifGust (wsV RX4 170 RX4 yX4_told wsX4_told) := goodIn_app (goodIn_of _ (by decide +kernel)) ggX4_ifGust_X4_told
theorem dX4_ifGust_0 : decode cX4_ifGust 0 = .ok (.aload_n 0, 1) := by decide +kernel
theorem dX4_ifGust_1 : decode cX4_ifGust 1 = .ok (.iload_n 1, 1) := by decide +kernel
theorem dX4_ifGust_2 : decode cX4_ifGust 2 = .ok (.invokevirtual 91, 3) := by decide +kernel
theorem dX4_ifGust_5 : decode cX4_ifGust 5 = .ok (.ifCond .ne 7, 3) := by decide +kernel
theorem dX4_ifGust_8 : decode cX4_ifGust 8 = .ok (.iconst (-1), 1) := by decide +kernel
theorem dX4_ifGust_9 : decode cX4_ifGust 9 = .ok (.goto 35, 3) := by decide +kernel
theorem dX4_ifGust_12 : decode cX4_ifGust 12 = .ok (.iload_n 2, 1) := by decide +kernel
theorem dX4_ifGust_13 : decode cX4_ifGust 13 = .ok (.iload_n 3, 1) := by decide +kernel
theorem dX4_ifGust_14 : decode cX4_ifGust 14 = .ok (.invokestatic 114, 3) := by decide +kernel
theorem dX4_ifGust_17 : decode cX4_ifGust 17 = .ok (.ifCond .eq 25, 3) := by decide +kernel
theorem dX4_ifGust_20 : decode cX4_ifGust 20 = .ok (.iload 4, 2) := by decide +kernel
theorem dX4_ifGust_22 : decode cX4_ifGust 22 = .ok (.iconst 0, 1) := by decide +kernel
theorem dX4_ifGust_23 : decode cX4_ifGust 23 = .ok (.iconst 3, 1) := by decide +kernel
theorem dX4_ifGust_24 : decode cX4_ifGust 24 = .ok (.invokestatic 32, 3) := by decide +kernel
theorem dX4_ifGust_27 : decode cX4_ifGust 27 = .ok (.ifCond .eq 15, 3) := by decide +kernel
theorem dX4_ifGust_30 : decode cX4_ifGust 30 = .ok (.aload_n 0, 1) := by decide +kernel
theorem dX4_ifGust_31 : decode cX4_ifGust 31 = .ok (.iload_n 1, 1) := by decide +kernel
theorem dX4_ifGust_32 : decode cX4_ifGust 32 = .ok (.iload_n 2, 1) := by decide +kernel
theorem dX4_ifGust_33 : decode cX4_ifGust 33 = .ok (.iload_n 3, 1) := by decide +kernel
theorem dX4_ifGust_34 : decode cX4_ifGust 34 = .ok (.iload 4, 2) := by decide +kernel
theorem dX4_ifGust_36 : decode cX4_ifGust 36 = .ok (.invokevirtual 170, 3) := by decide +kernel
theorem dX4_ifGust_39 : decode cX4_ifGust 39 = .ok (.goto 5, 3) := by decide +kernel
theorem dX4_ifGust_42 : decode cX4_ifGust 42 = .ok (.bipush (-2), 2) := by decide +kernel
theorem dX4_ifGust_44 : decode cX4_ifGust 44 = .ok (.ireturn, 1) := by decide +kernel
set_option maxRecDepth 20000 in
theorem ggX4_reason_X4_arePair : GoodIn wsX4_reason wsX4_arePair := goodIn_r _ [5, 6, 7, 8, 4, 9, 10, 11, 12, 13, 25, 26, 27, 28, 29, 30, 31, 32, 33, 34, 35, 36, 37, 38, 39, 40] (by decide +kernel) (by decide +kernel)
set_option maxRecDepth 20000 in
theorem gX4_reason_X4_arePair : GoodIn wsX4_reason (wsV RX4 95 RX4 yX4_arePair wsX4_arePair) := goodIn_app (goodIn_of _ (by decide +kernel)) ggX4_reason_X4_arePair
set_option maxRecDepth 20000 in
theorem ggX4_reason_X4_why : GoodIn wsX4_reason wsX4_why := goodIn_r _ [17, 18, 19, 20, 4, 21, 10, 22, 23, 24, 25, 26, 27, 28, 29, 30, 31, 32, 33, 34, 35, 36, 37, 38, 39, 40] (by decide +kernel) (by decide +kernel)
set_option maxRecDepth 20000 in
theorem gX4_reason_X4_why : GoodIn wsX4_reason (wsV RX4 98 RX4 yX4_why wsX4_why) := goodIn_app (goodIn_of _ (by decide +kernel)) ggX4_reason_X4_why
theorem dX4_reason_0 : decode cX4_reason 0 = .ok (.aload_n 0, 1) := by decide +kernel
theorem dX4_reason_1 : decode cX4_reason 1 = .ok (.iload_n 1, 1) := by decide +kernel
theorem dX4_reason_2 : decode cX4_reason 2 = .ok (.invokevirtual 95, 3) := by decide +kernel
theorem dX4_reason_5 : decode cX4_reason 5 = .ok (.ifCond .eq 11, 3) := by decide +kernel
theorem dX4_reason_8 : decode cX4_reason 8 = .ok (.aload_n 0, 1) := by decide +kernel
theorem dX4_reason_9 : decode cX4_reason 9 = .ok (.iload_n 1, 1) := by decide +kernel
theorem dX4_reason_10 : decode cX4_reason 10 = .ok (.invokevirtual 98, 3) := by decide +kernel
theorem dX4_reason_13 : decode cX4_reason 13 = .ok (.goto 4, 3) := by decide +kernel
theorem dX4_reason_16 : decode cX4_reason 16 = .ok (.iconst (-1), 1) := by decide +kernel
theorem dX4_reason_17 : decode cX4_reason 17 = .ok (.ireturn, 1) := by decide +kernel
set_option maxRecDepth 20000 in
theorem ggX4_allWetBy_X4_wetBy : GoodIn wsX4_allWetBy wsX4_wetBy := goodIn_r _ [6, 7, 8, 9, 5, 10, 1, 11, 12, 13, 14, 15, 16, 17, 18, 19, 20, 21, 22, 23, 24, 25, 26, 27, 28, 29, 30, 31, 32, 33, 34, 35, 36, 37, 38, 39, 40, 41, 42, 43, 44, 45, 46, 47, 48, 49, 50, 51, 52, 53, 54, 55, 56] (by decide +kernel) (by decide +kernel)
set_option maxRecDepth 20000 in
theorem gX4_allWetBy_X4_wetBy : GoodIn wsX4_allWetBy (wsV RX4 73 RX4 yX4_wetBy wsX4_wetBy) := goodIn_app (goodIn_of _ (by decide +kernel)) ggX4_allWetBy_X4_wetBy
theorem dX4_allWetBy_0 : decode cX4_allWetBy 0 = .ok (.iconst 0, 1) := by decide +kernel
theorem dX4_allWetBy_1 : decode cX4_allWetBy 1 = .ok (.istore_n 3, 1) := by decide +kernel
theorem dX4_allWetBy_2 : decode cX4_allWetBy 2 = .ok (.iconst 0, 1) := by decide +kernel
theorem dX4_allWetBy_3 : decode cX4_allWetBy 3 = .ok (.istore 4, 2) := by decide +kernel
theorem dX4_allWetBy_5 : decode cX4_allWetBy 5 = .ok (.iload 4, 2) := by decide +kernel
theorem dX4_allWetBy_7 : decode cX4_allWetBy 7 = .ok (.aload_n 0, 1) := by decide +kernel
theorem dX4_allWetBy_8 : decode cX4_allWetBy 8 = .ok (.getfield 7, 3) := by decide +kernel
theorem dX4_allWetBy_11 : decode cX4_allWetBy 11 = .ok (.iconst 0, 1) := by decide +kernel
theorem dX4_allWetBy_12 : decode cX4_allWetBy 12 = .ok (.iaload, 1) := by decide +kernel
theorem dX4_allWetBy_13 : decode cX4_allWetBy 13 = .ok (.if_icmp .ge 20, 3) := by decide +kernel
theorem dX4_allWetBy_16 : decode cX4_allWetBy 16 = .ok (.iload_n 3, 1) := by decide +kernel
theorem dX4_allWetBy_17 : decode cX4_allWetBy 17 = .ok (.aload_n 0, 1) := by decide +kernel
theorem dX4_allWetBy_18 : decode cX4_allWetBy 18 = .ok (.iload 4, 2) := by decide +kernel
theorem dX4_allWetBy_20 : decode cX4_allWetBy 20 = .ok (.iload_n 1, 1) := by decide +kernel
theorem dX4_allWetBy_21 : decode cX4_allWetBy 21 = .ok (.iload_n 2, 1) := by decide +kernel
theorem dX4_allWetBy_22 : decode cX4_allWetBy 22 = .ok (.invokevirtual 73, 3) := by decide +kernel
theorem dX4_allWetBy_25 : decode cX4_allWetBy 25 = .ok (.iadd, 1) := by decide +kernel
theorem dX4_allWetBy_26 : decode cX4_allWetBy 26 = .ok (.istore_n 3, 1) := by decide +kernel
theorem dX4_allWetBy_27 : decode cX4_allWetBy 27 = .ok (.iinc 4 1, 3) := by decide +kernel
theorem dX4_allWetBy_30 : decode cX4_allWetBy 30 = .ok (.goto (-25), 3) := by decide +kernel
theorem dX4_allWetBy_33 : decode cX4_allWetBy 33 = .ok (.iload_n 3, 1) := by decide +kernel
theorem dX4_allWetBy_34 : decode cX4_allWetBy 34 = .ok (.ireturn, 1) := by decide +kernel
set_option maxRecDepth 20000 in
theorem ggX4_bestSwap_X4_isGust : GoodIn wsX4_bestSwap wsX4_isGust := goodIn_r _ [5, 6, 7, 4, 8] (by decide +kernel) (by decide +kernel)
set_option maxRecDepth 20000 in
theorem gX4_bestSwap_X4_isGust : GoodIn wsX4_bestSwap (va_wsS RX4 114 yX4_isGust wsX4_isGust) := goodIn_app (goodIn_of _ (by decide +kernel)) ggX4_bestSwap_X4_isGust
set_option maxRecDepth 20000 in
theorem ggX4_bestSwap_X4_allWetBy : GoodIn wsX4_bestSwap wsX4_allWetBy := goodIn_r _ [12, 1, 13, 14, 15, 4, 16, 17, 18, 19, 20, 21, 22, 23, 24, 25, 26, 27, 28, 29, 30, 31, 32, 33, 34, 35, 36, 37, 38, 39, 40, 41, 42, 43, 6, 7, 8, 44, 45, 46, 47, 56, 57, 58, 59, 60, 61, 62, 63, 64, 65, 66, 67, 68, 69, 70, 71] (by decide +kernel) (by decide +kernel)
set_option maxRecDepth 20000 in
theorem gX4_bestSwap_X4_allWetBy : GoodIn wsX4_bestSwap (wsV RX4 174 RX4 yX4_allWetBy wsX4_allWetBy) := goodIn_app (goodIn_of _ (by decide +kernel)) ggX4_bestSwap_X4_allWetBy
set_option maxRecDepth 20000 in
theorem ggX4_bestSwap_X4_why : GoodIn wsX4_bestSwap wsX4_why := goodIn_r _ [51, 17, 18, 19, 4, 20, 1, 21, 22, 23, 56, 57, 58, 59, 60, 61, 62, 63, 64, 65, 66, 67, 68, 69, 70, 71] (by decide +kernel) (by decide +kernel)
set_option maxRecDepth 20000 in
theorem gX4_bestSwap_X4_why : GoodIn wsX4_bestSwap (wsV RX4 98 RX4 yX4_why wsX4_why) := goodIn_app (goodIn_of _ (by decide +kernel)) ggX4_bestSwap_X4_why
set_option maxRecDepth 20000 in
theorem ggX4_bestSwap_X4_exchange : GoodIn wsX4_bestSwap wsX4_exchange := goodIn_r _ [55, 1, 17, 18, 19, 4, 20, 21, 22, 23, 56, 57, 58, 59, 60, 61, 62, 63, 64, 65, 66, 67, 68, 69, 70, 71] (by decide +kernel) (by decide +kernel)
set_option maxRecDepth 20000 in
theorem gX4_bestSwap_X4_exchange : GoodIn wsX4_bestSwap (wsV RX4 101 RX4 yX4_exchange wsX4_exchange) := goodIn_app (goodIn_of _ (by decide +kernel)) ggX4_bestSwap_X4_exchange
theorem dX4_bestSwap_0 : decode cX4_bestSwap 0 = .ok (.iload_n 1, 1) := by decide +kernel
theorem dX4_bestSwap_1 : decode cX4_bestSwap 1 = .ok (.iload_n 2, 1) := by decide +kernel
theorem dX4_bestSwap_2 : decode cX4_bestSwap 2 = .ok (.invokestatic 114, 3) := by decide +kernel
theorem dX4_bestSwap_5 : decode cX4_bestSwap 5 = .ok (.ifCond .ne 6, 3) := by decide +kernel
theorem dX4_bestSwap_8 : decode cX4_bestSwap 8 = .ok (.bipush (-2), 2) := by decide +kernel
theorem dX4_bestSwap_10 : decode cX4_bestSwap 10 = .ok (.ireturn, 1) := by decide +kernel
theorem dX4_bestSwap_11 : decode cX4_bestSwap 11 = .ok (.bipush (-5), 2) := by decide +kernel
theorem dX4_bestSwap_13 : decode cX4_bestSwap 13 = .ok (.istore_n 3, 1) := by decide +kernel
theorem dX4_bestSwap_14 : decode cX4_bestSwap 14 = .ok (.aload_n 0, 1) := by decide +kernel
theorem dX4_bestSwap_15 : decode cX4_bestSwap 15 = .ok (.iload_n 1, 1) := by decide +kernel
theorem dX4_bestSwap_16 : decode cX4_bestSwap 16 = .ok (.iload_n 2, 1) := by decide +kernel
theorem dX4_bestSwap_17 : decode cX4_bestSwap 17 = .ok (.invokevirtual 174, 3) := by decide +kernel
theorem dX4_bestSwap_20 : decode cX4_bestSwap 20 = .ok (.istore 4, 2) := by decide +kernel
theorem dX4_bestSwap_22 : decode cX4_bestSwap 22 = .ok (.iconst 0, 1) := by decide +kernel
theorem dX4_bestSwap_23 : decode cX4_bestSwap 23 = .ok (.istore 5, 2) := by decide +kernel
theorem dX4_bestSwap_25 : decode cX4_bestSwap 25 = .ok (.iload 5, 2) := by decide +kernel
theorem dX4_bestSwap_27 : decode cX4_bestSwap 27 = .ok (.iconst 1, 1) := by decide +kernel
theorem dX4_bestSwap_28 : decode cX4_bestSwap 28 = .ok (.iadd, 1) := by decide +kernel
theorem dX4_bestSwap_29 : decode cX4_bestSwap 29 = .ok (.aload_n 0, 1) := by decide +kernel
theorem dX4_bestSwap_30 : decode cX4_bestSwap 30 = .ok (.getfield 7, 3) := by decide +kernel
theorem dX4_bestSwap_33 : decode cX4_bestSwap 33 = .ok (.iconst 0, 1) := by decide +kernel
theorem dX4_bestSwap_34 : decode cX4_bestSwap 34 = .ok (.iaload, 1) := by decide +kernel
theorem dX4_bestSwap_35 : decode cX4_bestSwap 35 = .ok (.if_icmp .ge 70, 3) := by decide +kernel
theorem dX4_bestSwap_38 : decode cX4_bestSwap 38 = .ok (.aload_n 0, 1) := by decide +kernel
theorem dX4_bestSwap_39 : decode cX4_bestSwap 39 = .ok (.iload 5, 2) := by decide +kernel
theorem dX4_bestSwap_41 : decode cX4_bestSwap 41 = .ok (.invokevirtual 98, 3) := by decide +kernel
theorem dX4_bestSwap_44 : decode cX4_bestSwap 44 = .ok (.ifCond .ne 55, 3) := by decide +kernel
theorem dX4_bestSwap_47 : decode cX4_bestSwap 47 = .ok (.aload_n 0, 1) := by decide +kernel
theorem dX4_bestSwap_48 : decode cX4_bestSwap 48 = .ok (.iload 5, 2) := by decide +kernel
theorem dX4_bestSwap_50 : decode cX4_bestSwap 50 = .ok (.iconst 4, 1) := by decide +kernel
theorem dX4_bestSwap_51 : decode cX4_bestSwap 51 = .ok (.invokevirtual 101, 3) := by decide +kernel
theorem dX4_bestSwap_54 : decode cX4_bestSwap 54 = .ok (.aload_n 0, 1) := by decide +kernel
theorem dX4_bestSwap_55 : decode cX4_bestSwap 55 = .ok (.iload_n 1, 1) := by decide +kernel
theorem dX4_bestSwap_56 : decode cX4_bestSwap 56 = .ok (.iload_n 2, 1) := by decide +kernel
theorem dX4_bestSwap_57 : decode cX4_bestSwap 57 = .ok (.invokevirtual 174, 3) := by decide +kernel
theorem dX4_bestSwap_60 : decode cX4_bestSwap 60 = .ok (.istore 6, 2) := by decide +kernel
theorem dX4_bestSwap_62 : decode cX4_bestSwap 62 = .ok (.aload_n 0, 1) := by decide +kernel
theorem dX4_bestSwap_63 : decode cX4_bestSwap 63 = .ok (.iload 5, 2) := by decide +kernel
theorem dX4_bestSwap_65 : decode cX4_bestSwap 65 = .ok (.iconst 4, 1) := by decide +kernel
theorem dX4_bestSwap_66 : decode cX4_bestSwap 66 = .ok (.invokevirtual 101, 3) := by decide +kernel
theorem dX4_bestSwap_69 : decode cX4_bestSwap 69 = .ok (.iload 6, 2) := by decide +kernel
theorem dX4_bestSwap_71 : decode cX4_bestSwap 71 = .ok (.iload 4, 2) := by decide +kernel
theorem dX4_bestSwap_73 : decode cX4_bestSwap 73 = .ok (.if_icmp .ge 8, 3) := by decide +kernel
theorem dX4_bestSwap_76 : decode cX4_bestSwap 76 = .ok (.iload 5, 2) := by decide +kernel
theorem dX4_bestSwap_78 : decode cX4_bestSwap 78 = .ok (.goto 4, 3) := by decide +kernel
theorem dX4_bestSwap_81 : decode cX4_bestSwap 81 = .ok (.iload_n 3, 1) := by decide +kernel
theorem dX4_bestSwap_82 : decode cX4_bestSwap 82 = .ok (.istore_n 3, 1) := by decide +kernel
theorem dX4_bestSwap_83 : decode cX4_bestSwap 83 = .ok (.iload 6, 2) := by decide +kernel
theorem dX4_bestSwap_85 : decode cX4_bestSwap 85 = .ok (.iload 4, 2) := by decide +kernel
theorem dX4_bestSwap_87 : decode cX4_bestSwap 87 = .ok (.if_icmp .ge 8, 3) := by decide +kernel
theorem dX4_bestSwap_90 : decode cX4_bestSwap 90 = .ok (.iload 6, 2) := by decide +kernel
theorem dX4_bestSwap_92 : decode cX4_bestSwap 92 = .ok (.goto 5, 3) := by decide +kernel
theorem dX4_bestSwap_95 : decode cX4_bestSwap 95 = .ok (.iload 4, 2) := by decide +kernel
theorem dX4_bestSwap_97 : decode cX4_bestSwap 97 = .ok (.istore 4, 2) := by decide +kernel
theorem dX4_bestSwap_99 : decode cX4_bestSwap 99 = .ok (.iinc 5 1, 3) := by decide +kernel
theorem dX4_bestSwap_102 : decode cX4_bestSwap 102 = .ok (.goto (-77), 3) := by decide +kernel
theorem dX4_bestSwap_105 : decode cX4_bestSwap 105 = .ok (.iload_n 3, 1) := by decide +kernel
theorem dX4_bestSwap_106 : decode cX4_bestSwap 106 = .ok (.ireturn, 1) := by decide +kernel
set_option maxRecDepth 20000 in
theorem ggX4_payer_X4_in : GoodIn wsX4_payer wsX4_in := goodIn_r _ [5] (by decide +kernel) (by decide +kernel)
set_option maxRecDepth 20000 in
theorem gX4_payer_X4_in : GoodIn wsX4_payer (va_wsS RX4 32 yX4_in wsX4_in) := goodIn_app (goodIn_of _ (by decide +kernel)) ggX4_payer_X4_in
set_option maxRecDepth 20000 in
theorem ggX4_payer_X4_driest : GoodIn wsX4_payer wsX4_driest := goodIn_r _ [9, 10, 11, 12, 4, 13, 1, 14, 15, 16, 17, 18, 19, 20, 25, 26, 27, 28, 29, 30, 31, 32, 33, 34, 35, 36, 37, 38, 39, 40] (by decide +kernel) (by decide +kernel)
set_option maxRecDepth 20000 in
theorem gX4_payer_X4_driest : GoodIn wsX4_payer (wsV RX4 85 RX4 yX4_driest wsX4_driest) := goodIn_app (goodIn_of _ (by decide +kernel)) ggX4_payer_X4_driest
set_option maxRecDepth 20000 in
theorem ggX4_payer_X4_coinsPaid : GoodIn wsX4_payer wsX4_coinsPaid := goodIn_r _ [24, 1, 10, 11, 12, 4, 13, 6, 7, 8, 9, 14, 15, 16, 17, 18, 19, 20, 25, 26, 27, 28, 29, 30, 31, 32, 33, 34, 35, 36, 37, 38, 39, 40] (by decide +kernel) (by decide +kernel)
set_option maxRecDepth 20000 in
theorem gX4_payer_X4_coinsPaid : GoodIn wsX4_payer (wsV RX4 88 RX4 yX4_coinsPaid wsX4_coinsPaid) := goodIn_app (goodIn_of _ (by decide +kernel)) ggX4_payer_X4_coinsPaid
theorem dX4_payer_0 : decode cX4_payer 0 = .ok (.iload_n 1, 1) := by decide +kernel
theorem dX4_payer_1 : decode cX4_payer 1 = .ok (.iconst 0, 1) := by decide +kernel
theorem dX4_payer_2 : decode cX4_payer 2 = .ok (.iconst 1, 1) := by decide +kernel
theorem dX4_payer_3 : decode cX4_payer 3 = .ok (.invokestatic 32, 3) := by decide +kernel
theorem dX4_payer_6 : decode cX4_payer 6 = .ok (.ifCond .ne 6, 3) := by decide +kernel
theorem dX4_payer_9 : decode cX4_payer 9 = .ok (.bipush (-2), 2) := by decide +kernel
theorem dX4_payer_11 : decode cX4_payer 11 = .ok (.ireturn, 1) := by decide +kernel
theorem dX4_payer_12 : decode cX4_payer 12 = .ok (.aload_n 0, 1) := by decide +kernel
theorem dX4_payer_13 : decode cX4_payer 13 = .ok (.getfield 7, 3) := by decide +kernel
theorem dX4_payer_16 : decode cX4_payer 16 = .ok (.iconst 0, 1) := by decide +kernel
theorem dX4_payer_17 : decode cX4_payer 17 = .ok (.iaload, 1) := by decide +kernel
theorem dX4_payer_18 : decode cX4_payer 18 = .ok (.ifCond .ne 8, 3) := by decide +kernel
theorem dX4_payer_21 : decode cX4_payer 21 = .ok (.bipush (-5), 2) := by decide +kernel
theorem dX4_payer_23 : decode cX4_payer 23 = .ok (.goto 18, 3) := by decide +kernel
theorem dX4_payer_26 : decode cX4_payer 26 = .ok (.iload_n 1, 1) := by decide +kernel
theorem dX4_payer_27 : decode cX4_payer 27 = .ok (.ifCond .ne 10, 3) := by decide +kernel
theorem dX4_payer_30 : decode cX4_payer 30 = .ok (.aload_n 0, 1) := by decide +kernel
theorem dX4_payer_31 : decode cX4_payer 31 = .ok (.invokevirtual 85, 3) := by decide +kernel
theorem dX4_payer_34 : decode cX4_payer 34 = .ok (.goto 7, 3) := by decide +kernel
theorem dX4_payer_37 : decode cX4_payer 37 = .ok (.aload_n 0, 1) := by decide +kernel
theorem dX4_payer_38 : decode cX4_payer 38 = .ok (.invokevirtual 88, 3) := by decide +kernel
theorem dX4_payer_41 : decode cX4_payer 41 = .ok (.ireturn, 1) := by decide +kernel
set_option maxRecDepth 20000 in
theorem ggX4_bears_X4_isPlace : GoodIn wsX4_bears wsX4_isPlace := goodIn_r _ [5, 6, 7, 8, 4, 9, 41, 42, 43, 44, 45, 46, 47, 48, 49, 50, 51, 52, 53, 54, 55, 56] (by decide +kernel) (by decide +kernel)
set_option maxRecDepth 20000 in
theorem gX4_bears_X4_isPlace : GoodIn wsX4_bears (wsV RX4 91 RX4 yX4_isPlace wsX4_isPlace) := goodIn_app (goodIn_of _ (by decide +kernel)) ggX4_bears_X4_isPlace
set_option maxRecDepth 20000 in
theorem ggX4_bears_X4_in : GoodIn wsX4_bears wsX4_in := goodIn_r _ [9] (by decide +kernel) (by decide +kernel)
set_option maxRecDepth 20000 in
theorem gX4_bears_X4_in : GoodIn wsX4_bears (va_wsS RX4 32 yX4_in wsX4_in) := goodIn_app (goodIn_of _ (by decide +kernel)) ggX4_bears_X4_in
set_option maxRecDepth 20000 in
theorem ggX4_bears_X4_wetter : GoodIn wsX4_bears wsX4_wetter := goodIn_r _ [13, 14, 15, 16, 4, 17, 18, 19, 20, 21, 6, 22, 23, 24, 25, 26, 27, 28, 29, 30, 31, 32, 33, 34, 35, 36, 7, 8, 9, 37, 38, 39, 40, 41, 42, 43, 44, 45, 46, 47, 48, 49, 50, 51, 52, 53, 54, 55, 56] (by decide +kernel) (by decide +kernel)
set_option maxRecDepth 20000 in
theorem gX4_bears_X4_wetter : GoodIn wsX4_bears (wsV RX4 69 RX4 yX4_wetter wsX4_wetter) := goodIn_app (goodIn_of _ (by decide +kernel)) ggX4_bears_X4_wetter
set_option maxRecDepth 20000 in
theorem ggX4_bears_X4_of : GoodIn wsX4_bears wsX4_of := goodIn_r _ [25, 6, 26, 27, 4, 28, 41, 42, 43, 44, 45, 46, 47, 48, 49, 50, 51, 52, 53, 54, 55, 56] (by decide +kernel) (by decide +kernel)
set_option maxRecDepth 20000 in
theorem gX4_bears_X4_of : GoodIn wsX4_bears (wsV RX4 49 RX4 yX4_of wsX4_of) := goodIn_app (goodIn_of _ (by decide +kernel)) ggX4_bears_X4_of
theorem dX4_bears_0 : decode cX4_bears 0 = .ok (.aload_n 0, 1) := by decide +kernel
theorem dX4_bears_1 : decode cX4_bears 1 = .ok (.iload_n 1, 1) := by decide +kernel
theorem dX4_bears_2 : decode cX4_bears 2 = .ok (.invokevirtual 91, 3) := by decide +kernel
theorem dX4_bears_5 : decode cX4_bears 5 = .ok (.ifCond .ne 5, 3) := by decide +kernel
theorem dX4_bears_8 : decode cX4_bears 8 = .ok (.iconst (-1), 1) := by decide +kernel
theorem dX4_bears_9 : decode cX4_bears 9 = .ok (.ireturn, 1) := by decide +kernel
theorem dX4_bears_10 : decode cX4_bears 10 = .ok (.iload_n 2, 1) := by decide +kernel
theorem dX4_bears_11 : decode cX4_bears 11 = .ok (.iconst 1, 1) := by decide +kernel
theorem dX4_bears_12 : decode cX4_bears 12 = .ok (.bipush 99, 2) := by decide +kernel
theorem dX4_bears_14 : decode cX4_bears 14 = .ok (.invokestatic 32, 3) := by decide +kernel
theorem dX4_bears_17 : decode cX4_bears 17 = .ok (.ifCond .ne 6, 3) := by decide +kernel
theorem dX4_bears_20 : decode cX4_bears 20 = .ok (.bipush (-2), 2) := by decide +kernel
theorem dX4_bears_22 : decode cX4_bears 22 = .ok (.ireturn, 1) := by decide +kernel
theorem dX4_bears_23 : decode cX4_bears 23 = .ok (.aload_n 0, 1) := by decide +kernel
theorem dX4_bears_24 : decode cX4_bears 24 = .ok (.iload_n 1, 1) := by decide +kernel
theorem dX4_bears_25 : decode cX4_bears 25 = .ok (.iload_n 2, 1) := by decide +kernel
theorem dX4_bears_26 : decode cX4_bears 26 = .ok (.iconst 0, 1) := by decide +kernel
theorem dX4_bears_27 : decode cX4_bears 27 = .ok (.invokevirtual 69, 3) := by decide +kernel
theorem dX4_bears_30 : decode cX4_bears 30 = .ok (.istore_n 3, 1) := by decide +kernel
theorem dX4_bears_31 : decode cX4_bears 31 = .ok (.iload_n 3, 1) := by decide +kernel
theorem dX4_bears_32 : decode cX4_bears 32 = .ok (.ifCond .eq 15, 3) := by decide +kernel
theorem dX4_bears_35 : decode cX4_bears 35 = .ok (.aload_n 0, 1) := by decide +kernel
theorem dX4_bears_36 : decode cX4_bears 36 = .ok (.iload_n 1, 1) := by decide +kernel
theorem dX4_bears_37 : decode cX4_bears 37 = .ok (.iconst 2, 1) := by decide +kernel
theorem dX4_bears_38 : decode cX4_bears 38 = .ok (.invokevirtual 49, 3) := by decide +kernel
theorem dX4_bears_41 : decode cX4_bears 41 = .ok (.sipush 999, 3) := by decide +kernel
theorem dX4_bears_44 : decode cX4_bears 44 = .ok (.if_icmp .ne 6, 3) := by decide +kernel
theorem dX4_bears_47 : decode cX4_bears 47 = .ok (.bipush (-5), 2) := by decide +kernel
theorem dX4_bears_49 : decode cX4_bears 49 = .ok (.ireturn, 1) := by decide +kernel
theorem dX4_bears_50 : decode cX4_bears 50 = .ok (.aload_n 0, 1) := by decide +kernel
theorem dX4_bears_51 : decode cX4_bears 51 = .ok (.iload_n 1, 1) := by decide +kernel
theorem dX4_bears_52 : decode cX4_bears 52 = .ok (.iconst 2, 1) := by decide +kernel
theorem dX4_bears_53 : decode cX4_bears 53 = .ok (.invokevirtual 49, 3) := by decide +kernel
theorem dX4_bears_56 : decode cX4_bears 56 = .ok (.aload_n 0, 1) := by decide +kernel
theorem dX4_bears_57 : decode cX4_bears 57 = .ok (.iload_n 1, 1) := by decide +kernel
theorem dX4_bears_58 : decode cX4_bears 58 = .ok (.iconst 1, 1) := by decide +kernel
theorem dX4_bears_59 : decode cX4_bears 59 = .ok (.invokevirtual 49, 3) := by decide +kernel
theorem dX4_bears_62 : decode cX4_bears 62 = .ok (.isub, 1) := by decide +kernel
theorem dX4_bears_63 : decode cX4_bears 63 = .ok (.iload_n 3, 1) := by decide +kernel
theorem dX4_bears_64 : decode cX4_bears 64 = .ok (.idiv, 1) := by decide +kernel
theorem dX4_bears_65 : decode cX4_bears 65 = .ok (.ireturn, 1) := by decide +kernel
set_option maxRecDepth 20000 in
theorem ggX4_sumWet_X4_of : GoodIn wsX4_sumWet wsX4_of := goodIn_r _ [6, 1, 7, 8, 5, 9, 10, 11, 12, 13, 14, 15, 16, 17, 18, 19, 20, 21, 22, 23, 24, 25] (by decide +kernel) (by decide +kernel)
set_option maxRecDepth 20000 in
theorem gX4_sumWet_X4_of : GoodIn wsX4_sumWet (wsV RX4 49 RX4 yX4_of wsX4_of) := goodIn_app (goodIn_of _ (by decide +kernel)) ggX4_sumWet_X4_of
theorem dX4_sumWet_0 : decode cX4_sumWet 0 = .ok (.iconst 0, 1) := by decide +kernel
theorem dX4_sumWet_1 : decode cX4_sumWet 1 = .ok (.istore_n 1, 1) := by decide +kernel
theorem dX4_sumWet_2 : decode cX4_sumWet 2 = .ok (.iconst 0, 1) := by decide +kernel
theorem dX4_sumWet_3 : decode cX4_sumWet 3 = .ok (.istore_n 2, 1) := by decide +kernel
theorem dX4_sumWet_4 : decode cX4_sumWet 4 = .ok (.iload_n 2, 1) := by decide +kernel
theorem dX4_sumWet_5 : decode cX4_sumWet 5 = .ok (.aload_n 0, 1) := by decide +kernel
theorem dX4_sumWet_6 : decode cX4_sumWet 6 = .ok (.getfield 7, 3) := by decide +kernel
theorem dX4_sumWet_9 : decode cX4_sumWet 9 = .ok (.iconst 0, 1) := by decide +kernel
theorem dX4_sumWet_10 : decode cX4_sumWet 10 = .ok (.iaload, 1) := by decide +kernel
theorem dX4_sumWet_11 : decode cX4_sumWet 11 = .ok (.if_icmp .ge 18, 3) := by decide +kernel
theorem dX4_sumWet_14 : decode cX4_sumWet 14 = .ok (.iload_n 1, 1) := by decide +kernel
theorem dX4_sumWet_15 : decode cX4_sumWet 15 = .ok (.aload_n 0, 1) := by decide +kernel
theorem dX4_sumWet_16 : decode cX4_sumWet 16 = .ok (.iload_n 2, 1) := by decide +kernel
theorem dX4_sumWet_17 : decode cX4_sumWet 17 = .ok (.iconst 1, 1) := by decide +kernel
theorem dX4_sumWet_18 : decode cX4_sumWet 18 = .ok (.invokevirtual 49, 3) := by decide +kernel
theorem dX4_sumWet_21 : decode cX4_sumWet 21 = .ok (.iadd, 1) := by decide +kernel
theorem dX4_sumWet_22 : decode cX4_sumWet 22 = .ok (.istore_n 1, 1) := by decide +kernel
theorem dX4_sumWet_23 : decode cX4_sumWet 23 = .ok (.iinc 2 1, 3) := by decide +kernel
theorem dX4_sumWet_26 : decode cX4_sumWet 26 = .ok (.goto (-22), 3) := by decide +kernel
theorem dX4_sumWet_29 : decode cX4_sumWet 29 = .ok (.iload_n 1, 1) := by decide +kernel
theorem dX4_sumWet_30 : decode cX4_sumWet 30 = .ok (.ireturn, 1) := by decide +kernel
set_option maxRecDepth 20000 in
theorem ggX4_wettest_X4_of : GoodIn wsX4_wettest wsX4_of := goodIn_r _ [6, 1, 7, 8, 5, 9, 10, 11, 12, 13, 14, 15, 16, 17, 18, 19, 20, 21, 22, 23, 24, 25] (by decide +kernel) (by decide +kernel)
set_option maxRecDepth 20000 in
theorem gX4_wettest_X4_of : GoodIn wsX4_wettest (wsV RX4 49 RX4 yX4_of wsX4_of) := goodIn_app (goodIn_of _ (by decide +kernel)) ggX4_wettest_X4_of
theorem dX4_wettest_0 : decode cX4_wettest 0 = .ok (.aload_n 0, 1) := by decide +kernel
theorem dX4_wettest_1 : decode cX4_wettest 1 = .ok (.getfield 7, 3) := by decide +kernel
theorem dX4_wettest_4 : decode cX4_wettest 4 = .ok (.iconst 0, 1) := by decide +kernel
theorem dX4_wettest_5 : decode cX4_wettest 5 = .ok (.iaload, 1) := by decide +kernel
theorem dX4_wettest_6 : decode cX4_wettest 6 = .ok (.ifCond .ne 8, 3) := by decide +kernel
theorem dX4_wettest_9 : decode cX4_wettest 9 = .ok (.bipush (-5), 2) := by decide +kernel
theorem dX4_wettest_11 : decode cX4_wettest 11 = .ok (.goto 4, 3) := by decide +kernel
theorem dX4_wettest_14 : decode cX4_wettest 14 = .ok (.iconst 0, 1) := by decide +kernel
theorem dX4_wettest_15 : decode cX4_wettest 15 = .ok (.istore_n 1, 1) := by decide +kernel
theorem dX4_wettest_16 : decode cX4_wettest 16 = .ok (.iconst 1, 1) := by decide +kernel
theorem dX4_wettest_17 : decode cX4_wettest 17 = .ok (.istore_n 2, 1) := by decide +kernel
theorem dX4_wettest_18 : decode cX4_wettest 18 = .ok (.iload_n 2, 1) := by decide +kernel
theorem dX4_wettest_19 : decode cX4_wettest 19 = .ok (.aload_n 0, 1) := by decide +kernel
theorem dX4_wettest_20 : decode cX4_wettest 20 = .ok (.getfield 7, 3) := by decide +kernel
theorem dX4_wettest_23 : decode cX4_wettest 23 = .ok (.iconst 0, 1) := by decide +kernel
theorem dX4_wettest_24 : decode cX4_wettest 24 = .ok (.iaload, 1) := by decide +kernel
theorem dX4_wettest_25 : decode cX4_wettest 25 = .ok (.if_icmp .ge 30, 3) := by decide +kernel
theorem dX4_wettest_28 : decode cX4_wettest 28 = .ok (.aload_n 0, 1) := by decide +kernel
theorem dX4_wettest_29 : decode cX4_wettest 29 = .ok (.iload_n 2, 1) := by decide +kernel
theorem dX4_wettest_30 : decode cX4_wettest 30 = .ok (.iconst 1, 1) := by decide +kernel
theorem dX4_wettest_31 : decode cX4_wettest 31 = .ok (.invokevirtual 49, 3) := by decide +kernel
theorem dX4_wettest_34 : decode cX4_wettest 34 = .ok (.aload_n 0, 1) := by decide +kernel
theorem dX4_wettest_35 : decode cX4_wettest 35 = .ok (.iload_n 1, 1) := by decide +kernel
theorem dX4_wettest_36 : decode cX4_wettest 36 = .ok (.iconst 1, 1) := by decide +kernel
theorem dX4_wettest_37 : decode cX4_wettest 37 = .ok (.invokevirtual 49, 3) := by decide +kernel
theorem dX4_wettest_40 : decode cX4_wettest 40 = .ok (.if_icmp .le 7, 3) := by decide +kernel
theorem dX4_wettest_43 : decode cX4_wettest 43 = .ok (.iload_n 2, 1) := by decide +kernel
theorem dX4_wettest_44 : decode cX4_wettest 44 = .ok (.goto 4, 3) := by decide +kernel
theorem dX4_wettest_47 : decode cX4_wettest 47 = .ok (.iload_n 1, 1) := by decide +kernel
theorem dX4_wettest_48 : decode cX4_wettest 48 = .ok (.istore_n 1, 1) := by decide +kernel
theorem dX4_wettest_49 : decode cX4_wettest 49 = .ok (.iinc 2 1, 3) := by decide +kernel
theorem dX4_wettest_52 : decode cX4_wettest 52 = .ok (.goto (-34), 3) := by decide +kernel
theorem dX4_wettest_55 : decode cX4_wettest 55 = .ok (.iload_n 1, 1) := by decide +kernel
theorem dX4_wettest_56 : decode cX4_wettest 56 = .ok (.ireturn, 1) := by decide +kernel
set_option maxRecDepth 20000 in
theorem ggX4_unreached_X4_reaching : GoodIn wsX4_unreached wsX4_reaching := goodIn_r _ [6, 1, 7, 8, 9, 5, 10, 11, 12, 13, 14, 15, 16, 17, 18, 19, 20, 21, 22, 23, 24, 25, 26, 27, 28, 29, 30, 31, 32, 33, 34, 35, 36, 37, 38, 39, 40] (by decide +kernel) (by decide +kernel)
set_option maxRecDepth 20000 in
theorem gX4_unreached_X4_reaching : GoodIn wsX4_unreached (wsV RX4 59 RX4 yX4_reaching wsX4_reaching) := goodIn_app (goodIn_of _ (by decide +kernel)) ggX4_unreached_X4_reaching
theorem dX4_unreached_0 : decode cX4_unreached 0 = .ok (.iconst 0, 1) := by decide +kernel
theorem dX4_unreached_1 : decode cX4_unreached 1 = .ok (.istore_n 1, 1) := by decide +kernel
theorem dX4_unreached_2 : decode cX4_unreached 2 = .ok (.iconst 0, 1) := by decide +kernel
theorem dX4_unreached_3 : decode cX4_unreached 3 = .ok (.istore_n 2, 1) := by decide +kernel
theorem dX4_unreached_4 : decode cX4_unreached 4 = .ok (.iload_n 2, 1) := by decide +kernel
theorem dX4_unreached_5 : decode cX4_unreached 5 = .ok (.aload_n 0, 1) := by decide +kernel
theorem dX4_unreached_6 : decode cX4_unreached 6 = .ok (.getfield 7, 3) := by decide +kernel
theorem dX4_unreached_9 : decode cX4_unreached 9 = .ok (.iconst 0, 1) := by decide +kernel
theorem dX4_unreached_10 : decode cX4_unreached 10 = .ok (.iaload, 1) := by decide +kernel
theorem dX4_unreached_11 : decode cX4_unreached 11 = .ok (.if_icmp .ge 25, 3) := by decide +kernel
theorem dX4_unreached_14 : decode cX4_unreached 14 = .ok (.iload_n 1, 1) := by decide +kernel
theorem dX4_unreached_15 : decode cX4_unreached 15 = .ok (.aload_n 0, 1) := by decide +kernel
theorem dX4_unreached_16 : decode cX4_unreached 16 = .ok (.iload_n 2, 1) := by decide +kernel
theorem dX4_unreached_17 : decode cX4_unreached 17 = .ok (.invokevirtual 59, 3) := by decide +kernel
theorem dX4_unreached_20 : decode cX4_unreached 20 = .ok (.ifCond .ne 7, 3) := by decide +kernel
theorem dX4_unreached_23 : decode cX4_unreached 23 = .ok (.iconst 1, 1) := by decide +kernel
theorem dX4_unreached_24 : decode cX4_unreached 24 = .ok (.goto 4, 3) := by decide +kernel
theorem dX4_unreached_27 : decode cX4_unreached 27 = .ok (.iconst 0, 1) := by decide +kernel
theorem dX4_unreached_28 : decode cX4_unreached 28 = .ok (.iadd, 1) := by decide +kernel
theorem dX4_unreached_29 : decode cX4_unreached 29 = .ok (.istore_n 1, 1) := by decide +kernel
theorem dX4_unreached_30 : decode cX4_unreached 30 = .ok (.iinc 2 1, 3) := by decide +kernel
theorem dX4_unreached_33 : decode cX4_unreached 33 = .ok (.goto (-29), 3) := by decide +kernel
theorem dX4_unreached_36 : decode cX4_unreached 36 = .ok (.iload_n 1, 1) := by decide +kernel
theorem dX4_unreached_37 : decode cX4_unreached 37 = .ok (.ireturn, 1) := by decide +kernel
set_option maxRecDepth 20000 in
theorem ggX4_count_X4_in : GoodIn wsX4_count wsX4_in := goodIn_r _ [7] (by decide +kernel) (by decide +kernel)
set_option maxRecDepth 20000 in
theorem gX4_count_X4_in : GoodIn wsX4_count (va_wsS RX4 32 yX4_in wsX4_in) := goodIn_app (goodIn_of _ (by decide +kernel)) ggX4_count_X4_in
set_option maxRecDepth 20000 in
theorem ggX4_count_X4_sumWet : GoodIn wsX4_count wsX4_sumWet := goodIn_r _ [11, 1, 12, 13, 14, 6, 15, 16, 17, 18, 39, 40, 41, 42, 43, 44, 45, 46, 47, 48, 49, 50, 51, 52, 53, 54] (by decide +kernel) (by decide +kernel)
set_option maxRecDepth 20000 in
theorem gX4_count_X4_sumWet : GoodIn wsX4_count (wsV RX4 177 RX4 yX4_sumWet wsX4_sumWet) := goodIn_app (goodIn_of _ (by decide +kernel)) ggX4_count_X4_sumWet
set_option maxRecDepth 20000 in
theorem ggX4_count_X4_wettest : GoodIn wsX4_count wsX4_wettest := goodIn_r _ [22, 1, 12, 13, 14, 6, 15, 16, 17, 18, 39, 40, 41, 42, 43, 44, 45, 46, 47, 48, 49, 50, 51, 52, 53, 54] (by decide +kernel) (by decide +kernel)
set_option maxRecDepth 20000 in
theorem gX4_count_X4_wettest : GoodIn wsX4_count (wsV RX4 180 RX4 yX4_wettest wsX4_wettest) := goodIn_app (goodIn_of _ (by decide +kernel)) ggX4_count_X4_wettest
set_option maxRecDepth 20000 in
theorem ggX4_count_X4_unreached : GoodIn wsX4_count wsX4_unreached := goodIn_r _ [26, 1, 27, 28, 29, 6, 30, 12, 13, 14, 15, 16, 17, 18, 31, 32, 33, 34, 35, 36, 37, 38, 4, 5, 7, 39, 40, 41, 42, 43, 44, 45, 46, 47, 48, 49, 50, 51, 52, 53, 54] (by decide +kernel) (by decide +kernel)
set_option maxRecDepth 20000 in
theorem gX4_count_X4_unreached : GoodIn wsX4_count (wsV RX4 183 RX4 yX4_unreached wsX4_unreached) := goodIn_app (goodIn_of _ (by decide +kernel)) ggX4_count_X4_unreached
theorem dX4_count_0 : decode cX4_count 0 = .ok (.iload_n 1, 1) := by decide +kernel
theorem dX4_count_1 : decode cX4_count 1 = .ok (.iconst 0, 1) := by decide +kernel
theorem dX4_count_2 : decode cX4_count 2 = .ok (.bipush 9, 2) := by decide +kernel
theorem dX4_count_4 : decode cX4_count 4 = .ok (.invokestatic 32, 3) := by decide +kernel
theorem dX4_count_7 : decode cX4_count 7 = .ok (.ifCond .eq 10, 3) := by decide +kernel
theorem dX4_count_10 : decode cX4_count 10 = .ok (.aload_n 0, 1) := by decide +kernel
theorem dX4_count_11 : decode cX4_count 11 = .ok (.getfield 7, 3) := by decide +kernel
theorem dX4_count_14 : decode cX4_count 14 = .ok (.iload_n 1, 1) := by decide +kernel
theorem dX4_count_15 : decode cX4_count 15 = .ok (.iaload, 1) := by decide +kernel
theorem dX4_count_16 : decode cX4_count 16 = .ok (.ireturn, 1) := by decide +kernel
theorem dX4_count_17 : decode cX4_count 17 = .ok (.iload_n 1, 1) := by decide +kernel
theorem dX4_count_18 : decode cX4_count 18 = .ok (.tableswitch 84 10 17 #[46, 51, 56, 61, 61, 61, 74, 79], 46) := by decide +kernel
theorem dX4_count_64 : decode cX4_count 64 = .ok (.aload_n 0, 1) := by decide +kernel
theorem dX4_count_65 : decode cX4_count 65 = .ok (.invokevirtual 177, 3) := by decide +kernel
theorem dX4_count_68 : decode cX4_count 68 = .ok (.ireturn, 1) := by decide +kernel
theorem dX4_count_69 : decode cX4_count 69 = .ok (.aload_n 0, 1) := by decide +kernel
theorem dX4_count_70 : decode cX4_count 70 = .ok (.invokevirtual 180, 3) := by decide +kernel
theorem dX4_count_73 : decode cX4_count 73 = .ok (.ireturn, 1) := by decide +kernel
theorem dX4_count_74 : decode cX4_count 74 = .ok (.aload_n 0, 1) := by decide +kernel
theorem dX4_count_75 : decode cX4_count 75 = .ok (.invokevirtual 183, 3) := by decide +kernel
theorem dX4_count_78 : decode cX4_count 78 = .ok (.ireturn, 1) := by decide +kernel
theorem dX4_count_79 : decode cX4_count 79 = .ok (.aload_n 0, 1) := by decide +kernel
theorem dX4_count_80 : decode cX4_count 80 = .ok (.getfield 7, 3) := by decide +kernel
theorem dX4_count_83 : decode cX4_count 83 = .ok (.bipush 10, 2) := by decide +kernel
theorem dX4_count_85 : decode cX4_count 85 = .ok (.iload_n 1, 1) := by decide +kernel
theorem dX4_count_86 : decode cX4_count 86 = .ok (.iadd, 1) := by decide +kernel
theorem dX4_count_87 : decode cX4_count 87 = .ok (.bipush 13, 2) := by decide +kernel
theorem dX4_count_89 : decode cX4_count 89 = .ok (.isub, 1) := by decide +kernel
theorem dX4_count_90 : decode cX4_count 90 = .ok (.iaload, 1) := by decide +kernel
theorem dX4_count_91 : decode cX4_count 91 = .ok (.ireturn, 1) := by decide +kernel
theorem dX4_count_92 : decode cX4_count 92 = .ok (.aload_n 0, 1) := by decide +kernel
theorem dX4_count_93 : decode cX4_count 93 = .ok (.getfield 40, 3) := by decide +kernel
theorem dX4_count_96 : decode cX4_count 96 = .ok (.ireturn, 1) := by decide +kernel
theorem dX4_count_97 : decode cX4_count 97 = .ok (.aload_n 0, 1) := by decide +kernel
theorem dX4_count_98 : decode cX4_count 98 = .ok (.getfield 126, 3) := by decide +kernel
theorem dX4_count_101 : decode cX4_count 101 = .ok (.ireturn, 1) := by decide +kernel
theorem dX4_count_102 : decode cX4_count 102 = .ok (.bipush (-2), 2) := by decide +kernel
theorem dX4_count_104 : decode cX4_count 104 = .ok (.ireturn, 1) := by decide +kernel
