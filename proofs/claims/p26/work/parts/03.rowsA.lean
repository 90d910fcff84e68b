set_option maxRecDepth 20000 in
theorem ggX0_init_X1_init : GoodIn wsX0_init wsX1_init := goodIn_r _ [9, 10, 2, 3, 11, 12, 13, 14, 15, 16, 17, 18, 21, 22, 23, 24, 25, 26, 27, 28, 29, 30, 31, 32, 33, 34, 35, 36, 37] (by decide +kernel) (by decide +kernel)
set_option maxRecDepth 20000 in
theorem gX0_init_X1_init_n15 : GoodIn wsX0_init (wsX1_init) := ggX0_init_X1_init
theorem dX0_init_0 : decode cX0_init 0 = .ok (.aload_n 0, 1) := by decide +kernel
theorem dX0_init_1 : decode cX0_init 1 = .ok (.invokespecial 1, 3) := by decide +kernel
theorem dX0_init_4 : decode cX0_init 4 = .ok (.aload_n 0, 1) := by decide +kernel
theorem dX0_init_5 : decode cX0_init 5 = .ok (.iconst 5, 1) := by decide +kernel
theorem dX0_init_6 : decode cX0_init 6 = .ok (.anewarray 9, 3) := by decide +kernel
theorem dX0_init_9 : decode cX0_init 9 = .ok (.putfield 11, 3) := by decide +kernel
theorem dX0_init_12 : decode cX0_init 12 = .ok (.iconst 0, 1) := by decide +kernel
theorem dX0_init_13 : decode cX0_init 13 = .ok (.istore_n 1, 1) := by decide +kernel
theorem dX0_init_14 : decode cX0_init 14 = .ok (.iload_n 1, 1) := by decide +kernel
theorem dX0_init_15 : decode cX0_init 15 = .ok (.aload_n 0, 1) := by decide +kernel
theorem dX0_init_16 : decode cX0_init 16 = .ok (.getfield 11, 3) := by decide +kernel
theorem dX0_init_19 : decode cX0_init 19 = .ok (.arraylength, 1) := by decide +kernel
theorem dX0_init_20 : decode cX0_init 20 = .ok (.if_icmp .ge 22, 3) := by decide +kernel
theorem dX0_init_23 : decode cX0_init 23 = .ok (.aload_n 0, 1) := by decide +kernel
theorem dX0_init_24 : decode cX0_init 24 = .ok (.getfield 11, 3) := by decide +kernel
theorem dX0_init_27 : decode cX0_init 27 = .ok (.iload_n 1, 1) := by decide +kernel
theorem dX0_init_28 : decode cX0_init 28 = .ok (.new 9, 3) := by decide +kernel
theorem dX0_init_31 : decode cX0_init 31 = .ok (.dup, 1) := by decide +kernel
theorem dX0_init_32 : decode cX0_init 32 = .ok (.invokespecial 15, 3) := by decide +kernel
theorem dX0_init_35 : decode cX0_init 35 = .ok (.aastore, 1) := by decide +kernel
theorem dX0_init_36 : decode cX0_init 36 = .ok (.iinc 1 1, 3) := by decide +kernel
theorem dX0_init_39 : decode cX0_init 39 = .ok (.goto (-25), 3) := by decide +kernel
theorem dX0_init_42 : decode cX0_init 42 = .ok (.return_, 1) := by decide +kernel
theorem dX0_drafted_0 : decode cX0_drafted 0 = .ok (.aload_n 0, 1) := by decide +kernel
theorem dX0_drafted_1 : decode cX0_drafted 1 = .ok (.getfield 11, 3) := by decide +kernel
theorem dX0_drafted_4 : decode cX0_drafted 4 = .ok (.aload_n 0, 1) := by decide +kernel
theorem dX0_drafted_5 : decode cX0_drafted 5 = .ok (.getfield 16, 3) := by decide +kernel
theorem dX0_drafted_8 : decode cX0_drafted 8 = .ok (.aaload, 1) := by decide +kernel
theorem dX0_drafted_9 : decode cX0_drafted 9 = .ok (.areturn, 1) := by decide +kernel
set_option maxRecDepth 20000 in
theorem ggX0_draft_X0_drafted : GoodIn wsX0_draft wsX0_drafted := goodIn_r _ [5, 6, 7, 34, 35] (by decide +kernel) (by decide +kernel)
set_option maxRecDepth 20000 in
theorem gX0_draft_X0_drafted : GoodIn wsX0_draft (wsV RX0 20 RX0 yX0_drafted wsX0_drafted) := goodIn_app (goodIn_of _ (by decide +kernel)) ggX0_draft_X0_drafted
set_option maxRecDepth 20000 in
theorem ggX0_draft_X1_copyFrom : GoodIn wsX0_draft wsX1_copyFrom := goodIn_r _ [12, 13, 14, 15, 16, 17, 18, 19, 20, 21, 22, 23, 24, 25, 26, 27, 28, 29, 30, 31, 32, 33, 36, 37, 38, 39, 40, 41, 42, 43, 44, 45, 46, 47, 48, 49, 50, 51, 52] (by decide +kernel) (by decide +kernel)
set_option maxRecDepth 20000 in
theorem gX0_draft_X1_copyFrom : GoodIn wsX0_draft (wsV RX0 24 RX1 yX1_copyFrom wsX1_copyFrom) := goodIn_app (goodIn_of _ (by decide +kernel)) ggX0_draft_X1_copyFrom
theorem dX0_draft_0 : decode cX0_draft 0 = .ok (.aload_n 0, 1) := by decide +kernel
theorem dX0_draft_1 : decode cX0_draft 1 = .ok (.invokevirtual 20, 3) := by decide +kernel
theorem dX0_draft_4 : decode cX0_draft 4 = .ok (.aload_n 1, 1) := by decide +kernel
theorem dX0_draft_5 : decode cX0_draft 5 = .ok (.invokevirtual 24, 3) := by decide +kernel
theorem dX0_draft_8 : decode cX0_draft 8 = .ok (.return_, 1) := by decide +kernel
theorem dX0_keepDraft_0 : decode cX0_keepDraft 0 = .ok (.aload_n 0, 1) := by decide +kernel
theorem dX0_keepDraft_1 : decode cX0_keepDraft 1 = .ok (.getfield 16, 3) := by decide +kernel
theorem dX0_keepDraft_4 : decode cX0_keepDraft 4 = .ok (.iconst 4, 1) := by decide +kernel
theorem dX0_keepDraft_5 : decode cX0_keepDraft 5 = .ok (.if_icmp .ge 14, 3) := by decide +kernel
theorem dX0_keepDraft_8 : decode cX0_keepDraft 8 = .ok (.aload_n 0, 1) := by decide +kernel
theorem dX0_keepDraft_9 : decode cX0_keepDraft 9 = .ok (.dup, 1) := by decide +kernel
theorem dX0_keepDraft_10 : decode cX0_keepDraft 10 = .ok (.getfield 16, 3) := by decide +kernel
theorem dX0_keepDraft_13 : decode cX0_keepDraft 13 = .ok (.iconst 1, 1) := by decide +kernel
theorem dX0_keepDraft_14 : decode cX0_keepDraft 14 = .ok (.iadd, 1) := by decide +kernel
theorem dX0_keepDraft_15 : decode cX0_keepDraft 15 = .ok (.putfield 16, 3) := by decide +kernel
theorem dX0_keepDraft_18 : decode cX0_keepDraft 18 = .ok (.return_, 1) := by decide +kernel
theorem dX0_keepDraft_19 : decode cX0_keepDraft 19 = .ok (.aload_n 0, 1) := by decide +kernel
theorem dX0_keepDraft_20 : decode cX0_keepDraft 20 = .ok (.getfield 11, 3) := by decide +kernel
theorem dX0_keepDraft_23 : decode cX0_keepDraft 23 = .ok (.iconst 0, 1) := by decide +kernel
theorem dX0_keepDraft_24 : decode cX0_keepDraft 24 = .ok (.aaload, 1) := by decide +kernel
theorem dX0_keepDraft_25 : decode cX0_keepDraft 25 = .ok (.astore_n 1, 1) := by decide +kernel
theorem dX0_keepDraft_26 : decode cX0_keepDraft 26 = .ok (.iconst 0, 1) := by decide +kernel
theorem dX0_keepDraft_27 : decode cX0_keepDraft 27 = .ok (.istore_n 2, 1) := by decide +kernel
theorem dX0_keepDraft_28 : decode cX0_keepDraft 28 = .ok (.iload_n 2, 1) := by decide +kernel
theorem dX0_keepDraft_29 : decode cX0_keepDraft 29 = .ok (.iconst 4, 1) := by decide +kernel
theorem dX0_keepDraft_30 : decode cX0_keepDraft 30 = .ok (.if_icmp .ge 23, 3) := by decide +kernel
theorem dX0_keepDraft_33 : decode cX0_keepDraft 33 = .ok (.aload_n 0, 1) := by decide +kernel
theorem dX0_keepDraft_34 : decode cX0_keepDraft 34 = .ok (.getfield 11, 3) := by decide +kernel
theorem dX0_keepDraft_37 : decode cX0_keepDraft 37 = .ok (.iload_n 2, 1) := by decide +kernel
theorem dX0_keepDraft_38 : decode cX0_keepDraft 38 = .ok (.aload_n 0, 1) := by decide +kernel
theorem dX0_keepDraft_39 : decode cX0_keepDraft 39 = .ok (.getfield 11, 3) := by decide +kernel
theorem dX0_keepDraft_42 : decode cX0_keepDraft 42 = .ok (.iload_n 2, 1) := by decide +kernel
theorem dX0_keepDraft_43 : decode cX0_keepDraft 43 = .ok (.iconst 1, 1) := by decide +kernel
theorem dX0_keepDraft_44 : decode cX0_keepDraft 44 = .ok (.iadd, 1) := by decide +kernel
theorem dX0_keepDraft_45 : decode cX0_keepDraft 45 = .ok (.aaload, 1) := by decide +kernel
theorem dX0_keepDraft_46 : decode cX0_keepDraft 46 = .ok (.aastore, 1) := by decide +kernel
theorem dX0_keepDraft_47 : decode cX0_keepDraft 47 = .ok (.iinc 2 1, 3) := by decide +kernel
theorem dX0_keepDraft_50 : decode cX0_keepDraft 50 = .ok (.goto (-22), 3) := by decide +kernel
theorem dX0_keepDraft_53 : decode cX0_keepDraft 53 = .ok (.aload_n 0, 1) := by decide +kernel
theorem dX0_keepDraft_54 : decode cX0_keepDraft 54 = .ok (.getfield 11, 3) := by decide +kernel
theorem dX0_keepDraft_57 : decode cX0_keepDraft 57 = .ok (.iconst 4, 1) := by decide +kernel
theorem dX0_keepDraft_58 : decode cX0_keepDraft 58 = .ok (.aload_n 1, 1) := by decide +kernel
theorem dX0_keepDraft_59 : decode cX0_keepDraft 59 = .ok (.aastore, 1) := by decide +kernel
theorem dX0_keepDraft_60 : decode cX0_keepDraft 60 = .ok (.return_, 1) := by decide +kernel
theorem dX0_takeLatest_0 : decode cX0_takeLatest 0 = .ok (.aload_n 0, 1) := by decide +kernel
theorem dX0_takeLatest_1 : decode cX0_takeLatest 1 = .ok (.dup, 1) := by decide +kernel
theorem dX0_takeLatest_2 : decode cX0_takeLatest 2 = .ok (.getfield 16, 3) := by decide +kernel
theorem dX0_takeLatest_5 : decode cX0_takeLatest 5 = .ok (.iconst 1, 1) := by decide +kernel
theorem dX0_takeLatest_6 : decode cX0_takeLatest 6 = .ok (.isub, 1) := by decide +kernel
theorem dX0_takeLatest_7 : decode cX0_takeLatest 7 = .ok (.putfield 16, 3) := by decide +kernel
theorem dX0_takeLatest_10 : decode cX0_takeLatest 10 = .ok (.aload_n 0, 1) := by decide +kernel
theorem dX0_takeLatest_11 : decode cX0_takeLatest 11 = .ok (.getfield 11, 3) := by decide +kernel
theorem dX0_takeLatest_14 : decode cX0_takeLatest 14 = .ok (.aload_n 0, 1) := by decide +kernel
theorem dX0_takeLatest_15 : decode cX0_takeLatest 15 = .ok (.getfield 16, 3) := by decide +kernel
theorem dX0_takeLatest_18 : decode cX0_takeLatest 18 = .ok (.aaload, 1) := by decide +kernel
theorem dX0_takeLatest_19 : decode cX0_takeLatest 19 = .ok (.areturn, 1) := by decide +kernel
theorem dX1_init_0 : decode cX1_init 0 = .ok (.aload_n 0, 1) := by decide +kernel
theorem dX1_init_1 : decode cX1_init 1 = .ok (.invokespecial 3, 3) := by decide +kernel
theorem dX1_init_4 : decode cX1_init 4 = .ok (.aload_n 0, 1) := by decide +kernel
theorem dX1_init_5 : decode cX1_init 5 = .ok (.bipush 16, 2) := by decide +kernel
theorem dX1_init_7 : decode cX1_init 7 = .ok (.newarray .int, 2) := by decide +kernel
theorem dX1_init_9 : decode cX1_init 9 = .ok (.putfield 9, 3) := by decide +kernel
theorem dX1_init_12 : decode cX1_init 12 = .ok (.aload_n 0, 1) := by decide +kernel
theorem dX1_init_13 : decode cX1_init 13 = .ok (.bipush 16, 2) := by decide +kernel
theorem dX1_init_15 : decode cX1_init 15 = .ok (.newarray .int, 2) := by decide +kernel
theorem dX1_init_17 : decode cX1_init 17 = .ok (.putfield 15, 3) := by decide +kernel
theorem dX1_init_20 : decode cX1_init 20 = .ok (.aload_n 0, 1) := by decide +kernel
theorem dX1_init_21 : decode cX1_init 21 = .ok (.bipush 16, 2) := by decide +kernel
theorem dX1_init_23 : decode cX1_init 23 = .ok (.newarray .int, 2) := by decide +kernel
theorem dX1_init_25 : decode cX1_init 25 = .ok (.putfield 18, 3) := by decide +kernel
theorem dX1_init_28 : decode cX1_init 28 = .ok (.aload_n 0, 1) := by decide +kernel
theorem dX1_init_29 : decode cX1_init 29 = .ok (.bipush 16, 2) := by decide +kernel
theorem dX1_init_31 : decode cX1_init 31 = .ok (.newarray .int, 2) := by decide +kernel
theorem dX1_init_33 : decode cX1_init 33 = .ok (.putfield 21, 3) := by decide +kernel
theorem dX1_init_36 : decode cX1_init 36 = .ok (.aload_n 0, 1) := by decide +kernel
theorem dX1_init_37 : decode cX1_init 37 = .ok (.bipush 16, 2) := by decide +kernel
theorem dX1_init_39 : decode cX1_init 39 = .ok (.newarray .int, 2) := by decide +kernel
theorem dX1_init_41 : decode cX1_init 41 = .ok (.putfield 24, 3) := by decide +kernel
theorem dX1_init_44 : decode cX1_init 44 = .ok (.aload_n 0, 1) := by decide +kernel
theorem dX1_init_45 : decode cX1_init 45 = .ok (.bipush 16, 2) := by decide +kernel
theorem dX1_init_47 : decode cX1_init 47 = .ok (.newarray .int, 2) := by decide +kernel
theorem dX1_init_49 : decode cX1_init 49 = .ok (.putfield 27, 3) := by decide +kernel
theorem dX1_init_52 : decode cX1_init 52 = .ok (.aload_n 0, 1) := by decide +kernel
theorem dX1_init_53 : decode cX1_init 53 = .ok (.iconst 3, 1) := by decide +kernel
theorem dX1_init_54 : decode cX1_init 54 = .ok (.newarray .int, 2) := by decide +kernel
theorem dX1_init_56 : decode cX1_init 56 = .ok (.dup, 1) := by decide +kernel
theorem dX1_init_57 : decode cX1_init 57 = .ok (.iconst 0, 1) := by decide +kernel
theorem dX1_init_58 : decode cX1_init 58 = .ok (.iconst 3, 1) := by decide +kernel
theorem dX1_init_59 : decode cX1_init 59 = .ok (.iastore, 1) := by decide +kernel
theorem dX1_init_60 : decode cX1_init 60 = .ok (.dup, 1) := by decide +kernel
theorem dX1_init_61 : decode cX1_init 61 = .ok (.iconst 1, 1) := by decide +kernel
theorem dX1_init_62 : decode cX1_init 62 = .ok (.iconst 2, 1) := by decide +kernel
theorem dX1_init_63 : decode cX1_init 63 = .ok (.iastore, 1) := by decide +kernel
theorem dX1_init_64 : decode cX1_init 64 = .ok (.dup, 1) := by decide +kernel
theorem dX1_init_65 : decode cX1_init 65 = .ok (.iconst 2, 1) := by decide +kernel
theorem dX1_init_66 : decode cX1_init 66 = .ok (.iconst 5, 1) := by decide +kernel
theorem dX1_init_67 : decode cX1_init 67 = .ok (.iastore, 1) := by decide +kernel
theorem dX1_init_68 : decode cX1_init 68 = .ok (.putfield 30, 3) := by decide +kernel
theorem dX1_init_71 : decode cX1_init 71 = .ok (.return_, 1) := by decide +kernel
theorem dX1_copyFrom_0 : decode cX1_copyFrom 0 = .ok (.aload_n 1, 1) := by decide +kernel
theorem dX1_copyFrom_1 : decode cX1_copyFrom 1 = .ok (.getfield 9, 3) := by decide +kernel
theorem dX1_copyFrom_4 : decode cX1_copyFrom 4 = .ok (.iconst 0, 1) := by decide +kernel
theorem dX1_copyFrom_5 : decode cX1_copyFrom 5 = .ok (.aload_n 0, 1) := by decide +kernel
theorem dX1_copyFrom_6 : decode cX1_copyFrom 6 = .ok (.getfield 9, 3) := by decide +kernel
theorem dX1_copyFrom_9 : decode cX1_copyFrom 9 = .ok (.iconst 0, 1) := by decide +kernel
theorem dX1_copyFrom_10 : decode cX1_copyFrom 10 = .ok (.bipush 16, 2) := by decide +kernel
theorem dX1_copyFrom_12 : decode cX1_copyFrom 12 = .ok (.invokestatic 33, 3) := by decide +kernel
theorem dX1_copyFrom_15 : decode cX1_copyFrom 15 = .ok (.aload_n 1, 1) := by decide +kernel
theorem dX1_copyFrom_16 : decode cX1_copyFrom 16 = .ok (.getfield 15, 3) := by decide +kernel
theorem dX1_copyFrom_19 : decode cX1_copyFrom 19 = .ok (.iconst 0, 1) := by decide +kernel
theorem dX1_copyFrom_20 : decode cX1_copyFrom 20 = .ok (.aload_n 0, 1) := by decide +kernel
theorem dX1_copyFrom_21 : decode cX1_copyFrom 21 = .ok (.getfield 15, 3) := by decide +kernel
theorem dX1_copyFrom_24 : decode cX1_copyFrom 24 = .ok (.iconst 0, 1) := by decide +kernel
theorem dX1_copyFrom_25 : decode cX1_copyFrom 25 = .ok (.bipush 16, 2) := by decide +kernel
theorem dX1_copyFrom_27 : decode cX1_copyFrom 27 = .ok (.invokestatic 33, 3) := by decide +kernel
theorem dX1_copyFrom_30 : decode cX1_copyFrom 30 = .ok (.aload_n 1, 1) := by decide +kernel
theorem dX1_copyFrom_31 : decode cX1_copyFrom 31 = .ok (.getfield 18, 3) := by decide +kernel
theorem dX1_copyFrom_34 : decode cX1_copyFrom 34 = .ok (.iconst 0, 1) := by decide +kernel
theorem dX1_copyFrom_35 : decode cX1_copyFrom 35 = .ok (.aload_n 0, 1) := by decide +kernel
theorem dX1_copyFrom_36 : decode cX1_copyFrom 36 = .ok (.getfield 18, 3) := by decide +kernel
theorem dX1_copyFrom_39 : decode cX1_copyFrom 39 = .ok (.iconst 0, 1) := by decide +kernel
theorem dX1_copyFrom_40 : decode cX1_copyFrom 40 = .ok (.bipush 16, 2) := by decide +kernel
theorem dX1_copyFrom_42 : decode cX1_copyFrom 42 = .ok (.invokestatic 33, 3) := by decide +kernel
theorem dX1_copyFrom_45 : decode cX1_copyFrom 45 = .ok (.aload_n 1, 1) := by decide +kernel
theorem dX1_copyFrom_46 : decode cX1_copyFrom 46 = .ok (.getfield 21, 3) := by decide +kernel
theorem dX1_copyFrom_49 : decode cX1_copyFrom 49 = .ok (.iconst 0, 1) := by decide +kernel
theorem dX1_copyFrom_50 : decode cX1_copyFrom 50 = .ok (.aload_n 0, 1) := by decide +kernel
theorem dX1_copyFrom_51 : decode cX1_copyFrom 51 = .ok (.getfield 21, 3) := by decide +kernel
theorem dX1_copyFrom_54 : decode cX1_copyFrom 54 = .ok (.iconst 0, 1) := by decide +kernel
theorem dX1_copyFrom_55 : decode cX1_copyFrom 55 = .ok (.bipush 16, 2) := by decide +kernel
theorem dX1_copyFrom_57 : decode cX1_copyFrom 57 = .ok (.invokestatic 33, 3) := by decide +kernel
theorem dX1_copyFrom_60 : decode cX1_copyFrom 60 = .ok (.aload_n 1, 1) := by decide +kernel
theorem dX1_copyFrom_61 : decode cX1_copyFrom 61 = .ok (.getfield 24, 3) := by decide +kernel
theorem dX1_copyFrom_64 : decode cX1_copyFrom 64 = .ok (.iconst 0, 1) := by decide +kernel
theorem dX1_copyFrom_65 : decode cX1_copyFrom 65 = .ok (.aload_n 0, 1) := by decide +kernel
theorem dX1_copyFrom_66 : decode cX1_copyFrom 66 = .ok (.getfield 24, 3) := by decide +kernel
theorem dX1_copyFrom_69 : decode cX1_copyFrom 69 = .ok (.iconst 0, 1) := by decide +kernel
theorem dX1_copyFrom_70 : decode cX1_copyFrom 70 = .ok (.bipush 16, 2) := by decide +kernel
theorem dX1_copyFrom_72 : decode cX1_copyFrom 72 = .ok (.invokestatic 33, 3) := by decide +kernel
theorem dX1_copyFrom_75 : decode cX1_copyFrom 75 = .ok (.aload_n 1, 1) := by decide +kernel
theorem dX1_copyFrom_76 : decode cX1_copyFrom 76 = .ok (.getfield 27, 3) := by decide +kernel
theorem dX1_copyFrom_79 : decode cX1_copyFrom 79 = .ok (.iconst 0, 1) := by decide +kernel
theorem dX1_copyFrom_80 : decode cX1_copyFrom 80 = .ok (.aload_n 0, 1) := by decide +kernel
theorem dX1_copyFrom_81 : decode cX1_copyFrom 81 = .ok (.getfield 27, 3) := by decide +kernel
theorem dX1_copyFrom_84 : decode cX1_copyFrom 84 = .ok (.iconst 0, 1) := by decide +kernel
theorem dX1_copyFrom_85 : decode cX1_copyFrom 85 = .ok (.bipush 16, 2) := by decide +kernel
theorem dX1_copyFrom_87 : decode cX1_copyFrom 87 = .ok (.invokestatic 33, 3) := by decide +kernel
theorem dX1_copyFrom_90 : decode cX1_copyFrom 90 = .ok (.aload_n 1, 1) := by decide +kernel
theorem dX1_copyFrom_91 : decode cX1_copyFrom 91 = .ok (.getfield 30, 3) := by decide +kernel
theorem dX1_copyFrom_94 : decode cX1_copyFrom 94 = .ok (.iconst 0, 1) := by decide +kernel
theorem dX1_copyFrom_95 : decode cX1_copyFrom 95 = .ok (.aload_n 0, 1) := by decide +kernel
theorem dX1_copyFrom_96 : decode cX1_copyFrom 96 = .ok (.getfield 30, 3) := by decide +kernel
theorem dX1_copyFrom_99 : decode cX1_copyFrom 99 = .ok (.iconst 0, 1) := by decide +kernel
theorem dX1_copyFrom_100 : decode cX1_copyFrom 100 = .ok (.aload_n 0, 1) := by decide +kernel
theorem dX1_copyFrom_101 : decode cX1_copyFrom 101 = .ok (.getfield 30, 3) := by decide +kernel
theorem dX1_copyFrom_104 : decode cX1_copyFrom 104 = .ok (.arraylength, 1) := by decide +kernel
theorem dX1_copyFrom_105 : decode cX1_copyFrom 105 = .ok (.invokestatic 33, 3) := by decide +kernel
theorem dX1_copyFrom_108 : decode cX1_copyFrom 108 = .ok (.aload_n 0, 1) := by decide +kernel
theorem dX1_copyFrom_109 : decode cX1_copyFrom 109 = .ok (.aload_n 1, 1) := by decide +kernel
theorem dX1_copyFrom_110 : decode cX1_copyFrom 110 = .ok (.getfield 39, 3) := by decide +kernel
theorem dX1_copyFrom_113 : decode cX1_copyFrom 113 = .ok (.putfield 39, 3) := by decide +kernel
theorem dX1_copyFrom_116 : decode cX1_copyFrom 116 = .ok (.aload_n 0, 1) := by decide +kernel
theorem dX1_copyFrom_117 : decode cX1_copyFrom 117 = .ok (.aload_n 1, 1) := by decide +kernel
theorem dX1_copyFrom_118 : decode cX1_copyFrom 118 = .ok (.getfield 43, 3) := by decide +kernel
theorem dX1_copyFrom_121 : decode cX1_copyFrom 121 = .ok (.putfield 43, 3) := by decide +kernel
theorem dX1_copyFrom_124 : decode cX1_copyFrom 124 = .ok (.aload_n 0, 1) := by decide +kernel
theorem dX1_copyFrom_125 : decode cX1_copyFrom 125 = .ok (.aload_n 1, 1) := by decide +kernel
theorem dX1_copyFrom_126 : decode cX1_copyFrom 126 = .ok (.getfield 46, 3) := by decide +kernel
theorem dX1_copyFrom_129 : decode cX1_copyFrom 129 = .ok (.putfield 46, 3) := by decide +kernel
theorem dX1_copyFrom_132 : decode cX1_copyFrom 132 = .ok (.aload_n 0, 1) := by decide +kernel
theorem dX1_copyFrom_133 : decode cX1_copyFrom 133 = .ok (.aload_n 1, 1) := by decide +kernel
theorem dX1_copyFrom_134 : decode cX1_copyFrom 134 = .ok (.getfield 49, 3) := by decide +kernel
theorem dX1_copyFrom_137 : decode cX1_copyFrom 137 = .ok (.putfield 49, 3) := by decide +kernel
theorem dX1_copyFrom_140 : decode cX1_copyFrom 140 = .ok (.aload_n 0, 1) := by decide +kernel
theorem dX1_copyFrom_141 : decode cX1_copyFrom 141 = .ok (.aload_n 1, 1) := by decide +kernel
theorem dX1_copyFrom_142 : decode cX1_copyFrom 142 = .ok (.getfield 52, 3) := by decide +kernel
theorem dX1_copyFrom_145 : decode cX1_copyFrom 145 = .ok (.putfield 52, 3) := by decide +kernel
theorem dX1_copyFrom_148 : decode cX1_copyFrom 148 = .ok (.aload_n 0, 1) := by decide +kernel
theorem dX1_copyFrom_149 : decode cX1_copyFrom 149 = .ok (.aload_n 1, 1) := by decide +kernel
theorem dX1_copyFrom_150 : decode cX1_copyFrom 150 = .ok (.getfield 55, 3) := by decide +kernel
theorem dX1_copyFrom_153 : decode cX1_copyFrom 153 = .ok (.putfield 55, 3) := by decide +kernel
theorem dX1_copyFrom_156 : decode cX1_copyFrom 156 = .ok (.aload_n 0, 1) := by decide +kernel
theorem dX1_copyFrom_157 : decode cX1_copyFrom 157 = .ok (.aload_n 1, 1) := by decide +kernel
theorem dX1_copyFrom_158 : decode cX1_copyFrom 158 = .ok (.getfield 58, 3) := by decide +kernel
theorem dX1_copyFrom_161 : decode cX1_copyFrom 161 = .ok (.putfield 58, 3) := by decide +kernel
theorem dX1_copyFrom_164 : decode cX1_copyFrom 164 = .ok (.aload_n 0, 1) := by decide +kernel
theorem dX1_copyFrom_165 : decode cX1_copyFrom 165 = .ok (.aload_n 1, 1) := by decide +kernel
theorem dX1_copyFrom_166 : decode cX1_copyFrom 166 = .ok (.getfield 61, 3) := by decide +kernel
theorem dX1_copyFrom_169 : decode cX1_copyFrom 169 = .ok (.putfield 61, 3) := by decide +kernel
theorem dX1_copyFrom_172 : decode cX1_copyFrom 172 = .ok (.aload_n 0, 1) := by decide +kernel
theorem dX1_copyFrom_173 : decode cX1_copyFrom 173 = .ok (.aload_n 1, 1) := by decide +kernel
theorem dX1_copyFrom_174 : decode cX1_copyFrom 174 = .ok (.getfield 64, 3) := by decide +kernel
theorem dX1_copyFrom_177 : decode cX1_copyFrom 177 = .ok (.putfield 64, 3) := by decide +kernel
theorem dX1_copyFrom_180 : decode cX1_copyFrom 180 = .ok (.aload_n 0, 1) := by decide +kernel
theorem dX1_copyFrom_181 : decode cX1_copyFrom 181 = .ok (.aload_n 1, 1) := by decide +kernel
theorem dX1_copyFrom_182 : decode cX1_copyFrom 182 = .ok (.getfield 67, 3) := by decide +kernel
theorem dX1_copyFrom_185 : decode cX1_copyFrom 185 = .ok (.putfield 67, 3) := by decide +kernel
theorem dX1_copyFrom_188 : decode cX1_copyFrom 188 = .ok (.return_, 1) := by decide +kernel
theorem dX1_isPlace_0 : decode cX1_isPlace 0 = .ok (.iload_n 1, 1) := by decide +kernel
theorem dX1_isPlace_1 : decode cX1_isPlace 1 = .ok (.ifCond .lt 15, 3) := by decide +kernel
theorem dX1_isPlace_4 : decode cX1_isPlace 4 = .ok (.iload_n 1, 1) := by decide +kernel
theorem dX1_isPlace_5 : decode cX1_isPlace 5 = .ok (.aload_n 0, 1) := by decide +kernel
theorem dX1_isPlace_6 : decode cX1_isPlace 6 = .ok (.getfield 39, 3) := by decide +kernel
theorem dX1_isPlace_9 : decode cX1_isPlace 9 = .ok (.if_icmp .ge 7, 3) := by decide +kernel
theorem dX1_isPlace_12 : decode cX1_isPlace 12 = .ok (.iconst 1, 1) := by decide +kernel
theorem dX1_isPlace_13 : decode cX1_isPlace 13 = .ok (.goto 4, 3) := by decide +kernel
theorem dX1_isPlace_16 : decode cX1_isPlace 16 = .ok (.iconst 0, 1) := by decide +kernel
theorem dX1_isPlace_17 : decode cX1_isPlace 17 = .ok (.ireturn, 1) := by decide +kernel
theorem dX1_hasNeighbour_0 : decode cX1_hasNeighbour 0 = .ok (.iload_n 1, 1) := by decide +kernel
theorem dX1_hasNeighbour_1 : decode cX1_hasNeighbour 1 = .ok (.ifCond .lt 17, 3) := by decide +kernel
theorem dX1_hasNeighbour_4 : decode cX1_hasNeighbour 4 = .ok (.iload_n 1, 1) := by decide +kernel
theorem dX1_hasNeighbour_5 : decode cX1_hasNeighbour 5 = .ok (.aload_n 0, 1) := by decide +kernel
theorem dX1_hasNeighbour_6 : decode cX1_hasNeighbour 6 = .ok (.getfield 39, 3) := by decide +kernel
theorem dX1_hasNeighbour_9 : decode cX1_hasNeighbour 9 = .ok (.iconst 1, 1) := by decide +kernel
theorem dX1_hasNeighbour_10 : decode cX1_hasNeighbour 10 = .ok (.isub, 1) := by decide +kernel
theorem dX1_hasNeighbour_11 : decode cX1_hasNeighbour 11 = .ok (.if_icmp .ge 7, 3) := by decide +kernel
theorem dX1_hasNeighbour_14 : decode cX1_hasNeighbour 14 = .ok (.iconst 1, 1) := by decide +kernel
theorem dX1_hasNeighbour_15 : decode cX1_hasNeighbour 15 = .ok (.goto 4, 3) := by decide +kernel
theorem dX1_hasNeighbour_18 : decode cX1_hasNeighbour 18 = .ok (.iconst 0, 1) := by decide +kernel
theorem dX1_hasNeighbour_19 : decode cX1_hasNeighbour 19 = .ok (.ireturn, 1) := by decide +kernel
set_option maxRecDepth 20000 in
theorem ggX1_admit_X3_isWithin : GoodIn wsX1_admit wsX3_isWithin := goodIn_r _ [11] (by decide +kernel) (by decide +kernel)
set_option maxRecDepth 20000 in
theorem gX1_admit_X3_isWithin_n70 : GoodIn wsX1_admit (wsX3_isWithin) := ggX1_admit_X3_isWithin
theorem dX1_admit_0 : decode cX1_admit 0 = .ok (.iload_n 1, 1) := by decide +kernel
theorem dX1_admit_1 : decode cX1_admit 1 = .ok (.bipush 10, 2) := by decide +kernel
theorem dX1_admit_3 : decode cX1_admit 3 = .ok (.sipush 999, 3) := by decide +kernel
theorem dX1_admit_6 : decode cX1_admit 6 = .ok (.invokestatic 70, 3) := by decide +kernel
theorem dX1_admit_9 : decode cX1_admit 9 = .ok (.ifCond .eq 23, 3) := by decide +kernel
theorem dX1_admit_12 : decode cX1_admit 12 = .ok (.iload_n 2, 1) := by decide +kernel
theorem dX1_admit_13 : decode cX1_admit 13 = .ok (.iconst 0, 1) := by decide +kernel
theorem dX1_admit_14 : decode cX1_admit 14 = .ok (.sipush 9999, 3) := by decide +kernel
theorem dX1_admit_17 : decode cX1_admit 17 = .ok (.invokestatic 70, 3) := by decide +kernel
theorem dX1_admit_20 : decode cX1_admit 20 = .ok (.ifCond .eq 12, 3) := by decide +kernel
theorem dX1_admit_23 : decode cX1_admit 23 = .ok (.iload_n 3, 1) := by decide +kernel
theorem dX1_admit_24 : decode cX1_admit 24 = .ok (.iconst 0, 1) := by decide +kernel
theorem dX1_admit_25 : decode cX1_admit 25 = .ok (.iconst 5, 1) := by decide +kernel
theorem dX1_admit_26 : decode cX1_admit 26 = .ok (.invokestatic 70, 3) := by decide +kernel
theorem dX1_admit_29 : decode cX1_admit 29 = .ok (.ifCond .ne 6, 3) := by decide +kernel
theorem dX1_admit_32 : decode cX1_admit 32 = .ok (.bipush (-2), 2) := by decide +kernel
theorem dX1_admit_34 : decode cX1_admit 34 = .ok (.ireturn, 1) := by decide +kernel
theorem dX1_admit_35 : decode cX1_admit 35 = .ok (.aload_n 0, 1) := by decide +kernel
theorem dX1_admit_36 : decode cX1_admit 36 = .ok (.getfield 39, 3) := by decide +kernel
theorem dX1_admit_39 : decode cX1_admit 39 = .ok (.bipush 16, 2) := by decide +kernel
theorem dX1_admit_41 : decode cX1_admit 41 = .ok (.if_icmp .ge 13, 3) := by decide +kernel
theorem dX1_admit_44 : decode cX1_admit 44 = .ok (.aload_n 0, 1) := by decide +kernel
theorem dX1_admit_45 : decode cX1_admit 45 = .ok (.getfield 43, 3) := by decide +kernel
theorem dX1_admit_48 : decode cX1_admit 48 = .ok (.sipush 200, 3) := by decide +kernel
theorem dX1_admit_51 : decode cX1_admit 51 = .ok (.if_icmp .lt 6, 3) := by decide +kernel
theorem dX1_admit_54 : decode cX1_admit 54 = .ok (.bipush (-3), 2) := by decide +kernel
theorem dX1_admit_56 : decode cX1_admit 56 = .ok (.ireturn, 1) := by decide +kernel
theorem dX1_admit_57 : decode cX1_admit 57 = .ok (.aload_n 0, 1) := by decide +kernel
theorem dX1_admit_58 : decode cX1_admit 58 = .ok (.getfield 39, 3) := by decide +kernel
theorem dX1_admit_61 : decode cX1_admit 61 = .ok (.istore 4, 2) := by decide +kernel
theorem dX1_admit_63 : decode cX1_admit 63 = .ok (.aload_n 0, 1) := by decide +kernel
theorem dX1_admit_64 : decode cX1_admit 64 = .ok (.getfield 9, 3) := by decide +kernel
theorem dX1_admit_67 : decode cX1_admit 67 = .ok (.iload 4, 2) := by decide +kernel
theorem dX1_admit_69 : decode cX1_admit 69 = .ok (.aload_n 0, 1) := by decide +kernel
theorem dX1_admit_70 : decode cX1_admit 70 = .ok (.getfield 43, 3) := by decide +kernel
theorem dX1_admit_73 : decode cX1_admit 73 = .ok (.iastore, 1) := by decide +kernel
theorem dX1_admit_74 : decode cX1_admit 74 = .ok (.aload_n 0, 1) := by decide +kernel
theorem dX1_admit_75 : decode cX1_admit 75 = .ok (.getfield 15, 3) := by decide +kernel
theorem dX1_admit_78 : decode cX1_admit 78 = .ok (.iload 4, 2) := by decide +kernel
theorem dX1_admit_80 : decode cX1_admit 80 = .ok (.iconst 0, 1) := by decide +kernel
theorem dX1_admit_81 : decode cX1_admit 81 = .ok (.iastore, 1) := by decide +kernel
theorem dX1_admit_82 : decode cX1_admit 82 = .ok (.aload_n 0, 1) := by decide +kernel
theorem dX1_admit_83 : decode cX1_admit 83 = .ok (.getfield 18, 3) := by decide +kernel
theorem dX1_admit_86 : decode cX1_admit 86 = .ok (.iload 4, 2) := by decide +kernel
theorem dX1_admit_88 : decode cX1_admit 88 = .ok (.iload_n 1, 1) := by decide +kernel
theorem dX1_admit_89 : decode cX1_admit 89 = .ok (.iastore, 1) := by decide +kernel
theorem dX1_admit_90 : decode cX1_admit 90 = .ok (.aload_n 0, 1) := by decide +kernel
theorem dX1_admit_91 : decode cX1_admit 91 = .ok (.getfield 21, 3) := by decide +kernel
theorem dX1_admit_94 : decode cX1_admit 94 = .ok (.iload 4, 2) := by decide +kernel
theorem dX1_admit_96 : decode cX1_admit 96 = .ok (.iload_n 2, 1) := by decide +kernel
theorem dX1_admit_97 : decode cX1_admit 97 = .ok (.iastore, 1) := by decide +kernel
theorem dX1_admit_98 : decode cX1_admit 98 = .ok (.aload_n 0, 1) := by decide +kernel
theorem dX1_admit_99 : decode cX1_admit 99 = .ok (.getfield 24, 3) := by decide +kernel
theorem dX1_admit_102 : decode cX1_admit 102 = .ok (.iload 4, 2) := by decide +kernel
theorem dX1_admit_104 : decode cX1_admit 104 = .ok (.iload_n 3, 1) := by decide +kernel
theorem dX1_admit_105 : decode cX1_admit 105 = .ok (.iastore, 1) := by decide +kernel
theorem dX1_admit_106 : decode cX1_admit 106 = .ok (.aload_n 0, 1) := by decide +kernel
theorem dX1_admit_107 : decode cX1_admit 107 = .ok (.getfield 27, 3) := by decide +kernel
theorem dX1_admit_110 : decode cX1_admit 110 = .ok (.iload 4, 2) := by decide +kernel
theorem dX1_admit_112 : decode cX1_admit 112 = .ok (.iconst 0, 1) := by decide +kernel
theorem dX1_admit_113 : decode cX1_admit 113 = .ok (.iastore, 1) := by decide +kernel
theorem dX1_admit_114 : decode cX1_admit 114 = .ok (.aload_n 0, 1) := by decide +kernel
theorem dX1_admit_115 : decode cX1_admit 115 = .ok (.dup, 1) := by decide +kernel
theorem dX1_admit_116 : decode cX1_admit 116 = .ok (.getfield 39, 3) := by decide +kernel
theorem dX1_admit_119 : decode cX1_admit 119 = .ok (.iconst 1, 1) := by decide +kernel
theorem dX1_admit_120 : decode cX1_admit 120 = .ok (.iadd, 1) := by decide +kernel
theorem dX1_admit_121 : decode cX1_admit 121 = .ok (.putfield 39, 3) := by decide +kernel
theorem dX1_admit_124 : decode cX1_admit 124 = .ok (.aload_n 0, 1) := by decide +kernel
theorem dX1_admit_125 : decode cX1_admit 125 = .ok (.dup, 1) := by decide +kernel
theorem dX1_admit_126 : decode cX1_admit 126 = .ok (.getfield 43, 3) := by decide +kernel
theorem dX1_admit_129 : decode cX1_admit 129 = .ok (.iconst 1, 1) := by decide +kernel
theorem dX1_admit_130 : decode cX1_admit 130 = .ok (.iadd, 1) := by decide +kernel
theorem dX1_admit_131 : decode cX1_admit 131 = .ok (.putfield 43, 3) := by decide +kernel
theorem dX1_admit_134 : decode cX1_admit 134 = .ok (.iload 4, 2) := by decide +kernel
theorem dX1_admit_136 : decode cX1_admit 136 = .ok (.ireturn, 1) := by decide +kernel
set_option maxRecDepth 20000 in
theorem ggX1_dismiss_X1_isPlace : GoodIn wsX1_dismiss wsX1_isPlace := goodIn_r _ [7, 8, 25, 26, 27, 28, 29, 30, 31, 32, 33, 34, 35, 36, 37, 38, 39, 40, 41] (by decide +kernel) (by decide +kernel)
set_option maxRecDepth 20000 in
theorem gX1_dismiss_X1_isPlace : GoodIn wsX1_dismiss (wsV RX1 74 RX1 yX1_isPlace wsX1_isPlace) := goodIn_app (goodIn_of _ (by decide +kernel)) ggX1_dismiss_X1_isPlace
set_option maxRecDepth 20000 in
theorem ggX1_dismiss_X1_remove : GoodIn wsX1_dismiss wsX1_remove := goodIn_r _ [12, 13, 1, 14, 15, 16, 17, 8, 18, 19, 6, 20, 21, 22, 23, 24, 25, 26, 27, 28, 29, 30, 31, 32, 33, 34, 35, 36, 37, 38, 39, 40, 41] (by decide +kernel) (by decide +kernel)
set_option maxRecDepth 20000 in
theorem gX1_dismiss_X1_remove : GoodIn wsX1_dismiss (wsV RX1 78 RX1 yX1_remove wsX1_remove) := goodIn_app (goodIn_of _ (by decide +kernel)) ggX1_dismiss_X1_remove
theorem dX1_dismiss_0 : decode cX1_dismiss 0 = .ok (.aload_n 0, 1) := by decide +kernel
theorem dX1_dismiss_1 : decode cX1_dismiss 1 = .ok (.iload_n 1, 1) := by decide +kernel
theorem dX1_dismiss_2 : decode cX1_dismiss 2 = .ok (.invokevirtual 74, 3) := by decide +kernel
theorem dX1_dismiss_5 : decode cX1_dismiss 5 = .ok (.ifCond .ne 5, 3) := by decide +kernel
theorem dX1_dismiss_8 : decode cX1_dismiss 8 = .ok (.iconst (-1), 1) := by decide +kernel
theorem dX1_dismiss_9 : decode cX1_dismiss 9 = .ok (.ireturn, 1) := by decide +kernel
theorem dX1_dismiss_10 : decode cX1_dismiss 10 = .ok (.aload_n 0, 1) := by decide +kernel
theorem dX1_dismiss_11 : decode cX1_dismiss 11 = .ok (.getfield 15, 3) := by decide +kernel
theorem dX1_dismiss_14 : decode cX1_dismiss 14 = .ok (.iload_n 1, 1) := by decide +kernel
theorem dX1_dismiss_15 : decode cX1_dismiss 15 = .ok (.iaload, 1) := by decide +kernel
theorem dX1_dismiss_16 : decode cX1_dismiss 16 = .ok (.istore_n 2, 1) := by decide +kernel
theorem dX1_dismiss_17 : decode cX1_dismiss 17 = .ok (.aload_n 0, 1) := by decide +kernel
theorem dX1_dismiss_18 : decode cX1_dismiss 18 = .ok (.iload_n 1, 1) := by decide +kernel
theorem dX1_dismiss_19 : decode cX1_dismiss 19 = .ok (.invokevirtual 78, 3) := by decide +kernel
theorem dX1_dismiss_22 : decode cX1_dismiss 22 = .ok (.aload_n 0, 1) := by decide +kernel
theorem dX1_dismiss_23 : decode cX1_dismiss 23 = .ok (.dup, 1) := by decide +kernel
theorem dX1_dismiss_24 : decode cX1_dismiss 24 = .ok (.getfield 46, 3) := by decide +kernel
theorem dX1_dismiss_27 : decode cX1_dismiss 27 = .ok (.iconst 1, 1) := by decide +kernel
theorem dX1_dismiss_28 : decode cX1_dismiss 28 = .ok (.iadd, 1) := by decide +kernel
theorem dX1_dismiss_29 : decode cX1_dismiss 29 = .ok (.putfield 46, 3) := by decide +kernel
theorem dX1_dismiss_32 : decode cX1_dismiss 32 = .ok (.iload_n 2, 1) := by decide +kernel
theorem dX1_dismiss_33 : decode cX1_dismiss 33 = .ok (.ireturn, 1) := by decide +kernel
set_option maxRecDepth 20000 in
theorem ggX1_changePlaces_X1_hasNeighbour : GoodIn wsX1_changePlaces wsX1_hasNeighbour := goodIn_r _ [11, 12, 16, 17, 18, 19, 20, 21, 22, 23, 24, 25, 26, 27, 28, 29, 30, 31, 32] (by decide +kernel) (by decide +kernel)
set_option maxRecDepth 20000 in
theorem gX1_changePlaces_X1_hasNeighbour : GoodIn wsX1_changePlaces (wsV RX1 82 RX1 yX1_hasNeighbour wsX1_hasNeighbour) := goodIn_app (goodIn_of _ (by decide +kernel)) ggX1_changePlaces_X1_hasNeighbour
set_option maxRecDepth 20000 in
theorem ggX1_changePlaces_X1_exchange : GoodIn wsX1_changePlaces wsX1_exchange := goodIn_r _ [15] (by decide +kernel) (by decide +kernel)
set_option maxRecDepth 20000 in
theorem gX1_changePlaces_X1_exchange : GoodIn wsX1_changePlaces (va_wsS RX1 85 yX1_exchange wsX1_exchange) := goodIn_app (goodIn_of _ (by decide +kernel)) ggX1_changePlaces_X1_exchange
theorem dX1_changePlaces_0 : decode cX1_changePlaces 0 = .ok (.aload_n 0, 1) := by decide +kernel
theorem dX1_changePlaces_1 : decode cX1_changePlaces 1 = .ok (.iload_n 1, 1) := by decide +kernel
theorem dX1_changePlaces_2 : decode cX1_changePlaces 2 = .ok (.invokevirtual 82, 3) := by decide +kernel
theorem dX1_changePlaces_5 : decode cX1_changePlaces 5 = .ok (.ifCond .ne 5, 3) := by decide +kernel
theorem dX1_changePlaces_8 : decode cX1_changePlaces 8 = .ok (.iconst (-1), 1) := by decide +kernel
theorem dX1_changePlaces_9 : decode cX1_changePlaces 9 = .ok (.ireturn, 1) := by decide +kernel
theorem dX1_changePlaces_10 : decode cX1_changePlaces 10 = .ok (.aload_n 0, 1) := by decide +kernel
theorem dX1_changePlaces_11 : decode cX1_changePlaces 11 = .ok (.getfield 9, 3) := by decide +kernel
theorem dX1_changePlaces_14 : decode cX1_changePlaces 14 = .ok (.iload_n 1, 1) := by decide +kernel
theorem dX1_changePlaces_15 : decode cX1_changePlaces 15 = .ok (.invokestatic 85, 3) := by decide +kernel
theorem dX1_changePlaces_18 : decode cX1_changePlaces 18 = .ok (.aload_n 0, 1) := by decide +kernel
theorem dX1_changePlaces_19 : decode cX1_changePlaces 19 = .ok (.getfield 15, 3) := by decide +kernel
theorem dX1_changePlaces_22 : decode cX1_changePlaces 22 = .ok (.iload_n 1, 1) := by decide +kernel
theorem dX1_changePlaces_23 : decode cX1_changePlaces 23 = .ok (.invokestatic 85, 3) := by decide +kernel
theorem dX1_changePlaces_26 : decode cX1_changePlaces 26 = .ok (.aload_n 0, 1) := by decide +kernel
theorem dX1_changePlaces_27 : decode cX1_changePlaces 27 = .ok (.getfield 18, 3) := by decide +kernel
theorem dX1_changePlaces_30 : decode cX1_changePlaces 30 = .ok (.iload_n 1, 1) := by decide +kernel
theorem dX1_changePlaces_31 : decode cX1_changePlaces 31 = .ok (.invokestatic 85, 3) := by decide +kernel
theorem dX1_changePlaces_34 : decode cX1_changePlaces 34 = .ok (.aload_n 0, 1) := by decide +kernel
theorem dX1_changePlaces_35 : decode cX1_changePlaces 35 = .ok (.getfield 21, 3) := by decide +kernel
theorem dX1_changePlaces_38 : decode cX1_changePlaces 38 = .ok (.iload_n 1, 1) := by decide +kernel
theorem dX1_changePlaces_39 : decode cX1_changePlaces 39 = .ok (.invokestatic 85, 3) := by decide +kernel
theorem dX1_changePlaces_42 : decode cX1_changePlaces 42 = .ok (.aload_n 0, 1) := by decide +kernel
theorem dX1_changePlaces_43 : decode cX1_changePlaces 43 = .ok (.getfield 24, 3) := by decide +kernel
theorem dX1_changePlaces_46 : decode cX1_changePlaces 46 = .ok (.iload_n 1, 1) := by decide +kernel
theorem dX1_changePlaces_47 : decode cX1_changePlaces 47 = .ok (.invokestatic 85, 3) := by decide +kernel
theorem dX1_changePlaces_50 : decode cX1_changePlaces 50 = .ok (.aload_n 0, 1) := by decide +kernel
theorem dX1_changePlaces_51 : decode cX1_changePlaces 51 = .ok (.getfield 27, 3) := by decide +kernel
theorem dX1_changePlaces_54 : decode cX1_changePlaces 54 = .ok (.iload_n 1, 1) := by decide +kernel
theorem dX1_changePlaces_55 : decode cX1_changePlaces 55 = .ok (.invokestatic 85, 3) := by decide +kernel
theorem dX1_changePlaces_58 : decode cX1_changePlaces 58 = .ok (.aload_n 0, 1) := by decide +kernel
theorem dX1_changePlaces_59 : decode cX1_changePlaces 59 = .ok (.getfield 9, 3) := by decide +kernel
theorem dX1_changePlaces_62 : decode cX1_changePlaces 62 = .ok (.iload_n 1, 1) := by decide +kernel
theorem dX1_changePlaces_63 : decode cX1_changePlaces 63 = .ok (.iaload, 1) := by decide +kernel
theorem dX1_changePlaces_64 : decode cX1_changePlaces 64 = .ok (.ireturn, 1) := by decide +kernel
set_option maxRecDepth 20000 in
theorem ggX1_swapUmbrellas_X1_hasNeighbour : GoodIn wsX1_swapUmbrellas wsX1_hasNeighbour := goodIn_r _ [8, 9, 18, 19, 20, 21, 22, 23, 24, 25, 26, 27, 28, 29, 30, 31, 32, 33, 34] (by decide +kernel) (by decide +kernel)
set_option maxRecDepth 20000 in
theorem gX1_swapUmbrellas_X1_hasNeighbour : GoodIn wsX1_swapUmbrellas (wsV RX1 82 RX1 yX1_hasNeighbour wsX1_hasNeighbour) := goodIn_app (goodIn_of _ (by decide +kernel)) ggX1_swapUmbrellas_X1_hasNeighbour
set_option maxRecDepth 20000 in
theorem ggX1_swapUmbrellas_X1_refusal : GoodIn wsX1_swapUmbrellas wsX1_refusal := goodIn_r _ [13, 1, 14, 18, 19, 20, 21, 22, 23, 24, 25, 26, 27, 28, 29, 30, 31, 32, 33, 34] (by decide +kernel) (by decide +kernel)
set_option maxRecDepth 20000 in
theorem gX1_swapUmbrellas_X1_refusal : GoodIn wsX1_swapUmbrellas (wsV RX1 89 RX1 yX1_refusal wsX1_refusal) := goodIn_app (goodIn_of _ (by decide +kernel)) ggX1_swapUmbrellas_X1_refusal
set_option maxRecDepth 20000 in
theorem ggX1_swapUmbrellas_X1_exchange : GoodIn wsX1_swapUmbrellas wsX1_exchange := goodIn_r _ [17] (by decide +kernel) (by decide +kernel)
set_option maxRecDepth 20000 in
theorem gX1_swapUmbrellas_X1_exchange : GoodIn wsX1_swapUmbrellas (va_wsS RX1 85 yX1_exchange wsX1_exchange) := goodIn_app (goodIn_of _ (by decide +kernel)) ggX1_swapUmbrellas_X1_exchange
theorem dX1_swapUmbrellas_0 : decode cX1_swapUmbrellas 0 = .ok (.aload_n 0, 1) := by decide +kernel
theorem dX1_swapUmbrellas_1 : decode cX1_swapUmbrellas 1 = .ok (.iload_n 1, 1) := by decide +kernel
theorem dX1_swapUmbrellas_2 : decode cX1_swapUmbrellas 2 = .ok (.invokevirtual 82, 3) := by decide +kernel
theorem dX1_swapUmbrellas_5 : decode cX1_swapUmbrellas 5 = .ok (.ifCond .ne 5, 3) := by decide +kernel
theorem dX1_swapUmbrellas_8 : decode cX1_swapUmbrellas 8 = .ok (.iconst (-1), 1) := by decide +kernel
theorem dX1_swapUmbrellas_9 : decode cX1_swapUmbrellas 9 = .ok (.ireturn, 1) := by decide +kernel
theorem dX1_swapUmbrellas_10 : decode cX1_swapUmbrellas 10 = .ok (.aload_n 0, 1) := by decide +kernel
theorem dX1_swapUmbrellas_11 : decode cX1_swapUmbrellas 11 = .ok (.iload_n 1, 1) := by decide +kernel
theorem dX1_swapUmbrellas_12 : decode cX1_swapUmbrellas 12 = .ok (.invokevirtual 89, 3) := by decide +kernel
theorem dX1_swapUmbrellas_15 : decode cX1_swapUmbrellas 15 = .ok (.istore_n 2, 1) := by decide +kernel
theorem dX1_swapUmbrellas_16 : decode cX1_swapUmbrellas 16 = .ok (.iload_n 2, 1) := by decide +kernel
theorem dX1_swapUmbrellas_17 : decode cX1_swapUmbrellas 17 = .ok (.ifCond .eq 8, 3) := by decide +kernel
theorem dX1_swapUmbrellas_20 : decode cX1_swapUmbrellas 20 = .ok (.bipush (-10), 2) := by decide +kernel
theorem dX1_swapUmbrellas_22 : decode cX1_swapUmbrellas 22 = .ok (.iload_n 2, 1) := by decide +kernel
theorem dX1_swapUmbrellas_23 : decode cX1_swapUmbrellas 23 = .ok (.isub, 1) := by decide +kernel
theorem dX1_swapUmbrellas_24 : decode cX1_swapUmbrellas 24 = .ok (.ireturn, 1) := by decide +kernel
theorem dX1_swapUmbrellas_25 : decode cX1_swapUmbrellas 25 = .ok (.aload_n 0, 1) := by decide +kernel
theorem dX1_swapUmbrellas_26 : decode cX1_swapUmbrellas 26 = .ok (.getfield 24, 3) := by decide +kernel
theorem dX1_swapUmbrellas_29 : decode cX1_swapUmbrellas 29 = .ok (.iload_n 1, 1) := by decide +kernel
theorem dX1_swapUmbrellas_30 : decode cX1_swapUmbrellas 30 = .ok (.invokestatic 85, 3) := by decide +kernel
theorem dX1_swapUmbrellas_33 : decode cX1_swapUmbrellas 33 = .ok (.aload_n 0, 1) := by decide +kernel
theorem dX1_swapUmbrellas_34 : decode cX1_swapUmbrellas 34 = .ok (.getfield 27, 3) := by decide +kernel
theorem dX1_swapUmbrellas_37 : decode cX1_swapUmbrellas 37 = .ok (.iload_n 1, 1) := by decide +kernel
theorem dX1_swapUmbrellas_38 : decode cX1_swapUmbrellas 38 = .ok (.dup2, 1) := by decide +kernel
theorem dX1_swapUmbrellas_39 : decode cX1_swapUmbrellas 39 = .ok (.iaload, 1) := by decide +kernel
theorem dX1_swapUmbrellas_40 : decode cX1_swapUmbrellas 40 = .ok (.iconst 1, 1) := by decide +kernel
theorem dX1_swapUmbrellas_41 : decode cX1_swapUmbrellas 41 = .ok (.iadd, 1) := by decide +kernel
theorem dX1_swapUmbrellas_42 : decode cX1_swapUmbrellas 42 = .ok (.iastore, 1) := by decide +kernel
theorem dX1_swapUmbrellas_43 : decode cX1_swapUmbrellas 43 = .ok (.aload_n 0, 1) := by decide +kernel
theorem dX1_swapUmbrellas_44 : decode cX1_swapUmbrellas 44 = .ok (.getfield 27, 3) := by decide +kernel
theorem dX1_swapUmbrellas_47 : decode cX1_swapUmbrellas 47 = .ok (.iload_n 1, 1) := by decide +kernel
theorem dX1_swapUmbrellas_48 : decode cX1_swapUmbrellas 48 = .ok (.iconst 1, 1) := by decide +kernel
theorem dX1_swapUmbrellas_49 : decode cX1_swapUmbrellas 49 = .ok (.iadd, 1) := by decide +kernel
theorem dX1_swapUmbrellas_50 : decode cX1_swapUmbrellas 50 = .ok (.dup2, 1) := by decide +kernel
theorem dX1_swapUmbrellas_51 : decode cX1_swapUmbrellas 51 = .ok (.iaload, 1) := by decide +kernel
theorem dX1_swapUmbrellas_52 : decode cX1_swapUmbrellas 52 = .ok (.iconst 1, 1) := by decide +kernel
theorem dX1_swapUmbrellas_53 : decode cX1_swapUmbrellas 53 = .ok (.iadd, 1) := by decide +kernel
theorem dX1_swapUmbrellas_54 : decode cX1_swapUmbrellas 54 = .ok (.iastore, 1) := by decide +kernel
theorem dX1_swapUmbrellas_55 : decode cX1_swapUmbrellas 55 = .ok (.aload_n 0, 1) := by decide +kernel
theorem dX1_swapUmbrellas_56 : decode cX1_swapUmbrellas 56 = .ok (.dup, 1) := by decide +kernel
theorem dX1_swapUmbrellas_57 : decode cX1_swapUmbrellas 57 = .ok (.getfield 61, 3) := by decide +kernel
theorem dX1_swapUmbrellas_60 : decode cX1_swapUmbrellas 60 = .ok (.iconst 1, 1) := by decide +kernel
theorem dX1_swapUmbrellas_61 : decode cX1_swapUmbrellas 61 = .ok (.iadd, 1) := by decide +kernel
theorem dX1_swapUmbrellas_62 : decode cX1_swapUmbrellas 62 = .ok (.putfield 61, 3) := by decide +kernel
theorem dX1_swapUmbrellas_65 : decode cX1_swapUmbrellas 65 = .ok (.aload_n 0, 1) := by decide +kernel
theorem dX1_swapUmbrellas_66 : decode cX1_swapUmbrellas 66 = .ok (.getfield 24, 3) := by decide +kernel
theorem dX1_swapUmbrellas_69 : decode cX1_swapUmbrellas 69 = .ok (.iload_n 1, 1) := by decide +kernel
theorem dX1_swapUmbrellas_70 : decode cX1_swapUmbrellas 70 = .ok (.iaload, 1) := by decide +kernel
theorem dX1_swapUmbrellas_71 : decode cX1_swapUmbrellas 71 = .ok (.ireturn, 1) := by decide +kernel
set_option maxRecDepth 20000 in
theorem ggX1_changeSetting_X3_isWithin : GoodIn wsX1_changeSetting wsX3_isWithin := goodIn_r _ [4] (by decide +kernel) (by decide +kernel)
set_option maxRecDepth 20000 in
theorem gX1_changeSetting_X3_isWithin_n70 : GoodIn wsX1_changeSetting (wsX3_isWithin) := ggX1_changeSetting_X3_isWithin
theorem dX1_changeSetting_0 : decode cX1_changeSetting 0 = .ok (.iload_n 1, 1) := by decide +kernel
theorem dX1_changeSetting_1 : decode cX1_changeSetting 1 = .ok (.iconst 0, 1) := by decide +kernel
theorem dX1_changeSetting_2 : decode cX1_changeSetting 2 = .ok (.iconst 2, 1) := by decide +kernel
theorem dX1_changeSetting_3 : decode cX1_changeSetting 3 = .ok (.invokestatic 70, 3) := by decide +kernel
theorem dX1_changeSetting_6 : decode cX1_changeSetting 6 = .ok (.ifCond .ne 5, 3) := by decide +kernel
theorem dX1_changeSetting_9 : decode cX1_changeSetting 9 = .ok (.iconst (-1), 1) := by decide +kernel
theorem dX1_changeSetting_10 : decode cX1_changeSetting 10 = .ok (.ireturn, 1) := by decide +kernel
theorem dX1_changeSetting_11 : decode cX1_changeSetting 11 = .ok (.iload_n 2, 1) := by decide +kernel
theorem dX1_changeSetting_12 : decode cX1_changeSetting 12 = .ok (.getstatic 93, 3) := by decide +kernel
theorem dX1_changeSetting_15 : decode cX1_changeSetting 15 = .ok (.iload_n 1, 1) := by decide +kernel
theorem dX1_changeSetting_16 : decode cX1_changeSetting 16 = .ok (.iaload, 1) := by decide +kernel
theorem dX1_changeSetting_17 : decode cX1_changeSetting 17 = .ok (.getstatic 96, 3) := by decide +kernel
theorem dX1_changeSetting_20 : decode cX1_changeSetting 20 = .ok (.iload_n 1, 1) := by decide +kernel
theorem dX1_changeSetting_21 : decode cX1_changeSetting 21 = .ok (.iaload, 1) := by decide +kernel
theorem dX1_changeSetting_22 : decode cX1_changeSetting 22 = .ok (.invokestatic 70, 3) := by decide +kernel
theorem dX1_changeSetting_25 : decode cX1_changeSetting 25 = .ok (.ifCond .ne 6, 3) := by decide +kernel
theorem dX1_changeSetting_28 : decode cX1_changeSetting 28 = .ok (.bipush (-2), 2) := by decide +kernel
theorem dX1_changeSetting_30 : decode cX1_changeSetting 30 = .ok (.ireturn, 1) := by decide +kernel
theorem dX1_changeSetting_31 : decode cX1_changeSetting 31 = .ok (.aload_n 0, 1) := by decide +kernel
theorem dX1_changeSetting_32 : decode cX1_changeSetting 32 = .ok (.getfield 30, 3) := by decide +kernel
theorem dX1_changeSetting_35 : decode cX1_changeSetting 35 = .ok (.iload_n 1, 1) := by decide +kernel
theorem dX1_changeSetting_36 : decode cX1_changeSetting 36 = .ok (.iaload, 1) := by decide +kernel
theorem dX1_changeSetting_37 : decode cX1_changeSetting 37 = .ok (.istore_n 3, 1) := by decide +kernel
theorem dX1_changeSetting_38 : decode cX1_changeSetting 38 = .ok (.iload_n 3, 1) := by decide +kernel
theorem dX1_changeSetting_39 : decode cX1_changeSetting 39 = .ok (.iload_n 2, 1) := by decide +kernel
theorem dX1_changeSetting_40 : decode cX1_changeSetting 40 = .ok (.if_icmp .ne 6, 3) := by decide +kernel
theorem dX1_changeSetting_43 : decode cX1_changeSetting 43 = .ok (.bipush (-5), 2) := by decide +kernel
theorem dX1_changeSetting_45 : decode cX1_changeSetting 45 = .ok (.ireturn, 1) := by decide +kernel
theorem dX1_changeSetting_46 : decode cX1_changeSetting 46 = .ok (.aload_n 0, 1) := by decide +kernel
theorem dX1_changeSetting_47 : decode cX1_changeSetting 47 = .ok (.getfield 30, 3) := by decide +kernel
theorem dX1_changeSetting_50 : decode cX1_changeSetting 50 = .ok (.iload_n 1, 1) := by decide +kernel
theorem dX1_changeSetting_51 : decode cX1_changeSetting 51 = .ok (.iload_n 2, 1) := by decide +kernel
theorem dX1_changeSetting_52 : decode cX1_changeSetting 52 = .ok (.iastore, 1) := by decide +kernel
theorem dX1_changeSetting_53 : decode cX1_changeSetting 53 = .ok (.iload_n 3, 1) := by decide +kernel
theorem dX1_changeSetting_54 : decode cX1_changeSetting 54 = .ok (.ireturn, 1) := by decide +kernel
set_option maxRecDepth 20000 in
theorem ggX1_rain_X3_isGust : GoodIn wsX1_rain wsX3_isGust := goodIn_r _ [6, 7, 8, 5, 9] (by decide +kernel) (by decide +kernel)
set_option maxRecDepth 20000 in
theorem gX1_rain_X3_isGust_n99 : GoodIn wsX1_rain (wsX3_isGust) := ggX1_rain_X3_isGust
set_option maxRecDepth 20000 in
theorem ggX1_rain_X1_wetnessAfter : GoodIn wsX1_rain wsX1_wetnessAfter := goodIn_r _ [14, 2, 15, 16, 17, 18, 19, 20, 21, 13, 22, 23, 24, 25, 26, 1, 27, 28, 29, 30, 31, 32, 33, 34, 35, 36, 37, 38, 39, 40, 41, 42, 63, 64, 65, 66, 67, 68, 69, 70, 71, 72, 73, 74, 75, 76, 77, 78, 79] (by decide +kernel) (by decide +kernel)
set_option maxRecDepth 20000 in
theorem gX1_rain_X1_wetnessAfter : GoodIn wsX1_rain (wsV RX1 103 RX1 yX1_wetnessAfter wsX1_wetnessAfter) := goodIn_app (goodIn_of _ (by decide +kernel)) ggX1_rain_X1_wetnessAfter
set_option maxRecDepth 20000 in
theorem ggX1_rain_X1_removeSoaked : GoodIn wsX1_rain wsX1_removeSoaked := goodIn_r _ [46, 1, 2, 47, 48, 49, 50, 51, 13, 52, 53, 54, 27, 55, 56, 57, 58, 59, 60, 61, 62, 63, 64, 65, 66, 67, 68, 69, 70, 71, 72, 73, 74, 75, 76, 77, 78, 79] (by decide +kernel) (by decide +kernel)
set_option maxRecDepth 20000 in
theorem gX1_rain_X1_removeSoaked : GoodIn wsX1_rain (wsV RX1 107 RX1 yX1_removeSoaked wsX1_removeSoaked) := goodIn_app (goodIn_of _ (by decide +kernel)) ggX1_rain_X1_removeSoaked
theorem dX1_rain_0 : decode cX1_rain 0 = .ok (.iload_n 1, 1) := by decide +kernel
theorem dX1_rain_1 : decode cX1_rain 1 = .ok (.iload_n 2, 1) := by decide +kernel
theorem dX1_rain_2 : decode cX1_rain 2 = .ok (.invokestatic 99, 3) := by decide +kernel
theorem dX1_rain_5 : decode cX1_rain 5 = .ok (.ifCond .ne 6, 3) := by decide +kernel
theorem dX1_rain_8 : decode cX1_rain 8 = .ok (.bipush (-2), 2) := by decide +kernel
theorem dX1_rain_10 : decode cX1_rain 10 = .ok (.ireturn, 1) := by decide +kernel
theorem dX1_rain_11 : decode cX1_rain 11 = .ok (.aload_n 0, 1) := by decide +kernel
theorem dX1_rain_12 : decode cX1_rain 12 = .ok (.getfield 39, 3) := by decide +kernel
theorem dX1_rain_15 : decode cX1_rain 15 = .ok (.ifCond .ne 6, 3) := by decide +kernel
theorem dX1_rain_18 : decode cX1_rain 18 = .ok (.bipush (-5), 2) := by decide +kernel
theorem dX1_rain_20 : decode cX1_rain 20 = .ok (.ireturn, 1) := by decide +kernel
theorem dX1_rain_21 : decode cX1_rain 21 = .ok (.iconst 0, 1) := by decide +kernel
theorem dX1_rain_22 : decode cX1_rain 22 = .ok (.istore_n 3, 1) := by decide +kernel
theorem dX1_rain_23 : decode cX1_rain 23 = .ok (.iload_n 3, 1) := by decide +kernel
theorem dX1_rain_24 : decode cX1_rain 24 = .ok (.aload_n 0, 1) := by decide +kernel
theorem dX1_rain_25 : decode cX1_rain 25 = .ok (.getfield 39, 3) := by decide +kernel
theorem dX1_rain_28 : decode cX1_rain 28 = .ok (.if_icmp .ge 22, 3) := by decide +kernel
theorem dX1_rain_31 : decode cX1_rain 31 = .ok (.aload_n 0, 1) := by decide +kernel
theorem dX1_rain_32 : decode cX1_rain 32 = .ok (.getfield 15, 3) := by decide +kernel
theorem dX1_rain_35 : decode cX1_rain 35 = .ok (.iload_n 3, 1) := by decide +kernel
theorem dX1_rain_36 : decode cX1_rain 36 = .ok (.aload_n 0, 1) := by decide +kernel
theorem dX1_rain_37 : decode cX1_rain 37 = .ok (.iload_n 3, 1) := by decide +kernel
theorem dX1_rain_38 : decode cX1_rain 38 = .ok (.iload_n 1, 1) := by decide +kernel
theorem dX1_rain_39 : decode cX1_rain 39 = .ok (.iload_n 2, 1) := by decide +kernel
theorem dX1_rain_40 : decode cX1_rain 40 = .ok (.invokevirtual 103, 3) := by decide +kernel
theorem dX1_rain_43 : decode cX1_rain 43 = .ok (.iastore, 1) := by decide +kernel
theorem dX1_rain_44 : decode cX1_rain 44 = .ok (.iinc 3 1, 3) := by decide +kernel
theorem dX1_rain_47 : decode cX1_rain 47 = .ok (.goto (-24), 3) := by decide +kernel
theorem dX1_rain_50 : decode cX1_rain 50 = .ok (.aload_n 0, 1) := by decide +kernel
theorem dX1_rain_51 : decode cX1_rain 51 = .ok (.dup, 1) := by decide +kernel
theorem dX1_rain_52 : decode cX1_rain 52 = .ok (.getfield 64, 3) := by decide +kernel
theorem dX1_rain_55 : decode cX1_rain 55 = .ok (.iconst 1, 1) := by decide +kernel
theorem dX1_rain_56 : decode cX1_rain 56 = .ok (.iadd, 1) := by decide +kernel
theorem dX1_rain_57 : decode cX1_rain 57 = .ok (.putfield 64, 3) := by decide +kernel
theorem dX1_rain_60 : decode cX1_rain 60 = .ok (.aload_n 0, 1) := by decide +kernel
theorem dX1_rain_61 : decode cX1_rain 61 = .ok (.invokevirtual 107, 3) := by decide +kernel
theorem dX1_rain_64 : decode cX1_rain 64 = .ok (.ireturn, 1) := by decide +kernel
set_option maxRecDepth 20000 in
theorem ggX1_dry_X3_isWithin : GoodIn wsX1_dry wsX3_isWithin := goodIn_r _ [12] (by decide +kernel) (by decide +kernel)
set_option maxRecDepth 20000 in
theorem gX1_dry_X3_isWithin_n70 : GoodIn wsX1_dry (wsX3_isWithin) := ggX1_dry_X3_isWithin
theorem dX1_dry_0 : decode cX1_dry 0 = .ok (.iload_n 1, 1) := by decide +kernel
theorem dX1_dry_1 : decode cX1_dry 1 = .ok (.iconst 1, 1) := by decide +kernel
theorem dX1_dry_2 : decode cX1_dry 2 = .ok (.bipush 99, 2) := by decide +kernel
theorem dX1_dry_4 : decode cX1_dry 4 = .ok (.invokestatic 70, 3) := by decide +kernel
theorem dX1_dry_7 : decode cX1_dry 7 = .ok (.ifCond .ne 6, 3) := by decide +kernel
theorem dX1_dry_10 : decode cX1_dry 10 = .ok (.bipush (-2), 2) := by decide +kernel
theorem dX1_dry_12 : decode cX1_dry 12 = .ok (.ireturn, 1) := by decide +kernel
theorem dX1_dry_13 : decode cX1_dry 13 = .ok (.aload_n 0, 1) := by decide +kernel
theorem dX1_dry_14 : decode cX1_dry 14 = .ok (.getfield 67, 3) := by decide +kernel
theorem dX1_dry_17 : decode cX1_dry 17 = .ok (.iload_n 1, 1) := by decide +kernel
theorem dX1_dry_18 : decode cX1_dry 18 = .ok (.iadd, 1) := by decide +kernel
theorem dX1_dry_19 : decode cX1_dry 19 = .ok (.ldc 111, 2) := by decide +kernel
theorem dX1_dry_21 : decode cX1_dry 21 = .ok (.if_icmp .le 6, 3) := by decide +kernel
theorem dX1_dry_24 : decode cX1_dry 24 = .ok (.bipush (-3), 2) := by decide +kernel
theorem dX1_dry_26 : decode cX1_dry 26 = .ok (.ireturn, 1) := by decide +kernel
theorem dX1_dry_27 : decode cX1_dry 27 = .ok (.aload_n 0, 1) := by decide +kernel
theorem dX1_dry_28 : decode cX1_dry 28 = .ok (.dup, 1) := by decide +kernel
theorem dX1_dry_29 : decode cX1_dry 29 = .ok (.getfield 67, 3) := by decide +kernel
theorem dX1_dry_32 : decode cX1_dry 32 = .ok (.iload_n 1, 1) := by decide +kernel
theorem dX1_dry_33 : decode cX1_dry 33 = .ok (.iadd, 1) := by decide +kernel
theorem dX1_dry_34 : decode cX1_dry 34 = .ok (.putfield 67, 3) := by decide +kernel
theorem dX1_dry_37 : decode cX1_dry 37 = .ok (.iconst 0, 1) := by decide +kernel
theorem dX1_dry_38 : decode cX1_dry 38 = .ok (.istore_n 2, 1) := by decide +kernel
theorem dX1_dry_39 : decode cX1_dry 39 = .ok (.iconst 0, 1) := by decide +kernel
theorem dX1_dry_40 : decode cX1_dry 40 = .ok (.istore_n 3, 1) := by decide +kernel
theorem dX1_dry_41 : decode cX1_dry 41 = .ok (.iload_n 3, 1) := by decide +kernel
theorem dX1_dry_42 : decode cX1_dry 42 = .ok (.aload_n 0, 1) := by decide +kernel
theorem dX1_dry_43 : decode cX1_dry 43 = .ok (.getfield 39, 3) := by decide +kernel
theorem dX1_dry_46 : decode cX1_dry 46 = .ok (.if_icmp .ge 46, 3) := by decide +kernel
theorem dX1_dry_49 : decode cX1_dry 49 = .ok (.aload_n 0, 1) := by decide +kernel
theorem dX1_dry_50 : decode cX1_dry 50 = .ok (.getfield 15, 3) := by decide +kernel
theorem dX1_dry_53 : decode cX1_dry 53 = .ok (.iload_n 3, 1) := by decide +kernel
theorem dX1_dry_54 : decode cX1_dry 54 = .ok (.iconst 0, 1) := by decide +kernel
theorem dX1_dry_55 : decode cX1_dry 55 = .ok (.aload_n 0, 1) := by decide +kernel
theorem dX1_dry_56 : decode cX1_dry 56 = .ok (.getfield 15, 3) := by decide +kernel
theorem dX1_dry_59 : decode cX1_dry 59 = .ok (.iload_n 3, 1) := by decide +kernel
theorem dX1_dry_60 : decode cX1_dry 60 = .ok (.iaload, 1) := by decide +kernel
theorem dX1_dry_61 : decode cX1_dry 61 = .ok (.iload_n 1, 1) := by decide +kernel
theorem dX1_dry_62 : decode cX1_dry 62 = .ok (.aload_n 0, 1) := by decide +kernel
theorem dX1_dry_63 : decode cX1_dry 63 = .ok (.getfield 30, 3) := by decide +kernel
theorem dX1_dry_66 : decode cX1_dry 66 = .ok (.iconst 0, 1) := by decide +kernel
theorem dX1_dry_67 : decode cX1_dry 67 = .ok (.iaload, 1) := by decide +kernel
theorem dX1_dry_68 : decode cX1_dry 68 = .ok (.imul, 1) := by decide +kernel
theorem dX1_dry_69 : decode cX1_dry 69 = .ok (.isub, 1) := by decide +kernel
theorem dX1_dry_70 : decode cX1_dry 70 = .ok (.invokestatic 112, 3) := by decide +kernel
theorem dX1_dry_73 : decode cX1_dry 73 = .ok (.iastore, 1) := by decide +kernel
theorem dX1_dry_74 : decode cX1_dry 74 = .ok (.aload_n 0, 1) := by decide +kernel
theorem dX1_dry_75 : decode cX1_dry 75 = .ok (.getfield 15, 3) := by decide +kernel
theorem dX1_dry_78 : decode cX1_dry 78 = .ok (.iload_n 3, 1) := by decide +kernel
theorem dX1_dry_79 : decode cX1_dry 79 = .ok (.iaload, 1) := by decide +kernel
theorem dX1_dry_80 : decode cX1_dry 80 = .ok (.ifCond .ne 6, 3) := by decide +kernel
theorem dX1_dry_83 : decode cX1_dry 83 = .ok (.iinc 2 1, 3) := by decide +kernel
theorem dX1_dry_86 : decode cX1_dry 86 = .ok (.iinc 3 1, 3) := by decide +kernel
theorem dX1_dry_89 : decode cX1_dry 89 = .ok (.goto (-48), 3) := by decide +kernel
theorem dX1_dry_92 : decode cX1_dry 92 = .ok (.iload_n 2, 1) := by decide +kernel
theorem dX1_dry_93 : decode cX1_dry 93 = .ok (.ireturn, 1) := by decide +kernel
set_option maxRecDepth 20000 in
theorem ggX1_serveFirst_X1_peopleToServe : GoodIn wsX1_serveFirst wsX1_peopleToServe := goodIn_r _ [9, 1, 10, 11, 12, 13, 14, 44, 45, 46, 47, 48, 49, 50, 51, 52, 53, 54, 55, 56, 57, 58, 59, 60] (by decide +kernel) (by decide +kernel)
set_option maxRecDepth 20000 in
theorem gX1_serveFirst_X1_peopleToServe : GoodIn wsX1_serveFirst (wsV RX1 118 RX1 yX1_peopleToServe wsX1_peopleToServe) := goodIn_app (goodIn_of _ (by decide +kernel)) ggX1_serveFirst_X1_peopleToServe
set_option maxRecDepth 20000 in
theorem ggX1_serveFirst_X1_driestToServe : GoodIn wsX1_serveFirst wsX1_driestToServe := goodIn_r _ [18, 19, 5, 6, 7, 8, 9, 1, 10, 11, 12, 13, 14, 44, 45, 46, 47, 48, 49, 50, 51, 52, 53, 54, 55, 56, 57, 58, 59, 60] (by decide +kernel) (by decide +kernel)
set_option maxRecDepth 20000 in
theorem gX1_serveFirst_X1_driestToServe : GoodIn wsX1_serveFirst (wsV RX1 121 RX1 yX1_driestToServe wsX1_driestToServe) := goodIn_app (goodIn_of _ (by decide +kernel)) ggX1_serveFirst_X1_driestToServe
set_option maxRecDepth 20000 in
theorem ggX1_serveFirst_X1_paidFrom : GoodIn wsX1_serveFirst wsX1_paidFrom := goodIn_r _ [23, 24, 11, 12, 13, 14, 25, 26, 27, 8, 28, 10, 5, 6, 7, 9, 1, 44, 45, 46, 47, 48, 49, 50, 51, 52, 53, 54, 55, 56, 57, 58, 59, 60] (by decide +kernel) (by decide +kernel)
set_option maxRecDepth 20000 in
theorem gX1_serveFirst_X1_paidFrom : GoodIn wsX1_serveFirst (wsV RX1 124 RX1 yX1_paidFrom wsX1_paidFrom) := goodIn_app (goodIn_of _ (by decide +kernel)) ggX1_serveFirst_X1_paidFrom
set_option maxRecDepth 20000 in
theorem ggX1_serveFirst_X1_fareForAll : GoodIn wsX1_serveFirst wsX1_fareForAll := goodIn_r _ [28, 10, 5, 6, 7, 8, 9, 1, 11, 12, 13, 14, 44, 45, 46, 47, 48, 49, 50, 51, 52, 53, 54, 55, 56, 57, 58, 59, 60] (by decide +kernel) (by decide +kernel)
set_option maxRecDepth 20000 in
theorem gX1_serveFirst_X1_fareForAll : GoodIn wsX1_serveFirst (wsV RX1 127 RX1 yX1_fareForAll wsX1_fareForAll) := goodIn_app (goodIn_of _ (by decide +kernel)) ggX1_serveFirst_X1_fareForAll
set_option maxRecDepth 20000 in
theorem ggX1_serveFirst_X1_remove : GoodIn wsX1_serveFirst wsX1_remove := goodIn_r _ [32, 33, 19, 34, 24, 35, 36, 1, 37, 38, 8, 39, 40, 41, 42, 43, 44, 45, 46, 47, 48, 49, 50, 51, 52, 53, 54, 55, 56, 57, 58, 59, 60] (by decide +kernel) (by decide +kernel)
set_option maxRecDepth 20000 in
theorem gX1_serveFirst_X1_remove : GoodIn wsX1_serveFirst (wsV RX1 78 RX1 yX1_remove wsX1_remove) := goodIn_app (goodIn_of _ (by decide +kernel)) ggX1_serveFirst_X1_remove
theorem dX1_serveFirst_0 : decode cX1_serveFirst 0 = .ok (.aload_n 0, 1) := by decide +kernel
theorem dX1_serveFirst_1 : decode cX1_serveFirst 1 = .ok (.getfield 39, 3) := by decide +kernel
theorem dX1_serveFirst_4 : decode cX1_serveFirst 4 = .ok (.ifCond .ne 6, 3) := by decide +kernel
theorem dX1_serveFirst_7 : decode cX1_serveFirst 7 = .ok (.bipush (-5), 2) := by decide +kernel
theorem dX1_serveFirst_9 : decode cX1_serveFirst 9 = .ok (.ireturn, 1) := by decide +kernel
theorem dX1_serveFirst_10 : decode cX1_serveFirst 10 = .ok (.aload_n 0, 1) := by decide +kernel
theorem dX1_serveFirst_11 : decode cX1_serveFirst 11 = .ok (.invokevirtual 118, 3) := by decide +kernel
theorem dX1_serveFirst_14 : decode cX1_serveFirst 14 = .ok (.istore_n 1, 1) := by decide +kernel
theorem dX1_serveFirst_15 : decode cX1_serveFirst 15 = .ok (.aload_n 0, 1) := by decide +kernel
theorem dX1_serveFirst_16 : decode cX1_serveFirst 16 = .ok (.aload_n 0, 1) := by decide +kernel
theorem dX1_serveFirst_17 : decode cX1_serveFirst 17 = .ok (.invokevirtual 121, 3) := by decide +kernel
theorem dX1_serveFirst_20 : decode cX1_serveFirst 20 = .ok (.invokevirtual 124, 3) := by decide +kernel
theorem dX1_serveFirst_23 : decode cX1_serveFirst 23 = .ok (.istore_n 2, 1) := by decide +kernel
theorem dX1_serveFirst_24 : decode cX1_serveFirst 24 = .ok (.aload_n 0, 1) := by decide +kernel
theorem dX1_serveFirst_25 : decode cX1_serveFirst 25 = .ok (.dup, 1) := by decide +kernel
theorem dX1_serveFirst_26 : decode cX1_serveFirst 26 = .ok (.getfield 55, 3) := by decide +kernel
theorem dX1_serveFirst_29 : decode cX1_serveFirst 29 = .ok (.iload_n 2, 1) := by decide +kernel
theorem dX1_serveFirst_30 : decode cX1_serveFirst 30 = .ok (.iadd, 1) := by decide +kernel
theorem dX1_serveFirst_31 : decode cX1_serveFirst 31 = .ok (.putfield 55, 3) := by decide +kernel
theorem dX1_serveFirst_34 : decode cX1_serveFirst 34 = .ok (.aload_n 0, 1) := by decide +kernel
theorem dX1_serveFirst_35 : decode cX1_serveFirst 35 = .ok (.dup, 1) := by decide +kernel
theorem dX1_serveFirst_36 : decode cX1_serveFirst 36 = .ok (.getfield 58, 3) := by decide +kernel
theorem dX1_serveFirst_39 : decode cX1_serveFirst 39 = .ok (.aload_n 0, 1) := by decide +kernel
theorem dX1_serveFirst_40 : decode cX1_serveFirst 40 = .ok (.invokevirtual 127, 3) := by decide +kernel
theorem dX1_serveFirst_43 : decode cX1_serveFirst 43 = .ok (.iload_n 2, 1) := by decide +kernel
theorem dX1_serveFirst_44 : decode cX1_serveFirst 44 = .ok (.isub, 1) := by decide +kernel
theorem dX1_serveFirst_45 : decode cX1_serveFirst 45 = .ok (.iadd, 1) := by decide +kernel
theorem dX1_serveFirst_46 : decode cX1_serveFirst 46 = .ok (.putfield 58, 3) := by decide +kernel
theorem dX1_serveFirst_49 : decode cX1_serveFirst 49 = .ok (.aload_n 0, 1) := by decide +kernel
theorem dX1_serveFirst_50 : decode cX1_serveFirst 50 = .ok (.dup, 1) := by decide +kernel
theorem dX1_serveFirst_51 : decode cX1_serveFirst 51 = .ok (.getfield 52, 3) := by decide +kernel
theorem dX1_serveFirst_54 : decode cX1_serveFirst 54 = .ok (.iload_n 1, 1) := by decide +kernel
theorem dX1_serveFirst_55 : decode cX1_serveFirst 55 = .ok (.iadd, 1) := by decide +kernel
theorem dX1_serveFirst_56 : decode cX1_serveFirst 56 = .ok (.putfield 52, 3) := by decide +kernel
theorem dX1_serveFirst_59 : decode cX1_serveFirst 59 = .ok (.iload_n 1, 1) := by decide +kernel
theorem dX1_serveFirst_60 : decode cX1_serveFirst 60 = .ok (.iconst 1, 1) := by decide +kernel
theorem dX1_serveFirst_61 : decode cX1_serveFirst 61 = .ok (.isub, 1) := by decide +kernel
theorem dX1_serveFirst_62 : decode cX1_serveFirst 62 = .ok (.istore_n 3, 1) := by decide +kernel
theorem dX1_serveFirst_63 : decode cX1_serveFirst 63 = .ok (.iload_n 3, 1) := by decide +kernel
theorem dX1_serveFirst_64 : decode cX1_serveFirst 64 = .ok (.ifCond .lt 14, 3) := by decide +kernel
theorem dX1_serveFirst_67 : decode cX1_serveFirst 67 = .ok (.aload_n 0, 1) := by decide +kernel
theorem dX1_serveFirst_68 : decode cX1_serveFirst 68 = .ok (.iload_n 3, 1) := by decide +kernel
theorem dX1_serveFirst_69 : decode cX1_serveFirst 69 = .ok (.invokevirtual 78, 3) := by decide +kernel
theorem dX1_serveFirst_72 : decode cX1_serveFirst 72 = .ok (.iinc 3 (-1), 3) := by decide +kernel
theorem dX1_serveFirst_75 : decode cX1_serveFirst 75 = .ok (.goto (-12), 3) := by decide +kernel
theorem dX1_serveFirst_78 : decode cX1_serveFirst 78 = .ok (.iload_n 2, 1) := by decide +kernel
theorem dX1_serveFirst_79 : decode cX1_serveFirst 79 = .ok (.ireturn, 1) := by decide +kernel
set_option maxRecDepth 20000 in
theorem ggX1_removeSoaked_X1_remove : GoodIn wsX1_removeSoaked wsX1_remove := goodIn_r _ [9, 10, 2, 3, 11, 12, 13, 1, 14, 15, 8, 16, 17, 18, 19, 20, 21, 22, 23, 24, 25, 26, 27, 28, 29, 30, 31, 32, 33, 34, 35, 36, 37] (by decide +kernel) (by decide +kernel)
set_option maxRecDepth 20000 in
theorem gX1_removeSoaked_X1_remove : GoodIn wsX1_removeSoaked (wsV RX1 78 RX1 yX1_remove wsX1_remove) := goodIn_app (goodIn_of _ (by decide +kernel)) ggX1_removeSoaked_X1_remove
theorem dX1_removeSoaked_0 : decode cX1_removeSoaked 0 = .ok (.aload_n 0, 1) := by decide +kernel
theorem dX1_removeSoaked_1 : decode cX1_removeSoaked 1 = .ok (.getfield 39, 3) := by decide +kernel
theorem dX1_removeSoaked_4 : decode cX1_removeSoaked 4 = .ok (.istore_n 1, 1) := by decide +kernel
theorem dX1_removeSoaked_5 : decode cX1_removeSoaked 5 = .ok (.aload_n 0, 1) := by decide +kernel
theorem dX1_removeSoaked_6 : decode cX1_removeSoaked 6 = .ok (.getfield 39, 3) := by decide +kernel
theorem dX1_removeSoaked_9 : decode cX1_removeSoaked 9 = .ok (.iconst 1, 1) := by decide +kernel
theorem dX1_removeSoaked_10 : decode cX1_removeSoaked 10 = .ok (.isub, 1) := by decide +kernel
theorem dX1_removeSoaked_11 : decode cX1_removeSoaked 11 = .ok (.istore_n 2, 1) := by decide +kernel
theorem dX1_removeSoaked_12 : decode cX1_removeSoaked 12 = .ok (.iload_n 2, 1) := by decide +kernel
theorem dX1_removeSoaked_13 : decode cX1_removeSoaked 13 = .ok (.ifCond .lt 29, 3) := by decide +kernel
theorem dX1_removeSoaked_16 : decode cX1_removeSoaked 16 = .ok (.aload_n 0, 1) := by decide +kernel
theorem dX1_removeSoaked_17 : decode cX1_removeSoaked 17 = .ok (.getfield 15, 3) := by decide +kernel
theorem dX1_removeSoaked_20 : decode cX1_removeSoaked 20 = .ok (.iload_n 2, 1) := by decide +kernel
theorem dX1_removeSoaked_21 : decode cX1_removeSoaked 21 = .ok (.iaload, 1) := by decide +kernel
theorem dX1_removeSoaked_22 : decode cX1_removeSoaked 22 = .ok (.aload_n 0, 1) := by decide +kernel
theorem dX1_removeSoaked_23 : decode cX1_removeSoaked 23 = .ok (.getfield 18, 3) := by decide +kernel
theorem dX1_removeSoaked_26 : decode cX1_removeSoaked 26 = .ok (.iload_n 2, 1) := by decide +kernel
theorem dX1_removeSoaked_27 : decode cX1_removeSoaked 27 = .ok (.iaload, 1) := by decide +kernel
theorem dX1_removeSoaked_28 : decode cX1_removeSoaked 28 = .ok (.if_icmp .le 8, 3) := by decide +kernel
theorem dX1_removeSoaked_31 : decode cX1_removeSoaked 31 = .ok (.aload_n 0, 1) := by decide +kernel
theorem dX1_removeSoaked_32 : decode cX1_removeSoaked 32 = .ok (.iload_n 2, 1) := by decide +kernel
theorem dX1_removeSoaked_33 : decode cX1_removeSoaked 33 = .ok (.invokevirtual 78, 3) := by decide +kernel
theorem dX1_removeSoaked_36 : decode cX1_removeSoaked 36 = .ok (.iinc 2 (-1), 3) := by decide +kernel
theorem dX1_removeSoaked_39 : decode cX1_removeSoaked 39 = .ok (.goto (-27), 3) := by decide +kernel
theorem dX1_removeSoaked_42 : decode cX1_removeSoaked 42 = .ok (.aload_n 0, 1) := by decide +kernel
theorem dX1_removeSoaked_43 : decode cX1_removeSoaked 43 = .ok (.dup, 1) := by decide +kernel
theorem dX1_removeSoaked_44 : decode cX1_removeSoaked 44 = .ok (.getfield 49, 3) := by decide +kernel
theorem dX1_removeSoaked_47 : decode cX1_removeSoaked 47 = .ok (.iload_n 1, 1) := by decide +kernel
theorem dX1_removeSoaked_48 : decode cX1_removeSoaked 48 = .ok (.aload_n 0, 1) := by decide +kernel
theorem dX1_removeSoaked_49 : decode cX1_removeSoaked 49 = .ok (.getfield 39, 3) := by decide +kernel
theorem dX1_removeSoaked_52 : decode cX1_removeSoaked 52 = .ok (.isub, 1) := by decide +kernel
theorem dX1_removeSoaked_53 : decode cX1_removeSoaked 53 = .ok (.iadd, 1) := by decide +kernel
theorem dX1_removeSoaked_54 : decode cX1_removeSoaked 54 = .ok (.putfield 49, 3) := by decide +kernel
theorem dX1_removeSoaked_57 : decode cX1_removeSoaked 57 = .ok (.iload_n 1, 1) := by decide +kernel
theorem dX1_removeSoaked_58 : decode cX1_removeSoaked 58 = .ok (.aload_n 0, 1) := by decide +kernel
theorem dX1_removeSoaked_59 : decode cX1_removeSoaked 59 = .ok (.getfield 39, 3) := by decide +kernel
theorem dX1_removeSoaked_62 : decode cX1_removeSoaked 62 = .ok (.isub, 1) := by decide +kernel
theorem dX1_removeSoaked_63 : decode cX1_removeSoaked 63 = .ok (.ireturn, 1) := by decide +kernel
set_option maxRecDepth 20000 in
theorem ggX1_remove_X1_closeGap : GoodIn wsX1_remove wsX1_closeGap := goodIn_r _ [11, 12, 13, 14, 15] (by decide +kernel) (by decide +kernel)
set_option maxRecDepth 20000 in
theorem gX1_remove_X1_closeGap : GoodIn wsX1_remove (va_wsS RX1 130 yX1_closeGap wsX1_closeGap) := goodIn_app (goodIn_of _ (by decide +kernel)) ggX1_remove_X1_closeGap
theorem dX1_remove_0 : decode cX1_remove 0 = .ok (.aload_n 0, 1) := by decide +kernel
theorem dX1_remove_1 : decode cX1_remove 1 = .ok (.getfield 9, 3) := by decide +kernel
theorem dX1_remove_4 : decode cX1_remove 4 = .ok (.iload_n 1, 1) := by decide +kernel
theorem dX1_remove_5 : decode cX1_remove 5 = .ok (.invokestatic 130, 3) := by decide +kernel
theorem dX1_remove_8 : decode cX1_remove 8 = .ok (.aload_n 0, 1) := by decide +kernel
theorem dX1_remove_9 : decode cX1_remove 9 = .ok (.getfield 15, 3) := by decide +kernel
theorem dX1_remove_12 : decode cX1_remove 12 = .ok (.iload_n 1, 1) := by decide +kernel
theorem dX1_remove_13 : decode cX1_remove 13 = .ok (.invokestatic 130, 3) := by decide +kernel
theorem dX1_remove_16 : decode cX1_remove 16 = .ok (.aload_n 0, 1) := by decide +kernel
theorem dX1_remove_17 : decode cX1_remove 17 = .ok (.getfield 18, 3) := by decide +kernel
theorem dX1_remove_20 : decode cX1_remove 20 = .ok (.iload_n 1, 1) := by decide +kernel
theorem dX1_remove_21 : decode cX1_remove 21 = .ok (.invokestatic 130, 3) := by decide +kernel
theorem dX1_remove_24 : decode cX1_remove 24 = .ok (.aload_n 0, 1) := by decide +kernel
theorem dX1_remove_25 : decode cX1_remove 25 = .ok (.getfield 21, 3) := by decide +kernel
theorem dX1_remove_28 : decode cX1_remove 28 = .ok (.iload_n 1, 1) := by decide +kernel
theorem dX1_remove_29 : decode cX1_remove 29 = .ok (.invokestatic 130, 3) := by decide +kernel
theorem dX1_remove_32 : decode cX1_remove 32 = .ok (.aload_n 0, 1) := by decide +kernel
theorem dX1_remove_33 : decode cX1_remove 33 = .ok (.getfield 24, 3) := by decide +kernel
theorem dX1_remove_36 : decode cX1_remove 36 = .ok (.iload_n 1, 1) := by decide +kernel
theorem dX1_remove_37 : decode cX1_remove 37 = .ok (.invokestatic 130, 3) := by decide +kernel
theorem dX1_remove_40 : decode cX1_remove 40 = .ok (.aload_n 0, 1) := by decide +kernel
theorem dX1_remove_41 : decode cX1_remove 41 = .ok (.getfield 27, 3) := by decide +kernel
theorem dX1_remove_44 : decode cX1_remove 44 = .ok (.iload_n 1, 1) := by decide +kernel
theorem dX1_remove_45 : decode cX1_remove 45 = .ok (.invokestatic 130, 3) := by decide +kernel
theorem dX1_remove_48 : decode cX1_remove 48 = .ok (.aload_n 0, 1) := by decide +kernel
theorem dX1_remove_49 : decode cX1_remove 49 = .ok (.dup, 1) := by decide +kernel
theorem dX1_remove_50 : decode cX1_remove 50 = .ok (.getfield 39, 3) := by decide +kernel
theorem dX1_remove_53 : decode cX1_remove 53 = .ok (.iconst 1, 1) := by decide +kernel
theorem dX1_remove_54 : decode cX1_remove 54 = .ok (.isub, 1) := by decide +kernel
theorem dX1_remove_55 : decode cX1_remove 55 = .ok (.putfield 39, 3) := by decide +kernel
theorem dX1_remove_58 : decode cX1_remove 58 = .ok (.return_, 1) := by decide +kernel
theorem dX1_closeGap_0 : decode cX1_closeGap 0 = .ok (.aload_n 0, 1) := by decide +kernel
theorem dX1_closeGap_1 : decode cX1_closeGap 1 = .ok (.iload_n 1, 1) := by decide +kernel
theorem dX1_closeGap_2 : decode cX1_closeGap 2 = .ok (.iconst 1, 1) := by decide +kernel
theorem dX1_closeGap_3 : decode cX1_closeGap 3 = .ok (.iadd, 1) := by decide +kernel
theorem dX1_closeGap_4 : decode cX1_closeGap 4 = .ok (.aload_n 0, 1) := by decide +kernel
theorem dX1_closeGap_5 : decode cX1_closeGap 5 = .ok (.iload_n 1, 1) := by decide +kernel
theorem dX1_closeGap_6 : decode cX1_closeGap 6 = .ok (.bipush 15, 2) := by decide +kernel
theorem dX1_closeGap_8 : decode cX1_closeGap 8 = .ok (.iload_n 1, 1) := by decide +kernel
theorem dX1_closeGap_9 : decode cX1_closeGap 9 = .ok (.isub, 1) := by decide +kernel
theorem dX1_closeGap_10 : decode cX1_closeGap 10 = .ok (.invokestatic 33, 3) := by decide +kernel
theorem dX1_closeGap_13 : decode cX1_closeGap 13 = .ok (.return_, 1) := by decide +kernel
theorem dX1_exchange_0 : decode cX1_exchange 0 = .ok (.aload_n 0, 1) := by decide +kernel
theorem dX1_exchange_1 : decode cX1_exchange 1 = .ok (.iload_n 1, 1) := by decide +kernel
theorem dX1_exchange_2 : decode cX1_exchange 2 = .ok (.iaload, 1) := by decide +kernel
theorem dX1_exchange_3 : decode cX1_exchange 3 = .ok (.istore_n 2, 1) := by decide +kernel
theorem dX1_exchange_4 : decode cX1_exchange 4 = .ok (.aload_n 0, 1) := by decide +kernel
theorem dX1_exchange_5 : decode cX1_exchange 5 = .ok (.iload_n 1, 1) := by decide +kernel
theorem dX1_exchange_6 : decode cX1_exchange 6 = .ok (.aload_n 0, 1) := by decide +kernel
theorem dX1_exchange_7 : decode cX1_exchange 7 = .ok (.iload_n 1, 1) := by decide +kernel
theorem dX1_exchange_8 : decode cX1_exchange 8 = .ok (.iconst 1, 1) := by decide +kernel
theorem dX1_exchange_9 : decode cX1_exchange 9 = .ok (.iadd, 1) := by decide +kernel
theorem dX1_exchange_10 : decode cX1_exchange 10 = .ok (.iaload, 1) := by decide +kernel
theorem dX1_exchange_11 : decode cX1_exchange 11 = .ok (.iastore, 1) := by decide +kernel
theorem dX1_exchange_12 : decode cX1_exchange 12 = .ok (.aload_n 0, 1) := by decide +kernel
theorem dX1_exchange_13 : decode cX1_exchange 13 = .ok (.iload_n 1, 1) := by decide +kernel
theorem dX1_exchange_14 : decode cX1_exchange 14 = .ok (.iconst 1, 1) := by decide +kernel
theorem dX1_exchange_15 : decode cX1_exchange 15 = .ok (.iadd, 1) := by decide +kernel
theorem dX1_exchange_16 : decode cX1_exchange 16 = .ok (.iload_n 2, 1) := by decide +kernel
theorem dX1_exchange_17 : decode cX1_exchange 17 = .ok (.iastore, 1) := by decide +kernel
theorem dX1_exchange_18 : decode cX1_exchange 18 = .ok (.return_, 1) := by decide +kernel
theorem dX1_leastReached_0 : decode cX1_leastReached 0 = .ok (.iconst 0, 1) := by decide +kernel
theorem dX1_leastReached_1 : decode cX1_leastReached 1 = .ok (.iload_n 1, 1) := by decide +kernel
theorem dX1_leastReached_2 : decode cX1_leastReached 2 = .ok (.aload_n 0, 1) := by decide +kernel
theorem dX1_leastReached_3 : decode cX1_leastReached 3 = .ok (.getfield 24, 3) := by decide +kernel
theorem dX1_leastReached_6 : decode cX1_leastReached 6 = .ok (.iload_n 1, 1) := by decide +kernel
theorem dX1_leastReached_7 : decode cX1_leastReached 7 = .ok (.iaload, 1) := by decide +kernel
theorem dX1_leastReached_8 : decode cX1_leastReached 8 = .ok (.iconst 2, 1) := by decide +kernel
theorem dX1_leastReached_9 : decode cX1_leastReached 9 = .ok (.idiv, 1) := by decide +kernel
theorem dX1_leastReached_10 : decode cX1_leastReached 10 = .ok (.isub, 1) := by decide +kernel
theorem dX1_leastReached_11 : decode cX1_leastReached 11 = .ok (.invokestatic 112, 3) := by decide +kernel
theorem dX1_leastReached_14 : decode cX1_leastReached 14 = .ok (.ireturn, 1) := by decide +kernel
theorem dX1_greatestReached_0 : decode cX1_greatestReached 0 = .ok (.aload_n 0, 1) := by decide +kernel
theorem dX1_greatestReached_1 : decode cX1_greatestReached 1 = .ok (.getfield 39, 3) := by decide +kernel
theorem dX1_greatestReached_4 : decode cX1_greatestReached 4 = .ok (.iconst 1, 1) := by decide +kernel
theorem dX1_greatestReached_5 : decode cX1_greatestReached 5 = .ok (.isub, 1) := by decide +kernel
theorem dX1_greatestReached_6 : decode cX1_greatestReached 6 = .ok (.iload_n 1, 1) := by decide +kernel
theorem dX1_greatestReached_7 : decode cX1_greatestReached 7 = .ok (.aload_n 0, 1) := by decide +kernel
theorem dX1_greatestReached_8 : decode cX1_greatestReached 8 = .ok (.getfield 24, 3) := by decide +kernel
theorem dX1_greatestReached_11 : decode cX1_greatestReached 11 = .ok (.iload_n 1, 1) := by decide +kernel
theorem dX1_greatestReached_12 : decode cX1_greatestReached 12 = .ok (.iaload, 1) := by decide +kernel
theorem dX1_greatestReached_13 : decode cX1_greatestReached 13 = .ok (.iconst 1, 1) := by decide +kernel
theorem dX1_greatestReached_14 : decode cX1_greatestReached 14 = .ok (.isub, 1) := by decide +kernel
theorem dX1_greatestReached_15 : decode cX1_greatestReached 15 = .ok (.iconst 2, 1) := by decide +kernel
theorem dX1_greatestReached_16 : decode cX1_greatestReached 16 = .ok (.idiv, 1) := by decide +kernel
theorem dX1_greatestReached_17 : decode cX1_greatestReached 17 = .ok (.iadd, 1) := by decide +kernel
theorem dX1_greatestReached_18 : decode cX1_greatestReached 18 = .ok (.invokestatic 133, 3) := by decide +kernel
theorem dX1_greatestReached_21 : decode cX1_greatestReached 21 = .ok (.ireturn, 1) := by decide +kernel
set_option maxRecDepth 20000 in
theorem ggX1_umbrellasOver_X1_leastReached : GoodIn wsX1_umbrellasOver wsX1_leastReached := goodIn_r _ [7, 2, 8, 9, 10, 11, 22, 23, 24, 25, 26, 27, 28, 29, 30, 31, 32, 33, 34, 35, 36, 37, 38] (by decide +kernel) (by decide +kernel)
set_option maxRecDepth 20000 in
theorem gX1_umbrellasOver_X1_leastReached : GoodIn wsX1_umbrellasOver (wsV RX1 136 RX1 yX1_leastReached wsX1_leastReached) := goodIn_app (goodIn_of _ (by decide +kernel)) ggX1_umbrellasOver_X1_leastReached
set_option maxRecDepth 20000 in
theorem ggX1_umbrellasOver_X1_greatestReached : GoodIn wsX1_umbrellasOver wsX1_greatestReached := goodIn_r _ [15, 1, 2, 16, 17, 10, 18, 22, 23, 24, 25, 26, 27, 28, 29, 30, 31, 32, 33, 34, 35, 36, 37, 38] (by decide +kernel) (by decide +kernel)
set_option maxRecDepth 20000 in
theorem gX1_umbrellasOver_X1_greatestReached : GoodIn wsX1_umbrellasOver (wsV RX1 139 RX1 yX1_greatestReached wsX1_greatestReached) := goodIn_app (goodIn_of _ (by decide +kernel)) ggX1_umbrellasOver_X1_greatestReached
set_option maxRecDepth 20000 in
theorem ggX1_umbrellasOver_X3_isWithin : GoodIn wsX1_umbrellasOver wsX3_isWithin := goodIn_r _ [21] (by decide +kernel) (by decide +kernel)
set_option maxRecDepth 20000 in
theorem gX1_umbrellasOver_X3_isWithin_n70 : GoodIn wsX1_umbrellasOver (wsX3_isWithin) := ggX1_umbrellasOver_X3_isWithin
theorem dX1_umbrellasOver_0 : decode cX1_umbrellasOver 0 = .ok (.iconst 0, 1) := by decide +kernel
theorem dX1_umbrellasOver_1 : decode cX1_umbrellasOver 1 = .ok (.istore_n 2, 1) := by decide +kernel
theorem dX1_umbrellasOver_2 : decode cX1_umbrellasOver 2 = .ok (.iconst 0, 1) := by decide +kernel
theorem dX1_umbrellasOver_3 : decode cX1_umbrellasOver 3 = .ok (.istore_n 3, 1) := by decide +kernel
theorem dX1_umbrellasOver_4 : decode cX1_umbrellasOver 4 = .ok (.iload_n 3, 1) := by decide +kernel
theorem dX1_umbrellasOver_5 : decode cX1_umbrellasOver 5 = .ok (.aload_n 0, 1) := by decide +kernel
theorem dX1_umbrellasOver_6 : decode cX1_umbrellasOver 6 = .ok (.getfield 39, 3) := by decide +kernel
theorem dX1_umbrellasOver_9 : decode cX1_umbrellasOver 9 = .ok (.if_icmp .ge 38, 3) := by decide +kernel
theorem dX1_umbrellasOver_12 : decode cX1_umbrellasOver 12 = .ok (.aload_n 0, 1) := by decide +kernel
theorem dX1_umbrellasOver_13 : decode cX1_umbrellasOver 13 = .ok (.getfield 24, 3) := by decide +kernel
theorem dX1_umbrellasOver_16 : decode cX1_umbrellasOver 16 = .ok (.iload_n 3, 1) := by decide +kernel
theorem dX1_umbrellasOver_17 : decode cX1_umbrellasOver 17 = .ok (.iaload, 1) := by decide +kernel
theorem dX1_umbrellasOver_18 : decode cX1_umbrellasOver 18 = .ok (.ifCond .le 23, 3) := by decide +kernel
theorem dX1_umbrellasOver_21 : decode cX1_umbrellasOver 21 = .ok (.iload_n 1, 1) := by decide +kernel
theorem dX1_umbrellasOver_22 : decode cX1_umbrellasOver 22 = .ok (.aload_n 0, 1) := by decide +kernel
theorem dX1_umbrellasOver_23 : decode cX1_umbrellasOver 23 = .ok (.iload_n 3, 1) := by decide +kernel
theorem dX1_umbrellasOver_24 : decode cX1_umbrellasOver 24 = .ok (.invokevirtual 136, 3) := by decide +kernel
theorem dX1_umbrellasOver_27 : decode cX1_umbrellasOver 27 = .ok (.aload_n 0, 1) := by decide +kernel
theorem dX1_umbrellasOver_28 : decode cX1_umbrellasOver 28 = .ok (.iload_n 3, 1) := by decide +kernel
theorem dX1_umbrellasOver_29 : decode cX1_umbrellasOver 29 = .ok (.invokevirtual 139, 3) := by decide +kernel
theorem dX1_umbrellasOver_32 : decode cX1_umbrellasOver 32 = .ok (.invokestatic 70, 3) := by decide +kernel
theorem dX1_umbrellasOver_35 : decode cX1_umbrellasOver 35 = .ok (.ifCond .eq 6, 3) := by decide +kernel
theorem dX1_umbrellasOver_38 : decode cX1_umbrellasOver 38 = .ok (.iinc 2 1, 3) := by decide +kernel
theorem dX1_umbrellasOver_41 : decode cX1_umbrellasOver 41 = .ok (.iinc 3 1, 3) := by decide +kernel
theorem dX1_umbrellasOver_44 : decode cX1_umbrellasOver 44 = .ok (.goto (-40), 3) := by decide +kernel
theorem dX1_umbrellasOver_47 : decode cX1_umbrellasOver 47 = .ok (.iload_n 2, 1) := by decide +kernel
theorem dX1_umbrellasOver_48 : decode cX1_umbrellasOver 48 = .ok (.ireturn, 1) := by decide +kernel
set_option maxRecDepth 20000 in
theorem ggX1_umbrellasRunningOnto_X1_leastReached : GoodIn wsX1_umbrellasRunningOnto wsX1_leastReached := goodIn_r _ [7, 2, 8, 9, 10, 11, 19, 20, 21, 22, 23, 24, 25, 26, 27, 28, 29, 30, 31, 32, 33, 34, 35] (by decide +kernel) (by decide +kernel)
set_option maxRecDepth 20000 in
theorem gX1_umbrellasRunningOnto_X1_leastReached : GoodIn wsX1_umbrellasRunningOnto (wsV RX1 136 RX1 yX1_leastReached wsX1_leastReached) := goodIn_app (goodIn_of _ (by decide +kernel)) ggX1_umbrellasRunningOnto_X1_leastReached
set_option maxRecDepth 20000 in
theorem ggX1_umbrellasRunningOnto_X1_greatestReached : GoodIn wsX1_umbrellasRunningOnto wsX1_greatestReached := goodIn_r _ [15, 1, 2, 16, 17, 10, 18, 19, 20, 21, 22, 23, 24, 25, 26, 27, 28, 29, 30, 31, 32, 33, 34, 35] (by decide +kernel) (by decide +kernel)
set_option maxRecDepth 20000 in
theorem gX1_umbrellasRunningOnto_X1_greatestReached : GoodIn wsX1_umbrellasRunningOnto (wsV RX1 139 RX1 yX1_greatestReached wsX1_greatestReached) := goodIn_app (goodIn_of _ (by decide +kernel)) ggX1_umbrellasRunningOnto_X1_greatestReached
theorem dX1_umbrellasRunningOnto_0 : decode cX1_umbrellasRunningOnto 0 = .ok (.iconst 0, 1) := by decide +kernel
theorem dX1_umbrellasRunningOnto_1 : decode cX1_umbrellasRunningOnto 1 = .ok (.istore_n 2, 1) := by decide +kernel
theorem dX1_umbrellasRunningOnto_2 : decode cX1_umbrellasRunningOnto 2 = .ok (.iconst 0, 1) := by decide +kernel
theorem dX1_umbrellasRunningOnto_3 : decode cX1_umbrellasRunningOnto 3 = .ok (.istore_n 3, 1) := by decide +kernel
theorem dX1_umbrellasRunningOnto_4 : decode cX1_umbrellasRunningOnto 4 = .ok (.iload_n 3, 1) := by decide +kernel
theorem dX1_umbrellasRunningOnto_5 : decode cX1_umbrellasRunningOnto 5 = .ok (.aload_n 0, 1) := by decide +kernel
theorem dX1_umbrellasRunningOnto_6 : decode cX1_umbrellasRunningOnto 6 = .ok (.getfield 39, 3) := by decide +kernel
theorem dX1_umbrellasRunningOnto_9 : decode cX1_umbrellasRunningOnto 9 = .ok (.if_icmp .ge 43, 3) := by decide +kernel
theorem dX1_umbrellasRunningOnto_12 : decode cX1_umbrellasRunningOnto 12 = .ok (.aload_n 0, 1) := by decide +kernel
theorem dX1_umbrellasRunningOnto_13 : decode cX1_umbrellasRunningOnto 13 = .ok (.getfield 24, 3) := by decide +kernel
theorem dX1_umbrellasRunningOnto_16 : decode cX1_umbrellasRunningOnto 16 = .ok (.iload_n 3, 1) := by decide +kernel
theorem dX1_umbrellasRunningOnto_17 : decode cX1_umbrellasRunningOnto 17 = .ok (.iaload, 1) := by decide +kernel
theorem dX1_umbrellasRunningOnto_18 : decode cX1_umbrellasRunningOnto 18 = .ok (.ifCond .le 28, 3) := by decide +kernel
theorem dX1_umbrellasRunningOnto_21 : decode cX1_umbrellasRunningOnto 21 = .ok (.iload_n 1, 1) := by decide +kernel
theorem dX1_umbrellasRunningOnto_22 : decode cX1_umbrellasRunningOnto 22 = .ok (.aload_n 0, 1) := by decide +kernel
theorem dX1_umbrellasRunningOnto_23 : decode cX1_umbrellasRunningOnto 23 = .ok (.iload_n 3, 1) := by decide +kernel
theorem dX1_umbrellasRunningOnto_24 : decode cX1_umbrellasRunningOnto 24 = .ok (.invokevirtual 136, 3) := by decide +kernel
theorem dX1_umbrellasRunningOnto_27 : decode cX1_umbrellasRunningOnto 27 = .ok (.iconst 1, 1) := by decide +kernel
theorem dX1_umbrellasRunningOnto_28 : decode cX1_umbrellasRunningOnto 28 = .ok (.isub, 1) := by decide +kernel
theorem dX1_umbrellasRunningOnto_29 : decode cX1_umbrellasRunningOnto 29 = .ok (.if_icmp .eq 14, 3) := by decide +kernel
theorem dX1_umbrellasRunningOnto_32 : decode cX1_umbrellasRunningOnto 32 = .ok (.iload_n 1, 1) := by decide +kernel
theorem dX1_umbrellasRunningOnto_33 : decode cX1_umbrellasRunningOnto 33 = .ok (.aload_n 0, 1) := by decide +kernel
theorem dX1_umbrellasRunningOnto_34 : decode cX1_umbrellasRunningOnto 34 = .ok (.iload_n 3, 1) := by decide +kernel
theorem dX1_umbrellasRunningOnto_35 : decode cX1_umbrellasRunningOnto 35 = .ok (.invokevirtual 139, 3) := by decide +kernel
theorem dX1_umbrellasRunningOnto_38 : decode cX1_umbrellasRunningOnto 38 = .ok (.iconst 1, 1) := by decide +kernel
theorem dX1_umbrellasRunningOnto_39 : decode cX1_umbrellasRunningOnto 39 = .ok (.iadd, 1) := by decide +kernel
theorem dX1_umbrellasRunningOnto_40 : decode cX1_umbrellasRunningOnto 40 = .ok (.if_icmp .ne 6, 3) := by decide +kernel
theorem dX1_umbrellasRunningOnto_43 : decode cX1_umbrellasRunningOnto 43 = .ok (.iinc 2 1, 3) := by decide +kernel
theorem dX1_umbrellasRunningOnto_46 : decode cX1_umbrellasRunningOnto 46 = .ok (.iinc 3 1, 3) := by decide +kernel
theorem dX1_umbrellasRunningOnto_49 : decode cX1_umbrellasRunningOnto 49 = .ok (.goto (-45), 3) := by decide +kernel
theorem dX1_umbrellasRunningOnto_52 : decode cX1_umbrellasRunningOnto 52 = .ok (.iload_n 2, 1) := by decide +kernel
theorem dX1_umbrellasRunningOnto_53 : decode cX1_umbrellasRunningOnto 53 = .ok (.ireturn, 1) := by decide +kernel
set_option maxRecDepth 20000 in
theorem ggX1_placesUnreached_X1_umbrellasOver : GoodIn wsX1_placesUnreached wsX1_umbrellasOver := goodIn_r _ [6, 1, 7, 8, 9, 10, 5, 11, 12, 13, 14, 15, 16, 17, 18, 19, 20, 21, 22, 23, 24, 25, 26, 27, 28, 29, 30, 31, 32, 33, 34, 35, 36, 37, 38, 39, 40, 41, 42] (by decide +kernel) (by decide +kernel)
set_option maxRecDepth 20000 in
theorem gX1_placesUnreached_X1_umbrellasOver : GoodIn wsX1_placesUnreached (wsV RX1 142 RX1 yX1_umbrellasOver wsX1_umbrellasOver) := goodIn_app (goodIn_of _ (by decide +kernel)) ggX1_placesUnreached_X1_umbrellasOver
theorem dX1_placesUnreached_0 : decode cX1_placesUnreached 0 = .ok (.iconst 0, 1) := by decide +kernel
theorem dX1_placesUnreached_1 : decode cX1_placesUnreached 1 = .ok (.istore_n 1, 1) := by decide +kernel
theorem dX1_placesUnreached_2 : decode cX1_placesUnreached 2 = .ok (.iconst 0, 1) := by decide +kernel
theorem dX1_placesUnreached_3 : decode cX1_placesUnreached 3 = .ok (.istore_n 2, 1) := by decide +kernel
theorem dX1_placesUnreached_4 : decode cX1_placesUnreached 4 = .ok (.iload_n 2, 1) := by decide +kernel
theorem dX1_placesUnreached_5 : decode cX1_placesUnreached 5 = .ok (.aload_n 0, 1) := by decide +kernel
theorem dX1_placesUnreached_6 : decode cX1_placesUnreached 6 = .ok (.getfield 39, 3) := by decide +kernel
theorem dX1_placesUnreached_9 : decode cX1_placesUnreached 9 = .ok (.if_icmp .ge 20, 3) := by decide +kernel
theorem dX1_placesUnreached_12 : decode cX1_placesUnreached 12 = .ok (.aload_n 0, 1) := by decide +kernel
theorem dX1_placesUnreached_13 : decode cX1_placesUnreached 13 = .ok (.iload_n 2, 1) := by decide +kernel
theorem dX1_placesUnreached_14 : decode cX1_placesUnreached 14 = .ok (.invokevirtual 142, 3) := by decide +kernel
theorem dX1_placesUnreached_17 : decode cX1_placesUnreached 17 = .ok (.ifCond .ne 6, 3) := by decide +kernel
theorem dX1_placesUnreached_20 : decode cX1_placesUnreached 20 = .ok (.iinc 1 1, 3) := by decide +kernel
theorem dX1_placesUnreached_23 : decode cX1_placesUnreached 23 = .ok (.iinc 2 1, 3) := by decide +kernel
theorem dX1_placesUnreached_26 : decode cX1_placesUnreached 26 = .ok (.goto (-22), 3) := by decide +kernel
theorem dX1_placesUnreached_29 : decode cX1_placesUnreached 29 = .ok (.iload_n 1, 1) := by decide +kernel
theorem dX1_placesUnreached_30 : decode cX1_placesUnreached 30 = .ok (.ireturn, 1) := by decide +kernel
set_option maxRecDepth 20000 in
theorem ggX1_isCovered_X1_leastReached : GoodIn wsX1_isCovered wsX1_leastReached := goodIn_r _ [7, 2, 8, 9, 10, 11, 19, 20, 21, 22, 23, 24, 25, 26, 27, 28, 29, 30, 31, 32, 33, 34, 35] (by decide +kernel) (by decide +kernel)
set_option maxRecDepth 20000 in
theorem gX1_isCovered_X1_leastReached : GoodIn wsX1_isCovered (wsV RX1 136 RX1 yX1_leastReached wsX1_leastReached) := goodIn_app (goodIn_of _ (by decide +kernel)) ggX1_isCovered_X1_leastReached
set_option maxRecDepth 20000 in
theorem ggX1_isCovered_X1_greatestReached : GoodIn wsX1_isCovered wsX1_greatestReached := goodIn_r _ [15, 1, 2, 16, 17, 10, 18, 19, 20, 21, 22, 23, 24, 25, 26, 27, 28, 29, 30, 31, 32, 33, 34, 35] (by decide +kernel) (by decide +kernel)
set_option maxRecDepth 20000 in
theorem gX1_isCovered_X1_greatestReached : GoodIn wsX1_isCovered (wsV RX1 139 RX1 yX1_greatestReached wsX1_greatestReached) := goodIn_app (goodIn_of _ (by decide +kernel)) ggX1_isCovered_X1_greatestReached
theorem dX1_isCovered_0 : decode cX1_isCovered 0 = .ok (.iload_n 2, 1) := by decide +kernel
theorem dX1_isCovered_1 : decode cX1_isCovered 1 = .ok (.iconst 1, 1) := by decide +kernel
theorem dX1_isCovered_2 : decode cX1_isCovered 2 = .ok (.if_icmp .ne 9, 3) := by decide +kernel
theorem dX1_isCovered_5 : decode cX1_isCovered 5 = .ok (.iload_n 1, 1) := by decide +kernel
theorem dX1_isCovered_6 : decode cX1_isCovered 6 = .ok (.iconst 1, 1) := by decide +kernel
theorem dX1_isCovered_7 : decode cX1_isCovered 7 = .ok (.isub, 1) := by decide +kernel
theorem dX1_isCovered_8 : decode cX1_isCovered 8 = .ok (.goto 4, 3) := by decide +kernel
theorem dX1_isCovered_11 : decode cX1_isCovered 11 = .ok (.iload_n 1, 1) := by decide +kernel
theorem dX1_isCovered_12 : decode cX1_isCovered 12 = .ok (.istore_n 3, 1) := by decide +kernel
theorem dX1_isCovered_13 : decode cX1_isCovered 13 = .ok (.iload_n 2, 1) := by decide +kernel
theorem dX1_isCovered_14 : decode cX1_isCovered 14 = .ok (.iconst 2, 1) := by decide +kernel
theorem dX1_isCovered_15 : decode cX1_isCovered 15 = .ok (.if_icmp .ne 9, 3) := by decide +kernel
theorem dX1_isCovered_18 : decode cX1_isCovered 18 = .ok (.iload_n 1, 1) := by decide +kernel
theorem dX1_isCovered_19 : decode cX1_isCovered 19 = .ok (.iconst 1, 1) := by decide +kernel
theorem dX1_isCovered_20 : decode cX1_isCovered 20 = .ok (.iadd, 1) := by decide +kernel
theorem dX1_isCovered_21 : decode cX1_isCovered 21 = .ok (.goto 4, 3) := by decide +kernel
theorem dX1_isCovered_24 : decode cX1_isCovered 24 = .ok (.iload_n 1, 1) := by decide +kernel
theorem dX1_isCovered_25 : decode cX1_isCovered 25 = .ok (.istore 4, 2) := by decide +kernel
theorem dX1_isCovered_27 : decode cX1_isCovered 27 = .ok (.iconst 0, 1) := by decide +kernel
theorem dX1_isCovered_28 : decode cX1_isCovered 28 = .ok (.istore 5, 2) := by decide +kernel
theorem dX1_isCovered_30 : decode cX1_isCovered 30 = .ok (.iload 5, 2) := by decide +kernel
theorem dX1_isCovered_32 : decode cX1_isCovered 32 = .ok (.aload_n 0, 1) := by decide +kernel
theorem dX1_isCovered_33 : decode cX1_isCovered 33 = .ok (.getfield 39, 3) := by decide +kernel
theorem dX1_isCovered_36 : decode cX1_isCovered 36 = .ok (.if_icmp .ge 42, 3) := by decide +kernel
theorem dX1_isCovered_39 : decode cX1_isCovered 39 = .ok (.aload_n 0, 1) := by decide +kernel
theorem dX1_isCovered_40 : decode cX1_isCovered 40 = .ok (.getfield 24, 3) := by decide +kernel
theorem dX1_isCovered_43 : decode cX1_isCovered 43 = .ok (.iload 5, 2) := by decide +kernel
theorem dX1_isCovered_45 : decode cX1_isCovered 45 = .ok (.iaload, 1) := by decide +kernel
theorem dX1_isCovered_46 : decode cX1_isCovered 46 = .ok (.ifCond .le 26, 3) := by decide +kernel
theorem dX1_isCovered_49 : decode cX1_isCovered 49 = .ok (.aload_n 0, 1) := by decide +kernel
theorem dX1_isCovered_50 : decode cX1_isCovered 50 = .ok (.iload 5, 2) := by decide +kernel
theorem dX1_isCovered_52 : decode cX1_isCovered 52 = .ok (.invokevirtual 136, 3) := by decide +kernel
theorem dX1_isCovered_55 : decode cX1_isCovered 55 = .ok (.iload 4, 2) := by decide +kernel
theorem dX1_isCovered_57 : decode cX1_isCovered 57 = .ok (.if_icmp .gt 15, 3) := by decide +kernel
theorem dX1_isCovered_60 : decode cX1_isCovered 60 = .ok (.aload_n 0, 1) := by decide +kernel
theorem dX1_isCovered_61 : decode cX1_isCovered 61 = .ok (.iload 5, 2) := by decide +kernel
theorem dX1_isCovered_63 : decode cX1_isCovered 63 = .ok (.invokevirtual 139, 3) := by decide +kernel
theorem dX1_isCovered_66 : decode cX1_isCovered 66 = .ok (.iload_n 3, 1) := by decide +kernel
theorem dX1_isCovered_67 : decode cX1_isCovered 67 = .ok (.if_icmp .lt 5, 3) := by decide +kernel
theorem dX1_isCovered_70 : decode cX1_isCovered 70 = .ok (.iconst 1, 1) := by decide +kernel
theorem dX1_isCovered_71 : decode cX1_isCovered 71 = .ok (.ireturn, 1) := by decide +kernel
theorem dX1_isCovered_72 : decode cX1_isCovered 72 = .ok (.iinc 5 1, 3) := by decide +kernel
theorem dX1_isCovered_75 : decode cX1_isCovered 75 = .ok (.goto (-45), 3) := by decide +kernel
theorem dX1_isCovered_78 : decode cX1_isCovered 78 = .ok (.iconst 0, 1) := by decide +kernel
theorem dX1_isCovered_79 : decode cX1_isCovered 79 = .ok (.ireturn, 1) := by decide +kernel
set_option maxRecDepth 20000 in
theorem ggX1_wetnessAfter_X1_wetterBy : GoodIn wsX1_wetnessAfter wsX1_wetterBy := goodIn_r _ [10, 11, 12, 13, 9, 14, 15, 16, 17, 18, 19, 20, 21, 22, 4, 23, 24, 25, 26, 27, 2, 3, 5, 28, 29, 30, 31, 32, 33, 34, 35, 36, 37, 38, 39, 40, 41, 42, 43, 44, 45, 46, 47, 48] (by decide +kernel) (by decide +kernel)
set_option maxRecDepth 20000 in
theorem gX1_wetnessAfter_X1_wetterBy : GoodIn wsX1_wetnessAfter (wsV RX1 145 RX1 yX1_wetterBy wsX1_wetterBy) := goodIn_app (goodIn_of _ (by decide +kernel)) ggX1_wetnessAfter_X1_wetterBy
theorem dX1_wetnessAfter_0 : decode cX1_wetnessAfter 0 = .ok (.sipush 999, 3) := by decide +kernel
theorem dX1_wetnessAfter_3 : decode cX1_wetnessAfter 3 = .ok (.aload_n 0, 1) := by decide +kernel
theorem dX1_wetnessAfter_4 : decode cX1_wetnessAfter 4 = .ok (.getfield 15, 3) := by decide +kernel
theorem dX1_wetnessAfter_7 : decode cX1_wetnessAfter 7 = .ok (.iload_n 1, 1) := by decide +kernel
theorem dX1_wetnessAfter_8 : decode cX1_wetnessAfter 8 = .ok (.iaload, 1) := by decide +kernel
theorem dX1_wetnessAfter_9 : decode cX1_wetnessAfter 9 = .ok (.aload_n 0, 1) := by decide +kernel
theorem dX1_wetnessAfter_10 : decode cX1_wetnessAfter 10 = .ok (.iload_n 1, 1) := by decide +kernel
theorem dX1_wetnessAfter_11 : decode cX1_wetnessAfter 11 = .ok (.iload_n 2, 1) := by decide +kernel
theorem dX1_wetnessAfter_12 : decode cX1_wetnessAfter 12 = .ok (.iload_n 3, 1) := by decide +kernel
theorem dX1_wetnessAfter_13 : decode cX1_wetnessAfter 13 = .ok (.invokevirtual 145, 3) := by decide +kernel
theorem dX1_wetnessAfter_16 : decode cX1_wetnessAfter 16 = .ok (.iadd, 1) := by decide +kernel
theorem dX1_wetnessAfter_17 : decode cX1_wetnessAfter 17 = .ok (.invokestatic 133, 3) := by decide +kernel
theorem dX1_wetnessAfter_20 : decode cX1_wetnessAfter 20 = .ok (.ireturn, 1) := by decide +kernel
set_option maxRecDepth 20000 in
theorem ggX1_wetterBy_X1_umbrellasRunningOnto : GoodIn wsX1_wetterBy wsX1_umbrellasRunningOnto := goodIn_r _ [5, 6, 7, 8, 9, 10, 4, 11, 12, 13, 14, 15, 16, 17, 18, 19, 20, 21, 22, 27, 28, 29, 30, 31, 32, 33, 34, 35, 36, 37, 38, 39, 40, 41, 42, 43] (by decide +kernel) (by decide +kernel)
set_option maxRecDepth 20000 in
theorem gX1_wetterBy_X1_umbrellasRunningOnto : GoodIn wsX1_wetterBy (wsV RX1 148 RX1 yX1_umbrellasRunningOnto wsX1_umbrellasRunningOnto) := goodIn_app (goodIn_of _ (by decide +kernel)) ggX1_wetterBy_X1_umbrellasRunningOnto
set_option maxRecDepth 20000 in
theorem ggX1_wetterBy_X1_isCovered : GoodIn wsX1_wetterBy wsX1_isCovered := goodIn_r _ [26, 6, 7, 8, 9, 10, 4, 11, 12, 13, 14, 15, 16, 17, 18, 19, 20, 21, 22, 27, 28, 29, 30, 31, 32, 33, 34, 35, 36, 37, 38, 39, 40, 41, 42, 43] (by decide +kernel) (by decide +kernel)
set_option maxRecDepth 20000 in
theorem gX1_wetterBy_X1_isCovered : GoodIn wsX1_wetterBy (wsV RX1 151 RX1 yX1_isCovered wsX1_isCovered) := goodIn_app (goodIn_of _ (by decide +kernel)) ggX1_wetterBy_X1_isCovered
theorem dX1_wetterBy_0 : decode cX1_wetterBy 0 = .ok (.aload_n 0, 1) := by decide +kernel
theorem dX1_wetterBy_1 : decode cX1_wetterBy 1 = .ok (.iload_n 1, 1) := by decide +kernel
theorem dX1_wetterBy_2 : decode cX1_wetterBy 2 = .ok (.invokevirtual 148, 3) := by decide +kernel
theorem dX1_wetterBy_5 : decode cX1_wetterBy 5 = .ok (.iload_n 2, 1) := by decide +kernel
theorem dX1_wetterBy_6 : decode cX1_wetterBy 6 = .ok (.iconst 2, 1) := by decide +kernel
theorem dX1_wetterBy_7 : decode cX1_wetterBy 7 = .ok (.idiv, 1) := by decide +kernel
theorem dX1_wetterBy_8 : decode cX1_wetterBy 8 = .ok (.imul, 1) := by decide +kernel
theorem dX1_wetterBy_9 : decode cX1_wetterBy 9 = .ok (.istore 4, 2) := by decide +kernel
theorem dX1_wetterBy_11 : decode cX1_wetterBy 11 = .ok (.aload_n 0, 1) := by decide +kernel
theorem dX1_wetterBy_12 : decode cX1_wetterBy 12 = .ok (.iload_n 1, 1) := by decide +kernel
theorem dX1_wetterBy_13 : decode cX1_wetterBy 13 = .ok (.iload_n 3, 1) := by decide +kernel
theorem dX1_wetterBy_14 : decode cX1_wetterBy 14 = .ok (.invokevirtual 151, 3) := by decide +kernel
theorem dX1_wetterBy_17 : decode cX1_wetterBy 17 = .ok (.ifCond .eq 8, 3) := by decide +kernel
theorem dX1_wetterBy_20 : decode cX1_wetterBy 20 = .ok (.iload 4, 2) := by decide +kernel
theorem dX1_wetterBy_22 : decode cX1_wetterBy 22 = .ok (.goto 7, 3) := by decide +kernel
theorem dX1_wetterBy_25 : decode cX1_wetterBy 25 = .ok (.iload 4, 2) := by decide +kernel
theorem dX1_wetterBy_27 : decode cX1_wetterBy 27 = .ok (.iload_n 2, 1) := by decide +kernel
theorem dX1_wetterBy_28 : decode cX1_wetterBy 28 = .ok (.iadd, 1) := by decide +kernel
theorem dX1_wetterBy_29 : decode cX1_wetterBy 29 = .ok (.ireturn, 1) := by decide +kernel
set_option maxRecDepth 20000 in
theorem ggX1_gustsBorne_X1_wetterBy : GoodIn wsX1_gustsBorne wsX1_wetterBy := goodIn_r _ [7, 8, 9, 10, 6, 11, 12, 13, 14, 15, 16, 17, 18, 19, 20, 21, 22, 23, 24, 25, 26, 27, 28, 29, 30, 31, 32, 33, 34, 35, 36, 37, 38, 39, 40, 41, 42, 43, 44, 45, 46, 47, 48, 49] (by decide +kernel) (by decide +kernel)
set_option maxRecDepth 20000 in
theorem gX1_gustsBorne_X1_wetterBy : GoodIn wsX1_gustsBorne (wsV RX1 145 RX1 yX1_wetterBy wsX1_wetterBy) := goodIn_app (goodIn_of _ (by decide +kernel)) ggX1_gustsBorne_X1_wetterBy
theorem dX1_gustsBorne_0 : decode cX1_gustsBorne 0 = .ok (.aload_n 0, 1) := by decide +kernel
theorem dX1_gustsBorne_1 : decode cX1_gustsBorne 1 = .ok (.iload_n 1, 1) := by decide +kernel
theorem dX1_gustsBorne_2 : decode cX1_gustsBorne 2 = .ok (.iload_n 2, 1) := by decide +kernel
theorem dX1_gustsBorne_3 : decode cX1_gustsBorne 3 = .ok (.iconst 0, 1) := by decide +kernel
theorem dX1_gustsBorne_4 : decode cX1_gustsBorne 4 = .ok (.invokevirtual 145, 3) := by decide +kernel
theorem dX1_gustsBorne_7 : decode cX1_gustsBorne 7 = .ok (.istore_n 3, 1) := by decide +kernel
theorem dX1_gustsBorne_8 : decode cX1_gustsBorne 8 = .ok (.iload_n 3, 1) := by decide +kernel
theorem dX1_gustsBorne_9 : decode cX1_gustsBorne 9 = .ok (.ifCond .le 15, 3) := by decide +kernel
theorem dX1_gustsBorne_12 : decode cX1_gustsBorne 12 = .ok (.aload_n 0, 1) := by decide +kernel
theorem dX1_gustsBorne_13 : decode cX1_gustsBorne 13 = .ok (.getfield 18, 3) := by decide +kernel
theorem dX1_gustsBorne_16 : decode cX1_gustsBorne 16 = .ok (.iload_n 1, 1) := by decide +kernel
theorem dX1_gustsBorne_17 : decode cX1_gustsBorne 17 = .ok (.iaload, 1) := by decide +kernel
theorem dX1_gustsBorne_18 : decode cX1_gustsBorne 18 = .ok (.sipush 999, 3) := by decide +kernel
theorem dX1_gustsBorne_21 : decode cX1_gustsBorne 21 = .ok (.if_icmp .lt 6, 3) := by decide +kernel
theorem dX1_gustsBorne_24 : decode cX1_gustsBorne 24 = .ok (.bipush (-5), 2) := by decide +kernel
theorem dX1_gustsBorne_26 : decode cX1_gustsBorne 26 = .ok (.ireturn, 1) := by decide +kernel
theorem dX1_gustsBorne_27 : decode cX1_gustsBorne 27 = .ok (.aload_n 0, 1) := by decide +kernel
theorem dX1_gustsBorne_28 : decode cX1_gustsBorne 28 = .ok (.getfield 18, 3) := by decide +kernel
theorem dX1_gustsBorne_31 : decode cX1_gustsBorne 31 = .ok (.iload_n 1, 1) := by decide +kernel
theorem dX1_gustsBorne_32 : decode cX1_gustsBorne 32 = .ok (.iaload, 1) := by decide +kernel
theorem dX1_gustsBorne_33 : decode cX1_gustsBorne 33 = .ok (.aload_n 0, 1) := by decide +kernel
theorem dX1_gustsBorne_34 : decode cX1_gustsBorne 34 = .ok (.getfield 15, 3) := by decide +kernel
theorem dX1_gustsBorne_37 : decode cX1_gustsBorne 37 = .ok (.iload_n 1, 1) := by decide +kernel
theorem dX1_gustsBorne_38 : decode cX1_gustsBorne 38 = .ok (.iaload, 1) := by decide +kernel
theorem dX1_gustsBorne_39 : decode cX1_gustsBorne 39 = .ok (.isub, 1) := by decide +kernel
theorem dX1_gustsBorne_40 : decode cX1_gustsBorne 40 = .ok (.iload_n 3, 1) := by decide +kernel
theorem dX1_gustsBorne_41 : decode cX1_gustsBorne 41 = .ok (.idiv, 1) := by decide +kernel
theorem dX1_gustsBorne_42 : decode cX1_gustsBorne 42 = .ok (.ireturn, 1) := by decide +kernel
set_option maxRecDepth 20000 in
theorem ggX1_totalWetnessAfter_X1_wetnessAfter : GoodIn wsX1_totalWetnessAfter wsX1_wetnessAfter := goodIn_r _ [6, 7, 8, 9, 10, 11, 12, 13, 14, 5, 15, 16, 17, 18, 19, 1, 20, 21, 22, 23, 24, 25, 26, 27, 28, 29, 30, 31, 32, 33, 34, 35, 36, 37, 38, 39, 40, 41, 42, 43, 44, 45, 46, 47, 48, 49, 50, 51, 52] (by decide +kernel) (by decide +kernel)
set_option maxRecDepth 20000 in
theorem gX1_totalWetnessAfter_X1_wetnessAfter : GoodIn wsX1_totalWetnessAfter (wsV RX1 103 RX1 yX1_wetnessAfter wsX1_wetnessAfter) := goodIn_app (goodIn_of _ (by decide +kernel)) ggX1_totalWetnessAfter_X1_wetnessAfter
theorem dX1_totalWetnessAfter_0 : decode cX1_totalWetnessAfter 0 = .ok (.iconst 0, 1) := by decide +kernel
theorem dX1_totalWetnessAfter_1 : decode cX1_totalWetnessAfter 1 = .ok (.istore_n 3, 1) := by decide +kernel
theorem dX1_totalWetnessAfter_2 : decode cX1_totalWetnessAfter 2 = .ok (.iconst 0, 1) := by decide +kernel
theorem dX1_totalWetnessAfter_3 : decode cX1_totalWetnessAfter 3 = .ok (.istore 4, 2) := by decide +kernel
theorem dX1_totalWetnessAfter_5 : decode cX1_totalWetnessAfter 5 = .ok (.iload 4, 2) := by decide +kernel
theorem dX1_totalWetnessAfter_7 : decode cX1_totalWetnessAfter 7 = .ok (.aload_n 0, 1) := by decide +kernel
theorem dX1_totalWetnessAfter_8 : decode cX1_totalWetnessAfter 8 = .ok (.getfield 39, 3) := by decide +kernel
theorem dX1_totalWetnessAfter_11 : decode cX1_totalWetnessAfter 11 = .ok (.if_icmp .ge 20, 3) := by decide +kernel
theorem dX1_totalWetnessAfter_14 : decode cX1_totalWetnessAfter 14 = .ok (.iload_n 3, 1) := by decide +kernel
theorem dX1_totalWetnessAfter_15 : decode cX1_totalWetnessAfter 15 = .ok (.aload_n 0, 1) := by decide +kernel
theorem dX1_totalWetnessAfter_16 : decode cX1_totalWetnessAfter 16 = .ok (.iload 4, 2) := by decide +kernel
theorem dX1_totalWetnessAfter_18 : decode cX1_totalWetnessAfter 18 = .ok (.iload_n 1, 1) := by decide +kernel
theorem dX1_totalWetnessAfter_19 : decode cX1_totalWetnessAfter 19 = .ok (.iload_n 2, 1) := by decide +kernel
theorem dX1_totalWetnessAfter_20 : decode cX1_totalWetnessAfter 20 = .ok (.invokevirtual 103, 3) := by decide +kernel
theorem dX1_totalWetnessAfter_23 : decode cX1_totalWetnessAfter 23 = .ok (.iadd, 1) := by decide +kernel
theorem dX1_totalWetnessAfter_24 : decode cX1_totalWetnessAfter 24 = .ok (.istore_n 3, 1) := by decide +kernel
theorem dX1_totalWetnessAfter_25 : decode cX1_totalWetnessAfter 25 = .ok (.iinc 4 1, 3) := by decide +kernel
theorem dX1_totalWetnessAfter_28 : decode cX1_totalWetnessAfter 28 = .ok (.goto (-23), 3) := by decide +kernel
theorem dX1_totalWetnessAfter_31 : decode cX1_totalWetnessAfter 31 = .ok (.iload_n 3, 1) := by decide +kernel
theorem dX1_totalWetnessAfter_32 : decode cX1_totalWetnessAfter 32 = .ok (.ireturn, 1) := by decide +kernel
theorem dX1_refusal_0 : decode cX1_refusal 0 = .ok (.aload_n 0, 1) := by decide +kernel
theorem dX1_refusal_1 : decode cX1_refusal 1 = .ok (.getfield 24, 3) := by decide +kernel
theorem dX1_refusal_4 : decode cX1_refusal 4 = .ok (.iload_n 1, 1) := by decide +kernel
theorem dX1_refusal_5 : decode cX1_refusal 5 = .ok (.iaload, 1) := by decide +kernel
theorem dX1_refusal_6 : decode cX1_refusal 6 = .ok (.istore_n 2, 1) := by decide +kernel
theorem dX1_refusal_7 : decode cX1_refusal 7 = .ok (.aload_n 0, 1) := by decide +kernel
theorem dX1_refusal_8 : decode cX1_refusal 8 = .ok (.getfield 24, 3) := by decide +kernel
theorem dX1_refusal_11 : decode cX1_refusal 11 = .ok (.iload_n 1, 1) := by decide +kernel
theorem dX1_refusal_12 : decode cX1_refusal 12 = .ok (.iconst 1, 1) := by decide +kernel
theorem dX1_refusal_13 : decode cX1_refusal 13 = .ok (.iadd, 1) := by decide +kernel
theorem dX1_refusal_14 : decode cX1_refusal 14 = .ok (.iaload, 1) := by decide +kernel
theorem dX1_refusal_15 : decode cX1_refusal 15 = .ok (.istore_n 3, 1) := by decide +kernel
theorem dX1_refusal_16 : decode cX1_refusal 16 = .ok (.iload_n 2, 1) := by decide +kernel
theorem dX1_refusal_17 : decode cX1_refusal 17 = .ok (.iload_n 3, 1) := by decide +kernel
theorem dX1_refusal_18 : decode cX1_refusal 18 = .ok (.if_icmp .ne 5, 3) := by decide +kernel
theorem dX1_refusal_21 : decode cX1_refusal 21 = .ok (.iconst 1, 1) := by decide +kernel
theorem dX1_refusal_22 : decode cX1_refusal 22 = .ok (.ireturn, 1) := by decide +kernel
theorem dX1_refusal_23 : decode cX1_refusal 23 = .ok (.iload_n 2, 1) := by decide +kernel
theorem dX1_refusal_24 : decode cX1_refusal 24 = .ok (.iload_n 3, 1) := by decide +kernel
theorem dX1_refusal_25 : decode cX1_refusal 25 = .ok (.if_icmp .le 7, 3) := by decide +kernel
theorem dX1_refusal_28 : decode cX1_refusal 28 = .ok (.iload_n 1, 1) := by decide +kernel
theorem dX1_refusal_29 : decode cX1_refusal 29 = .ok (.goto 6, 3) := by decide +kernel
theorem dX1_refusal_32 : decode cX1_refusal 32 = .ok (.iload_n 1, 1) := by decide +kernel
theorem dX1_refusal_33 : decode cX1_refusal 33 = .ok (.iconst 1, 1) := by decide +kernel
theorem dX1_refusal_34 : decode cX1_refusal 34 = .ok (.iadd, 1) := by decide +kernel
theorem dX1_refusal_35 : decode cX1_refusal 35 = .ok (.istore 4, 2) := by decide +kernel
theorem dX1_refusal_37 : decode cX1_refusal 37 = .ok (.iload_n 2, 1) := by decide +kernel
theorem dX1_refusal_38 : decode cX1_refusal 38 = .ok (.iload_n 3, 1) := by decide +kernel
theorem dX1_refusal_39 : decode cX1_refusal 39 = .ok (.if_icmp .le 9, 3) := by decide +kernel
theorem dX1_refusal_42 : decode cX1_refusal 42 = .ok (.iload_n 1, 1) := by decide +kernel
theorem dX1_refusal_43 : decode cX1_refusal 43 = .ok (.iconst 1, 1) := by decide +kernel
theorem dX1_refusal_44 : decode cX1_refusal 44 = .ok (.iadd, 1) := by decide +kernel
theorem dX1_refusal_45 : decode cX1_refusal 45 = .ok (.goto 4, 3) := by decide +kernel
theorem dX1_refusal_48 : decode cX1_refusal 48 = .ok (.iload_n 1, 1) := by decide +kernel
theorem dX1_refusal_49 : decode cX1_refusal 49 = .ok (.istore 5, 2) := by decide +kernel
theorem dX1_refusal_51 : decode cX1_refusal 51 = .ok (.aload_n 0, 1) := by decide +kernel
theorem dX1_refusal_52 : decode cX1_refusal 52 = .ok (.getfield 15, 3) := by decide +kernel
theorem dX1_refusal_55 : decode cX1_refusal 55 = .ok (.iload 4, 2) := by decide +kernel
theorem dX1_refusal_57 : decode cX1_refusal 57 = .ok (.iaload, 1) := by decide +kernel
theorem dX1_refusal_58 : decode cX1_refusal 58 = .ok (.aload_n 0, 1) := by decide +kernel
theorem dX1_refusal_59 : decode cX1_refusal 59 = .ok (.getfield 15, 3) := by decide +kernel
theorem dX1_refusal_62 : decode cX1_refusal 62 = .ok (.iload 5, 2) := by decide +kernel
theorem dX1_refusal_64 : decode cX1_refusal 64 = .ok (.iaload, 1) := by decide +kernel
theorem dX1_refusal_65 : decode cX1_refusal 65 = .ok (.isub, 1) := by decide +kernel
theorem dX1_refusal_66 : decode cX1_refusal 66 = .ok (.istore 6, 2) := by decide +kernel
theorem dX1_refusal_68 : decode cX1_refusal 68 = .ok (.aload_n 0, 1) := by decide +kernel
theorem dX1_refusal_69 : decode cX1_refusal 69 = .ok (.getfield 24, 3) := by decide +kernel
theorem dX1_refusal_72 : decode cX1_refusal 72 = .ok (.iload 5, 2) := by decide +kernel
theorem dX1_refusal_74 : decode cX1_refusal 74 = .ok (.iaload, 1) := by decide +kernel
theorem dX1_refusal_75 : decode cX1_refusal 75 = .ok (.ifCond .ne 13, 3) := by decide +kernel
theorem dX1_refusal_78 : decode cX1_refusal 78 = .ok (.iload 6, 2) := by decide +kernel
theorem dX1_refusal_80 : decode cX1_refusal 80 = .ok (.ineg, 1) := by decide +kernel
theorem dX1_refusal_81 : decode cX1_refusal 81 = .ok (.bipush 50, 2) := by decide +kernel
theorem dX1_refusal_83 : decode cX1_refusal 83 = .ok (.if_icmp .ge 5, 3) := by decide +kernel
theorem dX1_refusal_86 : decode cX1_refusal 86 = .ok (.iconst 2, 1) := by decide +kernel
theorem dX1_refusal_87 : decode cX1_refusal 87 = .ok (.ireturn, 1) := by decide +kernel
theorem dX1_refusal_88 : decode cX1_refusal 88 = .ok (.iload 6, 2) := by decide +kernel
theorem dX1_refusal_90 : decode cX1_refusal 90 = .ok (.ifCond .le 7, 3) := by decide +kernel
theorem dX1_refusal_93 : decode cX1_refusal 93 = .ok (.iconst 3, 1) := by decide +kernel
theorem dX1_refusal_94 : decode cX1_refusal 94 = .ok (.goto 4, 3) := by decide +kernel
theorem dX1_refusal_97 : decode cX1_refusal 97 = .ok (.iconst 0, 1) := by decide +kernel
theorem dX1_refusal_98 : decode cX1_refusal 98 = .ok (.ireturn, 1) := by decide +kernel
set_option maxRecDepth 20000 in
theorem ggX1_driestSwap_X1_totalWetnessAfter : GoodIn wsX1_driestSwap wsX1_totalWetnessAfter := goodIn_r _ [7, 1, 8, 9, 10, 6, 11, 12, 13, 14, 15, 16, 17, 18, 19, 20, 21, 22, 23, 24, 2, 25, 26, 27, 28, 29, 30, 31, 32, 33, 34, 35, 36, 37, 38, 39, 47, 48, 49, 50, 51, 52, 53, 54, 55, 56, 57, 58, 59, 60, 61, 62, 63] (by decide +kernel) (by decide +kernel)
set_option maxRecDepth 20000 in
theorem gX1_driestSwap_X1_totalWetnessAfter : GoodIn wsX1_driestSwap (wsV RX1 154 RX1 yX1_totalWetnessAfter wsX1_totalWetnessAfter) := goodIn_app (goodIn_of _ (by decide +kernel)) ggX1_driestSwap_X1_totalWetnessAfter
set_option maxRecDepth 20000 in
theorem ggX1_driestSwap_X1_refusal : GoodIn wsX1_driestSwap wsX1_refusal := goodIn_r _ [43, 2, 12, 47, 48, 49, 50, 51, 52, 53, 54, 55, 56, 57, 58, 59, 60, 61, 62, 63] (by decide +kernel) (by decide +kernel)
set_option maxRecDepth 20000 in
theorem gX1_driestSwap_X1_refusal : GoodIn wsX1_driestSwap (wsV RX1 89 RX1 yX1_refusal wsX1_refusal) := goodIn_app (goodIn_of _ (by decide +kernel)) ggX1_driestSwap_X1_refusal
set_option maxRecDepth 20000 in
theorem ggX1_driestSwap_X1_exchange : GoodIn wsX1_driestSwap wsX1_exchange := goodIn_r _ [46] (by decide +kernel) (by decide +kernel)
set_option maxRecDepth 20000 in
theorem gX1_driestSwap_X1_exchange : GoodIn wsX1_driestSwap (va_wsS RX1 85 yX1_exchange wsX1_exchange) := goodIn_app (goodIn_of _ (by decide +kernel)) ggX1_driestSwap_X1_exchange
theorem dX1_driestSwap_0 : decode cX1_driestSwap 0 = .ok (.bipush (-5), 2) := by decide +kernel
theorem dX1_driestSwap_2 : decode cX1_driestSwap 2 = .ok (.istore_n 3, 1) := by decide +kernel
theorem dX1_driestSwap_3 : decode cX1_driestSwap 3 = .ok (.aload_n 0, 1) := by decide +kernel
theorem dX1_driestSwap_4 : decode cX1_driestSwap 4 = .ok (.iload_n 1, 1) := by decide +kernel
theorem dX1_driestSwap_5 : decode cX1_driestSwap 5 = .ok (.iload_n 2, 1) := by decide +kernel
theorem dX1_driestSwap_6 : decode cX1_driestSwap 6 = .ok (.invokevirtual 154, 3) := by decide +kernel
theorem dX1_driestSwap_9 : decode cX1_driestSwap 9 = .ok (.istore 4, 2) := by decide +kernel
theorem dX1_driestSwap_11 : decode cX1_driestSwap 11 = .ok (.iconst 0, 1) := by decide +kernel
theorem dX1_driestSwap_12 : decode cX1_driestSwap 12 = .ok (.istore 5, 2) := by decide +kernel
theorem dX1_driestSwap_14 : decode cX1_driestSwap 14 = .ok (.iload 5, 2) := by decide +kernel
theorem dX1_driestSwap_16 : decode cX1_driestSwap 16 = .ok (.aload_n 0, 1) := by decide +kernel
theorem dX1_driestSwap_17 : decode cX1_driestSwap 17 = .ok (.getfield 39, 3) := by decide +kernel
theorem dX1_driestSwap_20 : decode cX1_driestSwap 20 = .ok (.iconst 1, 1) := by decide +kernel
theorem dX1_driestSwap_21 : decode cX1_driestSwap 21 = .ok (.isub, 1) := by decide +kernel
theorem dX1_driestSwap_22 : decode cX1_driestSwap 22 = .ok (.if_icmp .ge 58, 3) := by decide +kernel
theorem dX1_driestSwap_25 : decode cX1_driestSwap 25 = .ok (.aload_n 0, 1) := by decide +kernel
theorem dX1_driestSwap_26 : decode cX1_driestSwap 26 = .ok (.iload 5, 2) := by decide +kernel
theorem dX1_driestSwap_28 : decode cX1_driestSwap 28 = .ok (.invokevirtual 89, 3) := by decide +kernel
theorem dX1_driestSwap_31 : decode cX1_driestSwap 31 = .ok (.ifCond .ne 43, 3) := by decide +kernel
theorem dX1_driestSwap_34 : decode cX1_driestSwap 34 = .ok (.aload_n 0, 1) := by decide +kernel
theorem dX1_driestSwap_35 : decode cX1_driestSwap 35 = .ok (.getfield 24, 3) := by decide +kernel
theorem dX1_driestSwap_38 : decode cX1_driestSwap 38 = .ok (.iload 5, 2) := by decide +kernel
theorem dX1_driestSwap_40 : decode cX1_driestSwap 40 = .ok (.invokestatic 85, 3) := by decide +kernel
theorem dX1_driestSwap_43 : decode cX1_driestSwap 43 = .ok (.aload_n 0, 1) := by decide +kernel
theorem dX1_driestSwap_44 : decode cX1_driestSwap 44 = .ok (.iload_n 1, 1) := by decide +kernel
theorem dX1_driestSwap_45 : decode cX1_driestSwap 45 = .ok (.iload_n 2, 1) := by decide +kernel
theorem dX1_driestSwap_46 : decode cX1_driestSwap 46 = .ok (.invokevirtual 154, 3) := by decide +kernel
theorem dX1_driestSwap_49 : decode cX1_driestSwap 49 = .ok (.istore 6, 2) := by decide +kernel
theorem dX1_driestSwap_51 : decode cX1_driestSwap 51 = .ok (.aload_n 0, 1) := by decide +kernel
theorem dX1_driestSwap_52 : decode cX1_driestSwap 52 = .ok (.getfield 24, 3) := by decide +kernel
theorem dX1_driestSwap_55 : decode cX1_driestSwap 55 = .ok (.iload 5, 2) := by decide +kernel
theorem dX1_driestSwap_57 : decode cX1_driestSwap 57 = .ok (.invokestatic 85, 3) := by decide +kernel
theorem dX1_driestSwap_60 : decode cX1_driestSwap 60 = .ok (.iload 6, 2) := by decide +kernel
theorem dX1_driestSwap_62 : decode cX1_driestSwap 62 = .ok (.iload 4, 2) := by decide +kernel
theorem dX1_driestSwap_64 : decode cX1_driestSwap 64 = .ok (.if_icmp .ge 10, 3) := by decide +kernel
theorem dX1_driestSwap_67 : decode cX1_driestSwap 67 = .ok (.iload 6, 2) := by decide +kernel
theorem dX1_driestSwap_69 : decode cX1_driestSwap 69 = .ok (.istore 4, 2) := by decide +kernel
theorem dX1_driestSwap_71 : decode cX1_driestSwap 71 = .ok (.iload 5, 2) := by decide +kernel
theorem dX1_driestSwap_73 : decode cX1_driestSwap 73 = .ok (.istore_n 3, 1) := by decide +kernel
theorem dX1_driestSwap_74 : decode cX1_driestSwap 74 = .ok (.iinc 5 1, 3) := by decide +kernel
theorem dX1_driestSwap_77 : decode cX1_driestSwap 77 = .ok (.goto (-63), 3) := by decide +kernel
theorem dX1_driestSwap_80 : decode cX1_driestSwap 80 = .ok (.iload_n 3, 1) := by decide +kernel
theorem dX1_driestSwap_81 : decode cX1_driestSwap 81 = .ok (.ireturn, 1) := by decide +kernel
theorem dX1_peopleToServe_0 : decode cX1_peopleToServe 0 = .ok (.aload_n 0, 1) := by decide +kernel
theorem dX1_peopleToServe_1 : decode cX1_peopleToServe 1 = .ok (.getfield 39, 3) := by decide +kernel
theorem dX1_peopleToServe_4 : decode cX1_peopleToServe 4 = .ok (.aload_n 0, 1) := by decide +kernel
theorem dX1_peopleToServe_5 : decode cX1_peopleToServe 5 = .ok (.getfield 30, 3) := by decide +kernel
theorem dX1_peopleToServe_8 : decode cX1_peopleToServe 8 = .ok (.iconst 1, 1) := by decide +kernel
theorem dX1_peopleToServe_9 : decode cX1_peopleToServe 9 = .ok (.iaload, 1) := by decide +kernel
theorem dX1_peopleToServe_10 : decode cX1_peopleToServe 10 = .ok (.invokestatic 133, 3) := by decide +kernel
theorem dX1_peopleToServe_13 : decode cX1_peopleToServe 13 = .ok (.ireturn, 1) := by decide +kernel
set_option maxRecDepth 20000 in
theorem ggX1_fareForAll_X1_peopleToServe : GoodIn wsX1_fareForAll wsX1_peopleToServe := goodIn_r _ [6, 7, 1, 8, 9, 10, 11, 12, 13, 14, 15, 16, 17, 18, 19, 20, 21, 22, 23, 24, 25, 26, 27, 28] (by decide +kernel) (by decide +kernel)
set_option maxRecDepth 20000 in
theorem gX1_fareForAll_X1_peopleToServe : GoodIn wsX1_fareForAll (wsV RX1 118 RX1 yX1_peopleToServe wsX1_peopleToServe) := goodIn_app (goodIn_of _ (by decide +kernel)) ggX1_fareForAll_X1_peopleToServe
theorem dX1_fareForAll_0 : decode cX1_fareForAll 0 = .ok (.aload_n 0, 1) := by decide +kernel
theorem dX1_fareForAll_1 : decode cX1_fareForAll 1 = .ok (.invokevirtual 118, 3) := by decide +kernel
theorem dX1_fareForAll_4 : decode cX1_fareForAll 4 = .ok (.aload_n 0, 1) := by decide +kernel
theorem dX1_fareForAll_5 : decode cX1_fareForAll 5 = .ok (.getfield 30, 3) := by decide +kernel
theorem dX1_fareForAll_8 : decode cX1_fareForAll 8 = .ok (.iconst 2, 1) := by decide +kernel
theorem dX1_fareForAll_9 : decode cX1_fareForAll 9 = .ok (.iaload, 1) := by decide +kernel
theorem dX1_fareForAll_10 : decode cX1_fareForAll 10 = .ok (.imul, 1) := by decide +kernel
theorem dX1_fareForAll_11 : decode cX1_fareForAll 11 = .ok (.ireturn, 1) := by decide +kernel
set_option maxRecDepth 20000 in
theorem ggX1_driestToServe_X1_peopleToServe : GoodIn wsX1_driestToServe wsX1_peopleToServe := goodIn_r _ [6, 7, 8, 9, 10, 11, 12, 13, 14, 15, 16, 17, 18, 19, 20, 21, 22, 23, 24, 25, 26, 27, 28, 29] (by decide +kernel) (by decide +kernel)
set_option maxRecDepth 20000 in
theorem gX1_driestToServe_X1_peopleToServe : GoodIn wsX1_driestToServe (wsV RX1 118 RX1 yX1_peopleToServe wsX1_peopleToServe) := goodIn_app (goodIn_of _ (by decide +kernel)) ggX1_driestToServe_X1_peopleToServe
theorem dX1_driestToServe_0 : decode cX1_driestToServe 0 = .ok (.aload_n 0, 1) := by decide +kernel
theorem dX1_driestToServe_1 : decode cX1_driestToServe 1 = .ok (.invokevirtual 118, 3) := by decide +kernel
theorem dX1_driestToServe_4 : decode cX1_driestToServe 4 = .ok (.istore_n 1, 1) := by decide +kernel
theorem dX1_driestToServe_5 : decode cX1_driestToServe 5 = .ok (.iconst 0, 1) := by decide +kernel
theorem dX1_driestToServe_6 : decode cX1_driestToServe 6 = .ok (.istore_n 2, 1) := by decide +kernel
theorem dX1_driestToServe_7 : decode cX1_driestToServe 7 = .ok (.iconst 1, 1) := by decide +kernel
theorem dX1_driestToServe_8 : decode cX1_driestToServe 8 = .ok (.istore_n 3, 1) := by decide +kernel
theorem dX1_driestToServe_9 : decode cX1_driestToServe 9 = .ok (.iload_n 3, 1) := by decide +kernel
theorem dX1_driestToServe_10 : decode cX1_driestToServe 10 = .ok (.iload_n 1, 1) := by decide +kernel
theorem dX1_driestToServe_11 : decode cX1_driestToServe 11 = .ok (.if_icmp .ge 26, 3) := by decide +kernel
theorem dX1_driestToServe_14 : decode cX1_driestToServe 14 = .ok (.aload_n 0, 1) := by decide +kernel
theorem dX1_driestToServe_15 : decode cX1_driestToServe 15 = .ok (.getfield 15, 3) := by decide +kernel
theorem dX1_driestToServe_18 : decode cX1_driestToServe 18 = .ok (.iload_n 3, 1) := by decide +kernel
theorem dX1_driestToServe_19 : decode cX1_driestToServe 19 = .ok (.iaload, 1) := by decide +kernel
theorem dX1_driestToServe_20 : decode cX1_driestToServe 20 = .ok (.aload_n 0, 1) := by decide +kernel
theorem dX1_driestToServe_21 : decode cX1_driestToServe 21 = .ok (.getfield 15, 3) := by decide +kernel
theorem dX1_driestToServe_24 : decode cX1_driestToServe 24 = .ok (.iload_n 2, 1) := by decide +kernel
theorem dX1_driestToServe_25 : decode cX1_driestToServe 25 = .ok (.iaload, 1) := by decide +kernel
theorem dX1_driestToServe_26 : decode cX1_driestToServe 26 = .ok (.if_icmp .ge 5, 3) := by decide +kernel
theorem dX1_driestToServe_29 : decode cX1_driestToServe 29 = .ok (.iload_n 3, 1) := by decide +kernel
theorem dX1_driestToServe_30 : decode cX1_driestToServe 30 = .ok (.istore_n 2, 1) := by decide +kernel
theorem dX1_driestToServe_31 : decode cX1_driestToServe 31 = .ok (.iinc 3 1, 3) := by decide +kernel
theorem dX1_driestToServe_34 : decode cX1_driestToServe 34 = .ok (.goto (-25), 3) := by decide +kernel
theorem dX1_driestToServe_37 : decode cX1_driestToServe 37 = .ok (.iload_n 2, 1) := by decide +kernel
theorem dX1_driestToServe_38 : decode cX1_driestToServe 38 = .ok (.ireturn, 1) := by decide +kernel
set_option maxRecDepth 20000 in
theorem ggX1_paidFrom_X1_fareForAll : GoodIn wsX1_paidFrom wsX1_fareForAll := goodIn_r _ [10, 11, 12, 13, 14, 9, 15, 16, 2, 3, 4, 5, 17, 18, 19, 20, 21, 22, 23, 24, 25, 26, 27, 28, 29, 30, 31, 32, 33] (by decide +kernel) (by decide +kernel)
set_option maxRecDepth 20000 in
theorem gX1_paidFrom_X1_fareForAll : GoodIn wsX1_paidFrom (wsV RX1 127 RX1 yX1_fareForAll wsX1_fareForAll) := goodIn_app (goodIn_of _ (by decide +kernel)) ggX1_paidFrom_X1_fareForAll
theorem dX1_paidFrom_0 : decode cX1_paidFrom 0 = .ok (.aload_n 0, 1) := by decide +kernel
theorem dX1_paidFrom_1 : decode cX1_paidFrom 1 = .ok (.getfield 21, 3) := by decide +kernel
theorem dX1_paidFrom_4 : decode cX1_paidFrom 4 = .ok (.iload_n 1, 1) := by decide +kernel
theorem dX1_paidFrom_5 : decode cX1_paidFrom 5 = .ok (.iaload, 1) := by decide +kernel
theorem dX1_paidFrom_6 : decode cX1_paidFrom 6 = .ok (.aload_n 0, 1) := by decide +kernel
theorem dX1_paidFrom_7 : decode cX1_paidFrom 7 = .ok (.invokevirtual 127, 3) := by decide +kernel
theorem dX1_paidFrom_10 : decode cX1_paidFrom 10 = .ok (.invokestatic 133, 3) := by decide +kernel
theorem dX1_paidFrom_13 : decode cX1_paidFrom 13 = .ok (.ireturn, 1) := by decide +kernel
theorem dX1_totalWetness_0 : decode cX1_totalWetness 0 = .ok (.iconst 0, 1) := by decide +kernel
theorem dX1_totalWetness_1 : decode cX1_totalWetness 1 = .ok (.istore_n 1, 1) := by decide +kernel
theorem dX1_totalWetness_2 : decode cX1_totalWetness 2 = .ok (.iconst 0, 1) := by decide +kernel
theorem dX1_totalWetness_3 : decode cX1_totalWetness 3 = .ok (.istore_n 2, 1) := by decide +kernel
theorem dX1_totalWetness_4 : decode cX1_totalWetness 4 = .ok (.iload_n 2, 1) := by decide +kernel
theorem dX1_totalWetness_5 : decode cX1_totalWetness 5 = .ok (.aload_n 0, 1) := by decide +kernel
theorem dX1_totalWetness_6 : decode cX1_totalWetness 6 = .ok (.getfield 39, 3) := by decide +kernel
theorem dX1_totalWetness_9 : decode cX1_totalWetness 9 = .ok (.if_icmp .ge 18, 3) := by decide +kernel
theorem dX1_totalWetness_12 : decode cX1_totalWetness 12 = .ok (.iload_n 1, 1) := by decide +kernel
theorem dX1_totalWetness_13 : decode cX1_totalWetness 13 = .ok (.aload_n 0, 1) := by decide +kernel
theorem dX1_totalWetness_14 : decode cX1_totalWetness 14 = .ok (.getfield 15, 3) := by decide +kernel
theorem dX1_totalWetness_17 : decode cX1_totalWetness 17 = .ok (.iload_n 2, 1) := by decide +kernel
theorem dX1_totalWetness_18 : decode cX1_totalWetness 18 = .ok (.iaload, 1) := by decide +kernel
theorem dX1_totalWetness_19 : decode cX1_totalWetness 19 = .ok (.iadd, 1) := by decide +kernel
theorem dX1_totalWetness_20 : decode cX1_totalWetness 20 = .ok (.istore_n 1, 1) := by decide +kernel
theorem dX1_totalWetness_21 : decode cX1_totalWetness 21 = .ok (.iinc 2 1, 3) := by decide +kernel
theorem dX1_totalWetness_24 : decode cX1_totalWetness 24 = .ok (.goto (-20), 3) := by decide +kernel
theorem dX1_totalWetness_27 : decode cX1_totalWetness 27 = .ok (.iload_n 1, 1) := by decide +kernel
theorem dX1_totalWetness_28 : decode cX1_totalWetness 28 = .ok (.ireturn, 1) := by decide +kernel
theorem dX1_wettest_0 : decode cX1_wettest 0 = .ok (.bipush (-5), 2) := by decide +kernel
theorem dX1_wettest_2 : decode cX1_wettest 2 = .ok (.istore_n 1, 1) := by decide +kernel
theorem dX1_wettest_3 : decode cX1_wettest 3 = .ok (.iconst (-1), 1) := by decide +kernel
theorem dX1_wettest_4 : decode cX1_wettest 4 = .ok (.istore_n 2, 1) := by decide +kernel
theorem dX1_wettest_5 : decode cX1_wettest 5 = .ok (.iconst 0, 1) := by decide +kernel
theorem dX1_wettest_6 : decode cX1_wettest 6 = .ok (.istore_n 3, 1) := by decide +kernel
theorem dX1_wettest_7 : decode cX1_wettest 7 = .ok (.iload_n 3, 1) := by decide +kernel
theorem dX1_wettest_8 : decode cX1_wettest 8 = .ok (.aload_n 0, 1) := by decide +kernel
theorem dX1_wettest_9 : decode cX1_wettest 9 = .ok (.getfield 39, 3) := by decide +kernel
theorem dX1_wettest_12 : decode cX1_wettest 12 = .ok (.if_icmp .ge 28, 3) := by decide +kernel
theorem dX1_wettest_15 : decode cX1_wettest 15 = .ok (.aload_n 0, 1) := by decide +kernel
theorem dX1_wettest_16 : decode cX1_wettest 16 = .ok (.getfield 15, 3) := by decide +kernel
theorem dX1_wettest_19 : decode cX1_wettest 19 = .ok (.iload_n 3, 1) := by decide +kernel
theorem dX1_wettest_20 : decode cX1_wettest 20 = .ok (.iaload, 1) := by decide +kernel
theorem dX1_wettest_21 : decode cX1_wettest 21 = .ok (.iload_n 2, 1) := by decide +kernel
theorem dX1_wettest_22 : decode cX1_wettest 22 = .ok (.if_icmp .le 12, 3) := by decide +kernel
theorem dX1_wettest_25 : decode cX1_wettest 25 = .ok (.aload_n 0, 1) := by decide +kernel
theorem dX1_wettest_26 : decode cX1_wettest 26 = .ok (.getfield 15, 3) := by decide +kernel
theorem dX1_wettest_29 : decode cX1_wettest 29 = .ok (.iload_n 3, 1) := by decide +kernel
theorem dX1_wettest_30 : decode cX1_wettest 30 = .ok (.iaload, 1) := by decide +kernel
theorem dX1_wettest_31 : decode cX1_wettest 31 = .ok (.istore_n 2, 1) := by decide +kernel
theorem dX1_wettest_32 : decode cX1_wettest 32 = .ok (.iload_n 3, 1) := by decide +kernel
theorem dX1_wettest_33 : decode cX1_wettest 33 = .ok (.istore_n 1, 1) := by decide +kernel
theorem dX1_wettest_34 : decode cX1_wettest 34 = .ok (.iinc 3 1, 3) := by decide +kernel
theorem dX1_wettest_37 : decode cX1_wettest 37 = .ok (.goto (-30), 3) := by decide +kernel
theorem dX1_wettest_40 : decode cX1_wettest 40 = .ok (.iload_n 1, 1) := by decide +kernel
theorem dX1_wettest_41 : decode cX1_wettest 41 = .ok (.ireturn, 1) := by decide +kernel
