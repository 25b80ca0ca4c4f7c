theorem dX1_readEnd_69 : decode cX1_readEnd 69 = .ok (.aload_n 0, 1) := by decide +kernel
theorem dX1_readEnd_70 : decode cX1_readEnd 70 = .ok (.getfield 47, 3) := by decide +kernel
theorem dX1_readEnd_73 : decode cX1_readEnd 73 = .ok (.invokevirtual 120, 3) := by decide +kernel
theorem dX1_readEnd_76 : decode cX1_readEnd 76 = .ok (.return_, 1) := by decide +kernel
theorem dX1_readEnd_77 : decode cX1_readEnd 77 = .ok (.aload_n 0, 1) := by decide +kernel
theorem dX1_readEnd_78 : decode cX1_readEnd 78 = .ok (.dup, 1) := by decide +kernel
theorem dX1_readEnd_79 : decode cX1_readEnd 79 = .ok (.getfield 47, 3) := by decide +kernel
theorem dX1_readEnd_82 : decode cX1_readEnd 82 = .ok (.iconst 1, 1) := by decide +kernel
theorem dX1_readEnd_83 : decode cX1_readEnd 83 = .ok (.iadd, 1) := by decide +kernel
theorem dX1_readEnd_84 : decode cX1_readEnd 84 = .ok (.putfield 47, 3) := by decide +kernel
theorem dX1_readEnd_87 : decode cX1_readEnd 87 = .ok (.aload_n 0, 1) := by decide +kernel
theorem dX1_readEnd_88 : decode cX1_readEnd 88 = .ok (.invokevirtual 117, 3) := by decide +kernel
theorem dX1_readEnd_91 : decode cX1_readEnd 91 = .ok (.ifCond .eq 10, 3) := by decide +kernel
theorem dX1_readEnd_94 : decode cX1_readEnd 94 = .ok (.aload_n 0, 1) := by decide +kernel
theorem dX1_readEnd_95 : decode cX1_readEnd 95 = .ok (.invokevirtual 140, 3) := by decide +kernel
theorem dX1_readEnd_98 : decode cX1_readEnd 98 = .ok (.goto 7, 3) := by decide +kernel
theorem dX1_readEnd_101 : decode cX1_readEnd 101 = .ok (.aload_n 0, 1) := by decide +kernel
theorem dX1_readEnd_102 : decode cX1_readEnd 102 = .ok (.invokevirtual 143, 3) := by decide +kernel
theorem dX1_readEnd_105 : decode cX1_readEnd 105 = .ok (.return_, 1) := by decide +kernel
set_option maxRecDepth 20000 in
theorem ggX1_leaveOutermost_X5_count : GoodIn wsX1_leaveOutermost wsX5_count := goodIn_r _ [9, 10, 30, 31] (by decide +kernel) (by decide +kernel)
set_option maxRecDepth 20000 in
theorem gX1_leaveOutermost_X5_count : GoodIn wsX1_leaveOutermost (wsV RX1 50 RX5 yX5_count wsX5_count) := goodIn_app (goodIn_of _ (by decide +kernel)) ggX1_leaveOutermost_X5_count
set_option maxRecDepth 20000 in
theorem ggX1_leaveOutermost_X0_fail : GoodIn wsX1_leaveOutermost wsX0_fail := goodIn_r _ [15, 16, 17, 32, 33, 34, 35, 36, 37, 38, 39, 40, 41, 42, 43] (by decide +kernel) (by decide +kernel)
set_option maxRecDepth 20000 in
theorem gX1_leaveOutermost_X0_fail : GoodIn wsX1_leaveOutermost (wsV RX1 120 RX0 yX0_fail wsX0_fail) := goodIn_app (goodIn_of _ (by decide +kernel)) ggX1_leaveOutermost_X0_fail
theorem dX1_leaveOutermost_0 : decode cX1_leaveOutermost 0 = .ok (.aload_n 0, 1) := by decide +kernel
theorem dX1_leaveOutermost_1 : decode cX1_leaveOutermost 1 = .ok (.getfield 47, 3) := by decide +kernel
theorem dX1_leaveOutermost_4 : decode cX1_leaveOutermost 4 = .ok (.aload_n 0, 1) := by decide +kernel
theorem dX1_leaveOutermost_5 : decode cX1_leaveOutermost 5 = .ok (.getfield 24, 3) := by decide +kernel
theorem dX1_leaveOutermost_8 : decode cX1_leaveOutermost 8 = .ok (.invokevirtual 50, 3) := by decide +kernel
theorem dX1_leaveOutermost_11 : decode cX1_leaveOutermost 11 = .ok (.if_icmp .ge 15, 3) := by decide +kernel
theorem dX1_leaveOutermost_14 : decode cX1_leaveOutermost 14 = .ok (.aload_n 0, 1) := by decide +kernel
theorem dX1_leaveOutermost_15 : decode cX1_leaveOutermost 15 = .ok (.getfield 28, 3) := by decide +kernel
theorem dX1_leaveOutermost_18 : decode cX1_leaveOutermost 18 = .ok (.iconst 5, 1) := by decide +kernel
theorem dX1_leaveOutermost_19 : decode cX1_leaveOutermost 19 = .ok (.aload_n 0, 1) := by decide +kernel
theorem dX1_leaveOutermost_20 : decode cX1_leaveOutermost 20 = .ok (.getfield 47, 3) := by decide +kernel
theorem dX1_leaveOutermost_23 : decode cX1_leaveOutermost 23 = .ok (.invokevirtual 120, 3) := by decide +kernel
theorem dX1_leaveOutermost_26 : decode cX1_leaveOutermost 26 = .ok (.aload_n 0, 1) := by decide +kernel
theorem dX1_leaveOutermost_27 : decode cX1_leaveOutermost 27 = .ok (.iconst 0, 1) := by decide +kernel
theorem dX1_leaveOutermost_28 : decode cX1_leaveOutermost 28 = .ok (.putfield 43, 3) := by decide +kernel
theorem dX1_leaveOutermost_31 : decode cX1_leaveOutermost 31 = .ok (.return_, 1) := by decide +kernel
set_option maxRecDepth 20000 in
theorem ggX1_leaveInner_X0_fail : GoodIn wsX1_leaveInner wsX0_fail := goodIn_r _ [16, 17, 18, 70, 71, 72, 73, 74, 75, 76, 77, 78, 79, 80, 81] (by decide +kernel) (by decide +kernel)
set_option maxRecDepth 20000 in
theorem gX1_leaveInner_X0_fail : GoodIn wsX1_leaveInner (wsV RX1 120 RX0 yX0_fail wsX0_fail) := goodIn_app (goodIn_of _ (by decide +kernel)) ggX1_leaveInner_X0_fail
set_option maxRecDepth 20000 in
theorem ggX1_leaveInner_X4_top : GoodIn wsX1_leaveInner wsX4_top := goodIn_r _ [23, 24, 82, 83] (by decide +kernel) (by decide +kernel)
set_option maxRecDepth 20000 in
theorem gX1_leaveInner_X4_top : GoodIn wsX1_leaveInner (wsV RX1 69 RX4 yX4_top wsX4_top) := goodIn_app (goodIn_of _ (by decide +kernel)) ggX1_leaveInner_X4_top
set_option maxRecDepth 20000 in
theorem ggX1_leaveInner_X1_isOutermost : GoodIn wsX1_leaveInner wsX1_isOutermost := goodIn_r _ [29, 2, 58, 59, 60, 61, 62, 63, 64, 65, 66, 67, 68, 69] (by decide +kernel) (by decide +kernel)
set_option maxRecDepth 20000 in
theorem gX1_leaveInner_X1_isOutermost : GoodIn wsX1_leaveInner (wsV RX1 117 RX1 yX1_isOutermost wsX1_isOutermost) := goodIn_app (goodIn_of _ (by decide +kernel)) ggX1_leaveInner_X1_isOutermost
set_option maxRecDepth 20000 in
theorem ggX1_leaveInner_X0_ask : GoodIn wsX1_leaveInner wsX0_ask := goodIn_r _ [33, 34, 35, 36, 37, 38, 39, 40, 41, 42, 43, 44, 45, 46, 15, 47, 48, 49, 50, 51, 52, 53, 13, 14, 16, 17, 18, 70, 71, 72, 73, 74, 75, 76, 77, 78, 79, 80, 81] (by decide +kernel) (by decide +kernel)
set_option maxRecDepth 20000 in
theorem gX1_leaveInner_X0_ask : GoodIn wsX1_leaveInner (wsV RX1 124 RX0 yX0_ask wsX0_ask) := goodIn_app (goodIn_of _ (by decide +kernel)) ggX1_leaveInner_X0_ask
set_option maxRecDepth 20000 in
theorem ggX1_leaveInner_X0_release : GoodIn wsX1_leaveInner wsX0_release := goodIn_r _ [57, 37, 70, 71, 72, 73, 74, 75, 76, 77, 78, 79, 80, 81] (by decide +kernel) (by decide +kernel)
set_option maxRecDepth 20000 in
theorem gX1_leaveInner_X0_release : GoodIn wsX1_leaveInner (wsV RX1 146 RX0 yX0_release wsX0_release) := goodIn_app (goodIn_of _ (by decide +kernel)) ggX1_leaveInner_X0_release
theorem dX1_leaveInner_0 : decode cX1_leaveInner 0 = .ok (.aload_n 0, 1) := by decide +kernel
theorem dX1_leaveInner_1 : decode cX1_leaveInner 1 = .ok (.getfield 18, 3) := by decide +kernel
theorem dX1_leaveInner_4 : decode cX1_leaveInner 4 = .ok (.aload_n 0, 1) := by decide +kernel
theorem dX1_leaveInner_5 : decode cX1_leaveInner 5 = .ok (.getfield 43, 3) := by decide +kernel
theorem dX1_leaveInner_8 : decode cX1_leaveInner 8 = .ok (.iaload, 1) := by decide +kernel
theorem dX1_leaveInner_9 : decode cX1_leaveInner 9 = .ok (.istore_n 1, 1) := by decide +kernel
theorem dX1_leaveInner_10 : decode cX1_leaveInner 10 = .ok (.aload_n 0, 1) := by decide +kernel
theorem dX1_leaveInner_11 : decode cX1_leaveInner 11 = .ok (.getfield 47, 3) := by decide +kernel
theorem dX1_leaveInner_14 : decode cX1_leaveInner 14 = .ok (.aload_n 0, 1) := by decide +kernel
theorem dX1_leaveInner_15 : decode cX1_leaveInner 15 = .ok (.getfield 15, 3) := by decide +kernel
theorem dX1_leaveInner_18 : decode cX1_leaveInner 18 = .ok (.aload_n 0, 1) := by decide +kernel
theorem dX1_leaveInner_19 : decode cX1_leaveInner 19 = .ok (.getfield 43, 3) := by decide +kernel
theorem dX1_leaveInner_22 : decode cX1_leaveInner 22 = .ok (.iaload, 1) := by decide +kernel
theorem dX1_leaveInner_23 : decode cX1_leaveInner 23 = .ok (.if_icmp .ge 13, 3) := by decide +kernel
theorem dX1_leaveInner_26 : decode cX1_leaveInner 26 = .ok (.aload_n 0, 1) := by decide +kernel
theorem dX1_leaveInner_27 : decode cX1_leaveInner 27 = .ok (.getfield 28, 3) := by decide +kernel
theorem dX1_leaveInner_30 : decode cX1_leaveInner 30 = .ok (.iconst 2, 1) := by decide +kernel
theorem dX1_leaveInner_31 : decode cX1_leaveInner 31 = .ok (.iload_n 1, 1) := by decide +kernel
theorem dX1_leaveInner_32 : decode cX1_leaveInner 32 = .ok (.invokevirtual 120, 3) := by decide +kernel
theorem dX1_leaveInner_35 : decode cX1_leaveInner 35 = .ok (.return_, 1) := by decide +kernel
theorem dX1_leaveInner_36 : decode cX1_leaveInner 36 = .ok (.aload_n 0, 1) := by decide +kernel
theorem dX1_leaveInner_37 : decode cX1_leaveInner 37 = .ok (.aload_n 0, 1) := by decide +kernel
theorem dX1_leaveInner_38 : decode cX1_leaveInner 38 = .ok (.getfield 21, 3) := by decide +kernel
theorem dX1_leaveInner_41 : decode cX1_leaveInner 41 = .ok (.aload_n 0, 1) := by decide +kernel
theorem dX1_leaveInner_42 : decode cX1_leaveInner 42 = .ok (.getfield 43, 3) := by decide +kernel
theorem dX1_leaveInner_45 : decode cX1_leaveInner 45 = .ok (.iaload, 1) := by decide +kernel
theorem dX1_leaveInner_46 : decode cX1_leaveInner 46 = .ok (.putfield 78, 3) := by decide +kernel
theorem dX1_leaveInner_49 : decode cX1_leaveInner 49 = .ok (.aload_n 0, 1) := by decide +kernel
theorem dX1_leaveInner_50 : decode cX1_leaveInner 50 = .ok (.iload_n 1, 1) := by decide +kernel
theorem dX1_leaveInner_51 : decode cX1_leaveInner 51 = .ok (.iconst 1, 1) := by decide +kernel
theorem dX1_leaveInner_52 : decode cX1_leaveInner 52 = .ok (.isub, 1) := by decide +kernel
theorem dX1_leaveInner_53 : decode cX1_leaveInner 53 = .ok (.putfield 88, 3) := by decide +kernel
theorem dX1_leaveInner_56 : decode cX1_leaveInner 56 = .ok (.aload_n 0, 1) := by decide +kernel
theorem dX1_leaveInner_57 : decode cX1_leaveInner 57 = .ok (.aload_n 0, 1) := by decide +kernel
theorem dX1_leaveInner_58 : decode cX1_leaveInner 58 = .ok (.getfield 9, 3) := by decide +kernel
theorem dX1_leaveInner_61 : decode cX1_leaveInner 61 = .ok (.aload_n 0, 1) := by decide +kernel
theorem dX1_leaveInner_62 : decode cX1_leaveInner 62 = .ok (.getfield 43, 3) := by decide +kernel
theorem dX1_leaveInner_65 : decode cX1_leaveInner 65 = .ok (.iaload, 1) := by decide +kernel
theorem dX1_leaveInner_66 : decode cX1_leaveInner 66 = .ok (.putfield 91, 3) := by decide +kernel
theorem dX1_leaveInner_69 : decode cX1_leaveInner 69 = .ok (.aload_n 0, 1) := by decide +kernel
theorem dX1_leaveInner_70 : decode cX1_leaveInner 70 = .ok (.dup, 1) := by decide +kernel
theorem dX1_leaveInner_71 : decode cX1_leaveInner 71 = .ok (.getfield 43, 3) := by decide +kernel
theorem dX1_leaveInner_74 : decode cX1_leaveInner 74 = .ok (.iconst 1, 1) := by decide +kernel
theorem dX1_leaveInner_75 : decode cX1_leaveInner 75 = .ok (.isub, 1) := by decide +kernel
theorem dX1_leaveInner_76 : decode cX1_leaveInner 76 = .ok (.putfield 43, 3) := by decide +kernel
theorem dX1_leaveInner_79 : decode cX1_leaveInner 79 = .ok (.aload_n 0, 1) := by decide +kernel
theorem dX1_leaveInner_80 : decode cX1_leaveInner 80 = .ok (.getfield 38, 3) := by decide +kernel
theorem dX1_leaveInner_83 : decode cX1_leaveInner 83 = .ok (.invokevirtual 69, 3) := by decide +kernel
theorem dX1_leaveInner_86 : decode cX1_leaveInner 86 = .ok (.aload_n 0, 1) := by decide +kernel
theorem dX1_leaveInner_87 : decode cX1_leaveInner 87 = .ok (.getfield 91, 3) := by decide +kernel
theorem dX1_leaveInner_90 : decode cX1_leaveInner 90 = .ok (.isub, 1) := by decide +kernel
theorem dX1_leaveInner_91 : decode cX1_leaveInner 91 = .ok (.istore_n 2, 1) := by decide +kernel
theorem dX1_leaveInner_92 : decode cX1_leaveInner 92 = .ok (.aload_n 0, 1) := by decide +kernel
theorem dX1_leaveInner_93 : decode cX1_leaveInner 93 = .ok (.getfield 28, 3) := by decide +kernel
theorem dX1_leaveInner_96 : decode cX1_leaveInner 96 = .ok (.iload_n 2, 1) := by decide +kernel
theorem dX1_leaveInner_97 : decode cX1_leaveInner 97 = .ok (.aload_n 0, 1) := by decide +kernel
theorem dX1_leaveInner_98 : decode cX1_leaveInner 98 = .ok (.getfield 88, 3) := by decide +kernel
theorem dX1_leaveInner_101 : decode cX1_leaveInner 101 = .ok (.aload_n 0, 1) := by decide +kernel
theorem dX1_leaveInner_102 : decode cX1_leaveInner 102 = .ok (.invokevirtual 117, 3) := by decide +kernel
theorem dX1_leaveInner_105 : decode cX1_leaveInner 105 = .ok (.invokevirtual 124, 3) := by decide +kernel
theorem dX1_leaveInner_108 : decode cX1_leaveInner 108 = .ok (.pop, 1) := by decide +kernel
theorem dX1_leaveInner_109 : decode cX1_leaveInner 109 = .ok (.aload_n 0, 1) := by decide +kernel
theorem dX1_leaveInner_110 : decode cX1_leaveInner 110 = .ok (.getfield 28, 3) := by decide +kernel
theorem dX1_leaveInner_113 : decode cX1_leaveInner 113 = .ok (.iload_n 2, 1) := by decide +kernel
theorem dX1_leaveInner_114 : decode cX1_leaveInner 114 = .ok (.invokevirtual 146, 3) := by decide +kernel
theorem dX1_leaveInner_117 : decode cX1_leaveInner 117 = .ok (.return_, 1) := by decide +kernel
set_option maxRecDepth 20000 in
theorem ggX1_giveAgain_X0_failed : GoodIn wsX1_giveAgain wsX0_failed := goodIn_r _ [11, 12, 96, 97, 98, 99, 100, 101, 102, 103, 104, 105, 106, 107] (by decide +kernel) (by decide +kernel)
set_option maxRecDepth 20000 in
theorem gX1_giveAgain_X0_failed : GoodIn wsX1_giveAgain (wsV RX1 59 RX0 yX0_failed wsX0_failed) := goodIn_app (goodIn_of _ (by decide +kernel)) ggX1_giveAgain_X0_failed
set_option maxRecDepth 20000 in
theorem ggX1_giveAgain_X4_top : GoodIn wsX1_giveAgain wsX4_top := goodIn_r _ [17, 18, 108, 109] (by decide +kernel) (by decide +kernel)
set_option maxRecDepth 20000 in
theorem gX1_giveAgain_X4_top : GoodIn wsX1_giveAgain (wsV RX1 69 RX4 yX4_top wsX4_top) := goodIn_app (goodIn_of _ (by decide +kernel)) ggX1_giveAgain_X4_top
set_option maxRecDepth 20000 in
theorem ggX1_giveAgain_X5_byteAt : GoodIn wsX1_giveAgain wsX5_byteAt := goodIn_r _ [23, 24, 25, 26, 27, 22, 28, 29, 110, 111] (by decide +kernel) (by decide +kernel)
set_option maxRecDepth 20000 in
theorem gX1_giveAgain_X5_byteAt : GoodIn wsX1_giveAgain (wsV RX1 114 RX5 yX5_byteAt wsX5_byteAt) := goodIn_app (goodIn_of _ (by decide +kernel)) ggX1_giveAgain_X5_byteAt
set_option maxRecDepth 20000 in
theorem ggX1_giveAgain_X6_timesMore : GoodIn wsX1_giveAgain wsX6_timesMore := goodIn_r _ [32] (by decide +kernel) (by decide +kernel)
set_option maxRecDepth 20000 in
theorem gX1_giveAgain_X6_timesMore_n149 : GoodIn wsX1_giveAgain (wsX6_timesMore) := ggX1_giveAgain_X6_timesMore
set_option maxRecDepth 20000 in
theorem ggX1_giveAgain_X1_giveFromBefore : GoodIn wsX1_giveAgain wsX1_giveFromBefore := goodIn_r _ [37, 4, 3, 38, 39, 40, 36, 41, 42, 43, 44, 45, 10, 46, 47, 48, 49, 50, 51, 52, 53, 54, 55, 56, 57, 58, 59, 60, 61, 62, 63, 64, 65, 66, 67, 68, 69, 12, 70, 71, 72, 73, 16, 74, 18, 75, 76, 77, 78, 79, 80, 81, 82, 83, 84, 85, 86, 87, 88, 89, 90, 91, 92, 93, 94, 95, 96, 97, 98, 99, 100, 101, 102, 103, 104, 105, 106, 107, 108, 109] (by decide +kernel) (by decide +kernel)
set_option maxRecDepth 20000 in
theorem gX1_giveAgain_X1_giveFromBefore : GoodIn wsX1_giveAgain (wsV RX1 134 RX1 yX1_giveFromBefore wsX1_giveFromBefore) := goodIn_app (goodIn_of _ (by decide +kernel)) ggX1_giveAgain_X1_giveFromBefore
theorem dX1_giveAgain_0 : decode cX1_giveAgain 0 = .ok (.aload_n 0, 1) := by decide +kernel
theorem dX1_giveAgain_1 : decode cX1_giveAgain 1 = .ok (.getfield 88, 3) := by decide +kernel
theorem dX1_giveAgain_4 : decode cX1_giveAgain 4 = .ok (.iconst 1, 1) := by decide +kernel
theorem dX1_giveAgain_5 : decode cX1_giveAgain 5 = .ok (.isub, 1) := by decide +kernel
theorem dX1_giveAgain_6 : decode cX1_giveAgain 6 = .ok (.istore_n 1, 1) := by decide +kernel
theorem dX1_giveAgain_7 : decode cX1_giveAgain 7 = .ok (.iload_n 1, 1) := by decide +kernel
theorem dX1_giveAgain_8 : decode cX1_giveAgain 8 = .ok (.aload_n 0, 1) := by decide +kernel
theorem dX1_giveAgain_9 : decode cX1_giveAgain 9 = .ok (.getfield 78, 3) := by decide +kernel
theorem dX1_giveAgain_12 : decode cX1_giveAgain 12 = .ok (.if_icmp .lt 51, 3) := by decide +kernel
theorem dX1_giveAgain_15 : decode cX1_giveAgain 15 = .ok (.aload_n 0, 1) := by decide +kernel
theorem dX1_giveAgain_16 : decode cX1_giveAgain 16 = .ok (.getfield 28, 3) := by decide +kernel
theorem dX1_giveAgain_19 : decode cX1_giveAgain 19 = .ok (.invokevirtual 59, 3) := by decide +kernel
theorem dX1_giveAgain_22 : decode cX1_giveAgain 22 = .ok (.ifCond .ne 41, 3) := by decide +kernel
theorem dX1_giveAgain_25 : decode cX1_giveAgain 25 = .ok (.aload_n 0, 1) := by decide +kernel
theorem dX1_giveAgain_26 : decode cX1_giveAgain 26 = .ok (.getfield 38, 3) := by decide +kernel
theorem dX1_giveAgain_29 : decode cX1_giveAgain 29 = .ok (.invokevirtual 69, 3) := by decide +kernel
theorem dX1_giveAgain_32 : decode cX1_giveAgain 32 = .ok (.aload_n 0, 1) := by decide +kernel
theorem dX1_giveAgain_33 : decode cX1_giveAgain 33 = .ok (.getfield 91, 3) := by decide +kernel
theorem dX1_giveAgain_36 : decode cX1_giveAgain 36 = .ok (.isub, 1) := by decide +kernel
theorem dX1_giveAgain_37 : decode cX1_giveAgain 37 = .ok (.istore_n 2, 1) := by decide +kernel
theorem dX1_giveAgain_38 : decode cX1_giveAgain 38 = .ok (.aload_n 0, 1) := by decide +kernel
theorem dX1_giveAgain_39 : decode cX1_giveAgain 39 = .ok (.iload_n 2, 1) := by decide +kernel
theorem dX1_giveAgain_40 : decode cX1_giveAgain 40 = .ok (.iload_n 2, 1) := by decide +kernel
theorem dX1_giveAgain_41 : decode cX1_giveAgain 41 = .ok (.aload_n 0, 1) := by decide +kernel
theorem dX1_giveAgain_42 : decode cX1_giveAgain 42 = .ok (.getfield 24, 3) := by decide +kernel
theorem dX1_giveAgain_45 : decode cX1_giveAgain 45 = .ok (.iload_n 1, 1) := by decide +kernel
theorem dX1_giveAgain_46 : decode cX1_giveAgain 46 = .ok (.invokevirtual 114, 3) := by decide +kernel
theorem dX1_giveAgain_49 : decode cX1_giveAgain 49 = .ok (.invokestatic 149, 3) := by decide +kernel
theorem dX1_giveAgain_52 : decode cX1_giveAgain 52 = .ok (.imul, 1) := by decide +kernel
theorem dX1_giveAgain_53 : decode cX1_giveAgain 53 = .ok (.iload_n 1, 1) := by decide +kernel
theorem dX1_giveAgain_54 : decode cX1_giveAgain 54 = .ok (.invokevirtual 134, 3) := by decide +kernel
theorem dX1_giveAgain_57 : decode cX1_giveAgain 57 = .ok (.iinc 1 (-1), 3) := by decide +kernel
theorem dX1_giveAgain_60 : decode cX1_giveAgain 60 = .ok (.goto (-53), 3) := by decide +kernel
theorem dX1_giveAgain_63 : decode cX1_giveAgain 63 = .ok (.return_, 1) := by decide +kernel
set_option maxRecDepth 20000 in
theorem ggX1_giveFromBefore_X1_isOutermost : GoodIn wsX1_giveFromBefore wsX1_isOutermost := goodIn_r _ [7, 8, 54, 55, 56, 57, 58, 59, 60, 61, 62, 63, 64, 65] (by decide +kernel) (by decide +kernel)
set_option maxRecDepth 20000 in
theorem gX1_giveFromBefore_X1_isOutermost : GoodIn wsX1_giveFromBefore (wsV RX1 117 RX1 yX1_isOutermost wsX1_isOutermost) := goodIn_app (goodIn_of _ (by decide +kernel)) ggX1_giveFromBefore_X1_isOutermost
set_option maxRecDepth 20000 in
theorem ggX1_giveFromBefore_X0_ask : GoodIn wsX1_giveFromBefore wsX0_ask := goodIn_r _ [13, 14, 15, 16, 17, 18, 19, 20, 21, 22, 23, 24, 25, 26, 12, 27, 28, 29, 30, 31, 32, 33, 34, 35, 36, 37, 38, 66, 67, 68, 69, 70, 71, 72, 73, 74, 75, 76, 77] (by decide +kernel) (by decide +kernel)
set_option maxRecDepth 20000 in
theorem gX1_giveFromBefore_X0_ask : GoodIn wsX1_giveFromBefore (wsV RX1 124 RX0 yX0_ask wsX0_ask) := goodIn_app (goodIn_of _ (by decide +kernel)) ggX1_giveFromBefore_X0_ask
set_option maxRecDepth 20000 in
theorem ggX1_giveFromBefore_X4_copyFromBefore : GoodIn wsX1_giveFromBefore wsX4_copyFromBefore := goodIn_r _ [43, 44, 45, 46, 47, 42, 48, 49, 50, 51, 52, 53, 78, 79] (by decide +kernel) (by decide +kernel)
set_option maxRecDepth 20000 in
theorem gX1_giveFromBefore_X4_copyFromBefore : GoodIn wsX1_giveFromBefore (wsV RX1 152 RX4 yX4_copyFromBefore wsX4_copyFromBefore) := goodIn_app (goodIn_of _ (by decide +kernel)) ggX1_giveFromBefore_X4_copyFromBefore
theorem dX1_giveFromBefore_0 : decode cX1_giveFromBefore 0 = .ok (.aload_n 0, 1) := by decide +kernel
theorem dX1_giveFromBefore_1 : decode cX1_giveFromBefore 1 = .ok (.getfield 38, 3) := by decide +kernel
theorem dX1_giveFromBefore_4 : decode cX1_giveFromBefore 4 = .ok (.iload_n 1, 1) := by decide +kernel
theorem dX1_giveFromBefore_5 : decode cX1_giveFromBefore 5 = .ok (.aload_n 0, 1) := by decide +kernel
theorem dX1_giveFromBefore_6 : decode cX1_giveFromBefore 6 = .ok (.getfield 28, 3) := by decide +kernel
theorem dX1_giveFromBefore_9 : decode cX1_giveFromBefore 9 = .ok (.iload_n 2, 1) := by decide +kernel
theorem dX1_giveFromBefore_10 : decode cX1_giveFromBefore 10 = .ok (.iload_n 3, 1) := by decide +kernel
theorem dX1_giveFromBefore_11 : decode cX1_giveFromBefore 11 = .ok (.aload_n 0, 1) := by decide +kernel
theorem dX1_giveFromBefore_12 : decode cX1_giveFromBefore 12 = .ok (.invokevirtual 117, 3) := by decide +kernel
theorem dX1_giveFromBefore_15 : decode cX1_giveFromBefore 15 = .ok (.invokevirtual 124, 3) := by decide +kernel
theorem dX1_giveFromBefore_18 : decode cX1_giveFromBefore 18 = .ok (.invokevirtual 152, 3) := by decide +kernel
theorem dX1_giveFromBefore_21 : decode cX1_giveFromBefore 21 = .ok (.return_, 1) := by decide +kernel
set_option maxRecDepth 20000 in
theorem ggX2_init_X4_init : GoodIn wsX2_init wsX4_init := goodIn_r _ [10, 11, 2, 3, 12, 13, 14, 15] (by decide +kernel) (by decide +kernel)
set_option maxRecDepth 20000 in
theorem gX2_init_X4_init_n11 : GoodIn wsX2_init (wsX4_init) := ggX2_init_X4_init
theorem dX2_init_0 : decode cX2_init 0 = .ok (.aload_n 0, 1) := by decide +kernel
theorem dX2_init_1 : decode cX2_init 1 = .ok (.invokespecial 3, 3) := by decide +kernel
theorem dX2_init_4 : decode cX2_init 4 = .ok (.aload_n 0, 1) := by decide +kernel
theorem dX2_init_5 : decode cX2_init 5 = .ok (.new 9, 3) := by decide +kernel
theorem dX2_init_8 : decode cX2_init 8 = .ok (.dup, 1) := by decide +kernel
theorem dX2_init_9 : decode cX2_init 9 = .ok (.invokespecial 11, 3) := by decide +kernel
theorem dX2_init_12 : decode cX2_init 12 = .ok (.putfield 12, 3) := by decide +kernel
theorem dX2_init_15 : decode cX2_init 15 = .ok (.aload_n 0, 1) := by decide +kernel
theorem dX2_init_16 : decode cX2_init 16 = .ok (.aload_n 1, 1) := by decide +kernel
theorem dX2_init_17 : decode cX2_init 17 = .ok (.putfield 18, 3) := by decide +kernel
theorem dX2_init_20 : decode cX2_init 20 = .ok (.return_, 1) := by decide +kernel
set_option maxRecDepth 20000 in
theorem ggX2_drawStream_X5_keep : GoodIn wsX2_drawStream wsX5_keep := goodIn_r _ [10, 11, 113, 114] (by decide +kernel) (by decide +kernel)
set_option maxRecDepth 20000 in
theorem gX2_drawStream_X5_keep : GoodIn wsX2_drawStream (wsV RX2 22 RX5 yX5_keep wsX5_keep) := goodIn_app (goodIn_of _ (by decide +kernel)) ggX2_drawStream_X5_keep
set_option maxRecDepth 20000 in
theorem ggX2_drawStream_X4_backTo : GoodIn wsX2_drawStream wsX4_backTo := goodIn_r _ [16, 17, 115, 116] (by decide +kernel) (by decide +kernel)
set_option maxRecDepth 20000 in
theorem gX2_drawStream_X4_backTo : GoodIn wsX2_drawStream (wsV RX2 28 RX4 yX4_backTo wsX4_backTo) := goodIn_app (goodIn_of _ (by decide +kernel)) ggX2_drawStream_X4_backTo
set_option maxRecDepth 20000 in
theorem ggX2_drawStream_X2_drawPack : GoodIn wsX2_drawStream wsX2_drawPack := goodIn_r _ [22, 2, 5, 1, 23, 24, 25, 15, 26, 17, 27, 28, 29, 21, 30, 3, 31, 32, 33, 34, 35, 36, 9, 37, 11, 38, 39, 40, 41, 42, 43, 44, 45, 46, 47, 48, 49, 50, 51, 52, 53, 54, 55, 56, 57, 58, 59, 18, 19, 20, 60, 61, 62, 63, 64, 65, 66, 67, 68, 69, 70, 71, 72, 73, 74, 75, 76, 77, 78, 79, 80, 81, 82, 83, 84, 85, 86, 87, 88, 89, 90, 91, 92, 93, 94, 95, 96, 4, 97, 98, 99, 100, 101, 102, 103, 104, 105, 106, 107, 108, 109, 110, 111, 112, 113, 114, 115, 116] (by decide +kernel) (by decide +kernel)
set_option maxRecDepth 20000 in
theorem gX2_drawStream_X2_drawPack : GoodIn wsX2_drawStream (wsV RX2 42 RX2 yX2_drawPack wsX2_drawPack) := goodIn_app (goodIn_of _ (by decide +kernel)) ggX2_drawStream_X2_drawPack
theorem dX2_drawStream_0 : decode cX2_drawStream 0 = .ok (.aload_n 0, 1) := by decide +kernel
theorem dX2_drawStream_1 : decode cX2_drawStream 1 = .ok (.getfield 18, 3) := by decide +kernel
theorem dX2_drawStream_4 : decode cX2_drawStream 4 = .ok (.iconst 0, 1) := by decide +kernel
theorem dX2_drawStream_5 : decode cX2_drawStream 5 = .ok (.invokevirtual 22, 3) := by decide +kernel
theorem dX2_drawStream_8 : decode cX2_drawStream 8 = .ok (.aload_n 0, 1) := by decide +kernel
theorem dX2_drawStream_9 : decode cX2_drawStream 9 = .ok (.getfield 12, 3) := by decide +kernel
theorem dX2_drawStream_12 : decode cX2_drawStream 12 = .ok (.iconst 0, 1) := by decide +kernel
theorem dX2_drawStream_13 : decode cX2_drawStream 13 = .ok (.invokevirtual 28, 3) := by decide +kernel
theorem dX2_drawStream_16 : decode cX2_drawStream 16 = .ok (.aload_n 0, 1) := by decide +kernel
theorem dX2_drawStream_17 : decode cX2_drawStream 17 = .ok (.lload_n 1, 1) := by decide +kernel
theorem dX2_drawStream_18 : decode cX2_drawStream 18 = .ok (.putfield 31, 3) := by decide +kernel
theorem dX2_drawStream_21 : decode cX2_drawStream 21 = .ok (.aload_n 0, 1) := by decide +kernel
theorem dX2_drawStream_22 : decode cX2_drawStream 22 = .ok (.iload_n 3, 1) := by decide +kernel
theorem dX2_drawStream_23 : decode cX2_drawStream 23 = .ok (.putfield 35, 3) := by decide +kernel
theorem dX2_drawStream_26 : decode cX2_drawStream 26 = .ok (.aload_n 0, 1) := by decide +kernel
theorem dX2_drawStream_27 : decode cX2_drawStream 27 = .ok (.iload 4, 2) := by decide +kernel
theorem dX2_drawStream_29 : decode cX2_drawStream 29 = .ok (.putfield 39, 3) := by decide +kernel
theorem dX2_drawStream_32 : decode cX2_drawStream 32 = .ok (.aload_n 0, 1) := by decide +kernel
theorem dX2_drawStream_33 : decode cX2_drawStream 33 = .ok (.iconst 1, 1) := by decide +kernel
theorem dX2_drawStream_34 : decode cX2_drawStream 34 = .ok (.invokevirtual 42, 3) := by decide +kernel
theorem dX2_drawStream_37 : decode cX2_drawStream 37 = .ok (.return_, 1) := by decide +kernel
theorem dX2_pick_0 : decode cX2_pick 0 = .ok (.aload_n 0, 1) := by decide +kernel
theorem dX2_pick_1 : decode cX2_pick 1 = .ok (.dup, 1) := by decide +kernel
theorem dX2_pick_2 : decode cX2_pick 2 = .ok (.getfield 31, 3) := by decide +kernel
theorem dX2_pick_5 : decode cX2_pick 5 = .ok (.ldc2_w 45, 3) := by decide +kernel
theorem dX2_pick_8 : decode cX2_pick 8 = .ok (.ladd, 1) := by decide +kernel
theorem dX2_pick_9 : decode cX2_pick 9 = .ok (.putfield 31, 3) := by decide +kernel
theorem dX2_pick_12 : decode cX2_pick 12 = .ok (.aload_n 0, 1) := by decide +kernel
theorem dX2_pick_13 : decode cX2_pick 13 = .ok (.getfield 31, 3) := by decide +kernel
theorem dX2_pick_16 : decode cX2_pick 16 = .ok (.lstore_n 2, 1) := by decide +kernel
theorem dX2_pick_17 : decode cX2_pick 17 = .ok (.lload_n 2, 1) := by decide +kernel
theorem dX2_pick_18 : decode cX2_pick 18 = .ok (.lload_n 2, 1) := by decide +kernel
theorem dX2_pick_19 : decode cX2_pick 19 = .ok (.bipush 30, 2) := by decide +kernel
theorem dX2_pick_21 : decode cX2_pick 21 = .ok (.lushr, 1) := by decide +kernel
theorem dX2_pick_22 : decode cX2_pick 22 = .ok (.lxor, 1) := by decide +kernel
theorem dX2_pick_23 : decode cX2_pick 23 = .ok (.ldc2_w 47, 3) := by decide +kernel
theorem dX2_pick_26 : decode cX2_pick 26 = .ok (.lmul, 1) := by decide +kernel
theorem dX2_pick_27 : decode cX2_pick 27 = .ok (.lstore_n 2, 1) := by decide +kernel
theorem dX2_pick_28 : decode cX2_pick 28 = .ok (.lload_n 2, 1) := by decide +kernel
theorem dX2_pick_29 : decode cX2_pick 29 = .ok (.lload_n 2, 1) := by decide +kernel
theorem dX2_pick_30 : decode cX2_pick 30 = .ok (.bipush 27, 2) := by decide +kernel
theorem dX2_pick_32 : decode cX2_pick 32 = .ok (.lushr, 1) := by decide +kernel
theorem dX2_pick_33 : decode cX2_pick 33 = .ok (.lxor, 1) := by decide +kernel
theorem dX2_pick_34 : decode cX2_pick 34 = .ok (.ldc2_w 49, 3) := by decide +kernel
theorem dX2_pick_37 : decode cX2_pick 37 = .ok (.lmul, 1) := by decide +kernel
theorem dX2_pick_38 : decode cX2_pick 38 = .ok (.lstore_n 2, 1) := by decide +kernel
theorem dX2_pick_39 : decode cX2_pick 39 = .ok (.lload_n 2, 1) := by decide +kernel
theorem dX2_pick_40 : decode cX2_pick 40 = .ok (.lload_n 2, 1) := by decide +kernel
theorem dX2_pick_41 : decode cX2_pick 41 = .ok (.bipush 31, 2) := by decide +kernel
theorem dX2_pick_43 : decode cX2_pick 43 = .ok (.lushr, 1) := by decide +kernel
theorem dX2_pick_44 : decode cX2_pick 44 = .ok (.lxor, 1) := by decide +kernel
theorem dX2_pick_45 : decode cX2_pick 45 = .ok (.lstore_n 2, 1) := by decide +kernel
theorem dX2_pick_46 : decode cX2_pick 46 = .ok (.iload_n 1, 1) := by decide +kernel
theorem dX2_pick_47 : decode cX2_pick 47 = .ok (.ifCond .le 14, 3) := by decide +kernel
theorem dX2_pick_50 : decode cX2_pick 50 = .ok (.lload_n 2, 1) := by decide +kernel
theorem dX2_pick_51 : decode cX2_pick 51 = .ok (.bipush 33, 2) := by decide +kernel
theorem dX2_pick_53 : decode cX2_pick 53 = .ok (.lushr, 1) := by decide +kernel
theorem dX2_pick_54 : decode cX2_pick 54 = .ok (.iload_n 1, 1) := by decide +kernel
theorem dX2_pick_55 : decode cX2_pick 55 = .ok (.i2l, 1) := by decide +kernel
theorem dX2_pick_56 : decode cX2_pick 56 = .ok (.lrem, 1) := by decide +kernel
theorem dX2_pick_57 : decode cX2_pick 57 = .ok (.l2i, 1) := by decide +kernel
theorem dX2_pick_58 : decode cX2_pick 58 = .ok (.goto 4, 3) := by decide +kernel
theorem dX2_pick_61 : decode cX2_pick 61 = .ok (.iconst 0, 1) := by decide +kernel
theorem dX2_pick_62 : decode cX2_pick 62 = .ok (.ireturn, 1) := by decide +kernel
set_option maxRecDepth 20000 in
theorem ggX2_drawPack_X4_top : GoodIn wsX2_drawPack wsX4_top := goodIn_r _ [8, 9, 106, 107] (by decide +kernel) (by decide +kernel)
set_option maxRecDepth 20000 in
theorem gX2_drawPack_X4_top : GoodIn wsX2_drawPack (wsV RX2 51 RX4 yX4_top wsX4_top) := goodIn_app (goodIn_of _ (by decide +kernel)) ggX2_drawPack_X4_top
set_option maxRecDepth 20000 in
theorem ggX2_drawPack_X2_pick : GoodIn wsX2_drawPack wsX2_pick := goodIn_r _ [14, 15, 16, 17, 18, 99, 100, 101, 102, 103] (by decide +kernel) (by decide +kernel)
set_option maxRecDepth 20000 in
theorem gX2_drawPack_X2_pick : GoodIn wsX2_drawPack (wsV RX2 55 RX2 yX2_pick wsX2_pick) := goodIn_app (goodIn_of _ (by decide +kernel)) ggX2_drawPack_X2_pick
set_option maxRecDepth 20000 in
theorem ggX2_drawPack_X5_count : GoodIn wsX2_drawPack wsX5_count := goodIn_r _ [23, 24, 104, 105] (by decide +kernel) (by decide +kernel)
set_option maxRecDepth 20000 in
theorem gX2_drawPack_X5_count : GoodIn wsX2_drawPack (wsV RX2 59 RX5 yX5_count wsX5_count) := goodIn_app (goodIn_of _ (by decide +kernel)) ggX2_drawPack_X5_count
set_option maxRecDepth 20000 in
theorem ggX2_drawPack_X2_drawItem : GoodIn wsX2_drawPack wsX2_drawItem := goodIn_r _ [58, 1, 4, 5, 6, 7, 8, 9, 10, 11, 12, 13, 14, 15, 16, 17, 18, 59, 60, 61, 62, 63, 64, 65, 66, 3, 32, 33, 34, 22, 35, 24, 36, 67, 68, 69, 70, 41, 42, 43, 44, 45, 71, 72, 73, 74, 75, 76, 77, 78, 79, 80, 81, 82, 83, 84, 85, 86, 87, 88, 89, 90, 91, 92, 93, 94, 95, 96, 97, 98, 46, 19, 20, 21, 23, 47, 48, 49, 50, 51, 52, 53, 54, 55, 56, 57, 0, 2, 25, 26, 27, 28, 29, 30, 31, 37, 38, 39, 40, 99, 100, 101, 102, 103, 104, 105, 106, 107] (by decide +kernel) (by decide +kernel)
set_option maxRecDepth 20000 in
theorem gX2_drawPack_X2_drawItem : GoodIn wsX2_drawPack (wsV RX2 62 RX2 yX2_drawItem wsX2_drawItem) := goodIn_app (goodIn_of _ (by decide +kernel)) ggX2_drawPack_X2_drawItem
set_option maxRecDepth 20000 in
theorem ggX2_drawPack_X2_drawEnd : GoodIn wsX2_drawPack wsX2_drawEnd := goodIn_r _ [31, 3, 1, 32, 33, 34, 22, 35, 24, 36, 37, 38, 39, 7, 40, 9, 41, 42, 43, 44, 45, 99, 100, 101, 102, 103, 104, 105, 106, 107] (by decide +kernel) (by decide +kernel)
set_option maxRecDepth 20000 in
theorem gX2_drawPack_X2_drawEnd : GoodIn wsX2_drawPack (wsV RX2 66 RX2 yX2_drawEnd wsX2_drawEnd) := goodIn_app (goodIn_of _ (by decide +kernel)) ggX2_drawPack_X2_drawEnd
theorem dX2_drawPack_0 : decode cX2_drawPack 0 = .ok (.aload_n 0, 1) := by decide +kernel
theorem dX2_drawPack_1 : decode cX2_drawPack 1 = .ok (.getfield 12, 3) := by decide +kernel
theorem dX2_drawPack_4 : decode cX2_drawPack 4 = .ok (.invokevirtual 51, 3) := by decide +kernel
theorem dX2_drawPack_7 : decode cX2_drawPack 7 = .ok (.istore_n 2, 1) := by decide +kernel
theorem dX2_drawPack_8 : decode cX2_drawPack 8 = .ok (.iconst 1, 1) := by decide +kernel
theorem dX2_drawPack_9 : decode cX2_drawPack 9 = .ok (.aload_n 0, 1) := by decide +kernel
theorem dX2_drawPack_10 : decode cX2_drawPack 10 = .ok (.aload_n 0, 1) := by decide +kernel
theorem dX2_drawPack_11 : decode cX2_drawPack 11 = .ok (.getfield 39, 3) := by decide +kernel
theorem dX2_drawPack_14 : decode cX2_drawPack 14 = .ok (.invokevirtual 55, 3) := by decide +kernel
theorem dX2_drawPack_17 : decode cX2_drawPack 17 = .ok (.iadd, 1) := by decide +kernel
theorem dX2_drawPack_18 : decode cX2_drawPack 18 = .ok (.istore_n 3, 1) := by decide +kernel
theorem dX2_drawPack_19 : decode cX2_drawPack 19 = .ok (.iconst 0, 1) := by decide +kernel
theorem dX2_drawPack_20 : decode cX2_drawPack 20 = .ok (.istore 4, 2) := by decide +kernel
theorem dX2_drawPack_22 : decode cX2_drawPack 22 = .ok (.iload 4, 2) := by decide +kernel
theorem dX2_drawPack_24 : decode cX2_drawPack 24 = .ok (.iload_n 3, 1) := by decide +kernel
theorem dX2_drawPack_25 : decode cX2_drawPack 25 = .ok (.if_icmp .ge 27, 3) := by decide +kernel
theorem dX2_drawPack_28 : decode cX2_drawPack 28 = .ok (.aload_n 0, 1) := by decide +kernel
theorem dX2_drawPack_29 : decode cX2_drawPack 29 = .ok (.getfield 18, 3) := by decide +kernel
theorem dX2_drawPack_32 : decode cX2_drawPack 32 = .ok (.invokevirtual 59, 3) := by decide +kernel
theorem dX2_drawPack_35 : decode cX2_drawPack 35 = .ok (.bipush 100, 2) := by decide +kernel
theorem dX2_drawPack_37 : decode cX2_drawPack 37 = .ok (.if_icmp .ge 15, 3) := by decide +kernel
theorem dX2_drawPack_40 : decode cX2_drawPack 40 = .ok (.aload_n 0, 1) := by decide +kernel
theorem dX2_drawPack_41 : decode cX2_drawPack 41 = .ok (.iload_n 2, 1) := by decide +kernel
theorem dX2_drawPack_42 : decode cX2_drawPack 42 = .ok (.iload_n 1, 1) := by decide +kernel
theorem dX2_drawPack_43 : decode cX2_drawPack 43 = .ok (.invokevirtual 62, 3) := by decide +kernel
theorem dX2_drawPack_46 : decode cX2_drawPack 46 = .ok (.iinc 4 1, 3) := by decide +kernel
theorem dX2_drawPack_49 : decode cX2_drawPack 49 = .ok (.goto (-27), 3) := by decide +kernel
theorem dX2_drawPack_52 : decode cX2_drawPack 52 = .ok (.aload_n 0, 1) := by decide +kernel
theorem dX2_drawPack_53 : decode cX2_drawPack 53 = .ok (.iload_n 2, 1) := by decide +kernel
theorem dX2_drawPack_54 : decode cX2_drawPack 54 = .ok (.invokevirtual 66, 3) := by decide +kernel
theorem dX2_drawPack_57 : decode cX2_drawPack 57 = .ok (.return_, 1) := by decide +kernel
set_option maxRecDepth 20000 in
theorem ggX2_drawItem_X4_top : GoodIn wsX2_drawItem wsX4_top := goodIn_r _ [6, 7, 106, 107] (by decide +kernel) (by decide +kernel)
set_option maxRecDepth 20000 in
theorem gX2_drawItem_X4_top : GoodIn wsX2_drawItem (wsV RX2 51 RX4 yX4_top wsX4_top) := goodIn_app (goodIn_of _ (by decide +kernel)) ggX2_drawItem_X4_top
set_option maxRecDepth 20000 in
theorem ggX2_drawItem_X2_pick : GoodIn wsX2_drawItem wsX2_pick := goodIn_r _ [12, 13, 14, 15, 16, 99, 100, 101, 102, 103] (by decide +kernel) (by decide +kernel)
set_option maxRecDepth 20000 in
theorem gX2_drawItem_X2_pick : GoodIn wsX2_drawItem (wsV RX2 55 RX2 yX2_pick wsX2_pick) := goodIn_app (goodIn_of _ (by decide +kernel)) ggX2_drawItem_X2_pick
set_option maxRecDepth 20000 in
theorem ggX2_drawItem_X2_drawCopy : GoodIn wsX2_drawItem wsX2_drawCopy := goodIn_r _ [20, 21, 22, 23, 24, 25, 1, 8, 9, 10, 11, 12, 13, 14, 15, 16, 26, 27, 28, 29, 30, 31, 32, 33, 34, 35, 5, 36, 7, 37, 38, 39, 40, 41, 42, 43, 44, 45, 99, 100, 101, 102, 103, 104, 105, 106, 107] (by decide +kernel) (by decide +kernel)
set_option maxRecDepth 20000 in
theorem gX2_drawItem_X2_drawCopy : GoodIn wsX2_drawItem (wsV RX2 69 RX2 yX2_drawCopy wsX2_drawCopy) := goodIn_app (goodIn_of _ (by decide +kernel)) ggX2_drawItem_X2_drawCopy
set_option maxRecDepth 20000 in
theorem ggX2_drawItem_X2_drawAgain : GoodIn wsX2_drawItem wsX2_drawAgain := goodIn_r _ [49, 25, 1, 8, 9, 10, 11, 12, 13, 14, 15, 16, 26, 27, 28, 29, 30, 31, 32, 2, 3, 4, 5, 6, 7, 50, 51, 52, 53, 54, 55, 56, 57, 58, 59, 43, 44, 45, 41, 60, 61, 62, 33, 34, 35, 36, 37, 38, 39, 40, 42, 99, 100, 101, 102, 103, 104, 105, 106, 107] (by decide +kernel) (by decide +kernel)
set_option maxRecDepth 20000 in
theorem gX2_drawItem_X2_drawAgain : GoodIn wsX2_drawItem (wsV RX2 72 RX2 yX2_drawAgain wsX2_drawAgain) := goodIn_app (goodIn_of _ (by decide +kernel)) ggX2_drawItem_X2_drawAgain
set_option maxRecDepth 20000 in
theorem ggX2_drawItem_X2_drawInner : GoodIn wsX2_drawItem wsX2_drawInner := goodIn_r _ [70, 25, 26, 27, 28, 29, 30, 31, 32, 71, 72, 73, 74, 75, 76, 77, 11, 78, 79, 80, 81, 82, 83, 84, 85, 0, 1, 2, 3, 4, 5, 6, 7, 8, 9, 10, 12, 13, 14, 15, 16, 17, 18, 19, 20, 21, 22, 23, 24, 33, 34, 35, 36, 37, 38, 39, 40, 41, 42, 43, 44, 45, 46, 47, 48, 49, 50, 51, 52, 53, 54, 55, 56, 57, 58, 59, 60, 61, 62, 63, 64, 65, 66, 67, 68, 69, 86, 87, 88, 89, 90, 91, 92, 93, 94, 95, 96, 97, 98, 99, 100, 101, 102, 103, 104, 105, 106, 107] (by decide +kernel) (by decide +kernel)
set_option maxRecDepth 20000 in
theorem gX2_drawItem_X2_drawInner : GoodIn wsX2_drawItem (wsV RX2 75 RX2 yX2_drawInner wsX2_drawInner) := goodIn_app (goodIn_of _ (by decide +kernel)) ggX2_drawItem_X2_drawInner
set_option maxRecDepth 20000 in
theorem ggX2_drawItem_X2_drawWide : GoodIn wsX2_drawItem wsX2_drawWide := goodIn_r _ [69, 25, 8, 9, 10, 11, 12, 13, 14, 15, 16, 26, 27, 28, 29, 30, 31, 32, 54, 55, 56, 57, 58, 1, 59, 43, 44, 5, 45, 7, 41, 99, 100, 101, 102, 103, 104, 105, 106, 107] (by decide +kernel) (by decide +kernel)
set_option maxRecDepth 20000 in
theorem gX2_drawItem_X2_drawWide : GoodIn wsX2_drawItem (wsV RX2 78 RX2 yX2_drawWide wsX2_drawWide) := goodIn_app (goodIn_of _ (by decide +kernel)) ggX2_drawItem_X2_drawWide
set_option maxRecDepth 20000 in
theorem ggX2_drawItem_X2_drawRaw : GoodIn wsX2_drawItem wsX2_drawRaw := goodIn_r _ [53, 25, 8, 9, 10, 11, 12, 13, 14, 15, 16, 26, 27, 28, 29, 30, 31, 32, 54, 55, 56, 57, 58, 1, 59, 43, 44, 5, 45, 7, 41, 99, 100, 101, 102, 103, 104, 105, 106, 107] (by decide +kernel) (by decide +kernel)
set_option maxRecDepth 20000 in
theorem gX2_drawItem_X2_drawRaw : GoodIn wsX2_drawItem (wsV RX2 81 RX2 yX2_drawRaw wsX2_drawRaw) := goodIn_app (goodIn_of _ (by decide +kernel)) ggX2_drawItem_X2_drawRaw
theorem dX2_drawItem_0 : decode cX2_drawItem 0 = .ok (.aload_n 0, 1) := by decide +kernel
theorem dX2_drawItem_1 : decode cX2_drawItem 1 = .ok (.getfield 12, 3) := by decide +kernel
theorem dX2_drawItem_4 : decode cX2_drawItem 4 = .ok (.invokevirtual 51, 3) := by decide +kernel
theorem dX2_drawItem_7 : decode cX2_drawItem 7 = .ok (.iload_n 1, 1) := by decide +kernel
theorem dX2_drawItem_8 : decode cX2_drawItem 8 = .ok (.isub, 1) := by decide +kernel
theorem dX2_drawItem_9 : decode cX2_drawItem 9 = .ok (.istore_n 3, 1) := by decide +kernel
theorem dX2_drawItem_10 : decode cX2_drawItem 10 = .ok (.aload_n 0, 1) := by decide +kernel
theorem dX2_drawItem_11 : decode cX2_drawItem 11 = .ok (.bipush 8, 2) := by decide +kernel
theorem dX2_drawItem_13 : decode cX2_drawItem 13 = .ok (.invokevirtual 55, 3) := by decide +kernel
theorem dX2_drawItem_16 : decode cX2_drawItem 16 = .ok (.istore 4, 2) := by decide +kernel
theorem dX2_drawItem_18 : decode cX2_drawItem 18 = .ok (.iload 4, 2) := by decide +kernel
theorem dX2_drawItem_20 : decode cX2_drawItem 20 = .ok (.iconst 3, 1) := by decide +kernel
theorem dX2_drawItem_21 : decode cX2_drawItem 21 = .ok (.if_icmp .eq 9, 3) := by decide +kernel
theorem dX2_drawItem_24 : decode cX2_drawItem 24 = .ok (.iload 4, 2) := by decide +kernel
theorem dX2_drawItem_26 : decode cX2_drawItem 26 = .ok (.iconst 4, 1) := by decide +kernel
theorem dX2_drawItem_27 : decode cX2_drawItem 27 = .ok (.if_icmp .ne 15, 3) := by decide +kernel
theorem dX2_drawItem_30 : decode cX2_drawItem 30 = .ok (.iload_n 3, 1) := by decide +kernel
theorem dX2_drawItem_31 : decode cX2_drawItem 31 = .ok (.ifCond .le 11, 3) := by decide +kernel
theorem dX2_drawItem_34 : decode cX2_drawItem 34 = .ok (.aload_n 0, 1) := by decide +kernel
theorem dX2_drawItem_35 : decode cX2_drawItem 35 = .ok (.iload_n 3, 1) := by decide +kernel
theorem dX2_drawItem_36 : decode cX2_drawItem 36 = .ok (.invokevirtual 69, 3) := by decide +kernel
theorem dX2_drawItem_39 : decode cX2_drawItem 39 = .ok (.goto 54, 3) := by decide +kernel
theorem dX2_drawItem_42 : decode cX2_drawItem 42 = .ok (.iload 4, 2) := by decide +kernel
theorem dX2_drawItem_44 : decode cX2_drawItem 44 = .ok (.iconst 5, 1) := by decide +kernel
theorem dX2_drawItem_45 : decode cX2_drawItem 45 = .ok (.if_icmp .ne 10, 3) := by decide +kernel
theorem dX2_drawItem_48 : decode cX2_drawItem 48 = .ok (.aload_n 0, 1) := by decide +kernel
theorem dX2_drawItem_49 : decode cX2_drawItem 49 = .ok (.invokevirtual 72, 3) := by decide +kernel
theorem dX2_drawItem_52 : decode cX2_drawItem 52 = .ok (.goto 41, 3) := by decide +kernel
theorem dX2_drawItem_55 : decode cX2_drawItem 55 = .ok (.iload 4, 2) := by decide +kernel
theorem dX2_drawItem_57 : decode cX2_drawItem 57 = .ok (.bipush 6, 2) := by decide +kernel
theorem dX2_drawItem_59 : decode cX2_drawItem 59 = .ok (.if_icmp .ne 16, 3) := by decide +kernel
theorem dX2_drawItem_62 : decode cX2_drawItem 62 = .ok (.iload_n 2, 1) := by decide +kernel
theorem dX2_drawItem_63 : decode cX2_drawItem 63 = .ok (.iconst 3, 1) := by decide +kernel
theorem dX2_drawItem_64 : decode cX2_drawItem 64 = .ok (.if_icmp .gt 11, 3) := by decide +kernel
theorem dX2_drawItem_67 : decode cX2_drawItem 67 = .ok (.aload_n 0, 1) := by decide +kernel
theorem dX2_drawItem_68 : decode cX2_drawItem 68 = .ok (.iload_n 2, 1) := by decide +kernel
theorem dX2_drawItem_69 : decode cX2_drawItem 69 = .ok (.invokevirtual 75, 3) := by decide +kernel
theorem dX2_drawItem_72 : decode cX2_drawItem 72 = .ok (.goto 21, 3) := by decide +kernel
theorem dX2_drawItem_75 : decode cX2_drawItem 75 = .ok (.iload 4, 2) := by decide +kernel
theorem dX2_drawItem_77 : decode cX2_drawItem 77 = .ok (.bipush 7, 2) := by decide +kernel
theorem dX2_drawItem_79 : decode cX2_drawItem 79 = .ok (.if_icmp .ne 10, 3) := by decide +kernel
theorem dX2_drawItem_82 : decode cX2_drawItem 82 = .ok (.aload_n 0, 1) := by decide +kernel
theorem dX2_drawItem_83 : decode cX2_drawItem 83 = .ok (.invokevirtual 78, 3) := by decide +kernel
theorem dX2_drawItem_86 : decode cX2_drawItem 86 = .ok (.goto 7, 3) := by decide +kernel
theorem dX2_drawItem_89 : decode cX2_drawItem 89 = .ok (.aload_n 0, 1) := by decide +kernel
theorem dX2_drawItem_90 : decode cX2_drawItem 90 = .ok (.invokevirtual 81, 3) := by decide +kernel
theorem dX2_drawItem_93 : decode cX2_drawItem 93 = .ok (.return_, 1) := by decide +kernel
set_option maxRecDepth 20000 in
theorem ggX2_drawCopy_X2_pick : GoodIn wsX2_drawCopy wsX2_pick := goodIn_r _ [11, 12, 13, 14, 15, 38, 39, 40, 41, 42] (by decide +kernel) (by decide +kernel)
set_option maxRecDepth 20000 in
theorem gX2_drawCopy_X2_pick : GoodIn wsX2_drawCopy (wsV RX2 55 RX2 yX2_pick wsX2_pick) := goodIn_app (goodIn_of _ (by decide +kernel)) ggX2_drawCopy_X2_pick
set_option maxRecDepth 20000 in
theorem ggX2_drawCopy_X5_append : GoodIn wsX2_drawCopy wsX5_append := goodIn_r _ [20, 21, 22, 43, 44] (by decide +kernel) (by decide +kernel)
set_option maxRecDepth 20000 in
theorem gX2_drawCopy_X5_append : GoodIn wsX2_drawCopy (wsV RX2 90 RX5 yX5_append wsX5_append) := goodIn_app (goodIn_of _ (by decide +kernel)) ggX2_drawCopy_X5_append
set_option maxRecDepth 20000 in
theorem ggX2_drawCopy_X4_copyFromBefore : GoodIn wsX2_drawCopy wsX4_copyFromBefore := goodIn_r _ [27, 28, 29, 30, 31, 26, 32, 33, 34, 35, 36, 37, 45, 46] (by decide +kernel) (by decide +kernel)
set_option maxRecDepth 20000 in
theorem gX2_drawCopy_X4_copyFromBefore : GoodIn wsX2_drawCopy (wsV RX2 93 RX4 yX4_copyFromBefore wsX4_copyFromBefore) := goodIn_app (goodIn_of _ (by decide +kernel)) ggX2_drawCopy_X4_copyFromBefore
theorem dX2_drawCopy_0 : decode cX2_drawCopy 0 = .ok (.aload_n 0, 1) := by decide +kernel
theorem dX2_drawCopy_1 : decode cX2_drawCopy 1 = .ok (.bipush 6, 2) := by decide +kernel
theorem dX2_drawCopy_3 : decode cX2_drawCopy 3 = .ok (.invokevirtual 55, 3) := by decide +kernel
theorem dX2_drawCopy_6 : decode cX2_drawCopy 6 = .ok (.istore_n 2, 1) := by decide +kernel
theorem dX2_drawCopy_7 : decode cX2_drawCopy 7 = .ok (.aload_n 0, 1) := by decide +kernel
theorem dX2_drawCopy_8 : decode cX2_drawCopy 8 = .ok (.iload_n 1, 1) := by decide +kernel
theorem dX2_drawCopy_9 : decode cX2_drawCopy 9 = .ok (.sipush 256, 3) := by decide +kernel
theorem dX2_drawCopy_12 : decode cX2_drawCopy 12 = .ok (.invokestatic 84, 3) := by decide +kernel
theorem dX2_drawCopy_15 : decode cX2_drawCopy 15 = .ok (.invokevirtual 55, 3) := by decide +kernel
theorem dX2_drawCopy_18 : decode cX2_drawCopy 18 = .ok (.istore_n 3, 1) := by decide +kernel
theorem dX2_drawCopy_19 : decode cX2_drawCopy 19 = .ok (.aload_n 0, 1) := by decide +kernel
theorem dX2_drawCopy_20 : decode cX2_drawCopy 20 = .ok (.getfield 18, 3) := by decide +kernel
theorem dX2_drawCopy_23 : decode cX2_drawCopy 23 = .ok (.bipush 64, 2) := by decide +kernel
theorem dX2_drawCopy_25 : decode cX2_drawCopy 25 = .ok (.iload_n 2, 1) := by decide +kernel
theorem dX2_drawCopy_26 : decode cX2_drawCopy 26 = .ok (.iadd, 1) := by decide +kernel
theorem dX2_drawCopy_27 : decode cX2_drawCopy 27 = .ok (.invokevirtual 90, 3) := by decide +kernel
theorem dX2_drawCopy_30 : decode cX2_drawCopy 30 = .ok (.aload_n 0, 1) := by decide +kernel
theorem dX2_drawCopy_31 : decode cX2_drawCopy 31 = .ok (.getfield 18, 3) := by decide +kernel
theorem dX2_drawCopy_34 : decode cX2_drawCopy 34 = .ok (.iload_n 3, 1) := by decide +kernel
theorem dX2_drawCopy_35 : decode cX2_drawCopy 35 = .ok (.invokevirtual 90, 3) := by decide +kernel
theorem dX2_drawCopy_38 : decode cX2_drawCopy 38 = .ok (.aload_n 0, 1) := by decide +kernel
theorem dX2_drawCopy_39 : decode cX2_drawCopy 39 = .ok (.getfield 12, 3) := by decide +kernel
theorem dX2_drawCopy_42 : decode cX2_drawCopy 42 = .ok (.iload_n 3, 1) := by decide +kernel
theorem dX2_drawCopy_43 : decode cX2_drawCopy 43 = .ok (.iconst 1, 1) := by decide +kernel
theorem dX2_drawCopy_44 : decode cX2_drawCopy 44 = .ok (.iadd, 1) := by decide +kernel
theorem dX2_drawCopy_45 : decode cX2_drawCopy 45 = .ok (.iconst 2, 1) := by decide +kernel
theorem dX2_drawCopy_46 : decode cX2_drawCopy 46 = .ok (.iload_n 2, 1) := by decide +kernel
theorem dX2_drawCopy_47 : decode cX2_drawCopy 47 = .ok (.iadd, 1) := by decide +kernel
theorem dX2_drawCopy_48 : decode cX2_drawCopy 48 = .ok (.invokevirtual 93, 3) := by decide +kernel
theorem dX2_drawCopy_51 : decode cX2_drawCopy 51 = .ok (.return_, 1) := by decide +kernel
set_option maxRecDepth 20000 in
theorem ggX2_drawAgain_X2_pick : GoodIn wsX2_drawAgain wsX2_pick := goodIn_r _ [7, 8, 9, 10, 11, 51, 52, 53, 54, 55] (by decide +kernel) (by decide +kernel)
set_option maxRecDepth 20000 in
theorem gX2_drawAgain_X2_pick : GoodIn wsX2_drawAgain (wsV RX2 55 RX2 yX2_pick wsX2_pick) := goodIn_app (goodIn_of _ (by decide +kernel)) ggX2_drawAgain_X2_pick
set_option maxRecDepth 20000 in
theorem ggX2_drawAgain_X5_append : GoodIn wsX2_drawAgain wsX5_append := goodIn_r _ [16, 17, 18, 56, 57] (by decide +kernel) (by decide +kernel)
set_option maxRecDepth 20000 in
theorem gX2_drawAgain_X5_append : GoodIn wsX2_drawAgain (wsV RX2 90 RX5 yX5_append wsX5_append) := goodIn_app (goodIn_of _ (by decide +kernel)) ggX2_drawAgain_X5_append
set_option maxRecDepth 20000 in
theorem ggX2_drawAgain_X4_top : GoodIn wsX2_drawAgain wsX4_top := goodIn_r _ [23, 24, 58, 59] (by decide +kernel) (by decide +kernel)
set_option maxRecDepth 20000 in
theorem gX2_drawAgain_X4_top : GoodIn wsX2_drawAgain (wsV RX2 51 RX4 yX4_top wsX4_top) := goodIn_app (goodIn_of _ (by decide +kernel)) ggX2_drawAgain_X4_top
set_option maxRecDepth 20000 in
theorem ggX2_drawAgain_X2_drawRaw : GoodIn wsX2_drawAgain wsX2_drawRaw := goodIn_r _ [28, 1, 3, 4, 5, 6, 7, 8, 9, 10, 11, 12, 13, 14, 15, 16, 17, 18, 29, 30, 31, 32, 33, 2, 34, 35, 36, 22, 37, 24, 38, 51, 52, 53, 54, 55, 56, 57, 58, 59] (by decide +kernel) (by decide +kernel)
set_option maxRecDepth 20000 in
theorem gX2_drawAgain_X2_drawRaw : GoodIn wsX2_drawAgain (wsV RX2 81 RX2 yX2_drawRaw wsX2_drawRaw) := goodIn_app (goodIn_of _ (by decide +kernel)) ggX2_drawAgain_X2_drawRaw
set_option maxRecDepth 20000 in
theorem ggX2_drawAgain_X6_timesMore : GoodIn wsX2_drawAgain wsX6_timesMore := goodIn_r _ [41] (by decide +kernel) (by decide +kernel)
set_option maxRecDepth 20000 in
theorem gX2_drawAgain_X6_timesMore_n96 : GoodIn wsX2_drawAgain (wsX6_timesMore) := ggX2_drawAgain_X6_timesMore
set_option maxRecDepth 20000 in
theorem ggX2_drawAgain_X4_copyFromBefore : GoodIn wsX2_drawAgain wsX4_copyFromBefore := goodIn_r _ [45, 24, 46, 47, 48, 22, 49, 38, 50, 35, 36, 37, 58, 59] (by decide +kernel) (by decide +kernel)
set_option maxRecDepth 20000 in
theorem gX2_drawAgain_X4_copyFromBefore : GoodIn wsX2_drawAgain (wsV RX2 93 RX4 yX4_copyFromBefore wsX4_copyFromBefore) := goodIn_app (goodIn_of _ (by decide +kernel)) ggX2_drawAgain_X4_copyFromBefore
theorem dX2_drawAgain_0 : decode cX2_drawAgain 0 = .ok (.aload_n 0, 1) := by decide +kernel
theorem dX2_drawAgain_1 : decode cX2_drawAgain 1 = .ok (.iconst 4, 1) := by decide +kernel
theorem dX2_drawAgain_2 : decode cX2_drawAgain 2 = .ok (.invokevirtual 55, 3) := by decide +kernel
theorem dX2_drawAgain_5 : decode cX2_drawAgain 5 = .ok (.istore_n 1, 1) := by decide +kernel
theorem dX2_drawAgain_6 : decode cX2_drawAgain 6 = .ok (.aload_n 0, 1) := by decide +kernel
theorem dX2_drawAgain_7 : decode cX2_drawAgain 7 = .ok (.getfield 18, 3) := by decide +kernel
theorem dX2_drawAgain_10 : decode cX2_drawAgain 10 = .ok (.sipush 128, 3) := by decide +kernel
theorem dX2_drawAgain_13 : decode cX2_drawAgain 13 = .ok (.iload_n 1, 1) := by decide +kernel
theorem dX2_drawAgain_14 : decode cX2_drawAgain 14 = .ok (.iadd, 1) := by decide +kernel
theorem dX2_drawAgain_15 : decode cX2_drawAgain 15 = .ok (.invokevirtual 90, 3) := by decide +kernel
theorem dX2_drawAgain_18 : decode cX2_drawAgain 18 = .ok (.aload_n 0, 1) := by decide +kernel
theorem dX2_drawAgain_19 : decode cX2_drawAgain 19 = .ok (.getfield 12, 3) := by decide +kernel
theorem dX2_drawAgain_22 : decode cX2_drawAgain 22 = .ok (.invokevirtual 51, 3) := by decide +kernel
theorem dX2_drawAgain_25 : decode cX2_drawAgain 25 = .ok (.istore_n 2, 1) := by decide +kernel
theorem dX2_drawAgain_26 : decode cX2_drawAgain 26 = .ok (.aload_n 0, 1) := by decide +kernel
theorem dX2_drawAgain_27 : decode cX2_drawAgain 27 = .ok (.invokevirtual 81, 3) := by decide +kernel
theorem dX2_drawAgain_30 : decode cX2_drawAgain 30 = .ok (.aload_n 0, 1) := by decide +kernel
theorem dX2_drawAgain_31 : decode cX2_drawAgain 31 = .ok (.getfield 12, 3) := by decide +kernel
theorem dX2_drawAgain_34 : decode cX2_drawAgain 34 = .ok (.invokevirtual 51, 3) := by decide +kernel
theorem dX2_drawAgain_37 : decode cX2_drawAgain 37 = .ok (.iload_n 2, 1) := by decide +kernel
theorem dX2_drawAgain_38 : decode cX2_drawAgain 38 = .ok (.isub, 1) := by decide +kernel
theorem dX2_drawAgain_39 : decode cX2_drawAgain 39 = .ok (.istore_n 3, 1) := by decide +kernel
theorem dX2_drawAgain_40 : decode cX2_drawAgain 40 = .ok (.aload_n 0, 1) := by decide +kernel
theorem dX2_drawAgain_41 : decode cX2_drawAgain 41 = .ok (.getfield 12, 3) := by decide +kernel
theorem dX2_drawAgain_44 : decode cX2_drawAgain 44 = .ok (.iload_n 3, 1) := by decide +kernel
theorem dX2_drawAgain_45 : decode cX2_drawAgain 45 = .ok (.iload_n 3, 1) := by decide +kernel
theorem dX2_drawAgain_46 : decode cX2_drawAgain 46 = .ok (.sipush 128, 3) := by decide +kernel
theorem dX2_drawAgain_49 : decode cX2_drawAgain 49 = .ok (.iload_n 1, 1) := by decide +kernel
theorem dX2_drawAgain_50 : decode cX2_drawAgain 50 = .ok (.iadd, 1) := by decide +kernel
theorem dX2_drawAgain_51 : decode cX2_drawAgain 51 = .ok (.invokestatic 96, 3) := by decide +kernel
theorem dX2_drawAgain_54 : decode cX2_drawAgain 54 = .ok (.imul, 1) := by decide +kernel
theorem dX2_drawAgain_55 : decode cX2_drawAgain 55 = .ok (.invokevirtual 93, 3) := by decide +kernel
theorem dX2_drawAgain_58 : decode cX2_drawAgain 58 = .ok (.return_, 1) := by decide +kernel
set_option maxRecDepth 20000 in
theorem ggX2_drawInner_X5_append : GoodIn wsX2_drawInner wsX5_append := goodIn_r _ [6, 7, 8, 104, 105] (by decide +kernel) (by decide +kernel)
set_option maxRecDepth 20000 in
theorem gX2_drawInner_X5_append : GoodIn wsX2_drawInner (wsV RX2 90 RX5 yX5_append wsX5_append) := goodIn_app (goodIn_of _ (by decide +kernel)) ggX2_drawInner_X5_append
set_option maxRecDepth 20000 in
theorem ggX2_drawInner_X5_count : GoodIn wsX2_drawInner wsX5_count := goodIn_r _ [12, 7, 104, 105] (by decide +kernel) (by decide +kernel)
set_option maxRecDepth 20000 in
theorem gX2_drawInner_X5_count : GoodIn wsX2_drawInner (wsV RX2 59 RX5 yX5_count wsX5_count) := goodIn_app (goodIn_of _ (by decide +kernel)) ggX2_drawInner_X5_count
set_option maxRecDepth 20000 in
theorem ggX2_drawInner_X2_drawPack : GoodIn wsX2_drawInner wsX2_drawPack := goodIn_r _ [86, 26, 87, 1, 27, 28, 29, 30, 31, 32, 33, 34, 35, 16, 36, 37, 38, 39, 40, 9, 10, 11, 5, 12, 7, 88, 89, 90, 91, 92, 93, 94, 2, 3, 4, 6, 8, 95, 96, 97, 98, 53, 54, 55, 56, 57, 0, 13, 14, 15, 17, 18, 19, 20, 21, 22, 23, 24, 25, 41, 42, 43, 44, 45, 46, 47, 48, 49, 50, 51, 52, 58, 59, 60, 61, 62, 63, 64, 65, 66, 67, 68, 69, 70, 71, 72, 73, 74, 75, 76, 77, 78, 79, 80, 81, 82, 83, 84, 85, 99, 100, 101, 102, 103, 104, 105, 106, 107] (by decide +kernel) (by decide +kernel)
set_option maxRecDepth 20000 in
theorem gX2_drawInner_X2_drawPack : GoodIn wsX2_drawInner (wsV RX2 42 RX2 yX2_drawPack wsX2_drawPack) := goodIn_app (goodIn_of _ (by decide +kernel)) ggX2_drawInner_X2_drawPack
set_option maxRecDepth 20000 in
theorem ggX2_drawInner_X5_change : GoodIn wsX2_drawInner wsX5_change := goodIn_r _ [20, 8, 21, 22, 23, 5, 24, 7, 104, 105] (by decide +kernel) (by decide +kernel)
set_option maxRecDepth 20000 in
theorem gX2_drawInner_X5_change : GoodIn wsX2_drawInner (wsV RX2 99 RX5 yX5_change wsX5_change) := goodIn_app (goodIn_of _ (by decide +kernel)) ggX2_drawInner_X5_change
theorem dX2_drawInner_0 : decode cX2_drawInner 0 = .ok (.aload_n 0, 1) := by decide +kernel
theorem dX2_drawInner_1 : decode cX2_drawInner 1 = .ok (.getfield 18, 3) := by decide +kernel
theorem dX2_drawInner_4 : decode cX2_drawInner 4 = .ok (.sipush 192, 3) := by decide +kernel
theorem dX2_drawInner_7 : decode cX2_drawInner 7 = .ok (.invokevirtual 90, 3) := by decide +kernel
theorem dX2_drawInner_10 : decode cX2_drawInner 10 = .ok (.aload_n 0, 1) := by decide +kernel
theorem dX2_drawInner_11 : decode cX2_drawInner 11 = .ok (.getfield 18, 3) := by decide +kernel
theorem dX2_drawInner_14 : decode cX2_drawInner 14 = .ok (.invokevirtual 59, 3) := by decide +kernel
theorem dX2_drawInner_17 : decode cX2_drawInner 17 = .ok (.istore_n 2, 1) := by decide +kernel
theorem dX2_drawInner_18 : decode cX2_drawInner 18 = .ok (.aload_n 0, 1) := by decide +kernel
theorem dX2_drawInner_19 : decode cX2_drawInner 19 = .ok (.getfield 18, 3) := by decide +kernel
theorem dX2_drawInner_22 : decode cX2_drawInner 22 = .ok (.iconst 0, 1) := by decide +kernel
theorem dX2_drawInner_23 : decode cX2_drawInner 23 = .ok (.invokevirtual 90, 3) := by decide +kernel
theorem dX2_drawInner_26 : decode cX2_drawInner 26 = .ok (.aload_n 0, 1) := by decide +kernel
theorem dX2_drawInner_27 : decode cX2_drawInner 27 = .ok (.iload_n 1, 1) := by decide +kernel
theorem dX2_drawInner_28 : decode cX2_drawInner 28 = .ok (.iconst 1, 1) := by decide +kernel
theorem dX2_drawInner_29 : decode cX2_drawInner 29 = .ok (.iadd, 1) := by decide +kernel
theorem dX2_drawInner_30 : decode cX2_drawInner 30 = .ok (.invokevirtual 42, 3) := by decide +kernel
theorem dX2_drawInner_33 : decode cX2_drawInner 33 = .ok (.aload_n 0, 1) := by decide +kernel
theorem dX2_drawInner_34 : decode cX2_drawInner 34 = .ok (.getfield 18, 3) := by decide +kernel
theorem dX2_drawInner_37 : decode cX2_drawInner 37 = .ok (.iload_n 2, 1) := by decide +kernel
theorem dX2_drawInner_38 : decode cX2_drawInner 38 = .ok (.aload_n 0, 1) := by decide +kernel
theorem dX2_drawInner_39 : decode cX2_drawInner 39 = .ok (.getfield 18, 3) := by decide +kernel
theorem dX2_drawInner_42 : decode cX2_drawInner 42 = .ok (.invokevirtual 59, 3) := by decide +kernel
theorem dX2_drawInner_45 : decode cX2_drawInner 45 = .ok (.iload_n 2, 1) := by decide +kernel
theorem dX2_drawInner_46 : decode cX2_drawInner 46 = .ok (.isub, 1) := by decide +kernel
theorem dX2_drawInner_47 : decode cX2_drawInner 47 = .ok (.iconst 1, 1) := by decide +kernel
theorem dX2_drawInner_48 : decode cX2_drawInner 48 = .ok (.isub, 1) := by decide +kernel
theorem dX2_drawInner_49 : decode cX2_drawInner 49 = .ok (.invokevirtual 99, 3) := by decide +kernel
theorem dX2_drawInner_52 : decode cX2_drawInner 52 = .ok (.return_, 1) := by decide +kernel
set_option maxRecDepth 20000 in
theorem ggX2_drawWide_X2_pick : GoodIn wsX2_drawWide wsX2_pick := goodIn_r _ [6, 7, 8, 9, 10, 31, 32, 33, 34, 35] (by decide +kernel) (by decide +kernel)
set_option maxRecDepth 20000 in
theorem gX2_drawWide_X2_pick : GoodIn wsX2_drawWide (wsV RX2 55 RX2 yX2_pick wsX2_pick) := goodIn_app (goodIn_of _ (by decide +kernel)) ggX2_drawWide_X2_pick
set_option maxRecDepth 20000 in
theorem ggX2_drawWide_X5_append : GoodIn wsX2_drawWide wsX5_append := goodIn_r _ [15, 16, 17, 36, 37] (by decide +kernel) (by decide +kernel)
set_option maxRecDepth 20000 in
theorem gX2_drawWide_X5_append : GoodIn wsX2_drawWide (wsV RX2 90 RX5 yX5_append wsX5_append) := goodIn_app (goodIn_of _ (by decide +kernel)) ggX2_drawWide_X5_append
set_option maxRecDepth 20000 in
theorem ggX2_drawWide_X2_drawBytes : GoodIn wsX2_drawWide wsX2_drawBytes := goodIn_r _ [21, 22, 1, 23, 2, 3, 4, 5, 6, 7, 8, 9, 10, 11, 12, 13, 14, 15, 16, 17, 24, 25, 26, 27, 28, 29, 30, 31, 32, 33, 34, 35, 36, 37, 38, 39] (by decide +kernel) (by decide +kernel)
set_option maxRecDepth 20000 in
theorem gX2_drawWide_X2_drawBytes : GoodIn wsX2_drawWide (wsV RX2 102 RX2 yX2_drawBytes wsX2_drawBytes) := goodIn_app (goodIn_of _ (by decide +kernel)) ggX2_drawWide_X2_drawBytes
theorem dX2_drawWide_0 : decode cX2_drawWide 0 = .ok (.iconst 1, 1) := by decide +kernel
theorem dX2_drawWide_1 : decode cX2_drawWide 1 = .ok (.aload_n 0, 1) := by decide +kernel
theorem dX2_drawWide_2 : decode cX2_drawWide 2 = .ok (.iconst 5, 1) := by decide +kernel
theorem dX2_drawWide_3 : decode cX2_drawWide 3 = .ok (.invokevirtual 55, 3) := by decide +kernel
theorem dX2_drawWide_6 : decode cX2_drawWide 6 = .ok (.iadd, 1) := by decide +kernel
theorem dX2_drawWide_7 : decode cX2_drawWide 7 = .ok (.istore_n 1, 1) := by decide +kernel
theorem dX2_drawWide_8 : decode cX2_drawWide 8 = .ok (.aload_n 0, 1) := by decide +kernel
theorem dX2_drawWide_9 : decode cX2_drawWide 9 = .ok (.getfield 18, 3) := by decide +kernel
theorem dX2_drawWide_12 : decode cX2_drawWide 12 = .ok (.sipush 255, 3) := by decide +kernel
theorem dX2_drawWide_15 : decode cX2_drawWide 15 = .ok (.invokevirtual 90, 3) := by decide +kernel
theorem dX2_drawWide_18 : decode cX2_drawWide 18 = .ok (.aload_n 0, 1) := by decide +kernel
theorem dX2_drawWide_19 : decode cX2_drawWide 19 = .ok (.getfield 18, 3) := by decide +kernel
theorem dX2_drawWide_22 : decode cX2_drawWide 22 = .ok (.iconst 0, 1) := by decide +kernel
theorem dX2_drawWide_23 : decode cX2_drawWide 23 = .ok (.invokevirtual 90, 3) := by decide +kernel
theorem dX2_drawWide_26 : decode cX2_drawWide 26 = .ok (.aload_n 0, 1) := by decide +kernel
theorem dX2_drawWide_27 : decode cX2_drawWide 27 = .ok (.getfield 18, 3) := by decide +kernel
theorem dX2_drawWide_30 : decode cX2_drawWide 30 = .ok (.iload_n 1, 1) := by decide +kernel
theorem dX2_drawWide_31 : decode cX2_drawWide 31 = .ok (.invokevirtual 90, 3) := by decide +kernel
theorem dX2_drawWide_34 : decode cX2_drawWide 34 = .ok (.aload_n 0, 1) := by decide +kernel
theorem dX2_drawWide_35 : decode cX2_drawWide 35 = .ok (.iload_n 1, 1) := by decide +kernel
theorem dX2_drawWide_36 : decode cX2_drawWide 36 = .ok (.invokevirtual 102, 3) := by decide +kernel
theorem dX2_drawWide_39 : decode cX2_drawWide 39 = .ok (.return_, 1) := by decide +kernel
set_option maxRecDepth 20000 in
theorem ggX2_drawRaw_X2_pick : GoodIn wsX2_drawRaw wsX2_pick := goodIn_r _ [6, 7, 8, 9, 10, 31, 32, 33, 34, 35] (by decide +kernel) (by decide +kernel)
set_option maxRecDepth 20000 in
theorem gX2_drawRaw_X2_pick : GoodIn wsX2_drawRaw (wsV RX2 55 RX2 yX2_pick wsX2_pick) := goodIn_app (goodIn_of _ (by decide +kernel)) ggX2_drawRaw_X2_pick
set_option maxRecDepth 20000 in
theorem ggX2_drawRaw_X5_append : GoodIn wsX2_drawRaw wsX5_append := goodIn_r _ [15, 16, 17, 36, 37] (by decide +kernel) (by decide +kernel)
set_option maxRecDepth 20000 in
theorem gX2_drawRaw_X5_append : GoodIn wsX2_drawRaw (wsV RX2 90 RX5 yX5_append wsX5_append) := goodIn_app (goodIn_of _ (by decide +kernel)) ggX2_drawRaw_X5_append
set_option maxRecDepth 20000 in
theorem ggX2_drawRaw_X2_drawBytes : GoodIn wsX2_drawRaw wsX2_drawBytes := goodIn_r _ [21, 22, 1, 23, 2, 3, 4, 5, 6, 7, 8, 9, 10, 11, 12, 13, 14, 15, 16, 17, 24, 25, 26, 27, 28, 29, 30, 31, 32, 33, 34, 35, 36, 37, 38, 39] (by decide +kernel) (by decide +kernel)
set_option maxRecDepth 20000 in
theorem gX2_drawRaw_X2_drawBytes : GoodIn wsX2_drawRaw (wsV RX2 102 RX2 yX2_drawBytes wsX2_drawBytes) := goodIn_app (goodIn_of _ (by decide +kernel)) ggX2_drawRaw_X2_drawBytes
theorem dX2_drawRaw_0 : decode cX2_drawRaw 0 = .ok (.iconst 1, 1) := by decide +kernel
theorem dX2_drawRaw_1 : decode cX2_drawRaw 1 = .ok (.aload_n 0, 1) := by decide +kernel
theorem dX2_drawRaw_2 : decode cX2_drawRaw 2 = .ok (.iconst 5, 1) := by decide +kernel
theorem dX2_drawRaw_3 : decode cX2_drawRaw 3 = .ok (.invokevirtual 55, 3) := by decide +kernel
theorem dX2_drawRaw_6 : decode cX2_drawRaw 6 = .ok (.iadd, 1) := by decide +kernel
theorem dX2_drawRaw_7 : decode cX2_drawRaw 7 = .ok (.istore_n 1, 1) := by decide +kernel
theorem dX2_drawRaw_8 : decode cX2_drawRaw 8 = .ok (.aload_n 0, 1) := by decide +kernel
theorem dX2_drawRaw_9 : decode cX2_drawRaw 9 = .ok (.getfield 18, 3) := by decide +kernel
theorem dX2_drawRaw_12 : decode cX2_drawRaw 12 = .ok (.iload_n 1, 1) := by decide +kernel
theorem dX2_drawRaw_13 : decode cX2_drawRaw 13 = .ok (.invokevirtual 90, 3) := by decide +kernel
theorem dX2_drawRaw_16 : decode cX2_drawRaw 16 = .ok (.aload_n 0, 1) := by decide +kernel
theorem dX2_drawRaw_17 : decode cX2_drawRaw 17 = .ok (.iload_n 1, 1) := by decide +kernel
theorem dX2_drawRaw_18 : decode cX2_drawRaw 18 = .ok (.invokevirtual 102, 3) := by decide +kernel
theorem dX2_drawRaw_21 : decode cX2_drawRaw 21 = .ok (.return_, 1) := by decide +kernel
set_option maxRecDepth 20000 in
theorem ggX2_drawBytes_X2_pick : GoodIn wsX2_drawBytes wsX2_pick := goodIn_r _ [8, 9, 10, 11, 12, 27, 28, 29, 30, 31] (by decide +kernel) (by decide +kernel)
set_option maxRecDepth 20000 in
theorem gX2_drawBytes_X2_pick : GoodIn wsX2_drawBytes (wsV RX2 55 RX2 yX2_pick wsX2_pick) := goodIn_app (goodIn_of _ (by decide +kernel)) ggX2_drawBytes_X2_pick
set_option maxRecDepth 20000 in
theorem ggX2_drawBytes_X5_append : GoodIn wsX2_drawBytes wsX5_append := goodIn_r _ [17, 18, 19, 32, 33] (by decide +kernel) (by decide +kernel)
set_option maxRecDepth 20000 in
theorem gX2_drawBytes_X5_append : GoodIn wsX2_drawBytes (wsV RX2 90 RX5 yX5_append wsX5_append) := goodIn_app (goodIn_of _ (by decide +kernel)) ggX2_drawBytes_X5_append
set_option maxRecDepth 20000 in
theorem ggX2_drawBytes_X4_push : GoodIn wsX2_drawBytes wsX4_push := goodIn_r _ [24, 25, 26, 34, 35] (by decide +kernel) (by decide +kernel)
set_option maxRecDepth 20000 in
theorem gX2_drawBytes_X4_push : GoodIn wsX2_drawBytes (wsV RX2 105 RX4 yX4_push wsX4_push) := goodIn_app (goodIn_of _ (by decide +kernel)) ggX2_drawBytes_X4_push
theorem dX2_drawBytes_0 : decode cX2_drawBytes 0 = .ok (.aload_n 0, 1) := by decide +kernel
theorem dX2_drawBytes_1 : decode cX2_drawBytes 1 = .ok (.getfield 35, 3) := by decide +kernel
theorem dX2_drawBytes_4 : decode cX2_drawBytes 4 = .ok (.iconst 2, 1) := by decide +kernel
theorem dX2_drawBytes_5 : decode cX2_drawBytes 5 = .ok (.if_icmp .ne 13, 3) := by decide +kernel
theorem dX2_drawBytes_8 : decode cX2_drawBytes 8 = .ok (.aload_n 0, 1) := by decide +kernel
theorem dX2_drawBytes_9 : decode cX2_drawBytes 9 = .ok (.sipush 256, 3) := by decide +kernel
theorem dX2_drawBytes_12 : decode cX2_drawBytes 12 = .ok (.invokevirtual 55, 3) := by decide +kernel
theorem dX2_drawBytes_15 : decode cX2_drawBytes 15 = .ok (.goto 4, 3) := by decide +kernel
theorem dX2_drawBytes_18 : decode cX2_drawBytes 18 = .ok (.iconst 0, 1) := by decide +kernel
theorem dX2_drawBytes_19 : decode cX2_drawBytes 19 = .ok (.istore_n 2, 1) := by decide +kernel
theorem dX2_drawBytes_20 : decode cX2_drawBytes 20 = .ok (.iconst 0, 1) := by decide +kernel
theorem dX2_drawBytes_21 : decode cX2_drawBytes 21 = .ok (.istore_n 3, 1) := by decide +kernel
theorem dX2_drawBytes_22 : decode cX2_drawBytes 22 = .ok (.iload_n 3, 1) := by decide +kernel
theorem dX2_drawBytes_23 : decode cX2_drawBytes 23 = .ok (.iload_n 1, 1) := by decide +kernel
theorem dX2_drawBytes_24 : decode cX2_drawBytes 24 = .ok (.if_icmp .ge 67, 3) := by decide +kernel
theorem dX2_drawBytes_27 : decode cX2_drawBytes 27 = .ok (.iload_n 2, 1) := by decide +kernel
theorem dX2_drawBytes_28 : decode cX2_drawBytes 28 = .ok (.istore 4, 2) := by decide +kernel
theorem dX2_drawBytes_30 : decode cX2_drawBytes 30 = .ok (.aload_n 0, 1) := by decide +kernel
theorem dX2_drawBytes_31 : decode cX2_drawBytes 31 = .ok (.getfield 35, 3) := by decide +kernel
theorem dX2_drawBytes_34 : decode cX2_drawBytes 34 = .ok (.ifCond .ne 15, 3) := by decide +kernel
theorem dX2_drawBytes_37 : decode cX2_drawBytes 37 = .ok (.aload_n 0, 1) := by decide +kernel
theorem dX2_drawBytes_38 : decode cX2_drawBytes 38 = .ok (.sipush 256, 3) := by decide +kernel
theorem dX2_drawBytes_41 : decode cX2_drawBytes 41 = .ok (.invokevirtual 55, 3) := by decide +kernel
theorem dX2_drawBytes_44 : decode cX2_drawBytes 44 = .ok (.istore 4, 2) := by decide +kernel
theorem dX2_drawBytes_46 : decode cX2_drawBytes 46 = .ok (.goto 21, 3) := by decide +kernel
theorem dX2_drawBytes_49 : decode cX2_drawBytes 49 = .ok (.aload_n 0, 1) := by decide +kernel
theorem dX2_drawBytes_50 : decode cX2_drawBytes 50 = .ok (.getfield 35, 3) := by decide +kernel
theorem dX2_drawBytes_53 : decode cX2_drawBytes 53 = .ok (.iconst 1, 1) := by decide +kernel
theorem dX2_drawBytes_54 : decode cX2_drawBytes 54 = .ok (.if_icmp .ne 13, 3) := by decide +kernel
theorem dX2_drawBytes_57 : decode cX2_drawBytes 57 = .ok (.bipush 97, 2) := by decide +kernel
theorem dX2_drawBytes_59 : decode cX2_drawBytes 59 = .ok (.aload_n 0, 1) := by decide +kernel
theorem dX2_drawBytes_60 : decode cX2_drawBytes 60 = .ok (.iconst 3, 1) := by decide +kernel
theorem dX2_drawBytes_61 : decode cX2_drawBytes 61 = .ok (.invokevirtual 55, 3) := by decide +kernel
theorem dX2_drawBytes_64 : decode cX2_drawBytes 64 = .ok (.iadd, 1) := by decide +kernel
theorem dX2_drawBytes_65 : decode cX2_drawBytes 65 = .ok (.istore 4, 2) := by decide +kernel
theorem dX2_drawBytes_67 : decode cX2_drawBytes 67 = .ok (.aload_n 0, 1) := by decide +kernel
theorem dX2_drawBytes_68 : decode cX2_drawBytes 68 = .ok (.getfield 18, 3) := by decide +kernel
theorem dX2_drawBytes_71 : decode cX2_drawBytes 71 = .ok (.iload 4, 2) := by decide +kernel
theorem dX2_drawBytes_73 : decode cX2_drawBytes 73 = .ok (.invokevirtual 90, 3) := by decide +kernel
theorem dX2_drawBytes_76 : decode cX2_drawBytes 76 = .ok (.aload_n 0, 1) := by decide +kernel
theorem dX2_drawBytes_77 : decode cX2_drawBytes 77 = .ok (.getfield 12, 3) := by decide +kernel
theorem dX2_drawBytes_80 : decode cX2_drawBytes 80 = .ok (.iload 4, 2) := by decide +kernel
theorem dX2_drawBytes_82 : decode cX2_drawBytes 82 = .ok (.invokevirtual 105, 3) := by decide +kernel
theorem dX2_drawBytes_85 : decode cX2_drawBytes 85 = .ok (.iinc 3 1, 3) := by decide +kernel
theorem dX2_drawBytes_88 : decode cX2_drawBytes 88 = .ok (.goto (-66), 3) := by decide +kernel
theorem dX2_drawBytes_91 : decode cX2_drawBytes 91 = .ok (.return_, 1) := by decide +kernel
set_option maxRecDepth 20000 in
theorem ggX2_drawEnd_X5_append : GoodIn wsX2_drawEnd wsX5_append := goodIn_r _ [7, 8, 9, 26, 27] (by decide +kernel) (by decide +kernel)
set_option maxRecDepth 20000 in
theorem gX2_drawEnd_X5_append : GoodIn wsX2_drawEnd (wsV RX2 90 RX5 yX5_append wsX5_append) := goodIn_app (goodIn_of _ (by decide +kernel)) ggX2_drawEnd_X5_append
set_option maxRecDepth 20000 in
theorem ggX2_drawEnd_X4_sumFrom : GoodIn wsX2_drawEnd wsX4_sumFrom := goodIn_r _ [14, 15, 16, 17, 18, 13, 19, 20, 28, 29] (by decide +kernel) (by decide +kernel)
set_option maxRecDepth 20000 in
theorem gX2_drawEnd_X4_sumFrom : GoodIn wsX2_drawEnd (wsV RX2 108 RX4 yX4_sumFrom wsX4_sumFrom) := goodIn_app (goodIn_of _ (by decide +kernel)) ggX2_drawEnd_X4_sumFrom
theorem dX2_drawEnd_0 : decode cX2_drawEnd 0 = .ok (.aload_n 0, 1) := by decide +kernel
theorem dX2_drawEnd_1 : decode cX2_drawEnd 1 = .ok (.getfield 18, 3) := by decide +kernel
theorem dX2_drawEnd_4 : decode cX2_drawEnd 4 = .ok (.iconst 0, 1) := by decide +kernel
theorem dX2_drawEnd_5 : decode cX2_drawEnd 5 = .ok (.invokevirtual 90, 3) := by decide +kernel
theorem dX2_drawEnd_8 : decode cX2_drawEnd 8 = .ok (.aload_n 0, 1) := by decide +kernel
theorem dX2_drawEnd_9 : decode cX2_drawEnd 9 = .ok (.getfield 18, 3) := by decide +kernel
theorem dX2_drawEnd_12 : decode cX2_drawEnd 12 = .ok (.aload_n 0, 1) := by decide +kernel
theorem dX2_drawEnd_13 : decode cX2_drawEnd 13 = .ok (.getfield 12, 3) := by decide +kernel
theorem dX2_drawEnd_16 : decode cX2_drawEnd 16 = .ok (.iload_n 1, 1) := by decide +kernel
theorem dX2_drawEnd_17 : decode cX2_drawEnd 17 = .ok (.invokevirtual 108, 3) := by decide +kernel
theorem dX2_drawEnd_20 : decode cX2_drawEnd 20 = .ok (.invokevirtual 90, 3) := by decide +kernel
theorem dX2_drawEnd_23 : decode cX2_drawEnd 23 = .ok (.return_, 1) := by decide +kernel
theorem dX3_init_0 : decode cX3_init 0 = .ok (.aload_n 0, 1) := by decide +kernel
theorem dX3_init_1 : decode cX3_init 1 = .ok (.invokespecial 3, 3) := by decide +kernel
theorem dX3_init_4 : decode cX3_init 4 = .ok (.aload_n 0, 1) := by decide +kernel
theorem dX3_init_5 : decode cX3_init 5 = .ok (.aload_n 1, 1) := by decide +kernel
theorem dX3_init_6 : decode cX3_init 6 = .ok (.putfield 9, 3) := by decide +kernel
theorem dX3_init_9 : decode cX3_init 9 = .ok (.aload_n 0, 1) := by decide +kernel
theorem dX3_init_10 : decode cX3_init 10 = .ok (.aload_n 2, 1) := by decide +kernel
theorem dX3_init_11 : decode cX3_init 11 = .ok (.putfield 15, 3) := by decide +kernel
theorem dX3_init_14 : decode cX3_init 14 = .ok (.aload_n 0, 1) := by decide +kernel
theorem dX3_init_15 : decode cX3_init 15 = .ok (.aload_n 2, 1) := by decide +kernel
theorem dX3_init_16 : decode cX3_init 16 = .ok (.getfield 19, 3) := by decide +kernel
theorem dX3_init_19 : decode cX3_init 19 = .ok (.putfield 25, 3) := by decide +kernel
theorem dX3_init_22 : decode cX3_init 22 = .ok (.return_, 1) := by decide +kernel
set_option maxRecDepth 20000 in
theorem ggX3_read_X0_start : GoodIn wsX3_read wsX0_start := goodIn_r _ [10, 11, 12, 13, 14, 15, 16, 17, 18, 19, 20, 21, 22, 23, 24, 25, 26, 27, 28, 155, 156, 157, 158, 159, 160, 161, 162, 163, 164, 165, 166, 167, 168] (by decide +kernel) (by decide +kernel)
set_option maxRecDepth 20000 in
theorem gX3_read_X0_start : GoodIn wsX3_read (wsV RX3 26 RX0 yX0_start wsX0_start) := goodIn_app (goodIn_of _ (by decide +kernel)) ggX3_read_X0_start
set_option maxRecDepth 20000 in
theorem ggX3_read_X5_count : GoodIn wsX3_read wsX5_count := goodIn_r _ [33, 34, 169, 170] (by decide +kernel) (by decide +kernel)
set_option maxRecDepth 20000 in
theorem gX3_read_X5_count : GoodIn wsX3_read (wsV RX3 34 RX5 yX5_count wsX5_count) := goodIn_app (goodIn_of _ (by decide +kernel)) ggX3_read_X5_count
set_option maxRecDepth 20000 in
theorem ggX3_read_X3_readPack : GoodIn wsX3_read wsX3_readPack := goodIn_r _ [39, 1, 40, 41, 42, 43, 9, 44, 21, 45, 46, 47, 48, 49, 50, 51, 26, 52, 28, 53, 54, 55, 38, 56, 2, 4, 5, 57, 58, 59, 60, 15, 16, 61, 62, 63, 64, 3, 65, 66, 67, 68, 69, 70, 71, 32, 72, 73, 74, 75, 76, 77, 34, 35, 36, 37, 78, 79, 80, 81, 82, 24, 25, 27, 83, 84, 85, 86, 87, 88, 89, 90, 91, 17, 13, 18, 12, 20, 11, 14, 92, 93, 94, 95, 96, 19, 97, 98, 99, 100, 101, 102, 103, 104, 105, 106, 107, 108, 109, 110, 111, 112, 113, 22, 114, 115, 116, 117, 118, 119, 120, 121, 122, 123, 124, 125, 126, 127, 128, 129, 130, 131, 132, 133, 134, 135, 136, 137, 138, 139, 140, 141, 142, 143, 144, 145, 146, 147, 148, 149, 150, 151, 152, 153, 154, 155, 156, 157, 158, 159, 160, 161, 162, 163, 164, 165, 166, 169, 170, 167, 168] (by decide +kernel) (by decide +kernel)
set_option maxRecDepth 20000 in
theorem gX3_read_X3_readPack : GoodIn wsX3_read (wsV RX3 46 RX3 yX3_readPack wsX3_readPack) := goodIn_app (goodIn_of _ (by decide +kernel)) ggX3_read_X3_readPack
set_option maxRecDepth 20000 in
theorem ggX3_read_X0_fail : GoodIn wsX3_read wsX0_fail := goodIn_r _ [60, 15, 16, 155, 156, 157, 158, 159, 160, 161, 162, 163, 164, 165, 166] (by decide +kernel) (by decide +kernel)
set_option maxRecDepth 20000 in
theorem gX3_read_X0_fail : GoodIn wsX3_read (wsV RX3 50 RX0 yX0_fail wsX0_fail) := goodIn_app (goodIn_of _ (by decide +kernel)) ggX3_read_X0_fail
theorem dX3_read_0 : decode cX3_read 0 = .ok (.aload_n 0, 1) := by decide +kernel
theorem dX3_read_1 : decode cX3_read 1 = .ok (.getfield 15, 3) := by decide +kernel
theorem dX3_read_4 : decode cX3_read 4 = .ok (.iload_n 1, 1) := by decide +kernel
theorem dX3_read_5 : decode cX3_read 5 = .ok (.iload_n 2, 1) := by decide +kernel
theorem dX3_read_6 : decode cX3_read 6 = .ok (.iload_n 3, 1) := by decide +kernel
theorem dX3_read_7 : decode cX3_read 7 = .ok (.invokevirtual 26, 3) := by decide +kernel
theorem dX3_read_10 : decode cX3_read 10 = .ok (.aload_n 0, 1) := by decide +kernel
theorem dX3_read_11 : decode cX3_read 11 = .ok (.iconst 0, 1) := by decide +kernel
theorem dX3_read_12 : decode cX3_read 12 = .ok (.putfield 30, 3) := by decide +kernel
theorem dX3_read_15 : decode cX3_read 15 = .ok (.aload_n 0, 1) := by decide +kernel
theorem dX3_read_16 : decode cX3_read 16 = .ok (.aload_n 0, 1) := by decide +kernel
theorem dX3_read_17 : decode cX3_read 17 = .ok (.getfield 9, 3) := by decide +kernel
theorem dX3_read_20 : decode cX3_read 20 = .ok (.invokevirtual 34, 3) := by decide +kernel
theorem dX3_read_23 : decode cX3_read 23 = .ok (.putfield 40, 3) := by decide +kernel
theorem dX3_read_26 : decode cX3_read 26 = .ok (.aload_n 0, 1) := by decide +kernel
theorem dX3_read_27 : decode cX3_read 27 = .ok (.aload_n 0, 1) := by decide +kernel
theorem dX3_read_28 : decode cX3_read 28 = .ok (.getfield 9, 3) := by decide +kernel
theorem dX3_read_31 : decode cX3_read 31 = .ok (.invokevirtual 34, 3) := by decide +kernel
theorem dX3_read_34 : decode cX3_read 34 = .ok (.putfield 43, 3) := by decide +kernel
theorem dX3_read_37 : decode cX3_read 37 = .ok (.aload_n 0, 1) := by decide +kernel
theorem dX3_read_38 : decode cX3_read 38 = .ok (.iconst 1, 1) := by decide +kernel
theorem dX3_read_39 : decode cX3_read 39 = .ok (.invokevirtual 46, 3) := by decide +kernel
theorem dX3_read_42 : decode cX3_read 42 = .ok (.aload_n 0, 1) := by decide +kernel
theorem dX3_read_43 : decode cX3_read 43 = .ok (.getfield 30, 3) := by decide +kernel
theorem dX3_read_46 : decode cX3_read 46 = .ok (.aload_n 0, 1) := by decide +kernel
theorem dX3_read_47 : decode cX3_read 47 = .ok (.getfield 9, 3) := by decide +kernel
theorem dX3_read_50 : decode cX3_read 50 = .ok (.invokevirtual 34, 3) := by decide +kernel
theorem dX3_read_53 : decode cX3_read 53 = .ok (.if_icmp .ge 15, 3) := by decide +kernel
theorem dX3_read_56 : decode cX3_read 56 = .ok (.aload_n 0, 1) := by decide +kernel
theorem dX3_read_57 : decode cX3_read 57 = .ok (.getfield 15, 3) := by decide +kernel
theorem dX3_read_60 : decode cX3_read 60 = .ok (.iconst 5, 1) := by decide +kernel
theorem dX3_read_61 : decode cX3_read 61 = .ok (.aload_n 0, 1) := by decide +kernel
theorem dX3_read_62 : decode cX3_read 62 = .ok (.getfield 30, 3) := by decide +kernel
theorem dX3_read_65 : decode cX3_read 65 = .ok (.invokevirtual 50, 3) := by decide +kernel
theorem dX3_read_68 : decode cX3_read 68 = .ok (.return_, 1) := by decide +kernel
set_option maxRecDepth 20000 in
theorem ggX3_readPack_X0_reachDepth : GoodIn wsX3_readPack wsX0_reachDepth := goodIn_r _ [7, 8, 9, 10, 11, 12, 145, 146, 147, 148, 149, 150, 151, 152, 153, 154, 155, 156] (by decide +kernel) (by decide +kernel)
set_option maxRecDepth 20000 in
theorem gX3_readPack_X0_reachDepth : GoodIn wsX3_readPack (wsV RX3 54 RX0 yX0_reachDepth wsX0_reachDepth) := goodIn_app (goodIn_of _ (by decide +kernel)) ggX3_readPack_X0_reachDepth
set_option maxRecDepth 20000 in
theorem ggX3_readPack_X4_top : GoodIn wsX3_readPack wsX4_top := goodIn_r _ [17, 18, 159, 160] (by decide +kernel) (by decide +kernel)
set_option maxRecDepth 20000 in
theorem gX3_readPack_X4_top : GoodIn wsX3_readPack (wsV RX3 57 RX4 yX4_top wsX4_top) := goodIn_app (goodIn_of _ (by decide +kernel)) ggX3_readPack_X4_top
set_option maxRecDepth 20000 in
theorem ggX3_readPack_X3_readItem : GoodIn wsX3_readPack wsX3_readItem := goodIn_r _ [94, 24, 1, 2, 95, 96, 97, 22, 98, 33, 34, 35, 36, 25, 26, 37, 38, 39, 40, 6, 41, 31, 27, 28, 29, 30, 32, 42, 43, 44, 45, 46, 47, 48, 49, 50, 51, 52, 99, 100, 101, 102, 73, 74, 103, 80, 104, 105, 106, 13, 14, 15, 16, 17, 18, 107, 108, 109, 110, 111, 112, 113, 114, 115, 65, 66, 67, 68, 116, 117, 118, 119, 120, 121, 64, 69, 70, 71, 72, 75, 76, 77, 78, 79, 81, 82, 83, 84, 85, 86, 87, 88, 89, 122, 123, 124, 125, 126, 127, 128, 129, 130, 131, 132, 133, 134, 135, 136, 137, 138, 23, 53, 54, 55, 56, 57, 58, 59, 60, 61, 62, 63, 90, 91, 92, 93, 0, 3, 4, 5, 7, 8, 9, 10, 11, 12, 19, 20, 21, 139, 140, 141, 142, 143, 144, 145, 146, 147, 148, 149, 150, 151, 152, 153, 154, 155, 156, 157, 158, 159, 160] (by decide +kernel) (by decide +kernel)
set_option maxRecDepth 20000 in
theorem gX3_readPack_X3_readItem : GoodIn wsX3_readPack (wsV RX3 62 RX3 yX3_readItem wsX3_readItem) := goodIn_app (goodIn_of _ (by decide +kernel)) ggX3_readPack_X3_readItem
theorem dX3_readPack_0 : decode cX3_readPack 0 = .ok (.aload_n 0, 1) := by decide +kernel
theorem dX3_readPack_1 : decode cX3_readPack 1 = .ok (.getfield 15, 3) := by decide +kernel
theorem dX3_readPack_4 : decode cX3_readPack 4 = .ok (.iload_n 1, 1) := by decide +kernel
theorem dX3_readPack_5 : decode cX3_readPack 5 = .ok (.invokevirtual 54, 3) := by decide +kernel
theorem dX3_readPack_8 : decode cX3_readPack 8 = .ok (.aload_n 0, 1) := by decide +kernel
theorem dX3_readPack_9 : decode cX3_readPack 9 = .ok (.getfield 25, 3) := by decide +kernel
theorem dX3_readPack_12 : decode cX3_readPack 12 = .ok (.invokevirtual 57, 3) := by decide +kernel
theorem dX3_readPack_15 : decode cX3_readPack 15 = .ok (.istore_n 2, 1) := by decide +kernel
theorem dX3_readPack_16 : decode cX3_readPack 16 = .ok (.iconst 1, 1) := by decide +kernel
theorem dX3_readPack_17 : decode cX3_readPack 17 = .ok (.istore_n 3, 1) := by decide +kernel
theorem dX3_readPack_18 : decode cX3_readPack 18 = .ok (.iconst 0, 1) := by decide +kernel
theorem dX3_readPack_19 : decode cX3_readPack 19 = .ok (.istore 4, 2) := by decide +kernel
theorem dX3_readPack_21 : decode cX3_readPack 21 = .ok (.iload 4, 2) := by decide +kernel
theorem dX3_readPack_23 : decode cX3_readPack 23 = .ok (.sipush 160, 3) := by decide +kernel
theorem dX3_readPack_26 : decode cX3_readPack 26 = .ok (.if_icmp .gt 20, 3) := by decide +kernel
theorem dX3_readPack_29 : decode cX3_readPack 29 = .ok (.iload_n 3, 1) := by decide +kernel
theorem dX3_readPack_30 : decode cX3_readPack 30 = .ok (.ifCond .eq 16, 3) := by decide +kernel
theorem dX3_readPack_33 : decode cX3_readPack 33 = .ok (.aload_n 0, 1) := by decide +kernel
theorem dX3_readPack_34 : decode cX3_readPack 34 = .ok (.iload_n 1, 1) := by decide +kernel
theorem dX3_readPack_35 : decode cX3_readPack 35 = .ok (.iload_n 2, 1) := by decide +kernel
theorem dX3_readPack_36 : decode cX3_readPack 36 = .ok (.invokevirtual 62, 3) := by decide +kernel
theorem dX3_readPack_39 : decode cX3_readPack 39 = .ok (.istore_n 3, 1) := by decide +kernel
theorem dX3_readPack_40 : decode cX3_readPack 40 = .ok (.iinc 4 1, 3) := by decide +kernel
theorem dX3_readPack_43 : decode cX3_readPack 43 = .ok (.goto (-22), 3) := by decide +kernel
theorem dX3_readPack_46 : decode cX3_readPack 46 = .ok (.return_, 1) := by decide +kernel
set_option maxRecDepth 20000 in
theorem ggX3_readItem_X3_beginItem : GoodIn wsX3_readItem wsX3_beginItem := goodIn_r _ [8, 1, 2, 9, 10, 11, 7, 12, 13, 14, 15, 16, 17, 18, 19, 20, 21, 22, 23, 24, 25, 26, 27, 28, 29, 30, 31, 32, 33, 34, 35, 36, 37, 38, 39, 40, 41, 42, 43, 44, 45, 139, 140, 141, 142, 143, 144, 145, 146, 147, 148, 149, 150, 151, 152, 153, 154, 155, 156, 157, 158] (by decide +kernel) (by decide +kernel)
set_option maxRecDepth 20000 in
theorem gX3_readItem_X3_beginItem : GoodIn wsX3_readItem (wsV RX3 66 RX3 yX3_beginItem wsX3_beginItem) := goodIn_app (goodIn_of _ (by decide +kernel)) ggX3_readItem_X3_beginItem
set_option maxRecDepth 20000 in
theorem ggX3_readItem_X6_sortOf : GoodIn wsX3_readItem wsX6_sortOf := goodIn_r _ [48] (by decide +kernel) (by decide +kernel)
set_option maxRecDepth 20000 in
theorem gX3_readItem_X6_sortOf_n70 : GoodIn wsX3_readItem (wsX6_sortOf) := ggX3_readItem_X6_sortOf
set_option maxRecDepth 20000 in
theorem ggX3_readItem_X0_failed : GoodIn wsX3_readItem wsX0_failed := goodIn_r _ [20, 21, 145, 146, 147, 148, 149, 150, 151, 152, 153, 154, 155, 156] (by decide +kernel) (by decide +kernel)
set_option maxRecDepth 20000 in
theorem gX3_readItem_X0_failed : GoodIn wsX3_readItem (wsV RX3 73 RX0 yX0_failed wsX0_failed) := goodIn_app (goodIn_of _ (by decide +kernel)) ggX3_readItem_X0_failed
set_option maxRecDepth 20000 in
theorem ggX3_readItem_X4_top : GoodIn wsX3_readItem wsX4_top := goodIn_r _ [53, 54, 159, 160] (by decide +kernel) (by decide +kernel)
set_option maxRecDepth 20000 in
theorem gX3_readItem_X4_top : GoodIn wsX3_readItem (wsV RX3 57 RX4 yX4_top wsX4_top) := goodIn_app (goodIn_of _ (by decide +kernel)) ggX3_readItem_X4_top
set_option maxRecDepth 20000 in
theorem ggX3_readItem_X3_readEnd : GoodIn wsX3_readItem wsX3_readEnd := goodIn_r _ [58, 2, 3, 1, 22, 23, 24, 19, 25, 21, 26, 9, 10, 11, 7, 12, 13, 14, 15, 16, 17, 18, 20, 27, 28, 29, 30, 31, 32, 33, 34, 35, 36, 37, 59, 60, 61, 52, 62, 54, 63, 64, 65, 66, 67, 139, 140, 141, 142, 143, 144, 145, 146, 147, 148, 149, 150, 151, 152, 153, 154, 155, 156, 157, 158, 159, 160] (by decide +kernel) (by decide +kernel)
set_option maxRecDepth 20000 in
theorem gX3_readItem_X3_readEnd : GoodIn wsX3_readItem (wsV RX3 77 RX3 yX3_readEnd wsX3_readEnd) := goodIn_app (goodIn_of _ (by decide +kernel)) ggX3_readItem_X3_readEnd
set_option maxRecDepth 20000 in
theorem ggX3_readItem_X3_readCopy : GoodIn wsX3_readItem wsX3_readCopy := goodIn_r _ [71, 3, 2, 1, 9, 10, 11, 7, 12, 13, 14, 15, 16, 17, 18, 19, 20, 21, 22, 23, 24, 25, 26, 27, 28, 29, 30, 31, 32, 33, 34, 35, 36, 37, 49, 50, 51, 52, 53, 54, 72, 47, 73, 74, 64, 65, 66, 67, 75, 76, 77, 78, 42, 43, 79, 80, 81, 82, 83, 45, 84, 85, 86, 87, 88, 89, 90, 91, 92, 139, 140, 141, 142, 143, 144, 145, 146, 147, 148, 149, 150, 151, 152, 153, 154, 155, 156, 157, 158, 159, 160] (by decide +kernel) (by decide +kernel)
set_option maxRecDepth 20000 in
theorem gX3_readItem_X3_readCopy : GoodIn wsX3_readItem (wsV RX3 81 RX3 yX3_readCopy wsX3_readCopy) := goodIn_app (goodIn_of _ (by decide +kernel)) ggX3_readItem_X3_readCopy
set_option maxRecDepth 20000 in
theorem ggX3_readItem_X3_readInner : GoodIn wsX3_readItem wsX3_readInner := goodIn_r _ [110, 2, 1, 13, 14, 3, 22, 23, 24, 19, 25, 21, 26, 9, 10, 11, 7, 12, 15, 16, 17, 18, 20, 27, 28, 29, 30, 31, 32, 33, 34, 35, 36, 37, 49, 50, 51, 52, 53, 54, 111, 112, 113, 114, 115, 116, 117, 118, 119, 120, 121, 74, 64, 65, 66, 67, 75, 76, 77, 78, 42, 43, 79, 80, 81, 82, 83, 45, 84, 85, 86, 87, 88, 89, 90, 91, 92, 122, 123, 124, 125, 0, 4, 5, 6, 8, 38, 39, 40, 41, 44, 46, 47, 48, 55, 56, 57, 58, 59, 60, 61, 62, 63, 68, 69, 70, 71, 72, 73, 93, 94, 95, 96, 97, 98, 99, 100, 101, 102, 103, 104, 105, 106, 107, 108, 109, 126, 127, 128, 129, 130, 131, 132, 133, 134, 135, 136, 137, 138, 139, 140, 141, 142, 143, 144, 145, 146, 147, 148, 149, 150, 151, 152, 153, 154, 155, 156, 157, 158, 159, 160] (by decide +kernel) (by decide +kernel)
set_option maxRecDepth 20000 in
theorem gX3_readItem_X3_readInner : GoodIn wsX3_readItem (wsV RX3 84 RX3 yX3_readInner wsX3_readInner) := goodIn_app (goodIn_of _ (by decide +kernel)) ggX3_readItem_X3_readInner
set_option maxRecDepth 20000 in
theorem ggX3_readItem_X3_readWide : GoodIn wsX3_readItem wsX3_readWide := goodIn_r _ [99, 9, 10, 11, 7, 12, 2, 1, 13, 14, 15, 16, 17, 18, 19, 20, 21, 22, 23, 24, 25, 26, 27, 28, 29, 30, 31, 32, 33, 34, 35, 36, 37, 100, 101, 102, 103, 75, 76, 77, 78, 42, 43, 79, 80, 81, 82, 83, 45, 84, 85, 86, 87, 88, 89, 90, 91, 52, 92, 54, 67, 139, 140, 141, 142, 143, 144, 145, 146, 147, 148, 149, 150, 151, 152, 153, 154, 155, 156, 157, 158, 159, 160] (by decide +kernel) (by decide +kernel)
set_option maxRecDepth 20000 in
theorem gX3_readItem_X3_readWide : GoodIn wsX3_readItem (wsV RX3 87 RX3 yX3_readWide wsX3_readWide) := goodIn_app (goodIn_of _ (by decide +kernel)) ggX3_readItem_X3_readWide
set_option maxRecDepth 20000 in
theorem ggX3_readItem_X3_readRaw : GoodIn wsX3_readItem wsX3_readRaw := goodIn_r _ [103, 1, 2, 15, 16, 17, 18, 19, 20, 21, 9, 10, 11, 7, 12, 13, 14, 22, 23, 24, 25, 26, 27, 28, 29, 30, 31, 32, 33, 34, 35, 36, 37, 75, 76, 77, 78, 42, 43, 79, 80, 81, 82, 83, 45, 84, 85, 86, 87, 88, 89, 90, 91, 52, 92, 54, 67, 139, 140, 141, 142, 143, 144, 145, 146, 147, 148, 149, 150, 151, 152, 153, 154, 155, 156, 157, 158, 159, 160] (by decide +kernel) (by decide +kernel)
set_option maxRecDepth 20000 in
theorem gX3_readItem_X3_readRaw : GoodIn wsX3_readItem (wsV RX3 90 RX3 yX3_readRaw wsX3_readRaw) := goodIn_app (goodIn_of _ (by decide +kernel)) ggX3_readItem_X3_readRaw
set_option maxRecDepth 20000 in
theorem ggX3_readItem_X3_giveAgain : GoodIn wsX3_readItem wsX3_giveAgain := goodIn_r _ [107, 3, 15, 2, 49, 50, 51, 52, 53, 54, 27, 28, 29, 30, 31, 32, 33, 34, 35, 36, 37, 108, 47, 109, 16, 17, 18, 19, 20, 21, 74, 64, 65, 66, 67, 75, 76, 77, 78, 42, 43, 79, 80, 81, 82, 83, 45, 23, 24, 25, 26, 84, 85, 86, 87, 88, 89, 90, 91, 92, 139, 140, 141, 142, 143, 144, 159, 160, 157, 158, 145, 146, 147, 148, 149, 150, 151, 152, 153, 154, 155, 156] (by decide +kernel) (by decide +kernel)
set_option maxRecDepth 20000 in
theorem gX3_readItem_X3_giveAgain : GoodIn wsX3_readItem (wsV RX3 93 RX3 yX3_giveAgain wsX3_giveAgain) := goodIn_app (goodIn_of _ (by decide +kernel)) ggX3_readItem_X3_giveAgain
theorem dX3_readItem_0 : decode cX3_readItem 0 = .ok (.aload_n 0, 1) := by decide +kernel
theorem dX3_readItem_1 : decode cX3_readItem 1 = .ok (.getfield 30, 3) := by decide +kernel
theorem dX3_readItem_4 : decode cX3_readItem 4 = .ok (.istore_n 3, 1) := by decide +kernel
theorem dX3_readItem_5 : decode cX3_readItem 5 = .ok (.aload_n 0, 1) := by decide +kernel
theorem dX3_readItem_6 : decode cX3_readItem 6 = .ok (.iload_n 1, 1) := by decide +kernel
theorem dX3_readItem_7 : decode cX3_readItem 7 = .ok (.invokevirtual 66, 3) := by decide +kernel
theorem dX3_readItem_10 : decode cX3_readItem 10 = .ok (.istore 4, 2) := by decide +kernel
theorem dX3_readItem_12 : decode cX3_readItem 12 = .ok (.iconst 0, 1) := by decide +kernel
theorem dX3_readItem_13 : decode cX3_readItem 13 = .ok (.istore 5, 2) := by decide +kernel
theorem dX3_readItem_15 : decode cX3_readItem 15 = .ok (.iload 5, 2) := by decide +kernel
theorem dX3_readItem_17 : decode cX3_readItem 17 = .ok (.sipush 160, 3) := by decide +kernel
theorem dX3_readItem_20 : decode cX3_readItem 20 = .ok (.if_icmp .ge 25, 3) := by decide +kernel
theorem dX3_readItem_23 : decode cX3_readItem 23 = .ok (.iload 4, 2) := by decide +kernel
theorem dX3_readItem_25 : decode cX3_readItem 25 = .ok (.invokestatic 70, 3) := by decide +kernel
theorem dX3_readItem_28 : decode cX3_readItem 28 = .ok (.iconst 3, 1) := by decide +kernel
theorem dX3_readItem_29 : decode cX3_readItem 29 = .ok (.if_icmp .ne 16, 3) := by decide +kernel
theorem dX3_readItem_32 : decode cX3_readItem 32 = .ok (.aload_n 0, 1) := by decide +kernel
theorem dX3_readItem_33 : decode cX3_readItem 33 = .ok (.iload_n 1, 1) := by decide +kernel
theorem dX3_readItem_34 : decode cX3_readItem 34 = .ok (.invokevirtual 66, 3) := by decide +kernel
theorem dX3_readItem_37 : decode cX3_readItem 37 = .ok (.istore 4, 2) := by decide +kernel
theorem dX3_readItem_39 : decode cX3_readItem 39 = .ok (.iinc 5 1, 3) := by decide +kernel
theorem dX3_readItem_42 : decode cX3_readItem 42 = .ok (.goto (-27), 3) := by decide +kernel
theorem dX3_readItem_45 : decode cX3_readItem 45 = .ok (.aload_n 0, 1) := by decide +kernel
theorem dX3_readItem_46 : decode cX3_readItem 46 = .ok (.getfield 15, 3) := by decide +kernel
theorem dX3_readItem_49 : decode cX3_readItem 49 = .ok (.invokevirtual 73, 3) := by decide +kernel
theorem dX3_readItem_52 : decode cX3_readItem 52 = .ok (.ifCond .eq 5, 3) := by decide +kernel
theorem dX3_readItem_55 : decode cX3_readItem 55 = .ok (.iconst 0, 1) := by decide +kernel
theorem dX3_readItem_56 : decode cX3_readItem 56 = .ok (.ireturn, 1) := by decide +kernel
theorem dX3_readItem_57 : decode cX3_readItem 57 = .ok (.aload_n 0, 1) := by decide +kernel
theorem dX3_readItem_58 : decode cX3_readItem 58 = .ok (.getfield 30, 3) := by decide +kernel
theorem dX3_readItem_61 : decode cX3_readItem 61 = .ok (.iconst 1, 1) := by decide +kernel
theorem dX3_readItem_62 : decode cX3_readItem 62 = .ok (.isub, 1) := by decide +kernel
theorem dX3_readItem_63 : decode cX3_readItem 63 = .ok (.istore 5, 2) := by decide +kernel
theorem dX3_readItem_65 : decode cX3_readItem 65 = .ok (.aload_n 0, 1) := by decide +kernel
theorem dX3_readItem_66 : decode cX3_readItem 66 = .ok (.getfield 25, 3) := by decide +kernel
theorem dX3_readItem_69 : decode cX3_readItem 69 = .ok (.invokevirtual 57, 3) := by decide +kernel
theorem dX3_readItem_72 : decode cX3_readItem 72 = .ok (.istore 6, 2) := by decide +kernel
theorem dX3_readItem_74 : decode cX3_readItem 74 = .ok (.iload 4, 2) := by decide +kernel
theorem dX3_readItem_76 : decode cX3_readItem 76 = .ok (.invokestatic 70, 3) := by decide +kernel
theorem dX3_readItem_79 : decode cX3_readItem 79 = .ok (.tableswitch 81 0 5 #[37, 81, 48, 81, 61, 71], 37) := by decide +kernel
theorem dX3_readItem_116 : decode cX3_readItem 116 = .ok (.aload_n 0, 1) := by decide +kernel
theorem dX3_readItem_117 : decode cX3_readItem 117 = .ok (.iload_n 3, 1) := by decide +kernel
theorem dX3_readItem_118 : decode cX3_readItem 118 = .ok (.iload 5, 2) := by decide +kernel
theorem dX3_readItem_120 : decode cX3_readItem 120 = .ok (.iload_n 1, 1) := by decide +kernel
theorem dX3_readItem_121 : decode cX3_readItem 121 = .ok (.iload_n 2, 1) := by decide +kernel
theorem dX3_readItem_122 : decode cX3_readItem 122 = .ok (.invokevirtual 77, 3) := by decide +kernel
theorem dX3_readItem_125 : decode cX3_readItem 125 = .ok (.iconst 0, 1) := by decide +kernel
theorem dX3_readItem_126 : decode cX3_readItem 126 = .ok (.ireturn, 1) := by decide +kernel
theorem dX3_readItem_127 : decode cX3_readItem 127 = .ok (.aload_n 0, 1) := by decide +kernel
theorem dX3_readItem_128 : decode cX3_readItem 128 = .ok (.iload 4, 2) := by decide +kernel
theorem dX3_readItem_130 : decode cX3_readItem 130 = .ok (.iload 5, 2) := by decide +kernel
theorem dX3_readItem_132 : decode cX3_readItem 132 = .ok (.iload_n 1, 1) := by decide +kernel
theorem dX3_readItem_133 : decode cX3_readItem 133 = .ok (.iload_n 2, 1) := by decide +kernel
