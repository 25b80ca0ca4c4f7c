set_option maxRecDepth 20000 in
theorem ggX0_init_X4_init : GoodIn wsX0_init wsX4_init := goodIn_r _ [11, 12, 2, 3, 13, 14, 15, 16] (by decide +kernel) (by decide +kernel)
set_option maxRecDepth 20000 in
theorem gX0_init_X4_init_n11 : GoodIn wsX0_init (wsX4_init) := ggX0_init_X4_init
theorem dX0_init_0 : decode cX0_init 0 = .ok (.aload_n 0, 1) := by decide +kernel
theorem dX0_init_1 : decode cX0_init 1 = .ok (.invokespecial 3, 3) := by decide +kernel
theorem dX0_init_4 : decode cX0_init 4 = .ok (.aload_n 0, 1) := by decide +kernel
theorem dX0_init_5 : decode cX0_init 5 = .ok (.new 9, 3) := by decide +kernel
theorem dX0_init_8 : decode cX0_init 8 = .ok (.dup, 1) := by decide +kernel
theorem dX0_init_9 : decode cX0_init 9 = .ok (.invokespecial 11, 3) := by decide +kernel
theorem dX0_init_12 : decode cX0_init 12 = .ok (.putfield 12, 3) := by decide +kernel
theorem dX0_init_15 : decode cX0_init 15 = .ok (.aload_n 0, 1) := by decide +kernel
theorem dX0_init_16 : decode cX0_init 16 = .ok (.iconst 0, 1) := by decide +kernel
theorem dX0_init_17 : decode cX0_init 17 = .ok (.putfield 18, 3) := by decide +kernel
theorem dX0_init_20 : decode cX0_init 20 = .ok (.aload_n 0, 1) := by decide +kernel
theorem dX0_init_21 : decode cX0_init 21 = .ok (.iconst (-1), 1) := by decide +kernel
theorem dX0_init_22 : decode cX0_init 22 = .ok (.putfield 22, 3) := by decide +kernel
theorem dX0_init_25 : decode cX0_init 25 = .ok (.return_, 1) := by decide +kernel
set_option maxRecDepth 20000 in
theorem ggX0_start_X4_backTo : GoodIn wsX0_start wsX4_backTo := goodIn_r _ [17, 18, 31, 32] (by decide +kernel) (by decide +kernel)
set_option maxRecDepth 20000 in
theorem gX0_start_X4_backTo : GoodIn wsX0_start (wsV RX0 34 RX4 yX4_backTo wsX4_backTo) := goodIn_app (goodIn_of _ (by decide +kernel)) ggX0_start_X4_backTo
theorem dX0_start_0 : decode cX0_start 0 = .ok (.aload_n 0, 1) := by decide +kernel
theorem dX0_start_1 : decode cX0_start 1 = .ok (.iload_n 1, 1) := by decide +kernel
theorem dX0_start_2 : decode cX0_start 2 = .ok (.putfield 25, 3) := by decide +kernel
theorem dX0_start_5 : decode cX0_start 5 = .ok (.aload_n 0, 1) := by decide +kernel
theorem dX0_start_6 : decode cX0_start 6 = .ok (.iload_n 2, 1) := by decide +kernel
theorem dX0_start_7 : decode cX0_start 7 = .ok (.putfield 28, 3) := by decide +kernel
theorem dX0_start_10 : decode cX0_start 10 = .ok (.aload_n 0, 1) := by decide +kernel
theorem dX0_start_11 : decode cX0_start 11 = .ok (.iload_n 3, 1) := by decide +kernel
theorem dX0_start_12 : decode cX0_start 12 = .ok (.putfield 31, 3) := by decide +kernel
theorem dX0_start_15 : decode cX0_start 15 = .ok (.aload_n 0, 1) := by decide +kernel
theorem dX0_start_16 : decode cX0_start 16 = .ok (.getfield 12, 3) := by decide +kernel
theorem dX0_start_19 : decode cX0_start 19 = .ok (.iconst 0, 1) := by decide +kernel
theorem dX0_start_20 : decode cX0_start 20 = .ok (.invokevirtual 34, 3) := by decide +kernel
theorem dX0_start_23 : decode cX0_start 23 = .ok (.aload_n 0, 1) := by decide +kernel
theorem dX0_start_24 : decode cX0_start 24 = .ok (.iconst 0, 1) := by decide +kernel
theorem dX0_start_25 : decode cX0_start 25 = .ok (.putfield 18, 3) := by decide +kernel
theorem dX0_start_28 : decode cX0_start 28 = .ok (.aload_n 0, 1) := by decide +kernel
theorem dX0_start_29 : decode cX0_start 29 = .ok (.iconst (-1), 1) := by decide +kernel
theorem dX0_start_30 : decode cX0_start 30 = .ok (.putfield 22, 3) := by decide +kernel
theorem dX0_start_33 : decode cX0_start 33 = .ok (.aload_n 0, 1) := by decide +kernel
theorem dX0_start_34 : decode cX0_start 34 = .ok (.iconst 0, 1) := by decide +kernel
theorem dX0_start_35 : decode cX0_start 35 = .ok (.putfield 38, 3) := by decide +kernel
theorem dX0_start_38 : decode cX0_start 38 = .ok (.aload_n 0, 1) := by decide +kernel
theorem dX0_start_39 : decode cX0_start 39 = .ok (.iconst 0, 1) := by decide +kernel
theorem dX0_start_40 : decode cX0_start 40 = .ok (.putfield 41, 3) := by decide +kernel
theorem dX0_start_43 : decode cX0_start 43 = .ok (.aload_n 0, 1) := by decide +kernel
theorem dX0_start_44 : decode cX0_start 44 = .ok (.iconst 0, 1) := by decide +kernel
theorem dX0_start_45 : decode cX0_start 45 = .ok (.putfield 44, 3) := by decide +kernel
theorem dX0_start_48 : decode cX0_start 48 = .ok (.aload_n 0, 1) := by decide +kernel
theorem dX0_start_49 : decode cX0_start 49 = .ok (.iconst 0, 1) := by decide +kernel
theorem dX0_start_50 : decode cX0_start 50 = .ok (.putfield 47, 3) := by decide +kernel
theorem dX0_start_53 : decode cX0_start 53 = .ok (.aload_n 0, 1) := by decide +kernel
theorem dX0_start_54 : decode cX0_start 54 = .ok (.iconst 0, 1) := by decide +kernel
theorem dX0_start_55 : decode cX0_start 55 = .ok (.putfield 50, 3) := by decide +kernel
theorem dX0_start_58 : decode cX0_start 58 = .ok (.aload_n 0, 1) := by decide +kernel
theorem dX0_start_59 : decode cX0_start 59 = .ok (.iconst 0, 1) := by decide +kernel
theorem dX0_start_60 : decode cX0_start 60 = .ok (.putfield 53, 3) := by decide +kernel
theorem dX0_start_63 : decode cX0_start 63 = .ok (.return_, 1) := by decide +kernel
theorem dX0_failed_0 : decode cX0_failed 0 = .ok (.aload_n 0, 1) := by decide +kernel
theorem dX0_failed_1 : decode cX0_failed 1 = .ok (.getfield 18, 3) := by decide +kernel
theorem dX0_failed_4 : decode cX0_failed 4 = .ok (.ifCond .eq 7, 3) := by decide +kernel
theorem dX0_failed_7 : decode cX0_failed 7 = .ok (.iconst 1, 1) := by decide +kernel
theorem dX0_failed_8 : decode cX0_failed 8 = .ok (.goto 4, 3) := by decide +kernel
theorem dX0_failed_11 : decode cX0_failed 11 = .ok (.iconst 0, 1) := by decide +kernel
theorem dX0_failed_12 : decode cX0_failed 12 = .ok (.ireturn, 1) := by decide +kernel
theorem dX0_fail_0 : decode cX0_fail 0 = .ok (.aload_n 0, 1) := by decide +kernel
theorem dX0_fail_1 : decode cX0_fail 1 = .ok (.getfield 18, 3) := by decide +kernel
theorem dX0_fail_4 : decode cX0_fail 4 = .ok (.ifCond .ne 13, 3) := by decide +kernel
theorem dX0_fail_7 : decode cX0_fail 7 = .ok (.aload_n 0, 1) := by decide +kernel
theorem dX0_fail_8 : decode cX0_fail 8 = .ok (.iload_n 1, 1) := by decide +kernel
theorem dX0_fail_9 : decode cX0_fail 9 = .ok (.putfield 18, 3) := by decide +kernel
theorem dX0_fail_12 : decode cX0_fail 12 = .ok (.aload_n 0, 1) := by decide +kernel
theorem dX0_fail_13 : decode cX0_fail 13 = .ok (.iload_n 2, 1) := by decide +kernel
theorem dX0_fail_14 : decode cX0_fail 14 = .ok (.putfield 22, 3) := by decide +kernel
theorem dX0_fail_17 : decode cX0_fail 17 = .ok (.return_, 1) := by decide +kernel
set_option maxRecDepth 20000 in
theorem ggX0_answer_X0_failed : GoodIn wsX0_answer wsX0_failed := goodIn_r _ [7, 1, 8, 9, 10, 11, 12, 13, 14, 15, 16, 17, 18, 19] (by decide +kernel) (by decide +kernel)
set_option maxRecDepth 20000 in
theorem gX0_answer_X0_failed : GoodIn wsX0_answer (wsV RX0 56 RX0 yX0_failed wsX0_failed) := goodIn_app (goodIn_of _ (by decide +kernel)) ggX0_answer_X0_failed
theorem dX0_answer_0 : decode cX0_answer 0 = .ok (.aload_n 0, 1) := by decide +kernel
theorem dX0_answer_1 : decode cX0_answer 1 = .ok (.invokevirtual 56, 3) := by decide +kernel
theorem dX0_answer_4 : decode cX0_answer 4 = .ok (.ifCond .eq 13, 3) := by decide +kernel
theorem dX0_answer_7 : decode cX0_answer 7 = .ok (.bipush (-10), 2) := by decide +kernel
theorem dX0_answer_9 : decode cX0_answer 9 = .ok (.aload_n 0, 1) := by decide +kernel
theorem dX0_answer_10 : decode cX0_answer 10 = .ok (.getfield 18, 3) := by decide +kernel
theorem dX0_answer_13 : decode cX0_answer 13 = .ok (.isub, 1) := by decide +kernel
theorem dX0_answer_14 : decode cX0_answer 14 = .ok (.goto 7, 3) := by decide +kernel
theorem dX0_answer_17 : decode cX0_answer 17 = .ok (.aload_n 0, 1) := by decide +kernel
theorem dX0_answer_18 : decode cX0_answer 18 = .ok (.getfield 47, 3) := by decide +kernel
theorem dX0_answer_21 : decode cX0_answer 21 = .ok (.ireturn, 1) := by decide +kernel
theorem dX0_reachDepth_0 : decode cX0_reachDepth 0 = .ok (.aload_n 0, 1) := by decide +kernel
theorem dX0_reachDepth_1 : decode cX0_reachDepth 1 = .ok (.aload_n 0, 1) := by decide +kernel
theorem dX0_reachDepth_2 : decode cX0_reachDepth 2 = .ok (.getfield 50, 3) := by decide +kernel
theorem dX0_reachDepth_5 : decode cX0_reachDepth 5 = .ok (.iload_n 1, 1) := by decide +kernel
theorem dX0_reachDepth_6 : decode cX0_reachDepth 6 = .ok (.invokestatic 60, 3) := by decide +kernel
theorem dX0_reachDepth_9 : decode cX0_reachDepth 9 = .ok (.putfield 50, 3) := by decide +kernel
theorem dX0_reachDepth_12 : decode cX0_reachDepth 12 = .ok (.return_, 1) := by decide +kernel
set_option maxRecDepth 20000 in
theorem ggX0_beginItem_X0_fail : GoodIn wsX0_beginItem wsX0_fail := goodIn_r _ [8, 9, 10, 11, 12, 13, 14, 15, 16, 17, 18, 19, 20, 21, 22] (by decide +kernel) (by decide +kernel)
set_option maxRecDepth 20000 in
theorem gX0_beginItem_X0_fail : GoodIn wsX0_beginItem (wsV RX0 66 RX0 yX0_fail wsX0_fail) := goodIn_app (goodIn_of _ (by decide +kernel)) ggX0_beginItem_X0_fail
theorem dX0_beginItem_0 : decode cX0_beginItem 0 = .ok (.aload_n 0, 1) := by decide +kernel
theorem dX0_beginItem_1 : decode cX0_beginItem 1 = .ok (.getfield 38, 3) := by decide +kernel
theorem dX0_beginItem_4 : decode cX0_beginItem 4 = .ok (.aload_n 0, 1) := by decide +kernel
theorem dX0_beginItem_5 : decode cX0_beginItem 5 = .ok (.getfield 31, 3) := by decide +kernel
theorem dX0_beginItem_8 : decode cX0_beginItem 8 = .ok (.if_icmp .lt 12, 3) := by decide +kernel
theorem dX0_beginItem_11 : decode cX0_beginItem 11 = .ok (.aload_n 0, 1) := by decide +kernel
theorem dX0_beginItem_12 : decode cX0_beginItem 12 = .ok (.bipush 9, 2) := by decide +kernel
theorem dX0_beginItem_14 : decode cX0_beginItem 14 = .ok (.iload_n 1, 1) := by decide +kernel
theorem dX0_beginItem_15 : decode cX0_beginItem 15 = .ok (.invokevirtual 66, 3) := by decide +kernel
theorem dX0_beginItem_18 : decode cX0_beginItem 18 = .ok (.iconst 0, 1) := by decide +kernel
theorem dX0_beginItem_19 : decode cX0_beginItem 19 = .ok (.ireturn, 1) := by decide +kernel
theorem dX0_beginItem_20 : decode cX0_beginItem 20 = .ok (.aload_n 0, 1) := by decide +kernel
theorem dX0_beginItem_21 : decode cX0_beginItem 21 = .ok (.dup, 1) := by decide +kernel
theorem dX0_beginItem_22 : decode cX0_beginItem 22 = .ok (.getfield 38, 3) := by decide +kernel
theorem dX0_beginItem_25 : decode cX0_beginItem 25 = .ok (.iconst 1, 1) := by decide +kernel
theorem dX0_beginItem_26 : decode cX0_beginItem 26 = .ok (.iadd, 1) := by decide +kernel
theorem dX0_beginItem_27 : decode cX0_beginItem 27 = .ok (.putfield 38, 3) := by decide +kernel
theorem dX0_beginItem_30 : decode cX0_beginItem 30 = .ok (.aload_n 0, 1) := by decide +kernel
theorem dX0_beginItem_31 : decode cX0_beginItem 31 = .ok (.dup, 1) := by decide +kernel
theorem dX0_beginItem_32 : decode cX0_beginItem 32 = .ok (.getfield 53, 3) := by decide +kernel
theorem dX0_beginItem_35 : decode cX0_beginItem 35 = .ok (.iconst 1, 1) := by decide +kernel
theorem dX0_beginItem_36 : decode cX0_beginItem 36 = .ok (.iadd, 1) := by decide +kernel
theorem dX0_beginItem_37 : decode cX0_beginItem 37 = .ok (.putfield 53, 3) := by decide +kernel
theorem dX0_beginItem_40 : decode cX0_beginItem 40 = .ok (.iconst 1, 1) := by decide +kernel
theorem dX0_beginItem_41 : decode cX0_beginItem 41 = .ok (.ireturn, 1) := by decide +kernel
set_option maxRecDepth 20000 in
theorem ggX0_ask_X0_charge : GoodIn wsX0_ask wsX0_charge := goodIn_r _ [15, 2, 4, 16, 10, 27, 28, 29, 30, 31, 32, 33, 34, 35, 36, 37, 38] (by decide +kernel) (by decide +kernel)
set_option maxRecDepth 20000 in
theorem gX0_ask_X0_charge : GoodIn wsX0_ask (wsV RX0 73 RX0 yX0_charge wsX0_charge) := goodIn_app (goodIn_of _ (by decide +kernel)) ggX0_ask_X0_charge
set_option maxRecDepth 20000 in
theorem ggX0_ask_X0_tightBound : GoodIn wsX0_ask wsX0_tightBound := goodIn_r _ [20, 2, 1, 4, 3, 27, 28, 29, 30, 31, 32, 33, 34, 35, 36, 37, 38] (by decide +kernel) (by decide +kernel)
set_option maxRecDepth 20000 in
theorem gX0_ask_X0_tightBound : GoodIn wsX0_ask (wsV RX0 77 RX0 yX0_tightBound wsX0_tightBound) := goodIn_app (goodIn_of _ (by decide +kernel)) ggX0_ask_X0_tightBound
set_option maxRecDepth 20000 in
theorem ggX0_ask_X0_fail : GoodIn wsX0_ask wsX0_fail := goodIn_r _ [24, 25, 26, 27, 28, 29, 30, 31, 32, 33, 34, 35, 36, 37, 38] (by decide +kernel) (by decide +kernel)
set_option maxRecDepth 20000 in
theorem gX0_ask_X0_fail : GoodIn wsX0_ask (wsV RX0 66 RX0 yX0_fail wsX0_fail) := goodIn_app (goodIn_of _ (by decide +kernel)) ggX0_ask_X0_fail
theorem dX0_ask_0 : decode cX0_ask 0 = .ok (.iload_n 1, 1) := by decide +kernel
theorem dX0_ask_1 : decode cX0_ask 1 = .ok (.aload_n 0, 1) := by decide +kernel
theorem dX0_ask_2 : decode cX0_ask 2 = .ok (.getfield 31, 3) := by decide +kernel
theorem dX0_ask_5 : decode cX0_ask 5 = .ok (.aload_n 0, 1) := by decide +kernel
theorem dX0_ask_6 : decode cX0_ask 6 = .ok (.getfield 38, 3) := by decide +kernel
theorem dX0_ask_9 : decode cX0_ask 9 = .ok (.isub, 1) := by decide +kernel
theorem dX0_ask_10 : decode cX0_ask 10 = .ok (.aload_n 0, 1) := by decide +kernel
theorem dX0_ask_11 : decode cX0_ask 11 = .ok (.getfield 28, 3) := by decide +kernel
theorem dX0_ask_14 : decode cX0_ask 14 = .ok (.aload_n 0, 1) := by decide +kernel
theorem dX0_ask_15 : decode cX0_ask 15 = .ok (.getfield 41, 3) := by decide +kernel
theorem dX0_ask_18 : decode cX0_ask 18 = .ok (.isub, 1) := by decide +kernel
theorem dX0_ask_19 : decode cX0_ask 19 = .ok (.invokestatic 70, 3) := by decide +kernel
theorem dX0_ask_22 : decode cX0_ask 22 = .ok (.invokestatic 70, 3) := by decide +kernel
theorem dX0_ask_25 : decode cX0_ask 25 = .ok (.istore 4, 2) := by decide +kernel
theorem dX0_ask_27 : decode cX0_ask 27 = .ok (.iload_n 3, 1) := by decide +kernel
theorem dX0_ask_28 : decode cX0_ask 28 = .ok (.ifCond .eq 19, 3) := by decide +kernel
theorem dX0_ask_31 : decode cX0_ask 31 = .ok (.iload 4, 2) := by decide +kernel
theorem dX0_ask_33 : decode cX0_ask 33 = .ok (.aload_n 0, 1) := by decide +kernel
theorem dX0_ask_34 : decode cX0_ask 34 = .ok (.getfield 25, 3) := by decide +kernel
theorem dX0_ask_37 : decode cX0_ask 37 = .ok (.aload_n 0, 1) := by decide +kernel
theorem dX0_ask_38 : decode cX0_ask 38 = .ok (.getfield 47, 3) := by decide +kernel
theorem dX0_ask_41 : decode cX0_ask 41 = .ok (.isub, 1) := by decide +kernel
theorem dX0_ask_42 : decode cX0_ask 42 = .ok (.invokestatic 70, 3) := by decide +kernel
theorem dX0_ask_45 : decode cX0_ask 45 = .ok (.istore 4, 2) := by decide +kernel
theorem dX0_ask_47 : decode cX0_ask 47 = .ok (.aload_n 0, 1) := by decide +kernel
theorem dX0_ask_48 : decode cX0_ask 48 = .ok (.iload 4, 2) := by decide +kernel
theorem dX0_ask_50 : decode cX0_ask 50 = .ok (.iload_n 3, 1) := by decide +kernel
theorem dX0_ask_51 : decode cX0_ask 51 = .ok (.invokevirtual 73, 3) := by decide +kernel
theorem dX0_ask_54 : decode cX0_ask 54 = .ok (.iload 4, 2) := by decide +kernel
theorem dX0_ask_56 : decode cX0_ask 56 = .ok (.iload_n 1, 1) := by decide +kernel
theorem dX0_ask_57 : decode cX0_ask 57 = .ok (.if_icmp .ge 12, 3) := by decide +kernel
theorem dX0_ask_60 : decode cX0_ask 60 = .ok (.aload_n 0, 1) := by decide +kernel
theorem dX0_ask_61 : decode cX0_ask 61 = .ok (.aload_n 0, 1) := by decide +kernel
theorem dX0_ask_62 : decode cX0_ask 62 = .ok (.invokevirtual 77, 3) := by decide +kernel
theorem dX0_ask_65 : decode cX0_ask 65 = .ok (.iload_n 2, 1) := by decide +kernel
theorem dX0_ask_66 : decode cX0_ask 66 = .ok (.invokevirtual 66, 3) := by decide +kernel
theorem dX0_ask_69 : decode cX0_ask 69 = .ok (.iload 4, 2) := by decide +kernel
theorem dX0_ask_71 : decode cX0_ask 71 = .ok (.ireturn, 1) := by decide +kernel
theorem dX0_tightBound_0 : decode cX0_tightBound 0 = .ok (.aload_n 0, 1) := by decide +kernel
theorem dX0_tightBound_1 : decode cX0_tightBound 1 = .ok (.getfield 38, 3) := by decide +kernel
theorem dX0_tightBound_4 : decode cX0_tightBound 4 = .ok (.aload_n 0, 1) := by decide +kernel
theorem dX0_tightBound_5 : decode cX0_tightBound 5 = .ok (.getfield 31, 3) := by decide +kernel
theorem dX0_tightBound_8 : decode cX0_tightBound 8 = .ok (.if_icmp .lt 6, 3) := by decide +kernel
theorem dX0_tightBound_11 : decode cX0_tightBound 11 = .ok (.bipush 9, 2) := by decide +kernel
theorem dX0_tightBound_13 : decode cX0_tightBound 13 = .ok (.ireturn, 1) := by decide +kernel
theorem dX0_tightBound_14 : decode cX0_tightBound 14 = .ok (.aload_n 0, 1) := by decide +kernel
theorem dX0_tightBound_15 : decode cX0_tightBound 15 = .ok (.getfield 41, 3) := by decide +kernel
theorem dX0_tightBound_18 : decode cX0_tightBound 18 = .ok (.aload_n 0, 1) := by decide +kernel
theorem dX0_tightBound_19 : decode cX0_tightBound 19 = .ok (.getfield 28, 3) := by decide +kernel
theorem dX0_tightBound_22 : decode cX0_tightBound 22 = .ok (.if_icmp .lt 8, 3) := by decide +kernel
theorem dX0_tightBound_25 : decode cX0_tightBound 25 = .ok (.bipush 10, 2) := by decide +kernel
theorem dX0_tightBound_27 : decode cX0_tightBound 27 = .ok (.goto 5, 3) := by decide +kernel
theorem dX0_tightBound_30 : decode cX0_tightBound 30 = .ok (.bipush 8, 2) := by decide +kernel
theorem dX0_tightBound_32 : decode cX0_tightBound 32 = .ok (.ireturn, 1) := by decide +kernel
theorem dX0_charge_0 : decode cX0_charge 0 = .ok (.aload_n 0, 1) := by decide +kernel
theorem dX0_charge_1 : decode cX0_charge 1 = .ok (.dup, 1) := by decide +kernel
theorem dX0_charge_2 : decode cX0_charge 2 = .ok (.getfield 38, 3) := by decide +kernel
theorem dX0_charge_5 : decode cX0_charge 5 = .ok (.iload_n 1, 1) := by decide +kernel
theorem dX0_charge_6 : decode cX0_charge 6 = .ok (.iadd, 1) := by decide +kernel
theorem dX0_charge_7 : decode cX0_charge 7 = .ok (.putfield 38, 3) := by decide +kernel
theorem dX0_charge_10 : decode cX0_charge 10 = .ok (.aload_n 0, 1) := by decide +kernel
theorem dX0_charge_11 : decode cX0_charge 11 = .ok (.dup, 1) := by decide +kernel
theorem dX0_charge_12 : decode cX0_charge 12 = .ok (.getfield 41, 3) := by decide +kernel
theorem dX0_charge_15 : decode cX0_charge 15 = .ok (.iload_n 1, 1) := by decide +kernel
theorem dX0_charge_16 : decode cX0_charge 16 = .ok (.iadd, 1) := by decide +kernel
theorem dX0_charge_17 : decode cX0_charge 17 = .ok (.putfield 41, 3) := by decide +kernel
theorem dX0_charge_20 : decode cX0_charge 20 = .ok (.aload_n 0, 1) := by decide +kernel
theorem dX0_charge_21 : decode cX0_charge 21 = .ok (.getfield 41, 3) := by decide +kernel
theorem dX0_charge_24 : decode cX0_charge 24 = .ok (.aload_n 0, 1) := by decide +kernel
theorem dX0_charge_25 : decode cX0_charge 25 = .ok (.getfield 44, 3) := by decide +kernel
theorem dX0_charge_28 : decode cX0_charge 28 = .ok (.if_icmp .le 11, 3) := by decide +kernel
theorem dX0_charge_31 : decode cX0_charge 31 = .ok (.aload_n 0, 1) := by decide +kernel
theorem dX0_charge_32 : decode cX0_charge 32 = .ok (.aload_n 0, 1) := by decide +kernel
theorem dX0_charge_33 : decode cX0_charge 33 = .ok (.getfield 41, 3) := by decide +kernel
theorem dX0_charge_36 : decode cX0_charge 36 = .ok (.putfield 44, 3) := by decide +kernel
theorem dX0_charge_39 : decode cX0_charge 39 = .ok (.iload_n 2, 1) := by decide +kernel
theorem dX0_charge_40 : decode cX0_charge 40 = .ok (.ifCond .eq 13, 3) := by decide +kernel
theorem dX0_charge_43 : decode cX0_charge 43 = .ok (.aload_n 0, 1) := by decide +kernel
theorem dX0_charge_44 : decode cX0_charge 44 = .ok (.dup, 1) := by decide +kernel
theorem dX0_charge_45 : decode cX0_charge 45 = .ok (.getfield 47, 3) := by decide +kernel
theorem dX0_charge_48 : decode cX0_charge 48 = .ok (.iload_n 1, 1) := by decide +kernel
theorem dX0_charge_49 : decode cX0_charge 49 = .ok (.iadd, 1) := by decide +kernel
theorem dX0_charge_50 : decode cX0_charge 50 = .ok (.putfield 47, 3) := by decide +kernel
theorem dX0_charge_53 : decode cX0_charge 53 = .ok (.return_, 1) := by decide +kernel
set_option maxRecDepth 20000 in
theorem ggX0_give_X0_fail : GoodIn wsX0_give wsX0_fail := goodIn_r _ [13, 1, 14, 27, 28, 29, 30, 31, 32, 33, 34, 35, 36, 37, 38] (by decide +kernel) (by decide +kernel)
set_option maxRecDepth 20000 in
theorem gX0_give_X0_fail : GoodIn wsX0_give (wsV RX0 66 RX0 yX0_fail wsX0_fail) := goodIn_app (goodIn_of _ (by decide +kernel)) ggX0_give_X0_fail
set_option maxRecDepth 20000 in
theorem ggX0_give_X0_charge : GoodIn wsX0_give wsX0_charge := goodIn_r _ [18, 2, 4, 19, 6, 27, 28, 29, 30, 31, 32, 33, 34, 35, 36, 37, 38] (by decide +kernel) (by decide +kernel)
set_option maxRecDepth 20000 in
theorem gX0_give_X0_charge : GoodIn wsX0_give (wsV RX0 73 RX0 yX0_charge wsX0_charge) := goodIn_app (goodIn_of _ (by decide +kernel)) ggX0_give_X0_charge
set_option maxRecDepth 20000 in
theorem ggX0_give_X4_push : GoodIn wsX0_give wsX4_push := goodIn_r _ [24, 25, 26, 39, 40] (by decide +kernel) (by decide +kernel)
set_option maxRecDepth 20000 in
theorem gX0_give_X4_push : GoodIn wsX0_give (wsV RX0 81 RX4 yX4_push wsX4_push) := goodIn_app (goodIn_of _ (by decide +kernel)) ggX0_give_X4_push
theorem dX0_give_0 : decode cX0_give 0 = .ok (.aload_n 0, 1) := by decide +kernel
theorem dX0_give_1 : decode cX0_give 1 = .ok (.getfield 18, 3) := by decide +kernel
theorem dX0_give_4 : decode cX0_give 4 = .ok (.ifCond .eq 4, 3) := by decide +kernel
theorem dX0_give_7 : decode cX0_give 7 = .ok (.return_, 1) := by decide +kernel
theorem dX0_give_8 : decode cX0_give 8 = .ok (.aload_n 0, 1) := by decide +kernel
theorem dX0_give_9 : decode cX0_give 9 = .ok (.getfield 38, 3) := by decide +kernel
theorem dX0_give_12 : decode cX0_give 12 = .ok (.aload_n 0, 1) := by decide +kernel
theorem dX0_give_13 : decode cX0_give 13 = .ok (.getfield 31, 3) := by decide +kernel
theorem dX0_give_16 : decode cX0_give 16 = .ok (.if_icmp .lt 13, 3) := by decide +kernel
theorem dX0_give_19 : decode cX0_give 19 = .ok (.aload_n 0, 1) := by decide +kernel
theorem dX0_give_20 : decode cX0_give 20 = .ok (.bipush 9, 2) := by decide +kernel
theorem dX0_give_22 : decode cX0_give 22 = .ok (.iload_n 2, 1) := by decide +kernel
theorem dX0_give_23 : decode cX0_give 23 = .ok (.invokevirtual 66, 3) := by decide +kernel
theorem dX0_give_26 : decode cX0_give 26 = .ok (.goto 63, 3) := by decide +kernel
theorem dX0_give_29 : decode cX0_give 29 = .ok (.aload_n 0, 1) := by decide +kernel
theorem dX0_give_30 : decode cX0_give 30 = .ok (.getfield 41, 3) := by decide +kernel
theorem dX0_give_33 : decode cX0_give 33 = .ok (.aload_n 0, 1) := by decide +kernel
theorem dX0_give_34 : decode cX0_give 34 = .ok (.getfield 28, 3) := by decide +kernel
theorem dX0_give_37 : decode cX0_give 37 = .ok (.if_icmp .lt 13, 3) := by decide +kernel
theorem dX0_give_40 : decode cX0_give 40 = .ok (.aload_n 0, 1) := by decide +kernel
theorem dX0_give_41 : decode cX0_give 41 = .ok (.bipush 10, 2) := by decide +kernel
theorem dX0_give_43 : decode cX0_give 43 = .ok (.iload_n 2, 1) := by decide +kernel
theorem dX0_give_44 : decode cX0_give 44 = .ok (.invokevirtual 66, 3) := by decide +kernel
theorem dX0_give_47 : decode cX0_give 47 = .ok (.goto 42, 3) := by decide +kernel
theorem dX0_give_50 : decode cX0_give 50 = .ok (.iload_n 3, 1) := by decide +kernel
theorem dX0_give_51 : decode cX0_give 51 = .ok (.ifCond .eq 24, 3) := by decide +kernel
theorem dX0_give_54 : decode cX0_give 54 = .ok (.aload_n 0, 1) := by decide +kernel
theorem dX0_give_55 : decode cX0_give 55 = .ok (.getfield 47, 3) := by decide +kernel
theorem dX0_give_58 : decode cX0_give 58 = .ok (.aload_n 0, 1) := by decide +kernel
theorem dX0_give_59 : decode cX0_give 59 = .ok (.getfield 25, 3) := by decide +kernel
theorem dX0_give_62 : decode cX0_give 62 = .ok (.if_icmp .lt 13, 3) := by decide +kernel
theorem dX0_give_65 : decode cX0_give 65 = .ok (.aload_n 0, 1) := by decide +kernel
theorem dX0_give_66 : decode cX0_give 66 = .ok (.bipush 8, 2) := by decide +kernel
theorem dX0_give_68 : decode cX0_give 68 = .ok (.iload_n 2, 1) := by decide +kernel
theorem dX0_give_69 : decode cX0_give 69 = .ok (.invokevirtual 66, 3) := by decide +kernel
theorem dX0_give_72 : decode cX0_give 72 = .ok (.goto 17, 3) := by decide +kernel
theorem dX0_give_75 : decode cX0_give 75 = .ok (.aload_n 0, 1) := by decide +kernel
theorem dX0_give_76 : decode cX0_give 76 = .ok (.iconst 1, 1) := by decide +kernel
theorem dX0_give_77 : decode cX0_give 77 = .ok (.iload_n 3, 1) := by decide +kernel
theorem dX0_give_78 : decode cX0_give 78 = .ok (.invokevirtual 73, 3) := by decide +kernel
theorem dX0_give_81 : decode cX0_give 81 = .ok (.aload_n 0, 1) := by decide +kernel
theorem dX0_give_82 : decode cX0_give 82 = .ok (.getfield 12, 3) := by decide +kernel
theorem dX0_give_85 : decode cX0_give 85 = .ok (.iload_n 1, 1) := by decide +kernel
theorem dX0_give_86 : decode cX0_give 86 = .ok (.invokevirtual 81, 3) := by decide +kernel
theorem dX0_give_89 : decode cX0_give 89 = .ok (.return_, 1) := by decide +kernel
theorem dX0_release_0 : decode cX0_release 0 = .ok (.aload_n 0, 1) := by decide +kernel
theorem dX0_release_1 : decode cX0_release 1 = .ok (.dup, 1) := by decide +kernel
theorem dX0_release_2 : decode cX0_release 2 = .ok (.getfield 41, 3) := by decide +kernel
theorem dX0_release_5 : decode cX0_release 5 = .ok (.iload_n 1, 1) := by decide +kernel
theorem dX0_release_6 : decode cX0_release 6 = .ok (.isub, 1) := by decide +kernel
theorem dX0_release_7 : decode cX0_release 7 = .ok (.putfield 41, 3) := by decide +kernel
theorem dX0_release_10 : decode cX0_release 10 = .ok (.return_, 1) := by decide +kernel
theorem dX1_init_0 : decode cX1_init 0 = .ok (.aload_n 0, 1) := by decide +kernel
theorem dX1_init_1 : decode cX1_init 1 = .ok (.invokespecial 3, 3) := by decide +kernel
theorem dX1_init_4 : decode cX1_init 4 = .ok (.aload_n 0, 1) := by decide +kernel
theorem dX1_init_5 : decode cX1_init 5 = .ok (.bipush 7, 2) := by decide +kernel
theorem dX1_init_7 : decode cX1_init 7 = .ok (.newarray .int, 2) := by decide +kernel
theorem dX1_init_9 : decode cX1_init 9 = .ok (.putfield 9, 3) := by decide +kernel
theorem dX1_init_12 : decode cX1_init 12 = .ok (.aload_n 0, 1) := by decide +kernel
theorem dX1_init_13 : decode cX1_init 13 = .ok (.bipush 7, 2) := by decide +kernel
theorem dX1_init_15 : decode cX1_init 15 = .ok (.newarray .int, 2) := by decide +kernel
theorem dX1_init_17 : decode cX1_init 17 = .ok (.putfield 15, 3) := by decide +kernel
theorem dX1_init_20 : decode cX1_init 20 = .ok (.aload_n 0, 1) := by decide +kernel
theorem dX1_init_21 : decode cX1_init 21 = .ok (.bipush 7, 2) := by decide +kernel
theorem dX1_init_23 : decode cX1_init 23 = .ok (.newarray .int, 2) := by decide +kernel
theorem dX1_init_25 : decode cX1_init 25 = .ok (.putfield 18, 3) := by decide +kernel
theorem dX1_init_28 : decode cX1_init 28 = .ok (.aload_n 0, 1) := by decide +kernel
theorem dX1_init_29 : decode cX1_init 29 = .ok (.bipush 7, 2) := by decide +kernel
theorem dX1_init_31 : decode cX1_init 31 = .ok (.newarray .int, 2) := by decide +kernel
theorem dX1_init_33 : decode cX1_init 33 = .ok (.putfield 21, 3) := by decide +kernel
theorem dX1_init_36 : decode cX1_init 36 = .ok (.aload_n 0, 1) := by decide +kernel
theorem dX1_init_37 : decode cX1_init 37 = .ok (.aload_n 1, 1) := by decide +kernel
theorem dX1_init_38 : decode cX1_init 38 = .ok (.putfield 24, 3) := by decide +kernel
theorem dX1_init_41 : decode cX1_init 41 = .ok (.aload_n 0, 1) := by decide +kernel
theorem dX1_init_42 : decode cX1_init 42 = .ok (.aload_n 2, 1) := by decide +kernel
theorem dX1_init_43 : decode cX1_init 43 = .ok (.putfield 28, 3) := by decide +kernel
theorem dX1_init_46 : decode cX1_init 46 = .ok (.aload_n 0, 1) := by decide +kernel
theorem dX1_init_47 : decode cX1_init 47 = .ok (.aload_n 2, 1) := by decide +kernel
theorem dX1_init_48 : decode cX1_init 48 = .ok (.getfield 32, 3) := by decide +kernel
theorem dX1_init_51 : decode cX1_init 51 = .ok (.putfield 38, 3) := by decide +kernel
theorem dX1_init_54 : decode cX1_init 54 = .ok (.return_, 1) := by decide +kernel
set_option maxRecDepth 20000 in
theorem ggX1_read_X0_start : GoodIn wsX1_read wsX0_start := goodIn_r _ [9, 10, 11, 12, 13, 14, 15, 16, 17, 18, 19, 20, 21, 22, 23, 24, 25, 26, 27, 185, 186, 187, 188, 189, 190, 191, 192, 193, 194, 195, 196, 197, 198] (by decide +kernel) (by decide +kernel)
set_option maxRecDepth 20000 in
theorem gX1_read_X0_start : GoodIn wsX1_read (wsV RX1 39 RX0 yX0_start wsX0_start) := goodIn_app (goodIn_of _ (by decide +kernel)) ggX1_read_X0_start
set_option maxRecDepth 20000 in
theorem ggX1_read_X5_count : GoodIn wsX1_read wsX5_count := goodIn_r _ [32, 33, 199, 200] (by decide +kernel) (by decide +kernel)
set_option maxRecDepth 20000 in
theorem gX1_read_X5_count : GoodIn wsX1_read (wsV RX1 50 RX5 yX5_count wsX5_count) := goodIn_app (goodIn_of _ (by decide +kernel)) ggX1_read_X5_count
set_option maxRecDepth 20000 in
theorem ggX1_read_X1_enterPack : GoodIn wsX1_read wsX1_enterPack := goodIn_r _ [38, 2, 39, 40, 41, 42, 43, 1, 44, 45, 46, 25, 47, 27, 48, 49, 50, 8, 51, 20, 52, 53, 54, 55, 173, 174, 175, 176, 177, 178, 179, 180, 181, 182, 183, 184, 197, 198, 185, 186, 187, 188, 189, 190, 191, 192, 193, 194, 195, 196] (by decide +kernel) (by decide +kernel)
set_option maxRecDepth 20000 in
theorem gX1_read_X1_enterPack : GoodIn wsX1_read (wsV RX1 56 RX1 yX1_enterPack wsX1_enterPack) := goodIn_app (goodIn_of _ (by decide +kernel)) ggX1_read_X1_enterPack
set_option maxRecDepth 20000 in
theorem ggX1_read_X0_failed : GoodIn wsX1_read wsX0_failed := goodIn_r _ [59, 14, 185, 186, 187, 188, 189, 190, 191, 192, 193, 194, 195, 196] (by decide +kernel) (by decide +kernel)
set_option maxRecDepth 20000 in
theorem gX1_read_X0_failed : GoodIn wsX1_read (wsV RX1 59 RX0 yX0_failed wsX0_failed) := goodIn_app (goodIn_of _ (by decide +kernel)) ggX1_read_X0_failed
set_option maxRecDepth 20000 in
theorem ggX1_read_X1_readItem : GoodIn wsX1_read wsX1_readItem := goodIn_r _ [63, 3, 64, 1, 65, 40, 66, 67, 68, 69, 37, 70, 4, 71, 72, 73, 74, 41, 2, 42, 75, 76, 77, 78, 79, 80, 81, 8, 82, 14, 15, 83, 84, 85, 86, 16, 12, 21, 87, 88, 89, 90, 31, 91, 92, 93, 94, 95, 96, 33, 97, 98, 99, 56, 57, 58, 59, 44, 45, 46, 25, 47, 27, 100, 101, 102, 103, 39, 104, 105, 106, 107, 108, 109, 110, 111, 112, 113, 114, 115, 116, 28, 29, 30, 32, 117, 118, 119, 120, 43, 121, 122, 123, 124, 11, 17, 125, 126, 54, 127, 10, 19, 128, 129, 130, 131, 18, 132, 133, 134, 135, 136, 137, 138, 139, 140, 141, 142, 143, 34, 35, 36, 38, 48, 49, 50, 51, 20, 52, 53, 55, 144, 145, 146, 147, 148, 149, 150, 151, 152, 153, 154, 155, 156, 157, 158, 159, 160, 161, 162, 163, 164, 165, 166, 167, 168, 169, 170, 171, 172, 173, 174, 175, 176, 177, 178, 179, 180, 181, 182, 183, 184, 185, 186, 187, 188, 189, 190, 191, 192, 193, 194, 195, 196, 199, 200, 197, 198] (by decide +kernel) (by decide +kernel)
set_option maxRecDepth 20000 in
theorem gX1_read_X1_readItem : GoodIn wsX1_read (wsV RX1 63 RX1 yX1_readItem wsX1_readItem) := goodIn_app (goodIn_of _ (by decide +kernel)) ggX1_read_X1_readItem
theorem dX1_read_0 : decode cX1_read 0 = .ok (.aload_n 0, 1) := by decide +kernel
theorem dX1_read_1 : decode cX1_read 1 = .ok (.getfield 28, 3) := by decide +kernel
theorem dX1_read_4 : decode cX1_read 4 = .ok (.iload_n 1, 1) := by decide +kernel
theorem dX1_read_5 : decode cX1_read 5 = .ok (.iload_n 2, 1) := by decide +kernel
theorem dX1_read_6 : decode cX1_read 6 = .ok (.iload_n 3, 1) := by decide +kernel
theorem dX1_read_7 : decode cX1_read 7 = .ok (.invokevirtual 39, 3) := by decide +kernel
theorem dX1_read_10 : decode cX1_read 10 = .ok (.aload_n 0, 1) := by decide +kernel
theorem dX1_read_11 : decode cX1_read 11 = .ok (.iconst 0, 1) := by decide +kernel
theorem dX1_read_12 : decode cX1_read 12 = .ok (.putfield 43, 3) := by decide +kernel
theorem dX1_read_15 : decode cX1_read 15 = .ok (.aload_n 0, 1) := by decide +kernel
theorem dX1_read_16 : decode cX1_read 16 = .ok (.iconst 0, 1) := by decide +kernel
theorem dX1_read_17 : decode cX1_read 17 = .ok (.putfield 47, 3) := by decide +kernel
theorem dX1_read_20 : decode cX1_read 20 = .ok (.aload_n 0, 1) := by decide +kernel
theorem dX1_read_21 : decode cX1_read 21 = .ok (.aload_n 0, 1) := by decide +kernel
theorem dX1_read_22 : decode cX1_read 22 = .ok (.getfield 24, 3) := by decide +kernel
theorem dX1_read_25 : decode cX1_read 25 = .ok (.invokevirtual 50, 3) := by decide +kernel
theorem dX1_read_28 : decode cX1_read 28 = .ok (.aload_n 0, 1) := by decide +kernel
theorem dX1_read_29 : decode cX1_read 29 = .ok (.getfield 24, 3) := by decide +kernel
theorem dX1_read_32 : decode cX1_read 32 = .ok (.invokevirtual 50, 3) := by decide +kernel
theorem dX1_read_35 : decode cX1_read 35 = .ok (.iconst 0, 1) := by decide +kernel
theorem dX1_read_36 : decode cX1_read 36 = .ok (.invokevirtual 56, 3) := by decide +kernel
theorem dX1_read_39 : decode cX1_read 39 = .ok (.iconst 0, 1) := by decide +kernel
theorem dX1_read_40 : decode cX1_read 40 = .ok (.istore 4, 2) := by decide +kernel
theorem dX1_read_42 : decode cX1_read 42 = .ok (.iload 4, 2) := by decide +kernel
theorem dX1_read_44 : decode cX1_read 44 = .ok (.sipush 160, 3) := by decide +kernel
theorem dX1_read_47 : decode cX1_read 47 = .ok (.if_icmp .gt 30, 3) := by decide +kernel
theorem dX1_read_50 : decode cX1_read 50 = .ok (.aload_n 0, 1) := by decide +kernel
theorem dX1_read_51 : decode cX1_read 51 = .ok (.getfield 43, 3) := by decide +kernel
theorem dX1_read_54 : decode cX1_read 54 = .ok (.ifCond .le 23, 3) := by decide +kernel
theorem dX1_read_57 : decode cX1_read 57 = .ok (.aload_n 0, 1) := by decide +kernel
theorem dX1_read_58 : decode cX1_read 58 = .ok (.getfield 28, 3) := by decide +kernel
theorem dX1_read_61 : decode cX1_read 61 = .ok (.invokevirtual 59, 3) := by decide +kernel
theorem dX1_read_64 : decode cX1_read 64 = .ok (.ifCond .ne 13, 3) := by decide +kernel
theorem dX1_read_67 : decode cX1_read 67 = .ok (.aload_n 0, 1) := by decide +kernel
theorem dX1_read_68 : decode cX1_read 68 = .ok (.invokevirtual 63, 3) := by decide +kernel
theorem dX1_read_71 : decode cX1_read 71 = .ok (.iinc 4 1, 3) := by decide +kernel
theorem dX1_read_74 : decode cX1_read 74 = .ok (.goto (-32), 3) := by decide +kernel
theorem dX1_read_77 : decode cX1_read 77 = .ok (.aload_n 0, 1) := by decide +kernel
theorem dX1_read_78 : decode cX1_read 78 = .ok (.getfield 28, 3) := by decide +kernel
theorem dX1_read_81 : decode cX1_read 81 = .ok (.getfield 66, 3) := by decide +kernel
theorem dX1_read_84 : decode cX1_read 84 = .ok (.ireturn, 1) := by decide +kernel
set_option maxRecDepth 20000 in
theorem ggX1_enterPack_X4_top : GoodIn wsX1_enterPack wsX4_top := goodIn_r _ [12, 13, 36, 37] (by decide +kernel) (by decide +kernel)
set_option maxRecDepth 20000 in
theorem gX1_enterPack_X4_top : GoodIn wsX1_enterPack (wsV RX1 69 RX4 yX4_top wsX4_top) := goodIn_app (goodIn_of _ (by decide +kernel)) ggX1_enterPack_X4_top
set_option maxRecDepth 20000 in
theorem ggX1_enterPack_X0_reachDepth : GoodIn wsX1_enterPack wsX0_reachDepth := goodIn_r _ [18, 19, 20, 21, 22, 23, 38, 39, 40, 41, 42, 43, 44, 45, 46, 47, 48, 49] (by decide +kernel) (by decide +kernel)
set_option maxRecDepth 20000 in
theorem gX1_enterPack_X0_reachDepth : GoodIn wsX1_enterPack (wsV RX1 74 RX0 yX0_reachDepth wsX0_reachDepth) := goodIn_app (goodIn_of _ (by decide +kernel)) ggX1_enterPack_X0_reachDepth
theorem dX1_enterPack_0 : decode cX1_enterPack 0 = .ok (.aload_n 0, 1) := by decide +kernel
theorem dX1_enterPack_1 : decode cX1_enterPack 1 = .ok (.getfield 43, 3) := by decide +kernel
theorem dX1_enterPack_4 : decode cX1_enterPack 4 = .ok (.bipush 6, 2) := by decide +kernel
theorem dX1_enterPack_6 : decode cX1_enterPack 6 = .ok (.if_icmp .lt 4, 3) := by decide +kernel
theorem dX1_enterPack_9 : decode cX1_enterPack 9 = .ok (.return_, 1) := by decide +kernel
theorem dX1_enterPack_10 : decode cX1_enterPack 10 = .ok (.aload_n 0, 1) := by decide +kernel
theorem dX1_enterPack_11 : decode cX1_enterPack 11 = .ok (.dup, 1) := by decide +kernel
theorem dX1_enterPack_12 : decode cX1_enterPack 12 = .ok (.getfield 43, 3) := by decide +kernel
theorem dX1_enterPack_15 : decode cX1_enterPack 15 = .ok (.iconst 1, 1) := by decide +kernel
theorem dX1_enterPack_16 : decode cX1_enterPack 16 = .ok (.iadd, 1) := by decide +kernel
theorem dX1_enterPack_17 : decode cX1_enterPack 17 = .ok (.putfield 43, 3) := by decide +kernel
theorem dX1_enterPack_20 : decode cX1_enterPack 20 = .ok (.aload_n 0, 1) := by decide +kernel
theorem dX1_enterPack_21 : decode cX1_enterPack 21 = .ok (.getfield 9, 3) := by decide +kernel
theorem dX1_enterPack_24 : decode cX1_enterPack 24 = .ok (.aload_n 0, 1) := by decide +kernel
theorem dX1_enterPack_25 : decode cX1_enterPack 25 = .ok (.getfield 43, 3) := by decide +kernel
theorem dX1_enterPack_28 : decode cX1_enterPack 28 = .ok (.aload_n 0, 1) := by decide +kernel
theorem dX1_enterPack_29 : decode cX1_enterPack 29 = .ok (.getfield 38, 3) := by decide +kernel
theorem dX1_enterPack_32 : decode cX1_enterPack 32 = .ok (.invokevirtual 69, 3) := by decide +kernel
theorem dX1_enterPack_35 : decode cX1_enterPack 35 = .ok (.iastore, 1) := by decide +kernel
theorem dX1_enterPack_36 : decode cX1_enterPack 36 = .ok (.aload_n 0, 1) := by decide +kernel
theorem dX1_enterPack_37 : decode cX1_enterPack 37 = .ok (.getfield 15, 3) := by decide +kernel
theorem dX1_enterPack_40 : decode cX1_enterPack 40 = .ok (.aload_n 0, 1) := by decide +kernel
theorem dX1_enterPack_41 : decode cX1_enterPack 41 = .ok (.getfield 43, 3) := by decide +kernel
theorem dX1_enterPack_44 : decode cX1_enterPack 44 = .ok (.iload_n 1, 1) := by decide +kernel
theorem dX1_enterPack_45 : decode cX1_enterPack 45 = .ok (.iastore, 1) := by decide +kernel
theorem dX1_enterPack_46 : decode cX1_enterPack 46 = .ok (.aload_n 0, 1) := by decide +kernel
theorem dX1_enterPack_47 : decode cX1_enterPack 47 = .ok (.getfield 18, 3) := by decide +kernel
theorem dX1_enterPack_50 : decode cX1_enterPack 50 = .ok (.aload_n 0, 1) := by decide +kernel
theorem dX1_enterPack_51 : decode cX1_enterPack 51 = .ok (.getfield 43, 3) := by decide +kernel
theorem dX1_enterPack_54 : decode cX1_enterPack 54 = .ok (.iload_n 2, 1) := by decide +kernel
theorem dX1_enterPack_55 : decode cX1_enterPack 55 = .ok (.iastore, 1) := by decide +kernel
theorem dX1_enterPack_56 : decode cX1_enterPack 56 = .ok (.aload_n 0, 1) := by decide +kernel
theorem dX1_enterPack_57 : decode cX1_enterPack 57 = .ok (.getfield 21, 3) := by decide +kernel
theorem dX1_enterPack_60 : decode cX1_enterPack 60 = .ok (.aload_n 0, 1) := by decide +kernel
theorem dX1_enterPack_61 : decode cX1_enterPack 61 = .ok (.getfield 43, 3) := by decide +kernel
theorem dX1_enterPack_64 : decode cX1_enterPack 64 = .ok (.iload_n 3, 1) := by decide +kernel
theorem dX1_enterPack_65 : decode cX1_enterPack 65 = .ok (.iastore, 1) := by decide +kernel
theorem dX1_enterPack_66 : decode cX1_enterPack 66 = .ok (.aload_n 0, 1) := by decide +kernel
theorem dX1_enterPack_67 : decode cX1_enterPack 67 = .ok (.getfield 28, 3) := by decide +kernel
theorem dX1_enterPack_70 : decode cX1_enterPack 70 = .ok (.aload_n 0, 1) := by decide +kernel
theorem dX1_enterPack_71 : decode cX1_enterPack 71 = .ok (.getfield 43, 3) := by decide +kernel
theorem dX1_enterPack_74 : decode cX1_enterPack 74 = .ok (.invokevirtual 74, 3) := by decide +kernel
theorem dX1_enterPack_77 : decode cX1_enterPack 77 = .ok (.return_, 1) := by decide +kernel
theorem dX1_isOutermost_0 : decode cX1_isOutermost 0 = .ok (.aload_n 0, 1) := by decide +kernel
theorem dX1_isOutermost_1 : decode cX1_isOutermost 1 = .ok (.getfield 43, 3) := by decide +kernel
theorem dX1_isOutermost_4 : decode cX1_isOutermost 4 = .ok (.iconst 1, 1) := by decide +kernel
theorem dX1_isOutermost_5 : decode cX1_isOutermost 5 = .ok (.if_icmp .ne 7, 3) := by decide +kernel
theorem dX1_isOutermost_8 : decode cX1_isOutermost 8 = .ok (.iconst 1, 1) := by decide +kernel
theorem dX1_isOutermost_9 : decode cX1_isOutermost 9 = .ok (.goto 4, 3) := by decide +kernel
theorem dX1_isOutermost_12 : decode cX1_isOutermost 12 = .ok (.iconst 0, 1) := by decide +kernel
theorem dX1_isOutermost_13 : decode cX1_isOutermost 13 = .ok (.ireturn, 1) := by decide +kernel
set_option maxRecDepth 20000 in
theorem ggX1_readItem_X1_beginItem : GoodIn wsX1_readItem wsX1_beginItem := goodIn_r _ [11, 3, 1, 12, 13, 14, 15, 10, 16, 17, 18, 19, 20, 21, 22, 23, 24, 25, 26, 27, 28, 29, 30, 31, 32, 33, 34, 35, 36, 37, 38, 39, 40, 41, 42, 43, 44, 45, 46, 47, 48, 49, 160, 161, 162, 163, 164, 165, 166, 167, 168, 169, 170, 171, 172, 173, 174, 175, 176, 177, 178, 179, 180, 181, 182, 183, 184, 185] (by decide +kernel) (by decide +kernel)
set_option maxRecDepth 20000 in
theorem gX1_readItem_X1_beginItem : GoodIn wsX1_readItem (wsV RX1 81 RX1 yX1_beginItem wsX1_beginItem) := goodIn_app (goodIn_of _ (by decide +kernel)) ggX1_readItem_X1_beginItem
set_option maxRecDepth 20000 in
theorem ggX1_readItem_X6_sortOf : GoodIn wsX1_readItem wsX6_sortOf := goodIn_r _ [52] (by decide +kernel) (by decide +kernel)
set_option maxRecDepth 20000 in
theorem gX1_readItem_X6_sortOf_n84 : GoodIn wsX1_readItem (wsX6_sortOf) := ggX1_readItem_X6_sortOf
set_option maxRecDepth 20000 in
theorem ggX1_readItem_X0_failed : GoodIn wsX1_readItem wsX0_failed := goodIn_r _ [56, 29, 172, 173, 174, 175, 176, 177, 178, 179, 180, 181, 182, 183] (by decide +kernel) (by decide +kernel)
set_option maxRecDepth 20000 in
theorem gX1_readItem_X0_failed : GoodIn wsX1_readItem (wsV RX1 59 RX0 yX0_failed wsX0_failed) := goodIn_app (goodIn_of _ (by decide +kernel)) ggX1_readItem_X0_failed
set_option maxRecDepth 20000 in
theorem ggX1_readItem_X4_top : GoodIn wsX1_readItem wsX4_top := goodIn_r _ [61, 62, 186, 187] (by decide +kernel) (by decide +kernel)
set_option maxRecDepth 20000 in
theorem gX1_readItem_X4_top : GoodIn wsX1_readItem (wsV RX1 69 RX4 yX4_top wsX4_top) := goodIn_app (goodIn_of _ (by decide +kernel)) ggX1_readItem_X4_top
set_option maxRecDepth 20000 in
theorem ggX1_readItem_X1_readEnd : GoodIn wsX1_readItem wsX1_readEnd := goodIn_r _ [66, 4, 2, 3, 12, 1, 5, 67, 18, 24, 25, 26, 27, 28, 29, 30, 13, 14, 15, 10, 16, 17, 19, 20, 21, 22, 23, 39, 40, 41, 42, 43, 44, 45, 46, 47, 48, 49, 68, 69, 70, 60, 71, 62, 72, 73, 74, 75, 76, 77, 78, 79, 80, 81, 82, 83, 84, 85, 86, 87, 88, 89, 6, 57, 58, 59, 61, 90, 91, 92, 93, 36, 35, 94, 95, 96, 97, 98, 99, 100, 101, 102, 103, 104, 105, 106, 107, 108, 109, 110, 38, 111, 112, 113, 114, 160, 161, 162, 163, 164, 165, 166, 167, 168, 169, 170, 171, 172, 173, 174, 175, 176, 177, 178, 179, 180, 181, 182, 183, 184, 185, 186, 187] (by decide +kernel) (by decide +kernel)
set_option maxRecDepth 20000 in
theorem gX1_readItem_X1_readEnd : GoodIn wsX1_readItem (wsV RX1 93 RX1 yX1_readEnd wsX1_readEnd) := goodIn_app (goodIn_of _ (by decide +kernel)) ggX1_readItem_X1_readEnd
set_option maxRecDepth 20000 in
theorem ggX1_readItem_X1_readInner : GoodIn wsX1_readItem wsX1_readInner := goodIn_r _ [118, 18, 3, 4, 12, 1, 17, 2, 24, 25, 26, 27, 28, 29, 30, 13, 14, 15, 10, 16, 19, 20, 21, 22, 23, 39, 40, 41, 42, 43, 44, 45, 46, 47, 48, 49, 119, 120, 121, 122, 67, 5, 89, 57, 58, 59, 60, 61, 62, 123, 124, 125, 126, 127, 128, 129, 98, 130, 160, 161, 162, 163, 164, 165, 166, 167, 168, 169, 170, 171, 172, 173, 174, 175, 176, 177, 178, 179, 180, 181, 182, 183, 184, 185, 186, 187] (by decide +kernel) (by decide +kernel)
set_option maxRecDepth 20000 in
theorem gX1_readItem_X1_readInner : GoodIn wsX1_readItem (wsV RX1 96 RX1 yX1_readInner wsX1_readInner) := goodIn_app (goodIn_of _ (by decide +kernel)) ggX1_readItem_X1_readInner
set_option maxRecDepth 20000 in
theorem ggX1_readItem_X1_readCopy : GoodIn wsX1_readItem wsX1_readCopy := goodIn_r _ [134, 12, 1, 5, 67, 18, 3, 4, 13, 14, 15, 10, 16, 17, 19, 20, 21, 22, 23, 24, 25, 26, 27, 28, 29, 30, 39, 40, 41, 42, 43, 44, 45, 46, 47, 48, 49, 57, 58, 59, 60, 61, 62, 135, 51, 136, 137, 138, 139, 140, 90, 91, 92, 93, 36, 35, 94, 95, 96, 97, 98, 99, 100, 101, 102, 103, 104, 105, 106, 107, 108, 109, 110, 38, 141, 142, 143, 144, 72, 73, 74, 75, 76, 145, 146, 147, 148, 160, 161, 162, 163, 164, 165, 166, 167, 168, 169, 170, 171, 172, 173, 174, 175, 176, 177, 178, 179, 180, 181, 182, 183, 184, 185, 186, 187] (by decide +kernel) (by decide +kernel)
set_option maxRecDepth 20000 in
theorem gX1_readItem_X1_readCopy : GoodIn wsX1_readItem (wsV RX1 99 RX1 yX1_readCopy wsX1_readCopy) := goodIn_app (goodIn_of _ (by decide +kernel)) ggX1_readItem_X1_readCopy
set_option maxRecDepth 20000 in
theorem ggX1_readItem_X1_readRaw : GoodIn wsX1_readItem wsX1_readRaw := goodIn_r _ [152, 12, 1, 3, 4, 5, 13, 14, 15, 10, 16, 17, 18, 19, 20, 21, 22, 23, 24, 25, 26, 27, 28, 29, 30, 39, 40, 41, 42, 43, 44, 45, 46, 47, 48, 49, 90, 91, 92, 93, 36, 35, 94, 95, 96, 97, 98, 99, 100, 101, 102, 103, 104, 105, 106, 107, 108, 109, 110, 38, 153, 146, 147, 60, 148, 62, 76, 160, 161, 162, 163, 164, 165, 166, 167, 168, 169, 170, 171, 172, 173, 174, 175, 176, 177, 178, 179, 180, 181, 182, 183, 184, 185, 186, 187] (by decide +kernel) (by decide +kernel)
set_option maxRecDepth 20000 in
theorem gX1_readItem_X1_readRaw : GoodIn wsX1_readItem (wsV RX1 102 RX1 yX1_readRaw wsX1_readRaw) := goodIn_app (goodIn_of _ (by decide +kernel)) ggX1_readItem_X1_readRaw
set_option maxRecDepth 20000 in
theorem ggX1_readItem_X1_giveAgain : GoodIn wsX1_readItem wsX1_giveAgain := goodIn_r _ [157, 4, 2, 3, 5, 6, 12, 53, 54, 55, 27, 56, 29, 57, 58, 59, 60, 61, 62, 39, 40, 41, 42, 43, 44, 45, 46, 47, 48, 49, 158, 51, 159, 137, 138, 139, 10, 140, 20, 21, 22, 23, 18, 90, 91, 92, 93, 36, 35, 94, 95, 96, 97, 98, 99, 100, 101, 102, 103, 104, 105, 106, 107, 108, 109, 110, 38, 25, 26, 28, 30, 141, 142, 143, 144, 72, 73, 74, 75, 76, 145, 146, 147, 148, 160, 161, 162, 163, 164, 165, 166, 167, 168, 169, 170, 171, 172, 173, 174, 175, 176, 177, 178, 179, 180, 181, 182, 183, 186, 187, 184, 185] (by decide +kernel) (by decide +kernel)
set_option maxRecDepth 20000 in
theorem gX1_readItem_X1_giveAgain : GoodIn wsX1_readItem (wsV RX1 105 RX1 yX1_giveAgain wsX1_giveAgain) := goodIn_app (goodIn_of _ (by decide +kernel)) ggX1_readItem_X1_giveAgain
theorem dX1_readItem_0 : decode cX1_readItem 0 = .ok (.aload_n 0, 1) := by decide +kernel
theorem dX1_readItem_1 : decode cX1_readItem 1 = .ok (.aload_n 0, 1) := by decide +kernel
theorem dX1_readItem_2 : decode cX1_readItem 2 = .ok (.getfield 47, 3) := by decide +kernel
theorem dX1_readItem_5 : decode cX1_readItem 5 = .ok (.putfield 78, 3) := by decide +kernel
theorem dX1_readItem_8 : decode cX1_readItem 8 = .ok (.aload_n 0, 1) := by decide +kernel
theorem dX1_readItem_9 : decode cX1_readItem 9 = .ok (.invokevirtual 81, 3) := by decide +kernel
theorem dX1_readItem_12 : decode cX1_readItem 12 = .ok (.istore_n 1, 1) := by decide +kernel
theorem dX1_readItem_13 : decode cX1_readItem 13 = .ok (.iconst 0, 1) := by decide +kernel
theorem dX1_readItem_14 : decode cX1_readItem 14 = .ok (.istore_n 2, 1) := by decide +kernel
theorem dX1_readItem_15 : decode cX1_readItem 15 = .ok (.iload_n 2, 1) := by decide +kernel
theorem dX1_readItem_16 : decode cX1_readItem 16 = .ok (.sipush 160, 3) := by decide +kernel
theorem dX1_readItem_19 : decode cX1_readItem 19 = .ok (.if_icmp .ge 22, 3) := by decide +kernel
theorem dX1_readItem_22 : decode cX1_readItem 22 = .ok (.iload_n 1, 1) := by decide +kernel
theorem dX1_readItem_23 : decode cX1_readItem 23 = .ok (.invokestatic 84, 3) := by decide +kernel
theorem dX1_readItem_26 : decode cX1_readItem 26 = .ok (.iconst 3, 1) := by decide +kernel
theorem dX1_readItem_27 : decode cX1_readItem 27 = .ok (.if_icmp .ne 14, 3) := by decide +kernel
theorem dX1_readItem_30 : decode cX1_readItem 30 = .ok (.aload_n 0, 1) := by decide +kernel
theorem dX1_readItem_31 : decode cX1_readItem 31 = .ok (.invokevirtual 81, 3) := by decide +kernel
theorem dX1_readItem_34 : decode cX1_readItem 34 = .ok (.istore_n 1, 1) := by decide +kernel
theorem dX1_readItem_35 : decode cX1_readItem 35 = .ok (.iinc 2 1, 3) := by decide +kernel
theorem dX1_readItem_38 : decode cX1_readItem 38 = .ok (.goto (-23), 3) := by decide +kernel
theorem dX1_readItem_41 : decode cX1_readItem 41 = .ok (.aload_n 0, 1) := by decide +kernel
theorem dX1_readItem_42 : decode cX1_readItem 42 = .ok (.getfield 28, 3) := by decide +kernel
theorem dX1_readItem_45 : decode cX1_readItem 45 = .ok (.invokevirtual 59, 3) := by decide +kernel
theorem dX1_readItem_48 : decode cX1_readItem 48 = .ok (.ifCond .eq 4, 3) := by decide +kernel
theorem dX1_readItem_51 : decode cX1_readItem 51 = .ok (.return_, 1) := by decide +kernel
theorem dX1_readItem_52 : decode cX1_readItem 52 = .ok (.aload_n 0, 1) := by decide +kernel
theorem dX1_readItem_53 : decode cX1_readItem 53 = .ok (.aload_n 0, 1) := by decide +kernel
theorem dX1_readItem_54 : decode cX1_readItem 54 = .ok (.getfield 47, 3) := by decide +kernel
theorem dX1_readItem_57 : decode cX1_readItem 57 = .ok (.iconst 1, 1) := by decide +kernel
theorem dX1_readItem_58 : decode cX1_readItem 58 = .ok (.isub, 1) := by decide +kernel
theorem dX1_readItem_59 : decode cX1_readItem 59 = .ok (.putfield 88, 3) := by decide +kernel
theorem dX1_readItem_62 : decode cX1_readItem 62 = .ok (.aload_n 0, 1) := by decide +kernel
theorem dX1_readItem_63 : decode cX1_readItem 63 = .ok (.aload_n 0, 1) := by decide +kernel
theorem dX1_readItem_64 : decode cX1_readItem 64 = .ok (.getfield 38, 3) := by decide +kernel
theorem dX1_readItem_67 : decode cX1_readItem 67 = .ok (.invokevirtual 69, 3) := by decide +kernel
theorem dX1_readItem_70 : decode cX1_readItem 70 = .ok (.putfield 91, 3) := by decide +kernel
theorem dX1_readItem_73 : decode cX1_readItem 73 = .ok (.iload_n 1, 1) := by decide +kernel
theorem dX1_readItem_74 : decode cX1_readItem 74 = .ok (.invokestatic 84, 3) := by decide +kernel
theorem dX1_readItem_77 : decode cX1_readItem 77 = .ok (.tableswitch 55 0 4 #[35, 55, 47, 55, 42], 35) := by decide +kernel
theorem dX1_readItem_112 : decode cX1_readItem 112 = .ok (.aload_n 0, 1) := by decide +kernel
theorem dX1_readItem_113 : decode cX1_readItem 113 = .ok (.invokevirtual 93, 3) := by decide +kernel
theorem dX1_readItem_116 : decode cX1_readItem 116 = .ok (.goto 21, 3) := by decide +kernel
theorem dX1_readItem_119 : decode cX1_readItem 119 = .ok (.aload_n 0, 1) := by decide +kernel
theorem dX1_readItem_120 : decode cX1_readItem 120 = .ok (.invokevirtual 96, 3) := by decide +kernel
theorem dX1_readItem_123 : decode cX1_readItem 123 = .ok (.return_, 1) := by decide +kernel
theorem dX1_readItem_124 : decode cX1_readItem 124 = .ok (.aload_n 0, 1) := by decide +kernel
theorem dX1_readItem_125 : decode cX1_readItem 125 = .ok (.iload_n 1, 1) := by decide +kernel
theorem dX1_readItem_126 : decode cX1_readItem 126 = .ok (.invokevirtual 99, 3) := by decide +kernel
theorem dX1_readItem_129 : decode cX1_readItem 129 = .ok (.goto 8, 3) := by decide +kernel
theorem dX1_readItem_132 : decode cX1_readItem 132 = .ok (.aload_n 0, 1) := by decide +kernel
theorem dX1_readItem_133 : decode cX1_readItem 133 = .ok (.iload_n 1, 1) := by decide +kernel
theorem dX1_readItem_134 : decode cX1_readItem 134 = .ok (.invokevirtual 102, 3) := by decide +kernel
theorem dX1_readItem_137 : decode cX1_readItem 137 = .ok (.aload_n 0, 1) := by decide +kernel
theorem dX1_readItem_138 : decode cX1_readItem 138 = .ok (.invokevirtual 105, 3) := by decide +kernel
theorem dX1_readItem_141 : decode cX1_readItem 141 = .ok (.return_, 1) := by decide +kernel
set_option maxRecDepth 20000 in
theorem ggX1_beginItem_X1_stand : GoodIn wsX1_beginItem wsX1_stand := goodIn_r _ [8, 9, 10, 2, 1, 11, 12, 13, 14, 7, 15, 16, 17, 18, 19, 20, 21, 22, 42, 43, 44, 45, 46, 47, 48, 49, 50, 51, 52, 53, 54, 55, 56, 57, 58, 59, 60, 61, 62, 63, 64, 65] (by decide +kernel) (by decide +kernel)
set_option maxRecDepth 20000 in
theorem gX1_beginItem_X1_stand : GoodIn wsX1_beginItem (wsV RX1 108 RX1 yX1_stand wsX1_stand) := goodIn_app (goodIn_of _ (by decide +kernel)) ggX1_beginItem_X1_stand
set_option maxRecDepth 20000 in
theorem ggX1_beginItem_X0_beginItem : GoodIn wsX1_beginItem wsX0_beginItem := goodIn_r _ [26, 27, 28, 29, 30, 17, 18, 19, 20, 21, 22, 54, 55, 56, 57, 58, 59, 60, 61, 62, 63, 64, 65] (by decide +kernel) (by decide +kernel)
set_option maxRecDepth 20000 in
theorem gX1_beginItem_X0_beginItem : GoodIn wsX1_beginItem (wsV RX1 112 RX0 yX0_beginItem wsX0_beginItem) := goodIn_app (goodIn_of _ (by decide +kernel)) ggX1_beginItem_X0_beginItem
set_option maxRecDepth 20000 in
theorem ggX1_beginItem_X5_byteAt : GoodIn wsX1_beginItem wsX5_byteAt := goodIn_r _ [35, 36, 37, 38, 39, 34, 40, 41, 66, 67] (by decide +kernel) (by decide +kernel)
set_option maxRecDepth 20000 in
theorem gX1_beginItem_X5_byteAt : GoodIn wsX1_beginItem (wsV RX1 114 RX5 yX5_byteAt wsX5_byteAt) := goodIn_app (goodIn_of _ (by decide +kernel)) ggX1_beginItem_X5_byteAt
theorem dX1_beginItem_0 : decode cX1_beginItem 0 = .ok (.aload_n 0, 1) := by decide +kernel
theorem dX1_beginItem_1 : decode cX1_beginItem 1 = .ok (.iconst 1, 1) := by decide +kernel
theorem dX1_beginItem_2 : decode cX1_beginItem 2 = .ok (.invokevirtual 108, 3) := by decide +kernel
theorem dX1_beginItem_5 : decode cX1_beginItem 5 = .ok (.ifCond .eq 17, 3) := by decide +kernel
theorem dX1_beginItem_8 : decode cX1_beginItem 8 = .ok (.aload_n 0, 1) := by decide +kernel
theorem dX1_beginItem_9 : decode cX1_beginItem 9 = .ok (.getfield 28, 3) := by decide +kernel
theorem dX1_beginItem_12 : decode cX1_beginItem 12 = .ok (.aload_n 0, 1) := by decide +kernel
theorem dX1_beginItem_13 : decode cX1_beginItem 13 = .ok (.getfield 47, 3) := by decide +kernel
theorem dX1_beginItem_16 : decode cX1_beginItem 16 = .ok (.invokevirtual 112, 3) := by decide +kernel
theorem dX1_beginItem_19 : decode cX1_beginItem 19 = .ok (.ifCond .ne 5, 3) := by decide +kernel
theorem dX1_beginItem_22 : decode cX1_beginItem 22 = .ok (.iconst 0, 1) := by decide +kernel
theorem dX1_beginItem_23 : decode cX1_beginItem 23 = .ok (.ireturn, 1) := by decide +kernel
theorem dX1_beginItem_24 : decode cX1_beginItem 24 = .ok (.aload_n 0, 1) := by decide +kernel
theorem dX1_beginItem_25 : decode cX1_beginItem 25 = .ok (.dup, 1) := by decide +kernel
theorem dX1_beginItem_26 : decode cX1_beginItem 26 = .ok (.getfield 47, 3) := by decide +kernel
theorem dX1_beginItem_29 : decode cX1_beginItem 29 = .ok (.iconst 1, 1) := by decide +kernel
theorem dX1_beginItem_30 : decode cX1_beginItem 30 = .ok (.iadd, 1) := by decide +kernel
theorem dX1_beginItem_31 : decode cX1_beginItem 31 = .ok (.putfield 47, 3) := by decide +kernel
theorem dX1_beginItem_34 : decode cX1_beginItem 34 = .ok (.aload_n 0, 1) := by decide +kernel
theorem dX1_beginItem_35 : decode cX1_beginItem 35 = .ok (.getfield 24, 3) := by decide +kernel
theorem dX1_beginItem_38 : decode cX1_beginItem 38 = .ok (.aload_n 0, 1) := by decide +kernel
theorem dX1_beginItem_39 : decode cX1_beginItem 39 = .ok (.getfield 47, 3) := by decide +kernel
theorem dX1_beginItem_42 : decode cX1_beginItem 42 = .ok (.iconst 1, 1) := by decide +kernel
theorem dX1_beginItem_43 : decode cX1_beginItem 43 = .ok (.isub, 1) := by decide +kernel
theorem dX1_beginItem_44 : decode cX1_beginItem 44 = .ok (.invokevirtual 114, 3) := by decide +kernel
theorem dX1_beginItem_47 : decode cX1_beginItem 47 = .ok (.ireturn, 1) := by decide +kernel
set_option maxRecDepth 20000 in
theorem ggX1_stand_X1_isOutermost : GoodIn wsX1_stand wsX1_isOutermost := goodIn_r _ [10, 2, 18, 19, 20, 21, 22, 23, 24, 25, 26, 27, 28, 29] (by decide +kernel) (by decide +kernel)
set_option maxRecDepth 20000 in
theorem gX1_stand_X1_isOutermost : GoodIn wsX1_stand (wsV RX1 117 RX1 yX1_isOutermost wsX1_isOutermost) := goodIn_app (goodIn_of _ (by decide +kernel)) ggX1_stand_X1_isOutermost
set_option maxRecDepth 20000 in
theorem ggX1_stand_X0_fail : GoodIn wsX1_stand wsX0_fail := goodIn_r _ [15, 16, 17, 30, 31, 32, 33, 34, 35, 36, 37, 38, 39, 40, 41] (by decide +kernel) (by decide +kernel)
set_option maxRecDepth 20000 in
theorem gX1_stand_X0_fail : GoodIn wsX1_stand (wsV RX1 120 RX0 yX0_fail wsX0_fail) := goodIn_app (goodIn_of _ (by decide +kernel)) ggX1_stand_X0_fail
theorem dX1_stand_0 : decode cX1_stand 0 = .ok (.iload_n 1, 1) := by decide +kernel
theorem dX1_stand_1 : decode cX1_stand 1 = .ok (.aload_n 0, 1) := by decide +kernel
theorem dX1_stand_2 : decode cX1_stand 2 = .ok (.getfield 15, 3) := by decide +kernel
theorem dX1_stand_5 : decode cX1_stand 5 = .ok (.aload_n 0, 1) := by decide +kernel
theorem dX1_stand_6 : decode cX1_stand 6 = .ok (.getfield 43, 3) := by decide +kernel
theorem dX1_stand_9 : decode cX1_stand 9 = .ok (.iaload, 1) := by decide +kernel
theorem dX1_stand_10 : decode cX1_stand 10 = .ok (.aload_n 0, 1) := by decide +kernel
theorem dX1_stand_11 : decode cX1_stand 11 = .ok (.getfield 47, 3) := by decide +kernel
theorem dX1_stand_14 : decode cX1_stand 14 = .ok (.isub, 1) := by decide +kernel
theorem dX1_stand_15 : decode cX1_stand 15 = .ok (.if_icmp .gt 5, 3) := by decide +kernel
theorem dX1_stand_18 : decode cX1_stand 18 = .ok (.iconst 1, 1) := by decide +kernel
theorem dX1_stand_19 : decode cX1_stand 19 = .ok (.ireturn, 1) := by decide +kernel
theorem dX1_stand_20 : decode cX1_stand 20 = .ok (.aload_n 0, 1) := by decide +kernel
theorem dX1_stand_21 : decode cX1_stand 21 = .ok (.getfield 28, 3) := by decide +kernel
theorem dX1_stand_24 : decode cX1_stand 24 = .ok (.aload_n 0, 1) := by decide +kernel
theorem dX1_stand_25 : decode cX1_stand 25 = .ok (.invokevirtual 117, 3) := by decide +kernel
theorem dX1_stand_28 : decode cX1_stand 28 = .ok (.ifCond .eq 7, 3) := by decide +kernel
theorem dX1_stand_31 : decode cX1_stand 31 = .ok (.iconst 1, 1) := by decide +kernel
theorem dX1_stand_32 : decode cX1_stand 32 = .ok (.goto 4, 3) := by decide +kernel
theorem dX1_stand_35 : decode cX1_stand 35 = .ok (.iconst 2, 1) := by decide +kernel
theorem dX1_stand_36 : decode cX1_stand 36 = .ok (.aload_n 0, 1) := by decide +kernel
theorem dX1_stand_37 : decode cX1_stand 37 = .ok (.getfield 18, 3) := by decide +kernel
theorem dX1_stand_40 : decode cX1_stand 40 = .ok (.aload_n 0, 1) := by decide +kernel
theorem dX1_stand_41 : decode cX1_stand 41 = .ok (.getfield 43, 3) := by decide +kernel
theorem dX1_stand_44 : decode cX1_stand 44 = .ok (.iaload, 1) := by decide +kernel
theorem dX1_stand_45 : decode cX1_stand 45 = .ok (.invokevirtual 120, 3) := by decide +kernel
theorem dX1_stand_48 : decode cX1_stand 48 = .ok (.iconst 0, 1) := by decide +kernel
theorem dX1_stand_49 : decode cX1_stand 49 = .ok (.ireturn, 1) := by decide +kernel
set_option maxRecDepth 20000 in
theorem ggX1_readRaw_X1_stand : GoodIn wsX1_readRaw wsX1_stand := goodIn_r _ [10, 11, 12, 2, 3, 13, 14, 15, 16, 9, 17, 18, 19, 20, 21, 22, 23, 24, 67, 68, 69, 70, 71, 72, 73, 74, 75, 76, 77, 78, 79, 80, 81, 82, 83, 84, 85, 86, 87, 88, 89, 90] (by decide +kernel) (by decide +kernel)
set_option maxRecDepth 20000 in
theorem gX1_readRaw_X1_stand : GoodIn wsX1_readRaw (wsV RX1 108 RX1 yX1_stand wsX1_stand) := goodIn_app (goodIn_of _ (by decide +kernel)) ggX1_readRaw_X1_stand
set_option maxRecDepth 20000 in
theorem ggX1_readRaw_X5_byteAt : GoodIn wsX1_readRaw wsX5_byteAt := goodIn_r _ [29, 30, 31, 32, 33, 28, 34, 35, 91, 92] (by decide +kernel) (by decide +kernel)
set_option maxRecDepth 20000 in
theorem gX1_readRaw_X5_byteAt : GoodIn wsX1_readRaw (wsV RX1 114 RX5 yX5_byteAt wsX5_byteAt) := goodIn_app (goodIn_of _ (by decide +kernel)) ggX1_readRaw_X5_byteAt
set_option maxRecDepth 20000 in
theorem ggX1_readRaw_X1_isOutermost : GoodIn wsX1_readRaw wsX1_isOutermost := goodIn_r _ [17, 12, 67, 68, 69, 70, 71, 72, 73, 74, 75, 76, 77, 78] (by decide +kernel) (by decide +kernel)
set_option maxRecDepth 20000 in
theorem gX1_readRaw_X1_isOutermost : GoodIn wsX1_readRaw (wsV RX1 117 RX1 yX1_isOutermost wsX1_isOutermost) := goodIn_app (goodIn_of _ (by decide +kernel)) ggX1_readRaw_X1_isOutermost
set_option maxRecDepth 20000 in
theorem ggX1_readRaw_X0_ask : GoodIn wsX1_readRaw wsX0_ask := goodIn_r _ [39, 40, 41, 42, 43, 44, 45, 46, 47, 48, 49, 50, 51, 52, 21, 53, 54, 55, 56, 57, 58, 59, 19, 20, 22, 23, 24, 79, 80, 81, 82, 83, 84, 85, 86, 87, 88, 89, 90] (by decide +kernel) (by decide +kernel)
set_option maxRecDepth 20000 in
theorem gX1_readRaw_X0_ask : GoodIn wsX1_readRaw (wsV RX1 124 RX0 yX0_ask wsX0_ask) := goodIn_app (goodIn_of _ (by decide +kernel)) ggX1_readRaw_X0_ask
set_option maxRecDepth 20000 in
theorem ggX1_readRaw_X4_push : GoodIn wsX1_readRaw wsX4_push := goodIn_r _ [64, 65, 66, 93, 94] (by decide +kernel) (by decide +kernel)
set_option maxRecDepth 20000 in
theorem gX1_readRaw_X4_push : GoodIn wsX1_readRaw (wsV RX1 128 RX4 yX4_push wsX4_push) := goodIn_app (goodIn_of _ (by decide +kernel)) ggX1_readRaw_X4_push
theorem dX1_readRaw_0 : decode cX1_readRaw 0 = .ok (.iload_n 1, 1) := by decide +kernel
theorem dX1_readRaw_1 : decode cX1_readRaw 1 = .ok (.istore_n 2, 1) := by decide +kernel
theorem dX1_readRaw_2 : decode cX1_readRaw 2 = .ok (.iload_n 1, 1) := by decide +kernel
theorem dX1_readRaw_3 : decode cX1_readRaw 3 = .ok (.sipush 255, 3) := by decide +kernel
theorem dX1_readRaw_6 : decode cX1_readRaw 6 = .ok (.if_icmp .ne 52, 3) := by decide +kernel
theorem dX1_readRaw_9 : decode cX1_readRaw 9 = .ok (.aload_n 0, 1) := by decide +kernel
theorem dX1_readRaw_10 : decode cX1_readRaw 10 = .ok (.iconst 2, 1) := by decide +kernel
theorem dX1_readRaw_11 : decode cX1_readRaw 11 = .ok (.invokevirtual 108, 3) := by decide +kernel
theorem dX1_readRaw_14 : decode cX1_readRaw 14 = .ok (.ifCond .ne 4, 3) := by decide +kernel
theorem dX1_readRaw_17 : decode cX1_readRaw 17 = .ok (.return_, 1) := by decide +kernel
theorem dX1_readRaw_18 : decode cX1_readRaw 18 = .ok (.aload_n 0, 1) := by decide +kernel
theorem dX1_readRaw_19 : decode cX1_readRaw 19 = .ok (.getfield 24, 3) := by decide +kernel
theorem dX1_readRaw_22 : decode cX1_readRaw 22 = .ok (.aload_n 0, 1) := by decide +kernel
theorem dX1_readRaw_23 : decode cX1_readRaw 23 = .ok (.getfield 47, 3) := by decide +kernel
theorem dX1_readRaw_26 : decode cX1_readRaw 26 = .ok (.invokevirtual 114, 3) := by decide +kernel
theorem dX1_readRaw_29 : decode cX1_readRaw 29 = .ok (.sipush 256, 3) := by decide +kernel
theorem dX1_readRaw_32 : decode cX1_readRaw 32 = .ok (.imul, 1) := by decide +kernel
theorem dX1_readRaw_33 : decode cX1_readRaw 33 = .ok (.aload_n 0, 1) := by decide +kernel
theorem dX1_readRaw_34 : decode cX1_readRaw 34 = .ok (.getfield 24, 3) := by decide +kernel
theorem dX1_readRaw_37 : decode cX1_readRaw 37 = .ok (.aload_n 0, 1) := by decide +kernel
theorem dX1_readRaw_38 : decode cX1_readRaw 38 = .ok (.getfield 47, 3) := by decide +kernel
theorem dX1_readRaw_41 : decode cX1_readRaw 41 = .ok (.iconst 1, 1) := by decide +kernel
theorem dX1_readRaw_42 : decode cX1_readRaw 42 = .ok (.iadd, 1) := by decide +kernel
theorem dX1_readRaw_43 : decode cX1_readRaw 43 = .ok (.invokevirtual 114, 3) := by decide +kernel
theorem dX1_readRaw_46 : decode cX1_readRaw 46 = .ok (.iadd, 1) := by decide +kernel
theorem dX1_readRaw_47 : decode cX1_readRaw 47 = .ok (.istore_n 2, 1) := by decide +kernel
theorem dX1_readRaw_48 : decode cX1_readRaw 48 = .ok (.aload_n 0, 1) := by decide +kernel
theorem dX1_readRaw_49 : decode cX1_readRaw 49 = .ok (.dup, 1) := by decide +kernel
theorem dX1_readRaw_50 : decode cX1_readRaw 50 = .ok (.getfield 47, 3) := by decide +kernel
theorem dX1_readRaw_53 : decode cX1_readRaw 53 = .ok (.iconst 2, 1) := by decide +kernel
theorem dX1_readRaw_54 : decode cX1_readRaw 54 = .ok (.iadd, 1) := by decide +kernel
theorem dX1_readRaw_55 : decode cX1_readRaw 55 = .ok (.putfield 47, 3) := by decide +kernel
theorem dX1_readRaw_58 : decode cX1_readRaw 58 = .ok (.aload_n 0, 1) := by decide +kernel
theorem dX1_readRaw_59 : decode cX1_readRaw 59 = .ok (.iload_n 2, 1) := by decide +kernel
theorem dX1_readRaw_60 : decode cX1_readRaw 60 = .ok (.invokevirtual 108, 3) := by decide +kernel
theorem dX1_readRaw_63 : decode cX1_readRaw 63 = .ok (.ifCond .ne 4, 3) := by decide +kernel
theorem dX1_readRaw_66 : decode cX1_readRaw 66 = .ok (.return_, 1) := by decide +kernel
theorem dX1_readRaw_67 : decode cX1_readRaw 67 = .ok (.aload_n 0, 1) := by decide +kernel
theorem dX1_readRaw_68 : decode cX1_readRaw 68 = .ok (.getfield 28, 3) := by decide +kernel
theorem dX1_readRaw_71 : decode cX1_readRaw 71 = .ok (.iload_n 2, 1) := by decide +kernel
theorem dX1_readRaw_72 : decode cX1_readRaw 72 = .ok (.aload_n 0, 1) := by decide +kernel
theorem dX1_readRaw_73 : decode cX1_readRaw 73 = .ok (.getfield 88, 3) := by decide +kernel
theorem dX1_readRaw_76 : decode cX1_readRaw 76 = .ok (.aload_n 0, 1) := by decide +kernel
theorem dX1_readRaw_77 : decode cX1_readRaw 77 = .ok (.invokevirtual 117, 3) := by decide +kernel
theorem dX1_readRaw_80 : decode cX1_readRaw 80 = .ok (.invokevirtual 124, 3) := by decide +kernel
theorem dX1_readRaw_83 : decode cX1_readRaw 83 = .ok (.istore_n 3, 1) := by decide +kernel
theorem dX1_readRaw_84 : decode cX1_readRaw 84 = .ok (.iconst 0, 1) := by decide +kernel
theorem dX1_readRaw_85 : decode cX1_readRaw 85 = .ok (.istore 4, 2) := by decide +kernel
theorem dX1_readRaw_87 : decode cX1_readRaw 87 = .ok (.iload 4, 2) := by decide +kernel
theorem dX1_readRaw_89 : decode cX1_readRaw 89 = .ok (.iload_n 3, 1) := by decide +kernel
theorem dX1_readRaw_90 : decode cX1_readRaw 90 = .ok (.if_icmp .ge 30, 3) := by decide +kernel
theorem dX1_readRaw_93 : decode cX1_readRaw 93 = .ok (.aload_n 0, 1) := by decide +kernel
theorem dX1_readRaw_94 : decode cX1_readRaw 94 = .ok (.getfield 38, 3) := by decide +kernel
theorem dX1_readRaw_97 : decode cX1_readRaw 97 = .ok (.aload_n 0, 1) := by decide +kernel
theorem dX1_readRaw_98 : decode cX1_readRaw 98 = .ok (.getfield 24, 3) := by decide +kernel
theorem dX1_readRaw_101 : decode cX1_readRaw 101 = .ok (.aload_n 0, 1) := by decide +kernel
theorem dX1_readRaw_102 : decode cX1_readRaw 102 = .ok (.getfield 47, 3) := by decide +kernel
theorem dX1_readRaw_105 : decode cX1_readRaw 105 = .ok (.iload 4, 2) := by decide +kernel
theorem dX1_readRaw_107 : decode cX1_readRaw 107 = .ok (.iadd, 1) := by decide +kernel
theorem dX1_readRaw_108 : decode cX1_readRaw 108 = .ok (.invokevirtual 114, 3) := by decide +kernel
theorem dX1_readRaw_111 : decode cX1_readRaw 111 = .ok (.invokevirtual 128, 3) := by decide +kernel
theorem dX1_readRaw_114 : decode cX1_readRaw 114 = .ok (.iinc 4 1, 3) := by decide +kernel
theorem dX1_readRaw_117 : decode cX1_readRaw 117 = .ok (.goto (-30), 3) := by decide +kernel
theorem dX1_readRaw_120 : decode cX1_readRaw 120 = .ok (.aload_n 0, 1) := by decide +kernel
theorem dX1_readRaw_121 : decode cX1_readRaw 121 = .ok (.dup, 1) := by decide +kernel
theorem dX1_readRaw_122 : decode cX1_readRaw 122 = .ok (.getfield 47, 3) := by decide +kernel
theorem dX1_readRaw_125 : decode cX1_readRaw 125 = .ok (.iload_n 2, 1) := by decide +kernel
theorem dX1_readRaw_126 : decode cX1_readRaw 126 = .ok (.iadd, 1) := by decide +kernel
theorem dX1_readRaw_127 : decode cX1_readRaw 127 = .ok (.putfield 47, 3) := by decide +kernel
theorem dX1_readRaw_130 : decode cX1_readRaw 130 = .ok (.return_, 1) := by decide +kernel
set_option maxRecDepth 20000 in
theorem ggX1_readCopy_X1_stand : GoodIn wsX1_readCopy wsX1_stand := goodIn_r _ [12, 13, 5, 2, 6, 14, 15, 16, 17, 11, 18, 19, 20, 21, 22, 23, 24, 25, 87, 88, 89, 90, 91, 92, 93, 94, 95, 96, 97, 98, 99, 100, 101, 102, 103, 104, 105, 106, 107, 108, 109, 110] (by decide +kernel) (by decide +kernel)
set_option maxRecDepth 20000 in
theorem gX1_readCopy_X1_stand : GoodIn wsX1_readCopy (wsV RX1 108 RX1 yX1_stand wsX1_stand) := goodIn_app (goodIn_of _ (by decide +kernel)) ggX1_readCopy_X1_stand
set_option maxRecDepth 20000 in
theorem ggX1_readCopy_X5_byteAt : GoodIn wsX1_readCopy wsX5_byteAt := goodIn_r _ [30, 31, 32, 33, 34, 29, 35, 36, 111, 112] (by decide +kernel) (by decide +kernel)
set_option maxRecDepth 20000 in
theorem gX1_readCopy_X5_byteAt : GoodIn wsX1_readCopy (wsV RX1 114 RX5 yX5_byteAt wsX5_byteAt) := goodIn_app (goodIn_of _ (by decide +kernel)) ggX1_readCopy_X5_byteAt
set_option maxRecDepth 20000 in
theorem ggX1_readCopy_X4_top : GoodIn wsX1_readCopy wsX4_top := goodIn_r _ [41, 42, 113, 114] (by decide +kernel) (by decide +kernel)
set_option maxRecDepth 20000 in
theorem gX1_readCopy_X4_top : GoodIn wsX1_readCopy (wsV RX1 69 RX4 yX4_top wsX4_top) := goodIn_app (goodIn_of _ (by decide +kernel)) ggX1_readCopy_X4_top
set_option maxRecDepth 20000 in
theorem ggX1_readCopy_X0_fail : GoodIn wsX1_readCopy wsX0_fail := goodIn_r _ [23, 24, 25, 99, 100, 101, 102, 103, 104, 105, 106, 107, 108, 109, 110] (by decide +kernel) (by decide +kernel)
set_option maxRecDepth 20000 in
theorem gX1_readCopy_X0_fail : GoodIn wsX1_readCopy (wsV RX1 120 RX0 yX0_fail wsX0_fail) := goodIn_app (goodIn_of _ (by decide +kernel)) ggX1_readCopy_X0_fail
set_option maxRecDepth 20000 in
theorem ggX1_readCopy_X6_copyCount : GoodIn wsX1_readCopy wsX6_copyCount := goodIn_r _ [45] (by decide +kernel) (by decide +kernel)
set_option maxRecDepth 20000 in
theorem gX1_readCopy_X6_copyCount_n131 : GoodIn wsX1_readCopy (wsX6_copyCount) := ggX1_readCopy_X6_copyCount
set_option maxRecDepth 20000 in
theorem ggX1_readCopy_X1_giveFromBefore : GoodIn wsX1_readCopy wsX1_giveFromBefore := goodIn_r _ [49, 3, 6, 15, 16, 17, 11, 18, 5, 50, 51, 52, 22, 53, 54, 55, 56, 57, 58, 59, 60, 61, 62, 63, 64, 65, 66, 67, 68, 69, 70, 71, 72, 73, 20, 21, 23, 24, 25, 74, 75, 76, 40, 77, 42, 78, 79, 80, 81, 82, 83, 84, 85, 86, 87, 88, 89, 90, 91, 92, 93, 94, 95, 96, 97, 98, 99, 100, 101, 102, 103, 104, 105, 106, 107, 108, 109, 110, 113, 114] (by decide +kernel) (by decide +kernel)
set_option maxRecDepth 20000 in
theorem gX1_readCopy_X1_giveFromBefore : GoodIn wsX1_readCopy (wsV RX1 134 RX1 yX1_giveFromBefore wsX1_giveFromBefore) := goodIn_app (goodIn_of _ (by decide +kernel)) ggX1_readCopy_X1_giveFromBefore
theorem dX1_readCopy_0 : decode cX1_readCopy 0 = .ok (.aload_n 0, 1) := by decide +kernel
theorem dX1_readCopy_1 : decode cX1_readCopy 1 = .ok (.iconst 1, 1) := by decide +kernel
theorem dX1_readCopy_2 : decode cX1_readCopy 2 = .ok (.invokevirtual 108, 3) := by decide +kernel
theorem dX1_readCopy_5 : decode cX1_readCopy 5 = .ok (.ifCond .ne 4, 3) := by decide +kernel
theorem dX1_readCopy_8 : decode cX1_readCopy 8 = .ok (.return_, 1) := by decide +kernel
theorem dX1_readCopy_9 : decode cX1_readCopy 9 = .ok (.aload_n 0, 1) := by decide +kernel
theorem dX1_readCopy_10 : decode cX1_readCopy 10 = .ok (.getfield 24, 3) := by decide +kernel
theorem dX1_readCopy_13 : decode cX1_readCopy 13 = .ok (.aload_n 0, 1) := by decide +kernel
theorem dX1_readCopy_14 : decode cX1_readCopy 14 = .ok (.getfield 47, 3) := by decide +kernel
theorem dX1_readCopy_17 : decode cX1_readCopy 17 = .ok (.invokevirtual 114, 3) := by decide +kernel
theorem dX1_readCopy_20 : decode cX1_readCopy 20 = .ok (.iconst 1, 1) := by decide +kernel
theorem dX1_readCopy_21 : decode cX1_readCopy 21 = .ok (.iadd, 1) := by decide +kernel
theorem dX1_readCopy_22 : decode cX1_readCopy 22 = .ok (.istore_n 2, 1) := by decide +kernel
theorem dX1_readCopy_23 : decode cX1_readCopy 23 = .ok (.iload_n 2, 1) := by decide +kernel
theorem dX1_readCopy_24 : decode cX1_readCopy 24 = .ok (.aload_n 0, 1) := by decide +kernel
theorem dX1_readCopy_25 : decode cX1_readCopy 25 = .ok (.getfield 38, 3) := by decide +kernel
theorem dX1_readCopy_28 : decode cX1_readCopy 28 = .ok (.invokevirtual 69, 3) := by decide +kernel
theorem dX1_readCopy_31 : decode cX1_readCopy 31 = .ok (.aload_n 0, 1) := by decide +kernel
theorem dX1_readCopy_32 : decode cX1_readCopy 32 = .ok (.getfield 9, 3) := by decide +kernel
theorem dX1_readCopy_35 : decode cX1_readCopy 35 = .ok (.aload_n 0, 1) := by decide +kernel
theorem dX1_readCopy_36 : decode cX1_readCopy 36 = .ok (.getfield 43, 3) := by decide +kernel
theorem dX1_readCopy_39 : decode cX1_readCopy 39 = .ok (.iaload, 1) := by decide +kernel
theorem dX1_readCopy_40 : decode cX1_readCopy 40 = .ok (.isub, 1) := by decide +kernel
theorem dX1_readCopy_41 : decode cX1_readCopy 41 = .ok (.if_icmp .le 16, 3) := by decide +kernel
theorem dX1_readCopy_44 : decode cX1_readCopy 44 = .ok (.aload_n 0, 1) := by decide +kernel
theorem dX1_readCopy_45 : decode cX1_readCopy 45 = .ok (.getfield 28, 3) := by decide +kernel
theorem dX1_readCopy_48 : decode cX1_readCopy 48 = .ok (.iconst 3, 1) := by decide +kernel
theorem dX1_readCopy_49 : decode cX1_readCopy 49 = .ok (.aload_n 0, 1) := by decide +kernel
theorem dX1_readCopy_50 : decode cX1_readCopy 50 = .ok (.getfield 47, 3) := by decide +kernel
theorem dX1_readCopy_53 : decode cX1_readCopy 53 = .ok (.invokevirtual 120, 3) := by decide +kernel
theorem dX1_readCopy_56 : decode cX1_readCopy 56 = .ok (.return_, 1) := by decide +kernel
theorem dX1_readCopy_57 : decode cX1_readCopy 57 = .ok (.aload_n 0, 1) := by decide +kernel
theorem dX1_readCopy_58 : decode cX1_readCopy 58 = .ok (.dup, 1) := by decide +kernel
theorem dX1_readCopy_59 : decode cX1_readCopy 59 = .ok (.getfield 47, 3) := by decide +kernel
theorem dX1_readCopy_62 : decode cX1_readCopy 62 = .ok (.iconst 1, 1) := by decide +kernel
theorem dX1_readCopy_63 : decode cX1_readCopy 63 = .ok (.iadd, 1) := by decide +kernel
theorem dX1_readCopy_64 : decode cX1_readCopy 64 = .ok (.putfield 47, 3) := by decide +kernel
theorem dX1_readCopy_67 : decode cX1_readCopy 67 = .ok (.aload_n 0, 1) := by decide +kernel
theorem dX1_readCopy_68 : decode cX1_readCopy 68 = .ok (.iload_n 2, 1) := by decide +kernel
theorem dX1_readCopy_69 : decode cX1_readCopy 69 = .ok (.iload_n 1, 1) := by decide +kernel
theorem dX1_readCopy_70 : decode cX1_readCopy 70 = .ok (.invokestatic 131, 3) := by decide +kernel
theorem dX1_readCopy_73 : decode cX1_readCopy 73 = .ok (.aload_n 0, 1) := by decide +kernel
theorem dX1_readCopy_74 : decode cX1_readCopy 74 = .ok (.getfield 88, 3) := by decide +kernel
theorem dX1_readCopy_77 : decode cX1_readCopy 77 = .ok (.invokevirtual 134, 3) := by decide +kernel
theorem dX1_readCopy_80 : decode cX1_readCopy 80 = .ok (.return_, 1) := by decide +kernel
set_option maxRecDepth 20000 in
theorem ggX1_readInner_X0_fail : GoodIn wsX1_readInner wsX0_fail := goodIn_r _ [12, 13, 14, 70, 71, 72, 73, 74, 75, 76, 77, 78, 79, 80, 81] (by decide +kernel) (by decide +kernel)
set_option maxRecDepth 20000 in
theorem gX1_readInner_X0_fail : GoodIn wsX1_readInner (wsV RX1 120 RX0 yX0_fail wsX0_fail) := goodIn_app (goodIn_of _ (by decide +kernel)) ggX1_readInner_X0_fail
set_option maxRecDepth 20000 in
theorem ggX1_readInner_X1_stand : GoodIn wsX1_readInner wsX1_stand := goodIn_r _ [19, 6, 1, 5, 2, 20, 21, 22, 23, 18, 24, 8, 9, 10, 11, 12, 13, 14, 58, 59, 60, 61, 62, 63, 64, 65, 66, 67, 68, 69, 70, 71, 72, 73, 74, 75, 76, 77, 78, 79, 80, 81] (by decide +kernel) (by decide +kernel)
set_option maxRecDepth 20000 in
theorem gX1_readInner_X1_stand : GoodIn wsX1_readInner (wsV RX1 108 RX1 yX1_stand wsX1_stand) := goodIn_app (goodIn_of _ (by decide +kernel)) ggX1_readInner_X1_stand
set_option maxRecDepth 20000 in
theorem ggX1_readInner_X5_byteAt : GoodIn wsX1_readInner wsX5_byteAt := goodIn_r _ [29, 30, 31, 32, 33, 28, 34, 35, 82, 83] (by decide +kernel) (by decide +kernel)
set_option maxRecDepth 20000 in
theorem gX1_readInner_X5_byteAt : GoodIn wsX1_readInner (wsV RX1 114 RX5 yX5_byteAt wsX5_byteAt) := goodIn_app (goodIn_of _ (by decide +kernel)) ggX1_readInner_X5_byteAt
set_option maxRecDepth 20000 in
theorem ggX1_readInner_X1_enterPack : GoodIn wsX1_readInner wsX1_enterPack := goodIn_r _ [39, 1, 40, 41, 6, 20, 42, 2, 43, 44, 45, 46, 47, 48, 49, 50, 51, 11, 52, 53, 54, 55, 56, 57, 58, 59, 60, 61, 62, 63, 64, 65, 66, 67, 68, 69, 84, 85, 70, 71, 72, 73, 74, 75, 76, 77, 78, 79, 80, 81] (by decide +kernel) (by decide +kernel)
set_option maxRecDepth 20000 in
theorem gX1_readInner_X1_enterPack : GoodIn wsX1_readInner (wsV RX1 56 RX1 yX1_enterPack wsX1_enterPack) := goodIn_app (goodIn_of _ (by decide +kernel)) ggX1_readInner_X1_enterPack
theorem dX1_readInner_0 : decode cX1_readInner 0 = .ok (.aload_n 0, 1) := by decide +kernel
theorem dX1_readInner_1 : decode cX1_readInner 1 = .ok (.getfield 43, 3) := by decide +kernel
theorem dX1_readInner_4 : decode cX1_readInner 4 = .ok (.bipush 6, 2) := by decide +kernel
theorem dX1_readInner_6 : decode cX1_readInner 6 = .ok (.if_icmp .lt 17, 3) := by decide +kernel
theorem dX1_readInner_9 : decode cX1_readInner 9 = .ok (.aload_n 0, 1) := by decide +kernel
theorem dX1_readInner_10 : decode cX1_readInner 10 = .ok (.getfield 28, 3) := by decide +kernel
theorem dX1_readInner_13 : decode cX1_readInner 13 = .ok (.bipush 6, 2) := by decide +kernel
theorem dX1_readInner_15 : decode cX1_readInner 15 = .ok (.aload_n 0, 1) := by decide +kernel
theorem dX1_readInner_16 : decode cX1_readInner 16 = .ok (.getfield 88, 3) := by decide +kernel
theorem dX1_readInner_19 : decode cX1_readInner 19 = .ok (.invokevirtual 120, 3) := by decide +kernel
theorem dX1_readInner_22 : decode cX1_readInner 22 = .ok (.return_, 1) := by decide +kernel
theorem dX1_readInner_23 : decode cX1_readInner 23 = .ok (.aload_n 0, 1) := by decide +kernel
theorem dX1_readInner_24 : decode cX1_readInner 24 = .ok (.iconst 1, 1) := by decide +kernel
theorem dX1_readInner_25 : decode cX1_readInner 25 = .ok (.invokevirtual 108, 3) := by decide +kernel
theorem dX1_readInner_28 : decode cX1_readInner 28 = .ok (.ifCond .ne 4, 3) := by decide +kernel
theorem dX1_readInner_31 : decode cX1_readInner 31 = .ok (.return_, 1) := by decide +kernel
theorem dX1_readInner_32 : decode cX1_readInner 32 = .ok (.aload_n 0, 1) := by decide +kernel
theorem dX1_readInner_33 : decode cX1_readInner 33 = .ok (.getfield 24, 3) := by decide +kernel
theorem dX1_readInner_36 : decode cX1_readInner 36 = .ok (.aload_n 0, 1) := by decide +kernel
theorem dX1_readInner_37 : decode cX1_readInner 37 = .ok (.getfield 47, 3) := by decide +kernel
theorem dX1_readInner_40 : decode cX1_readInner 40 = .ok (.invokevirtual 114, 3) := by decide +kernel
theorem dX1_readInner_43 : decode cX1_readInner 43 = .ok (.istore_n 1, 1) := by decide +kernel
theorem dX1_readInner_44 : decode cX1_readInner 44 = .ok (.iload_n 1, 1) := by decide +kernel
theorem dX1_readInner_45 : decode cX1_readInner 45 = .ok (.aload_n 0, 1) := by decide +kernel
theorem dX1_readInner_46 : decode cX1_readInner 46 = .ok (.getfield 15, 3) := by decide +kernel
theorem dX1_readInner_49 : decode cX1_readInner 49 = .ok (.aload_n 0, 1) := by decide +kernel
theorem dX1_readInner_50 : decode cX1_readInner 50 = .ok (.getfield 43, 3) := by decide +kernel
theorem dX1_readInner_53 : decode cX1_readInner 53 = .ok (.iaload, 1) := by decide +kernel
theorem dX1_readInner_54 : decode cX1_readInner 54 = .ok (.aload_n 0, 1) := by decide +kernel
theorem dX1_readInner_55 : decode cX1_readInner 55 = .ok (.getfield 47, 3) := by decide +kernel
theorem dX1_readInner_58 : decode cX1_readInner 58 = .ok (.isub, 1) := by decide +kernel
theorem dX1_readInner_59 : decode cX1_readInner 59 = .ok (.iconst 1, 1) := by decide +kernel
theorem dX1_readInner_60 : decode cX1_readInner 60 = .ok (.isub, 1) := by decide +kernel
theorem dX1_readInner_61 : decode cX1_readInner 61 = .ok (.if_icmp .le 16, 3) := by decide +kernel
theorem dX1_readInner_64 : decode cX1_readInner 64 = .ok (.aload_n 0, 1) := by decide +kernel
theorem dX1_readInner_65 : decode cX1_readInner 65 = .ok (.getfield 28, 3) := by decide +kernel
theorem dX1_readInner_68 : decode cX1_readInner 68 = .ok (.iconst 2, 1) := by decide +kernel
theorem dX1_readInner_69 : decode cX1_readInner 69 = .ok (.aload_n 0, 1) := by decide +kernel
theorem dX1_readInner_70 : decode cX1_readInner 70 = .ok (.getfield 47, 3) := by decide +kernel
theorem dX1_readInner_73 : decode cX1_readInner 73 = .ok (.invokevirtual 120, 3) := by decide +kernel
theorem dX1_readInner_76 : decode cX1_readInner 76 = .ok (.return_, 1) := by decide +kernel
theorem dX1_readInner_77 : decode cX1_readInner 77 = .ok (.aload_n 0, 1) := by decide +kernel
theorem dX1_readInner_78 : decode cX1_readInner 78 = .ok (.dup, 1) := by decide +kernel
theorem dX1_readInner_79 : decode cX1_readInner 79 = .ok (.getfield 47, 3) := by decide +kernel
theorem dX1_readInner_82 : decode cX1_readInner 82 = .ok (.iconst 1, 1) := by decide +kernel
theorem dX1_readInner_83 : decode cX1_readInner 83 = .ok (.iadd, 1) := by decide +kernel
theorem dX1_readInner_84 : decode cX1_readInner 84 = .ok (.putfield 47, 3) := by decide +kernel
theorem dX1_readInner_87 : decode cX1_readInner 87 = .ok (.aload_n 0, 1) := by decide +kernel
theorem dX1_readInner_88 : decode cX1_readInner 88 = .ok (.aload_n 0, 1) := by decide +kernel
theorem dX1_readInner_89 : decode cX1_readInner 89 = .ok (.getfield 47, 3) := by decide +kernel
theorem dX1_readInner_92 : decode cX1_readInner 92 = .ok (.iload_n 1, 1) := by decide +kernel
theorem dX1_readInner_93 : decode cX1_readInner 93 = .ok (.iadd, 1) := by decide +kernel
theorem dX1_readInner_94 : decode cX1_readInner 94 = .ok (.aload_n 0, 1) := by decide +kernel
theorem dX1_readInner_95 : decode cX1_readInner 95 = .ok (.getfield 47, 3) := by decide +kernel
theorem dX1_readInner_98 : decode cX1_readInner 98 = .ok (.iconst 1, 1) := by decide +kernel
theorem dX1_readInner_99 : decode cX1_readInner 99 = .ok (.isub, 1) := by decide +kernel
theorem dX1_readInner_100 : decode cX1_readInner 100 = .ok (.aload_n 0, 1) := by decide +kernel
theorem dX1_readInner_101 : decode cX1_readInner 101 = .ok (.getfield 78, 3) := by decide +kernel
theorem dX1_readInner_104 : decode cX1_readInner 104 = .ok (.invokevirtual 56, 3) := by decide +kernel
theorem dX1_readInner_107 : decode cX1_readInner 107 = .ok (.return_, 1) := by decide +kernel
set_option maxRecDepth 20000 in
theorem ggX1_readEnd_X0_fail : GoodIn wsX1_readEnd wsX0_fail := goodIn_r _ [13, 14, 15, 107, 108, 109, 110, 111, 112, 113, 114, 115, 116, 117, 118] (by decide +kernel) (by decide +kernel)
set_option maxRecDepth 20000 in
theorem gX1_readEnd_X0_fail : GoodIn wsX1_readEnd (wsV RX1 120 RX0 yX0_fail wsX0_fail) := goodIn_app (goodIn_of _ (by decide +kernel)) ggX1_readEnd_X0_fail
set_option maxRecDepth 20000 in
theorem ggX1_readEnd_X1_stand : GoodIn wsX1_readEnd wsX1_stand := goodIn_r _ [20, 21, 8, 5, 3, 22, 23, 24, 25, 19, 26, 9, 10, 11, 12, 13, 14, 15, 95, 96, 97, 98, 99, 100, 101, 102, 103, 104, 105, 106, 107, 108, 109, 110, 111, 112, 113, 114, 115, 116, 117, 118] (by decide +kernel) (by decide +kernel)
set_option maxRecDepth 20000 in
theorem gX1_readEnd_X1_stand : GoodIn wsX1_readEnd (wsV RX1 108 RX1 yX1_stand wsX1_stand) := goodIn_app (goodIn_of _ (by decide +kernel)) ggX1_readEnd_X1_stand
set_option maxRecDepth 20000 in
theorem ggX1_readEnd_X5_byteAt : GoodIn wsX1_readEnd wsX5_byteAt := goodIn_r _ [31, 32, 33, 34, 35, 30, 36, 37, 119, 120] (by decide +kernel) (by decide +kernel)
set_option maxRecDepth 20000 in
theorem gX1_readEnd_X5_byteAt : GoodIn wsX1_readEnd (wsV RX1 114 RX5 yX5_byteAt wsX5_byteAt) := goodIn_app (goodIn_of _ (by decide +kernel)) ggX1_readEnd_X5_byteAt
set_option maxRecDepth 20000 in
theorem ggX1_readEnd_X4_sumFrom : GoodIn wsX1_readEnd wsX4_sumFrom := goodIn_r _ [42, 43, 44, 45, 46, 41, 47, 48, 121, 122] (by decide +kernel) (by decide +kernel)
set_option maxRecDepth 20000 in
theorem gX1_readEnd_X4_sumFrom : GoodIn wsX1_readEnd (wsV RX1 137 RX4 yX4_sumFrom wsX4_sumFrom) := goodIn_app (goodIn_of _ (by decide +kernel)) ggX1_readEnd_X4_sumFrom
set_option maxRecDepth 20000 in
theorem ggX1_readEnd_X1_isOutermost : GoodIn wsX1_readEnd wsX1_isOutermost := goodIn_r _ [26, 8, 95, 96, 97, 98, 99, 100, 101, 102, 103, 104, 105, 106] (by decide +kernel) (by decide +kernel)
set_option maxRecDepth 20000 in
theorem gX1_readEnd_X1_isOutermost : GoodIn wsX1_readEnd (wsV RX1 117 RX1 yX1_isOutermost wsX1_isOutermost) := goodIn_app (goodIn_of _ (by decide +kernel)) ggX1_readEnd_X1_isOutermost
set_option maxRecDepth 20000 in
theorem ggX1_readEnd_X1_leaveOutermost : GoodIn wsX1_readEnd wsX1_leaveOutermost := goodIn_r _ [52, 5, 4, 3, 8, 53, 54, 55, 30, 56, 37, 9, 10, 11, 12, 13, 14, 15, 95, 96, 97, 98, 99, 100, 101, 102, 103, 104, 105, 106, 119, 120, 107, 108, 109, 110, 111, 112, 113, 114, 115, 116, 117, 118] (by decide +kernel) (by decide +kernel)
set_option maxRecDepth 20000 in
theorem gX1_readEnd_X1_leaveOutermost : GoodIn wsX1_readEnd (wsV RX1 140 RX1 yX1_leaveOutermost wsX1_leaveOutermost) := goodIn_app (goodIn_of _ (by decide +kernel)) ggX1_readEnd_X1_leaveOutermost
set_option maxRecDepth 20000 in
theorem ggX1_readEnd_X1_leaveInner : GoodIn wsX1_readEnd wsX1_leaveInner := goodIn_r _ [60, 22, 8, 5, 21, 3, 61, 2, 1, 7, 62, 6, 9, 10, 11, 12, 13, 14, 15, 63, 64, 65, 41, 66, 43, 23, 24, 25, 19, 26, 67, 68, 69, 70, 71, 72, 73, 74, 75, 76, 77, 78, 79, 80, 81, 82, 83, 84, 85, 86, 87, 88, 89, 90, 91, 92, 93, 94, 95, 96, 97, 98, 99, 100, 101, 102, 103, 104, 105, 106, 107, 108, 109, 110, 111, 112, 113, 114, 115, 116, 117, 118, 121, 122] (by decide +kernel) (by decide +kernel)
set_option maxRecDepth 20000 in
theorem gX1_readEnd_X1_leaveInner : GoodIn wsX1_readEnd (wsV RX1 143 RX1 yX1_leaveInner wsX1_leaveInner) := goodIn_app (goodIn_of _ (by decide +kernel)) ggX1_readEnd_X1_leaveInner
theorem dX1_readEnd_0 : decode cX1_readEnd 0 = .ok (.aload_n 0, 1) := by decide +kernel
theorem dX1_readEnd_1 : decode cX1_readEnd 1 = .ok (.getfield 88, 3) := by decide +kernel
theorem dX1_readEnd_4 : decode cX1_readEnd 4 = .ok (.aload_n 0, 1) := by decide +kernel
theorem dX1_readEnd_5 : decode cX1_readEnd 5 = .ok (.getfield 78, 3) := by decide +kernel
theorem dX1_readEnd_8 : decode cX1_readEnd 8 = .ok (.if_icmp .le 17, 3) := by decide +kernel
theorem dX1_readEnd_11 : decode cX1_readEnd 11 = .ok (.aload_n 0, 1) := by decide +kernel
theorem dX1_readEnd_12 : decode cX1_readEnd 12 = .ok (.getfield 28, 3) := by decide +kernel
theorem dX1_readEnd_15 : decode cX1_readEnd 15 = .ok (.bipush 7, 2) := by decide +kernel
theorem dX1_readEnd_17 : decode cX1_readEnd 17 = .ok (.aload_n 0, 1) := by decide +kernel
theorem dX1_readEnd_18 : decode cX1_readEnd 18 = .ok (.getfield 88, 3) := by decide +kernel
theorem dX1_readEnd_21 : decode cX1_readEnd 21 = .ok (.invokevirtual 120, 3) := by decide +kernel
theorem dX1_readEnd_24 : decode cX1_readEnd 24 = .ok (.return_, 1) := by decide +kernel
theorem dX1_readEnd_25 : decode cX1_readEnd 25 = .ok (.aload_n 0, 1) := by decide +kernel
theorem dX1_readEnd_26 : decode cX1_readEnd 26 = .ok (.iconst 1, 1) := by decide +kernel
theorem dX1_readEnd_27 : decode cX1_readEnd 27 = .ok (.invokevirtual 108, 3) := by decide +kernel
theorem dX1_readEnd_30 : decode cX1_readEnd 30 = .ok (.ifCond .ne 4, 3) := by decide +kernel
theorem dX1_readEnd_33 : decode cX1_readEnd 33 = .ok (.return_, 1) := by decide +kernel
theorem dX1_readEnd_34 : decode cX1_readEnd 34 = .ok (.aload_n 0, 1) := by decide +kernel
theorem dX1_readEnd_35 : decode cX1_readEnd 35 = .ok (.getfield 24, 3) := by decide +kernel
theorem dX1_readEnd_38 : decode cX1_readEnd 38 = .ok (.aload_n 0, 1) := by decide +kernel
theorem dX1_readEnd_39 : decode cX1_readEnd 39 = .ok (.getfield 47, 3) := by decide +kernel
theorem dX1_readEnd_42 : decode cX1_readEnd 42 = .ok (.invokevirtual 114, 3) := by decide +kernel
theorem dX1_readEnd_45 : decode cX1_readEnd 45 = .ok (.aload_n 0, 1) := by decide +kernel
theorem dX1_readEnd_46 : decode cX1_readEnd 46 = .ok (.getfield 38, 3) := by decide +kernel
theorem dX1_readEnd_49 : decode cX1_readEnd 49 = .ok (.aload_n 0, 1) := by decide +kernel
theorem dX1_readEnd_50 : decode cX1_readEnd 50 = .ok (.getfield 9, 3) := by decide +kernel
theorem dX1_readEnd_53 : decode cX1_readEnd 53 = .ok (.aload_n 0, 1) := by decide +kernel
theorem dX1_readEnd_54 : decode cX1_readEnd 54 = .ok (.getfield 43, 3) := by decide +kernel
theorem dX1_readEnd_57 : decode cX1_readEnd 57 = .ok (.iaload, 1) := by decide +kernel
theorem dX1_readEnd_58 : decode cX1_readEnd 58 = .ok (.invokevirtual 137, 3) := by decide +kernel
theorem dX1_readEnd_61 : decode cX1_readEnd 61 = .ok (.if_icmp .eq 16, 3) := by decide +kernel
theorem dX1_readEnd_64 : decode cX1_readEnd 64 = .ok (.aload_n 0, 1) := by decide +kernel
theorem dX1_readEnd_65 : decode cX1_readEnd 65 = .ok (.getfield 28, 3) := by decide +kernel
theorem dX1_readEnd_68 : decode cX1_readEnd 68 = .ok (.iconst 4, 1) := by decide +kernel
