theorem dX7_cut_3 : decode cX7_cut 3 = .ok (.getfield 53, 3) := by decide +kernel
theorem dX7_cut_6 : decode cX7_cut 6 = .ok (.invokestatic 49, 3) := by decide +kernel
theorem dX7_cut_9 : decode cX7_cut 9 = .ok (.ifCond .ne 6, 3) := by decide +kernel
theorem dX7_cut_12 : decode cX7_cut 12 = .ok (.bipush (-2), 2) := by decide +kernel
theorem dX7_cut_14 : decode cX7_cut 14 = .ok (.ireturn, 1) := by decide +kernel
theorem dX7_cut_15 : decode cX7_cut 15 = .ok (.aload_n 0, 1) := by decide +kernel
theorem dX7_cut_16 : decode cX7_cut 16 = .ok (.getfield 53, 3) := by decide +kernel
theorem dX7_cut_19 : decode cX7_cut 19 = .ok (.iload_n 1, 1) := by decide +kernel
theorem dX7_cut_20 : decode cX7_cut 20 = .ok (.isub, 1) := by decide +kernel
theorem dX7_cut_21 : decode cX7_cut 21 = .ok (.istore_n 2, 1) := by decide +kernel
theorem dX7_cut_22 : decode cX7_cut 22 = .ok (.aload_n 0, 1) := by decide +kernel
theorem dX7_cut_23 : decode cX7_cut 23 = .ok (.iload_n 1, 1) := by decide +kernel
theorem dX7_cut_24 : decode cX7_cut 24 = .ok (.putfield 53, 3) := by decide +kernel
theorem dX7_cut_27 : decode cX7_cut 27 = .ok (.iload_n 2, 1) := by decide +kernel
theorem dX7_cut_28 : decode cX7_cut 28 = .ok (.ireturn, 1) := by decide +kernel
set_option maxRecDepth 20000 in
theorem ggX7_poke_X7_in : GoodIn wsX7_poke wsX7_in := goodIn_r _ [6] (by decide +kernel) (by decide +kernel)
set_option maxRecDepth 20000 in
theorem gX7_poke_X7_in : GoodIn wsX7_poke (va_wsS RX7 49 yX7_in wsX7_in) := goodIn_app (goodIn_of _ (by decide +kernel)) ggX7_poke_X7_in
theorem dX7_poke_0 : decode cX7_poke 0 = .ok (.iload_n 1, 1) := by decide +kernel
theorem dX7_poke_1 : decode cX7_poke 1 = .ok (.iconst 0, 1) := by decide +kernel
theorem dX7_poke_2 : decode cX7_poke 2 = .ok (.aload_n 0, 1) := by decide +kernel
theorem dX7_poke_3 : decode cX7_poke 3 = .ok (.getfield 53, 3) := by decide +kernel
theorem dX7_poke_6 : decode cX7_poke 6 = .ok (.iconst 1, 1) := by decide +kernel
theorem dX7_poke_7 : decode cX7_poke 7 = .ok (.isub, 1) := by decide +kernel
theorem dX7_poke_8 : decode cX7_poke 8 = .ok (.invokestatic 49, 3) := by decide +kernel
theorem dX7_poke_11 : decode cX7_poke 11 = .ok (.ifCond .eq 14, 3) := by decide +kernel
theorem dX7_poke_14 : decode cX7_poke 14 = .ok (.iload_n 2, 1) := by decide +kernel
theorem dX7_poke_15 : decode cX7_poke 15 = .ok (.iconst 0, 1) := by decide +kernel
theorem dX7_poke_16 : decode cX7_poke 16 = .ok (.sipush 255, 3) := by decide +kernel
theorem dX7_poke_19 : decode cX7_poke 19 = .ok (.invokestatic 49, 3) := by decide +kernel
theorem dX7_poke_22 : decode cX7_poke 22 = .ok (.ifCond .ne 6, 3) := by decide +kernel
theorem dX7_poke_25 : decode cX7_poke 25 = .ok (.bipush (-2), 2) := by decide +kernel
theorem dX7_poke_27 : decode cX7_poke 27 = .ok (.ireturn, 1) := by decide +kernel
theorem dX7_poke_28 : decode cX7_poke 28 = .ok (.aload_n 0, 1) := by decide +kernel
theorem dX7_poke_29 : decode cX7_poke 29 = .ok (.getfield 7, 3) := by decide +kernel
theorem dX7_poke_32 : decode cX7_poke 32 = .ok (.iload_n 1, 1) := by decide +kernel
theorem dX7_poke_33 : decode cX7_poke 33 = .ok (.iaload, 1) := by decide +kernel
theorem dX7_poke_34 : decode cX7_poke 34 = .ok (.istore_n 3, 1) := by decide +kernel
theorem dX7_poke_35 : decode cX7_poke 35 = .ok (.aload_n 0, 1) := by decide +kernel
theorem dX7_poke_36 : decode cX7_poke 36 = .ok (.getfield 7, 3) := by decide +kernel
theorem dX7_poke_39 : decode cX7_poke 39 = .ok (.iload_n 1, 1) := by decide +kernel
theorem dX7_poke_40 : decode cX7_poke 40 = .ok (.iload_n 2, 1) := by decide +kernel
theorem dX7_poke_41 : decode cX7_poke 41 = .ok (.iastore, 1) := by decide +kernel
theorem dX7_poke_42 : decode cX7_poke 42 = .ok (.iload_n 3, 1) := by decide +kernel
theorem dX7_poke_43 : decode cX7_poke 43 = .ok (.ireturn, 1) := by decide +kernel
set_option maxRecDepth 20000 in
theorem ggX7_at_X7_in : GoodIn wsX7_at wsX7_in := goodIn_r _ [6] (by decide +kernel) (by decide +kernel)
set_option maxRecDepth 20000 in
theorem gX7_at_X7_in : GoodIn wsX7_at (va_wsS RX7 49 yX7_in wsX7_in) := goodIn_app (goodIn_of _ (by decide +kernel)) ggX7_at_X7_in
theorem dX7_at_0 : decode cX7_at 0 = .ok (.iload_n 1, 1) := by decide +kernel
theorem dX7_at_1 : decode cX7_at 1 = .ok (.iconst 0, 1) := by decide +kernel
theorem dX7_at_2 : decode cX7_at 2 = .ok (.aload_n 0, 1) := by decide +kernel
theorem dX7_at_3 : decode cX7_at 3 = .ok (.getfield 53, 3) := by decide +kernel
theorem dX7_at_6 : decode cX7_at 6 = .ok (.iconst 1, 1) := by decide +kernel
theorem dX7_at_7 : decode cX7_at 7 = .ok (.isub, 1) := by decide +kernel
theorem dX7_at_8 : decode cX7_at 8 = .ok (.invokestatic 49, 3) := by decide +kernel
theorem dX7_at_11 : decode cX7_at 11 = .ok (.ifCond .eq 12, 3) := by decide +kernel
theorem dX7_at_14 : decode cX7_at 14 = .ok (.aload_n 0, 1) := by decide +kernel
theorem dX7_at_15 : decode cX7_at 15 = .ok (.getfield 7, 3) := by decide +kernel
theorem dX7_at_18 : decode cX7_at 18 = .ok (.iload_n 1, 1) := by decide +kernel
theorem dX7_at_19 : decode cX7_at 19 = .ok (.iaload, 1) := by decide +kernel
theorem dX7_at_20 : decode cX7_at 20 = .ok (.goto 4, 3) := by decide +kernel
theorem dX7_at_23 : decode cX7_at 23 = .ok (.iconst (-1), 1) := by decide +kernel
theorem dX7_at_24 : decode cX7_at 24 = .ok (.ireturn, 1) := by decide +kernel
theorem dX7_length_0 : decode cX7_length 0 = .ok (.aload_n 0, 1) := by decide +kernel
theorem dX7_length_1 : decode cX7_length 1 = .ok (.getfield 53, 3) := by decide +kernel
theorem dX7_length_4 : decode cX7_length 4 = .ok (.ireturn, 1) := by decide +kernel
theorem dX7_fault_0 : decode cX7_fault 0 = .ok (.aload_n 0, 1) := by decide +kernel
theorem dX7_fault_1 : decode cX7_fault 1 = .ok (.iload_n 1, 1) := by decide +kernel
theorem dX7_fault_2 : decode cX7_fault 2 = .ok (.putfield 57, 3) := by decide +kernel
theorem dX7_fault_5 : decode cX7_fault 5 = .ok (.aload_n 0, 1) := by decide +kernel
theorem dX7_fault_6 : decode cX7_fault 6 = .ok (.iload_n 2, 1) := by decide +kernel
theorem dX7_fault_7 : decode cX7_fault 7 = .ok (.putfield 60, 3) := by decide +kernel
theorem dX7_fault_10 : decode cX7_fault 10 = .ok (.return_, 1) := by decide +kernel
set_option maxRecDepth 20000 in
theorem ggX7_has_X7_fault : GoodIn wsX7_has wsX7_fault := goodIn_r _ [10, 11, 12, 13, 14, 15, 16, 17, 18, 19, 20, 21, 22, 23, 24, 25, 26, 27, 28, 29, 30, 31, 32, 33, 34, 35, 36, 37, 38, 39, 40, 41, 42, 43, 44, 45] (by decide +kernel) (by decide +kernel)
set_option maxRecDepth 20000 in
theorem gX7_has_X7_fault : GoodIn wsX7_has (wsV RX7 69 RX7 yX7_fault wsX7_fault) := goodIn_app (goodIn_of _ (by decide +kernel)) ggX7_has_X7_fault
theorem dX7_has_0 : decode cX7_has 0 = .ok (.aload_n 0, 1) := by decide +kernel
theorem dX7_has_1 : decode cX7_has 1 = .ok (.getfield 63, 3) := by decide +kernel
theorem dX7_has_4 : decode cX7_has 4 = .ok (.iload_n 1, 1) := by decide +kernel
theorem dX7_has_5 : decode cX7_has 5 = .ok (.iadd, 1) := by decide +kernel
theorem dX7_has_6 : decode cX7_has 6 = .ok (.aload_n 0, 1) := by decide +kernel
theorem dX7_has_7 : decode cX7_has 7 = .ok (.getfield 19, 3) := by decide +kernel
theorem dX7_has_10 : decode cX7_has 10 = .ok (.aload_n 0, 1) := by decide +kernel
theorem dX7_has_11 : decode cX7_has 11 = .ok (.getfield 66, 3) := by decide +kernel
theorem dX7_has_14 : decode cX7_has 14 = .ok (.iaload, 1) := by decide +kernel
theorem dX7_has_15 : decode cX7_has 15 = .ok (.if_icmp .gt 5, 3) := by decide +kernel
theorem dX7_has_18 : decode cX7_has 18 = .ok (.iconst 1, 1) := by decide +kernel
theorem dX7_has_19 : decode cX7_has 19 = .ok (.ireturn, 1) := by decide +kernel
theorem dX7_has_20 : decode cX7_has 20 = .ok (.aload_n 0, 1) := by decide +kernel
theorem dX7_has_21 : decode cX7_has 21 = .ok (.getfield 66, 3) := by decide +kernel
theorem dX7_has_24 : decode cX7_has 24 = .ok (.ifCond .le 20, 3) := by decide +kernel
theorem dX7_has_27 : decode cX7_has 27 = .ok (.aload_n 0, 1) := by decide +kernel
theorem dX7_has_28 : decode cX7_has 28 = .ok (.iconst 2, 1) := by decide +kernel
theorem dX7_has_29 : decode cX7_has 29 = .ok (.aload_n 0, 1) := by decide +kernel
theorem dX7_has_30 : decode cX7_has 30 = .ok (.getfield 25, 3) := by decide +kernel
theorem dX7_has_33 : decode cX7_has 33 = .ok (.aload_n 0, 1) := by decide +kernel
theorem dX7_has_34 : decode cX7_has 34 = .ok (.getfield 66, 3) := by decide +kernel
theorem dX7_has_37 : decode cX7_has 37 = .ok (.iaload, 1) := by decide +kernel
theorem dX7_has_38 : decode cX7_has 38 = .ok (.invokevirtual 69, 3) := by decide +kernel
theorem dX7_has_41 : decode cX7_has 41 = .ok (.goto 12, 3) := by decide +kernel
theorem dX7_has_44 : decode cX7_has 44 = .ok (.aload_n 0, 1) := by decide +kernel
theorem dX7_has_45 : decode cX7_has 45 = .ok (.iconst 1, 1) := by decide +kernel
theorem dX7_has_46 : decode cX7_has 46 = .ok (.aload_n 0, 1) := by decide +kernel
theorem dX7_has_47 : decode cX7_has 47 = .ok (.getfield 53, 3) := by decide +kernel
theorem dX7_has_50 : decode cX7_has 50 = .ok (.invokevirtual 69, 3) := by decide +kernel
theorem dX7_has_53 : decode cX7_has 53 = .ok (.iconst 0, 1) := by decide +kernel
theorem dX7_has_54 : decode cX7_has 54 = .ok (.ireturn, 1) := by decide +kernel
set_option maxRecDepth 20000 in
theorem ggX7_steps_X7_fault : GoodIn wsX7_steps wsX7_fault := goodIn_r _ [7, 8, 9, 10, 11, 12, 13, 14, 15, 16, 17, 18, 19, 20, 21, 22, 23, 24, 25, 26, 27, 28, 29, 30, 31, 32, 33, 34, 35, 36, 37, 38, 39, 40, 41, 42] (by decide +kernel) (by decide +kernel)
set_option maxRecDepth 20000 in
theorem gX7_steps_X7_fault : GoodIn wsX7_steps (wsV RX7 69 RX7 yX7_fault wsX7_fault) := goodIn_app (goodIn_of _ (by decide +kernel)) ggX7_steps_X7_fault
theorem dX7_steps_0 : decode cX7_steps 0 = .ok (.aload_n 0, 1) := by decide +kernel
theorem dX7_steps_1 : decode cX7_steps 1 = .ok (.getfield 73, 3) := by decide +kernel
theorem dX7_steps_4 : decode cX7_steps 4 = .ok (.aload_n 0, 1) := by decide +kernel
theorem dX7_steps_5 : decode cX7_steps 5 = .ok (.getfield 76, 3) := by decide +kernel
theorem dX7_steps_8 : decode cX7_steps 8 = .ok (.if_icmp .ne 12, 3) := by decide +kernel
theorem dX7_steps_11 : decode cX7_steps 11 = .ok (.aload_n 0, 1) := by decide +kernel
theorem dX7_steps_12 : decode cX7_steps 12 = .ok (.bipush 9, 2) := by decide +kernel
theorem dX7_steps_14 : decode cX7_steps 14 = .ok (.iload_n 1, 1) := by decide +kernel
theorem dX7_steps_15 : decode cX7_steps 15 = .ok (.invokevirtual 69, 3) := by decide +kernel
theorem dX7_steps_18 : decode cX7_steps 18 = .ok (.iconst 0, 1) := by decide +kernel
theorem dX7_steps_19 : decode cX7_steps 19 = .ok (.ireturn, 1) := by decide +kernel
theorem dX7_steps_20 : decode cX7_steps 20 = .ok (.iconst 1, 1) := by decide +kernel
theorem dX7_steps_21 : decode cX7_steps 21 = .ok (.ireturn, 1) := by decide +kernel
set_option maxRecDepth 20000 in
theorem ggX7_give_X7_steps : GoodIn wsX7_give wsX7_steps := goodIn_r _ [14, 6, 15, 16, 17, 18, 13, 19, 20, 21, 22, 23, 24, 25, 26, 27, 28, 29, 30, 31, 32, 33, 34, 35, 36, 37, 38, 39, 40, 41, 42, 43, 44, 45, 46, 47, 48, 49, 50, 51, 52, 53, 54] (by decide +kernel) (by decide +kernel)
set_option maxRecDepth 20000 in
theorem gX7_give_X7_steps : GoodIn wsX7_give (wsV RX7 79 RX7 yX7_steps wsX7_steps) := goodIn_app (goodIn_of _ (by decide +kernel)) ggX7_give_X7_steps
set_option maxRecDepth 20000 in
theorem ggX7_give_X7_fault : GoodIn wsX7_give wsX7_fault := goodIn_r _ [19, 20, 21, 22, 23, 24, 25, 26, 27, 28, 29, 30, 31, 32, 33, 34, 35, 36, 37, 38, 39, 40, 41, 42, 43, 44, 45, 46, 47, 48, 49, 50, 51, 52, 53, 54] (by decide +kernel) (by decide +kernel)
set_option maxRecDepth 20000 in
theorem gX7_give_X7_fault : GoodIn wsX7_give (wsV RX7 69 RX7 yX7_fault wsX7_fault) := goodIn_app (goodIn_of _ (by decide +kernel)) ggX7_give_X7_fault
theorem dX7_give_0 : decode cX7_give 0 = .ok (.aload_n 0, 1) := by decide +kernel
theorem dX7_give_1 : decode cX7_give 1 = .ok (.iload_n 2, 1) := by decide +kernel
theorem dX7_give_2 : decode cX7_give 2 = .ok (.invokevirtual 79, 3) := by decide +kernel
theorem dX7_give_5 : decode cX7_give 5 = .ok (.ifCond .ne 5, 3) := by decide +kernel
theorem dX7_give_8 : decode cX7_give 8 = .ok (.iconst 0, 1) := by decide +kernel
theorem dX7_give_9 : decode cX7_give 9 = .ok (.ireturn, 1) := by decide +kernel
theorem dX7_give_10 : decode cX7_give 10 = .ok (.aload_n 0, 1) := by decide +kernel
theorem dX7_give_11 : decode cX7_give 11 = .ok (.getfield 82, 3) := by decide +kernel
theorem dX7_give_14 : decode cX7_give 14 = .ok (.aload_n 0, 1) := by decide +kernel
theorem dX7_give_15 : decode cX7_give 15 = .ok (.getfield 85, 3) := by decide +kernel
theorem dX7_give_18 : decode cX7_give 18 = .ok (.if_icmp .ne 12, 3) := by decide +kernel
theorem dX7_give_21 : decode cX7_give 21 = .ok (.aload_n 0, 1) := by decide +kernel
theorem dX7_give_22 : decode cX7_give 22 = .ok (.bipush 10, 2) := by decide +kernel
theorem dX7_give_24 : decode cX7_give 24 = .ok (.iload_n 2, 1) := by decide +kernel
theorem dX7_give_25 : decode cX7_give 25 = .ok (.invokevirtual 69, 3) := by decide +kernel
theorem dX7_give_28 : decode cX7_give 28 = .ok (.iconst 0, 1) := by decide +kernel
theorem dX7_give_29 : decode cX7_give 29 = .ok (.ireturn, 1) := by decide +kernel
theorem dX7_give_30 : decode cX7_give 30 = .ok (.aload_n 0, 1) := by decide +kernel
theorem dX7_give_31 : decode cX7_give 31 = .ok (.getfield 66, 3) := by decide +kernel
theorem dX7_give_34 : decode cX7_give 34 = .ok (.ifCond .ne 25, 3) := by decide +kernel
theorem dX7_give_37 : decode cX7_give 37 = .ok (.aload_n 0, 1) := by decide +kernel
theorem dX7_give_38 : decode cX7_give 38 = .ok (.getfield 16, 3) := by decide +kernel
theorem dX7_give_41 : decode cX7_give 41 = .ok (.iconst 0, 1) := by decide +kernel
theorem dX7_give_42 : decode cX7_give 42 = .ok (.iaload, 1) := by decide +kernel
theorem dX7_give_43 : decode cX7_give 43 = .ok (.aload_n 0, 1) := by decide +kernel
theorem dX7_give_44 : decode cX7_give 44 = .ok (.getfield 88, 3) := by decide +kernel
theorem dX7_give_47 : decode cX7_give 47 = .ok (.if_icmp .ne 12, 3) := by decide +kernel
theorem dX7_give_50 : decode cX7_give 50 = .ok (.aload_n 0, 1) := by decide +kernel
theorem dX7_give_51 : decode cX7_give 51 = .ok (.bipush 8, 2) := by decide +kernel
theorem dX7_give_53 : decode cX7_give 53 = .ok (.iload_n 2, 1) := by decide +kernel
theorem dX7_give_54 : decode cX7_give 54 = .ok (.invokevirtual 69, 3) := by decide +kernel
theorem dX7_give_57 : decode cX7_give 57 = .ok (.iconst 0, 1) := by decide +kernel
theorem dX7_give_58 : decode cX7_give 58 = .ok (.ireturn, 1) := by decide +kernel
theorem dX7_give_59 : decode cX7_give 59 = .ok (.aload_n 0, 1) := by decide +kernel
theorem dX7_give_60 : decode cX7_give 60 = .ok (.dup, 1) := by decide +kernel
theorem dX7_give_61 : decode cX7_give 61 = .ok (.getfield 73, 3) := by decide +kernel
theorem dX7_give_64 : decode cX7_give 64 = .ok (.iconst 1, 1) := by decide +kernel
theorem dX7_give_65 : decode cX7_give 65 = .ok (.iadd, 1) := by decide +kernel
theorem dX7_give_66 : decode cX7_give 66 = .ok (.putfield 73, 3) := by decide +kernel
theorem dX7_give_69 : decode cX7_give 69 = .ok (.aload_n 0, 1) := by decide +kernel
theorem dX7_give_70 : decode cX7_give 70 = .ok (.dup, 1) := by decide +kernel
theorem dX7_give_71 : decode cX7_give 71 = .ok (.getfield 82, 3) := by decide +kernel
theorem dX7_give_74 : decode cX7_give 74 = .ok (.iconst 1, 1) := by decide +kernel
theorem dX7_give_75 : decode cX7_give 75 = .ok (.iadd, 1) := by decide +kernel
theorem dX7_give_76 : decode cX7_give 76 = .ok (.putfield 82, 3) := by decide +kernel
theorem dX7_give_79 : decode cX7_give 79 = .ok (.aload_n 0, 1) := by decide +kernel
theorem dX7_give_80 : decode cX7_give 80 = .ok (.aload_n 0, 1) := by decide +kernel
theorem dX7_give_81 : decode cX7_give 81 = .ok (.getfield 82, 3) := by decide +kernel
theorem dX7_give_84 : decode cX7_give 84 = .ok (.aload_n 0, 1) := by decide +kernel
theorem dX7_give_85 : decode cX7_give 85 = .ok (.getfield 91, 3) := by decide +kernel
theorem dX7_give_88 : decode cX7_give 88 = .ok (.if_icmp .le 10, 3) := by decide +kernel
theorem dX7_give_91 : decode cX7_give 91 = .ok (.aload_n 0, 1) := by decide +kernel
theorem dX7_give_92 : decode cX7_give 92 = .ok (.getfield 82, 3) := by decide +kernel
theorem dX7_give_95 : decode cX7_give 95 = .ok (.goto 7, 3) := by decide +kernel
theorem dX7_give_98 : decode cX7_give 98 = .ok (.aload_n 0, 1) := by decide +kernel
theorem dX7_give_99 : decode cX7_give 99 = .ok (.getfield 91, 3) := by decide +kernel
theorem dX7_give_102 : decode cX7_give 102 = .ok (.putfield 91, 3) := by decide +kernel
theorem dX7_give_105 : decode cX7_give 105 = .ok (.aload_n 0, 1) := by decide +kernel
theorem dX7_give_106 : decode cX7_give 106 = .ok (.getfield 31, 3) := by decide +kernel
theorem dX7_give_109 : decode cX7_give 109 = .ok (.aload_n 0, 1) := by decide +kernel
theorem dX7_give_110 : decode cX7_give 110 = .ok (.getfield 13, 3) := by decide +kernel
theorem dX7_give_113 : decode cX7_give 113 = .ok (.aload_n 0, 1) := by decide +kernel
theorem dX7_give_114 : decode cX7_give 114 = .ok (.getfield 66, 3) := by decide +kernel
theorem dX7_give_117 : decode cX7_give 117 = .ok (.iaload, 1) := by decide +kernel
theorem dX7_give_118 : decode cX7_give 118 = .ok (.aload_n 0, 1) := by decide +kernel
theorem dX7_give_119 : decode cX7_give 119 = .ok (.getfield 16, 3) := by decide +kernel
theorem dX7_give_122 : decode cX7_give 122 = .ok (.aload_n 0, 1) := by decide +kernel
theorem dX7_give_123 : decode cX7_give 123 = .ok (.getfield 66, 3) := by decide +kernel
theorem dX7_give_126 : decode cX7_give 126 = .ok (.iaload, 1) := by decide +kernel
theorem dX7_give_127 : decode cX7_give 127 = .ok (.iadd, 1) := by decide +kernel
theorem dX7_give_128 : decode cX7_give 128 = .ok (.iload_n 1, 1) := by decide +kernel
theorem dX7_give_129 : decode cX7_give 129 = .ok (.iastore, 1) := by decide +kernel
theorem dX7_give_130 : decode cX7_give 130 = .ok (.aload_n 0, 1) := by decide +kernel
theorem dX7_give_131 : decode cX7_give 131 = .ok (.getfield 16, 3) := by decide +kernel
theorem dX7_give_134 : decode cX7_give 134 = .ok (.aload_n 0, 1) := by decide +kernel
theorem dX7_give_135 : decode cX7_give 135 = .ok (.getfield 66, 3) := by decide +kernel
theorem dX7_give_138 : decode cX7_give 138 = .ok (.dup2, 1) := by decide +kernel
theorem dX7_give_139 : decode cX7_give 139 = .ok (.iaload, 1) := by decide +kernel
theorem dX7_give_140 : decode cX7_give 140 = .ok (.iconst 1, 1) := by decide +kernel
theorem dX7_give_141 : decode cX7_give 141 = .ok (.iadd, 1) := by decide +kernel
theorem dX7_give_142 : decode cX7_give 142 = .ok (.iastore, 1) := by decide +kernel
theorem dX7_give_143 : decode cX7_give 143 = .ok (.iconst 1, 1) := by decide +kernel
theorem dX7_give_144 : decode cX7_give 144 = .ok (.ireturn, 1) := by decide +kernel
theorem dX7_opens_0 : decode cX7_opens 0 = .ok (.aload_n 0, 1) := by decide +kernel
theorem dX7_opens_1 : decode cX7_opens 1 = .ok (.getfield 13, 3) := by decide +kernel
theorem dX7_opens_4 : decode cX7_opens 4 = .ok (.aload_n 0, 1) := by decide +kernel
theorem dX7_opens_5 : decode cX7_opens 5 = .ok (.getfield 66, 3) := by decide +kernel
theorem dX7_opens_8 : decode cX7_opens 8 = .ok (.aload_n 0, 1) := by decide +kernel
theorem dX7_opens_9 : decode cX7_opens 9 = .ok (.getfield 66, 3) := by decide +kernel
theorem dX7_opens_12 : decode cX7_opens 12 = .ok (.ifCond .ne 7, 3) := by decide +kernel
theorem dX7_opens_15 : decode cX7_opens 15 = .ok (.iconst 0, 1) := by decide +kernel
theorem dX7_opens_16 : decode cX7_opens 16 = .ok (.goto 26, 3) := by decide +kernel
theorem dX7_opens_19 : decode cX7_opens 19 = .ok (.aload_n 0, 1) := by decide +kernel
theorem dX7_opens_20 : decode cX7_opens 20 = .ok (.getfield 13, 3) := by decide +kernel
theorem dX7_opens_23 : decode cX7_opens 23 = .ok (.aload_n 0, 1) := by decide +kernel
theorem dX7_opens_24 : decode cX7_opens 24 = .ok (.getfield 66, 3) := by decide +kernel
theorem dX7_opens_27 : decode cX7_opens 27 = .ok (.iconst 1, 1) := by decide +kernel
theorem dX7_opens_28 : decode cX7_opens 28 = .ok (.isub, 1) := by decide +kernel
theorem dX7_opens_29 : decode cX7_opens 29 = .ok (.iaload, 1) := by decide +kernel
theorem dX7_opens_30 : decode cX7_opens 30 = .ok (.aload_n 0, 1) := by decide +kernel
theorem dX7_opens_31 : decode cX7_opens 31 = .ok (.getfield 16, 3) := by decide +kernel
theorem dX7_opens_34 : decode cX7_opens 34 = .ok (.aload_n 0, 1) := by decide +kernel
theorem dX7_opens_35 : decode cX7_opens 35 = .ok (.getfield 66, 3) := by decide +kernel
theorem dX7_opens_38 : decode cX7_opens 38 = .ok (.iconst 1, 1) := by decide +kernel
theorem dX7_opens_39 : decode cX7_opens 39 = .ok (.isub, 1) := by decide +kernel
theorem dX7_opens_40 : decode cX7_opens 40 = .ok (.iaload, 1) := by decide +kernel
theorem dX7_opens_41 : decode cX7_opens 41 = .ok (.iadd, 1) := by decide +kernel
theorem dX7_opens_42 : decode cX7_opens 42 = .ok (.iastore, 1) := by decide +kernel
theorem dX7_opens_43 : decode cX7_opens 43 = .ok (.aload_n 0, 1) := by decide +kernel
theorem dX7_opens_44 : decode cX7_opens 44 = .ok (.getfield 16, 3) := by decide +kernel
theorem dX7_opens_47 : decode cX7_opens 47 = .ok (.aload_n 0, 1) := by decide +kernel
theorem dX7_opens_48 : decode cX7_opens 48 = .ok (.getfield 66, 3) := by decide +kernel
theorem dX7_opens_51 : decode cX7_opens 51 = .ok (.iconst 0, 1) := by decide +kernel
theorem dX7_opens_52 : decode cX7_opens 52 = .ok (.iastore, 1) := by decide +kernel
theorem dX7_opens_53 : decode cX7_opens 53 = .ok (.aload_n 0, 1) := by decide +kernel
theorem dX7_opens_54 : decode cX7_opens 54 = .ok (.getfield 19, 3) := by decide +kernel
theorem dX7_opens_57 : decode cX7_opens 57 = .ok (.aload_n 0, 1) := by decide +kernel
theorem dX7_opens_58 : decode cX7_opens 58 = .ok (.getfield 66, 3) := by decide +kernel
theorem dX7_opens_61 : decode cX7_opens 61 = .ok (.iload_n 1, 1) := by decide +kernel
theorem dX7_opens_62 : decode cX7_opens 62 = .ok (.iastore, 1) := by decide +kernel
theorem dX7_opens_63 : decode cX7_opens 63 = .ok (.aload_n 0, 1) := by decide +kernel
theorem dX7_opens_64 : decode cX7_opens 64 = .ok (.getfield 22, 3) := by decide +kernel
theorem dX7_opens_67 : decode cX7_opens 67 = .ok (.aload_n 0, 1) := by decide +kernel
theorem dX7_opens_68 : decode cX7_opens 68 = .ok (.getfield 66, 3) := by decide +kernel
theorem dX7_opens_71 : decode cX7_opens 71 = .ok (.iload_n 2, 1) := by decide +kernel
theorem dX7_opens_72 : decode cX7_opens 72 = .ok (.iastore, 1) := by decide +kernel
theorem dX7_opens_73 : decode cX7_opens 73 = .ok (.aload_n 0, 1) := by decide +kernel
theorem dX7_opens_74 : decode cX7_opens 74 = .ok (.getfield 25, 3) := by decide +kernel
theorem dX7_opens_77 : decode cX7_opens 77 = .ok (.aload_n 0, 1) := by decide +kernel
theorem dX7_opens_78 : decode cX7_opens 78 = .ok (.getfield 66, 3) := by decide +kernel
theorem dX7_opens_81 : decode cX7_opens 81 = .ok (.iload_n 3, 1) := by decide +kernel
theorem dX7_opens_82 : decode cX7_opens 82 = .ok (.iastore, 1) := by decide +kernel
theorem dX7_opens_83 : decode cX7_opens 83 = .ok (.aload_n 0, 1) := by decide +kernel
theorem dX7_opens_84 : decode cX7_opens 84 = .ok (.getfield 28, 3) := by decide +kernel
theorem dX7_opens_87 : decode cX7_opens 87 = .ok (.aload_n 0, 1) := by decide +kernel
theorem dX7_opens_88 : decode cX7_opens 88 = .ok (.getfield 66, 3) := by decide +kernel
theorem dX7_opens_91 : decode cX7_opens 91 = .ok (.aload_n 0, 1) := by decide +kernel
theorem dX7_opens_92 : decode cX7_opens 92 = .ok (.getfield 94, 3) := by decide +kernel
theorem dX7_opens_95 : decode cX7_opens 95 = .ok (.iastore, 1) := by decide +kernel
theorem dX7_opens_96 : decode cX7_opens 96 = .ok (.aload_n 0, 1) := by decide +kernel
theorem dX7_opens_97 : decode cX7_opens 97 = .ok (.aload_n 0, 1) := by decide +kernel
theorem dX7_opens_98 : decode cX7_opens 98 = .ok (.getfield 66, 3) := by decide +kernel
theorem dX7_opens_101 : decode cX7_opens 101 = .ok (.iconst 1, 1) := by decide +kernel
theorem dX7_opens_102 : decode cX7_opens 102 = .ok (.iadd, 1) := by decide +kernel
theorem dX7_opens_103 : decode cX7_opens 103 = .ok (.aload_n 0, 1) := by decide +kernel
theorem dX7_opens_104 : decode cX7_opens 104 = .ok (.getfield 97, 3) := by decide +kernel
theorem dX7_opens_107 : decode cX7_opens 107 = .ok (.if_icmp .le 12, 3) := by decide +kernel
theorem dX7_opens_110 : decode cX7_opens 110 = .ok (.aload_n 0, 1) := by decide +kernel
theorem dX7_opens_111 : decode cX7_opens 111 = .ok (.getfield 66, 3) := by decide +kernel
theorem dX7_opens_114 : decode cX7_opens 114 = .ok (.iconst 1, 1) := by decide +kernel
theorem dX7_opens_115 : decode cX7_opens 115 = .ok (.iadd, 1) := by decide +kernel
theorem dX7_opens_116 : decode cX7_opens 116 = .ok (.goto 7, 3) := by decide +kernel
theorem dX7_opens_119 : decode cX7_opens 119 = .ok (.aload_n 0, 1) := by decide +kernel
theorem dX7_opens_120 : decode cX7_opens 120 = .ok (.getfield 97, 3) := by decide +kernel
theorem dX7_opens_123 : decode cX7_opens 123 = .ok (.putfield 97, 3) := by decide +kernel
theorem dX7_opens_126 : decode cX7_opens 126 = .ok (.return_, 1) := by decide +kernel
set_option maxRecDepth 20000 in
theorem ggX7_run_X7_opens : GoodIn wsX7_run wsX7_opens := goodIn_r _ [23, 24, 4, 25, 26, 27, 28, 29, 5, 13, 75, 76, 77, 78, 79, 80, 81, 82, 83, 84, 85, 86, 87, 88, 89, 90, 91, 92, 93, 94, 95, 96, 97, 98, 99, 100, 101, 102, 103, 104, 105, 106, 107] (by decide +kernel) (by decide +kernel)
set_option maxRecDepth 20000 in
theorem gX7_run_X7_opens : GoodIn wsX7_run (wsV RX7 116 RX7 yX7_opens wsX7_opens) := goodIn_app (goodIn_of _ (by decide +kernel)) ggX7_run_X7_opens
set_option maxRecDepth 20000 in
theorem ggX7_run_X7_item : GoodIn wsX7_run wsX7_item := goodIn_r _ [33, 6, 10, 14, 34, 5, 29, 4, 17, 35, 36, 37, 25, 38, 39, 40, 22, 41, 26, 28, 18, 42, 43, 44, 45, 8, 9, 46, 47, 48, 49, 3, 50, 51, 52, 53, 54, 24, 7, 27, 11, 55, 56, 57, 58, 2, 1, 12, 59, 60, 61, 62, 63, 64, 65, 66, 67, 68, 69, 70, 16, 71, 72, 73, 74, 15, 19, 20, 21, 23, 13, 75, 76, 77, 78, 79, 80, 81, 82, 83, 84, 85, 86, 87, 88, 89, 90, 91, 92, 93, 94, 95, 96, 97, 98, 99, 100, 101, 102, 103, 104, 105, 106, 107] (by decide +kernel) (by decide +kernel)
set_option maxRecDepth 20000 in
theorem gX7_run_X7_item : GoodIn wsX7_run (wsV RX7 120 RX7 yX7_item wsX7_item) := goodIn_app (goodIn_of _ (by decide +kernel)) ggX7_run_X7_item
theorem dX7_run_0 : decode cX7_run 0 = .ok (.aload_n 0, 1) := by decide +kernel
theorem dX7_run_1 : decode cX7_run 1 = .ok (.iload_n 1, 1) := by decide +kernel
theorem dX7_run_2 : decode cX7_run 2 = .ok (.putfield 88, 3) := by decide +kernel
theorem dX7_run_5 : decode cX7_run 5 = .ok (.aload_n 0, 1) := by decide +kernel
theorem dX7_run_6 : decode cX7_run 6 = .ok (.iload_n 2, 1) := by decide +kernel
theorem dX7_run_7 : decode cX7_run 7 = .ok (.putfield 85, 3) := by decide +kernel
theorem dX7_run_10 : decode cX7_run 10 = .ok (.aload_n 0, 1) := by decide +kernel
theorem dX7_run_11 : decode cX7_run 11 = .ok (.iload_n 3, 1) := by decide +kernel
theorem dX7_run_12 : decode cX7_run 12 = .ok (.putfield 76, 3) := by decide +kernel
theorem dX7_run_15 : decode cX7_run 15 = .ok (.aload_n 0, 1) := by decide +kernel
theorem dX7_run_16 : decode cX7_run 16 = .ok (.iconst 0, 1) := by decide +kernel
theorem dX7_run_17 : decode cX7_run 17 = .ok (.putfield 66, 3) := by decide +kernel
theorem dX7_run_20 : decode cX7_run 20 = .ok (.aload_n 0, 1) := by decide +kernel
theorem dX7_run_21 : decode cX7_run 21 = .ok (.iconst 0, 1) := by decide +kernel
theorem dX7_run_22 : decode cX7_run 22 = .ok (.putfield 94, 3) := by decide +kernel
theorem dX7_run_25 : decode cX7_run 25 = .ok (.aload_n 0, 1) := by decide +kernel
theorem dX7_run_26 : decode cX7_run 26 = .ok (.iconst 0, 1) := by decide +kernel
theorem dX7_run_27 : decode cX7_run 27 = .ok (.putfield 63, 3) := by decide +kernel
theorem dX7_run_30 : decode cX7_run 30 = .ok (.aload_n 0, 1) := by decide +kernel
theorem dX7_run_31 : decode cX7_run 31 = .ok (.iconst 0, 1) := by decide +kernel
theorem dX7_run_32 : decode cX7_run 32 = .ok (.putfield 100, 3) := by decide +kernel
theorem dX7_run_35 : decode cX7_run 35 = .ok (.aload_n 0, 1) := by decide +kernel
theorem dX7_run_36 : decode cX7_run 36 = .ok (.iconst 0, 1) := by decide +kernel
theorem dX7_run_37 : decode cX7_run 37 = .ok (.putfield 57, 3) := by decide +kernel
theorem dX7_run_40 : decode cX7_run 40 = .ok (.aload_n 0, 1) := by decide +kernel
theorem dX7_run_41 : decode cX7_run 41 = .ok (.iconst (-1), 1) := by decide +kernel
theorem dX7_run_42 : decode cX7_run 42 = .ok (.putfield 60, 3) := by decide +kernel
theorem dX7_run_45 : decode cX7_run 45 = .ok (.aload_n 0, 1) := by decide +kernel
theorem dX7_run_46 : decode cX7_run 46 = .ok (.iconst 0, 1) := by decide +kernel
theorem dX7_run_47 : decode cX7_run 47 = .ok (.putfield 73, 3) := by decide +kernel
theorem dX7_run_50 : decode cX7_run 50 = .ok (.aload_n 0, 1) := by decide +kernel
theorem dX7_run_51 : decode cX7_run 51 = .ok (.iconst 0, 1) := by decide +kernel
theorem dX7_run_52 : decode cX7_run 52 = .ok (.putfield 82, 3) := by decide +kernel
theorem dX7_run_55 : decode cX7_run 55 = .ok (.aload_n 0, 1) := by decide +kernel
theorem dX7_run_56 : decode cX7_run 56 = .ok (.iconst 0, 1) := by decide +kernel
theorem dX7_run_57 : decode cX7_run 57 = .ok (.putfield 91, 3) := by decide +kernel
theorem dX7_run_60 : decode cX7_run 60 = .ok (.aload_n 0, 1) := by decide +kernel
theorem dX7_run_61 : decode cX7_run 61 = .ok (.iconst 0, 1) := by decide +kernel
theorem dX7_run_62 : decode cX7_run 62 = .ok (.putfield 97, 3) := by decide +kernel
theorem dX7_run_65 : decode cX7_run 65 = .ok (.aload_n 0, 1) := by decide +kernel
theorem dX7_run_66 : decode cX7_run 66 = .ok (.iconst 0, 1) := by decide +kernel
theorem dX7_run_67 : decode cX7_run 67 = .ok (.putfield 104, 3) := by decide +kernel
theorem dX7_run_70 : decode cX7_run 70 = .ok (.aload_n 0, 1) := by decide +kernel
theorem dX7_run_71 : decode cX7_run 71 = .ok (.iconst (-1), 1) := by decide +kernel
theorem dX7_run_72 : decode cX7_run 72 = .ok (.putfield 107, 3) := by decide +kernel
theorem dX7_run_75 : decode cX7_run 75 = .ok (.aload_n 0, 1) := by decide +kernel
theorem dX7_run_76 : decode cX7_run 76 = .ok (.iconst (-1), 1) := by decide +kernel
theorem dX7_run_77 : decode cX7_run 77 = .ok (.putfield 110, 3) := by decide +kernel
theorem dX7_run_80 : decode cX7_run 80 = .ok (.aload_n 0, 1) := by decide +kernel
theorem dX7_run_81 : decode cX7_run 81 = .ok (.iconst (-1), 1) := by decide +kernel
theorem dX7_run_82 : decode cX7_run 82 = .ok (.putfield 113, 3) := by decide +kernel
theorem dX7_run_85 : decode cX7_run 85 = .ok (.aload_n 0, 1) := by decide +kernel
theorem dX7_run_86 : decode cX7_run 86 = .ok (.aload_n 0, 1) := by decide +kernel
theorem dX7_run_87 : decode cX7_run 87 = .ok (.getfield 53, 3) := by decide +kernel
theorem dX7_run_90 : decode cX7_run 90 = .ok (.iconst (-1), 1) := by decide +kernel
theorem dX7_run_91 : decode cX7_run 91 = .ok (.iconst (-1), 1) := by decide +kernel
theorem dX7_run_92 : decode cX7_run 92 = .ok (.invokevirtual 116, 3) := by decide +kernel
theorem dX7_run_95 : decode cX7_run 95 = .ok (.aload_n 0, 1) := by decide +kernel
theorem dX7_run_96 : decode cX7_run 96 = .ok (.getfield 100, 3) := by decide +kernel
theorem dX7_run_99 : decode cX7_run 99 = .ok (.ifCond .ne 17, 3) := by decide +kernel
theorem dX7_run_102 : decode cX7_run 102 = .ok (.aload_n 0, 1) := by decide +kernel
theorem dX7_run_103 : decode cX7_run 103 = .ok (.getfield 57, 3) := by decide +kernel
theorem dX7_run_106 : decode cX7_run 106 = .ok (.ifCond .ne 10, 3) := by decide +kernel
theorem dX7_run_109 : decode cX7_run 109 = .ok (.aload_n 0, 1) := by decide +kernel
theorem dX7_run_110 : decode cX7_run 110 = .ok (.invokevirtual 120, 3) := by decide +kernel
theorem dX7_run_113 : decode cX7_run 113 = .ok (.goto (-18), 3) := by decide +kernel
theorem dX7_run_116 : decode cX7_run 116 = .ok (.return_, 1) := by decide +kernel
set_option maxRecDepth 20000 in
theorem ggX7_item_X7_has : GoodIn wsX7_item wsX7_has := goodIn_r _ [17, 1, 18, 7, 19, 20, 21, 22, 23, 16, 24, 25, 26, 71, 72, 73, 74, 75, 76, 77, 78, 79, 80, 81, 82, 83, 84, 85, 86, 87, 88, 89, 90, 91, 92, 93, 94, 95, 96, 97, 98, 99, 100, 101, 102, 103] (by decide +kernel) (by decide +kernel)
set_option maxRecDepth 20000 in
theorem gX7_item_X7_has : GoodIn wsX7_item (wsV RX7 123 RX7 yX7_has wsX7_has) := goodIn_app (goodIn_of _ (by decide +kernel)) ggX7_item_X7_has
set_option maxRecDepth 20000 in
theorem ggX7_item_X7_steps : GoodIn wsX7_item wsX7_steps := goodIn_r _ [30, 2, 31, 21, 22, 23, 16, 24, 25, 26, 71, 72, 73, 74, 75, 76, 77, 78, 79, 80, 81, 82, 83, 84, 85, 86, 87, 88, 89, 90, 91, 92, 93, 94, 95, 96, 97, 98, 99, 100, 101, 102, 103] (by decide +kernel) (by decide +kernel)
set_option maxRecDepth 20000 in
theorem gX7_item_X7_steps : GoodIn wsX7_item (wsV RX7 79 RX7 yX7_steps wsX7_steps) := goodIn_app (goodIn_of _ (by decide +kernel)) ggX7_item_X7_steps
set_option maxRecDepth 20000 in
theorem ggX7_item_X7_fault : GoodIn wsX7_item wsX7_fault := goodIn_r _ [24, 25, 26, 71, 72, 73, 74, 75, 76, 77, 78, 79, 80, 81, 82, 83, 84, 85, 86, 87, 88, 89, 90, 91, 92, 93, 94, 95, 96, 97, 98, 99, 100, 101, 102, 103] (by decide +kernel) (by decide +kernel)
set_option maxRecDepth 20000 in
theorem gX7_item_X7_fault : GoodIn wsX7_item (wsV RX7 69 RX7 yX7_fault wsX7_fault) := goodIn_app (goodIn_of _ (by decide +kernel)) ggX7_item_X7_fault
set_option maxRecDepth 20000 in
theorem ggX7_item_X7_end : GoodIn wsX7_item wsX7_end := goodIn_r _ [35, 12, 7, 36, 37, 4, 1, 38, 20, 18, 19, 39, 25, 40, 13, 14, 15, 16, 17, 21, 22, 23, 24, 26, 41, 42, 43, 44, 45, 46, 2, 47, 27, 28, 29, 30, 31, 48, 49, 50, 51, 5, 6, 11, 9, 10, 71, 72, 73, 74, 75, 76, 77, 78, 79, 80, 81, 82, 83, 84, 85, 86, 87, 88, 89, 90, 91, 92, 93, 94, 95, 96, 97, 98, 99, 100, 101, 102, 103] (by decide +kernel) (by decide +kernel)
set_option maxRecDepth 20000 in
theorem gX7_item_X7_end : GoodIn wsX7_item (wsV RX7 126 RX7 yX7_end wsX7_end) := goodIn_app (goodIn_of _ (by decide +kernel)) ggX7_item_X7_end
set_option maxRecDepth 20000 in
theorem ggX7_item_X7_raw : GoodIn wsX7_item wsX7_raw := goodIn_r _ [55, 25, 4, 1, 13, 14, 15, 16, 17, 18, 7, 19, 20, 21, 22, 23, 24, 26, 41, 42, 43, 44, 40, 45, 12, 46, 2, 47, 36, 37, 27, 28, 29, 30, 31, 48, 49, 50, 51, 5, 6, 11, 9, 10, 71, 72, 73, 74, 75, 76, 77, 78, 79, 80, 81, 82, 83, 84, 85, 86, 87, 88, 89, 90, 91, 92, 93, 94, 95, 96, 97, 98, 99, 100, 101, 102, 103] (by decide +kernel) (by decide +kernel)
set_option maxRecDepth 20000 in
theorem gX7_item_X7_raw : GoodIn wsX7_item (wsV RX7 129 RX7 yX7_raw wsX7_raw) := goodIn_app (goodIn_of _ (by decide +kernel)) ggX7_item_X7_raw
set_option maxRecDepth 20000 in
theorem ggX7_item_X7_copy : GoodIn wsX7_item wsX7_copy := goodIn_r _ [59, 60, 4, 1, 12, 7, 25, 36, 37, 13, 14, 15, 16, 17, 18, 19, 20, 21, 22, 23, 24, 26, 41, 42, 43, 44, 40, 45, 46, 2, 47, 27, 28, 29, 30, 31, 48, 49, 50, 51, 5, 6, 11, 9, 10, 71, 72, 73, 74, 75, 76, 77, 78, 79, 80, 81, 82, 83, 84, 85, 86, 87, 88, 89, 90, 91, 92, 93, 94, 95, 96, 97, 98, 99, 100, 101, 102, 103] (by decide +kernel) (by decide +kernel)
set_option maxRecDepth 20000 in
theorem gX7_item_X7_copy : GoodIn wsX7_item (wsV RX7 132 RX7 yX7_copy wsX7_copy) := goodIn_app (goodIn_of _ (by decide +kernel)) ggX7_item_X7_copy
set_option maxRecDepth 20000 in
theorem ggX7_item_X7_inner : GoodIn wsX7_item wsX7_inner := goodIn_r _ [64, 65, 7, 1, 4, 18, 21, 22, 23, 16, 24, 25, 26, 13, 14, 15, 17, 19, 20, 66, 67, 68, 69, 37, 12, 39, 6, 5, 70, 71, 72, 73, 74, 75, 76, 77, 78, 79, 80, 81, 82, 83, 84, 85, 86, 87, 88, 89, 90, 91, 92, 93, 94, 95, 96, 97, 98, 99, 100, 101, 102, 103] (by decide +kernel) (by decide +kernel)
set_option maxRecDepth 20000 in
theorem gX7_item_X7_inner : GoodIn wsX7_item (wsV RX7 135 RX7 yX7_inner wsX7_inner) := goodIn_app (goodIn_of _ (by decide +kernel)) ggX7_item_X7_inner
theorem dX7_item_0 : decode cX7_item 0 = .ok (.aload_n 0, 1) := by decide +kernel
theorem dX7_item_1 : decode cX7_item 1 = .ok (.iconst 1, 1) := by decide +kernel
theorem dX7_item_2 : decode cX7_item 2 = .ok (.invokevirtual 123, 3) := by decide +kernel
theorem dX7_item_5 : decode cX7_item 5 = .ok (.ifCond .eq 14, 3) := by decide +kernel
theorem dX7_item_8 : decode cX7_item 8 = .ok (.aload_n 0, 1) := by decide +kernel
theorem dX7_item_9 : decode cX7_item 9 = .ok (.aload_n 0, 1) := by decide +kernel
theorem dX7_item_10 : decode cX7_item 10 = .ok (.getfield 63, 3) := by decide +kernel
theorem dX7_item_13 : decode cX7_item 13 = .ok (.invokevirtual 79, 3) := by decide +kernel
theorem dX7_item_16 : decode cX7_item 16 = .ok (.ifCond .ne 4, 3) := by decide +kernel
theorem dX7_item_19 : decode cX7_item 19 = .ok (.return_, 1) := by decide +kernel
theorem dX7_item_20 : decode cX7_item 20 = .ok (.aload_n 0, 1) := by decide +kernel
theorem dX7_item_21 : decode cX7_item 21 = .ok (.dup, 1) := by decide +kernel
theorem dX7_item_22 : decode cX7_item 22 = .ok (.getfield 73, 3) := by decide +kernel
theorem dX7_item_25 : decode cX7_item 25 = .ok (.iconst 1, 1) := by decide +kernel
theorem dX7_item_26 : decode cX7_item 26 = .ok (.iadd, 1) := by decide +kernel
theorem dX7_item_27 : decode cX7_item 27 = .ok (.putfield 73, 3) := by decide +kernel
theorem dX7_item_30 : decode cX7_item 30 = .ok (.aload_n 0, 1) := by decide +kernel
theorem dX7_item_31 : decode cX7_item 31 = .ok (.dup, 1) := by decide +kernel
theorem dX7_item_32 : decode cX7_item 32 = .ok (.getfield 104, 3) := by decide +kernel
theorem dX7_item_35 : decode cX7_item 35 = .ok (.iconst 1, 1) := by decide +kernel
theorem dX7_item_36 : decode cX7_item 36 = .ok (.iadd, 1) := by decide +kernel
theorem dX7_item_37 : decode cX7_item 37 = .ok (.putfield 104, 3) := by decide +kernel
theorem dX7_item_40 : decode cX7_item 40 = .ok (.aload_n 0, 1) := by decide +kernel
theorem dX7_item_41 : decode cX7_item 41 = .ok (.getfield 63, 3) := by decide +kernel
theorem dX7_item_44 : decode cX7_item 44 = .ok (.istore_n 1, 1) := by decide +kernel
theorem dX7_item_45 : decode cX7_item 45 = .ok (.aload_n 0, 1) := by decide +kernel
theorem dX7_item_46 : decode cX7_item 46 = .ok (.getfield 7, 3) := by decide +kernel
theorem dX7_item_49 : decode cX7_item 49 = .ok (.aload_n 0, 1) := by decide +kernel
theorem dX7_item_50 : decode cX7_item 50 = .ok (.getfield 63, 3) := by decide +kernel
theorem dX7_item_53 : decode cX7_item 53 = .ok (.iaload, 1) := by decide +kernel
theorem dX7_item_54 : decode cX7_item 54 = .ok (.istore_n 2, 1) := by decide +kernel
theorem dX7_item_55 : decode cX7_item 55 = .ok (.aload_n 0, 1) := by decide +kernel
theorem dX7_item_56 : decode cX7_item 56 = .ok (.dup, 1) := by decide +kernel
theorem dX7_item_57 : decode cX7_item 57 = .ok (.getfield 63, 3) := by decide +kernel
theorem dX7_item_60 : decode cX7_item 60 = .ok (.iconst 1, 1) := by decide +kernel
theorem dX7_item_61 : decode cX7_item 61 = .ok (.iadd, 1) := by decide +kernel
theorem dX7_item_62 : decode cX7_item 62 = .ok (.putfield 63, 3) := by decide +kernel
theorem dX7_item_65 : decode cX7_item 65 = .ok (.iload_n 2, 1) := by decide +kernel
theorem dX7_item_66 : decode cX7_item 66 = .ok (.ifCond .ne 36, 3) := by decide +kernel
theorem dX7_item_69 : decode cX7_item 69 = .ok (.aload_n 0, 1) := by decide +kernel
theorem dX7_item_70 : decode cX7_item 70 = .ok (.getfield 94, 3) := by decide +kernel
theorem dX7_item_73 : decode cX7_item 73 = .ok (.aload_n 0, 1) := by decide +kernel
theorem dX7_item_74 : decode cX7_item 74 = .ok (.getfield 28, 3) := by decide +kernel
theorem dX7_item_77 : decode cX7_item 77 = .ok (.aload_n 0, 1) := by decide +kernel
theorem dX7_item_78 : decode cX7_item 78 = .ok (.getfield 66, 3) := by decide +kernel
theorem dX7_item_81 : decode cX7_item 81 = .ok (.iaload, 1) := by decide +kernel
theorem dX7_item_82 : decode cX7_item 82 = .ok (.if_icmp .le 13, 3) := by decide +kernel
theorem dX7_item_85 : decode cX7_item 85 = .ok (.aload_n 0, 1) := by decide +kernel
theorem dX7_item_86 : decode cX7_item 86 = .ok (.bipush 7, 2) := by decide +kernel
theorem dX7_item_88 : decode cX7_item 88 = .ok (.iload_n 1, 1) := by decide +kernel
theorem dX7_item_89 : decode cX7_item 89 = .ok (.invokevirtual 69, 3) := by decide +kernel
theorem dX7_item_92 : decode cX7_item 92 = .ok (.goto 190, 3) := by decide +kernel
theorem dX7_item_95 : decode cX7_item 95 = .ok (.aload_n 0, 1) := by decide +kernel
theorem dX7_item_96 : decode cX7_item 96 = .ok (.invokevirtual 126, 3) := by decide +kernel
theorem dX7_item_99 : decode cX7_item 99 = .ok (.goto 183, 3) := by decide +kernel
theorem dX7_item_102 : decode cX7_item 102 = .ok (.iload_n 2, 1) := by decide +kernel
theorem dX7_item_103 : decode cX7_item 103 = .ok (.bipush 64, 2) := by decide +kernel
theorem dX7_item_105 : decode cX7_item 105 = .ok (.if_icmp .ge 12, 3) := by decide +kernel
theorem dX7_item_108 : decode cX7_item 108 = .ok (.aload_n 0, 1) := by decide +kernel
theorem dX7_item_109 : decode cX7_item 109 = .ok (.iload_n 2, 1) := by decide +kernel
theorem dX7_item_110 : decode cX7_item 110 = .ok (.iload_n 1, 1) := by decide +kernel
theorem dX7_item_111 : decode cX7_item 111 = .ok (.invokevirtual 129, 3) := by decide +kernel
theorem dX7_item_114 : decode cX7_item 114 = .ok (.goto 168, 3) := by decide +kernel
theorem dX7_item_117 : decode cX7_item 117 = .ok (.iload_n 2, 1) := by decide +kernel
theorem dX7_item_118 : decode cX7_item 118 = .ok (.sipush 128, 3) := by decide +kernel
theorem dX7_item_121 : decode cX7_item 121 = .ok (.if_icmp .ge 15, 3) := by decide +kernel
theorem dX7_item_124 : decode cX7_item 124 = .ok (.aload_n 0, 1) := by decide +kernel
theorem dX7_item_125 : decode cX7_item 125 = .ok (.iload_n 2, 1) := by decide +kernel
theorem dX7_item_126 : decode cX7_item 126 = .ok (.bipush 62, 2) := by decide +kernel
theorem dX7_item_128 : decode cX7_item 128 = .ok (.isub, 1) := by decide +kernel
theorem dX7_item_129 : decode cX7_item 129 = .ok (.iload_n 1, 1) := by decide +kernel
theorem dX7_item_130 : decode cX7_item 130 = .ok (.invokevirtual 132, 3) := by decide +kernel
theorem dX7_item_133 : decode cX7_item 133 = .ok (.goto 149, 3) := by decide +kernel
theorem dX7_item_136 : decode cX7_item 136 = .ok (.iload_n 2, 1) := by decide +kernel
theorem dX7_item_137 : decode cX7_item 137 = .ok (.sipush 192, 3) := by decide +kernel
theorem dX7_item_140 : decode cX7_item 140 = .ok (.if_icmp .ge 77, 3) := by decide +kernel
theorem dX7_item_143 : decode cX7_item 143 = .ok (.aload_n 0, 1) := by decide +kernel
theorem dX7_item_144 : decode cX7_item 144 = .ok (.aload_n 0, 1) := by decide +kernel
theorem dX7_item_145 : decode cX7_item 145 = .ok (.getfield 113, 3) := by decide +kernel
theorem dX7_item_148 : decode cX7_item 148 = .ok (.iconst (-1), 1) := by decide +kernel
theorem dX7_item_149 : decode cX7_item 149 = .ok (.if_icmp .ne 7, 3) := by decide +kernel
theorem dX7_item_152 : decode cX7_item 152 = .ok (.iload_n 1, 1) := by decide +kernel
theorem dX7_item_153 : decode cX7_item 153 = .ok (.goto 7, 3) := by decide +kernel
theorem dX7_item_156 : decode cX7_item 156 = .ok (.aload_n 0, 1) := by decide +kernel
theorem dX7_item_157 : decode cX7_item 157 = .ok (.getfield 113, 3) := by decide +kernel
theorem dX7_item_160 : decode cX7_item 160 = .ok (.putfield 113, 3) := by decide +kernel
theorem dX7_item_163 : decode cX7_item 163 = .ok (.aload_n 0, 1) := by decide +kernel
theorem dX7_item_164 : decode cX7_item 164 = .ok (.getfield 34, 3) := by decide +kernel
theorem dX7_item_167 : decode cX7_item 167 = .ok (.aload_n 0, 1) := by decide +kernel
theorem dX7_item_168 : decode cX7_item 168 = .ok (.getfield 94, 3) := by decide +kernel
theorem dX7_item_171 : decode cX7_item 171 = .ok (.iload_n 2, 1) := by decide +kernel
theorem dX7_item_172 : decode cX7_item 172 = .ok (.bipush 126, 2) := by decide +kernel
theorem dX7_item_174 : decode cX7_item 174 = .ok (.isub, 1) := by decide +kernel
theorem dX7_item_175 : decode cX7_item 175 = .ok (.iastore, 1) := by decide +kernel
theorem dX7_item_176 : decode cX7_item 176 = .ok (.aload_n 0, 1) := by decide +kernel
theorem dX7_item_177 : decode cX7_item 177 = .ok (.getfield 37, 3) := by decide +kernel
theorem dX7_item_180 : decode cX7_item 180 = .ok (.aload_n 0, 1) := by decide +kernel
theorem dX7_item_181 : decode cX7_item 181 = .ok (.getfield 94, 3) := by decide +kernel
theorem dX7_item_184 : decode cX7_item 184 = .ok (.iload_n 1, 1) := by decide +kernel
theorem dX7_item_185 : decode cX7_item 185 = .ok (.iastore, 1) := by decide +kernel
theorem dX7_item_186 : decode cX7_item 186 = .ok (.aload_n 0, 1) := by decide +kernel
theorem dX7_item_187 : decode cX7_item 187 = .ok (.getfield 40, 3) := by decide +kernel
theorem dX7_item_190 : decode cX7_item 190 = .ok (.aload_n 0, 1) := by decide +kernel
theorem dX7_item_191 : decode cX7_item 191 = .ok (.getfield 94, 3) := by decide +kernel
theorem dX7_item_194 : decode cX7_item 194 = .ok (.aload_n 0, 1) := by decide +kernel
theorem dX7_item_195 : decode cX7_item 195 = .ok (.getfield 16, 3) := by decide +kernel
theorem dX7_item_198 : decode cX7_item 198 = .ok (.aload_n 0, 1) := by decide +kernel
theorem dX7_item_199 : decode cX7_item 199 = .ok (.getfield 66, 3) := by decide +kernel
theorem dX7_item_202 : decode cX7_item 202 = .ok (.iaload, 1) := by decide +kernel
theorem dX7_item_203 : decode cX7_item 203 = .ok (.iastore, 1) := by decide +kernel
theorem dX7_item_204 : decode cX7_item 204 = .ok (.aload_n 0, 1) := by decide +kernel
theorem dX7_item_205 : decode cX7_item 205 = .ok (.dup, 1) := by decide +kernel
theorem dX7_item_206 : decode cX7_item 206 = .ok (.getfield 94, 3) := by decide +kernel
theorem dX7_item_209 : decode cX7_item 209 = .ok (.iconst 1, 1) := by decide +kernel
theorem dX7_item_210 : decode cX7_item 210 = .ok (.iadd, 1) := by decide +kernel
theorem dX7_item_211 : decode cX7_item 211 = .ok (.putfield 94, 3) := by decide +kernel
theorem dX7_item_214 : decode cX7_item 214 = .ok (.goto 68, 3) := by decide +kernel
theorem dX7_item_217 : decode cX7_item 217 = .ok (.iload_n 2, 1) := by decide +kernel
theorem dX7_item_218 : decode cX7_item 218 = .ok (.sipush 255, 3) := by decide +kernel
theorem dX7_item_221 : decode cX7_item 221 = .ok (.if_icmp .ge 11, 3) := by decide +kernel
theorem dX7_item_224 : decode cX7_item 224 = .ok (.aload_n 0, 1) := by decide +kernel
theorem dX7_item_225 : decode cX7_item 225 = .ok (.iload_n 1, 1) := by decide +kernel
theorem dX7_item_226 : decode cX7_item 226 = .ok (.invokevirtual 135, 3) := by decide +kernel
theorem dX7_item_229 : decode cX7_item 229 = .ok (.goto 53, 3) := by decide +kernel
theorem dX7_item_232 : decode cX7_item 232 = .ok (.aload_n 0, 1) := by decide +kernel
theorem dX7_item_233 : decode cX7_item 233 = .ok (.iconst 2, 1) := by decide +kernel
theorem dX7_item_234 : decode cX7_item 234 = .ok (.invokevirtual 123, 3) := by decide +kernel
theorem dX7_item_237 : decode cX7_item 237 = .ok (.ifCond .eq 45, 3) := by decide +kernel
theorem dX7_item_240 : decode cX7_item 240 = .ok (.sipush 256, 3) := by decide +kernel
theorem dX7_item_243 : decode cX7_item 243 = .ok (.aload_n 0, 1) := by decide +kernel
theorem dX7_item_244 : decode cX7_item 244 = .ok (.getfield 7, 3) := by decide +kernel
theorem dX7_item_247 : decode cX7_item 247 = .ok (.aload_n 0, 1) := by decide +kernel
theorem dX7_item_248 : decode cX7_item 248 = .ok (.getfield 63, 3) := by decide +kernel
theorem dX7_item_251 : decode cX7_item 251 = .ok (.iaload, 1) := by decide +kernel
theorem dX7_item_252 : decode cX7_item 252 = .ok (.imul, 1) := by decide +kernel
theorem dX7_item_253 : decode cX7_item 253 = .ok (.aload_n 0, 1) := by decide +kernel
theorem dX7_item_254 : decode cX7_item 254 = .ok (.getfield 7, 3) := by decide +kernel
theorem dX7_item_257 : decode cX7_item 257 = .ok (.aload_n 0, 1) := by decide +kernel
theorem dX7_item_258 : decode cX7_item 258 = .ok (.getfield 63, 3) := by decide +kernel
theorem dX7_item_261 : decode cX7_item 261 = .ok (.iconst 1, 1) := by decide +kernel
theorem dX7_item_262 : decode cX7_item 262 = .ok (.iadd, 1) := by decide +kernel
theorem dX7_item_263 : decode cX7_item 263 = .ok (.iaload, 1) := by decide +kernel
theorem dX7_item_264 : decode cX7_item 264 = .ok (.iadd, 1) := by decide +kernel
theorem dX7_item_265 : decode cX7_item 265 = .ok (.istore_n 3, 1) := by decide +kernel
theorem dX7_item_266 : decode cX7_item 266 = .ok (.aload_n 0, 1) := by decide +kernel
theorem dX7_item_267 : decode cX7_item 267 = .ok (.dup, 1) := by decide +kernel
theorem dX7_item_268 : decode cX7_item 268 = .ok (.getfield 63, 3) := by decide +kernel
theorem dX7_item_271 : decode cX7_item 271 = .ok (.iconst 2, 1) := by decide +kernel
theorem dX7_item_272 : decode cX7_item 272 = .ok (.iadd, 1) := by decide +kernel
theorem dX7_item_273 : decode cX7_item 273 = .ok (.putfield 63, 3) := by decide +kernel
theorem dX7_item_276 : decode cX7_item 276 = .ok (.aload_n 0, 1) := by decide +kernel
theorem dX7_item_277 : decode cX7_item 277 = .ok (.iload_n 3, 1) := by decide +kernel
theorem dX7_item_278 : decode cX7_item 278 = .ok (.iload_n 1, 1) := by decide +kernel
theorem dX7_item_279 : decode cX7_item 279 = .ok (.invokevirtual 129, 3) := by decide +kernel
theorem dX7_item_282 : decode cX7_item 282 = .ok (.return_, 1) := by decide +kernel
set_option maxRecDepth 20000 in
theorem ggX7_raw_X7_has : GoodIn wsX7_raw wsX7_has := goodIn_r _ [8, 3, 9, 10, 11, 12, 13, 14, 15, 7, 16, 1, 17, 44, 45, 46, 47, 48, 49, 50, 51, 52, 53, 54, 55, 56, 57, 58, 59, 60, 61, 62, 63, 64, 65, 66, 67, 68, 69, 70, 71, 72, 73, 74, 75, 76] (by decide +kernel) (by decide +kernel)
set_option maxRecDepth 20000 in
theorem gX7_raw_X7_has : GoodIn wsX7_raw (wsV RX7 123 RX7 yX7_has wsX7_has) := goodIn_app (goodIn_of _ (by decide +kernel)) ggX7_raw_X7_has
set_option maxRecDepth 20000 in
theorem ggX7_raw_X7_give : GoodIn wsX7_raw wsX7_give := goodIn_r _ [21, 22, 23, 10, 24, 25, 26, 27, 28, 29, 30, 31, 32, 7, 33, 34, 13, 14, 15, 16, 1, 17, 44, 45, 46, 47, 48, 49, 50, 51, 52, 53, 54, 55, 56, 57, 58, 59, 60, 61, 62, 63, 64, 65, 66, 67, 68, 69, 70, 71, 72, 73, 74, 75, 76] (by decide +kernel) (by decide +kernel)
set_option maxRecDepth 20000 in
theorem gX7_raw_X7_give : GoodIn wsX7_raw (wsV RX7 139 RX7 yX7_give wsX7_give) := goodIn_app (goodIn_of _ (by decide +kernel)) ggX7_raw_X7_give
set_option maxRecDepth 20000 in
theorem ggX7_raw_X7_done : GoodIn wsX7_raw wsX7_done := goodIn_r _ [38, 1, 39, 40, 10, 29, 41, 24, 42, 28, 43, 18, 19, 20, 7, 21, 22, 23, 25, 26, 27, 30, 31, 32, 33, 34, 13, 14, 15, 16, 17, 44, 45, 46, 47, 48, 49, 50, 51, 52, 53, 54, 55, 56, 57, 58, 59, 60, 61, 62, 63, 64, 65, 66, 67, 68, 69, 70, 71, 72, 73, 74, 75, 76] (by decide +kernel) (by decide +kernel)
set_option maxRecDepth 20000 in
theorem gX7_raw_X7_done : GoodIn wsX7_raw (wsV RX7 143 RX7 yX7_done wsX7_done) := goodIn_app (goodIn_of _ (by decide +kernel)) ggX7_raw_X7_done
theorem dX7_raw_0 : decode cX7_raw 0 = .ok (.aload_n 0, 1) := by decide +kernel
theorem dX7_raw_1 : decode cX7_raw 1 = .ok (.iload_n 1, 1) := by decide +kernel
theorem dX7_raw_2 : decode cX7_raw 2 = .ok (.invokevirtual 123, 3) := by decide +kernel
theorem dX7_raw_5 : decode cX7_raw 5 = .ok (.ifCond .ne 4, 3) := by decide +kernel
theorem dX7_raw_8 : decode cX7_raw 8 = .ok (.return_, 1) := by decide +kernel
theorem dX7_raw_9 : decode cX7_raw 9 = .ok (.iconst 0, 1) := by decide +kernel
theorem dX7_raw_10 : decode cX7_raw 10 = .ok (.istore_n 3, 1) := by decide +kernel
theorem dX7_raw_11 : decode cX7_raw 11 = .ok (.iload_n 3, 1) := by decide +kernel
theorem dX7_raw_12 : decode cX7_raw 12 = .ok (.iload_n 1, 1) := by decide +kernel
theorem dX7_raw_13 : decode cX7_raw 13 = .ok (.if_icmp .ge 43, 3) := by decide +kernel
theorem dX7_raw_16 : decode cX7_raw 16 = .ok (.aload_n 0, 1) := by decide +kernel
theorem dX7_raw_17 : decode cX7_raw 17 = .ok (.getfield 57, 3) := by decide +kernel
theorem dX7_raw_20 : decode cX7_raw 20 = .ok (.ifCond .ne 36, 3) := by decide +kernel
theorem dX7_raw_23 : decode cX7_raw 23 = .ok (.aload_n 0, 1) := by decide +kernel
theorem dX7_raw_24 : decode cX7_raw 24 = .ok (.aload_n 0, 1) := by decide +kernel
theorem dX7_raw_25 : decode cX7_raw 25 = .ok (.getfield 7, 3) := by decide +kernel
theorem dX7_raw_28 : decode cX7_raw 28 = .ok (.aload_n 0, 1) := by decide +kernel
theorem dX7_raw_29 : decode cX7_raw 29 = .ok (.getfield 63, 3) := by decide +kernel
theorem dX7_raw_32 : decode cX7_raw 32 = .ok (.iaload, 1) := by decide +kernel
theorem dX7_raw_33 : decode cX7_raw 33 = .ok (.iload_n 2, 1) := by decide +kernel
theorem dX7_raw_34 : decode cX7_raw 34 = .ok (.invokevirtual 139, 3) := by decide +kernel
theorem dX7_raw_37 : decode cX7_raw 37 = .ok (.ifCond .eq 13, 3) := by decide +kernel
theorem dX7_raw_40 : decode cX7_raw 40 = .ok (.aload_n 0, 1) := by decide +kernel
theorem dX7_raw_41 : decode cX7_raw 41 = .ok (.dup, 1) := by decide +kernel
theorem dX7_raw_42 : decode cX7_raw 42 = .ok (.getfield 63, 3) := by decide +kernel
theorem dX7_raw_45 : decode cX7_raw 45 = .ok (.iconst 1, 1) := by decide +kernel
theorem dX7_raw_46 : decode cX7_raw 46 = .ok (.iadd, 1) := by decide +kernel
theorem dX7_raw_47 : decode cX7_raw 47 = .ok (.putfield 63, 3) := by decide +kernel
theorem dX7_raw_50 : decode cX7_raw 50 = .ok (.iinc 3 1, 3) := by decide +kernel
theorem dX7_raw_53 : decode cX7_raw 53 = .ok (.goto (-42), 3) := by decide +kernel
theorem dX7_raw_56 : decode cX7_raw 56 = .ok (.aload_n 0, 1) := by decide +kernel
theorem dX7_raw_57 : decode cX7_raw 57 = .ok (.invokevirtual 143, 3) := by decide +kernel
theorem dX7_raw_60 : decode cX7_raw 60 = .ok (.return_, 1) := by decide +kernel
set_option maxRecDepth 20000 in
theorem ggX7_copy_X7_has : GoodIn wsX7_copy wsX7_has := goodIn_r _ [13, 3, 14, 5, 15, 16, 17, 18, 19, 12, 20, 6, 21, 45, 46, 47, 48, 49, 50, 51, 52, 53, 54, 55, 56, 57, 58, 59, 60, 61, 62, 63, 64, 65, 66, 67, 68, 69, 70, 71, 72, 73, 74, 75, 76, 77] (by decide +kernel) (by decide +kernel)
set_option maxRecDepth 20000 in
theorem gX7_copy_X7_has : GoodIn wsX7_copy (wsV RX7 123 RX7 yX7_has wsX7_has) := goodIn_app (goodIn_of _ (by decide +kernel)) ggX7_copy_X7_has
set_option maxRecDepth 20000 in
theorem ggX7_copy_X7_fault : GoodIn wsX7_copy wsX7_fault := goodIn_r _ [20, 6, 21, 45, 46, 47, 48, 49, 50, 51, 52, 53, 54, 55, 56, 57, 58, 59, 60, 61, 62, 63, 64, 65, 66, 67, 68, 69, 70, 71, 72, 73, 74, 75, 76, 77] (by decide +kernel) (by decide +kernel)
set_option maxRecDepth 20000 in
theorem gX7_copy_X7_fault : GoodIn wsX7_copy (wsV RX7 69 RX7 yX7_fault wsX7_fault) := goodIn_app (goodIn_of _ (by decide +kernel)) ggX7_copy_X7_fault
set_option maxRecDepth 20000 in
theorem ggX7_copy_X7_give : GoodIn wsX7_copy wsX7_give := goodIn_r _ [25, 26, 27, 5, 4, 28, 29, 30, 7, 8, 31, 32, 33, 12, 34, 35, 17, 18, 19, 20, 6, 21, 45, 46, 47, 48, 49, 50, 51, 52, 53, 54, 55, 56, 57, 58, 59, 60, 61, 62, 63, 64, 65, 66, 67, 68, 69, 70, 71, 72, 73, 74, 75, 76, 77] (by decide +kernel) (by decide +kernel)
set_option maxRecDepth 20000 in
theorem gX7_copy_X7_give : GoodIn wsX7_copy (wsV RX7 139 RX7 yX7_give wsX7_give) := goodIn_app (goodIn_of _ (by decide +kernel)) ggX7_copy_X7_give
set_option maxRecDepth 20000 in
theorem ggX7_copy_X7_done : GoodIn wsX7_copy wsX7_done := goodIn_r _ [39, 6, 40, 41, 5, 8, 42, 4, 43, 7, 44, 22, 23, 24, 12, 25, 26, 27, 28, 29, 30, 31, 32, 33, 34, 35, 17, 18, 19, 20, 21, 45, 46, 47, 48, 49, 50, 51, 52, 53, 54, 55, 56, 57, 58, 59, 60, 61, 62, 63, 64, 65, 66, 67, 68, 69, 70, 71, 72, 73, 74, 75, 76, 77] (by decide +kernel) (by decide +kernel)
set_option maxRecDepth 20000 in
theorem gX7_copy_X7_done : GoodIn wsX7_copy (wsV RX7 143 RX7 yX7_done wsX7_done) := goodIn_app (goodIn_of _ (by decide +kernel)) ggX7_copy_X7_done
theorem dX7_copy_0 : decode cX7_copy 0 = .ok (.aload_n 0, 1) := by decide +kernel
theorem dX7_copy_1 : decode cX7_copy 1 = .ok (.aload_n 0, 1) := by decide +kernel
theorem dX7_copy_2 : decode cX7_copy 2 = .ok (.getfield 110, 3) := by decide +kernel
theorem dX7_copy_5 : decode cX7_copy 5 = .ok (.iconst (-1), 1) := by decide +kernel
theorem dX7_copy_6 : decode cX7_copy 6 = .ok (.if_icmp .ne 7, 3) := by decide +kernel
theorem dX7_copy_9 : decode cX7_copy 9 = .ok (.iload_n 2, 1) := by decide +kernel
theorem dX7_copy_10 : decode cX7_copy 10 = .ok (.goto 7, 3) := by decide +kernel
theorem dX7_copy_13 : decode cX7_copy 13 = .ok (.aload_n 0, 1) := by decide +kernel
theorem dX7_copy_14 : decode cX7_copy 14 = .ok (.getfield 110, 3) := by decide +kernel
theorem dX7_copy_17 : decode cX7_copy 17 = .ok (.putfield 110, 3) := by decide +kernel
theorem dX7_copy_20 : decode cX7_copy 20 = .ok (.aload_n 0, 1) := by decide +kernel
theorem dX7_copy_21 : decode cX7_copy 21 = .ok (.iconst 1, 1) := by decide +kernel
theorem dX7_copy_22 : decode cX7_copy 22 = .ok (.invokevirtual 123, 3) := by decide +kernel
theorem dX7_copy_25 : decode cX7_copy 25 = .ok (.ifCond .ne 4, 3) := by decide +kernel
theorem dX7_copy_28 : decode cX7_copy 28 = .ok (.return_, 1) := by decide +kernel
theorem dX7_copy_29 : decode cX7_copy 29 = .ok (.aload_n 0, 1) := by decide +kernel
theorem dX7_copy_30 : decode cX7_copy 30 = .ok (.getfield 7, 3) := by decide +kernel
theorem dX7_copy_33 : decode cX7_copy 33 = .ok (.aload_n 0, 1) := by decide +kernel
theorem dX7_copy_34 : decode cX7_copy 34 = .ok (.getfield 63, 3) := by decide +kernel
theorem dX7_copy_37 : decode cX7_copy 37 = .ok (.iaload, 1) := by decide +kernel
theorem dX7_copy_38 : decode cX7_copy 38 = .ok (.iconst 1, 1) := by decide +kernel
theorem dX7_copy_39 : decode cX7_copy 39 = .ok (.iadd, 1) := by decide +kernel
theorem dX7_copy_40 : decode cX7_copy 40 = .ok (.istore_n 3, 1) := by decide +kernel
theorem dX7_copy_41 : decode cX7_copy 41 = .ok (.iload_n 3, 1) := by decide +kernel
theorem dX7_copy_42 : decode cX7_copy 42 = .ok (.aload_n 0, 1) := by decide +kernel
theorem dX7_copy_43 : decode cX7_copy 43 = .ok (.getfield 16, 3) := by decide +kernel
theorem dX7_copy_46 : decode cX7_copy 46 = .ok (.aload_n 0, 1) := by decide +kernel
theorem dX7_copy_47 : decode cX7_copy 47 = .ok (.getfield 66, 3) := by decide +kernel
theorem dX7_copy_50 : decode cX7_copy 50 = .ok (.iaload, 1) := by decide +kernel
theorem dX7_copy_51 : decode cX7_copy 51 = .ok (.if_icmp .le 13, 3) := by decide +kernel
theorem dX7_copy_54 : decode cX7_copy 54 = .ok (.aload_n 0, 1) := by decide +kernel
theorem dX7_copy_55 : decode cX7_copy 55 = .ok (.iconst 3, 1) := by decide +kernel
theorem dX7_copy_56 : decode cX7_copy 56 = .ok (.aload_n 0, 1) := by decide +kernel
theorem dX7_copy_57 : decode cX7_copy 57 = .ok (.getfield 63, 3) := by decide +kernel
theorem dX7_copy_60 : decode cX7_copy 60 = .ok (.invokevirtual 69, 3) := by decide +kernel
theorem dX7_copy_63 : decode cX7_copy 63 = .ok (.return_, 1) := by decide +kernel
theorem dX7_copy_64 : decode cX7_copy 64 = .ok (.aload_n 0, 1) := by decide +kernel
theorem dX7_copy_65 : decode cX7_copy 65 = .ok (.dup, 1) := by decide +kernel
theorem dX7_copy_66 : decode cX7_copy 66 = .ok (.getfield 63, 3) := by decide +kernel
theorem dX7_copy_69 : decode cX7_copy 69 = .ok (.iconst 1, 1) := by decide +kernel
theorem dX7_copy_70 : decode cX7_copy 70 = .ok (.iadd, 1) := by decide +kernel
theorem dX7_copy_71 : decode cX7_copy 71 = .ok (.putfield 63, 3) := by decide +kernel
theorem dX7_copy_74 : decode cX7_copy 74 = .ok (.iconst 0, 1) := by decide +kernel
theorem dX7_copy_75 : decode cX7_copy 75 = .ok (.istore 4, 2) := by decide +kernel
theorem dX7_copy_77 : decode cX7_copy 77 = .ok (.iload 4, 2) := by decide +kernel
theorem dX7_copy_79 : decode cX7_copy 79 = .ok (.iload_n 1, 1) := by decide +kernel
theorem dX7_copy_80 : decode cX7_copy 80 = .ok (.if_icmp .ge 49, 3) := by decide +kernel
theorem dX7_copy_83 : decode cX7_copy 83 = .ok (.aload_n 0, 1) := by decide +kernel
theorem dX7_copy_84 : decode cX7_copy 84 = .ok (.getfield 57, 3) := by decide +kernel
theorem dX7_copy_87 : decode cX7_copy 87 = .ok (.ifCond .ne 42, 3) := by decide +kernel
theorem dX7_copy_90 : decode cX7_copy 90 = .ok (.aload_n 0, 1) := by decide +kernel
theorem dX7_copy_91 : decode cX7_copy 91 = .ok (.aload_n 0, 1) := by decide +kernel
theorem dX7_copy_92 : decode cX7_copy 92 = .ok (.getfield 31, 3) := by decide +kernel
theorem dX7_copy_95 : decode cX7_copy 95 = .ok (.aload_n 0, 1) := by decide +kernel
theorem dX7_copy_96 : decode cX7_copy 96 = .ok (.getfield 13, 3) := by decide +kernel
theorem dX7_copy_99 : decode cX7_copy 99 = .ok (.aload_n 0, 1) := by decide +kernel
theorem dX7_copy_100 : decode cX7_copy 100 = .ok (.getfield 66, 3) := by decide +kernel
theorem dX7_copy_103 : decode cX7_copy 103 = .ok (.iaload, 1) := by decide +kernel
theorem dX7_copy_104 : decode cX7_copy 104 = .ok (.aload_n 0, 1) := by decide +kernel
theorem dX7_copy_105 : decode cX7_copy 105 = .ok (.getfield 16, 3) := by decide +kernel
theorem dX7_copy_108 : decode cX7_copy 108 = .ok (.aload_n 0, 1) := by decide +kernel
theorem dX7_copy_109 : decode cX7_copy 109 = .ok (.getfield 66, 3) := by decide +kernel
theorem dX7_copy_112 : decode cX7_copy 112 = .ok (.iaload, 1) := by decide +kernel
theorem dX7_copy_113 : decode cX7_copy 113 = .ok (.iadd, 1) := by decide +kernel
theorem dX7_copy_114 : decode cX7_copy 114 = .ok (.iload_n 3, 1) := by decide +kernel
theorem dX7_copy_115 : decode cX7_copy 115 = .ok (.isub, 1) := by decide +kernel
theorem dX7_copy_116 : decode cX7_copy 116 = .ok (.iaload, 1) := by decide +kernel
theorem dX7_copy_117 : decode cX7_copy 117 = .ok (.iload_n 2, 1) := by decide +kernel
theorem dX7_copy_118 : decode cX7_copy 118 = .ok (.invokevirtual 139, 3) := by decide +kernel
theorem dX7_copy_121 : decode cX7_copy 121 = .ok (.istore 5, 2) := by decide +kernel
theorem dX7_copy_123 : decode cX7_copy 123 = .ok (.iinc 4 1, 3) := by decide +kernel
theorem dX7_copy_126 : decode cX7_copy 126 = .ok (.goto (-49), 3) := by decide +kernel
theorem dX7_copy_129 : decode cX7_copy 129 = .ok (.aload_n 0, 1) := by decide +kernel
theorem dX7_copy_130 : decode cX7_copy 130 = .ok (.invokevirtual 143, 3) := by decide +kernel
theorem dX7_copy_133 : decode cX7_copy 133 = .ok (.return_, 1) := by decide +kernel
set_option maxRecDepth 20000 in
theorem ggX7_inner_X7_fault : GoodIn wsX7_inner wsX7_fault := goodIn_r _ [10, 11, 12, 29, 30, 31, 32, 33, 34, 35, 36, 37, 38, 39, 40, 41, 42, 43, 44, 45, 46, 47, 48, 49, 50, 51, 52, 53, 54, 55, 56, 57, 58, 59, 60, 61] (by decide +kernel) (by decide +kernel)
set_option maxRecDepth 20000 in
theorem gX7_inner_X7_fault : GoodIn wsX7_inner (wsV RX7 69 RX7 yX7_fault wsX7_fault) := goodIn_app (goodIn_of _ (by decide +kernel)) ggX7_inner_X7_fault
set_option maxRecDepth 20000 in
theorem ggX7_inner_X7_has : GoodIn wsX7_inner wsX7_has := goodIn_r _ [16, 3, 5, 2, 17, 18, 6, 7, 8, 9, 10, 11, 12, 29, 30, 31, 32, 33, 34, 35, 36, 37, 38, 39, 40, 41, 42, 43, 44, 45, 46, 47, 48, 49, 50, 51, 52, 53, 54, 55, 56, 57, 58, 59, 60, 61] (by decide +kernel) (by decide +kernel)
set_option maxRecDepth 20000 in
theorem gX7_inner_X7_has : GoodIn wsX7_inner (wsV RX7 123 RX7 yX7_has wsX7_has) := goodIn_app (goodIn_of _ (by decide +kernel)) ggX7_inner_X7_has
set_option maxRecDepth 20000 in
theorem ggX7_inner_X7_opens : GoodIn wsX7_inner wsX7_opens := goodIn_r _ [22, 23, 2, 24, 5, 25, 17, 26, 27, 28, 29, 30, 31, 32, 33, 34, 35, 36, 37, 38, 39, 40, 41, 42, 43, 44, 45, 46, 47, 48, 49, 50, 51, 52, 53, 54, 55, 56, 57, 58, 59, 60, 61] (by decide +kernel) (by decide +kernel)
set_option maxRecDepth 20000 in
theorem gX7_inner_X7_opens : GoodIn wsX7_inner (wsV RX7 116 RX7 yX7_opens wsX7_opens) := goodIn_app (goodIn_of _ (by decide +kernel)) ggX7_inner_X7_opens
theorem dX7_inner_0 : decode cX7_inner 0 = .ok (.aload_n 0, 1) := by decide +kernel
theorem dX7_inner_1 : decode cX7_inner 1 = .ok (.aload_n 0, 1) := by decide +kernel
theorem dX7_inner_2 : decode cX7_inner 2 = .ok (.getfield 107, 3) := by decide +kernel
theorem dX7_inner_5 : decode cX7_inner 5 = .ok (.iconst (-1), 1) := by decide +kernel
theorem dX7_inner_6 : decode cX7_inner 6 = .ok (.if_icmp .ne 7, 3) := by decide +kernel
theorem dX7_inner_9 : decode cX7_inner 9 = .ok (.iload_n 1, 1) := by decide +kernel
theorem dX7_inner_10 : decode cX7_inner 10 = .ok (.goto 7, 3) := by decide +kernel
theorem dX7_inner_13 : decode cX7_inner 13 = .ok (.aload_n 0, 1) := by decide +kernel
theorem dX7_inner_14 : decode cX7_inner 14 = .ok (.getfield 107, 3) := by decide +kernel
theorem dX7_inner_17 : decode cX7_inner 17 = .ok (.putfield 107, 3) := by decide +kernel
theorem dX7_inner_20 : decode cX7_inner 20 = .ok (.aload_n 0, 1) := by decide +kernel
theorem dX7_inner_21 : decode cX7_inner 21 = .ok (.getfield 66, 3) := by decide +kernel
theorem dX7_inner_24 : decode cX7_inner 24 = .ok (.iconst 1, 1) := by decide +kernel
theorem dX7_inner_25 : decode cX7_inner 25 = .ok (.iadd, 1) := by decide +kernel
theorem dX7_inner_26 : decode cX7_inner 26 = .ok (.bipush 6, 2) := by decide +kernel
theorem dX7_inner_28 : decode cX7_inner 28 = .ok (.if_icmp .ne 11, 3) := by decide +kernel
theorem dX7_inner_31 : decode cX7_inner 31 = .ok (.aload_n 0, 1) := by decide +kernel
theorem dX7_inner_32 : decode cX7_inner 32 = .ok (.bipush 6, 2) := by decide +kernel
theorem dX7_inner_34 : decode cX7_inner 34 = .ok (.iload_n 1, 1) := by decide +kernel
theorem dX7_inner_35 : decode cX7_inner 35 = .ok (.invokevirtual 69, 3) := by decide +kernel
theorem dX7_inner_38 : decode cX7_inner 38 = .ok (.return_, 1) := by decide +kernel
theorem dX7_inner_39 : decode cX7_inner 39 = .ok (.aload_n 0, 1) := by decide +kernel
theorem dX7_inner_40 : decode cX7_inner 40 = .ok (.iconst 1, 1) := by decide +kernel
theorem dX7_inner_41 : decode cX7_inner 41 = .ok (.invokevirtual 123, 3) := by decide +kernel
theorem dX7_inner_44 : decode cX7_inner 44 = .ok (.ifCond .ne 4, 3) := by decide +kernel
theorem dX7_inner_47 : decode cX7_inner 47 = .ok (.return_, 1) := by decide +kernel
theorem dX7_inner_48 : decode cX7_inner 48 = .ok (.aload_n 0, 1) := by decide +kernel
theorem dX7_inner_49 : decode cX7_inner 49 = .ok (.getfield 63, 3) := by decide +kernel
theorem dX7_inner_52 : decode cX7_inner 52 = .ok (.istore_n 2, 1) := by decide +kernel
theorem dX7_inner_53 : decode cX7_inner 53 = .ok (.aload_n 0, 1) := by decide +kernel
theorem dX7_inner_54 : decode cX7_inner 54 = .ok (.getfield 7, 3) := by decide +kernel
theorem dX7_inner_57 : decode cX7_inner 57 = .ok (.aload_n 0, 1) := by decide +kernel
theorem dX7_inner_58 : decode cX7_inner 58 = .ok (.getfield 63, 3) := by decide +kernel
theorem dX7_inner_61 : decode cX7_inner 61 = .ok (.iaload, 1) := by decide +kernel
theorem dX7_inner_62 : decode cX7_inner 62 = .ok (.istore_n 3, 1) := by decide +kernel
theorem dX7_inner_63 : decode cX7_inner 63 = .ok (.aload_n 0, 1) := by decide +kernel
theorem dX7_inner_64 : decode cX7_inner 64 = .ok (.dup, 1) := by decide +kernel
theorem dX7_inner_65 : decode cX7_inner 65 = .ok (.getfield 63, 3) := by decide +kernel
theorem dX7_inner_68 : decode cX7_inner 68 = .ok (.iconst 1, 1) := by decide +kernel
theorem dX7_inner_69 : decode cX7_inner 69 = .ok (.iadd, 1) := by decide +kernel
theorem dX7_inner_70 : decode cX7_inner 70 = .ok (.putfield 63, 3) := by decide +kernel
theorem dX7_inner_73 : decode cX7_inner 73 = .ok (.aload_n 0, 1) := by decide +kernel
theorem dX7_inner_74 : decode cX7_inner 74 = .ok (.getfield 63, 3) := by decide +kernel
theorem dX7_inner_77 : decode cX7_inner 77 = .ok (.iload_n 3, 1) := by decide +kernel
theorem dX7_inner_78 : decode cX7_inner 78 = .ok (.iadd, 1) := by decide +kernel
theorem dX7_inner_79 : decode cX7_inner 79 = .ok (.aload_n 0, 1) := by decide +kernel
theorem dX7_inner_80 : decode cX7_inner 80 = .ok (.getfield 19, 3) := by decide +kernel
theorem dX7_inner_83 : decode cX7_inner 83 = .ok (.aload_n 0, 1) := by decide +kernel
theorem dX7_inner_84 : decode cX7_inner 84 = .ok (.getfield 66, 3) := by decide +kernel
theorem dX7_inner_87 : decode cX7_inner 87 = .ok (.iaload, 1) := by decide +kernel
theorem dX7_inner_88 : decode cX7_inner 88 = .ok (.if_icmp .le 10, 3) := by decide +kernel
theorem dX7_inner_91 : decode cX7_inner 91 = .ok (.aload_n 0, 1) := by decide +kernel
theorem dX7_inner_92 : decode cX7_inner 92 = .ok (.iconst 2, 1) := by decide +kernel
theorem dX7_inner_93 : decode cX7_inner 93 = .ok (.iload_n 2, 1) := by decide +kernel
theorem dX7_inner_94 : decode cX7_inner 94 = .ok (.invokevirtual 69, 3) := by decide +kernel
theorem dX7_inner_97 : decode cX7_inner 97 = .ok (.return_, 1) := by decide +kernel
theorem dX7_inner_98 : decode cX7_inner 98 = .ok (.aload_n 0, 1) := by decide +kernel
theorem dX7_inner_99 : decode cX7_inner 99 = .ok (.dup, 1) := by decide +kernel
theorem dX7_inner_100 : decode cX7_inner 100 = .ok (.getfield 66, 3) := by decide +kernel
theorem dX7_inner_103 : decode cX7_inner 103 = .ok (.iconst 1, 1) := by decide +kernel
theorem dX7_inner_104 : decode cX7_inner 104 = .ok (.iadd, 1) := by decide +kernel
theorem dX7_inner_105 : decode cX7_inner 105 = .ok (.putfield 66, 3) := by decide +kernel
theorem dX7_inner_108 : decode cX7_inner 108 = .ok (.aload_n 0, 1) := by decide +kernel
theorem dX7_inner_109 : decode cX7_inner 109 = .ok (.aload_n 0, 1) := by decide +kernel
theorem dX7_inner_110 : decode cX7_inner 110 = .ok (.getfield 63, 3) := by decide +kernel
theorem dX7_inner_113 : decode cX7_inner 113 = .ok (.iload_n 3, 1) := by decide +kernel
theorem dX7_inner_114 : decode cX7_inner 114 = .ok (.iadd, 1) := by decide +kernel
theorem dX7_inner_115 : decode cX7_inner 115 = .ok (.iload_n 1, 1) := by decide +kernel
theorem dX7_inner_116 : decode cX7_inner 116 = .ok (.iload_n 2, 1) := by decide +kernel
theorem dX7_inner_117 : decode cX7_inner 117 = .ok (.invokevirtual 116, 3) := by decide +kernel
theorem dX7_inner_120 : decode cX7_inner 120 = .ok (.return_, 1) := by decide +kernel
set_option maxRecDepth 20000 in
theorem ggX7_end_X7_has : GoodIn wsX7_end wsX7_has := goodIn_r _ [18, 6, 9, 2, 10, 8, 19, 20, 21, 17, 22, 12, 23, 46, 47, 48, 49, 50, 51, 52, 53, 54, 55, 56, 57, 58, 59, 60, 61, 62, 63, 64, 65, 66, 67, 68, 69, 70, 71, 72, 73, 74, 75, 76, 77, 78] (by decide +kernel) (by decide +kernel)
set_option maxRecDepth 20000 in
theorem gX7_end_X7_has : GoodIn wsX7_end (wsV RX7 123 RX7 yX7_has wsX7_has) := goodIn_app (goodIn_of _ (by decide +kernel)) ggX7_end_X7_has
set_option maxRecDepth 20000 in
theorem ggX7_end_X7_fault : GoodIn wsX7_end wsX7_fault := goodIn_r _ [22, 12, 23, 46, 47, 48, 49, 50, 51, 52, 53, 54, 55, 56, 57, 58, 59, 60, 61, 62, 63, 64, 65, 66, 67, 68, 69, 70, 71, 72, 73, 74, 75, 76, 77, 78] (by decide +kernel) (by decide +kernel)
set_option maxRecDepth 20000 in
theorem gX7_end_X7_fault : GoodIn wsX7_end (wsV RX7 69 RX7 yX7_fault wsX7_fault) := goodIn_app (goodIn_of _ (by decide +kernel)) ggX7_end_X7_fault
set_option maxRecDepth 20000 in
theorem ggX7_end_X7_give : GoodIn wsX7_end wsX7_give := goodIn_r _ [27, 13, 28, 2, 1, 29, 30, 31, 3, 4, 32, 33, 34, 17, 35, 36, 19, 20, 21, 22, 12, 23, 46, 47, 48, 49, 50, 51, 52, 53, 54, 55, 56, 57, 58, 59, 60, 61, 62, 63, 64, 65, 66, 67, 68, 69, 70, 71, 72, 73, 74, 75, 76, 77, 78] (by decide +kernel) (by decide +kernel)
set_option maxRecDepth 20000 in
theorem gX7_end_X7_give : GoodIn wsX7_end (wsV RX7 139 RX7 yX7_give wsX7_give) := goodIn_app (goodIn_of _ (by decide +kernel)) ggX7_end_X7_give
set_option maxRecDepth 20000 in
theorem ggX7_end_X7_done : GoodIn wsX7_end wsX7_done := goodIn_r _ [40, 12, 41, 42, 2, 4, 43, 1, 44, 3, 45, 24, 25, 26, 17, 27, 13, 28, 29, 30, 31, 32, 33, 34, 35, 36, 19, 20, 21, 22, 23, 46, 47, 48, 49, 50, 51, 52, 53, 54, 55, 56, 57, 58, 59, 60, 61, 62, 63, 64, 65, 66, 67, 68, 69, 70, 71, 72, 73, 74, 75, 76, 77, 78] (by decide +kernel) (by decide +kernel)
set_option maxRecDepth 20000 in
theorem gX7_end_X7_done : GoodIn wsX7_end (wsV RX7 143 RX7 yX7_done wsX7_done) := goodIn_app (goodIn_of _ (by decide +kernel)) ggX7_end_X7_done
theorem dX7_end_0 : decode cX7_end 0 = .ok (.aload_n 0, 1) := by decide +kernel
theorem dX7_end_1 : decode cX7_end 1 = .ok (.iconst 1, 1) := by decide +kernel
theorem dX7_end_2 : decode cX7_end 2 = .ok (.invokevirtual 123, 3) := by decide +kernel
theorem dX7_end_5 : decode cX7_end 5 = .ok (.ifCond .ne 4, 3) := by decide +kernel
theorem dX7_end_8 : decode cX7_end 8 = .ok (.return_, 1) := by decide +kernel
theorem dX7_end_9 : decode cX7_end 9 = .ok (.iconst 0, 1) := by decide +kernel
theorem dX7_end_10 : decode cX7_end 10 = .ok (.istore_n 1, 1) := by decide +kernel
theorem dX7_end_11 : decode cX7_end 11 = .ok (.iconst 0, 1) := by decide +kernel
theorem dX7_end_12 : decode cX7_end 12 = .ok (.istore_n 2, 1) := by decide +kernel
theorem dX7_end_13 : decode cX7_end 13 = .ok (.iload_n 2, 1) := by decide +kernel
theorem dX7_end_14 : decode cX7_end 14 = .ok (.aload_n 0, 1) := by decide +kernel
theorem dX7_end_15 : decode cX7_end 15 = .ok (.getfield 16, 3) := by decide +kernel
theorem dX7_end_18 : decode cX7_end 18 = .ok (.aload_n 0, 1) := by decide +kernel
theorem dX7_end_19 : decode cX7_end 19 = .ok (.getfield 66, 3) := by decide +kernel
theorem dX7_end_22 : decode cX7_end 22 = .ok (.iaload, 1) := by decide +kernel
theorem dX7_end_23 : decode cX7_end 23 = .ok (.if_icmp .ge 28, 3) := by decide +kernel
theorem dX7_end_26 : decode cX7_end 26 = .ok (.iload_n 1, 1) := by decide +kernel
theorem dX7_end_27 : decode cX7_end 27 = .ok (.aload_n 0, 1) := by decide +kernel
theorem dX7_end_28 : decode cX7_end 28 = .ok (.getfield 31, 3) := by decide +kernel
theorem dX7_end_31 : decode cX7_end 31 = .ok (.aload_n 0, 1) := by decide +kernel
theorem dX7_end_32 : decode cX7_end 32 = .ok (.getfield 13, 3) := by decide +kernel
theorem dX7_end_35 : decode cX7_end 35 = .ok (.aload_n 0, 1) := by decide +kernel
theorem dX7_end_36 : decode cX7_end 36 = .ok (.getfield 66, 3) := by decide +kernel
theorem dX7_end_39 : decode cX7_end 39 = .ok (.iaload, 1) := by decide +kernel
theorem dX7_end_40 : decode cX7_end 40 = .ok (.iload_n 2, 1) := by decide +kernel
theorem dX7_end_41 : decode cX7_end 41 = .ok (.iadd, 1) := by decide +kernel
theorem dX7_end_42 : decode cX7_end 42 = .ok (.iaload, 1) := by decide +kernel
theorem dX7_end_43 : decode cX7_end 43 = .ok (.iadd, 1) := by decide +kernel
theorem dX7_end_44 : decode cX7_end 44 = .ok (.istore_n 1, 1) := by decide +kernel
theorem dX7_end_45 : decode cX7_end 45 = .ok (.iinc 2 1, 3) := by decide +kernel
theorem dX7_end_48 : decode cX7_end 48 = .ok (.goto (-35), 3) := by decide +kernel
theorem dX7_end_51 : decode cX7_end 51 = .ok (.iload_n 1, 1) := by decide +kernel
theorem dX7_end_52 : decode cX7_end 52 = .ok (.sipush 255, 3) := by decide +kernel
theorem dX7_end_55 : decode cX7_end 55 = .ok (.iand, 1) := by decide +kernel
theorem dX7_end_56 : decode cX7_end 56 = .ok (.aload_n 0, 1) := by decide +kernel
theorem dX7_end_57 : decode cX7_end 57 = .ok (.getfield 7, 3) := by decide +kernel
theorem dX7_end_60 : decode cX7_end 60 = .ok (.aload_n 0, 1) := by decide +kernel
theorem dX7_end_61 : decode cX7_end 61 = .ok (.getfield 63, 3) := by decide +kernel
theorem dX7_end_64 : decode cX7_end 64 = .ok (.iaload, 1) := by decide +kernel
theorem dX7_end_65 : decode cX7_end 65 = .ok (.if_icmp .eq 13, 3) := by decide +kernel
theorem dX7_end_68 : decode cX7_end 68 = .ok (.aload_n 0, 1) := by decide +kernel
theorem dX7_end_69 : decode cX7_end 69 = .ok (.iconst 4, 1) := by decide +kernel
theorem dX7_end_70 : decode cX7_end 70 = .ok (.aload_n 0, 1) := by decide +kernel
theorem dX7_end_71 : decode cX7_end 71 = .ok (.getfield 63, 3) := by decide +kernel
theorem dX7_end_74 : decode cX7_end 74 = .ok (.invokevirtual 69, 3) := by decide +kernel
theorem dX7_end_77 : decode cX7_end 77 = .ok (.return_, 1) := by decide +kernel
theorem dX7_end_78 : decode cX7_end 78 = .ok (.aload_n 0, 1) := by decide +kernel
theorem dX7_end_79 : decode cX7_end 79 = .ok (.dup, 1) := by decide +kernel
theorem dX7_end_80 : decode cX7_end 80 = .ok (.getfield 63, 3) := by decide +kernel
theorem dX7_end_83 : decode cX7_end 83 = .ok (.iconst 1, 1) := by decide +kernel
theorem dX7_end_84 : decode cX7_end 84 = .ok (.iadd, 1) := by decide +kernel
theorem dX7_end_85 : decode cX7_end 85 = .ok (.putfield 63, 3) := by decide +kernel
theorem dX7_end_88 : decode cX7_end 88 = .ok (.aload_n 0, 1) := by decide +kernel
theorem dX7_end_89 : decode cX7_end 89 = .ok (.getfield 66, 3) := by decide +kernel
theorem dX7_end_92 : decode cX7_end 92 = .ok (.ifCond .ne 29, 3) := by decide +kernel
theorem dX7_end_95 : decode cX7_end 95 = .ok (.aload_n 0, 1) := by decide +kernel
theorem dX7_end_96 : decode cX7_end 96 = .ok (.iconst 1, 1) := by decide +kernel
theorem dX7_end_97 : decode cX7_end 97 = .ok (.putfield 100, 3) := by decide +kernel
theorem dX7_end_100 : decode cX7_end 100 = .ok (.aload_n 0, 1) := by decide +kernel
theorem dX7_end_101 : decode cX7_end 101 = .ok (.getfield 63, 3) := by decide +kernel
theorem dX7_end_104 : decode cX7_end 104 = .ok (.aload_n 0, 1) := by decide +kernel
theorem dX7_end_105 : decode cX7_end 105 = .ok (.getfield 53, 3) := by decide +kernel
theorem dX7_end_108 : decode cX7_end 108 = .ok (.if_icmp .ge 12, 3) := by decide +kernel
theorem dX7_end_111 : decode cX7_end 111 = .ok (.aload_n 0, 1) := by decide +kernel
theorem dX7_end_112 : decode cX7_end 112 = .ok (.iconst 5, 1) := by decide +kernel
theorem dX7_end_113 : decode cX7_end 113 = .ok (.aload_n 0, 1) := by decide +kernel
theorem dX7_end_114 : decode cX7_end 114 = .ok (.getfield 63, 3) := by decide +kernel
theorem dX7_end_117 : decode cX7_end 117 = .ok (.invokevirtual 69, 3) := by decide +kernel
theorem dX7_end_120 : decode cX7_end 120 = .ok (.return_, 1) := by decide +kernel
theorem dX7_end_121 : decode cX7_end 121 = .ok (.aload_n 0, 1) := by decide +kernel
theorem dX7_end_122 : decode cX7_end 122 = .ok (.getfield 63, 3) := by decide +kernel
theorem dX7_end_125 : decode cX7_end 125 = .ok (.aload_n 0, 1) := by decide +kernel
theorem dX7_end_126 : decode cX7_end 126 = .ok (.getfield 19, 3) := by decide +kernel
theorem dX7_end_129 : decode cX7_end 129 = .ok (.aload_n 0, 1) := by decide +kernel
theorem dX7_end_130 : decode cX7_end 130 = .ok (.getfield 66, 3) := by decide +kernel
theorem dX7_end_133 : decode cX7_end 133 = .ok (.iaload, 1) := by decide +kernel
theorem dX7_end_134 : decode cX7_end 134 = .ok (.if_icmp .ge 18, 3) := by decide +kernel
theorem dX7_end_137 : decode cX7_end 137 = .ok (.aload_n 0, 1) := by decide +kernel
theorem dX7_end_138 : decode cX7_end 138 = .ok (.iconst 2, 1) := by decide +kernel
theorem dX7_end_139 : decode cX7_end 139 = .ok (.aload_n 0, 1) := by decide +kernel
theorem dX7_end_140 : decode cX7_end 140 = .ok (.getfield 25, 3) := by decide +kernel
theorem dX7_end_143 : decode cX7_end 143 = .ok (.aload_n 0, 1) := by decide +kernel
theorem dX7_end_144 : decode cX7_end 144 = .ok (.getfield 66, 3) := by decide +kernel
theorem dX7_end_147 : decode cX7_end 147 = .ok (.iaload, 1) := by decide +kernel
theorem dX7_end_148 : decode cX7_end 148 = .ok (.invokevirtual 69, 3) := by decide +kernel
theorem dX7_end_151 : decode cX7_end 151 = .ok (.return_, 1) := by decide +kernel
theorem dX7_end_152 : decode cX7_end 152 = .ok (.aload_n 0, 1) := by decide +kernel
theorem dX7_end_153 : decode cX7_end 153 = .ok (.getfield 13, 3) := by decide +kernel
theorem dX7_end_156 : decode cX7_end 156 = .ok (.aload_n 0, 1) := by decide +kernel
theorem dX7_end_157 : decode cX7_end 157 = .ok (.getfield 66, 3) := by decide +kernel
theorem dX7_end_160 : decode cX7_end 160 = .ok (.iaload, 1) := by decide +kernel
theorem dX7_end_161 : decode cX7_end 161 = .ok (.istore_n 2, 1) := by decide +kernel
theorem dX7_end_162 : decode cX7_end 162 = .ok (.aload_n 0, 1) := by decide +kernel
theorem dX7_end_163 : decode cX7_end 163 = .ok (.getfield 16, 3) := by decide +kernel
theorem dX7_end_166 : decode cX7_end 166 = .ok (.aload_n 0, 1) := by decide +kernel
theorem dX7_end_167 : decode cX7_end 167 = .ok (.getfield 66, 3) := by decide +kernel
theorem dX7_end_170 : decode cX7_end 170 = .ok (.iaload, 1) := by decide +kernel
theorem dX7_end_171 : decode cX7_end 171 = .ok (.istore_n 3, 1) := by decide +kernel
theorem dX7_end_172 : decode cX7_end 172 = .ok (.aload_n 0, 1) := by decide +kernel
theorem dX7_end_173 : decode cX7_end 173 = .ok (.getfield 22, 3) := by decide +kernel
theorem dX7_end_176 : decode cX7_end 176 = .ok (.aload_n 0, 1) := by decide +kernel
theorem dX7_end_177 : decode cX7_end 177 = .ok (.getfield 66, 3) := by decide +kernel
theorem dX7_end_180 : decode cX7_end 180 = .ok (.iaload, 1) := by decide +kernel
theorem dX7_end_181 : decode cX7_end 181 = .ok (.istore 4, 2) := by decide +kernel
theorem dX7_end_183 : decode cX7_end 183 = .ok (.aload_n 0, 1) := by decide +kernel
theorem dX7_end_184 : decode cX7_end 184 = .ok (.dup, 1) := by decide +kernel
theorem dX7_end_185 : decode cX7_end 185 = .ok (.getfield 66, 3) := by decide +kernel
theorem dX7_end_188 : decode cX7_end 188 = .ok (.iconst 1, 1) := by decide +kernel
theorem dX7_end_189 : decode cX7_end 189 = .ok (.isub, 1) := by decide +kernel
theorem dX7_end_190 : decode cX7_end 190 = .ok (.putfield 66, 3) := by decide +kernel
theorem dX7_end_193 : decode cX7_end 193 = .ok (.iconst 0, 1) := by decide +kernel
theorem dX7_end_194 : decode cX7_end 194 = .ok (.istore 5, 2) := by decide +kernel
theorem dX7_end_196 : decode cX7_end 196 = .ok (.iload 5, 2) := by decide +kernel
theorem dX7_end_198 : decode cX7_end 198 = .ok (.iload_n 3, 1) := by decide +kernel
theorem dX7_end_199 : decode cX7_end 199 = .ok (.if_icmp .ge 33, 3) := by decide +kernel
theorem dX7_end_202 : decode cX7_end 202 = .ok (.aload_n 0, 1) := by decide +kernel
