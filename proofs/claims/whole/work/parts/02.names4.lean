theorem dX6_put_23 : decode cX6_put 23 = .ok (.aload_n 0, 1) := by decide +kernel
theorem dX6_put_24 : decode cX6_put 24 = .ok (.getfield 10, 3) := by decide +kernel
theorem dX6_put_27 : decode cX6_put 27 = .ok (.iload_n 1, 1) := by decide +kernel
theorem dX6_put_28 : decode cX6_put 28 = .ok (.invokevirtual 65, 3) := by decide +kernel
theorem dX6_put_31 : decode cX6_put 31 = .ok (.aload_n 0, 1) := by decide +kernel
theorem dX6_put_32 : decode cX6_put 32 = .ok (.getfield 10, 3) := by decide +kernel
theorem dX6_put_35 : decode cX6_put 35 = .ok (.invokevirtual 69, 3) := by decide +kernel
theorem dX6_put_38 : decode cX6_put 38 = .ok (.ireturn, 1) := by decide +kernel
set_option maxRecDepth 20000 in
theorem ggX6_cut_X5_count : GoodIn wsX6_cut wsX5_count := goodIn_r _ [6, 7, 20, 21] (by decide +kernel) (by decide +kernel)
set_option maxRecDepth 20000 in
theorem gX6_cut_X5_count : GoodIn wsX6_cut (wsV RX6 69 RX5 yX5_count wsX5_count) := goodIn_app (goodIn_of _ (by decide +kernel)) ggX6_cut_X5_count
set_option maxRecDepth 20000 in
theorem ggX6_cut_X5_keep : GoodIn wsX6_cut wsX5_keep := goodIn_r _ [11, 7, 20, 21] (by decide +kernel) (by decide +kernel)
set_option maxRecDepth 20000 in
theorem gX6_cut_X5_keep : GoodIn wsX6_cut (wsV RX6 73 RX5 yX5_keep wsX5_keep) := goodIn_app (goodIn_of _ (by decide +kernel)) ggX6_cut_X5_keep
theorem dX6_cut_0 : decode cX6_cut 0 = .ok (.aload_n 0, 1) := by decide +kernel
theorem dX6_cut_1 : decode cX6_cut 1 = .ok (.getfield 10, 3) := by decide +kernel
theorem dX6_cut_4 : decode cX6_cut 4 = .ok (.invokevirtual 69, 3) := by decide +kernel
theorem dX6_cut_7 : decode cX6_cut 7 = .ok (.istore_n 2, 1) := by decide +kernel
theorem dX6_cut_8 : decode cX6_cut 8 = .ok (.iload_n 1, 1) := by decide +kernel
theorem dX6_cut_9 : decode cX6_cut 9 = .ok (.ifCond .lt 8, 3) := by decide +kernel
theorem dX6_cut_12 : decode cX6_cut 12 = .ok (.iload_n 1, 1) := by decide +kernel
theorem dX6_cut_13 : decode cX6_cut 13 = .ok (.iload_n 2, 1) := by decide +kernel
theorem dX6_cut_14 : decode cX6_cut 14 = .ok (.if_icmp .le 6, 3) := by decide +kernel
theorem dX6_cut_17 : decode cX6_cut 17 = .ok (.bipush (-2), 2) := by decide +kernel
theorem dX6_cut_19 : decode cX6_cut 19 = .ok (.ireturn, 1) := by decide +kernel
theorem dX6_cut_20 : decode cX6_cut 20 = .ok (.aload_n 0, 1) := by decide +kernel
theorem dX6_cut_21 : decode cX6_cut 21 = .ok (.getfield 10, 3) := by decide +kernel
theorem dX6_cut_24 : decode cX6_cut 24 = .ok (.iload_n 1, 1) := by decide +kernel
theorem dX6_cut_25 : decode cX6_cut 25 = .ok (.invokevirtual 73, 3) := by decide +kernel
theorem dX6_cut_28 : decode cX6_cut 28 = .ok (.iload_n 2, 1) := by decide +kernel
theorem dX6_cut_29 : decode cX6_cut 29 = .ok (.iload_n 1, 1) := by decide +kernel
theorem dX6_cut_30 : decode cX6_cut 30 = .ok (.isub, 1) := by decide +kernel
theorem dX6_cut_31 : decode cX6_cut 31 = .ok (.ireturn, 1) := by decide +kernel
set_option maxRecDepth 20000 in
theorem ggX6_poke_X5_has : GoodIn wsX6_poke wsX5_has := goodIn_r _ [6, 7, 30, 31] (by decide +kernel) (by decide +kernel)
set_option maxRecDepth 20000 in
theorem gX6_poke_X5_has : GoodIn wsX6_poke (wsV RX6 76 RX5 yX5_has wsX5_has) := goodIn_app (goodIn_of _ (by decide +kernel)) ggX6_poke_X5_has
set_option maxRecDepth 20000 in
theorem ggX6_poke_X6_isByte : GoodIn wsX6_poke wsX6_isByte := goodIn_r _ [11] (by decide +kernel) (by decide +kernel)
set_option maxRecDepth 20000 in
theorem gX6_poke_X6_isByte : GoodIn wsX6_poke (va_wsS RX6 57 yX6_isByte wsX6_isByte) := goodIn_app (goodIn_of _ (by decide +kernel)) ggX6_poke_X6_isByte
set_option maxRecDepth 20000 in
theorem ggX6_poke_X5_byteAt : GoodIn wsX6_poke wsX5_byteAt := goodIn_r _ [15, 16, 17, 3, 4, 5, 6, 7, 30, 31] (by decide +kernel) (by decide +kernel)
set_option maxRecDepth 20000 in
theorem gX6_poke_X5_byteAt : GoodIn wsX6_poke (wsV RX6 79 RX5 yX5_byteAt wsX5_byteAt) := goodIn_app (goodIn_of _ (by decide +kernel)) ggX6_poke_X5_byteAt
set_option maxRecDepth 20000 in
theorem ggX6_poke_X5_change : GoodIn wsX6_poke wsX5_change := goodIn_r _ [21, 16, 17, 3, 4, 5, 6, 7, 30, 31] (by decide +kernel) (by decide +kernel)
set_option maxRecDepth 20000 in
theorem gX6_poke_X5_change : GoodIn wsX6_poke (wsV RX6 83 RX5 yX5_change wsX5_change) := goodIn_app (goodIn_of _ (by decide +kernel)) ggX6_poke_X5_change
theorem dX6_poke_0 : decode cX6_poke 0 = .ok (.aload_n 0, 1) := by decide +kernel
theorem dX6_poke_1 : decode cX6_poke 1 = .ok (.getfield 10, 3) := by decide +kernel
theorem dX6_poke_4 : decode cX6_poke 4 = .ok (.iload_n 1, 1) := by decide +kernel
theorem dX6_poke_5 : decode cX6_poke 5 = .ok (.invokevirtual 76, 3) := by decide +kernel
theorem dX6_poke_8 : decode cX6_poke 8 = .ok (.ifCond .eq 10, 3) := by decide +kernel
theorem dX6_poke_11 : decode cX6_poke 11 = .ok (.iload_n 2, 1) := by decide +kernel
theorem dX6_poke_12 : decode cX6_poke 12 = .ok (.invokestatic 57, 3) := by decide +kernel
theorem dX6_poke_15 : decode cX6_poke 15 = .ok (.ifCond .ne 6, 3) := by decide +kernel
theorem dX6_poke_18 : decode cX6_poke 18 = .ok (.bipush (-2), 2) := by decide +kernel
theorem dX6_poke_20 : decode cX6_poke 20 = .ok (.ireturn, 1) := by decide +kernel
theorem dX6_poke_21 : decode cX6_poke 21 = .ok (.aload_n 0, 1) := by decide +kernel
theorem dX6_poke_22 : decode cX6_poke 22 = .ok (.getfield 10, 3) := by decide +kernel
theorem dX6_poke_25 : decode cX6_poke 25 = .ok (.iload_n 1, 1) := by decide +kernel
theorem dX6_poke_26 : decode cX6_poke 26 = .ok (.invokevirtual 79, 3) := by decide +kernel
theorem dX6_poke_29 : decode cX6_poke 29 = .ok (.istore_n 3, 1) := by decide +kernel
theorem dX6_poke_30 : decode cX6_poke 30 = .ok (.aload_n 0, 1) := by decide +kernel
theorem dX6_poke_31 : decode cX6_poke 31 = .ok (.getfield 10, 3) := by decide +kernel
theorem dX6_poke_34 : decode cX6_poke 34 = .ok (.iload_n 1, 1) := by decide +kernel
theorem dX6_poke_35 : decode cX6_poke 35 = .ok (.iload_n 2, 1) := by decide +kernel
theorem dX6_poke_36 : decode cX6_poke 36 = .ok (.invokevirtual 83, 3) := by decide +kernel
theorem dX6_poke_39 : decode cX6_poke 39 = .ok (.iload_n 3, 1) := by decide +kernel
theorem dX6_poke_40 : decode cX6_poke 40 = .ok (.ireturn, 1) := by decide +kernel
set_option maxRecDepth 20000 in
theorem ggX6_at_X5_has : GoodIn wsX6_at wsX5_has := goodIn_r _ [6, 7, 22, 23] (by decide +kernel) (by decide +kernel)
set_option maxRecDepth 20000 in
theorem gX6_at_X5_has : GoodIn wsX6_at (wsV RX6 76 RX5 yX5_has wsX5_has) := goodIn_app (goodIn_of _ (by decide +kernel)) ggX6_at_X5_has
set_option maxRecDepth 20000 in
theorem ggX6_at_X5_byteAt : GoodIn wsX6_at wsX5_byteAt := goodIn_r _ [11, 12, 13, 3, 4, 5, 6, 7, 22, 23] (by decide +kernel) (by decide +kernel)
set_option maxRecDepth 20000 in
theorem gX6_at_X5_byteAt : GoodIn wsX6_at (wsV RX6 79 RX5 yX5_byteAt wsX5_byteAt) := goodIn_app (goodIn_of _ (by decide +kernel)) ggX6_at_X5_byteAt
theorem dX6_at_0 : decode cX6_at 0 = .ok (.aload_n 0, 1) := by decide +kernel
theorem dX6_at_1 : decode cX6_at 1 = .ok (.getfield 10, 3) := by decide +kernel
theorem dX6_at_4 : decode cX6_at 4 = .ok (.iload_n 1, 1) := by decide +kernel
theorem dX6_at_5 : decode cX6_at 5 = .ok (.invokevirtual 76, 3) := by decide +kernel
theorem dX6_at_8 : decode cX6_at 8 = .ok (.ifCond .eq 14, 3) := by decide +kernel
theorem dX6_at_11 : decode cX6_at 11 = .ok (.aload_n 0, 1) := by decide +kernel
theorem dX6_at_12 : decode cX6_at 12 = .ok (.getfield 10, 3) := by decide +kernel
theorem dX6_at_15 : decode cX6_at 15 = .ok (.iload_n 1, 1) := by decide +kernel
theorem dX6_at_16 : decode cX6_at 16 = .ok (.invokevirtual 79, 3) := by decide +kernel
theorem dX6_at_19 : decode cX6_at 19 = .ok (.goto 4, 3) := by decide +kernel
theorem dX6_at_22 : decode cX6_at 22 = .ok (.iconst (-1), 1) := by decide +kernel
theorem dX6_at_23 : decode cX6_at 23 = .ok (.ireturn, 1) := by decide +kernel
set_option maxRecDepth 20000 in
theorem ggX6_length_X5_count : GoodIn wsX6_length wsX5_count := goodIn_r _ [6, 7, 16, 17] (by decide +kernel) (by decide +kernel)
set_option maxRecDepth 20000 in
theorem gX6_length_X5_count : GoodIn wsX6_length (wsV RX6 69 RX5 yX5_count wsX5_count) := goodIn_app (goodIn_of _ (by decide +kernel)) ggX6_length_X5_count
theorem dX6_length_0 : decode cX6_length 0 = .ok (.aload_n 0, 1) := by decide +kernel
theorem dX6_length_1 : decode cX6_length 1 = .ok (.getfield 10, 3) := by decide +kernel
theorem dX6_length_4 : decode cX6_length 4 = .ok (.invokevirtual 69, 3) := by decide +kernel
theorem dX6_length_7 : decode cX6_length 7 = .ok (.ireturn, 1) := by decide +kernel
set_option maxRecDepth 20000 in
theorem ggX6_draw_X2_drawStream : GoodIn wsX6_draw wsX2_drawStream := goodIn_r _ [7, 8, 9, 10, 11, 12, 13, 14, 15, 16, 17, 18, 19, 20, 21, 22, 23, 24, 25, 26, 27, 6, 28, 29, 30, 31, 32, 33, 34, 35, 36, 37, 38, 39, 40, 41, 42, 43, 44, 45, 46, 47, 48, 49, 50, 51, 52, 53, 54, 55, 56, 57, 58, 59, 60, 61, 62, 63, 64, 65, 66, 67, 68, 69, 70, 71, 72, 73, 74, 75, 76, 77, 78, 79, 80, 81, 82, 83, 84, 85, 86, 87, 88, 89, 90, 91, 92, 93, 94, 95, 96, 97, 98, 99, 100, 101, 102, 103, 104, 105, 106, 107, 108, 109, 110, 111, 112, 113, 123, 124, 125, 126, 127, 128, 129, 130, 131] (by decide +kernel) (by decide +kernel)
set_option maxRecDepth 20000 in
theorem gX6_draw_X2_drawStream : GoodIn wsX6_draw (wsV RX6 87 RX2 yX2_drawStream wsX2_drawStream) := goodIn_app (goodIn_of _ (by decide +kernel)) ggX6_draw_X2_drawStream
set_option maxRecDepth 20000 in
theorem ggX6_draw_X5_count : GoodIn wsX6_draw wsX5_count := goodIn_r _ [43, 18, 128, 129] (by decide +kernel) (by decide +kernel)
set_option maxRecDepth 20000 in
theorem gX6_draw_X5_count : GoodIn wsX6_draw (wsV RX6 69 RX5 yX5_count wsX5_count) := goodIn_app (goodIn_of _ (by decide +kernel)) ggX6_draw_X5_count
theorem dX6_draw_0 : decode cX6_draw 0 = .ok (.iload_n 3, 1) := by decide +kernel
theorem dX6_draw_1 : decode cX6_draw 1 = .ok (.ifCond .lt 20, 3) := by decide +kernel
theorem dX6_draw_4 : decode cX6_draw 4 = .ok (.iload_n 3, 1) := by decide +kernel
theorem dX6_draw_5 : decode cX6_draw 5 = .ok (.iconst 2, 1) := by decide +kernel
theorem dX6_draw_6 : decode cX6_draw 6 = .ok (.if_icmp .gt 15, 3) := by decide +kernel
theorem dX6_draw_9 : decode cX6_draw 9 = .ok (.iload 4, 2) := by decide +kernel
theorem dX6_draw_11 : decode cX6_draw 11 = .ok (.iconst 1, 1) := by decide +kernel
theorem dX6_draw_12 : decode cX6_draw 12 = .ok (.if_icmp .lt 9, 3) := by decide +kernel
theorem dX6_draw_15 : decode cX6_draw 15 = .ok (.iload 4, 2) := by decide +kernel
theorem dX6_draw_17 : decode cX6_draw 17 = .ok (.iconst 5, 1) := by decide +kernel
theorem dX6_draw_18 : decode cX6_draw 18 = .ok (.if_icmp .le 6, 3) := by decide +kernel
theorem dX6_draw_21 : decode cX6_draw 21 = .ok (.bipush (-2), 2) := by decide +kernel
theorem dX6_draw_23 : decode cX6_draw 23 = .ok (.ireturn, 1) := by decide +kernel
theorem dX6_draw_24 : decode cX6_draw 24 = .ok (.aload_n 0, 1) := by decide +kernel
theorem dX6_draw_25 : decode cX6_draw 25 = .ok (.getfield 53, 3) := by decide +kernel
theorem dX6_draw_28 : decode cX6_draw 28 = .ok (.lload_n 1, 1) := by decide +kernel
theorem dX6_draw_29 : decode cX6_draw 29 = .ok (.iload_n 3, 1) := by decide +kernel
theorem dX6_draw_30 : decode cX6_draw 30 = .ok (.iload 4, 2) := by decide +kernel
theorem dX6_draw_32 : decode cX6_draw 32 = .ok (.invokevirtual 87, 3) := by decide +kernel
theorem dX6_draw_35 : decode cX6_draw 35 = .ok (.aload_n 0, 1) := by decide +kernel
theorem dX6_draw_36 : decode cX6_draw 36 = .ok (.getfield 10, 3) := by decide +kernel
theorem dX6_draw_39 : decode cX6_draw 39 = .ok (.invokevirtual 69, 3) := by decide +kernel
theorem dX6_draw_42 : decode cX6_draw 42 = .ok (.ireturn, 1) := by decide +kernel
set_option maxRecDepth 20000 in
theorem ggX6_bomb_X6_isByte : GoodIn wsX6_bomb wsX6_isByte := goodIn_r _ [5] (by decide +kernel) (by decide +kernel)
set_option maxRecDepth 20000 in
theorem gX6_bomb_X6_isByte : GoodIn wsX6_bomb (va_wsS RX6 57 yX6_isByte wsX6_isByte) := goodIn_app (goodIn_of _ (by decide +kernel)) ggX6_bomb_X6_isByte
set_option maxRecDepth 20000 in
theorem ggX6_bomb_X5_keep : GoodIn wsX6_bomb wsX5_keep := goodIn_r _ [10, 11, 32, 33] (by decide +kernel) (by decide +kernel)
set_option maxRecDepth 20000 in
theorem gX6_bomb_X5_keep : GoodIn wsX6_bomb (wsV RX6 73 RX5 yX5_keep wsX5_keep) := goodIn_app (goodIn_of _ (by decide +kernel)) ggX6_bomb_X5_keep
set_option maxRecDepth 20000 in
theorem ggX6_bomb_X5_append : GoodIn wsX6_bomb wsX5_append := goodIn_r _ [15, 11, 16, 32, 33] (by decide +kernel) (by decide +kernel)
set_option maxRecDepth 20000 in
theorem gX6_bomb_X5_append : GoodIn wsX6_bomb (wsV RX6 65 RX5 yX5_append wsX5_append) := goodIn_app (goodIn_of _ (by decide +kernel)) ggX6_bomb_X5_append
set_option maxRecDepth 20000 in
theorem ggX6_bomb_X6_bombLength : GoodIn wsX6_bomb wsX6_bombLength := goodIn_r _ [19] (by decide +kernel) (by decide +kernel)
set_option maxRecDepth 20000 in
theorem gX6_bomb_X6_bombLength : GoodIn wsX6_bomb (va_wsS RX6 91 yX6_bombLength wsX6_bombLength) := goodIn_app (goodIn_of _ (by decide +kernel)) ggX6_bomb_X6_bombLength
set_option maxRecDepth 20000 in
theorem ggX6_bomb_X5_count : GoodIn wsX6_bomb wsX5_count := goodIn_r _ [23, 11, 32, 33] (by decide +kernel) (by decide +kernel)
set_option maxRecDepth 20000 in
theorem gX6_bomb_X5_count : GoodIn wsX6_bomb (wsV RX6 69 RX5 yX5_count wsX5_count) := goodIn_app (goodIn_of _ (by decide +kernel)) ggX6_bomb_X5_count
theorem dX6_bomb_0 : decode cX6_bomb 0 = .ok (.iload_n 1, 1) := by decide +kernel
theorem dX6_bomb_1 : decode cX6_bomb 1 = .ok (.ifCond .lt 27, 3) := by decide +kernel
theorem dX6_bomb_4 : decode cX6_bomb 4 = .ok (.iload_n 1, 1) := by decide +kernel
theorem dX6_bomb_5 : decode cX6_bomb 5 = .ok (.bipush 12, 2) := by decide +kernel
theorem dX6_bomb_7 : decode cX6_bomb 7 = .ok (.if_icmp .gt 21, 3) := by decide +kernel
theorem dX6_bomb_10 : decode cX6_bomb 10 = .ok (.iload_n 2, 1) := by decide +kernel
theorem dX6_bomb_11 : decode cX6_bomb 11 = .ok (.iconst 2, 1) := by decide +kernel
theorem dX6_bomb_12 : decode cX6_bomb 12 = .ok (.if_icmp .lt 16, 3) := by decide +kernel
theorem dX6_bomb_15 : decode cX6_bomb 15 = .ok (.iload_n 2, 1) := by decide +kernel
theorem dX6_bomb_16 : decode cX6_bomb 16 = .ok (.bipush 65, 2) := by decide +kernel
theorem dX6_bomb_18 : decode cX6_bomb 18 = .ok (.if_icmp .gt 10, 3) := by decide +kernel
theorem dX6_bomb_21 : decode cX6_bomb 21 = .ok (.iload_n 3, 1) := by decide +kernel
theorem dX6_bomb_22 : decode cX6_bomb 22 = .ok (.invokestatic 57, 3) := by decide +kernel
theorem dX6_bomb_25 : decode cX6_bomb 25 = .ok (.ifCond .ne 6, 3) := by decide +kernel
theorem dX6_bomb_28 : decode cX6_bomb 28 = .ok (.bipush (-2), 2) := by decide +kernel
theorem dX6_bomb_30 : decode cX6_bomb 30 = .ok (.ireturn, 1) := by decide +kernel
theorem dX6_bomb_31 : decode cX6_bomb 31 = .ok (.aload_n 0, 1) := by decide +kernel
theorem dX6_bomb_32 : decode cX6_bomb 32 = .ok (.getfield 10, 3) := by decide +kernel
theorem dX6_bomb_35 : decode cX6_bomb 35 = .ok (.iconst 0, 1) := by decide +kernel
theorem dX6_bomb_36 : decode cX6_bomb 36 = .ok (.invokevirtual 73, 3) := by decide +kernel
theorem dX6_bomb_39 : decode cX6_bomb 39 = .ok (.iload_n 1, 1) := by decide +kernel
theorem dX6_bomb_40 : decode cX6_bomb 40 = .ok (.istore 4, 2) := by decide +kernel
theorem dX6_bomb_42 : decode cX6_bomb 42 = .ok (.iload 4, 2) := by decide +kernel
theorem dX6_bomb_44 : decode cX6_bomb 44 = .ok (.ifCond .le 47, 3) := by decide +kernel
theorem dX6_bomb_47 : decode cX6_bomb 47 = .ok (.aload_n 0, 1) := by decide +kernel
theorem dX6_bomb_48 : decode cX6_bomb 48 = .ok (.getfield 10, 3) := by decide +kernel
theorem dX6_bomb_51 : decode cX6_bomb 51 = .ok (.sipush 128, 3) := by decide +kernel
theorem dX6_bomb_54 : decode cX6_bomb 54 = .ok (.iload_n 2, 1) := by decide +kernel
theorem dX6_bomb_55 : decode cX6_bomb 55 = .ok (.iadd, 1) := by decide +kernel
theorem dX6_bomb_56 : decode cX6_bomb 56 = .ok (.iconst 2, 1) := by decide +kernel
theorem dX6_bomb_57 : decode cX6_bomb 57 = .ok (.isub, 1) := by decide +kernel
theorem dX6_bomb_58 : decode cX6_bomb 58 = .ok (.invokevirtual 65, 3) := by decide +kernel
theorem dX6_bomb_61 : decode cX6_bomb 61 = .ok (.aload_n 0, 1) := by decide +kernel
theorem dX6_bomb_62 : decode cX6_bomb 62 = .ok (.getfield 10, 3) := by decide +kernel
theorem dX6_bomb_65 : decode cX6_bomb 65 = .ok (.sipush 192, 3) := by decide +kernel
theorem dX6_bomb_68 : decode cX6_bomb 68 = .ok (.invokevirtual 65, 3) := by decide +kernel
theorem dX6_bomb_71 : decode cX6_bomb 71 = .ok (.aload_n 0, 1) := by decide +kernel
theorem dX6_bomb_72 : decode cX6_bomb 72 = .ok (.getfield 10, 3) := by decide +kernel
theorem dX6_bomb_75 : decode cX6_bomb 75 = .ok (.iload 4, 2) := by decide +kernel
theorem dX6_bomb_77 : decode cX6_bomb 77 = .ok (.iconst 1, 1) := by decide +kernel
theorem dX6_bomb_78 : decode cX6_bomb 78 = .ok (.isub, 1) := by decide +kernel
theorem dX6_bomb_79 : decode cX6_bomb 79 = .ok (.invokestatic 91, 3) := by decide +kernel
theorem dX6_bomb_82 : decode cX6_bomb 82 = .ok (.invokevirtual 65, 3) := by decide +kernel
theorem dX6_bomb_85 : decode cX6_bomb 85 = .ok (.iinc 4 (-1), 3) := by decide +kernel
theorem dX6_bomb_88 : decode cX6_bomb 88 = .ok (.goto (-46), 3) := by decide +kernel
theorem dX6_bomb_91 : decode cX6_bomb 91 = .ok (.aload_n 0, 1) := by decide +kernel
theorem dX6_bomb_92 : decode cX6_bomb 92 = .ok (.getfield 10, 3) := by decide +kernel
theorem dX6_bomb_95 : decode cX6_bomb 95 = .ok (.iconst 1, 1) := by decide +kernel
theorem dX6_bomb_96 : decode cX6_bomb 96 = .ok (.invokevirtual 65, 3) := by decide +kernel
theorem dX6_bomb_99 : decode cX6_bomb 99 = .ok (.aload_n 0, 1) := by decide +kernel
theorem dX6_bomb_100 : decode cX6_bomb 100 = .ok (.getfield 10, 3) := by decide +kernel
theorem dX6_bomb_103 : decode cX6_bomb 103 = .ok (.iload_n 3, 1) := by decide +kernel
theorem dX6_bomb_104 : decode cX6_bomb 104 = .ok (.invokevirtual 65, 3) := by decide +kernel
theorem dX6_bomb_107 : decode cX6_bomb 107 = .ok (.iload_n 3, 1) := by decide +kernel
theorem dX6_bomb_108 : decode cX6_bomb 108 = .ok (.istore 4, 2) := by decide +kernel
theorem dX6_bomb_110 : decode cX6_bomb 110 = .ok (.iconst 0, 1) := by decide +kernel
theorem dX6_bomb_111 : decode cX6_bomb 111 = .ok (.istore 5, 2) := by decide +kernel
theorem dX6_bomb_113 : decode cX6_bomb 113 = .ok (.iload 5, 2) := by decide +kernel
theorem dX6_bomb_115 : decode cX6_bomb 115 = .ok (.iload_n 1, 1) := by decide +kernel
theorem dX6_bomb_116 : decode cX6_bomb 116 = .ok (.if_icmp .gt 40, 3) := by decide +kernel
theorem dX6_bomb_119 : decode cX6_bomb 119 = .ok (.aload_n 0, 1) := by decide +kernel
theorem dX6_bomb_120 : decode cX6_bomb 120 = .ok (.getfield 10, 3) := by decide +kernel
theorem dX6_bomb_123 : decode cX6_bomb 123 = .ok (.iconst 0, 1) := by decide +kernel
theorem dX6_bomb_124 : decode cX6_bomb 124 = .ok (.invokevirtual 65, 3) := by decide +kernel
theorem dX6_bomb_127 : decode cX6_bomb 127 = .ok (.aload_n 0, 1) := by decide +kernel
theorem dX6_bomb_128 : decode cX6_bomb 128 = .ok (.getfield 10, 3) := by decide +kernel
theorem dX6_bomb_131 : decode cX6_bomb 131 = .ok (.iload 4, 2) := by decide +kernel
theorem dX6_bomb_133 : decode cX6_bomb 133 = .ok (.sipush 255, 3) := by decide +kernel
theorem dX6_bomb_136 : decode cX6_bomb 136 = .ok (.iand, 1) := by decide +kernel
theorem dX6_bomb_137 : decode cX6_bomb 137 = .ok (.invokevirtual 65, 3) := by decide +kernel
theorem dX6_bomb_140 : decode cX6_bomb 140 = .ok (.iload 4, 2) := by decide +kernel
theorem dX6_bomb_142 : decode cX6_bomb 142 = .ok (.iload_n 2, 1) := by decide +kernel
theorem dX6_bomb_143 : decode cX6_bomb 143 = .ok (.imul, 1) := by decide +kernel
theorem dX6_bomb_144 : decode cX6_bomb 144 = .ok (.sipush 255, 3) := by decide +kernel
theorem dX6_bomb_147 : decode cX6_bomb 147 = .ok (.iand, 1) := by decide +kernel
theorem dX6_bomb_148 : decode cX6_bomb 148 = .ok (.istore 4, 2) := by decide +kernel
theorem dX6_bomb_150 : decode cX6_bomb 150 = .ok (.iinc 5 1, 3) := by decide +kernel
theorem dX6_bomb_153 : decode cX6_bomb 153 = .ok (.goto (-40), 3) := by decide +kernel
theorem dX6_bomb_156 : decode cX6_bomb 156 = .ok (.aload_n 0, 1) := by decide +kernel
theorem dX6_bomb_157 : decode cX6_bomb 157 = .ok (.getfield 10, 3) := by decide +kernel
theorem dX6_bomb_160 : decode cX6_bomb 160 = .ok (.invokevirtual 69, 3) := by decide +kernel
theorem dX6_bomb_163 : decode cX6_bomb 163 = .ok (.ireturn, 1) := by decide +kernel
set_option maxRecDepth 20000 in
theorem ggX6_plant_X5_isFull : GoodIn wsX6_plant wsX5_isFull := goodIn_r _ [6, 7, 8, 236, 237] (by decide +kernel) (by decide +kernel)
set_option maxRecDepth 20000 in
theorem gX6_plant_X5_isFull : GoodIn wsX6_plant (wsV RX6 61 RX5 yX5_isFull wsX5_isFull) := goodIn_app (goodIn_of _ (by decide +kernel)) ggX6_plant_X5_isFull
set_option maxRecDepth 20000 in
theorem ggX6_plant_X6_greatestVerdict : GoodIn wsX6_plant wsX6_greatestVerdict := goodIn_r _ [13, 14, 1, 15, 16, 17, 18, 5, 19, 8, 7, 20, 21, 22, 23, 24, 25, 26, 27, 28, 29, 30, 31, 32, 33, 34, 35, 36, 37, 38, 39, 40, 41, 42, 43, 44, 45, 46, 47, 48, 49, 50, 51, 52, 53, 54, 55, 56, 57, 58, 59, 60, 61, 62, 63, 64, 65, 66, 67, 68, 69, 70, 71, 72, 73, 74, 75, 76, 77, 78, 79, 80, 81, 82, 83, 84, 85, 86, 87, 88, 89, 90, 91, 92, 93, 94, 95, 96, 97, 98, 99, 100, 101, 102, 103, 104, 105, 106, 107, 108, 109, 110, 111, 112, 113, 114, 115, 116, 117, 118, 119, 120, 121, 12, 122, 123, 124, 125, 126, 127, 128, 129, 130, 131, 132, 133, 134, 135, 136, 137, 138, 139, 140, 141, 142, 143, 144, 145, 146, 147, 148, 149, 150, 151, 152, 153, 154, 155, 156, 157, 158, 159, 160, 161, 162, 163, 164, 165, 166, 167, 168, 169, 170, 171, 172, 173, 174, 175, 176, 177, 178, 179, 180, 181, 182, 183, 184, 185, 186, 187, 188, 189, 190, 191, 192, 193, 194, 195, 228, 229, 230, 231, 232, 233, 234, 235, 236, 237, 238, 239, 240, 241, 242, 243, 244, 245, 246, 247, 248, 249, 250, 251, 252, 253, 254, 255, 256, 257, 258, 259, 260, 261, 262, 263] (by decide +kernel) (by decide +kernel)
set_option maxRecDepth 20000 in
theorem gX6_plant_X6_greatestVerdict : GoodIn wsX6_plant (wsV RX6 94 RX6 yX6_greatestVerdict wsX6_greatestVerdict) := goodIn_app (goodIn_of _ (by decide +kernel)) ggX6_plant_X6_greatestVerdict
set_option maxRecDepth 20000 in
theorem ggX6_plant_X6_plantInSound : GoodIn wsX6_plant wsX6_plantInSound := goodIn_r _ [199, 1, 200, 57, 58, 5, 59, 7, 201, 202, 203, 204, 205, 206, 207, 12, 208, 209, 210, 211, 212, 213, 118, 119, 120, 214, 114, 115, 116, 8, 117, 215, 121, 122, 216, 217, 218, 219, 220, 221, 222, 223, 224, 225, 226, 227, 228, 229, 230, 231, 232, 233, 234, 235, 236, 237] (by decide +kernel) (by decide +kernel)
set_option maxRecDepth 20000 in
theorem gX6_plant_X6_plantInSound : GoodIn wsX6_plant (wsV RX6 97 RX6 yX6_plantInSound wsX6_plantInSound) := goodIn_app (goodIn_of _ (by decide +kernel)) ggX6_plant_X6_plantInSound
theorem dX6_plant_0 : decode cX6_plant 0 = .ok (.iload_n 1, 1) := by decide +kernel
theorem dX6_plant_1 : decode cX6_plant 1 = .ok (.iconst 1, 1) := by decide +kernel
theorem dX6_plant_2 : decode cX6_plant 2 = .ok (.if_icmp .lt 15, 3) := by decide +kernel
theorem dX6_plant_5 : decode cX6_plant 5 = .ok (.iload_n 1, 1) := by decide +kernel
theorem dX6_plant_6 : decode cX6_plant 6 = .ok (.bipush 7, 2) := by decide +kernel
theorem dX6_plant_8 : decode cX6_plant 8 = .ok (.if_icmp .gt 9, 3) := by decide +kernel
theorem dX6_plant_11 : decode cX6_plant 11 = .ok (.iload_n 1, 1) := by decide +kernel
theorem dX6_plant_12 : decode cX6_plant 12 = .ok (.bipush 6, 2) := by decide +kernel
theorem dX6_plant_14 : decode cX6_plant 14 = .ok (.if_icmp .ne 6, 3) := by decide +kernel
theorem dX6_plant_17 : decode cX6_plant 17 = .ok (.bipush (-2), 2) := by decide +kernel
theorem dX6_plant_19 : decode cX6_plant 19 = .ok (.ireturn, 1) := by decide +kernel
theorem dX6_plant_20 : decode cX6_plant 20 = .ok (.iload_n 1, 1) := by decide +kernel
theorem dX6_plant_21 : decode cX6_plant 21 = .ok (.iconst 5, 1) := by decide +kernel
theorem dX6_plant_22 : decode cX6_plant 22 = .ok (.if_icmp .ne 16, 3) := by decide +kernel
theorem dX6_plant_25 : decode cX6_plant 25 = .ok (.aload_n 0, 1) := by decide +kernel
theorem dX6_plant_26 : decode cX6_plant 26 = .ok (.getfield 10, 3) := by decide +kernel
theorem dX6_plant_29 : decode cX6_plant 29 = .ok (.invokevirtual 61, 3) := by decide +kernel
theorem dX6_plant_32 : decode cX6_plant 32 = .ok (.ifCond .eq 6, 3) := by decide +kernel
theorem dX6_plant_35 : decode cX6_plant 35 = .ok (.bipush (-3), 2) := by decide +kernel
theorem dX6_plant_37 : decode cX6_plant 37 = .ok (.ireturn, 1) := by decide +kernel
theorem dX6_plant_38 : decode cX6_plant 38 = .ok (.aload_n 0, 1) := by decide +kernel
theorem dX6_plant_39 : decode cX6_plant 39 = .ok (.invokevirtual 94, 3) := by decide +kernel
theorem dX6_plant_42 : decode cX6_plant 42 = .ok (.ifCond .ne 11, 3) := by decide +kernel
theorem dX6_plant_45 : decode cX6_plant 45 = .ok (.aload_n 0, 1) := by decide +kernel
theorem dX6_plant_46 : decode cX6_plant 46 = .ok (.iload_n 1, 1) := by decide +kernel
theorem dX6_plant_47 : decode cX6_plant 47 = .ok (.invokevirtual 97, 3) := by decide +kernel
theorem dX6_plant_50 : decode cX6_plant 50 = .ok (.ifCond .ne 6, 3) := by decide +kernel
theorem dX6_plant_53 : decode cX6_plant 53 = .ok (.bipush (-4), 2) := by decide +kernel
theorem dX6_plant_55 : decode cX6_plant 55 = .ok (.ireturn, 1) := by decide +kernel
theorem dX6_plant_56 : decode cX6_plant 56 = .ok (.aload_n 0, 1) := by decide +kernel
theorem dX6_plant_57 : decode cX6_plant 57 = .ok (.invokevirtual 94, 3) := by decide +kernel
theorem dX6_plant_60 : decode cX6_plant 60 = .ok (.ireturn, 1) := by decide +kernel
set_option maxRecDepth 20000 in
theorem ggX6_open_X6_areBounds : GoodIn wsX6_open wsX6_areBounds := goodIn_r _ [6] (by decide +kernel) (by decide +kernel)
set_option maxRecDepth 20000 in
theorem gX6_open_X6_areBounds : GoodIn wsX6_open (va_wsS RX6 100 yX6_areBounds wsX6_areBounds) := goodIn_app (goodIn_of _ (by decide +kernel)) ggX6_open_X6_areBounds
set_option maxRecDepth 20000 in
theorem ggX6_open_X1_read : GoodIn wsX6_open wsX1_read := goodIn_r _ [11, 12, 13, 14, 15, 16, 17, 18, 19, 20, 21, 22, 23, 24, 25, 26, 27, 28, 29, 30, 31, 32, 33, 34, 35, 36, 37, 38, 39, 40, 41, 42, 43, 44, 45, 46, 47, 10, 48, 49, 50, 51, 52, 53, 54, 55, 56, 57, 58, 59, 60, 61, 62, 63, 64, 65, 66, 67, 68, 69, 70, 71, 72, 73, 74, 75, 76, 77, 78, 79, 80, 81, 82, 83, 84, 85, 86, 87, 88, 89, 90, 91, 92, 93, 94, 95, 96, 97, 98, 99, 100, 101, 102, 103, 104, 105, 106, 107, 5, 108, 109, 110, 111, 112, 113, 114, 115, 116, 117, 118, 119, 120, 121, 122, 123, 124, 125, 126, 127, 128, 129, 130, 131, 132, 133, 134, 135, 136, 137, 138, 139, 140, 141, 142, 143, 144, 145, 146, 147, 148, 149, 150, 151, 152, 153, 154, 155, 156, 157, 158, 159, 160, 161, 162, 163, 164, 165, 166, 167, 168, 169, 170, 171, 172, 173, 174, 175, 176, 177, 178, 179, 180, 181, 195, 196, 197, 198, 199, 200, 201, 202, 203, 204, 205, 206, 207, 208, 209, 210, 211, 212, 213, 214, 215, 216, 217, 218, 219, 220, 221, 222] (by decide +kernel) (by decide +kernel)
set_option maxRecDepth 20000 in
theorem gX6_open_X1_read : GoodIn wsX6_open (wsV RX6 104 RX1 yX1_read wsX1_read) := goodIn_app (goodIn_of _ (by decide +kernel)) ggX6_open_X1_read
set_option maxRecDepth 20000 in
theorem ggX6_open_X0_answer : GoodIn wsX6_open wsX0_answer := goodIn_r _ [185, 25, 30, 186, 67, 68, 19, 69, 207, 208, 209, 210, 211, 212, 213, 214, 215, 216, 217, 218] (by decide +kernel) (by decide +kernel)
set_option maxRecDepth 20000 in
theorem gX6_open_X0_answer : GoodIn wsX6_open (wsV RX6 108 RX0 yX0_answer wsX0_answer) := goodIn_app (goodIn_of _ (by decide +kernel)) ggX6_open_X0_answer
theorem dX6_open_0 : decode cX6_open 0 = .ok (.iload_n 1, 1) := by decide +kernel
theorem dX6_open_1 : decode cX6_open 1 = .ok (.iload_n 2, 1) := by decide +kernel
theorem dX6_open_2 : decode cX6_open 2 = .ok (.iload_n 3, 1) := by decide +kernel
theorem dX6_open_3 : decode cX6_open 3 = .ok (.invokestatic 100, 3) := by decide +kernel
theorem dX6_open_6 : decode cX6_open 6 = .ok (.ifCond .ne 6, 3) := by decide +kernel
theorem dX6_open_9 : decode cX6_open 9 = .ok (.bipush (-2), 2) := by decide +kernel
theorem dX6_open_11 : decode cX6_open 11 = .ok (.ireturn, 1) := by decide +kernel
theorem dX6_open_12 : decode cX6_open 12 = .ok (.aload_n 0, 1) := by decide +kernel
theorem dX6_open_13 : decode cX6_open 13 = .ok (.getfield 34, 3) := by decide +kernel
theorem dX6_open_16 : decode cX6_open 16 = .ok (.iload_n 1, 1) := by decide +kernel
theorem dX6_open_17 : decode cX6_open 17 = .ok (.iload_n 2, 1) := by decide +kernel
theorem dX6_open_18 : decode cX6_open 18 = .ok (.iload_n 3, 1) := by decide +kernel
theorem dX6_open_19 : decode cX6_open 19 = .ok (.invokevirtual 104, 3) := by decide +kernel
theorem dX6_open_22 : decode cX6_open 22 = .ok (.pop, 1) := by decide +kernel
theorem dX6_open_23 : decode cX6_open 23 = .ok (.aload_n 0, 1) := by decide +kernel
theorem dX6_open_24 : decode cX6_open 24 = .ok (.getfield 22, 3) := by decide +kernel
theorem dX6_open_27 : decode cX6_open 27 = .ok (.invokevirtual 108, 3) := by decide +kernel
theorem dX6_open_30 : decode cX6_open 30 = .ok (.ireturn, 1) := by decide +kernel
set_option maxRecDepth 20000 in
theorem ggX6_plain_X6_areBounds : GoodIn wsX6_plain wsX6_areBounds := goodIn_r _ [6] (by decide +kernel) (by decide +kernel)
set_option maxRecDepth 20000 in
theorem gX6_plain_X6_areBounds : GoodIn wsX6_plain (va_wsS RX6 100 yX6_areBounds wsX6_areBounds) := goodIn_app (goodIn_of _ (by decide +kernel)) ggX6_plain_X6_areBounds
set_option maxRecDepth 20000 in
theorem ggX6_plain_X3_read : GoodIn wsX6_plain wsX3_read := goodIn_r _ [11, 12, 13, 14, 15, 16, 17, 18, 19, 20, 21, 22, 23, 24, 25, 26, 27, 28, 29, 30, 31, 32, 33, 34, 35, 36, 37, 38, 39, 40, 41, 42, 43, 44, 45, 46, 47, 48, 10, 49, 50, 51, 52, 53, 54, 55, 56, 57, 58, 59, 60, 61, 62, 63, 64, 65, 66, 67, 68, 69, 70, 71, 72, 73, 74, 75, 76, 77, 78, 79, 80, 81, 82, 83, 84, 85, 86, 87, 88, 89, 90, 91, 92, 93, 94, 95, 96, 97, 98, 99, 100, 101, 102, 103, 104, 105, 106, 107, 108, 109, 110, 111, 112, 113, 114, 115, 116, 117, 118, 119, 120, 121, 122, 123, 124, 5, 125, 126, 127, 128, 129, 130, 131, 132, 133, 134, 135, 136, 137, 138, 139, 140, 141, 142, 143, 144, 145, 146, 147, 148, 149, 150, 151, 152, 153, 154, 155, 156, 157, 171, 172, 173, 174, 175, 176, 177, 178, 179, 180, 181, 182, 183, 184, 185, 186, 187, 188, 189, 190, 191, 192] (by decide +kernel) (by decide +kernel)
set_option maxRecDepth 20000 in
theorem gX6_plain_X3_read : GoodIn wsX6_plain (wsV RX6 111 RX3 yX3_read wsX3_read) := goodIn_app (goodIn_of _ (by decide +kernel)) ggX6_plain_X3_read
set_option maxRecDepth 20000 in
theorem ggX6_plain_X0_answer : GoodIn wsX6_plain wsX0_answer := goodIn_r _ [161, 26, 31, 162, 76, 77, 20, 78, 177, 178, 179, 180, 181, 182, 183, 184, 185, 186, 187, 188] (by decide +kernel) (by decide +kernel)
set_option maxRecDepth 20000 in
theorem gX6_plain_X0_answer : GoodIn wsX6_plain (wsV RX6 108 RX0 yX0_answer wsX0_answer) := goodIn_app (goodIn_of _ (by decide +kernel)) ggX6_plain_X0_answer
theorem dX6_plain_0 : decode cX6_plain 0 = .ok (.iload_n 1, 1) := by decide +kernel
theorem dX6_plain_1 : decode cX6_plain 1 = .ok (.iload_n 2, 1) := by decide +kernel
theorem dX6_plain_2 : decode cX6_plain 2 = .ok (.iload_n 3, 1) := by decide +kernel
theorem dX6_plain_3 : decode cX6_plain 3 = .ok (.invokestatic 100, 3) := by decide +kernel
theorem dX6_plain_6 : decode cX6_plain 6 = .ok (.ifCond .ne 6, 3) := by decide +kernel
theorem dX6_plain_9 : decode cX6_plain 9 = .ok (.bipush (-2), 2) := by decide +kernel
theorem dX6_plain_11 : decode cX6_plain 11 = .ok (.ireturn, 1) := by decide +kernel
theorem dX6_plain_12 : decode cX6_plain 12 = .ok (.aload_n 0, 1) := by decide +kernel
theorem dX6_plain_13 : decode cX6_plain 13 = .ok (.getfield 41, 3) := by decide +kernel
theorem dX6_plain_16 : decode cX6_plain 16 = .ok (.iload_n 1, 1) := by decide +kernel
theorem dX6_plain_17 : decode cX6_plain 17 = .ok (.iload_n 2, 1) := by decide +kernel
theorem dX6_plain_18 : decode cX6_plain 18 = .ok (.iload_n 3, 1) := by decide +kernel
theorem dX6_plain_19 : decode cX6_plain 19 = .ok (.invokevirtual 111, 3) := by decide +kernel
theorem dX6_plain_22 : decode cX6_plain 22 = .ok (.aload_n 0, 1) := by decide +kernel
theorem dX6_plain_23 : decode cX6_plain 23 = .ok (.getfield 22, 3) := by decide +kernel
theorem dX6_plain_26 : decode cX6_plain 26 = .ok (.invokevirtual 108, 3) := by decide +kernel
theorem dX6_plain_29 : decode cX6_plain 29 = .ok (.ireturn, 1) := by decide +kernel
set_option maxRecDepth 20000 in
theorem ggX6_told_X0_failed : GoodIn wsX6_told wsX0_failed := goodIn_r _ [6, 7, 16, 17, 18, 19, 20, 21, 22, 23, 24, 25, 26, 27] (by decide +kernel) (by decide +kernel)
set_option maxRecDepth 20000 in
theorem gX6_told_X0_failed : GoodIn wsX6_told (wsV RX6 114 RX0 yX0_failed wsX0_failed) := goodIn_app (goodIn_of _ (by decide +kernel)) ggX6_told_X0_failed
theorem dX6_told_0 : decode cX6_told 0 = .ok (.iload_n 1, 1) := by decide +kernel
theorem dX6_told_1 : decode cX6_told 1 = .ok (.tableswitch 113 0 6 #[43, 65, 73, 81, 89, 97, 105], 43) := by decide +kernel
theorem dX6_told_44 : decode cX6_told 44 = .ok (.aload_n 0, 1) := by decide +kernel
theorem dX6_told_45 : decode cX6_told 45 = .ok (.getfield 22, 3) := by decide +kernel
theorem dX6_told_48 : decode cX6_told 48 = .ok (.invokevirtual 114, 3) := by decide +kernel
theorem dX6_told_51 : decode cX6_told 51 = .ok (.ifCond .eq 13, 3) := by decide +kernel
theorem dX6_told_54 : decode cX6_told 54 = .ok (.aload_n 0, 1) := by decide +kernel
theorem dX6_told_55 : decode cX6_told 55 = .ok (.getfield 22, 3) := by decide +kernel
theorem dX6_told_58 : decode cX6_told 58 = .ok (.getfield 117, 3) := by decide +kernel
theorem dX6_told_61 : decode cX6_told 61 = .ok (.goto 4, 3) := by decide +kernel
theorem dX6_told_64 : decode cX6_told 64 = .ok (.iconst (-1), 1) := by decide +kernel
theorem dX6_told_65 : decode cX6_told 65 = .ok (.ireturn, 1) := by decide +kernel
theorem dX6_told_66 : decode cX6_told 66 = .ok (.aload_n 0, 1) := by decide +kernel
theorem dX6_told_67 : decode cX6_told 67 = .ok (.getfield 22, 3) := by decide +kernel
theorem dX6_told_70 : decode cX6_told 70 = .ok (.getfield 121, 3) := by decide +kernel
theorem dX6_told_73 : decode cX6_told 73 = .ok (.ireturn, 1) := by decide +kernel
theorem dX6_told_74 : decode cX6_told 74 = .ok (.aload_n 0, 1) := by decide +kernel
theorem dX6_told_75 : decode cX6_told 75 = .ok (.getfield 22, 3) := by decide +kernel
theorem dX6_told_78 : decode cX6_told 78 = .ok (.getfield 124, 3) := by decide +kernel
theorem dX6_told_81 : decode cX6_told 81 = .ok (.ireturn, 1) := by decide +kernel
theorem dX6_told_82 : decode cX6_told 82 = .ok (.aload_n 0, 1) := by decide +kernel
theorem dX6_told_83 : decode cX6_told 83 = .ok (.getfield 22, 3) := by decide +kernel
theorem dX6_told_86 : decode cX6_told 86 = .ok (.getfield 127, 3) := by decide +kernel
theorem dX6_told_89 : decode cX6_told 89 = .ok (.ireturn, 1) := by decide +kernel
theorem dX6_told_90 : decode cX6_told 90 = .ok (.aload_n 0, 1) := by decide +kernel
theorem dX6_told_91 : decode cX6_told 91 = .ok (.getfield 22, 3) := by decide +kernel
theorem dX6_told_94 : decode cX6_told 94 = .ok (.getfield 130, 3) := by decide +kernel
theorem dX6_told_97 : decode cX6_told 97 = .ok (.ireturn, 1) := by decide +kernel
theorem dX6_told_98 : decode cX6_told 98 = .ok (.aload_n 0, 1) := by decide +kernel
theorem dX6_told_99 : decode cX6_told 99 = .ok (.getfield 22, 3) := by decide +kernel
theorem dX6_told_102 : decode cX6_told 102 = .ok (.getfield 133, 3) := by decide +kernel
theorem dX6_told_105 : decode cX6_told 105 = .ok (.ireturn, 1) := by decide +kernel
theorem dX6_told_106 : decode cX6_told 106 = .ok (.aload_n 0, 1) := by decide +kernel
theorem dX6_told_107 : decode cX6_told 107 = .ok (.getfield 22, 3) := by decide +kernel
theorem dX6_told_110 : decode cX6_told 110 = .ok (.getfield 136, 3) := by decide +kernel
theorem dX6_told_113 : decode cX6_told 113 = .ok (.ireturn, 1) := by decide +kernel
theorem dX6_told_114 : decode cX6_told 114 = .ok (.bipush (-2), 2) := by decide +kernel
theorem dX6_told_116 : decode cX6_told 116 = .ok (.ireturn, 1) := by decide +kernel
set_option maxRecDepth 20000 in
theorem ggX6_given_X4_byteAt : GoodIn wsX6_given wsX4_byteAt := goodIn_r _ [6, 7, 28, 29] (by decide +kernel) (by decide +kernel)
set_option maxRecDepth 20000 in
theorem gX6_given_X4_byteAt : GoodIn wsX6_given (wsV RX6 143 RX4 yX4_byteAt wsX4_byteAt) := goodIn_app (goodIn_of _ (by decide +kernel)) ggX6_given_X4_byteAt
theorem dX6_given_0 : decode cX6_given 0 = .ok (.iload_n 1, 1) := by decide +kernel
theorem dX6_given_1 : decode cX6_given 1 = .ok (.ifCond .lt 28, 3) := by decide +kernel
theorem dX6_given_4 : decode cX6_given 4 = .ok (.iload_n 1, 1) := by decide +kernel
theorem dX6_given_5 : decode cX6_given 5 = .ok (.aload_n 0, 1) := by decide +kernel
theorem dX6_given_6 : decode cX6_given 6 = .ok (.getfield 22, 3) := by decide +kernel
theorem dX6_given_9 : decode cX6_given 9 = .ok (.getfield 130, 3) := by decide +kernel
theorem dX6_given_12 : decode cX6_given 12 = .ok (.if_icmp .ge 17, 3) := by decide +kernel
theorem dX6_given_15 : decode cX6_given 15 = .ok (.aload_n 0, 1) := by decide +kernel
theorem dX6_given_16 : decode cX6_given 16 = .ok (.getfield 22, 3) := by decide +kernel
theorem dX6_given_19 : decode cX6_given 19 = .ok (.getfield 139, 3) := by decide +kernel
theorem dX6_given_22 : decode cX6_given 22 = .ok (.iload_n 1, 1) := by decide +kernel
theorem dX6_given_23 : decode cX6_given 23 = .ok (.invokevirtual 143, 3) := by decide +kernel
theorem dX6_given_26 : decode cX6_given 26 = .ok (.goto 4, 3) := by decide +kernel
theorem dX6_given_29 : decode cX6_given 29 = .ok (.iconst (-1), 1) := by decide +kernel
theorem dX6_given_30 : decode cX6_given 30 = .ok (.ireturn, 1) := by decide +kernel
set_option maxRecDepth 20000 in
theorem ggX6_shorter_X6_areBounds : GoodIn wsX6_shorter wsX6_areBounds := goodIn_r _ [7] (by decide +kernel) (by decide +kernel)
set_option maxRecDepth 20000 in
theorem gX6_shorter_X6_areBounds : GoodIn wsX6_shorter (va_wsS RX6 100 yX6_areBounds wsX6_areBounds) := goodIn_app (goodIn_of _ (by decide +kernel)) ggX6_shorter_X6_areBounds
set_option maxRecDepth 20000 in
theorem ggX6_shorter_X5_count : GoodIn wsX6_shorter wsX5_count := goodIn_r _ [12, 13, 204, 205] (by decide +kernel) (by decide +kernel)
set_option maxRecDepth 20000 in
theorem gX6_shorter_X5_count : GoodIn wsX6_shorter (wsV RX6 69 RX5 yX5_count wsX5_count) := goodIn_app (goodIn_of _ (by decide +kernel)) ggX6_shorter_X5_count
set_option maxRecDepth 20000 in
theorem ggX6_shorter_X5_become : GoodIn wsX6_shorter wsX5_become := goodIn_r _ [17, 18, 13, 19, 20, 21, 22, 204, 205] (by decide +kernel) (by decide +kernel)
set_option maxRecDepth 20000 in
theorem gX6_shorter_X5_become : GoodIn wsX6_shorter (wsV RX6 146 RX5 yX5_become wsX5_become) := goodIn_app (goodIn_of _ (by decide +kernel)) ggX6_shorter_X5_become
set_option maxRecDepth 20000 in
theorem ggX6_shorter_X1_read : GoodIn wsX6_shorter wsX1_read := goodIn_r _ [27, 28, 29, 30, 31, 32, 33, 34, 35, 36, 37, 38, 39, 40, 41, 42, 43, 44, 45, 46, 47, 48, 49, 50, 51, 52, 53, 54, 55, 9, 10, 11, 12, 13, 56, 57, 58, 26, 59, 60, 61, 62, 63, 64, 65, 66, 67, 68, 69, 70, 71, 72, 73, 74, 75, 76, 77, 78, 79, 80, 81, 82, 83, 84, 85, 86, 87, 88, 89, 90, 91, 92, 93, 94, 95, 96, 97, 98, 99, 100, 101, 102, 103, 104, 105, 106, 107, 108, 109, 110, 111, 112, 18, 113, 114, 115, 116, 117, 6, 118, 119, 120, 121, 122, 123, 124, 125, 126, 127, 128, 129, 130, 131, 132, 133, 134, 135, 136, 137, 138, 139, 140, 141, 142, 143, 144, 145, 146, 147, 148, 149, 150, 151, 152, 153, 154, 155, 156, 157, 158, 159, 160, 161, 162, 163, 164, 165, 166, 167, 168, 169, 170, 171, 172, 173, 174, 175, 176, 177, 178, 179, 180, 181, 182, 183, 184, 185, 186, 187, 188, 189, 190, 191, 206, 207, 208, 209, 210, 211, 212, 213, 214, 215, 216, 217, 218, 219, 220, 221, 222, 223, 224, 225, 226, 227, 228, 229, 230, 231, 204, 205] (by decide +kernel) (by decide +kernel)
set_option maxRecDepth 20000 in
theorem gX6_shorter_X1_read : GoodIn wsX6_shorter (wsV RX6 104 RX1 yX1_read wsX1_read) := goodIn_app (goodIn_of _ (by decide +kernel)) ggX6_shorter_X1_read
set_option maxRecDepth 20000 in
theorem ggX6_shorter_X5_leaveOut : GoodIn wsX6_shorter wsX5_leaveOut := goodIn_r _ [195, 18, 13, 19, 20, 21, 22, 113, 114, 115, 11, 116, 204, 205] (by decide +kernel) (by decide +kernel)
set_option maxRecDepth 20000 in
theorem gX6_shorter_X5_leaveOut : GoodIn wsX6_shorter (wsV RX6 149 RX5 yX5_leaveOut wsX5_leaveOut) := goodIn_app (goodIn_of _ (by decide +kernel)) ggX6_shorter_X5_leaveOut
theorem dX6_shorter_0 : decode cX6_shorter 0 = .ok (.iload_n 1, 1) := by decide +kernel
theorem dX6_shorter_1 : decode cX6_shorter 1 = .ok (.iload_n 2, 1) := by decide +kernel
theorem dX6_shorter_2 : decode cX6_shorter 2 = .ok (.iload_n 3, 1) := by decide +kernel
theorem dX6_shorter_3 : decode cX6_shorter 3 = .ok (.invokestatic 100, 3) := by decide +kernel
theorem dX6_shorter_6 : decode cX6_shorter 6 = .ok (.ifCond .ne 6, 3) := by decide +kernel
theorem dX6_shorter_9 : decode cX6_shorter 9 = .ok (.bipush (-2), 2) := by decide +kernel
theorem dX6_shorter_11 : decode cX6_shorter 11 = .ok (.ireturn, 1) := by decide +kernel
theorem dX6_shorter_12 : decode cX6_shorter 12 = .ok (.aload_n 0, 1) := by decide +kernel
theorem dX6_shorter_13 : decode cX6_shorter 13 = .ok (.getfield 10, 3) := by decide +kernel
theorem dX6_shorter_16 : decode cX6_shorter 16 = .ok (.invokevirtual 69, 3) := by decide +kernel
theorem dX6_shorter_19 : decode cX6_shorter 19 = .ok (.istore 4, 2) := by decide +kernel
theorem dX6_shorter_21 : decode cX6_shorter 21 = .ok (.aload_n 0, 1) := by decide +kernel
theorem dX6_shorter_22 : decode cX6_shorter 22 = .ok (.getfield 16, 3) := by decide +kernel
theorem dX6_shorter_25 : decode cX6_shorter 25 = .ok (.aload_n 0, 1) := by decide +kernel
theorem dX6_shorter_26 : decode cX6_shorter 26 = .ok (.getfield 10, 3) := by decide +kernel
theorem dX6_shorter_29 : decode cX6_shorter 29 = .ok (.invokevirtual 146, 3) := by decide +kernel
theorem dX6_shorter_32 : decode cX6_shorter 32 = .ok (.aload_n 0, 1) := by decide +kernel
theorem dX6_shorter_33 : decode cX6_shorter 33 = .ok (.getfield 45, 3) := by decide +kernel
theorem dX6_shorter_36 : decode cX6_shorter 36 = .ok (.iload_n 1, 1) := by decide +kernel
theorem dX6_shorter_37 : decode cX6_shorter 37 = .ok (.iload_n 2, 1) := by decide +kernel
theorem dX6_shorter_38 : decode cX6_shorter 38 = .ok (.iload_n 3, 1) := by decide +kernel
theorem dX6_shorter_39 : decode cX6_shorter 39 = .ok (.invokevirtual 104, 3) := by decide +kernel
theorem dX6_shorter_42 : decode cX6_shorter 42 = .ok (.istore 5, 2) := by decide +kernel
theorem dX6_shorter_44 : decode cX6_shorter 44 = .ok (.iconst 0, 1) := by decide +kernel
theorem dX6_shorter_45 : decode cX6_shorter 45 = .ok (.istore 6, 2) := by decide +kernel
theorem dX6_shorter_47 : decode cX6_shorter 47 = .ok (.iconst 0, 1) := by decide +kernel
theorem dX6_shorter_48 : decode cX6_shorter 48 = .ok (.istore 7, 2) := by decide +kernel
theorem dX6_shorter_50 : decode cX6_shorter 50 = .ok (.iload 7, 2) := by decide +kernel
theorem dX6_shorter_52 : decode cX6_shorter 52 = .ok (.iload 4, 2) := by decide +kernel
theorem dX6_shorter_54 : decode cX6_shorter 54 = .ok (.if_icmp .ge 59, 3) := by decide +kernel
theorem dX6_shorter_57 : decode cX6_shorter 57 = .ok (.aload_n 0, 1) := by decide +kernel
theorem dX6_shorter_58 : decode cX6_shorter 58 = .ok (.getfield 16, 3) := by decide +kernel
theorem dX6_shorter_61 : decode cX6_shorter 61 = .ok (.aload_n 0, 1) := by decide +kernel
theorem dX6_shorter_62 : decode cX6_shorter 62 = .ok (.getfield 10, 3) := by decide +kernel
theorem dX6_shorter_65 : decode cX6_shorter 65 = .ok (.invokevirtual 146, 3) := by decide +kernel
theorem dX6_shorter_68 : decode cX6_shorter 68 = .ok (.aload_n 0, 1) := by decide +kernel
theorem dX6_shorter_69 : decode cX6_shorter 69 = .ok (.getfield 16, 3) := by decide +kernel
theorem dX6_shorter_72 : decode cX6_shorter 72 = .ok (.iload 6, 2) := by decide +kernel
theorem dX6_shorter_74 : decode cX6_shorter 74 = .ok (.invokevirtual 149, 3) := by decide +kernel
theorem dX6_shorter_77 : decode cX6_shorter 77 = .ok (.aload_n 0, 1) := by decide +kernel
theorem dX6_shorter_78 : decode cX6_shorter 78 = .ok (.getfield 45, 3) := by decide +kernel
theorem dX6_shorter_81 : decode cX6_shorter 81 = .ok (.iload_n 1, 1) := by decide +kernel
theorem dX6_shorter_82 : decode cX6_shorter 82 = .ok (.iload_n 2, 1) := by decide +kernel
theorem dX6_shorter_83 : decode cX6_shorter 83 = .ok (.iload_n 3, 1) := by decide +kernel
theorem dX6_shorter_84 : decode cX6_shorter 84 = .ok (.invokevirtual 104, 3) := by decide +kernel
theorem dX6_shorter_87 : decode cX6_shorter 87 = .ok (.iload 5, 2) := by decide +kernel
theorem dX6_shorter_89 : decode cX6_shorter 89 = .ok (.if_icmp .ne 15, 3) := by decide +kernel
theorem dX6_shorter_92 : decode cX6_shorter 92 = .ok (.aload_n 0, 1) := by decide +kernel
theorem dX6_shorter_93 : decode cX6_shorter 93 = .ok (.getfield 10, 3) := by decide +kernel
theorem dX6_shorter_96 : decode cX6_shorter 96 = .ok (.iload 6, 2) := by decide +kernel
theorem dX6_shorter_98 : decode cX6_shorter 98 = .ok (.invokevirtual 149, 3) := by decide +kernel
theorem dX6_shorter_101 : decode cX6_shorter 101 = .ok (.goto 6, 3) := by decide +kernel
theorem dX6_shorter_104 : decode cX6_shorter 104 = .ok (.iinc 6 1, 3) := by decide +kernel
theorem dX6_shorter_107 : decode cX6_shorter 107 = .ok (.iinc 7 1, 3) := by decide +kernel
theorem dX6_shorter_110 : decode cX6_shorter 110 = .ok (.goto (-60), 3) := by decide +kernel
theorem dX6_shorter_113 : decode cX6_shorter 113 = .ok (.iload 4, 2) := by decide +kernel
theorem dX6_shorter_115 : decode cX6_shorter 115 = .ok (.aload_n 0, 1) := by decide +kernel
theorem dX6_shorter_116 : decode cX6_shorter 116 = .ok (.getfield 10, 3) := by decide +kernel
theorem dX6_shorter_119 : decode cX6_shorter 119 = .ok (.invokevirtual 69, 3) := by decide +kernel
theorem dX6_shorter_122 : decode cX6_shorter 122 = .ok (.isub, 1) := by decide +kernel
theorem dX6_shorter_123 : decode cX6_shorter 123 = .ok (.ireturn, 1) := by decide +kernel
theorem dX6_isByte_0 : decode cX6_isByte 0 = .ok (.iload_n 0, 1) := by decide +kernel
theorem dX6_isByte_1 : decode cX6_isByte 1 = .ok (.ifCond .lt 14, 3) := by decide +kernel
theorem dX6_isByte_4 : decode cX6_isByte 4 = .ok (.iload_n 0, 1) := by decide +kernel
theorem dX6_isByte_5 : decode cX6_isByte 5 = .ok (.sipush 255, 3) := by decide +kernel
theorem dX6_isByte_8 : decode cX6_isByte 8 = .ok (.if_icmp .gt 7, 3) := by decide +kernel
theorem dX6_isByte_11 : decode cX6_isByte 11 = .ok (.iconst 1, 1) := by decide +kernel
theorem dX6_isByte_12 : decode cX6_isByte 12 = .ok (.goto 4, 3) := by decide +kernel
theorem dX6_isByte_15 : decode cX6_isByte 15 = .ok (.iconst 0, 1) := by decide +kernel
theorem dX6_isByte_16 : decode cX6_isByte 16 = .ok (.ireturn, 1) := by decide +kernel
theorem dX6_areBounds_0 : decode cX6_areBounds 0 = .ok (.iload_n 0, 1) := by decide +kernel
theorem dX6_areBounds_1 : decode cX6_areBounds 1 = .ok (.ifCond .lt 36, 3) := by decide +kernel
theorem dX6_areBounds_4 : decode cX6_areBounds 4 = .ok (.iload_n 0, 1) := by decide +kernel
theorem dX6_areBounds_5 : decode cX6_areBounds 5 = .ok (.sipush 400, 3) := by decide +kernel
theorem dX6_areBounds_8 : decode cX6_areBounds 8 = .ok (.if_icmp .gt 29, 3) := by decide +kernel
theorem dX6_areBounds_11 : decode cX6_areBounds 11 = .ok (.iload_n 1, 1) := by decide +kernel
theorem dX6_areBounds_12 : decode cX6_areBounds 12 = .ok (.ifCond .lt 25, 3) := by decide +kernel
theorem dX6_areBounds_15 : decode cX6_areBounds 15 = .ok (.iload_n 1, 1) := by decide +kernel
theorem dX6_areBounds_16 : decode cX6_areBounds 16 = .ok (.sipush 800, 3) := by decide +kernel
theorem dX6_areBounds_19 : decode cX6_areBounds 19 = .ok (.if_icmp .gt 18, 3) := by decide +kernel
theorem dX6_areBounds_22 : decode cX6_areBounds 22 = .ok (.iload_n 2, 1) := by decide +kernel
theorem dX6_areBounds_23 : decode cX6_areBounds 23 = .ok (.ifCond .lt 14, 3) := by decide +kernel
theorem dX6_areBounds_26 : decode cX6_areBounds 26 = .ok (.iload_n 2, 1) := by decide +kernel
theorem dX6_areBounds_27 : decode cX6_areBounds 27 = .ok (.sipush 1500, 3) := by decide +kernel
theorem dX6_areBounds_30 : decode cX6_areBounds 30 = .ok (.if_icmp .gt 7, 3) := by decide +kernel
theorem dX6_areBounds_33 : decode cX6_areBounds 33 = .ok (.iconst 1, 1) := by decide +kernel
theorem dX6_areBounds_34 : decode cX6_areBounds 34 = .ok (.goto 4, 3) := by decide +kernel
theorem dX6_areBounds_37 : decode cX6_areBounds 37 = .ok (.iconst 0, 1) := by decide +kernel
theorem dX6_areBounds_38 : decode cX6_areBounds 38 = .ok (.ireturn, 1) := by decide +kernel
theorem dX6_bombLength_0 : decode cX6_bombLength 0 = .ok (.iconst 4, 1) := by decide +kernel
theorem dX6_bombLength_1 : decode cX6_bombLength 1 = .ok (.iconst 5, 1) := by decide +kernel
theorem dX6_bombLength_2 : decode cX6_bombLength 2 = .ok (.iload_n 0, 1) := by decide +kernel
theorem dX6_bombLength_3 : decode cX6_bombLength 3 = .ok (.imul, 1) := by decide +kernel
theorem dX6_bombLength_4 : decode cX6_bombLength 4 = .ok (.iadd, 1) := by decide +kernel
theorem dX6_bombLength_5 : decode cX6_bombLength 5 = .ok (.ireturn, 1) := by decide +kernel
set_option maxRecDepth 20000 in
theorem ggX6_greatestVerdict_X5_become : GoodIn wsX6_greatestVerdict wsX5_become := goodIn_r _ [8, 9, 10, 11, 12, 13, 14, 196, 197] (by decide +kernel) (by decide +kernel)
set_option maxRecDepth 20000 in
theorem gX6_greatestVerdict_X5_become : GoodIn wsX6_greatestVerdict (wsV RX6 146 RX5 yX5_become wsX5_become) := goodIn_app (goodIn_of _ (by decide +kernel)) ggX6_greatestVerdict_X5_become
set_option maxRecDepth 20000 in
theorem ggX6_greatestVerdict_X1_read : GoodIn wsX6_greatestVerdict wsX1_read := goodIn_r _ [19, 20, 21, 22, 23, 24, 25, 26, 27, 28, 29, 30, 31, 32, 33, 34, 35, 36, 37, 38, 39, 40, 41, 42, 43, 44, 45, 46, 47, 48, 49, 7, 50, 10, 51, 52, 53, 18, 54, 55, 56, 57, 58, 59, 60, 61, 62, 63, 64, 65, 66, 67, 68, 69, 70, 71, 72, 73, 74, 75, 76, 77, 78, 79, 80, 81, 82, 83, 84, 85, 86, 87, 88, 89, 90, 91, 92, 93, 94, 95, 96, 97, 98, 99, 100, 101, 102, 103, 104, 105, 106, 107, 9, 108, 109, 110, 111, 112, 113, 114, 115, 116, 117, 118, 119, 120, 121, 122, 123, 124, 125, 126, 127, 128, 129, 130, 131, 132, 133, 134, 135, 136, 137, 138, 139, 140, 141, 142, 143, 144, 145, 146, 147, 148, 149, 150, 151, 152, 153, 154, 155, 156, 157, 158, 159, 160, 161, 162, 163, 164, 165, 166, 167, 168, 169, 170, 171, 172, 173, 174, 175, 176, 177, 178, 179, 180, 181, 182, 183, 184, 185, 186, 187, 198, 199, 200, 201, 202, 203, 204, 205, 206, 207, 208, 209, 210, 211, 212, 213, 214, 215, 216, 217, 218, 219, 220, 221, 222, 223, 196, 197] (by decide +kernel) (by decide +kernel)
set_option maxRecDepth 20000 in
theorem gX6_greatestVerdict_X1_read : GoodIn wsX6_greatestVerdict (wsV RX6 104 RX1 yX1_read wsX1_read) := goodIn_app (goodIn_of _ (by decide +kernel)) ggX6_greatestVerdict_X1_read
theorem dX6_greatestVerdict_0 : decode cX6_greatestVerdict 0 = .ok (.aload_n 0, 1) := by decide +kernel
theorem dX6_greatestVerdict_1 : decode cX6_greatestVerdict 1 = .ok (.getfield 16, 3) := by decide +kernel
theorem dX6_greatestVerdict_4 : decode cX6_greatestVerdict 4 = .ok (.aload_n 0, 1) := by decide +kernel
theorem dX6_greatestVerdict_5 : decode cX6_greatestVerdict 5 = .ok (.getfield 10, 3) := by decide +kernel
theorem dX6_greatestVerdict_8 : decode cX6_greatestVerdict 8 = .ok (.invokevirtual 146, 3) := by decide +kernel
theorem dX6_greatestVerdict_11 : decode cX6_greatestVerdict 11 = .ok (.aload_n 0, 1) := by decide +kernel
theorem dX6_greatestVerdict_12 : decode cX6_greatestVerdict 12 = .ok (.getfield 45, 3) := by decide +kernel
theorem dX6_greatestVerdict_15 : decode cX6_greatestVerdict 15 = .ok (.sipush 400, 3) := by decide +kernel
theorem dX6_greatestVerdict_18 : decode cX6_greatestVerdict 18 = .ok (.sipush 800, 3) := by decide +kernel
theorem dX6_greatestVerdict_21 : decode cX6_greatestVerdict 21 = .ok (.sipush 1500, 3) := by decide +kernel
theorem dX6_greatestVerdict_24 : decode cX6_greatestVerdict 24 = .ok (.invokevirtual 104, 3) := by decide +kernel
theorem dX6_greatestVerdict_27 : decode cX6_greatestVerdict 27 = .ok (.ireturn, 1) := by decide +kernel
set_option maxRecDepth 20000 in
theorem ggX6_plantInSound_X5_count : GoodIn wsX6_plantInSound wsX5_count := goodIn_r _ [6, 7, 54, 55] (by decide +kernel) (by decide +kernel)
set_option maxRecDepth 20000 in
theorem gX6_plantInSound_X5_count : GoodIn wsX6_plantInSound (wsV RX6 69 RX5 yX5_count wsX5_count) := goodIn_app (goodIn_of _ (by decide +kernel)) ggX6_plantInSound_X5_count
set_option maxRecDepth 20000 in
theorem ggX6_plantInSound_X5_keep : GoodIn wsX6_plantInSound wsX5_keep := goodIn_r _ [11, 7, 54, 55] (by decide +kernel) (by decide +kernel)
set_option maxRecDepth 20000 in
theorem gX6_plantInSound_X5_keep : GoodIn wsX6_plantInSound (wsV RX6 73 RX5 yX5_keep wsX5_keep) := goodIn_app (goodIn_of _ (by decide +kernel)) ggX6_plantInSound_X5_keep
set_option maxRecDepth 20000 in
theorem ggX6_plantInSound_X6_plantInItem : GoodIn wsX6_plantInSound wsX6_plantInItem := goodIn_r _ [16, 1, 17, 18, 19, 15, 20, 21, 22, 23, 5, 24, 7, 25, 26, 27, 28, 29, 30, 31, 32, 33, 34, 35, 36, 37, 38, 39, 40, 41, 46, 47, 48, 49, 50, 51, 52, 53, 54, 55] (by decide +kernel) (by decide +kernel)
set_option maxRecDepth 20000 in
theorem gX6_plantInSound_X6_plantInItem : GoodIn wsX6_plantInSound (wsV RX6 152 RX6 yX6_plantInItem wsX6_plantInItem) := goodIn_app (goodIn_of _ (by decide +kernel)) ggX6_plantInSound_X6_plantInItem
set_option maxRecDepth 20000 in
theorem ggX6_plantInSound_X5_byteAt : GoodIn wsX6_plantInSound wsX5_byteAt := goodIn_r _ [28, 29, 30, 22, 23, 5, 24, 7, 54, 55] (by decide +kernel) (by decide +kernel)
set_option maxRecDepth 20000 in
theorem gX6_plantInSound_X5_byteAt : GoodIn wsX6_plantInSound (wsV RX6 79 RX5 yX5_byteAt wsX5_byteAt) := goodIn_app (goodIn_of _ (by decide +kernel)) ggX6_plantInSound_X5_byteAt
set_option maxRecDepth 20000 in
theorem ggX6_plantInSound_X5_change : GoodIn wsX6_plantInSound wsX5_change := goodIn_r _ [41, 29, 30, 22, 23, 5, 24, 7, 54, 55] (by decide +kernel) (by decide +kernel)
set_option maxRecDepth 20000 in
theorem gX6_plantInSound_X5_change : GoodIn wsX6_plantInSound (wsV RX6 83 RX5 yX5_change wsX5_change) := goodIn_app (goodIn_of _ (by decide +kernel)) ggX6_plantInSound_X5_change
set_option maxRecDepth 20000 in
theorem ggX6_plantInSound_X5_append : GoodIn wsX6_plantInSound wsX5_append := goodIn_r _ [45, 7, 29, 54, 55] (by decide +kernel) (by decide +kernel)
set_option maxRecDepth 20000 in
theorem gX6_plantInSound_X5_append : GoodIn wsX6_plantInSound (wsV RX6 65 RX5 yX5_append wsX5_append) := goodIn_app (goodIn_of _ (by decide +kernel)) ggX6_plantInSound_X5_append
theorem dX6_plantInSound_0 : decode cX6_plantInSound 0 = .ok (.aload_n 0, 1) := by decide +kernel
theorem dX6_plantInSound_1 : decode cX6_plantInSound 1 = .ok (.getfield 10, 3) := by decide +kernel
theorem dX6_plantInSound_4 : decode cX6_plantInSound 4 = .ok (.invokevirtual 69, 3) := by decide +kernel
theorem dX6_plantInSound_7 : decode cX6_plantInSound 7 = .ok (.iconst 1, 1) := by decide +kernel
theorem dX6_plantInSound_8 : decode cX6_plantInSound 8 = .ok (.isub, 1) := by decide +kernel
theorem dX6_plantInSound_9 : decode cX6_plantInSound 9 = .ok (.istore_n 2, 1) := by decide +kernel
theorem dX6_plantInSound_10 : decode cX6_plantInSound 10 = .ok (.iload_n 1, 1) := by decide +kernel
theorem dX6_plantInSound_11 : decode cX6_plantInSound 11 = .ok (.tableswitch 88 1 5 #[33, 43, 50, 57, 77], 33) := by decide +kernel
theorem dX6_plantInSound_44 : decode cX6_plantInSound 44 = .ok (.aload_n 0, 1) := by decide +kernel
theorem dX6_plantInSound_45 : decode cX6_plantInSound 45 = .ok (.getfield 10, 3) := by decide +kernel
theorem dX6_plantInSound_48 : decode cX6_plantInSound 48 = .ok (.iload_n 2, 1) := by decide +kernel
theorem dX6_plantInSound_49 : decode cX6_plantInSound 49 = .ok (.invokevirtual 73, 3) := by decide +kernel
theorem dX6_plantInSound_52 : decode cX6_plantInSound 52 = .ok (.iconst 1, 1) := by decide +kernel
theorem dX6_plantInSound_53 : decode cX6_plantInSound 53 = .ok (.ireturn, 1) := by decide +kernel
theorem dX6_plantInSound_54 : decode cX6_plantInSound 54 = .ok (.aload_n 0, 1) := by decide +kernel
theorem dX6_plantInSound_55 : decode cX6_plantInSound 55 = .ok (.iconst 4, 1) := by decide +kernel
theorem dX6_plantInSound_56 : decode cX6_plantInSound 56 = .ok (.iload_n 1, 1) := by decide +kernel
theorem dX6_plantInSound_57 : decode cX6_plantInSound 57 = .ok (.invokevirtual 152, 3) := by decide +kernel
theorem dX6_plantInSound_60 : decode cX6_plantInSound 60 = .ok (.ireturn, 1) := by decide +kernel
theorem dX6_plantInSound_61 : decode cX6_plantInSound 61 = .ok (.aload_n 0, 1) := by decide +kernel
theorem dX6_plantInSound_62 : decode cX6_plantInSound 62 = .ok (.iconst 2, 1) := by decide +kernel
theorem dX6_plantInSound_63 : decode cX6_plantInSound 63 = .ok (.iload_n 1, 1) := by decide +kernel
theorem dX6_plantInSound_64 : decode cX6_plantInSound 64 = .ok (.invokevirtual 152, 3) := by decide +kernel
theorem dX6_plantInSound_67 : decode cX6_plantInSound 67 = .ok (.ireturn, 1) := by decide +kernel
theorem dX6_plantInSound_68 : decode cX6_plantInSound 68 = .ok (.aload_n 0, 1) := by decide +kernel
theorem dX6_plantInSound_69 : decode cX6_plantInSound 69 = .ok (.getfield 10, 3) := by decide +kernel
theorem dX6_plantInSound_72 : decode cX6_plantInSound 72 = .ok (.iload_n 2, 1) := by decide +kernel
theorem dX6_plantInSound_73 : decode cX6_plantInSound 73 = .ok (.aload_n 0, 1) := by decide +kernel
theorem dX6_plantInSound_74 : decode cX6_plantInSound 74 = .ok (.getfield 10, 3) := by decide +kernel
theorem dX6_plantInSound_77 : decode cX6_plantInSound 77 = .ok (.iload_n 2, 1) := by decide +kernel
theorem dX6_plantInSound_78 : decode cX6_plantInSound 78 = .ok (.invokevirtual 79, 3) := by decide +kernel
theorem dX6_plantInSound_81 : decode cX6_plantInSound 81 = .ok (.iconst 1, 1) := by decide +kernel
theorem dX6_plantInSound_82 : decode cX6_plantInSound 82 = .ok (.ixor, 1) := by decide +kernel
theorem dX6_plantInSound_83 : decode cX6_plantInSound 83 = .ok (.invokevirtual 83, 3) := by decide +kernel
theorem dX6_plantInSound_86 : decode cX6_plantInSound 86 = .ok (.iconst 1, 1) := by decide +kernel
theorem dX6_plantInSound_87 : decode cX6_plantInSound 87 = .ok (.ireturn, 1) := by decide +kernel
theorem dX6_plantInSound_88 : decode cX6_plantInSound 88 = .ok (.aload_n 0, 1) := by decide +kernel
theorem dX6_plantInSound_89 : decode cX6_plantInSound 89 = .ok (.getfield 10, 3) := by decide +kernel
theorem dX6_plantInSound_92 : decode cX6_plantInSound 92 = .ok (.bipush 7, 2) := by decide +kernel
theorem dX6_plantInSound_94 : decode cX6_plantInSound 94 = .ok (.invokevirtual 65, 3) := by decide +kernel
theorem dX6_plantInSound_97 : decode cX6_plantInSound 97 = .ok (.iconst 1, 1) := by decide +kernel
theorem dX6_plantInSound_98 : decode cX6_plantInSound 98 = .ok (.ireturn, 1) := by decide +kernel
theorem dX6_plantInSound_99 : decode cX6_plantInSound 99 = .ok (.aload_n 0, 1) := by decide +kernel
theorem dX6_plantInSound_100 : decode cX6_plantInSound 100 = .ok (.iconst 3, 1) := by decide +kernel
theorem dX6_plantInSound_101 : decode cX6_plantInSound 101 = .ok (.iload_n 1, 1) := by decide +kernel
theorem dX6_plantInSound_102 : decode cX6_plantInSound 102 = .ok (.invokevirtual 152, 3) := by decide +kernel
theorem dX6_plantInSound_105 : decode cX6_plantInSound 105 = .ok (.ireturn, 1) := by decide +kernel
set_option maxRecDepth 20000 in
theorem ggX6_plantInItem_X6_leastPlace : GoodIn wsX6_plantInItem wsX6_leastPlace := goodIn_r _ [6, 1, 7, 8, 9, 10, 11, 12, 13, 14, 15, 16, 17, 18, 19, 20, 5, 21, 22, 23, 24, 25, 30, 31, 32, 33, 34, 35, 36, 37, 38, 39] (by decide +kernel) (by decide +kernel)
set_option maxRecDepth 20000 in
theorem gX6_plantInItem_X6_leastPlace : GoodIn wsX6_plantInItem (wsV RX6 156 RX6 yX6_leastPlace wsX6_leastPlace) := goodIn_app (goodIn_of _ (by decide +kernel)) ggX6_plantInItem_X6_leastPlace
set_option maxRecDepth 20000 in
theorem ggX6_plantInItem_X5_byteAt : GoodIn wsX6_plantInItem wsX5_byteAt := goodIn_r _ [16, 17, 18, 8, 9, 10, 11, 12, 38, 39] (by decide +kernel) (by decide +kernel)
set_option maxRecDepth 20000 in
theorem gX6_plantInItem_X5_byteAt : GoodIn wsX6_plantInItem (wsV RX6 79 RX5 yX5_byteAt wsX5_byteAt) := goodIn_app (goodIn_of _ (by decide +kernel)) ggX6_plantInItem_X5_byteAt
set_option maxRecDepth 20000 in
theorem ggX6_plantInItem_X5_change : GoodIn wsX6_plantInItem wsX5_change := goodIn_r _ [29, 17, 18, 8, 9, 10, 11, 12, 38, 39] (by decide +kernel) (by decide +kernel)
set_option maxRecDepth 20000 in
theorem gX6_plantInItem_X5_change : GoodIn wsX6_plantInItem (wsV RX6 83 RX5 yX5_change wsX5_change) := goodIn_app (goodIn_of _ (by decide +kernel)) ggX6_plantInItem_X5_change
theorem dX6_plantInItem_0 : decode cX6_plantInItem 0 = .ok (.aload_n 0, 1) := by decide +kernel
theorem dX6_plantInItem_1 : decode cX6_plantInItem 1 = .ok (.iload_n 1, 1) := by decide +kernel
theorem dX6_plantInItem_2 : decode cX6_plantInItem 2 = .ok (.invokevirtual 156, 3) := by decide +kernel
theorem dX6_plantInItem_5 : decode cX6_plantInItem 5 = .ok (.istore_n 3, 1) := by decide +kernel
theorem dX6_plantInItem_6 : decode cX6_plantInItem 6 = .ok (.iload_n 3, 1) := by decide +kernel
theorem dX6_plantInItem_7 : decode cX6_plantInItem 7 = .ok (.iconst (-1), 1) := by decide +kernel
theorem dX6_plantInItem_8 : decode cX6_plantInItem 8 = .ok (.if_icmp .ne 5, 3) := by decide +kernel
theorem dX6_plantInItem_11 : decode cX6_plantInItem 11 = .ok (.iconst 0, 1) := by decide +kernel
theorem dX6_plantInItem_12 : decode cX6_plantInItem 12 = .ok (.ireturn, 1) := by decide +kernel
theorem dX6_plantInItem_13 : decode cX6_plantInItem 13 = .ok (.iload_n 3, 1) := by decide +kernel
theorem dX6_plantInItem_14 : decode cX6_plantInItem 14 = .ok (.iconst 1, 1) := by decide +kernel
theorem dX6_plantInItem_15 : decode cX6_plantInItem 15 = .ok (.iadd, 1) := by decide +kernel
theorem dX6_plantInItem_16 : decode cX6_plantInItem 16 = .ok (.istore 4, 2) := by decide +kernel
theorem dX6_plantInItem_18 : decode cX6_plantInItem 18 = .ok (.iload_n 2, 1) := by decide +kernel
theorem dX6_plantInItem_19 : decode cX6_plantInItem 19 = .ok (.iconst 2, 1) := by decide +kernel
theorem dX6_plantInItem_20 : decode cX6_plantInItem 20 = .ok (.if_icmp .ne 30, 3) := by decide +kernel
theorem dX6_plantInItem_23 : decode cX6_plantInItem 23 = .ok (.aload_n 0, 1) := by decide +kernel
theorem dX6_plantInItem_24 : decode cX6_plantInItem 24 = .ok (.getfield 10, 3) := by decide +kernel
theorem dX6_plantInItem_27 : decode cX6_plantInItem 27 = .ok (.iload 4, 2) := by decide +kernel
theorem dX6_plantInItem_29 : decode cX6_plantInItem 29 = .ok (.aload_n 0, 1) := by decide +kernel
theorem dX6_plantInItem_30 : decode cX6_plantInItem 30 = .ok (.getfield 10, 3) := by decide +kernel
theorem dX6_plantInItem_33 : decode cX6_plantInItem 33 = .ok (.iload 4, 2) := by decide +kernel
theorem dX6_plantInItem_35 : decode cX6_plantInItem 35 = .ok (.invokevirtual 79, 3) := by decide +kernel
theorem dX6_plantInItem_38 : decode cX6_plantInItem 38 = .ok (.iconst 1, 1) := by decide +kernel
theorem dX6_plantInItem_39 : decode cX6_plantInItem 39 = .ok (.iadd, 1) := by decide +kernel
theorem dX6_plantInItem_40 : decode cX6_plantInItem 40 = .ok (.sipush 255, 3) := by decide +kernel
theorem dX6_plantInItem_43 : decode cX6_plantInItem 43 = .ok (.iand, 1) := by decide +kernel
theorem dX6_plantInItem_44 : decode cX6_plantInItem 44 = .ok (.invokevirtual 83, 3) := by decide +kernel
theorem dX6_plantInItem_47 : decode cX6_plantInItem 47 = .ok (.goto 24, 3) := by decide +kernel
theorem dX6_plantInItem_50 : decode cX6_plantInItem 50 = .ok (.aload_n 0, 1) := by decide +kernel
theorem dX6_plantInItem_51 : decode cX6_plantInItem 51 = .ok (.getfield 10, 3) := by decide +kernel
theorem dX6_plantInItem_54 : decode cX6_plantInItem 54 = .ok (.iload 4, 2) := by decide +kernel
theorem dX6_plantInItem_56 : decode cX6_plantInItem 56 = .ok (.iload_n 2, 1) := by decide +kernel
theorem dX6_plantInItem_57 : decode cX6_plantInItem 57 = .ok (.iconst 3, 1) := by decide +kernel
theorem dX6_plantInItem_58 : decode cX6_plantInItem 58 = .ok (.if_icmp .ne 9, 3) := by decide +kernel
theorem dX6_plantInItem_61 : decode cX6_plantInItem 61 = .ok (.sipush 255, 3) := by decide +kernel
theorem dX6_plantInItem_64 : decode cX6_plantInItem 64 = .ok (.goto 4, 3) := by decide +kernel
theorem dX6_plantInItem_67 : decode cX6_plantInItem 67 = .ok (.iconst 0, 1) := by decide +kernel
theorem dX6_plantInItem_68 : decode cX6_plantInItem 68 = .ok (.invokevirtual 83, 3) := by decide +kernel
theorem dX6_plantInItem_71 : decode cX6_plantInItem 71 = .ok (.iconst 1, 1) := by decide +kernel
theorem dX6_plantInItem_72 : decode cX6_plantInItem 72 = .ok (.ireturn, 1) := by decide +kernel
set_option maxRecDepth 20000 in
theorem ggX6_leastPlace_X5_has : GoodIn wsX6_leastPlace wsX5_has := goodIn_r _ [6, 7, 30, 31] (by decide +kernel) (by decide +kernel)
set_option maxRecDepth 20000 in
theorem gX6_leastPlace_X5_has : GoodIn wsX6_leastPlace (wsV RX6 76 RX5 yX5_has wsX5_has) := goodIn_app (goodIn_of _ (by decide +kernel)) ggX6_leastPlace_X5_has
set_option maxRecDepth 20000 in
theorem ggX6_leastPlace_X5_byteAt : GoodIn wsX6_leastPlace wsX5_byteAt := goodIn_r _ [11, 12, 13, 3, 4, 5, 6, 7, 30, 31] (by decide +kernel) (by decide +kernel)
set_option maxRecDepth 20000 in
theorem gX6_leastPlace_X5_byteAt : GoodIn wsX6_leastPlace (wsV RX6 79 RX5 yX5_byteAt wsX5_byteAt) := goodIn_app (goodIn_of _ (by decide +kernel)) ggX6_leastPlace_X5_byteAt
set_option maxRecDepth 20000 in
theorem ggX6_leastPlace_X6_sortOf : GoodIn wsX6_leastPlace wsX6_sortOf := goodIn_r _ [17] (by decide +kernel) (by decide +kernel)
set_option maxRecDepth 20000 in
theorem gX6_leastPlace_X6_sortOf : GoodIn wsX6_leastPlace (va_wsS RX6 159 yX6_sortOf wsX6_sortOf) := goodIn_app (goodIn_of _ (by decide +kernel)) ggX6_leastPlace_X6_sortOf
set_option maxRecDepth 20000 in
theorem ggX6_leastPlace_X6_span : GoodIn wsX6_leastPlace wsX6_span := goodIn_r _ [21, 1, 8, 9, 10, 5, 11, 12, 13, 3, 4, 6, 7, 14, 15, 16, 17, 22, 23, 24, 25, 26, 27, 28, 29, 30, 31] (by decide +kernel) (by decide +kernel)
set_option maxRecDepth 20000 in
theorem gX6_leastPlace_X6_span : GoodIn wsX6_leastPlace (wsV RX6 162 RX6 yX6_span wsX6_span) := goodIn_app (goodIn_of _ (by decide +kernel)) ggX6_leastPlace_X6_span
theorem dX6_leastPlace_0 : decode cX6_leastPlace 0 = .ok (.iconst 0, 1) := by decide +kernel
theorem dX6_leastPlace_1 : decode cX6_leastPlace 1 = .ok (.istore_n 2, 1) := by decide +kernel
theorem dX6_leastPlace_2 : decode cX6_leastPlace 2 = .ok (.iconst 0, 1) := by decide +kernel
theorem dX6_leastPlace_3 : decode cX6_leastPlace 3 = .ok (.istore_n 3, 1) := by decide +kernel
theorem dX6_leastPlace_4 : decode cX6_leastPlace 4 = .ok (.iload_n 3, 1) := by decide +kernel
theorem dX6_leastPlace_5 : decode cX6_leastPlace 5 = .ok (.sipush 160, 3) := by decide +kernel
theorem dX6_leastPlace_8 : decode cX6_leastPlace 8 = .ok (.if_icmp .ge 45, 3) := by decide +kernel
theorem dX6_leastPlace_11 : decode cX6_leastPlace 11 = .ok (.aload_n 0, 1) := by decide +kernel
theorem dX6_leastPlace_12 : decode cX6_leastPlace 12 = .ok (.getfield 10, 3) := by decide +kernel
theorem dX6_leastPlace_15 : decode cX6_leastPlace 15 = .ok (.iload_n 2, 1) := by decide +kernel
theorem dX6_leastPlace_16 : decode cX6_leastPlace 16 = .ok (.invokevirtual 76, 3) := by decide +kernel
theorem dX6_leastPlace_19 : decode cX6_leastPlace 19 = .ok (.ifCond .eq 34, 3) := by decide +kernel
theorem dX6_leastPlace_22 : decode cX6_leastPlace 22 = .ok (.aload_n 0, 1) := by decide +kernel
theorem dX6_leastPlace_23 : decode cX6_leastPlace 23 = .ok (.getfield 10, 3) := by decide +kernel
theorem dX6_leastPlace_26 : decode cX6_leastPlace 26 = .ok (.iload_n 2, 1) := by decide +kernel
theorem dX6_leastPlace_27 : decode cX6_leastPlace 27 = .ok (.invokevirtual 79, 3) := by decide +kernel
theorem dX6_leastPlace_30 : decode cX6_leastPlace 30 = .ok (.invokestatic 159, 3) := by decide +kernel
theorem dX6_leastPlace_33 : decode cX6_leastPlace 33 = .ok (.iload_n 1, 1) := by decide +kernel
theorem dX6_leastPlace_34 : decode cX6_leastPlace 34 = .ok (.if_icmp .ne 5, 3) := by decide +kernel
theorem dX6_leastPlace_37 : decode cX6_leastPlace 37 = .ok (.iload_n 2, 1) := by decide +kernel
theorem dX6_leastPlace_38 : decode cX6_leastPlace 38 = .ok (.ireturn, 1) := by decide +kernel
theorem dX6_leastPlace_39 : decode cX6_leastPlace 39 = .ok (.iload_n 2, 1) := by decide +kernel
theorem dX6_leastPlace_40 : decode cX6_leastPlace 40 = .ok (.aload_n 0, 1) := by decide +kernel
theorem dX6_leastPlace_41 : decode cX6_leastPlace 41 = .ok (.iload_n 2, 1) := by decide +kernel
theorem dX6_leastPlace_42 : decode cX6_leastPlace 42 = .ok (.invokevirtual 162, 3) := by decide +kernel
theorem dX6_leastPlace_45 : decode cX6_leastPlace 45 = .ok (.iadd, 1) := by decide +kernel
theorem dX6_leastPlace_46 : decode cX6_leastPlace 46 = .ok (.istore_n 2, 1) := by decide +kernel
theorem dX6_leastPlace_47 : decode cX6_leastPlace 47 = .ok (.iinc 3 1, 3) := by decide +kernel
theorem dX6_leastPlace_50 : decode cX6_leastPlace 50 = .ok (.goto (-46), 3) := by decide +kernel
theorem dX6_leastPlace_53 : decode cX6_leastPlace 53 = .ok (.iconst (-1), 1) := by decide +kernel
theorem dX6_leastPlace_54 : decode cX6_leastPlace 54 = .ok (.ireturn, 1) := by decide +kernel
set_option maxRecDepth 20000 in
theorem ggX6_span_X5_byteAt : GoodIn wsX6_span wsX5_byteAt := goodIn_r _ [6, 7, 8, 9, 10, 5, 11, 12, 25, 26] (by decide +kernel) (by decide +kernel)
set_option maxRecDepth 20000 in
theorem gX6_span_X5_byteAt : GoodIn wsX6_span (wsV RX6 79 RX5 yX5_byteAt wsX5_byteAt) := goodIn_app (goodIn_of _ (by decide +kernel)) ggX6_span_X5_byteAt
set_option maxRecDepth 20000 in
theorem ggX6_span_X6_sortOf : GoodIn wsX6_span wsX6_sortOf := goodIn_r _ [16] (by decide +kernel) (by decide +kernel)
set_option maxRecDepth 20000 in
theorem gX6_span_X6_sortOf : GoodIn wsX6_span (va_wsS RX6 159 yX6_sortOf wsX6_sortOf) := goodIn_app (goodIn_of _ (by decide +kernel)) ggX6_span_X6_sortOf
theorem dX6_span_0 : decode cX6_span 0 = .ok (.aload_n 0, 1) := by decide +kernel
theorem dX6_span_1 : decode cX6_span 1 = .ok (.getfield 10, 3) := by decide +kernel
theorem dX6_span_4 : decode cX6_span 4 = .ok (.iload_n 1, 1) := by decide +kernel
theorem dX6_span_5 : decode cX6_span 5 = .ok (.invokevirtual 79, 3) := by decide +kernel
theorem dX6_span_8 : decode cX6_span 8 = .ok (.istore_n 2, 1) := by decide +kernel
theorem dX6_span_9 : decode cX6_span 9 = .ok (.iload_n 2, 1) := by decide +kernel
theorem dX6_span_10 : decode cX6_span 10 = .ok (.invokestatic 159, 3) := by decide +kernel
theorem dX6_span_13 : decode cX6_span 13 = .ok (.tableswitch 69 1 5 #[35, 69, 67, 69, 39], 35) := by decide +kernel
theorem dX6_span_48 : decode cX6_span 48 = .ok (.iconst 1, 1) := by decide +kernel
theorem dX6_span_49 : decode cX6_span 49 = .ok (.iload_n 2, 1) := by decide +kernel
theorem dX6_span_50 : decode cX6_span 50 = .ok (.iadd, 1) := by decide +kernel
theorem dX6_span_51 : decode cX6_span 51 = .ok (.ireturn, 1) := by decide +kernel
theorem dX6_span_52 : decode cX6_span 52 = .ok (.iconst 3, 1) := by decide +kernel
theorem dX6_span_53 : decode cX6_span 53 = .ok (.aload_n 0, 1) := by decide +kernel
theorem dX6_span_54 : decode cX6_span 54 = .ok (.getfield 10, 3) := by decide +kernel
theorem dX6_span_57 : decode cX6_span 57 = .ok (.iload_n 1, 1) := by decide +kernel
theorem dX6_span_58 : decode cX6_span 58 = .ok (.iconst 1, 1) := by decide +kernel
theorem dX6_span_59 : decode cX6_span 59 = .ok (.iadd, 1) := by decide +kernel
theorem dX6_span_60 : decode cX6_span 60 = .ok (.invokevirtual 79, 3) := by decide +kernel
theorem dX6_span_63 : decode cX6_span 63 = .ok (.sipush 256, 3) := by decide +kernel
theorem dX6_span_66 : decode cX6_span 66 = .ok (.imul, 1) := by decide +kernel
theorem dX6_span_67 : decode cX6_span 67 = .ok (.iadd, 1) := by decide +kernel
theorem dX6_span_68 : decode cX6_span 68 = .ok (.aload_n 0, 1) := by decide +kernel
theorem dX6_span_69 : decode cX6_span 69 = .ok (.getfield 10, 3) := by decide +kernel
theorem dX6_span_72 : decode cX6_span 72 = .ok (.iload_n 1, 1) := by decide +kernel
theorem dX6_span_73 : decode cX6_span 73 = .ok (.iconst 2, 1) := by decide +kernel
theorem dX6_span_74 : decode cX6_span 74 = .ok (.iadd, 1) := by decide +kernel
theorem dX6_span_75 : decode cX6_span 75 = .ok (.invokevirtual 79, 3) := by decide +kernel
theorem dX6_span_78 : decode cX6_span 78 = .ok (.iadd, 1) := by decide +kernel
theorem dX6_span_79 : decode cX6_span 79 = .ok (.ireturn, 1) := by decide +kernel
theorem dX6_span_80 : decode cX6_span 80 = .ok (.iconst 1, 1) := by decide +kernel
theorem dX6_span_81 : decode cX6_span 81 = .ok (.ireturn, 1) := by decide +kernel
theorem dX6_span_82 : decode cX6_span 82 = .ok (.iconst 2, 1) := by decide +kernel
theorem dX6_span_83 : decode cX6_span 83 = .ok (.ireturn, 1) := by decide +kernel
theorem dX6_sortOf_0 : decode cX6_sortOf 0 = .ok (.iload_n 0, 1) := by decide +kernel
theorem dX6_sortOf_1 : decode cX6_sortOf 1 = .ok (.ifCond .ne 5, 3) := by decide +kernel
theorem dX6_sortOf_4 : decode cX6_sortOf 4 = .ok (.iconst 0, 1) := by decide +kernel
theorem dX6_sortOf_5 : decode cX6_sortOf 5 = .ok (.ireturn, 1) := by decide +kernel
theorem dX6_sortOf_6 : decode cX6_sortOf 6 = .ok (.iload_n 0, 1) := by decide +kernel
theorem dX6_sortOf_7 : decode cX6_sortOf 7 = .ok (.bipush 64, 2) := by decide +kernel
theorem dX6_sortOf_9 : decode cX6_sortOf 9 = .ok (.if_icmp .ge 5, 3) := by decide +kernel
theorem dX6_sortOf_12 : decode cX6_sortOf 12 = .ok (.iconst 1, 1) := by decide +kernel
theorem dX6_sortOf_13 : decode cX6_sortOf 13 = .ok (.ireturn, 1) := by decide +kernel
theorem dX6_sortOf_14 : decode cX6_sortOf 14 = .ok (.iload_n 0, 1) := by decide +kernel
theorem dX6_sortOf_15 : decode cX6_sortOf 15 = .ok (.sipush 128, 3) := by decide +kernel
theorem dX6_sortOf_18 : decode cX6_sortOf 18 = .ok (.if_icmp .ge 5, 3) := by decide +kernel
theorem dX6_sortOf_21 : decode cX6_sortOf 21 = .ok (.iconst 2, 1) := by decide +kernel
theorem dX6_sortOf_22 : decode cX6_sortOf 22 = .ok (.ireturn, 1) := by decide +kernel
theorem dX6_sortOf_23 : decode cX6_sortOf 23 = .ok (.iload_n 0, 1) := by decide +kernel
theorem dX6_sortOf_24 : decode cX6_sortOf 24 = .ok (.sipush 192, 3) := by decide +kernel
theorem dX6_sortOf_27 : decode cX6_sortOf 27 = .ok (.if_icmp .ge 5, 3) := by decide +kernel
theorem dX6_sortOf_30 : decode cX6_sortOf 30 = .ok (.iconst 3, 1) := by decide +kernel
theorem dX6_sortOf_31 : decode cX6_sortOf 31 = .ok (.ireturn, 1) := by decide +kernel
theorem dX6_sortOf_32 : decode cX6_sortOf 32 = .ok (.iload_n 0, 1) := by decide +kernel
theorem dX6_sortOf_33 : decode cX6_sortOf 33 = .ok (.sipush 255, 3) := by decide +kernel
theorem dX6_sortOf_36 : decode cX6_sortOf 36 = .ok (.if_icmp .ge 7, 3) := by decide +kernel
theorem dX6_sortOf_39 : decode cX6_sortOf 39 = .ok (.iconst 4, 1) := by decide +kernel
theorem dX6_sortOf_40 : decode cX6_sortOf 40 = .ok (.goto 4, 3) := by decide +kernel
theorem dX6_sortOf_43 : decode cX6_sortOf 43 = .ok (.iconst 5, 1) := by decide +kernel
theorem dX6_sortOf_44 : decode cX6_sortOf 44 = .ok (.ireturn, 1) := by decide +kernel
theorem dX6_timesMore_0 : decode cX6_timesMore 0 = .ok (.iload_n 0, 1) := by decide +kernel
theorem dX6_timesMore_1 : decode cX6_timesMore 1 = .ok (.sipush 128, 3) := by decide +kernel
theorem dX6_timesMore_4 : decode cX6_timesMore 4 = .ok (.isub, 1) := by decide +kernel
theorem dX6_timesMore_5 : decode cX6_timesMore 5 = .ok (.iconst 2, 1) := by decide +kernel
theorem dX6_timesMore_6 : decode cX6_timesMore 6 = .ok (.iadd, 1) := by decide +kernel
theorem dX6_timesMore_7 : decode cX6_timesMore 7 = .ok (.iconst 1, 1) := by decide +kernel
theorem dX6_timesMore_8 : decode cX6_timesMore 8 = .ok (.isub, 1) := by decide +kernel
theorem dX6_timesMore_9 : decode cX6_timesMore 9 = .ok (.ireturn, 1) := by decide +kernel
theorem dX6_copyCount_0 : decode cX6_copyCount 0 = .ok (.iload_n 0, 1) := by decide +kernel
theorem dX6_copyCount_1 : decode cX6_copyCount 1 = .ok (.bipush 64, 2) := by decide +kernel
theorem dX6_copyCount_3 : decode cX6_copyCount 3 = .ok (.isub, 1) := by decide +kernel
theorem dX6_copyCount_4 : decode cX6_copyCount 4 = .ok (.iconst 2, 1) := by decide +kernel
theorem dX6_copyCount_5 : decode cX6_copyCount 5 = .ok (.iadd, 1) := by decide +kernel
theorem dX6_copyCount_6 : decode cX6_copyCount 6 = .ok (.ireturn, 1) := by decide +kernel
theorem dX7_init_0 : decode cX7_init 0 = .ok (.aload_n 0, 1) := by decide +kernel
theorem dX7_init_1 : decode cX7_init 1 = .ok (.invokespecial 1, 3) := by decide +kernel
theorem dX7_init_4 : decode cX7_init 4 = .ok (.aload_n 0, 1) := by decide +kernel
theorem dX7_init_5 : decode cX7_init 5 = .ok (.sipush 160, 3) := by decide +kernel
theorem dX7_init_8 : decode cX7_init 8 = .ok (.newarray .int, 2) := by decide +kernel
theorem dX7_init_10 : decode cX7_init 10 = .ok (.putfield 7, 3) := by decide +kernel
theorem dX7_init_13 : decode cX7_init 13 = .ok (.aload_n 0, 1) := by decide +kernel
theorem dX7_init_14 : decode cX7_init 14 = .ok (.bipush 6, 2) := by decide +kernel
theorem dX7_init_16 : decode cX7_init 16 = .ok (.newarray .int, 2) := by decide +kernel
theorem dX7_init_18 : decode cX7_init 18 = .ok (.putfield 13, 3) := by decide +kernel
theorem dX7_init_21 : decode cX7_init 21 = .ok (.aload_n 0, 1) := by decide +kernel
theorem dX7_init_22 : decode cX7_init 22 = .ok (.bipush 6, 2) := by decide +kernel
theorem dX7_init_24 : decode cX7_init 24 = .ok (.newarray .int, 2) := by decide +kernel
theorem dX7_init_26 : decode cX7_init 26 = .ok (.putfield 16, 3) := by decide +kernel
theorem dX7_init_29 : decode cX7_init 29 = .ok (.aload_n 0, 1) := by decide +kernel
theorem dX7_init_30 : decode cX7_init 30 = .ok (.bipush 6, 2) := by decide +kernel
theorem dX7_init_32 : decode cX7_init 32 = .ok (.newarray .int, 2) := by decide +kernel
theorem dX7_init_34 : decode cX7_init 34 = .ok (.putfield 19, 3) := by decide +kernel
theorem dX7_init_37 : decode cX7_init 37 = .ok (.aload_n 0, 1) := by decide +kernel
theorem dX7_init_38 : decode cX7_init 38 = .ok (.bipush 6, 2) := by decide +kernel
theorem dX7_init_40 : decode cX7_init 40 = .ok (.newarray .int, 2) := by decide +kernel
theorem dX7_init_42 : decode cX7_init 42 = .ok (.putfield 22, 3) := by decide +kernel
theorem dX7_init_45 : decode cX7_init 45 = .ok (.aload_n 0, 1) := by decide +kernel
theorem dX7_init_46 : decode cX7_init 46 = .ok (.bipush 6, 2) := by decide +kernel
theorem dX7_init_48 : decode cX7_init 48 = .ok (.newarray .int, 2) := by decide +kernel
theorem dX7_init_50 : decode cX7_init 50 = .ok (.putfield 25, 3) := by decide +kernel
theorem dX7_init_53 : decode cX7_init 53 = .ok (.aload_n 0, 1) := by decide +kernel
theorem dX7_init_54 : decode cX7_init 54 = .ok (.bipush 6, 2) := by decide +kernel
theorem dX7_init_56 : decode cX7_init 56 = .ok (.newarray .int, 2) := by decide +kernel
theorem dX7_init_58 : decode cX7_init 58 = .ok (.putfield 28, 3) := by decide +kernel
theorem dX7_init_61 : decode cX7_init 61 = .ok (.aload_n 0, 1) := by decide +kernel
theorem dX7_init_62 : decode cX7_init 62 = .ok (.sipush 2000, 3) := by decide +kernel
theorem dX7_init_65 : decode cX7_init 65 = .ok (.newarray .int, 2) := by decide +kernel
theorem dX7_init_67 : decode cX7_init 67 = .ok (.putfield 31, 3) := by decide +kernel
theorem dX7_init_70 : decode cX7_init 70 = .ok (.aload_n 0, 1) := by decide +kernel
theorem dX7_init_71 : decode cX7_init 71 = .ok (.sipush 170, 3) := by decide +kernel
theorem dX7_init_74 : decode cX7_init 74 = .ok (.newarray .int, 2) := by decide +kernel
theorem dX7_init_76 : decode cX7_init 76 = .ok (.putfield 34, 3) := by decide +kernel
theorem dX7_init_79 : decode cX7_init 79 = .ok (.aload_n 0, 1) := by decide +kernel
theorem dX7_init_80 : decode cX7_init 80 = .ok (.sipush 170, 3) := by decide +kernel
theorem dX7_init_83 : decode cX7_init 83 = .ok (.newarray .int, 2) := by decide +kernel
theorem dX7_init_85 : decode cX7_init 85 = .ok (.putfield 37, 3) := by decide +kernel
theorem dX7_init_88 : decode cX7_init 88 = .ok (.aload_n 0, 1) := by decide +kernel
theorem dX7_init_89 : decode cX7_init 89 = .ok (.sipush 170, 3) := by decide +kernel
theorem dX7_init_92 : decode cX7_init 92 = .ok (.newarray .int, 2) := by decide +kernel
theorem dX7_init_94 : decode cX7_init 94 = .ok (.putfield 40, 3) := by decide +kernel
theorem dX7_init_97 : decode cX7_init 97 = .ok (.aload_n 0, 1) := by decide +kernel
theorem dX7_init_98 : decode cX7_init 98 = .ok (.bipush 7, 2) := by decide +kernel
theorem dX7_init_100 : decode cX7_init 100 = .ok (.newarray .int, 2) := by decide +kernel
theorem dX7_init_102 : decode cX7_init 102 = .ok (.putfield 43, 3) := by decide +kernel
theorem dX7_init_105 : decode cX7_init 105 = .ok (.aload_n 0, 1) := by decide +kernel
theorem dX7_init_106 : decode cX7_init 106 = .ok (.sipush 400, 3) := by decide +kernel
theorem dX7_init_109 : decode cX7_init 109 = .ok (.newarray .int, 2) := by decide +kernel
theorem dX7_init_111 : decode cX7_init 111 = .ok (.putfield 46, 3) := by decide +kernel
theorem dX7_init_114 : decode cX7_init 114 = .ok (.aload_n 0, 1) := by decide +kernel
theorem dX7_init_115 : decode cX7_init 115 = .ok (.getfield 43, 3) := by decide +kernel
theorem dX7_init_118 : decode cX7_init 118 = .ok (.iconst 0, 1) := by decide +kernel
theorem dX7_init_119 : decode cX7_init 119 = .ok (.iconst (-1), 1) := by decide +kernel
theorem dX7_init_120 : decode cX7_init 120 = .ok (.iastore, 1) := by decide +kernel
theorem dX7_init_121 : decode cX7_init 121 = .ok (.aload_n 0, 1) := by decide +kernel
theorem dX7_init_122 : decode cX7_init 122 = .ok (.getfield 43, 3) := by decide +kernel
theorem dX7_init_125 : decode cX7_init 125 = .ok (.iconst 1, 1) := by decide +kernel
theorem dX7_init_126 : decode cX7_init 126 = .ok (.iconst (-1), 1) := by decide +kernel
theorem dX7_init_127 : decode cX7_init 127 = .ok (.iastore, 1) := by decide +kernel
theorem dX7_init_128 : decode cX7_init 128 = .ok (.return_, 1) := by decide +kernel
theorem dX7_in_0 : decode cX7_in 0 = .ok (.iload_n 0, 1) := by decide +kernel
theorem dX7_in_1 : decode cX7_in 1 = .ok (.iload_n 1, 1) := by decide +kernel
theorem dX7_in_2 : decode cX7_in 2 = .ok (.if_icmp .lt 12, 3) := by decide +kernel
theorem dX7_in_5 : decode cX7_in 5 = .ok (.iload_n 0, 1) := by decide +kernel
theorem dX7_in_6 : decode cX7_in 6 = .ok (.iload_n 2, 1) := by decide +kernel
theorem dX7_in_7 : decode cX7_in 7 = .ok (.if_icmp .gt 7, 3) := by decide +kernel
theorem dX7_in_10 : decode cX7_in 10 = .ok (.iconst 1, 1) := by decide +kernel
theorem dX7_in_11 : decode cX7_in 11 = .ok (.goto 4, 3) := by decide +kernel
theorem dX7_in_14 : decode cX7_in 14 = .ok (.iconst 0, 1) := by decide +kernel
theorem dX7_in_15 : decode cX7_in 15 = .ok (.ireturn, 1) := by decide +kernel
set_option maxRecDepth 20000 in
theorem ggX7_put_X7_in : GoodIn wsX7_put wsX7_in := goodIn_r _ [6] (by decide +kernel) (by decide +kernel)
set_option maxRecDepth 20000 in
theorem gX7_put_X7_in : GoodIn wsX7_put (va_wsS RX7 49 yX7_in wsX7_in) := goodIn_app (goodIn_of _ (by decide +kernel)) ggX7_put_X7_in
theorem dX7_put_0 : decode cX7_put 0 = .ok (.iload_n 1, 1) := by decide +kernel
theorem dX7_put_1 : decode cX7_put 1 = .ok (.iconst 0, 1) := by decide +kernel
theorem dX7_put_2 : decode cX7_put 2 = .ok (.sipush 255, 3) := by decide +kernel
theorem dX7_put_5 : decode cX7_put 5 = .ok (.invokestatic 49, 3) := by decide +kernel
theorem dX7_put_8 : decode cX7_put 8 = .ok (.ifCond .ne 6, 3) := by decide +kernel
theorem dX7_put_11 : decode cX7_put 11 = .ok (.bipush (-2), 2) := by decide +kernel
theorem dX7_put_13 : decode cX7_put 13 = .ok (.ireturn, 1) := by decide +kernel
theorem dX7_put_14 : decode cX7_put 14 = .ok (.aload_n 0, 1) := by decide +kernel
theorem dX7_put_15 : decode cX7_put 15 = .ok (.getfield 53, 3) := by decide +kernel
theorem dX7_put_18 : decode cX7_put 18 = .ok (.sipush 160, 3) := by decide +kernel
theorem dX7_put_21 : decode cX7_put 21 = .ok (.if_icmp .ne 6, 3) := by decide +kernel
theorem dX7_put_24 : decode cX7_put 24 = .ok (.bipush (-3), 2) := by decide +kernel
theorem dX7_put_26 : decode cX7_put 26 = .ok (.ireturn, 1) := by decide +kernel
theorem dX7_put_27 : decode cX7_put 27 = .ok (.aload_n 0, 1) := by decide +kernel
theorem dX7_put_28 : decode cX7_put 28 = .ok (.getfield 7, 3) := by decide +kernel
theorem dX7_put_31 : decode cX7_put 31 = .ok (.aload_n 0, 1) := by decide +kernel
theorem dX7_put_32 : decode cX7_put 32 = .ok (.getfield 53, 3) := by decide +kernel
theorem dX7_put_35 : decode cX7_put 35 = .ok (.iload_n 1, 1) := by decide +kernel
theorem dX7_put_36 : decode cX7_put 36 = .ok (.iastore, 1) := by decide +kernel
theorem dX7_put_37 : decode cX7_put 37 = .ok (.aload_n 0, 1) := by decide +kernel
theorem dX7_put_38 : decode cX7_put 38 = .ok (.dup, 1) := by decide +kernel
theorem dX7_put_39 : decode cX7_put 39 = .ok (.getfield 53, 3) := by decide +kernel
theorem dX7_put_42 : decode cX7_put 42 = .ok (.iconst 1, 1) := by decide +kernel
theorem dX7_put_43 : decode cX7_put 43 = .ok (.iadd, 1) := by decide +kernel
theorem dX7_put_44 : decode cX7_put 44 = .ok (.putfield 53, 3) := by decide +kernel
theorem dX7_put_47 : decode cX7_put 47 = .ok (.aload_n 0, 1) := by decide +kernel
theorem dX7_put_48 : decode cX7_put 48 = .ok (.getfield 53, 3) := by decide +kernel
theorem dX7_put_51 : decode cX7_put 51 = .ok (.ireturn, 1) := by decide +kernel
set_option maxRecDepth 20000 in
theorem ggX7_cut_X7_in : GoodIn wsX7_cut wsX7_in := goodIn_r _ [5] (by decide +kernel) (by decide +kernel)
set_option maxRecDepth 20000 in
theorem gX7_cut_X7_in : GoodIn wsX7_cut (va_wsS RX7 49 yX7_in wsX7_in) := goodIn_app (goodIn_of _ (by decide +kernel)) ggX7_cut_X7_in
theorem dX7_cut_0 : decode cX7_cut 0 = .ok (.iload_n 1, 1) := by decide +kernel
theorem dX7_cut_1 : decode cX7_cut 1 = .ok (.iconst 0, 1) := by decide +kernel
theorem dX7_cut_2 : decode cX7_cut 2 = .ok (.aload_n 0, 1) := by decide +kernel
