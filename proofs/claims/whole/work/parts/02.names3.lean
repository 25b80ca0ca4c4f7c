theorem dX3_readItem_134 : decode cX3_readItem 134 = .ok (.invokevirtual 81, 3) := by decide +kernel
theorem dX3_readItem_137 : decode cX3_readItem 137 = .ok (.goto 32, 3) := by decide +kernel
theorem dX3_readItem_140 : decode cX3_readItem 140 = .ok (.aload_n 0, 1) := by decide +kernel
theorem dX3_readItem_141 : decode cX3_readItem 141 = .ok (.iload 5, 2) := by decide +kernel
theorem dX3_readItem_143 : decode cX3_readItem 143 = .ok (.iload_n 1, 1) := by decide +kernel
theorem dX3_readItem_144 : decode cX3_readItem 144 = .ok (.invokevirtual 84, 3) := by decide +kernel
theorem dX3_readItem_147 : decode cX3_readItem 147 = .ok (.goto 22, 3) := by decide +kernel
theorem dX3_readItem_150 : decode cX3_readItem 150 = .ok (.aload_n 0, 1) := by decide +kernel
theorem dX3_readItem_151 : decode cX3_readItem 151 = .ok (.iload 5, 2) := by decide +kernel
theorem dX3_readItem_153 : decode cX3_readItem 153 = .ok (.iload_n 1, 1) := by decide +kernel
theorem dX3_readItem_154 : decode cX3_readItem 154 = .ok (.invokevirtual 87, 3) := by decide +kernel
theorem dX3_readItem_157 : decode cX3_readItem 157 = .ok (.goto 12, 3) := by decide +kernel
theorem dX3_readItem_160 : decode cX3_readItem 160 = .ok (.aload_n 0, 1) := by decide +kernel
theorem dX3_readItem_161 : decode cX3_readItem 161 = .ok (.iload 4, 2) := by decide +kernel
theorem dX3_readItem_163 : decode cX3_readItem 163 = .ok (.iload 5, 2) := by decide +kernel
theorem dX3_readItem_165 : decode cX3_readItem 165 = .ok (.iload_n 1, 1) := by decide +kernel
theorem dX3_readItem_166 : decode cX3_readItem 166 = .ok (.invokevirtual 90, 3) := by decide +kernel
theorem dX3_readItem_169 : decode cX3_readItem 169 = .ok (.iload 5, 2) := by decide +kernel
theorem dX3_readItem_171 : decode cX3_readItem 171 = .ok (.iconst 1, 1) := by decide +kernel
theorem dX3_readItem_172 : decode cX3_readItem 172 = .ok (.isub, 1) := by decide +kernel
theorem dX3_readItem_173 : decode cX3_readItem 173 = .ok (.istore 7, 2) := by decide +kernel
theorem dX3_readItem_175 : decode cX3_readItem 175 = .ok (.iload 7, 2) := by decide +kernel
theorem dX3_readItem_177 : decode cX3_readItem 177 = .ok (.iload_n 3, 1) := by decide +kernel
theorem dX3_readItem_178 : decode cX3_readItem 178 = .ok (.if_icmp .lt 18, 3) := by decide +kernel
theorem dX3_readItem_181 : decode cX3_readItem 181 = .ok (.aload_n 0, 1) := by decide +kernel
theorem dX3_readItem_182 : decode cX3_readItem 182 = .ok (.iload 7, 2) := by decide +kernel
theorem dX3_readItem_184 : decode cX3_readItem 184 = .ok (.iload 6, 2) := by decide +kernel
theorem dX3_readItem_186 : decode cX3_readItem 186 = .ok (.iload_n 1, 1) := by decide +kernel
theorem dX3_readItem_187 : decode cX3_readItem 187 = .ok (.invokevirtual 93, 3) := by decide +kernel
theorem dX3_readItem_190 : decode cX3_readItem 190 = .ok (.iinc 7 (-1), 3) := by decide +kernel
theorem dX3_readItem_193 : decode cX3_readItem 193 = .ok (.goto (-18), 3) := by decide +kernel
theorem dX3_readItem_196 : decode cX3_readItem 196 = .ok (.aload_n 0, 1) := by decide +kernel
theorem dX3_readItem_197 : decode cX3_readItem 197 = .ok (.getfield 15, 3) := by decide +kernel
theorem dX3_readItem_200 : decode cX3_readItem 200 = .ok (.invokevirtual 73, 3) := by decide +kernel
theorem dX3_readItem_203 : decode cX3_readItem 203 = .ok (.ifCond .ne 7, 3) := by decide +kernel
theorem dX3_readItem_206 : decode cX3_readItem 206 = .ok (.iconst 1, 1) := by decide +kernel
theorem dX3_readItem_207 : decode cX3_readItem 207 = .ok (.goto 4, 3) := by decide +kernel
theorem dX3_readItem_210 : decode cX3_readItem 210 = .ok (.iconst 0, 1) := by decide +kernel
theorem dX3_readItem_211 : decode cX3_readItem 211 = .ok (.ireturn, 1) := by decide +kernel
set_option maxRecDepth 20000 in
theorem ggX3_beginItem_X3_take : GoodIn wsX3_beginItem wsX3_take := goodIn_r _ [7, 2, 1, 8, 9, 10, 11, 12, 13, 14, 15, 16, 17, 18, 19, 20, 21, 22, 23, 24, 25, 26, 27, 28, 29, 30, 31, 32, 41, 42, 43, 44, 45, 46, 47, 48, 49, 50, 51, 52, 53, 54, 55, 56, 57, 58, 59, 60] (by decide +kernel) (by decide +kernel)
set_option maxRecDepth 20000 in
theorem gX3_beginItem_X3_take : GoodIn wsX3_beginItem (wsV RX3 96 RX3 yX3_take wsX3_take) := goodIn_app (goodIn_of _ (by decide +kernel)) ggX3_beginItem_X3_take
set_option maxRecDepth 20000 in
theorem ggX3_beginItem_X0_failed : GoodIn wsX3_beginItem wsX0_failed := goodIn_r _ [15, 16, 47, 48, 49, 50, 51, 52, 53, 54, 55, 56, 57, 58] (by decide +kernel) (by decide +kernel)
set_option maxRecDepth 20000 in
theorem gX3_beginItem_X0_failed : GoodIn wsX3_beginItem (wsV RX3 73 RX0 yX0_failed wsX0_failed) := goodIn_app (goodIn_of _ (by decide +kernel)) ggX3_beginItem_X0_failed
set_option maxRecDepth 20000 in
theorem ggX3_beginItem_X0_beginItem : GoodIn wsX3_beginItem wsX0_beginItem := goodIn_r _ [36, 37, 38, 39, 40, 18, 19, 14, 20, 16, 21, 47, 48, 49, 50, 51, 52, 53, 54, 55, 56, 57, 58] (by decide +kernel) (by decide +kernel)
set_option maxRecDepth 20000 in
theorem gX3_beginItem_X0_beginItem : GoodIn wsX3_beginItem (wsV RX3 99 RX0 yX0_beginItem wsX0_beginItem) := goodIn_app (goodIn_of _ (by decide +kernel)) ggX3_beginItem_X0_beginItem
theorem dX3_beginItem_0 : decode cX3_beginItem 0 = .ok (.aload_n 0, 1) := by decide +kernel
theorem dX3_beginItem_1 : decode cX3_beginItem 1 = .ok (.getfield 30, 3) := by decide +kernel
theorem dX3_beginItem_4 : decode cX3_beginItem 4 = .ok (.istore_n 2, 1) := by decide +kernel
theorem dX3_beginItem_5 : decode cX3_beginItem 5 = .ok (.aload_n 0, 1) := by decide +kernel
theorem dX3_beginItem_6 : decode cX3_beginItem 6 = .ok (.iload_n 1, 1) := by decide +kernel
theorem dX3_beginItem_7 : decode cX3_beginItem 7 = .ok (.invokevirtual 96, 3) := by decide +kernel
theorem dX3_beginItem_10 : decode cX3_beginItem 10 = .ok (.istore_n 3, 1) := by decide +kernel
theorem dX3_beginItem_11 : decode cX3_beginItem 11 = .ok (.aload_n 0, 1) := by decide +kernel
theorem dX3_beginItem_12 : decode cX3_beginItem 12 = .ok (.getfield 15, 3) := by decide +kernel
theorem dX3_beginItem_15 : decode cX3_beginItem 15 = .ok (.invokevirtual 73, 3) := by decide +kernel
theorem dX3_beginItem_18 : decode cX3_beginItem 18 = .ok (.ifCond .ne 14, 3) := by decide +kernel
theorem dX3_beginItem_21 : decode cX3_beginItem 21 = .ok (.aload_n 0, 1) := by decide +kernel
theorem dX3_beginItem_22 : decode cX3_beginItem 22 = .ok (.getfield 15, 3) := by decide +kernel
theorem dX3_beginItem_25 : decode cX3_beginItem 25 = .ok (.iload_n 2, 1) := by decide +kernel
theorem dX3_beginItem_26 : decode cX3_beginItem 26 = .ok (.invokevirtual 99, 3) := by decide +kernel
theorem dX3_beginItem_29 : decode cX3_beginItem 29 = .ok (.ifCond .ne 5, 3) := by decide +kernel
theorem dX3_beginItem_32 : decode cX3_beginItem 32 = .ok (.iconst 0, 1) := by decide +kernel
theorem dX3_beginItem_33 : decode cX3_beginItem 33 = .ok (.ireturn, 1) := by decide +kernel
theorem dX3_beginItem_34 : decode cX3_beginItem 34 = .ok (.iload_n 3, 1) := by decide +kernel
theorem dX3_beginItem_35 : decode cX3_beginItem 35 = .ok (.ireturn, 1) := by decide +kernel
set_option maxRecDepth 20000 in
theorem ggX3_readEnd_X0_fail : GoodIn wsX3_readEnd wsX0_fail := goodIn_r _ [8, 9, 10, 51, 52, 53, 54, 55, 56, 57, 58, 59, 60, 61, 62] (by decide +kernel) (by decide +kernel)
set_option maxRecDepth 20000 in
theorem gX3_readEnd_X0_fail : GoodIn wsX3_readEnd (wsV RX3 50 RX0 yX0_fail wsX0_fail) := goodIn_app (goodIn_of _ (by decide +kernel)) ggX3_readEnd_X0_fail
set_option maxRecDepth 20000 in
theorem ggX3_readEnd_X3_take : GoodIn wsX3_readEnd wsX3_take := goodIn_r _ [15, 1, 3, 16, 17, 18, 19, 20, 21, 7, 22, 9, 4, 5, 6, 8, 10, 23, 24, 25, 26, 27, 28, 29, 30, 31, 32, 33, 45, 46, 47, 48, 49, 50, 51, 52, 53, 54, 55, 56, 57, 58, 59, 60, 61, 62, 63, 64] (by decide +kernel) (by decide +kernel)
set_option maxRecDepth 20000 in
theorem gX3_readEnd_X3_take : GoodIn wsX3_readEnd (wsV RX3 96 RX3 yX3_take wsX3_take) := goodIn_app (goodIn_of _ (by decide +kernel)) ggX3_readEnd_X3_take
set_option maxRecDepth 20000 in
theorem ggX3_readEnd_X4_sumFrom : GoodIn wsX3_readEnd wsX4_sumFrom := goodIn_r _ [38, 39, 40, 41, 42, 37, 43, 44, 65, 66] (by decide +kernel) (by decide +kernel)
set_option maxRecDepth 20000 in
theorem gX3_readEnd_X4_sumFrom : GoodIn wsX3_readEnd (wsV RX3 102 RX4 yX4_sumFrom wsX4_sumFrom) := goodIn_app (goodIn_of _ (by decide +kernel)) ggX3_readEnd_X4_sumFrom
theorem dX3_readEnd_0 : decode cX3_readEnd 0 = .ok (.iload_n 2, 1) := by decide +kernel
theorem dX3_readEnd_1 : decode cX3_readEnd 1 = .ok (.iload_n 1, 1) := by decide +kernel
theorem dX3_readEnd_2 : decode cX3_readEnd 2 = .ok (.if_icmp .le 13, 3) := by decide +kernel
theorem dX3_readEnd_5 : decode cX3_readEnd 5 = .ok (.aload_n 0, 1) := by decide +kernel
theorem dX3_readEnd_6 : decode cX3_readEnd 6 = .ok (.getfield 15, 3) := by decide +kernel
theorem dX3_readEnd_9 : decode cX3_readEnd 9 = .ok (.bipush 7, 2) := by decide +kernel
theorem dX3_readEnd_11 : decode cX3_readEnd 11 = .ok (.iload_n 2, 1) := by decide +kernel
theorem dX3_readEnd_12 : decode cX3_readEnd 12 = .ok (.invokevirtual 50, 3) := by decide +kernel
theorem dX3_readEnd_15 : decode cX3_readEnd 15 = .ok (.aload_n 0, 1) := by decide +kernel
theorem dX3_readEnd_16 : decode cX3_readEnd 16 = .ok (.iload_n 3, 1) := by decide +kernel
theorem dX3_readEnd_17 : decode cX3_readEnd 17 = .ok (.invokevirtual 96, 3) := by decide +kernel
theorem dX3_readEnd_20 : decode cX3_readEnd 20 = .ok (.istore 5, 2) := by decide +kernel
theorem dX3_readEnd_22 : decode cX3_readEnd 22 = .ok (.iload 5, 2) := by decide +kernel
theorem dX3_readEnd_24 : decode cX3_readEnd 24 = .ok (.aload_n 0, 1) := by decide +kernel
theorem dX3_readEnd_25 : decode cX3_readEnd 25 = .ok (.getfield 25, 3) := by decide +kernel
theorem dX3_readEnd_28 : decode cX3_readEnd 28 = .ok (.iload 4, 2) := by decide +kernel
theorem dX3_readEnd_30 : decode cX3_readEnd 30 = .ok (.invokevirtual 102, 3) := by decide +kernel
theorem dX3_readEnd_33 : decode cX3_readEnd 33 = .ok (.if_icmp .eq 17, 3) := by decide +kernel
theorem dX3_readEnd_36 : decode cX3_readEnd 36 = .ok (.aload_n 0, 1) := by decide +kernel
theorem dX3_readEnd_37 : decode cX3_readEnd 37 = .ok (.getfield 15, 3) := by decide +kernel
theorem dX3_readEnd_40 : decode cX3_readEnd 40 = .ok (.iconst 4, 1) := by decide +kernel
theorem dX3_readEnd_41 : decode cX3_readEnd 41 = .ok (.aload_n 0, 1) := by decide +kernel
theorem dX3_readEnd_42 : decode cX3_readEnd 42 = .ok (.getfield 30, 3) := by decide +kernel
theorem dX3_readEnd_45 : decode cX3_readEnd 45 = .ok (.iconst 1, 1) := by decide +kernel
theorem dX3_readEnd_46 : decode cX3_readEnd 46 = .ok (.isub, 1) := by decide +kernel
theorem dX3_readEnd_47 : decode cX3_readEnd 47 = .ok (.invokevirtual 50, 3) := by decide +kernel
theorem dX3_readEnd_50 : decode cX3_readEnd 50 = .ok (.return_, 1) := by decide +kernel
set_option maxRecDepth 20000 in
theorem ggX3_readWide_X3_take : GoodIn wsX3_readWide wsX3_take := goodIn_r _ [5, 6, 7, 8, 9, 10, 11, 12, 13, 14, 15, 16, 17, 18, 19, 20, 21, 22, 23, 24, 25, 26, 27, 28, 29, 30, 31, 32, 61, 62, 63, 64, 65, 66, 67, 68, 69, 70, 71, 72, 73, 74, 75, 76, 77, 78, 79, 80] (by decide +kernel) (by decide +kernel)
set_option maxRecDepth 20000 in
theorem gX3_readWide_X3_take : GoodIn wsX3_readWide (wsV RX3 96 RX3 yX3_take wsX3_take) := goodIn_app (goodIn_of _ (by decide +kernel)) ggX3_readWide_X3_take
set_option maxRecDepth 20000 in
theorem ggX3_readWide_X3_readRaw : GoodIn wsX3_readWide wsX3_readRaw := goodIn_r _ [36, 7, 6, 10, 11, 12, 13, 14, 15, 16, 1, 2, 3, 4, 5, 8, 9, 17, 18, 19, 20, 21, 22, 23, 24, 25, 26, 27, 28, 29, 30, 31, 32, 37, 38, 39, 40, 41, 42, 43, 44, 45, 46, 47, 48, 49, 50, 51, 52, 53, 54, 55, 56, 57, 58, 59, 60, 61, 62, 63, 64, 65, 66, 67, 68, 69, 70, 71, 72, 73, 74, 75, 76, 77, 78, 79, 80, 81, 82] (by decide +kernel) (by decide +kernel)
set_option maxRecDepth 20000 in
theorem gX3_readWide_X3_readRaw : GoodIn wsX3_readWide (wsV RX3 90 RX3 yX3_readRaw wsX3_readRaw) := goodIn_app (goodIn_of _ (by decide +kernel)) ggX3_readWide_X3_readRaw
theorem dX3_readWide_0 : decode cX3_readWide 0 = .ok (.aload_n 0, 1) := by decide +kernel
theorem dX3_readWide_1 : decode cX3_readWide 1 = .ok (.iload_n 2, 1) := by decide +kernel
theorem dX3_readWide_2 : decode cX3_readWide 2 = .ok (.invokevirtual 96, 3) := by decide +kernel
theorem dX3_readWide_5 : decode cX3_readWide 5 = .ok (.istore_n 3, 1) := by decide +kernel
theorem dX3_readWide_6 : decode cX3_readWide 6 = .ok (.aload_n 0, 1) := by decide +kernel
theorem dX3_readWide_7 : decode cX3_readWide 7 = .ok (.iload_n 2, 1) := by decide +kernel
theorem dX3_readWide_8 : decode cX3_readWide 8 = .ok (.invokevirtual 96, 3) := by decide +kernel
theorem dX3_readWide_11 : decode cX3_readWide 11 = .ok (.istore 4, 2) := by decide +kernel
theorem dX3_readWide_13 : decode cX3_readWide 13 = .ok (.aload_n 0, 1) := by decide +kernel
theorem dX3_readWide_14 : decode cX3_readWide 14 = .ok (.iload_n 3, 1) := by decide +kernel
theorem dX3_readWide_15 : decode cX3_readWide 15 = .ok (.sipush 256, 3) := by decide +kernel
theorem dX3_readWide_18 : decode cX3_readWide 18 = .ok (.imul, 1) := by decide +kernel
theorem dX3_readWide_19 : decode cX3_readWide 19 = .ok (.iload 4, 2) := by decide +kernel
theorem dX3_readWide_21 : decode cX3_readWide 21 = .ok (.iadd, 1) := by decide +kernel
theorem dX3_readWide_22 : decode cX3_readWide 22 = .ok (.iload_n 1, 1) := by decide +kernel
theorem dX3_readWide_23 : decode cX3_readWide 23 = .ok (.iload_n 2, 1) := by decide +kernel
theorem dX3_readWide_24 : decode cX3_readWide 24 = .ok (.invokevirtual 90, 3) := by decide +kernel
theorem dX3_readWide_27 : decode cX3_readWide 27 = .ok (.return_, 1) := by decide +kernel
set_option maxRecDepth 20000 in
theorem ggX3_readRaw_X0_failed : GoodIn wsX3_readRaw wsX0_failed := goodIn_r _ [8, 9, 63, 64, 65, 66, 67, 68, 69, 70, 71, 72, 73, 74] (by decide +kernel) (by decide +kernel)
set_option maxRecDepth 20000 in
theorem gX3_readRaw_X0_failed : GoodIn wsX3_readRaw (wsV RX3 73 RX0 yX0_failed wsX0_failed) := goodIn_app (goodIn_of _ (by decide +kernel)) ggX3_readRaw_X0_failed
set_option maxRecDepth 20000 in
theorem ggX3_readRaw_X3_take : GoodIn wsX3_readRaw wsX3_take := goodIn_r _ [14, 2, 1, 15, 16, 3, 4, 5, 6, 7, 8, 9, 17, 18, 19, 20, 21, 22, 23, 24, 25, 26, 27, 28, 29, 30, 31, 32, 57, 58, 59, 60, 61, 62, 63, 64, 65, 66, 67, 68, 69, 70, 71, 72, 73, 74, 75, 76] (by decide +kernel) (by decide +kernel)
set_option maxRecDepth 20000 in
theorem gX3_readRaw_X3_take : GoodIn wsX3_readRaw (wsV RX3 96 RX3 yX3_take wsX3_take) := goodIn_app (goodIn_of _ (by decide +kernel)) ggX3_readRaw_X3_take
set_option maxRecDepth 20000 in
theorem ggX3_readRaw_X5_byteAt : GoodIn wsX3_readRaw wsX5_byteAt := goodIn_r _ [26, 27, 28, 29, 30, 25, 31, 32, 75, 76] (by decide +kernel) (by decide +kernel)
set_option maxRecDepth 20000 in
theorem gX3_readRaw_X5_byteAt : GoodIn wsX3_readRaw (wsV RX3 105 RX5 yX5_byteAt wsX5_byteAt) := goodIn_app (goodIn_of _ (by decide +kernel)) ggX3_readRaw_X5_byteAt
set_option maxRecDepth 20000 in
theorem ggX3_readRaw_X0_give : GoodIn wsX3_readRaw wsX0_give := goodIn_r _ [36, 9, 37, 38, 39, 40, 41, 42, 43, 44, 18, 19, 7, 20, 21, 45, 46, 47, 48, 49, 50, 51, 52, 53, 54, 55, 56, 63, 64, 65, 66, 67, 68, 69, 70, 71, 72, 73, 74, 77, 78] (by decide +kernel) (by decide +kernel)
set_option maxRecDepth 20000 in
theorem gX3_readRaw_X0_give : GoodIn wsX3_readRaw (wsV RX3 108 RX0 yX0_give wsX0_give) := goodIn_app (goodIn_of _ (by decide +kernel)) ggX3_readRaw_X0_give
theorem dX3_readRaw_0 : decode cX3_readRaw 0 = .ok (.aload_n 0, 1) := by decide +kernel
theorem dX3_readRaw_1 : decode cX3_readRaw 1 = .ok (.getfield 30, 3) := by decide +kernel
theorem dX3_readRaw_4 : decode cX3_readRaw 4 = .ok (.istore 4, 2) := by decide +kernel
theorem dX3_readRaw_6 : decode cX3_readRaw 6 = .ok (.iconst 0, 1) := by decide +kernel
theorem dX3_readRaw_7 : decode cX3_readRaw 7 = .ok (.istore 5, 2) := by decide +kernel
theorem dX3_readRaw_9 : decode cX3_readRaw 9 = .ok (.iload 5, 2) := by decide +kernel
theorem dX3_readRaw_11 : decode cX3_readRaw 11 = .ok (.iload_n 1, 1) := by decide +kernel
theorem dX3_readRaw_12 : decode cX3_readRaw 12 = .ok (.if_icmp .ge 25, 3) := by decide +kernel
theorem dX3_readRaw_15 : decode cX3_readRaw 15 = .ok (.aload_n 0, 1) := by decide +kernel
theorem dX3_readRaw_16 : decode cX3_readRaw 16 = .ok (.getfield 15, 3) := by decide +kernel
theorem dX3_readRaw_19 : decode cX3_readRaw 19 = .ok (.invokevirtual 73, 3) := by decide +kernel
theorem dX3_readRaw_22 : decode cX3_readRaw 22 = .ok (.ifCond .ne 15, 3) := by decide +kernel
theorem dX3_readRaw_25 : decode cX3_readRaw 25 = .ok (.aload_n 0, 1) := by decide +kernel
theorem dX3_readRaw_26 : decode cX3_readRaw 26 = .ok (.iload_n 3, 1) := by decide +kernel
theorem dX3_readRaw_27 : decode cX3_readRaw 27 = .ok (.invokevirtual 96, 3) := by decide +kernel
theorem dX3_readRaw_30 : decode cX3_readRaw 30 = .ok (.pop, 1) := by decide +kernel
theorem dX3_readRaw_31 : decode cX3_readRaw 31 = .ok (.iinc 5 1, 3) := by decide +kernel
theorem dX3_readRaw_34 : decode cX3_readRaw 34 = .ok (.goto (-25), 3) := by decide +kernel
theorem dX3_readRaw_37 : decode cX3_readRaw 37 = .ok (.iconst 0, 1) := by decide +kernel
theorem dX3_readRaw_38 : decode cX3_readRaw 38 = .ok (.istore 5, 2) := by decide +kernel
theorem dX3_readRaw_40 : decode cX3_readRaw 40 = .ok (.iload 5, 2) := by decide +kernel
theorem dX3_readRaw_42 : decode cX3_readRaw 42 = .ok (.iload_n 1, 1) := by decide +kernel
theorem dX3_readRaw_43 : decode cX3_readRaw 43 = .ok (.if_icmp .ge 49, 3) := by decide +kernel
theorem dX3_readRaw_46 : decode cX3_readRaw 46 = .ok (.aload_n 0, 1) := by decide +kernel
theorem dX3_readRaw_47 : decode cX3_readRaw 47 = .ok (.getfield 15, 3) := by decide +kernel
theorem dX3_readRaw_50 : decode cX3_readRaw 50 = .ok (.invokevirtual 73, 3) := by decide +kernel
theorem dX3_readRaw_53 : decode cX3_readRaw 53 = .ok (.ifCond .ne 39, 3) := by decide +kernel
theorem dX3_readRaw_56 : decode cX3_readRaw 56 = .ok (.aload_n 0, 1) := by decide +kernel
theorem dX3_readRaw_57 : decode cX3_readRaw 57 = .ok (.getfield 15, 3) := by decide +kernel
theorem dX3_readRaw_60 : decode cX3_readRaw 60 = .ok (.aload_n 0, 1) := by decide +kernel
theorem dX3_readRaw_61 : decode cX3_readRaw 61 = .ok (.getfield 9, 3) := by decide +kernel
theorem dX3_readRaw_64 : decode cX3_readRaw 64 = .ok (.iload 4, 2) := by decide +kernel
theorem dX3_readRaw_66 : decode cX3_readRaw 66 = .ok (.iload 5, 2) := by decide +kernel
theorem dX3_readRaw_68 : decode cX3_readRaw 68 = .ok (.iadd, 1) := by decide +kernel
theorem dX3_readRaw_69 : decode cX3_readRaw 69 = .ok (.invokevirtual 105, 3) := by decide +kernel
theorem dX3_readRaw_72 : decode cX3_readRaw 72 = .ok (.iload_n 2, 1) := by decide +kernel
theorem dX3_readRaw_73 : decode cX3_readRaw 73 = .ok (.iload_n 3, 1) := by decide +kernel
theorem dX3_readRaw_74 : decode cX3_readRaw 74 = .ok (.iconst 1, 1) := by decide +kernel
theorem dX3_readRaw_75 : decode cX3_readRaw 75 = .ok (.if_icmp .ne 7, 3) := by decide +kernel
theorem dX3_readRaw_78 : decode cX3_readRaw 78 = .ok (.iconst 1, 1) := by decide +kernel
theorem dX3_readRaw_79 : decode cX3_readRaw 79 = .ok (.goto 4, 3) := by decide +kernel
theorem dX3_readRaw_82 : decode cX3_readRaw 82 = .ok (.iconst 0, 1) := by decide +kernel
theorem dX3_readRaw_83 : decode cX3_readRaw 83 = .ok (.invokevirtual 108, 3) := by decide +kernel
theorem dX3_readRaw_86 : decode cX3_readRaw 86 = .ok (.iinc 5 1, 3) := by decide +kernel
theorem dX3_readRaw_89 : decode cX3_readRaw 89 = .ok (.goto (-49), 3) := by decide +kernel
theorem dX3_readRaw_92 : decode cX3_readRaw 92 = .ok (.return_, 1) := by decide +kernel
set_option maxRecDepth 20000 in
theorem ggX3_readCopy_X3_take : GoodIn wsX3_readCopy wsX3_take := goodIn_r _ [8, 2, 3, 9, 10, 11, 12, 13, 14, 15, 16, 17, 18, 19, 20, 21, 22, 23, 24, 25, 26, 27, 28, 29, 30, 31, 32, 33, 69, 70, 71, 72, 73, 74, 75, 76, 77, 78, 79, 80, 81, 82, 83, 84, 85, 86, 87, 88] (by decide +kernel) (by decide +kernel)
set_option maxRecDepth 20000 in
theorem gX3_readCopy_X3_take : GoodIn wsX3_readCopy (wsV RX3 96 RX3 yX3_take wsX3_take) := goodIn_app (goodIn_of _ (by decide +kernel)) ggX3_readCopy_X3_take
set_option maxRecDepth 20000 in
theorem ggX3_readCopy_X4_top : GoodIn wsX3_readCopy wsX4_top := goodIn_r _ [38, 39, 89, 90] (by decide +kernel) (by decide +kernel)
set_option maxRecDepth 20000 in
theorem gX3_readCopy_X4_top : GoodIn wsX3_readCopy (wsV RX3 57 RX4 yX4_top wsX4_top) := goodIn_app (goodIn_of _ (by decide +kernel)) ggX3_readCopy_X4_top
set_option maxRecDepth 20000 in
theorem ggX3_readCopy_X0_fail : GoodIn wsX3_readCopy wsX0_fail := goodIn_r _ [21, 17, 22, 75, 76, 77, 78, 79, 80, 81, 82, 83, 84, 85, 86] (by decide +kernel) (by decide +kernel)
set_option maxRecDepth 20000 in
theorem gX3_readCopy_X0_fail : GoodIn wsX3_readCopy (wsV RX3 50 RX0 yX0_fail wsX0_fail) := goodIn_app (goodIn_of _ (by decide +kernel)) ggX3_readCopy_X0_fail
set_option maxRecDepth 20000 in
theorem ggX3_readCopy_X6_copyCount : GoodIn wsX3_readCopy wsX6_copyCount := goodIn_r _ [42] (by decide +kernel) (by decide +kernel)
set_option maxRecDepth 20000 in
theorem gX3_readCopy_X6_copyCount_n112 : GoodIn wsX3_readCopy (wsX6_copyCount) := ggX3_readCopy_X6_copyCount
set_option maxRecDepth 20000 in
theorem ggX3_readCopy_X0_failed : GoodIn wsX3_readCopy wsX0_failed := goodIn_r _ [16, 17, 75, 76, 77, 78, 79, 80, 81, 82, 83, 84, 85, 86] (by decide +kernel) (by decide +kernel)
set_option maxRecDepth 20000 in
theorem gX3_readCopy_X0_failed : GoodIn wsX3_readCopy (wsV RX3 73 RX0 yX0_failed wsX0_failed) := goodIn_app (goodIn_of _ (by decide +kernel)) ggX3_readCopy_X0_failed
set_option maxRecDepth 20000 in
theorem ggX3_readCopy_X4_byteAt : GoodIn wsX3_readCopy wsX4_byteAt := goodIn_r _ [46, 47, 89, 90] (by decide +kernel) (by decide +kernel)
set_option maxRecDepth 20000 in
theorem gX3_readCopy_X4_byteAt : GoodIn wsX3_readCopy (wsV RX3 115 RX4 yX4_byteAt wsX4_byteAt) := goodIn_app (goodIn_of _ (by decide +kernel)) ggX3_readCopy_X4_byteAt
set_option maxRecDepth 20000 in
theorem ggX3_readCopy_X0_give : GoodIn wsX3_readCopy wsX0_give := goodIn_r _ [51, 17, 52, 53, 54, 55, 56, 57, 58, 59, 19, 20, 15, 21, 22, 60, 61, 62, 63, 64, 65, 66, 67, 37, 68, 39, 47, 75, 76, 77, 78, 79, 80, 81, 82, 83, 84, 85, 86, 89, 90] (by decide +kernel) (by decide +kernel)
set_option maxRecDepth 20000 in
theorem gX3_readCopy_X0_give : GoodIn wsX3_readCopy (wsV RX3 108 RX0 yX0_give wsX0_give) := goodIn_app (goodIn_of _ (by decide +kernel)) ggX3_readCopy_X0_give
theorem dX3_readCopy_0 : decode cX3_readCopy 0 = .ok (.aload_n 0, 1) := by decide +kernel
theorem dX3_readCopy_1 : decode cX3_readCopy 1 = .ok (.iload_n 3, 1) := by decide +kernel
theorem dX3_readCopy_2 : decode cX3_readCopy 2 = .ok (.invokevirtual 96, 3) := by decide +kernel
theorem dX3_readCopy_5 : decode cX3_readCopy 5 = .ok (.iconst 1, 1) := by decide +kernel
theorem dX3_readCopy_6 : decode cX3_readCopy 6 = .ok (.iadd, 1) := by decide +kernel
theorem dX3_readCopy_7 : decode cX3_readCopy 7 = .ok (.istore 5, 2) := by decide +kernel
theorem dX3_readCopy_9 : decode cX3_readCopy 9 = .ok (.aload_n 0, 1) := by decide +kernel
theorem dX3_readCopy_10 : decode cX3_readCopy 10 = .ok (.getfield 25, 3) := by decide +kernel
theorem dX3_readCopy_13 : decode cX3_readCopy 13 = .ok (.invokevirtual 57, 3) := by decide +kernel
theorem dX3_readCopy_16 : decode cX3_readCopy 16 = .ok (.iload 5, 2) := by decide +kernel
theorem dX3_readCopy_18 : decode cX3_readCopy 18 = .ok (.isub, 1) := by decide +kernel
theorem dX3_readCopy_19 : decode cX3_readCopy 19 = .ok (.iload 4, 2) := by decide +kernel
theorem dX3_readCopy_21 : decode cX3_readCopy 21 = .ok (.if_icmp .ge 17, 3) := by decide +kernel
theorem dX3_readCopy_24 : decode cX3_readCopy 24 = .ok (.aload_n 0, 1) := by decide +kernel
theorem dX3_readCopy_25 : decode cX3_readCopy 25 = .ok (.getfield 15, 3) := by decide +kernel
theorem dX3_readCopy_28 : decode cX3_readCopy 28 = .ok (.iconst 3, 1) := by decide +kernel
theorem dX3_readCopy_29 : decode cX3_readCopy 29 = .ok (.aload_n 0, 1) := by decide +kernel
theorem dX3_readCopy_30 : decode cX3_readCopy 30 = .ok (.getfield 30, 3) := by decide +kernel
theorem dX3_readCopy_33 : decode cX3_readCopy 33 = .ok (.iconst 1, 1) := by decide +kernel
theorem dX3_readCopy_34 : decode cX3_readCopy 34 = .ok (.isub, 1) := by decide +kernel
theorem dX3_readCopy_35 : decode cX3_readCopy 35 = .ok (.invokevirtual 50, 3) := by decide +kernel
theorem dX3_readCopy_38 : decode cX3_readCopy 38 = .ok (.iconst 0, 1) := by decide +kernel
theorem dX3_readCopy_39 : decode cX3_readCopy 39 = .ok (.istore 6, 2) := by decide +kernel
theorem dX3_readCopy_41 : decode cX3_readCopy 41 = .ok (.iload 6, 2) := by decide +kernel
theorem dX3_readCopy_43 : decode cX3_readCopy 43 = .ok (.iload_n 1, 1) := by decide +kernel
theorem dX3_readCopy_44 : decode cX3_readCopy 44 = .ok (.invokestatic 112, 3) := by decide +kernel
theorem dX3_readCopy_47 : decode cX3_readCopy 47 = .ok (.if_icmp .ge 54, 3) := by decide +kernel
theorem dX3_readCopy_50 : decode cX3_readCopy 50 = .ok (.aload_n 0, 1) := by decide +kernel
theorem dX3_readCopy_51 : decode cX3_readCopy 51 = .ok (.getfield 15, 3) := by decide +kernel
theorem dX3_readCopy_54 : decode cX3_readCopy 54 = .ok (.invokevirtual 73, 3) := by decide +kernel
theorem dX3_readCopy_57 : decode cX3_readCopy 57 = .ok (.ifCond .ne 44, 3) := by decide +kernel
theorem dX3_readCopy_60 : decode cX3_readCopy 60 = .ok (.aload_n 0, 1) := by decide +kernel
theorem dX3_readCopy_61 : decode cX3_readCopy 61 = .ok (.getfield 15, 3) := by decide +kernel
theorem dX3_readCopy_64 : decode cX3_readCopy 64 = .ok (.aload_n 0, 1) := by decide +kernel
theorem dX3_readCopy_65 : decode cX3_readCopy 65 = .ok (.getfield 25, 3) := by decide +kernel
theorem dX3_readCopy_68 : decode cX3_readCopy 68 = .ok (.aload_n 0, 1) := by decide +kernel
theorem dX3_readCopy_69 : decode cX3_readCopy 69 = .ok (.getfield 25, 3) := by decide +kernel
theorem dX3_readCopy_72 : decode cX3_readCopy 72 = .ok (.invokevirtual 57, 3) := by decide +kernel
theorem dX3_readCopy_75 : decode cX3_readCopy 75 = .ok (.iload 5, 2) := by decide +kernel
theorem dX3_readCopy_77 : decode cX3_readCopy 77 = .ok (.isub, 1) := by decide +kernel
theorem dX3_readCopy_78 : decode cX3_readCopy 78 = .ok (.invokevirtual 115, 3) := by decide +kernel
theorem dX3_readCopy_81 : decode cX3_readCopy 81 = .ok (.iload_n 2, 1) := by decide +kernel
theorem dX3_readCopy_82 : decode cX3_readCopy 82 = .ok (.iload_n 3, 1) := by decide +kernel
theorem dX3_readCopy_83 : decode cX3_readCopy 83 = .ok (.iconst 1, 1) := by decide +kernel
theorem dX3_readCopy_84 : decode cX3_readCopy 84 = .ok (.if_icmp .ne 7, 3) := by decide +kernel
theorem dX3_readCopy_87 : decode cX3_readCopy 87 = .ok (.iconst 1, 1) := by decide +kernel
theorem dX3_readCopy_88 : decode cX3_readCopy 88 = .ok (.goto 4, 3) := by decide +kernel
theorem dX3_readCopy_91 : decode cX3_readCopy 91 = .ok (.iconst 0, 1) := by decide +kernel
theorem dX3_readCopy_92 : decode cX3_readCopy 92 = .ok (.invokevirtual 108, 3) := by decide +kernel
theorem dX3_readCopy_95 : decode cX3_readCopy 95 = .ok (.iinc 6 1, 3) := by decide +kernel
theorem dX3_readCopy_98 : decode cX3_readCopy 98 = .ok (.goto (-57), 3) := by decide +kernel
theorem dX3_readCopy_101 : decode cX3_readCopy 101 = .ok (.return_, 1) := by decide +kernel
set_option maxRecDepth 20000 in
theorem ggX3_readInner_X0_fail : GoodIn wsX3_readInner wsX0_fail := goodIn_r _ [10, 11, 12, 145, 146, 147, 148, 149, 150, 151, 152, 153, 154, 155, 156] (by decide +kernel) (by decide +kernel)
set_option maxRecDepth 20000 in
theorem gX3_readInner_X0_fail : GoodIn wsX3_readInner (wsV RX3 50 RX0 yX0_fail wsX0_fail) := goodIn_app (goodIn_of _ (by decide +kernel)) ggX3_readInner_X0_fail
set_option maxRecDepth 20000 in
theorem ggX3_readInner_X3_take : GoodIn wsX3_readInner wsX3_take := goodIn_r _ [17, 1, 2, 3, 4, 18, 19, 20, 21, 9, 22, 11, 6, 7, 8, 10, 12, 23, 24, 25, 26, 27, 28, 29, 30, 31, 32, 33, 139, 140, 141, 142, 143, 144, 145, 146, 147, 148, 149, 150, 151, 152, 153, 154, 155, 156, 157, 158] (by decide +kernel) (by decide +kernel)
set_option maxRecDepth 20000 in
theorem gX3_readInner_X3_take : GoodIn wsX3_readInner (wsV RX3 96 RX3 yX3_take wsX3_take) := goodIn_app (goodIn_of _ (by decide +kernel)) ggX3_readInner_X3_take
set_option maxRecDepth 20000 in
theorem ggX3_readInner_X0_failed : GoodIn wsX3_readInner wsX0_failed := goodIn_r _ [22, 11, 145, 146, 147, 148, 149, 150, 151, 152, 153, 154, 155, 156] (by decide +kernel) (by decide +kernel)
set_option maxRecDepth 20000 in
theorem gX3_readInner_X0_failed : GoodIn wsX3_readInner (wsV RX3 73 RX0 yX0_failed wsX0_failed) := goodIn_app (goodIn_of _ (by decide +kernel)) ggX3_readInner_X0_failed
set_option maxRecDepth 20000 in
theorem ggX3_readInner_X4_top : GoodIn wsX3_readInner wsX4_top := goodIn_r _ [38, 39, 159, 160] (by decide +kernel) (by decide +kernel)
set_option maxRecDepth 20000 in
theorem gX3_readInner_X4_top : GoodIn wsX3_readInner (wsV RX3 57 RX4 yX4_top wsX4_top) := goodIn_app (goodIn_of _ (by decide +kernel)) ggX3_readInner_X4_top
set_option maxRecDepth 20000 in
theorem ggX3_readInner_X3_readPack : GoodIn wsX3_readInner wsX3_readPack := goodIn_r _ [126, 1, 5, 127, 128, 129, 9, 130, 131, 132, 133, 134, 135, 34, 35, 36, 37, 38, 39, 136, 137, 138, 16, 0, 2, 3, 4, 6, 7, 8, 10, 11, 12, 13, 14, 15, 17, 18, 19, 20, 21, 22, 23, 24, 25, 26, 27, 28, 29, 30, 31, 32, 33, 40, 41, 42, 43, 44, 45, 46, 47, 48, 49, 50, 51, 52, 53, 54, 55, 56, 57, 58, 59, 60, 61, 62, 63, 64, 65, 66, 67, 68, 69, 70, 71, 72, 73, 74, 75, 76, 77, 78, 79, 80, 81, 82, 83, 84, 85, 86, 87, 88, 89, 90, 91, 92, 93, 94, 95, 96, 97, 98, 99, 100, 101, 102, 103, 104, 105, 106, 107, 108, 109, 110, 111, 112, 113, 114, 115, 116, 117, 118, 119, 120, 121, 122, 123, 124, 125, 139, 140, 141, 142, 143, 144, 145, 146, 147, 148, 149, 150, 151, 152, 153, 154, 155, 156, 157, 158, 159, 160] (by decide +kernel) (by decide +kernel)
set_option maxRecDepth 20000 in
theorem gX3_readInner_X3_readPack : GoodIn wsX3_readInner (wsV RX3 46 RX3 yX3_readPack wsX3_readPack) := goodIn_app (goodIn_of _ (by decide +kernel)) ggX3_readInner_X3_readPack
set_option maxRecDepth 20000 in
theorem ggX3_readInner_X3_giveInner : GoodIn wsX3_readInner wsX3_giveInner := goodIn_r _ [46, 5, 1, 34, 35, 36, 37, 38, 39, 47, 48, 49, 50, 19, 20, 21, 9, 22, 11, 51, 52, 53, 54, 55, 56, 57, 58, 59, 60, 61, 62, 63, 64, 65, 66, 67, 7, 8, 10, 12, 68, 69, 70, 71, 72, 73, 74, 75, 76, 77, 78, 79, 80, 139, 140, 141, 142, 143, 144, 159, 160, 145, 146, 147, 148, 149, 150, 151, 152, 153, 154, 155, 156] (by decide +kernel) (by decide +kernel)
set_option maxRecDepth 20000 in
theorem gX3_readInner_X3_giveInner : GoodIn wsX3_readInner (wsV RX3 116 RX3 yX3_giveInner wsX3_giveInner) := goodIn_app (goodIn_of _ (by decide +kernel)) ggX3_readInner_X3_giveInner
theorem dX3_readInner_0 : decode cX3_readInner 0 = .ok (.iload_n 2, 1) := by decide +kernel
theorem dX3_readInner_1 : decode cX3_readInner 1 = .ok (.bipush 6, 2) := by decide +kernel
theorem dX3_readInner_3 : decode cX3_readInner 3 = .ok (.if_icmp .lt 13, 3) := by decide +kernel
theorem dX3_readInner_6 : decode cX3_readInner 6 = .ok (.aload_n 0, 1) := by decide +kernel
theorem dX3_readInner_7 : decode cX3_readInner 7 = .ok (.getfield 15, 3) := by decide +kernel
theorem dX3_readInner_10 : decode cX3_readInner 10 = .ok (.bipush 6, 2) := by decide +kernel
theorem dX3_readInner_12 : decode cX3_readInner 12 = .ok (.iload_n 1, 1) := by decide +kernel
theorem dX3_readInner_13 : decode cX3_readInner 13 = .ok (.invokevirtual 50, 3) := by decide +kernel
theorem dX3_readInner_16 : decode cX3_readInner 16 = .ok (.aload_n 0, 1) := by decide +kernel
theorem dX3_readInner_17 : decode cX3_readInner 17 = .ok (.iload_n 2, 1) := by decide +kernel
theorem dX3_readInner_18 : decode cX3_readInner 18 = .ok (.invokevirtual 96, 3) := by decide +kernel
theorem dX3_readInner_21 : decode cX3_readInner 21 = .ok (.istore_n 3, 1) := by decide +kernel
theorem dX3_readInner_22 : decode cX3_readInner 22 = .ok (.aload_n 0, 1) := by decide +kernel
theorem dX3_readInner_23 : decode cX3_readInner 23 = .ok (.getfield 30, 3) := by decide +kernel
theorem dX3_readInner_26 : decode cX3_readInner 26 = .ok (.iload_n 3, 1) := by decide +kernel
theorem dX3_readInner_27 : decode cX3_readInner 27 = .ok (.iadd, 1) := by decide +kernel
theorem dX3_readInner_28 : decode cX3_readInner 28 = .ok (.aload_n 0, 1) := by decide +kernel
theorem dX3_readInner_29 : decode cX3_readInner 29 = .ok (.getfield 40, 3) := by decide +kernel
theorem dX3_readInner_32 : decode cX3_readInner 32 = .ok (.if_icmp .le 14, 3) := by decide +kernel
theorem dX3_readInner_35 : decode cX3_readInner 35 = .ok (.aload_n 0, 1) := by decide +kernel
theorem dX3_readInner_36 : decode cX3_readInner 36 = .ok (.getfield 15, 3) := by decide +kernel
theorem dX3_readInner_39 : decode cX3_readInner 39 = .ok (.iconst 2, 1) := by decide +kernel
theorem dX3_readInner_40 : decode cX3_readInner 40 = .ok (.iload_n 1, 1) := by decide +kernel
theorem dX3_readInner_41 : decode cX3_readInner 41 = .ok (.iconst 1, 1) := by decide +kernel
theorem dX3_readInner_42 : decode cX3_readInner 42 = .ok (.iadd, 1) := by decide +kernel
theorem dX3_readInner_43 : decode cX3_readInner 43 = .ok (.invokevirtual 50, 3) := by decide +kernel
theorem dX3_readInner_46 : decode cX3_readInner 46 = .ok (.aload_n 0, 1) := by decide +kernel
theorem dX3_readInner_47 : decode cX3_readInner 47 = .ok (.getfield 15, 3) := by decide +kernel
theorem dX3_readInner_50 : decode cX3_readInner 50 = .ok (.invokevirtual 73, 3) := by decide +kernel
theorem dX3_readInner_53 : decode cX3_readInner 53 = .ok (.ifCond .eq 4, 3) := by decide +kernel
theorem dX3_readInner_56 : decode cX3_readInner 56 = .ok (.return_, 1) := by decide +kernel
theorem dX3_readInner_57 : decode cX3_readInner 57 = .ok (.aload_n 0, 1) := by decide +kernel
theorem dX3_readInner_58 : decode cX3_readInner 58 = .ok (.getfield 40, 3) := by decide +kernel
theorem dX3_readInner_61 : decode cX3_readInner 61 = .ok (.istore 4, 2) := by decide +kernel
theorem dX3_readInner_63 : decode cX3_readInner 63 = .ok (.aload_n 0, 1) := by decide +kernel
theorem dX3_readInner_64 : decode cX3_readInner 64 = .ok (.getfield 43, 3) := by decide +kernel
theorem dX3_readInner_67 : decode cX3_readInner 67 = .ok (.istore 5, 2) := by decide +kernel
theorem dX3_readInner_69 : decode cX3_readInner 69 = .ok (.aload_n 0, 1) := by decide +kernel
theorem dX3_readInner_70 : decode cX3_readInner 70 = .ok (.getfield 25, 3) := by decide +kernel
theorem dX3_readInner_73 : decode cX3_readInner 73 = .ok (.invokevirtual 57, 3) := by decide +kernel
theorem dX3_readInner_76 : decode cX3_readInner 76 = .ok (.istore 6, 2) := by decide +kernel
theorem dX3_readInner_78 : decode cX3_readInner 78 = .ok (.aload_n 0, 1) := by decide +kernel
theorem dX3_readInner_79 : decode cX3_readInner 79 = .ok (.aload_n 0, 1) := by decide +kernel
theorem dX3_readInner_80 : decode cX3_readInner 80 = .ok (.getfield 30, 3) := by decide +kernel
theorem dX3_readInner_83 : decode cX3_readInner 83 = .ok (.iload_n 3, 1) := by decide +kernel
theorem dX3_readInner_84 : decode cX3_readInner 84 = .ok (.iadd, 1) := by decide +kernel
theorem dX3_readInner_85 : decode cX3_readInner 85 = .ok (.putfield 40, 3) := by decide +kernel
theorem dX3_readInner_88 : decode cX3_readInner 88 = .ok (.aload_n 0, 1) := by decide +kernel
theorem dX3_readInner_89 : decode cX3_readInner 89 = .ok (.iload_n 1, 1) := by decide +kernel
theorem dX3_readInner_90 : decode cX3_readInner 90 = .ok (.iconst 1, 1) := by decide +kernel
theorem dX3_readInner_91 : decode cX3_readInner 91 = .ok (.iadd, 1) := by decide +kernel
theorem dX3_readInner_92 : decode cX3_readInner 92 = .ok (.putfield 43, 3) := by decide +kernel
theorem dX3_readInner_95 : decode cX3_readInner 95 = .ok (.aload_n 0, 1) := by decide +kernel
theorem dX3_readInner_96 : decode cX3_readInner 96 = .ok (.iload_n 2, 1) := by decide +kernel
theorem dX3_readInner_97 : decode cX3_readInner 97 = .ok (.iconst 1, 1) := by decide +kernel
theorem dX3_readInner_98 : decode cX3_readInner 98 = .ok (.iadd, 1) := by decide +kernel
theorem dX3_readInner_99 : decode cX3_readInner 99 = .ok (.invokevirtual 46, 3) := by decide +kernel
theorem dX3_readInner_102 : decode cX3_readInner 102 = .ok (.aload_n 0, 1) := by decide +kernel
theorem dX3_readInner_103 : decode cX3_readInner 103 = .ok (.getfield 30, 3) := by decide +kernel
theorem dX3_readInner_106 : decode cX3_readInner 106 = .ok (.aload_n 0, 1) := by decide +kernel
theorem dX3_readInner_107 : decode cX3_readInner 107 = .ok (.getfield 40, 3) := by decide +kernel
theorem dX3_readInner_110 : decode cX3_readInner 110 = .ok (.if_icmp .ge 14, 3) := by decide +kernel
theorem dX3_readInner_113 : decode cX3_readInner 113 = .ok (.aload_n 0, 1) := by decide +kernel
theorem dX3_readInner_114 : decode cX3_readInner 114 = .ok (.getfield 15, 3) := by decide +kernel
theorem dX3_readInner_117 : decode cX3_readInner 117 = .ok (.iconst 2, 1) := by decide +kernel
theorem dX3_readInner_118 : decode cX3_readInner 118 = .ok (.iload_n 1, 1) := by decide +kernel
theorem dX3_readInner_119 : decode cX3_readInner 119 = .ok (.iconst 1, 1) := by decide +kernel
theorem dX3_readInner_120 : decode cX3_readInner 120 = .ok (.iadd, 1) := by decide +kernel
theorem dX3_readInner_121 : decode cX3_readInner 121 = .ok (.invokevirtual 50, 3) := by decide +kernel
theorem dX3_readInner_124 : decode cX3_readInner 124 = .ok (.aload_n 0, 1) := by decide +kernel
theorem dX3_readInner_125 : decode cX3_readInner 125 = .ok (.iload 4, 2) := by decide +kernel
theorem dX3_readInner_127 : decode cX3_readInner 127 = .ok (.putfield 40, 3) := by decide +kernel
theorem dX3_readInner_130 : decode cX3_readInner 130 = .ok (.aload_n 0, 1) := by decide +kernel
theorem dX3_readInner_131 : decode cX3_readInner 131 = .ok (.iload 5, 2) := by decide +kernel
theorem dX3_readInner_133 : decode cX3_readInner 133 = .ok (.putfield 43, 3) := by decide +kernel
theorem dX3_readInner_136 : decode cX3_readInner 136 = .ok (.aload_n 0, 1) := by decide +kernel
theorem dX3_readInner_137 : decode cX3_readInner 137 = .ok (.iload 6, 2) := by decide +kernel
theorem dX3_readInner_139 : decode cX3_readInner 139 = .ok (.iload_n 1, 1) := by decide +kernel
theorem dX3_readInner_140 : decode cX3_readInner 140 = .ok (.iload_n 2, 1) := by decide +kernel
theorem dX3_readInner_141 : decode cX3_readInner 141 = .ok (.invokevirtual 116, 3) := by decide +kernel
theorem dX3_readInner_144 : decode cX3_readInner 144 = .ok (.return_, 1) := by decide +kernel
set_option maxRecDepth 20000 in
theorem ggX3_giveInner_X4_top : GoodIn wsX3_giveInner wsX4_top := goodIn_r _ [7, 8, 59, 60] (by decide +kernel) (by decide +kernel)
set_option maxRecDepth 20000 in
theorem gX3_giveInner_X4_top : GoodIn wsX3_giveInner (wsV RX3 57 RX4 yX4_top wsX4_top) := goodIn_app (goodIn_of _ (by decide +kernel)) ggX3_giveInner_X4_top
set_option maxRecDepth 20000 in
theorem ggX3_giveInner_X4_backTo : GoodIn wsX3_giveInner wsX4_backTo := goodIn_r _ [12, 8, 59, 60] (by decide +kernel) (by decide +kernel)
set_option maxRecDepth 20000 in
theorem gX3_giveInner_X4_backTo : GoodIn wsX3_giveInner (wsV RX3 119 RX4 yX4_backTo wsX4_backTo) := goodIn_app (goodIn_of _ (by decide +kernel)) ggX3_giveInner_X4_backTo
set_option maxRecDepth 20000 in
theorem ggX3_giveInner_X0_failed : GoodIn wsX3_giveInner wsX0_failed := goodIn_r _ [17, 18, 61, 62, 63, 64, 65, 66, 67, 68, 69, 70, 71, 72] (by decide +kernel) (by decide +kernel)
set_option maxRecDepth 20000 in
theorem gX3_giveInner_X0_failed : GoodIn wsX3_giveInner (wsV RX3 73 RX0 yX0_failed wsX0_failed) := goodIn_app (goodIn_of _ (by decide +kernel)) ggX3_giveInner_X0_failed
set_option maxRecDepth 20000 in
theorem ggX3_giveInner_X4_byteAt : GoodIn wsX3_giveInner wsX4_byteAt := goodIn_r _ [22, 23, 59, 60] (by decide +kernel) (by decide +kernel)
set_option maxRecDepth 20000 in
theorem gX3_giveInner_X4_byteAt : GoodIn wsX3_giveInner (wsV RX3 115 RX4 yX4_byteAt wsX4_byteAt) := goodIn_app (goodIn_of _ (by decide +kernel)) ggX3_giveInner_X4_byteAt
set_option maxRecDepth 20000 in
theorem ggX3_giveInner_X0_give : GoodIn wsX3_giveInner wsX0_give := goodIn_r _ [27, 18, 28, 29, 30, 31, 32, 33, 34, 35, 36, 37, 16, 38, 39, 40, 41, 42, 43, 44, 45, 46, 47, 6, 48, 8, 23, 61, 62, 63, 64, 65, 66, 67, 68, 69, 70, 71, 72, 59, 60] (by decide +kernel) (by decide +kernel)
set_option maxRecDepth 20000 in
theorem gX3_giveInner_X0_give : GoodIn wsX3_giveInner (wsV RX3 108 RX0 yX0_give wsX0_give) := goodIn_app (goodIn_of _ (by decide +kernel)) ggX3_giveInner_X0_give
set_option maxRecDepth 20000 in
theorem ggX3_giveInner_X0_release : GoodIn wsX3_giveInner wsX0_release := goodIn_r _ [52, 30, 61, 62, 63, 64, 65, 66, 67, 68, 69, 70, 71, 72] (by decide +kernel) (by decide +kernel)
set_option maxRecDepth 20000 in
theorem gX3_giveInner_X0_release : GoodIn wsX3_giveInner (wsV RX3 122 RX0 yX0_release wsX0_release) := goodIn_app (goodIn_of _ (by decide +kernel)) ggX3_giveInner_X0_release
theorem dX3_giveInner_0 : decode cX3_giveInner 0 = .ok (.aload_n 0, 1) := by decide +kernel
theorem dX3_giveInner_1 : decode cX3_giveInner 1 = .ok (.getfield 25, 3) := by decide +kernel
theorem dX3_giveInner_4 : decode cX3_giveInner 4 = .ok (.invokevirtual 57, 3) := by decide +kernel
theorem dX3_giveInner_7 : decode cX3_giveInner 7 = .ok (.iload_n 1, 1) := by decide +kernel
theorem dX3_giveInner_8 : decode cX3_giveInner 8 = .ok (.isub, 1) := by decide +kernel
theorem dX3_giveInner_9 : decode cX3_giveInner 9 = .ok (.istore 4, 2) := by decide +kernel
theorem dX3_giveInner_11 : decode cX3_giveInner 11 = .ok (.aload_n 0, 1) := by decide +kernel
theorem dX3_giveInner_12 : decode cX3_giveInner 12 = .ok (.getfield 25, 3) := by decide +kernel
theorem dX3_giveInner_15 : decode cX3_giveInner 15 = .ok (.iload_n 1, 1) := by decide +kernel
theorem dX3_giveInner_16 : decode cX3_giveInner 16 = .ok (.invokevirtual 119, 3) := by decide +kernel
theorem dX3_giveInner_19 : decode cX3_giveInner 19 = .ok (.iconst 0, 1) := by decide +kernel
theorem dX3_giveInner_20 : decode cX3_giveInner 20 = .ok (.istore 5, 2) := by decide +kernel
theorem dX3_giveInner_22 : decode cX3_giveInner 22 = .ok (.iload 5, 2) := by decide +kernel
theorem dX3_giveInner_24 : decode cX3_giveInner 24 = .ok (.iload 4, 2) := by decide +kernel
theorem dX3_giveInner_26 : decode cX3_giveInner 26 = .ok (.if_icmp .ge 48, 3) := by decide +kernel
theorem dX3_giveInner_29 : decode cX3_giveInner 29 = .ok (.aload_n 0, 1) := by decide +kernel
theorem dX3_giveInner_30 : decode cX3_giveInner 30 = .ok (.getfield 15, 3) := by decide +kernel
theorem dX3_giveInner_33 : decode cX3_giveInner 33 = .ok (.invokevirtual 73, 3) := by decide +kernel
theorem dX3_giveInner_36 : decode cX3_giveInner 36 = .ok (.ifCond .ne 38, 3) := by decide +kernel
theorem dX3_giveInner_39 : decode cX3_giveInner 39 = .ok (.aload_n 0, 1) := by decide +kernel
theorem dX3_giveInner_40 : decode cX3_giveInner 40 = .ok (.getfield 15, 3) := by decide +kernel
theorem dX3_giveInner_43 : decode cX3_giveInner 43 = .ok (.aload_n 0, 1) := by decide +kernel
theorem dX3_giveInner_44 : decode cX3_giveInner 44 = .ok (.getfield 25, 3) := by decide +kernel
theorem dX3_giveInner_47 : decode cX3_giveInner 47 = .ok (.iload_n 1, 1) := by decide +kernel
theorem dX3_giveInner_48 : decode cX3_giveInner 48 = .ok (.iload 5, 2) := by decide +kernel
theorem dX3_giveInner_50 : decode cX3_giveInner 50 = .ok (.iadd, 1) := by decide +kernel
theorem dX3_giveInner_51 : decode cX3_giveInner 51 = .ok (.invokevirtual 115, 3) := by decide +kernel
theorem dX3_giveInner_54 : decode cX3_giveInner 54 = .ok (.iload_n 2, 1) := by decide +kernel
theorem dX3_giveInner_55 : decode cX3_giveInner 55 = .ok (.iload_n 3, 1) := by decide +kernel
theorem dX3_giveInner_56 : decode cX3_giveInner 56 = .ok (.iconst 1, 1) := by decide +kernel
theorem dX3_giveInner_57 : decode cX3_giveInner 57 = .ok (.if_icmp .ne 7, 3) := by decide +kernel
theorem dX3_giveInner_60 : decode cX3_giveInner 60 = .ok (.iconst 1, 1) := by decide +kernel
theorem dX3_giveInner_61 : decode cX3_giveInner 61 = .ok (.goto 4, 3) := by decide +kernel
theorem dX3_giveInner_64 : decode cX3_giveInner 64 = .ok (.iconst 0, 1) := by decide +kernel
theorem dX3_giveInner_65 : decode cX3_giveInner 65 = .ok (.invokevirtual 108, 3) := by decide +kernel
theorem dX3_giveInner_68 : decode cX3_giveInner 68 = .ok (.iinc 5 1, 3) := by decide +kernel
theorem dX3_giveInner_71 : decode cX3_giveInner 71 = .ok (.goto (-49), 3) := by decide +kernel
theorem dX3_giveInner_74 : decode cX3_giveInner 74 = .ok (.aload_n 0, 1) := by decide +kernel
theorem dX3_giveInner_75 : decode cX3_giveInner 75 = .ok (.getfield 15, 3) := by decide +kernel
theorem dX3_giveInner_78 : decode cX3_giveInner 78 = .ok (.iload 4, 2) := by decide +kernel
theorem dX3_giveInner_80 : decode cX3_giveInner 80 = .ok (.invokevirtual 122, 3) := by decide +kernel
theorem dX3_giveInner_83 : decode cX3_giveInner 83 = .ok (.return_, 1) := by decide +kernel
set_option maxRecDepth 20000 in
theorem ggX3_giveAgain_X4_top : GoodIn wsX3_giveAgain wsX4_top := goodIn_r _ [8, 9, 66, 67] (by decide +kernel) (by decide +kernel)
set_option maxRecDepth 20000 in
theorem gX3_giveAgain_X4_top : GoodIn wsX3_giveAgain (wsV RX3 57 RX4 yX4_top wsX4_top) := goodIn_app (goodIn_of _ (by decide +kernel)) ggX3_giveAgain_X4_top
set_option maxRecDepth 20000 in
theorem ggX3_giveAgain_X5_byteAt : GoodIn wsX3_giveAgain wsX5_byteAt := goodIn_r _ [14, 15, 16, 17, 18, 13, 19, 20, 68, 69] (by decide +kernel) (by decide +kernel)
set_option maxRecDepth 20000 in
theorem gX3_giveAgain_X5_byteAt : GoodIn wsX3_giveAgain (wsV RX3 105 RX5 yX5_byteAt wsX5_byteAt) := goodIn_app (goodIn_of _ (by decide +kernel)) ggX3_giveAgain_X5_byteAt
set_option maxRecDepth 20000 in
theorem ggX3_giveAgain_X6_timesMore : GoodIn wsX3_giveAgain wsX6_timesMore := goodIn_r _ [23] (by decide +kernel) (by decide +kernel)
set_option maxRecDepth 20000 in
theorem gX3_giveAgain_X6_timesMore_n125 : GoodIn wsX3_giveAgain (wsX6_timesMore) := ggX3_giveAgain_X6_timesMore
set_option maxRecDepth 20000 in
theorem ggX3_giveAgain_X0_failed : GoodIn wsX3_giveAgain wsX0_failed := goodIn_r _ [28, 29, 70, 71, 72, 73, 74, 75, 76, 77, 78, 79, 80, 81] (by decide +kernel) (by decide +kernel)
set_option maxRecDepth 20000 in
theorem gX3_giveAgain_X0_failed : GoodIn wsX3_giveAgain (wsV RX3 73 RX0 yX0_failed wsX0_failed) := goodIn_app (goodIn_of _ (by decide +kernel)) ggX3_giveAgain_X0_failed
set_option maxRecDepth 20000 in
theorem ggX3_giveAgain_X4_byteAt : GoodIn wsX3_giveAgain wsX4_byteAt := goodIn_r _ [33, 34, 66, 67] (by decide +kernel) (by decide +kernel)
set_option maxRecDepth 20000 in
theorem gX3_giveAgain_X4_byteAt : GoodIn wsX3_giveAgain (wsV RX3 115 RX4 yX4_byteAt wsX4_byteAt) := goodIn_app (goodIn_of _ (by decide +kernel)) ggX3_giveAgain_X4_byteAt
set_option maxRecDepth 20000 in
theorem ggX3_giveAgain_X0_give : GoodIn wsX3_giveAgain wsX0_give := goodIn_r _ [38, 29, 39, 40, 41, 42, 43, 44, 45, 46, 47, 48, 27, 49, 50, 51, 52, 53, 54, 55, 56, 57, 58, 7, 59, 9, 34, 70, 71, 72, 73, 74, 75, 76, 77, 78, 79, 80, 81, 66, 67] (by decide +kernel) (by decide +kernel)
set_option maxRecDepth 20000 in
theorem gX3_giveAgain_X0_give : GoodIn wsX3_giveAgain (wsV RX3 108 RX0 yX0_give wsX0_give) := goodIn_app (goodIn_of _ (by decide +kernel)) ggX3_giveAgain_X0_give
theorem dX3_giveAgain_0 : decode cX3_giveAgain 0 = .ok (.aload_n 0, 1) := by decide +kernel
theorem dX3_giveAgain_1 : decode cX3_giveAgain 1 = .ok (.getfield 25, 3) := by decide +kernel
theorem dX3_giveAgain_4 : decode cX3_giveAgain 4 = .ok (.invokevirtual 57, 3) := by decide +kernel
theorem dX3_giveAgain_7 : decode cX3_giveAgain 7 = .ok (.iload_n 2, 1) := by decide +kernel
theorem dX3_giveAgain_8 : decode cX3_giveAgain 8 = .ok (.isub, 1) := by decide +kernel
theorem dX3_giveAgain_9 : decode cX3_giveAgain 9 = .ok (.aload_n 0, 1) := by decide +kernel
theorem dX3_giveAgain_10 : decode cX3_giveAgain 10 = .ok (.getfield 9, 3) := by decide +kernel
theorem dX3_giveAgain_13 : decode cX3_giveAgain 13 = .ok (.iload_n 1, 1) := by decide +kernel
theorem dX3_giveAgain_14 : decode cX3_giveAgain 14 = .ok (.invokevirtual 105, 3) := by decide +kernel
theorem dX3_giveAgain_17 : decode cX3_giveAgain 17 = .ok (.invokestatic 125, 3) := by decide +kernel
theorem dX3_giveAgain_20 : decode cX3_giveAgain 20 = .ok (.imul, 1) := by decide +kernel
theorem dX3_giveAgain_21 : decode cX3_giveAgain 21 = .ok (.istore 4, 2) := by decide +kernel
theorem dX3_giveAgain_23 : decode cX3_giveAgain 23 = .ok (.iconst 0, 1) := by decide +kernel
theorem dX3_giveAgain_24 : decode cX3_giveAgain 24 = .ok (.istore 5, 2) := by decide +kernel
theorem dX3_giveAgain_26 : decode cX3_giveAgain 26 = .ok (.iload 5, 2) := by decide +kernel
theorem dX3_giveAgain_28 : decode cX3_giveAgain 28 = .ok (.iload 4, 2) := by decide +kernel
theorem dX3_giveAgain_30 : decode cX3_giveAgain 30 = .ok (.if_icmp .ge 48, 3) := by decide +kernel
theorem dX3_giveAgain_33 : decode cX3_giveAgain 33 = .ok (.aload_n 0, 1) := by decide +kernel
theorem dX3_giveAgain_34 : decode cX3_giveAgain 34 = .ok (.getfield 15, 3) := by decide +kernel
theorem dX3_giveAgain_37 : decode cX3_giveAgain 37 = .ok (.invokevirtual 73, 3) := by decide +kernel
theorem dX3_giveAgain_40 : decode cX3_giveAgain 40 = .ok (.ifCond .ne 38, 3) := by decide +kernel
theorem dX3_giveAgain_43 : decode cX3_giveAgain 43 = .ok (.aload_n 0, 1) := by decide +kernel
theorem dX3_giveAgain_44 : decode cX3_giveAgain 44 = .ok (.getfield 15, 3) := by decide +kernel
theorem dX3_giveAgain_47 : decode cX3_giveAgain 47 = .ok (.aload_n 0, 1) := by decide +kernel
theorem dX3_giveAgain_48 : decode cX3_giveAgain 48 = .ok (.getfield 25, 3) := by decide +kernel
theorem dX3_giveAgain_51 : decode cX3_giveAgain 51 = .ok (.iload_n 2, 1) := by decide +kernel
theorem dX3_giveAgain_52 : decode cX3_giveAgain 52 = .ok (.iload 5, 2) := by decide +kernel
theorem dX3_giveAgain_54 : decode cX3_giveAgain 54 = .ok (.iadd, 1) := by decide +kernel
theorem dX3_giveAgain_55 : decode cX3_giveAgain 55 = .ok (.invokevirtual 115, 3) := by decide +kernel
theorem dX3_giveAgain_58 : decode cX3_giveAgain 58 = .ok (.iload_n 1, 1) := by decide +kernel
theorem dX3_giveAgain_59 : decode cX3_giveAgain 59 = .ok (.iload_n 3, 1) := by decide +kernel
theorem dX3_giveAgain_60 : decode cX3_giveAgain 60 = .ok (.iconst 1, 1) := by decide +kernel
theorem dX3_giveAgain_61 : decode cX3_giveAgain 61 = .ok (.if_icmp .ne 7, 3) := by decide +kernel
theorem dX3_giveAgain_64 : decode cX3_giveAgain 64 = .ok (.iconst 1, 1) := by decide +kernel
theorem dX3_giveAgain_65 : decode cX3_giveAgain 65 = .ok (.goto 4, 3) := by decide +kernel
theorem dX3_giveAgain_68 : decode cX3_giveAgain 68 = .ok (.iconst 0, 1) := by decide +kernel
theorem dX3_giveAgain_69 : decode cX3_giveAgain 69 = .ok (.invokevirtual 108, 3) := by decide +kernel
theorem dX3_giveAgain_72 : decode cX3_giveAgain 72 = .ok (.iinc 5 1, 3) := by decide +kernel
theorem dX3_giveAgain_75 : decode cX3_giveAgain 75 = .ok (.goto (-49), 3) := by decide +kernel
theorem dX3_giveAgain_78 : decode cX3_giveAgain 78 = .ok (.return_, 1) := by decide +kernel
set_option maxRecDepth 20000 in
theorem ggX3_take_X0_failed : GoodIn wsX3_take wsX0_failed := goodIn_r _ [10, 11, 34, 35, 36, 37, 38, 39, 40, 41, 42, 43, 44, 45] (by decide +kernel) (by decide +kernel)
set_option maxRecDepth 20000 in
theorem gX3_take_X0_failed : GoodIn wsX3_take (wsV RX3 73 RX0 yX0_failed wsX0_failed) := goodIn_app (goodIn_of _ (by decide +kernel)) ggX3_take_X0_failed
set_option maxRecDepth 20000 in
theorem ggX3_take_X0_fail : GoodIn wsX3_take wsX0_fail := goodIn_r _ [15, 11, 16, 34, 35, 36, 37, 38, 39, 40, 41, 42, 43, 44, 45] (by decide +kernel) (by decide +kernel)
set_option maxRecDepth 20000 in
theorem gX3_take_X0_fail : GoodIn wsX3_take (wsV RX3 50 RX0 yX0_fail wsX0_fail) := goodIn_app (goodIn_of _ (by decide +kernel)) ggX3_take_X0_fail
set_option maxRecDepth 20000 in
theorem ggX3_take_X5_byteAt : GoodIn wsX3_take wsX5_byteAt := goodIn_r _ [21, 22, 23, 24, 25, 20, 26, 27, 46, 47] (by decide +kernel) (by decide +kernel)
set_option maxRecDepth 20000 in
theorem gX3_take_X5_byteAt : GoodIn wsX3_take (wsV RX3 105 RX5 yX5_byteAt wsX5_byteAt) := goodIn_app (goodIn_of _ (by decide +kernel)) ggX3_take_X5_byteAt
theorem dX3_take_0 : decode cX3_take 0 = .ok (.aload_n 0, 1) := by decide +kernel
theorem dX3_take_1 : decode cX3_take 1 = .ok (.getfield 15, 3) := by decide +kernel
theorem dX3_take_4 : decode cX3_take 4 = .ok (.invokevirtual 73, 3) := by decide +kernel
theorem dX3_take_7 : decode cX3_take 7 = .ok (.ifCond .eq 5, 3) := by decide +kernel
theorem dX3_take_10 : decode cX3_take 10 = .ok (.iconst 0, 1) := by decide +kernel
theorem dX3_take_11 : decode cX3_take 11 = .ok (.ireturn, 1) := by decide +kernel
theorem dX3_take_12 : decode cX3_take 12 = .ok (.aload_n 0, 1) := by decide +kernel
theorem dX3_take_13 : decode cX3_take 13 = .ok (.getfield 30, 3) := by decide +kernel
theorem dX3_take_16 : decode cX3_take 16 = .ok (.aload_n 0, 1) := by decide +kernel
theorem dX3_take_17 : decode cX3_take 17 = .ok (.getfield 40, 3) := by decide +kernel
theorem dX3_take_20 : decode cX3_take 20 = .ok (.if_icmp .lt 26, 3) := by decide +kernel
theorem dX3_take_23 : decode cX3_take 23 = .ok (.aload_n 0, 1) := by decide +kernel
theorem dX3_take_24 : decode cX3_take 24 = .ok (.getfield 15, 3) := by decide +kernel
theorem dX3_take_27 : decode cX3_take 27 = .ok (.iload_n 1, 1) := by decide +kernel
theorem dX3_take_28 : decode cX3_take 28 = .ok (.iconst 1, 1) := by decide +kernel
theorem dX3_take_29 : decode cX3_take 29 = .ok (.if_icmp .ne 7, 3) := by decide +kernel
theorem dX3_take_32 : decode cX3_take 32 = .ok (.iconst 1, 1) := by decide +kernel
theorem dX3_take_33 : decode cX3_take 33 = .ok (.goto 4, 3) := by decide +kernel
theorem dX3_take_36 : decode cX3_take 36 = .ok (.iconst 2, 1) := by decide +kernel
theorem dX3_take_37 : decode cX3_take 37 = .ok (.aload_n 0, 1) := by decide +kernel
theorem dX3_take_38 : decode cX3_take 38 = .ok (.getfield 43, 3) := by decide +kernel
theorem dX3_take_41 : decode cX3_take 41 = .ok (.invokevirtual 50, 3) := by decide +kernel
theorem dX3_take_44 : decode cX3_take 44 = .ok (.iconst 0, 1) := by decide +kernel
theorem dX3_take_45 : decode cX3_take 45 = .ok (.ireturn, 1) := by decide +kernel
theorem dX3_take_46 : decode cX3_take 46 = .ok (.aload_n 0, 1) := by decide +kernel
theorem dX3_take_47 : decode cX3_take 47 = .ok (.dup, 1) := by decide +kernel
theorem dX3_take_48 : decode cX3_take 48 = .ok (.getfield 30, 3) := by decide +kernel
theorem dX3_take_51 : decode cX3_take 51 = .ok (.iconst 1, 1) := by decide +kernel
theorem dX3_take_52 : decode cX3_take 52 = .ok (.iadd, 1) := by decide +kernel
theorem dX3_take_53 : decode cX3_take 53 = .ok (.putfield 30, 3) := by decide +kernel
theorem dX3_take_56 : decode cX3_take 56 = .ok (.aload_n 0, 1) := by decide +kernel
theorem dX3_take_57 : decode cX3_take 57 = .ok (.getfield 9, 3) := by decide +kernel
theorem dX3_take_60 : decode cX3_take 60 = .ok (.aload_n 0, 1) := by decide +kernel
theorem dX3_take_61 : decode cX3_take 61 = .ok (.getfield 30, 3) := by decide +kernel
theorem dX3_take_64 : decode cX3_take 64 = .ok (.iconst 1, 1) := by decide +kernel
theorem dX3_take_65 : decode cX3_take 65 = .ok (.isub, 1) := by decide +kernel
theorem dX3_take_66 : decode cX3_take 66 = .ok (.invokevirtual 105, 3) := by decide +kernel
theorem dX3_take_69 : decode cX3_take 69 = .ok (.ireturn, 1) := by decide +kernel
theorem dX4_init_0 : decode cX4_init 0 = .ok (.aload_n 0, 1) := by decide +kernel
theorem dX4_init_1 : decode cX4_init 1 = .ok (.invokespecial 3, 3) := by decide +kernel
theorem dX4_init_4 : decode cX4_init 4 = .ok (.aload_n 0, 1) := by decide +kernel
theorem dX4_init_5 : decode cX4_init 5 = .ok (.sipush 800, 3) := by decide +kernel
theorem dX4_init_8 : decode cX4_init 8 = .ok (.newarray .int, 2) := by decide +kernel
theorem dX4_init_10 : decode cX4_init 10 = .ok (.putfield 9, 3) := by decide +kernel
theorem dX4_init_13 : decode cX4_init 13 = .ok (.return_, 1) := by decide +kernel
theorem dX4_top_0 : decode cX4_top 0 = .ok (.aload_n 0, 1) := by decide +kernel
theorem dX4_top_1 : decode cX4_top 1 = .ok (.getfield 15, 3) := by decide +kernel
theorem dX4_top_4 : decode cX4_top 4 = .ok (.ireturn, 1) := by decide +kernel
theorem dX4_backTo_0 : decode cX4_backTo 0 = .ok (.iload_n 1, 1) := by decide +kernel
theorem dX4_backTo_1 : decode cX4_backTo 1 = .ok (.ifCond .lt 16, 3) := by decide +kernel
theorem dX4_backTo_4 : decode cX4_backTo 4 = .ok (.iload_n 1, 1) := by decide +kernel
theorem dX4_backTo_5 : decode cX4_backTo 5 = .ok (.aload_n 0, 1) := by decide +kernel
theorem dX4_backTo_6 : decode cX4_backTo 6 = .ok (.getfield 15, 3) := by decide +kernel
theorem dX4_backTo_9 : decode cX4_backTo 9 = .ok (.if_icmp .ge 8, 3) := by decide +kernel
theorem dX4_backTo_12 : decode cX4_backTo 12 = .ok (.aload_n 0, 1) := by decide +kernel
theorem dX4_backTo_13 : decode cX4_backTo 13 = .ok (.iload_n 1, 1) := by decide +kernel
theorem dX4_backTo_14 : decode cX4_backTo 14 = .ok (.putfield 15, 3) := by decide +kernel
theorem dX4_backTo_17 : decode cX4_backTo 17 = .ok (.return_, 1) := by decide +kernel
theorem dX4_push_0 : decode cX4_push 0 = .ok (.aload_n 0, 1) := by decide +kernel
theorem dX4_push_1 : decode cX4_push 1 = .ok (.getfield 15, 3) := by decide +kernel
theorem dX4_push_4 : decode cX4_push 4 = .ok (.aload_n 0, 1) := by decide +kernel
theorem dX4_push_5 : decode cX4_push 5 = .ok (.getfield 9, 3) := by decide +kernel
theorem dX4_push_8 : decode cX4_push 8 = .ok (.arraylength, 1) := by decide +kernel
theorem dX4_push_9 : decode cX4_push 9 = .ok (.if_icmp .ge 23, 3) := by decide +kernel
theorem dX4_push_12 : decode cX4_push 12 = .ok (.aload_n 0, 1) := by decide +kernel
theorem dX4_push_13 : decode cX4_push 13 = .ok (.getfield 9, 3) := by decide +kernel
theorem dX4_push_16 : decode cX4_push 16 = .ok (.aload_n 0, 1) := by decide +kernel
theorem dX4_push_17 : decode cX4_push 17 = .ok (.getfield 15, 3) := by decide +kernel
theorem dX4_push_20 : decode cX4_push 20 = .ok (.iload_n 1, 1) := by decide +kernel
theorem dX4_push_21 : decode cX4_push 21 = .ok (.iastore, 1) := by decide +kernel
theorem dX4_push_22 : decode cX4_push 22 = .ok (.aload_n 0, 1) := by decide +kernel
theorem dX4_push_23 : decode cX4_push 23 = .ok (.dup, 1) := by decide +kernel
theorem dX4_push_24 : decode cX4_push 24 = .ok (.getfield 15, 3) := by decide +kernel
theorem dX4_push_27 : decode cX4_push 27 = .ok (.iconst 1, 1) := by decide +kernel
theorem dX4_push_28 : decode cX4_push 28 = .ok (.iadd, 1) := by decide +kernel
theorem dX4_push_29 : decode cX4_push 29 = .ok (.putfield 15, 3) := by decide +kernel
theorem dX4_push_32 : decode cX4_push 32 = .ok (.return_, 1) := by decide +kernel
theorem dX4_byteAt_0 : decode cX4_byteAt 0 = .ok (.iload_n 1, 1) := by decide +kernel
theorem dX4_byteAt_1 : decode cX4_byteAt 1 = .ok (.ifCond .lt 21, 3) := by decide +kernel
theorem dX4_byteAt_4 : decode cX4_byteAt 4 = .ok (.iload_n 1, 1) := by decide +kernel
theorem dX4_byteAt_5 : decode cX4_byteAt 5 = .ok (.aload_n 0, 1) := by decide +kernel
theorem dX4_byteAt_6 : decode cX4_byteAt 6 = .ok (.getfield 9, 3) := by decide +kernel
theorem dX4_byteAt_9 : decode cX4_byteAt 9 = .ok (.arraylength, 1) := by decide +kernel
theorem dX4_byteAt_10 : decode cX4_byteAt 10 = .ok (.if_icmp .ge 12, 3) := by decide +kernel
theorem dX4_byteAt_13 : decode cX4_byteAt 13 = .ok (.aload_n 0, 1) := by decide +kernel
theorem dX4_byteAt_14 : decode cX4_byteAt 14 = .ok (.getfield 9, 3) := by decide +kernel
theorem dX4_byteAt_17 : decode cX4_byteAt 17 = .ok (.iload_n 1, 1) := by decide +kernel
theorem dX4_byteAt_18 : decode cX4_byteAt 18 = .ok (.iaload, 1) := by decide +kernel
theorem dX4_byteAt_19 : decode cX4_byteAt 19 = .ok (.goto 4, 3) := by decide +kernel
theorem dX4_byteAt_22 : decode cX4_byteAt 22 = .ok (.iconst 0, 1) := by decide +kernel
theorem dX4_byteAt_23 : decode cX4_byteAt 23 = .ok (.ireturn, 1) := by decide +kernel
set_option maxRecDepth 20000 in
theorem ggX4_copyFromBefore_X4_byteAt : GoodIn wsX4_copyFromBefore wsX4_byteAt := goodIn_r _ [6, 7, 12, 13] (by decide +kernel) (by decide +kernel)
set_option maxRecDepth 20000 in
theorem gX4_copyFromBefore_X4_byteAt : GoodIn wsX4_copyFromBefore (wsV RX4 19 RX4 yX4_byteAt wsX4_byteAt) := goodIn_app (goodIn_of _ (by decide +kernel)) ggX4_copyFromBefore_X4_byteAt
set_option maxRecDepth 20000 in
theorem ggX4_copyFromBefore_X4_push : GoodIn wsX4_copyFromBefore wsX4_push := goodIn_r _ [11, 1, 7, 12, 13] (by decide +kernel) (by decide +kernel)
set_option maxRecDepth 20000 in
theorem gX4_copyFromBefore_X4_push : GoodIn wsX4_copyFromBefore (wsV RX4 23 RX4 yX4_push wsX4_push) := goodIn_app (goodIn_of _ (by decide +kernel)) ggX4_copyFromBefore_X4_push
theorem dX4_copyFromBefore_0 : decode cX4_copyFromBefore 0 = .ok (.iconst 0, 1) := by decide +kernel
theorem dX4_copyFromBefore_1 : decode cX4_copyFromBefore 1 = .ok (.istore_n 3, 1) := by decide +kernel
theorem dX4_copyFromBefore_2 : decode cX4_copyFromBefore 2 = .ok (.iload_n 3, 1) := by decide +kernel
theorem dX4_copyFromBefore_3 : decode cX4_copyFromBefore 3 = .ok (.iload_n 2, 1) := by decide +kernel
theorem dX4_copyFromBefore_4 : decode cX4_copyFromBefore 4 = .ok (.if_icmp .ge 23, 3) := by decide +kernel
theorem dX4_copyFromBefore_7 : decode cX4_copyFromBefore 7 = .ok (.aload_n 0, 1) := by decide +kernel
theorem dX4_copyFromBefore_8 : decode cX4_copyFromBefore 8 = .ok (.aload_n 0, 1) := by decide +kernel
theorem dX4_copyFromBefore_9 : decode cX4_copyFromBefore 9 = .ok (.aload_n 0, 1) := by decide +kernel
theorem dX4_copyFromBefore_10 : decode cX4_copyFromBefore 10 = .ok (.getfield 15, 3) := by decide +kernel
theorem dX4_copyFromBefore_13 : decode cX4_copyFromBefore 13 = .ok (.iload_n 1, 1) := by decide +kernel
theorem dX4_copyFromBefore_14 : decode cX4_copyFromBefore 14 = .ok (.isub, 1) := by decide +kernel
theorem dX4_copyFromBefore_15 : decode cX4_copyFromBefore 15 = .ok (.invokevirtual 19, 3) := by decide +kernel
theorem dX4_copyFromBefore_18 : decode cX4_copyFromBefore 18 = .ok (.invokevirtual 23, 3) := by decide +kernel
theorem dX4_copyFromBefore_21 : decode cX4_copyFromBefore 21 = .ok (.iinc 3 1, 3) := by decide +kernel
theorem dX4_copyFromBefore_24 : decode cX4_copyFromBefore 24 = .ok (.goto (-22), 3) := by decide +kernel
theorem dX4_copyFromBefore_27 : decode cX4_copyFromBefore 27 = .ok (.return_, 1) := by decide +kernel
set_option maxRecDepth 20000 in
theorem ggX4_sumFrom_X4_byteAt : GoodIn wsX4_sumFrom wsX4_byteAt := goodIn_r _ [6, 7, 8, 9] (by decide +kernel) (by decide +kernel)
set_option maxRecDepth 20000 in
theorem gX4_sumFrom_X4_byteAt : GoodIn wsX4_sumFrom (wsV RX4 19 RX4 yX4_byteAt wsX4_byteAt) := goodIn_app (goodIn_of _ (by decide +kernel)) ggX4_sumFrom_X4_byteAt
theorem dX4_sumFrom_0 : decode cX4_sumFrom 0 = .ok (.iconst 0, 1) := by decide +kernel
theorem dX4_sumFrom_1 : decode cX4_sumFrom 1 = .ok (.istore_n 2, 1) := by decide +kernel
theorem dX4_sumFrom_2 : decode cX4_sumFrom 2 = .ok (.iload_n 1, 1) := by decide +kernel
theorem dX4_sumFrom_3 : decode cX4_sumFrom 3 = .ok (.istore_n 3, 1) := by decide +kernel
theorem dX4_sumFrom_4 : decode cX4_sumFrom 4 = .ok (.iload_n 3, 1) := by decide +kernel
theorem dX4_sumFrom_5 : decode cX4_sumFrom 5 = .ok (.aload_n 0, 1) := by decide +kernel
theorem dX4_sumFrom_6 : decode cX4_sumFrom 6 = .ok (.getfield 15, 3) := by decide +kernel
theorem dX4_sumFrom_9 : decode cX4_sumFrom 9 = .ok (.if_icmp .ge 17, 3) := by decide +kernel
theorem dX4_sumFrom_12 : decode cX4_sumFrom 12 = .ok (.iload_n 2, 1) := by decide +kernel
theorem dX4_sumFrom_13 : decode cX4_sumFrom 13 = .ok (.aload_n 0, 1) := by decide +kernel
theorem dX4_sumFrom_14 : decode cX4_sumFrom 14 = .ok (.iload_n 3, 1) := by decide +kernel
theorem dX4_sumFrom_15 : decode cX4_sumFrom 15 = .ok (.invokevirtual 19, 3) := by decide +kernel
theorem dX4_sumFrom_18 : decode cX4_sumFrom 18 = .ok (.iadd, 1) := by decide +kernel
theorem dX4_sumFrom_19 : decode cX4_sumFrom 19 = .ok (.istore_n 2, 1) := by decide +kernel
theorem dX4_sumFrom_20 : decode cX4_sumFrom 20 = .ok (.iinc 3 1, 3) := by decide +kernel
theorem dX4_sumFrom_23 : decode cX4_sumFrom 23 = .ok (.goto (-19), 3) := by decide +kernel
theorem dX4_sumFrom_26 : decode cX4_sumFrom 26 = .ok (.iload_n 2, 1) := by decide +kernel
theorem dX4_sumFrom_27 : decode cX4_sumFrom 27 = .ok (.sipush 255, 3) := by decide +kernel
theorem dX4_sumFrom_30 : decode cX4_sumFrom 30 = .ok (.iand, 1) := by decide +kernel
theorem dX4_sumFrom_31 : decode cX4_sumFrom 31 = .ok (.ireturn, 1) := by decide +kernel
theorem dX5_init_0 : decode cX5_init 0 = .ok (.aload_n 0, 1) := by decide +kernel
theorem dX5_init_1 : decode cX5_init 1 = .ok (.invokespecial 3, 3) := by decide +kernel
theorem dX5_init_4 : decode cX5_init 4 = .ok (.aload_n 0, 1) := by decide +kernel
theorem dX5_init_5 : decode cX5_init 5 = .ok (.sipush 160, 3) := by decide +kernel
theorem dX5_init_8 : decode cX5_init 8 = .ok (.newarray .int, 2) := by decide +kernel
theorem dX5_init_10 : decode cX5_init 10 = .ok (.putfield 9, 3) := by decide +kernel
theorem dX5_init_13 : decode cX5_init 13 = .ok (.return_, 1) := by decide +kernel
theorem dX5_count_0 : decode cX5_count 0 = .ok (.aload_n 0, 1) := by decide +kernel
theorem dX5_count_1 : decode cX5_count 1 = .ok (.getfield 15, 3) := by decide +kernel
theorem dX5_count_4 : decode cX5_count 4 = .ok (.ireturn, 1) := by decide +kernel
theorem dX5_isFull_0 : decode cX5_isFull 0 = .ok (.aload_n 0, 1) := by decide +kernel
theorem dX5_isFull_1 : decode cX5_isFull 1 = .ok (.getfield 15, 3) := by decide +kernel
theorem dX5_isFull_4 : decode cX5_isFull 4 = .ok (.aload_n 0, 1) := by decide +kernel
theorem dX5_isFull_5 : decode cX5_isFull 5 = .ok (.getfield 9, 3) := by decide +kernel
theorem dX5_isFull_8 : decode cX5_isFull 8 = .ok (.arraylength, 1) := by decide +kernel
theorem dX5_isFull_9 : decode cX5_isFull 9 = .ok (.if_icmp .lt 7, 3) := by decide +kernel
theorem dX5_isFull_12 : decode cX5_isFull 12 = .ok (.iconst 1, 1) := by decide +kernel
theorem dX5_isFull_13 : decode cX5_isFull 13 = .ok (.goto 4, 3) := by decide +kernel
theorem dX5_isFull_16 : decode cX5_isFull 16 = .ok (.iconst 0, 1) := by decide +kernel
theorem dX5_isFull_17 : decode cX5_isFull 17 = .ok (.ireturn, 1) := by decide +kernel
theorem dX5_has_0 : decode cX5_has 0 = .ok (.iload_n 1, 1) := by decide +kernel
theorem dX5_has_1 : decode cX5_has 1 = .ok (.ifCond .lt 15, 3) := by decide +kernel
theorem dX5_has_4 : decode cX5_has 4 = .ok (.iload_n 1, 1) := by decide +kernel
theorem dX5_has_5 : decode cX5_has 5 = .ok (.aload_n 0, 1) := by decide +kernel
theorem dX5_has_6 : decode cX5_has 6 = .ok (.getfield 15, 3) := by decide +kernel
theorem dX5_has_9 : decode cX5_has 9 = .ok (.if_icmp .ge 7, 3) := by decide +kernel
theorem dX5_has_12 : decode cX5_has 12 = .ok (.iconst 1, 1) := by decide +kernel
theorem dX5_has_13 : decode cX5_has 13 = .ok (.goto 4, 3) := by decide +kernel
theorem dX5_has_16 : decode cX5_has 16 = .ok (.iconst 0, 1) := by decide +kernel
theorem dX5_has_17 : decode cX5_has 17 = .ok (.ireturn, 1) := by decide +kernel
set_option maxRecDepth 20000 in
theorem ggX5_byteAt_X5_has : GoodIn wsX5_byteAt wsX5_has := goodIn_r _ [6, 7, 8, 9] (by decide +kernel) (by decide +kernel)
set_option maxRecDepth 20000 in
theorem gX5_byteAt_X5_has : GoodIn wsX5_byteAt (wsV RX5 19 RX5 yX5_has wsX5_has) := goodIn_app (goodIn_of _ (by decide +kernel)) ggX5_byteAt_X5_has
theorem dX5_byteAt_0 : decode cX5_byteAt 0 = .ok (.aload_n 0, 1) := by decide +kernel
theorem dX5_byteAt_1 : decode cX5_byteAt 1 = .ok (.iload_n 1, 1) := by decide +kernel
theorem dX5_byteAt_2 : decode cX5_byteAt 2 = .ok (.invokevirtual 19, 3) := by decide +kernel
theorem dX5_byteAt_5 : decode cX5_byteAt 5 = .ok (.ifCond .eq 12, 3) := by decide +kernel
theorem dX5_byteAt_8 : decode cX5_byteAt 8 = .ok (.aload_n 0, 1) := by decide +kernel
theorem dX5_byteAt_9 : decode cX5_byteAt 9 = .ok (.getfield 9, 3) := by decide +kernel
theorem dX5_byteAt_12 : decode cX5_byteAt 12 = .ok (.iload_n 1, 1) := by decide +kernel
theorem dX5_byteAt_13 : decode cX5_byteAt 13 = .ok (.iaload, 1) := by decide +kernel
theorem dX5_byteAt_14 : decode cX5_byteAt 14 = .ok (.goto 4, 3) := by decide +kernel
theorem dX5_byteAt_17 : decode cX5_byteAt 17 = .ok (.iconst 0, 1) := by decide +kernel
theorem dX5_byteAt_18 : decode cX5_byteAt 18 = .ok (.ireturn, 1) := by decide +kernel
theorem dX5_append_0 : decode cX5_append 0 = .ok (.aload_n 0, 1) := by decide +kernel
theorem dX5_append_1 : decode cX5_append 1 = .ok (.getfield 15, 3) := by decide +kernel
theorem dX5_append_4 : decode cX5_append 4 = .ok (.aload_n 0, 1) := by decide +kernel
theorem dX5_append_5 : decode cX5_append 5 = .ok (.getfield 9, 3) := by decide +kernel
theorem dX5_append_8 : decode cX5_append 8 = .ok (.arraylength, 1) := by decide +kernel
theorem dX5_append_9 : decode cX5_append 9 = .ok (.if_icmp .ge 23, 3) := by decide +kernel
theorem dX5_append_12 : decode cX5_append 12 = .ok (.aload_n 0, 1) := by decide +kernel
theorem dX5_append_13 : decode cX5_append 13 = .ok (.getfield 9, 3) := by decide +kernel
theorem dX5_append_16 : decode cX5_append 16 = .ok (.aload_n 0, 1) := by decide +kernel
theorem dX5_append_17 : decode cX5_append 17 = .ok (.getfield 15, 3) := by decide +kernel
theorem dX5_append_20 : decode cX5_append 20 = .ok (.iload_n 1, 1) := by decide +kernel
theorem dX5_append_21 : decode cX5_append 21 = .ok (.iastore, 1) := by decide +kernel
theorem dX5_append_22 : decode cX5_append 22 = .ok (.aload_n 0, 1) := by decide +kernel
theorem dX5_append_23 : decode cX5_append 23 = .ok (.dup, 1) := by decide +kernel
theorem dX5_append_24 : decode cX5_append 24 = .ok (.getfield 15, 3) := by decide +kernel
theorem dX5_append_27 : decode cX5_append 27 = .ok (.iconst 1, 1) := by decide +kernel
theorem dX5_append_28 : decode cX5_append 28 = .ok (.iadd, 1) := by decide +kernel
theorem dX5_append_29 : decode cX5_append 29 = .ok (.putfield 15, 3) := by decide +kernel
theorem dX5_append_32 : decode cX5_append 32 = .ok (.return_, 1) := by decide +kernel
theorem dX5_keep_0 : decode cX5_keep 0 = .ok (.iload_n 1, 1) := by decide +kernel
theorem dX5_keep_1 : decode cX5_keep 1 = .ok (.ifCond .lt 16, 3) := by decide +kernel
theorem dX5_keep_4 : decode cX5_keep 4 = .ok (.iload_n 1, 1) := by decide +kernel
theorem dX5_keep_5 : decode cX5_keep 5 = .ok (.aload_n 0, 1) := by decide +kernel
theorem dX5_keep_6 : decode cX5_keep 6 = .ok (.getfield 15, 3) := by decide +kernel
theorem dX5_keep_9 : decode cX5_keep 9 = .ok (.if_icmp .ge 8, 3) := by decide +kernel
theorem dX5_keep_12 : decode cX5_keep 12 = .ok (.aload_n 0, 1) := by decide +kernel
theorem dX5_keep_13 : decode cX5_keep 13 = .ok (.iload_n 1, 1) := by decide +kernel
theorem dX5_keep_14 : decode cX5_keep 14 = .ok (.putfield 15, 3) := by decide +kernel
theorem dX5_keep_17 : decode cX5_keep 17 = .ok (.return_, 1) := by decide +kernel
set_option maxRecDepth 20000 in
theorem ggX5_change_X5_has : GoodIn wsX5_change wsX5_has := goodIn_r _ [6, 7, 8, 9] (by decide +kernel) (by decide +kernel)
set_option maxRecDepth 20000 in
theorem gX5_change_X5_has : GoodIn wsX5_change (wsV RX5 19 RX5 yX5_has wsX5_has) := goodIn_app (goodIn_of _ (by decide +kernel)) ggX5_change_X5_has
theorem dX5_change_0 : decode cX5_change 0 = .ok (.aload_n 0, 1) := by decide +kernel
theorem dX5_change_1 : decode cX5_change 1 = .ok (.iload_n 1, 1) := by decide +kernel
theorem dX5_change_2 : decode cX5_change 2 = .ok (.invokevirtual 19, 3) := by decide +kernel
theorem dX5_change_5 : decode cX5_change 5 = .ok (.ifCond .eq 10, 3) := by decide +kernel
theorem dX5_change_8 : decode cX5_change 8 = .ok (.aload_n 0, 1) := by decide +kernel
theorem dX5_change_9 : decode cX5_change 9 = .ok (.getfield 9, 3) := by decide +kernel
theorem dX5_change_12 : decode cX5_change 12 = .ok (.iload_n 1, 1) := by decide +kernel
theorem dX5_change_13 : decode cX5_change 13 = .ok (.iload_n 2, 1) := by decide +kernel
theorem dX5_change_14 : decode cX5_change 14 = .ok (.iastore, 1) := by decide +kernel
theorem dX5_change_15 : decode cX5_change 15 = .ok (.return_, 1) := by decide +kernel
set_option maxRecDepth 20000 in
theorem ggX5_leaveOut_X5_has : GoodIn wsX5_leaveOut wsX5_has := goodIn_r _ [11, 2, 12, 13] (by decide +kernel) (by decide +kernel)
set_option maxRecDepth 20000 in
theorem gX5_leaveOut_X5_has : GoodIn wsX5_leaveOut (wsV RX5 19 RX5 yX5_has wsX5_has) := goodIn_app (goodIn_of _ (by decide +kernel)) ggX5_leaveOut_X5_has
theorem dX5_leaveOut_0 : decode cX5_leaveOut 0 = .ok (.aload_n 0, 1) := by decide +kernel
theorem dX5_leaveOut_1 : decode cX5_leaveOut 1 = .ok (.iload_n 1, 1) := by decide +kernel
theorem dX5_leaveOut_2 : decode cX5_leaveOut 2 = .ok (.invokevirtual 19, 3) := by decide +kernel
theorem dX5_leaveOut_5 : decode cX5_leaveOut 5 = .ok (.ifCond .eq 36, 3) := by decide +kernel
theorem dX5_leaveOut_8 : decode cX5_leaveOut 8 = .ok (.aload_n 0, 1) := by decide +kernel
theorem dX5_leaveOut_9 : decode cX5_leaveOut 9 = .ok (.getfield 9, 3) := by decide +kernel
theorem dX5_leaveOut_12 : decode cX5_leaveOut 12 = .ok (.iload_n 1, 1) := by decide +kernel
theorem dX5_leaveOut_13 : decode cX5_leaveOut 13 = .ok (.iconst 1, 1) := by decide +kernel
theorem dX5_leaveOut_14 : decode cX5_leaveOut 14 = .ok (.iadd, 1) := by decide +kernel
theorem dX5_leaveOut_15 : decode cX5_leaveOut 15 = .ok (.aload_n 0, 1) := by decide +kernel
theorem dX5_leaveOut_16 : decode cX5_leaveOut 16 = .ok (.getfield 9, 3) := by decide +kernel
theorem dX5_leaveOut_19 : decode cX5_leaveOut 19 = .ok (.iload_n 1, 1) := by decide +kernel
theorem dX5_leaveOut_20 : decode cX5_leaveOut 20 = .ok (.aload_n 0, 1) := by decide +kernel
theorem dX5_leaveOut_21 : decode cX5_leaveOut 21 = .ok (.getfield 15, 3) := by decide +kernel
theorem dX5_leaveOut_24 : decode cX5_leaveOut 24 = .ok (.iload_n 1, 1) := by decide +kernel
theorem dX5_leaveOut_25 : decode cX5_leaveOut 25 = .ok (.isub, 1) := by decide +kernel
theorem dX5_leaveOut_26 : decode cX5_leaveOut 26 = .ok (.iconst 1, 1) := by decide +kernel
theorem dX5_leaveOut_27 : decode cX5_leaveOut 27 = .ok (.isub, 1) := by decide +kernel
theorem dX5_leaveOut_28 : decode cX5_leaveOut 28 = .ok (.invokestatic 23, 3) := by decide +kernel
theorem dX5_leaveOut_31 : decode cX5_leaveOut 31 = .ok (.aload_n 0, 1) := by decide +kernel
theorem dX5_leaveOut_32 : decode cX5_leaveOut 32 = .ok (.dup, 1) := by decide +kernel
theorem dX5_leaveOut_33 : decode cX5_leaveOut 33 = .ok (.getfield 15, 3) := by decide +kernel
theorem dX5_leaveOut_36 : decode cX5_leaveOut 36 = .ok (.iconst 1, 1) := by decide +kernel
theorem dX5_leaveOut_37 : decode cX5_leaveOut 37 = .ok (.isub, 1) := by decide +kernel
theorem dX5_leaveOut_38 : decode cX5_leaveOut 38 = .ok (.putfield 15, 3) := by decide +kernel
theorem dX5_leaveOut_41 : decode cX5_leaveOut 41 = .ok (.return_, 1) := by decide +kernel
theorem dX5_become_0 : decode cX5_become 0 = .ok (.aload_n 1, 1) := by decide +kernel
theorem dX5_become_1 : decode cX5_become 1 = .ok (.getfield 9, 3) := by decide +kernel
theorem dX5_become_4 : decode cX5_become 4 = .ok (.iconst 0, 1) := by decide +kernel
theorem dX5_become_5 : decode cX5_become 5 = .ok (.aload_n 0, 1) := by decide +kernel
theorem dX5_become_6 : decode cX5_become 6 = .ok (.getfield 9, 3) := by decide +kernel
theorem dX5_become_9 : decode cX5_become 9 = .ok (.iconst 0, 1) := by decide +kernel
theorem dX5_become_10 : decode cX5_become 10 = .ok (.aload_n 1, 1) := by decide +kernel
theorem dX5_become_11 : decode cX5_become 11 = .ok (.getfield 15, 3) := by decide +kernel
theorem dX5_become_14 : decode cX5_become 14 = .ok (.invokestatic 23, 3) := by decide +kernel
theorem dX5_become_17 : decode cX5_become 17 = .ok (.aload_n 0, 1) := by decide +kernel
theorem dX5_become_18 : decode cX5_become 18 = .ok (.aload_n 1, 1) := by decide +kernel
theorem dX5_become_19 : decode cX5_become 19 = .ok (.getfield 15, 3) := by decide +kernel
theorem dX5_become_22 : decode cX5_become 22 = .ok (.putfield 15, 3) := by decide +kernel
theorem dX5_become_25 : decode cX5_become 25 = .ok (.return_, 1) := by decide +kernel
set_option maxRecDepth 20000 in
theorem ggX6_init_X5_init : GoodIn wsX6_init wsX5_init := goodIn_r _ [28, 29, 2, 3, 30, 31, 70, 71] (by decide +kernel) (by decide +kernel)
set_option maxRecDepth 20000 in
theorem gX6_init_X5_init_n9 : GoodIn wsX6_init (wsX5_init) := ggX6_init_X5_init
set_option maxRecDepth 20000 in
theorem ggX6_init_X0_init : GoodIn wsX6_init wsX0_init := goodIn_r _ [33, 34, 2, 3, 35, 36, 37, 38, 39, 40, 41, 42, 43, 30, 44, 115, 116, 80, 81, 82, 83, 84, 85, 86, 87, 88, 89, 90, 91] (by decide +kernel) (by decide +kernel)
set_option maxRecDepth 20000 in
theorem gX6_init_X0_init_n21 : GoodIn wsX6_init (wsX0_init) := ggX6_init_X0_init
set_option maxRecDepth 20000 in
theorem ggX6_init_X1_init : GoodIn wsX6_init wsX1_init := goodIn_r _ [47, 48, 2, 3, 30, 49, 50, 51, 52, 53, 54, 55, 92, 93, 94, 95, 96, 97, 98, 99, 100, 101, 102, 103, 80, 81, 82, 83, 84, 85, 86, 87, 88, 89, 90, 91] (by decide +kernel) (by decide +kernel)
set_option maxRecDepth 20000 in
theorem gX6_init_X1_init : GoodIn wsX6_init (wsX1_init) := ggX6_init_X1_init
set_option maxRecDepth 20000 in
theorem ggX6_init_X3_init : GoodIn wsX6_init wsX3_init := goodIn_r _ [58, 59, 2, 3, 60, 61, 62, 104, 105, 106, 107, 108, 109, 80, 81, 82, 83, 84, 85, 86, 87, 88, 89, 90, 91] (by decide +kernel) (by decide +kernel)
set_option maxRecDepth 20000 in
theorem gX6_init_X3_init : GoodIn wsX6_init (wsX3_init) := ggX6_init_X3_init
set_option maxRecDepth 20000 in
theorem ggX6_init_X2_init : GoodIn wsX6_init wsX2_init := goodIn_r _ [65, 66, 2, 3, 67, 36, 37, 68, 69, 41, 42, 43, 30, 44, 115, 116, 110, 111, 112, 113, 114] (by decide +kernel) (by decide +kernel)
set_option maxRecDepth 20000 in
theorem gX6_init_X2_init : GoodIn wsX6_init (wsX2_init) := ggX6_init_X2_init
theorem dX6_init_0 : decode cX6_init 0 = .ok (.aload_n 0, 1) := by decide +kernel
theorem dX6_init_1 : decode cX6_init 1 = .ok (.invokespecial 1, 3) := by decide +kernel
theorem dX6_init_4 : decode cX6_init 4 = .ok (.aload_n 0, 1) := by decide +kernel
theorem dX6_init_5 : decode cX6_init 5 = .ok (.new 7, 3) := by decide +kernel
theorem dX6_init_8 : decode cX6_init 8 = .ok (.dup, 1) := by decide +kernel
theorem dX6_init_9 : decode cX6_init 9 = .ok (.invokespecial 9, 3) := by decide +kernel
theorem dX6_init_12 : decode cX6_init 12 = .ok (.putfield 10, 3) := by decide +kernel
theorem dX6_init_15 : decode cX6_init 15 = .ok (.aload_n 0, 1) := by decide +kernel
theorem dX6_init_16 : decode cX6_init 16 = .ok (.new 7, 3) := by decide +kernel
theorem dX6_init_19 : decode cX6_init 19 = .ok (.dup, 1) := by decide +kernel
theorem dX6_init_20 : decode cX6_init 20 = .ok (.invokespecial 9, 3) := by decide +kernel
theorem dX6_init_23 : decode cX6_init 23 = .ok (.putfield 16, 3) := by decide +kernel
theorem dX6_init_26 : decode cX6_init 26 = .ok (.aload_n 0, 1) := by decide +kernel
theorem dX6_init_27 : decode cX6_init 27 = .ok (.new 19, 3) := by decide +kernel
theorem dX6_init_30 : decode cX6_init 30 = .ok (.dup, 1) := by decide +kernel
theorem dX6_init_31 : decode cX6_init 31 = .ok (.invokespecial 21, 3) := by decide +kernel
theorem dX6_init_34 : decode cX6_init 34 = .ok (.putfield 22, 3) := by decide +kernel
theorem dX6_init_37 : decode cX6_init 37 = .ok (.aload_n 0, 1) := by decide +kernel
theorem dX6_init_38 : decode cX6_init 38 = .ok (.new 19, 3) := by decide +kernel
theorem dX6_init_41 : decode cX6_init 41 = .ok (.dup, 1) := by decide +kernel
theorem dX6_init_42 : decode cX6_init 42 = .ok (.invokespecial 21, 3) := by decide +kernel
theorem dX6_init_45 : decode cX6_init 45 = .ok (.putfield 26, 3) := by decide +kernel
theorem dX6_init_48 : decode cX6_init 48 = .ok (.aload_n 0, 1) := by decide +kernel
theorem dX6_init_49 : decode cX6_init 49 = .ok (.new 29, 3) := by decide +kernel
theorem dX6_init_52 : decode cX6_init 52 = .ok (.dup, 1) := by decide +kernel
theorem dX6_init_53 : decode cX6_init 53 = .ok (.aload_n 0, 1) := by decide +kernel
theorem dX6_init_54 : decode cX6_init 54 = .ok (.getfield 10, 3) := by decide +kernel
theorem dX6_init_57 : decode cX6_init 57 = .ok (.aload_n 0, 1) := by decide +kernel
theorem dX6_init_58 : decode cX6_init 58 = .ok (.getfield 22, 3) := by decide +kernel
theorem dX6_init_61 : decode cX6_init 61 = .ok (.invokespecial 31, 3) := by decide +kernel
theorem dX6_init_64 : decode cX6_init 64 = .ok (.putfield 34, 3) := by decide +kernel
theorem dX6_init_67 : decode cX6_init 67 = .ok (.aload_n 0, 1) := by decide +kernel
theorem dX6_init_68 : decode cX6_init 68 = .ok (.new 38, 3) := by decide +kernel
theorem dX6_init_71 : decode cX6_init 71 = .ok (.dup, 1) := by decide +kernel
theorem dX6_init_72 : decode cX6_init 72 = .ok (.aload_n 0, 1) := by decide +kernel
theorem dX6_init_73 : decode cX6_init 73 = .ok (.getfield 10, 3) := by decide +kernel
theorem dX6_init_76 : decode cX6_init 76 = .ok (.aload_n 0, 1) := by decide +kernel
theorem dX6_init_77 : decode cX6_init 77 = .ok (.getfield 22, 3) := by decide +kernel
theorem dX6_init_80 : decode cX6_init 80 = .ok (.invokespecial 40, 3) := by decide +kernel
theorem dX6_init_83 : decode cX6_init 83 = .ok (.putfield 41, 3) := by decide +kernel
theorem dX6_init_86 : decode cX6_init 86 = .ok (.aload_n 0, 1) := by decide +kernel
theorem dX6_init_87 : decode cX6_init 87 = .ok (.new 29, 3) := by decide +kernel
theorem dX6_init_90 : decode cX6_init 90 = .ok (.dup, 1) := by decide +kernel
theorem dX6_init_91 : decode cX6_init 91 = .ok (.aload_n 0, 1) := by decide +kernel
theorem dX6_init_92 : decode cX6_init 92 = .ok (.getfield 16, 3) := by decide +kernel
theorem dX6_init_95 : decode cX6_init 95 = .ok (.aload_n 0, 1) := by decide +kernel
theorem dX6_init_96 : decode cX6_init 96 = .ok (.getfield 26, 3) := by decide +kernel
theorem dX6_init_99 : decode cX6_init 99 = .ok (.invokespecial 31, 3) := by decide +kernel
theorem dX6_init_102 : decode cX6_init 102 = .ok (.putfield 45, 3) := by decide +kernel
theorem dX6_init_105 : decode cX6_init 105 = .ok (.aload_n 0, 1) := by decide +kernel
theorem dX6_init_106 : decode cX6_init 106 = .ok (.new 48, 3) := by decide +kernel
theorem dX6_init_109 : decode cX6_init 109 = .ok (.dup, 1) := by decide +kernel
theorem dX6_init_110 : decode cX6_init 110 = .ok (.aload_n 0, 1) := by decide +kernel
theorem dX6_init_111 : decode cX6_init 111 = .ok (.getfield 10, 3) := by decide +kernel
theorem dX6_init_114 : decode cX6_init 114 = .ok (.invokespecial 50, 3) := by decide +kernel
theorem dX6_init_117 : decode cX6_init 117 = .ok (.putfield 53, 3) := by decide +kernel
theorem dX6_init_120 : decode cX6_init 120 = .ok (.return_, 1) := by decide +kernel
set_option maxRecDepth 20000 in
theorem ggX6_put_X6_isByte : GoodIn wsX6_put wsX6_isByte := goodIn_r _ [5] (by decide +kernel) (by decide +kernel)
set_option maxRecDepth 20000 in
theorem gX6_put_X6_isByte : GoodIn wsX6_put (va_wsS RX6 57 yX6_isByte wsX6_isByte) := goodIn_app (goodIn_of _ (by decide +kernel)) ggX6_put_X6_isByte
set_option maxRecDepth 20000 in
theorem ggX6_put_X5_isFull : GoodIn wsX6_put wsX5_isFull := goodIn_r _ [10, 11, 12, 29, 30] (by decide +kernel) (by decide +kernel)
set_option maxRecDepth 20000 in
theorem gX6_put_X5_isFull : GoodIn wsX6_put (wsV RX6 61 RX5 yX5_isFull wsX5_isFull) := goodIn_app (goodIn_of _ (by decide +kernel)) ggX6_put_X5_isFull
set_option maxRecDepth 20000 in
theorem ggX6_put_X5_append : GoodIn wsX6_put wsX5_append := goodIn_r _ [16, 11, 12, 29, 30] (by decide +kernel) (by decide +kernel)
set_option maxRecDepth 20000 in
theorem gX6_put_X5_append : GoodIn wsX6_put (wsV RX6 65 RX5 yX5_append wsX5_append) := goodIn_app (goodIn_of _ (by decide +kernel)) ggX6_put_X5_append
set_option maxRecDepth 20000 in
theorem ggX6_put_X5_count : GoodIn wsX6_put wsX5_count := goodIn_r _ [20, 11, 29, 30] (by decide +kernel) (by decide +kernel)
set_option maxRecDepth 20000 in
theorem gX6_put_X5_count : GoodIn wsX6_put (wsV RX6 69 RX5 yX5_count wsX5_count) := goodIn_app (goodIn_of _ (by decide +kernel)) ggX6_put_X5_count
theorem dX6_put_0 : decode cX6_put 0 = .ok (.iload_n 1, 1) := by decide +kernel
theorem dX6_put_1 : decode cX6_put 1 = .ok (.invokestatic 57, 3) := by decide +kernel
theorem dX6_put_4 : decode cX6_put 4 = .ok (.ifCond .ne 6, 3) := by decide +kernel
theorem dX6_put_7 : decode cX6_put 7 = .ok (.bipush (-2), 2) := by decide +kernel
theorem dX6_put_9 : decode cX6_put 9 = .ok (.ireturn, 1) := by decide +kernel
theorem dX6_put_10 : decode cX6_put 10 = .ok (.aload_n 0, 1) := by decide +kernel
theorem dX6_put_11 : decode cX6_put 11 = .ok (.getfield 10, 3) := by decide +kernel
theorem dX6_put_14 : decode cX6_put 14 = .ok (.invokevirtual 61, 3) := by decide +kernel
theorem dX6_put_17 : decode cX6_put 17 = .ok (.ifCond .eq 6, 3) := by decide +kernel
theorem dX6_put_20 : decode cX6_put 20 = .ok (.bipush (-3), 2) := by decide +kernel
theorem dX6_put_22 : decode cX6_put 22 = .ok (.ireturn, 1) := by decide +kernel
