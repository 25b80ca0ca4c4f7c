theorem dX7_end_203 : decode cX7_end 203 = .ok (.getfield 57, 3) := by decide +kernel
theorem dX7_end_206 : decode cX7_end 206 = .ok (.ifCond .ne 26, 3) := by decide +kernel
theorem dX7_end_209 : decode cX7_end 209 = .ok (.aload_n 0, 1) := by decide +kernel
theorem dX7_end_210 : decode cX7_end 210 = .ok (.aload_n 0, 1) := by decide +kernel
theorem dX7_end_211 : decode cX7_end 211 = .ok (.getfield 31, 3) := by decide +kernel
theorem dX7_end_214 : decode cX7_end 214 = .ok (.iload_n 2, 1) := by decide +kernel
theorem dX7_end_215 : decode cX7_end 215 = .ok (.iload 5, 2) := by decide +kernel
theorem dX7_end_217 : decode cX7_end 217 = .ok (.iadd, 1) := by decide +kernel
theorem dX7_end_218 : decode cX7_end 218 = .ok (.iaload, 1) := by decide +kernel
theorem dX7_end_219 : decode cX7_end 219 = .ok (.iload 4, 2) := by decide +kernel
theorem dX7_end_221 : decode cX7_end 221 = .ok (.invokevirtual 139, 3) := by decide +kernel
theorem dX7_end_224 : decode cX7_end 224 = .ok (.istore 6, 2) := by decide +kernel
theorem dX7_end_226 : decode cX7_end 226 = .ok (.iinc 5 1, 3) := by decide +kernel
theorem dX7_end_229 : decode cX7_end 229 = .ok (.goto (-33), 3) := by decide +kernel
theorem dX7_end_232 : decode cX7_end 232 = .ok (.aload_n 0, 1) := by decide +kernel
theorem dX7_end_233 : decode cX7_end 233 = .ok (.getfield 57, 3) := by decide +kernel
theorem dX7_end_236 : decode cX7_end 236 = .ok (.ifCond .ne 13, 3) := by decide +kernel
theorem dX7_end_239 : decode cX7_end 239 = .ok (.aload_n 0, 1) := by decide +kernel
theorem dX7_end_240 : decode cX7_end 240 = .ok (.dup, 1) := by decide +kernel
theorem dX7_end_241 : decode cX7_end 241 = .ok (.getfield 82, 3) := by decide +kernel
theorem dX7_end_244 : decode cX7_end 244 = .ok (.iload_n 3, 1) := by decide +kernel
theorem dX7_end_245 : decode cX7_end 245 = .ok (.isub, 1) := by decide +kernel
theorem dX7_end_246 : decode cX7_end 246 = .ok (.putfield 82, 3) := by decide +kernel
theorem dX7_end_249 : decode cX7_end 249 = .ok (.aload_n 0, 1) := by decide +kernel
theorem dX7_end_250 : decode cX7_end 250 = .ok (.invokevirtual 143, 3) := by decide +kernel
theorem dX7_end_253 : decode cX7_end 253 = .ok (.return_, 1) := by decide +kernel
set_option maxRecDepth 20000 in
theorem ggX7_done_X7_give : GoodIn wsX7_done wsX7_give := goodIn_r _ [15, 16, 17, 4, 7, 18, 19, 20, 9, 5, 21, 22, 23, 14, 24, 25, 26, 27, 28, 29, 1, 30, 31, 32, 33, 34, 35, 36, 37, 38, 39, 40, 41, 42, 43, 44, 45, 46, 47, 48, 49, 50, 51, 52, 53, 54, 55, 56, 57, 58, 59, 60, 61, 62, 63] (by decide +kernel) (by decide +kernel)
set_option maxRecDepth 20000 in
theorem gX7_done_X7_give : GoodIn wsX7_done (wsV RX7 139 RX7 yX7_give wsX7_give) := goodIn_app (goodIn_of _ (by decide +kernel)) ggX7_done_X7_give
theorem dX7_done_0 : decode cX7_done 0 = .ok (.aload_n 0, 1) := by decide +kernel
theorem dX7_done_1 : decode cX7_done 1 = .ok (.getfield 57, 3) := by decide +kernel
theorem dX7_done_4 : decode cX7_done 4 = .ok (.ifCond .ne 160, 3) := by decide +kernel
theorem dX7_done_7 : decode cX7_done 7 = .ok (.aload_n 0, 1) := by decide +kernel
theorem dX7_done_8 : decode cX7_done 8 = .ok (.getfield 94, 3) := by decide +kernel
theorem dX7_done_11 : decode cX7_done 11 = .ok (.aload_n 0, 1) := by decide +kernel
theorem dX7_done_12 : decode cX7_done 12 = .ok (.getfield 28, 3) := by decide +kernel
theorem dX7_done_15 : decode cX7_done 15 = .ok (.aload_n 0, 1) := by decide +kernel
theorem dX7_done_16 : decode cX7_done 16 = .ok (.getfield 66, 3) := by decide +kernel
theorem dX7_done_19 : decode cX7_done 19 = .ok (.iaload, 1) := by decide +kernel
theorem dX7_done_20 : decode cX7_done 20 = .ok (.if_icmp .le 144, 3) := by decide +kernel
theorem dX7_done_23 : decode cX7_done 23 = .ok (.aload_n 0, 1) := by decide +kernel
theorem dX7_done_24 : decode cX7_done 24 = .ok (.dup, 1) := by decide +kernel
theorem dX7_done_25 : decode cX7_done 25 = .ok (.getfield 94, 3) := by decide +kernel
theorem dX7_done_28 : decode cX7_done 28 = .ok (.iconst 1, 1) := by decide +kernel
theorem dX7_done_29 : decode cX7_done 29 = .ok (.isub, 1) := by decide +kernel
theorem dX7_done_30 : decode cX7_done 30 = .ok (.putfield 94, 3) := by decide +kernel
theorem dX7_done_33 : decode cX7_done 33 = .ok (.aload_n 0, 1) := by decide +kernel
theorem dX7_done_34 : decode cX7_done 34 = .ok (.getfield 13, 3) := by decide +kernel
theorem dX7_done_37 : decode cX7_done 37 = .ok (.aload_n 0, 1) := by decide +kernel
theorem dX7_done_38 : decode cX7_done 38 = .ok (.getfield 66, 3) := by decide +kernel
theorem dX7_done_41 : decode cX7_done 41 = .ok (.iaload, 1) := by decide +kernel
theorem dX7_done_42 : decode cX7_done 42 = .ok (.aload_n 0, 1) := by decide +kernel
theorem dX7_done_43 : decode cX7_done 43 = .ok (.getfield 40, 3) := by decide +kernel
theorem dX7_done_46 : decode cX7_done 46 = .ok (.aload_n 0, 1) := by decide +kernel
theorem dX7_done_47 : decode cX7_done 47 = .ok (.getfield 94, 3) := by decide +kernel
theorem dX7_done_50 : decode cX7_done 50 = .ok (.iaload, 1) := by decide +kernel
theorem dX7_done_51 : decode cX7_done 51 = .ok (.iadd, 1) := by decide +kernel
theorem dX7_done_52 : decode cX7_done 52 = .ok (.istore_n 1, 1) := by decide +kernel
theorem dX7_done_53 : decode cX7_done 53 = .ok (.aload_n 0, 1) := by decide +kernel
theorem dX7_done_54 : decode cX7_done 54 = .ok (.getfield 16, 3) := by decide +kernel
theorem dX7_done_57 : decode cX7_done 57 = .ok (.aload_n 0, 1) := by decide +kernel
theorem dX7_done_58 : decode cX7_done 58 = .ok (.getfield 66, 3) := by decide +kernel
theorem dX7_done_61 : decode cX7_done 61 = .ok (.iaload, 1) := by decide +kernel
theorem dX7_done_62 : decode cX7_done 62 = .ok (.aload_n 0, 1) := by decide +kernel
theorem dX7_done_63 : decode cX7_done 63 = .ok (.getfield 40, 3) := by decide +kernel
theorem dX7_done_66 : decode cX7_done 66 = .ok (.aload_n 0, 1) := by decide +kernel
theorem dX7_done_67 : decode cX7_done 67 = .ok (.getfield 94, 3) := by decide +kernel
theorem dX7_done_70 : decode cX7_done 70 = .ok (.iaload, 1) := by decide +kernel
theorem dX7_done_71 : decode cX7_done 71 = .ok (.isub, 1) := by decide +kernel
theorem dX7_done_72 : decode cX7_done 72 = .ok (.istore_n 2, 1) := by decide +kernel
theorem dX7_done_73 : decode cX7_done 73 = .ok (.iload_n 2, 1) := by decide +kernel
theorem dX7_done_74 : decode cX7_done 74 = .ok (.ifCond .ne 7, 3) := by decide +kernel
theorem dX7_done_77 : decode cX7_done 77 = .ok (.iconst 0, 1) := by decide +kernel
theorem dX7_done_78 : decode cX7_done 78 = .ok (.goto 14, 3) := by decide +kernel
theorem dX7_done_81 : decode cX7_done 81 = .ok (.aload_n 0, 1) := by decide +kernel
theorem dX7_done_82 : decode cX7_done 82 = .ok (.getfield 34, 3) := by decide +kernel
theorem dX7_done_85 : decode cX7_done 85 = .ok (.aload_n 0, 1) := by decide +kernel
theorem dX7_done_86 : decode cX7_done 86 = .ok (.getfield 94, 3) := by decide +kernel
theorem dX7_done_89 : decode cX7_done 89 = .ok (.iaload, 1) := by decide +kernel
theorem dX7_done_90 : decode cX7_done 90 = .ok (.iconst 1, 1) := by decide +kernel
theorem dX7_done_91 : decode cX7_done 91 = .ok (.isub, 1) := by decide +kernel
theorem dX7_done_92 : decode cX7_done 92 = .ok (.istore_n 3, 1) := by decide +kernel
theorem dX7_done_93 : decode cX7_done 93 = .ok (.iconst 0, 1) := by decide +kernel
theorem dX7_done_94 : decode cX7_done 94 = .ok (.istore 4, 2) := by decide +kernel
theorem dX7_done_96 : decode cX7_done 96 = .ok (.iload 4, 2) := by decide +kernel
theorem dX7_done_98 : decode cX7_done 98 = .ok (.iload_n 3, 1) := by decide +kernel
theorem dX7_done_99 : decode cX7_done 99 = .ok (.if_icmp .ge 62, 3) := by decide +kernel
theorem dX7_done_102 : decode cX7_done 102 = .ok (.aload_n 0, 1) := by decide +kernel
theorem dX7_done_103 : decode cX7_done 103 = .ok (.getfield 57, 3) := by decide +kernel
theorem dX7_done_106 : decode cX7_done 106 = .ok (.ifCond .ne 55, 3) := by decide +kernel
theorem dX7_done_109 : decode cX7_done 109 = .ok (.iconst 0, 1) := by decide +kernel
theorem dX7_done_110 : decode cX7_done 110 = .ok (.istore 5, 2) := by decide +kernel
theorem dX7_done_112 : decode cX7_done 112 = .ok (.iload 5, 2) := by decide +kernel
theorem dX7_done_114 : decode cX7_done 114 = .ok (.iload_n 2, 1) := by decide +kernel
theorem dX7_done_115 : decode cX7_done 115 = .ok (.if_icmp .ge 40, 3) := by decide +kernel
theorem dX7_done_118 : decode cX7_done 118 = .ok (.aload_n 0, 1) := by decide +kernel
theorem dX7_done_119 : decode cX7_done 119 = .ok (.getfield 57, 3) := by decide +kernel
theorem dX7_done_122 : decode cX7_done 122 = .ok (.ifCond .ne 33, 3) := by decide +kernel
theorem dX7_done_125 : decode cX7_done 125 = .ok (.aload_n 0, 1) := by decide +kernel
theorem dX7_done_126 : decode cX7_done 126 = .ok (.aload_n 0, 1) := by decide +kernel
theorem dX7_done_127 : decode cX7_done 127 = .ok (.getfield 31, 3) := by decide +kernel
theorem dX7_done_130 : decode cX7_done 130 = .ok (.iload_n 1, 1) := by decide +kernel
theorem dX7_done_131 : decode cX7_done 131 = .ok (.iload 5, 2) := by decide +kernel
theorem dX7_done_133 : decode cX7_done 133 = .ok (.iadd, 1) := by decide +kernel
theorem dX7_done_134 : decode cX7_done 134 = .ok (.iaload, 1) := by decide +kernel
theorem dX7_done_135 : decode cX7_done 135 = .ok (.aload_n 0, 1) := by decide +kernel
theorem dX7_done_136 : decode cX7_done 136 = .ok (.getfield 37, 3) := by decide +kernel
theorem dX7_done_139 : decode cX7_done 139 = .ok (.aload_n 0, 1) := by decide +kernel
theorem dX7_done_140 : decode cX7_done 140 = .ok (.getfield 94, 3) := by decide +kernel
theorem dX7_done_143 : decode cX7_done 143 = .ok (.iaload, 1) := by decide +kernel
theorem dX7_done_144 : decode cX7_done 144 = .ok (.invokevirtual 139, 3) := by decide +kernel
theorem dX7_done_147 : decode cX7_done 147 = .ok (.istore 6, 2) := by decide +kernel
theorem dX7_done_149 : decode cX7_done 149 = .ok (.iinc 5 1, 3) := by decide +kernel
theorem dX7_done_152 : decode cX7_done 152 = .ok (.goto (-40), 3) := by decide +kernel
theorem dX7_done_155 : decode cX7_done 155 = .ok (.iinc 4 1, 3) := by decide +kernel
theorem dX7_done_158 : decode cX7_done 158 = .ok (.goto (-62), 3) := by decide +kernel
theorem dX7_done_161 : decode cX7_done 161 = .ok (.goto (-161), 3) := by decide +kernel
theorem dX7_done_164 : decode cX7_done 164 = .ok (.return_, 1) := by decide +kernel
set_option maxRecDepth 20000 in
theorem ggX7_isBound_X7_in : GoodIn wsX7_isBound wsX7_in := goodIn_r _ [4] (by decide +kernel) (by decide +kernel)
set_option maxRecDepth 20000 in
theorem gX7_isBound_X7_in : GoodIn wsX7_isBound (va_wsS RX7 49 yX7_in wsX7_in) := goodIn_app (goodIn_of _ (by decide +kernel)) ggX7_isBound_X7_in
theorem dX7_isBound_0 : decode cX7_isBound 0 = .ok (.iload_n 0, 1) := by decide +kernel
theorem dX7_isBound_1 : decode cX7_isBound 1 = .ok (.iconst 0, 1) := by decide +kernel
theorem dX7_isBound_2 : decode cX7_isBound 2 = .ok (.sipush 400, 3) := by decide +kernel
theorem dX7_isBound_5 : decode cX7_isBound 5 = .ok (.invokestatic 49, 3) := by decide +kernel
theorem dX7_isBound_8 : decode cX7_isBound 8 = .ok (.ifCond .eq 29, 3) := by decide +kernel
theorem dX7_isBound_11 : decode cX7_isBound 11 = .ok (.iload_n 1, 1) := by decide +kernel
theorem dX7_isBound_12 : decode cX7_isBound 12 = .ok (.iconst 0, 1) := by decide +kernel
theorem dX7_isBound_13 : decode cX7_isBound 13 = .ok (.sipush 800, 3) := by decide +kernel
theorem dX7_isBound_16 : decode cX7_isBound 16 = .ok (.invokestatic 49, 3) := by decide +kernel
theorem dX7_isBound_19 : decode cX7_isBound 19 = .ok (.ifCond .eq 18, 3) := by decide +kernel
theorem dX7_isBound_22 : decode cX7_isBound 22 = .ok (.iload_n 2, 1) := by decide +kernel
theorem dX7_isBound_23 : decode cX7_isBound 23 = .ok (.iconst 0, 1) := by decide +kernel
theorem dX7_isBound_24 : decode cX7_isBound 24 = .ok (.sipush 1500, 3) := by decide +kernel
theorem dX7_isBound_27 : decode cX7_isBound 27 = .ok (.invokestatic 49, 3) := by decide +kernel
theorem dX7_isBound_30 : decode cX7_isBound 30 = .ok (.ifCond .eq 7, 3) := by decide +kernel
theorem dX7_isBound_33 : decode cX7_isBound 33 = .ok (.iconst 1, 1) := by decide +kernel
theorem dX7_isBound_34 : decode cX7_isBound 34 = .ok (.goto 4, 3) := by decide +kernel
theorem dX7_isBound_37 : decode cX7_isBound 37 = .ok (.iconst 0, 1) := by decide +kernel
theorem dX7_isBound_38 : decode cX7_isBound 38 = .ok (.ireturn, 1) := by decide +kernel
set_option maxRecDepth 20000 in
theorem ggX7_open_X7_isBound : GoodIn wsX7_open wsX7_isBound := goodIn_r _ [14, 15, 16, 13, 17] (by decide +kernel) (by decide +kernel)
set_option maxRecDepth 20000 in
theorem gX7_open_X7_isBound : GoodIn wsX7_open (va_wsS RX7 146 yX7_isBound wsX7_isBound) := goodIn_app (goodIn_of _ (by decide +kernel)) ggX7_open_X7_isBound
set_option maxRecDepth 20000 in
theorem ggX7_open_X7_run : GoodIn wsX7_open wsX7_run := goodIn_r _ [21, 22, 23, 24, 25, 26, 27, 28, 2, 3, 4, 29, 5, 7, 8, 30, 31, 32, 33, 34, 35, 36, 13, 37, 38, 6, 39, 40, 41, 42, 43, 44, 45, 46, 47, 48, 49, 50, 51, 52, 53, 54, 55, 56, 57, 58, 59, 60, 61, 62, 63, 64, 65, 66, 10, 67, 68, 69, 70, 71, 72, 73, 74, 75, 76, 77, 78, 79, 80, 81, 82, 83, 84, 85, 86, 87, 88, 89, 90, 91, 92, 93, 94, 95, 96, 97, 98, 99, 100, 101, 102, 103, 104, 105, 106, 107, 108, 109, 110, 111, 112, 113, 114, 115, 116, 117, 118, 119] (by decide +kernel) (by decide +kernel)
set_option maxRecDepth 20000 in
theorem gX7_open_X7_run : GoodIn wsX7_open (wsV RX7 149 RX7 yX7_run wsX7_run) := goodIn_app (goodIn_of _ (by decide +kernel)) ggX7_open_X7_run
theorem dX7_open_0 : decode cX7_open 0 = .ok (.iload_n 1, 1) := by decide +kernel
theorem dX7_open_1 : decode cX7_open 1 = .ok (.iload_n 2, 1) := by decide +kernel
theorem dX7_open_2 : decode cX7_open 2 = .ok (.iload_n 3, 1) := by decide +kernel
theorem dX7_open_3 : decode cX7_open 3 = .ok (.invokestatic 146, 3) := by decide +kernel
theorem dX7_open_6 : decode cX7_open 6 = .ok (.ifCond .ne 6, 3) := by decide +kernel
theorem dX7_open_9 : decode cX7_open 9 = .ok (.bipush (-2), 2) := by decide +kernel
theorem dX7_open_11 : decode cX7_open 11 = .ok (.ireturn, 1) := by decide +kernel
theorem dX7_open_12 : decode cX7_open 12 = .ok (.aload_n 0, 1) := by decide +kernel
theorem dX7_open_13 : decode cX7_open 13 = .ok (.iload_n 1, 1) := by decide +kernel
theorem dX7_open_14 : decode cX7_open 14 = .ok (.iload_n 2, 1) := by decide +kernel
theorem dX7_open_15 : decode cX7_open 15 = .ok (.iload_n 3, 1) := by decide +kernel
theorem dX7_open_16 : decode cX7_open 16 = .ok (.invokevirtual 149, 3) := by decide +kernel
theorem dX7_open_19 : decode cX7_open 19 = .ok (.aload_n 0, 1) := by decide +kernel
theorem dX7_open_20 : decode cX7_open 20 = .ok (.getfield 43, 3) := by decide +kernel
theorem dX7_open_23 : decode cX7_open 23 = .ok (.iconst 0, 1) := by decide +kernel
theorem dX7_open_24 : decode cX7_open 24 = .ok (.aload_n 0, 1) := by decide +kernel
theorem dX7_open_25 : decode cX7_open 25 = .ok (.getfield 57, 3) := by decide +kernel
theorem dX7_open_28 : decode cX7_open 28 = .ok (.ifCond .ne 7, 3) := by decide +kernel
theorem dX7_open_31 : decode cX7_open 31 = .ok (.iconst (-1), 1) := by decide +kernel
theorem dX7_open_32 : decode cX7_open 32 = .ok (.goto 7, 3) := by decide +kernel
theorem dX7_open_35 : decode cX7_open 35 = .ok (.aload_n 0, 1) := by decide +kernel
theorem dX7_open_36 : decode cX7_open 36 = .ok (.getfield 57, 3) := by decide +kernel
theorem dX7_open_39 : decode cX7_open 39 = .ok (.iastore, 1) := by decide +kernel
theorem dX7_open_40 : decode cX7_open 40 = .ok (.aload_n 0, 1) := by decide +kernel
theorem dX7_open_41 : decode cX7_open 41 = .ok (.getfield 43, 3) := by decide +kernel
theorem dX7_open_44 : decode cX7_open 44 = .ok (.iconst 1, 1) := by decide +kernel
theorem dX7_open_45 : decode cX7_open 45 = .ok (.aload_n 0, 1) := by decide +kernel
theorem dX7_open_46 : decode cX7_open 46 = .ok (.getfield 60, 3) := by decide +kernel
theorem dX7_open_49 : decode cX7_open 49 = .ok (.iastore, 1) := by decide +kernel
theorem dX7_open_50 : decode cX7_open 50 = .ok (.aload_n 0, 1) := by decide +kernel
theorem dX7_open_51 : decode cX7_open 51 = .ok (.getfield 43, 3) := by decide +kernel
theorem dX7_open_54 : decode cX7_open 54 = .ok (.iconst 2, 1) := by decide +kernel
theorem dX7_open_55 : decode cX7_open 55 = .ok (.aload_n 0, 1) := by decide +kernel
theorem dX7_open_56 : decode cX7_open 56 = .ok (.getfield 73, 3) := by decide +kernel
theorem dX7_open_59 : decode cX7_open 59 = .ok (.iastore, 1) := by decide +kernel
theorem dX7_open_60 : decode cX7_open 60 = .ok (.aload_n 0, 1) := by decide +kernel
theorem dX7_open_61 : decode cX7_open 61 = .ok (.getfield 43, 3) := by decide +kernel
theorem dX7_open_64 : decode cX7_open 64 = .ok (.iconst 3, 1) := by decide +kernel
theorem dX7_open_65 : decode cX7_open 65 = .ok (.aload_n 0, 1) := by decide +kernel
theorem dX7_open_66 : decode cX7_open 66 = .ok (.getfield 91, 3) := by decide +kernel
theorem dX7_open_69 : decode cX7_open 69 = .ok (.iastore, 1) := by decide +kernel
theorem dX7_open_70 : decode cX7_open 70 = .ok (.aload_n 0, 1) := by decide +kernel
theorem dX7_open_71 : decode cX7_open 71 = .ok (.getfield 43, 3) := by decide +kernel
theorem dX7_open_74 : decode cX7_open 74 = .ok (.iconst 4, 1) := by decide +kernel
theorem dX7_open_75 : decode cX7_open 75 = .ok (.aload_n 0, 1) := by decide +kernel
theorem dX7_open_76 : decode cX7_open 76 = .ok (.getfield 16, 3) := by decide +kernel
theorem dX7_open_79 : decode cX7_open 79 = .ok (.iconst 0, 1) := by decide +kernel
theorem dX7_open_80 : decode cX7_open 80 = .ok (.iaload, 1) := by decide +kernel
theorem dX7_open_81 : decode cX7_open 81 = .ok (.iastore, 1) := by decide +kernel
theorem dX7_open_82 : decode cX7_open 82 = .ok (.aload_n 0, 1) := by decide +kernel
theorem dX7_open_83 : decode cX7_open 83 = .ok (.getfield 43, 3) := by decide +kernel
theorem dX7_open_86 : decode cX7_open 86 = .ok (.iconst 5, 1) := by decide +kernel
theorem dX7_open_87 : decode cX7_open 87 = .ok (.aload_n 0, 1) := by decide +kernel
theorem dX7_open_88 : decode cX7_open 88 = .ok (.getfield 97, 3) := by decide +kernel
theorem dX7_open_91 : decode cX7_open 91 = .ok (.iastore, 1) := by decide +kernel
theorem dX7_open_92 : decode cX7_open 92 = .ok (.aload_n 0, 1) := by decide +kernel
theorem dX7_open_93 : decode cX7_open 93 = .ok (.getfield 43, 3) := by decide +kernel
theorem dX7_open_96 : decode cX7_open 96 = .ok (.bipush 6, 2) := by decide +kernel
theorem dX7_open_98 : decode cX7_open 98 = .ok (.aload_n 0, 1) := by decide +kernel
theorem dX7_open_99 : decode cX7_open 99 = .ok (.getfield 104, 3) := by decide +kernel
theorem dX7_open_102 : decode cX7_open 102 = .ok (.iastore, 1) := by decide +kernel
theorem dX7_open_103 : decode cX7_open 103 = .ok (.iconst 0, 1) := by decide +kernel
theorem dX7_open_104 : decode cX7_open 104 = .ok (.istore 4, 2) := by decide +kernel
theorem dX7_open_106 : decode cX7_open 106 = .ok (.iload 4, 2) := by decide +kernel
theorem dX7_open_108 : decode cX7_open 108 = .ok (.aload_n 0, 1) := by decide +kernel
theorem dX7_open_109 : decode cX7_open 109 = .ok (.getfield 16, 3) := by decide +kernel
theorem dX7_open_112 : decode cX7_open 112 = .ok (.iconst 0, 1) := by decide +kernel
theorem dX7_open_113 : decode cX7_open 113 = .ok (.iaload, 1) := by decide +kernel
theorem dX7_open_114 : decode cX7_open 114 = .ok (.if_icmp .ge 23, 3) := by decide +kernel
theorem dX7_open_117 : decode cX7_open 117 = .ok (.aload_n 0, 1) := by decide +kernel
theorem dX7_open_118 : decode cX7_open 118 = .ok (.getfield 46, 3) := by decide +kernel
theorem dX7_open_121 : decode cX7_open 121 = .ok (.iload 4, 2) := by decide +kernel
theorem dX7_open_123 : decode cX7_open 123 = .ok (.aload_n 0, 1) := by decide +kernel
theorem dX7_open_124 : decode cX7_open 124 = .ok (.getfield 31, 3) := by decide +kernel
theorem dX7_open_127 : decode cX7_open 127 = .ok (.iload 4, 2) := by decide +kernel
theorem dX7_open_129 : decode cX7_open 129 = .ok (.iaload, 1) := by decide +kernel
theorem dX7_open_130 : decode cX7_open 130 = .ok (.iastore, 1) := by decide +kernel
theorem dX7_open_131 : decode cX7_open 131 = .ok (.iinc 4 1, 3) := by decide +kernel
theorem dX7_open_134 : decode cX7_open 134 = .ok (.goto (-28), 3) := by decide +kernel
theorem dX7_open_137 : decode cX7_open 137 = .ok (.aload_n 0, 1) := by decide +kernel
theorem dX7_open_138 : decode cX7_open 138 = .ok (.getfield 57, 3) := by decide +kernel
theorem dX7_open_141 : decode cX7_open 141 = .ok (.ifCond .ne 12, 3) := by decide +kernel
theorem dX7_open_144 : decode cX7_open 144 = .ok (.aload_n 0, 1) := by decide +kernel
theorem dX7_open_145 : decode cX7_open 145 = .ok (.getfield 16, 3) := by decide +kernel
theorem dX7_open_148 : decode cX7_open 148 = .ok (.iconst 0, 1) := by decide +kernel
theorem dX7_open_149 : decode cX7_open 149 = .ok (.iaload, 1) := by decide +kernel
theorem dX7_open_150 : decode cX7_open 150 = .ok (.goto 10, 3) := by decide +kernel
theorem dX7_open_153 : decode cX7_open 153 = .ok (.bipush (-10), 2) := by decide +kernel
theorem dX7_open_155 : decode cX7_open 155 = .ok (.aload_n 0, 1) := by decide +kernel
theorem dX7_open_156 : decode cX7_open 156 = .ok (.getfield 57, 3) := by decide +kernel
theorem dX7_open_159 : decode cX7_open 159 = .ok (.isub, 1) := by decide +kernel
theorem dX7_open_160 : decode cX7_open 160 = .ok (.ireturn, 1) := by decide +kernel
set_option maxRecDepth 20000 in
theorem ggX7_plain_X7_open : GoodIn wsX7_plain wsX7_open := goodIn_r _ [5, 6, 7, 8, 9, 10, 11, 12, 13, 14, 15, 16, 17, 4, 18, 19, 20, 21, 22, 23, 24, 25, 26, 27, 28, 29, 30, 31, 32, 33, 34, 35, 36, 37, 38, 39, 40, 41, 42, 43, 44, 45, 46, 47, 48, 49, 50, 51, 52, 53, 54, 55, 56, 57, 58, 59, 60, 61, 62, 63, 64, 65, 66, 67, 68, 69, 70, 71, 72, 73, 74, 75, 76, 77, 78, 79, 80, 81, 82, 83, 84, 85, 86, 87, 88, 89, 90, 91, 92, 93, 94, 95, 96, 97, 98, 99, 100, 101, 102, 103, 104, 105, 106, 107, 108, 109, 110, 111, 112, 113, 114, 115, 116, 117, 118, 119, 120, 121, 122, 123] (by decide +kernel) (by decide +kernel)
set_option maxRecDepth 20000 in
theorem gX7_plain_X7_open : GoodIn wsX7_plain (wsV RX7 152 RX7 yX7_open wsX7_open) := goodIn_app (goodIn_of _ (by decide +kernel)) ggX7_plain_X7_open
theorem dX7_plain_0 : decode cX7_plain 0 = .ok (.aload_n 0, 1) := by decide +kernel
theorem dX7_plain_1 : decode cX7_plain 1 = .ok (.iload_n 1, 1) := by decide +kernel
theorem dX7_plain_2 : decode cX7_plain 2 = .ok (.iload_n 2, 1) := by decide +kernel
theorem dX7_plain_3 : decode cX7_plain 3 = .ok (.iload_n 3, 1) := by decide +kernel
theorem dX7_plain_4 : decode cX7_plain 4 = .ok (.invokevirtual 152, 3) := by decide +kernel
theorem dX7_plain_7 : decode cX7_plain 7 = .ok (.ireturn, 1) := by decide +kernel
set_option maxRecDepth 20000 in
theorem ggX7_told_X7_in : GoodIn wsX7_told wsX7_in := goodIn_r _ [5] (by decide +kernel) (by decide +kernel)
set_option maxRecDepth 20000 in
theorem gX7_told_X7_in : GoodIn wsX7_told (va_wsS RX7 49 yX7_in wsX7_in) := goodIn_app (goodIn_of _ (by decide +kernel)) ggX7_told_X7_in
theorem dX7_told_0 : decode cX7_told 0 = .ok (.iload_n 1, 1) := by decide +kernel
theorem dX7_told_1 : decode cX7_told 1 = .ok (.iconst 0, 1) := by decide +kernel
theorem dX7_told_2 : decode cX7_told 2 = .ok (.bipush 6, 2) := by decide +kernel
theorem dX7_told_4 : decode cX7_told 4 = .ok (.invokestatic 49, 3) := by decide +kernel
theorem dX7_told_7 : decode cX7_told 7 = .ok (.ifCond .eq 12, 3) := by decide +kernel
theorem dX7_told_10 : decode cX7_told 10 = .ok (.aload_n 0, 1) := by decide +kernel
theorem dX7_told_11 : decode cX7_told 11 = .ok (.getfield 43, 3) := by decide +kernel
theorem dX7_told_14 : decode cX7_told 14 = .ok (.iload_n 1, 1) := by decide +kernel
theorem dX7_told_15 : decode cX7_told 15 = .ok (.iaload, 1) := by decide +kernel
theorem dX7_told_16 : decode cX7_told 16 = .ok (.goto 5, 3) := by decide +kernel
theorem dX7_told_19 : decode cX7_told 19 = .ok (.bipush (-2), 2) := by decide +kernel
theorem dX7_told_21 : decode cX7_told 21 = .ok (.ireturn, 1) := by decide +kernel
set_option maxRecDepth 20000 in
theorem ggX7_given_X7_in : GoodIn wsX7_given wsX7_in := goodIn_r _ [6] (by decide +kernel) (by decide +kernel)
set_option maxRecDepth 20000 in
theorem gX7_given_X7_in : GoodIn wsX7_given (va_wsS RX7 49 yX7_in wsX7_in) := goodIn_app (goodIn_of _ (by decide +kernel)) ggX7_given_X7_in
theorem dX7_given_0 : decode cX7_given 0 = .ok (.iload_n 1, 1) := by decide +kernel
theorem dX7_given_1 : decode cX7_given 1 = .ok (.iconst 0, 1) := by decide +kernel
theorem dX7_given_2 : decode cX7_given 2 = .ok (.aload_n 0, 1) := by decide +kernel
theorem dX7_given_3 : decode cX7_given 3 = .ok (.getfield 43, 3) := by decide +kernel
theorem dX7_given_6 : decode cX7_given 6 = .ok (.iconst 4, 1) := by decide +kernel
theorem dX7_given_7 : decode cX7_given 7 = .ok (.iaload, 1) := by decide +kernel
theorem dX7_given_8 : decode cX7_given 8 = .ok (.iconst 1, 1) := by decide +kernel
theorem dX7_given_9 : decode cX7_given 9 = .ok (.isub, 1) := by decide +kernel
theorem dX7_given_10 : decode cX7_given 10 = .ok (.invokestatic 49, 3) := by decide +kernel
theorem dX7_given_13 : decode cX7_given 13 = .ok (.ifCond .eq 12, 3) := by decide +kernel
theorem dX7_given_16 : decode cX7_given 16 = .ok (.aload_n 0, 1) := by decide +kernel
theorem dX7_given_17 : decode cX7_given 17 = .ok (.getfield 46, 3) := by decide +kernel
theorem dX7_given_20 : decode cX7_given 20 = .ok (.iload_n 1, 1) := by decide +kernel
theorem dX7_given_21 : decode cX7_given 21 = .ok (.iaload, 1) := by decide +kernel
theorem dX7_given_22 : decode cX7_given 22 = .ok (.goto 4, 3) := by decide +kernel
theorem dX7_given_25 : decode cX7_given 25 = .ok (.iconst (-1), 1) := by decide +kernel
theorem dX7_given_26 : decode cX7_given 26 = .ok (.ireturn, 1) := by decide +kernel
theorem dX7_pick_0 : decode cX7_pick 0 = .ok (.aload_n 0, 1) := by decide +kernel
theorem dX7_pick_1 : decode cX7_pick 1 = .ok (.dup, 1) := by decide +kernel
theorem dX7_pick_2 : decode cX7_pick 2 = .ok (.getfield 156, 3) := by decide +kernel
theorem dX7_pick_5 : decode cX7_pick 5 = .ok (.lconst 1, 1) := by decide +kernel
theorem dX7_pick_6 : decode cX7_pick 6 = .ok (.ladd, 1) := by decide +kernel
theorem dX7_pick_7 : decode cX7_pick 7 = .ok (.putfield 156, 3) := by decide +kernel
theorem dX7_pick_10 : decode cX7_pick 10 = .ok (.aload_n 0, 1) := by decide +kernel
theorem dX7_pick_11 : decode cX7_pick 11 = .ok (.getfield 160, 3) := by decide +kernel
theorem dX7_pick_14 : decode cX7_pick 14 = .ok (.aload_n 0, 1) := by decide +kernel
theorem dX7_pick_15 : decode cX7_pick 15 = .ok (.getfield 156, 3) := by decide +kernel
theorem dX7_pick_18 : decode cX7_pick 18 = .ok (.ldc2_w 163, 3) := by decide +kernel
theorem dX7_pick_21 : decode cX7_pick 21 = .ok (.lmul, 1) := by decide +kernel
theorem dX7_pick_22 : decode cX7_pick 22 = .ok (.ladd, 1) := by decide +kernel
theorem dX7_pick_23 : decode cX7_pick 23 = .ok (.lstore_n 2, 1) := by decide +kernel
theorem dX7_pick_24 : decode cX7_pick 24 = .ok (.lload_n 2, 1) := by decide +kernel
theorem dX7_pick_25 : decode cX7_pick 25 = .ok (.lload_n 2, 1) := by decide +kernel
theorem dX7_pick_26 : decode cX7_pick 26 = .ok (.bipush 30, 2) := by decide +kernel
theorem dX7_pick_28 : decode cX7_pick 28 = .ok (.lushr, 1) := by decide +kernel
theorem dX7_pick_29 : decode cX7_pick 29 = .ok (.lxor, 1) := by decide +kernel
theorem dX7_pick_30 : decode cX7_pick 30 = .ok (.ldc2_w 165, 3) := by decide +kernel
theorem dX7_pick_33 : decode cX7_pick 33 = .ok (.lmul, 1) := by decide +kernel
theorem dX7_pick_34 : decode cX7_pick 34 = .ok (.lstore_n 2, 1) := by decide +kernel
theorem dX7_pick_35 : decode cX7_pick 35 = .ok (.lload_n 2, 1) := by decide +kernel
theorem dX7_pick_36 : decode cX7_pick 36 = .ok (.lload_n 2, 1) := by decide +kernel
theorem dX7_pick_37 : decode cX7_pick 37 = .ok (.bipush 27, 2) := by decide +kernel
theorem dX7_pick_39 : decode cX7_pick 39 = .ok (.lushr, 1) := by decide +kernel
theorem dX7_pick_40 : decode cX7_pick 40 = .ok (.lxor, 1) := by decide +kernel
theorem dX7_pick_41 : decode cX7_pick 41 = .ok (.ldc2_w 167, 3) := by decide +kernel
theorem dX7_pick_44 : decode cX7_pick 44 = .ok (.lmul, 1) := by decide +kernel
theorem dX7_pick_45 : decode cX7_pick 45 = .ok (.lstore_n 2, 1) := by decide +kernel
theorem dX7_pick_46 : decode cX7_pick 46 = .ok (.lload_n 2, 1) := by decide +kernel
theorem dX7_pick_47 : decode cX7_pick 47 = .ok (.lload_n 2, 1) := by decide +kernel
theorem dX7_pick_48 : decode cX7_pick 48 = .ok (.bipush 31, 2) := by decide +kernel
theorem dX7_pick_50 : decode cX7_pick 50 = .ok (.lushr, 1) := by decide +kernel
theorem dX7_pick_51 : decode cX7_pick 51 = .ok (.lxor, 1) := by decide +kernel
theorem dX7_pick_52 : decode cX7_pick 52 = .ok (.lstore_n 2, 1) := by decide +kernel
theorem dX7_pick_53 : decode cX7_pick 53 = .ok (.lload_n 2, 1) := by decide +kernel
theorem dX7_pick_54 : decode cX7_pick 54 = .ok (.bipush 33, 2) := by decide +kernel
theorem dX7_pick_56 : decode cX7_pick 56 = .ok (.lushr, 1) := by decide +kernel
theorem dX7_pick_57 : decode cX7_pick 57 = .ok (.iload_n 1, 1) := by decide +kernel
theorem dX7_pick_58 : decode cX7_pick 58 = .ok (.i2l, 1) := by decide +kernel
theorem dX7_pick_59 : decode cX7_pick 59 = .ok (.lrem, 1) := by decide +kernel
theorem dX7_pick_60 : decode cX7_pick 60 = .ok (.l2i, 1) := by decide +kernel
theorem dX7_pick_61 : decode cX7_pick 61 = .ok (.ireturn, 1) := by decide +kernel
theorem dX7_lay_0 : decode cX7_lay 0 = .ok (.aload_n 0, 1) := by decide +kernel
theorem dX7_lay_1 : decode cX7_lay 1 = .ok (.getfield 7, 3) := by decide +kernel
theorem dX7_lay_4 : decode cX7_lay 4 = .ok (.aload_n 0, 1) := by decide +kernel
theorem dX7_lay_5 : decode cX7_lay 5 = .ok (.getfield 53, 3) := by decide +kernel
theorem dX7_lay_8 : decode cX7_lay 8 = .ok (.iload_n 1, 1) := by decide +kernel
theorem dX7_lay_9 : decode cX7_lay 9 = .ok (.iastore, 1) := by decide +kernel
theorem dX7_lay_10 : decode cX7_lay 10 = .ok (.aload_n 0, 1) := by decide +kernel
theorem dX7_lay_11 : decode cX7_lay 11 = .ok (.dup, 1) := by decide +kernel
theorem dX7_lay_12 : decode cX7_lay 12 = .ok (.getfield 53, 3) := by decide +kernel
theorem dX7_lay_15 : decode cX7_lay 15 = .ok (.iconst 1, 1) := by decide +kernel
theorem dX7_lay_16 : decode cX7_lay 16 = .ok (.iadd, 1) := by decide +kernel
theorem dX7_lay_17 : decode cX7_lay 17 = .ok (.putfield 53, 3) := by decide +kernel
theorem dX7_lay_20 : decode cX7_lay 20 = .ok (.return_, 1) := by decide +kernel
theorem dX7_gives_0 : decode cX7_gives 0 = .ok (.aload_n 0, 1) := by decide +kernel
theorem dX7_gives_1 : decode cX7_gives 1 = .ok (.getfield 31, 3) := by decide +kernel
theorem dX7_gives_4 : decode cX7_gives 4 = .ok (.aload_n 0, 1) := by decide +kernel
theorem dX7_gives_5 : decode cX7_gives 5 = .ok (.getfield 13, 3) := by decide +kernel
theorem dX7_gives_8 : decode cX7_gives 8 = .ok (.aload_n 0, 1) := by decide +kernel
theorem dX7_gives_9 : decode cX7_gives 9 = .ok (.getfield 66, 3) := by decide +kernel
theorem dX7_gives_12 : decode cX7_gives 12 = .ok (.iaload, 1) := by decide +kernel
theorem dX7_gives_13 : decode cX7_gives 13 = .ok (.aload_n 0, 1) := by decide +kernel
theorem dX7_gives_14 : decode cX7_gives 14 = .ok (.getfield 16, 3) := by decide +kernel
theorem dX7_gives_17 : decode cX7_gives 17 = .ok (.aload_n 0, 1) := by decide +kernel
theorem dX7_gives_18 : decode cX7_gives 18 = .ok (.getfield 66, 3) := by decide +kernel
theorem dX7_gives_21 : decode cX7_gives 21 = .ok (.iaload, 1) := by decide +kernel
theorem dX7_gives_22 : decode cX7_gives 22 = .ok (.iadd, 1) := by decide +kernel
theorem dX7_gives_23 : decode cX7_gives 23 = .ok (.iload_n 1, 1) := by decide +kernel
theorem dX7_gives_24 : decode cX7_gives 24 = .ok (.iastore, 1) := by decide +kernel
theorem dX7_gives_25 : decode cX7_gives 25 = .ok (.aload_n 0, 1) := by decide +kernel
theorem dX7_gives_26 : decode cX7_gives 26 = .ok (.getfield 16, 3) := by decide +kernel
theorem dX7_gives_29 : decode cX7_gives 29 = .ok (.aload_n 0, 1) := by decide +kernel
theorem dX7_gives_30 : decode cX7_gives 30 = .ok (.getfield 66, 3) := by decide +kernel
theorem dX7_gives_33 : decode cX7_gives 33 = .ok (.dup2, 1) := by decide +kernel
theorem dX7_gives_34 : decode cX7_gives 34 = .ok (.iaload, 1) := by decide +kernel
theorem dX7_gives_35 : decode cX7_gives 35 = .ok (.iconst 1, 1) := by decide +kernel
theorem dX7_gives_36 : decode cX7_gives 36 = .ok (.iadd, 1) := by decide +kernel
theorem dX7_gives_37 : decode cX7_gives 37 = .ok (.iastore, 1) := by decide +kernel
theorem dX7_gives_38 : decode cX7_gives 38 = .ok (.return_, 1) := by decide +kernel
set_option maxRecDepth 20000 in
theorem ggX7_drawBytes_X7_pick : GoodIn wsX7_drawBytes wsX7_pick := goodIn_r _ [5, 6, 7, 8, 9, 10, 25, 26, 27, 28, 29, 30, 31, 32, 33, 34, 35, 36, 37, 38, 39, 40, 41, 42, 43, 44, 45, 46, 47, 48, 49, 50, 51, 52, 53, 54, 55, 56, 57] (by decide +kernel) (by decide +kernel)
set_option maxRecDepth 20000 in
theorem gX7_drawBytes_X7_pick : GoodIn wsX7_drawBytes (wsV RX7 169 RX7 yX7_pick wsX7_pick) := goodIn_app (goodIn_of _ (by decide +kernel)) ggX7_drawBytes_X7_pick
set_option maxRecDepth 20000 in
theorem ggX7_drawBytes_X7_lay : GoodIn wsX7_drawBytes wsX7_lay := goodIn_r _ [14, 15, 16, 25, 26, 27, 28, 29, 30, 31, 32, 33, 34, 35, 36, 37, 38, 39, 40, 41, 42, 43, 44, 45, 46, 47, 48, 49, 50, 51, 52, 53, 54, 55, 56, 57] (by decide +kernel) (by decide +kernel)
set_option maxRecDepth 20000 in
theorem gX7_drawBytes_X7_lay : GoodIn wsX7_drawBytes (wsV RX7 173 RX7 yX7_lay wsX7_lay) := goodIn_app (goodIn_of _ (by decide +kernel)) ggX7_drawBytes_X7_lay
set_option maxRecDepth 20000 in
theorem ggX7_drawBytes_X7_gives : GoodIn wsX7_drawBytes wsX7_gives := goodIn_r _ [20, 21, 22, 23, 24, 25, 26, 27, 28, 29, 30, 31, 32, 33, 34, 35, 36, 37, 38, 39, 40, 41, 42, 43, 44, 45, 46, 47, 48, 49, 50, 51, 52, 53, 54, 55, 56, 57] (by decide +kernel) (by decide +kernel)
set_option maxRecDepth 20000 in
theorem gX7_drawBytes_X7_gives : GoodIn wsX7_drawBytes (wsV RX7 176 RX7 yX7_gives wsX7_gives) := goodIn_app (goodIn_of _ (by decide +kernel)) ggX7_drawBytes_X7_gives
theorem dX7_drawBytes_0 : decode cX7_drawBytes 0 = .ok (.iload_n 2, 1) := by decide +kernel
theorem dX7_drawBytes_1 : decode cX7_drawBytes 1 = .ok (.iconst 2, 1) := by decide +kernel
theorem dX7_drawBytes_2 : decode cX7_drawBytes 2 = .ok (.if_icmp .ne 13, 3) := by decide +kernel
theorem dX7_drawBytes_5 : decode cX7_drawBytes 5 = .ok (.aload_n 0, 1) := by decide +kernel
theorem dX7_drawBytes_6 : decode cX7_drawBytes 6 = .ok (.sipush 256, 3) := by decide +kernel
theorem dX7_drawBytes_9 : decode cX7_drawBytes 9 = .ok (.invokevirtual 169, 3) := by decide +kernel
theorem dX7_drawBytes_12 : decode cX7_drawBytes 12 = .ok (.goto 4, 3) := by decide +kernel
theorem dX7_drawBytes_15 : decode cX7_drawBytes 15 = .ok (.iconst 0, 1) := by decide +kernel
theorem dX7_drawBytes_16 : decode cX7_drawBytes 16 = .ok (.istore_n 3, 1) := by decide +kernel
theorem dX7_drawBytes_17 : decode cX7_drawBytes 17 = .ok (.iconst 0, 1) := by decide +kernel
theorem dX7_drawBytes_18 : decode cX7_drawBytes 18 = .ok (.istore 4, 2) := by decide +kernel
theorem dX7_drawBytes_20 : decode cX7_drawBytes 20 = .ok (.iload 4, 2) := by decide +kernel
theorem dX7_drawBytes_22 : decode cX7_drawBytes 22 = .ok (.iload_n 1, 1) := by decide +kernel
theorem dX7_drawBytes_23 : decode cX7_drawBytes 23 = .ok (.if_icmp .ge 54, 3) := by decide +kernel
theorem dX7_drawBytes_26 : decode cX7_drawBytes 26 = .ok (.iload_n 2, 1) := by decide +kernel
theorem dX7_drawBytes_27 : decode cX7_drawBytes 27 = .ok (.ifCond .ne 13, 3) := by decide +kernel
theorem dX7_drawBytes_30 : decode cX7_drawBytes 30 = .ok (.aload_n 0, 1) := by decide +kernel
theorem dX7_drawBytes_31 : decode cX7_drawBytes 31 = .ok (.sipush 256, 3) := by decide +kernel
theorem dX7_drawBytes_34 : decode cX7_drawBytes 34 = .ok (.invokevirtual 169, 3) := by decide +kernel
theorem dX7_drawBytes_37 : decode cX7_drawBytes 37 = .ok (.goto 20, 3) := by decide +kernel
theorem dX7_drawBytes_40 : decode cX7_drawBytes 40 = .ok (.iload_n 2, 1) := by decide +kernel
theorem dX7_drawBytes_41 : decode cX7_drawBytes 41 = .ok (.iconst 1, 1) := by decide +kernel
theorem dX7_drawBytes_42 : decode cX7_drawBytes 42 = .ok (.if_icmp .ne 14, 3) := by decide +kernel
theorem dX7_drawBytes_45 : decode cX7_drawBytes 45 = .ok (.bipush 97, 2) := by decide +kernel
theorem dX7_drawBytes_47 : decode cX7_drawBytes 47 = .ok (.aload_n 0, 1) := by decide +kernel
theorem dX7_drawBytes_48 : decode cX7_drawBytes 48 = .ok (.iconst 3, 1) := by decide +kernel
theorem dX7_drawBytes_49 : decode cX7_drawBytes 49 = .ok (.invokevirtual 169, 3) := by decide +kernel
theorem dX7_drawBytes_52 : decode cX7_drawBytes 52 = .ok (.iadd, 1) := by decide +kernel
theorem dX7_drawBytes_53 : decode cX7_drawBytes 53 = .ok (.goto 4, 3) := by decide +kernel
theorem dX7_drawBytes_56 : decode cX7_drawBytes 56 = .ok (.iload_n 3, 1) := by decide +kernel
theorem dX7_drawBytes_57 : decode cX7_drawBytes 57 = .ok (.istore 5, 2) := by decide +kernel
theorem dX7_drawBytes_59 : decode cX7_drawBytes 59 = .ok (.aload_n 0, 1) := by decide +kernel
theorem dX7_drawBytes_60 : decode cX7_drawBytes 60 = .ok (.iload 5, 2) := by decide +kernel
theorem dX7_drawBytes_62 : decode cX7_drawBytes 62 = .ok (.invokevirtual 173, 3) := by decide +kernel
theorem dX7_drawBytes_65 : decode cX7_drawBytes 65 = .ok (.aload_n 0, 1) := by decide +kernel
theorem dX7_drawBytes_66 : decode cX7_drawBytes 66 = .ok (.iload 5, 2) := by decide +kernel
theorem dX7_drawBytes_68 : decode cX7_drawBytes 68 = .ok (.invokevirtual 176, 3) := by decide +kernel
theorem dX7_drawBytes_71 : decode cX7_drawBytes 71 = .ok (.iinc 4 1, 3) := by decide +kernel
theorem dX7_drawBytes_74 : decode cX7_drawBytes 74 = .ok (.goto (-54), 3) := by decide +kernel
theorem dX7_drawBytes_77 : decode cX7_drawBytes 77 = .ok (.return_, 1) := by decide +kernel
set_option maxRecDepth 20000 in
theorem ggX7_drawRaw_X7_pick : GoodIn wsX7_drawRaw wsX7_pick := goodIn_r _ [5, 6, 7, 8, 9, 10, 29, 30, 31, 32, 33, 34, 35, 36, 37, 38, 39, 40, 41, 42, 43, 44, 45, 46, 47, 48, 49, 50, 51, 52, 53, 54, 55, 56, 57, 58, 59, 60, 61] (by decide +kernel) (by decide +kernel)
set_option maxRecDepth 20000 in
theorem gX7_drawRaw_X7_pick : GoodIn wsX7_drawRaw (wsV RX7 169 RX7 yX7_pick wsX7_pick) := goodIn_app (goodIn_of _ (by decide +kernel)) ggX7_drawRaw_X7_pick
set_option maxRecDepth 20000 in
theorem ggX7_drawRaw_X7_lay : GoodIn wsX7_drawRaw wsX7_lay := goodIn_r _ [14, 15, 16, 29, 30, 31, 32, 33, 34, 35, 36, 37, 38, 39, 40, 41, 42, 43, 44, 45, 46, 47, 48, 49, 50, 51, 52, 53, 54, 55, 56, 57, 58, 59, 60, 61] (by decide +kernel) (by decide +kernel)
set_option maxRecDepth 20000 in
theorem gX7_drawRaw_X7_lay : GoodIn wsX7_drawRaw (wsV RX7 173 RX7 yX7_lay wsX7_lay) := goodIn_app (goodIn_of _ (by decide +kernel)) ggX7_drawRaw_X7_lay
set_option maxRecDepth 20000 in
theorem ggX7_drawRaw_X7_drawBytes : GoodIn wsX7_drawRaw wsX7_drawBytes := goodIn_r _ [20, 1, 2, 3, 4, 5, 6, 7, 8, 9, 10, 11, 12, 13, 14, 15, 16, 21, 22, 23, 24, 25, 26, 27, 28, 29, 30, 31, 32, 33, 34, 35, 36, 37, 38, 39, 40, 41, 42, 43, 44, 45, 46, 47, 48, 49, 50, 51, 52, 53, 54, 55, 56, 57, 58, 59, 60, 61] (by decide +kernel) (by decide +kernel)
set_option maxRecDepth 20000 in
theorem gX7_drawRaw_X7_drawBytes : GoodIn wsX7_drawRaw (wsV RX7 179 RX7 yX7_drawBytes wsX7_drawBytes) := goodIn_app (goodIn_of _ (by decide +kernel)) ggX7_drawRaw_X7_drawBytes
theorem dX7_drawRaw_0 : decode cX7_drawRaw 0 = .ok (.iconst 1, 1) := by decide +kernel
theorem dX7_drawRaw_1 : decode cX7_drawRaw 1 = .ok (.aload_n 0, 1) := by decide +kernel
theorem dX7_drawRaw_2 : decode cX7_drawRaw 2 = .ok (.iconst 5, 1) := by decide +kernel
theorem dX7_drawRaw_3 : decode cX7_drawRaw 3 = .ok (.invokevirtual 169, 3) := by decide +kernel
theorem dX7_drawRaw_6 : decode cX7_drawRaw 6 = .ok (.iadd, 1) := by decide +kernel
theorem dX7_drawRaw_7 : decode cX7_drawRaw 7 = .ok (.istore_n 2, 1) := by decide +kernel
theorem dX7_drawRaw_8 : decode cX7_drawRaw 8 = .ok (.aload_n 0, 1) := by decide +kernel
theorem dX7_drawRaw_9 : decode cX7_drawRaw 9 = .ok (.iload_n 2, 1) := by decide +kernel
theorem dX7_drawRaw_10 : decode cX7_drawRaw 10 = .ok (.invokevirtual 173, 3) := by decide +kernel
theorem dX7_drawRaw_13 : decode cX7_drawRaw 13 = .ok (.aload_n 0, 1) := by decide +kernel
theorem dX7_drawRaw_14 : decode cX7_drawRaw 14 = .ok (.iload_n 2, 1) := by decide +kernel
theorem dX7_drawRaw_15 : decode cX7_drawRaw 15 = .ok (.iload_n 1, 1) := by decide +kernel
theorem dX7_drawRaw_16 : decode cX7_drawRaw 16 = .ok (.invokevirtual 179, 3) := by decide +kernel
theorem dX7_drawRaw_19 : decode cX7_drawRaw 19 = .ok (.return_, 1) := by decide +kernel
set_option maxRecDepth 20000 in
theorem ggX7_drawItem_X7_pick : GoodIn wsX7_drawItem wsX7_pick := goodIn_r _ [11, 12, 13, 14, 15, 16, 43, 44, 45, 46, 47, 48, 49, 50, 51, 52, 53, 54, 55, 56, 57, 58, 59, 60, 61, 62, 63, 64, 65, 66, 67, 68, 69, 70, 71, 72, 73, 74, 75] (by decide +kernel) (by decide +kernel)
set_option maxRecDepth 20000 in
theorem gX7_drawItem_X7_pick : GoodIn wsX7_drawItem (wsV RX7 169 RX7 yX7_pick wsX7_pick) := goodIn_app (goodIn_of _ (by decide +kernel)) ggX7_drawItem_X7_pick
set_option maxRecDepth 20000 in
theorem ggX7_drawItem_X7_lay : GoodIn wsX7_drawItem wsX7_lay := goodIn_r _ [20, 21, 5, 43, 44, 45, 46, 47, 48, 49, 50, 51, 52, 53, 54, 55, 56, 57, 58, 59, 60, 61, 62, 63, 64, 65, 66, 67, 68, 69, 70, 71, 72, 73, 74, 75] (by decide +kernel) (by decide +kernel)
set_option maxRecDepth 20000 in
theorem gX7_drawItem_X7_lay : GoodIn wsX7_drawItem (wsV RX7 173 RX7 yX7_lay wsX7_lay) := goodIn_app (goodIn_of _ (by decide +kernel)) ggX7_drawItem_X7_lay
set_option maxRecDepth 20000 in
theorem ggX7_drawItem_X7_gives : GoodIn wsX7_drawItem wsX7_gives := goodIn_r _ [25, 3, 4, 2, 1, 43, 44, 45, 46, 47, 48, 49, 50, 51, 52, 53, 54, 55, 56, 57, 58, 59, 60, 61, 62, 63, 64, 65, 66, 67, 68, 69, 70, 71, 72, 73, 74, 75] (by decide +kernel) (by decide +kernel)
set_option maxRecDepth 20000 in
theorem gX7_drawItem_X7_gives : GoodIn wsX7_drawItem (wsV RX7 176 RX7 yX7_gives wsX7_gives) := goodIn_app (goodIn_of _ (by decide +kernel)) ggX7_drawItem_X7_gives
set_option maxRecDepth 20000 in
theorem ggX7_drawItem_X7_drawRaw : GoodIn wsX7_drawItem wsX7_drawRaw := goodIn_r _ [29, 7, 8, 9, 10, 11, 12, 13, 14, 15, 16, 17, 18, 19, 20, 21, 5, 30, 31, 32, 33, 22, 23, 24, 25, 3, 4, 2, 1, 43, 44, 45, 46, 47, 48, 49, 50, 51, 52, 53, 54, 55, 56, 57, 58, 59, 60, 61, 62, 63, 64, 65, 66, 67, 68, 69, 70, 71, 72, 73, 74, 75] (by decide +kernel) (by decide +kernel)
set_option maxRecDepth 20000 in
theorem gX7_drawItem_X7_drawRaw : GoodIn wsX7_drawItem (wsV RX7 182 RX7 yX7_drawRaw wsX7_drawRaw) := goodIn_app (goodIn_of _ (by decide +kernel)) ggX7_drawItem_X7_drawRaw
set_option maxRecDepth 20000 in
theorem ggX7_drawItem_X7_opens : GoodIn wsX7_drawItem wsX7_opens := goodIn_r _ [37, 4, 2, 1, 6, 38, 39, 40, 41, 42, 43, 44, 45, 46, 47, 48, 49, 50, 51, 52, 53, 54, 55, 56, 57, 58, 59, 60, 61, 62, 63, 64, 65, 66, 67, 68, 69, 70, 71, 72, 73, 74, 75] (by decide +kernel) (by decide +kernel)
set_option maxRecDepth 20000 in
theorem gX7_drawItem_X7_opens : GoodIn wsX7_drawItem (wsV RX7 116 RX7 yX7_opens wsX7_opens) := goodIn_app (goodIn_of _ (by decide +kernel)) ggX7_drawItem_X7_opens
set_option maxRecDepth 20000 in
theorem ggX7_drawItem_X7_drawBytes : GoodIn wsX7_drawItem wsX7_drawBytes := goodIn_r _ [33, 7, 8, 9, 10, 11, 12, 13, 14, 15, 16, 17, 18, 19, 20, 21, 5, 22, 23, 24, 25, 3, 4, 2, 1, 43, 44, 45, 46, 47, 48, 49, 50, 51, 52, 53, 54, 55, 56, 57, 58, 59, 60, 61, 62, 63, 64, 65, 66, 67, 68, 69, 70, 71, 72, 73, 74, 75] (by decide +kernel) (by decide +kernel)
set_option maxRecDepth 20000 in
theorem gX7_drawItem_X7_drawBytes : GoodIn wsX7_drawItem (wsV RX7 179 RX7 yX7_drawBytes wsX7_drawBytes) := goodIn_app (goodIn_of _ (by decide +kernel)) ggX7_drawItem_X7_drawBytes
theorem dX7_drawItem_0 : decode cX7_drawItem 0 = .ok (.aload_n 0, 1) := by decide +kernel
theorem dX7_drawItem_1 : decode cX7_drawItem 1 = .ok (.bipush 8, 2) := by decide +kernel
theorem dX7_drawItem_3 : decode cX7_drawItem 3 = .ok (.invokevirtual 169, 3) := by decide +kernel
theorem dX7_drawItem_6 : decode cX7_drawItem 6 = .ok (.istore_n 3, 1) := by decide +kernel
theorem dX7_drawItem_7 : decode cX7_drawItem 7 = .ok (.iload_n 3, 1) := by decide +kernel
theorem dX7_drawItem_8 : decode cX7_drawItem 8 = .ok (.iconst 3, 1) := by decide +kernel
theorem dX7_drawItem_9 : decode cX7_drawItem 9 = .ok (.if_icmp .eq 8, 3) := by decide +kernel
theorem dX7_drawItem_12 : decode cX7_drawItem 12 = .ok (.iload_n 3, 1) := by decide +kernel
theorem dX7_drawItem_13 : decode cX7_drawItem 13 = .ok (.iconst 4, 1) := by decide +kernel
theorem dX7_drawItem_14 : decode cX7_drawItem 14 = .ok (.if_icmp .ne 128, 3) := by decide +kernel
theorem dX7_drawItem_17 : decode cX7_drawItem 17 = .ok (.aload_n 0, 1) := by decide +kernel
theorem dX7_drawItem_18 : decode cX7_drawItem 18 = .ok (.getfield 16, 3) := by decide +kernel
theorem dX7_drawItem_21 : decode cX7_drawItem 21 = .ok (.aload_n 0, 1) := by decide +kernel
theorem dX7_drawItem_22 : decode cX7_drawItem 22 = .ok (.getfield 66, 3) := by decide +kernel
theorem dX7_drawItem_25 : decode cX7_drawItem 25 = .ok (.iaload, 1) := by decide +kernel
theorem dX7_drawItem_26 : decode cX7_drawItem 26 = .ok (.ifCond .le 116, 3) := by decide +kernel
theorem dX7_drawItem_29 : decode cX7_drawItem 29 = .ok (.iconst 2, 1) := by decide +kernel
theorem dX7_drawItem_30 : decode cX7_drawItem 30 = .ok (.aload_n 0, 1) := by decide +kernel
theorem dX7_drawItem_31 : decode cX7_drawItem 31 = .ok (.bipush 6, 2) := by decide +kernel
theorem dX7_drawItem_33 : decode cX7_drawItem 33 = .ok (.invokevirtual 169, 3) := by decide +kernel
theorem dX7_drawItem_36 : decode cX7_drawItem 36 = .ok (.iadd, 1) := by decide +kernel
theorem dX7_drawItem_37 : decode cX7_drawItem 37 = .ok (.istore 4, 2) := by decide +kernel
theorem dX7_drawItem_39 : decode cX7_drawItem 39 = .ok (.aload_n 0, 1) := by decide +kernel
theorem dX7_drawItem_40 : decode cX7_drawItem 40 = .ok (.aload_n 0, 1) := by decide +kernel
theorem dX7_drawItem_41 : decode cX7_drawItem 41 = .ok (.getfield 16, 3) := by decide +kernel
theorem dX7_drawItem_44 : decode cX7_drawItem 44 = .ok (.aload_n 0, 1) := by decide +kernel
theorem dX7_drawItem_45 : decode cX7_drawItem 45 = .ok (.getfield 66, 3) := by decide +kernel
theorem dX7_drawItem_48 : decode cX7_drawItem 48 = .ok (.iaload, 1) := by decide +kernel
theorem dX7_drawItem_49 : decode cX7_drawItem 49 = .ok (.sipush 256, 3) := by decide +kernel
theorem dX7_drawItem_52 : decode cX7_drawItem 52 = .ok (.if_icmp .ge 15, 3) := by decide +kernel
theorem dX7_drawItem_55 : decode cX7_drawItem 55 = .ok (.aload_n 0, 1) := by decide +kernel
theorem dX7_drawItem_56 : decode cX7_drawItem 56 = .ok (.getfield 16, 3) := by decide +kernel
theorem dX7_drawItem_59 : decode cX7_drawItem 59 = .ok (.aload_n 0, 1) := by decide +kernel
theorem dX7_drawItem_60 : decode cX7_drawItem 60 = .ok (.getfield 66, 3) := by decide +kernel
theorem dX7_drawItem_63 : decode cX7_drawItem 63 = .ok (.iaload, 1) := by decide +kernel
theorem dX7_drawItem_64 : decode cX7_drawItem 64 = .ok (.goto 6, 3) := by decide +kernel
theorem dX7_drawItem_67 : decode cX7_drawItem 67 = .ok (.sipush 256, 3) := by decide +kernel
theorem dX7_drawItem_70 : decode cX7_drawItem 70 = .ok (.invokevirtual 169, 3) := by decide +kernel
theorem dX7_drawItem_73 : decode cX7_drawItem 73 = .ok (.istore 5, 2) := by decide +kernel
theorem dX7_drawItem_75 : decode cX7_drawItem 75 = .ok (.aload_n 0, 1) := by decide +kernel
theorem dX7_drawItem_76 : decode cX7_drawItem 76 = .ok (.bipush 62, 2) := by decide +kernel
theorem dX7_drawItem_78 : decode cX7_drawItem 78 = .ok (.iload 4, 2) := by decide +kernel
theorem dX7_drawItem_80 : decode cX7_drawItem 80 = .ok (.iadd, 1) := by decide +kernel
theorem dX7_drawItem_81 : decode cX7_drawItem 81 = .ok (.invokevirtual 173, 3) := by decide +kernel
theorem dX7_drawItem_84 : decode cX7_drawItem 84 = .ok (.aload_n 0, 1) := by decide +kernel
theorem dX7_drawItem_85 : decode cX7_drawItem 85 = .ok (.iload 5, 2) := by decide +kernel
theorem dX7_drawItem_87 : decode cX7_drawItem 87 = .ok (.invokevirtual 173, 3) := by decide +kernel
theorem dX7_drawItem_90 : decode cX7_drawItem 90 = .ok (.iconst 0, 1) := by decide +kernel
theorem dX7_drawItem_91 : decode cX7_drawItem 91 = .ok (.istore 6, 2) := by decide +kernel
theorem dX7_drawItem_93 : decode cX7_drawItem 93 = .ok (.iload 6, 2) := by decide +kernel
theorem dX7_drawItem_95 : decode cX7_drawItem 95 = .ok (.iload 4, 2) := by decide +kernel
theorem dX7_drawItem_97 : decode cX7_drawItem 97 = .ok (.if_icmp .ge 42, 3) := by decide +kernel
theorem dX7_drawItem_100 : decode cX7_drawItem 100 = .ok (.aload_n 0, 1) := by decide +kernel
theorem dX7_drawItem_101 : decode cX7_drawItem 101 = .ok (.aload_n 0, 1) := by decide +kernel
theorem dX7_drawItem_102 : decode cX7_drawItem 102 = .ok (.getfield 31, 3) := by decide +kernel
theorem dX7_drawItem_105 : decode cX7_drawItem 105 = .ok (.aload_n 0, 1) := by decide +kernel
theorem dX7_drawItem_106 : decode cX7_drawItem 106 = .ok (.getfield 13, 3) := by decide +kernel
theorem dX7_drawItem_109 : decode cX7_drawItem 109 = .ok (.aload_n 0, 1) := by decide +kernel
theorem dX7_drawItem_110 : decode cX7_drawItem 110 = .ok (.getfield 66, 3) := by decide +kernel
theorem dX7_drawItem_113 : decode cX7_drawItem 113 = .ok (.iaload, 1) := by decide +kernel
theorem dX7_drawItem_114 : decode cX7_drawItem 114 = .ok (.aload_n 0, 1) := by decide +kernel
theorem dX7_drawItem_115 : decode cX7_drawItem 115 = .ok (.getfield 16, 3) := by decide +kernel
theorem dX7_drawItem_118 : decode cX7_drawItem 118 = .ok (.aload_n 0, 1) := by decide +kernel
theorem dX7_drawItem_119 : decode cX7_drawItem 119 = .ok (.getfield 66, 3) := by decide +kernel
theorem dX7_drawItem_122 : decode cX7_drawItem 122 = .ok (.iaload, 1) := by decide +kernel
theorem dX7_drawItem_123 : decode cX7_drawItem 123 = .ok (.iadd, 1) := by decide +kernel
theorem dX7_drawItem_124 : decode cX7_drawItem 124 = .ok (.iload 5, 2) := by decide +kernel
theorem dX7_drawItem_126 : decode cX7_drawItem 126 = .ok (.isub, 1) := by decide +kernel
theorem dX7_drawItem_127 : decode cX7_drawItem 127 = .ok (.iconst 1, 1) := by decide +kernel
theorem dX7_drawItem_128 : decode cX7_drawItem 128 = .ok (.isub, 1) := by decide +kernel
theorem dX7_drawItem_129 : decode cX7_drawItem 129 = .ok (.iaload, 1) := by decide +kernel
theorem dX7_drawItem_130 : decode cX7_drawItem 130 = .ok (.invokevirtual 176, 3) := by decide +kernel
theorem dX7_drawItem_133 : decode cX7_drawItem 133 = .ok (.iinc 6 1, 3) := by decide +kernel
theorem dX7_drawItem_136 : decode cX7_drawItem 136 = .ok (.goto (-43), 3) := by decide +kernel
theorem dX7_drawItem_139 : decode cX7_drawItem 139 = .ok (.goto 237, 3) := by decide +kernel
theorem dX7_drawItem_142 : decode cX7_drawItem 142 = .ok (.iload_n 3, 1) := by decide +kernel
theorem dX7_drawItem_143 : decode cX7_drawItem 143 = .ok (.iconst 5, 1) := by decide +kernel
theorem dX7_drawItem_144 : decode cX7_drawItem 144 = .ok (.if_icmp .ne 112, 3) := by decide +kernel
theorem dX7_drawItem_147 : decode cX7_drawItem 147 = .ok (.iconst 2, 1) := by decide +kernel
theorem dX7_drawItem_148 : decode cX7_drawItem 148 = .ok (.aload_n 0, 1) := by decide +kernel
theorem dX7_drawItem_149 : decode cX7_drawItem 149 = .ok (.iconst 4, 1) := by decide +kernel
theorem dX7_drawItem_150 : decode cX7_drawItem 150 = .ok (.invokevirtual 169, 3) := by decide +kernel
theorem dX7_drawItem_153 : decode cX7_drawItem 153 = .ok (.iadd, 1) := by decide +kernel
theorem dX7_drawItem_154 : decode cX7_drawItem 154 = .ok (.istore 4, 2) := by decide +kernel
theorem dX7_drawItem_156 : decode cX7_drawItem 156 = .ok (.aload_n 0, 1) := by decide +kernel
theorem dX7_drawItem_157 : decode cX7_drawItem 157 = .ok (.getfield 13, 3) := by decide +kernel
theorem dX7_drawItem_160 : decode cX7_drawItem 160 = .ok (.aload_n 0, 1) := by decide +kernel
theorem dX7_drawItem_161 : decode cX7_drawItem 161 = .ok (.getfield 66, 3) := by decide +kernel
theorem dX7_drawItem_164 : decode cX7_drawItem 164 = .ok (.iaload, 1) := by decide +kernel
theorem dX7_drawItem_165 : decode cX7_drawItem 165 = .ok (.aload_n 0, 1) := by decide +kernel
theorem dX7_drawItem_166 : decode cX7_drawItem 166 = .ok (.getfield 16, 3) := by decide +kernel
theorem dX7_drawItem_169 : decode cX7_drawItem 169 = .ok (.aload_n 0, 1) := by decide +kernel
theorem dX7_drawItem_170 : decode cX7_drawItem 170 = .ok (.getfield 66, 3) := by decide +kernel
theorem dX7_drawItem_173 : decode cX7_drawItem 173 = .ok (.iaload, 1) := by decide +kernel
theorem dX7_drawItem_174 : decode cX7_drawItem 174 = .ok (.iadd, 1) := by decide +kernel
theorem dX7_drawItem_175 : decode cX7_drawItem 175 = .ok (.istore 5, 2) := by decide +kernel
theorem dX7_drawItem_177 : decode cX7_drawItem 177 = .ok (.aload_n 0, 1) := by decide +kernel
theorem dX7_drawItem_178 : decode cX7_drawItem 178 = .ok (.bipush 126, 2) := by decide +kernel
theorem dX7_drawItem_180 : decode cX7_drawItem 180 = .ok (.iload 4, 2) := by decide +kernel
theorem dX7_drawItem_182 : decode cX7_drawItem 182 = .ok (.iadd, 1) := by decide +kernel
theorem dX7_drawItem_183 : decode cX7_drawItem 183 = .ok (.invokevirtual 173, 3) := by decide +kernel
theorem dX7_drawItem_186 : decode cX7_drawItem 186 = .ok (.aload_n 0, 1) := by decide +kernel
theorem dX7_drawItem_187 : decode cX7_drawItem 187 = .ok (.iload_n 1, 1) := by decide +kernel
theorem dX7_drawItem_188 : decode cX7_drawItem 188 = .ok (.invokevirtual 182, 3) := by decide +kernel
theorem dX7_drawItem_191 : decode cX7_drawItem 191 = .ok (.aload_n 0, 1) := by decide +kernel
theorem dX7_drawItem_192 : decode cX7_drawItem 192 = .ok (.getfield 13, 3) := by decide +kernel
theorem dX7_drawItem_195 : decode cX7_drawItem 195 = .ok (.aload_n 0, 1) := by decide +kernel
theorem dX7_drawItem_196 : decode cX7_drawItem 196 = .ok (.getfield 66, 3) := by decide +kernel
theorem dX7_drawItem_199 : decode cX7_drawItem 199 = .ok (.iaload, 1) := by decide +kernel
theorem dX7_drawItem_200 : decode cX7_drawItem 200 = .ok (.aload_n 0, 1) := by decide +kernel
theorem dX7_drawItem_201 : decode cX7_drawItem 201 = .ok (.getfield 16, 3) := by decide +kernel
theorem dX7_drawItem_204 : decode cX7_drawItem 204 = .ok (.aload_n 0, 1) := by decide +kernel
theorem dX7_drawItem_205 : decode cX7_drawItem 205 = .ok (.getfield 66, 3) := by decide +kernel
theorem dX7_drawItem_208 : decode cX7_drawItem 208 = .ok (.iaload, 1) := by decide +kernel
theorem dX7_drawItem_209 : decode cX7_drawItem 209 = .ok (.iadd, 1) := by decide +kernel
theorem dX7_drawItem_210 : decode cX7_drawItem 210 = .ok (.iload 5, 2) := by decide +kernel
theorem dX7_drawItem_212 : decode cX7_drawItem 212 = .ok (.isub, 1) := by decide +kernel
theorem dX7_drawItem_213 : decode cX7_drawItem 213 = .ok (.istore 6, 2) := by decide +kernel
theorem dX7_drawItem_215 : decode cX7_drawItem 215 = .ok (.iconst 0, 1) := by decide +kernel
theorem dX7_drawItem_216 : decode cX7_drawItem 216 = .ok (.istore 7, 2) := by decide +kernel
theorem dX7_drawItem_218 : decode cX7_drawItem 218 = .ok (.iload 7, 2) := by decide +kernel
theorem dX7_drawItem_220 : decode cX7_drawItem 220 = .ok (.iload 4, 2) := by decide +kernel
theorem dX7_drawItem_222 : decode cX7_drawItem 222 = .ok (.iconst 1, 1) := by decide +kernel
theorem dX7_drawItem_223 : decode cX7_drawItem 223 = .ok (.isub, 1) := by decide +kernel
theorem dX7_drawItem_224 : decode cX7_drawItem 224 = .ok (.iload 6, 2) := by decide +kernel
theorem dX7_drawItem_226 : decode cX7_drawItem 226 = .ok (.imul, 1) := by decide +kernel
theorem dX7_drawItem_227 : decode cX7_drawItem 227 = .ok (.if_icmp .ge 26, 3) := by decide +kernel
theorem dX7_drawItem_230 : decode cX7_drawItem 230 = .ok (.aload_n 0, 1) := by decide +kernel
theorem dX7_drawItem_231 : decode cX7_drawItem 231 = .ok (.aload_n 0, 1) := by decide +kernel
theorem dX7_drawItem_232 : decode cX7_drawItem 232 = .ok (.getfield 31, 3) := by decide +kernel
theorem dX7_drawItem_235 : decode cX7_drawItem 235 = .ok (.iload 5, 2) := by decide +kernel
theorem dX7_drawItem_237 : decode cX7_drawItem 237 = .ok (.iload 7, 2) := by decide +kernel
theorem dX7_drawItem_239 : decode cX7_drawItem 239 = .ok (.iload 6, 2) := by decide +kernel
theorem dX7_drawItem_241 : decode cX7_drawItem 241 = .ok (.irem, 1) := by decide +kernel
theorem dX7_drawItem_242 : decode cX7_drawItem 242 = .ok (.iadd, 1) := by decide +kernel
theorem dX7_drawItem_243 : decode cX7_drawItem 243 = .ok (.iaload, 1) := by decide +kernel
theorem dX7_drawItem_244 : decode cX7_drawItem 244 = .ok (.invokevirtual 176, 3) := by decide +kernel
theorem dX7_drawItem_247 : decode cX7_drawItem 247 = .ok (.iinc 7 1, 3) := by decide +kernel
theorem dX7_drawItem_250 : decode cX7_drawItem 250 = .ok (.goto (-32), 3) := by decide +kernel
theorem dX7_drawItem_253 : decode cX7_drawItem 253 = .ok (.goto 123, 3) := by decide +kernel
theorem dX7_drawItem_256 : decode cX7_drawItem 256 = .ok (.iload_n 3, 1) := by decide +kernel
theorem dX7_drawItem_257 : decode cX7_drawItem 257 = .ok (.bipush 6, 2) := by decide +kernel
theorem dX7_drawItem_259 : decode cX7_drawItem 259 = .ok (.if_icmp .ne 69, 3) := by decide +kernel
theorem dX7_drawItem_262 : decode cX7_drawItem 262 = .ok (.aload_n 0, 1) := by decide +kernel
theorem dX7_drawItem_263 : decode cX7_drawItem 263 = .ok (.getfield 66, 3) := by decide +kernel
theorem dX7_drawItem_266 : decode cX7_drawItem 266 = .ok (.iconst 3, 1) := by decide +kernel
theorem dX7_drawItem_267 : decode cX7_drawItem 267 = .ok (.if_icmp .ge 61, 3) := by decide +kernel
theorem dX7_drawItem_270 : decode cX7_drawItem 270 = .ok (.aload_n 0, 1) := by decide +kernel
theorem dX7_drawItem_271 : decode cX7_drawItem 271 = .ok (.sipush 192, 3) := by decide +kernel
theorem dX7_drawItem_274 : decode cX7_drawItem 274 = .ok (.invokevirtual 173, 3) := by decide +kernel
theorem dX7_drawItem_277 : decode cX7_drawItem 277 = .ok (.aload_n 0, 1) := by decide +kernel
theorem dX7_drawItem_278 : decode cX7_drawItem 278 = .ok (.iconst 0, 1) := by decide +kernel
theorem dX7_drawItem_279 : decode cX7_drawItem 279 = .ok (.invokevirtual 173, 3) := by decide +kernel
theorem dX7_drawItem_282 : decode cX7_drawItem 282 = .ok (.aload_n 0, 1) := by decide +kernel
theorem dX7_drawItem_283 : decode cX7_drawItem 283 = .ok (.dup, 1) := by decide +kernel
theorem dX7_drawItem_284 : decode cX7_drawItem 284 = .ok (.getfield 66, 3) := by decide +kernel
theorem dX7_drawItem_287 : decode cX7_drawItem 287 = .ok (.iconst 1, 1) := by decide +kernel
theorem dX7_drawItem_288 : decode cX7_drawItem 288 = .ok (.iadd, 1) := by decide +kernel
theorem dX7_drawItem_289 : decode cX7_drawItem 289 = .ok (.putfield 66, 3) := by decide +kernel
theorem dX7_drawItem_292 : decode cX7_drawItem 292 = .ok (.aload_n 0, 1) := by decide +kernel
theorem dX7_drawItem_293 : decode cX7_drawItem 293 = .ok (.iconst 0, 1) := by decide +kernel
theorem dX7_drawItem_294 : decode cX7_drawItem 294 = .ok (.aload_n 0, 1) := by decide +kernel
theorem dX7_drawItem_295 : decode cX7_drawItem 295 = .ok (.getfield 53, 3) := by decide +kernel
theorem dX7_drawItem_298 : decode cX7_drawItem 298 = .ok (.iconst 2, 1) := by decide +kernel
theorem dX7_drawItem_299 : decode cX7_drawItem 299 = .ok (.isub, 1) := by decide +kernel
theorem dX7_drawItem_300 : decode cX7_drawItem 300 = .ok (.aload_n 0, 1) := by decide +kernel
theorem dX7_drawItem_301 : decode cX7_drawItem 301 = .ok (.getfield 53, 3) := by decide +kernel
theorem dX7_drawItem_304 : decode cX7_drawItem 304 = .ok (.iconst 1, 1) := by decide +kernel
theorem dX7_drawItem_305 : decode cX7_drawItem 305 = .ok (.isub, 1) := by decide +kernel
theorem dX7_drawItem_306 : decode cX7_drawItem 306 = .ok (.invokevirtual 116, 3) := by decide +kernel
theorem dX7_drawItem_309 : decode cX7_drawItem 309 = .ok (.aload_n 0, 1) := by decide +kernel
theorem dX7_drawItem_310 : decode cX7_drawItem 310 = .ok (.getfield 19, 3) := by decide +kernel
theorem dX7_drawItem_313 : decode cX7_drawItem 313 = .ok (.aload_n 0, 1) := by decide +kernel
theorem dX7_drawItem_314 : decode cX7_drawItem 314 = .ok (.getfield 66, 3) := by decide +kernel
theorem dX7_drawItem_317 : decode cX7_drawItem 317 = .ok (.iconst 1, 1) := by decide +kernel
theorem dX7_drawItem_318 : decode cX7_drawItem 318 = .ok (.aload_n 0, 1) := by decide +kernel
theorem dX7_drawItem_319 : decode cX7_drawItem 319 = .ok (.iload_n 2, 1) := by decide +kernel
theorem dX7_drawItem_320 : decode cX7_drawItem 320 = .ok (.invokevirtual 169, 3) := by decide +kernel
theorem dX7_drawItem_323 : decode cX7_drawItem 323 = .ok (.iadd, 1) := by decide +kernel
theorem dX7_drawItem_324 : decode cX7_drawItem 324 = .ok (.iastore, 1) := by decide +kernel
theorem dX7_drawItem_325 : decode cX7_drawItem 325 = .ok (.goto 51, 3) := by decide +kernel
theorem dX7_drawItem_328 : decode cX7_drawItem 328 = .ok (.iload_n 3, 1) := by decide +kernel
theorem dX7_drawItem_329 : decode cX7_drawItem 329 = .ok (.bipush 7, 2) := by decide +kernel
theorem dX7_drawItem_331 : decode cX7_drawItem 331 = .ok (.if_icmp .ne 40, 3) := by decide +kernel
theorem dX7_drawItem_334 : decode cX7_drawItem 334 = .ok (.iconst 1, 1) := by decide +kernel
theorem dX7_drawItem_335 : decode cX7_drawItem 335 = .ok (.aload_n 0, 1) := by decide +kernel
theorem dX7_drawItem_336 : decode cX7_drawItem 336 = .ok (.iconst 5, 1) := by decide +kernel
theorem dX7_drawItem_337 : decode cX7_drawItem 337 = .ok (.invokevirtual 169, 3) := by decide +kernel
theorem dX7_drawItem_340 : decode cX7_drawItem 340 = .ok (.iadd, 1) := by decide +kernel
theorem dX7_drawItem_341 : decode cX7_drawItem 341 = .ok (.istore 4, 2) := by decide +kernel
theorem dX7_drawItem_343 : decode cX7_drawItem 343 = .ok (.aload_n 0, 1) := by decide +kernel
theorem dX7_drawItem_344 : decode cX7_drawItem 344 = .ok (.sipush 255, 3) := by decide +kernel
theorem dX7_drawItem_347 : decode cX7_drawItem 347 = .ok (.invokevirtual 173, 3) := by decide +kernel
theorem dX7_drawItem_350 : decode cX7_drawItem 350 = .ok (.aload_n 0, 1) := by decide +kernel
theorem dX7_drawItem_351 : decode cX7_drawItem 351 = .ok (.iconst 0, 1) := by decide +kernel
theorem dX7_drawItem_352 : decode cX7_drawItem 352 = .ok (.invokevirtual 173, 3) := by decide +kernel
theorem dX7_drawItem_355 : decode cX7_drawItem 355 = .ok (.aload_n 0, 1) := by decide +kernel
theorem dX7_drawItem_356 : decode cX7_drawItem 356 = .ok (.iload 4, 2) := by decide +kernel
theorem dX7_drawItem_358 : decode cX7_drawItem 358 = .ok (.invokevirtual 173, 3) := by decide +kernel
theorem dX7_drawItem_361 : decode cX7_drawItem 361 = .ok (.aload_n 0, 1) := by decide +kernel
theorem dX7_drawItem_362 : decode cX7_drawItem 362 = .ok (.iload 4, 2) := by decide +kernel
theorem dX7_drawItem_364 : decode cX7_drawItem 364 = .ok (.iload_n 1, 1) := by decide +kernel
theorem dX7_drawItem_365 : decode cX7_drawItem 365 = .ok (.invokevirtual 179, 3) := by decide +kernel
theorem dX7_drawItem_368 : decode cX7_drawItem 368 = .ok (.goto 8, 3) := by decide +kernel
theorem dX7_drawItem_371 : decode cX7_drawItem 371 = .ok (.aload_n 0, 1) := by decide +kernel
theorem dX7_drawItem_372 : decode cX7_drawItem 372 = .ok (.iload_n 1, 1) := by decide +kernel
theorem dX7_drawItem_373 : decode cX7_drawItem 373 = .ok (.invokevirtual 182, 3) := by decide +kernel
theorem dX7_drawItem_376 : decode cX7_drawItem 376 = .ok (.return_, 1) := by decide +kernel
set_option maxRecDepth 20000 in
theorem ggX7_drawEnd_X7_lay : GoodIn wsX7_drawEnd wsX7_lay := goodIn_r _ [12, 5, 7, 13, 14, 15, 16, 17, 18, 19, 20, 21, 22, 23, 24, 25, 26, 27, 28, 29, 30, 31, 32, 33, 34, 35, 36, 37, 38, 39, 40, 41, 42, 43, 44, 45] (by decide +kernel) (by decide +kernel)
set_option maxRecDepth 20000 in
theorem gX7_drawEnd_X7_lay : GoodIn wsX7_drawEnd (wsV RX7 173 RX7 yX7_lay wsX7_lay) := goodIn_app (goodIn_of _ (by decide +kernel)) ggX7_drawEnd_X7_lay
theorem dX7_drawEnd_0 : decode cX7_drawEnd 0 = .ok (.iconst 0, 1) := by decide +kernel
theorem dX7_drawEnd_1 : decode cX7_drawEnd 1 = .ok (.istore_n 1, 1) := by decide +kernel
theorem dX7_drawEnd_2 : decode cX7_drawEnd 2 = .ok (.iconst 0, 1) := by decide +kernel
theorem dX7_drawEnd_3 : decode cX7_drawEnd 3 = .ok (.istore_n 2, 1) := by decide +kernel
theorem dX7_drawEnd_4 : decode cX7_drawEnd 4 = .ok (.iload_n 2, 1) := by decide +kernel
theorem dX7_drawEnd_5 : decode cX7_drawEnd 5 = .ok (.aload_n 0, 1) := by decide +kernel
theorem dX7_drawEnd_6 : decode cX7_drawEnd 6 = .ok (.getfield 16, 3) := by decide +kernel
theorem dX7_drawEnd_9 : decode cX7_drawEnd 9 = .ok (.aload_n 0, 1) := by decide +kernel
theorem dX7_drawEnd_10 : decode cX7_drawEnd 10 = .ok (.getfield 66, 3) := by decide +kernel
theorem dX7_drawEnd_13 : decode cX7_drawEnd 13 = .ok (.iaload, 1) := by decide +kernel
theorem dX7_drawEnd_14 : decode cX7_drawEnd 14 = .ok (.if_icmp .ge 28, 3) := by decide +kernel
theorem dX7_drawEnd_17 : decode cX7_drawEnd 17 = .ok (.iload_n 1, 1) := by decide +kernel
theorem dX7_drawEnd_18 : decode cX7_drawEnd 18 = .ok (.aload_n 0, 1) := by decide +kernel
theorem dX7_drawEnd_19 : decode cX7_drawEnd 19 = .ok (.getfield 31, 3) := by decide +kernel
theorem dX7_drawEnd_22 : decode cX7_drawEnd 22 = .ok (.aload_n 0, 1) := by decide +kernel
theorem dX7_drawEnd_23 : decode cX7_drawEnd 23 = .ok (.getfield 13, 3) := by decide +kernel
theorem dX7_drawEnd_26 : decode cX7_drawEnd 26 = .ok (.aload_n 0, 1) := by decide +kernel
theorem dX7_drawEnd_27 : decode cX7_drawEnd 27 = .ok (.getfield 66, 3) := by decide +kernel
theorem dX7_drawEnd_30 : decode cX7_drawEnd 30 = .ok (.iaload, 1) := by decide +kernel
theorem dX7_drawEnd_31 : decode cX7_drawEnd 31 = .ok (.iload_n 2, 1) := by decide +kernel
theorem dX7_drawEnd_32 : decode cX7_drawEnd 32 = .ok (.iadd, 1) := by decide +kernel
theorem dX7_drawEnd_33 : decode cX7_drawEnd 33 = .ok (.iaload, 1) := by decide +kernel
theorem dX7_drawEnd_34 : decode cX7_drawEnd 34 = .ok (.iadd, 1) := by decide +kernel
theorem dX7_drawEnd_35 : decode cX7_drawEnd 35 = .ok (.istore_n 1, 1) := by decide +kernel
theorem dX7_drawEnd_36 : decode cX7_drawEnd 36 = .ok (.iinc 2 1, 3) := by decide +kernel
theorem dX7_drawEnd_39 : decode cX7_drawEnd 39 = .ok (.goto (-35), 3) := by decide +kernel
theorem dX7_drawEnd_42 : decode cX7_drawEnd 42 = .ok (.aload_n 0, 1) := by decide +kernel
theorem dX7_drawEnd_43 : decode cX7_drawEnd 43 = .ok (.iconst 0, 1) := by decide +kernel
theorem dX7_drawEnd_44 : decode cX7_drawEnd 44 = .ok (.invokevirtual 173, 3) := by decide +kernel
theorem dX7_drawEnd_47 : decode cX7_drawEnd 47 = .ok (.aload_n 0, 1) := by decide +kernel
theorem dX7_drawEnd_48 : decode cX7_drawEnd 48 = .ok (.iload_n 1, 1) := by decide +kernel
theorem dX7_drawEnd_49 : decode cX7_drawEnd 49 = .ok (.sipush 255, 3) := by decide +kernel
theorem dX7_drawEnd_52 : decode cX7_drawEnd 52 = .ok (.iand, 1) := by decide +kernel
theorem dX7_drawEnd_53 : decode cX7_drawEnd 53 = .ok (.invokevirtual 173, 3) := by decide +kernel
theorem dX7_drawEnd_56 : decode cX7_drawEnd 56 = .ok (.aload_n 0, 1) := by decide +kernel
theorem dX7_drawEnd_57 : decode cX7_drawEnd 57 = .ok (.getfield 66, 3) := by decide +kernel
theorem dX7_drawEnd_60 : decode cX7_drawEnd 60 = .ok (.ifCond .le 56, 3) := by decide +kernel
theorem dX7_drawEnd_63 : decode cX7_drawEnd 63 = .ok (.aload_n 0, 1) := by decide +kernel
theorem dX7_drawEnd_64 : decode cX7_drawEnd 64 = .ok (.getfield 7, 3) := by decide +kernel
theorem dX7_drawEnd_67 : decode cX7_drawEnd 67 = .ok (.aload_n 0, 1) := by decide +kernel
theorem dX7_drawEnd_68 : decode cX7_drawEnd 68 = .ok (.getfield 25, 3) := by decide +kernel
theorem dX7_drawEnd_71 : decode cX7_drawEnd 71 = .ok (.aload_n 0, 1) := by decide +kernel
theorem dX7_drawEnd_72 : decode cX7_drawEnd 72 = .ok (.getfield 66, 3) := by decide +kernel
theorem dX7_drawEnd_75 : decode cX7_drawEnd 75 = .ok (.iaload, 1) := by decide +kernel
theorem dX7_drawEnd_76 : decode cX7_drawEnd 76 = .ok (.aload_n 0, 1) := by decide +kernel
theorem dX7_drawEnd_77 : decode cX7_drawEnd 77 = .ok (.getfield 53, 3) := by decide +kernel
theorem dX7_drawEnd_80 : decode cX7_drawEnd 80 = .ok (.aload_n 0, 1) := by decide +kernel
theorem dX7_drawEnd_81 : decode cX7_drawEnd 81 = .ok (.getfield 25, 3) := by decide +kernel
theorem dX7_drawEnd_84 : decode cX7_drawEnd 84 = .ok (.aload_n 0, 1) := by decide +kernel
theorem dX7_drawEnd_85 : decode cX7_drawEnd 85 = .ok (.getfield 66, 3) := by decide +kernel
theorem dX7_drawEnd_88 : decode cX7_drawEnd 88 = .ok (.iaload, 1) := by decide +kernel
theorem dX7_drawEnd_89 : decode cX7_drawEnd 89 = .ok (.isub, 1) := by decide +kernel
theorem dX7_drawEnd_90 : decode cX7_drawEnd 90 = .ok (.iconst 1, 1) := by decide +kernel
theorem dX7_drawEnd_91 : decode cX7_drawEnd 91 = .ok (.isub, 1) := by decide +kernel
theorem dX7_drawEnd_92 : decode cX7_drawEnd 92 = .ok (.iastore, 1) := by decide +kernel
theorem dX7_drawEnd_93 : decode cX7_drawEnd 93 = .ok (.aload_n 0, 1) := by decide +kernel
theorem dX7_drawEnd_94 : decode cX7_drawEnd 94 = .ok (.getfield 16, 3) := by decide +kernel
theorem dX7_drawEnd_97 : decode cX7_drawEnd 97 = .ok (.aload_n 0, 1) := by decide +kernel
theorem dX7_drawEnd_98 : decode cX7_drawEnd 98 = .ok (.getfield 66, 3) := by decide +kernel
theorem dX7_drawEnd_101 : decode cX7_drawEnd 101 = .ok (.iconst 1, 1) := by decide +kernel
theorem dX7_drawEnd_102 : decode cX7_drawEnd 102 = .ok (.isub, 1) := by decide +kernel
theorem dX7_drawEnd_103 : decode cX7_drawEnd 103 = .ok (.dup2, 1) := by decide +kernel
theorem dX7_drawEnd_104 : decode cX7_drawEnd 104 = .ok (.iaload, 1) := by decide +kernel
theorem dX7_drawEnd_105 : decode cX7_drawEnd 105 = .ok (.aload_n 0, 1) := by decide +kernel
theorem dX7_drawEnd_106 : decode cX7_drawEnd 106 = .ok (.getfield 16, 3) := by decide +kernel
theorem dX7_drawEnd_109 : decode cX7_drawEnd 109 = .ok (.aload_n 0, 1) := by decide +kernel
theorem dX7_drawEnd_110 : decode cX7_drawEnd 110 = .ok (.getfield 66, 3) := by decide +kernel
theorem dX7_drawEnd_113 : decode cX7_drawEnd 113 = .ok (.iaload, 1) := by decide +kernel
theorem dX7_drawEnd_114 : decode cX7_drawEnd 114 = .ok (.iadd, 1) := by decide +kernel
theorem dX7_drawEnd_115 : decode cX7_drawEnd 115 = .ok (.iastore, 1) := by decide +kernel
theorem dX7_drawEnd_116 : decode cX7_drawEnd 116 = .ok (.aload_n 0, 1) := by decide +kernel
theorem dX7_drawEnd_117 : decode cX7_drawEnd 117 = .ok (.dup, 1) := by decide +kernel
theorem dX7_drawEnd_118 : decode cX7_drawEnd 118 = .ok (.getfield 66, 3) := by decide +kernel
theorem dX7_drawEnd_121 : decode cX7_drawEnd 121 = .ok (.iconst 1, 1) := by decide +kernel
theorem dX7_drawEnd_122 : decode cX7_drawEnd 122 = .ok (.isub, 1) := by decide +kernel
theorem dX7_drawEnd_123 : decode cX7_drawEnd 123 = .ok (.putfield 66, 3) := by decide +kernel
theorem dX7_drawEnd_126 : decode cX7_drawEnd 126 = .ok (.return_, 1) := by decide +kernel
set_option maxRecDepth 20000 in
theorem ggX7_draw_X7_in : GoodIn wsX7_draw wsX7_in := goodIn_r _ [10] (by decide +kernel) (by decide +kernel)
set_option maxRecDepth 20000 in
theorem gX7_draw_X7_in : GoodIn wsX7_draw (va_wsS RX7 49 yX7_in wsX7_in) := goodIn_app (goodIn_of _ (by decide +kernel)) ggX7_draw_X7_in
set_option maxRecDepth 20000 in
theorem ggX7_draw_X7_opens : GoodIn wsX7_draw wsX7_opens := goodIn_r _ [14, 15, 4, 16, 6, 17, 18, 19, 5, 20, 54, 55, 56, 57, 58, 59, 60, 61, 62, 63, 64, 65, 66, 67, 68, 69, 70, 71, 72, 73, 74, 75, 76, 77, 78, 79, 80, 81, 82, 83, 84, 85, 86] (by decide +kernel) (by decide +kernel)
set_option maxRecDepth 20000 in
theorem gX7_draw_X7_opens : GoodIn wsX7_draw (wsV RX7 116 RX7 yX7_opens wsX7_opens) := goodIn_app (goodIn_of _ (by decide +kernel)) ggX7_draw_X7_opens
set_option maxRecDepth 20000 in
theorem ggX7_draw_X7_pick : GoodIn wsX7_draw wsX7_pick := goodIn_r _ [24, 2, 1, 25, 26, 27, 54, 55, 56, 57, 58, 59, 60, 61, 62, 63, 64, 65, 66, 67, 68, 69, 70, 71, 72, 73, 74, 75, 76, 77, 78, 79, 80, 81, 82, 83, 84, 85, 86] (by decide +kernel) (by decide +kernel)
set_option maxRecDepth 20000 in
theorem gX7_draw_X7_pick : GoodIn wsX7_draw (wsV RX7 169 RX7 yX7_pick wsX7_pick) := goodIn_app (goodIn_of _ (by decide +kernel)) ggX7_draw_X7_pick
set_option maxRecDepth 20000 in
theorem ggX7_draw_X7_drawItem : GoodIn wsX7_draw wsX7_drawItem := goodIn_r _ [31, 16, 4, 32, 15, 3, 6, 21, 22, 23, 9, 24, 2, 1, 25, 26, 27, 33, 34, 35, 36, 37, 38, 39, 40, 41, 42, 43, 44, 45, 46, 47, 48, 49, 11, 12, 13, 14, 17, 18, 19, 5, 20, 54, 55, 56, 57, 58, 59, 60, 61, 62, 63, 64, 65, 66, 67, 68, 69, 70, 71, 72, 73, 74, 75, 76, 77, 78, 79, 80, 81, 82, 83, 84, 85, 86] (by decide +kernel) (by decide +kernel)
set_option maxRecDepth 20000 in
theorem gX7_draw_X7_drawItem : GoodIn wsX7_draw (wsV RX7 185 RX7 yX7_drawItem wsX7_drawItem) := goodIn_app (goodIn_of _ (by decide +kernel)) ggX7_draw_X7_drawItem
set_option maxRecDepth 20000 in
theorem ggX7_draw_X7_drawEnd : GoodIn wsX7_draw wsX7_drawEnd := goodIn_r _ [53, 16, 4, 32, 15, 37, 18, 3, 33, 34, 35, 9, 36, 54, 55, 56, 57, 58, 59, 60, 61, 62, 63, 64, 65, 66, 67, 68, 69, 70, 71, 72, 73, 74, 75, 76, 77, 78, 79, 80, 81, 82, 83, 84, 85, 86] (by decide +kernel) (by decide +kernel)
set_option maxRecDepth 20000 in
theorem gX7_draw_X7_drawEnd : GoodIn wsX7_draw (wsV RX7 188 RX7 yX7_drawEnd wsX7_drawEnd) := goodIn_app (goodIn_of _ (by decide +kernel)) ggX7_draw_X7_drawEnd
theorem dX7_draw_0 : decode cX7_draw 0 = .ok (.iload_n 3, 1) := by decide +kernel
theorem dX7_draw_1 : decode cX7_draw 1 = .ok (.iconst 0, 1) := by decide +kernel
theorem dX7_draw_2 : decode cX7_draw 2 = .ok (.iconst 2, 1) := by decide +kernel
theorem dX7_draw_3 : decode cX7_draw 3 = .ok (.invokestatic 49, 3) := by decide +kernel
theorem dX7_draw_6 : decode cX7_draw 6 = .ok (.ifCond .eq 13, 3) := by decide +kernel
theorem dX7_draw_9 : decode cX7_draw 9 = .ok (.iload 4, 2) := by decide +kernel
theorem dX7_draw_11 : decode cX7_draw 11 = .ok (.iconst 1, 1) := by decide +kernel
theorem dX7_draw_12 : decode cX7_draw 12 = .ok (.iconst 5, 1) := by decide +kernel
theorem dX7_draw_13 : decode cX7_draw 13 = .ok (.invokestatic 49, 3) := by decide +kernel
theorem dX7_draw_16 : decode cX7_draw 16 = .ok (.ifCond .ne 6, 3) := by decide +kernel
theorem dX7_draw_19 : decode cX7_draw 19 = .ok (.bipush (-2), 2) := by decide +kernel
theorem dX7_draw_21 : decode cX7_draw 21 = .ok (.ireturn, 1) := by decide +kernel
theorem dX7_draw_22 : decode cX7_draw 22 = .ok (.aload_n 0, 1) := by decide +kernel
theorem dX7_draw_23 : decode cX7_draw 23 = .ok (.lload_n 1, 1) := by decide +kernel
theorem dX7_draw_24 : decode cX7_draw 24 = .ok (.putfield 160, 3) := by decide +kernel
theorem dX7_draw_27 : decode cX7_draw 27 = .ok (.aload_n 0, 1) := by decide +kernel
theorem dX7_draw_28 : decode cX7_draw 28 = .ok (.lconst 0, 1) := by decide +kernel
theorem dX7_draw_29 : decode cX7_draw 29 = .ok (.putfield 156, 3) := by decide +kernel
theorem dX7_draw_32 : decode cX7_draw 32 = .ok (.aload_n 0, 1) := by decide +kernel
theorem dX7_draw_33 : decode cX7_draw 33 = .ok (.iconst 0, 1) := by decide +kernel
theorem dX7_draw_34 : decode cX7_draw 34 = .ok (.putfield 53, 3) := by decide +kernel
theorem dX7_draw_37 : decode cX7_draw 37 = .ok (.aload_n 0, 1) := by decide +kernel
theorem dX7_draw_38 : decode cX7_draw 38 = .ok (.iconst 0, 1) := by decide +kernel
theorem dX7_draw_39 : decode cX7_draw 39 = .ok (.putfield 66, 3) := by decide +kernel
theorem dX7_draw_42 : decode cX7_draw 42 = .ok (.aload_n 0, 1) := by decide +kernel
theorem dX7_draw_43 : decode cX7_draw 43 = .ok (.iconst 0, 1) := by decide +kernel
theorem dX7_draw_44 : decode cX7_draw 44 = .ok (.putfield 94, 3) := by decide +kernel
theorem dX7_draw_47 : decode cX7_draw 47 = .ok (.aload_n 0, 1) := by decide +kernel
theorem dX7_draw_48 : decode cX7_draw 48 = .ok (.iconst 0, 1) := by decide +kernel
theorem dX7_draw_49 : decode cX7_draw 49 = .ok (.iconst (-1), 1) := by decide +kernel
theorem dX7_draw_50 : decode cX7_draw 50 = .ok (.iconst (-1), 1) := by decide +kernel
theorem dX7_draw_51 : decode cX7_draw 51 = .ok (.invokevirtual 116, 3) := by decide +kernel
theorem dX7_draw_54 : decode cX7_draw 54 = .ok (.aload_n 0, 1) := by decide +kernel
theorem dX7_draw_55 : decode cX7_draw 55 = .ok (.getfield 19, 3) := by decide +kernel
theorem dX7_draw_58 : decode cX7_draw 58 = .ok (.iconst 0, 1) := by decide +kernel
theorem dX7_draw_59 : decode cX7_draw 59 = .ok (.iconst 1, 1) := by decide +kernel
theorem dX7_draw_60 : decode cX7_draw 60 = .ok (.aload_n 0, 1) := by decide +kernel
theorem dX7_draw_61 : decode cX7_draw 61 = .ok (.iload 4, 2) := by decide +kernel
theorem dX7_draw_63 : decode cX7_draw 63 = .ok (.invokevirtual 169, 3) := by decide +kernel
theorem dX7_draw_66 : decode cX7_draw 66 = .ok (.iadd, 1) := by decide +kernel
theorem dX7_draw_67 : decode cX7_draw 67 = .ok (.iastore, 1) := by decide +kernel
theorem dX7_draw_68 : decode cX7_draw 68 = .ok (.aload_n 0, 1) := by decide +kernel
theorem dX7_draw_69 : decode cX7_draw 69 = .ok (.getfield 66, 3) := by decide +kernel
theorem dX7_draw_72 : decode cX7_draw 72 = .ok (.ifCond .lt 54, 3) := by decide +kernel
theorem dX7_draw_75 : decode cX7_draw 75 = .ok (.aload_n 0, 1) := by decide +kernel
theorem dX7_draw_76 : decode cX7_draw 76 = .ok (.getfield 19, 3) := by decide +kernel
theorem dX7_draw_79 : decode cX7_draw 79 = .ok (.aload_n 0, 1) := by decide +kernel
theorem dX7_draw_80 : decode cX7_draw 80 = .ok (.getfield 66, 3) := by decide +kernel
theorem dX7_draw_83 : decode cX7_draw 83 = .ok (.iaload, 1) := by decide +kernel
theorem dX7_draw_84 : decode cX7_draw 84 = .ok (.ifCond .le 35, 3) := by decide +kernel
theorem dX7_draw_87 : decode cX7_draw 87 = .ok (.aload_n 0, 1) := by decide +kernel
theorem dX7_draw_88 : decode cX7_draw 88 = .ok (.getfield 53, 3) := by decide +kernel
theorem dX7_draw_91 : decode cX7_draw 91 = .ok (.bipush 100, 2) := by decide +kernel
theorem dX7_draw_93 : decode cX7_draw 93 = .ok (.if_icmp .ge 26, 3) := by decide +kernel
theorem dX7_draw_96 : decode cX7_draw 96 = .ok (.aload_n 0, 1) := by decide +kernel
theorem dX7_draw_97 : decode cX7_draw 97 = .ok (.getfield 19, 3) := by decide +kernel
theorem dX7_draw_100 : decode cX7_draw 100 = .ok (.aload_n 0, 1) := by decide +kernel
theorem dX7_draw_101 : decode cX7_draw 101 = .ok (.getfield 66, 3) := by decide +kernel
theorem dX7_draw_104 : decode cX7_draw 104 = .ok (.dup2, 1) := by decide +kernel
theorem dX7_draw_105 : decode cX7_draw 105 = .ok (.iaload, 1) := by decide +kernel
theorem dX7_draw_106 : decode cX7_draw 106 = .ok (.iconst 1, 1) := by decide +kernel
theorem dX7_draw_107 : decode cX7_draw 107 = .ok (.isub, 1) := by decide +kernel
theorem dX7_draw_108 : decode cX7_draw 108 = .ok (.iastore, 1) := by decide +kernel
theorem dX7_draw_109 : decode cX7_draw 109 = .ok (.aload_n 0, 1) := by decide +kernel
theorem dX7_draw_110 : decode cX7_draw 110 = .ok (.iload_n 3, 1) := by decide +kernel
theorem dX7_draw_111 : decode cX7_draw 111 = .ok (.iload 4, 2) := by decide +kernel
theorem dX7_draw_113 : decode cX7_draw 113 = .ok (.invokevirtual 185, 3) := by decide +kernel
theorem dX7_draw_116 : decode cX7_draw 116 = .ok (.goto (-48), 3) := by decide +kernel
theorem dX7_draw_119 : decode cX7_draw 119 = .ok (.aload_n 0, 1) := by decide +kernel
theorem dX7_draw_120 : decode cX7_draw 120 = .ok (.invokevirtual 188, 3) := by decide +kernel
theorem dX7_draw_123 : decode cX7_draw 123 = .ok (.goto (-55), 3) := by decide +kernel
theorem dX7_draw_126 : decode cX7_draw 126 = .ok (.aload_n 0, 1) := by decide +kernel
theorem dX7_draw_127 : decode cX7_draw 127 = .ok (.getfield 53, 3) := by decide +kernel
theorem dX7_draw_130 : decode cX7_draw 130 = .ok (.ireturn, 1) := by decide +kernel
set_option maxRecDepth 20000 in
theorem ggX7_bomb_X7_in : GoodIn wsX7_bomb wsX7_in := goodIn_r _ [5] (by decide +kernel) (by decide +kernel)
set_option maxRecDepth 20000 in
theorem gX7_bomb_X7_in : GoodIn wsX7_bomb (va_wsS RX7 49 yX7_in wsX7_in) := goodIn_app (goodIn_of _ (by decide +kernel)) ggX7_bomb_X7_in
set_option maxRecDepth 20000 in
theorem ggX7_bomb_X7_lay : GoodIn wsX7_bomb wsX7_lay := goodIn_r _ [9, 10, 1, 11, 12, 13, 14, 15, 16, 17, 18, 19, 20, 21, 22, 23, 24, 25, 26, 27, 28, 29, 30, 31, 32, 33, 34, 35, 36, 37, 38, 39, 40, 41, 42, 43] (by decide +kernel) (by decide +kernel)
set_option maxRecDepth 20000 in
theorem gX7_bomb_X7_lay : GoodIn wsX7_bomb (wsV RX7 173 RX7 yX7_lay wsX7_lay) := goodIn_app (goodIn_of _ (by decide +kernel)) ggX7_bomb_X7_lay
theorem dX7_bomb_0 : decode cX7_bomb 0 = .ok (.iload_n 1, 1) := by decide +kernel
theorem dX7_bomb_1 : decode cX7_bomb 1 = .ok (.iconst 0, 1) := by decide +kernel
theorem dX7_bomb_2 : decode cX7_bomb 2 = .ok (.bipush 12, 2) := by decide +kernel
theorem dX7_bomb_4 : decode cX7_bomb 4 = .ok (.invokestatic 49, 3) := by decide +kernel
theorem dX7_bomb_7 : decode cX7_bomb 7 = .ok (.ifCond .eq 24, 3) := by decide +kernel
theorem dX7_bomb_10 : decode cX7_bomb 10 = .ok (.iload_n 2, 1) := by decide +kernel
theorem dX7_bomb_11 : decode cX7_bomb 11 = .ok (.iconst 2, 1) := by decide +kernel
theorem dX7_bomb_12 : decode cX7_bomb 12 = .ok (.bipush 65, 2) := by decide +kernel
theorem dX7_bomb_14 : decode cX7_bomb 14 = .ok (.invokestatic 49, 3) := by decide +kernel
theorem dX7_bomb_17 : decode cX7_bomb 17 = .ok (.ifCond .eq 14, 3) := by decide +kernel
theorem dX7_bomb_20 : decode cX7_bomb 20 = .ok (.iload_n 3, 1) := by decide +kernel
theorem dX7_bomb_21 : decode cX7_bomb 21 = .ok (.iconst 0, 1) := by decide +kernel
theorem dX7_bomb_22 : decode cX7_bomb 22 = .ok (.sipush 255, 3) := by decide +kernel
theorem dX7_bomb_25 : decode cX7_bomb 25 = .ok (.invokestatic 49, 3) := by decide +kernel
theorem dX7_bomb_28 : decode cX7_bomb 28 = .ok (.ifCond .ne 6, 3) := by decide +kernel
theorem dX7_bomb_31 : decode cX7_bomb 31 = .ok (.bipush (-2), 2) := by decide +kernel
theorem dX7_bomb_33 : decode cX7_bomb 33 = .ok (.ireturn, 1) := by decide +kernel
theorem dX7_bomb_34 : decode cX7_bomb 34 = .ok (.aload_n 0, 1) := by decide +kernel
theorem dX7_bomb_35 : decode cX7_bomb 35 = .ok (.iconst 0, 1) := by decide +kernel
theorem dX7_bomb_36 : decode cX7_bomb 36 = .ok (.putfield 53, 3) := by decide +kernel
theorem dX7_bomb_39 : decode cX7_bomb 39 = .ok (.iload_n 1, 1) := by decide +kernel
theorem dX7_bomb_40 : decode cX7_bomb 40 = .ok (.istore 4, 2) := by decide +kernel
theorem dX7_bomb_42 : decode cX7_bomb 42 = .ok (.iload 4, 2) := by decide +kernel
theorem dX7_bomb_44 : decode cX7_bomb 44 = .ok (.ifCond .le 34, 3) := by decide +kernel
theorem dX7_bomb_47 : decode cX7_bomb 47 = .ok (.aload_n 0, 1) := by decide +kernel
theorem dX7_bomb_48 : decode cX7_bomb 48 = .ok (.bipush 126, 2) := by decide +kernel
theorem dX7_bomb_50 : decode cX7_bomb 50 = .ok (.iload_n 2, 1) := by decide +kernel
theorem dX7_bomb_51 : decode cX7_bomb 51 = .ok (.iadd, 1) := by decide +kernel
theorem dX7_bomb_52 : decode cX7_bomb 52 = .ok (.invokevirtual 173, 3) := by decide +kernel
theorem dX7_bomb_55 : decode cX7_bomb 55 = .ok (.aload_n 0, 1) := by decide +kernel
theorem dX7_bomb_56 : decode cX7_bomb 56 = .ok (.sipush 192, 3) := by decide +kernel
theorem dX7_bomb_59 : decode cX7_bomb 59 = .ok (.invokevirtual 173, 3) := by decide +kernel
theorem dX7_bomb_62 : decode cX7_bomb 62 = .ok (.aload_n 0, 1) := by decide +kernel
theorem dX7_bomb_63 : decode cX7_bomb 63 = .ok (.iconst 5, 1) := by decide +kernel
theorem dX7_bomb_64 : decode cX7_bomb 64 = .ok (.iload 4, 2) := by decide +kernel
theorem dX7_bomb_66 : decode cX7_bomb 66 = .ok (.imul, 1) := by decide +kernel
