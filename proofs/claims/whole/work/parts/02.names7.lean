theorem dX7_bomb_67 : decode cX7_bomb 67 = .ok (.iconst 1, 1) := by decide +kernel
theorem dX7_bomb_68 : decode cX7_bomb 68 = .ok (.isub, 1) := by decide +kernel
theorem dX7_bomb_69 : decode cX7_bomb 69 = .ok (.invokevirtual 173, 3) := by decide +kernel
theorem dX7_bomb_72 : decode cX7_bomb 72 = .ok (.iinc 4 (-1), 3) := by decide +kernel
theorem dX7_bomb_75 : decode cX7_bomb 75 = .ok (.goto (-33), 3) := by decide +kernel
theorem dX7_bomb_78 : decode cX7_bomb 78 = .ok (.aload_n 0, 1) := by decide +kernel
theorem dX7_bomb_79 : decode cX7_bomb 79 = .ok (.iconst 1, 1) := by decide +kernel
theorem dX7_bomb_80 : decode cX7_bomb 80 = .ok (.invokevirtual 173, 3) := by decide +kernel
theorem dX7_bomb_83 : decode cX7_bomb 83 = .ok (.aload_n 0, 1) := by decide +kernel
theorem dX7_bomb_84 : decode cX7_bomb 84 = .ok (.iload_n 3, 1) := by decide +kernel
theorem dX7_bomb_85 : decode cX7_bomb 85 = .ok (.invokevirtual 173, 3) := by decide +kernel
theorem dX7_bomb_88 : decode cX7_bomb 88 = .ok (.iload_n 3, 1) := by decide +kernel
theorem dX7_bomb_89 : decode cX7_bomb 89 = .ok (.istore 4, 2) := by decide +kernel
theorem dX7_bomb_91 : decode cX7_bomb 91 = .ok (.iconst 0, 1) := by decide +kernel
theorem dX7_bomb_92 : decode cX7_bomb 92 = .ok (.istore 5, 2) := by decide +kernel
theorem dX7_bomb_94 : decode cX7_bomb 94 = .ok (.iload 5, 2) := by decide +kernel
theorem dX7_bomb_96 : decode cX7_bomb 96 = .ok (.iload_n 1, 1) := by decide +kernel
theorem dX7_bomb_97 : decode cX7_bomb 97 = .ok (.if_icmp .gt 34, 3) := by decide +kernel
theorem dX7_bomb_100 : decode cX7_bomb 100 = .ok (.aload_n 0, 1) := by decide +kernel
theorem dX7_bomb_101 : decode cX7_bomb 101 = .ok (.iconst 0, 1) := by decide +kernel
theorem dX7_bomb_102 : decode cX7_bomb 102 = .ok (.invokevirtual 173, 3) := by decide +kernel
theorem dX7_bomb_105 : decode cX7_bomb 105 = .ok (.aload_n 0, 1) := by decide +kernel
theorem dX7_bomb_106 : decode cX7_bomb 106 = .ok (.iload 4, 2) := by decide +kernel
theorem dX7_bomb_108 : decode cX7_bomb 108 = .ok (.sipush 255, 3) := by decide +kernel
theorem dX7_bomb_111 : decode cX7_bomb 111 = .ok (.iand, 1) := by decide +kernel
theorem dX7_bomb_112 : decode cX7_bomb 112 = .ok (.invokevirtual 173, 3) := by decide +kernel
theorem dX7_bomb_115 : decode cX7_bomb 115 = .ok (.iload 4, 2) := by decide +kernel
theorem dX7_bomb_117 : decode cX7_bomb 117 = .ok (.sipush 255, 3) := by decide +kernel
theorem dX7_bomb_120 : decode cX7_bomb 120 = .ok (.iand, 1) := by decide +kernel
theorem dX7_bomb_121 : decode cX7_bomb 121 = .ok (.iload_n 2, 1) := by decide +kernel
theorem dX7_bomb_122 : decode cX7_bomb 122 = .ok (.imul, 1) := by decide +kernel
theorem dX7_bomb_123 : decode cX7_bomb 123 = .ok (.istore 4, 2) := by decide +kernel
theorem dX7_bomb_125 : decode cX7_bomb 125 = .ok (.iinc 5 1, 3) := by decide +kernel
theorem dX7_bomb_128 : decode cX7_bomb 128 = .ok (.goto (-34), 3) := by decide +kernel
theorem dX7_bomb_131 : decode cX7_bomb 131 = .ok (.aload_n 0, 1) := by decide +kernel
theorem dX7_bomb_132 : decode cX7_bomb 132 = .ok (.getfield 53, 3) := by decide +kernel
theorem dX7_bomb_135 : decode cX7_bomb 135 = .ok (.ireturn, 1) := by decide +kernel
set_option maxRecDepth 20000 in
theorem ggX7_plant_X7_in : GoodIn wsX7_plant wsX7_in := goodIn_r _ [10] (by decide +kernel) (by decide +kernel)
set_option maxRecDepth 20000 in
theorem gX7_plant_X7_in : GoodIn wsX7_plant (va_wsS RX7 49 yX7_in wsX7_in) := goodIn_app (goodIn_of _ (by decide +kernel)) ggX7_plant_X7_in
set_option maxRecDepth 20000 in
theorem ggX7_plant_X7_run : GoodIn wsX7_plant wsX7_run := goodIn_r _ [14, 15, 16, 17, 18, 19, 20, 21, 5, 22, 23, 24, 25, 26, 27, 2, 3, 4, 1, 28, 29, 30, 9, 31, 32, 33, 34, 35, 36, 37, 38, 39, 40, 41, 6, 42, 43, 44, 45, 46, 47, 48, 49, 50, 51, 52, 53, 54, 55, 56, 57, 58, 59, 60, 61, 62, 63, 64, 65, 66, 67, 68, 69, 70, 71, 72, 73, 74, 75, 76, 77, 78, 79, 80, 81, 86, 87, 88, 89, 90, 91, 92, 93, 94, 95, 96, 97, 98, 99, 100, 101, 102, 103, 104, 105, 106, 107, 108, 109, 110, 111, 112, 113, 114, 115, 116, 117, 118] (by decide +kernel) (by decide +kernel)
set_option maxRecDepth 20000 in
theorem gX7_plant_X7_run : GoodIn wsX7_plant (wsV RX7 149 RX7 yX7_run wsX7_run) := goodIn_app (goodIn_of _ (by decide +kernel)) ggX7_plant_X7_run
set_option maxRecDepth 20000 in
theorem ggX7_plant_X7_lay : GoodIn wsX7_plant wsX7_lay := goodIn_r _ [85, 6, 1, 86, 87, 88, 89, 90, 91, 92, 93, 94, 95, 96, 97, 98, 99, 100, 101, 102, 103, 104, 105, 106, 107, 108, 109, 110, 111, 112, 113, 114, 115, 116, 117, 118] (by decide +kernel) (by decide +kernel)
set_option maxRecDepth 20000 in
theorem gX7_plant_X7_lay : GoodIn wsX7_plant (wsV RX7 173 RX7 yX7_lay wsX7_lay) := goodIn_app (goodIn_of _ (by decide +kernel)) ggX7_plant_X7_lay
theorem dX7_plant_0 : decode cX7_plant 0 = .ok (.iload_n 1, 1) := by decide +kernel
theorem dX7_plant_1 : decode cX7_plant 1 = .ok (.iconst 1, 1) := by decide +kernel
theorem dX7_plant_2 : decode cX7_plant 2 = .ok (.bipush 7, 2) := by decide +kernel
theorem dX7_plant_4 : decode cX7_plant 4 = .ok (.invokestatic 49, 3) := by decide +kernel
theorem dX7_plant_7 : decode cX7_plant 7 = .ok (.ifCond .eq 9, 3) := by decide +kernel
theorem dX7_plant_10 : decode cX7_plant 10 = .ok (.iload_n 1, 1) := by decide +kernel
theorem dX7_plant_11 : decode cX7_plant 11 = .ok (.bipush 6, 2) := by decide +kernel
theorem dX7_plant_13 : decode cX7_plant 13 = .ok (.if_icmp .ne 6, 3) := by decide +kernel
theorem dX7_plant_16 : decode cX7_plant 16 = .ok (.bipush (-2), 2) := by decide +kernel
theorem dX7_plant_18 : decode cX7_plant 18 = .ok (.ireturn, 1) := by decide +kernel
theorem dX7_plant_19 : decode cX7_plant 19 = .ok (.iload_n 1, 1) := by decide +kernel
theorem dX7_plant_20 : decode cX7_plant 20 = .ok (.iconst 5, 1) := by decide +kernel
theorem dX7_plant_21 : decode cX7_plant 21 = .ok (.if_icmp .ne 16, 3) := by decide +kernel
theorem dX7_plant_24 : decode cX7_plant 24 = .ok (.aload_n 0, 1) := by decide +kernel
theorem dX7_plant_25 : decode cX7_plant 25 = .ok (.getfield 53, 3) := by decide +kernel
theorem dX7_plant_28 : decode cX7_plant 28 = .ok (.sipush 160, 3) := by decide +kernel
theorem dX7_plant_31 : decode cX7_plant 31 = .ok (.if_icmp .ne 6, 3) := by decide +kernel
theorem dX7_plant_34 : decode cX7_plant 34 = .ok (.bipush (-3), 2) := by decide +kernel
theorem dX7_plant_36 : decode cX7_plant 36 = .ok (.ireturn, 1) := by decide +kernel
theorem dX7_plant_37 : decode cX7_plant 37 = .ok (.aload_n 0, 1) := by decide +kernel
theorem dX7_plant_38 : decode cX7_plant 38 = .ok (.sipush 400, 3) := by decide +kernel
theorem dX7_plant_41 : decode cX7_plant 41 = .ok (.sipush 800, 3) := by decide +kernel
theorem dX7_plant_44 : decode cX7_plant 44 = .ok (.sipush 1500, 3) := by decide +kernel
theorem dX7_plant_47 : decode cX7_plant 47 = .ok (.invokevirtual 149, 3) := by decide +kernel
theorem dX7_plant_50 : decode cX7_plant 50 = .ok (.iload_n 1, 1) := by decide +kernel
theorem dX7_plant_51 : decode cX7_plant 51 = .ok (.iconst 2, 1) := by decide +kernel
theorem dX7_plant_52 : decode cX7_plant 52 = .ok (.if_icmp .ne 10, 3) := by decide +kernel
theorem dX7_plant_55 : decode cX7_plant 55 = .ok (.aload_n 0, 1) := by decide +kernel
theorem dX7_plant_56 : decode cX7_plant 56 = .ok (.getfield 107, 3) := by decide +kernel
theorem dX7_plant_59 : decode cX7_plant 59 = .ok (.goto 29, 3) := by decide +kernel
theorem dX7_plant_62 : decode cX7_plant 62 = .ok (.iload_n 1, 1) := by decide +kernel
theorem dX7_plant_63 : decode cX7_plant 63 = .ok (.iconst 3, 1) := by decide +kernel
theorem dX7_plant_64 : decode cX7_plant 64 = .ok (.if_icmp .ne 10, 3) := by decide +kernel
theorem dX7_plant_67 : decode cX7_plant 67 = .ok (.aload_n 0, 1) := by decide +kernel
theorem dX7_plant_68 : decode cX7_plant 68 = .ok (.getfield 110, 3) := by decide +kernel
theorem dX7_plant_71 : decode cX7_plant 71 = .ok (.goto 17, 3) := by decide +kernel
theorem dX7_plant_74 : decode cX7_plant 74 = .ok (.iload_n 1, 1) := by decide +kernel
theorem dX7_plant_75 : decode cX7_plant 75 = .ok (.bipush 7, 2) := by decide +kernel
theorem dX7_plant_77 : decode cX7_plant 77 = .ok (.if_icmp .ne 10, 3) := by decide +kernel
theorem dX7_plant_80 : decode cX7_plant 80 = .ok (.aload_n 0, 1) := by decide +kernel
theorem dX7_plant_81 : decode cX7_plant 81 = .ok (.getfield 113, 3) := by decide +kernel
theorem dX7_plant_84 : decode cX7_plant 84 = .ok (.goto 4, 3) := by decide +kernel
theorem dX7_plant_87 : decode cX7_plant 87 = .ok (.iconst 0, 1) := by decide +kernel
theorem dX7_plant_88 : decode cX7_plant 88 = .ok (.istore_n 2, 1) := by decide +kernel
theorem dX7_plant_89 : decode cX7_plant 89 = .ok (.aload_n 0, 1) := by decide +kernel
theorem dX7_plant_90 : decode cX7_plant 90 = .ok (.getfield 57, 3) := by decide +kernel
theorem dX7_plant_93 : decode cX7_plant 93 = .ok (.ifCond .ne 8, 3) := by decide +kernel
theorem dX7_plant_96 : decode cX7_plant 96 = .ok (.iload_n 2, 1) := by decide +kernel
theorem dX7_plant_97 : decode cX7_plant 97 = .ok (.iconst (-1), 1) := by decide +kernel
theorem dX7_plant_98 : decode cX7_plant 98 = .ok (.if_icmp .ne 6, 3) := by decide +kernel
theorem dX7_plant_101 : decode cX7_plant 101 = .ok (.bipush (-4), 2) := by decide +kernel
theorem dX7_plant_103 : decode cX7_plant 103 = .ok (.ireturn, 1) := by decide +kernel
theorem dX7_plant_104 : decode cX7_plant 104 = .ok (.iload_n 1, 1) := by decide +kernel
theorem dX7_plant_105 : decode cX7_plant 105 = .ok (.tableswitch 114 1 5 #[35, 48, 73, 87, 105], 35) := by decide +kernel
theorem dX7_plant_140 : decode cX7_plant 140 = .ok (.aload_n 0, 1) := by decide +kernel
theorem dX7_plant_141 : decode cX7_plant 141 = .ok (.dup, 1) := by decide +kernel
theorem dX7_plant_142 : decode cX7_plant 142 = .ok (.getfield 53, 3) := by decide +kernel
theorem dX7_plant_145 : decode cX7_plant 145 = .ok (.iconst 1, 1) := by decide +kernel
theorem dX7_plant_146 : decode cX7_plant 146 = .ok (.isub, 1) := by decide +kernel
theorem dX7_plant_147 : decode cX7_plant 147 = .ok (.putfield 53, 3) := by decide +kernel
theorem dX7_plant_150 : decode cX7_plant 150 = .ok (.goto 78, 3) := by decide +kernel
theorem dX7_plant_153 : decode cX7_plant 153 = .ok (.aload_n 0, 1) := by decide +kernel
theorem dX7_plant_154 : decode cX7_plant 154 = .ok (.getfield 7, 3) := by decide +kernel
theorem dX7_plant_157 : decode cX7_plant 157 = .ok (.iload_n 2, 1) := by decide +kernel
theorem dX7_plant_158 : decode cX7_plant 158 = .ok (.iconst 1, 1) := by decide +kernel
theorem dX7_plant_159 : decode cX7_plant 159 = .ok (.iadd, 1) := by decide +kernel
theorem dX7_plant_160 : decode cX7_plant 160 = .ok (.aload_n 0, 1) := by decide +kernel
theorem dX7_plant_161 : decode cX7_plant 161 = .ok (.getfield 7, 3) := by decide +kernel
theorem dX7_plant_164 : decode cX7_plant 164 = .ok (.iload_n 2, 1) := by decide +kernel
theorem dX7_plant_165 : decode cX7_plant 165 = .ok (.iconst 1, 1) := by decide +kernel
theorem dX7_plant_166 : decode cX7_plant 166 = .ok (.iadd, 1) := by decide +kernel
theorem dX7_plant_167 : decode cX7_plant 167 = .ok (.iaload, 1) := by decide +kernel
theorem dX7_plant_168 : decode cX7_plant 168 = .ok (.iconst 1, 1) := by decide +kernel
theorem dX7_plant_169 : decode cX7_plant 169 = .ok (.iadd, 1) := by decide +kernel
theorem dX7_plant_170 : decode cX7_plant 170 = .ok (.sipush 255, 3) := by decide +kernel
theorem dX7_plant_173 : decode cX7_plant 173 = .ok (.iand, 1) := by decide +kernel
theorem dX7_plant_174 : decode cX7_plant 174 = .ok (.iastore, 1) := by decide +kernel
theorem dX7_plant_175 : decode cX7_plant 175 = .ok (.goto 53, 3) := by decide +kernel
theorem dX7_plant_178 : decode cX7_plant 178 = .ok (.aload_n 0, 1) := by decide +kernel
theorem dX7_plant_179 : decode cX7_plant 179 = .ok (.getfield 7, 3) := by decide +kernel
theorem dX7_plant_182 : decode cX7_plant 182 = .ok (.iload_n 2, 1) := by decide +kernel
theorem dX7_plant_183 : decode cX7_plant 183 = .ok (.iconst 1, 1) := by decide +kernel
theorem dX7_plant_184 : decode cX7_plant 184 = .ok (.iadd, 1) := by decide +kernel
theorem dX7_plant_185 : decode cX7_plant 185 = .ok (.sipush 255, 3) := by decide +kernel
theorem dX7_plant_188 : decode cX7_plant 188 = .ok (.iastore, 1) := by decide +kernel
theorem dX7_plant_189 : decode cX7_plant 189 = .ok (.goto 39, 3) := by decide +kernel
theorem dX7_plant_192 : decode cX7_plant 192 = .ok (.aload_n 0, 1) := by decide +kernel
theorem dX7_plant_193 : decode cX7_plant 193 = .ok (.getfield 7, 3) := by decide +kernel
theorem dX7_plant_196 : decode cX7_plant 196 = .ok (.aload_n 0, 1) := by decide +kernel
theorem dX7_plant_197 : decode cX7_plant 197 = .ok (.getfield 53, 3) := by decide +kernel
theorem dX7_plant_200 : decode cX7_plant 200 = .ok (.iconst 1, 1) := by decide +kernel
theorem dX7_plant_201 : decode cX7_plant 201 = .ok (.isub, 1) := by decide +kernel
theorem dX7_plant_202 : decode cX7_plant 202 = .ok (.dup2, 1) := by decide +kernel
theorem dX7_plant_203 : decode cX7_plant 203 = .ok (.iaload, 1) := by decide +kernel
theorem dX7_plant_204 : decode cX7_plant 204 = .ok (.iconst 1, 1) := by decide +kernel
theorem dX7_plant_205 : decode cX7_plant 205 = .ok (.ixor, 1) := by decide +kernel
theorem dX7_plant_206 : decode cX7_plant 206 = .ok (.iastore, 1) := by decide +kernel
theorem dX7_plant_207 : decode cX7_plant 207 = .ok (.goto 21, 3) := by decide +kernel
theorem dX7_plant_210 : decode cX7_plant 210 = .ok (.aload_n 0, 1) := by decide +kernel
theorem dX7_plant_211 : decode cX7_plant 211 = .ok (.bipush 7, 2) := by decide +kernel
theorem dX7_plant_213 : decode cX7_plant 213 = .ok (.invokevirtual 173, 3) := by decide +kernel
theorem dX7_plant_216 : decode cX7_plant 216 = .ok (.goto 12, 3) := by decide +kernel
theorem dX7_plant_219 : decode cX7_plant 219 = .ok (.aload_n 0, 1) := by decide +kernel
theorem dX7_plant_220 : decode cX7_plant 220 = .ok (.getfield 7, 3) := by decide +kernel
theorem dX7_plant_223 : decode cX7_plant 223 = .ok (.iload_n 2, 1) := by decide +kernel
theorem dX7_plant_224 : decode cX7_plant 224 = .ok (.iconst 1, 1) := by decide +kernel
theorem dX7_plant_225 : decode cX7_plant 225 = .ok (.iadd, 1) := by decide +kernel
theorem dX7_plant_226 : decode cX7_plant 226 = .ok (.iconst 0, 1) := by decide +kernel
theorem dX7_plant_227 : decode cX7_plant 227 = .ok (.iastore, 1) := by decide +kernel
theorem dX7_plant_228 : decode cX7_plant 228 = .ok (.aload_n 0, 1) := by decide +kernel
theorem dX7_plant_229 : decode cX7_plant 229 = .ok (.sipush 400, 3) := by decide +kernel
theorem dX7_plant_232 : decode cX7_plant 232 = .ok (.sipush 800, 3) := by decide +kernel
theorem dX7_plant_235 : decode cX7_plant 235 = .ok (.sipush 1500, 3) := by decide +kernel
theorem dX7_plant_238 : decode cX7_plant 238 = .ok (.invokevirtual 149, 3) := by decide +kernel
theorem dX7_plant_241 : decode cX7_plant 241 = .ok (.aload_n 0, 1) := by decide +kernel
theorem dX7_plant_242 : decode cX7_plant 242 = .ok (.getfield 57, 3) := by decide +kernel
theorem dX7_plant_245 : decode cX7_plant 245 = .ok (.ireturn, 1) := by decide +kernel
set_option maxRecDepth 20000 in
theorem ggX7_shorter_X7_isBound : GoodIn wsX7_shorter wsX7_isBound := goodIn_r _ [7, 8, 9, 6, 10] (by decide +kernel) (by decide +kernel)
set_option maxRecDepth 20000 in
theorem gX7_shorter_X7_isBound : GoodIn wsX7_shorter (va_wsS RX7 146 yX7_isBound wsX7_isBound) := goodIn_app (goodIn_of _ (by decide +kernel)) ggX7_shorter_X7_isBound
set_option maxRecDepth 20000 in
theorem ggX7_shorter_X7_run : GoodIn wsX7_shorter wsX7_run := goodIn_r _ [14, 15, 16, 17, 18, 19, 20, 21, 1, 22, 23, 24, 25, 26, 27, 28, 29, 30, 2, 31, 32, 33, 6, 34, 35, 36, 37, 38, 39, 40, 41, 42, 43, 44, 3, 45, 46, 47, 48, 49, 50, 51, 52, 53, 54, 55, 56, 57, 58, 59, 60, 61, 62, 63, 64, 65, 66, 67, 68, 69, 70, 71, 72, 73, 74, 75, 76, 77, 78, 79, 80, 81, 82, 83, 84, 85, 86, 87, 88, 89, 90, 91, 92, 93, 94, 95, 96, 97, 98, 99, 100, 101, 102, 103, 104, 105, 106, 107, 108, 109, 110, 111, 112, 113, 114, 115, 116, 117] (by decide +kernel) (by decide +kernel)
set_option maxRecDepth 20000 in
theorem gX7_shorter_X7_run : GoodIn wsX7_shorter (wsV RX7 149 RX7 yX7_run wsX7_run) := goodIn_app (goodIn_of _ (by decide +kernel)) ggX7_shorter_X7_run
theorem dX7_shorter_0 : decode cX7_shorter 0 = .ok (.iload_n 1, 1) := by decide +kernel
theorem dX7_shorter_1 : decode cX7_shorter 1 = .ok (.iload_n 2, 1) := by decide +kernel
theorem dX7_shorter_2 : decode cX7_shorter 2 = .ok (.iload_n 3, 1) := by decide +kernel
theorem dX7_shorter_3 : decode cX7_shorter 3 = .ok (.invokestatic 146, 3) := by decide +kernel
theorem dX7_shorter_6 : decode cX7_shorter 6 = .ok (.ifCond .ne 6, 3) := by decide +kernel
theorem dX7_shorter_9 : decode cX7_shorter 9 = .ok (.bipush (-2), 2) := by decide +kernel
theorem dX7_shorter_11 : decode cX7_shorter 11 = .ok (.ireturn, 1) := by decide +kernel
theorem dX7_shorter_12 : decode cX7_shorter 12 = .ok (.aload_n 0, 1) := by decide +kernel
theorem dX7_shorter_13 : decode cX7_shorter 13 = .ok (.iload_n 1, 1) := by decide +kernel
theorem dX7_shorter_14 : decode cX7_shorter 14 = .ok (.iload_n 2, 1) := by decide +kernel
theorem dX7_shorter_15 : decode cX7_shorter 15 = .ok (.iload_n 3, 1) := by decide +kernel
theorem dX7_shorter_16 : decode cX7_shorter 16 = .ok (.invokevirtual 149, 3) := by decide +kernel
theorem dX7_shorter_19 : decode cX7_shorter 19 = .ok (.aload_n 0, 1) := by decide +kernel
theorem dX7_shorter_20 : decode cX7_shorter 20 = .ok (.getfield 57, 3) := by decide +kernel
theorem dX7_shorter_23 : decode cX7_shorter 23 = .ok (.istore 4, 2) := by decide +kernel
theorem dX7_shorter_25 : decode cX7_shorter 25 = .ok (.iconst 0, 1) := by decide +kernel
theorem dX7_shorter_26 : decode cX7_shorter 26 = .ok (.istore 5, 2) := by decide +kernel
theorem dX7_shorter_28 : decode cX7_shorter 28 = .ok (.iconst 0, 1) := by decide +kernel
theorem dX7_shorter_29 : decode cX7_shorter 29 = .ok (.istore 6, 2) := by decide +kernel
theorem dX7_shorter_31 : decode cX7_shorter 31 = .ok (.iload 6, 2) := by decide +kernel
theorem dX7_shorter_33 : decode cX7_shorter 33 = .ok (.aload_n 0, 1) := by decide +kernel
theorem dX7_shorter_34 : decode cX7_shorter 34 = .ok (.getfield 53, 3) := by decide +kernel
theorem dX7_shorter_37 : decode cX7_shorter 37 = .ok (.if_icmp .ge 139, 3) := by decide +kernel
theorem dX7_shorter_40 : decode cX7_shorter 40 = .ok (.aload_n 0, 1) := by decide +kernel
theorem dX7_shorter_41 : decode cX7_shorter 41 = .ok (.getfield 7, 3) := by decide +kernel
theorem dX7_shorter_44 : decode cX7_shorter 44 = .ok (.iload 6, 2) := by decide +kernel
theorem dX7_shorter_46 : decode cX7_shorter 46 = .ok (.iaload, 1) := by decide +kernel
theorem dX7_shorter_47 : decode cX7_shorter 47 = .ok (.istore 7, 2) := by decide +kernel
theorem dX7_shorter_49 : decode cX7_shorter 49 = .ok (.aload_n 0, 1) := by decide +kernel
theorem dX7_shorter_50 : decode cX7_shorter 50 = .ok (.dup, 1) := by decide +kernel
theorem dX7_shorter_51 : decode cX7_shorter 51 = .ok (.getfield 53, 3) := by decide +kernel
theorem dX7_shorter_54 : decode cX7_shorter 54 = .ok (.iconst 1, 1) := by decide +kernel
theorem dX7_shorter_55 : decode cX7_shorter 55 = .ok (.isub, 1) := by decide +kernel
theorem dX7_shorter_56 : decode cX7_shorter 56 = .ok (.putfield 53, 3) := by decide +kernel
theorem dX7_shorter_59 : decode cX7_shorter 59 = .ok (.iload 6, 2) := by decide +kernel
theorem dX7_shorter_61 : decode cX7_shorter 61 = .ok (.istore 8, 2) := by decide +kernel
theorem dX7_shorter_63 : decode cX7_shorter 63 = .ok (.iload 8, 2) := by decide +kernel
theorem dX7_shorter_65 : decode cX7_shorter 65 = .ok (.aload_n 0, 1) := by decide +kernel
theorem dX7_shorter_66 : decode cX7_shorter 66 = .ok (.getfield 53, 3) := by decide +kernel
theorem dX7_shorter_69 : decode cX7_shorter 69 = .ok (.if_icmp .ge 25, 3) := by decide +kernel
theorem dX7_shorter_72 : decode cX7_shorter 72 = .ok (.aload_n 0, 1) := by decide +kernel
theorem dX7_shorter_73 : decode cX7_shorter 73 = .ok (.getfield 7, 3) := by decide +kernel
theorem dX7_shorter_76 : decode cX7_shorter 76 = .ok (.iload 8, 2) := by decide +kernel
theorem dX7_shorter_78 : decode cX7_shorter 78 = .ok (.aload_n 0, 1) := by decide +kernel
theorem dX7_shorter_79 : decode cX7_shorter 79 = .ok (.getfield 7, 3) := by decide +kernel
theorem dX7_shorter_82 : decode cX7_shorter 82 = .ok (.iload 8, 2) := by decide +kernel
theorem dX7_shorter_84 : decode cX7_shorter 84 = .ok (.iconst 1, 1) := by decide +kernel
theorem dX7_shorter_85 : decode cX7_shorter 85 = .ok (.iadd, 1) := by decide +kernel
theorem dX7_shorter_86 : decode cX7_shorter 86 = .ok (.iaload, 1) := by decide +kernel
theorem dX7_shorter_87 : decode cX7_shorter 87 = .ok (.iastore, 1) := by decide +kernel
theorem dX7_shorter_88 : decode cX7_shorter 88 = .ok (.iinc 8 1, 3) := by decide +kernel
theorem dX7_shorter_91 : decode cX7_shorter 91 = .ok (.goto (-28), 3) := by decide +kernel
theorem dX7_shorter_94 : decode cX7_shorter 94 = .ok (.aload_n 0, 1) := by decide +kernel
theorem dX7_shorter_95 : decode cX7_shorter 95 = .ok (.iload_n 1, 1) := by decide +kernel
theorem dX7_shorter_96 : decode cX7_shorter 96 = .ok (.iload_n 2, 1) := by decide +kernel
theorem dX7_shorter_97 : decode cX7_shorter 97 = .ok (.iload_n 3, 1) := by decide +kernel
theorem dX7_shorter_98 : decode cX7_shorter 98 = .ok (.invokevirtual 149, 3) := by decide +kernel
theorem dX7_shorter_101 : decode cX7_shorter 101 = .ok (.aload_n 0, 1) := by decide +kernel
theorem dX7_shorter_102 : decode cX7_shorter 102 = .ok (.getfield 57, 3) := by decide +kernel
theorem dX7_shorter_105 : decode cX7_shorter 105 = .ok (.iload 4, 2) := by decide +kernel
theorem dX7_shorter_107 : decode cX7_shorter 107 = .ok (.if_icmp .ne 9, 3) := by decide +kernel
theorem dX7_shorter_110 : decode cX7_shorter 110 = .ok (.iinc 5 1, 3) := by decide +kernel
theorem dX7_shorter_113 : decode cX7_shorter 113 = .ok (.goto 60, 3) := by decide +kernel
theorem dX7_shorter_116 : decode cX7_shorter 116 = .ok (.aload_n 0, 1) := by decide +kernel
theorem dX7_shorter_117 : decode cX7_shorter 117 = .ok (.getfield 53, 3) := by decide +kernel
theorem dX7_shorter_120 : decode cX7_shorter 120 = .ok (.istore 8, 2) := by decide +kernel
theorem dX7_shorter_122 : decode cX7_shorter 122 = .ok (.iload 8, 2) := by decide +kernel
theorem dX7_shorter_124 : decode cX7_shorter 124 = .ok (.iload 6, 2) := by decide +kernel
theorem dX7_shorter_126 : decode cX7_shorter 126 = .ok (.if_icmp .le 25, 3) := by decide +kernel
theorem dX7_shorter_129 : decode cX7_shorter 129 = .ok (.aload_n 0, 1) := by decide +kernel
theorem dX7_shorter_130 : decode cX7_shorter 130 = .ok (.getfield 7, 3) := by decide +kernel
theorem dX7_shorter_133 : decode cX7_shorter 133 = .ok (.iload 8, 2) := by decide +kernel
theorem dX7_shorter_135 : decode cX7_shorter 135 = .ok (.aload_n 0, 1) := by decide +kernel
theorem dX7_shorter_136 : decode cX7_shorter 136 = .ok (.getfield 7, 3) := by decide +kernel
theorem dX7_shorter_139 : decode cX7_shorter 139 = .ok (.iload 8, 2) := by decide +kernel
theorem dX7_shorter_141 : decode cX7_shorter 141 = .ok (.iconst 1, 1) := by decide +kernel
theorem dX7_shorter_142 : decode cX7_shorter 142 = .ok (.isub, 1) := by decide +kernel
theorem dX7_shorter_143 : decode cX7_shorter 143 = .ok (.iaload, 1) := by decide +kernel
theorem dX7_shorter_144 : decode cX7_shorter 144 = .ok (.iastore, 1) := by decide +kernel
theorem dX7_shorter_145 : decode cX7_shorter 145 = .ok (.iinc 8 (-1), 3) := by decide +kernel
theorem dX7_shorter_148 : decode cX7_shorter 148 = .ok (.goto (-26), 3) := by decide +kernel
theorem dX7_shorter_151 : decode cX7_shorter 151 = .ok (.aload_n 0, 1) := by decide +kernel
theorem dX7_shorter_152 : decode cX7_shorter 152 = .ok (.getfield 7, 3) := by decide +kernel
theorem dX7_shorter_155 : decode cX7_shorter 155 = .ok (.iload 6, 2) := by decide +kernel
theorem dX7_shorter_157 : decode cX7_shorter 157 = .ok (.iload 7, 2) := by decide +kernel
theorem dX7_shorter_159 : decode cX7_shorter 159 = .ok (.iastore, 1) := by decide +kernel
theorem dX7_shorter_160 : decode cX7_shorter 160 = .ok (.aload_n 0, 1) := by decide +kernel
theorem dX7_shorter_161 : decode cX7_shorter 161 = .ok (.dup, 1) := by decide +kernel
theorem dX7_shorter_162 : decode cX7_shorter 162 = .ok (.getfield 53, 3) := by decide +kernel
theorem dX7_shorter_165 : decode cX7_shorter 165 = .ok (.iconst 1, 1) := by decide +kernel
theorem dX7_shorter_166 : decode cX7_shorter 166 = .ok (.iadd, 1) := by decide +kernel
theorem dX7_shorter_167 : decode cX7_shorter 167 = .ok (.putfield 53, 3) := by decide +kernel
theorem dX7_shorter_170 : decode cX7_shorter 170 = .ok (.iinc 6 1, 3) := by decide +kernel
theorem dX7_shorter_173 : decode cX7_shorter 173 = .ok (.goto (-142), 3) := by decide +kernel
theorem dX7_shorter_176 : decode cX7_shorter 176 = .ok (.iload 5, 2) := by decide +kernel
theorem dX7_shorter_178 : decode cX7_shorter 178 = .ok (.ireturn, 1) := by decide +kernel
theorem dJ9_max_7cf53_0 : decode cJ9_max_7cf53 0 = .ok (.iload_n 0, 1) := by decide +kernel
theorem dJ9_max_7cf53_1 : decode cJ9_max_7cf53 1 = .ok (.iload_n 1, 1) := by decide +kernel
theorem dJ9_max_7cf53_2 : decode cJ9_max_7cf53 2 = .ok (.if_icmp .lt 7, 3) := by decide +kernel
theorem dJ9_max_7cf53_5 : decode cJ9_max_7cf53 5 = .ok (.iload_n 0, 1) := by decide +kernel
theorem dJ9_max_7cf53_6 : decode cJ9_max_7cf53 6 = .ok (.goto 4, 3) := by decide +kernel
theorem dJ9_max_7cf53_9 : decode cJ9_max_7cf53 9 = .ok (.iload_n 1, 1) := by decide +kernel
theorem dJ9_max_7cf53_10 : decode cJ9_max_7cf53 10 = .ok (.ireturn, 1) := by decide +kernel
theorem dJ9_min_7cf53_0 : decode cJ9_min_7cf53 0 = .ok (.iload_n 0, 1) := by decide +kernel
theorem dJ9_min_7cf53_1 : decode cJ9_min_7cf53 1 = .ok (.iload_n 1, 1) := by decide +kernel
theorem dJ9_min_7cf53_2 : decode cJ9_min_7cf53 2 = .ok (.if_icmp .gt 7, 3) := by decide +kernel
theorem dJ9_min_7cf53_5 : decode cJ9_min_7cf53 5 = .ok (.iload_n 0, 1) := by decide +kernel
theorem dJ9_min_7cf53_6 : decode cJ9_min_7cf53 6 = .ok (.goto 4, 3) := by decide +kernel
theorem dJ9_min_7cf53_9 : decode cJ9_min_7cf53 9 = .ok (.iload_n 1, 1) := by decide +kernel
theorem dJ9_min_7cf53_10 : decode cJ9_min_7cf53 10 = .ok (.ireturn, 1) := by decide +kernel
abbrev vwCl : List vw_C := [(RX0, TX0, 12), (RX1, TX1, 12), (RX2, TX2, 5), (RX3, TX3, 6), (RX4, TX4, 2), (RX5, TX5, 2), (RX6, TX6, 8), (RX7, TX7, 33)]
