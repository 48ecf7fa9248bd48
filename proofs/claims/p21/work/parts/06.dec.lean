theorem dX6_heard_45 : decode cX6_heard 45 = .ok (.getfield 35, 3) := by decide +kernel
theorem dX6_heard_48 : decode cX6_heard 48 = .ok (.iload_n 3, 1) := by decide +kernel
theorem dX6_heard_49 : decode cX6_heard 49 = .ok (.iaload, 1) := by decide +kernel
theorem dX6_heard_50 : decode cX6_heard 50 = .ok (.istore_n 2, 1) := by decide +kernel
theorem dX6_heard_51 : decode cX6_heard 51 = .ok (.iinc 3 (-1), 3) := by decide +kernel
theorem dX6_heard_54 : decode cX6_heard 54 = .ok (.goto (-44), 3) := by decide +kernel
theorem dX6_heard_57 : decode cX6_heard 57 = .ok (.iload_n 2, 1) := by decide +kernel
theorem dX6_heard_58 : decode cX6_heard 58 = .ok (.ireturn, 1) := by decide +kernel
set_option maxRecDepth 20000 in
theorem ggX6_pass_X5_copy : GoodIn wsX6_pass wsX5_copy := goodIn_r _ [14, 15, 16, 13, 17, 18, 19, 20, 21, 22, 23, 24, 25, 26, 27, 28, 29, 30, 45, 46, 47, 48, 49, 50, 51] (by decide +kernel) (by decide +kernel)
set_option maxRecDepth 20000 in
theorem gX6_pass_X5_copy : GoodIn wsX6_pass (wsV RX6 16 RX5 yX5_copy wsX5_copy) := goodIn_app (goodIn_of _ (by decide +kernel)) ggX6_pass_X5_copy
set_option maxRecDepth 20000 in
theorem ggX6_pass_X6_heard : GoodIn wsX6_pass wsX6_heard := goodIn_r _ [35, 36, 1, 37, 45, 46, 47, 48, 49, 50, 51, 42, 43, 44] (by decide +kernel) (by decide +kernel)
set_option maxRecDepth 20000 in
theorem gX6_pass_X6_heard : GoodIn wsX6_pass (wsV RX6 39 RX6 yX6_heard wsX6_heard) := goodIn_app (goodIn_of _ (by decide +kernel)) ggX6_pass_X6_heard
set_option maxRecDepth 20000 in
theorem ggX6_pass_X5_word : GoodIn wsX6_pass wsX5_word := goodIn_r _ [41, 17, 45, 46, 47, 48, 49, 50, 51] (by decide +kernel) (by decide +kernel)
set_option maxRecDepth 20000 in
theorem gX6_pass_X5_word : GoodIn wsX6_pass (wsV RX6 43 RX5 yX5_word wsX5_word) := goodIn_app (goodIn_of _ (by decide +kernel)) ggX6_pass_X5_word
theorem dX6_pass_0 : decode cX6_pass 0 = .ok (.aload_n 0, 1) := by decide +kernel
theorem dX6_pass_1 : decode cX6_pass 1 = .ok (.getfield 9, 3) := by decide +kernel
theorem dX6_pass_4 : decode cX6_pass 4 = .ok (.arraylength, 1) := by decide +kernel
theorem dX6_pass_5 : decode cX6_pass 5 = .ok (.anewarray 7, 3) := by decide +kernel
theorem dX6_pass_8 : decode cX6_pass 8 = .ok (.astore_n 1, 1) := by decide +kernel
theorem dX6_pass_9 : decode cX6_pass 9 = .ok (.iconst 0, 1) := by decide +kernel
theorem dX6_pass_10 : decode cX6_pass 10 = .ok (.istore_n 2, 1) := by decide +kernel
theorem dX6_pass_11 : decode cX6_pass 11 = .ok (.iconst 0, 1) := by decide +kernel
theorem dX6_pass_12 : decode cX6_pass 12 = .ok (.istore_n 3, 1) := by decide +kernel
theorem dX6_pass_13 : decode cX6_pass 13 = .ok (.iload_n 3, 1) := by decide +kernel
theorem dX6_pass_14 : decode cX6_pass 14 = .ok (.aload_n 0, 1) := by decide +kernel
theorem dX6_pass_15 : decode cX6_pass 15 = .ok (.getfield 9, 3) := by decide +kernel
theorem dX6_pass_18 : decode cX6_pass 18 = .ok (.arraylength, 1) := by decide +kernel
theorem dX6_pass_19 : decode cX6_pass 19 = .ok (.if_icmp .ge 221, 3) := by decide +kernel
theorem dX6_pass_22 : decode cX6_pass 22 = .ok (.aload_n 0, 1) := by decide +kernel
theorem dX6_pass_23 : decode cX6_pass 23 = .ok (.getfield 9, 3) := by decide +kernel
theorem dX6_pass_26 : decode cX6_pass 26 = .ok (.iload_n 3, 1) := by decide +kernel
theorem dX6_pass_27 : decode cX6_pass 27 = .ok (.aaload, 1) := by decide +kernel
theorem dX6_pass_28 : decode cX6_pass 28 = .ok (.invokevirtual 16, 3) := by decide +kernel
theorem dX6_pass_31 : decode cX6_pass 31 = .ok (.astore 4, 2) := by decide +kernel
theorem dX6_pass_33 : decode cX6_pass 33 = .ok (.aload_n 1, 1) := by decide +kernel
theorem dX6_pass_34 : decode cX6_pass 34 = .ok (.iload_n 3, 1) := by decide +kernel
theorem dX6_pass_35 : decode cX6_pass 35 = .ok (.aload 4, 2) := by decide +kernel
theorem dX6_pass_37 : decode cX6_pass 37 = .ok (.aastore, 1) := by decide +kernel
theorem dX6_pass_38 : decode cX6_pass 38 = .ok (.aload_n 0, 1) := by decide +kernel
theorem dX6_pass_39 : decode cX6_pass 39 = .ok (.aload 4, 2) := by decide +kernel
theorem dX6_pass_41 : decode cX6_pass 41 = .ok (.invokevirtual 39, 3) := by decide +kernel
theorem dX6_pass_44 : decode cX6_pass 44 = .ok (.istore 5, 2) := by decide +kernel
theorem dX6_pass_46 : decode cX6_pass 46 = .ok (.iload 5, 2) := by decide +kernel
theorem dX6_pass_48 : decode cX6_pass 48 = .ok (.ifCond .lt 152, 3) := by decide +kernel
theorem dX6_pass_51 : decode cX6_pass 51 = .ok (.aload_n 0, 1) := by decide +kernel
theorem dX6_pass_52 : decode cX6_pass 52 = .ok (.getfield 9, 3) := by decide +kernel
theorem dX6_pass_55 : decode cX6_pass 55 = .ok (.iload 5, 2) := by decide +kernel
theorem dX6_pass_57 : decode cX6_pass 57 = .ok (.aaload, 1) := by decide +kernel
theorem dX6_pass_58 : decode cX6_pass 58 = .ok (.astore 6, 2) := by decide +kernel
theorem dX6_pass_60 : decode cX6_pass 60 = .ok (.iload_n 3, 1) := by decide +kernel
theorem dX6_pass_61 : decode cX6_pass 61 = .ok (.iconst 2, 1) := by decide +kernel
theorem dX6_pass_62 : decode cX6_pass 62 = .ok (.irem, 1) := by decide +kernel
theorem dX6_pass_63 : decode cX6_pass 63 = .ok (.istore 7, 2) := by decide +kernel
theorem dX6_pass_65 : decode cX6_pass 65 = .ok (.aload 4, 2) := by decide +kernel
theorem dX6_pass_67 : decode cX6_pass 67 = .ok (.invokevirtual 43, 3) := by decide +kernel
theorem dX6_pass_70 : decode cX6_pass 70 = .ok (.aload 6, 2) := by decide +kernel
theorem dX6_pass_72 : decode cX6_pass 72 = .ok (.invokevirtual 43, 3) := by decide +kernel
theorem dX6_pass_75 : decode cX6_pass 75 = .ok (.if_icmp .ne 27, 3) := by decide +kernel
theorem dX6_pass_78 : decode cX6_pass 78 = .ok (.aload 4, 2) := by decide +kernel
theorem dX6_pass_80 : decode cX6_pass 80 = .ok (.getfield 47, 3) := by decide +kernel
theorem dX6_pass_83 : decode cX6_pass 83 = .ok (.bipush 9, 2) := by decide +kernel
theorem dX6_pass_85 : decode cX6_pass 85 = .ok (.if_icmp .ge 115, 3) := by decide +kernel
theorem dX6_pass_88 : decode cX6_pass 88 = .ok (.aload 4, 2) := by decide +kernel
theorem dX6_pass_90 : decode cX6_pass 90 = .ok (.dup, 1) := by decide +kernel
theorem dX6_pass_91 : decode cX6_pass 91 = .ok (.getfield 47, 3) := by decide +kernel
theorem dX6_pass_94 : decode cX6_pass 94 = .ok (.iconst 1, 1) := by decide +kernel
theorem dX6_pass_95 : decode cX6_pass 95 = .ok (.iadd, 1) := by decide +kernel
theorem dX6_pass_96 : decode cX6_pass 96 = .ok (.putfield 47, 3) := by decide +kernel
theorem dX6_pass_99 : decode cX6_pass 99 = .ok (.goto 101, 3) := by decide +kernel
theorem dX6_pass_102 : decode cX6_pass 102 = .ok (.aload 4, 2) := by decide +kernel
theorem dX6_pass_104 : decode cX6_pass 104 = .ok (.getfield 47, 3) := by decide +kernel
theorem dX6_pass_107 : decode cX6_pass 107 = .ok (.aload 6, 2) := by decide +kernel
theorem dX6_pass_109 : decode cX6_pass 109 = .ok (.getfield 47, 3) := by decide +kernel
theorem dX6_pass_112 : decode cX6_pass 112 = .ok (.if_icmp .le 17, 3) := by decide +kernel
theorem dX6_pass_115 : decode cX6_pass 115 = .ok (.aload 4, 2) := by decide +kernel
theorem dX6_pass_117 : decode cX6_pass 117 = .ok (.dup, 1) := by decide +kernel
theorem dX6_pass_118 : decode cX6_pass 118 = .ok (.getfield 47, 3) := by decide +kernel
theorem dX6_pass_121 : decode cX6_pass 121 = .ok (.iconst 1, 1) := by decide +kernel
theorem dX6_pass_122 : decode cX6_pass 122 = .ok (.isub, 1) := by decide +kernel
theorem dX6_pass_123 : decode cX6_pass 123 = .ok (.putfield 47, 3) := by decide +kernel
theorem dX6_pass_126 : decode cX6_pass 126 = .ok (.goto 74, 3) := by decide +kernel
theorem dX6_pass_129 : decode cX6_pass 129 = .ok (.aload 4, 2) := by decide +kernel
theorem dX6_pass_131 : decode cX6_pass 131 = .ok (.getfield 50, 3) := by decide +kernel
theorem dX6_pass_134 : decode cX6_pass 134 = .ok (.iload 7, 2) := by decide +kernel
theorem dX6_pass_136 : decode cX6_pass 136 = .ok (.aload 6, 2) := by decide +kernel
theorem dX6_pass_138 : decode cX6_pass 138 = .ok (.getfield 50, 3) := by decide +kernel
theorem dX6_pass_141 : decode cX6_pass 141 = .ok (.iload 7, 2) := by decide +kernel
theorem dX6_pass_143 : decode cX6_pass 143 = .ok (.iaload, 1) := by decide +kernel
theorem dX6_pass_144 : decode cX6_pass 144 = .ok (.iastore, 1) := by decide +kernel
theorem dX6_pass_145 : decode cX6_pass 145 = .ok (.aload 4, 2) := by decide +kernel
theorem dX6_pass_147 : decode cX6_pass 147 = .ok (.getfield 53, 3) := by decide +kernel
theorem dX6_pass_150 : decode cX6_pass 150 = .ok (.iload 7, 2) := by decide +kernel
theorem dX6_pass_152 : decode cX6_pass 152 = .ok (.iload 5, 2) := by decide +kernel
theorem dX6_pass_154 : decode cX6_pass 154 = .ok (.iastore, 1) := by decide +kernel
theorem dX6_pass_155 : decode cX6_pass 155 = .ok (.aload 4, 2) := by decide +kernel
theorem dX6_pass_157 : decode cX6_pass 157 = .ok (.getfield 56, 3) := by decide +kernel
theorem dX6_pass_160 : decode cX6_pass 160 = .ok (.iload 7, 2) := by decide +kernel
theorem dX6_pass_162 : decode cX6_pass 162 = .ok (.aload 6, 2) := by decide +kernel
theorem dX6_pass_164 : decode cX6_pass 164 = .ok (.getfield 56, 3) := by decide +kernel
theorem dX6_pass_167 : decode cX6_pass 167 = .ok (.iload 7, 2) := by decide +kernel
theorem dX6_pass_169 : decode cX6_pass 169 = .ok (.iaload, 1) := by decide +kernel
theorem dX6_pass_170 : decode cX6_pass 170 = .ok (.bipush 99, 2) := by decide +kernel
theorem dX6_pass_172 : decode cX6_pass 172 = .ok (.if_icmp .ge 16, 3) := by decide +kernel
theorem dX6_pass_175 : decode cX6_pass 175 = .ok (.aload 6, 2) := by decide +kernel
theorem dX6_pass_177 : decode cX6_pass 177 = .ok (.getfield 56, 3) := by decide +kernel
theorem dX6_pass_180 : decode cX6_pass 180 = .ok (.iload 7, 2) := by decide +kernel
theorem dX6_pass_182 : decode cX6_pass 182 = .ok (.iaload, 1) := by decide +kernel
theorem dX6_pass_183 : decode cX6_pass 183 = .ok (.iconst 1, 1) := by decide +kernel
theorem dX6_pass_184 : decode cX6_pass 184 = .ok (.iadd, 1) := by decide +kernel
theorem dX6_pass_185 : decode cX6_pass 185 = .ok (.goto 5, 3) := by decide +kernel
theorem dX6_pass_188 : decode cX6_pass 188 = .ok (.bipush 99, 2) := by decide +kernel
theorem dX6_pass_190 : decode cX6_pass 190 = .ok (.iastore, 1) := by decide +kernel
theorem dX6_pass_191 : decode cX6_pass 191 = .ok (.aload 4, 2) := by decide +kernel
theorem dX6_pass_193 : decode cX6_pass 193 = .ok (.iconst 1, 1) := by decide +kernel
theorem dX6_pass_194 : decode cX6_pass 194 = .ok (.putfield 47, 3) := by decide +kernel
theorem dX6_pass_197 : decode cX6_pass 197 = .ok (.iinc 2 1, 3) := by decide +kernel
theorem dX6_pass_200 : decode cX6_pass 200 = .ok (.aload_n 0, 1) := by decide +kernel
theorem dX6_pass_201 : decode cX6_pass 201 = .ok (.getfield 20, 3) := by decide +kernel
theorem dX6_pass_204 : decode cX6_pass 204 = .ok (.aload 4, 2) := by decide +kernel
theorem dX6_pass_206 : decode cX6_pass 206 = .ok (.getfield 25, 3) := by decide +kernel
theorem dX6_pass_209 : decode cX6_pass 209 = .ok (.iconst 1, 1) := by decide +kernel
theorem dX6_pass_210 : decode cX6_pass 210 = .ok (.iadd, 1) := by decide +kernel
theorem dX6_pass_211 : decode cX6_pass 211 = .ok (.irem, 1) := by decide +kernel
theorem dX6_pass_212 : decode cX6_pass 212 = .ok (.ifCond .ne 22, 3) := by decide +kernel
theorem dX6_pass_215 : decode cX6_pass 215 = .ok (.aload 4, 2) := by decide +kernel
theorem dX6_pass_217 : decode cX6_pass 217 = .ok (.getfield 47, 3) := by decide +kernel
theorem dX6_pass_220 : decode cX6_pass 220 = .ok (.ifCond .le 14, 3) := by decide +kernel
theorem dX6_pass_223 : decode cX6_pass 223 = .ok (.aload 4, 2) := by decide +kernel
theorem dX6_pass_225 : decode cX6_pass 225 = .ok (.dup, 1) := by decide +kernel
theorem dX6_pass_226 : decode cX6_pass 226 = .ok (.getfield 47, 3) := by decide +kernel
theorem dX6_pass_229 : decode cX6_pass 229 = .ok (.iconst 1, 1) := by decide +kernel
theorem dX6_pass_230 : decode cX6_pass 230 = .ok (.isub, 1) := by decide +kernel
theorem dX6_pass_231 : decode cX6_pass 231 = .ok (.putfield 47, 3) := by decide +kernel
theorem dX6_pass_234 : decode cX6_pass 234 = .ok (.iinc 3 1, 3) := by decide +kernel
theorem dX6_pass_237 : decode cX6_pass 237 = .ok (.goto (-224), 3) := by decide +kernel
theorem dX6_pass_240 : decode cX6_pass 240 = .ok (.aload_n 0, 1) := by decide +kernel
theorem dX6_pass_241 : decode cX6_pass 241 = .ok (.aload_n 1, 1) := by decide +kernel
theorem dX6_pass_242 : decode cX6_pass 242 = .ok (.putfield 9, 3) := by decide +kernel
theorem dX6_pass_245 : decode cX6_pass 245 = .ok (.aload_n 0, 1) := by decide +kernel
theorem dX6_pass_246 : decode cX6_pass 246 = .ok (.dup, 1) := by decide +kernel
theorem dX6_pass_247 : decode cX6_pass 247 = .ok (.getfield 20, 3) := by decide +kernel
theorem dX6_pass_250 : decode cX6_pass 250 = .ok (.iconst 1, 1) := by decide +kernel
theorem dX6_pass_251 : decode cX6_pass 251 = .ok (.iadd, 1) := by decide +kernel
theorem dX6_pass_252 : decode cX6_pass 252 = .ok (.putfield 20, 3) := by decide +kernel
theorem dX6_pass_255 : decode cX6_pass 255 = .ok (.aload_n 0, 1) := by decide +kernel
theorem dX6_pass_256 : decode cX6_pass 256 = .ok (.dup, 1) := by decide +kernel
theorem dX6_pass_257 : decode cX6_pass 257 = .ok (.getfield 59, 3) := by decide +kernel
theorem dX6_pass_260 : decode cX6_pass 260 = .ok (.iload_n 2, 1) := by decide +kernel
theorem dX6_pass_261 : decode cX6_pass 261 = .ok (.iadd, 1) := by decide +kernel
theorem dX6_pass_262 : decode cX6_pass 262 = .ok (.putfield 59, 3) := by decide +kernel
theorem dX6_pass_265 : decode cX6_pass 265 = .ok (.iload_n 2, 1) := by decide +kernel
theorem dX6_pass_266 : decode cX6_pass 266 = .ok (.ireturn, 1) := by decide +kernel
set_option maxRecDepth 20000 in
theorem ggX6_words_X5_word : GoodIn wsX6_words wsX5_word := goodIn_r _ [6, 7, 11, 12, 13, 14, 15, 16, 17] (by decide +kernel) (by decide +kernel)
set_option maxRecDepth 20000 in
theorem gX6_words_X5_word : GoodIn wsX6_words (wsV RX6 43 RX5 yX5_word wsX5_word) := goodIn_app (goodIn_of _ (by decide +kernel)) ggX6_words_X5_word
theorem dX6_words_0 : decode cX6_words 0 = .ok (.iconst 0, 1) := by decide +kernel
theorem dX6_words_1 : decode cX6_words 1 = .ok (.istore_n 1, 1) := by decide +kernel
theorem dX6_words_2 : decode cX6_words 2 = .ok (.iconst 0, 1) := by decide +kernel
theorem dX6_words_3 : decode cX6_words 3 = .ok (.istore_n 2, 1) := by decide +kernel
theorem dX6_words_4 : decode cX6_words 4 = .ok (.iload_n 2, 1) := by decide +kernel
theorem dX6_words_5 : decode cX6_words 5 = .ok (.aload_n 0, 1) := by decide +kernel
theorem dX6_words_6 : decode cX6_words 6 = .ok (.getfield 9, 3) := by decide +kernel
theorem dX6_words_9 : decode cX6_words 9 = .ok (.arraylength, 1) := by decide +kernel
theorem dX6_words_10 : decode cX6_words 10 = .ok (.if_icmp .ge 76, 3) := by decide +kernel
theorem dX6_words_13 : decode cX6_words 13 = .ok (.iconst 1, 1) := by decide +kernel
theorem dX6_words_14 : decode cX6_words 14 = .ok (.istore_n 3, 1) := by decide +kernel
theorem dX6_words_15 : decode cX6_words 15 = .ok (.iload_n 2, 1) := by decide +kernel
theorem dX6_words_16 : decode cX6_words 16 = .ok (.iconst 1, 1) := by decide +kernel
theorem dX6_words_17 : decode cX6_words 17 = .ok (.iadd, 1) := by decide +kernel
theorem dX6_words_18 : decode cX6_words 18 = .ok (.istore 4, 2) := by decide +kernel
theorem dX6_words_20 : decode cX6_words 20 = .ok (.iload 4, 2) := by decide +kernel
theorem dX6_words_22 : decode cX6_words 22 = .ok (.aload_n 0, 1) := by decide +kernel
theorem dX6_words_23 : decode cX6_words 23 = .ok (.getfield 9, 3) := by decide +kernel
theorem dX6_words_26 : decode cX6_words 26 = .ok (.arraylength, 1) := by decide +kernel
theorem dX6_words_27 : decode cX6_words 27 = .ok (.if_icmp .ge 41, 3) := by decide +kernel
theorem dX6_words_30 : decode cX6_words 30 = .ok (.iload_n 3, 1) := by decide +kernel
theorem dX6_words_31 : decode cX6_words 31 = .ok (.ifCond .eq 29, 3) := by decide +kernel
theorem dX6_words_34 : decode cX6_words 34 = .ok (.aload_n 0, 1) := by decide +kernel
theorem dX6_words_35 : decode cX6_words 35 = .ok (.getfield 9, 3) := by decide +kernel
theorem dX6_words_38 : decode cX6_words 38 = .ok (.iload 4, 2) := by decide +kernel
theorem dX6_words_40 : decode cX6_words 40 = .ok (.aaload, 1) := by decide +kernel
theorem dX6_words_41 : decode cX6_words 41 = .ok (.invokevirtual 43, 3) := by decide +kernel
theorem dX6_words_44 : decode cX6_words 44 = .ok (.aload_n 0, 1) := by decide +kernel
theorem dX6_words_45 : decode cX6_words 45 = .ok (.getfield 9, 3) := by decide +kernel
theorem dX6_words_48 : decode cX6_words 48 = .ok (.iload_n 2, 1) := by decide +kernel
theorem dX6_words_49 : decode cX6_words 49 = .ok (.aaload, 1) := by decide +kernel
theorem dX6_words_50 : decode cX6_words 50 = .ok (.invokevirtual 43, 3) := by decide +kernel
theorem dX6_words_53 : decode cX6_words 53 = .ok (.if_icmp .eq 7, 3) := by decide +kernel
theorem dX6_words_56 : decode cX6_words 56 = .ok (.iconst 1, 1) := by decide +kernel
theorem dX6_words_57 : decode cX6_words 57 = .ok (.goto 4, 3) := by decide +kernel
theorem dX6_words_60 : decode cX6_words 60 = .ok (.iconst 0, 1) := by decide +kernel
theorem dX6_words_61 : decode cX6_words 61 = .ok (.istore_n 3, 1) := by decide +kernel
theorem dX6_words_62 : decode cX6_words 62 = .ok (.iinc 4 1, 3) := by decide +kernel
theorem dX6_words_65 : decode cX6_words 65 = .ok (.goto (-45), 3) := by decide +kernel
theorem dX6_words_68 : decode cX6_words 68 = .ok (.iload_n 1, 1) := by decide +kernel
theorem dX6_words_69 : decode cX6_words 69 = .ok (.iload_n 3, 1) := by decide +kernel
theorem dX6_words_70 : decode cX6_words 70 = .ok (.ifCond .eq 7, 3) := by decide +kernel
theorem dX6_words_73 : decode cX6_words 73 = .ok (.iconst 1, 1) := by decide +kernel
theorem dX6_words_74 : decode cX6_words 74 = .ok (.goto 4, 3) := by decide +kernel
theorem dX6_words_77 : decode cX6_words 77 = .ok (.iconst 0, 1) := by decide +kernel
theorem dX6_words_78 : decode cX6_words 78 = .ok (.iadd, 1) := by decide +kernel
theorem dX6_words_79 : decode cX6_words 79 = .ok (.istore_n 1, 1) := by decide +kernel
theorem dX6_words_80 : decode cX6_words 80 = .ok (.iinc 2 1, 3) := by decide +kernel
theorem dX6_words_83 : decode cX6_words 83 = .ok (.goto (-79), 3) := by decide +kernel
theorem dX6_words_86 : decode cX6_words 86 = .ok (.iload_n 1, 1) := by decide +kernel
theorem dX6_words_87 : decode cX6_words 87 = .ok (.ireturn, 1) := by decide +kernel
theorem dX6_sure_0 : decode cX6_sure 0 = .ok (.iconst 0, 1) := by decide +kernel
theorem dX6_sure_1 : decode cX6_sure 1 = .ok (.istore_n 1, 1) := by decide +kernel
theorem dX6_sure_2 : decode cX6_sure 2 = .ok (.aload_n 0, 1) := by decide +kernel
theorem dX6_sure_3 : decode cX6_sure 3 = .ok (.getfield 9, 3) := by decide +kernel
theorem dX6_sure_6 : decode cX6_sure 6 = .ok (.astore_n 2, 1) := by decide +kernel
theorem dX6_sure_7 : decode cX6_sure 7 = .ok (.aload_n 2, 1) := by decide +kernel
theorem dX6_sure_8 : decode cX6_sure 8 = .ok (.arraylength, 1) := by decide +kernel
theorem dX6_sure_9 : decode cX6_sure 9 = .ok (.istore_n 3, 1) := by decide +kernel
theorem dX6_sure_10 : decode cX6_sure 10 = .ok (.iconst 0, 1) := by decide +kernel
theorem dX6_sure_11 : decode cX6_sure 11 = .ok (.istore 4, 2) := by decide +kernel
theorem dX6_sure_13 : decode cX6_sure 13 = .ok (.iload 4, 2) := by decide +kernel
theorem dX6_sure_15 : decode cX6_sure 15 = .ok (.iload_n 3, 1) := by decide +kernel
theorem dX6_sure_16 : decode cX6_sure 16 = .ok (.if_icmp .ge 23, 3) := by decide +kernel
theorem dX6_sure_19 : decode cX6_sure 19 = .ok (.aload_n 2, 1) := by decide +kernel
theorem dX6_sure_20 : decode cX6_sure 20 = .ok (.iload 4, 2) := by decide +kernel
theorem dX6_sure_22 : decode cX6_sure 22 = .ok (.aaload, 1) := by decide +kernel
theorem dX6_sure_23 : decode cX6_sure 23 = .ok (.astore 5, 2) := by decide +kernel
theorem dX6_sure_25 : decode cX6_sure 25 = .ok (.iload_n 1, 1) := by decide +kernel
theorem dX6_sure_26 : decode cX6_sure 26 = .ok (.aload 5, 2) := by decide +kernel
theorem dX6_sure_28 : decode cX6_sure 28 = .ok (.getfield 47, 3) := by decide +kernel
theorem dX6_sure_31 : decode cX6_sure 31 = .ok (.iadd, 1) := by decide +kernel
theorem dX6_sure_32 : decode cX6_sure 32 = .ok (.istore_n 1, 1) := by decide +kernel
theorem dX6_sure_33 : decode cX6_sure 33 = .ok (.iinc 4 1, 3) := by decide +kernel
theorem dX6_sure_36 : decode cX6_sure 36 = .ok (.goto (-23), 3) := by decide +kernel
theorem dX6_sure_39 : decode cX6_sure 39 = .ok (.iload_n 1, 1) := by decide +kernel
theorem dX6_sure_40 : decode cX6_sure 40 = .ok (.ireturn, 1) := by decide +kernel
set_option maxRecDepth 20000 in
theorem ggX6_isSame_X5_place : GoodIn wsX6_isSame wsX5_place := goodIn_r _ [16, 17, 192, 193, 194, 195, 196, 197, 198] (by decide +kernel) (by decide +kernel)
set_option maxRecDepth 20000 in
theorem gX6_isSame_X5_place : GoodIn wsX6_isSame (wsV RX6 31 RX5 yX5_place wsX5_place) := goodIn_app (goodIn_of _ (by decide +kernel)) ggX6_isSame_X5_place
set_option maxRecDepth 20000 in
theorem ggX6_isSame_X5_word : GoodIn wsX6_isSame wsX5_word := goodIn_r _ [21, 22, 192, 193, 194, 195, 196, 197, 198] (by decide +kernel) (by decide +kernel)
set_option maxRecDepth 20000 in
theorem gX6_isSame_X5_word : GoodIn wsX6_isSame (wsV RX6 43 RX5 yX5_word wsX5_word) := goodIn_app (goodIn_of _ (by decide +kernel)) ggX6_isSame_X5_word
set_option maxRecDepth 20000 in
theorem ggX6_isSame_X6_heard : GoodIn wsX6_isSame wsX6_heard := goodIn_r _ [27, 6, 1, 5, 192, 193, 194, 195, 196, 197, 198, 189, 190, 191] (by decide +kernel) (by decide +kernel)
set_option maxRecDepth 20000 in
theorem gX6_isSame_X6_heard : GoodIn wsX6_isSame (wsV RX6 39 RX6 yX6_heard wsX6_heard) := goodIn_app (goodIn_of _ (by decide +kernel)) ggX6_isSame_X6_heard
set_option maxRecDepth 20000 in
theorem ggX6_isSame_X4_parrot : GoodIn wsX6_isSame wsX4_parrot := goodIn_ca (goodIn_r _ [32, 33, 34, 35, 31, 36, 37, 38, 39, 40, 41, 42, 43, 44, 45, 46, 47, 48, 49, 50, 51, 52, 53, 54, 55, 56, 57, 58, 59, 60, 61, 62, 63, 64, 65, 66, 67, 68, 69, 70, 71, 72, 73, 74, 75, 76, 77, 78, 79, 80, 81, 82, 83, 84, 85, 86, 87, 88, 89, 90, 91, 92, 93, 94, 95, 96, 97, 98, 99, 100, 101, 102, 103, 104, 105, 106, 107, 108, 109, 110, 111, 112, 113, 114, 199, 200, 201, 202, 203, 204, 205, 206, 207, 208, 209, 210, 211, 212, 213, 214, 215, 216] (by decide +kernel) (by decide +kernel)) (goodIn_sub (fun _ h => List.mem_cons_of_mem _ (List.mem_append_right _ h)) (by decide +kernel))
set_option maxRecDepth 20000 in
theorem gX6_isSame_X4_parrot : GoodIn wsX6_isSame (wsV RX6 66 RX4 yX4_parrot wsX4_parrot) := goodIn_app (goodIn_of _ (by decide +kernel)) ggX6_isSame_X4_parrot
set_option maxRecDepth 20000 in
theorem ggX6_isSame_X4_half : GoodIn wsX6_isSame wsX4_half := goodIn_ca (goodIn_r _ [118, 33, 34, 35, 31, 36, 37, 38, 39, 40, 41, 42, 43, 44, 45, 46, 47, 48, 49, 50, 51, 119, 120, 121, 122, 56, 123, 124, 125, 60, 126, 63, 62, 127, 65, 66, 67, 68, 69, 70, 71, 72, 73, 74, 75, 128, 129, 130, 131, 132, 133, 134, 135, 136, 137, 199, 200, 201, 202, 203, 204, 205, 206, 207, 208, 209, 210, 211, 212, 213, 214, 215, 216] (by decide +kernel) (by decide +kernel)) (goodIn_sub (fun _ h => List.mem_cons_of_mem _ (List.mem_append_right _ h)) (by decide +kernel))
set_option maxRecDepth 20000 in
theorem gX6_isSame_X4_half : GoodIn wsX6_isSame (wsV RX6 72 RX4 yX4_half wsX4_half) := goodIn_app (goodIn_of _ (by decide +kernel)) ggX6_isSame_X4_half
set_option maxRecDepth 20000 in
theorem ggX6_isSame_X4_hears : GoodIn wsX6_isSame wsX4_hears := goodIn_ca (goodIn_r _ [141, 37, 38, 39, 33, 34, 35, 31, 36, 40, 41, 42, 43, 44, 45, 93, 94, 95, 96, 97, 87, 71, 72, 73, 74, 75, 142, 107, 108, 109, 110, 199, 200, 201, 202, 203, 204, 205, 206, 207, 216] (by decide +kernel) (by decide +kernel)) (goodIn_sub (fun _ h => List.mem_cons_of_mem _ (List.mem_append_right _ h)) (by decide +kernel))
set_option maxRecDepth 20000 in
theorem gX6_isSame_X4_hears : GoodIn wsX6_isSame (wsV RX6 75 RX4 yX4_hears wsX4_hears) := goodIn_app (goodIn_of _ (by decide +kernel)) ggX6_isSame_X4_hears
set_option maxRecDepth 20000 in
theorem ggX6_isSame_X6_words : GoodIn wsX6_isSame wsX6_words := goodIn_r _ [146, 1, 18, 19, 20, 15, 21, 22, 189, 190, 191, 192, 193, 194, 195, 196, 197, 198] (by decide +kernel) (by decide +kernel)
set_option maxRecDepth 20000 in
theorem gX6_isSame_X6_words : GoodIn wsX6_isSame (wsV RX6 78 RX6 yX6_words wsX6_words) := goodIn_app (goodIn_of _ (by decide +kernel)) ggX6_isSame_X6_words
set_option maxRecDepth 20000 in
theorem ggX6_isSame_X6_sure : GoodIn wsX6_isSame wsX6_sure := goodIn_r _ [150, 1, 3, 189, 190, 191, 192, 193, 194, 195, 196, 197, 198] (by decide +kernel) (by decide +kernel)
set_option maxRecDepth 20000 in
theorem gX6_isSame_X6_sure : GoodIn wsX6_isSame (wsV RX6 81 RX6 yX6_sure wsX6_sure) := goodIn_app (goodIn_of _ (by decide +kernel)) ggX6_isSame_X6_sure
set_option maxRecDepth 20000 in
theorem ggX6_isSame_X4_count : GoodIn wsX6_isSame wsX4_count := goodIn_ca (goodIn_r _ [154, 46, 47, 31, 48, 37, 38, 49, 50, 51, 155, 156, 157, 158, 56, 39, 159, 160, 161, 60, 162, 163, 40, 41, 42, 43, 44, 45, 164, 165, 166, 167, 168, 169, 170, 171, 57, 58, 59, 61, 62, 63, 64, 65, 66, 67, 68, 69, 70, 71, 72, 73, 74, 75, 172, 173, 174, 175, 123, 124, 125, 126, 128, 129, 130, 131, 132, 176, 177, 178, 179, 76, 77, 78, 79, 80, 81, 180, 181, 182, 183, 184, 199, 200, 201, 202, 208, 209, 210, 211, 212, 203, 204, 205, 206, 207, 213, 214, 215, 216] (by decide +kernel) (by decide +kernel)) (goodIn_sub (fun _ h => List.mem_cons_of_mem _ (List.mem_append_right _ h)) (by decide +kernel))
set_option maxRecDepth 20000 in
theorem gX6_isSame_X4_count : GoodIn wsX6_isSame (wsV RX6 83 RX4 yX4_count wsX4_count) := goodIn_app (goodIn_of _ (by decide +kernel)) ggX6_isSame_X4_count
set_option maxRecDepth 20000 in
theorem ggX6_isSame_X4_mean : GoodIn wsX6_isSame wsX4_mean := goodIn_r _ [188, 39, 40, 41, 42, 43, 44, 45, 176, 177, 178, 31, 179, 56, 76, 77, 78, 60, 79, 80, 81, 71, 72, 73, 74, 75, 199, 200, 201, 202, 203, 204, 205, 206, 207, 208, 209, 210, 211, 212, 216] (by decide +kernel) (by decide +kernel)
set_option maxRecDepth 20000 in
theorem gX6_isSame_X4_mean : GoodIn wsX6_isSame (wsV RX6 86 RX4 yX4_mean wsX4_mean) := goodIn_app (goodIn_of _ (by decide +kernel)) ggX6_isSame_X4_mean
theorem dX6_isSame_0 : decode cX6_isSame 0 = .ok (.iconst 0, 1) := by decide +kernel
theorem dX6_isSame_1 : decode cX6_isSame 1 = .ok (.istore_n 2, 1) := by decide +kernel
theorem dX6_isSame_2 : decode cX6_isSame 2 = .ok (.iconst 0, 1) := by decide +kernel
theorem dX6_isSame_3 : decode cX6_isSame 3 = .ok (.istore_n 3, 1) := by decide +kernel
theorem dX6_isSame_4 : decode cX6_isSame 4 = .ok (.iload_n 3, 1) := by decide +kernel
theorem dX6_isSame_5 : decode cX6_isSame 5 = .ok (.aload_n 0, 1) := by decide +kernel
theorem dX6_isSame_6 : decode cX6_isSame 6 = .ok (.getfield 9, 3) := by decide +kernel
theorem dX6_isSame_9 : decode cX6_isSame 9 = .ok (.arraylength, 1) := by decide +kernel
theorem dX6_isSame_10 : decode cX6_isSame 10 = .ok (.if_icmp .ge 328, 3) := by decide +kernel
theorem dX6_isSame_13 : decode cX6_isSame 13 = .ok (.aload_n 0, 1) := by decide +kernel
theorem dX6_isSame_14 : decode cX6_isSame 14 = .ok (.getfield 9, 3) := by decide +kernel
theorem dX6_isSame_17 : decode cX6_isSame 17 = .ok (.iload_n 3, 1) := by decide +kernel
theorem dX6_isSame_18 : decode cX6_isSame 18 = .ok (.aaload, 1) := by decide +kernel
theorem dX6_isSame_19 : decode cX6_isSame 19 = .ok (.astore 4, 2) := by decide +kernel
theorem dX6_isSame_21 : decode cX6_isSame 21 = .ok (.iconst 0, 1) := by decide +kernel
theorem dX6_isSame_22 : decode cX6_isSame 22 = .ok (.istore 5, 2) := by decide +kernel
theorem dX6_isSame_24 : decode cX6_isSame 24 = .ok (.aload_n 0, 1) := by decide +kernel
theorem dX6_isSame_25 : decode cX6_isSame 25 = .ok (.getfield 9, 3) := by decide +kernel
theorem dX6_isSame_28 : decode cX6_isSame 28 = .ok (.astore 6, 2) := by decide +kernel
theorem dX6_isSame_30 : decode cX6_isSame 30 = .ok (.aload 6, 2) := by decide +kernel
theorem dX6_isSame_32 : decode cX6_isSame 32 = .ok (.arraylength, 1) := by decide +kernel
theorem dX6_isSame_33 : decode cX6_isSame 33 = .ok (.istore 7, 2) := by decide +kernel
theorem dX6_isSame_35 : decode cX6_isSame 35 = .ok (.iconst 0, 1) := by decide +kernel
theorem dX6_isSame_36 : decode cX6_isSame 36 = .ok (.istore 8, 2) := by decide +kernel
theorem dX6_isSame_38 : decode cX6_isSame 38 = .ok (.iload 8, 2) := by decide +kernel
theorem dX6_isSame_40 : decode cX6_isSame 40 = .ok (.iload 7, 2) := by decide +kernel
theorem dX6_isSame_42 : decode cX6_isSame 42 = .ok (.if_icmp .ge 35, 3) := by decide +kernel
theorem dX6_isSame_45 : decode cX6_isSame 45 = .ok (.aload 6, 2) := by decide +kernel
theorem dX6_isSame_47 : decode cX6_isSame 47 = .ok (.iload 8, 2) := by decide +kernel
theorem dX6_isSame_49 : decode cX6_isSame 49 = .ok (.aaload, 1) := by decide +kernel
theorem dX6_isSame_50 : decode cX6_isSame 50 = .ok (.astore 9, 2) := by decide +kernel
theorem dX6_isSame_52 : decode cX6_isSame 52 = .ok (.iload 5, 2) := by decide +kernel
theorem dX6_isSame_54 : decode cX6_isSame 54 = .ok (.aload 9, 2) := by decide +kernel
theorem dX6_isSame_56 : decode cX6_isSame 56 = .ok (.iload_n 3, 1) := by decide +kernel
theorem dX6_isSame_57 : decode cX6_isSame 57 = .ok (.invokevirtual 31, 3) := by decide +kernel
theorem dX6_isSame_60 : decode cX6_isSame 60 = .ok (.ifCond .ge 7, 3) := by decide +kernel
theorem dX6_isSame_63 : decode cX6_isSame 63 = .ok (.iconst 0, 1) := by decide +kernel
theorem dX6_isSame_64 : decode cX6_isSame 64 = .ok (.goto 4, 3) := by decide +kernel
theorem dX6_isSame_67 : decode cX6_isSame 67 = .ok (.iconst 1, 1) := by decide +kernel
theorem dX6_isSame_68 : decode cX6_isSame 68 = .ok (.iadd, 1) := by decide +kernel
theorem dX6_isSame_69 : decode cX6_isSame 69 = .ok (.istore 5, 2) := by decide +kernel
theorem dX6_isSame_71 : decode cX6_isSame 71 = .ok (.iinc 8 1, 3) := by decide +kernel
theorem dX6_isSame_74 : decode cX6_isSame 74 = .ok (.goto (-36), 3) := by decide +kernel
theorem dX6_isSame_77 : decode cX6_isSame 77 = .ok (.bipush 7, 2) := by decide +kernel
theorem dX6_isSame_79 : decode cX6_isSame 79 = .ok (.newarray .int, 2) := by decide +kernel
theorem dX6_isSame_81 : decode cX6_isSame 81 = .ok (.dup, 1) := by decide +kernel
theorem dX6_isSame_82 : decode cX6_isSame 82 = .ok (.iconst 0, 1) := by decide +kernel
theorem dX6_isSame_83 : decode cX6_isSame 83 = .ok (.aload 4, 2) := by decide +kernel
theorem dX6_isSame_85 : decode cX6_isSame 85 = .ok (.invokevirtual 43, 3) := by decide +kernel
theorem dX6_isSame_88 : decode cX6_isSame 88 = .ok (.iastore, 1) := by decide +kernel
theorem dX6_isSame_89 : decode cX6_isSame 89 = .ok (.dup, 1) := by decide +kernel
theorem dX6_isSame_90 : decode cX6_isSame 90 = .ok (.iconst 1, 1) := by decide +kernel
theorem dX6_isSame_91 : decode cX6_isSame 91 = .ok (.aload 4, 2) := by decide +kernel
theorem dX6_isSame_93 : decode cX6_isSame 93 = .ok (.getfield 47, 3) := by decide +kernel
theorem dX6_isSame_96 : decode cX6_isSame 96 = .ok (.iastore, 1) := by decide +kernel
theorem dX6_isSame_97 : decode cX6_isSame 97 = .ok (.dup, 1) := by decide +kernel
theorem dX6_isSame_98 : decode cX6_isSame 98 = .ok (.iconst 2, 1) := by decide +kernel
theorem dX6_isSame_99 : decode cX6_isSame 99 = .ok (.aload 4, 2) := by decide +kernel
theorem dX6_isSame_101 : decode cX6_isSame 101 = .ok (.getfield 25, 3) := by decide +kernel
theorem dX6_isSame_104 : decode cX6_isSame 104 = .ok (.iastore, 1) := by decide +kernel
theorem dX6_isSame_105 : decode cX6_isSame 105 = .ok (.dup, 1) := by decide +kernel
theorem dX6_isSame_106 : decode cX6_isSame 106 = .ok (.iconst 3, 1) := by decide +kernel
theorem dX6_isSame_107 : decode cX6_isSame 107 = .ok (.aload 4, 2) := by decide +kernel
theorem dX6_isSame_109 : decode cX6_isSame 109 = .ok (.getfield 28, 3) := by decide +kernel
theorem dX6_isSame_112 : decode cX6_isSame 112 = .ok (.iastore, 1) := by decide +kernel
theorem dX6_isSame_113 : decode cX6_isSame 113 = .ok (.dup, 1) := by decide +kernel
theorem dX6_isSame_114 : decode cX6_isSame 114 = .ok (.iconst 4, 1) := by decide +kernel
theorem dX6_isSame_115 : decode cX6_isSame 115 = .ok (.aload 4, 2) := by decide +kernel
theorem dX6_isSame_117 : decode cX6_isSame 117 = .ok (.getfield 35, 3) := by decide +kernel
theorem dX6_isSame_120 : decode cX6_isSame 120 = .ok (.arraylength, 1) := by decide +kernel
theorem dX6_isSame_121 : decode cX6_isSame 121 = .ok (.iastore, 1) := by decide +kernel
theorem dX6_isSame_122 : decode cX6_isSame 122 = .ok (.dup, 1) := by decide +kernel
theorem dX6_isSame_123 : decode cX6_isSame 123 = .ok (.iconst 5, 1) := by decide +kernel
theorem dX6_isSame_124 : decode cX6_isSame 124 = .ok (.iload 5, 2) := by decide +kernel
theorem dX6_isSame_126 : decode cX6_isSame 126 = .ok (.iastore, 1) := by decide +kernel
theorem dX6_isSame_127 : decode cX6_isSame 127 = .ok (.dup, 1) := by decide +kernel
theorem dX6_isSame_128 : decode cX6_isSame 128 = .ok (.bipush 6, 2) := by decide +kernel
theorem dX6_isSame_130 : decode cX6_isSame 130 = .ok (.aload_n 0, 1) := by decide +kernel
theorem dX6_isSame_131 : decode cX6_isSame 131 = .ok (.aload 4, 2) := by decide +kernel
theorem dX6_isSame_133 : decode cX6_isSame 133 = .ok (.invokevirtual 39, 3) := by decide +kernel
theorem dX6_isSame_136 : decode cX6_isSame 136 = .ok (.iastore, 1) := by decide +kernel
theorem dX6_isSame_137 : decode cX6_isSame 137 = .ok (.astore 6, 2) := by decide +kernel
theorem dX6_isSame_139 : decode cX6_isSame 139 = .ok (.iconst 0, 1) := by decide +kernel
theorem dX6_isSame_140 : decode cX6_isSame 140 = .ok (.istore 7, 2) := by decide +kernel
theorem dX6_isSame_142 : decode cX6_isSame 142 = .ok (.iload 7, 2) := by decide +kernel
theorem dX6_isSame_144 : decode cX6_isSame 144 = .ok (.bipush 7, 2) := by decide +kernel
theorem dX6_isSame_146 : decode cX6_isSame 146 = .ok (.if_icmp .ge 26, 3) := by decide +kernel
theorem dX6_isSame_149 : decode cX6_isSame 149 = .ok (.aload_n 1, 1) := by decide +kernel
theorem dX6_isSame_150 : decode cX6_isSame 150 = .ok (.iload_n 3, 1) := by decide +kernel
theorem dX6_isSame_151 : decode cX6_isSame 151 = .ok (.iload 7, 2) := by decide +kernel
theorem dX6_isSame_153 : decode cX6_isSame 153 = .ok (.invokevirtual 66, 3) := by decide +kernel
theorem dX6_isSame_156 : decode cX6_isSame 156 = .ok (.aload 6, 2) := by decide +kernel
theorem dX6_isSame_158 : decode cX6_isSame 158 = .ok (.iload 7, 2) := by decide +kernel
theorem dX6_isSame_160 : decode cX6_isSame 160 = .ok (.iaload, 1) := by decide +kernel
theorem dX6_isSame_161 : decode cX6_isSame 161 = .ok (.if_icmp .eq 5, 3) := by decide +kernel
theorem dX6_isSame_164 : decode cX6_isSame 164 = .ok (.iconst 0, 1) := by decide +kernel
theorem dX6_isSame_165 : decode cX6_isSame 165 = .ok (.ireturn, 1) := by decide +kernel
theorem dX6_isSame_166 : decode cX6_isSame 166 = .ok (.iinc 7 1, 3) := by decide +kernel
theorem dX6_isSame_169 : decode cX6_isSame 169 = .ok (.goto (-27), 3) := by decide +kernel
theorem dX6_isSame_172 : decode cX6_isSame 172 = .ok (.iconst 0, 1) := by decide +kernel
theorem dX6_isSame_173 : decode cX6_isSame 173 = .ok (.istore 7, 2) := by decide +kernel
theorem dX6_isSame_175 : decode cX6_isSame 175 = .ok (.iload 7, 2) := by decide +kernel
theorem dX6_isSame_177 : decode cX6_isSame 177 = .ok (.iconst 2, 1) := by decide +kernel
theorem dX6_isSame_178 : decode cX6_isSame 178 = .ok (.if_icmp .ge 114, 3) := by decide +kernel
theorem dX6_isSame_181 : decode cX6_isSame 181 = .ok (.aload_n 1, 1) := by decide +kernel
theorem dX6_isSame_182 : decode cX6_isSame 182 = .ok (.iload_n 3, 1) := by decide +kernel
theorem dX6_isSame_183 : decode cX6_isSame 183 = .ok (.iload 7, 2) := by decide +kernel
theorem dX6_isSame_185 : decode cX6_isSame 185 = .ok (.iconst 1, 1) := by decide +kernel
theorem dX6_isSame_186 : decode cX6_isSame 186 = .ok (.if_icmp .ne 7, 3) := by decide +kernel
theorem dX6_isSame_189 : decode cX6_isSame 189 = .ok (.iconst 1, 1) := by decide +kernel
theorem dX6_isSame_190 : decode cX6_isSame 190 = .ok (.goto 4, 3) := by decide +kernel
theorem dX6_isSame_193 : decode cX6_isSame 193 = .ok (.iconst 0, 1) := by decide +kernel
theorem dX6_isSame_194 : decode cX6_isSame 194 = .ok (.iconst 0, 1) := by decide +kernel
theorem dX6_isSame_195 : decode cX6_isSame 195 = .ok (.invokevirtual 72, 3) := by decide +kernel
theorem dX6_isSame_198 : decode cX6_isSame 198 = .ok (.aload 4, 2) := by decide +kernel
theorem dX6_isSame_200 : decode cX6_isSame 200 = .ok (.getfield 50, 3) := by decide +kernel
theorem dX6_isSame_203 : decode cX6_isSame 203 = .ok (.iload 7, 2) := by decide +kernel
theorem dX6_isSame_205 : decode cX6_isSame 205 = .ok (.iaload, 1) := by decide +kernel
theorem dX6_isSame_206 : decode cX6_isSame 206 = .ok (.if_icmp .ne 59, 3) := by decide +kernel
theorem dX6_isSame_209 : decode cX6_isSame 209 = .ok (.aload_n 1, 1) := by decide +kernel
theorem dX6_isSame_210 : decode cX6_isSame 210 = .ok (.iload_n 3, 1) := by decide +kernel
theorem dX6_isSame_211 : decode cX6_isSame 211 = .ok (.iload 7, 2) := by decide +kernel
theorem dX6_isSame_213 : decode cX6_isSame 213 = .ok (.iconst 1, 1) := by decide +kernel
theorem dX6_isSame_214 : decode cX6_isSame 214 = .ok (.if_icmp .ne 7, 3) := by decide +kernel
theorem dX6_isSame_217 : decode cX6_isSame 217 = .ok (.iconst 1, 1) := by decide +kernel
theorem dX6_isSame_218 : decode cX6_isSame 218 = .ok (.goto 4, 3) := by decide +kernel
theorem dX6_isSame_221 : decode cX6_isSame 221 = .ok (.iconst 0, 1) := by decide +kernel
theorem dX6_isSame_222 : decode cX6_isSame 222 = .ok (.iconst 1, 1) := by decide +kernel
theorem dX6_isSame_223 : decode cX6_isSame 223 = .ok (.invokevirtual 72, 3) := by decide +kernel
theorem dX6_isSame_226 : decode cX6_isSame 226 = .ok (.aload 4, 2) := by decide +kernel
theorem dX6_isSame_228 : decode cX6_isSame 228 = .ok (.getfield 53, 3) := by decide +kernel
theorem dX6_isSame_231 : decode cX6_isSame 231 = .ok (.iload 7, 2) := by decide +kernel
theorem dX6_isSame_233 : decode cX6_isSame 233 = .ok (.iaload, 1) := by decide +kernel
theorem dX6_isSame_234 : decode cX6_isSame 234 = .ok (.if_icmp .ne 31, 3) := by decide +kernel
theorem dX6_isSame_237 : decode cX6_isSame 237 = .ok (.aload_n 1, 1) := by decide +kernel
theorem dX6_isSame_238 : decode cX6_isSame 238 = .ok (.iload_n 3, 1) := by decide +kernel
theorem dX6_isSame_239 : decode cX6_isSame 239 = .ok (.iload 7, 2) := by decide +kernel
theorem dX6_isSame_241 : decode cX6_isSame 241 = .ok (.iconst 1, 1) := by decide +kernel
theorem dX6_isSame_242 : decode cX6_isSame 242 = .ok (.if_icmp .ne 7, 3) := by decide +kernel
theorem dX6_isSame_245 : decode cX6_isSame 245 = .ok (.iconst 1, 1) := by decide +kernel
theorem dX6_isSame_246 : decode cX6_isSame 246 = .ok (.goto 4, 3) := by decide +kernel
theorem dX6_isSame_249 : decode cX6_isSame 249 = .ok (.iconst 0, 1) := by decide +kernel
theorem dX6_isSame_250 : decode cX6_isSame 250 = .ok (.iconst 2, 1) := by decide +kernel
theorem dX6_isSame_251 : decode cX6_isSame 251 = .ok (.invokevirtual 72, 3) := by decide +kernel
theorem dX6_isSame_254 : decode cX6_isSame 254 = .ok (.aload 4, 2) := by decide +kernel
theorem dX6_isSame_256 : decode cX6_isSame 256 = .ok (.getfield 56, 3) := by decide +kernel
theorem dX6_isSame_259 : decode cX6_isSame 259 = .ok (.iload 7, 2) := by decide +kernel
theorem dX6_isSame_261 : decode cX6_isSame 261 = .ok (.iaload, 1) := by decide +kernel
theorem dX6_isSame_262 : decode cX6_isSame 262 = .ok (.if_icmp .eq 5, 3) := by decide +kernel
theorem dX6_isSame_265 : decode cX6_isSame 265 = .ok (.iconst 0, 1) := by decide +kernel
theorem dX6_isSame_266 : decode cX6_isSame 266 = .ok (.ireturn, 1) := by decide +kernel
theorem dX6_isSame_267 : decode cX6_isSame 267 = .ok (.iload_n 2, 1) := by decide +kernel
theorem dX6_isSame_268 : decode cX6_isSame 268 = .ok (.aload 4, 2) := by decide +kernel
theorem dX6_isSame_270 : decode cX6_isSame 270 = .ok (.getfield 53, 3) := by decide +kernel
theorem dX6_isSame_273 : decode cX6_isSame 273 = .ok (.iload 7, 2) := by decide +kernel
theorem dX6_isSame_275 : decode cX6_isSame 275 = .ok (.iaload, 1) := by decide +kernel
theorem dX6_isSame_276 : decode cX6_isSame 276 = .ok (.ifCond .ge 7, 3) := by decide +kernel
theorem dX6_isSame_279 : decode cX6_isSame 279 = .ok (.iconst 1, 1) := by decide +kernel
theorem dX6_isSame_280 : decode cX6_isSame 280 = .ok (.goto 4, 3) := by decide +kernel
theorem dX6_isSame_283 : decode cX6_isSame 283 = .ok (.iconst 0, 1) := by decide +kernel
theorem dX6_isSame_284 : decode cX6_isSame 284 = .ok (.iadd, 1) := by decide +kernel
theorem dX6_isSame_285 : decode cX6_isSame 285 = .ok (.istore_n 2, 1) := by decide +kernel
theorem dX6_isSame_286 : decode cX6_isSame 286 = .ok (.iinc 7 1, 3) := by decide +kernel
theorem dX6_isSame_289 : decode cX6_isSame 289 = .ok (.goto (-114), 3) := by decide +kernel
theorem dX6_isSame_292 : decode cX6_isSame 292 = .ok (.iconst 0, 1) := by decide +kernel
theorem dX6_isSame_293 : decode cX6_isSame 293 = .ok (.istore 7, 2) := by decide +kernel
theorem dX6_isSame_295 : decode cX6_isSame 295 = .ok (.iload 7, 2) := by decide +kernel
theorem dX6_isSame_297 : decode cX6_isSame 297 = .ok (.aload 4, 2) := by decide +kernel
theorem dX6_isSame_299 : decode cX6_isSame 299 = .ok (.getfield 35, 3) := by decide +kernel
theorem dX6_isSame_302 : decode cX6_isSame 302 = .ok (.arraylength, 1) := by decide +kernel
theorem dX6_isSame_303 : decode cX6_isSame 303 = .ok (.if_icmp .ge 29, 3) := by decide +kernel
theorem dX6_isSame_306 : decode cX6_isSame 306 = .ok (.aload_n 1, 1) := by decide +kernel
theorem dX6_isSame_307 : decode cX6_isSame 307 = .ok (.iload_n 3, 1) := by decide +kernel
theorem dX6_isSame_308 : decode cX6_isSame 308 = .ok (.iload 7, 2) := by decide +kernel
theorem dX6_isSame_310 : decode cX6_isSame 310 = .ok (.invokevirtual 75, 3) := by decide +kernel
theorem dX6_isSame_313 : decode cX6_isSame 313 = .ok (.aload 4, 2) := by decide +kernel
theorem dX6_isSame_315 : decode cX6_isSame 315 = .ok (.getfield 35, 3) := by decide +kernel
theorem dX6_isSame_318 : decode cX6_isSame 318 = .ok (.iload 7, 2) := by decide +kernel
theorem dX6_isSame_320 : decode cX6_isSame 320 = .ok (.iaload, 1) := by decide +kernel
theorem dX6_isSame_321 : decode cX6_isSame 321 = .ok (.if_icmp .eq 5, 3) := by decide +kernel
theorem dX6_isSame_324 : decode cX6_isSame 324 = .ok (.iconst 0, 1) := by decide +kernel
theorem dX6_isSame_325 : decode cX6_isSame 325 = .ok (.ireturn, 1) := by decide +kernel
theorem dX6_isSame_326 : decode cX6_isSame 326 = .ok (.iinc 7 1, 3) := by decide +kernel
theorem dX6_isSame_329 : decode cX6_isSame 329 = .ok (.goto (-34), 3) := by decide +kernel
theorem dX6_isSame_332 : decode cX6_isSame 332 = .ok (.iinc 3 1, 3) := by decide +kernel
theorem dX6_isSame_335 : decode cX6_isSame 335 = .ok (.goto (-331), 3) := by decide +kernel
theorem dX6_isSame_338 : decode cX6_isSame 338 = .ok (.bipush 6, 2) := by decide +kernel
theorem dX6_isSame_340 : decode cX6_isSame 340 = .ok (.newarray .int, 2) := by decide +kernel
theorem dX6_isSame_342 : decode cX6_isSame 342 = .ok (.dup, 1) := by decide +kernel
theorem dX6_isSame_343 : decode cX6_isSame 343 = .ok (.iconst 0, 1) := by decide +kernel
theorem dX6_isSame_344 : decode cX6_isSame 344 = .ok (.aload_n 0, 1) := by decide +kernel
theorem dX6_isSame_345 : decode cX6_isSame 345 = .ok (.getfield 20, 3) := by decide +kernel
theorem dX6_isSame_348 : decode cX6_isSame 348 = .ok (.iastore, 1) := by decide +kernel
theorem dX6_isSame_349 : decode cX6_isSame 349 = .ok (.dup, 1) := by decide +kernel
theorem dX6_isSame_350 : decode cX6_isSame 350 = .ok (.iconst 1, 1) := by decide +kernel
theorem dX6_isSame_351 : decode cX6_isSame 351 = .ok (.aload_n 0, 1) := by decide +kernel
theorem dX6_isSame_352 : decode cX6_isSame 352 = .ok (.getfield 9, 3) := by decide +kernel
theorem dX6_isSame_355 : decode cX6_isSame 355 = .ok (.arraylength, 1) := by decide +kernel
theorem dX6_isSame_356 : decode cX6_isSame 356 = .ok (.iastore, 1) := by decide +kernel
theorem dX6_isSame_357 : decode cX6_isSame 357 = .ok (.dup, 1) := by decide +kernel
theorem dX6_isSame_358 : decode cX6_isSame 358 = .ok (.iconst 2, 1) := by decide +kernel
theorem dX6_isSame_359 : decode cX6_isSame 359 = .ok (.aload_n 0, 1) := by decide +kernel
theorem dX6_isSame_360 : decode cX6_isSame 360 = .ok (.invokevirtual 78, 3) := by decide +kernel
theorem dX6_isSame_363 : decode cX6_isSame 363 = .ok (.iastore, 1) := by decide +kernel
theorem dX6_isSame_364 : decode cX6_isSame 364 = .ok (.dup, 1) := by decide +kernel
theorem dX6_isSame_365 : decode cX6_isSame 365 = .ok (.iconst 3, 1) := by decide +kernel
theorem dX6_isSame_366 : decode cX6_isSame 366 = .ok (.iload_n 2, 1) := by decide +kernel
theorem dX6_isSame_367 : decode cX6_isSame 367 = .ok (.iastore, 1) := by decide +kernel
theorem dX6_isSame_368 : decode cX6_isSame 368 = .ok (.dup, 1) := by decide +kernel
theorem dX6_isSame_369 : decode cX6_isSame 369 = .ok (.iconst 4, 1) := by decide +kernel
theorem dX6_isSame_370 : decode cX6_isSame 370 = .ok (.aload_n 0, 1) := by decide +kernel
theorem dX6_isSame_371 : decode cX6_isSame 371 = .ok (.invokevirtual 81, 3) := by decide +kernel
theorem dX6_isSame_374 : decode cX6_isSame 374 = .ok (.iastore, 1) := by decide +kernel
theorem dX6_isSame_375 : decode cX6_isSame 375 = .ok (.dup, 1) := by decide +kernel
theorem dX6_isSame_376 : decode cX6_isSame 376 = .ok (.iconst 5, 1) := by decide +kernel
theorem dX6_isSame_377 : decode cX6_isSame 377 = .ok (.aload_n 0, 1) := by decide +kernel
theorem dX6_isSame_378 : decode cX6_isSame 378 = .ok (.getfield 59, 3) := by decide +kernel
theorem dX6_isSame_381 : decode cX6_isSame 381 = .ok (.iastore, 1) := by decide +kernel
theorem dX6_isSame_382 : decode cX6_isSame 382 = .ok (.astore_n 3, 1) := by decide +kernel
theorem dX6_isSame_383 : decode cX6_isSame 383 = .ok (.iconst 0, 1) := by decide +kernel
theorem dX6_isSame_384 : decode cX6_isSame 384 = .ok (.istore 4, 2) := by decide +kernel
theorem dX6_isSame_386 : decode cX6_isSame 386 = .ok (.iload 4, 2) := by decide +kernel
theorem dX6_isSame_388 : decode cX6_isSame 388 = .ok (.bipush 6, 2) := by decide +kernel
theorem dX6_isSame_390 : decode cX6_isSame 390 = .ok (.if_icmp .ge 24, 3) := by decide +kernel
theorem dX6_isSame_393 : decode cX6_isSame 393 = .ok (.aload_n 1, 1) := by decide +kernel
theorem dX6_isSame_394 : decode cX6_isSame 394 = .ok (.iload 4, 2) := by decide +kernel
theorem dX6_isSame_396 : decode cX6_isSame 396 = .ok (.invokevirtual 83, 3) := by decide +kernel
theorem dX6_isSame_399 : decode cX6_isSame 399 = .ok (.aload_n 3, 1) := by decide +kernel
theorem dX6_isSame_400 : decode cX6_isSame 400 = .ok (.iload 4, 2) := by decide +kernel
theorem dX6_isSame_402 : decode cX6_isSame 402 = .ok (.iaload, 1) := by decide +kernel
theorem dX6_isSame_403 : decode cX6_isSame 403 = .ok (.if_icmp .eq 5, 3) := by decide +kernel
theorem dX6_isSame_406 : decode cX6_isSame 406 = .ok (.iconst 0, 1) := by decide +kernel
theorem dX6_isSame_407 : decode cX6_isSame 407 = .ok (.ireturn, 1) := by decide +kernel
theorem dX6_isSame_408 : decode cX6_isSame 408 = .ok (.iinc 4 1, 3) := by decide +kernel
theorem dX6_isSame_411 : decode cX6_isSame 411 = .ok (.goto (-25), 3) := by decide +kernel
theorem dX6_isSame_414 : decode cX6_isSame 414 = .ok (.aload_n 1, 1) := by decide +kernel
theorem dX6_isSame_415 : decode cX6_isSame 415 = .ok (.invokevirtual 86, 3) := by decide +kernel
theorem dX6_isSame_418 : decode cX6_isSame 418 = .ok (.aload_n 0, 1) := by decide +kernel
theorem dX6_isSame_419 : decode cX6_isSame 419 = .ok (.getfield 9, 3) := by decide +kernel
theorem dX6_isSame_422 : decode cX6_isSame 422 = .ok (.arraylength, 1) := by decide +kernel
theorem dX6_isSame_423 : decode cX6_isSame 423 = .ok (.ifCond .ne 7, 3) := by decide +kernel
theorem dX6_isSame_426 : decode cX6_isSame 426 = .ok (.dconst 0, 1) := by decide +kernel
theorem dX6_isSame_427 : decode cX6_isSame 427 = .ok (.goto 15, 3) := by decide +kernel
theorem dX6_isSame_430 : decode cX6_isSame 430 = .ok (.aload_n 0, 1) := by decide +kernel
theorem dX6_isSame_431 : decode cX6_isSame 431 = .ok (.invokevirtual 81, 3) := by decide +kernel
theorem dX6_isSame_434 : decode cX6_isSame 434 = .ok (.i2d, 1) := by decide +kernel
theorem dX6_isSame_435 : decode cX6_isSame 435 = .ok (.aload_n 0, 1) := by decide +kernel
theorem dX6_isSame_436 : decode cX6_isSame 436 = .ok (.getfield 9, 3) := by decide +kernel
theorem dX6_isSame_439 : decode cX6_isSame 439 = .ok (.arraylength, 1) := by decide +kernel
theorem dX6_isSame_440 : decode cX6_isSame 440 = .ok (.i2d, 1) := by decide +kernel
theorem dX6_isSame_441 : decode cX6_isSame 441 = .ok (.ddiv, 1) := by decide +kernel
theorem dX6_isSame_442 : decode cX6_isSame 442 = .ok (.dcmp .l, 1) := by decide +kernel
theorem dX6_isSame_443 : decode cX6_isSame 443 = .ok (.ifCond .ne 7, 3) := by decide +kernel
theorem dX6_isSame_446 : decode cX6_isSame 446 = .ok (.iconst 1, 1) := by decide +kernel
theorem dX6_isSame_447 : decode cX6_isSame 447 = .ok (.goto 4, 3) := by decide +kernel
theorem dX6_isSame_450 : decode cX6_isSame 450 = .ok (.iconst 0, 1) := by decide +kernel
theorem dX6_isSame_451 : decode cX6_isSame 451 = .ok (.ireturn, 1) := by decide +kernel
theorem dJ9_max_7cf53_0 : decode cJ9_max_7cf53 0 = .ok (.iload_n 0, 1) := by decide +kernel
theorem dJ9_max_7cf53_1 : decode cJ9_max_7cf53 1 = .ok (.iload_n 1, 1) := by decide +kernel
theorem dJ9_max_7cf53_2 : decode cJ9_max_7cf53 2 = .ok (.if_icmp .lt 7, 3) := by decide +kernel
theorem dJ9_max_7cf53_5 : decode cJ9_max_7cf53 5 = .ok (.iload_n 0, 1) := by decide +kernel
theorem dJ9_max_7cf53_6 : decode cJ9_max_7cf53 6 = .ok (.goto 4, 3) := by decide +kernel
theorem dJ9_max_7cf53_9 : decode cJ9_max_7cf53 9 = .ok (.iload_n 1, 1) := by decide +kernel
theorem dJ9_max_7cf53_10 : decode cJ9_max_7cf53 10 = .ok (.ireturn, 1) := by decide +kernel
theorem dJ9_min_7cf53_0 : decode cJ9_min_7cf53 0 = .ok (.iload_n 0, 1) := by decide +kernel
theorem dJ9_min_7cf53_1 : decode cJ9_min_7cf53 1 = .ok (.iload_n 1, 1) := by decide +kernel
theorem dJ9_min_7cf53_2 : decode cJ9_min_7cf53 2 = .ok (.if_icmp .gt 7, 3) := by decide +kernel
theorem dJ9_min_7cf53_5 : decode cJ9_min_7cf53 5 = .ok (.iload_n 0, 1) := by decide +kernel
theorem dJ9_min_7cf53_6 : decode cJ9_min_7cf53 6 = .ok (.goto 4, 3) := by decide +kernel
theorem dJ9_min_7cf53_9 : decode cJ9_min_7cf53 9 = .ok (.iload_n 1, 1) := by decide +kernel
theorem dJ9_min_7cf53_10 : decode cJ9_min_7cf53 10 = .ok (.ireturn, 1) := by decide +kernel
theorem dL_below_0 : decode cL_below 0 = .ok (.iload_n 0, 1) := by decide +kernel
theorem dL_below_1 : decode cL_below 1 = .ok (.ldc 7, 2) := by decide +kernel
theorem dL_below_3 : decode cL_below 3 = .ok (.iand, 1) := by decide +kernel
theorem dL_below_4 : decode cL_below 4 = .ok (.iload_n 1, 1) := by decide +kernel
theorem dL_below_5 : decode cL_below 5 = .ok (.irem, 1) := by decide +kernel
theorem dL_below_6 : decode cL_below 6 = .ok (.ireturn, 1) := by decide +kernel
theorem dL_cell_0 : decode cL_cell 0 = .ok (.iload_n 1, 1) := by decide +kernel
theorem dL_cell_1 : decode cL_cell 1 = .ok (.aload_n 0, 1) := by decide +kernel
theorem dL_cell_2 : decode cL_cell 2 = .ok (.arraylength, 1) := by decide +kernel
theorem dL_cell_3 : decode cL_cell 3 = .ok (.if_icmp .ge 9, 3) := by decide +kernel
theorem dL_cell_6 : decode cL_cell 6 = .ok (.aload_n 0, 1) := by decide +kernel
theorem dL_cell_7 : decode cL_cell 7 = .ok (.iload_n 1, 1) := by decide +kernel
theorem dL_cell_8 : decode cL_cell 8 = .ok (.iaload, 1) := by decide +kernel
theorem dL_cell_9 : decode cL_cell 9 = .ok (.goto 9, 3) := by decide +kernel
theorem dL_cell_12 : decode cL_cell 12 = .ok (.ldc 8, 2) := by decide +kernel
theorem dL_cell_14 : decode cL_cell 14 = .ok (.iload_n 1, 1) := by decide +kernel
theorem dL_cell_15 : decode cL_cell 15 = .ok (.iconst 3, 1) := by decide +kernel
theorem dL_cell_16 : decode cL_cell 16 = .ok (.iadd, 1) := by decide +kernel
theorem dL_cell_17 : decode cL_cell 17 = .ok (.imul, 1) := by decide +kernel
theorem dL_cell_18 : decode cL_cell 18 = .ok (.ireturn, 1) := by decide +kernel
set_option maxRecDepth 20000 in
theorem ggL_act_L_below : GoodIn wsL_act wsL_below := goodIn_r _ [7, 8] (by decide +kernel) (by decide +kernel)
set_option maxRecDepth 20000 in
theorem gL_act_L_below : GoodIn wsL_act (va_wsS RL 15 yL_below wsL_below) := goodIn_app (goodIn_of _ (by decide +kernel)) ggL_act_L_below
set_option maxRecDepth 20000 in
theorem ggL_act_X5_place : GoodIn wsL_act wsX5_place := goodIn_r _ [13, 14, 169, 170, 171, 172, 173, 174, 175] (by decide +kernel) (by decide +kernel)
set_option maxRecDepth 20000 in
theorem gL_act_X5_place : GoodIn wsL_act (wsV RL 21 RX5 yX5_place wsX5_place) := goodIn_app (goodIn_of _ (by decide +kernel)) ggL_act_X5_place
set_option maxRecDepth 20000 in
theorem ggL_act_X4_listen : GoodIn wsL_act wsX4_listen := goodIn_ca (goodIn_ca (goodIn_ca (goodIn_r _ [19, 20, 21, 22, 23, 24, 25, 26, 27, 18, 28, 29, 30, 31, 32, 33, 34, 35, 36, 37, 38, 39, 40, 41, 42, 43, 44, 45, 46, 47, 48, 49, 50, 51, 52, 53, 54, 55, 56, 57, 58, 59, 60, 61, 62, 63, 64, 65, 66, 67, 68, 176, 177, 178, 179, 180, 181, 182, 183, 184, 185] (by decide +kernel) (by decide +kernel)) (goodIn_sub (fun _ h => List.mem_cons_of_mem _ (List.mem_append_left _ (List.mem_append_left _ (List.mem_append_right _ h)))) (by decide +kernel))) (goodIn_sub (fun _ h => List.mem_cons_of_mem _ (List.mem_append_left _ (List.mem_append_right _ h))) (by decide +kernel))) (goodIn_sub (fun _ h => List.mem_cons_of_mem _ (List.mem_append_right _ h)) (by decide +kernel))
set_option maxRecDepth 20000 in
theorem gL_act_X4_listen : GoodIn wsL_act (wsV RL 31 RX4 yX4_listen wsX4_listen) := goodIn_app (goodIn_of _ (by decide +kernel)) ggL_act_X4_listen
set_option maxRecDepth 20000 in
theorem ggL_act_X6_listen : GoodIn wsL_act wsX6_listen := goodIn_r _ [73, 74, 75, 76, 77, 10, 11, 12, 13, 14, 166, 167, 168, 169, 170, 171, 172, 173, 174, 175] (by decide +kernel) (by decide +kernel)
set_option maxRecDepth 20000 in
theorem gL_act_X6_listen : GoodIn wsL_act (wsV RL 36 RX6 yX6_listen wsX6_listen) := goodIn_app (goodIn_of _ (by decide +kernel)) ggL_act_X6_listen
set_option maxRecDepth 20000 in
theorem ggL_act_X4_raise : GoodIn wsL_act wsX4_raise := goodIn_ca (goodIn_ca (goodIn_r _ [81, 24, 25, 26, 27, 18, 28, 29, 30, 31, 32, 33, 34, 35, 36, 82, 83, 84, 20, 21, 85, 86, 87, 88, 89, 90, 91, 92, 42, 43, 44, 45, 46, 47, 93, 94, 95, 96, 57, 58, 59, 60, 176, 177, 178, 179, 180, 181, 182, 183, 184, 185] (by decide +kernel) (by decide +kernel)) (goodIn_sub (fun _ h => List.mem_cons_of_mem _ (List.mem_append_right _ h)) (by decide +kernel))) (goodIn_sub (fun _ h => List.mem_cons_of_mem _ (List.mem_append_left _ (List.mem_append_left _ (List.mem_append_right _ h)))) (by decide +kernel))
set_option maxRecDepth 20000 in
theorem gL_act_X4_raise : GoodIn wsL_act (wsV RL 41 RX4 yX4_raise wsX4_raise) := goodIn_app (goodIn_of _ (by decide +kernel)) ggL_act_X4_raise
set_option maxRecDepth 20000 in
theorem ggL_act_X6_come : GoodIn wsL_act wsX6_come := goodIn_r _ [100, 74, 101, 102, 12, 103, 104, 105, 106, 107, 108, 109, 76, 110, 111, 112, 14, 166, 167, 168, 169, 170, 171, 172, 173, 174, 175] (by decide +kernel) (by decide +kernel)
set_option maxRecDepth 20000 in
theorem gL_act_X6_come : GoodIn wsL_act (wsV RL 44 RX6 yX6_come wsX6_come) := goodIn_app (goodIn_of _ (by decide +kernel)) ggL_act_X6_come
set_option maxRecDepth 20000 in
theorem ggL_act_X4_come : GoodIn wsL_act wsX4_come := goodIn_ca (goodIn_ca (goodIn_r _ [116, 20, 21, 22, 23, 24, 117, 85, 86, 18, 87, 82, 83, 84, 31, 32, 33, 34, 35, 36, 118, 119, 120, 121, 122, 92, 57, 58, 59, 45, 60, 47, 123, 124, 125, 126, 127, 128, 129, 130, 131, 132, 133, 134, 135, 136, 137, 138, 139, 140, 176, 177, 178, 179, 180, 181, 182, 183, 184, 185, 186, 187, 188, 189, 190, 191, 192, 193] (by decide +kernel) (by decide +kernel)) (goodIn_sub (fun _ h => List.mem_cons_of_mem _ (List.mem_append_left _ (List.mem_append_left _ (List.mem_append_right _ h)))) (by decide +kernel))) (goodIn_sub (fun _ h => List.mem_cons_of_mem _ (List.mem_append_left _ (List.mem_append_right _ h))) (by decide +kernel))
set_option maxRecDepth 20000 in
theorem gL_act_X4_come : GoodIn wsL_act (wsV RL 48 RX4 yX4_come wsX4_come) := goodIn_app (goodIn_of _ (by decide +kernel)) ggL_act_X4_come
set_option maxRecDepth 20000 in
theorem ggL_act_X5_word : GoodIn wsL_act wsX5_word := goodIn_r _ [144, 110, 169, 170, 171, 172, 173, 174, 175] (by decide +kernel) (by decide +kernel)
set_option maxRecDepth 20000 in
theorem gL_act_X5_word : GoodIn wsL_act (wsV RL 50 RX5 yX5_word wsX5_word) := goodIn_app (goodIn_of _ (by decide +kernel)) ggL_act_X5_word
set_option maxRecDepth 20000 in
theorem ggL_act_X5_say : GoodIn wsL_act wsX5_say := goodIn_r _ [148, 110, 111, 112, 149, 169, 170, 171, 172, 173, 174, 175] (by decide +kernel) (by decide +kernel)
set_option maxRecDepth 20000 in
theorem gL_act_X5_say : GoodIn wsL_act (wsV RL 54 RX5 yX5_say wsX5_say) := goodIn_app (goodIn_of _ (by decide +kernel)) ggL_act_X5_say
set_option maxRecDepth 20000 in
theorem ggL_act_X4_whisper : GoodIn wsL_act wsX4_whisper := goodIn_ca (goodIn_ca (goodIn_r _ [153, 20, 21, 117, 25, 26, 27, 18, 28, 29, 30, 24, 31, 32, 33, 34, 35, 36, 154, 155, 156, 85, 86, 87, 157, 158, 159, 126, 160, 128, 129, 161, 162, 163, 134, 164, 136, 165, 43, 44, 45, 46, 47, 123, 124, 125, 127, 130, 131, 132, 133, 135, 137, 138, 139, 58, 59, 60, 140, 176, 177, 178, 179, 180, 181, 182, 183, 184, 186, 187, 188, 189, 190, 191, 192, 193, 185] (by decide +kernel) (by decide +kernel)) (goodIn_sub (fun _ h => List.mem_cons_of_mem _ (List.mem_append_left _ (List.mem_append_left _ (List.mem_append_right _ h)))) (by decide +kernel))) (goodIn_sub (fun _ h => List.mem_cons_of_mem _ (List.mem_append_right _ h)) (by decide +kernel))
set_option maxRecDepth 20000 in
theorem gL_act_X4_whisper : GoodIn wsL_act (wsV RL 57 RX4 yX4_whisper wsX4_whisper) := goodIn_app (goodIn_of _ (by decide +kernel)) ggL_act_X4_whisper
theorem dL_act_0 : decode cL_act 0 = .ok (.aload_n 1, 1) := by decide +kernel
theorem dL_act_1 : decode cL_act 1 = .ok (.getfield 9, 3) := by decide +kernel
theorem dL_act_4 : decode cL_act 4 = .ok (.arraylength, 1) := by decide +kernel
theorem dL_act_5 : decode cL_act 5 = .ok (.istore_n 3, 1) := by decide +kernel
theorem dL_act_6 : decode cL_act 6 = .ok (.iload_n 2, 1) := by decide +kernel
theorem dL_act_7 : decode cL_act 7 = .ok (.iload_n 3, 1) := by decide +kernel
theorem dL_act_8 : decode cL_act 8 = .ok (.invokestatic 15, 3) := by decide +kernel
theorem dL_act_11 : decode cL_act 11 = .ok (.istore 4, 2) := by decide +kernel
theorem dL_act_13 : decode cL_act 13 = .ok (.iload_n 2, 1) := by decide +kernel
theorem dL_act_14 : decode cL_act 14 = .ok (.bipush 8, 2) := by decide +kernel
theorem dL_act_16 : decode cL_act 16 = .ok (.ishr, 1) := by decide +kernel
theorem dL_act_17 : decode cL_act 17 = .ok (.bipush 6, 2) := by decide +kernel
theorem dL_act_19 : decode cL_act 19 = .ok (.invokestatic 15, 3) := by decide +kernel
theorem dL_act_22 : decode cL_act 22 = .ok (.tableswitch 225 0 3 #[30, 30, 103, 161], 30) := by decide +kernel
theorem dL_act_52 : decode cL_act 52 = .ok (.iload_n 2, 1) := by decide +kernel
theorem dL_act_53 : decode cL_act 53 = .ok (.iconst 3, 1) := by decide +kernel
theorem dL_act_54 : decode cL_act 54 = .ok (.ishr, 1) := by decide +kernel
theorem dL_act_55 : decode cL_act 55 = .ok (.iload_n 3, 1) := by decide +kernel
theorem dL_act_56 : decode cL_act 56 = .ok (.invokestatic 15, 3) := by decide +kernel
theorem dL_act_59 : decode cL_act 59 = .ok (.istore 5, 2) := by decide +kernel
theorem dL_act_61 : decode cL_act 61 = .ok (.iload 5, 2) := by decide +kernel
theorem dL_act_63 : decode cL_act 63 = .ok (.iload 4, 2) := by decide +kernel
theorem dL_act_65 : decode cL_act 65 = .ok (.if_icmp .eq 33, 3) := by decide +kernel
theorem dL_act_68 : decode cL_act 68 = .ok (.aload_n 1, 1) := by decide +kernel
theorem dL_act_69 : decode cL_act 69 = .ok (.getfield 9, 3) := by decide +kernel
theorem dL_act_72 : decode cL_act 72 = .ok (.iload 4, 2) := by decide +kernel
theorem dL_act_74 : decode cL_act 74 = .ok (.aaload, 1) := by decide +kernel
theorem dL_act_75 : decode cL_act 75 = .ok (.iload 5, 2) := by decide +kernel
theorem dL_act_77 : decode cL_act 77 = .ok (.invokevirtual 21, 3) := by decide +kernel
theorem dL_act_80 : decode cL_act 80 = .ok (.ifCond .ge 20, 3) := by decide +kernel
theorem dL_act_83 : decode cL_act 83 = .ok (.aload_n 1, 1) := by decide +kernel
theorem dL_act_84 : decode cL_act 84 = .ok (.getfield 9, 3) := by decide +kernel
theorem dL_act_87 : decode cL_act 87 = .ok (.iload 4, 2) := by decide +kernel
theorem dL_act_89 : decode cL_act 89 = .ok (.aaload, 1) := by decide +kernel
theorem dL_act_90 : decode cL_act 90 = .ok (.getfield 27, 3) := by decide +kernel
theorem dL_act_93 : decode cL_act 93 = .ok (.arraylength, 1) := by decide +kernel
theorem dL_act_94 : decode cL_act 94 = .ok (.iconst 4, 1) := by decide +kernel
theorem dL_act_95 : decode cL_act 95 = .ok (.if_icmp .ne 5, 3) := by decide +kernel
theorem dL_act_98 : decode cL_act 98 = .ok (.iconst 1, 1) := by decide +kernel
theorem dL_act_99 : decode cL_act 99 = .ok (.ireturn, 1) := by decide +kernel
theorem dL_act_100 : decode cL_act 100 = .ok (.aload_n 0, 1) := by decide +kernel
theorem dL_act_101 : decode cL_act 101 = .ok (.iload 4, 2) := by decide +kernel
theorem dL_act_103 : decode cL_act 103 = .ok (.iload 5, 2) := by decide +kernel
theorem dL_act_105 : decode cL_act 105 = .ok (.invokevirtual 31, 3) := by decide +kernel
theorem dL_act_108 : decode cL_act 108 = .ok (.aload_n 1, 1) := by decide +kernel
theorem dL_act_109 : decode cL_act 109 = .ok (.iload 4, 2) := by decide +kernel
theorem dL_act_111 : decode cL_act 111 = .ok (.iload 5, 2) := by decide +kernel
theorem dL_act_113 : decode cL_act 113 = .ok (.invokevirtual 36, 3) := by decide +kernel
theorem dL_act_116 : decode cL_act 116 = .ok (.if_icmp .ne 7, 3) := by decide +kernel
theorem dL_act_119 : decode cL_act 119 = .ok (.iconst 1, 1) := by decide +kernel
theorem dL_act_120 : decode cL_act 120 = .ok (.goto 4, 3) := by decide +kernel
theorem dL_act_123 : decode cL_act 123 = .ok (.iconst 0, 1) := by decide +kernel
theorem dL_act_124 : decode cL_act 124 = .ok (.ireturn, 1) := by decide +kernel
theorem dL_act_125 : decode cL_act 125 = .ok (.aload_n 1, 1) := by decide +kernel
theorem dL_act_126 : decode cL_act 126 = .ok (.getfield 9, 3) := by decide +kernel
theorem dL_act_129 : decode cL_act 129 = .ok (.iload 4, 2) := by decide +kernel
theorem dL_act_131 : decode cL_act 131 = .ok (.aaload, 1) := by decide +kernel
theorem dL_act_132 : decode cL_act 132 = .ok (.getfield 37, 3) := by decide +kernel
theorem dL_act_135 : decode cL_act 135 = .ok (.istore 6, 2) := by decide +kernel
theorem dL_act_137 : decode cL_act 137 = .ok (.aload_n 1, 1) := by decide +kernel
theorem dL_act_138 : decode cL_act 138 = .ok (.getfield 9, 3) := by decide +kernel
theorem dL_act_141 : decode cL_act 141 = .ok (.iload 4, 2) := by decide +kernel
theorem dL_act_143 : decode cL_act 143 = .ok (.aaload, 1) := by decide +kernel
theorem dL_act_144 : decode cL_act 144 = .ok (.iconst 1, 1) := by decide +kernel
theorem dL_act_145 : decode cL_act 145 = .ok (.iload_n 2, 1) := by decide +kernel
theorem dL_act_146 : decode cL_act 146 = .ok (.iconst 4, 1) := by decide +kernel
theorem dL_act_147 : decode cL_act 147 = .ok (.ishr, 1) := by decide +kernel
theorem dL_act_148 : decode cL_act 148 = .ok (.iconst 5, 1) := by decide +kernel
theorem dL_act_149 : decode cL_act 149 = .ok (.invokestatic 15, 3) := by decide +kernel
theorem dL_act_152 : decode cL_act 152 = .ok (.iadd, 1) := by decide +kernel
theorem dL_act_153 : decode cL_act 153 = .ok (.putfield 37, 3) := by decide +kernel
theorem dL_act_156 : decode cL_act 156 = .ok (.aload_n 0, 1) := by decide +kernel
theorem dL_act_157 : decode cL_act 157 = .ok (.iload 4, 2) := by decide +kernel
theorem dL_act_159 : decode cL_act 159 = .ok (.aload_n 1, 1) := by decide +kernel
theorem dL_act_160 : decode cL_act 160 = .ok (.getfield 9, 3) := by decide +kernel
theorem dL_act_163 : decode cL_act 163 = .ok (.iload 4, 2) := by decide +kernel
theorem dL_act_165 : decode cL_act 165 = .ok (.aaload, 1) := by decide +kernel
theorem dL_act_166 : decode cL_act 166 = .ok (.getfield 37, 3) := by decide +kernel
theorem dL_act_169 : decode cL_act 169 = .ok (.invokevirtual 41, 3) := by decide +kernel
theorem dL_act_172 : decode cL_act 172 = .ok (.iload 6, 2) := by decide +kernel
theorem dL_act_174 : decode cL_act 174 = .ok (.if_icmp .ne 7, 3) := by decide +kernel
theorem dL_act_177 : decode cL_act 177 = .ok (.iconst 1, 1) := by decide +kernel
theorem dL_act_178 : decode cL_act 178 = .ok (.goto 4, 3) := by decide +kernel
theorem dL_act_181 : decode cL_act 181 = .ok (.iconst 0, 1) := by decide +kernel
theorem dL_act_182 : decode cL_act 182 = .ok (.ireturn, 1) := by decide +kernel
theorem dL_act_183 : decode cL_act 183 = .ok (.iload_n 3, 1) := by decide +kernel
theorem dL_act_184 : decode cL_act 184 = .ok (.bipush 12, 2) := by decide +kernel
theorem dL_act_186 : decode cL_act 186 = .ok (.if_icmp .ne 5, 3) := by decide +kernel
theorem dL_act_189 : decode cL_act 189 = .ok (.iconst 1, 1) := by decide +kernel
theorem dL_act_190 : decode cL_act 190 = .ok (.ireturn, 1) := by decide +kernel
theorem dL_act_191 : decode cL_act 191 = .ok (.aload_n 1, 1) := by decide +kernel
theorem dL_act_192 : decode cL_act 192 = .ok (.iconst 1, 1) := by decide +kernel
theorem dL_act_193 : decode cL_act 193 = .ok (.iload_n 2, 1) := by decide +kernel
theorem dL_act_194 : decode cL_act 194 = .ok (.iconst 2, 1) := by decide +kernel
theorem dL_act_195 : decode cL_act 195 = .ok (.ishr, 1) := by decide +kernel
theorem dL_act_196 : decode cL_act 196 = .ok (.bipush 9, 2) := by decide +kernel
theorem dL_act_198 : decode cL_act 198 = .ok (.invokestatic 15, 3) := by decide +kernel
theorem dL_act_201 : decode cL_act 201 = .ok (.iadd, 1) := by decide +kernel
theorem dL_act_202 : decode cL_act 202 = .ok (.iconst 1, 1) := by decide +kernel
theorem dL_act_203 : decode cL_act 203 = .ok (.iload_n 2, 1) := by decide +kernel
theorem dL_act_204 : decode cL_act 204 = .ok (.iconst 5, 1) := by decide +kernel
theorem dL_act_205 : decode cL_act 205 = .ok (.ishr, 1) := by decide +kernel
theorem dL_act_206 : decode cL_act 206 = .ok (.iconst 5, 1) := by decide +kernel
theorem dL_act_207 : decode cL_act 207 = .ok (.invokestatic 15, 3) := by decide +kernel
theorem dL_act_210 : decode cL_act 210 = .ok (.iadd, 1) := by decide +kernel
theorem dL_act_211 : decode cL_act 211 = .ok (.invokevirtual 44, 3) := by decide +kernel
theorem dL_act_214 : decode cL_act 214 = .ok (.aload_n 0, 1) := by decide +kernel
theorem dL_act_215 : decode cL_act 215 = .ok (.iconst 1, 1) := by decide +kernel
theorem dL_act_216 : decode cL_act 216 = .ok (.iload_n 2, 1) := by decide +kernel
theorem dL_act_217 : decode cL_act 217 = .ok (.iconst 2, 1) := by decide +kernel
theorem dL_act_218 : decode cL_act 218 = .ok (.ishr, 1) := by decide +kernel
theorem dL_act_219 : decode cL_act 219 = .ok (.bipush 9, 2) := by decide +kernel
theorem dL_act_221 : decode cL_act 221 = .ok (.invokestatic 15, 3) := by decide +kernel
theorem dL_act_224 : decode cL_act 224 = .ok (.iadd, 1) := by decide +kernel
theorem dL_act_225 : decode cL_act 225 = .ok (.iconst 1, 1) := by decide +kernel
theorem dL_act_226 : decode cL_act 226 = .ok (.iload_n 2, 1) := by decide +kernel
theorem dL_act_227 : decode cL_act 227 = .ok (.iconst 5, 1) := by decide +kernel
theorem dL_act_228 : decode cL_act 228 = .ok (.ishr, 1) := by decide +kernel
theorem dL_act_229 : decode cL_act 229 = .ok (.iconst 5, 1) := by decide +kernel
theorem dL_act_230 : decode cL_act 230 = .ok (.invokestatic 15, 3) := by decide +kernel
theorem dL_act_233 : decode cL_act 233 = .ok (.iadd, 1) := by decide +kernel
theorem dL_act_234 : decode cL_act 234 = .ok (.invokevirtual 48, 3) := by decide +kernel
theorem dL_act_237 : decode cL_act 237 = .ok (.iload_n 3, 1) := by decide +kernel
theorem dL_act_238 : decode cL_act 238 = .ok (.if_icmp .ne 7, 3) := by decide +kernel
theorem dL_act_241 : decode cL_act 241 = .ok (.iconst 1, 1) := by decide +kernel
theorem dL_act_242 : decode cL_act 242 = .ok (.goto 4, 3) := by decide +kernel
theorem dL_act_245 : decode cL_act 245 = .ok (.iconst 0, 1) := by decide +kernel
theorem dL_act_246 : decode cL_act 246 = .ok (.ireturn, 1) := by decide +kernel
theorem dL_act_247 : decode cL_act 247 = .ok (.iload_n 2, 1) := by decide +kernel
theorem dL_act_248 : decode cL_act 248 = .ok (.iconst 4, 1) := by decide +kernel
theorem dL_act_249 : decode cL_act 249 = .ok (.ishr, 1) := by decide +kernel
theorem dL_act_250 : decode cL_act 250 = .ok (.iconst 2, 1) := by decide +kernel
theorem dL_act_251 : decode cL_act 251 = .ok (.invokestatic 15, 3) := by decide +kernel
theorem dL_act_254 : decode cL_act 254 = .ok (.ifCond .ne 16, 3) := by decide +kernel
theorem dL_act_257 : decode cL_act 257 = .ok (.bipush 31, 2) := by decide +kernel
theorem dL_act_259 : decode cL_act 259 = .ok (.iload_n 2, 1) := by decide +kernel
theorem dL_act_260 : decode cL_act 260 = .ok (.imul, 1) := by decide +kernel
theorem dL_act_261 : decode cL_act 261 = .ok (.sipush 10000, 3) := by decide +kernel
theorem dL_act_264 : decode cL_act 264 = .ok (.invokestatic 15, 3) := by decide +kernel
theorem dL_act_267 : decode cL_act 267 = .ok (.goto 21, 3) := by decide +kernel
theorem dL_act_270 : decode cL_act 270 = .ok (.bipush 101, 2) := by decide +kernel
theorem dL_act_272 : decode cL_act 272 = .ok (.iload_n 2, 1) := by decide +kernel
theorem dL_act_273 : decode cL_act 273 = .ok (.iconst 2, 1) := by decide +kernel
theorem dL_act_274 : decode cL_act 274 = .ok (.ishr, 1) := by decide +kernel
theorem dL_act_275 : decode cL_act 275 = .ok (.iconst 4, 1) := by decide +kernel
theorem dL_act_276 : decode cL_act 276 = .ok (.invokestatic 15, 3) := by decide +kernel
theorem dL_act_279 : decode cL_act 279 = .ok (.imul, 1) := by decide +kernel
theorem dL_act_280 : decode cL_act 280 = .ok (.iload_n 2, 1) := by decide +kernel
theorem dL_act_281 : decode cL_act 281 = .ok (.iconst 5, 1) := by decide +kernel
theorem dL_act_282 : decode cL_act 282 = .ok (.ishr, 1) := by decide +kernel
theorem dL_act_283 : decode cL_act 283 = .ok (.iconst 3, 1) := by decide +kernel
theorem dL_act_284 : decode cL_act 284 = .ok (.invokestatic 15, 3) := by decide +kernel
theorem dL_act_287 : decode cL_act 287 = .ok (.iadd, 1) := by decide +kernel
theorem dL_act_288 : decode cL_act 288 = .ok (.istore 7, 2) := by decide +kernel
theorem dL_act_290 : decode cL_act 290 = .ok (.aload_n 1, 1) := by decide +kernel
theorem dL_act_291 : decode cL_act 291 = .ok (.getfield 9, 3) := by decide +kernel
theorem dL_act_294 : decode cL_act 294 = .ok (.iload 4, 2) := by decide +kernel
theorem dL_act_296 : decode cL_act 296 = .ok (.aaload, 1) := by decide +kernel
theorem dL_act_297 : decode cL_act 297 = .ok (.invokevirtual 50, 3) := by decide +kernel
theorem dL_act_300 : decode cL_act 300 = .ok (.istore 8, 2) := by decide +kernel
theorem dL_act_302 : decode cL_act 302 = .ok (.aload_n 1, 1) := by decide +kernel
theorem dL_act_303 : decode cL_act 303 = .ok (.getfield 9, 3) := by decide +kernel
theorem dL_act_306 : decode cL_act 306 = .ok (.iload 4, 2) := by decide +kernel
theorem dL_act_308 : decode cL_act 308 = .ok (.aaload, 1) := by decide +kernel
theorem dL_act_309 : decode cL_act 309 = .ok (.iload 7, 2) := by decide +kernel
theorem dL_act_311 : decode cL_act 311 = .ok (.iload_n 2, 1) := by decide +kernel
theorem dL_act_312 : decode cL_act 312 = .ok (.iconst 3, 1) := by decide +kernel
theorem dL_act_313 : decode cL_act 313 = .ok (.ishr, 1) := by decide +kernel
theorem dL_act_314 : decode cL_act 314 = .ok (.bipush 10, 2) := by decide +kernel
theorem dL_act_316 : decode cL_act 316 = .ok (.invokestatic 15, 3) := by decide +kernel
theorem dL_act_319 : decode cL_act 319 = .ok (.invokevirtual 54, 3) := by decide +kernel
theorem dL_act_322 : decode cL_act 322 = .ok (.aload_n 0, 1) := by decide +kernel
theorem dL_act_323 : decode cL_act 323 = .ok (.iload 4, 2) := by decide +kernel
theorem dL_act_325 : decode cL_act 325 = .ok (.iload 7, 2) := by decide +kernel
theorem dL_act_327 : decode cL_act 327 = .ok (.iload_n 2, 1) := by decide +kernel
theorem dL_act_328 : decode cL_act 328 = .ok (.iconst 3, 1) := by decide +kernel
theorem dL_act_329 : decode cL_act 329 = .ok (.ishr, 1) := by decide +kernel
theorem dL_act_330 : decode cL_act 330 = .ok (.bipush 10, 2) := by decide +kernel
theorem dL_act_332 : decode cL_act 332 = .ok (.invokestatic 15, 3) := by decide +kernel
theorem dL_act_335 : decode cL_act 335 = .ok (.invokevirtual 57, 3) := by decide +kernel
theorem dL_act_338 : decode cL_act 338 = .ok (.iload 8, 2) := by decide +kernel
theorem dL_act_340 : decode cL_act 340 = .ok (.if_icmp .ne 7, 3) := by decide +kernel
theorem dL_act_343 : decode cL_act 343 = .ok (.iconst 1, 1) := by decide +kernel
theorem dL_act_344 : decode cL_act 344 = .ok (.goto 4, 3) := by decide +kernel
theorem dL_act_347 : decode cL_act 347 = .ok (.iconst 0, 1) := by decide +kernel
theorem dL_act_348 : decode cL_act 348 = .ok (.ireturn, 1) := by decide +kernel
set_option maxRecDepth 20000 in
theorem ggL_build_X6_init : GoodIn wsL_build wsX6_init := goodIn_r _ [7, 8, 9, 10, 11, 12, 158, 159, 160] (by decide +kernel) (by decide +kernel)
set_option maxRecDepth 20000 in
theorem gL_build_X6_init_n61 : GoodIn wsL_build (wsX6_init) := ggL_build_X6_init
set_option maxRecDepth 20000 in
theorem ggL_build_L_cell : GoodIn wsL_build wsL_cell := goodIn_r _ [16, 17] (by decide +kernel) (by decide +kernel)
set_option maxRecDepth 20000 in
theorem gL_build_L_cell : GoodIn wsL_build (va_wsS RL 62 yL_cell wsL_cell) := goodIn_app (goodIn_of _ (by decide +kernel)) ggL_build_L_cell
set_option maxRecDepth 20000 in
theorem ggL_build_L_below : GoodIn wsL_build wsL_below := goodIn_r _ [20, 21] (by decide +kernel) (by decide +kernel)
set_option maxRecDepth 20000 in
theorem gL_build_L_below : GoodIn wsL_build (va_wsS RL 15 yL_below wsL_below) := goodIn_app (goodIn_of _ (by decide +kernel)) ggL_build_L_below
set_option maxRecDepth 20000 in
theorem ggL_build_X4_come : GoodIn wsL_build wsX4_come := goodIn_ca (goodIn_ca (goodIn_r _ [26, 27, 28, 29, 30, 31, 32, 33, 34, 25, 35, 36, 37, 38, 39, 40, 41, 42, 43, 44, 45, 46, 47, 48, 49, 50, 51, 52, 53, 54, 55, 56, 57, 58, 59, 60, 61, 62, 63, 64, 65, 66, 67, 68, 69, 70, 71, 72, 73, 74, 168, 169, 170, 171, 172, 173, 174, 175, 176, 177, 178, 179, 180, 181, 182, 183, 184, 185] (by decide +kernel) (by decide +kernel)) (goodIn_sub (fun _ h => List.mem_cons_of_mem _ (List.mem_append_left _ (List.mem_append_left _ (List.mem_append_right _ h)))) (by decide +kernel))) (goodIn_sub (fun _ h => List.mem_cons_of_mem _ (List.mem_append_left _ (List.mem_append_right _ h))) (by decide +kernel))
set_option maxRecDepth 20000 in
theorem gL_build_X4_come : GoodIn wsL_build (wsV RL 48 RX4 yX4_come wsX4_come) := goodIn_app (goodIn_of _ (by decide +kernel)) ggL_build_X4_come
set_option maxRecDepth 20000 in
theorem ggL_build_X6_come : GoodIn wsL_build wsX6_come := goodIn_r _ [78, 12, 11, 79, 80, 81, 82, 83, 84, 85, 9, 10, 86, 87, 88, 89, 90, 158, 159, 160, 161, 162, 163, 164, 165, 166, 167] (by decide +kernel) (by decide +kernel)
set_option maxRecDepth 20000 in
theorem gL_build_X6_come : GoodIn wsL_build (wsV RL 44 RX6 yX6_come wsX6_come) := goodIn_app (goodIn_of _ (by decide +kernel)) ggL_build_X6_come
set_option maxRecDepth 20000 in
theorem ggL_build_X5_place : GoodIn wsL_build wsX5_place := goodIn_r _ [94, 90, 161, 162, 163, 164, 165, 166, 167] (by decide +kernel) (by decide +kernel)
set_option maxRecDepth 20000 in
theorem gL_build_X5_place : GoodIn wsL_build (wsV RL 21 RX5 yX5_place wsX5_place) := goodIn_app (goodIn_of _ (by decide +kernel)) ggL_build_X5_place
set_option maxRecDepth 20000 in
theorem ggL_build_X4_listen : GoodIn wsL_build wsX4_listen := goodIn_ca (goodIn_ca (goodIn_ca (goodIn_r _ [98, 27, 28, 29, 30, 31, 99, 100, 101, 25, 102, 103, 104, 39, 40, 41, 42, 43, 44, 105, 106, 107, 108, 109, 110, 111, 112, 54, 113, 56, 114, 115, 116, 117, 118, 119, 120, 121, 122, 51, 52, 53, 55, 123, 124, 125, 126, 127, 128, 129, 130, 168, 169, 170, 171, 172, 173, 174, 175, 176, 177] (by decide +kernel) (by decide +kernel)) (goodIn_sub (fun _ h => List.mem_cons_of_mem _ (List.mem_append_left _ (List.mem_append_left _ (List.mem_append_right _ h)))) (by decide +kernel))) (goodIn_sub (fun _ h => List.mem_cons_of_mem _ (List.mem_append_left _ (List.mem_append_right _ h))) (by decide +kernel))) (goodIn_sub (fun _ h => List.mem_cons_of_mem _ (List.mem_append_right _ h)) (by decide +kernel))
set_option maxRecDepth 20000 in
theorem gL_build_X4_listen : GoodIn wsL_build (wsV RL 31 RX4 yX4_listen wsX4_listen) := goodIn_app (goodIn_of _ (by decide +kernel)) ggL_build_X4_listen
set_option maxRecDepth 20000 in
theorem ggL_build_X6_listen : GoodIn wsL_build wsX6_listen := goodIn_r _ [134, 12, 135, 86, 136, 92, 93, 80, 94, 90, 158, 159, 160, 161, 162, 163, 164, 165, 166, 167] (by decide +kernel) (by decide +kernel)
set_option maxRecDepth 20000 in
theorem gL_build_X6_listen : GoodIn wsL_build (wsV RL 36 RX6 yX6_listen wsX6_listen) := goodIn_app (goodIn_of _ (by decide +kernel)) ggL_build_X6_listen
set_option maxRecDepth 20000 in
theorem ggL_build_X5_say : GoodIn wsL_build wsX5_say := goodIn_r _ [140, 87, 88, 89, 141, 161, 162, 163, 164, 165, 166, 167] (by decide +kernel) (by decide +kernel)
set_option maxRecDepth 20000 in
theorem gL_build_X5_say : GoodIn wsL_build (wsV RL 54 RX5 yX5_say wsX5_say) := goodIn_app (goodIn_of _ (by decide +kernel)) ggL_build_X5_say
set_option maxRecDepth 20000 in
theorem ggL_build_X4_whisper : GoodIn wsL_build wsX4_whisper := goodIn_ca (goodIn_ca (goodIn_r _ [145, 27, 28, 32, 99, 100, 101, 25, 102, 103, 104, 31, 39, 40, 41, 42, 43, 44, 146, 147, 148, 33, 34, 35, 149, 150, 151, 60, 152, 62, 63, 153, 154, 155, 68, 156, 70, 157, 111, 112, 54, 113, 56, 57, 58, 59, 61, 64, 65, 66, 67, 69, 71, 72, 73, 52, 53, 55, 74, 168, 169, 170, 171, 172, 173, 174, 175, 176, 178, 179, 180, 181, 182, 183, 184, 185, 177] (by decide +kernel) (by decide +kernel)) (goodIn_sub (fun _ h => List.mem_cons_of_mem _ (List.mem_append_left _ (List.mem_append_left _ (List.mem_append_right _ h)))) (by decide +kernel))) (goodIn_sub (fun _ h => List.mem_cons_of_mem _ (List.mem_append_right _ h)) (by decide +kernel))
set_option maxRecDepth 20000 in
theorem gL_build_X4_whisper : GoodIn wsL_build (wsV RL 57 RX4 yX4_whisper wsX4_whisper) := goodIn_app (goodIn_of _ (by decide +kernel)) ggL_build_X4_whisper
theorem dL_build_0 : decode cL_build 0 = .ok (.new 10, 3) := by decide +kernel
theorem dL_build_3 : decode cL_build 3 = .ok (.dup, 1) := by decide +kernel
theorem dL_build_4 : decode cL_build 4 = .ok (.invokespecial 61, 3) := by decide +kernel
theorem dL_build_7 : decode cL_build 7 = .ok (.astore_n 2, 1) := by decide +kernel
theorem dL_build_8 : decode cL_build 8 = .ok (.iconst 1, 1) := by decide +kernel
theorem dL_build_9 : decode cL_build 9 = .ok (.aload_n 1, 1) := by decide +kernel
theorem dL_build_10 : decode cL_build 10 = .ok (.iconst 0, 1) := by decide +kernel
theorem dL_build_11 : decode cL_build 11 = .ok (.invokestatic 62, 3) := by decide +kernel
theorem dL_build_14 : decode cL_build 14 = .ok (.bipush 11, 2) := by decide +kernel
theorem dL_build_16 : decode cL_build 16 = .ok (.invokestatic 15, 3) := by decide +kernel
theorem dL_build_19 : decode cL_build 19 = .ok (.iadd, 1) := by decide +kernel
theorem dL_build_20 : decode cL_build 20 = .ok (.istore_n 3, 1) := by decide +kernel
theorem dL_build_21 : decode cL_build 21 = .ok (.iconst 0, 1) := by decide +kernel
theorem dL_build_22 : decode cL_build 22 = .ok (.istore 4, 2) := by decide +kernel
theorem dL_build_24 : decode cL_build 24 = .ok (.iload 4, 2) := by decide +kernel
theorem dL_build_26 : decode cL_build 26 = .ok (.iload_n 3, 1) := by decide +kernel
theorem dL_build_27 : decode cL_build 27 = .ok (.if_icmp .ge 67, 3) := by decide +kernel
theorem dL_build_30 : decode cL_build 30 = .ok (.iconst 1, 1) := by decide +kernel
theorem dL_build_31 : decode cL_build 31 = .ok (.aload_n 1, 1) := by decide +kernel
theorem dL_build_32 : decode cL_build 32 = .ok (.iconst 1, 1) := by decide +kernel
theorem dL_build_33 : decode cL_build 33 = .ok (.invokestatic 62, 3) := by decide +kernel
theorem dL_build_36 : decode cL_build 36 = .ok (.iload 4, 2) := by decide +kernel
theorem dL_build_38 : decode cL_build 38 = .ok (.ishr, 1) := by decide +kernel
theorem dL_build_39 : decode cL_build 39 = .ok (.bipush 9, 2) := by decide +kernel
theorem dL_build_41 : decode cL_build 41 = .ok (.invokestatic 15, 3) := by decide +kernel
theorem dL_build_44 : decode cL_build 44 = .ok (.iadd, 1) := by decide +kernel
theorem dL_build_45 : decode cL_build 45 = .ok (.istore 5, 2) := by decide +kernel
theorem dL_build_47 : decode cL_build 47 = .ok (.iconst 1, 1) := by decide +kernel
theorem dL_build_48 : decode cL_build 48 = .ok (.aload_n 1, 1) := by decide +kernel
theorem dL_build_49 : decode cL_build 49 = .ok (.iconst 2, 1) := by decide +kernel
theorem dL_build_50 : decode cL_build 50 = .ok (.invokestatic 62, 3) := by decide +kernel
theorem dL_build_53 : decode cL_build 53 = .ok (.iconst 2, 1) := by decide +kernel
theorem dL_build_54 : decode cL_build 54 = .ok (.iload 4, 2) := by decide +kernel
theorem dL_build_56 : decode cL_build 56 = .ok (.imul, 1) := by decide +kernel
theorem dL_build_57 : decode cL_build 57 = .ok (.ishr, 1) := by decide +kernel
theorem dL_build_58 : decode cL_build 58 = .ok (.iconst 5, 1) := by decide +kernel
theorem dL_build_59 : decode cL_build 59 = .ok (.invokestatic 15, 3) := by decide +kernel
theorem dL_build_62 : decode cL_build 62 = .ok (.iadd, 1) := by decide +kernel
theorem dL_build_63 : decode cL_build 63 = .ok (.istore 6, 2) := by decide +kernel
theorem dL_build_65 : decode cL_build 65 = .ok (.aload_n 0, 1) := by decide +kernel
theorem dL_build_66 : decode cL_build 66 = .ok (.iload 5, 2) := by decide +kernel
theorem dL_build_68 : decode cL_build 68 = .ok (.iload 6, 2) := by decide +kernel
theorem dL_build_70 : decode cL_build 70 = .ok (.invokevirtual 48, 3) := by decide +kernel
theorem dL_build_73 : decode cL_build 73 = .ok (.iload 4, 2) := by decide +kernel
theorem dL_build_75 : decode cL_build 75 = .ok (.if_icmp .eq 5, 3) := by decide +kernel
theorem dL_build_78 : decode cL_build 78 = .ok (.aconst_null, 1) := by decide +kernel
theorem dL_build_79 : decode cL_build 79 = .ok (.areturn, 1) := by decide +kernel
theorem dL_build_80 : decode cL_build 80 = .ok (.aload_n 2, 1) := by decide +kernel
theorem dL_build_81 : decode cL_build 81 = .ok (.iload 5, 2) := by decide +kernel
theorem dL_build_83 : decode cL_build 83 = .ok (.iload 6, 2) := by decide +kernel
theorem dL_build_85 : decode cL_build 85 = .ok (.invokevirtual 44, 3) := by decide +kernel
theorem dL_build_88 : decode cL_build 88 = .ok (.iinc 4 1, 3) := by decide +kernel
theorem dL_build_91 : decode cL_build 91 = .ok (.goto (-67), 3) := by decide +kernel
theorem dL_build_94 : decode cL_build 94 = .ok (.iconst 0, 1) := by decide +kernel
theorem dL_build_95 : decode cL_build 95 = .ok (.istore 4, 2) := by decide +kernel
theorem dL_build_97 : decode cL_build 97 = .ok (.iload 4, 2) := by decide +kernel
theorem dL_build_99 : decode cL_build 99 = .ok (.iconst 2, 1) := by decide +kernel
theorem dL_build_100 : decode cL_build 100 = .ok (.iload_n 3, 1) := by decide +kernel
theorem dL_build_101 : decode cL_build 101 = .ok (.imul, 1) := by decide +kernel
theorem dL_build_102 : decode cL_build 102 = .ok (.if_icmp .ge 120, 3) := by decide +kernel
theorem dL_build_105 : decode cL_build 105 = .ok (.iload_n 3, 1) := by decide +kernel
theorem dL_build_106 : decode cL_build 106 = .ok (.iconst 1, 1) := by decide +kernel
theorem dL_build_107 : decode cL_build 107 = .ok (.if_icmp .le 115, 3) := by decide +kernel
theorem dL_build_110 : decode cL_build 110 = .ok (.aload_n 1, 1) := by decide +kernel
theorem dL_build_111 : decode cL_build 111 = .ok (.iconst 3, 1) := by decide +kernel
theorem dL_build_112 : decode cL_build 112 = .ok (.iload 4, 2) := by decide +kernel
theorem dL_build_114 : decode cL_build 114 = .ok (.iconst 5, 1) := by decide +kernel
theorem dL_build_115 : decode cL_build 115 = .ok (.irem, 1) := by decide +kernel
theorem dL_build_116 : decode cL_build 116 = .ok (.iadd, 1) := by decide +kernel
theorem dL_build_117 : decode cL_build 117 = .ok (.invokestatic 62, 3) := by decide +kernel
theorem dL_build_120 : decode cL_build 120 = .ok (.iload 4, 2) := by decide +kernel
theorem dL_build_122 : decode cL_build 122 = .ok (.iconst 5, 1) := by decide +kernel
theorem dL_build_123 : decode cL_build 123 = .ok (.idiv, 1) := by decide +kernel
theorem dL_build_124 : decode cL_build 124 = .ok (.iconst 4, 1) := by decide +kernel
theorem dL_build_125 : decode cL_build 125 = .ok (.imul, 1) := by decide +kernel
theorem dL_build_126 : decode cL_build 126 = .ok (.ishr, 1) := by decide +kernel
theorem dL_build_127 : decode cL_build 127 = .ok (.bipush 23, 2) := by decide +kernel
theorem dL_build_129 : decode cL_build 129 = .ok (.iload 4, 2) := by decide +kernel
theorem dL_build_131 : decode cL_build 131 = .ok (.imul, 1) := by decide +kernel
theorem dL_build_132 : decode cL_build 132 = .ok (.iadd, 1) := by decide +kernel
theorem dL_build_133 : decode cL_build 133 = .ok (.istore 5, 2) := by decide +kernel
theorem dL_build_135 : decode cL_build 135 = .ok (.iload 5, 2) := by decide +kernel
theorem dL_build_137 : decode cL_build 137 = .ok (.iload_n 3, 1) := by decide +kernel
theorem dL_build_138 : decode cL_build 138 = .ok (.invokestatic 15, 3) := by decide +kernel
theorem dL_build_141 : decode cL_build 141 = .ok (.istore 6, 2) := by decide +kernel
theorem dL_build_143 : decode cL_build 143 = .ok (.iload 6, 2) := by decide +kernel
theorem dL_build_145 : decode cL_build 145 = .ok (.iconst 1, 1) := by decide +kernel
theorem dL_build_146 : decode cL_build 146 = .ok (.iadd, 1) := by decide +kernel
theorem dL_build_147 : decode cL_build 147 = .ok (.iload 5, 2) := by decide +kernel
theorem dL_build_149 : decode cL_build 149 = .ok (.iconst 3, 1) := by decide +kernel
theorem dL_build_150 : decode cL_build 150 = .ok (.ishr, 1) := by decide +kernel
theorem dL_build_151 : decode cL_build 151 = .ok (.iload_n 3, 1) := by decide +kernel
theorem dL_build_152 : decode cL_build 152 = .ok (.iconst 1, 1) := by decide +kernel
theorem dL_build_153 : decode cL_build 153 = .ok (.isub, 1) := by decide +kernel
theorem dL_build_154 : decode cL_build 154 = .ok (.invokestatic 15, 3) := by decide +kernel
theorem dL_build_157 : decode cL_build 157 = .ok (.iadd, 1) := by decide +kernel
theorem dL_build_158 : decode cL_build 158 = .ok (.iload_n 3, 1) := by decide +kernel
theorem dL_build_159 : decode cL_build 159 = .ok (.irem, 1) := by decide +kernel
theorem dL_build_160 : decode cL_build 160 = .ok (.istore 7, 2) := by decide +kernel
theorem dL_build_162 : decode cL_build 162 = .ok (.aload_n 2, 1) := by decide +kernel
theorem dL_build_163 : decode cL_build 163 = .ok (.getfield 9, 3) := by decide +kernel
theorem dL_build_166 : decode cL_build 166 = .ok (.iload 6, 2) := by decide +kernel
theorem dL_build_168 : decode cL_build 168 = .ok (.aaload, 1) := by decide +kernel
theorem dL_build_169 : decode cL_build 169 = .ok (.iload 7, 2) := by decide +kernel
theorem dL_build_171 : decode cL_build 171 = .ok (.invokevirtual 21, 3) := by decide +kernel
theorem dL_build_174 : decode cL_build 174 = .ok (.ifCond .ge 21, 3) := by decide +kernel
theorem dL_build_177 : decode cL_build 177 = .ok (.aload_n 2, 1) := by decide +kernel
theorem dL_build_178 : decode cL_build 178 = .ok (.getfield 9, 3) := by decide +kernel
theorem dL_build_181 : decode cL_build 181 = .ok (.iload 6, 2) := by decide +kernel
theorem dL_build_183 : decode cL_build 183 = .ok (.aaload, 1) := by decide +kernel
theorem dL_build_184 : decode cL_build 184 = .ok (.getfield 27, 3) := by decide +kernel
theorem dL_build_187 : decode cL_build 187 = .ok (.arraylength, 1) := by decide +kernel
theorem dL_build_188 : decode cL_build 188 = .ok (.iconst 4, 1) := by decide +kernel
theorem dL_build_189 : decode cL_build 189 = .ok (.if_icmp .ne 6, 3) := by decide +kernel
theorem dL_build_192 : decode cL_build 192 = .ok (.goto 24, 3) := by decide +kernel
theorem dL_build_195 : decode cL_build 195 = .ok (.aload_n 0, 1) := by decide +kernel
theorem dL_build_196 : decode cL_build 196 = .ok (.iload 6, 2) := by decide +kernel
theorem dL_build_198 : decode cL_build 198 = .ok (.iload 7, 2) := by decide +kernel
theorem dL_build_200 : decode cL_build 200 = .ok (.invokevirtual 31, 3) := by decide +kernel
theorem dL_build_203 : decode cL_build 203 = .ok (.aload_n 2, 1) := by decide +kernel
theorem dL_build_204 : decode cL_build 204 = .ok (.iload 6, 2) := by decide +kernel
theorem dL_build_206 : decode cL_build 206 = .ok (.iload 7, 2) := by decide +kernel
theorem dL_build_208 : decode cL_build 208 = .ok (.invokevirtual 36, 3) := by decide +kernel
theorem dL_build_211 : decode cL_build 211 = .ok (.if_icmp .eq 5, 3) := by decide +kernel
theorem dL_build_214 : decode cL_build 214 = .ok (.aconst_null, 1) := by decide +kernel
theorem dL_build_215 : decode cL_build 215 = .ok (.areturn, 1) := by decide +kernel
theorem dL_build_216 : decode cL_build 216 = .ok (.iinc 4 1, 3) := by decide +kernel
theorem dL_build_219 : decode cL_build 219 = .ok (.goto (-122), 3) := by decide +kernel
theorem dL_build_222 : decode cL_build 222 = .ok (.iconst 0, 1) := by decide +kernel
theorem dL_build_223 : decode cL_build 223 = .ok (.istore 4, 2) := by decide +kernel
theorem dL_build_225 : decode cL_build 225 = .ok (.iload 4, 2) := by decide +kernel
theorem dL_build_227 : decode cL_build 227 = .ok (.iload_n 3, 1) := by decide +kernel
theorem dL_build_228 : decode cL_build 228 = .ok (.if_icmp .ge 103, 3) := by decide +kernel
theorem dL_build_231 : decode cL_build 231 = .ok (.aload_n 1, 1) := by decide +kernel
theorem dL_build_232 : decode cL_build 232 = .ok (.bipush 8, 2) := by decide +kernel
theorem dL_build_234 : decode cL_build 234 = .ok (.iload 4, 2) := by decide +kernel
theorem dL_build_236 : decode cL_build 236 = .ok (.iconst 4, 1) := by decide +kernel
theorem dL_build_237 : decode cL_build 237 = .ok (.irem, 1) := by decide +kernel
theorem dL_build_238 : decode cL_build 238 = .ok (.iadd, 1) := by decide +kernel
theorem dL_build_239 : decode cL_build 239 = .ok (.invokestatic 62, 3) := by decide +kernel
theorem dL_build_242 : decode cL_build 242 = .ok (.iload 4, 2) := by decide +kernel
theorem dL_build_244 : decode cL_build 244 = .ok (.iconst 4, 1) := by decide +kernel
theorem dL_build_245 : decode cL_build 245 = .ok (.idiv, 1) := by decide +kernel
theorem dL_build_246 : decode cL_build 246 = .ok (.iconst 5, 1) := by decide +kernel
theorem dL_build_247 : decode cL_build 247 = .ok (.imul, 1) := by decide +kernel
theorem dL_build_248 : decode cL_build 248 = .ok (.ishr, 1) := by decide +kernel
theorem dL_build_249 : decode cL_build 249 = .ok (.bipush 41, 2) := by decide +kernel
theorem dL_build_251 : decode cL_build 251 = .ok (.iload 4, 2) := by decide +kernel
theorem dL_build_253 : decode cL_build 253 = .ok (.imul, 1) := by decide +kernel
theorem dL_build_254 : decode cL_build 254 = .ok (.iadd, 1) := by decide +kernel
theorem dL_build_255 : decode cL_build 255 = .ok (.istore 5, 2) := by decide +kernel
theorem dL_build_257 : decode cL_build 257 = .ok (.iload 5, 2) := by decide +kernel
theorem dL_build_259 : decode cL_build 259 = .ok (.iconst 3, 1) := by decide +kernel
theorem dL_build_260 : decode cL_build 260 = .ok (.invokestatic 15, 3) := by decide +kernel
theorem dL_build_263 : decode cL_build 263 = .ok (.ifCond .ne 6, 3) := by decide +kernel
theorem dL_build_266 : decode cL_build 266 = .ok (.goto 59, 3) := by decide +kernel
theorem dL_build_269 : decode cL_build 269 = .ok (.bipush 29, 2) := by decide +kernel
theorem dL_build_271 : decode cL_build 271 = .ok (.iload 5, 2) := by decide +kernel
theorem dL_build_273 : decode cL_build 273 = .ok (.imul, 1) := by decide +kernel
theorem dL_build_274 : decode cL_build 274 = .ok (.sipush 10000, 3) := by decide +kernel
theorem dL_build_277 : decode cL_build 277 = .ok (.invokestatic 15, 3) := by decide +kernel
theorem dL_build_280 : decode cL_build 280 = .ok (.istore 6, 2) := by decide +kernel
theorem dL_build_282 : decode cL_build 282 = .ok (.aload_n 2, 1) := by decide +kernel
theorem dL_build_283 : decode cL_build 283 = .ok (.getfield 9, 3) := by decide +kernel
theorem dL_build_286 : decode cL_build 286 = .ok (.iload 4, 2) := by decide +kernel
theorem dL_build_288 : decode cL_build 288 = .ok (.aaload, 1) := by decide +kernel
theorem dL_build_289 : decode cL_build 289 = .ok (.iload 6, 2) := by decide +kernel
theorem dL_build_291 : decode cL_build 291 = .ok (.iload 5, 2) := by decide +kernel
theorem dL_build_293 : decode cL_build 293 = .ok (.iconst 4, 1) := by decide +kernel
theorem dL_build_294 : decode cL_build 294 = .ok (.ishr, 1) := by decide +kernel
theorem dL_build_295 : decode cL_build 295 = .ok (.bipush 10, 2) := by decide +kernel
theorem dL_build_297 : decode cL_build 297 = .ok (.invokestatic 15, 3) := by decide +kernel
theorem dL_build_300 : decode cL_build 300 = .ok (.invokevirtual 54, 3) := by decide +kernel
theorem dL_build_303 : decode cL_build 303 = .ok (.aload_n 0, 1) := by decide +kernel
theorem dL_build_304 : decode cL_build 304 = .ok (.iload 4, 2) := by decide +kernel
theorem dL_build_306 : decode cL_build 306 = .ok (.iload 6, 2) := by decide +kernel
theorem dL_build_308 : decode cL_build 308 = .ok (.iload 5, 2) := by decide +kernel
theorem dL_build_310 : decode cL_build 310 = .ok (.iconst 4, 1) := by decide +kernel
theorem dL_build_311 : decode cL_build 311 = .ok (.ishr, 1) := by decide +kernel
theorem dL_build_312 : decode cL_build 312 = .ok (.bipush 10, 2) := by decide +kernel
theorem dL_build_314 : decode cL_build 314 = .ok (.invokestatic 15, 3) := by decide +kernel
theorem dL_build_317 : decode cL_build 317 = .ok (.invokevirtual 57, 3) := by decide +kernel
theorem dL_build_320 : decode cL_build 320 = .ok (.ifCond .eq 5, 3) := by decide +kernel
theorem dL_build_323 : decode cL_build 323 = .ok (.aconst_null, 1) := by decide +kernel
theorem dL_build_324 : decode cL_build 324 = .ok (.areturn, 1) := by decide +kernel
theorem dL_build_325 : decode cL_build 325 = .ok (.iinc 4 1, 3) := by decide +kernel
theorem dL_build_328 : decode cL_build 328 = .ok (.goto (-103), 3) := by decide +kernel
theorem dL_build_331 : decode cL_build 331 = .ok (.aload_n 2, 1) := by decide +kernel
theorem dL_build_332 : decode cL_build 332 = .ok (.areturn, 1) := by decide +kernel
