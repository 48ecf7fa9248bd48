theorem dX5_takes_77 : decode cX5_takes 77 = .ok (.invokevirtual 83, 3) := by decide +kernel
theorem dX5_takes_80 : decode cX5_takes 80 = .ok (.if_icmp .le 21, 3) := by decide +kernel
theorem dX5_takes_83 : decode cX5_takes 83 = .ok (.aload_n 0, 1) := by decide +kernel
theorem dX5_takes_84 : decode cX5_takes 84 = .ok (.iload_n 1, 1) := by decide +kernel
theorem dX5_takes_85 : decode cX5_takes 85 = .ok (.bipush 6, 2) := by decide +kernel
theorem dX5_takes_87 : decode cX5_takes 87 = .ok (.aload_n 0, 1) := by decide +kernel
theorem dX5_takes_88 : decode cX5_takes 88 = .ok (.iload_n 1, 1) := by decide +kernel
theorem dX5_takes_89 : decode cX5_takes 89 = .ok (.bipush 6, 2) := by decide +kernel
theorem dX5_takes_91 : decode cX5_takes 91 = .ok (.invokevirtual 83, 3) := by decide +kernel
theorem dX5_takes_94 : decode cX5_takes 94 = .ok (.iconst 1, 1) := by decide +kernel
theorem dX5_takes_95 : decode cX5_takes 95 = .ok (.isub, 1) := by decide +kernel
theorem dX5_takes_96 : decode cX5_takes 96 = .ok (.invokevirtual 54, 3) := by decide +kernel
theorem dX5_takes_99 : decode cX5_takes 99 = .ok (.iconst 0, 1) := by decide +kernel
theorem dX5_takes_100 : decode cX5_takes 100 = .ok (.ireturn, 1) := by decide +kernel
theorem dX5_takes_101 : decode cX5_takes 101 = .ok (.iload_n 1, 1) := by decide +kernel
theorem dX5_takes_102 : decode cX5_takes 102 = .ok (.iconst 2, 1) := by decide +kernel
theorem dX5_takes_103 : decode cX5_takes 103 = .ok (.irem, 1) := by decide +kernel
theorem dX5_takes_104 : decode cX5_takes 104 = .ok (.istore_n 3, 1) := by decide +kernel
theorem dX5_takes_105 : decode cX5_takes 105 = .ok (.aload_n 0, 1) := by decide +kernel
theorem dX5_takes_106 : decode cX5_takes 106 = .ok (.iload_n 1, 1) := by decide +kernel
theorem dX5_takes_107 : decode cX5_takes 107 = .ok (.iload_n 3, 1) := by decide +kernel
theorem dX5_takes_108 : decode cX5_takes 108 = .ok (.aload_n 0, 1) := by decide +kernel
theorem dX5_takes_109 : decode cX5_takes 109 = .ok (.iload_n 2, 1) := by decide +kernel
theorem dX5_takes_110 : decode cX5_takes 110 = .ok (.iload_n 3, 1) := by decide +kernel
theorem dX5_takes_111 : decode cX5_takes 111 = .ok (.invokevirtual 83, 3) := by decide +kernel
theorem dX5_takes_114 : decode cX5_takes 114 = .ok (.invokevirtual 54, 3) := by decide +kernel
theorem dX5_takes_117 : decode cX5_takes 117 = .ok (.aload_n 0, 1) := by decide +kernel
theorem dX5_takes_118 : decode cX5_takes 118 = .ok (.iload_n 1, 1) := by decide +kernel
theorem dX5_takes_119 : decode cX5_takes 119 = .ok (.iconst 2, 1) := by decide +kernel
theorem dX5_takes_120 : decode cX5_takes 120 = .ok (.iload_n 3, 1) := by decide +kernel
theorem dX5_takes_121 : decode cX5_takes 121 = .ok (.iadd, 1) := by decide +kernel
theorem dX5_takes_122 : decode cX5_takes 122 = .ok (.iload_n 2, 1) := by decide +kernel
theorem dX5_takes_123 : decode cX5_takes 123 = .ok (.invokevirtual 54, 3) := by decide +kernel
theorem dX5_takes_126 : decode cX5_takes 126 = .ok (.aload_n 0, 1) := by decide +kernel
theorem dX5_takes_127 : decode cX5_takes 127 = .ok (.iload_n 1, 1) := by decide +kernel
theorem dX5_takes_128 : decode cX5_takes 128 = .ok (.iconst 4, 1) := by decide +kernel
theorem dX5_takes_129 : decode cX5_takes 129 = .ok (.iload_n 3, 1) := by decide +kernel
theorem dX5_takes_130 : decode cX5_takes 130 = .ok (.iadd, 1) := by decide +kernel
theorem dX5_takes_131 : decode cX5_takes 131 = .ok (.bipush 99, 2) := by decide +kernel
theorem dX5_takes_133 : decode cX5_takes 133 = .ok (.aload_n 0, 1) := by decide +kernel
theorem dX5_takes_134 : decode cX5_takes 134 = .ok (.iload_n 2, 1) := by decide +kernel
theorem dX5_takes_135 : decode cX5_takes 135 = .ok (.iconst 4, 1) := by decide +kernel
theorem dX5_takes_136 : decode cX5_takes 136 = .ok (.iload_n 3, 1) := by decide +kernel
theorem dX5_takes_137 : decode cX5_takes 137 = .ok (.iadd, 1) := by decide +kernel
theorem dX5_takes_138 : decode cX5_takes 138 = .ok (.invokevirtual 83, 3) := by decide +kernel
theorem dX5_takes_141 : decode cX5_takes 141 = .ok (.iconst 1, 1) := by decide +kernel
theorem dX5_takes_142 : decode cX5_takes 142 = .ok (.iadd, 1) := by decide +kernel
theorem dX5_takes_143 : decode cX5_takes 143 = .ok (.invokestatic 86, 3) := by decide +kernel
theorem dX5_takes_146 : decode cX5_takes 146 = .ok (.invokevirtual 54, 3) := by decide +kernel
theorem dX5_takes_149 : decode cX5_takes 149 = .ok (.aload_n 0, 1) := by decide +kernel
theorem dX5_takes_150 : decode cX5_takes 150 = .ok (.iload_n 1, 1) := by decide +kernel
theorem dX5_takes_151 : decode cX5_takes 151 = .ok (.bipush 6, 2) := by decide +kernel
theorem dX5_takes_153 : decode cX5_takes 153 = .ok (.iconst 1, 1) := by decide +kernel
theorem dX5_takes_154 : decode cX5_takes 154 = .ok (.invokevirtual 54, 3) := by decide +kernel
theorem dX5_takes_157 : decode cX5_takes 157 = .ok (.iconst 1, 1) := by decide +kernel
theorem dX5_takes_158 : decode cX5_takes 158 = .ok (.ireturn, 1) := by decide +kernel
set_option maxRecDepth 20000 in
theorem ggX5_roundOn_X5_takes : GoodIn wsX5_roundOn wsX5_takes := goodIn_r _ [17, 18, 19, 11, 20, 21, 22, 23, 16, 24, 25, 26, 27, 28, 29, 1, 30, 31, 32, 33, 2, 34, 35, 36, 37, 38, 39, 40, 41, 42, 43] (by decide +kernel) (by decide +kernel)
set_option maxRecDepth 20000 in
theorem gX5_roundOn_X5_takes : GoodIn wsX5_roundOn (wsV RX5 91 RX5 yX5_takes wsX5_takes) := goodIn_app (goodIn_of _ (by decide +kernel)) ggX5_roundOn_X5_takes
set_option maxRecDepth 20000 in
theorem ggX5_roundOn_X5_ju : GoodIn wsX5_roundOn wsX5_ju := goodIn_r _ [29, 1, 38, 39, 40, 41, 42, 43] (by decide +kernel) (by decide +kernel)
set_option maxRecDepth 20000 in
theorem gX5_roundOn_X5_ju : GoodIn wsX5_roundOn (wsV RX5 33 RX5 yX5_ju wsX5_ju) := goodIn_app (goodIn_of _ (by decide +kernel)) ggX5_roundOn_X5_ju
set_option maxRecDepth 20000 in
theorem ggX5_roundOn_X5_put : GoodIn wsX5_roundOn wsX5_put := goodIn_r _ [37, 1, 38, 39, 40, 41, 42, 43] (by decide +kernel) (by decide +kernel)
set_option maxRecDepth 20000 in
theorem gX5_roundOn_X5_put : GoodIn wsX5_roundOn (wsV RX5 54 RX5 yX5_put wsX5_put) := goodIn_app (goodIn_of _ (by decide +kernel)) ggX5_roundOn_X5_put
theorem dX5_roundOn_0 : decode cX5_roundOn 0 = .ok (.aload_n 0, 1) := by decide +kernel
theorem dX5_roundOn_1 : decode cX5_roundOn 1 = .ok (.getfield 9, 3) := by decide +kernel
theorem dX5_roundOn_4 : decode cX5_roundOn 4 = .ok (.iconst 0, 1) := by decide +kernel
theorem dX5_roundOn_5 : decode cX5_roundOn 5 = .ok (.aload_n 0, 1) := by decide +kernel
theorem dX5_roundOn_6 : decode cX5_roundOn 6 = .ok (.getfield 13, 3) := by decide +kernel
theorem dX5_roundOn_9 : decode cX5_roundOn 9 = .ok (.iconst 0, 1) := by decide +kernel
theorem dX5_roundOn_10 : decode cX5_roundOn 10 = .ok (.aload_n 0, 1) := by decide +kernel
theorem dX5_roundOn_11 : decode cX5_roundOn 11 = .ok (.getfield 9, 3) := by decide +kernel
theorem dX5_roundOn_14 : decode cX5_roundOn 14 = .ok (.arraylength, 1) := by decide +kernel
theorem dX5_roundOn_15 : decode cX5_roundOn 15 = .ok (.invokestatic 41, 3) := by decide +kernel
theorem dX5_roundOn_18 : decode cX5_roundOn 18 = .ok (.iconst 0, 1) := by decide +kernel
theorem dX5_roundOn_19 : decode cX5_roundOn 19 = .ok (.istore_n 1, 1) := by decide +kernel
theorem dX5_roundOn_20 : decode cX5_roundOn 20 = .ok (.iload_n 1, 1) := by decide +kernel
theorem dX5_roundOn_21 : decode cX5_roundOn 21 = .ok (.aload_n 0, 1) := by decide +kernel
theorem dX5_roundOn_22 : decode cX5_roundOn 22 = .ok (.getfield 26, 3) := by decide +kernel
theorem dX5_roundOn_25 : decode cX5_roundOn 25 = .ok (.if_icmp .ge 31, 3) := by decide +kernel
theorem dX5_roundOn_28 : decode cX5_roundOn 28 = .ok (.aload_n 0, 1) := by decide +kernel
theorem dX5_roundOn_29 : decode cX5_roundOn 29 = .ok (.getfield 19, 3) := by decide +kernel
theorem dX5_roundOn_32 : decode cX5_roundOn 32 = .ok (.iconst 1, 1) := by decide +kernel
theorem dX5_roundOn_33 : decode cX5_roundOn 33 = .ok (.dup2, 1) := by decide +kernel
theorem dX5_roundOn_34 : decode cX5_roundOn 34 = .ok (.iaload, 1) := by decide +kernel
theorem dX5_roundOn_35 : decode cX5_roundOn 35 = .ok (.aload_n 0, 1) := by decide +kernel
theorem dX5_roundOn_36 : decode cX5_roundOn 36 = .ok (.iload_n 1, 1) := by decide +kernel
theorem dX5_roundOn_37 : decode cX5_roundOn 37 = .ok (.invokevirtual 91, 3) := by decide +kernel
theorem dX5_roundOn_40 : decode cX5_roundOn 40 = .ok (.ifCond .eq 7, 3) := by decide +kernel
theorem dX5_roundOn_43 : decode cX5_roundOn 43 = .ok (.iconst 1, 1) := by decide +kernel
theorem dX5_roundOn_44 : decode cX5_roundOn 44 = .ok (.goto 4, 3) := by decide +kernel
theorem dX5_roundOn_47 : decode cX5_roundOn 47 = .ok (.iconst 0, 1) := by decide +kernel
theorem dX5_roundOn_48 : decode cX5_roundOn 48 = .ok (.iadd, 1) := by decide +kernel
theorem dX5_roundOn_49 : decode cX5_roundOn 49 = .ok (.iastore, 1) := by decide +kernel
theorem dX5_roundOn_50 : decode cX5_roundOn 50 = .ok (.iinc 1 1, 3) := by decide +kernel
theorem dX5_roundOn_53 : decode cX5_roundOn 53 = .ok (.goto (-33), 3) := by decide +kernel
theorem dX5_roundOn_56 : decode cX5_roundOn 56 = .ok (.iconst 0, 1) := by decide +kernel
theorem dX5_roundOn_57 : decode cX5_roundOn 57 = .ok (.istore_n 1, 1) := by decide +kernel
theorem dX5_roundOn_58 : decode cX5_roundOn 58 = .ok (.iload_n 1, 1) := by decide +kernel
theorem dX5_roundOn_59 : decode cX5_roundOn 59 = .ok (.aload_n 0, 1) := by decide +kernel
theorem dX5_roundOn_60 : decode cX5_roundOn 60 = .ok (.getfield 26, 3) := by decide +kernel
theorem dX5_roundOn_63 : decode cX5_roundOn 63 = .ok (.if_icmp .ge 48, 3) := by decide +kernel
theorem dX5_roundOn_66 : decode cX5_roundOn 66 = .ok (.aload_n 0, 1) := by decide +kernel
theorem dX5_roundOn_67 : decode cX5_roundOn 67 = .ok (.getfield 19, 3) := by decide +kernel
theorem dX5_roundOn_70 : decode cX5_roundOn 70 = .ok (.iconst 0, 1) := by decide +kernel
theorem dX5_roundOn_71 : decode cX5_roundOn 71 = .ok (.iaload, 1) := by decide +kernel
theorem dX5_roundOn_72 : decode cX5_roundOn 72 = .ok (.aload_n 0, 1) := by decide +kernel
theorem dX5_roundOn_73 : decode cX5_roundOn 73 = .ok (.iload_n 1, 1) := by decide +kernel
theorem dX5_roundOn_74 : decode cX5_roundOn 74 = .ok (.bipush 7, 2) := by decide +kernel
theorem dX5_roundOn_76 : decode cX5_roundOn 76 = .ok (.invokevirtual 33, 3) := by decide +kernel
theorem dX5_roundOn_79 : decode cX5_roundOn 79 = .ok (.iconst 1, 1) := by decide +kernel
theorem dX5_roundOn_80 : decode cX5_roundOn 80 = .ok (.iadd, 1) := by decide +kernel
theorem dX5_roundOn_81 : decode cX5_roundOn 81 = .ok (.irem, 1) := by decide +kernel
theorem dX5_roundOn_82 : decode cX5_roundOn 82 = .ok (.ifCond .ne 23, 3) := by decide +kernel
theorem dX5_roundOn_85 : decode cX5_roundOn 85 = .ok (.aload_n 0, 1) := by decide +kernel
theorem dX5_roundOn_86 : decode cX5_roundOn 86 = .ok (.iload_n 1, 1) := by decide +kernel
theorem dX5_roundOn_87 : decode cX5_roundOn 87 = .ok (.bipush 6, 2) := by decide +kernel
theorem dX5_roundOn_89 : decode cX5_roundOn 89 = .ok (.iconst 0, 1) := by decide +kernel
theorem dX5_roundOn_90 : decode cX5_roundOn 90 = .ok (.aload_n 0, 1) := by decide +kernel
theorem dX5_roundOn_91 : decode cX5_roundOn 91 = .ok (.iload_n 1, 1) := by decide +kernel
theorem dX5_roundOn_92 : decode cX5_roundOn 92 = .ok (.bipush 6, 2) := by decide +kernel
theorem dX5_roundOn_94 : decode cX5_roundOn 94 = .ok (.invokevirtual 33, 3) := by decide +kernel
theorem dX5_roundOn_97 : decode cX5_roundOn 97 = .ok (.iconst 1, 1) := by decide +kernel
theorem dX5_roundOn_98 : decode cX5_roundOn 98 = .ok (.isub, 1) := by decide +kernel
theorem dX5_roundOn_99 : decode cX5_roundOn 99 = .ok (.invokestatic 94, 3) := by decide +kernel
theorem dX5_roundOn_102 : decode cX5_roundOn 102 = .ok (.invokevirtual 54, 3) := by decide +kernel
theorem dX5_roundOn_105 : decode cX5_roundOn 105 = .ok (.iinc 1 1, 3) := by decide +kernel
theorem dX5_roundOn_108 : decode cX5_roundOn 108 = .ok (.goto (-50), 3) := by decide +kernel
theorem dX5_roundOn_111 : decode cX5_roundOn 111 = .ok (.aload_n 0, 1) := by decide +kernel
theorem dX5_roundOn_112 : decode cX5_roundOn 112 = .ok (.getfield 19, 3) := by decide +kernel
theorem dX5_roundOn_115 : decode cX5_roundOn 115 = .ok (.iconst 0, 1) := by decide +kernel
theorem dX5_roundOn_116 : decode cX5_roundOn 116 = .ok (.dup2, 1) := by decide +kernel
theorem dX5_roundOn_117 : decode cX5_roundOn 117 = .ok (.iaload, 1) := by decide +kernel
theorem dX5_roundOn_118 : decode cX5_roundOn 118 = .ok (.iconst 1, 1) := by decide +kernel
theorem dX5_roundOn_119 : decode cX5_roundOn 119 = .ok (.iadd, 1) := by decide +kernel
theorem dX5_roundOn_120 : decode cX5_roundOn 120 = .ok (.iastore, 1) := by decide +kernel
theorem dX5_roundOn_121 : decode cX5_roundOn 121 = .ok (.return_, 1) := by decide +kernel
set_option maxRecDepth 20000 in
theorem ggX5_roundsOn_X5_roundOn : GoodIn wsX5_roundsOn wsX5_roundOn := goodIn_r _ [5, 6, 7, 8, 9, 10, 11, 12, 13, 14, 15, 16, 17, 18, 19, 20, 4, 21, 22, 23, 24, 25, 26, 27, 28, 29, 30, 31, 32, 33, 34, 35, 36, 37, 38, 39, 40, 41, 42, 43, 44, 45, 46, 47] (by decide +kernel) (by decide +kernel)
set_option maxRecDepth 20000 in
theorem gX5_roundsOn_X5_roundOn : GoodIn wsX5_roundsOn (wsV RX5 97 RX5 yX5_roundOn wsX5_roundOn) := goodIn_app (goodIn_of _ (by decide +kernel)) ggX5_roundsOn_X5_roundOn
theorem dX5_roundsOn_0 : decode cX5_roundsOn 0 = .ok (.iconst 0, 1) := by decide +kernel
theorem dX5_roundsOn_1 : decode cX5_roundsOn 1 = .ok (.istore_n 2, 1) := by decide +kernel
theorem dX5_roundsOn_2 : decode cX5_roundsOn 2 = .ok (.iload_n 2, 1) := by decide +kernel
theorem dX5_roundsOn_3 : decode cX5_roundsOn 3 = .ok (.iload_n 1, 1) := by decide +kernel
theorem dX5_roundsOn_4 : decode cX5_roundsOn 4 = .ok (.if_icmp .ge 13, 3) := by decide +kernel
theorem dX5_roundsOn_7 : decode cX5_roundsOn 7 = .ok (.aload_n 0, 1) := by decide +kernel
theorem dX5_roundsOn_8 : decode cX5_roundsOn 8 = .ok (.invokevirtual 97, 3) := by decide +kernel
theorem dX5_roundsOn_11 : decode cX5_roundsOn 11 = .ok (.iinc 2 1, 3) := by decide +kernel
theorem dX5_roundsOn_14 : decode cX5_roundsOn 14 = .ok (.goto (-12), 3) := by decide +kernel
theorem dX5_roundsOn_17 : decode cX5_roundsOn 17 = .ok (.return_, 1) := by decide +kernel
set_option maxRecDepth 20000 in
theorem ggX5_pass_X5_isIn : GoodIn wsX5_pass wsX5_isIn := goodIn_r _ [6] (by decide +kernel) (by decide +kernel)
set_option maxRecDepth 20000 in
theorem gX5_pass_X5_isIn : GoodIn wsX5_pass (va_wsS RX5 29 yX5_isIn wsX5_isIn) := goodIn_app (goodIn_of _ (by decide +kernel)) ggX5_pass_X5_isIn
set_option maxRecDepth 20000 in
theorem ggX5_pass_X5_fail : GoodIn wsX5_pass wsX5_fail := goodIn_r _ [10, 1, 54, 55, 56, 57, 58, 59] (by decide +kernel) (by decide +kernel)
set_option maxRecDepth 20000 in
theorem gX5_pass_X5_fail : GoodIn wsX5_pass (wsV RX5 37 RX5 yX5_fail wsX5_fail) := goodIn_app (goodIn_of _ (by decide +kernel)) ggX5_pass_X5_fail
set_option maxRecDepth 20000 in
theorem ggX5_pass_X5_roundsOn : GoodIn wsX5_pass wsX5_roundsOn := goodIn_r _ [14, 15, 16, 17, 5, 18, 19, 20, 21, 22, 23, 24, 25, 2, 26, 27, 28, 29, 30, 31, 32, 33, 34, 35, 36, 37, 38, 39, 40, 41, 42, 43, 44, 45, 46, 47, 48, 49, 50, 51, 52, 53, 54, 55, 56, 57, 58, 59] (by decide +kernel) (by decide +kernel)
set_option maxRecDepth 20000 in
theorem gX5_pass_X5_roundsOn : GoodIn wsX5_pass (wsV RX5 100 RX5 yX5_roundsOn wsX5_roundsOn) := goodIn_app (goodIn_of _ (by decide +kernel)) ggX5_pass_X5_roundsOn
theorem dX5_pass_0 : decode cX5_pass 0 = .ok (.aload_n 0, 1) := by decide +kernel
theorem dX5_pass_1 : decode cX5_pass 1 = .ok (.iconst 0, 1) := by decide +kernel
theorem dX5_pass_2 : decode cX5_pass 2 = .ok (.putfield 22, 3) := by decide +kernel
theorem dX5_pass_5 : decode cX5_pass 5 = .ok (.iload_n 1, 1) := by decide +kernel
theorem dX5_pass_6 : decode cX5_pass 6 = .ok (.iconst 1, 1) := by decide +kernel
theorem dX5_pass_7 : decode cX5_pass 7 = .ok (.sipush 200, 3) := by decide +kernel
theorem dX5_pass_10 : decode cX5_pass 10 = .ok (.invokestatic 29, 3) := by decide +kernel
theorem dX5_pass_13 : decode cX5_pass 13 = .ok (.ifCond .ne 9, 3) := by decide +kernel
theorem dX5_pass_16 : decode cX5_pass 16 = .ok (.aload_n 0, 1) := by decide +kernel
theorem dX5_pass_17 : decode cX5_pass 17 = .ok (.iconst 1, 1) := by decide +kernel
theorem dX5_pass_18 : decode cX5_pass 18 = .ok (.invokevirtual 37, 3) := by decide +kernel
theorem dX5_pass_21 : decode cX5_pass 21 = .ok (.ireturn, 1) := by decide +kernel
theorem dX5_pass_22 : decode cX5_pass 22 = .ok (.aload_n 0, 1) := by decide +kernel
theorem dX5_pass_23 : decode cX5_pass 23 = .ok (.getfield 19, 3) := by decide +kernel
theorem dX5_pass_26 : decode cX5_pass 26 = .ok (.iconst 1, 1) := by decide +kernel
theorem dX5_pass_27 : decode cX5_pass 27 = .ok (.iaload, 1) := by decide +kernel
theorem dX5_pass_28 : decode cX5_pass 28 = .ok (.istore_n 2, 1) := by decide +kernel
theorem dX5_pass_29 : decode cX5_pass 29 = .ok (.aload_n 0, 1) := by decide +kernel
theorem dX5_pass_30 : decode cX5_pass 30 = .ok (.iload_n 1, 1) := by decide +kernel
theorem dX5_pass_31 : decode cX5_pass 31 = .ok (.invokevirtual 100, 3) := by decide +kernel
theorem dX5_pass_34 : decode cX5_pass 34 = .ok (.aload_n 0, 1) := by decide +kernel
theorem dX5_pass_35 : decode cX5_pass 35 = .ok (.getfield 19, 3) := by decide +kernel
theorem dX5_pass_38 : decode cX5_pass 38 = .ok (.iconst 1, 1) := by decide +kernel
theorem dX5_pass_39 : decode cX5_pass 39 = .ok (.iaload, 1) := by decide +kernel
theorem dX5_pass_40 : decode cX5_pass 40 = .ok (.iload_n 2, 1) := by decide +kernel
theorem dX5_pass_41 : decode cX5_pass 41 = .ok (.isub, 1) := by decide +kernel
theorem dX5_pass_42 : decode cX5_pass 42 = .ok (.ireturn, 1) := by decide +kernel
theorem dX5_kept_0 : decode cX5_kept 0 = .ok (.iconst 2, 1) := by decide +kernel
theorem dX5_kept_1 : decode cX5_kept 1 = .ok (.anewarray 104, 3) := by decide +kernel
theorem dX5_kept_4 : decode cX5_kept 4 = .ok (.dup, 1) := by decide +kernel
theorem dX5_kept_5 : decode cX5_kept 5 = .ok (.iconst 0, 1) := by decide +kernel
theorem dX5_kept_6 : decode cX5_kept 6 = .ok (.aload_n 0, 1) := by decide +kernel
theorem dX5_kept_7 : decode cX5_kept 7 = .ok (.getfield 9, 3) := by decide +kernel
theorem dX5_kept_10 : decode cX5_kept 10 = .ok (.invokevirtual 105, 3) := by decide +kernel
theorem dX5_kept_13 : decode cX5_kept 13 = .ok (.checkcast 104, 3) := by decide +kernel
theorem dX5_kept_16 : decode cX5_kept 16 = .ok (.aastore, 1) := by decide +kernel
theorem dX5_kept_17 : decode cX5_kept 17 = .ok (.dup, 1) := by decide +kernel
theorem dX5_kept_18 : decode cX5_kept 18 = .ok (.iconst 1, 1) := by decide +kernel
theorem dX5_kept_19 : decode cX5_kept 19 = .ok (.aload_n 0, 1) := by decide +kernel
theorem dX5_kept_20 : decode cX5_kept 20 = .ok (.getfield 19, 3) := by decide +kernel
theorem dX5_kept_23 : decode cX5_kept 23 = .ok (.invokevirtual 105, 3) := by decide +kernel
theorem dX5_kept_26 : decode cX5_kept 26 = .ok (.checkcast 104, 3) := by decide +kernel
theorem dX5_kept_29 : decode cX5_kept 29 = .ok (.aastore, 1) := by decide +kernel
theorem dX5_kept_30 : decode cX5_kept 30 = .ok (.areturn, 1) := by decide +kernel
theorem dX5_bringBack_0 : decode cX5_bringBack 0 = .ok (.aload_n 1, 1) := by decide +kernel
theorem dX5_bringBack_1 : decode cX5_bringBack 1 = .ok (.iconst 0, 1) := by decide +kernel
theorem dX5_bringBack_2 : decode cX5_bringBack 2 = .ok (.aaload, 1) := by decide +kernel
theorem dX5_bringBack_3 : decode cX5_bringBack 3 = .ok (.iconst 0, 1) := by decide +kernel
theorem dX5_bringBack_4 : decode cX5_bringBack 4 = .ok (.aload_n 0, 1) := by decide +kernel
theorem dX5_bringBack_5 : decode cX5_bringBack 5 = .ok (.getfield 9, 3) := by decide +kernel
theorem dX5_bringBack_8 : decode cX5_bringBack 8 = .ok (.iconst 0, 1) := by decide +kernel
theorem dX5_bringBack_9 : decode cX5_bringBack 9 = .ok (.aload_n 0, 1) := by decide +kernel
theorem dX5_bringBack_10 : decode cX5_bringBack 10 = .ok (.getfield 9, 3) := by decide +kernel
theorem dX5_bringBack_13 : decode cX5_bringBack 13 = .ok (.arraylength, 1) := by decide +kernel
theorem dX5_bringBack_14 : decode cX5_bringBack 14 = .ok (.invokestatic 41, 3) := by decide +kernel
theorem dX5_bringBack_17 : decode cX5_bringBack 17 = .ok (.aload_n 1, 1) := by decide +kernel
theorem dX5_bringBack_18 : decode cX5_bringBack 18 = .ok (.iconst 1, 1) := by decide +kernel
theorem dX5_bringBack_19 : decode cX5_bringBack 19 = .ok (.aaload, 1) := by decide +kernel
theorem dX5_bringBack_20 : decode cX5_bringBack 20 = .ok (.iconst 0, 1) := by decide +kernel
theorem dX5_bringBack_21 : decode cX5_bringBack 21 = .ok (.aload_n 0, 1) := by decide +kernel
theorem dX5_bringBack_22 : decode cX5_bringBack 22 = .ok (.getfield 19, 3) := by decide +kernel
theorem dX5_bringBack_25 : decode cX5_bringBack 25 = .ok (.iconst 0, 1) := by decide +kernel
theorem dX5_bringBack_26 : decode cX5_bringBack 26 = .ok (.aload_n 0, 1) := by decide +kernel
theorem dX5_bringBack_27 : decode cX5_bringBack 27 = .ok (.getfield 19, 3) := by decide +kernel
theorem dX5_bringBack_30 : decode cX5_bringBack 30 = .ok (.arraylength, 1) := by decide +kernel
theorem dX5_bringBack_31 : decode cX5_bringBack 31 = .ok (.invokestatic 41, 3) := by decide +kernel
theorem dX5_bringBack_34 : decode cX5_bringBack 34 = .ok (.return_, 1) := by decide +kernel
set_option maxRecDepth 20000 in
theorem ggX5_agrees_X5_kept : GoodIn wsX5_agrees wsX5_kept := goodIn_r _ [6, 7, 8, 9, 10, 11, 12, 13, 14, 65, 66, 67, 68, 69, 70] (by decide +kernel) (by decide +kernel)
set_option maxRecDepth 20000 in
theorem gX5_agrees_X5_kept : GoodIn wsX5_agrees (wsV RX5 109 RX5 yX5_kept wsX5_kept) := goodIn_app (goodIn_of _ (by decide +kernel)) ggX5_agrees_X5_kept
set_option maxRecDepth 20000 in
theorem ggX5_agrees_X5_counted : GoodIn wsX5_agrees wsX5_counted := goodIn_r _ [18, 14, 19, 20, 21, 22, 5, 23, 24, 25, 26, 27, 8, 65, 66, 67, 68, 69, 70] (by decide +kernel) (by decide +kernel)
set_option maxRecDepth 20000 in
theorem gX5_agrees_X5_counted : GoodIn wsX5_agrees (wsV RX5 80 RX5 yX5_counted wsX5_counted) := goodIn_app (goodIn_of _ (by decide +kernel)) ggX5_agrees_X5_counted
set_option maxRecDepth 20000 in
theorem ggX5_agrees_X5_roundOn : GoodIn wsX5_agrees wsX5_roundOn := goodIn_r _ [31, 8, 32, 33, 34, 35, 36, 19, 14, 37, 38, 39, 40, 41, 42, 43, 5, 44, 45, 46, 47, 48, 49, 50, 51, 52, 24, 25, 26, 27, 53, 54, 55, 56, 57, 58, 59, 60, 65, 66, 67, 68, 69, 70] (by decide +kernel) (by decide +kernel)
set_option maxRecDepth 20000 in
theorem gX5_agrees_X5_roundOn : GoodIn wsX5_agrees (wsV RX5 97 RX5 yX5_roundOn wsX5_roundOn) := goodIn_app (goodIn_of _ (by decide +kernel)) ggX5_agrees_X5_roundOn
set_option maxRecDepth 20000 in
theorem ggX5_agrees_X5_bringBack : GoodIn wsX5_agrees wsX5_bringBack := goodIn_r _ [64, 8, 33, 34, 35, 36, 14, 65, 66, 67, 68, 69, 70] (by decide +kernel) (by decide +kernel)
set_option maxRecDepth 20000 in
theorem gX5_agrees_X5_bringBack : GoodIn wsX5_agrees (wsV RX5 113 RX5 yX5_bringBack wsX5_bringBack) := goodIn_app (goodIn_of _ (by decide +kernel)) ggX5_agrees_X5_bringBack
theorem dX5_agrees_0 : decode cX5_agrees 0 = .ok (.aload_n 0, 1) := by decide +kernel
theorem dX5_agrees_1 : decode cX5_agrees 1 = .ok (.iconst 0, 1) := by decide +kernel
theorem dX5_agrees_2 : decode cX5_agrees 2 = .ok (.putfield 22, 3) := by decide +kernel
theorem dX5_agrees_5 : decode cX5_agrees 5 = .ok (.aload_n 0, 1) := by decide +kernel
theorem dX5_agrees_6 : decode cX5_agrees 6 = .ok (.invokevirtual 109, 3) := by decide +kernel
theorem dX5_agrees_9 : decode cX5_agrees 9 = .ok (.astore_n 1, 1) := by decide +kernel
theorem dX5_agrees_10 : decode cX5_agrees 10 = .ok (.iconst 0, 1) := by decide +kernel
theorem dX5_agrees_11 : decode cX5_agrees 11 = .ok (.istore_n 2, 1) := by decide +kernel
theorem dX5_agrees_12 : decode cX5_agrees 12 = .ok (.iload_n 2, 1) := by decide +kernel
theorem dX5_agrees_13 : decode cX5_agrees 13 = .ok (.sipush 200, 3) := by decide +kernel
theorem dX5_agrees_16 : decode cX5_agrees 16 = .ok (.if_icmp .ge 22, 3) := by decide +kernel
theorem dX5_agrees_19 : decode cX5_agrees 19 = .ok (.aload_n 0, 1) := by decide +kernel
theorem dX5_agrees_20 : decode cX5_agrees 20 = .ok (.iconst 2, 1) := by decide +kernel
theorem dX5_agrees_21 : decode cX5_agrees 21 = .ok (.invokevirtual 80, 3) := by decide +kernel
theorem dX5_agrees_24 : decode cX5_agrees 24 = .ok (.iconst 1, 1) := by decide +kernel
theorem dX5_agrees_25 : decode cX5_agrees 25 = .ok (.if_icmp .le 13, 3) := by decide +kernel
theorem dX5_agrees_28 : decode cX5_agrees 28 = .ok (.aload_n 0, 1) := by decide +kernel
theorem dX5_agrees_29 : decode cX5_agrees 29 = .ok (.invokevirtual 97, 3) := by decide +kernel
theorem dX5_agrees_32 : decode cX5_agrees 32 = .ok (.iinc 2 1, 3) := by decide +kernel
theorem dX5_agrees_35 : decode cX5_agrees 35 = .ok (.goto (-23), 3) := by decide +kernel
theorem dX5_agrees_38 : decode cX5_agrees 38 = .ok (.aload_n 0, 1) := by decide +kernel
theorem dX5_agrees_39 : decode cX5_agrees 39 = .ok (.iconst 2, 1) := by decide +kernel
theorem dX5_agrees_40 : decode cX5_agrees 40 = .ok (.invokevirtual 80, 3) := by decide +kernel
theorem dX5_agrees_43 : decode cX5_agrees 43 = .ok (.iconst 1, 1) := by decide +kernel
theorem dX5_agrees_44 : decode cX5_agrees 44 = .ok (.if_icmp .le 5, 3) := by decide +kernel
theorem dX5_agrees_47 : decode cX5_agrees 47 = .ok (.iconst (-1), 1) := by decide +kernel
theorem dX5_agrees_48 : decode cX5_agrees 48 = .ok (.istore_n 2, 1) := by decide +kernel
theorem dX5_agrees_49 : decode cX5_agrees 49 = .ok (.aload_n 0, 1) := by decide +kernel
theorem dX5_agrees_50 : decode cX5_agrees 50 = .ok (.aload_n 1, 1) := by decide +kernel
theorem dX5_agrees_51 : decode cX5_agrees 51 = .ok (.invokevirtual 113, 3) := by decide +kernel
theorem dX5_agrees_54 : decode cX5_agrees 54 = .ok (.iload_n 2, 1) := by decide +kernel
theorem dX5_agrees_55 : decode cX5_agrees 55 = .ok (.ireturn, 1) := by decide +kernel
set_option maxRecDepth 20000 in
theorem ggX5_foresee_X5_isIn : GoodIn wsX5_foresee wsX5_isIn := goodIn_r _ [5] (by decide +kernel) (by decide +kernel)
set_option maxRecDepth 20000 in
theorem gX5_foresee_X5_isIn : GoodIn wsX5_foresee (va_wsS RX5 29 yX5_isIn wsX5_isIn) := goodIn_app (goodIn_of _ (by decide +kernel)) ggX5_foresee_X5_isIn
set_option maxRecDepth 20000 in
theorem ggX5_foresee_X5_fail : GoodIn wsX5_foresee wsX5_fail := goodIn_r _ [9, 1, 76, 77, 78, 79, 80, 81] (by decide +kernel) (by decide +kernel)
set_option maxRecDepth 20000 in
theorem gX5_foresee_X5_fail : GoodIn wsX5_foresee (wsV RX5 37 RX5 yX5_fail wsX5_fail) := goodIn_app (goodIn_of _ (by decide +kernel)) ggX5_foresee_X5_fail
set_option maxRecDepth 20000 in
theorem ggX5_foresee_X5_isParrot : GoodIn wsX5_foresee wsX5_isParrot := goodIn_r _ [13, 14, 2, 3, 4, 5, 76, 77, 78, 79, 80, 81] (by decide +kernel) (by decide +kernel)
set_option maxRecDepth 20000 in
theorem gX5_foresee_X5_isParrot : GoodIn wsX5_foresee (wsV RX5 47 RX5 yX5_isParrot wsX5_isParrot) := goodIn_app (goodIn_of _ (by decide +kernel)) ggX5_foresee_X5_isParrot
set_option maxRecDepth 20000 in
theorem ggX5_foresee_X5_kept : GoodIn wsX5_foresee wsX5_kept := goodIn_r _ [18, 19, 20, 21, 22, 23, 24, 25, 26, 76, 77, 78, 79, 80, 81] (by decide +kernel) (by decide +kernel)
set_option maxRecDepth 20000 in
theorem gX5_foresee_X5_kept : GoodIn wsX5_foresee (wsV RX5 109 RX5 yX5_kept wsX5_kept) := goodIn_app (goodIn_of _ (by decide +kernel)) ggX5_foresee_X5_kept
set_option maxRecDepth 20000 in
theorem ggX5_foresee_X5_roundsOn : GoodIn wsX5_foresee wsX5_roundsOn := goodIn_r _ [30, 31, 32, 33, 4, 34, 20, 35, 36, 37, 38, 39, 14, 26, 40, 41, 42, 43, 44, 45, 46, 47, 48, 49, 50, 51, 52, 53, 54, 55, 56, 57, 58, 59, 60, 61, 62, 63, 64, 65, 66, 67, 76, 77, 78, 79, 80, 81] (by decide +kernel) (by decide +kernel)
set_option maxRecDepth 20000 in
theorem gX5_foresee_X5_roundsOn : GoodIn wsX5_foresee (wsV RX5 100 RX5 yX5_roundsOn wsX5_roundsOn) := goodIn_app (goodIn_of _ (by decide +kernel)) ggX5_foresee_X5_roundsOn
set_option maxRecDepth 20000 in
theorem ggX5_foresee_X5_word : GoodIn wsX5_foresee wsX5_word := goodIn_r _ [71, 56, 57, 58, 4, 59, 20, 76, 77, 78, 79, 80, 81] (by decide +kernel) (by decide +kernel)
set_option maxRecDepth 20000 in
theorem gX5_foresee_X5_word : GoodIn wsX5_foresee (wsV RX5 61 RX5 yX5_word wsX5_word) := goodIn_app (goodIn_of _ (by decide +kernel)) ggX5_foresee_X5_word
set_option maxRecDepth 20000 in
theorem ggX5_foresee_X5_bringBack : GoodIn wsX5_foresee wsX5_bringBack := goodIn_r _ [75, 20, 36, 37, 38, 39, 26, 76, 77, 78, 79, 80, 81] (by decide +kernel) (by decide +kernel)
set_option maxRecDepth 20000 in
theorem gX5_foresee_X5_bringBack : GoodIn wsX5_foresee (wsV RX5 113 RX5 yX5_bringBack wsX5_bringBack) := goodIn_app (goodIn_of _ (by decide +kernel)) ggX5_foresee_X5_bringBack
theorem dX5_foresee_0 : decode cX5_foresee 0 = .ok (.aload_n 0, 1) := by decide +kernel
theorem dX5_foresee_1 : decode cX5_foresee 1 = .ok (.iconst 0, 1) := by decide +kernel
theorem dX5_foresee_2 : decode cX5_foresee 2 = .ok (.putfield 22, 3) := by decide +kernel
theorem dX5_foresee_5 : decode cX5_foresee 5 = .ok (.iload_n 1, 1) := by decide +kernel
theorem dX5_foresee_6 : decode cX5_foresee 6 = .ok (.iconst 1, 1) := by decide +kernel
theorem dX5_foresee_7 : decode cX5_foresee 7 = .ok (.sipush 200, 3) := by decide +kernel
theorem dX5_foresee_10 : decode cX5_foresee 10 = .ok (.invokestatic 29, 3) := by decide +kernel
theorem dX5_foresee_13 : decode cX5_foresee 13 = .ok (.ifCond .ne 9, 3) := by decide +kernel
theorem dX5_foresee_16 : decode cX5_foresee 16 = .ok (.aload_n 0, 1) := by decide +kernel
theorem dX5_foresee_17 : decode cX5_foresee 17 = .ok (.iconst 1, 1) := by decide +kernel
theorem dX5_foresee_18 : decode cX5_foresee 18 = .ok (.invokevirtual 37, 3) := by decide +kernel
theorem dX5_foresee_21 : decode cX5_foresee 21 = .ok (.ireturn, 1) := by decide +kernel
theorem dX5_foresee_22 : decode cX5_foresee 22 = .ok (.aload_n 0, 1) := by decide +kernel
theorem dX5_foresee_23 : decode cX5_foresee 23 = .ok (.iload_n 2, 1) := by decide +kernel
theorem dX5_foresee_24 : decode cX5_foresee 24 = .ok (.invokevirtual 47, 3) := by decide +kernel
theorem dX5_foresee_27 : decode cX5_foresee 27 = .ok (.ifCond .ne 9, 3) := by decide +kernel
theorem dX5_foresee_30 : decode cX5_foresee 30 = .ok (.aload_n 0, 1) := by decide +kernel
theorem dX5_foresee_31 : decode cX5_foresee 31 = .ok (.iconst 2, 1) := by decide +kernel
theorem dX5_foresee_32 : decode cX5_foresee 32 = .ok (.invokevirtual 37, 3) := by decide +kernel
theorem dX5_foresee_35 : decode cX5_foresee 35 = .ok (.ireturn, 1) := by decide +kernel
theorem dX5_foresee_36 : decode cX5_foresee 36 = .ok (.aload_n 0, 1) := by decide +kernel
theorem dX5_foresee_37 : decode cX5_foresee 37 = .ok (.invokevirtual 109, 3) := by decide +kernel
theorem dX5_foresee_40 : decode cX5_foresee 40 = .ok (.astore_n 3, 1) := by decide +kernel
theorem dX5_foresee_41 : decode cX5_foresee 41 = .ok (.aload_n 0, 1) := by decide +kernel
theorem dX5_foresee_42 : decode cX5_foresee 42 = .ok (.iload_n 1, 1) := by decide +kernel
theorem dX5_foresee_43 : decode cX5_foresee 43 = .ok (.invokevirtual 100, 3) := by decide +kernel
theorem dX5_foresee_46 : decode cX5_foresee 46 = .ok (.aload_n 0, 1) := by decide +kernel
theorem dX5_foresee_47 : decode cX5_foresee 47 = .ok (.iload_n 2, 1) := by decide +kernel
theorem dX5_foresee_48 : decode cX5_foresee 48 = .ok (.invokevirtual 61, 3) := by decide +kernel
theorem dX5_foresee_51 : decode cX5_foresee 51 = .ok (.istore 4, 2) := by decide +kernel
theorem dX5_foresee_53 : decode cX5_foresee 53 = .ok (.aload_n 0, 1) := by decide +kernel
theorem dX5_foresee_54 : decode cX5_foresee 54 = .ok (.aload_n 3, 1) := by decide +kernel
theorem dX5_foresee_55 : decode cX5_foresee 55 = .ok (.invokevirtual 113, 3) := by decide +kernel
theorem dX5_foresee_58 : decode cX5_foresee 58 = .ok (.iload 4, 2) := by decide +kernel
theorem dX5_foresee_60 : decode cX5_foresee 60 = .ok (.ireturn, 1) := by decide +kernel
set_option maxRecDepth 20000 in
theorem ggX5_advise_X5_isWord : GoodIn wsX5_advise wsX5_isWord := goodIn_r _ [6, 7, 8, 5, 9] (by decide +kernel) (by decide +kernel)
set_option maxRecDepth 20000 in
theorem gX5_advise_X5_isWord : GoodIn wsX5_advise (va_wsS RX5 58 yX5_isWord wsX5_isWord) := goodIn_app (goodIn_of _ (by decide +kernel)) ggX5_advise_X5_isWord
set_option maxRecDepth 20000 in
theorem ggX5_advise_X5_isIn : GoodIn wsX5_advise wsX5_isIn := goodIn_r _ [9] (by decide +kernel) (by decide +kernel)
set_option maxRecDepth 20000 in
theorem gX5_advise_X5_isIn : GoodIn wsX5_advise (va_wsS RX5 29 yX5_isIn wsX5_isIn) := goodIn_app (goodIn_of _ (by decide +kernel)) ggX5_advise_X5_isIn
set_option maxRecDepth 20000 in
theorem ggX5_advise_X5_fail : GoodIn wsX5_advise wsX5_fail := goodIn_r _ [13, 1, 84, 85, 86, 87, 88, 89] (by decide +kernel) (by decide +kernel)
set_option maxRecDepth 20000 in
theorem gX5_advise_X5_fail : GoodIn wsX5_advise (wsV RX5 37 RX5 yX5_fail wsX5_fail) := goodIn_app (goodIn_of _ (by decide +kernel)) ggX5_advise_X5_fail
set_option maxRecDepth 20000 in
theorem ggX5_advise_X5_kept : GoodIn wsX5_advise wsX5_kept := goodIn_r _ [17, 18, 19, 20, 21, 22, 23, 24, 25, 84, 85, 86, 87, 88, 89] (by decide +kernel) (by decide +kernel)
set_option maxRecDepth 20000 in
theorem gX5_advise_X5_kept : GoodIn wsX5_advise (wsV RX5 109 RX5 yX5_kept wsX5_kept) := goodIn_app (goodIn_of _ (by decide +kernel)) ggX5_advise_X5_kept
set_option maxRecDepth 20000 in
theorem ggX5_advise_X5_say : GoodIn wsX5_advise wsX5_say := goodIn_r _ [29, 30, 19, 31, 32, 33, 34, 84, 85, 86, 87, 88, 89] (by decide +kernel) (by decide +kernel)
set_option maxRecDepth 20000 in
theorem gX5_advise_X5_say : GoodIn wsX5_advise (wsV RX5 64 RX5 yX5_say wsX5_say) := goodIn_app (goodIn_of _ (by decide +kernel)) ggX5_advise_X5_say
set_option maxRecDepth 20000 in
theorem ggX5_advise_X5_roundsOn : GoodIn wsX5_advise wsX5_roundsOn := goodIn_r _ [38, 39, 40, 41, 5, 42, 19, 43, 31, 32, 33, 34, 2, 25, 44, 45, 46, 47, 48, 49, 50, 51, 52, 53, 54, 55, 56, 57, 58, 59, 60, 61, 62, 63, 64, 65, 66, 67, 68, 69, 70, 71, 84, 85, 86, 87, 88, 89] (by decide +kernel) (by decide +kernel)
set_option maxRecDepth 20000 in
theorem gX5_advise_X5_roundsOn : GoodIn wsX5_advise (wsV RX5 100 RX5 yX5_roundsOn wsX5_roundsOn) := goodIn_app (goodIn_of _ (by decide +kernel)) ggX5_advise_X5_roundsOn
set_option maxRecDepth 20000 in
theorem ggX5_advise_X5_votesFor : GoodIn wsX5_advise wsX5_votesFor := goodIn_r _ [75, 2, 76, 77, 78, 5, 79, 60, 61, 62, 63, 19, 84, 85, 86, 87, 88, 89] (by decide +kernel) (by decide +kernel)
set_option maxRecDepth 20000 in
theorem gX5_advise_X5_votesFor : GoodIn wsX5_advise (wsV RX5 77 RX5 yX5_votesFor wsX5_votesFor) := goodIn_app (goodIn_of _ (by decide +kernel)) ggX5_advise_X5_votesFor
set_option maxRecDepth 20000 in
theorem ggX5_advise_X5_bringBack : GoodIn wsX5_advise wsX5_bringBack := goodIn_r _ [83, 19, 31, 32, 33, 34, 25, 84, 85, 86, 87, 88, 89] (by decide +kernel) (by decide +kernel)
set_option maxRecDepth 20000 in
theorem gX5_advise_X5_bringBack : GoodIn wsX5_advise (wsV RX5 113 RX5 yX5_bringBack wsX5_bringBack) := goodIn_app (goodIn_of _ (by decide +kernel)) ggX5_advise_X5_bringBack
theorem dX5_advise_0 : decode cX5_advise 0 = .ok (.aload_n 0, 1) := by decide +kernel
theorem dX5_advise_1 : decode cX5_advise 1 = .ok (.iconst 0, 1) := by decide +kernel
theorem dX5_advise_2 : decode cX5_advise 2 = .ok (.putfield 22, 3) := by decide +kernel
theorem dX5_advise_5 : decode cX5_advise 5 = .ok (.iload_n 1, 1) := by decide +kernel
theorem dX5_advise_6 : decode cX5_advise 6 = .ok (.invokestatic 58, 3) := by decide +kernel
theorem dX5_advise_9 : decode cX5_advise 9 = .ok (.ifCond .eq 13, 3) := by decide +kernel
theorem dX5_advise_12 : decode cX5_advise 12 = .ok (.iload_n 2, 1) := by decide +kernel
theorem dX5_advise_13 : decode cX5_advise 13 = .ok (.iconst 1, 1) := by decide +kernel
theorem dX5_advise_14 : decode cX5_advise 14 = .ok (.bipush 40, 2) := by decide +kernel
theorem dX5_advise_16 : decode cX5_advise 16 = .ok (.invokestatic 29, 3) := by decide +kernel
theorem dX5_advise_19 : decode cX5_advise 19 = .ok (.ifCond .ne 9, 3) := by decide +kernel
theorem dX5_advise_22 : decode cX5_advise 22 = .ok (.aload_n 0, 1) := by decide +kernel
theorem dX5_advise_23 : decode cX5_advise 23 = .ok (.iconst 1, 1) := by decide +kernel
theorem dX5_advise_24 : decode cX5_advise 24 = .ok (.invokevirtual 37, 3) := by decide +kernel
theorem dX5_advise_27 : decode cX5_advise 27 = .ok (.ireturn, 1) := by decide +kernel
theorem dX5_advise_28 : decode cX5_advise 28 = .ok (.aload_n 0, 1) := by decide +kernel
theorem dX5_advise_29 : decode cX5_advise 29 = .ok (.invokevirtual 109, 3) := by decide +kernel
theorem dX5_advise_32 : decode cX5_advise 32 = .ok (.astore_n 3, 1) := by decide +kernel
theorem dX5_advise_33 : decode cX5_advise 33 = .ok (.iconst (-1), 1) := by decide +kernel
theorem dX5_advise_34 : decode cX5_advise 34 = .ok (.istore 4, 2) := by decide +kernel
theorem dX5_advise_36 : decode cX5_advise 36 = .ok (.iconst (-1), 1) := by decide +kernel
theorem dX5_advise_37 : decode cX5_advise 37 = .ok (.istore 5, 2) := by decide +kernel
theorem dX5_advise_39 : decode cX5_advise 39 = .ok (.iconst 0, 1) := by decide +kernel
theorem dX5_advise_40 : decode cX5_advise 40 = .ok (.istore 6, 2) := by decide +kernel
theorem dX5_advise_42 : decode cX5_advise 42 = .ok (.iload 6, 2) := by decide +kernel
theorem dX5_advise_44 : decode cX5_advise 44 = .ok (.aload_n 0, 1) := by decide +kernel
theorem dX5_advise_45 : decode cX5_advise 45 = .ok (.getfield 26, 3) := by decide +kernel
theorem dX5_advise_48 : decode cX5_advise 48 = .ok (.if_icmp .ge 53, 3) := by decide +kernel
theorem dX5_advise_51 : decode cX5_advise 51 = .ok (.aload_n 0, 1) := by decide +kernel
theorem dX5_advise_52 : decode cX5_advise 52 = .ok (.iload 6, 2) := by decide +kernel
theorem dX5_advise_54 : decode cX5_advise 54 = .ok (.iload_n 1, 1) := by decide +kernel
theorem dX5_advise_55 : decode cX5_advise 55 = .ok (.bipush 9, 2) := by decide +kernel
theorem dX5_advise_57 : decode cX5_advise 57 = .ok (.invokevirtual 64, 3) := by decide +kernel
theorem dX5_advise_60 : decode cX5_advise 60 = .ok (.aload_n 0, 1) := by decide +kernel
theorem dX5_advise_61 : decode cX5_advise 61 = .ok (.iload_n 2, 1) := by decide +kernel
theorem dX5_advise_62 : decode cX5_advise 62 = .ok (.invokevirtual 100, 3) := by decide +kernel
theorem dX5_advise_65 : decode cX5_advise 65 = .ok (.aload_n 0, 1) := by decide +kernel
theorem dX5_advise_66 : decode cX5_advise 66 = .ok (.iload_n 1, 1) := by decide +kernel
theorem dX5_advise_67 : decode cX5_advise 67 = .ok (.invokevirtual 77, 3) := by decide +kernel
theorem dX5_advise_70 : decode cX5_advise 70 = .ok (.istore 7, 2) := by decide +kernel
theorem dX5_advise_72 : decode cX5_advise 72 = .ok (.aload_n 0, 1) := by decide +kernel
theorem dX5_advise_73 : decode cX5_advise 73 = .ok (.aload_n 3, 1) := by decide +kernel
theorem dX5_advise_74 : decode cX5_advise 74 = .ok (.invokevirtual 113, 3) := by decide +kernel
theorem dX5_advise_77 : decode cX5_advise 77 = .ok (.iload 7, 2) := by decide +kernel
theorem dX5_advise_79 : decode cX5_advise 79 = .ok (.iload 5, 2) := by decide +kernel
theorem dX5_advise_81 : decode cX5_advise 81 = .ok (.if_icmp .gt 6, 3) := by decide +kernel
theorem dX5_advise_84 : decode cX5_advise 84 = .ok (.goto 11, 3) := by decide +kernel
theorem dX5_advise_87 : decode cX5_advise 87 = .ok (.iload 6, 2) := by decide +kernel
theorem dX5_advise_89 : decode cX5_advise 89 = .ok (.istore 4, 2) := by decide +kernel
theorem dX5_advise_91 : decode cX5_advise 91 = .ok (.iload 7, 2) := by decide +kernel
theorem dX5_advise_93 : decode cX5_advise 93 = .ok (.istore 5, 2) := by decide +kernel
theorem dX5_advise_95 : decode cX5_advise 95 = .ok (.iinc 6 1, 3) := by decide +kernel
theorem dX5_advise_98 : decode cX5_advise 98 = .ok (.goto (-56), 3) := by decide +kernel
theorem dX5_advise_101 : decode cX5_advise 101 = .ok (.iload 4, 2) := by decide +kernel
theorem dX5_advise_103 : decode cX5_advise 103 = .ok (.ireturn, 1) := by decide +kernel
set_option maxRecDepth 20000 in
theorem ggX5_source_X5_isParrot : GoodIn wsX5_source wsX5_isParrot := goodIn_r _ [8, 3, 9, 10, 7, 11, 21, 22, 23, 24, 25, 26] (by decide +kernel) (by decide +kernel)
set_option maxRecDepth 20000 in
theorem gX5_source_X5_isParrot : GoodIn wsX5_source (wsV RX5 47 RX5 yX5_isParrot wsX5_isParrot) := goodIn_app (goodIn_of _ (by decide +kernel)) ggX5_source_X5_isParrot
set_option maxRecDepth 20000 in
theorem ggX5_source_X5_fail : GoodIn wsX5_source wsX5_fail := goodIn_r _ [15, 1, 21, 22, 23, 24, 25, 26] (by decide +kernel) (by decide +kernel)
set_option maxRecDepth 20000 in
theorem gX5_source_X5_fail : GoodIn wsX5_source (wsV RX5 37 RX5 yX5_fail wsX5_fail) := goodIn_app (goodIn_of _ (by decide +kernel)) ggX5_source_X5_fail
set_option maxRecDepth 20000 in
theorem ggX5_source_X5_ju : GoodIn wsX5_source wsX5_ju := goodIn_r _ [19, 20, 21, 22, 23, 24, 25, 26] (by decide +kernel) (by decide +kernel)
set_option maxRecDepth 20000 in
theorem gX5_source_X5_ju : GoodIn wsX5_source (wsV RX5 33 RX5 yX5_ju wsX5_ju) := goodIn_app (goodIn_of _ (by decide +kernel)) ggX5_source_X5_ju
theorem dX5_source_0 : decode cX5_source 0 = .ok (.aload_n 0, 1) := by decide +kernel
theorem dX5_source_1 : decode cX5_source 1 = .ok (.iconst 0, 1) := by decide +kernel
theorem dX5_source_2 : decode cX5_source 2 = .ok (.putfield 22, 3) := by decide +kernel
theorem dX5_source_5 : decode cX5_source 5 = .ok (.aload_n 0, 1) := by decide +kernel
theorem dX5_source_6 : decode cX5_source 6 = .ok (.iload_n 1, 1) := by decide +kernel
theorem dX5_source_7 : decode cX5_source 7 = .ok (.invokevirtual 47, 3) := by decide +kernel
theorem dX5_source_10 : decode cX5_source 10 = .ok (.ifCond .ne 9, 3) := by decide +kernel
theorem dX5_source_13 : decode cX5_source 13 = .ok (.aload_n 0, 1) := by decide +kernel
theorem dX5_source_14 : decode cX5_source 14 = .ok (.iconst 1, 1) := by decide +kernel
theorem dX5_source_15 : decode cX5_source 15 = .ok (.invokevirtual 37, 3) := by decide +kernel
theorem dX5_source_18 : decode cX5_source 18 = .ok (.ireturn, 1) := by decide +kernel
theorem dX5_source_19 : decode cX5_source 19 = .ok (.iconst 0, 1) := by decide +kernel
theorem dX5_source_20 : decode cX5_source 20 = .ok (.istore_n 2, 1) := by decide +kernel
theorem dX5_source_21 : decode cX5_source 21 = .ok (.iconst 0, 1) := by decide +kernel
theorem dX5_source_22 : decode cX5_source 22 = .ok (.istore_n 3, 1) := by decide +kernel
theorem dX5_source_23 : decode cX5_source 23 = .ok (.iload_n 3, 1) := by decide +kernel
theorem dX5_source_24 : decode cX5_source 24 = .ok (.aload_n 0, 1) := by decide +kernel
theorem dX5_source_25 : decode cX5_source 25 = .ok (.iload_n 1, 1) := by decide +kernel
theorem dX5_source_26 : decode cX5_source 26 = .ok (.bipush 9, 2) := by decide +kernel
theorem dX5_source_28 : decode cX5_source 28 = .ok (.invokevirtual 33, 3) := by decide +kernel
theorem dX5_source_31 : decode cX5_source 31 = .ok (.if_icmp .ge 24, 3) := by decide +kernel
theorem dX5_source_34 : decode cX5_source 34 = .ok (.iload_n 2, 1) := by decide +kernel
theorem dX5_source_35 : decode cX5_source 35 = .ok (.iconst 1, 1) := by decide +kernel
theorem dX5_source_36 : decode cX5_source 36 = .ok (.aload_n 0, 1) := by decide +kernel
theorem dX5_source_37 : decode cX5_source 37 = .ok (.getfield 16, 3) := by decide +kernel
theorem dX5_source_40 : decode cX5_source 40 = .ok (.iconst 4, 1) := by decide +kernel
theorem dX5_source_41 : decode cX5_source 41 = .ok (.iload_n 1, 1) := by decide +kernel
theorem dX5_source_42 : decode cX5_source 42 = .ok (.imul, 1) := by decide +kernel
theorem dX5_source_43 : decode cX5_source 43 = .ok (.iload_n 3, 1) := by decide +kernel
theorem dX5_source_44 : decode cX5_source 44 = .ok (.iadd, 1) := by decide +kernel
theorem dX5_source_45 : decode cX5_source 45 = .ok (.iaload, 1) := by decide +kernel
theorem dX5_source_46 : decode cX5_source 46 = .ok (.ishl, 1) := by decide +kernel
theorem dX5_source_47 : decode cX5_source 47 = .ok (.ior, 1) := by decide +kernel
theorem dX5_source_48 : decode cX5_source 48 = .ok (.istore_n 2, 1) := by decide +kernel
theorem dX5_source_49 : decode cX5_source 49 = .ok (.iinc 3 1, 3) := by decide +kernel
theorem dX5_source_52 : decode cX5_source 52 = .ok (.goto (-29), 3) := by decide +kernel
theorem dX5_source_55 : decode cX5_source 55 = .ok (.iconst 0, 1) := by decide +kernel
theorem dX5_source_56 : decode cX5_source 56 = .ok (.istore_n 3, 1) := by decide +kernel
theorem dX5_source_57 : decode cX5_source 57 = .ok (.iload_n 3, 1) := by decide +kernel
theorem dX5_source_58 : decode cX5_source 58 = .ok (.aload_n 0, 1) := by decide +kernel
theorem dX5_source_59 : decode cX5_source 59 = .ok (.getfield 26, 3) := by decide +kernel
theorem dX5_source_62 : decode cX5_source 62 = .ok (.if_icmp .ge 76, 3) := by decide +kernel
theorem dX5_source_65 : decode cX5_source 65 = .ok (.iconst 0, 1) := by decide +kernel
theorem dX5_source_66 : decode cX5_source 66 = .ok (.istore 4, 2) := by decide +kernel
theorem dX5_source_68 : decode cX5_source 68 = .ok (.iload 4, 2) := by decide +kernel
theorem dX5_source_70 : decode cX5_source 70 = .ok (.aload_n 0, 1) := by decide +kernel
theorem dX5_source_71 : decode cX5_source 71 = .ok (.getfield 26, 3) := by decide +kernel
theorem dX5_source_74 : decode cX5_source 74 = .ok (.if_icmp .ge 58, 3) := by decide +kernel
theorem dX5_source_77 : decode cX5_source 77 = .ok (.iconst 0, 1) := by decide +kernel
theorem dX5_source_78 : decode cX5_source 78 = .ok (.istore 5, 2) := by decide +kernel
theorem dX5_source_80 : decode cX5_source 80 = .ok (.iload 5, 2) := by decide +kernel
theorem dX5_source_82 : decode cX5_source 82 = .ok (.aload_n 0, 1) := by decide +kernel
theorem dX5_source_83 : decode cX5_source 83 = .ok (.iload 4, 2) := by decide +kernel
theorem dX5_source_85 : decode cX5_source 85 = .ok (.bipush 9, 2) := by decide +kernel
theorem dX5_source_87 : decode cX5_source 87 = .ok (.invokevirtual 33, 3) := by decide +kernel
theorem dX5_source_90 : decode cX5_source 90 = .ok (.if_icmp .ge 36, 3) := by decide +kernel
theorem dX5_source_93 : decode cX5_source 93 = .ok (.iload_n 2, 1) := by decide +kernel
theorem dX5_source_94 : decode cX5_source 94 = .ok (.iload 4, 2) := by decide +kernel
theorem dX5_source_96 : decode cX5_source 96 = .ok (.ishr, 1) := by decide +kernel
theorem dX5_source_97 : decode cX5_source 97 = .ok (.iconst 1, 1) := by decide +kernel
theorem dX5_source_98 : decode cX5_source 98 = .ok (.iand, 1) := by decide +kernel
theorem dX5_source_99 : decode cX5_source 99 = .ok (.iconst 1, 1) := by decide +kernel
theorem dX5_source_100 : decode cX5_source 100 = .ok (.if_icmp .ne 26, 3) := by decide +kernel
theorem dX5_source_103 : decode cX5_source 103 = .ok (.iload_n 2, 1) := by decide +kernel
theorem dX5_source_104 : decode cX5_source 104 = .ok (.iconst 1, 1) := by decide +kernel
theorem dX5_source_105 : decode cX5_source 105 = .ok (.aload_n 0, 1) := by decide +kernel
theorem dX5_source_106 : decode cX5_source 106 = .ok (.getfield 16, 3) := by decide +kernel
theorem dX5_source_109 : decode cX5_source 109 = .ok (.iconst 4, 1) := by decide +kernel
theorem dX5_source_110 : decode cX5_source 110 = .ok (.iload 4, 2) := by decide +kernel
theorem dX5_source_112 : decode cX5_source 112 = .ok (.imul, 1) := by decide +kernel
theorem dX5_source_113 : decode cX5_source 113 = .ok (.iload 5, 2) := by decide +kernel
theorem dX5_source_115 : decode cX5_source 115 = .ok (.iadd, 1) := by decide +kernel
theorem dX5_source_116 : decode cX5_source 116 = .ok (.iaload, 1) := by decide +kernel
theorem dX5_source_117 : decode cX5_source 117 = .ok (.ishl, 1) := by decide +kernel
theorem dX5_source_118 : decode cX5_source 118 = .ok (.ior, 1) := by decide +kernel
theorem dX5_source_119 : decode cX5_source 119 = .ok (.istore_n 2, 1) := by decide +kernel
theorem dX5_source_120 : decode cX5_source 120 = .ok (.iinc 5 1, 3) := by decide +kernel
theorem dX5_source_123 : decode cX5_source 123 = .ok (.goto (-43), 3) := by decide +kernel
theorem dX5_source_126 : decode cX5_source 126 = .ok (.iinc 4 1, 3) := by decide +kernel
theorem dX5_source_129 : decode cX5_source 129 = .ok (.goto (-61), 3) := by decide +kernel
theorem dX5_source_132 : decode cX5_source 132 = .ok (.iinc 3 1, 3) := by decide +kernel
theorem dX5_source_135 : decode cX5_source 135 = .ok (.goto (-78), 3) := by decide +kernel
theorem dX5_source_138 : decode cX5_source 138 = .ok (.iload_n 2, 1) := by decide +kernel
theorem dX5_source_139 : decode cX5_source 139 = .ok (.ireturn, 1) := by decide +kernel
set_option maxRecDepth 20000 in
theorem ggX5_mean_X5_counted : GoodIn wsX5_mean wsX5_counted := goodIn_r _ [7, 8, 2, 9, 10, 11, 6, 12, 13, 14, 15, 16, 17, 18, 19, 20, 21, 22, 23] (by decide +kernel) (by decide +kernel)
set_option maxRecDepth 20000 in
theorem gX5_mean_X5_counted : GoodIn wsX5_mean (wsV RX5 80 RX5 yX5_counted wsX5_counted) := goodIn_app (goodIn_of _ (by decide +kernel)) ggX5_mean_X5_counted
theorem dX5_mean_0 : decode cX5_mean 0 = .ok (.aload_n 0, 1) := by decide +kernel
theorem dX5_mean_1 : decode cX5_mean 1 = .ok (.iconst 0, 1) := by decide +kernel
theorem dX5_mean_2 : decode cX5_mean 2 = .ok (.putfield 22, 3) := by decide +kernel
theorem dX5_mean_5 : decode cX5_mean 5 = .ok (.aload_n 0, 1) := by decide +kernel
theorem dX5_mean_6 : decode cX5_mean 6 = .ok (.getfield 26, 3) := by decide +kernel
theorem dX5_mean_9 : decode cX5_mean 9 = .ok (.ifCond .ne 7, 3) := by decide +kernel
theorem dX5_mean_12 : decode cX5_mean 12 = .ok (.dconst 0, 1) := by decide +kernel
theorem dX5_mean_13 : decode cX5_mean 13 = .ok (.goto 15, 3) := by decide +kernel
theorem dX5_mean_16 : decode cX5_mean 16 = .ok (.aload_n 0, 1) := by decide +kernel
theorem dX5_mean_17 : decode cX5_mean 17 = .ok (.iconst 4, 1) := by decide +kernel
theorem dX5_mean_18 : decode cX5_mean 18 = .ok (.invokevirtual 80, 3) := by decide +kernel
theorem dX5_mean_21 : decode cX5_mean 21 = .ok (.i2d, 1) := by decide +kernel
theorem dX5_mean_22 : decode cX5_mean 22 = .ok (.aload_n 0, 1) := by decide +kernel
theorem dX5_mean_23 : decode cX5_mean 23 = .ok (.getfield 26, 3) := by decide +kernel
theorem dX5_mean_26 : decode cX5_mean 26 = .ok (.i2d, 1) := by decide +kernel
theorem dX5_mean_27 : decode cX5_mean 27 = .ok (.ddiv, 1) := by decide +kernel
theorem dX5_mean_28 : decode cX5_mean 28 = .ok (.dreturn, 1) := by decide +kernel
set_option maxRecDepth 20000 in
theorem ggX5_digest_X5_counted : GoodIn wsX5_digest wsX5_counted := goodIn_r _ [10, 11, 4, 12, 13, 14, 9, 15, 16, 17, 18, 19, 20, 37, 38, 39, 40, 41, 42] (by decide +kernel) (by decide +kernel)
set_option maxRecDepth 20000 in
theorem gX5_digest_X5_counted : GoodIn wsX5_digest (wsV RX5 80 RX5 yX5_counted wsX5_counted) := goodIn_app (goodIn_of _ (by decide +kernel)) ggX5_digest_X5_counted
set_option maxRecDepth 20000 in
theorem ggX5_digest_X5_parrotTold : GoodIn wsX5_digest wsX5_parrotTold := goodIn_r _ [24, 4, 12, 13, 14, 9, 15, 16, 17, 18, 19, 20, 25, 26, 27, 28, 5, 29, 30, 31, 32, 37, 38, 39, 40, 41, 42] (by decide +kernel) (by decide +kernel)
set_option maxRecDepth 20000 in
theorem gX5_digest_X5_parrotTold : GoodIn wsX5_digest (wsV RX5 70 RX5 yX5_parrotTold wsX5_parrotTold) := goodIn_app (goodIn_of _ (by decide +kernel)) ggX5_digest_X5_parrotTold
set_option maxRecDepth 20000 in
theorem ggX5_digest_X5_halfTold : GoodIn wsX5_digest wsX5_halfTold := goodIn_r _ [36, 16, 17, 18, 9, 19, 20, 37, 38, 39, 40, 41, 42] (by decide +kernel) (by decide +kernel)
set_option maxRecDepth 20000 in
theorem gX5_digest_X5_halfTold : GoodIn wsX5_digest (wsV RX5 73 RX5 yX5_halfTold wsX5_halfTold) := goodIn_app (goodIn_of _ (by decide +kernel)) ggX5_digest_X5_halfTold
set_option maxRecDepth 20000 in
theorem ggX5_digest_X5_ju : GoodIn wsX5_digest wsX5_ju := goodIn_r _ [19, 20, 37, 38, 39, 40, 41, 42] (by decide +kernel) (by decide +kernel)
set_option maxRecDepth 20000 in
theorem gX5_digest_X5_ju : GoodIn wsX5_digest (wsV RX5 33 RX5 yX5_ju wsX5_ju) := goodIn_app (goodIn_of _ (by decide +kernel)) ggX5_digest_X5_ju
theorem dX5_digest_0 : decode cX5_digest 0 = .ok (.aload_n 0, 1) := by decide +kernel
theorem dX5_digest_1 : decode cX5_digest 1 = .ok (.iconst 0, 1) := by decide +kernel
theorem dX5_digest_2 : decode cX5_digest 2 = .ok (.putfield 22, 3) := by decide +kernel
theorem dX5_digest_5 : decode cX5_digest 5 = .ok (.ldc2_w 117, 3) := by decide +kernel
theorem dX5_digest_8 : decode cX5_digest 8 = .ok (.lstore_n 1, 1) := by decide +kernel
theorem dX5_digest_9 : decode cX5_digest 9 = .ok (.iconst 0, 1) := by decide +kernel
theorem dX5_digest_10 : decode cX5_digest 10 = .ok (.istore_n 3, 1) := by decide +kernel
theorem dX5_digest_11 : decode cX5_digest 11 = .ok (.iload_n 3, 1) := by decide +kernel
theorem dX5_digest_12 : decode cX5_digest 12 = .ok (.bipush 6, 2) := by decide +kernel
theorem dX5_digest_14 : decode cX5_digest 14 = .ok (.if_icmp .ge 22, 3) := by decide +kernel
theorem dX5_digest_17 : decode cX5_digest 17 = .ok (.lload_n 1, 1) := by decide +kernel
theorem dX5_digest_18 : decode cX5_digest 18 = .ok (.ldc2_w 119, 3) := by decide +kernel
theorem dX5_digest_21 : decode cX5_digest 21 = .ok (.lmul, 1) := by decide +kernel
theorem dX5_digest_22 : decode cX5_digest 22 = .ok (.aload_n 0, 1) := by decide +kernel
theorem dX5_digest_23 : decode cX5_digest 23 = .ok (.iload_n 3, 1) := by decide +kernel
theorem dX5_digest_24 : decode cX5_digest 24 = .ok (.invokevirtual 80, 3) := by decide +kernel
theorem dX5_digest_27 : decode cX5_digest 27 = .ok (.i2l, 1) := by decide +kernel
theorem dX5_digest_28 : decode cX5_digest 28 = .ok (.ladd, 1) := by decide +kernel
theorem dX5_digest_29 : decode cX5_digest 29 = .ok (.lstore_n 1, 1) := by decide +kernel
theorem dX5_digest_30 : decode cX5_digest 30 = .ok (.iinc 3 1, 3) := by decide +kernel
theorem dX5_digest_33 : decode cX5_digest 33 = .ok (.goto (-22), 3) := by decide +kernel
theorem dX5_digest_36 : decode cX5_digest 36 = .ok (.iconst 0, 1) := by decide +kernel
theorem dX5_digest_37 : decode cX5_digest 37 = .ok (.istore_n 3, 1) := by decide +kernel
theorem dX5_digest_38 : decode cX5_digest 38 = .ok (.iload_n 3, 1) := by decide +kernel
theorem dX5_digest_39 : decode cX5_digest 39 = .ok (.aload_n 0, 1) := by decide +kernel
theorem dX5_digest_40 : decode cX5_digest 40 = .ok (.getfield 26, 3) := by decide +kernel
theorem dX5_digest_43 : decode cX5_digest 43 = .ok (.if_icmp .ge 127, 3) := by decide +kernel
theorem dX5_digest_46 : decode cX5_digest 46 = .ok (.iconst 0, 1) := by decide +kernel
theorem dX5_digest_47 : decode cX5_digest 47 = .ok (.istore 4, 2) := by decide +kernel
theorem dX5_digest_49 : decode cX5_digest 49 = .ok (.iload 4, 2) := by decide +kernel
theorem dX5_digest_51 : decode cX5_digest 51 = .ok (.bipush 7, 2) := by decide +kernel
theorem dX5_digest_53 : decode cX5_digest 53 = .ok (.if_icmp .ge 24, 3) := by decide +kernel
theorem dX5_digest_56 : decode cX5_digest 56 = .ok (.lload_n 1, 1) := by decide +kernel
theorem dX5_digest_57 : decode cX5_digest 57 = .ok (.ldc2_w 119, 3) := by decide +kernel
theorem dX5_digest_60 : decode cX5_digest 60 = .ok (.lmul, 1) := by decide +kernel
theorem dX5_digest_61 : decode cX5_digest 61 = .ok (.aload_n 0, 1) := by decide +kernel
theorem dX5_digest_62 : decode cX5_digest 62 = .ok (.iload_n 3, 1) := by decide +kernel
theorem dX5_digest_63 : decode cX5_digest 63 = .ok (.iload 4, 2) := by decide +kernel
theorem dX5_digest_65 : decode cX5_digest 65 = .ok (.invokevirtual 70, 3) := by decide +kernel
theorem dX5_digest_68 : decode cX5_digest 68 = .ok (.i2l, 1) := by decide +kernel
theorem dX5_digest_69 : decode cX5_digest 69 = .ok (.ladd, 1) := by decide +kernel
theorem dX5_digest_70 : decode cX5_digest 70 = .ok (.lstore_n 1, 1) := by decide +kernel
theorem dX5_digest_71 : decode cX5_digest 71 = .ok (.iinc 4 1, 3) := by decide +kernel
theorem dX5_digest_74 : decode cX5_digest 74 = .ok (.goto (-25), 3) := by decide +kernel
theorem dX5_digest_77 : decode cX5_digest 77 = .ok (.iconst 0, 1) := by decide +kernel
theorem dX5_digest_78 : decode cX5_digest 78 = .ok (.istore 4, 2) := by decide +kernel
theorem dX5_digest_80 : decode cX5_digest 80 = .ok (.iload 4, 2) := by decide +kernel
theorem dX5_digest_82 : decode cX5_digest 82 = .ok (.iconst 1, 1) := by decide +kernel
theorem dX5_digest_83 : decode cX5_digest 83 = .ok (.if_icmp .gt 41, 3) := by decide +kernel
theorem dX5_digest_86 : decode cX5_digest 86 = .ok (.iconst 0, 1) := by decide +kernel
theorem dX5_digest_87 : decode cX5_digest 87 = .ok (.istore 5, 2) := by decide +kernel
theorem dX5_digest_89 : decode cX5_digest 89 = .ok (.iload 5, 2) := by decide +kernel
theorem dX5_digest_91 : decode cX5_digest 91 = .ok (.iconst 3, 1) := by decide +kernel
theorem dX5_digest_92 : decode cX5_digest 92 = .ok (.if_icmp .ge 26, 3) := by decide +kernel
theorem dX5_digest_95 : decode cX5_digest 95 = .ok (.lload_n 1, 1) := by decide +kernel
theorem dX5_digest_96 : decode cX5_digest 96 = .ok (.ldc2_w 119, 3) := by decide +kernel
theorem dX5_digest_99 : decode cX5_digest 99 = .ok (.lmul, 1) := by decide +kernel
theorem dX5_digest_100 : decode cX5_digest 100 = .ok (.aload_n 0, 1) := by decide +kernel
theorem dX5_digest_101 : decode cX5_digest 101 = .ok (.iload_n 3, 1) := by decide +kernel
theorem dX5_digest_102 : decode cX5_digest 102 = .ok (.iload 4, 2) := by decide +kernel
theorem dX5_digest_104 : decode cX5_digest 104 = .ok (.iload 5, 2) := by decide +kernel
theorem dX5_digest_106 : decode cX5_digest 106 = .ok (.invokevirtual 73, 3) := by decide +kernel
theorem dX5_digest_109 : decode cX5_digest 109 = .ok (.i2l, 1) := by decide +kernel
theorem dX5_digest_110 : decode cX5_digest 110 = .ok (.ladd, 1) := by decide +kernel
theorem dX5_digest_111 : decode cX5_digest 111 = .ok (.lstore_n 1, 1) := by decide +kernel
theorem dX5_digest_112 : decode cX5_digest 112 = .ok (.iinc 5 1, 3) := by decide +kernel
theorem dX5_digest_115 : decode cX5_digest 115 = .ok (.goto (-26), 3) := by decide +kernel
theorem dX5_digest_118 : decode cX5_digest 118 = .ok (.iinc 4 1, 3) := by decide +kernel
theorem dX5_digest_121 : decode cX5_digest 121 = .ok (.goto (-41), 3) := by decide +kernel
theorem dX5_digest_124 : decode cX5_digest 124 = .ok (.iconst 0, 1) := by decide +kernel
theorem dX5_digest_125 : decode cX5_digest 125 = .ok (.istore 4, 2) := by decide +kernel
theorem dX5_digest_127 : decode cX5_digest 127 = .ok (.iload 4, 2) := by decide +kernel
theorem dX5_digest_129 : decode cX5_digest 129 = .ok (.aload_n 0, 1) := by decide +kernel
theorem dX5_digest_130 : decode cX5_digest 130 = .ok (.iload_n 3, 1) := by decide +kernel
theorem dX5_digest_131 : decode cX5_digest 131 = .ok (.bipush 9, 2) := by decide +kernel
theorem dX5_digest_133 : decode cX5_digest 133 = .ok (.invokevirtual 33, 3) := by decide +kernel
theorem dX5_digest_136 : decode cX5_digest 136 = .ok (.if_icmp .ge 28, 3) := by decide +kernel
theorem dX5_digest_139 : decode cX5_digest 139 = .ok (.lload_n 1, 1) := by decide +kernel
theorem dX5_digest_140 : decode cX5_digest 140 = .ok (.ldc2_w 119, 3) := by decide +kernel
theorem dX5_digest_143 : decode cX5_digest 143 = .ok (.lmul, 1) := by decide +kernel
theorem dX5_digest_144 : decode cX5_digest 144 = .ok (.aload_n 0, 1) := by decide +kernel
theorem dX5_digest_145 : decode cX5_digest 145 = .ok (.getfield 16, 3) := by decide +kernel
theorem dX5_digest_148 : decode cX5_digest 148 = .ok (.iconst 4, 1) := by decide +kernel
theorem dX5_digest_149 : decode cX5_digest 149 = .ok (.iload_n 3, 1) := by decide +kernel
theorem dX5_digest_150 : decode cX5_digest 150 = .ok (.imul, 1) := by decide +kernel
theorem dX5_digest_151 : decode cX5_digest 151 = .ok (.iload 4, 2) := by decide +kernel
theorem dX5_digest_153 : decode cX5_digest 153 = .ok (.iadd, 1) := by decide +kernel
theorem dX5_digest_154 : decode cX5_digest 154 = .ok (.iaload, 1) := by decide +kernel
theorem dX5_digest_155 : decode cX5_digest 155 = .ok (.i2l, 1) := by decide +kernel
theorem dX5_digest_156 : decode cX5_digest 156 = .ok (.ladd, 1) := by decide +kernel
theorem dX5_digest_157 : decode cX5_digest 157 = .ok (.lstore_n 1, 1) := by decide +kernel
theorem dX5_digest_158 : decode cX5_digest 158 = .ok (.iinc 4 1, 3) := by decide +kernel
theorem dX5_digest_161 : decode cX5_digest 161 = .ok (.goto (-34), 3) := by decide +kernel
theorem dX5_digest_164 : decode cX5_digest 164 = .ok (.iinc 3 1, 3) := by decide +kernel
theorem dX5_digest_167 : decode cX5_digest 167 = .ok (.goto (-129), 3) := by decide +kernel
theorem dX5_digest_170 : decode cX5_digest 170 = .ok (.lload_n 1, 1) := by decide +kernel
theorem dX5_digest_171 : decode cX5_digest 171 = .ok (.lreturn, 1) := by decide +kernel
theorem dJ9_max_7cf53_0 : decode cJ9_max_7cf53 0 = .ok (.iload_n 0, 1) := by decide +kernel
theorem dJ9_max_7cf53_1 : decode cJ9_max_7cf53 1 = .ok (.iload_n 1, 1) := by decide +kernel
theorem dJ9_max_7cf53_2 : decode cJ9_max_7cf53 2 = .ok (.if_icmp .lt 7, 3) := by decide +kernel
theorem dJ9_max_7cf53_5 : decode cJ9_max_7cf53 5 = .ok (.iload_n 0, 1) := by decide +kernel
theorem dJ9_max_7cf53_6 : decode cJ9_max_7cf53 6 = .ok (.goto 4, 3) := by decide +kernel
theorem dJ9_max_7cf53_9 : decode cJ9_max_7cf53 9 = .ok (.iload_n 1, 1) := by decide +kernel
theorem dJ9_max_7cf53_10 : decode cJ9_max_7cf53 10 = .ok (.ireturn, 1) := by decide +kernel
theorem dJ9_min_7cf53_0 : decode cJ9_min_7cf53 0 = .ok (.iload_n 0, 1) := by decide +kernel
theorem dJ9_min_7cf53_1 : decode cJ9_min_7cf53 1 = .ok (.iload_n 1, 1) := by decide +kernel
theorem dJ9_min_7cf53_2 : decode cJ9_min_7cf53 2 = .ok (.if_icmp .gt 7, 3) := by decide +kernel
theorem dJ9_min_7cf53_5 : decode cJ9_min_7cf53 5 = .ok (.iload_n 0, 1) := by decide +kernel
theorem dJ9_min_7cf53_6 : decode cJ9_min_7cf53 6 = .ok (.goto 4, 3) := by decide +kernel
theorem dJ9_min_7cf53_9 : decode cJ9_min_7cf53 9 = .ok (.iload_n 1, 1) := by decide +kernel
theorem dJ9_min_7cf53_10 : decode cJ9_min_7cf53 10 = .ok (.ireturn, 1) := by decide +kernel
set_option maxRecDepth 20000 in
theorem ggL_come_X4_come : GoodIn wsL_come wsX4_come := goodIn_ca (goodIn_ca (goodIn_r _ [7, 8, 9, 10, 11, 12, 13, 14, 15, 6, 16, 17, 18, 19, 20, 21, 22, 23, 24, 25, 26, 27, 28, 29, 30, 31, 32, 33, 34, 35, 36, 37, 38, 39, 40, 41, 42, 43, 44, 45, 46, 47, 48, 49, 50, 51, 52, 53, 54, 55, 56, 57, 58, 59, 60, 61, 62, 63, 64, 65, 66, 67, 68, 69, 70, 71, 72, 73] (by decide +kernel) (by decide +kernel)) (goodIn_sub (fun _ h => List.mem_cons_of_mem _ (List.mem_append_left _ (List.mem_append_right _ h))) (by decide +kernel))) (goodIn_sub (fun _ h => List.mem_cons_of_mem _ (List.mem_append_right _ h)) (by decide +kernel))
set_option maxRecDepth 20000 in
theorem gL_come_X4_come : GoodIn wsL_come (wsV RL 7 RX4 yX4_come wsX4_come) := goodIn_app (goodIn_of _ (by decide +kernel)) ggL_come_X4_come
theorem dL_come_0 : decode cL_come 0 = .ok (.aload_n 3, 1) := by decide +kernel
theorem dL_come_1 : decode cL_come 1 = .ok (.iconst 0, 1) := by decide +kernel
theorem dL_come_2 : decode cL_come 2 = .ok (.aload_n 0, 1) := by decide +kernel
theorem dL_come_3 : decode cL_come 3 = .ok (.iload_n 1, 1) := by decide +kernel
theorem dL_come_4 : decode cL_come 4 = .ok (.iload_n 2, 1) := by decide +kernel
theorem dL_come_5 : decode cL_come 5 = .ok (.invokevirtual 7, 3) := by decide +kernel
theorem dL_come_8 : decode cL_come 8 = .ok (.i2l, 1) := by decide +kernel
theorem dL_come_9 : decode cL_come 9 = .ok (.lastore, 1) := by decide +kernel
theorem dL_come_10 : decode cL_come 10 = .ok (.goto 11, 3) := by decide +kernel
theorem dL_come_13 : decode cL_come 13 = .ok (.astore 4, 2) := by decide +kernel
theorem dL_come_15 : decode cL_come 15 = .ok (.iconst 1, 1) := by decide +kernel
theorem dL_come_16 : decode cL_come 16 = .ok (.ireturn, 1) := by decide +kernel
theorem dL_come_17 : decode cL_come 17 = .ok (.astore 4, 2) := by decide +kernel
theorem dL_come_19 : decode cL_come 19 = .ok (.iconst 2, 1) := by decide +kernel
theorem dL_come_20 : decode cL_come 20 = .ok (.ireturn, 1) := by decide +kernel
theorem dL_come_21 : decode cL_come 21 = .ok (.iconst 0, 1) := by decide +kernel
theorem dL_come_22 : decode cL_come 22 = .ok (.ireturn, 1) := by decide +kernel
set_option maxRecDepth 20000 in
theorem ggL_listen_X4_listen : GoodIn wsL_listen wsX4_listen := goodIn_ca (goodIn_ca (goodIn_ca (goodIn_r _ [8, 9, 10, 11, 12, 13, 14, 15, 16, 7, 17, 18, 19, 20, 21, 22, 23, 24, 25, 26, 27, 28, 29, 30, 31, 32, 33, 34, 35, 36, 37, 38, 39, 40, 41, 42, 43, 44, 45, 46, 47, 48, 49, 50, 51, 52, 53, 54, 55, 56, 57, 58, 59, 60, 61, 62, 63, 64, 65, 66, 67] (by decide +kernel) (by decide +kernel)) (goodIn_sub (fun _ h => List.mem_cons_of_mem _ (List.mem_append_left _ (List.mem_append_left _ (List.mem_append_right _ h)))) (by decide +kernel))) (goodIn_sub (fun _ h => List.mem_cons_of_mem _ (List.mem_append_left _ (List.mem_append_right _ h))) (by decide +kernel))) (goodIn_sub (fun _ h => List.mem_cons_of_mem _ (List.mem_append_right _ h)) (by decide +kernel))
set_option maxRecDepth 20000 in
theorem gL_listen_X4_listen : GoodIn wsL_listen (wsV RL 17 RX4 yX4_listen wsX4_listen) := goodIn_app (goodIn_of _ (by decide +kernel)) ggL_listen_X4_listen
theorem dL_listen_0 : decode cL_listen 0 = .ok (.aload_n 3, 1) := by decide +kernel
theorem dL_listen_1 : decode cL_listen 1 = .ok (.iconst 0, 1) := by decide +kernel
theorem dL_listen_2 : decode cL_listen 2 = .ok (.aload_n 0, 1) := by decide +kernel
theorem dL_listen_3 : decode cL_listen 3 = .ok (.iload_n 1, 1) := by decide +kernel
theorem dL_listen_4 : decode cL_listen 4 = .ok (.iload_n 2, 1) := by decide +kernel
theorem dL_listen_5 : decode cL_listen 5 = .ok (.invokevirtual 17, 3) := by decide +kernel
theorem dL_listen_8 : decode cL_listen 8 = .ok (.i2l, 1) := by decide +kernel
theorem dL_listen_9 : decode cL_listen 9 = .ok (.lastore, 1) := by decide +kernel
theorem dL_listen_10 : decode cL_listen 10 = .ok (.goto 15, 3) := by decide +kernel
theorem dL_listen_13 : decode cL_listen 13 = .ok (.astore 4, 2) := by decide +kernel
theorem dL_listen_15 : decode cL_listen 15 = .ok (.iconst 1, 1) := by decide +kernel
theorem dL_listen_16 : decode cL_listen 16 = .ok (.ireturn, 1) := by decide +kernel
theorem dL_listen_17 : decode cL_listen 17 = .ok (.astore 4, 2) := by decide +kernel
theorem dL_listen_19 : decode cL_listen 19 = .ok (.iconst 2, 1) := by decide +kernel
theorem dL_listen_20 : decode cL_listen 20 = .ok (.ireturn, 1) := by decide +kernel
theorem dL_listen_21 : decode cL_listen 21 = .ok (.astore 4, 2) := by decide +kernel
theorem dL_listen_23 : decode cL_listen 23 = .ok (.iconst 3, 1) := by decide +kernel
theorem dL_listen_24 : decode cL_listen 24 = .ok (.ireturn, 1) := by decide +kernel
theorem dL_listen_25 : decode cL_listen 25 = .ok (.iconst 0, 1) := by decide +kernel
theorem dL_listen_26 : decode cL_listen 26 = .ok (.ireturn, 1) := by decide +kernel
set_option maxRecDepth 20000 in
theorem ggL_raise_X4_raise : GoodIn wsL_raise wsX4_raise := goodIn_ca (goodIn_ca (goodIn_r _ [7, 8, 9, 10, 11, 6, 12, 13, 14, 15, 16, 17, 18, 19, 20, 21, 22, 23, 24, 25, 26, 27, 28, 29, 30, 31, 32, 33, 34, 35, 36, 37, 38, 39, 40, 41, 42, 43, 44, 45, 46, 47, 48, 49, 50, 51, 52, 53, 54, 55, 56, 57] (by decide +kernel) (by decide +kernel)) (goodIn_sub (fun _ h => List.mem_cons_of_mem _ (List.mem_append_left _ (List.mem_append_right _ h))) (by decide +kernel))) (goodIn_sub (fun _ h => List.mem_cons_of_mem _ (List.mem_append_right _ h)) (by decide +kernel))
set_option maxRecDepth 20000 in
theorem gL_raise_X4_raise : GoodIn wsL_raise (wsV RL 22 RX4 yX4_raise wsX4_raise) := goodIn_app (goodIn_of _ (by decide +kernel)) ggL_raise_X4_raise
theorem dL_raise_0 : decode cL_raise 0 = .ok (.aload_n 3, 1) := by decide +kernel
theorem dL_raise_1 : decode cL_raise 1 = .ok (.iconst 0, 1) := by decide +kernel
theorem dL_raise_2 : decode cL_raise 2 = .ok (.aload_n 0, 1) := by decide +kernel
theorem dL_raise_3 : decode cL_raise 3 = .ok (.iload_n 1, 1) := by decide +kernel
theorem dL_raise_4 : decode cL_raise 4 = .ok (.iload_n 2, 1) := by decide +kernel
theorem dL_raise_5 : decode cL_raise 5 = .ok (.invokevirtual 22, 3) := by decide +kernel
theorem dL_raise_8 : decode cL_raise 8 = .ok (.i2l, 1) := by decide +kernel
theorem dL_raise_9 : decode cL_raise 9 = .ok (.lastore, 1) := by decide +kernel
theorem dL_raise_10 : decode cL_raise 10 = .ok (.goto 11, 3) := by decide +kernel
theorem dL_raise_13 : decode cL_raise 13 = .ok (.astore 4, 2) := by decide +kernel
theorem dL_raise_15 : decode cL_raise 15 = .ok (.iconst 1, 1) := by decide +kernel
theorem dL_raise_16 : decode cL_raise 16 = .ok (.ireturn, 1) := by decide +kernel
theorem dL_raise_17 : decode cL_raise 17 = .ok (.astore 4, 2) := by decide +kernel
theorem dL_raise_19 : decode cL_raise 19 = .ok (.iconst 2, 1) := by decide +kernel
theorem dL_raise_20 : decode cL_raise 20 = .ok (.ireturn, 1) := by decide +kernel
theorem dL_raise_21 : decode cL_raise 21 = .ok (.iconst 0, 1) := by decide +kernel
theorem dL_raise_22 : decode cL_raise 22 = .ok (.ireturn, 1) := by decide +kernel
set_option maxRecDepth 20000 in
theorem ggL_whisper_X4_whisper : GoodIn wsL_whisper wsX4_whisper := goodIn_ca (goodIn_ca (goodIn_r _ [7, 8, 9, 10, 11, 12, 13, 6, 14, 15, 16, 17, 18, 19, 20, 21, 22, 23, 24, 25, 26, 27, 28, 29, 30, 31, 32, 33, 34, 35, 36, 37, 38, 39, 40, 41, 42, 43, 44, 45, 46, 47, 48, 49, 50, 51, 52, 53, 54, 55, 56, 57, 58, 59, 60, 61, 62, 63, 64, 65, 66, 67, 68, 69, 70, 71, 72, 73, 74, 75, 76, 77, 78, 79, 80, 81, 82] (by decide +kernel) (by decide +kernel)) (goodIn_sub (fun _ h => List.mem_cons_of_mem _ (List.mem_append_left _ (List.mem_append_right _ h))) (by decide +kernel))) (goodIn_sub (fun _ h => List.mem_cons_of_mem _ (List.mem_append_right _ h)) (by decide +kernel))
set_option maxRecDepth 20000 in
theorem gL_whisper_X4_whisper : GoodIn wsL_whisper (wsV RL 25 RX4 yX4_whisper wsX4_whisper) := goodIn_app (goodIn_of _ (by decide +kernel)) ggL_whisper_X4_whisper
theorem dL_whisper_0 : decode cL_whisper 0 = .ok (.aload 4, 2) := by decide +kernel
theorem dL_whisper_2 : decode cL_whisper 2 = .ok (.iconst 0, 1) := by decide +kernel
theorem dL_whisper_3 : decode cL_whisper 3 = .ok (.aload_n 0, 1) := by decide +kernel
theorem dL_whisper_4 : decode cL_whisper 4 = .ok (.iload_n 1, 1) := by decide +kernel
theorem dL_whisper_5 : decode cL_whisper 5 = .ok (.iload_n 2, 1) := by decide +kernel
theorem dL_whisper_6 : decode cL_whisper 6 = .ok (.iload_n 3, 1) := by decide +kernel
theorem dL_whisper_7 : decode cL_whisper 7 = .ok (.invokevirtual 25, 3) := by decide +kernel
theorem dL_whisper_10 : decode cL_whisper 10 = .ok (.i2l, 1) := by decide +kernel
theorem dL_whisper_11 : decode cL_whisper 11 = .ok (.lastore, 1) := by decide +kernel
theorem dL_whisper_12 : decode cL_whisper 12 = .ok (.goto 11, 3) := by decide +kernel
theorem dL_whisper_15 : decode cL_whisper 15 = .ok (.astore 5, 2) := by decide +kernel
theorem dL_whisper_17 : decode cL_whisper 17 = .ok (.iconst 1, 1) := by decide +kernel
theorem dL_whisper_18 : decode cL_whisper 18 = .ok (.ireturn, 1) := by decide +kernel
theorem dL_whisper_19 : decode cL_whisper 19 = .ok (.astore 5, 2) := by decide +kernel
theorem dL_whisper_21 : decode cL_whisper 21 = .ok (.iconst 2, 1) := by decide +kernel
theorem dL_whisper_22 : decode cL_whisper 22 = .ok (.ireturn, 1) := by decide +kernel
theorem dL_whisper_23 : decode cL_whisper 23 = .ok (.iconst 0, 1) := by decide +kernel
theorem dL_whisper_24 : decode cL_whisper 24 = .ok (.ireturn, 1) := by decide +kernel
set_option maxRecDepth 20000 in
theorem ggL_parrot_X4_parrot : GoodIn wsL_parrot wsX4_parrot := goodIn_ca (goodIn_r _ [6, 7, 8, 9, 5, 10, 11, 12, 13, 14, 15, 16, 17, 18, 19, 20, 21, 22, 23, 24, 25, 26, 27, 28, 29, 30, 31, 32, 33, 34, 35, 36, 37, 38, 39, 40, 41, 42, 43, 44, 45, 46, 47, 48, 49, 50, 51, 52, 53, 54, 55, 56, 57, 58, 59, 60, 61, 62, 63, 64, 65, 66, 67, 68, 69, 70, 71, 72, 73, 74, 75, 76, 77, 78, 79, 80, 81, 82, 83, 84, 85, 86, 87, 88, 89, 90, 91, 92, 93, 94, 95, 96, 97, 98, 99, 100, 101, 102, 103, 104, 105, 106] (by decide +kernel) (by decide +kernel)) (goodIn_sub (fun _ h => List.mem_cons_of_mem _ (List.mem_append_right _ h)) (by decide +kernel))
set_option maxRecDepth 20000 in
theorem gL_parrot_X4_parrot : GoodIn wsL_parrot (wsV RL 29 RX4 yX4_parrot wsX4_parrot) := goodIn_app (goodIn_of _ (by decide +kernel)) ggL_parrot_X4_parrot
theorem dL_parrot_0 : decode cL_parrot 0 = .ok (.aload_n 3, 1) := by decide +kernel
theorem dL_parrot_1 : decode cL_parrot 1 = .ok (.iconst 0, 1) := by decide +kernel
theorem dL_parrot_2 : decode cL_parrot 2 = .ok (.aload_n 0, 1) := by decide +kernel
theorem dL_parrot_3 : decode cL_parrot 3 = .ok (.iload_n 1, 1) := by decide +kernel
theorem dL_parrot_4 : decode cL_parrot 4 = .ok (.iload_n 2, 1) := by decide +kernel
theorem dL_parrot_5 : decode cL_parrot 5 = .ok (.invokevirtual 29, 3) := by decide +kernel
theorem dL_parrot_8 : decode cL_parrot 8 = .ok (.i2l, 1) := by decide +kernel
theorem dL_parrot_9 : decode cL_parrot 9 = .ok (.lastore, 1) := by decide +kernel
theorem dL_parrot_10 : decode cL_parrot 10 = .ok (.goto 7, 3) := by decide +kernel
theorem dL_parrot_13 : decode cL_parrot 13 = .ok (.astore 4, 2) := by decide +kernel
theorem dL_parrot_15 : decode cL_parrot 15 = .ok (.iconst 1, 1) := by decide +kernel
theorem dL_parrot_16 : decode cL_parrot 16 = .ok (.ireturn, 1) := by decide +kernel
theorem dL_parrot_17 : decode cL_parrot 17 = .ok (.iconst 0, 1) := by decide +kernel
theorem dL_parrot_18 : decode cL_parrot 18 = .ok (.ireturn, 1) := by decide +kernel
set_option maxRecDepth 20000 in
theorem ggL_half_X4_half : GoodIn wsL_half wsX4_half := goodIn_ca (goodIn_r _ [6, 7, 8, 9, 5, 10, 11, 12, 13, 14, 15, 16, 17, 18, 19, 20, 21, 22, 23, 24, 25, 26, 27, 28, 29, 30, 31, 32, 33, 34, 35, 36, 37, 38, 39, 40, 41, 42, 43, 44, 45, 46, 47, 48, 49, 50, 51, 52, 53, 54, 55, 56, 57, 58, 59, 60, 61, 62, 63, 64, 65, 66, 67, 68, 69, 70, 71, 72, 73, 74, 75, 76, 77] (by decide +kernel) (by decide +kernel)) (goodIn_sub (fun _ h => List.mem_cons_of_mem _ (List.mem_append_right _ h)) (by decide +kernel))
set_option maxRecDepth 20000 in
theorem gL_half_X4_half : GoodIn wsL_half (wsV RL 32 RX4 yX4_half wsX4_half) := goodIn_app (goodIn_of _ (by decide +kernel)) ggL_half_X4_half
theorem dL_half_0 : decode cL_half 0 = .ok (.aload 4, 2) := by decide +kernel
theorem dL_half_2 : decode cL_half 2 = .ok (.iconst 0, 1) := by decide +kernel
theorem dL_half_3 : decode cL_half 3 = .ok (.aload_n 0, 1) := by decide +kernel
theorem dL_half_4 : decode cL_half 4 = .ok (.iload_n 1, 1) := by decide +kernel
theorem dL_half_5 : decode cL_half 5 = .ok (.iload_n 2, 1) := by decide +kernel
theorem dL_half_6 : decode cL_half 6 = .ok (.iload_n 3, 1) := by decide +kernel
theorem dL_half_7 : decode cL_half 7 = .ok (.invokevirtual 32, 3) := by decide +kernel
theorem dL_half_10 : decode cL_half 10 = .ok (.i2l, 1) := by decide +kernel
theorem dL_half_11 : decode cL_half 11 = .ok (.lastore, 1) := by decide +kernel
theorem dL_half_12 : decode cL_half 12 = .ok (.goto 7, 3) := by decide +kernel
theorem dL_half_15 : decode cL_half 15 = .ok (.astore 5, 2) := by decide +kernel
theorem dL_half_17 : decode cL_half 17 = .ok (.iconst 1, 1) := by decide +kernel
theorem dL_half_18 : decode cL_half 18 = .ok (.ireturn, 1) := by decide +kernel
theorem dL_half_19 : decode cL_half 19 = .ok (.iconst 0, 1) := by decide +kernel
theorem dL_half_20 : decode cL_half 20 = .ok (.ireturn, 1) := by decide +kernel
set_option maxRecDepth 20000 in
theorem ggL_hears_X4_hears : GoodIn wsL_hears wsX4_hears := goodIn_ca (goodIn_r _ [6, 7, 8, 9, 10, 11, 12, 5, 13, 14, 15, 16, 17, 18, 19, 20, 21, 22, 23, 24, 25, 26, 27, 28, 29, 30, 31, 32, 33, 34, 35, 36, 37, 38, 39, 40, 41, 42, 43, 44, 45] (by decide +kernel) (by decide +kernel)) (goodIn_sub (fun _ h => List.mem_cons_of_mem _ (List.mem_append_right _ h)) (by decide +kernel))
set_option maxRecDepth 20000 in
theorem gL_hears_X4_hears : GoodIn wsL_hears (wsV RL 36 RX4 yX4_hears wsX4_hears) := goodIn_app (goodIn_of _ (by decide +kernel)) ggL_hears_X4_hears
theorem dL_hears_0 : decode cL_hears 0 = .ok (.aload_n 3, 1) := by decide +kernel
theorem dL_hears_1 : decode cL_hears 1 = .ok (.iconst 0, 1) := by decide +kernel
theorem dL_hears_2 : decode cL_hears 2 = .ok (.aload_n 0, 1) := by decide +kernel
theorem dL_hears_3 : decode cL_hears 3 = .ok (.iload_n 1, 1) := by decide +kernel
theorem dL_hears_4 : decode cL_hears 4 = .ok (.iload_n 2, 1) := by decide +kernel
theorem dL_hears_5 : decode cL_hears 5 = .ok (.invokevirtual 36, 3) := by decide +kernel
theorem dL_hears_8 : decode cL_hears 8 = .ok (.i2l, 1) := by decide +kernel
theorem dL_hears_9 : decode cL_hears 9 = .ok (.lastore, 1) := by decide +kernel
theorem dL_hears_10 : decode cL_hears 10 = .ok (.goto 7, 3) := by decide +kernel
theorem dL_hears_13 : decode cL_hears 13 = .ok (.astore 4, 2) := by decide +kernel
theorem dL_hears_15 : decode cL_hears 15 = .ok (.iconst 1, 1) := by decide +kernel
theorem dL_hears_16 : decode cL_hears 16 = .ok (.ireturn, 1) := by decide +kernel
theorem dL_hears_17 : decode cL_hears 17 = .ok (.iconst 0, 1) := by decide +kernel
theorem dL_hears_18 : decode cL_hears 18 = .ok (.ireturn, 1) := by decide +kernel
set_option maxRecDepth 20000 in
theorem ggL_votes_X4_votes : GoodIn wsL_votes wsX4_votes := goodIn_ca (goodIn_r _ [6, 7, 8, 9, 5, 10, 11, 12, 13, 14, 15, 16, 17, 18, 19, 20, 21, 22, 23, 24, 25, 26, 27, 28, 29, 30, 31, 32, 33, 34, 35, 36, 37, 38, 39, 40, 41, 42, 43, 44, 45, 46, 47, 48, 49, 50, 51, 52, 53, 54, 55, 56, 57, 58, 59, 60, 61, 62, 63] (by decide +kernel) (by decide +kernel)) (goodIn_sub (fun _ h => List.mem_cons_of_mem _ (List.mem_append_right _ h)) (by decide +kernel))
set_option maxRecDepth 20000 in
theorem gL_votes_X4_votes : GoodIn wsL_votes (wsV RL 39 RX4 yX4_votes wsX4_votes) := goodIn_app (goodIn_of _ (by decide +kernel)) ggL_votes_X4_votes
theorem dL_votes_0 : decode cL_votes 0 = .ok (.aload_n 2, 1) := by decide +kernel
theorem dL_votes_1 : decode cL_votes 1 = .ok (.iconst 0, 1) := by decide +kernel
theorem dL_votes_2 : decode cL_votes 2 = .ok (.aload_n 0, 1) := by decide +kernel
theorem dL_votes_3 : decode cL_votes 3 = .ok (.iload_n 1, 1) := by decide +kernel
theorem dL_votes_4 : decode cL_votes 4 = .ok (.invokevirtual 39, 3) := by decide +kernel
theorem dL_votes_7 : decode cL_votes 7 = .ok (.i2l, 1) := by decide +kernel
theorem dL_votes_8 : decode cL_votes 8 = .ok (.lastore, 1) := by decide +kernel
theorem dL_votes_9 : decode cL_votes 9 = .ok (.goto 6, 3) := by decide +kernel
theorem dL_votes_12 : decode cL_votes 12 = .ok (.astore_n 3, 1) := by decide +kernel
theorem dL_votes_13 : decode cL_votes 13 = .ok (.iconst 1, 1) := by decide +kernel
theorem dL_votes_14 : decode cL_votes 14 = .ok (.ireturn, 1) := by decide +kernel
theorem dL_votes_15 : decode cL_votes 15 = .ok (.iconst 0, 1) := by decide +kernel
theorem dL_votes_16 : decode cL_votes 16 = .ok (.ireturn, 1) := by decide +kernel
set_option maxRecDepth 20000 in
theorem ggL_left_X4_left : GoodIn wsL_left wsX4_left := goodIn_ca (goodIn_r _ [6, 7, 8, 9, 10, 5, 11, 12, 13, 14, 15, 16, 17, 18, 19, 20, 21, 22, 23, 24, 25, 26, 27, 28, 29, 30, 31, 32, 33, 34, 35, 36, 37, 38, 39, 40, 41, 42, 43, 44, 45, 46, 47, 48, 49, 50, 51, 52, 53, 54, 55, 56, 57, 58, 59] (by decide +kernel) (by decide +kernel)) (goodIn_sub (fun _ h => List.mem_cons_of_mem _ (List.mem_append_right _ h)) (by decide +kernel))
set_option maxRecDepth 20000 in
theorem gL_left_X4_left : GoodIn wsL_left (wsV RL 43 RX4 yX4_left wsX4_left) := goodIn_app (goodIn_of _ (by decide +kernel)) ggL_left_X4_left
theorem dL_left_0 : decode cL_left 0 = .ok (.aload_n 2, 1) := by decide +kernel
theorem dL_left_1 : decode cL_left 1 = .ok (.iconst 0, 1) := by decide +kernel
theorem dL_left_2 : decode cL_left 2 = .ok (.aload_n 0, 1) := by decide +kernel
theorem dL_left_3 : decode cL_left 3 = .ok (.iload_n 1, 1) := by decide +kernel
theorem dL_left_4 : decode cL_left 4 = .ok (.invokevirtual 43, 3) := by decide +kernel
theorem dL_left_7 : decode cL_left 7 = .ok (.i2l, 1) := by decide +kernel
theorem dL_left_8 : decode cL_left 8 = .ok (.lastore, 1) := by decide +kernel
theorem dL_left_9 : decode cL_left 9 = .ok (.goto 6, 3) := by decide +kernel
theorem dL_left_12 : decode cL_left 12 = .ok (.astore_n 3, 1) := by decide +kernel
theorem dL_left_13 : decode cL_left 13 = .ok (.iconst 1, 1) := by decide +kernel
theorem dL_left_14 : decode cL_left 14 = .ok (.ireturn, 1) := by decide +kernel
theorem dL_left_15 : decode cL_left 15 = .ok (.iconst 0, 1) := by decide +kernel
theorem dL_left_16 : decode cL_left 16 = .ok (.ireturn, 1) := by decide +kernel
set_option maxRecDepth 20000 in
theorem ggL_count_X4_count : GoodIn wsL_count wsX4_count := goodIn_ca (goodIn_r _ [6, 7, 8, 5, 9, 10, 11, 12, 13, 14, 15, 16, 17, 18, 19, 20, 21, 22, 23, 24, 25, 26, 27, 28, 29, 30, 31, 32, 33, 34, 35, 36, 37, 38, 39, 40, 41, 42, 43, 44, 45, 46, 47, 48, 49, 50, 51, 52, 53, 54, 55, 56, 57, 58, 59, 60, 61, 62, 63, 64, 65, 66, 67, 68, 69, 70, 71, 72, 73, 74, 75, 76, 77, 78, 79, 80, 81, 82, 83, 84, 85, 86, 87, 88, 89, 90, 91, 92, 93, 94, 95, 96, 97, 98, 99, 100, 101, 102, 103, 104] (by decide +kernel) (by decide +kernel)) (goodIn_sub (fun _ h => List.mem_cons_of_mem _ (List.mem_append_right _ h)) (by decide +kernel))
set_option maxRecDepth 20000 in
theorem gL_count_X4_count : GoodIn wsL_count (wsV RL 46 RX4 yX4_count wsX4_count) := goodIn_app (goodIn_of _ (by decide +kernel)) ggL_count_X4_count
theorem dL_count_0 : decode cL_count 0 = .ok (.aload_n 2, 1) := by decide +kernel
theorem dL_count_1 : decode cL_count 1 = .ok (.iconst 0, 1) := by decide +kernel
theorem dL_count_2 : decode cL_count 2 = .ok (.aload_n 0, 1) := by decide +kernel
theorem dL_count_3 : decode cL_count 3 = .ok (.iload_n 1, 1) := by decide +kernel
theorem dL_count_4 : decode cL_count 4 = .ok (.invokevirtual 46, 3) := by decide +kernel
theorem dL_count_7 : decode cL_count 7 = .ok (.i2l, 1) := by decide +kernel
theorem dL_count_8 : decode cL_count 8 = .ok (.lastore, 1) := by decide +kernel
theorem dL_count_9 : decode cL_count 9 = .ok (.goto 6, 3) := by decide +kernel
theorem dL_count_12 : decode cL_count 12 = .ok (.astore_n 3, 1) := by decide +kernel
theorem dL_count_13 : decode cL_count 13 = .ok (.iconst 1, 1) := by decide +kernel
theorem dL_count_14 : decode cL_count 14 = .ok (.ireturn, 1) := by decide +kernel
theorem dL_count_15 : decode cL_count 15 = .ok (.iconst 0, 1) := by decide +kernel
theorem dL_count_16 : decode cL_count 16 = .ok (.ireturn, 1) := by decide +kernel
set_option maxRecDepth 20000 in
theorem ggL_pass_X4_pass : GoodIn wsL_pass wsX4_pass := goodIn_ca (goodIn_r _ [6, 7, 8, 9, 10, 11, 5, 12, 13, 14, 15, 16, 17, 18, 19, 20, 21, 22, 23, 24, 25, 26, 27, 28, 29, 30, 31, 32, 33, 34, 35, 36, 37, 38, 39, 40, 41, 42, 43, 44, 45, 46, 47, 48, 49, 50, 51, 52, 53, 54, 55, 56, 57, 58, 59, 60, 61, 62, 63, 64, 65, 66, 67, 68, 69, 70, 71, 72, 73, 74, 75, 76, 77, 78, 79, 80, 81, 82, 83, 84, 85, 86, 87, 88, 89, 90, 91, 92, 93, 94, 95, 96, 97, 98, 99, 100, 101, 102, 103, 104, 105, 106, 107, 108, 109, 110, 111, 112, 113, 114, 115, 116, 117, 118, 119, 120, 121, 122, 123, 124, 125, 126, 127, 128, 129, 130, 131, 132, 133, 134, 135, 136, 137, 138, 139, 140, 141, 142, 143, 144, 145, 146] (by decide +kernel) (by decide +kernel)) (goodIn_sub (fun _ h => List.mem_cons_of_mem _ (List.mem_append_right _ h)) (by decide +kernel))
set_option maxRecDepth 20000 in
theorem gL_pass_X4_pass : GoodIn wsL_pass (wsV RL 49 RX4 yX4_pass wsX4_pass) := goodIn_app (goodIn_of _ (by decide +kernel)) ggL_pass_X4_pass
theorem dL_pass_0 : decode cL_pass 0 = .ok (.aload_n 2, 1) := by decide +kernel
theorem dL_pass_1 : decode cL_pass 1 = .ok (.iconst 0, 1) := by decide +kernel
theorem dL_pass_2 : decode cL_pass 2 = .ok (.aload_n 0, 1) := by decide +kernel
theorem dL_pass_3 : decode cL_pass 3 = .ok (.iload_n 1, 1) := by decide +kernel
theorem dL_pass_4 : decode cL_pass 4 = .ok (.invokevirtual 49, 3) := by decide +kernel
theorem dL_pass_7 : decode cL_pass 7 = .ok (.i2l, 1) := by decide +kernel
theorem dL_pass_8 : decode cL_pass 8 = .ok (.lastore, 1) := by decide +kernel
theorem dL_pass_9 : decode cL_pass 9 = .ok (.goto 6, 3) := by decide +kernel
theorem dL_pass_12 : decode cL_pass 12 = .ok (.astore_n 3, 1) := by decide +kernel
theorem dL_pass_13 : decode cL_pass 13 = .ok (.iconst 1, 1) := by decide +kernel
theorem dL_pass_14 : decode cL_pass 14 = .ok (.ireturn, 1) := by decide +kernel
theorem dL_pass_15 : decode cL_pass 15 = .ok (.iconst 0, 1) := by decide +kernel
theorem dL_pass_16 : decode cL_pass 16 = .ok (.ireturn, 1) := by decide +kernel
set_option maxRecDepth 20000 in
theorem ggL_foresee_X4_foresee : GoodIn wsL_foresee wsX4_foresee := goodIn_ca (goodIn_ca (goodIn_r _ [7, 8, 9, 10, 11, 12, 13, 6, 14, 15, 16, 17, 18, 19, 20, 21, 22, 23, 24, 25, 26, 27, 28, 29, 30, 31, 32, 33, 34, 35, 36, 37, 38, 39, 40, 41, 42, 43, 44, 45, 46, 47, 48, 49, 50, 51, 52, 53, 54, 55, 56, 57, 58, 59, 60, 61, 62, 63, 64, 65, 66, 67, 68, 69, 70, 71, 72, 73, 74, 75, 76, 77, 78, 79, 80, 81, 82, 83, 84, 85, 86, 87, 88, 89, 90, 91, 92, 93, 94, 95, 96, 97, 98, 99, 100, 101, 102, 103, 104, 105, 106, 107, 108, 109, 110, 111, 112, 113, 114, 115, 116, 117, 118, 119, 120, 121, 122, 123, 124, 125, 126, 127, 128, 129, 130, 131, 132, 133, 134, 135, 136, 137, 138, 139, 140, 141, 142, 143, 144, 145, 146, 147, 148, 149, 150, 151, 152, 153] (by decide +kernel) (by decide +kernel)) (goodIn_sub (fun _ h => List.mem_cons_of_mem _ (List.mem_append_left _ (List.mem_append_right _ h))) (by decide +kernel))) (goodIn_sub (fun _ h => List.mem_cons_of_mem _ (List.mem_append_right _ h)) (by decide +kernel))
set_option maxRecDepth 20000 in
theorem gL_foresee_X4_foresee : GoodIn wsL_foresee (wsV RL 52 RX4 yX4_foresee wsX4_foresee) := goodIn_app (goodIn_of _ (by decide +kernel)) ggL_foresee_X4_foresee
theorem dL_foresee_0 : decode cL_foresee 0 = .ok (.aload_n 3, 1) := by decide +kernel
theorem dL_foresee_1 : decode cL_foresee 1 = .ok (.iconst 0, 1) := by decide +kernel
theorem dL_foresee_2 : decode cL_foresee 2 = .ok (.aload_n 0, 1) := by decide +kernel
theorem dL_foresee_3 : decode cL_foresee 3 = .ok (.iload_n 1, 1) := by decide +kernel
theorem dL_foresee_4 : decode cL_foresee 4 = .ok (.iload_n 2, 1) := by decide +kernel
theorem dL_foresee_5 : decode cL_foresee 5 = .ok (.invokevirtual 52, 3) := by decide +kernel
theorem dL_foresee_8 : decode cL_foresee 8 = .ok (.i2l, 1) := by decide +kernel
theorem dL_foresee_9 : decode cL_foresee 9 = .ok (.lastore, 1) := by decide +kernel
theorem dL_foresee_10 : decode cL_foresee 10 = .ok (.goto 11, 3) := by decide +kernel
theorem dL_foresee_13 : decode cL_foresee 13 = .ok (.astore 4, 2) := by decide +kernel
theorem dL_foresee_15 : decode cL_foresee 15 = .ok (.iconst 1, 1) := by decide +kernel
theorem dL_foresee_16 : decode cL_foresee 16 = .ok (.ireturn, 1) := by decide +kernel
theorem dL_foresee_17 : decode cL_foresee 17 = .ok (.astore 4, 2) := by decide +kernel
theorem dL_foresee_19 : decode cL_foresee 19 = .ok (.iconst 2, 1) := by decide +kernel
theorem dL_foresee_20 : decode cL_foresee 20 = .ok (.ireturn, 1) := by decide +kernel
theorem dL_foresee_21 : decode cL_foresee 21 = .ok (.iconst 0, 1) := by decide +kernel
theorem dL_foresee_22 : decode cL_foresee 22 = .ok (.ireturn, 1) := by decide +kernel
set_option maxRecDepth 20000 in
theorem ggL_advise_X4_advise : GoodIn wsL_advise wsX4_advise := goodIn_ca (goodIn_r _ [6, 7, 8, 9, 5, 10, 11, 12, 13, 14, 15, 16, 17, 18, 19, 20, 21, 22, 23, 24, 25, 26, 27, 28, 29, 30, 31, 32, 33, 34, 35, 36, 37, 38, 39, 40, 41, 42, 43, 44, 45, 46, 47, 48, 49, 50, 51, 52, 53, 54, 55, 56, 57, 58, 59, 60, 61, 62, 63, 64, 65, 66, 67, 68, 69, 70, 71, 72, 73, 74, 75, 76, 77, 78, 79, 80, 81, 82, 83, 84, 85, 86, 87, 88, 89, 90, 91, 92, 93, 94, 95, 96, 97, 98, 99, 100, 101, 102, 103, 104, 105, 106, 107, 108, 109, 110, 111, 112, 113, 114, 115, 116, 117, 118, 119, 120, 121, 122, 123, 124, 125, 126, 127, 128, 129, 130, 131, 132, 133, 134, 135, 136, 137, 138, 139, 140, 141, 142, 143, 144, 145, 146, 147, 148, 149, 150, 151, 152, 153, 154, 155, 156, 157, 158, 159, 160, 161, 162, 163, 164, 165] (by decide +kernel) (by decide +kernel)) (goodIn_sub (fun _ h => List.mem_cons_of_mem _ (List.mem_append_right _ h)) (by decide +kernel))
set_option maxRecDepth 20000 in
theorem gL_advise_X4_advise : GoodIn wsL_advise (wsV RL 55 RX4 yX4_advise wsX4_advise) := goodIn_app (goodIn_of _ (by decide +kernel)) ggL_advise_X4_advise
theorem dL_advise_0 : decode cL_advise 0 = .ok (.aload_n 3, 1) := by decide +kernel
theorem dL_advise_1 : decode cL_advise 1 = .ok (.iconst 0, 1) := by decide +kernel
theorem dL_advise_2 : decode cL_advise 2 = .ok (.aload_n 0, 1) := by decide +kernel
theorem dL_advise_3 : decode cL_advise 3 = .ok (.iload_n 1, 1) := by decide +kernel
theorem dL_advise_4 : decode cL_advise 4 = .ok (.iload_n 2, 1) := by decide +kernel
theorem dL_advise_5 : decode cL_advise 5 = .ok (.invokevirtual 55, 3) := by decide +kernel
theorem dL_advise_8 : decode cL_advise 8 = .ok (.i2l, 1) := by decide +kernel
theorem dL_advise_9 : decode cL_advise 9 = .ok (.lastore, 1) := by decide +kernel
theorem dL_advise_10 : decode cL_advise 10 = .ok (.goto 7, 3) := by decide +kernel
theorem dL_advise_13 : decode cL_advise 13 = .ok (.astore 4, 2) := by decide +kernel
theorem dL_advise_15 : decode cL_advise 15 = .ok (.iconst 1, 1) := by decide +kernel
theorem dL_advise_16 : decode cL_advise 16 = .ok (.ireturn, 1) := by decide +kernel
theorem dL_advise_17 : decode cL_advise 17 = .ok (.iconst 0, 1) := by decide +kernel
theorem dL_advise_18 : decode cL_advise 18 = .ok (.ireturn, 1) := by decide +kernel
set_option maxRecDepth 20000 in
theorem ggL_source_X4_source : GoodIn wsL_source wsX4_source := goodIn_ca (goodIn_r _ [6, 7, 8, 9, 10, 5, 11, 12, 13, 14, 15, 16, 17, 18, 19, 20, 21, 22, 23, 24, 25, 26, 27, 28, 29, 30, 31, 32, 33, 34, 35, 36, 37, 38, 39, 40, 41, 42, 43, 44, 45, 46, 47, 48, 49, 50] (by decide +kernel) (by decide +kernel)) (goodIn_sub (fun _ h => List.mem_cons_of_mem _ (List.mem_append_right _ h)) (by decide +kernel))
set_option maxRecDepth 20000 in
theorem gL_source_X4_source : GoodIn wsL_source (wsV RL 58 RX4 yX4_source wsX4_source) := goodIn_app (goodIn_of _ (by decide +kernel)) ggL_source_X4_source
theorem dL_source_0 : decode cL_source 0 = .ok (.aload_n 2, 1) := by decide +kernel
theorem dL_source_1 : decode cL_source 1 = .ok (.iconst 0, 1) := by decide +kernel
theorem dL_source_2 : decode cL_source 2 = .ok (.aload_n 0, 1) := by decide +kernel
theorem dL_source_3 : decode cL_source 3 = .ok (.iload_n 1, 1) := by decide +kernel
theorem dL_source_4 : decode cL_source 4 = .ok (.invokevirtual 58, 3) := by decide +kernel
theorem dL_source_7 : decode cL_source 7 = .ok (.i2l, 1) := by decide +kernel
theorem dL_source_8 : decode cL_source 8 = .ok (.lastore, 1) := by decide +kernel
theorem dL_source_9 : decode cL_source 9 = .ok (.goto 6, 3) := by decide +kernel
theorem dL_source_12 : decode cL_source 12 = .ok (.astore_n 3, 1) := by decide +kernel
theorem dL_source_13 : decode cL_source 13 = .ok (.iconst 1, 1) := by decide +kernel
theorem dL_source_14 : decode cL_source 14 = .ok (.ireturn, 1) := by decide +kernel
theorem dL_source_15 : decode cL_source 15 = .ok (.iconst 0, 1) := by decide +kernel
theorem dL_source_16 : decode cL_source 16 = .ok (.ireturn, 1) := by decide +kernel
set_option maxRecDepth 20000 in
theorem ggL_law_X4_init : GoodIn wsL_law wsX4_init := goodIn_r _ [9, 10, 11, 12, 13, 14, 15, 16, 17, 18, 19, 20, 21, 22, 23, 24, 25, 26, 27, 28, 29, 30, 31, 32, 33, 34, 35, 36, 37, 38, 39, 40, 41, 42, 43, 44, 45, 46, 47, 48, 49, 50, 51, 52, 53, 54, 55, 56, 57, 58, 59, 60, 61, 62, 63, 64, 65, 66, 67, 607, 608, 609, 610, 611, 597, 598, 599, 600, 612, 613, 614, 615, 616, 617, 618, 619, 620] (by decide +kernel) (by decide +kernel)
set_option maxRecDepth 20000 in
theorem gL_law_X4_init : GoodIn wsL_law (wsX4_init) := ggL_law_X4_init
set_option maxRecDepth 20000 in
theorem ggL_law_X5_init : GoodIn wsL_law wsX5_init := goodIn_r _ [70, 71, 11, 12, 43, 72, 73, 74, 75, 601, 602, 603, 604, 605, 606] (by decide +kernel) (by decide +kernel)
set_option maxRecDepth 20000 in
theorem gL_law_X5_init : GoodIn wsL_law (wsX5_init) := ggL_law_X5_init
set_option maxRecDepth 20000 in
theorem ggL_law_L_come : GoodIn wsL_law wsL_come := goodIn_ca (goodIn_ca (goodIn_r _ [79, 80, 81, 82, 83, 84, 2, 85, 86, 87, 88, 89, 16, 20, 90, 91, 92, 93, 94, 95, 96, 97, 98, 15, 99, 27, 100, 101, 102, 103, 31, 32, 104, 105, 106, 30, 107, 44, 108, 109, 110, 19, 111, 56, 57, 52, 112, 113, 114, 55, 115, 64, 65, 66, 116, 117, 597, 598, 599, 600, 607, 608, 609, 610, 611, 617, 612, 613, 614, 615, 616, 618, 619, 620] (by decide +kernel) (by decide +kernel)) (goodIn_sub (fun _ h => List.mem_append_left _ (List.mem_append_left _ (List.mem_append_right _ h))) (by decide +kernel))) (goodIn_sub (fun _ h => List.mem_append_left _ (List.mem_append_right _ h)) (by decide +kernel))
set_option maxRecDepth 20000 in
theorem gL_law_L_come : GoodIn wsL_law (va_wsS RL 65 yL_come wsL_come) := goodIn_app (goodIn_of _ (by decide +kernel)) ggL_law_L_come
set_option maxRecDepth 20000 in
theorem ggL_law_X5_come : GoodIn wsL_law wsX5_come := goodIn_r _ [121, 122, 123, 43, 72, 124, 125, 126, 127, 128, 129, 5, 130, 131, 132, 133, 134, 601, 602, 603, 604, 605, 606] (by decide +kernel) (by decide +kernel)
set_option maxRecDepth 20000 in
theorem gL_law_X5_come : GoodIn wsL_law (wsV RL 70 RX5 yX5_come wsX5_come) := goodIn_app (goodIn_of _ (by decide +kernel)) ggL_law_X5_come
set_option maxRecDepth 20000 in
theorem ggL_law_X5_thrown : GoodIn wsL_law wsX5_thrown := goodIn_r _ [138, 122, 601, 602, 603, 604, 605, 606] (by decide +kernel) (by decide +kernel)
set_option maxRecDepth 20000 in
theorem gL_law_X5_thrown : GoodIn wsL_law (wsV RL 71 RX5 yX5_thrown wsX5_thrown) := goodIn_app (goodIn_of _ (by decide +kernel)) ggL_law_X5_thrown
set_option maxRecDepth 20000 in
theorem ggL_law_L_listen : GoodIn wsL_law wsL_listen := goodIn_ca (goodIn_ca (goodIn_ca (goodIn_r _ [141, 142, 80, 81, 143, 144, 145, 2, 146, 86, 87, 88, 89, 16, 147, 148, 149, 150, 151, 152, 96, 97, 98, 15, 99, 27, 153, 154, 155, 156, 33, 157, 158, 159, 30, 160, 44, 161, 162, 163, 164, 34, 165, 166, 167, 168, 104, 105, 106, 107, 169, 170, 171, 172, 173, 174, 175, 176, 597, 598, 599, 600, 607, 608, 609, 610, 611, 617] (by decide +kernel) (by decide +kernel)) (goodIn_sub (fun _ h => List.mem_append_left _ (List.mem_append_left _ (List.mem_append_right _ h))) (by decide +kernel))) (goodIn_sub (fun _ h => List.mem_append_left _ (List.mem_append_right _ h)) (by decide +kernel))) (goodIn_sub (fun _ h => List.mem_append_right _ h) (by decide +kernel))
set_option maxRecDepth 20000 in
theorem gL_law_L_listen : GoodIn wsL_law (va_wsS RL 75 yL_listen wsL_listen) := goodIn_app (goodIn_of _ (by decide +kernel)) ggL_law_L_listen
set_option maxRecDepth 20000 in
theorem ggL_law_X5_listen : GoodIn wsL_law wsX5_listen := goodIn_r _ [180, 122, 74, 124, 125, 126, 127, 181, 182, 183, 5, 184, 123, 128, 129, 130, 131, 132, 133, 134, 185, 186, 187, 188, 189, 190, 191, 192, 72, 193, 194, 195, 196, 601, 602, 603, 604, 605, 606] (by decide +kernel) (by decide +kernel)
set_option maxRecDepth 20000 in
theorem gL_law_X5_listen : GoodIn wsL_law (wsV RL 77 RX5 yX5_listen wsX5_listen) := goodIn_app (goodIn_of _ (by decide +kernel)) ggL_law_X5_listen
set_option maxRecDepth 20000 in
theorem ggL_law_L_raise : GoodIn wsL_law wsL_raise := goodIn_ca (goodIn_ca (goodIn_r _ [199, 142, 80, 200, 201, 202, 2, 203, 16, 147, 148, 149, 150, 151, 152, 96, 97, 98, 15, 99, 27, 93, 94, 95, 86, 87, 90, 91, 92, 204, 205, 206, 207, 32, 157, 158, 159, 30, 160, 44, 208, 209, 210, 211, 104, 105, 106, 107, 597, 598, 599, 600, 607, 608, 609, 610, 611, 617] (by decide +kernel) (by decide +kernel)) (goodIn_sub (fun _ h => List.mem_append_right _ h) (by decide +kernel))) (goodIn_sub (fun _ h => List.mem_append_left _ (List.mem_append_left _ (List.mem_append_right _ h))) (by decide +kernel))
set_option maxRecDepth 20000 in
theorem gL_law_L_raise : GoodIn wsL_law (va_wsS RL 78 yL_raise wsL_raise) := goodIn_app (goodIn_of _ (by decide +kernel)) ggL_law_L_raise
set_option maxRecDepth 20000 in
theorem ggL_law_X5_raise : GoodIn wsL_law wsX5_raise := goodIn_r _ [215, 122, 181, 182, 183, 5, 184, 123, 128, 129, 130, 131, 132, 133, 134, 189, 190, 191, 192, 72, 193, 194, 195, 196, 601, 602, 603, 604, 605, 606] (by decide +kernel) (by decide +kernel)
set_option maxRecDepth 20000 in
theorem gL_law_X5_raise : GoodIn wsL_law (wsV RL 80 RX5 yX5_raise wsX5_raise) := goodIn_app (goodIn_of _ (by decide +kernel)) ggL_law_X5_raise
set_option maxRecDepth 20000 in
theorem ggL_law_L_whisper : GoodIn wsL_law wsL_whisper := goodIn_ca (goodIn_ca (goodIn_r _ [218, 142, 80, 219, 220, 221, 2, 222, 86, 87, 20, 147, 148, 149, 150, 151, 152, 16, 96, 97, 98, 15, 99, 27, 223, 224, 225, 90, 91, 92, 226, 227, 228, 19, 229, 56, 57, 230, 231, 232, 55, 233, 64, 234, 158, 159, 30, 160, 44, 108, 109, 110, 111, 52, 112, 113, 114, 115, 65, 66, 116, 105, 106, 107, 117, 597, 598, 599, 600, 607, 608, 609, 610, 611, 612, 613, 614, 615, 616, 618, 619, 620, 617] (by decide +kernel) (by decide +kernel)) (goodIn_sub (fun _ h => List.mem_append_left _ (List.mem_append_left _ (List.mem_append_right _ h))) (by decide +kernel))) (goodIn_sub (fun _ h => List.mem_append_right _ h) (by decide +kernel))
set_option maxRecDepth 20000 in
theorem gL_law_L_whisper : GoodIn wsL_law (va_wsS RL 81 yL_whisper wsL_whisper) := goodIn_app (goodIn_of _ (by decide +kernel)) ggL_law_L_whisper
set_option maxRecDepth 20000 in
theorem ggL_law_X5_whisper : GoodIn wsL_law wsX5_whisper := goodIn_r _ [238, 122, 181, 182, 183, 5, 184, 123, 128, 129, 130, 131, 132, 133, 134, 239, 240, 241, 242, 243, 244, 245, 189, 190, 191, 192, 72, 246, 247, 248, 249, 43, 124, 125, 126, 127, 601, 602, 603, 604, 605, 606] (by decide +kernel) (by decide +kernel)
set_option maxRecDepth 20000 in
theorem gL_law_X5_whisper : GoodIn wsL_law (wsV RL 84 RX5 yX5_whisper wsX5_whisper) := goodIn_app (goodIn_of _ (by decide +kernel)) ggL_law_X5_whisper
set_option maxRecDepth 20000 in
theorem ggL_law_L_parrot : GoodIn wsL_law wsL_parrot := goodIn_ca (goodIn_r _ [252, 142, 253, 254, 255, 2, 256, 147, 148, 149, 150, 151, 152, 16, 96, 97, 98, 15, 99, 27, 257, 258, 259, 90, 91, 92, 260, 261, 262, 263, 20, 226, 227, 228, 19, 229, 56, 57, 230, 231, 232, 55, 233, 64, 234, 158, 159, 30, 160, 44, 264, 265, 266, 267, 52, 268, 269, 270, 271, 272, 31, 157, 204, 205, 206, 207, 32, 169, 170, 171, 172, 33, 273, 274, 275, 276, 277, 154, 155, 156, 161, 162, 163, 164, 34, 278, 279, 280, 281, 597, 598, 599, 600, 607, 608, 609, 610, 611, 612, 613, 614, 615, 616, 618, 619, 620, 617] (by decide +kernel) (by decide +kernel)) (goodIn_sub (fun _ h => List.mem_append_right _ h) (by decide +kernel))
set_option maxRecDepth 20000 in
theorem gL_law_L_parrot : GoodIn wsL_law (va_wsS RL 85 yL_parrot wsL_parrot) := goodIn_app (goodIn_of _ (by decide +kernel)) ggL_law_L_parrot
set_option maxRecDepth 20000 in
theorem ggL_law_X5_parrot : GoodIn wsL_law wsX5_parrot := goodIn_r _ [285, 122, 181, 182, 183, 5, 184, 123, 128, 129, 130, 286, 287, 288, 289, 242, 243, 244, 245, 189, 190, 191, 192, 72, 185, 186, 187, 188, 74, 290, 291, 292, 293, 131, 132, 133, 134, 601, 602, 603, 604, 605, 606] (by decide +kernel) (by decide +kernel)
set_option maxRecDepth 20000 in
theorem gL_law_X5_parrot : GoodIn wsL_law (wsV RL 87 RX5 yX5_parrot wsX5_parrot) := goodIn_app (goodIn_of _ (by decide +kernel)) ggL_law_X5_parrot
set_option maxRecDepth 20000 in
theorem ggL_law_L_half : GoodIn wsL_law wsL_half := goodIn_ca (goodIn_r _ [296, 142, 297, 298, 299, 2, 300, 147, 148, 149, 150, 151, 152, 16, 96, 97, 98, 15, 99, 27, 257, 258, 259, 90, 91, 92, 301, 302, 303, 304, 20, 305, 306, 307, 19, 308, 57, 56, 309, 231, 232, 55, 233, 64, 234, 158, 159, 30, 160, 44, 310, 311, 312, 313, 65, 314, 315, 316, 317, 66, 597, 598, 599, 600, 607, 608, 609, 610, 611, 612, 613, 614, 615, 616, 618, 619, 620, 617] (by decide +kernel) (by decide +kernel)) (goodIn_sub (fun _ h => List.mem_append_right _ h) (by decide +kernel))
set_option maxRecDepth 20000 in
theorem gL_law_L_half : GoodIn wsL_law (va_wsS RL 88 yL_half wsL_half) := goodIn_app (goodIn_of _ (by decide +kernel)) ggL_law_L_half
set_option maxRecDepth 20000 in
theorem ggL_law_X5_half : GoodIn wsL_law wsX5_half := goodIn_r _ [321, 122, 181, 182, 183, 5, 184, 123, 128, 129, 130, 322, 323, 324, 325, 189, 190, 191, 192, 72, 131, 132, 133, 134, 601, 602, 603, 604, 605, 606] (by decide +kernel) (by decide +kernel)
set_option maxRecDepth 20000 in
theorem gL_law_X5_half : GoodIn wsL_law (wsV RL 91 RX5 yX5_half wsX5_half) := goodIn_app (goodIn_of _ (by decide +kernel)) ggL_law_X5_half
set_option maxRecDepth 20000 in
theorem ggL_law_L_hears : GoodIn wsL_law wsL_hears := goodIn_ca (goodIn_r _ [328, 142, 329, 330, 331, 2, 332, 151, 152, 16, 147, 148, 149, 150, 96, 97, 98, 15, 99, 27, 169, 170, 171, 172, 33, 157, 158, 159, 30, 160, 44, 333, 162, 163, 164, 34, 597, 598, 599, 600, 607, 608, 609, 610, 611, 617] (by decide +kernel) (by decide +kernel)) (goodIn_sub (fun _ h => List.mem_append_right _ h) (by decide +kernel))
set_option maxRecDepth 20000 in
theorem gL_law_L_hears : GoodIn wsL_law (va_wsS RL 92 yL_hears wsL_hears) := goodIn_app (goodIn_of _ (by decide +kernel)) ggL_law_L_hears
set_option maxRecDepth 20000 in
theorem ggL_law_X5_hears : GoodIn wsL_law wsX5_hears := goodIn_r _ [337, 122, 74, 181, 182, 183, 5, 184, 123, 128, 129, 130, 189, 190, 191, 192, 72, 131, 132, 133, 134, 601, 602, 603, 604, 605, 606] (by decide +kernel) (by decide +kernel)
set_option maxRecDepth 20000 in
theorem gL_law_X5_hears : GoodIn wsL_law (wsV RL 94 RX5 yX5_hears wsX5_hears) := goodIn_app (goodIn_of _ (by decide +kernel)) ggL_law_X5_hears
set_option maxRecDepth 20000 in
theorem ggL_law_L_votes : GoodIn wsL_law wsL_votes := goodIn_ca (goodIn_r _ [340, 80, 341, 342, 343, 2, 344, 20, 223, 224, 225, 86, 87, 90, 91, 92, 345, 346, 347, 348, 16, 96, 97, 98, 15, 99, 27, 226, 227, 228, 19, 229, 56, 57, 230, 231, 232, 55, 233, 64, 234, 158, 159, 30, 160, 44, 597, 598, 599, 600, 607, 608, 609, 610, 611, 612, 613, 614, 615, 616, 618, 619, 620, 617] (by decide +kernel) (by decide +kernel)) (goodIn_sub (fun _ h => List.mem_append_left _ (List.mem_append_left _ (List.mem_append_right _ h))) (by decide +kernel))
set_option maxRecDepth 20000 in
theorem gL_law_L_votes : GoodIn wsL_law (va_wsS RL 95 yL_votes wsL_votes) := goodIn_app (goodIn_of _ (by decide +kernel)) ggL_law_L_votes
set_option maxRecDepth 20000 in
theorem ggL_law_X5_votes : GoodIn wsL_law wsX5_votes := goodIn_r _ [352, 122, 239, 240, 5, 241, 128, 129, 130, 353, 354, 355, 356, 123, 242, 243, 244, 245, 189, 190, 191, 192, 72, 131, 132, 133, 134, 601, 602, 603, 604, 605, 606] (by decide +kernel) (by decide +kernel)
set_option maxRecDepth 20000 in
theorem gL_law_X5_votes : GoodIn wsL_law (wsV RL 98 RX5 yX5_votes wsX5_votes) := goodIn_app (goodIn_of _ (by decide +kernel)) ggL_law_X5_votes
set_option maxRecDepth 20000 in
theorem ggL_law_X4_verdict : GoodIn wsL_law wsX4_verdict := goodIn_r _ [360, 16, 20, 96, 97, 98, 15, 99, 27, 226, 227, 228, 19, 229, 56, 57, 230, 231, 232, 55, 233, 64, 234, 158, 159, 30, 160, 44, 345, 346, 347, 2, 348, 597, 598, 599, 600, 607, 608, 609, 610, 611, 612, 613, 614, 615, 616, 618, 619, 620, 617] (by decide +kernel) (by decide +kernel)
set_option maxRecDepth 20000 in
theorem gL_law_X4_verdict : GoodIn wsL_law (wsV RL 99 RX4 yX4_verdict wsX4_verdict) := goodIn_app (goodIn_of _ (by decide +kernel)) ggL_law_X4_verdict
set_option maxRecDepth 20000 in
theorem ggL_law_X5_verdict : GoodIn wsL_law wsX5_verdict := goodIn_r _ [364, 122, 123, 242, 243, 244, 5, 245, 189, 190, 191, 192, 72, 353, 354, 355, 356, 601, 602, 603, 604, 605, 606] (by decide +kernel) (by decide +kernel)
set_option maxRecDepth 20000 in
theorem gL_law_X5_verdict : GoodIn wsL_law (wsV RL 102 RX5 yX5_verdict wsX5_verdict) := goodIn_app (goodIn_of _ (by decide +kernel)) ggL_law_X5_verdict
set_option maxRecDepth 20000 in
theorem ggL_law_L_left : GoodIn wsL_law wsL_left := goodIn_ca (goodIn_r _ [367, 80, 368, 369, 370, 2, 371, 16, 20, 223, 224, 225, 86, 87, 90, 91, 92, 96, 97, 98, 15, 99, 27, 305, 306, 307, 19, 308, 57, 56, 309, 231, 232, 55, 233, 64, 234, 158, 159, 30, 160, 44, 597, 598, 599, 600, 607, 608, 609, 610, 611, 612, 613, 614, 615, 616, 618, 619, 620, 617] (by decide +kernel) (by decide +kernel)) (goodIn_sub (fun _ h => List.mem_append_left _ (List.mem_append_left _ (List.mem_append_right _ h))) (by decide +kernel))
set_option maxRecDepth 20000 in
theorem gL_law_L_left : GoodIn wsL_law (va_wsS RL 103 yL_left wsL_left) := goodIn_app (goodIn_of _ (by decide +kernel)) ggL_law_L_left
set_option maxRecDepth 20000 in
theorem ggL_law_X5_left : GoodIn wsL_law wsX5_left := goodIn_r _ [375, 122, 123, 239, 240, 5, 241, 128, 129, 130, 131, 132, 133, 134, 189, 190, 191, 192, 72, 601, 602, 603, 604, 605, 606] (by decide +kernel) (by decide +kernel)
set_option maxRecDepth 20000 in
theorem gL_law_X5_left : GoodIn wsL_law (wsV RL 105 RX5 yX5_left wsX5_left) := goodIn_app (goodIn_of _ (by decide +kernel)) ggL_law_X5_left
set_option maxRecDepth 20000 in
theorem ggL_law_L_count : GoodIn wsL_law wsL_count := goodIn_ca (goodIn_r _ [378, 142, 379, 380, 381, 2, 382, 257, 258, 259, 151, 152, 90, 91, 92, 383, 384, 385, 386, 20, 16, 387, 388, 389, 19, 390, 49, 96, 97, 98, 15, 99, 27, 391, 392, 393, 394, 395, 396, 397, 398, 226, 227, 228, 229, 56, 57, 230, 231, 232, 55, 233, 64, 234, 158, 159, 30, 160, 44, 399, 400, 401, 402, 305, 306, 307, 308, 310, 311, 312, 313, 65, 403, 404, 405, 406, 264, 265, 266, 267, 52, 268, 407, 408, 409, 410, 50, 597, 598, 599, 600, 612, 613, 614, 615, 616, 607, 608, 609, 610, 611, 618, 619, 620, 617] (by decide +kernel) (by decide +kernel)) (goodIn_sub (fun _ h => List.mem_append_right _ h) (by decide +kernel))
set_option maxRecDepth 20000 in
theorem gL_law_L_count : GoodIn wsL_law (va_wsS RL 106 yL_count wsL_count) := goodIn_app (goodIn_of _ (by decide +kernel)) ggL_law_L_count
set_option maxRecDepth 20000 in
theorem ggL_law_X5_count : GoodIn wsL_law wsX5_count := goodIn_r _ [414, 122, 128, 129, 5, 130, 415, 416, 417, 418, 75, 123, 242, 243, 244, 245, 189, 190, 191, 192, 72, 131, 132, 133, 134, 601, 602, 603, 604, 605, 606] (by decide +kernel) (by decide +kernel)
set_option maxRecDepth 20000 in
theorem gL_law_X5_count : GoodIn wsL_law (wsV RL 108 RX5 yX5_count wsX5_count) := goodIn_app (goodIn_of _ (by decide +kernel)) ggL_law_X5_count
set_option maxRecDepth 20000 in
theorem ggL_law_L_pass : GoodIn wsL_law wsL_pass := goodIn_ca (goodIn_r _ [421, 80, 422, 423, 424, 2, 425, 20, 16, 22, 426, 427, 428, 86, 87, 90, 91, 92, 407, 408, 409, 19, 410, 50, 429, 430, 431, 432, 49, 433, 434, 435, 436, 52, 56, 57, 437, 438, 439, 30, 440, 44, 441, 442, 41, 443, 444, 125, 126, 127, 445, 446, 447, 55, 448, 64, 65, 66, 449, 450, 451, 452, 453, 454, 97, 98, 15, 99, 27, 455, 279, 280, 281, 33, 32, 157, 158, 159, 160, 161, 162, 163, 164, 34, 456, 457, 458, 459, 460, 461, 265, 266, 267, 268, 462, 227, 228, 229, 230, 231, 232, 233, 234, 117, 105, 106, 107, 463, 306, 307, 308, 464, 465, 466, 467, 468, 116, 469, 470, 471, 472, 473, 40, 42, 474, 270, 271, 272, 31, 597, 598, 599, 600, 612, 613, 614, 615, 616, 617, 618, 619, 620, 607, 608, 609, 610, 611] (by decide +kernel) (by decide +kernel)) (goodIn_sub (fun _ h => List.mem_append_left _ (List.mem_append_left _ (List.mem_append_right _ h))) (by decide +kernel))
set_option maxRecDepth 20000 in
theorem gL_law_L_pass : GoodIn wsL_law (va_wsS RL 109 yL_pass wsL_pass) := goodIn_app (goodIn_of _ (by decide +kernel)) ggL_law_L_pass
set_option maxRecDepth 20000 in
theorem ggL_law_X5_pass : GoodIn wsL_law wsX5_pass := goodIn_r _ [478, 122, 75, 128, 129, 5, 130, 131, 132, 133, 134, 479, 480, 481, 482, 483, 484, 485, 486, 72, 73, 124, 125, 126, 127, 123, 487, 40, 41, 42, 488, 489, 490, 491, 492, 442, 443, 290, 291, 292, 293, 74, 189, 190, 191, 192, 493, 494, 495, 496, 193, 194, 195, 196, 601, 602, 603, 604, 605, 606] (by decide +kernel) (by decide +kernel)
set_option maxRecDepth 20000 in
theorem gL_law_X5_pass : GoodIn wsL_law (wsV RL 111 RX5 yX5_pass wsX5_pass) := goodIn_app (goodIn_of _ (by decide +kernel)) ggL_law_X5_pass
set_option maxRecDepth 20000 in
theorem ggL_law_X4_agrees : GoodIn wsL_law wsX4_agrees := goodIn_r _ [500, 21, 20, 16, 22, 501, 434, 435, 19, 436, 49, 50, 52, 56, 57, 437, 438, 439, 30, 440, 44, 441, 442, 41, 443, 444, 125, 126, 127, 445, 446, 447, 55, 448, 64, 65, 66, 449, 502, 503, 504, 2, 505, 96, 97, 98, 15, 99, 27, 226, 227, 228, 229, 230, 231, 232, 233, 234, 158, 159, 160, 345, 346, 347, 348, 429, 430, 431, 432, 433, 450, 451, 452, 453, 454, 455, 279, 280, 281, 33, 32, 157, 161, 162, 163, 164, 34, 456, 457, 458, 459, 460, 461, 265, 266, 267, 268, 462, 117, 105, 106, 107, 463, 306, 307, 308, 464, 465, 466, 467, 468, 116, 469, 470, 471, 472, 473, 40, 42, 474, 270, 271, 272, 31, 597, 598, 599, 600, 612, 613, 614, 615, 616, 617, 618, 619, 620, 607, 608, 609, 610, 611] (by decide +kernel) (by decide +kernel)
set_option maxRecDepth 20000 in
theorem gL_law_X4_agrees : GoodIn wsL_law (wsV RL 112 RX4 yX4_agrees wsX4_agrees) := goodIn_app (goodIn_of _ (by decide +kernel)) ggL_law_X4_agrees
set_option maxRecDepth 20000 in
theorem ggL_law_X5_agrees : GoodIn wsL_law wsX5_agrees := goodIn_r _ [509, 122, 510, 511, 512, 5, 513, 514, 72, 515, 516, 517, 518, 519, 75, 415, 416, 417, 418, 123, 242, 243, 244, 245, 189, 190, 191, 192, 483, 484, 485, 486, 73, 124, 125, 126, 127, 487, 40, 41, 42, 488, 489, 490, 491, 492, 442, 443, 290, 291, 292, 293, 74, 493, 494, 495, 496, 193, 194, 195, 196, 520, 521, 522, 523, 601, 602, 603, 604, 605, 606] (by decide +kernel) (by decide +kernel)
set_option maxRecDepth 20000 in
theorem gL_law_X5_agrees : GoodIn wsL_law (wsV RL 115 RX5 yX5_agrees wsX5_agrees) := goodIn_app (goodIn_of _ (by decide +kernel)) ggL_law_X5_agrees
set_option maxRecDepth 20000 in
theorem ggL_law_L_foresee : GoodIn wsL_law wsL_foresee := goodIn_ca (goodIn_ca (goodIn_r _ [526, 80, 142, 527, 528, 529, 2, 530, 21, 20, 16, 22, 426, 427, 428, 86, 87, 90, 91, 92, 147, 148, 149, 150, 151, 152, 96, 97, 98, 15, 99, 27, 501, 434, 435, 19, 436, 49, 50, 52, 56, 57, 437, 438, 439, 30, 440, 44, 441, 442, 41, 443, 444, 125, 126, 127, 445, 446, 447, 55, 448, 64, 65, 66, 449, 429, 430, 431, 432, 433, 450, 451, 452, 453, 454, 455, 279, 280, 281, 33, 32, 157, 158, 159, 160, 161, 162, 163, 164, 34, 456, 457, 458, 459, 460, 461, 265, 266, 267, 268, 462, 227, 228, 229, 230, 231, 232, 233, 234, 117, 105, 106, 107, 463, 306, 307, 308, 464, 465, 466, 467, 468, 116, 469, 470, 471, 472, 473, 40, 42, 474, 270, 271, 272, 31, 226, 597, 598, 599, 600, 607, 608, 609, 610, 611, 612, 613, 614, 615, 616, 617, 618, 619, 620] (by decide +kernel) (by decide +kernel)) (goodIn_sub (fun _ h => List.mem_append_left _ (List.mem_append_left _ (List.mem_append_right _ h))) (by decide +kernel))) (goodIn_sub (fun _ h => List.mem_append_right _ h) (by decide +kernel))
set_option maxRecDepth 20000 in
theorem gL_law_L_foresee : GoodIn wsL_law (va_wsS RL 116 yL_foresee wsL_foresee) := goodIn_app (goodIn_of _ (by decide +kernel)) ggL_law_L_foresee
set_option maxRecDepth 20000 in
theorem ggL_law_X5_foresee : GoodIn wsL_law wsX5_foresee := goodIn_r _ [534, 122, 128, 129, 5, 130, 131, 132, 133, 134, 181, 182, 183, 184, 123, 510, 511, 512, 513, 514, 72, 515, 516, 517, 518, 519, 75, 479, 480, 481, 482, 483, 484, 485, 486, 73, 124, 125, 126, 127, 487, 40, 41, 42, 488, 489, 490, 491, 492, 442, 443, 290, 291, 292, 293, 74, 189, 190, 191, 192, 493, 494, 495, 496, 193, 194, 195, 196, 242, 243, 244, 245, 520, 521, 522, 523, 601, 602, 603, 604, 605, 606] (by decide +kernel) (by decide +kernel)
set_option maxRecDepth 20000 in
theorem gL_law_X5_foresee : GoodIn wsL_law (wsV RL 118 RX5 yX5_foresee wsX5_foresee) := goodIn_app (goodIn_of _ (by decide +kernel)) ggL_law_X5_foresee
set_option maxRecDepth 20000 in
theorem ggL_law_L_advise : GoodIn wsL_law wsL_advise := goodIn_ca (goodIn_r _ [537, 80, 538, 539, 540, 2, 541, 16, 223, 224, 225, 86, 87, 90, 91, 92, 426, 427, 428, 96, 97, 98, 15, 99, 27, 542, 543, 544, 545, 21, 20, 22, 501, 434, 435, 19, 436, 49, 50, 52, 56, 57, 437, 438, 439, 30, 440, 44, 441, 442, 41, 443, 444, 125, 126, 127, 445, 446, 447, 55, 448, 64, 65, 66, 449, 108, 109, 110, 111, 112, 113, 114, 115, 116, 105, 106, 107, 117, 429, 430, 431, 432, 433, 450, 451, 452, 453, 454, 455, 279, 280, 281, 33, 32, 157, 158, 159, 160, 161, 162, 163, 164, 34, 456, 457, 458, 459, 460, 461, 265, 266, 267, 268, 462, 227, 228, 229, 230, 231, 232, 233, 234, 463, 306, 307, 308, 464, 465, 466, 467, 468, 469, 470, 471, 472, 473, 40, 42, 474, 270, 271, 272, 31, 345, 346, 347, 348, 226, 597, 598, 599, 600, 607, 608, 609, 610, 611, 612, 613, 614, 615, 616, 617, 618, 619, 620] (by decide +kernel) (by decide +kernel)) (goodIn_sub (fun _ h => List.mem_append_left _ (List.mem_append_left _ (List.mem_append_right _ h))) (by decide +kernel))
set_option maxRecDepth 20000 in
theorem gL_law_L_advise : GoodIn wsL_law (va_wsS RL 119 yL_advise wsL_advise) := goodIn_app (goodIn_of _ (by decide +kernel)) ggL_law_L_advise
set_option maxRecDepth 20000 in
theorem ggL_law_X5_advise : GoodIn wsL_law wsX5_advise := goodIn_r _ [549, 122, 123, 239, 240, 5, 241, 128, 129, 130, 131, 132, 133, 134, 510, 511, 512, 513, 514, 72, 515, 516, 517, 518, 519, 75, 246, 247, 248, 249, 43, 124, 125, 126, 127, 479, 480, 481, 482, 483, 484, 485, 486, 73, 487, 40, 41, 42, 488, 489, 490, 491, 492, 442, 443, 290, 291, 292, 293, 74, 189, 190, 191, 192, 493, 494, 495, 496, 193, 194, 195, 196, 353, 354, 355, 356, 242, 243, 244, 245, 520, 521, 522, 523, 601, 602, 603, 604, 605, 606] (by decide +kernel) (by decide +kernel)
set_option maxRecDepth 20000 in
theorem gL_law_X5_advise : GoodIn wsL_law (wsV RL 121 RX5 yX5_advise wsX5_advise) := goodIn_app (goodIn_of _ (by decide +kernel)) ggL_law_X5_advise
set_option maxRecDepth 20000 in
theorem ggL_law_L_source : GoodIn wsL_law wsL_source := goodIn_ca (goodIn_r _ [552, 142, 553, 554, 555, 2, 556, 16, 147, 148, 149, 150, 151, 152, 96, 97, 98, 15, 99, 27, 557, 558, 559, 560, 33, 157, 158, 159, 30, 160, 44, 161, 162, 163, 164, 34, 561, 562, 563, 564, 565, 597, 598, 599, 600, 607, 608, 609, 610, 611, 617] (by decide +kernel) (by decide +kernel)) (goodIn_sub (fun _ h => List.mem_append_right _ h) (by decide +kernel))
set_option maxRecDepth 20000 in
theorem gL_law_L_source : GoodIn wsL_law (va_wsS RL 122 yL_source wsL_source) := goodIn_app (goodIn_of _ (by decide +kernel)) ggL_law_L_source
set_option maxRecDepth 20000 in
theorem ggL_law_X5_source : GoodIn wsL_law wsX5_source := goodIn_r _ [569, 122, 74, 123, 181, 182, 183, 5, 184, 128, 129, 130, 131, 132, 133, 134, 189, 190, 191, 192, 72, 601, 602, 603, 604, 605, 606] (by decide +kernel) (by decide +kernel)
set_option maxRecDepth 20000 in
theorem gL_law_X5_source : GoodIn wsL_law (wsV RL 124 RX5 yX5_source wsX5_source) := goodIn_app (goodIn_of _ (by decide +kernel)) ggL_law_X5_source
set_option maxRecDepth 20000 in
theorem ggL_law_X4_mean : GoodIn wsL_law wsX4_mean := goodIn_r _ [573, 16, 96, 97, 98, 15, 99, 27, 403, 404, 405, 2, 406, 20, 264, 265, 266, 19, 267, 52, 268, 158, 159, 30, 160, 44, 597, 598, 599, 600, 607, 608, 609, 610, 611, 612, 613, 614, 615, 616, 617] (by decide +kernel) (by decide +kernel)
set_option maxRecDepth 20000 in
theorem gL_law_X4_mean : GoodIn wsL_law (wsV RL 125 RX4 yX4_mean wsX4_mean) := goodIn_app (goodIn_of _ (by decide +kernel)) ggL_law_X4_mean
set_option maxRecDepth 20000 in
theorem ggL_law_X5_mean : GoodIn wsL_law wsX5_mean := goodIn_r _ [577, 122, 123, 415, 416, 417, 5, 418, 75, 242, 243, 244, 245, 189, 190, 191, 192, 72, 601, 602, 603, 604, 605, 606] (by decide +kernel) (by decide +kernel)
set_option maxRecDepth 20000 in
theorem gL_law_X5_mean : GoodIn wsL_law (wsV RL 129 RX5 yX5_mean wsX5_mean) := goodIn_app (goodIn_of _ (by decide +kernel)) ggL_law_X5_mean
set_option maxRecDepth 20000 in
theorem ggL_law_X4_digest : GoodIn wsL_law wsX4_digest := goodIn_r _ [581, 582, 16, 383, 384, 385, 2, 386, 20, 387, 388, 389, 19, 390, 49, 96, 97, 98, 15, 99, 27, 391, 392, 393, 394, 395, 396, 397, 398, 226, 227, 228, 229, 56, 57, 230, 231, 232, 55, 233, 64, 234, 158, 159, 30, 160, 44, 399, 400, 401, 402, 305, 306, 307, 308, 310, 311, 312, 313, 65, 403, 404, 405, 406, 264, 265, 266, 267, 52, 268, 407, 408, 409, 410, 50, 583, 584, 585, 586, 587, 588, 589, 590, 260, 261, 262, 263, 269, 270, 271, 272, 31, 157, 204, 205, 206, 207, 32, 169, 170, 171, 172, 33, 273, 274, 275, 276, 277, 154, 155, 156, 161, 162, 163, 164, 34, 278, 279, 280, 281, 301, 302, 303, 304, 309, 314, 315, 316, 317, 66, 333, 597, 598, 599, 600, 612, 613, 614, 615, 616, 607, 608, 609, 610, 611, 618, 619, 620, 617] (by decide +kernel) (by decide +kernel)
set_option maxRecDepth 20000 in
theorem gL_law_X4_digest : GoodIn wsL_law (wsV RL 130 RX4 yX4_digest wsX4_digest) := goodIn_app (goodIn_of _ (by decide +kernel)) ggL_law_X4_digest
set_option maxRecDepth 20000 in
theorem ggL_law_X5_digest : GoodIn wsL_law wsX5_digest := goodIn_r _ [594, 122, 595, 596, 123, 74, 415, 416, 417, 5, 418, 75, 242, 243, 244, 245, 189, 190, 191, 192, 72, 286, 287, 288, 289, 185, 186, 187, 188, 290, 291, 292, 293, 322, 323, 324, 325, 601, 602, 603, 604, 605, 606] (by decide +kernel) (by decide +kernel)
set_option maxRecDepth 20000 in
theorem gL_law_X5_digest : GoodIn wsL_law (wsV RL 134 RX5 yX5_digest wsX5_digest) := goodIn_app (goodIn_of _ (by decide +kernel)) ggL_law_X5_digest
theorem dL_law_0 : decode cL_law 0 = .ok (.new 8, 3) := by decide +kernel
