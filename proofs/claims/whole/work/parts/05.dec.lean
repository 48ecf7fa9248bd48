theorem dX4_digest_17 : decode cX4_digest 17 = .ok (.invokestatic 163, 3) := by decide +kernel
theorem dX4_digest_20 : decode cX4_digest 20 = .ok (.lstore_n 1, 1) := by decide +kernel
theorem dX4_digest_21 : decode cX4_digest 21 = .ok (.iinc 3 1, 3) := by decide +kernel
theorem dX4_digest_24 : decode cX4_digest 24 = .ok (.goto (-18), 3) := by decide +kernel
theorem dX4_digest_27 : decode cX4_digest 27 = .ok (.aload_n 0, 1) := by decide +kernel
theorem dX4_digest_28 : decode cX4_digest 28 = .ok (.getfield 10, 3) := by decide +kernel
theorem dX4_digest_31 : decode cX4_digest 31 = .ok (.invokevirtual 44, 3) := by decide +kernel
theorem dX4_digest_34 : decode cX4_digest 34 = .ok (.istore_n 3, 1) := by decide +kernel
theorem dX4_digest_35 : decode cX4_digest 35 = .ok (.iconst 0, 1) := by decide +kernel
theorem dX4_digest_36 : decode cX4_digest 36 = .ok (.istore 4, 2) := by decide +kernel
theorem dX4_digest_38 : decode cX4_digest 38 = .ok (.iload 4, 2) := by decide +kernel
theorem dX4_digest_40 : decode cX4_digest 40 = .ok (.iload_n 3, 1) := by decide +kernel
theorem dX4_digest_41 : decode cX4_digest 41 = .ok (.if_icmp .ge 17, 3) := by decide +kernel
theorem dX4_digest_44 : decode cX4_digest 44 = .ok (.aload_n 0, 1) := by decide +kernel
theorem dX4_digest_45 : decode cX4_digest 45 = .ok (.lload_n 1, 1) := by decide +kernel
theorem dX4_digest_46 : decode cX4_digest 46 = .ok (.iload 4, 2) := by decide +kernel
theorem dX4_digest_48 : decode cX4_digest 48 = .ok (.invokevirtual 167, 3) := by decide +kernel
theorem dX4_digest_51 : decode cX4_digest 51 = .ok (.lstore_n 1, 1) := by decide +kernel
theorem dX4_digest_52 : decode cX4_digest 52 = .ok (.iinc 4 1, 3) := by decide +kernel
theorem dX4_digest_55 : decode cX4_digest 55 = .ok (.goto (-17), 3) := by decide +kernel
theorem dX4_digest_58 : decode cX4_digest 58 = .ok (.lload_n 1, 1) := by decide +kernel
theorem dX4_digest_59 : decode cX4_digest 59 = .ok (.lreturn, 1) := by decide +kernel
theorem dX4_isOutside_0 : decode cX4_isOutside 0 = .ok (.iload_n 0, 1) := by decide +kernel
theorem dX4_isOutside_1 : decode cX4_isOutside 1 = .ok (.iload_n 1, 1) := by decide +kernel
theorem dX4_isOutside_2 : decode cX4_isOutside 2 = .ok (.if_icmp .lt 8, 3) := by decide +kernel
theorem dX4_isOutside_5 : decode cX4_isOutside 5 = .ok (.iload_n 0, 1) := by decide +kernel
theorem dX4_isOutside_6 : decode cX4_isOutside 6 = .ok (.iload_n 2, 1) := by decide +kernel
theorem dX4_isOutside_7 : decode cX4_isOutside 7 = .ok (.if_icmp .le 7, 3) := by decide +kernel
theorem dX4_isOutside_10 : decode cX4_isOutside 10 = .ok (.iconst 1, 1) := by decide +kernel
theorem dX4_isOutside_11 : decode cX4_isOutside 11 = .ok (.goto 4, 3) := by decide +kernel
theorem dX4_isOutside_14 : decode cX4_isOutside 14 = .ok (.iconst 0, 1) := by decide +kernel
theorem dX4_isOutside_15 : decode cX4_isOutside 15 = .ok (.ireturn, 1) := by decide +kernel
set_option maxRecDepth 20000 in
theorem ggX4_needParrot_X2_size : GoodIn wsX4_needParrot wsX2_size := goodIn_r _ [8, 9, 14, 15, 16, 17, 18] (by decide +kernel) (by decide +kernel)
set_option maxRecDepth 20000 in
theorem gX4_needParrot_X2_size : GoodIn wsX4_needParrot (wsV RX4 44 RX2 yX2_size wsX2_size) := goodIn_app (goodIn_of _ (by decide +kernel)) ggX4_needParrot_X2_size
theorem dX4_needParrot_0 : decode cX4_needParrot 0 = .ok (.iload_n 1, 1) := by decide +kernel
theorem dX4_needParrot_1 : decode cX4_needParrot 1 = .ok (.ifCond .lt 14, 3) := by decide +kernel
theorem dX4_needParrot_4 : decode cX4_needParrot 4 = .ok (.iload_n 1, 1) := by decide +kernel
theorem dX4_needParrot_5 : decode cX4_needParrot 5 = .ok (.aload_n 0, 1) := by decide +kernel
theorem dX4_needParrot_6 : decode cX4_needParrot 6 = .ok (.getfield 10, 3) := by decide +kernel
theorem dX4_needParrot_9 : decode cX4_needParrot 9 = .ok (.invokevirtual 44, 3) := by decide +kernel
theorem dX4_needParrot_12 : decode cX4_needParrot 12 = .ok (.if_icmp .lt 13, 3) := by decide +kernel
theorem dX4_needParrot_15 : decode cX4_needParrot 15 = .ok (.new 106, 3) := by decide +kernel
theorem dX4_needParrot_18 : decode cX4_needParrot 18 = .ok (.dup, 1) := by decide +kernel
theorem dX4_needParrot_19 : decode cX4_needParrot 19 = .ok (.ldc 170, 2) := by decide +kernel
theorem dX4_needParrot_21 : decode cX4_needParrot 21 = .ok (.invokespecial 110, 3) := by decide +kernel
theorem dX4_needParrot_24 : decode cX4_needParrot 24 = .ok (.athrow, 1) := by decide +kernel
theorem dX4_needParrot_25 : decode cX4_needParrot 25 = .ok (.return_, 1) := by decide +kernel
set_option maxRecDepth 20000 in
theorem ggX4_needWhat_X4_isOutside : GoodIn wsX4_needWhat wsX4_isOutside := goodIn_r _ [6] (by decide +kernel) (by decide +kernel)
set_option maxRecDepth 20000 in
theorem gX4_needWhat_X4_isOutside : GoodIn wsX4_needWhat (va_wsS RX4 29 yX4_isOutside wsX4_isOutside) := goodIn_app (goodIn_of _ (by decide +kernel)) ggX4_needWhat_X4_isOutside
theorem dX4_needWhat_0 : decode cX4_needWhat 0 = .ok (.iload_n 0, 1) := by decide +kernel
theorem dX4_needWhat_1 : decode cX4_needWhat 1 = .ok (.iconst 0, 1) := by decide +kernel
theorem dX4_needWhat_2 : decode cX4_needWhat 2 = .ok (.iload_n 1, 1) := by decide +kernel
theorem dX4_needWhat_3 : decode cX4_needWhat 3 = .ok (.invokestatic 29, 3) := by decide +kernel
theorem dX4_needWhat_6 : decode cX4_needWhat 6 = .ok (.ifCond .eq 13, 3) := by decide +kernel
theorem dX4_needWhat_9 : decode cX4_needWhat 9 = .ok (.new 106, 3) := by decide +kernel
theorem dX4_needWhat_12 : decode cX4_needWhat 12 = .ok (.dup, 1) := by decide +kernel
theorem dX4_needWhat_13 : decode cX4_needWhat 13 = .ok (.ldc 172, 2) := by decide +kernel
theorem dX4_needWhat_15 : decode cX4_needWhat 15 = .ok (.invokespecial 110, 3) := by decide +kernel
theorem dX4_needWhat_18 : decode cX4_needWhat 18 = .ok (.athrow, 1) := by decide +kernel
theorem dX4_needWhat_19 : decode cX4_needWhat 19 = .ok (.return_, 1) := by decide +kernel
set_option maxRecDepth 20000 in
theorem ggX4_needLoud_X4_isOutside : GoodIn wsX4_needLoud wsX4_isOutside := goodIn_r _ [6] (by decide +kernel) (by decide +kernel)
set_option maxRecDepth 20000 in
theorem gX4_needLoud_X4_isOutside : GoodIn wsX4_needLoud (va_wsS RX4 29 yX4_isOutside wsX4_isOutside) := goodIn_app (goodIn_of _ (by decide +kernel)) ggX4_needLoud_X4_isOutside
theorem dX4_needLoud_0 : decode cX4_needLoud 0 = .ok (.iload_n 0, 1) := by decide +kernel
theorem dX4_needLoud_1 : decode cX4_needLoud 1 = .ok (.iconst 1, 1) := by decide +kernel
theorem dX4_needLoud_2 : decode cX4_needLoud 2 = .ok (.iconst 5, 1) := by decide +kernel
theorem dX4_needLoud_3 : decode cX4_needLoud 3 = .ok (.invokestatic 29, 3) := by decide +kernel
theorem dX4_needLoud_6 : decode cX4_needLoud 6 = .ok (.ifCond .eq 13, 3) := by decide +kernel
theorem dX4_needLoud_9 : decode cX4_needLoud 9 = .ok (.new 33, 3) := by decide +kernel
theorem dX4_needLoud_12 : decode cX4_needLoud 12 = .ok (.dup, 1) := by decide +kernel
theorem dX4_needLoud_13 : decode cX4_needLoud 13 = .ok (.ldc 174, 2) := by decide +kernel
theorem dX4_needLoud_15 : decode cX4_needLoud 15 = .ok (.invokespecial 37, 3) := by decide +kernel
theorem dX4_needLoud_18 : decode cX4_needLoud 18 = .ok (.athrow, 1) := by decide +kernel
theorem dX4_needLoud_19 : decode cX4_needLoud 19 = .ok (.return_, 1) := by decide +kernel
set_option maxRecDepth 20000 in
theorem ggX4_needWord_X4_isOutside : GoodIn wsX4_needWord wsX4_isOutside := goodIn_r _ [6] (by decide +kernel) (by decide +kernel)
set_option maxRecDepth 20000 in
theorem gX4_needWord_X4_isOutside : GoodIn wsX4_needWord (va_wsS RX4 29 yX4_isOutside wsX4_isOutside) := goodIn_app (goodIn_of _ (by decide +kernel)) ggX4_needWord_X4_isOutside
theorem dX4_needWord_0 : decode cX4_needWord 0 = .ok (.iload_n 0, 1) := by decide +kernel
theorem dX4_needWord_1 : decode cX4_needWord 1 = .ok (.iconst 0, 1) := by decide +kernel
theorem dX4_needWord_2 : decode cX4_needWord 2 = .ok (.sipush 9999, 3) := by decide +kernel
theorem dX4_needWord_5 : decode cX4_needWord 5 = .ok (.invokestatic 29, 3) := by decide +kernel
theorem dX4_needWord_8 : decode cX4_needWord 8 = .ok (.ifCond .eq 13, 3) := by decide +kernel
theorem dX4_needWord_11 : decode cX4_needWord 11 = .ok (.new 33, 3) := by decide +kernel
theorem dX4_needWord_14 : decode cX4_needWord 14 = .ok (.dup, 1) := by decide +kernel
theorem dX4_needWord_15 : decode cX4_needWord 15 = .ok (.ldc 176, 2) := by decide +kernel
theorem dX4_needWord_17 : decode cX4_needWord 17 = .ok (.invokespecial 37, 3) := by decide +kernel
theorem dX4_needWord_20 : decode cX4_needWord 20 = .ok (.athrow, 1) := by decide +kernel
theorem dX4_needWord_21 : decode cX4_needWord 21 = .ok (.return_, 1) := by decide +kernel
set_option maxRecDepth 20000 in
theorem ggX4_needRounds_X4_isOutside : GoodIn wsX4_needRounds wsX4_isOutside := goodIn_r _ [6] (by decide +kernel) (by decide +kernel)
set_option maxRecDepth 20000 in
theorem gX4_needRounds_X4_isOutside : GoodIn wsX4_needRounds (va_wsS RX4 29 yX4_isOutside wsX4_isOutside) := goodIn_app (goodIn_of _ (by decide +kernel)) ggX4_needRounds_X4_isOutside
theorem dX4_needRounds_0 : decode cX4_needRounds 0 = .ok (.iload_n 0, 1) := by decide +kernel
theorem dX4_needRounds_1 : decode cX4_needRounds 1 = .ok (.iconst 1, 1) := by decide +kernel
theorem dX4_needRounds_2 : decode cX4_needRounds 2 = .ok (.iload_n 1, 1) := by decide +kernel
theorem dX4_needRounds_3 : decode cX4_needRounds 3 = .ok (.invokestatic 29, 3) := by decide +kernel
theorem dX4_needRounds_6 : decode cX4_needRounds 6 = .ok (.ifCond .eq 13, 3) := by decide +kernel
theorem dX4_needRounds_9 : decode cX4_needRounds 9 = .ok (.new 33, 3) := by decide +kernel
theorem dX4_needRounds_12 : decode cX4_needRounds 12 = .ok (.dup, 1) := by decide +kernel
theorem dX4_needRounds_13 : decode cX4_needRounds 13 = .ok (.ldc 178, 2) := by decide +kernel
theorem dX4_needRounds_15 : decode cX4_needRounds 15 = .ok (.invokespecial 37, 3) := by decide +kernel
theorem dX4_needRounds_18 : decode cX4_needRounds 18 = .ok (.athrow, 1) := by decide +kernel
theorem dX4_needRounds_19 : decode cX4_needRounds 19 = .ok (.return_, 1) := by decide +kernel
set_option maxRecDepth 20000 in
theorem ggX4_tellOfParrot_X3_word : GoodIn wsX4_tellOfParrot wsX3_word := goodIn_r _ [7, 8, 9, 10, 11, 12, 13, 14, 15, 16, 17, 18, 19, 20, 21, 67, 68, 69, 70, 71, 72, 73, 74, 75] (by decide +kernel) (by decide +kernel)
set_option maxRecDepth 20000 in
theorem gX4_tellOfParrot_X3_word : GoodIn wsX4_tellOfParrot (wsV RX4 93 RX3 yX3_word wsX3_word) := goodIn_app (goodIn_of _ (by decide +kernel)) ggX4_tellOfParrot_X3_word
set_option maxRecDepth 20000 in
theorem ggX4_tellOfParrot_X3_sure : GoodIn wsX4_tellOfParrot wsX3_sure := goodIn_r _ [25, 26, 27, 17, 18, 19, 20, 21, 67, 68, 69, 70, 71, 75] (by decide +kernel) (by decide +kernel)
set_option maxRecDepth 20000 in
theorem gX4_tellOfParrot_X3_sure : GoodIn wsX4_tellOfParrot (wsV RX4 180 RX3 yX3_sure wsX3_sure) := goodIn_app (goodIn_of _ (by decide +kernel)) ggX4_tellOfParrot_X3_sure
set_option maxRecDepth 20000 in
theorem ggX4_tellOfParrot_X2_memory : GoodIn wsX4_tellOfParrot wsX2_memory := goodIn_r _ [32, 33, 34, 17, 18, 19, 20, 21, 76, 77, 78, 79, 80, 75] (by decide +kernel) (by decide +kernel)
set_option maxRecDepth 20000 in
theorem gX4_tellOfParrot_X2_memory : GoodIn wsX4_tellOfParrot (wsV RX4 183 RX2 yX2_memory wsX2_memory) := goodIn_app (goodIn_of _ (by decide +kernel)) ggX4_tellOfParrot_X2_memory
set_option maxRecDepth 20000 in
theorem ggX4_tellOfParrot_X2_loud : GoodIn wsX4_tellOfParrot wsX2_loud := goodIn_r _ [38, 39, 34, 17, 18, 19, 20, 21, 76, 77, 78, 79, 80, 75] (by decide +kernel) (by decide +kernel)
set_option maxRecDepth 20000 in
theorem gX4_tellOfParrot_X2_loud : GoodIn wsX4_tellOfParrot (wsV RX4 82 RX2 yX2_loud wsX2_loud) := goodIn_app (goodIn_of _ (by decide +kernel)) ggX4_tellOfParrot_X2_loud
set_option maxRecDepth 20000 in
theorem ggX4_tellOfParrot_X2_listening : GoodIn wsX4_tellOfParrot wsX2_listening := goodIn_r _ [43, 44, 34, 17, 18, 19, 20, 21, 76, 77, 78, 79, 80, 75] (by decide +kernel) (by decide +kernel)
set_option maxRecDepth 20000 in
theorem gX4_tellOfParrot_X2_listening : GoodIn wsX4_tellOfParrot (wsV RX4 73 RX2 yX2_listening wsX2_listening) := goodIn_app (goodIn_of _ (by decide +kernel)) ggX4_tellOfParrot_X2_listening
set_option maxRecDepth 20000 in
theorem ggX4_tellOfParrot_X2_listeners : GoodIn wsX4_tellOfParrot wsX2_listeners := goodIn_r _ [48, 49, 50, 51, 52, 31, 53, 44, 34, 17, 18, 19, 20, 21, 54, 55, 56, 57, 58, 76, 77, 78, 79, 80, 75] (by decide +kernel) (by decide +kernel)
set_option maxRecDepth 20000 in
theorem gX4_tellOfParrot_X2_listeners : GoodIn wsX4_tellOfParrot (wsV RX4 186 RX2 yX2_listeners wsX2_listeners) := goodIn_app (goodIn_of _ (by decide +kernel)) ggX4_tellOfParrot_X2_listeners
set_option maxRecDepth 20000 in
theorem ggX4_tellOfParrot_X2_heard : GoodIn wsX4_tellOfParrot wsX2_heard := goodIn_r _ [62, 44, 39, 34, 17, 18, 19, 20, 21, 54, 55, 56, 31, 57, 58, 76, 77, 78, 79, 80, 75] (by decide +kernel) (by decide +kernel)
set_option maxRecDepth 20000 in
theorem gX4_tellOfParrot_X2_heard : GoodIn wsX4_tellOfParrot (wsV RX4 189 RX2 yX2_heard wsX2_heard) := goodIn_app (goodIn_of _ (by decide +kernel)) ggX4_tellOfParrot_X2_heard
theorem dX4_tellOfParrot_0 : decode cX4_tellOfParrot 0 = .ok (.iload_n 2, 1) := by decide +kernel
theorem dX4_tellOfParrot_1 : decode cX4_tellOfParrot 1 = .ok (.tableswitch 93 0 5 #[39, 48, 57, 66, 75, 84], 39) := by decide +kernel
theorem dX4_tellOfParrot_40 : decode cX4_tellOfParrot 40 = .ok (.aload_n 0, 1) := by decide +kernel
theorem dX4_tellOfParrot_41 : decode cX4_tellOfParrot 41 = .ok (.getfield 19, 3) := by decide +kernel
theorem dX4_tellOfParrot_44 : decode cX4_tellOfParrot 44 = .ok (.iload_n 1, 1) := by decide +kernel
theorem dX4_tellOfParrot_45 : decode cX4_tellOfParrot 45 = .ok (.invokevirtual 93, 3) := by decide +kernel
theorem dX4_tellOfParrot_48 : decode cX4_tellOfParrot 48 = .ok (.ireturn, 1) := by decide +kernel
theorem dX4_tellOfParrot_49 : decode cX4_tellOfParrot 49 = .ok (.aload_n 0, 1) := by decide +kernel
theorem dX4_tellOfParrot_50 : decode cX4_tellOfParrot 50 = .ok (.getfield 19, 3) := by decide +kernel
theorem dX4_tellOfParrot_53 : decode cX4_tellOfParrot 53 = .ok (.iload_n 1, 1) := by decide +kernel
theorem dX4_tellOfParrot_54 : decode cX4_tellOfParrot 54 = .ok (.invokevirtual 180, 3) := by decide +kernel
theorem dX4_tellOfParrot_57 : decode cX4_tellOfParrot 57 = .ok (.ireturn, 1) := by decide +kernel
theorem dX4_tellOfParrot_58 : decode cX4_tellOfParrot 58 = .ok (.aload_n 0, 1) := by decide +kernel
theorem dX4_tellOfParrot_59 : decode cX4_tellOfParrot 59 = .ok (.getfield 10, 3) := by decide +kernel
theorem dX4_tellOfParrot_62 : decode cX4_tellOfParrot 62 = .ok (.iload_n 1, 1) := by decide +kernel
theorem dX4_tellOfParrot_63 : decode cX4_tellOfParrot 63 = .ok (.invokevirtual 183, 3) := by decide +kernel
theorem dX4_tellOfParrot_66 : decode cX4_tellOfParrot 66 = .ok (.ireturn, 1) := by decide +kernel
theorem dX4_tellOfParrot_67 : decode cX4_tellOfParrot 67 = .ok (.aload_n 0, 1) := by decide +kernel
theorem dX4_tellOfParrot_68 : decode cX4_tellOfParrot 68 = .ok (.getfield 10, 3) := by decide +kernel
theorem dX4_tellOfParrot_71 : decode cX4_tellOfParrot 71 = .ok (.iload_n 1, 1) := by decide +kernel
theorem dX4_tellOfParrot_72 : decode cX4_tellOfParrot 72 = .ok (.invokevirtual 82, 3) := by decide +kernel
theorem dX4_tellOfParrot_75 : decode cX4_tellOfParrot 75 = .ok (.ireturn, 1) := by decide +kernel
theorem dX4_tellOfParrot_76 : decode cX4_tellOfParrot 76 = .ok (.aload_n 0, 1) := by decide +kernel
theorem dX4_tellOfParrot_77 : decode cX4_tellOfParrot 77 = .ok (.getfield 10, 3) := by decide +kernel
theorem dX4_tellOfParrot_80 : decode cX4_tellOfParrot 80 = .ok (.iload_n 1, 1) := by decide +kernel
theorem dX4_tellOfParrot_81 : decode cX4_tellOfParrot 81 = .ok (.invokevirtual 73, 3) := by decide +kernel
theorem dX4_tellOfParrot_84 : decode cX4_tellOfParrot 84 = .ok (.ireturn, 1) := by decide +kernel
theorem dX4_tellOfParrot_85 : decode cX4_tellOfParrot 85 = .ok (.aload_n 0, 1) := by decide +kernel
theorem dX4_tellOfParrot_86 : decode cX4_tellOfParrot 86 = .ok (.getfield 10, 3) := by decide +kernel
theorem dX4_tellOfParrot_89 : decode cX4_tellOfParrot 89 = .ok (.iload_n 1, 1) := by decide +kernel
theorem dX4_tellOfParrot_90 : decode cX4_tellOfParrot 90 = .ok (.invokevirtual 186, 3) := by decide +kernel
theorem dX4_tellOfParrot_93 : decode cX4_tellOfParrot 93 = .ok (.ireturn, 1) := by decide +kernel
theorem dX4_tellOfParrot_94 : decode cX4_tellOfParrot 94 = .ok (.aload_n 0, 1) := by decide +kernel
theorem dX4_tellOfParrot_95 : decode cX4_tellOfParrot 95 = .ok (.getfield 10, 3) := by decide +kernel
theorem dX4_tellOfParrot_98 : decode cX4_tellOfParrot 98 = .ok (.iload_n 1, 1) := by decide +kernel
theorem dX4_tellOfParrot_99 : decode cX4_tellOfParrot 99 = .ok (.invokevirtual 189, 3) := by decide +kernel
theorem dX4_tellOfParrot_102 : decode cX4_tellOfParrot 102 = .ok (.ireturn, 1) := by decide +kernel
set_option maxRecDepth 20000 in
theorem ggX4_tellOfHalf_X3_halves : GoodIn wsX4_tellOfHalf wsX3_halves := goodIn_r _ [6, 7, 8, 35, 36, 37, 38, 39] (by decide +kernel) (by decide +kernel)
set_option maxRecDepth 20000 in
theorem gX4_tellOfHalf_X3_halves : GoodIn wsX4_tellOfHalf (wsV RX4 118 RX3 yX3_halves wsX3_halves) := goodIn_app (goodIn_of _ (by decide +kernel)) ggX4_tellOfHalf_X3_halves
set_option maxRecDepth 20000 in
theorem ggX4_tellOfHalf_X0_value : GoodIn wsX4_tellOfHalf wsX0_value := goodIn_r _ [13, 14, 15, 16, 17, 18, 19, 20, 40, 41, 42, 43] (by decide +kernel) (by decide +kernel)
set_option maxRecDepth 20000 in
theorem gX4_tellOfHalf_X0_value : GoodIn wsX4_tellOfHalf (wsV RX4 122 RX0 yX0_value wsX0_value) := goodIn_app (goodIn_of _ (by decide +kernel)) ggX4_tellOfHalf_X0_value
set_option maxRecDepth 20000 in
theorem ggX4_tellOfHalf_X0_from : GoodIn wsX4_tellOfHalf wsX0_from := goodIn_r _ [24, 25, 15, 16, 17, 18, 19, 20, 40, 41, 42, 43] (by decide +kernel) (by decide +kernel)
set_option maxRecDepth 20000 in
theorem gX4_tellOfHalf_X0_from : GoodIn wsX4_tellOfHalf (wsV RX4 192 RX0 yX0_from wsX0_from) := goodIn_app (goodIn_of _ (by decide +kernel)) ggX4_tellOfHalf_X0_from
set_option maxRecDepth 20000 in
theorem ggX4_tellOfHalf_X0_over : GoodIn wsX4_tellOfHalf wsX0_over := goodIn_r _ [29, 30, 15, 16, 17, 18, 19, 20, 40, 41, 42, 43] (by decide +kernel) (by decide +kernel)
set_option maxRecDepth 20000 in
theorem gX4_tellOfHalf_X0_over : GoodIn wsX4_tellOfHalf (wsV RX4 195 RX0 yX0_over wsX0_over) := goodIn_app (goodIn_of _ (by decide +kernel)) ggX4_tellOfHalf_X0_over
theorem dX4_tellOfHalf_0 : decode cX4_tellOfHalf 0 = .ok (.aload_n 0, 1) := by decide +kernel
theorem dX4_tellOfHalf_1 : decode cX4_tellOfHalf 1 = .ok (.getfield 19, 3) := by decide +kernel
theorem dX4_tellOfHalf_4 : decode cX4_tellOfHalf 4 = .ok (.iload_n 2, 1) := by decide +kernel
theorem dX4_tellOfHalf_5 : decode cX4_tellOfHalf 5 = .ok (.invokevirtual 118, 3) := by decide +kernel
theorem dX4_tellOfHalf_8 : decode cX4_tellOfHalf 8 = .ok (.astore 4, 2) := by decide +kernel
theorem dX4_tellOfHalf_10 : decode cX4_tellOfHalf 10 = .ok (.iload_n 3, 1) := by decide +kernel
theorem dX4_tellOfHalf_11 : decode cX4_tellOfHalf 11 = .ok (.lookupswitch 39 #[(0, 25), (1, 32)], 25) := by decide +kernel
theorem dX4_tellOfHalf_36 : decode cX4_tellOfHalf 36 = .ok (.aload 4, 2) := by decide +kernel
theorem dX4_tellOfHalf_38 : decode cX4_tellOfHalf 38 = .ok (.iload_n 1, 1) := by decide +kernel
theorem dX4_tellOfHalf_39 : decode cX4_tellOfHalf 39 = .ok (.invokevirtual 122, 3) := by decide +kernel
theorem dX4_tellOfHalf_42 : decode cX4_tellOfHalf 42 = .ok (.ireturn, 1) := by decide +kernel
theorem dX4_tellOfHalf_43 : decode cX4_tellOfHalf 43 = .ok (.aload 4, 2) := by decide +kernel
theorem dX4_tellOfHalf_45 : decode cX4_tellOfHalf 45 = .ok (.iload_n 1, 1) := by decide +kernel
theorem dX4_tellOfHalf_46 : decode cX4_tellOfHalf 46 = .ok (.invokevirtual 192, 3) := by decide +kernel
theorem dX4_tellOfHalf_49 : decode cX4_tellOfHalf 49 = .ok (.ireturn, 1) := by decide +kernel
theorem dX4_tellOfHalf_50 : decode cX4_tellOfHalf 50 = .ok (.aload 4, 2) := by decide +kernel
theorem dX4_tellOfHalf_52 : decode cX4_tellOfHalf 52 = .ok (.iload_n 1, 1) := by decide +kernel
theorem dX4_tellOfHalf_53 : decode cX4_tellOfHalf 53 = .ok (.invokevirtual 195, 3) := by decide +kernel
theorem dX4_tellOfHalf_56 : decode cX4_tellOfHalf 56 = .ok (.ireturn, 1) := by decide +kernel
set_option maxRecDepth 20000 in
theorem ggX4_tellOfJury_X3_round : GoodIn wsX4_tellOfJury wsX3_round := goodIn_r _ [7, 8, 74, 75, 76, 77, 78] (by decide +kernel) (by decide +kernel)
set_option maxRecDepth 20000 in
theorem gX4_tellOfJury_X3_round : GoodIn wsX4_tellOfJury (wsV RX4 198 RX3 yX3_round wsX3_round) := goodIn_app (goodIn_of _ (by decide +kernel)) ggX4_tellOfJury_X3_round
set_option maxRecDepth 20000 in
theorem ggX4_tellOfJury_X2_size : GoodIn wsX4_tellOfJury wsX2_size := goodIn_r _ [13, 14, 79, 80, 81, 82, 83] (by decide +kernel) (by decide +kernel)
set_option maxRecDepth 20000 in
theorem gX4_tellOfJury_X2_size : GoodIn wsX4_tellOfJury (wsV RX4 44 RX2 yX2_size wsX2_size) := goodIn_app (goodIn_of _ (by decide +kernel)) ggX4_tellOfJury_X2_size
set_option maxRecDepth 20000 in
theorem ggX4_tellOfJury_X4_differentWords : GoodIn wsX4_tellOfJury wsX4_differentWords := goodIn_r _ [19, 2, 9, 10, 11, 12, 13, 14, 20, 21, 22, 18, 23, 1, 24, 25, 26, 6, 27, 28, 29, 30, 31, 32, 33, 34, 35, 36, 37, 38, 39, 40, 41, 70, 71, 72, 73, 79, 80, 81, 82, 83, 74, 75, 76, 77, 78, 84, 85, 86, 87] (by decide +kernel) (by decide +kernel)
set_option maxRecDepth 20000 in
theorem gX4_tellOfJury_X4_differentWords : GoodIn wsX4_tellOfJury (wsV RX4 201 RX4 yX4_differentWords wsX4_differentWords) := goodIn_app (goodIn_of _ (by decide +kernel)) ggX4_tellOfJury_X4_differentWords
set_option maxRecDepth 20000 in
theorem ggX4_tellOfJury_X4_halvesFromCourt : GoodIn wsX4_tellOfJury wsX4_halvesFromCourt := goodIn_r _ [45, 2, 1, 9, 10, 11, 12, 13, 14, 46, 47, 48, 6, 49, 29, 28, 50, 51, 52, 33, 53, 54, 36, 37, 38, 39, 40, 41, 70, 71, 72, 73, 79, 80, 81, 82, 83, 74, 75, 76, 77, 78, 84, 85, 86, 87] (by decide +kernel) (by decide +kernel)
set_option maxRecDepth 20000 in
theorem gX4_tellOfJury_X4_halvesFromCourt : GoodIn wsX4_tellOfJury (wsV RX4 204 RX4 yX4_halvesFromCourt wsX4_halvesFromCourt) := goodIn_app (goodIn_of _ (by decide +kernel)) ggX4_tellOfJury_X4_halvesFromCourt
set_option maxRecDepth 20000 in
theorem ggX4_tellOfJury_X4_sureOfAll : GoodIn wsX4_tellOfJury wsX4_sureOfAll := goodIn_r _ [58, 2, 1, 9, 10, 11, 12, 13, 14, 59, 60, 61, 6, 62, 63, 64, 37, 38, 39, 40, 41, 70, 71, 72, 73, 79, 80, 81, 82, 83, 74, 75, 76, 77, 78, 87] (by decide +kernel) (by decide +kernel)
set_option maxRecDepth 20000 in
theorem gX4_tellOfJury_X4_sureOfAll : GoodIn wsX4_tellOfJury (wsV RX4 158 RX4 yX4_sureOfAll wsX4_sureOfAll) := goodIn_app (goodIn_of _ (by decide +kernel)) ggX4_tellOfJury_X4_sureOfAll
set_option maxRecDepth 20000 in
theorem ggX4_tellOfJury_X3_taken : GoodIn wsX4_tellOfJury wsX3_taken := goodIn_r _ [68, 69, 74, 75, 76, 77, 78] (by decide +kernel) (by decide +kernel)
set_option maxRecDepth 20000 in
theorem gX4_tellOfJury_X3_taken : GoodIn wsX4_tellOfJury (wsV RX4 133 RX3 yX3_taken wsX3_taken) := goodIn_app (goodIn_of _ (by decide +kernel)) ggX4_tellOfJury_X3_taken
theorem dX4_tellOfJury_0 : decode cX4_tellOfJury 0 = .ok (.iload_n 1, 1) := by decide +kernel
theorem dX4_tellOfJury_1 : decode cX4_tellOfJury 1 = .ok (.tableswitch 66 0 4 #[35, 43, 51, 56, 61], 35) := by decide +kernel
theorem dX4_tellOfJury_36 : decode cX4_tellOfJury 36 = .ok (.aload_n 0, 1) := by decide +kernel
theorem dX4_tellOfJury_37 : decode cX4_tellOfJury 37 = .ok (.getfield 19, 3) := by decide +kernel
theorem dX4_tellOfJury_40 : decode cX4_tellOfJury 40 = .ok (.invokevirtual 198, 3) := by decide +kernel
theorem dX4_tellOfJury_43 : decode cX4_tellOfJury 43 = .ok (.ireturn, 1) := by decide +kernel
theorem dX4_tellOfJury_44 : decode cX4_tellOfJury 44 = .ok (.aload_n 0, 1) := by decide +kernel
theorem dX4_tellOfJury_45 : decode cX4_tellOfJury 45 = .ok (.getfield 10, 3) := by decide +kernel
theorem dX4_tellOfJury_48 : decode cX4_tellOfJury 48 = .ok (.invokevirtual 44, 3) := by decide +kernel
theorem dX4_tellOfJury_51 : decode cX4_tellOfJury 51 = .ok (.ireturn, 1) := by decide +kernel
theorem dX4_tellOfJury_52 : decode cX4_tellOfJury 52 = .ok (.aload_n 0, 1) := by decide +kernel
theorem dX4_tellOfJury_53 : decode cX4_tellOfJury 53 = .ok (.invokevirtual 201, 3) := by decide +kernel
theorem dX4_tellOfJury_56 : decode cX4_tellOfJury 56 = .ok (.ireturn, 1) := by decide +kernel
theorem dX4_tellOfJury_57 : decode cX4_tellOfJury 57 = .ok (.aload_n 0, 1) := by decide +kernel
theorem dX4_tellOfJury_58 : decode cX4_tellOfJury 58 = .ok (.invokevirtual 204, 3) := by decide +kernel
theorem dX4_tellOfJury_61 : decode cX4_tellOfJury 61 = .ok (.ireturn, 1) := by decide +kernel
theorem dX4_tellOfJury_62 : decode cX4_tellOfJury 62 = .ok (.aload_n 0, 1) := by decide +kernel
theorem dX4_tellOfJury_63 : decode cX4_tellOfJury 63 = .ok (.invokevirtual 158, 3) := by decide +kernel
theorem dX4_tellOfJury_66 : decode cX4_tellOfJury 66 = .ok (.ireturn, 1) := by decide +kernel
theorem dX4_tellOfJury_67 : decode cX4_tellOfJury 67 = .ok (.aload_n 0, 1) := by decide +kernel
theorem dX4_tellOfJury_68 : decode cX4_tellOfJury 68 = .ok (.getfield 19, 3) := by decide +kernel
theorem dX4_tellOfJury_71 : decode cX4_tellOfJury 71 = .ok (.invokevirtual 133, 3) := by decide +kernel
theorem dX4_tellOfJury_74 : decode cX4_tellOfJury 74 = .ok (.ireturn, 1) := by decide +kernel
set_option maxRecDepth 20000 in
theorem ggX4_differentWords_X2_size : GoodIn wsX4_differentWords wsX2_size := goodIn_r _ [6, 7, 37, 38, 39, 40, 41] (by decide +kernel) (by decide +kernel)
set_option maxRecDepth 20000 in
theorem gX4_differentWords_X2_size : GoodIn wsX4_differentWords (wsV RX4 44 RX2 yX2_size wsX2_size) := goodIn_app (goodIn_of _ (by decide +kernel)) ggX4_differentWords_X2_size
set_option maxRecDepth 20000 in
theorem ggX4_differentWords_X4_isFirstWithItsWord : GoodIn wsX4_differentWords wsX4_isFirstWithItsWord := goodIn_r _ [12, 13, 14, 15, 16, 17, 18, 19, 20, 21, 22, 23, 24, 25, 26, 27, 28, 29, 30, 31, 32, 33, 34, 35, 36, 42, 43, 44, 45, 46, 47, 48, 49, 50] (by decide +kernel) (by decide +kernel)
set_option maxRecDepth 20000 in
theorem gX4_differentWords_X4_isFirstWithItsWord : GoodIn wsX4_differentWords (wsV RX4 207 RX4 yX4_isFirstWithItsWord wsX4_isFirstWithItsWord) := goodIn_app (goodIn_of _ (by decide +kernel)) ggX4_differentWords_X4_isFirstWithItsWord
theorem dX4_differentWords_0 : decode cX4_differentWords 0 = .ok (.aload_n 0, 1) := by decide +kernel
theorem dX4_differentWords_1 : decode cX4_differentWords 1 = .ok (.getfield 10, 3) := by decide +kernel
theorem dX4_differentWords_4 : decode cX4_differentWords 4 = .ok (.invokevirtual 44, 3) := by decide +kernel
theorem dX4_differentWords_7 : decode cX4_differentWords 7 = .ok (.istore_n 1, 1) := by decide +kernel
theorem dX4_differentWords_8 : decode cX4_differentWords 8 = .ok (.iconst 0, 1) := by decide +kernel
theorem dX4_differentWords_9 : decode cX4_differentWords 9 = .ok (.istore_n 2, 1) := by decide +kernel
theorem dX4_differentWords_10 : decode cX4_differentWords 10 = .ok (.iconst 0, 1) := by decide +kernel
theorem dX4_differentWords_11 : decode cX4_differentWords 11 = .ok (.istore_n 3, 1) := by decide +kernel
theorem dX4_differentWords_12 : decode cX4_differentWords 12 = .ok (.iload_n 3, 1) := by decide +kernel
theorem dX4_differentWords_13 : decode cX4_differentWords 13 = .ok (.iload_n 1, 1) := by decide +kernel
theorem dX4_differentWords_14 : decode cX4_differentWords 14 = .ok (.if_icmp .ge 20, 3) := by decide +kernel
theorem dX4_differentWords_17 : decode cX4_differentWords 17 = .ok (.aload_n 0, 1) := by decide +kernel
theorem dX4_differentWords_18 : decode cX4_differentWords 18 = .ok (.iload_n 3, 1) := by decide +kernel
theorem dX4_differentWords_19 : decode cX4_differentWords 19 = .ok (.invokevirtual 207, 3) := by decide +kernel
theorem dX4_differentWords_22 : decode cX4_differentWords 22 = .ok (.ifCond .eq 6, 3) := by decide +kernel
theorem dX4_differentWords_25 : decode cX4_differentWords 25 = .ok (.iinc 2 1, 3) := by decide +kernel
theorem dX4_differentWords_28 : decode cX4_differentWords 28 = .ok (.iinc 3 1, 3) := by decide +kernel
theorem dX4_differentWords_31 : decode cX4_differentWords 31 = .ok (.goto (-19), 3) := by decide +kernel
theorem dX4_differentWords_34 : decode cX4_differentWords 34 = .ok (.iload_n 2, 1) := by decide +kernel
theorem dX4_differentWords_35 : decode cX4_differentWords 35 = .ok (.ireturn, 1) := by decide +kernel
set_option maxRecDepth 20000 in
theorem ggX4_isFirstWithItsWord_X3_word : GoodIn wsX4_isFirstWithItsWord wsX3_word := goodIn_r _ [6, 7, 8, 9, 10, 11, 12, 13, 14, 15, 16, 17, 18, 19, 20, 25, 26, 27, 28, 29, 30, 31, 32, 33] (by decide +kernel) (by decide +kernel)
set_option maxRecDepth 20000 in
theorem gX4_isFirstWithItsWord_X3_word : GoodIn wsX4_isFirstWithItsWord (wsV RX4 93 RX3 yX3_word wsX3_word) := goodIn_app (goodIn_of _ (by decide +kernel)) ggX4_isFirstWithItsWord_X3_word
theorem dX4_isFirstWithItsWord_0 : decode cX4_isFirstWithItsWord 0 = .ok (.aload_n 0, 1) := by decide +kernel
theorem dX4_isFirstWithItsWord_1 : decode cX4_isFirstWithItsWord 1 = .ok (.getfield 19, 3) := by decide +kernel
theorem dX4_isFirstWithItsWord_4 : decode cX4_isFirstWithItsWord 4 = .ok (.iload_n 1, 1) := by decide +kernel
theorem dX4_isFirstWithItsWord_5 : decode cX4_isFirstWithItsWord 5 = .ok (.invokevirtual 93, 3) := by decide +kernel
theorem dX4_isFirstWithItsWord_8 : decode cX4_isFirstWithItsWord 8 = .ok (.istore_n 2, 1) := by decide +kernel
theorem dX4_isFirstWithItsWord_9 : decode cX4_isFirstWithItsWord 9 = .ok (.iconst 0, 1) := by decide +kernel
theorem dX4_isFirstWithItsWord_10 : decode cX4_isFirstWithItsWord 10 = .ok (.istore_n 3, 1) := by decide +kernel
theorem dX4_isFirstWithItsWord_11 : decode cX4_isFirstWithItsWord 11 = .ok (.iload_n 3, 1) := by decide +kernel
theorem dX4_isFirstWithItsWord_12 : decode cX4_isFirstWithItsWord 12 = .ok (.iload_n 1, 1) := by decide +kernel
theorem dX4_isFirstWithItsWord_13 : decode cX4_isFirstWithItsWord 13 = .ok (.if_icmp .ge 23, 3) := by decide +kernel
theorem dX4_isFirstWithItsWord_16 : decode cX4_isFirstWithItsWord 16 = .ok (.aload_n 0, 1) := by decide +kernel
theorem dX4_isFirstWithItsWord_17 : decode cX4_isFirstWithItsWord 17 = .ok (.getfield 19, 3) := by decide +kernel
theorem dX4_isFirstWithItsWord_20 : decode cX4_isFirstWithItsWord 20 = .ok (.iload_n 3, 1) := by decide +kernel
theorem dX4_isFirstWithItsWord_21 : decode cX4_isFirstWithItsWord 21 = .ok (.invokevirtual 93, 3) := by decide +kernel
theorem dX4_isFirstWithItsWord_24 : decode cX4_isFirstWithItsWord 24 = .ok (.iload_n 2, 1) := by decide +kernel
theorem dX4_isFirstWithItsWord_25 : decode cX4_isFirstWithItsWord 25 = .ok (.if_icmp .ne 5, 3) := by decide +kernel
theorem dX4_isFirstWithItsWord_28 : decode cX4_isFirstWithItsWord 28 = .ok (.iconst 0, 1) := by decide +kernel
theorem dX4_isFirstWithItsWord_29 : decode cX4_isFirstWithItsWord 29 = .ok (.ireturn, 1) := by decide +kernel
theorem dX4_isFirstWithItsWord_30 : decode cX4_isFirstWithItsWord 30 = .ok (.iinc 3 1, 3) := by decide +kernel
theorem dX4_isFirstWithItsWord_33 : decode cX4_isFirstWithItsWord 33 = .ok (.goto (-22), 3) := by decide +kernel
theorem dX4_isFirstWithItsWord_36 : decode cX4_isFirstWithItsWord 36 = .ok (.iconst 1, 1) := by decide +kernel
theorem dX4_isFirstWithItsWord_37 : decode cX4_isFirstWithItsWord 37 = .ok (.ireturn, 1) := by decide +kernel
set_option maxRecDepth 20000 in
theorem ggX4_halvesFromCourt_X2_size : GoodIn wsX4_halvesFromCourt wsX2_size := goodIn_r _ [7, 8, 32, 33, 34, 35, 36] (by decide +kernel) (by decide +kernel)
set_option maxRecDepth 20000 in
theorem gX4_halvesFromCourt_X2_size : GoodIn wsX4_halvesFromCourt (wsV RX4 44 RX2 yX2_size wsX2_size) := goodIn_app (goodIn_of _ (by decide +kernel)) ggX4_halvesFromCourt_X2_size
set_option maxRecDepth 20000 in
theorem ggX4_halvesFromCourt_X3_halves : GoodIn wsX4_halvesFromCourt wsX3_halves := goodIn_r _ [13, 14, 15, 37, 38, 39, 40, 41] (by decide +kernel) (by decide +kernel)
set_option maxRecDepth 20000 in
theorem gX4_halvesFromCourt_X3_halves : GoodIn wsX4_halvesFromCourt (wsV RX4 118 RX3 yX3_halves wsX3_halves) := goodIn_app (goodIn_of _ (by decide +kernel)) ggX4_halvesFromCourt_X3_halves
set_option maxRecDepth 20000 in
theorem ggX4_halvesFromCourt_X0_from : GoodIn wsX4_halvesFromCourt wsX0_from := goodIn_r _ [20, 21, 22, 23, 24, 25, 26, 27, 42, 43, 44, 45] (by decide +kernel) (by decide +kernel)
set_option maxRecDepth 20000 in
theorem gX4_halvesFromCourt_X0_from : GoodIn wsX4_halvesFromCourt (wsV RX4 192 RX0 yX0_from wsX0_from) := goodIn_app (goodIn_of _ (by decide +kernel)) ggX4_halvesFromCourt_X0_from
theorem dX4_halvesFromCourt_0 : decode cX4_halvesFromCourt 0 = .ok (.aload_n 0, 1) := by decide +kernel
theorem dX4_halvesFromCourt_1 : decode cX4_halvesFromCourt 1 = .ok (.getfield 10, 3) := by decide +kernel
theorem dX4_halvesFromCourt_4 : decode cX4_halvesFromCourt 4 = .ok (.invokevirtual 44, 3) := by decide +kernel
theorem dX4_halvesFromCourt_7 : decode cX4_halvesFromCourt 7 = .ok (.istore_n 1, 1) := by decide +kernel
theorem dX4_halvesFromCourt_8 : decode cX4_halvesFromCourt 8 = .ok (.iconst 0, 1) := by decide +kernel
theorem dX4_halvesFromCourt_9 : decode cX4_halvesFromCourt 9 = .ok (.istore_n 2, 1) := by decide +kernel
theorem dX4_halvesFromCourt_10 : decode cX4_halvesFromCourt 10 = .ok (.iconst 0, 1) := by decide +kernel
theorem dX4_halvesFromCourt_11 : decode cX4_halvesFromCourt 11 = .ok (.istore_n 3, 1) := by decide +kernel
theorem dX4_halvesFromCourt_12 : decode cX4_halvesFromCourt 12 = .ok (.iload_n 3, 1) := by decide +kernel
theorem dX4_halvesFromCourt_13 : decode cX4_halvesFromCourt 13 = .ok (.iload_n 1, 1) := by decide +kernel
theorem dX4_halvesFromCourt_14 : decode cX4_halvesFromCourt 14 = .ok (.if_icmp .ge 47, 3) := by decide +kernel
theorem dX4_halvesFromCourt_17 : decode cX4_halvesFromCourt 17 = .ok (.aload_n 0, 1) := by decide +kernel
theorem dX4_halvesFromCourt_18 : decode cX4_halvesFromCourt 18 = .ok (.getfield 19, 3) := by decide +kernel
theorem dX4_halvesFromCourt_21 : decode cX4_halvesFromCourt 21 = .ok (.iconst 0, 1) := by decide +kernel
theorem dX4_halvesFromCourt_22 : decode cX4_halvesFromCourt 22 = .ok (.invokevirtual 118, 3) := by decide +kernel
theorem dX4_halvesFromCourt_25 : decode cX4_halvesFromCourt 25 = .ok (.iload_n 3, 1) := by decide +kernel
theorem dX4_halvesFromCourt_26 : decode cX4_halvesFromCourt 26 = .ok (.invokevirtual 192, 3) := by decide +kernel
theorem dX4_halvesFromCourt_29 : decode cX4_halvesFromCourt 29 = .ok (.iconst (-1), 1) := by decide +kernel
theorem dX4_halvesFromCourt_30 : decode cX4_halvesFromCourt 30 = .ok (.if_icmp .ne 6, 3) := by decide +kernel
theorem dX4_halvesFromCourt_33 : decode cX4_halvesFromCourt 33 = .ok (.iinc 2 1, 3) := by decide +kernel
theorem dX4_halvesFromCourt_36 : decode cX4_halvesFromCourt 36 = .ok (.aload_n 0, 1) := by decide +kernel
theorem dX4_halvesFromCourt_37 : decode cX4_halvesFromCourt 37 = .ok (.getfield 19, 3) := by decide +kernel
theorem dX4_halvesFromCourt_40 : decode cX4_halvesFromCourt 40 = .ok (.iconst 1, 1) := by decide +kernel
theorem dX4_halvesFromCourt_41 : decode cX4_halvesFromCourt 41 = .ok (.invokevirtual 118, 3) := by decide +kernel
theorem dX4_halvesFromCourt_44 : decode cX4_halvesFromCourt 44 = .ok (.iload_n 3, 1) := by decide +kernel
theorem dX4_halvesFromCourt_45 : decode cX4_halvesFromCourt 45 = .ok (.invokevirtual 192, 3) := by decide +kernel
theorem dX4_halvesFromCourt_48 : decode cX4_halvesFromCourt 48 = .ok (.iconst (-1), 1) := by decide +kernel
theorem dX4_halvesFromCourt_49 : decode cX4_halvesFromCourt 49 = .ok (.if_icmp .ne 6, 3) := by decide +kernel
theorem dX4_halvesFromCourt_52 : decode cX4_halvesFromCourt 52 = .ok (.iinc 2 1, 3) := by decide +kernel
theorem dX4_halvesFromCourt_55 : decode cX4_halvesFromCourt 55 = .ok (.iinc 3 1, 3) := by decide +kernel
theorem dX4_halvesFromCourt_58 : decode cX4_halvesFromCourt 58 = .ok (.goto (-46), 3) := by decide +kernel
theorem dX4_halvesFromCourt_61 : decode cX4_halvesFromCourt 61 = .ok (.iload_n 2, 1) := by decide +kernel
theorem dX4_halvesFromCourt_62 : decode cX4_halvesFromCourt 62 = .ok (.ireturn, 1) := by decide +kernel
set_option maxRecDepth 20000 in
theorem ggX4_sureOfAll_X2_size : GoodIn wsX4_sureOfAll wsX2_size := goodIn_r _ [7, 8, 25, 26, 27, 28, 29] (by decide +kernel) (by decide +kernel)
set_option maxRecDepth 20000 in
theorem gX4_sureOfAll_X2_size : GoodIn wsX4_sureOfAll (wsV RX4 44 RX2 yX2_size wsX2_size) := goodIn_app (goodIn_of _ (by decide +kernel)) ggX4_sureOfAll_X2_size
set_option maxRecDepth 20000 in
theorem ggX4_sureOfAll_X3_sure : GoodIn wsX4_sureOfAll wsX3_sure := goodIn_r _ [13, 14, 15, 16, 17, 18, 19, 20, 30, 31, 32, 33, 34, 35] (by decide +kernel) (by decide +kernel)
set_option maxRecDepth 20000 in
theorem gX4_sureOfAll_X3_sure : GoodIn wsX4_sureOfAll (wsV RX4 180 RX3 yX3_sure wsX3_sure) := goodIn_app (goodIn_of _ (by decide +kernel)) ggX4_sureOfAll_X3_sure
theorem dX4_sureOfAll_0 : decode cX4_sureOfAll 0 = .ok (.aload_n 0, 1) := by decide +kernel
theorem dX4_sureOfAll_1 : decode cX4_sureOfAll 1 = .ok (.getfield 10, 3) := by decide +kernel
theorem dX4_sureOfAll_4 : decode cX4_sureOfAll 4 = .ok (.invokevirtual 44, 3) := by decide +kernel
theorem dX4_sureOfAll_7 : decode cX4_sureOfAll 7 = .ok (.istore_n 1, 1) := by decide +kernel
theorem dX4_sureOfAll_8 : decode cX4_sureOfAll 8 = .ok (.iconst 0, 1) := by decide +kernel
theorem dX4_sureOfAll_9 : decode cX4_sureOfAll 9 = .ok (.istore_n 2, 1) := by decide +kernel
theorem dX4_sureOfAll_10 : decode cX4_sureOfAll 10 = .ok (.iconst 0, 1) := by decide +kernel
theorem dX4_sureOfAll_11 : decode cX4_sureOfAll 11 = .ok (.istore_n 3, 1) := by decide +kernel
theorem dX4_sureOfAll_12 : decode cX4_sureOfAll 12 = .ok (.iload_n 3, 1) := by decide +kernel
theorem dX4_sureOfAll_13 : decode cX4_sureOfAll 13 = .ok (.iload_n 1, 1) := by decide +kernel
theorem dX4_sureOfAll_14 : decode cX4_sureOfAll 14 = .ok (.if_icmp .ge 20, 3) := by decide +kernel
theorem dX4_sureOfAll_17 : decode cX4_sureOfAll 17 = .ok (.iload_n 2, 1) := by decide +kernel
theorem dX4_sureOfAll_18 : decode cX4_sureOfAll 18 = .ok (.aload_n 0, 1) := by decide +kernel
theorem dX4_sureOfAll_19 : decode cX4_sureOfAll 19 = .ok (.getfield 19, 3) := by decide +kernel
theorem dX4_sureOfAll_22 : decode cX4_sureOfAll 22 = .ok (.iload_n 3, 1) := by decide +kernel
theorem dX4_sureOfAll_23 : decode cX4_sureOfAll 23 = .ok (.invokevirtual 180, 3) := by decide +kernel
theorem dX4_sureOfAll_26 : decode cX4_sureOfAll 26 = .ok (.iadd, 1) := by decide +kernel
theorem dX4_sureOfAll_27 : decode cX4_sureOfAll 27 = .ok (.istore_n 2, 1) := by decide +kernel
theorem dX4_sureOfAll_28 : decode cX4_sureOfAll 28 = .ok (.iinc 3 1, 3) := by decide +kernel
theorem dX4_sureOfAll_31 : decode cX4_sureOfAll 31 = .ok (.goto (-19), 3) := by decide +kernel
theorem dX4_sureOfAll_34 : decode cX4_sureOfAll 34 = .ok (.iload_n 2, 1) := by decide +kernel
theorem dX4_sureOfAll_35 : decode cX4_sureOfAll 35 = .ok (.ireturn, 1) := by decide +kernel
set_option maxRecDepth 20000 in
theorem ggX4_votesIn_X2_size : GoodIn wsX4_votesIn wsX2_size := goodIn_r _ [6, 7, 31, 32, 33, 34, 35] (by decide +kernel) (by decide +kernel)
set_option maxRecDepth 20000 in
theorem gX4_votesIn_X2_size : GoodIn wsX4_votesIn (wsV RX4 44 RX2 yX2_size wsX2_size) := goodIn_app (goodIn_of _ (by decide +kernel)) ggX4_votesIn_X2_size
set_option maxRecDepth 20000 in
theorem ggX4_votesIn_X3_word : GoodIn wsX4_votesIn wsX3_word := goodIn_r _ [12, 13, 14, 15, 16, 17, 18, 19, 20, 21, 22, 23, 24, 25, 26, 36, 37, 38, 39, 40, 41, 42, 43, 44] (by decide +kernel) (by decide +kernel)
set_option maxRecDepth 20000 in
theorem gX4_votesIn_X3_word : GoodIn wsX4_votesIn (wsV RX4 93 RX3 yX3_word wsX3_word) := goodIn_app (goodIn_of _ (by decide +kernel)) ggX4_votesIn_X3_word
theorem dX4_votesIn_0 : decode cX4_votesIn 0 = .ok (.aload_n 0, 1) := by decide +kernel
theorem dX4_votesIn_1 : decode cX4_votesIn 1 = .ok (.getfield 10, 3) := by decide +kernel
theorem dX4_votesIn_4 : decode cX4_votesIn 4 = .ok (.invokevirtual 44, 3) := by decide +kernel
theorem dX4_votesIn_7 : decode cX4_votesIn 7 = .ok (.istore_n 3, 1) := by decide +kernel
theorem dX4_votesIn_8 : decode cX4_votesIn 8 = .ok (.iconst 0, 1) := by decide +kernel
theorem dX4_votesIn_9 : decode cX4_votesIn 9 = .ok (.istore 4, 2) := by decide +kernel
theorem dX4_votesIn_11 : decode cX4_votesIn 11 = .ok (.iconst 0, 1) := by decide +kernel
theorem dX4_votesIn_12 : decode cX4_votesIn 12 = .ok (.istore 5, 2) := by decide +kernel
theorem dX4_votesIn_14 : decode cX4_votesIn 14 = .ok (.iload 5, 2) := by decide +kernel
theorem dX4_votesIn_16 : decode cX4_votesIn 16 = .ok (.iload_n 3, 1) := by decide +kernel
theorem dX4_votesIn_17 : decode cX4_votesIn 17 = .ok (.if_icmp .ge 22, 3) := by decide +kernel
theorem dX4_votesIn_20 : decode cX4_votesIn 20 = .ok (.aload_n 1, 1) := by decide +kernel
theorem dX4_votesIn_21 : decode cX4_votesIn 21 = .ok (.iload 5, 2) := by decide +kernel
theorem dX4_votesIn_23 : decode cX4_votesIn 23 = .ok (.invokevirtual 93, 3) := by decide +kernel
theorem dX4_votesIn_26 : decode cX4_votesIn 26 = .ok (.iload_n 2, 1) := by decide +kernel
theorem dX4_votesIn_27 : decode cX4_votesIn 27 = .ok (.if_icmp .ne 6, 3) := by decide +kernel
theorem dX4_votesIn_30 : decode cX4_votesIn 30 = .ok (.iinc 4 1, 3) := by decide +kernel
theorem dX4_votesIn_33 : decode cX4_votesIn 33 = .ok (.iinc 5 1, 3) := by decide +kernel
theorem dX4_votesIn_36 : decode cX4_votesIn 36 = .ok (.goto (-22), 3) := by decide +kernel
theorem dX4_votesIn_39 : decode cX4_votesIn 39 = .ok (.iload 4, 2) := by decide +kernel
theorem dX4_votesIn_41 : decode cX4_votesIn 41 = .ok (.ireturn, 1) := by decide +kernel
set_option maxRecDepth 20000 in
theorem ggX4_sayTheSame_X2_size : GoodIn wsX4_sayTheSame wsX2_size := goodIn_r _ [6, 7, 36, 37, 38, 39, 40] (by decide +kernel) (by decide +kernel)
set_option maxRecDepth 20000 in
theorem gX4_sayTheSame_X2_size : GoodIn wsX4_sayTheSame (wsV RX4 44 RX2 yX2_size wsX2_size) := goodIn_app (goodIn_of _ (by decide +kernel)) ggX4_sayTheSame_X2_size
set_option maxRecDepth 20000 in
theorem ggX4_sayTheSame_X3_word : GoodIn wsX4_sayTheSame wsX3_word := goodIn_r _ [12, 13, 14, 15, 16, 17, 18, 19, 20, 21, 22, 23, 24, 25, 26, 41, 42, 43, 44, 45, 46, 47, 48, 49] (by decide +kernel) (by decide +kernel)
set_option maxRecDepth 20000 in
theorem gX4_sayTheSame_X3_word : GoodIn wsX4_sayTheSame (wsV RX4 93 RX3 yX3_word wsX3_word) := goodIn_app (goodIn_of _ (by decide +kernel)) ggX4_sayTheSame_X3_word
set_option maxRecDepth 20000 in
theorem ggX4_sayTheSame_X4_votesIn : GoodIn wsX4_sayTheSame wsX4_votesIn := goodIn_r _ [31, 1, 2, 3, 4, 5, 6, 7, 8, 9, 10, 11, 12, 13, 14, 15, 16, 17, 18, 19, 20, 21, 22, 23, 24, 25, 26, 32, 33, 34, 35, 36, 37, 38, 39, 40, 41, 42, 43, 44, 45, 46, 47, 48, 49] (by decide +kernel) (by decide +kernel)
set_option maxRecDepth 20000 in
theorem gX4_sayTheSame_X4_votesIn : GoodIn wsX4_sayTheSame (wsV RX4 114 RX4 yX4_votesIn wsX4_votesIn) := goodIn_app (goodIn_of _ (by decide +kernel)) ggX4_sayTheSame_X4_votesIn
theorem dX4_sayTheSame_0 : decode cX4_sayTheSame 0 = .ok (.aload_n 0, 1) := by decide +kernel
theorem dX4_sayTheSame_1 : decode cX4_sayTheSame 1 = .ok (.getfield 10, 3) := by decide +kernel
theorem dX4_sayTheSame_4 : decode cX4_sayTheSame 4 = .ok (.invokevirtual 44, 3) := by decide +kernel
theorem dX4_sayTheSame_7 : decode cX4_sayTheSame 7 = .ok (.istore_n 2, 1) := by decide +kernel
theorem dX4_sayTheSame_8 : decode cX4_sayTheSame 8 = .ok (.aload_n 0, 1) := by decide +kernel
theorem dX4_sayTheSame_9 : decode cX4_sayTheSame 9 = .ok (.aload_n 1, 1) := by decide +kernel
theorem dX4_sayTheSame_10 : decode cX4_sayTheSame 10 = .ok (.aload_n 1, 1) := by decide +kernel
theorem dX4_sayTheSame_11 : decode cX4_sayTheSame 11 = .ok (.iconst 0, 1) := by decide +kernel
theorem dX4_sayTheSame_12 : decode cX4_sayTheSame 12 = .ok (.invokevirtual 93, 3) := by decide +kernel
theorem dX4_sayTheSame_15 : decode cX4_sayTheSame 15 = .ok (.invokevirtual 114, 3) := by decide +kernel
theorem dX4_sayTheSame_18 : decode cX4_sayTheSame 18 = .ok (.iload_n 2, 1) := by decide +kernel
theorem dX4_sayTheSame_19 : decode cX4_sayTheSame 19 = .ok (.if_icmp .ne 7, 3) := by decide +kernel
theorem dX4_sayTheSame_22 : decode cX4_sayTheSame 22 = .ok (.iconst 1, 1) := by decide +kernel
theorem dX4_sayTheSame_23 : decode cX4_sayTheSame 23 = .ok (.goto 4, 3) := by decide +kernel
theorem dX4_sayTheSame_26 : decode cX4_sayTheSame 26 = .ok (.iconst 0, 1) := by decide +kernel
theorem dX4_sayTheSame_27 : decode cX4_sayTheSame 27 = .ok (.ireturn, 1) := by decide +kernel
theorem dX4_mix_0 : decode cX4_mix 0 = .ok (.lload_n 0, 1) := by decide +kernel
theorem dX4_mix_1 : decode cX4_mix 1 = .ok (.ldc2_w 211, 3) := by decide +kernel
theorem dX4_mix_4 : decode cX4_mix 4 = .ok (.lmul, 1) := by decide +kernel
theorem dX4_mix_5 : decode cX4_mix 5 = .ok (.iload_n 2, 1) := by decide +kernel
theorem dX4_mix_6 : decode cX4_mix 6 = .ok (.i2l, 1) := by decide +kernel
theorem dX4_mix_7 : decode cX4_mix 7 = .ok (.ladd, 1) := by decide +kernel
theorem dX4_mix_8 : decode cX4_mix 8 = .ok (.lreturn, 1) := by decide +kernel
set_option maxRecDepth 20000 in
theorem ggX4_mixParrot_X4_tellOfParrot : GoodIn wsX4_mixParrot wsX4_tellOfParrot := goodIn_r _ [6, 7, 1, 8, 9, 10, 11, 12, 13, 14, 15, 16, 17, 18, 19, 20, 21, 22, 23, 24, 25, 26, 27, 28, 29, 30, 31, 32, 33, 34, 35, 36, 37, 38, 39, 40, 41, 42, 43, 44, 45, 46, 47, 48, 49, 50, 51, 52, 53, 54, 55, 56, 57, 58, 59, 60, 61, 62, 63, 64, 65, 66, 67, 92, 93, 94, 95, 96, 97, 98, 99, 100, 101, 102, 103, 104, 105, 106, 107, 108, 109] (by decide +kernel) (by decide +kernel)
set_option maxRecDepth 20000 in
theorem gX4_mixParrot_X4_tellOfParrot : GoodIn wsX4_mixParrot (wsV RX4 99 RX4 yX4_tellOfParrot wsX4_tellOfParrot) := goodIn_app (goodIn_of _ (by decide +kernel)) ggX4_mixParrot_X4_tellOfParrot
set_option maxRecDepth 20000 in
theorem ggX4_mixParrot_X4_mix : GoodIn wsX4_mixParrot wsX4_mix := goodIn_r _ [70, 71] (by decide +kernel) (by decide +kernel)
set_option maxRecDepth 20000 in
theorem gX4_mixParrot_X4_mix : GoodIn wsX4_mixParrot (va_wsS RX4 163 yX4_mix wsX4_mix) := goodIn_app (goodIn_of _ (by decide +kernel)) ggX4_mixParrot_X4_mix
set_option maxRecDepth 20000 in
theorem ggX4_mixParrot_X4_tellOfHalf : GoodIn wsX4_mixParrot wsX4_tellOfHalf := goodIn_r _ [75, 7, 76, 77, 78, 11, 79, 14, 13, 80, 16, 17, 18, 19, 20, 21, 22, 23, 24, 25, 26, 81, 82, 83, 84, 85, 86, 87, 88, 89, 90, 92, 93, 94, 95, 96, 97, 98, 99, 100, 101, 102, 103, 104] (by decide +kernel) (by decide +kernel)
set_option maxRecDepth 20000 in
theorem gX4_mixParrot_X4_tellOfHalf : GoodIn wsX4_mixParrot (wsV RX4 102 RX4 yX4_tellOfHalf wsX4_tellOfHalf) := goodIn_app (goodIn_of _ (by decide +kernel)) ggX4_mixParrot_X4_tellOfHalf
set_option maxRecDepth 20000 in
theorem ggX4_mixParrot_X2_listening : GoodIn wsX4_mixParrot wsX2_listening := goodIn_r _ [48, 49, 39, 22, 23, 24, 25, 26, 105, 106, 107, 108, 109, 104] (by decide +kernel) (by decide +kernel)
set_option maxRecDepth 20000 in
theorem gX4_mixParrot_X2_listening : GoodIn wsX4_mixParrot (wsV RX4 73 RX2 yX2_listening wsX2_listening) := goodIn_app (goodIn_of _ (by decide +kernel)) ggX4_mixParrot_X2_listening
set_option maxRecDepth 20000 in
theorem ggX4_mixParrot_X2_other : GoodIn wsX4_mixParrot wsX2_other := goodIn_r _ [62, 63, 39, 22, 23, 24, 25, 26, 105, 106, 107, 108, 109, 104] (by decide +kernel) (by decide +kernel)
set_option maxRecDepth 20000 in
theorem gX4_mixParrot_X2_other : GoodIn wsX4_mixParrot (wsV RX4 111 RX2 yX2_other wsX2_other) := goodIn_app (goodIn_of _ (by decide +kernel)) ggX4_mixParrot_X2_other
theorem dX4_mixParrot_0 : decode cX4_mixParrot 0 = .ok (.lload_n 1, 1) := by decide +kernel
theorem dX4_mixParrot_1 : decode cX4_mixParrot 1 = .ok (.lstore 4, 2) := by decide +kernel
theorem dX4_mixParrot_3 : decode cX4_mixParrot 3 = .ok (.iconst 0, 1) := by decide +kernel
theorem dX4_mixParrot_4 : decode cX4_mixParrot 4 = .ok (.istore 6, 2) := by decide +kernel
theorem dX4_mixParrot_6 : decode cX4_mixParrot 6 = .ok (.iload 6, 2) := by decide +kernel
theorem dX4_mixParrot_8 : decode cX4_mixParrot 8 = .ok (.bipush 6, 2) := by decide +kernel
theorem dX4_mixParrot_10 : decode cX4_mixParrot 10 = .ok (.if_icmp .gt 23, 3) := by decide +kernel
theorem dX4_mixParrot_13 : decode cX4_mixParrot 13 = .ok (.lload 4, 2) := by decide +kernel
theorem dX4_mixParrot_15 : decode cX4_mixParrot 15 = .ok (.aload_n 0, 1) := by decide +kernel
theorem dX4_mixParrot_16 : decode cX4_mixParrot 16 = .ok (.iload_n 3, 1) := by decide +kernel
theorem dX4_mixParrot_17 : decode cX4_mixParrot 17 = .ok (.iload 6, 2) := by decide +kernel
theorem dX4_mixParrot_19 : decode cX4_mixParrot 19 = .ok (.invokevirtual 99, 3) := by decide +kernel
theorem dX4_mixParrot_22 : decode cX4_mixParrot 22 = .ok (.invokestatic 163, 3) := by decide +kernel
theorem dX4_mixParrot_25 : decode cX4_mixParrot 25 = .ok (.lstore 4, 2) := by decide +kernel
theorem dX4_mixParrot_27 : decode cX4_mixParrot 27 = .ok (.iinc 6 1, 3) := by decide +kernel
theorem dX4_mixParrot_30 : decode cX4_mixParrot 30 = .ok (.goto (-24), 3) := by decide +kernel
theorem dX4_mixParrot_33 : decode cX4_mixParrot 33 = .ok (.iconst 0, 1) := by decide +kernel
theorem dX4_mixParrot_34 : decode cX4_mixParrot 34 = .ok (.istore 6, 2) := by decide +kernel
theorem dX4_mixParrot_36 : decode cX4_mixParrot 36 = .ok (.iload 6, 2) := by decide +kernel
theorem dX4_mixParrot_38 : decode cX4_mixParrot 38 = .ok (.iconst 2, 1) := by decide +kernel
theorem dX4_mixParrot_39 : decode cX4_mixParrot 39 = .ok (.if_icmp .gt 24, 3) := by decide +kernel
theorem dX4_mixParrot_42 : decode cX4_mixParrot 42 = .ok (.lload 4, 2) := by decide +kernel
theorem dX4_mixParrot_44 : decode cX4_mixParrot 44 = .ok (.aload_n 0, 1) := by decide +kernel
theorem dX4_mixParrot_45 : decode cX4_mixParrot 45 = .ok (.iload_n 3, 1) := by decide +kernel
theorem dX4_mixParrot_46 : decode cX4_mixParrot 46 = .ok (.iconst 0, 1) := by decide +kernel
theorem dX4_mixParrot_47 : decode cX4_mixParrot 47 = .ok (.iload 6, 2) := by decide +kernel
theorem dX4_mixParrot_49 : decode cX4_mixParrot 49 = .ok (.invokevirtual 102, 3) := by decide +kernel
theorem dX4_mixParrot_52 : decode cX4_mixParrot 52 = .ok (.invokestatic 163, 3) := by decide +kernel
theorem dX4_mixParrot_55 : decode cX4_mixParrot 55 = .ok (.lstore 4, 2) := by decide +kernel
theorem dX4_mixParrot_57 : decode cX4_mixParrot 57 = .ok (.iinc 6 1, 3) := by decide +kernel
theorem dX4_mixParrot_60 : decode cX4_mixParrot 60 = .ok (.goto (-24), 3) := by decide +kernel
theorem dX4_mixParrot_63 : decode cX4_mixParrot 63 = .ok (.iconst 0, 1) := by decide +kernel
theorem dX4_mixParrot_64 : decode cX4_mixParrot 64 = .ok (.istore 6, 2) := by decide +kernel
theorem dX4_mixParrot_66 : decode cX4_mixParrot 66 = .ok (.iload 6, 2) := by decide +kernel
theorem dX4_mixParrot_68 : decode cX4_mixParrot 68 = .ok (.iconst 2, 1) := by decide +kernel
theorem dX4_mixParrot_69 : decode cX4_mixParrot 69 = .ok (.if_icmp .gt 24, 3) := by decide +kernel
theorem dX4_mixParrot_72 : decode cX4_mixParrot 72 = .ok (.lload 4, 2) := by decide +kernel
theorem dX4_mixParrot_74 : decode cX4_mixParrot 74 = .ok (.aload_n 0, 1) := by decide +kernel
theorem dX4_mixParrot_75 : decode cX4_mixParrot 75 = .ok (.iload_n 3, 1) := by decide +kernel
theorem dX4_mixParrot_76 : decode cX4_mixParrot 76 = .ok (.iconst 1, 1) := by decide +kernel
theorem dX4_mixParrot_77 : decode cX4_mixParrot 77 = .ok (.iload 6, 2) := by decide +kernel
theorem dX4_mixParrot_79 : decode cX4_mixParrot 79 = .ok (.invokevirtual 102, 3) := by decide +kernel
theorem dX4_mixParrot_82 : decode cX4_mixParrot 82 = .ok (.invokestatic 163, 3) := by decide +kernel
theorem dX4_mixParrot_85 : decode cX4_mixParrot 85 = .ok (.lstore 4, 2) := by decide +kernel
theorem dX4_mixParrot_87 : decode cX4_mixParrot 87 = .ok (.iinc 6 1, 3) := by decide +kernel
theorem dX4_mixParrot_90 : decode cX4_mixParrot 90 = .ok (.goto (-24), 3) := by decide +kernel
theorem dX4_mixParrot_93 : decode cX4_mixParrot 93 = .ok (.aload_n 0, 1) := by decide +kernel
theorem dX4_mixParrot_94 : decode cX4_mixParrot 94 = .ok (.getfield 10, 3) := by decide +kernel
theorem dX4_mixParrot_97 : decode cX4_mixParrot 97 = .ok (.iload_n 3, 1) := by decide +kernel
theorem dX4_mixParrot_98 : decode cX4_mixParrot 98 = .ok (.invokevirtual 73, 3) := by decide +kernel
theorem dX4_mixParrot_101 : decode cX4_mixParrot 101 = .ok (.istore 6, 2) := by decide +kernel
theorem dX4_mixParrot_103 : decode cX4_mixParrot 103 = .ok (.iconst 0, 1) := by decide +kernel
theorem dX4_mixParrot_104 : decode cX4_mixParrot 104 = .ok (.istore 7, 2) := by decide +kernel
theorem dX4_mixParrot_106 : decode cX4_mixParrot 106 = .ok (.iload 7, 2) := by decide +kernel
theorem dX4_mixParrot_108 : decode cX4_mixParrot 108 = .ok (.iload 6, 2) := by decide +kernel
theorem dX4_mixParrot_110 : decode cX4_mixParrot 110 = .ok (.if_icmp .ge 26, 3) := by decide +kernel
theorem dX4_mixParrot_113 : decode cX4_mixParrot 113 = .ok (.lload 4, 2) := by decide +kernel
theorem dX4_mixParrot_115 : decode cX4_mixParrot 115 = .ok (.aload_n 0, 1) := by decide +kernel
theorem dX4_mixParrot_116 : decode cX4_mixParrot 116 = .ok (.getfield 10, 3) := by decide +kernel
theorem dX4_mixParrot_119 : decode cX4_mixParrot 119 = .ok (.iload_n 3, 1) := by decide +kernel
theorem dX4_mixParrot_120 : decode cX4_mixParrot 120 = .ok (.iload 7, 2) := by decide +kernel
theorem dX4_mixParrot_122 : decode cX4_mixParrot 122 = .ok (.invokevirtual 111, 3) := by decide +kernel
theorem dX4_mixParrot_125 : decode cX4_mixParrot 125 = .ok (.invokestatic 163, 3) := by decide +kernel
theorem dX4_mixParrot_128 : decode cX4_mixParrot 128 = .ok (.lstore 4, 2) := by decide +kernel
theorem dX4_mixParrot_130 : decode cX4_mixParrot 130 = .ok (.iinc 7 1, 3) := by decide +kernel
theorem dX4_mixParrot_133 : decode cX4_mixParrot 133 = .ok (.goto (-27), 3) := by decide +kernel
theorem dX4_mixParrot_136 : decode cX4_mixParrot 136 = .ok (.lload 4, 2) := by decide +kernel
theorem dX4_mixParrot_138 : decode cX4_mixParrot 138 = .ok (.lreturn, 1) := by decide +kernel
set_option maxRecDepth 20000 in
theorem ggX4_votesIfWhispered_X3_copyFrom : GoodIn wsX4_votesIfWhispered wsX3_copyFrom := goodIn_r _ [9, 10, 11, 12, 13, 14, 15, 16, 17, 18, 19, 20, 21, 22, 23, 24, 25, 26, 27, 28, 29, 30, 31, 32, 33, 34, 35, 36, 37, 132, 133, 134, 135, 136, 137, 138, 139, 140] (by decide +kernel) (by decide +kernel)
set_option maxRecDepth 20000 in
theorem gX4_votesIfWhispered_X3_copyFrom : GoodIn wsX4_votesIfWhispered (wsV RX4 140 RX3 yX3_copyFrom wsX3_copyFrom) := goodIn_app (goodIn_of _ (by decide +kernel)) ggX4_votesIfWhispered_X3_copyFrom
set_option maxRecDepth 20000 in
theorem ggX4_votesIfWhispered_X3_takeFromCourt : GoodIn wsX4_votesIfWhispered wsX3_takeFromCourt := goodIn_r _ [41, 13, 14, 12, 42, 43, 44, 32, 45, 34, 35, 36, 46, 47, 48, 18, 49, 20, 50, 132, 133, 134, 135, 136, 138, 139, 140, 137] (by decide +kernel) (by decide +kernel)
set_option maxRecDepth 20000 in
theorem gX4_votesIfWhispered_X3_takeFromCourt : GoodIn wsX4_votesIfWhispered (wsV RX4 57 RX3 yX3_takeFromCourt wsX3_takeFromCourt) := goodIn_app (goodIn_of _ (by decide +kernel)) ggX4_votesIfWhispered_X3_takeFromCourt
set_option maxRecDepth 20000 in
theorem ggX4_votesIfWhispered_X3_goRounds : GoodIn wsX4_votesIfWhispered wsX3_goRounds := goodIn_r _ [54, 10, 55, 6, 7, 8, 9, 11, 12, 13, 14, 15, 16, 17, 18, 19, 20, 21, 22, 23, 24, 25, 26, 27, 28, 29, 30, 31, 32, 33, 34, 35, 36, 37, 56, 57, 58, 59, 60, 61, 62, 63, 64, 65, 66, 67, 68, 69, 70, 71, 72, 73, 74, 75, 76, 77, 78, 79, 80, 81, 82, 83, 84, 85, 86, 87, 88, 89, 90, 91, 92, 93, 94, 95, 96, 97, 98, 99, 50, 47, 48, 49, 100, 101, 102, 103, 104, 105, 106, 107, 108, 46, 109, 110, 111, 112, 113, 114, 115, 116, 117, 118, 119, 120, 132, 133, 134, 135, 136, 137, 138, 139, 140, 141, 142, 143, 144, 145] (by decide +kernel) (by decide +kernel)
set_option maxRecDepth 20000 in
theorem gX4_votesIfWhispered_X3_goRounds : GoodIn wsX4_votesIfWhispered (wsV RX4 136 RX3 yX3_goRounds wsX3_goRounds) := goodIn_app (goodIn_of _ (by decide +kernel)) ggX4_votesIfWhispered_X3_goRounds
set_option maxRecDepth 20000 in
theorem ggX4_votesIfWhispered_X4_votesIn : GoodIn wsX4_votesIfWhispered wsX4_votesIn := goodIn_r _ [125, 3, 126, 61, 62, 63, 64, 65, 127, 92, 93, 8, 94, 13, 14, 95, 96, 97, 32, 98, 34, 99, 73, 74, 18, 75, 20, 128, 129, 130, 131, 141, 142, 143, 144, 145, 132, 133, 134, 135, 136, 138, 139, 140, 137] (by decide +kernel) (by decide +kernel)
set_option maxRecDepth 20000 in
theorem gX4_votesIfWhispered_X4_votesIn : GoodIn wsX4_votesIfWhispered (wsV RX4 114 RX4 yX4_votesIn wsX4_votesIn) := goodIn_app (goodIn_of _ (by decide +kernel)) ggX4_votesIfWhispered_X4_votesIn
theorem dX4_votesIfWhispered_0 : decode cX4_votesIfWhispered 0 = .ok (.aload_n 0, 1) := by decide +kernel
theorem dX4_votesIfWhispered_1 : decode cX4_votesIfWhispered 1 = .ok (.getfield 23, 3) := by decide +kernel
theorem dX4_votesIfWhispered_4 : decode cX4_votesIfWhispered 4 = .ok (.aload_n 0, 1) := by decide +kernel
theorem dX4_votesIfWhispered_5 : decode cX4_votesIfWhispered 5 = .ok (.getfield 19, 3) := by decide +kernel
theorem dX4_votesIfWhispered_8 : decode cX4_votesIfWhispered 8 = .ok (.invokevirtual 140, 3) := by decide +kernel
theorem dX4_votesIfWhispered_11 : decode cX4_votesIfWhispered 11 = .ok (.aload_n 0, 1) := by decide +kernel
theorem dX4_votesIfWhispered_12 : decode cX4_votesIfWhispered 12 = .ok (.getfield 23, 3) := by decide +kernel
theorem dX4_votesIfWhispered_15 : decode cX4_votesIfWhispered 15 = .ok (.iload_n 1, 1) := by decide +kernel
theorem dX4_votesIfWhispered_16 : decode cX4_votesIfWhispered 16 = .ok (.iload_n 2, 1) := by decide +kernel
theorem dX4_votesIfWhispered_17 : decode cX4_votesIfWhispered 17 = .ok (.bipush 9, 2) := by decide +kernel
theorem dX4_votesIfWhispered_19 : decode cX4_votesIfWhispered 19 = .ok (.invokevirtual 57, 3) := by decide +kernel
theorem dX4_votesIfWhispered_22 : decode cX4_votesIfWhispered 22 = .ok (.aload_n 0, 1) := by decide +kernel
theorem dX4_votesIfWhispered_23 : decode cX4_votesIfWhispered 23 = .ok (.getfield 23, 3) := by decide +kernel
theorem dX4_votesIfWhispered_26 : decode cX4_votesIfWhispered 26 = .ok (.aload_n 0, 1) := by decide +kernel
theorem dX4_votesIfWhispered_27 : decode cX4_votesIfWhispered 27 = .ok (.getfield 10, 3) := by decide +kernel
theorem dX4_votesIfWhispered_30 : decode cX4_votesIfWhispered 30 = .ok (.aload_n 0, 1) := by decide +kernel
theorem dX4_votesIfWhispered_31 : decode cX4_votesIfWhispered 31 = .ok (.getfield 26, 3) := by decide +kernel
theorem dX4_votesIfWhispered_34 : decode cX4_votesIfWhispered 34 = .ok (.iload_n 3, 1) := by decide +kernel
theorem dX4_votesIfWhispered_35 : decode cX4_votesIfWhispered 35 = .ok (.invokevirtual 136, 3) := by decide +kernel
theorem dX4_votesIfWhispered_38 : decode cX4_votesIfWhispered 38 = .ok (.aload_n 0, 1) := by decide +kernel
theorem dX4_votesIfWhispered_39 : decode cX4_votesIfWhispered 39 = .ok (.aload_n 0, 1) := by decide +kernel
theorem dX4_votesIfWhispered_40 : decode cX4_votesIfWhispered 40 = .ok (.getfield 23, 3) := by decide +kernel
theorem dX4_votesIfWhispered_43 : decode cX4_votesIfWhispered 43 = .ok (.iload_n 2, 1) := by decide +kernel
theorem dX4_votesIfWhispered_44 : decode cX4_votesIfWhispered 44 = .ok (.invokevirtual 114, 3) := by decide +kernel
theorem dX4_votesIfWhispered_47 : decode cX4_votesIfWhispered 47 = .ok (.ireturn, 1) := by decide +kernel
theorem dX5_init_0 : decode cX5_init 0 = .ok (.aload_n 0, 1) := by decide +kernel
theorem dX5_init_1 : decode cX5_init 1 = .ok (.invokespecial 1, 3) := by decide +kernel
theorem dX5_init_4 : decode cX5_init 4 = .ok (.aload_n 0, 1) := by decide +kernel
theorem dX5_init_5 : decode cX5_init 5 = .ok (.bipush 120, 2) := by decide +kernel
theorem dX5_init_7 : decode cX5_init 7 = .ok (.newarray .int, 2) := by decide +kernel
theorem dX5_init_9 : decode cX5_init 9 = .ok (.putfield 9, 3) := by decide +kernel
theorem dX5_init_12 : decode cX5_init 12 = .ok (.aload_n 0, 1) := by decide +kernel
theorem dX5_init_13 : decode cX5_init 13 = .ok (.bipush 120, 2) := by decide +kernel
theorem dX5_init_15 : decode cX5_init 15 = .ok (.newarray .int, 2) := by decide +kernel
theorem dX5_init_17 : decode cX5_init 17 = .ok (.putfield 13, 3) := by decide +kernel
theorem dX5_init_20 : decode cX5_init 20 = .ok (.aload_n 0, 1) := by decide +kernel
theorem dX5_init_21 : decode cX5_init 21 = .ok (.bipush 48, 2) := by decide +kernel
theorem dX5_init_23 : decode cX5_init 23 = .ok (.newarray .int, 2) := by decide +kernel
theorem dX5_init_25 : decode cX5_init 25 = .ok (.putfield 16, 3) := by decide +kernel
theorem dX5_init_28 : decode cX5_init 28 = .ok (.aload_n 0, 1) := by decide +kernel
theorem dX5_init_29 : decode cX5_init 29 = .ok (.iconst 2, 1) := by decide +kernel
theorem dX5_init_30 : decode cX5_init 30 = .ok (.newarray .int, 2) := by decide +kernel
theorem dX5_init_32 : decode cX5_init 32 = .ok (.dup, 1) := by decide +kernel
theorem dX5_init_33 : decode cX5_init 33 = .ok (.iconst 0, 1) := by decide +kernel
theorem dX5_init_34 : decode cX5_init 34 = .ok (.iconst 0, 1) := by decide +kernel
theorem dX5_init_35 : decode cX5_init 35 = .ok (.iastore, 1) := by decide +kernel
theorem dX5_init_36 : decode cX5_init 36 = .ok (.dup, 1) := by decide +kernel
theorem dX5_init_37 : decode cX5_init 37 = .ok (.iconst 1, 1) := by decide +kernel
theorem dX5_init_38 : decode cX5_init 38 = .ok (.iconst 0, 1) := by decide +kernel
theorem dX5_init_39 : decode cX5_init 39 = .ok (.iastore, 1) := by decide +kernel
theorem dX5_init_40 : decode cX5_init 40 = .ok (.putfield 19, 3) := by decide +kernel
theorem dX5_init_43 : decode cX5_init 43 = .ok (.return_, 1) := by decide +kernel
theorem dX5_thrown_0 : decode cX5_thrown 0 = .ok (.aload_n 0, 1) := by decide +kernel
theorem dX5_thrown_1 : decode cX5_thrown 1 = .ok (.getfield 22, 3) := by decide +kernel
theorem dX5_thrown_4 : decode cX5_thrown 4 = .ok (.ireturn, 1) := by decide +kernel
theorem dX5_fail_0 : decode cX5_fail 0 = .ok (.aload_n 0, 1) := by decide +kernel
theorem dX5_fail_1 : decode cX5_fail 1 = .ok (.iload_n 1, 1) := by decide +kernel
theorem dX5_fail_2 : decode cX5_fail 2 = .ok (.putfield 22, 3) := by decide +kernel
theorem dX5_fail_5 : decode cX5_fail 5 = .ok (.iconst 0, 1) := by decide +kernel
theorem dX5_fail_6 : decode cX5_fail 6 = .ok (.ireturn, 1) := by decide +kernel
theorem dX5_isIn_0 : decode cX5_isIn 0 = .ok (.iload_n 0, 1) := by decide +kernel
theorem dX5_isIn_1 : decode cX5_isIn 1 = .ok (.iload_n 1, 1) := by decide +kernel
theorem dX5_isIn_2 : decode cX5_isIn 2 = .ok (.if_icmp .lt 12, 3) := by decide +kernel
theorem dX5_isIn_5 : decode cX5_isIn 5 = .ok (.iload_n 0, 1) := by decide +kernel
theorem dX5_isIn_6 : decode cX5_isIn 6 = .ok (.iload_n 2, 1) := by decide +kernel
theorem dX5_isIn_7 : decode cX5_isIn 7 = .ok (.if_icmp .gt 7, 3) := by decide +kernel
theorem dX5_isIn_10 : decode cX5_isIn 10 = .ok (.iconst 1, 1) := by decide +kernel
theorem dX5_isIn_11 : decode cX5_isIn 11 = .ok (.goto 4, 3) := by decide +kernel
theorem dX5_isIn_14 : decode cX5_isIn 14 = .ok (.iconst 0, 1) := by decide +kernel
theorem dX5_isIn_15 : decode cX5_isIn 15 = .ok (.ireturn, 1) := by decide +kernel
set_option maxRecDepth 20000 in
theorem ggX5_isParrot_X5_isIn : GoodIn wsX5_isParrot wsX5_isIn := goodIn_r _ [5] (by decide +kernel) (by decide +kernel)
set_option maxRecDepth 20000 in
theorem gX5_isParrot_X5_isIn : GoodIn wsX5_isParrot (va_wsS RX5 29 yX5_isIn wsX5_isIn) := goodIn_app (goodIn_of _ (by decide +kernel)) ggX5_isParrot_X5_isIn
theorem dX5_isParrot_0 : decode cX5_isParrot 0 = .ok (.iload_n 1, 1) := by decide +kernel
theorem dX5_isParrot_1 : decode cX5_isParrot 1 = .ok (.iconst 0, 1) := by decide +kernel
theorem dX5_isParrot_2 : decode cX5_isParrot 2 = .ok (.aload_n 0, 1) := by decide +kernel
theorem dX5_isParrot_3 : decode cX5_isParrot 3 = .ok (.getfield 26, 3) := by decide +kernel
theorem dX5_isParrot_6 : decode cX5_isParrot 6 = .ok (.iconst 1, 1) := by decide +kernel
theorem dX5_isParrot_7 : decode cX5_isParrot 7 = .ok (.isub, 1) := by decide +kernel
theorem dX5_isParrot_8 : decode cX5_isParrot 8 = .ok (.invokestatic 29, 3) := by decide +kernel
theorem dX5_isParrot_11 : decode cX5_isParrot 11 = .ok (.ireturn, 1) := by decide +kernel
set_option maxRecDepth 20000 in
theorem ggX5_isWord_X5_isIn : GoodIn wsX5_isWord wsX5_isIn := goodIn_r _ [4] (by decide +kernel) (by decide +kernel)
set_option maxRecDepth 20000 in
theorem gX5_isWord_X5_isIn : GoodIn wsX5_isWord (va_wsS RX5 29 yX5_isIn wsX5_isIn) := goodIn_app (goodIn_of _ (by decide +kernel)) ggX5_isWord_X5_isIn
theorem dX5_isWord_0 : decode cX5_isWord 0 = .ok (.iload_n 0, 1) := by decide +kernel
theorem dX5_isWord_1 : decode cX5_isWord 1 = .ok (.iconst 0, 1) := by decide +kernel
theorem dX5_isWord_2 : decode cX5_isWord 2 = .ok (.sipush 9999, 3) := by decide +kernel
theorem dX5_isWord_5 : decode cX5_isWord 5 = .ok (.invokestatic 29, 3) := by decide +kernel
theorem dX5_isWord_8 : decode cX5_isWord 8 = .ok (.ireturn, 1) := by decide +kernel
theorem dX5_ju_0 : decode cX5_ju 0 = .ok (.aload_n 0, 1) := by decide +kernel
theorem dX5_ju_1 : decode cX5_ju 1 = .ok (.getfield 9, 3) := by decide +kernel
theorem dX5_ju_4 : decode cX5_ju 4 = .ok (.bipush 10, 2) := by decide +kernel
theorem dX5_ju_6 : decode cX5_ju 6 = .ok (.iload_n 1, 1) := by decide +kernel
theorem dX5_ju_7 : decode cX5_ju 7 = .ok (.imul, 1) := by decide +kernel
theorem dX5_ju_8 : decode cX5_ju 8 = .ok (.iload_n 2, 1) := by decide +kernel
theorem dX5_ju_9 : decode cX5_ju 9 = .ok (.iadd, 1) := by decide +kernel
theorem dX5_ju_10 : decode cX5_ju 10 = .ok (.iaload, 1) := by decide +kernel
theorem dX5_ju_11 : decode cX5_ju 11 = .ok (.ireturn, 1) := by decide +kernel
theorem dX5_put_0 : decode cX5_put 0 = .ok (.aload_n 0, 1) := by decide +kernel
theorem dX5_put_1 : decode cX5_put 1 = .ok (.getfield 9, 3) := by decide +kernel
theorem dX5_put_4 : decode cX5_put 4 = .ok (.bipush 10, 2) := by decide +kernel
theorem dX5_put_6 : decode cX5_put 6 = .ok (.iload_n 1, 1) := by decide +kernel
theorem dX5_put_7 : decode cX5_put 7 = .ok (.imul, 1) := by decide +kernel
theorem dX5_put_8 : decode cX5_put 8 = .ok (.iload_n 2, 1) := by decide +kernel
theorem dX5_put_9 : decode cX5_put 9 = .ok (.iadd, 1) := by decide +kernel
theorem dX5_put_10 : decode cX5_put 10 = .ok (.iload_n 3, 1) := by decide +kernel
theorem dX5_put_11 : decode cX5_put 11 = .ok (.iastore, 1) := by decide +kernel
theorem dX5_put_12 : decode cX5_put 12 = .ok (.return_, 1) := by decide +kernel
set_option maxRecDepth 20000 in
theorem ggX5_word_X5_ju : GoodIn wsX5_word wsX5_ju := goodIn_r _ [5, 6, 7, 8, 9, 10, 11, 12] (by decide +kernel) (by decide +kernel)
set_option maxRecDepth 20000 in
theorem gX5_word_X5_ju : GoodIn wsX5_word (wsV RX5 33 RX5 yX5_ju wsX5_ju) := goodIn_app (goodIn_of _ (by decide +kernel)) ggX5_word_X5_ju
theorem dX5_word_0 : decode cX5_word 0 = .ok (.bipush 100, 2) := by decide +kernel
theorem dX5_word_2 : decode cX5_word 2 = .ok (.aload_n 0, 1) := by decide +kernel
theorem dX5_word_3 : decode cX5_word 3 = .ok (.iload_n 1, 1) := by decide +kernel
theorem dX5_word_4 : decode cX5_word 4 = .ok (.iconst 0, 1) := by decide +kernel
theorem dX5_word_5 : decode cX5_word 5 = .ok (.invokevirtual 33, 3) := by decide +kernel
theorem dX5_word_8 : decode cX5_word 8 = .ok (.imul, 1) := by decide +kernel
theorem dX5_word_9 : decode cX5_word 9 = .ok (.aload_n 0, 1) := by decide +kernel
theorem dX5_word_10 : decode cX5_word 10 = .ok (.iload_n 1, 1) := by decide +kernel
theorem dX5_word_11 : decode cX5_word 11 = .ok (.iconst 1, 1) := by decide +kernel
theorem dX5_word_12 : decode cX5_word 12 = .ok (.invokevirtual 33, 3) := by decide +kernel
theorem dX5_word_15 : decode cX5_word 15 = .ok (.iadd, 1) := by decide +kernel
theorem dX5_word_16 : decode cX5_word 16 = .ok (.ireturn, 1) := by decide +kernel
set_option maxRecDepth 20000 in
theorem ggX5_come_X5_isIn : GoodIn wsX5_come wsX5_isIn := goodIn_r _ [12] (by decide +kernel) (by decide +kernel)
set_option maxRecDepth 20000 in
theorem gX5_come_X5_isIn : GoodIn wsX5_come (va_wsS RX5 29 yX5_isIn wsX5_isIn) := goodIn_app (goodIn_of _ (by decide +kernel)) ggX5_come_X5_isIn
set_option maxRecDepth 20000 in
theorem ggX5_come_X5_fail : GoodIn wsX5_come wsX5_fail := goodIn_r _ [16, 1, 17, 18, 19, 20, 21, 22] (by decide +kernel) (by decide +kernel)
set_option maxRecDepth 20000 in
theorem gX5_come_X5_fail : GoodIn wsX5_come (wsV RX5 37 RX5 yX5_fail wsX5_fail) := goodIn_app (goodIn_of _ (by decide +kernel)) ggX5_come_X5_fail
theorem dX5_come_0 : decode cX5_come 0 = .ok (.aload_n 0, 1) := by decide +kernel
theorem dX5_come_1 : decode cX5_come 1 = .ok (.iconst 0, 1) := by decide +kernel
theorem dX5_come_2 : decode cX5_come 2 = .ok (.putfield 22, 3) := by decide +kernel
theorem dX5_come_5 : decode cX5_come 5 = .ok (.iload_n 1, 1) := by decide +kernel
theorem dX5_come_6 : decode cX5_come 6 = .ok (.iconst 1, 1) := by decide +kernel
theorem dX5_come_7 : decode cX5_come 7 = .ok (.bipush 9, 2) := by decide +kernel
theorem dX5_come_9 : decode cX5_come 9 = .ok (.invokestatic 29, 3) := by decide +kernel
theorem dX5_come_12 : decode cX5_come 12 = .ok (.ifCond .eq 12, 3) := by decide +kernel
theorem dX5_come_15 : decode cX5_come 15 = .ok (.iload_n 2, 1) := by decide +kernel
theorem dX5_come_16 : decode cX5_come 16 = .ok (.iconst 1, 1) := by decide +kernel
theorem dX5_come_17 : decode cX5_come 17 = .ok (.iconst 5, 1) := by decide +kernel
theorem dX5_come_18 : decode cX5_come 18 = .ok (.invokestatic 29, 3) := by decide +kernel
theorem dX5_come_21 : decode cX5_come 21 = .ok (.ifCond .ne 9, 3) := by decide +kernel
theorem dX5_come_24 : decode cX5_come 24 = .ok (.aload_n 0, 1) := by decide +kernel
theorem dX5_come_25 : decode cX5_come 25 = .ok (.iconst 1, 1) := by decide +kernel
theorem dX5_come_26 : decode cX5_come 26 = .ok (.invokevirtual 37, 3) := by decide +kernel
theorem dX5_come_29 : decode cX5_come 29 = .ok (.ireturn, 1) := by decide +kernel
theorem dX5_come_30 : decode cX5_come 30 = .ok (.aload_n 0, 1) := by decide +kernel
theorem dX5_come_31 : decode cX5_come 31 = .ok (.getfield 26, 3) := by decide +kernel
theorem dX5_come_34 : decode cX5_come 34 = .ok (.bipush 12, 2) := by decide +kernel
theorem dX5_come_36 : decode cX5_come 36 = .ok (.if_icmp .ne 9, 3) := by decide +kernel
theorem dX5_come_39 : decode cX5_come 39 = .ok (.aload_n 0, 1) := by decide +kernel
theorem dX5_come_40 : decode cX5_come 40 = .ok (.iconst 2, 1) := by decide +kernel
theorem dX5_come_41 : decode cX5_come 41 = .ok (.invokevirtual 37, 3) := by decide +kernel
theorem dX5_come_44 : decode cX5_come 44 = .ok (.ireturn, 1) := by decide +kernel
theorem dX5_come_45 : decode cX5_come 45 = .ok (.bipush 10, 2) := by decide +kernel
theorem dX5_come_47 : decode cX5_come 47 = .ok (.newarray .int, 2) := by decide +kernel
theorem dX5_come_49 : decode cX5_come 49 = .ok (.dup, 1) := by decide +kernel
theorem dX5_come_50 : decode cX5_come 50 = .ok (.iconst 0, 1) := by decide +kernel
theorem dX5_come_51 : decode cX5_come 51 = .ok (.iconst 0, 1) := by decide +kernel
theorem dX5_come_52 : decode cX5_come 52 = .ok (.iastore, 1) := by decide +kernel
theorem dX5_come_53 : decode cX5_come 53 = .ok (.dup, 1) := by decide +kernel
theorem dX5_come_54 : decode cX5_come 54 = .ok (.iconst 1, 1) := by decide +kernel
theorem dX5_come_55 : decode cX5_come 55 = .ok (.iconst 0, 1) := by decide +kernel
theorem dX5_come_56 : decode cX5_come 56 = .ok (.iastore, 1) := by decide +kernel
theorem dX5_come_57 : decode cX5_come 57 = .ok (.dup, 1) := by decide +kernel
theorem dX5_come_58 : decode cX5_come 58 = .ok (.iconst 2, 1) := by decide +kernel
theorem dX5_come_59 : decode cX5_come 59 = .ok (.iconst (-1), 1) := by decide +kernel
theorem dX5_come_60 : decode cX5_come 60 = .ok (.iastore, 1) := by decide +kernel
theorem dX5_come_61 : decode cX5_come 61 = .ok (.dup, 1) := by decide +kernel
theorem dX5_come_62 : decode cX5_come 62 = .ok (.iconst 3, 1) := by decide +kernel
theorem dX5_come_63 : decode cX5_come 63 = .ok (.iconst (-1), 1) := by decide +kernel
theorem dX5_come_64 : decode cX5_come 64 = .ok (.iastore, 1) := by decide +kernel
theorem dX5_come_65 : decode cX5_come 65 = .ok (.dup, 1) := by decide +kernel
theorem dX5_come_66 : decode cX5_come 66 = .ok (.iconst 4, 1) := by decide +kernel
theorem dX5_come_67 : decode cX5_come 67 = .ok (.iconst 0, 1) := by decide +kernel
theorem dX5_come_68 : decode cX5_come 68 = .ok (.iastore, 1) := by decide +kernel
theorem dX5_come_69 : decode cX5_come 69 = .ok (.dup, 1) := by decide +kernel
theorem dX5_come_70 : decode cX5_come 70 = .ok (.iconst 5, 1) := by decide +kernel
theorem dX5_come_71 : decode cX5_come 71 = .ok (.iconst 0, 1) := by decide +kernel
theorem dX5_come_72 : decode cX5_come 72 = .ok (.iastore, 1) := by decide +kernel
theorem dX5_come_73 : decode cX5_come 73 = .ok (.dup, 1) := by decide +kernel
theorem dX5_come_74 : decode cX5_come 74 = .ok (.bipush 6, 2) := by decide +kernel
theorem dX5_come_76 : decode cX5_come 76 = .ok (.iconst 0, 1) := by decide +kernel
theorem dX5_come_77 : decode cX5_come 77 = .ok (.iastore, 1) := by decide +kernel
theorem dX5_come_78 : decode cX5_come 78 = .ok (.dup, 1) := by decide +kernel
theorem dX5_come_79 : decode cX5_come 79 = .ok (.bipush 7, 2) := by decide +kernel
theorem dX5_come_81 : decode cX5_come 81 = .ok (.iload_n 1, 1) := by decide +kernel
theorem dX5_come_82 : decode cX5_come 82 = .ok (.iastore, 1) := by decide +kernel
theorem dX5_come_83 : decode cX5_come 83 = .ok (.dup, 1) := by decide +kernel
theorem dX5_come_84 : decode cX5_come 84 = .ok (.bipush 8, 2) := by decide +kernel
theorem dX5_come_86 : decode cX5_come 86 = .ok (.iload_n 2, 1) := by decide +kernel
theorem dX5_come_87 : decode cX5_come 87 = .ok (.iastore, 1) := by decide +kernel
theorem dX5_come_88 : decode cX5_come 88 = .ok (.dup, 1) := by decide +kernel
theorem dX5_come_89 : decode cX5_come 89 = .ok (.bipush 9, 2) := by decide +kernel
theorem dX5_come_91 : decode cX5_come 91 = .ok (.iconst 0, 1) := by decide +kernel
theorem dX5_come_92 : decode cX5_come 92 = .ok (.iastore, 1) := by decide +kernel
theorem dX5_come_93 : decode cX5_come 93 = .ok (.astore_n 3, 1) := by decide +kernel
theorem dX5_come_94 : decode cX5_come 94 = .ok (.aload_n 3, 1) := by decide +kernel
theorem dX5_come_95 : decode cX5_come 95 = .ok (.iconst 0, 1) := by decide +kernel
theorem dX5_come_96 : decode cX5_come 96 = .ok (.aload_n 0, 1) := by decide +kernel
theorem dX5_come_97 : decode cX5_come 97 = .ok (.getfield 9, 3) := by decide +kernel
theorem dX5_come_100 : decode cX5_come 100 = .ok (.bipush 10, 2) := by decide +kernel
theorem dX5_come_102 : decode cX5_come 102 = .ok (.aload_n 0, 1) := by decide +kernel
theorem dX5_come_103 : decode cX5_come 103 = .ok (.getfield 26, 3) := by decide +kernel
theorem dX5_come_106 : decode cX5_come 106 = .ok (.imul, 1) := by decide +kernel
theorem dX5_come_107 : decode cX5_come 107 = .ok (.bipush 10, 2) := by decide +kernel
theorem dX5_come_109 : decode cX5_come 109 = .ok (.invokestatic 41, 3) := by decide +kernel
theorem dX5_come_112 : decode cX5_come 112 = .ok (.aload_n 0, 1) := by decide +kernel
theorem dX5_come_113 : decode cX5_come 113 = .ok (.dup, 1) := by decide +kernel
theorem dX5_come_114 : decode cX5_come 114 = .ok (.getfield 26, 3) := by decide +kernel
theorem dX5_come_117 : decode cX5_come 117 = .ok (.iconst 1, 1) := by decide +kernel
theorem dX5_come_118 : decode cX5_come 118 = .ok (.iadd, 1) := by decide +kernel
theorem dX5_come_119 : decode cX5_come 119 = .ok (.putfield 26, 3) := by decide +kernel
theorem dX5_come_122 : decode cX5_come 122 = .ok (.aload_n 0, 1) := by decide +kernel
theorem dX5_come_123 : decode cX5_come 123 = .ok (.getfield 26, 3) := by decide +kernel
theorem dX5_come_126 : decode cX5_come 126 = .ok (.iconst 1, 1) := by decide +kernel
theorem dX5_come_127 : decode cX5_come 127 = .ok (.isub, 1) := by decide +kernel
theorem dX5_come_128 : decode cX5_come 128 = .ok (.ireturn, 1) := by decide +kernel
set_option maxRecDepth 20000 in
theorem ggX5_place_X5_ju : GoodIn wsX5_place wsX5_ju := goodIn_r _ [6, 7, 8, 9, 10, 11, 12, 13] (by decide +kernel) (by decide +kernel)
set_option maxRecDepth 20000 in
theorem gX5_place_X5_ju : GoodIn wsX5_place (wsV RX5 33 RX5 yX5_ju wsX5_ju) := goodIn_app (goodIn_of _ (by decide +kernel)) ggX5_place_X5_ju
theorem dX5_place_0 : decode cX5_place 0 = .ok (.iconst 0, 1) := by decide +kernel
theorem dX5_place_1 : decode cX5_place 1 = .ok (.istore_n 3, 1) := by decide +kernel
theorem dX5_place_2 : decode cX5_place 2 = .ok (.iload_n 3, 1) := by decide +kernel
theorem dX5_place_3 : decode cX5_place 3 = .ok (.aload_n 0, 1) := by decide +kernel
theorem dX5_place_4 : decode cX5_place 4 = .ok (.iload_n 1, 1) := by decide +kernel
theorem dX5_place_5 : decode cX5_place 5 = .ok (.bipush 9, 2) := by decide +kernel
theorem dX5_place_7 : decode cX5_place 7 = .ok (.invokevirtual 33, 3) := by decide +kernel
theorem dX5_place_10 : decode cX5_place 10 = .ok (.if_icmp .ge 25, 3) := by decide +kernel
theorem dX5_place_13 : decode cX5_place 13 = .ok (.aload_n 0, 1) := by decide +kernel
theorem dX5_place_14 : decode cX5_place 14 = .ok (.getfield 16, 3) := by decide +kernel
theorem dX5_place_17 : decode cX5_place 17 = .ok (.iconst 4, 1) := by decide +kernel
theorem dX5_place_18 : decode cX5_place 18 = .ok (.iload_n 1, 1) := by decide +kernel
theorem dX5_place_19 : decode cX5_place 19 = .ok (.imul, 1) := by decide +kernel
theorem dX5_place_20 : decode cX5_place 20 = .ok (.iload_n 3, 1) := by decide +kernel
theorem dX5_place_21 : decode cX5_place 21 = .ok (.iadd, 1) := by decide +kernel
theorem dX5_place_22 : decode cX5_place 22 = .ok (.iaload, 1) := by decide +kernel
theorem dX5_place_23 : decode cX5_place 23 = .ok (.iload_n 2, 1) := by decide +kernel
theorem dX5_place_24 : decode cX5_place 24 = .ok (.if_icmp .ne 5, 3) := by decide +kernel
theorem dX5_place_27 : decode cX5_place 27 = .ok (.iload_n 3, 1) := by decide +kernel
theorem dX5_place_28 : decode cX5_place 28 = .ok (.ireturn, 1) := by decide +kernel
theorem dX5_place_29 : decode cX5_place 29 = .ok (.iinc 3 1, 3) := by decide +kernel
theorem dX5_place_32 : decode cX5_place 32 = .ok (.goto (-30), 3) := by decide +kernel
theorem dX5_place_35 : decode cX5_place 35 = .ok (.iconst (-1), 1) := by decide +kernel
theorem dX5_place_36 : decode cX5_place 36 = .ok (.ireturn, 1) := by decide +kernel
set_option maxRecDepth 20000 in
theorem ggX5_listen_X5_isParrot : GoodIn wsX5_listen wsX5_isParrot := goodIn_r _ [11, 12, 13, 14, 10, 15, 33, 34, 35, 36, 37, 38] (by decide +kernel) (by decide +kernel)
set_option maxRecDepth 20000 in
theorem gX5_listen_X5_isParrot : GoodIn wsX5_listen (wsV RX5 47 RX5 yX5_isParrot wsX5_isParrot) := goodIn_app (goodIn_of _ (by decide +kernel)) ggX5_listen_X5_isParrot
set_option maxRecDepth 20000 in
theorem ggX5_listen_X5_fail : GoodIn wsX5_listen wsX5_fail := goodIn_r _ [19, 1, 33, 34, 35, 36, 37, 38] (by decide +kernel) (by decide +kernel)
set_option maxRecDepth 20000 in
theorem gX5_listen_X5_fail : GoodIn wsX5_listen (wsV RX5 37 RX5 yX5_fail wsX5_fail) := goodIn_app (goodIn_of _ (by decide +kernel)) ggX5_listen_X5_fail
set_option maxRecDepth 20000 in
theorem ggX5_listen_X5_place : GoodIn wsX5_listen wsX5_place := goodIn_r _ [23, 2, 24, 25, 26, 10, 27, 28, 33, 34, 35, 36, 37, 38] (by decide +kernel) (by decide +kernel)
set_option maxRecDepth 20000 in
theorem gX5_listen_X5_place : GoodIn wsX5_listen (wsV RX5 51 RX5 yX5_place wsX5_place) := goodIn_app (goodIn_of _ (by decide +kernel)) ggX5_listen_X5_place
set_option maxRecDepth 20000 in
theorem ggX5_listen_X5_ju : GoodIn wsX5_listen wsX5_ju := goodIn_r _ [27, 28, 33, 34, 35, 36, 37, 38] (by decide +kernel) (by decide +kernel)
set_option maxRecDepth 20000 in
theorem gX5_listen_X5_ju : GoodIn wsX5_listen (wsV RX5 33 RX5 yX5_ju wsX5_ju) := goodIn_app (goodIn_of _ (by decide +kernel)) ggX5_listen_X5_ju
set_option maxRecDepth 20000 in
theorem ggX5_listen_X5_put : GoodIn wsX5_listen wsX5_put := goodIn_r _ [32, 28, 33, 34, 35, 36, 37, 38] (by decide +kernel) (by decide +kernel)
set_option maxRecDepth 20000 in
theorem gX5_listen_X5_put : GoodIn wsX5_listen (wsV RX5 54 RX5 yX5_put wsX5_put) := goodIn_app (goodIn_of _ (by decide +kernel)) ggX5_listen_X5_put
theorem dX5_listen_0 : decode cX5_listen 0 = .ok (.aload_n 0, 1) := by decide +kernel
theorem dX5_listen_1 : decode cX5_listen 1 = .ok (.iconst 0, 1) := by decide +kernel
theorem dX5_listen_2 : decode cX5_listen 2 = .ok (.putfield 22, 3) := by decide +kernel
theorem dX5_listen_5 : decode cX5_listen 5 = .ok (.aload_n 0, 1) := by decide +kernel
theorem dX5_listen_6 : decode cX5_listen 6 = .ok (.iload_n 1, 1) := by decide +kernel
theorem dX5_listen_7 : decode cX5_listen 7 = .ok (.invokevirtual 47, 3) := by decide +kernel
theorem dX5_listen_10 : decode cX5_listen 10 = .ok (.ifCond .eq 11, 3) := by decide +kernel
theorem dX5_listen_13 : decode cX5_listen 13 = .ok (.aload_n 0, 1) := by decide +kernel
theorem dX5_listen_14 : decode cX5_listen 14 = .ok (.iload_n 2, 1) := by decide +kernel
theorem dX5_listen_15 : decode cX5_listen 15 = .ok (.invokevirtual 47, 3) := by decide +kernel
theorem dX5_listen_18 : decode cX5_listen 18 = .ok (.ifCond .ne 9, 3) := by decide +kernel
theorem dX5_listen_21 : decode cX5_listen 21 = .ok (.aload_n 0, 1) := by decide +kernel
theorem dX5_listen_22 : decode cX5_listen 22 = .ok (.iconst 1, 1) := by decide +kernel
theorem dX5_listen_23 : decode cX5_listen 23 = .ok (.invokevirtual 37, 3) := by decide +kernel
theorem dX5_listen_26 : decode cX5_listen 26 = .ok (.ireturn, 1) := by decide +kernel
theorem dX5_listen_27 : decode cX5_listen 27 = .ok (.iload_n 1, 1) := by decide +kernel
theorem dX5_listen_28 : decode cX5_listen 28 = .ok (.iload_n 2, 1) := by decide +kernel
theorem dX5_listen_29 : decode cX5_listen 29 = .ok (.if_icmp .ne 9, 3) := by decide +kernel
theorem dX5_listen_32 : decode cX5_listen 32 = .ok (.aload_n 0, 1) := by decide +kernel
theorem dX5_listen_33 : decode cX5_listen 33 = .ok (.iconst 2, 1) := by decide +kernel
theorem dX5_listen_34 : decode cX5_listen 34 = .ok (.invokevirtual 37, 3) := by decide +kernel
theorem dX5_listen_37 : decode cX5_listen 37 = .ok (.ireturn, 1) := by decide +kernel
theorem dX5_listen_38 : decode cX5_listen 38 = .ok (.aload_n 0, 1) := by decide +kernel
theorem dX5_listen_39 : decode cX5_listen 39 = .ok (.iload_n 1, 1) := by decide +kernel
theorem dX5_listen_40 : decode cX5_listen 40 = .ok (.iload_n 2, 1) := by decide +kernel
theorem dX5_listen_41 : decode cX5_listen 41 = .ok (.invokevirtual 51, 3) := by decide +kernel
theorem dX5_listen_44 : decode cX5_listen 44 = .ok (.istore_n 3, 1) := by decide +kernel
theorem dX5_listen_45 : decode cX5_listen 45 = .ok (.aload_n 0, 1) := by decide +kernel
theorem dX5_listen_46 : decode cX5_listen 46 = .ok (.iload_n 1, 1) := by decide +kernel
theorem dX5_listen_47 : decode cX5_listen 47 = .ok (.bipush 9, 2) := by decide +kernel
theorem dX5_listen_49 : decode cX5_listen 49 = .ok (.invokevirtual 33, 3) := by decide +kernel
theorem dX5_listen_52 : decode cX5_listen 52 = .ok (.istore 4, 2) := by decide +kernel
theorem dX5_listen_54 : decode cX5_listen 54 = .ok (.iload_n 3, 1) := by decide +kernel
theorem dX5_listen_55 : decode cX5_listen 55 = .ok (.iconst (-1), 1) := by decide +kernel
theorem dX5_listen_56 : decode cX5_listen 56 = .ok (.if_icmp .ne 15, 3) := by decide +kernel
theorem dX5_listen_59 : decode cX5_listen 59 = .ok (.iload 4, 2) := by decide +kernel
theorem dX5_listen_61 : decode cX5_listen 61 = .ok (.iconst 4, 1) := by decide +kernel
theorem dX5_listen_62 : decode cX5_listen 62 = .ok (.if_icmp .ne 9, 3) := by decide +kernel
theorem dX5_listen_65 : decode cX5_listen 65 = .ok (.aload_n 0, 1) := by decide +kernel
theorem dX5_listen_66 : decode cX5_listen 66 = .ok (.iconst 3, 1) := by decide +kernel
theorem dX5_listen_67 : decode cX5_listen 67 = .ok (.invokevirtual 37, 3) := by decide +kernel
theorem dX5_listen_70 : decode cX5_listen 70 = .ok (.ireturn, 1) := by decide +kernel
theorem dX5_listen_71 : decode cX5_listen 71 = .ok (.iload_n 3, 1) := by decide +kernel
theorem dX5_listen_72 : decode cX5_listen 72 = .ok (.iconst (-1), 1) := by decide +kernel
theorem dX5_listen_73 : decode cX5_listen 73 = .ok (.if_icmp .ne 18, 3) := by decide +kernel
theorem dX5_listen_76 : decode cX5_listen 76 = .ok (.aload_n 0, 1) := by decide +kernel
theorem dX5_listen_77 : decode cX5_listen 77 = .ok (.getfield 16, 3) := by decide +kernel
theorem dX5_listen_80 : decode cX5_listen 80 = .ok (.iconst 4, 1) := by decide +kernel
theorem dX5_listen_81 : decode cX5_listen 81 = .ok (.iload_n 1, 1) := by decide +kernel
theorem dX5_listen_82 : decode cX5_listen 82 = .ok (.imul, 1) := by decide +kernel
theorem dX5_listen_83 : decode cX5_listen 83 = .ok (.iload 4, 2) := by decide +kernel
theorem dX5_listen_85 : decode cX5_listen 85 = .ok (.iadd, 1) := by decide +kernel
theorem dX5_listen_86 : decode cX5_listen 86 = .ok (.iload_n 2, 1) := by decide +kernel
theorem dX5_listen_87 : decode cX5_listen 87 = .ok (.iastore, 1) := by decide +kernel
theorem dX5_listen_88 : decode cX5_listen 88 = .ok (.goto 32, 3) := by decide +kernel
theorem dX5_listen_91 : decode cX5_listen 91 = .ok (.aload_n 0, 1) := by decide +kernel
theorem dX5_listen_92 : decode cX5_listen 92 = .ok (.getfield 16, 3) := by decide +kernel
theorem dX5_listen_95 : decode cX5_listen 95 = .ok (.iconst 4, 1) := by decide +kernel
theorem dX5_listen_96 : decode cX5_listen 96 = .ok (.iload_n 1, 1) := by decide +kernel
theorem dX5_listen_97 : decode cX5_listen 97 = .ok (.imul, 1) := by decide +kernel
theorem dX5_listen_98 : decode cX5_listen 98 = .ok (.iload_n 3, 1) := by decide +kernel
theorem dX5_listen_99 : decode cX5_listen 99 = .ok (.iadd, 1) := by decide +kernel
theorem dX5_listen_100 : decode cX5_listen 100 = .ok (.iconst 1, 1) := by decide +kernel
theorem dX5_listen_101 : decode cX5_listen 101 = .ok (.iadd, 1) := by decide +kernel
theorem dX5_listen_102 : decode cX5_listen 102 = .ok (.aload_n 0, 1) := by decide +kernel
theorem dX5_listen_103 : decode cX5_listen 103 = .ok (.getfield 16, 3) := by decide +kernel
theorem dX5_listen_106 : decode cX5_listen 106 = .ok (.iconst 4, 1) := by decide +kernel
theorem dX5_listen_107 : decode cX5_listen 107 = .ok (.iload_n 1, 1) := by decide +kernel
theorem dX5_listen_108 : decode cX5_listen 108 = .ok (.imul, 1) := by decide +kernel
theorem dX5_listen_109 : decode cX5_listen 109 = .ok (.iload_n 3, 1) := by decide +kernel
theorem dX5_listen_110 : decode cX5_listen 110 = .ok (.iadd, 1) := by decide +kernel
theorem dX5_listen_111 : decode cX5_listen 111 = .ok (.iload 4, 2) := by decide +kernel
theorem dX5_listen_113 : decode cX5_listen 113 = .ok (.iload_n 3, 1) := by decide +kernel
theorem dX5_listen_114 : decode cX5_listen 114 = .ok (.isub, 1) := by decide +kernel
theorem dX5_listen_115 : decode cX5_listen 115 = .ok (.iconst 1, 1) := by decide +kernel
theorem dX5_listen_116 : decode cX5_listen 116 = .ok (.isub, 1) := by decide +kernel
theorem dX5_listen_117 : decode cX5_listen 117 = .ok (.invokestatic 41, 3) := by decide +kernel
theorem dX5_listen_120 : decode cX5_listen 120 = .ok (.aload_n 0, 1) := by decide +kernel
theorem dX5_listen_121 : decode cX5_listen 121 = .ok (.iload_n 1, 1) := by decide +kernel
theorem dX5_listen_122 : decode cX5_listen 122 = .ok (.bipush 9, 2) := by decide +kernel
theorem dX5_listen_124 : decode cX5_listen 124 = .ok (.iload_n 3, 1) := by decide +kernel
theorem dX5_listen_125 : decode cX5_listen 125 = .ok (.iconst (-1), 1) := by decide +kernel
theorem dX5_listen_126 : decode cX5_listen 126 = .ok (.if_icmp .ne 10, 3) := by decide +kernel
theorem dX5_listen_129 : decode cX5_listen 129 = .ok (.iload 4, 2) := by decide +kernel
theorem dX5_listen_131 : decode cX5_listen 131 = .ok (.iconst 1, 1) := by decide +kernel
theorem dX5_listen_132 : decode cX5_listen 132 = .ok (.iadd, 1) := by decide +kernel
theorem dX5_listen_133 : decode cX5_listen 133 = .ok (.goto 7, 3) := by decide +kernel
theorem dX5_listen_136 : decode cX5_listen 136 = .ok (.iload 4, 2) := by decide +kernel
theorem dX5_listen_138 : decode cX5_listen 138 = .ok (.iconst 1, 1) := by decide +kernel
theorem dX5_listen_139 : decode cX5_listen 139 = .ok (.isub, 1) := by decide +kernel
theorem dX5_listen_140 : decode cX5_listen 140 = .ok (.invokevirtual 54, 3) := by decide +kernel
theorem dX5_listen_143 : decode cX5_listen 143 = .ok (.aload_n 0, 1) := by decide +kernel
theorem dX5_listen_144 : decode cX5_listen 144 = .ok (.iload_n 1, 1) := by decide +kernel
theorem dX5_listen_145 : decode cX5_listen 145 = .ok (.bipush 9, 2) := by decide +kernel
theorem dX5_listen_147 : decode cX5_listen 147 = .ok (.invokevirtual 33, 3) := by decide +kernel
theorem dX5_listen_150 : decode cX5_listen 150 = .ok (.ireturn, 1) := by decide +kernel
set_option maxRecDepth 20000 in
theorem ggX5_raise_X5_isParrot : GoodIn wsX5_raise wsX5_isParrot := goodIn_r _ [6, 7, 8, 9, 5, 10, 24, 25, 26, 27, 28, 29] (by decide +kernel) (by decide +kernel)
set_option maxRecDepth 20000 in
theorem gX5_raise_X5_isParrot : GoodIn wsX5_raise (wsV RX5 47 RX5 yX5_isParrot wsX5_isParrot) := goodIn_app (goodIn_of _ (by decide +kernel)) ggX5_raise_X5_isParrot
set_option maxRecDepth 20000 in
theorem ggX5_raise_X5_fail : GoodIn wsX5_raise wsX5_fail := goodIn_r _ [14, 1, 24, 25, 26, 27, 28, 29] (by decide +kernel) (by decide +kernel)
set_option maxRecDepth 20000 in
theorem gX5_raise_X5_fail : GoodIn wsX5_raise (wsV RX5 37 RX5 yX5_fail wsX5_fail) := goodIn_app (goodIn_of _ (by decide +kernel)) ggX5_raise_X5_fail
set_option maxRecDepth 20000 in
theorem ggX5_raise_X5_isIn : GoodIn wsX5_raise wsX5_isIn := goodIn_r _ [10] (by decide +kernel) (by decide +kernel)
set_option maxRecDepth 20000 in
theorem gX5_raise_X5_isIn : GoodIn wsX5_raise (va_wsS RX5 29 yX5_isIn wsX5_isIn) := goodIn_app (goodIn_of _ (by decide +kernel)) ggX5_raise_X5_isIn
set_option maxRecDepth 20000 in
theorem ggX5_raise_X5_ju : GoodIn wsX5_raise wsX5_ju := goodIn_r _ [18, 19, 24, 25, 26, 27, 28, 29] (by decide +kernel) (by decide +kernel)
set_option maxRecDepth 20000 in
theorem gX5_raise_X5_ju : GoodIn wsX5_raise (wsV RX5 33 RX5 yX5_ju wsX5_ju) := goodIn_app (goodIn_of _ (by decide +kernel)) ggX5_raise_X5_ju
set_option maxRecDepth 20000 in
theorem ggX5_raise_X5_put : GoodIn wsX5_raise wsX5_put := goodIn_r _ [23, 19, 24, 25, 26, 27, 28, 29] (by decide +kernel) (by decide +kernel)
set_option maxRecDepth 20000 in
theorem gX5_raise_X5_put : GoodIn wsX5_raise (wsV RX5 54 RX5 yX5_put wsX5_put) := goodIn_app (goodIn_of _ (by decide +kernel)) ggX5_raise_X5_put
theorem dX5_raise_0 : decode cX5_raise 0 = .ok (.aload_n 0, 1) := by decide +kernel
theorem dX5_raise_1 : decode cX5_raise 1 = .ok (.iconst 0, 1) := by decide +kernel
theorem dX5_raise_2 : decode cX5_raise 2 = .ok (.putfield 22, 3) := by decide +kernel
theorem dX5_raise_5 : decode cX5_raise 5 = .ok (.aload_n 0, 1) := by decide +kernel
theorem dX5_raise_6 : decode cX5_raise 6 = .ok (.iload_n 1, 1) := by decide +kernel
theorem dX5_raise_7 : decode cX5_raise 7 = .ok (.invokevirtual 47, 3) := by decide +kernel
theorem dX5_raise_10 : decode cX5_raise 10 = .ok (.ifCond .ne 9, 3) := by decide +kernel
theorem dX5_raise_13 : decode cX5_raise 13 = .ok (.aload_n 0, 1) := by decide +kernel
theorem dX5_raise_14 : decode cX5_raise 14 = .ok (.iconst 1, 1) := by decide +kernel
theorem dX5_raise_15 : decode cX5_raise 15 = .ok (.invokevirtual 37, 3) := by decide +kernel
theorem dX5_raise_18 : decode cX5_raise 18 = .ok (.ireturn, 1) := by decide +kernel
theorem dX5_raise_19 : decode cX5_raise 19 = .ok (.iload_n 2, 1) := by decide +kernel
theorem dX5_raise_20 : decode cX5_raise 20 = .ok (.iconst 1, 1) := by decide +kernel
theorem dX5_raise_21 : decode cX5_raise 21 = .ok (.iconst 5, 1) := by decide +kernel
theorem dX5_raise_22 : decode cX5_raise 22 = .ok (.invokestatic 29, 3) := by decide +kernel
theorem dX5_raise_25 : decode cX5_raise 25 = .ok (.ifCond .ne 9, 3) := by decide +kernel
theorem dX5_raise_28 : decode cX5_raise 28 = .ok (.aload_n 0, 1) := by decide +kernel
theorem dX5_raise_29 : decode cX5_raise 29 = .ok (.iconst 2, 1) := by decide +kernel
theorem dX5_raise_30 : decode cX5_raise 30 = .ok (.invokevirtual 37, 3) := by decide +kernel
theorem dX5_raise_33 : decode cX5_raise 33 = .ok (.ireturn, 1) := by decide +kernel
theorem dX5_raise_34 : decode cX5_raise 34 = .ok (.aload_n 0, 1) := by decide +kernel
theorem dX5_raise_35 : decode cX5_raise 35 = .ok (.iload_n 1, 1) := by decide +kernel
theorem dX5_raise_36 : decode cX5_raise 36 = .ok (.bipush 8, 2) := by decide +kernel
theorem dX5_raise_38 : decode cX5_raise 38 = .ok (.invokevirtual 33, 3) := by decide +kernel
theorem dX5_raise_41 : decode cX5_raise 41 = .ok (.istore_n 3, 1) := by decide +kernel
theorem dX5_raise_42 : decode cX5_raise 42 = .ok (.aload_n 0, 1) := by decide +kernel
theorem dX5_raise_43 : decode cX5_raise 43 = .ok (.iload_n 1, 1) := by decide +kernel
theorem dX5_raise_44 : decode cX5_raise 44 = .ok (.bipush 8, 2) := by decide +kernel
theorem dX5_raise_46 : decode cX5_raise 46 = .ok (.iload_n 2, 1) := by decide +kernel
theorem dX5_raise_47 : decode cX5_raise 47 = .ok (.invokevirtual 54, 3) := by decide +kernel
theorem dX5_raise_50 : decode cX5_raise 50 = .ok (.iload_n 3, 1) := by decide +kernel
theorem dX5_raise_51 : decode cX5_raise 51 = .ok (.ireturn, 1) := by decide +kernel
theorem dX5_say_0 : decode cX5_say 0 = .ok (.bipush 7, 2) := by decide +kernel
theorem dX5_say_2 : decode cX5_say 2 = .ok (.newarray .int, 2) := by decide +kernel
theorem dX5_say_4 : decode cX5_say 4 = .ok (.dup, 1) := by decide +kernel
theorem dX5_say_5 : decode cX5_say 5 = .ok (.iconst 0, 1) := by decide +kernel
theorem dX5_say_6 : decode cX5_say 6 = .ok (.iload_n 2, 1) := by decide +kernel
theorem dX5_say_7 : decode cX5_say 7 = .ok (.bipush 100, 2) := by decide +kernel
theorem dX5_say_9 : decode cX5_say 9 = .ok (.idiv, 1) := by decide +kernel
theorem dX5_say_10 : decode cX5_say 10 = .ok (.iastore, 1) := by decide +kernel
theorem dX5_say_11 : decode cX5_say 11 = .ok (.dup, 1) := by decide +kernel
theorem dX5_say_12 : decode cX5_say 12 = .ok (.iconst 1, 1) := by decide +kernel
theorem dX5_say_13 : decode cX5_say 13 = .ok (.iload_n 2, 1) := by decide +kernel
theorem dX5_say_14 : decode cX5_say 14 = .ok (.bipush 100, 2) := by decide +kernel
theorem dX5_say_16 : decode cX5_say 16 = .ok (.irem, 1) := by decide +kernel
theorem dX5_say_17 : decode cX5_say 17 = .ok (.iastore, 1) := by decide +kernel
theorem dX5_say_18 : decode cX5_say 18 = .ok (.dup, 1) := by decide +kernel
theorem dX5_say_19 : decode cX5_say 19 = .ok (.iconst 2, 1) := by decide +kernel
theorem dX5_say_20 : decode cX5_say 20 = .ok (.iconst (-1), 1) := by decide +kernel
theorem dX5_say_21 : decode cX5_say 21 = .ok (.iastore, 1) := by decide +kernel
theorem dX5_say_22 : decode cX5_say 22 = .ok (.dup, 1) := by decide +kernel
theorem dX5_say_23 : decode cX5_say 23 = .ok (.iconst 3, 1) := by decide +kernel
theorem dX5_say_24 : decode cX5_say 24 = .ok (.iconst (-1), 1) := by decide +kernel
theorem dX5_say_25 : decode cX5_say 25 = .ok (.iastore, 1) := by decide +kernel
theorem dX5_say_26 : decode cX5_say 26 = .ok (.dup, 1) := by decide +kernel
theorem dX5_say_27 : decode cX5_say 27 = .ok (.iconst 4, 1) := by decide +kernel
theorem dX5_say_28 : decode cX5_say 28 = .ok (.iconst 0, 1) := by decide +kernel
theorem dX5_say_29 : decode cX5_say 29 = .ok (.iastore, 1) := by decide +kernel
theorem dX5_say_30 : decode cX5_say 30 = .ok (.dup, 1) := by decide +kernel
theorem dX5_say_31 : decode cX5_say 31 = .ok (.iconst 5, 1) := by decide +kernel
theorem dX5_say_32 : decode cX5_say 32 = .ok (.iconst 0, 1) := by decide +kernel
theorem dX5_say_33 : decode cX5_say 33 = .ok (.iastore, 1) := by decide +kernel
theorem dX5_say_34 : decode cX5_say 34 = .ok (.dup, 1) := by decide +kernel
theorem dX5_say_35 : decode cX5_say 35 = .ok (.bipush 6, 2) := by decide +kernel
theorem dX5_say_37 : decode cX5_say 37 = .ok (.iload_n 3, 1) := by decide +kernel
theorem dX5_say_38 : decode cX5_say 38 = .ok (.iastore, 1) := by decide +kernel
theorem dX5_say_39 : decode cX5_say 39 = .ok (.astore 4, 2) := by decide +kernel
theorem dX5_say_41 : decode cX5_say 41 = .ok (.aload 4, 2) := by decide +kernel
theorem dX5_say_43 : decode cX5_say 43 = .ok (.iconst 0, 1) := by decide +kernel
theorem dX5_say_44 : decode cX5_say 44 = .ok (.aload_n 0, 1) := by decide +kernel
theorem dX5_say_45 : decode cX5_say 45 = .ok (.getfield 9, 3) := by decide +kernel
theorem dX5_say_48 : decode cX5_say 48 = .ok (.bipush 10, 2) := by decide +kernel
theorem dX5_say_50 : decode cX5_say 50 = .ok (.iload_n 1, 1) := by decide +kernel
theorem dX5_say_51 : decode cX5_say 51 = .ok (.imul, 1) := by decide +kernel
theorem dX5_say_52 : decode cX5_say 52 = .ok (.aload 4, 2) := by decide +kernel
theorem dX5_say_54 : decode cX5_say 54 = .ok (.arraylength, 1) := by decide +kernel
theorem dX5_say_55 : decode cX5_say 55 = .ok (.invokestatic 41, 3) := by decide +kernel
theorem dX5_say_58 : decode cX5_say 58 = .ok (.return_, 1) := by decide +kernel
set_option maxRecDepth 20000 in
theorem ggX5_whisper_X5_isParrot : GoodIn wsX5_whisper wsX5_isParrot := goodIn_r _ [6, 7, 8, 9, 5, 10, 36, 37, 38, 39, 40, 41] (by decide +kernel) (by decide +kernel)
set_option maxRecDepth 20000 in
theorem gX5_whisper_X5_isParrot : GoodIn wsX5_whisper (wsV RX5 47 RX5 yX5_isParrot wsX5_isParrot) := goodIn_app (goodIn_of _ (by decide +kernel)) ggX5_whisper_X5_isParrot
set_option maxRecDepth 20000 in
theorem ggX5_whisper_X5_fail : GoodIn wsX5_whisper wsX5_fail := goodIn_r _ [14, 1, 36, 37, 38, 39, 40, 41] (by decide +kernel) (by decide +kernel)
set_option maxRecDepth 20000 in
theorem gX5_whisper_X5_fail : GoodIn wsX5_whisper (wsV RX5 37 RX5 yX5_fail wsX5_fail) := goodIn_app (goodIn_of _ (by decide +kernel)) ggX5_whisper_X5_fail
set_option maxRecDepth 20000 in
theorem ggX5_whisper_X5_isWord : GoodIn wsX5_whisper wsX5_isWord := goodIn_r _ [17, 8, 9, 5, 10] (by decide +kernel) (by decide +kernel)
set_option maxRecDepth 20000 in
theorem gX5_whisper_X5_isWord : GoodIn wsX5_whisper (va_wsS RX5 58 yX5_isWord wsX5_isWord) := goodIn_app (goodIn_of _ (by decide +kernel)) ggX5_whisper_X5_isWord
set_option maxRecDepth 20000 in
theorem ggX5_whisper_X5_isIn : GoodIn wsX5_whisper wsX5_isIn := goodIn_r _ [10] (by decide +kernel) (by decide +kernel)
set_option maxRecDepth 20000 in
theorem gX5_whisper_X5_isIn : GoodIn wsX5_whisper (va_wsS RX5 29 yX5_isIn wsX5_isIn) := goodIn_app (goodIn_of _ (by decide +kernel)) ggX5_whisper_X5_isIn
set_option maxRecDepth 20000 in
theorem ggX5_whisper_X5_word : GoodIn wsX5_whisper wsX5_word := goodIn_r _ [21, 22, 23, 24, 5, 25, 26, 36, 37, 38, 39, 40, 41] (by decide +kernel) (by decide +kernel)
set_option maxRecDepth 20000 in
theorem gX5_whisper_X5_word : GoodIn wsX5_whisper (wsV RX5 61 RX5 yX5_word wsX5_word) := goodIn_app (goodIn_of _ (by decide +kernel)) ggX5_whisper_X5_word
set_option maxRecDepth 20000 in
theorem ggX5_whisper_X5_say : GoodIn wsX5_whisper wsX5_say := goodIn_r _ [30, 31, 26, 32, 33, 34, 35, 36, 37, 38, 39, 40, 41] (by decide +kernel) (by decide +kernel)
set_option maxRecDepth 20000 in
theorem gX5_whisper_X5_say : GoodIn wsX5_whisper (wsV RX5 64 RX5 yX5_say wsX5_say) := goodIn_app (goodIn_of _ (by decide +kernel)) ggX5_whisper_X5_say
theorem dX5_whisper_0 : decode cX5_whisper 0 = .ok (.aload_n 0, 1) := by decide +kernel
theorem dX5_whisper_1 : decode cX5_whisper 1 = .ok (.iconst 0, 1) := by decide +kernel
theorem dX5_whisper_2 : decode cX5_whisper 2 = .ok (.putfield 22, 3) := by decide +kernel
theorem dX5_whisper_5 : decode cX5_whisper 5 = .ok (.aload_n 0, 1) := by decide +kernel
theorem dX5_whisper_6 : decode cX5_whisper 6 = .ok (.iload_n 1, 1) := by decide +kernel
theorem dX5_whisper_7 : decode cX5_whisper 7 = .ok (.invokevirtual 47, 3) := by decide +kernel
theorem dX5_whisper_10 : decode cX5_whisper 10 = .ok (.ifCond .ne 9, 3) := by decide +kernel
theorem dX5_whisper_13 : decode cX5_whisper 13 = .ok (.aload_n 0, 1) := by decide +kernel
theorem dX5_whisper_14 : decode cX5_whisper 14 = .ok (.iconst 1, 1) := by decide +kernel
theorem dX5_whisper_15 : decode cX5_whisper 15 = .ok (.invokevirtual 37, 3) := by decide +kernel
theorem dX5_whisper_18 : decode cX5_whisper 18 = .ok (.ireturn, 1) := by decide +kernel
theorem dX5_whisper_19 : decode cX5_whisper 19 = .ok (.iload_n 2, 1) := by decide +kernel
theorem dX5_whisper_20 : decode cX5_whisper 20 = .ok (.invokestatic 58, 3) := by decide +kernel
theorem dX5_whisper_23 : decode cX5_whisper 23 = .ok (.ifCond .eq 13, 3) := by decide +kernel
theorem dX5_whisper_26 : decode cX5_whisper 26 = .ok (.iload_n 3, 1) := by decide +kernel
theorem dX5_whisper_27 : decode cX5_whisper 27 = .ok (.iconst 0, 1) := by decide +kernel
theorem dX5_whisper_28 : decode cX5_whisper 28 = .ok (.bipush 9, 2) := by decide +kernel
theorem dX5_whisper_30 : decode cX5_whisper 30 = .ok (.invokestatic 29, 3) := by decide +kernel
theorem dX5_whisper_33 : decode cX5_whisper 33 = .ok (.ifCond .ne 9, 3) := by decide +kernel
theorem dX5_whisper_36 : decode cX5_whisper 36 = .ok (.aload_n 0, 1) := by decide +kernel
theorem dX5_whisper_37 : decode cX5_whisper 37 = .ok (.iconst 2, 1) := by decide +kernel
theorem dX5_whisper_38 : decode cX5_whisper 38 = .ok (.invokevirtual 37, 3) := by decide +kernel
theorem dX5_whisper_41 : decode cX5_whisper 41 = .ok (.ireturn, 1) := by decide +kernel
theorem dX5_whisper_42 : decode cX5_whisper 42 = .ok (.aload_n 0, 1) := by decide +kernel
theorem dX5_whisper_43 : decode cX5_whisper 43 = .ok (.iload_n 1, 1) := by decide +kernel
theorem dX5_whisper_44 : decode cX5_whisper 44 = .ok (.invokevirtual 61, 3) := by decide +kernel
theorem dX5_whisper_47 : decode cX5_whisper 47 = .ok (.istore 4, 2) := by decide +kernel
theorem dX5_whisper_49 : decode cX5_whisper 49 = .ok (.aload_n 0, 1) := by decide +kernel
theorem dX5_whisper_50 : decode cX5_whisper 50 = .ok (.iload_n 1, 1) := by decide +kernel
theorem dX5_whisper_51 : decode cX5_whisper 51 = .ok (.iload_n 2, 1) := by decide +kernel
theorem dX5_whisper_52 : decode cX5_whisper 52 = .ok (.iload_n 3, 1) := by decide +kernel
theorem dX5_whisper_53 : decode cX5_whisper 53 = .ok (.invokevirtual 64, 3) := by decide +kernel
theorem dX5_whisper_56 : decode cX5_whisper 56 = .ok (.iload 4, 2) := by decide +kernel
theorem dX5_whisper_58 : decode cX5_whisper 58 = .ok (.ireturn, 1) := by decide +kernel
set_option maxRecDepth 20000 in
theorem ggX5_heard_X5_ju : GoodIn wsX5_heard wsX5_ju := goodIn_r _ [6, 7, 8, 9, 10, 11, 12, 13] (by decide +kernel) (by decide +kernel)
set_option maxRecDepth 20000 in
theorem gX5_heard_X5_ju : GoodIn wsX5_heard (wsV RX5 33 RX5 yX5_ju wsX5_ju) := goodIn_app (goodIn_of _ (by decide +kernel)) ggX5_heard_X5_ju
theorem dX5_heard_0 : decode cX5_heard 0 = .ok (.iconst (-1), 1) := by decide +kernel
theorem dX5_heard_1 : decode cX5_heard 1 = .ok (.istore_n 2, 1) := by decide +kernel
theorem dX5_heard_2 : decode cX5_heard 2 = .ok (.iconst 0, 1) := by decide +kernel
theorem dX5_heard_3 : decode cX5_heard 3 = .ok (.istore_n 3, 1) := by decide +kernel
theorem dX5_heard_4 : decode cX5_heard 4 = .ok (.iload_n 3, 1) := by decide +kernel
theorem dX5_heard_5 : decode cX5_heard 5 = .ok (.aload_n 0, 1) := by decide +kernel
theorem dX5_heard_6 : decode cX5_heard 6 = .ok (.iload_n 1, 1) := by decide +kernel
theorem dX5_heard_7 : decode cX5_heard 7 = .ok (.bipush 9, 2) := by decide +kernel
theorem dX5_heard_9 : decode cX5_heard 9 = .ok (.invokevirtual 33, 3) := by decide +kernel
theorem dX5_heard_12 : decode cX5_heard 12 = .ok (.if_icmp .ge 51, 3) := by decide +kernel
theorem dX5_heard_15 : decode cX5_heard 15 = .ok (.iload_n 2, 1) := by decide +kernel
theorem dX5_heard_16 : decode cX5_heard 16 = .ok (.iconst (-1), 1) := by decide +kernel
theorem dX5_heard_17 : decode cX5_heard 17 = .ok (.if_icmp .eq 29, 3) := by decide +kernel
theorem dX5_heard_20 : decode cX5_heard 20 = .ok (.aload_n 0, 1) := by decide +kernel
theorem dX5_heard_21 : decode cX5_heard 21 = .ok (.aload_n 0, 1) := by decide +kernel
theorem dX5_heard_22 : decode cX5_heard 22 = .ok (.getfield 16, 3) := by decide +kernel
theorem dX5_heard_25 : decode cX5_heard 25 = .ok (.iconst 4, 1) := by decide +kernel
theorem dX5_heard_26 : decode cX5_heard 26 = .ok (.iload_n 1, 1) := by decide +kernel
theorem dX5_heard_27 : decode cX5_heard 27 = .ok (.imul, 1) := by decide +kernel
theorem dX5_heard_28 : decode cX5_heard 28 = .ok (.iload_n 3, 1) := by decide +kernel
theorem dX5_heard_29 : decode cX5_heard 29 = .ok (.iadd, 1) := by decide +kernel
theorem dX5_heard_30 : decode cX5_heard 30 = .ok (.iaload, 1) := by decide +kernel
theorem dX5_heard_31 : decode cX5_heard 31 = .ok (.bipush 8, 2) := by decide +kernel
theorem dX5_heard_33 : decode cX5_heard 33 = .ok (.invokevirtual 33, 3) := by decide +kernel
theorem dX5_heard_36 : decode cX5_heard 36 = .ok (.aload_n 0, 1) := by decide +kernel
theorem dX5_heard_37 : decode cX5_heard 37 = .ok (.iload_n 2, 1) := by decide +kernel
theorem dX5_heard_38 : decode cX5_heard 38 = .ok (.bipush 8, 2) := by decide +kernel
theorem dX5_heard_40 : decode cX5_heard 40 = .ok (.invokevirtual 33, 3) := by decide +kernel
theorem dX5_heard_43 : decode cX5_heard 43 = .ok (.if_icmp .le 14, 3) := by decide +kernel
theorem dX5_heard_46 : decode cX5_heard 46 = .ok (.aload_n 0, 1) := by decide +kernel
theorem dX5_heard_47 : decode cX5_heard 47 = .ok (.getfield 16, 3) := by decide +kernel
theorem dX5_heard_50 : decode cX5_heard 50 = .ok (.iconst 4, 1) := by decide +kernel
theorem dX5_heard_51 : decode cX5_heard 51 = .ok (.iload_n 1, 1) := by decide +kernel
theorem dX5_heard_52 : decode cX5_heard 52 = .ok (.imul, 1) := by decide +kernel
theorem dX5_heard_53 : decode cX5_heard 53 = .ok (.iload_n 3, 1) := by decide +kernel
theorem dX5_heard_54 : decode cX5_heard 54 = .ok (.iadd, 1) := by decide +kernel
theorem dX5_heard_55 : decode cX5_heard 55 = .ok (.iaload, 1) := by decide +kernel
theorem dX5_heard_56 : decode cX5_heard 56 = .ok (.istore_n 2, 1) := by decide +kernel
theorem dX5_heard_57 : decode cX5_heard 57 = .ok (.iinc 3 1, 3) := by decide +kernel
theorem dX5_heard_60 : decode cX5_heard 60 = .ok (.goto (-56), 3) := by decide +kernel
theorem dX5_heard_63 : decode cX5_heard 63 = .ok (.iload_n 2, 1) := by decide +kernel
theorem dX5_heard_64 : decode cX5_heard 64 = .ok (.ireturn, 1) := by decide +kernel
set_option maxRecDepth 20000 in
theorem ggX5_parrotTold_X5_word : GoodIn wsX5_parrotTold wsX5_word := goodIn_r _ [6, 7, 8, 9, 5, 10, 11, 21, 22, 23, 24, 25, 26] (by decide +kernel) (by decide +kernel)
set_option maxRecDepth 20000 in
theorem gX5_parrotTold_X5_word : GoodIn wsX5_parrotTold (wsV RX5 61 RX5 yX5_word wsX5_word) := goodIn_app (goodIn_of _ (by decide +kernel)) ggX5_parrotTold_X5_word
set_option maxRecDepth 20000 in
theorem ggX5_parrotTold_X5_ju : GoodIn wsX5_parrotTold wsX5_ju := goodIn_r _ [10, 11, 21, 22, 23, 24, 25, 26] (by decide +kernel) (by decide +kernel)
set_option maxRecDepth 20000 in
theorem gX5_parrotTold_X5_ju : GoodIn wsX5_parrotTold (wsV RX5 33 RX5 yX5_ju wsX5_ju) := goodIn_app (goodIn_of _ (by decide +kernel)) ggX5_parrotTold_X5_ju
set_option maxRecDepth 20000 in
theorem ggX5_parrotTold_X5_place : GoodIn wsX5_parrotTold wsX5_place := goodIn_r _ [15, 16, 7, 8, 9, 5, 10, 11, 21, 22, 23, 24, 25, 26] (by decide +kernel) (by decide +kernel)
set_option maxRecDepth 20000 in
theorem gX5_parrotTold_X5_place : GoodIn wsX5_parrotTold (wsV RX5 51 RX5 yX5_place wsX5_place) := goodIn_app (goodIn_of _ (by decide +kernel)) ggX5_parrotTold_X5_place
set_option maxRecDepth 20000 in
theorem ggX5_parrotTold_X5_heard : GoodIn wsX5_parrotTold wsX5_heard := goodIn_r _ [20, 16, 7, 8, 9, 5, 10, 11, 21, 22, 23, 24, 25, 26] (by decide +kernel) (by decide +kernel)
set_option maxRecDepth 20000 in
theorem gX5_parrotTold_X5_heard : GoodIn wsX5_parrotTold (wsV RX5 67 RX5 yX5_heard wsX5_heard) := goodIn_app (goodIn_of _ (by decide +kernel)) ggX5_parrotTold_X5_heard
theorem dX5_parrotTold_0 : decode cX5_parrotTold 0 = .ok (.iconst 0, 1) := by decide +kernel
theorem dX5_parrotTold_1 : decode cX5_parrotTold 1 = .ok (.istore_n 3, 1) := by decide +kernel
theorem dX5_parrotTold_2 : decode cX5_parrotTold 2 = .ok (.iload_n 2, 1) := by decide +kernel
theorem dX5_parrotTold_3 : decode cX5_parrotTold 3 = .ok (.tableswitch 114 0 5 #[37, 43, 51, 59, 67, 75], 37) := by decide +kernel
theorem dX5_parrotTold_40 : decode cX5_parrotTold 40 = .ok (.aload_n 0, 1) := by decide +kernel
theorem dX5_parrotTold_41 : decode cX5_parrotTold 41 = .ok (.iload_n 1, 1) := by decide +kernel
theorem dX5_parrotTold_42 : decode cX5_parrotTold 42 = .ok (.invokevirtual 61, 3) := by decide +kernel
theorem dX5_parrotTold_45 : decode cX5_parrotTold 45 = .ok (.ireturn, 1) := by decide +kernel
theorem dX5_parrotTold_46 : decode cX5_parrotTold 46 = .ok (.aload_n 0, 1) := by decide +kernel
theorem dX5_parrotTold_47 : decode cX5_parrotTold 47 = .ok (.iload_n 1, 1) := by decide +kernel
theorem dX5_parrotTold_48 : decode cX5_parrotTold 48 = .ok (.bipush 6, 2) := by decide +kernel
theorem dX5_parrotTold_50 : decode cX5_parrotTold 50 = .ok (.invokevirtual 33, 3) := by decide +kernel
theorem dX5_parrotTold_53 : decode cX5_parrotTold 53 = .ok (.ireturn, 1) := by decide +kernel
theorem dX5_parrotTold_54 : decode cX5_parrotTold 54 = .ok (.aload_n 0, 1) := by decide +kernel
theorem dX5_parrotTold_55 : decode cX5_parrotTold 55 = .ok (.iload_n 1, 1) := by decide +kernel
theorem dX5_parrotTold_56 : decode cX5_parrotTold 56 = .ok (.bipush 7, 2) := by decide +kernel
theorem dX5_parrotTold_58 : decode cX5_parrotTold 58 = .ok (.invokevirtual 33, 3) := by decide +kernel
theorem dX5_parrotTold_61 : decode cX5_parrotTold 61 = .ok (.ireturn, 1) := by decide +kernel
theorem dX5_parrotTold_62 : decode cX5_parrotTold 62 = .ok (.aload_n 0, 1) := by decide +kernel
theorem dX5_parrotTold_63 : decode cX5_parrotTold 63 = .ok (.iload_n 1, 1) := by decide +kernel
theorem dX5_parrotTold_64 : decode cX5_parrotTold 64 = .ok (.bipush 8, 2) := by decide +kernel
theorem dX5_parrotTold_66 : decode cX5_parrotTold 66 = .ok (.invokevirtual 33, 3) := by decide +kernel
theorem dX5_parrotTold_69 : decode cX5_parrotTold 69 = .ok (.ireturn, 1) := by decide +kernel
theorem dX5_parrotTold_70 : decode cX5_parrotTold 70 = .ok (.aload_n 0, 1) := by decide +kernel
theorem dX5_parrotTold_71 : decode cX5_parrotTold 71 = .ok (.iload_n 1, 1) := by decide +kernel
theorem dX5_parrotTold_72 : decode cX5_parrotTold 72 = .ok (.bipush 9, 2) := by decide +kernel
theorem dX5_parrotTold_74 : decode cX5_parrotTold 74 = .ok (.invokevirtual 33, 3) := by decide +kernel
theorem dX5_parrotTold_77 : decode cX5_parrotTold 77 = .ok (.ireturn, 1) := by decide +kernel
theorem dX5_parrotTold_78 : decode cX5_parrotTold 78 = .ok (.iconst 0, 1) := by decide +kernel
theorem dX5_parrotTold_79 : decode cX5_parrotTold 79 = .ok (.istore 4, 2) := by decide +kernel
theorem dX5_parrotTold_81 : decode cX5_parrotTold 81 = .ok (.iload 4, 2) := by decide +kernel
theorem dX5_parrotTold_83 : decode cX5_parrotTold 83 = .ok (.aload_n 0, 1) := by decide +kernel
theorem dX5_parrotTold_84 : decode cX5_parrotTold 84 = .ok (.getfield 26, 3) := by decide +kernel
theorem dX5_parrotTold_87 : decode cX5_parrotTold 87 = .ok (.if_icmp .ge 28, 3) := by decide +kernel
theorem dX5_parrotTold_90 : decode cX5_parrotTold 90 = .ok (.iload_n 3, 1) := by decide +kernel
theorem dX5_parrotTold_91 : decode cX5_parrotTold 91 = .ok (.aload_n 0, 1) := by decide +kernel
theorem dX5_parrotTold_92 : decode cX5_parrotTold 92 = .ok (.iload 4, 2) := by decide +kernel
theorem dX5_parrotTold_94 : decode cX5_parrotTold 94 = .ok (.iload_n 1, 1) := by decide +kernel
theorem dX5_parrotTold_95 : decode cX5_parrotTold 95 = .ok (.invokevirtual 51, 3) := by decide +kernel
theorem dX5_parrotTold_98 : decode cX5_parrotTold 98 = .ok (.iconst (-1), 1) := by decide +kernel
theorem dX5_parrotTold_99 : decode cX5_parrotTold 99 = .ok (.if_icmp .ne 7, 3) := by decide +kernel
theorem dX5_parrotTold_102 : decode cX5_parrotTold 102 = .ok (.iconst 0, 1) := by decide +kernel
theorem dX5_parrotTold_103 : decode cX5_parrotTold 103 = .ok (.goto 4, 3) := by decide +kernel
theorem dX5_parrotTold_106 : decode cX5_parrotTold 106 = .ok (.iconst 1, 1) := by decide +kernel
theorem dX5_parrotTold_107 : decode cX5_parrotTold 107 = .ok (.iadd, 1) := by decide +kernel
theorem dX5_parrotTold_108 : decode cX5_parrotTold 108 = .ok (.istore_n 3, 1) := by decide +kernel
theorem dX5_parrotTold_109 : decode cX5_parrotTold 109 = .ok (.iinc 4 1, 3) := by decide +kernel
theorem dX5_parrotTold_112 : decode cX5_parrotTold 112 = .ok (.goto (-31), 3) := by decide +kernel
theorem dX5_parrotTold_115 : decode cX5_parrotTold 115 = .ok (.iload_n 3, 1) := by decide +kernel
theorem dX5_parrotTold_116 : decode cX5_parrotTold 116 = .ok (.ireturn, 1) := by decide +kernel
theorem dX5_parrotTold_117 : decode cX5_parrotTold 117 = .ok (.aload_n 0, 1) := by decide +kernel
theorem dX5_parrotTold_118 : decode cX5_parrotTold 118 = .ok (.iload_n 1, 1) := by decide +kernel
theorem dX5_parrotTold_119 : decode cX5_parrotTold 119 = .ok (.invokevirtual 67, 3) := by decide +kernel
theorem dX5_parrotTold_122 : decode cX5_parrotTold 122 = .ok (.ireturn, 1) := by decide +kernel
set_option maxRecDepth 20000 in
theorem ggX5_parrot_X5_isParrot : GoodIn wsX5_parrot wsX5_isParrot := goodIn_r _ [6, 7, 8, 9, 5, 10, 37, 38, 39, 40, 41, 42] (by decide +kernel) (by decide +kernel)
set_option maxRecDepth 20000 in
theorem gX5_parrot_X5_isParrot : GoodIn wsX5_parrot (wsV RX5 47 RX5 yX5_isParrot wsX5_isParrot) := goodIn_app (goodIn_of _ (by decide +kernel)) ggX5_parrot_X5_isParrot
set_option maxRecDepth 20000 in
theorem ggX5_parrot_X5_isIn : GoodIn wsX5_parrot wsX5_isIn := goodIn_r _ [10] (by decide +kernel) (by decide +kernel)
set_option maxRecDepth 20000 in
theorem gX5_parrot_X5_isIn : GoodIn wsX5_parrot (va_wsS RX5 29 yX5_isIn wsX5_isIn) := goodIn_app (goodIn_of _ (by decide +kernel)) ggX5_parrot_X5_isIn
set_option maxRecDepth 20000 in
theorem ggX5_parrot_X5_parrotTold : GoodIn wsX5_parrot wsX5_parrotTold := goodIn_r _ [14, 7, 15, 16, 17, 5, 18, 19, 20, 21, 22, 23, 24, 25, 26, 27, 28, 29, 30, 31, 32, 37, 38, 39, 40, 41, 42] (by decide +kernel) (by decide +kernel)
set_option maxRecDepth 20000 in
theorem gX5_parrot_X5_parrotTold : GoodIn wsX5_parrot (wsV RX5 70 RX5 yX5_parrotTold wsX5_parrotTold) := goodIn_app (goodIn_of _ (by decide +kernel)) ggX5_parrot_X5_parrotTold
set_option maxRecDepth 20000 in
theorem ggX5_parrot_X5_fail : GoodIn wsX5_parrot wsX5_fail := goodIn_r _ [36, 1, 37, 38, 39, 40, 41, 42] (by decide +kernel) (by decide +kernel)
set_option maxRecDepth 20000 in
theorem gX5_parrot_X5_fail : GoodIn wsX5_parrot (wsV RX5 37 RX5 yX5_fail wsX5_fail) := goodIn_app (goodIn_of _ (by decide +kernel)) ggX5_parrot_X5_fail
theorem dX5_parrot_0 : decode cX5_parrot 0 = .ok (.aload_n 0, 1) := by decide +kernel
theorem dX5_parrot_1 : decode cX5_parrot 1 = .ok (.iconst 0, 1) := by decide +kernel
theorem dX5_parrot_2 : decode cX5_parrot 2 = .ok (.putfield 22, 3) := by decide +kernel
theorem dX5_parrot_5 : decode cX5_parrot 5 = .ok (.aload_n 0, 1) := by decide +kernel
theorem dX5_parrot_6 : decode cX5_parrot 6 = .ok (.iload_n 1, 1) := by decide +kernel
theorem dX5_parrot_7 : decode cX5_parrot 7 = .ok (.invokevirtual 47, 3) := by decide +kernel
theorem dX5_parrot_10 : decode cX5_parrot 10 = .ok (.ifCond .eq 22, 3) := by decide +kernel
theorem dX5_parrot_13 : decode cX5_parrot 13 = .ok (.iload_n 2, 1) := by decide +kernel
theorem dX5_parrot_14 : decode cX5_parrot 14 = .ok (.iconst 0, 1) := by decide +kernel
theorem dX5_parrot_15 : decode cX5_parrot 15 = .ok (.bipush 6, 2) := by decide +kernel
theorem dX5_parrot_17 : decode cX5_parrot 17 = .ok (.invokestatic 29, 3) := by decide +kernel
theorem dX5_parrot_20 : decode cX5_parrot 20 = .ok (.ifCond .eq 12, 3) := by decide +kernel
theorem dX5_parrot_23 : decode cX5_parrot 23 = .ok (.aload_n 0, 1) := by decide +kernel
theorem dX5_parrot_24 : decode cX5_parrot 24 = .ok (.iload_n 1, 1) := by decide +kernel
theorem dX5_parrot_25 : decode cX5_parrot 25 = .ok (.iload_n 2, 1) := by decide +kernel
theorem dX5_parrot_26 : decode cX5_parrot 26 = .ok (.invokevirtual 70, 3) := by decide +kernel
theorem dX5_parrot_29 : decode cX5_parrot 29 = .ok (.goto 8, 3) := by decide +kernel
theorem dX5_parrot_32 : decode cX5_parrot 32 = .ok (.aload_n 0, 1) := by decide +kernel
theorem dX5_parrot_33 : decode cX5_parrot 33 = .ok (.iconst 1, 1) := by decide +kernel
theorem dX5_parrot_34 : decode cX5_parrot 34 = .ok (.invokevirtual 37, 3) := by decide +kernel
theorem dX5_parrot_37 : decode cX5_parrot 37 = .ok (.ireturn, 1) := by decide +kernel
set_option maxRecDepth 20000 in
theorem ggX5_halfTold_X5_ju : GoodIn wsX5_halfTold wsX5_ju := goodIn_r _ [5, 6, 7, 8, 9, 10, 11, 12] (by decide +kernel) (by decide +kernel)
set_option maxRecDepth 20000 in
theorem gX5_halfTold_X5_ju : GoodIn wsX5_halfTold (wsV RX5 33 RX5 yX5_ju wsX5_ju) := goodIn_app (goodIn_of _ (by decide +kernel)) ggX5_halfTold_X5_ju
theorem dX5_halfTold_0 : decode cX5_halfTold 0 = .ok (.aload_n 0, 1) := by decide +kernel
theorem dX5_halfTold_1 : decode cX5_halfTold 1 = .ok (.iload_n 1, 1) := by decide +kernel
theorem dX5_halfTold_2 : decode cX5_halfTold 2 = .ok (.iload_n 2, 1) := by decide +kernel
theorem dX5_halfTold_3 : decode cX5_halfTold 3 = .ok (.iload_n 3, 1) := by decide +kernel
theorem dX5_halfTold_4 : decode cX5_halfTold 4 = .ok (.ifCond .ne 7, 3) := by decide +kernel
theorem dX5_halfTold_7 : decode cX5_halfTold 7 = .ok (.iconst 0, 1) := by decide +kernel
theorem dX5_halfTold_8 : decode cX5_halfTold 8 = .ok (.goto 13, 3) := by decide +kernel
theorem dX5_halfTold_11 : decode cX5_halfTold 11 = .ok (.iload_n 3, 1) := by decide +kernel
theorem dX5_halfTold_12 : decode cX5_halfTold 12 = .ok (.iconst 1, 1) := by decide +kernel
theorem dX5_halfTold_13 : decode cX5_halfTold 13 = .ok (.if_icmp .ne 7, 3) := by decide +kernel
theorem dX5_halfTold_16 : decode cX5_halfTold 16 = .ok (.iconst 2, 1) := by decide +kernel
theorem dX5_halfTold_17 : decode cX5_halfTold 17 = .ok (.goto 4, 3) := by decide +kernel
theorem dX5_halfTold_20 : decode cX5_halfTold 20 = .ok (.iconst 4, 1) := by decide +kernel
theorem dX5_halfTold_21 : decode cX5_halfTold 21 = .ok (.iadd, 1) := by decide +kernel
theorem dX5_halfTold_22 : decode cX5_halfTold 22 = .ok (.invokevirtual 33, 3) := by decide +kernel
theorem dX5_halfTold_25 : decode cX5_halfTold 25 = .ok (.ireturn, 1) := by decide +kernel
set_option maxRecDepth 20000 in
theorem ggX5_half_X5_isParrot : GoodIn wsX5_half wsX5_isParrot := goodIn_r _ [6, 7, 8, 9, 5, 10, 24, 25, 26, 27, 28, 29] (by decide +kernel) (by decide +kernel)
set_option maxRecDepth 20000 in
theorem gX5_half_X5_isParrot : GoodIn wsX5_half (wsV RX5 47 RX5 yX5_isParrot wsX5_isParrot) := goodIn_app (goodIn_of _ (by decide +kernel)) ggX5_half_X5_isParrot
set_option maxRecDepth 20000 in
theorem ggX5_half_X5_isIn : GoodIn wsX5_half wsX5_isIn := goodIn_r _ [10] (by decide +kernel) (by decide +kernel)
set_option maxRecDepth 20000 in
theorem gX5_half_X5_isIn : GoodIn wsX5_half (va_wsS RX5 29 yX5_isIn wsX5_isIn) := goodIn_app (goodIn_of _ (by decide +kernel)) ggX5_half_X5_isIn
set_option maxRecDepth 20000 in
theorem ggX5_half_X5_halfTold : GoodIn wsX5_half wsX5_halfTold := goodIn_r _ [14, 15, 16, 17, 5, 18, 19, 24, 25, 26, 27, 28, 29] (by decide +kernel) (by decide +kernel)
set_option maxRecDepth 20000 in
theorem gX5_half_X5_halfTold : GoodIn wsX5_half (wsV RX5 73 RX5 yX5_halfTold wsX5_halfTold) := goodIn_app (goodIn_of _ (by decide +kernel)) ggX5_half_X5_halfTold
set_option maxRecDepth 20000 in
theorem ggX5_half_X5_fail : GoodIn wsX5_half wsX5_fail := goodIn_r _ [23, 1, 24, 25, 26, 27, 28, 29] (by decide +kernel) (by decide +kernel)
set_option maxRecDepth 20000 in
theorem gX5_half_X5_fail : GoodIn wsX5_half (wsV RX5 37 RX5 yX5_fail wsX5_fail) := goodIn_app (goodIn_of _ (by decide +kernel)) ggX5_half_X5_fail
theorem dX5_half_0 : decode cX5_half 0 = .ok (.aload_n 0, 1) := by decide +kernel
theorem dX5_half_1 : decode cX5_half 1 = .ok (.iconst 0, 1) := by decide +kernel
theorem dX5_half_2 : decode cX5_half 2 = .ok (.putfield 22, 3) := by decide +kernel
theorem dX5_half_5 : decode cX5_half 5 = .ok (.aload_n 0, 1) := by decide +kernel
theorem dX5_half_6 : decode cX5_half 6 = .ok (.iload_n 1, 1) := by decide +kernel
theorem dX5_half_7 : decode cX5_half 7 = .ok (.invokevirtual 47, 3) := by decide +kernel
theorem dX5_half_10 : decode cX5_half 10 = .ok (.ifCond .eq 30, 3) := by decide +kernel
theorem dX5_half_13 : decode cX5_half 13 = .ok (.iload_n 3, 1) := by decide +kernel
theorem dX5_half_14 : decode cX5_half 14 = .ok (.iconst 0, 1) := by decide +kernel
theorem dX5_half_15 : decode cX5_half 15 = .ok (.iconst 2, 1) := by decide +kernel
theorem dX5_half_16 : decode cX5_half 16 = .ok (.invokestatic 29, 3) := by decide +kernel
theorem dX5_half_19 : decode cX5_half 19 = .ok (.ifCond .eq 21, 3) := by decide +kernel
theorem dX5_half_22 : decode cX5_half 22 = .ok (.aload_n 0, 1) := by decide +kernel
theorem dX5_half_23 : decode cX5_half 23 = .ok (.iload_n 1, 1) := by decide +kernel
theorem dX5_half_24 : decode cX5_half 24 = .ok (.iload_n 2, 1) := by decide +kernel
theorem dX5_half_25 : decode cX5_half 25 = .ok (.ifCond .eq 7, 3) := by decide +kernel
theorem dX5_half_28 : decode cX5_half 28 = .ok (.iconst 1, 1) := by decide +kernel
theorem dX5_half_29 : decode cX5_half 29 = .ok (.goto 4, 3) := by decide +kernel
theorem dX5_half_32 : decode cX5_half 32 = .ok (.iconst 0, 1) := by decide +kernel
theorem dX5_half_33 : decode cX5_half 33 = .ok (.iload_n 3, 1) := by decide +kernel
theorem dX5_half_34 : decode cX5_half 34 = .ok (.invokevirtual 73, 3) := by decide +kernel
theorem dX5_half_37 : decode cX5_half 37 = .ok (.goto 8, 3) := by decide +kernel
theorem dX5_half_40 : decode cX5_half 40 = .ok (.aload_n 0, 1) := by decide +kernel
theorem dX5_half_41 : decode cX5_half 41 = .ok (.iconst 1, 1) := by decide +kernel
theorem dX5_half_42 : decode cX5_half 42 = .ok (.invokevirtual 37, 3) := by decide +kernel
theorem dX5_half_45 : decode cX5_half 45 = .ok (.ireturn, 1) := by decide +kernel
set_option maxRecDepth 20000 in
theorem ggX5_hears_X5_isParrot : GoodIn wsX5_hears wsX5_isParrot := goodIn_r _ [7, 8, 9, 10, 6, 11, 21, 22, 23, 24, 25, 26] (by decide +kernel) (by decide +kernel)
set_option maxRecDepth 20000 in
theorem gX5_hears_X5_isParrot : GoodIn wsX5_hears (wsV RX5 47 RX5 yX5_isParrot wsX5_isParrot) := goodIn_app (goodIn_of _ (by decide +kernel)) ggX5_hears_X5_isParrot
set_option maxRecDepth 20000 in
theorem ggX5_hears_X5_ju : GoodIn wsX5_hears wsX5_ju := goodIn_r _ [15, 16, 21, 22, 23, 24, 25, 26] (by decide +kernel) (by decide +kernel)
set_option maxRecDepth 20000 in
theorem gX5_hears_X5_ju : GoodIn wsX5_hears (wsV RX5 33 RX5 yX5_ju wsX5_ju) := goodIn_app (goodIn_of _ (by decide +kernel)) ggX5_hears_X5_ju
set_option maxRecDepth 20000 in
theorem ggX5_hears_X5_isIn : GoodIn wsX5_hears wsX5_isIn := goodIn_r _ [11] (by decide +kernel) (by decide +kernel)
set_option maxRecDepth 20000 in
theorem gX5_hears_X5_isIn : GoodIn wsX5_hears (va_wsS RX5 29 yX5_isIn wsX5_isIn) := goodIn_app (goodIn_of _ (by decide +kernel)) ggX5_hears_X5_isIn
set_option maxRecDepth 20000 in
theorem ggX5_hears_X5_fail : GoodIn wsX5_hears wsX5_fail := goodIn_r _ [20, 1, 21, 22, 23, 24, 25, 26] (by decide +kernel) (by decide +kernel)
set_option maxRecDepth 20000 in
theorem gX5_hears_X5_fail : GoodIn wsX5_hears (wsV RX5 37 RX5 yX5_fail wsX5_fail) := goodIn_app (goodIn_of _ (by decide +kernel)) ggX5_hears_X5_fail
theorem dX5_hears_0 : decode cX5_hears 0 = .ok (.aload_n 0, 1) := by decide +kernel
theorem dX5_hears_1 : decode cX5_hears 1 = .ok (.iconst 0, 1) := by decide +kernel
theorem dX5_hears_2 : decode cX5_hears 2 = .ok (.putfield 22, 3) := by decide +kernel
theorem dX5_hears_5 : decode cX5_hears 5 = .ok (.aload_n 0, 1) := by decide +kernel
theorem dX5_hears_6 : decode cX5_hears 6 = .ok (.iload_n 1, 1) := by decide +kernel
theorem dX5_hears_7 : decode cX5_hears 7 = .ok (.invokevirtual 47, 3) := by decide +kernel
theorem dX5_hears_10 : decode cX5_hears 10 = .ok (.ifCond .eq 33, 3) := by decide +kernel
theorem dX5_hears_13 : decode cX5_hears 13 = .ok (.iload_n 2, 1) := by decide +kernel
theorem dX5_hears_14 : decode cX5_hears 14 = .ok (.iconst 0, 1) := by decide +kernel
theorem dX5_hears_15 : decode cX5_hears 15 = .ok (.aload_n 0, 1) := by decide +kernel
theorem dX5_hears_16 : decode cX5_hears 16 = .ok (.iload_n 1, 1) := by decide +kernel
theorem dX5_hears_17 : decode cX5_hears 17 = .ok (.bipush 9, 2) := by decide +kernel
theorem dX5_hears_19 : decode cX5_hears 19 = .ok (.invokevirtual 33, 3) := by decide +kernel
theorem dX5_hears_22 : decode cX5_hears 22 = .ok (.iconst 1, 1) := by decide +kernel
theorem dX5_hears_23 : decode cX5_hears 23 = .ok (.isub, 1) := by decide +kernel
theorem dX5_hears_24 : decode cX5_hears 24 = .ok (.invokestatic 29, 3) := by decide +kernel
theorem dX5_hears_27 : decode cX5_hears 27 = .ok (.ifCond .eq 16, 3) := by decide +kernel
theorem dX5_hears_30 : decode cX5_hears 30 = .ok (.aload_n 0, 1) := by decide +kernel
theorem dX5_hears_31 : decode cX5_hears 31 = .ok (.getfield 16, 3) := by decide +kernel
theorem dX5_hears_34 : decode cX5_hears 34 = .ok (.iconst 4, 1) := by decide +kernel
theorem dX5_hears_35 : decode cX5_hears 35 = .ok (.iload_n 1, 1) := by decide +kernel
theorem dX5_hears_36 : decode cX5_hears 36 = .ok (.imul, 1) := by decide +kernel
theorem dX5_hears_37 : decode cX5_hears 37 = .ok (.iload_n 2, 1) := by decide +kernel
theorem dX5_hears_38 : decode cX5_hears 38 = .ok (.iadd, 1) := by decide +kernel
theorem dX5_hears_39 : decode cX5_hears 39 = .ok (.iaload, 1) := by decide +kernel
theorem dX5_hears_40 : decode cX5_hears 40 = .ok (.goto 8, 3) := by decide +kernel
theorem dX5_hears_43 : decode cX5_hears 43 = .ok (.aload_n 0, 1) := by decide +kernel
theorem dX5_hears_44 : decode cX5_hears 44 = .ok (.iconst 1, 1) := by decide +kernel
theorem dX5_hears_45 : decode cX5_hears 45 = .ok (.invokevirtual 37, 3) := by decide +kernel
theorem dX5_hears_48 : decode cX5_hears 48 = .ok (.ireturn, 1) := by decide +kernel
set_option maxRecDepth 20000 in
theorem ggX5_votesFor_X5_word : GoodIn wsX5_votesFor wsX5_word := goodIn_r _ [6, 7, 8, 9, 5, 10, 11, 12, 13, 14, 15, 16, 17] (by decide +kernel) (by decide +kernel)
set_option maxRecDepth 20000 in
theorem gX5_votesFor_X5_word : GoodIn wsX5_votesFor (wsV RX5 61 RX5 yX5_word wsX5_word) := goodIn_app (goodIn_of _ (by decide +kernel)) ggX5_votesFor_X5_word
theorem dX5_votesFor_0 : decode cX5_votesFor 0 = .ok (.iconst 0, 1) := by decide +kernel
theorem dX5_votesFor_1 : decode cX5_votesFor 1 = .ok (.istore_n 2, 1) := by decide +kernel
theorem dX5_votesFor_2 : decode cX5_votesFor 2 = .ok (.iconst 0, 1) := by decide +kernel
theorem dX5_votesFor_3 : decode cX5_votesFor 3 = .ok (.istore_n 3, 1) := by decide +kernel
theorem dX5_votesFor_4 : decode cX5_votesFor 4 = .ok (.iload_n 3, 1) := by decide +kernel
theorem dX5_votesFor_5 : decode cX5_votesFor 5 = .ok (.aload_n 0, 1) := by decide +kernel
theorem dX5_votesFor_6 : decode cX5_votesFor 6 = .ok (.getfield 26, 3) := by decide +kernel
theorem dX5_votesFor_9 : decode cX5_votesFor 9 = .ok (.if_icmp .ge 26, 3) := by decide +kernel
theorem dX5_votesFor_12 : decode cX5_votesFor 12 = .ok (.iload_n 2, 1) := by decide +kernel
theorem dX5_votesFor_13 : decode cX5_votesFor 13 = .ok (.aload_n 0, 1) := by decide +kernel
theorem dX5_votesFor_14 : decode cX5_votesFor 14 = .ok (.iload_n 3, 1) := by decide +kernel
theorem dX5_votesFor_15 : decode cX5_votesFor 15 = .ok (.invokevirtual 61, 3) := by decide +kernel
theorem dX5_votesFor_18 : decode cX5_votesFor 18 = .ok (.iload_n 1, 1) := by decide +kernel
theorem dX5_votesFor_19 : decode cX5_votesFor 19 = .ok (.if_icmp .ne 7, 3) := by decide +kernel
theorem dX5_votesFor_22 : decode cX5_votesFor 22 = .ok (.iconst 1, 1) := by decide +kernel
theorem dX5_votesFor_23 : decode cX5_votesFor 23 = .ok (.goto 4, 3) := by decide +kernel
theorem dX5_votesFor_26 : decode cX5_votesFor 26 = .ok (.iconst 0, 1) := by decide +kernel
theorem dX5_votesFor_27 : decode cX5_votesFor 27 = .ok (.iadd, 1) := by decide +kernel
theorem dX5_votesFor_28 : decode cX5_votesFor 28 = .ok (.istore_n 2, 1) := by decide +kernel
theorem dX5_votesFor_29 : decode cX5_votesFor 29 = .ok (.iinc 3 1, 3) := by decide +kernel
theorem dX5_votesFor_32 : decode cX5_votesFor 32 = .ok (.goto (-28), 3) := by decide +kernel
theorem dX5_votesFor_35 : decode cX5_votesFor 35 = .ok (.iload_n 2, 1) := by decide +kernel
theorem dX5_votesFor_36 : decode cX5_votesFor 36 = .ok (.ireturn, 1) := by decide +kernel
set_option maxRecDepth 20000 in
theorem ggX5_votes_X5_isWord : GoodIn wsX5_votes wsX5_isWord := goodIn_r _ [5, 6, 7, 4, 8] (by decide +kernel) (by decide +kernel)
set_option maxRecDepth 20000 in
theorem gX5_votes_X5_isWord : GoodIn wsX5_votes (va_wsS RX5 58 yX5_isWord wsX5_isWord) := goodIn_app (goodIn_of _ (by decide +kernel)) ggX5_votes_X5_isWord
set_option maxRecDepth 20000 in
theorem ggX5_votes_X5_votesFor : GoodIn wsX5_votes wsX5_votesFor := goodIn_r _ [12, 13, 14, 15, 16, 4, 17, 18, 19, 20, 21, 22, 27, 28, 29, 30, 31, 32] (by decide +kernel) (by decide +kernel)
set_option maxRecDepth 20000 in
theorem gX5_votes_X5_votesFor : GoodIn wsX5_votes (wsV RX5 77 RX5 yX5_votesFor wsX5_votesFor) := goodIn_app (goodIn_of _ (by decide +kernel)) ggX5_votes_X5_votesFor
set_option maxRecDepth 20000 in
theorem ggX5_votes_X5_fail : GoodIn wsX5_votes wsX5_fail := goodIn_r _ [26, 1, 27, 28, 29, 30, 31, 32] (by decide +kernel) (by decide +kernel)
set_option maxRecDepth 20000 in
theorem gX5_votes_X5_fail : GoodIn wsX5_votes (wsV RX5 37 RX5 yX5_fail wsX5_fail) := goodIn_app (goodIn_of _ (by decide +kernel)) ggX5_votes_X5_fail
theorem dX5_votes_0 : decode cX5_votes 0 = .ok (.aload_n 0, 1) := by decide +kernel
theorem dX5_votes_1 : decode cX5_votes 1 = .ok (.iconst 0, 1) := by decide +kernel
theorem dX5_votes_2 : decode cX5_votes 2 = .ok (.putfield 22, 3) := by decide +kernel
theorem dX5_votes_5 : decode cX5_votes 5 = .ok (.iload_n 1, 1) := by decide +kernel
theorem dX5_votes_6 : decode cX5_votes 6 = .ok (.invokestatic 58, 3) := by decide +kernel
theorem dX5_votes_9 : decode cX5_votes 9 = .ok (.ifCond .eq 11, 3) := by decide +kernel
theorem dX5_votes_12 : decode cX5_votes 12 = .ok (.aload_n 0, 1) := by decide +kernel
theorem dX5_votes_13 : decode cX5_votes 13 = .ok (.iload_n 1, 1) := by decide +kernel
theorem dX5_votes_14 : decode cX5_votes 14 = .ok (.invokevirtual 77, 3) := by decide +kernel
theorem dX5_votes_17 : decode cX5_votes 17 = .ok (.goto 8, 3) := by decide +kernel
theorem dX5_votes_20 : decode cX5_votes 20 = .ok (.aload_n 0, 1) := by decide +kernel
theorem dX5_votes_21 : decode cX5_votes 21 = .ok (.iconst 1, 1) := by decide +kernel
theorem dX5_votes_22 : decode cX5_votes 22 = .ok (.invokevirtual 37, 3) := by decide +kernel
theorem dX5_votes_25 : decode cX5_votes 25 = .ok (.ireturn, 1) := by decide +kernel
set_option maxRecDepth 20000 in
theorem ggX5_verdict_X5_word : GoodIn wsX5_verdict wsX5_word := goodIn_r _ [7, 8, 9, 10, 6, 11, 12, 17, 18, 19, 20, 21, 22] (by decide +kernel) (by decide +kernel)
set_option maxRecDepth 20000 in
theorem gX5_verdict_X5_word : GoodIn wsX5_verdict (wsV RX5 61 RX5 yX5_word wsX5_word) := goodIn_app (goodIn_of _ (by decide +kernel)) ggX5_verdict_X5_word
set_option maxRecDepth 20000 in
theorem ggX5_verdict_X5_votesFor : GoodIn wsX5_verdict wsX5_votesFor := goodIn_r _ [16, 2, 3, 4, 5, 6, 7, 8, 9, 10, 11, 12, 17, 18, 19, 20, 21, 22] (by decide +kernel) (by decide +kernel)
set_option maxRecDepth 20000 in
theorem gX5_verdict_X5_votesFor : GoodIn wsX5_verdict (wsV RX5 77 RX5 yX5_votesFor wsX5_votesFor) := goodIn_app (goodIn_of _ (by decide +kernel)) ggX5_verdict_X5_votesFor
theorem dX5_verdict_0 : decode cX5_verdict 0 = .ok (.aload_n 0, 1) := by decide +kernel
theorem dX5_verdict_1 : decode cX5_verdict 1 = .ok (.iconst 0, 1) := by decide +kernel
theorem dX5_verdict_2 : decode cX5_verdict 2 = .ok (.putfield 22, 3) := by decide +kernel
theorem dX5_verdict_5 : decode cX5_verdict 5 = .ok (.iconst (-1), 1) := by decide +kernel
theorem dX5_verdict_6 : decode cX5_verdict 6 = .ok (.istore_n 1, 1) := by decide +kernel
theorem dX5_verdict_7 : decode cX5_verdict 7 = .ok (.iconst 0, 1) := by decide +kernel
theorem dX5_verdict_8 : decode cX5_verdict 8 = .ok (.istore_n 2, 1) := by decide +kernel
theorem dX5_verdict_9 : decode cX5_verdict 9 = .ok (.iload_n 2, 1) := by decide +kernel
theorem dX5_verdict_10 : decode cX5_verdict 10 = .ok (.aload_n 0, 1) := by decide +kernel
theorem dX5_verdict_11 : decode cX5_verdict 11 = .ok (.getfield 26, 3) := by decide +kernel
theorem dX5_verdict_14 : decode cX5_verdict 14 = .ok (.if_icmp .ge 37, 3) := by decide +kernel
theorem dX5_verdict_17 : decode cX5_verdict 17 = .ok (.iload_n 1, 1) := by decide +kernel
theorem dX5_verdict_18 : decode cX5_verdict 18 = .ok (.iconst (-1), 1) := by decide +kernel
theorem dX5_verdict_19 : decode cX5_verdict 19 = .ok (.if_icmp .eq 20, 3) := by decide +kernel
theorem dX5_verdict_22 : decode cX5_verdict 22 = .ok (.aload_n 0, 1) := by decide +kernel
theorem dX5_verdict_23 : decode cX5_verdict 23 = .ok (.aload_n 0, 1) := by decide +kernel
theorem dX5_verdict_24 : decode cX5_verdict 24 = .ok (.iload_n 2, 1) := by decide +kernel
theorem dX5_verdict_25 : decode cX5_verdict 25 = .ok (.invokevirtual 61, 3) := by decide +kernel
theorem dX5_verdict_28 : decode cX5_verdict 28 = .ok (.invokevirtual 77, 3) := by decide +kernel
theorem dX5_verdict_31 : decode cX5_verdict 31 = .ok (.aload_n 0, 1) := by decide +kernel
theorem dX5_verdict_32 : decode cX5_verdict 32 = .ok (.iload_n 1, 1) := by decide +kernel
theorem dX5_verdict_33 : decode cX5_verdict 33 = .ok (.invokevirtual 77, 3) := by decide +kernel
theorem dX5_verdict_36 : decode cX5_verdict 36 = .ok (.if_icmp .le 9, 3) := by decide +kernel
theorem dX5_verdict_39 : decode cX5_verdict 39 = .ok (.aload_n 0, 1) := by decide +kernel
theorem dX5_verdict_40 : decode cX5_verdict 40 = .ok (.iload_n 2, 1) := by decide +kernel
theorem dX5_verdict_41 : decode cX5_verdict 41 = .ok (.invokevirtual 61, 3) := by decide +kernel
theorem dX5_verdict_44 : decode cX5_verdict 44 = .ok (.istore_n 1, 1) := by decide +kernel
theorem dX5_verdict_45 : decode cX5_verdict 45 = .ok (.iinc 2 1, 3) := by decide +kernel
theorem dX5_verdict_48 : decode cX5_verdict 48 = .ok (.goto (-39), 3) := by decide +kernel
theorem dX5_verdict_51 : decode cX5_verdict 51 = .ok (.iload_n 1, 1) := by decide +kernel
theorem dX5_verdict_52 : decode cX5_verdict 52 = .ok (.ireturn, 1) := by decide +kernel
set_option maxRecDepth 20000 in
theorem ggX5_left_X5_isWord : GoodIn wsX5_left wsX5_isWord := goodIn_r _ [6, 7, 8, 5, 9] (by decide +kernel) (by decide +kernel)
set_option maxRecDepth 20000 in
theorem gX5_left_X5_isWord : GoodIn wsX5_left (va_wsS RX5 58 yX5_isWord wsX5_isWord) := goodIn_app (goodIn_of _ (by decide +kernel)) ggX5_left_X5_isWord
set_option maxRecDepth 20000 in
theorem ggX5_left_X5_fail : GoodIn wsX5_left wsX5_fail := goodIn_r _ [13, 1, 19, 20, 21, 22, 23, 24] (by decide +kernel) (by decide +kernel)
set_option maxRecDepth 20000 in
theorem gX5_left_X5_fail : GoodIn wsX5_left (wsV RX5 37 RX5 yX5_fail wsX5_fail) := goodIn_app (goodIn_of _ (by decide +kernel)) ggX5_left_X5_fail
set_option maxRecDepth 20000 in
theorem ggX5_left_X5_ju : GoodIn wsX5_left wsX5_ju := goodIn_r _ [17, 18, 19, 20, 21, 22, 23, 24] (by decide +kernel) (by decide +kernel)
set_option maxRecDepth 20000 in
theorem gX5_left_X5_ju : GoodIn wsX5_left (wsV RX5 33 RX5 yX5_ju wsX5_ju) := goodIn_app (goodIn_of _ (by decide +kernel)) ggX5_left_X5_ju
theorem dX5_left_0 : decode cX5_left 0 = .ok (.aload_n 0, 1) := by decide +kernel
theorem dX5_left_1 : decode cX5_left 1 = .ok (.iconst 0, 1) := by decide +kernel
theorem dX5_left_2 : decode cX5_left 2 = .ok (.putfield 22, 3) := by decide +kernel
theorem dX5_left_5 : decode cX5_left 5 = .ok (.iload_n 1, 1) := by decide +kernel
theorem dX5_left_6 : decode cX5_left 6 = .ok (.invokestatic 58, 3) := by decide +kernel
theorem dX5_left_9 : decode cX5_left 9 = .ok (.ifCond .ne 9, 3) := by decide +kernel
theorem dX5_left_12 : decode cX5_left 12 = .ok (.aload_n 0, 1) := by decide +kernel
theorem dX5_left_13 : decode cX5_left 13 = .ok (.iconst 1, 1) := by decide +kernel
theorem dX5_left_14 : decode cX5_left 14 = .ok (.invokevirtual 37, 3) := by decide +kernel
theorem dX5_left_17 : decode cX5_left 17 = .ok (.ireturn, 1) := by decide +kernel
theorem dX5_left_18 : decode cX5_left 18 = .ok (.iconst 0, 1) := by decide +kernel
theorem dX5_left_19 : decode cX5_left 19 = .ok (.istore_n 2, 1) := by decide +kernel
theorem dX5_left_20 : decode cX5_left 20 = .ok (.iconst 0, 1) := by decide +kernel
theorem dX5_left_21 : decode cX5_left 21 = .ok (.istore_n 3, 1) := by decide +kernel
theorem dX5_left_22 : decode cX5_left 22 = .ok (.iload_n 3, 1) := by decide +kernel
theorem dX5_left_23 : decode cX5_left 23 = .ok (.aload_n 0, 1) := by decide +kernel
theorem dX5_left_24 : decode cX5_left 24 = .ok (.getfield 26, 3) := by decide +kernel
theorem dX5_left_27 : decode cX5_left 27 = .ok (.if_icmp .ge 49, 3) := by decide +kernel
theorem dX5_left_30 : decode cX5_left 30 = .ok (.iload_n 2, 1) := by decide +kernel
theorem dX5_left_31 : decode cX5_left 31 = .ok (.aload_n 0, 1) := by decide +kernel
theorem dX5_left_32 : decode cX5_left 32 = .ok (.iload_n 3, 1) := by decide +kernel
theorem dX5_left_33 : decode cX5_left 33 = .ok (.iconst 0, 1) := by decide +kernel
theorem dX5_left_34 : decode cX5_left 34 = .ok (.invokevirtual 33, 3) := by decide +kernel
theorem dX5_left_37 : decode cX5_left 37 = .ok (.iload_n 1, 1) := by decide +kernel
theorem dX5_left_38 : decode cX5_left 38 = .ok (.bipush 100, 2) := by decide +kernel
theorem dX5_left_40 : decode cX5_left 40 = .ok (.idiv, 1) := by decide +kernel
theorem dX5_left_41 : decode cX5_left 41 = .ok (.if_icmp .ne 7, 3) := by decide +kernel
theorem dX5_left_44 : decode cX5_left 44 = .ok (.iconst 1, 1) := by decide +kernel
theorem dX5_left_45 : decode cX5_left 45 = .ok (.goto 4, 3) := by decide +kernel
theorem dX5_left_48 : decode cX5_left 48 = .ok (.iconst 0, 1) := by decide +kernel
theorem dX5_left_49 : decode cX5_left 49 = .ok (.aload_n 0, 1) := by decide +kernel
theorem dX5_left_50 : decode cX5_left 50 = .ok (.iload_n 3, 1) := by decide +kernel
theorem dX5_left_51 : decode cX5_left 51 = .ok (.iconst 1, 1) := by decide +kernel
theorem dX5_left_52 : decode cX5_left 52 = .ok (.invokevirtual 33, 3) := by decide +kernel
theorem dX5_left_55 : decode cX5_left 55 = .ok (.iload_n 1, 1) := by decide +kernel
theorem dX5_left_56 : decode cX5_left 56 = .ok (.bipush 100, 2) := by decide +kernel
theorem dX5_left_58 : decode cX5_left 58 = .ok (.irem, 1) := by decide +kernel
theorem dX5_left_59 : decode cX5_left 59 = .ok (.if_icmp .ne 7, 3) := by decide +kernel
theorem dX5_left_62 : decode cX5_left 62 = .ok (.iconst 1, 1) := by decide +kernel
theorem dX5_left_63 : decode cX5_left 63 = .ok (.goto 4, 3) := by decide +kernel
theorem dX5_left_66 : decode cX5_left 66 = .ok (.iconst 0, 1) := by decide +kernel
theorem dX5_left_67 : decode cX5_left 67 = .ok (.iadd, 1) := by decide +kernel
theorem dX5_left_68 : decode cX5_left 68 = .ok (.iadd, 1) := by decide +kernel
theorem dX5_left_69 : decode cX5_left 69 = .ok (.istore_n 2, 1) := by decide +kernel
theorem dX5_left_70 : decode cX5_left 70 = .ok (.iinc 3 1, 3) := by decide +kernel
theorem dX5_left_73 : decode cX5_left 73 = .ok (.goto (-51), 3) := by decide +kernel
theorem dX5_left_76 : decode cX5_left 76 = .ok (.iload_n 2, 1) := by decide +kernel
theorem dX5_left_77 : decode cX5_left 77 = .ok (.ireturn, 1) := by decide +kernel
set_option maxRecDepth 20000 in
theorem ggX5_counted_X5_word : GoodIn wsX5_counted wsX5_word := goodIn_r _ [7, 8, 9, 10, 6, 11, 12, 13, 14, 15, 16, 17, 18] (by decide +kernel) (by decide +kernel)
set_option maxRecDepth 20000 in
theorem gX5_counted_X5_word : GoodIn wsX5_counted (wsV RX5 61 RX5 yX5_word wsX5_word) := goodIn_app (goodIn_of _ (by decide +kernel)) ggX5_counted_X5_word
set_option maxRecDepth 20000 in
theorem ggX5_counted_X5_ju : GoodIn wsX5_counted wsX5_ju := goodIn_r _ [11, 12, 13, 14, 15, 16, 17, 18] (by decide +kernel) (by decide +kernel)
set_option maxRecDepth 20000 in
theorem gX5_counted_X5_ju : GoodIn wsX5_counted (wsV RX5 33 RX5 yX5_ju wsX5_ju) := goodIn_app (goodIn_of _ (by decide +kernel)) ggX5_counted_X5_ju
theorem dX5_counted_0 : decode cX5_counted 0 = .ok (.iconst 0, 1) := by decide +kernel
theorem dX5_counted_1 : decode cX5_counted 1 = .ok (.istore_n 2, 1) := by decide +kernel
theorem dX5_counted_2 : decode cX5_counted 2 = .ok (.iload_n 1, 1) := by decide +kernel
theorem dX5_counted_3 : decode cX5_counted 3 = .ok (.tableswitch 200 0 4 #[33, 40, 45, 120, 172], 33) := by decide +kernel
theorem dX5_counted_36 : decode cX5_counted 36 = .ok (.aload_n 0, 1) := by decide +kernel
theorem dX5_counted_37 : decode cX5_counted 37 = .ok (.getfield 19, 3) := by decide +kernel
theorem dX5_counted_40 : decode cX5_counted 40 = .ok (.iconst 0, 1) := by decide +kernel
theorem dX5_counted_41 : decode cX5_counted 41 = .ok (.iaload, 1) := by decide +kernel
theorem dX5_counted_42 : decode cX5_counted 42 = .ok (.ireturn, 1) := by decide +kernel
theorem dX5_counted_43 : decode cX5_counted 43 = .ok (.aload_n 0, 1) := by decide +kernel
theorem dX5_counted_44 : decode cX5_counted 44 = .ok (.getfield 26, 3) := by decide +kernel
theorem dX5_counted_47 : decode cX5_counted 47 = .ok (.ireturn, 1) := by decide +kernel
theorem dX5_counted_48 : decode cX5_counted 48 = .ok (.iconst 0, 1) := by decide +kernel
theorem dX5_counted_49 : decode cX5_counted 49 = .ok (.istore_n 3, 1) := by decide +kernel
theorem dX5_counted_50 : decode cX5_counted 50 = .ok (.iload_n 3, 1) := by decide +kernel
theorem dX5_counted_51 : decode cX5_counted 51 = .ok (.aload_n 0, 1) := by decide +kernel
theorem dX5_counted_52 : decode cX5_counted 52 = .ok (.getfield 26, 3) := by decide +kernel
theorem dX5_counted_55 : decode cX5_counted 55 = .ok (.if_icmp .ge 66, 3) := by decide +kernel
theorem dX5_counted_58 : decode cX5_counted 58 = .ok (.iconst 1, 1) := by decide +kernel
theorem dX5_counted_59 : decode cX5_counted 59 = .ok (.istore 4, 2) := by decide +kernel
theorem dX5_counted_61 : decode cX5_counted 61 = .ok (.iconst 0, 1) := by decide +kernel
theorem dX5_counted_62 : decode cX5_counted 62 = .ok (.istore 5, 2) := by decide +kernel
theorem dX5_counted_64 : decode cX5_counted 64 = .ok (.iload 5, 2) := by decide +kernel
theorem dX5_counted_66 : decode cX5_counted 66 = .ok (.iload_n 3, 1) := by decide +kernel
theorem dX5_counted_67 : decode cX5_counted 67 = .ok (.if_icmp .ge 35, 3) := by decide +kernel
theorem dX5_counted_70 : decode cX5_counted 70 = .ok (.iload 4, 2) := by decide +kernel
theorem dX5_counted_72 : decode cX5_counted 72 = .ok (.ifCond .eq 21, 3) := by decide +kernel
theorem dX5_counted_75 : decode cX5_counted 75 = .ok (.aload_n 0, 1) := by decide +kernel
theorem dX5_counted_76 : decode cX5_counted 76 = .ok (.iload 5, 2) := by decide +kernel
theorem dX5_counted_78 : decode cX5_counted 78 = .ok (.invokevirtual 61, 3) := by decide +kernel
theorem dX5_counted_81 : decode cX5_counted 81 = .ok (.aload_n 0, 1) := by decide +kernel
theorem dX5_counted_82 : decode cX5_counted 82 = .ok (.iload_n 3, 1) := by decide +kernel
theorem dX5_counted_83 : decode cX5_counted 83 = .ok (.invokevirtual 61, 3) := by decide +kernel
theorem dX5_counted_86 : decode cX5_counted 86 = .ok (.if_icmp .eq 7, 3) := by decide +kernel
theorem dX5_counted_89 : decode cX5_counted 89 = .ok (.iconst 1, 1) := by decide +kernel
theorem dX5_counted_90 : decode cX5_counted 90 = .ok (.goto 4, 3) := by decide +kernel
theorem dX5_counted_93 : decode cX5_counted 93 = .ok (.iconst 0, 1) := by decide +kernel
theorem dX5_counted_94 : decode cX5_counted 94 = .ok (.istore 4, 2) := by decide +kernel
theorem dX5_counted_96 : decode cX5_counted 96 = .ok (.iinc 5 1, 3) := by decide +kernel
theorem dX5_counted_99 : decode cX5_counted 99 = .ok (.goto (-35), 3) := by decide +kernel
theorem dX5_counted_102 : decode cX5_counted 102 = .ok (.iload_n 2, 1) := by decide +kernel
theorem dX5_counted_103 : decode cX5_counted 103 = .ok (.iload 4, 2) := by decide +kernel
theorem dX5_counted_105 : decode cX5_counted 105 = .ok (.ifCond .eq 7, 3) := by decide +kernel
theorem dX5_counted_108 : decode cX5_counted 108 = .ok (.iconst 1, 1) := by decide +kernel
theorem dX5_counted_109 : decode cX5_counted 109 = .ok (.goto 4, 3) := by decide +kernel
theorem dX5_counted_112 : decode cX5_counted 112 = .ok (.iconst 0, 1) := by decide +kernel
theorem dX5_counted_113 : decode cX5_counted 113 = .ok (.iadd, 1) := by decide +kernel
theorem dX5_counted_114 : decode cX5_counted 114 = .ok (.istore_n 2, 1) := by decide +kernel
theorem dX5_counted_115 : decode cX5_counted 115 = .ok (.iinc 3 1, 3) := by decide +kernel
theorem dX5_counted_118 : decode cX5_counted 118 = .ok (.goto (-68), 3) := by decide +kernel
theorem dX5_counted_121 : decode cX5_counted 121 = .ok (.iload_n 2, 1) := by decide +kernel
theorem dX5_counted_122 : decode cX5_counted 122 = .ok (.ireturn, 1) := by decide +kernel
theorem dX5_counted_123 : decode cX5_counted 123 = .ok (.iconst 0, 1) := by decide +kernel
theorem dX5_counted_124 : decode cX5_counted 124 = .ok (.istore_n 3, 1) := by decide +kernel
theorem dX5_counted_125 : decode cX5_counted 125 = .ok (.iload_n 3, 1) := by decide +kernel
theorem dX5_counted_126 : decode cX5_counted 126 = .ok (.aload_n 0, 1) := by decide +kernel
theorem dX5_counted_127 : decode cX5_counted 127 = .ok (.getfield 26, 3) := by decide +kernel
theorem dX5_counted_130 : decode cX5_counted 130 = .ok (.if_icmp .ge 43, 3) := by decide +kernel
theorem dX5_counted_133 : decode cX5_counted 133 = .ok (.iload_n 2, 1) := by decide +kernel
theorem dX5_counted_134 : decode cX5_counted 134 = .ok (.aload_n 0, 1) := by decide +kernel
theorem dX5_counted_135 : decode cX5_counted 135 = .ok (.iload_n 3, 1) := by decide +kernel
theorem dX5_counted_136 : decode cX5_counted 136 = .ok (.iconst 2, 1) := by decide +kernel
theorem dX5_counted_137 : decode cX5_counted 137 = .ok (.invokevirtual 33, 3) := by decide +kernel
theorem dX5_counted_140 : decode cX5_counted 140 = .ok (.iconst (-1), 1) := by decide +kernel
theorem dX5_counted_141 : decode cX5_counted 141 = .ok (.if_icmp .ne 7, 3) := by decide +kernel
theorem dX5_counted_144 : decode cX5_counted 144 = .ok (.iconst 1, 1) := by decide +kernel
theorem dX5_counted_145 : decode cX5_counted 145 = .ok (.goto 4, 3) := by decide +kernel
theorem dX5_counted_148 : decode cX5_counted 148 = .ok (.iconst 0, 1) := by decide +kernel
theorem dX5_counted_149 : decode cX5_counted 149 = .ok (.aload_n 0, 1) := by decide +kernel
theorem dX5_counted_150 : decode cX5_counted 150 = .ok (.iload_n 3, 1) := by decide +kernel
theorem dX5_counted_151 : decode cX5_counted 151 = .ok (.iconst 3, 1) := by decide +kernel
theorem dX5_counted_152 : decode cX5_counted 152 = .ok (.invokevirtual 33, 3) := by decide +kernel
theorem dX5_counted_155 : decode cX5_counted 155 = .ok (.iconst (-1), 1) := by decide +kernel
theorem dX5_counted_156 : decode cX5_counted 156 = .ok (.if_icmp .ne 7, 3) := by decide +kernel
theorem dX5_counted_159 : decode cX5_counted 159 = .ok (.iconst 1, 1) := by decide +kernel
theorem dX5_counted_160 : decode cX5_counted 160 = .ok (.goto 4, 3) := by decide +kernel
theorem dX5_counted_163 : decode cX5_counted 163 = .ok (.iconst 0, 1) := by decide +kernel
theorem dX5_counted_164 : decode cX5_counted 164 = .ok (.iadd, 1) := by decide +kernel
theorem dX5_counted_165 : decode cX5_counted 165 = .ok (.iadd, 1) := by decide +kernel
theorem dX5_counted_166 : decode cX5_counted 166 = .ok (.istore_n 2, 1) := by decide +kernel
theorem dX5_counted_167 : decode cX5_counted 167 = .ok (.iinc 3 1, 3) := by decide +kernel
theorem dX5_counted_170 : decode cX5_counted 170 = .ok (.goto (-45), 3) := by decide +kernel
theorem dX5_counted_173 : decode cX5_counted 173 = .ok (.iload_n 2, 1) := by decide +kernel
theorem dX5_counted_174 : decode cX5_counted 174 = .ok (.ireturn, 1) := by decide +kernel
theorem dX5_counted_175 : decode cX5_counted 175 = .ok (.iconst 0, 1) := by decide +kernel
theorem dX5_counted_176 : decode cX5_counted 176 = .ok (.istore_n 3, 1) := by decide +kernel
theorem dX5_counted_177 : decode cX5_counted 177 = .ok (.iload_n 3, 1) := by decide +kernel
theorem dX5_counted_178 : decode cX5_counted 178 = .ok (.aload_n 0, 1) := by decide +kernel
theorem dX5_counted_179 : decode cX5_counted 179 = .ok (.getfield 26, 3) := by decide +kernel
theorem dX5_counted_182 : decode cX5_counted 182 = .ok (.if_icmp .ge 19, 3) := by decide +kernel
theorem dX5_counted_185 : decode cX5_counted 185 = .ok (.iload_n 2, 1) := by decide +kernel
theorem dX5_counted_186 : decode cX5_counted 186 = .ok (.aload_n 0, 1) := by decide +kernel
theorem dX5_counted_187 : decode cX5_counted 187 = .ok (.iload_n 3, 1) := by decide +kernel
theorem dX5_counted_188 : decode cX5_counted 188 = .ok (.bipush 6, 2) := by decide +kernel
theorem dX5_counted_190 : decode cX5_counted 190 = .ok (.invokevirtual 33, 3) := by decide +kernel
theorem dX5_counted_193 : decode cX5_counted 193 = .ok (.iadd, 1) := by decide +kernel
theorem dX5_counted_194 : decode cX5_counted 194 = .ok (.istore_n 2, 1) := by decide +kernel
theorem dX5_counted_195 : decode cX5_counted 195 = .ok (.iinc 3 1, 3) := by decide +kernel
theorem dX5_counted_198 : decode cX5_counted 198 = .ok (.goto (-21), 3) := by decide +kernel
theorem dX5_counted_201 : decode cX5_counted 201 = .ok (.iload_n 2, 1) := by decide +kernel
theorem dX5_counted_202 : decode cX5_counted 202 = .ok (.ireturn, 1) := by decide +kernel
theorem dX5_counted_203 : decode cX5_counted 203 = .ok (.aload_n 0, 1) := by decide +kernel
theorem dX5_counted_204 : decode cX5_counted 204 = .ok (.getfield 19, 3) := by decide +kernel
theorem dX5_counted_207 : decode cX5_counted 207 = .ok (.iconst 1, 1) := by decide +kernel
theorem dX5_counted_208 : decode cX5_counted 208 = .ok (.iaload, 1) := by decide +kernel
theorem dX5_counted_209 : decode cX5_counted 209 = .ok (.ireturn, 1) := by decide +kernel
set_option maxRecDepth 20000 in
theorem ggX5_count_X5_isIn : GoodIn wsX5_count wsX5_isIn := goodIn_r _ [5] (by decide +kernel) (by decide +kernel)
set_option maxRecDepth 20000 in
theorem gX5_count_X5_isIn : GoodIn wsX5_count (va_wsS RX5 29 yX5_isIn wsX5_isIn) := goodIn_app (goodIn_of _ (by decide +kernel)) ggX5_count_X5_isIn
set_option maxRecDepth 20000 in
theorem ggX5_count_X5_counted : GoodIn wsX5_count wsX5_counted := goodIn_r _ [9, 10, 11, 12, 13, 14, 4, 15, 16, 17, 18, 19, 20, 25, 26, 27, 28, 29, 30] (by decide +kernel) (by decide +kernel)
set_option maxRecDepth 20000 in
theorem gX5_count_X5_counted : GoodIn wsX5_count (wsV RX5 80 RX5 yX5_counted wsX5_counted) := goodIn_app (goodIn_of _ (by decide +kernel)) ggX5_count_X5_counted
set_option maxRecDepth 20000 in
theorem ggX5_count_X5_fail : GoodIn wsX5_count wsX5_fail := goodIn_r _ [24, 1, 25, 26, 27, 28, 29, 30] (by decide +kernel) (by decide +kernel)
set_option maxRecDepth 20000 in
theorem gX5_count_X5_fail : GoodIn wsX5_count (wsV RX5 37 RX5 yX5_fail wsX5_fail) := goodIn_app (goodIn_of _ (by decide +kernel)) ggX5_count_X5_fail
theorem dX5_count_0 : decode cX5_count 0 = .ok (.aload_n 0, 1) := by decide +kernel
theorem dX5_count_1 : decode cX5_count 1 = .ok (.iconst 0, 1) := by decide +kernel
theorem dX5_count_2 : decode cX5_count 2 = .ok (.putfield 22, 3) := by decide +kernel
theorem dX5_count_5 : decode cX5_count 5 = .ok (.iload_n 1, 1) := by decide +kernel
theorem dX5_count_6 : decode cX5_count 6 = .ok (.iconst 0, 1) := by decide +kernel
theorem dX5_count_7 : decode cX5_count 7 = .ok (.iconst 5, 1) := by decide +kernel
theorem dX5_count_8 : decode cX5_count 8 = .ok (.invokestatic 29, 3) := by decide +kernel
theorem dX5_count_11 : decode cX5_count 11 = .ok (.ifCond .eq 11, 3) := by decide +kernel
theorem dX5_count_14 : decode cX5_count 14 = .ok (.aload_n 0, 1) := by decide +kernel
theorem dX5_count_15 : decode cX5_count 15 = .ok (.iload_n 1, 1) := by decide +kernel
theorem dX5_count_16 : decode cX5_count 16 = .ok (.invokevirtual 80, 3) := by decide +kernel
theorem dX5_count_19 : decode cX5_count 19 = .ok (.goto 8, 3) := by decide +kernel
theorem dX5_count_22 : decode cX5_count 22 = .ok (.aload_n 0, 1) := by decide +kernel
theorem dX5_count_23 : decode cX5_count 23 = .ok (.iconst 1, 1) := by decide +kernel
theorem dX5_count_24 : decode cX5_count 24 = .ok (.invokevirtual 37, 3) := by decide +kernel
theorem dX5_count_27 : decode cX5_count 27 = .ok (.ireturn, 1) := by decide +kernel
theorem dX5_be_0 : decode cX5_be 0 = .ok (.aload_n 0, 1) := by decide +kernel
theorem dX5_be_1 : decode cX5_be 1 = .ok (.getfield 13, 3) := by decide +kernel
theorem dX5_be_4 : decode cX5_be 4 = .ok (.bipush 10, 2) := by decide +kernel
theorem dX5_be_6 : decode cX5_be 6 = .ok (.iload_n 1, 1) := by decide +kernel
theorem dX5_be_7 : decode cX5_be 7 = .ok (.imul, 1) := by decide +kernel
theorem dX5_be_8 : decode cX5_be 8 = .ok (.iload_n 2, 1) := by decide +kernel
theorem dX5_be_9 : decode cX5_be 9 = .ok (.iadd, 1) := by decide +kernel
theorem dX5_be_10 : decode cX5_be 10 = .ok (.iaload, 1) := by decide +kernel
theorem dX5_be_11 : decode cX5_be 11 = .ok (.ireturn, 1) := by decide +kernel
set_option maxRecDepth 20000 in
theorem ggX5_takes_X5_heard : GoodIn wsX5_takes wsX5_heard := goodIn_r _ [9, 10, 11, 12, 13, 8, 14, 15, 25, 26, 27, 28, 29, 30] (by decide +kernel) (by decide +kernel)
set_option maxRecDepth 20000 in
theorem gX5_takes_X5_heard : GoodIn wsX5_takes (wsV RX5 67 RX5 yX5_heard wsX5_heard) := goodIn_app (goodIn_of _ (by decide +kernel)) ggX5_takes_X5_heard
set_option maxRecDepth 20000 in
theorem ggX5_takes_X5_be : GoodIn wsX5_takes wsX5_be := goodIn_r _ [19, 20, 25, 26, 27, 28, 29, 30] (by decide +kernel) (by decide +kernel)
set_option maxRecDepth 20000 in
theorem gX5_takes_X5_be : GoodIn wsX5_takes (wsV RX5 83 RX5 yX5_be wsX5_be) := goodIn_app (goodIn_of _ (by decide +kernel)) ggX5_takes_X5_be
set_option maxRecDepth 20000 in
theorem ggX5_takes_X5_put : GoodIn wsX5_takes wsX5_put := goodIn_r _ [24, 15, 25, 26, 27, 28, 29, 30] (by decide +kernel) (by decide +kernel)
set_option maxRecDepth 20000 in
theorem gX5_takes_X5_put : GoodIn wsX5_takes (wsV RX5 54 RX5 yX5_put wsX5_put) := goodIn_app (goodIn_of _ (by decide +kernel)) ggX5_takes_X5_put
theorem dX5_takes_0 : decode cX5_takes 0 = .ok (.aload_n 0, 1) := by decide +kernel
theorem dX5_takes_1 : decode cX5_takes 1 = .ok (.iload_n 1, 1) := by decide +kernel
theorem dX5_takes_2 : decode cX5_takes 2 = .ok (.invokevirtual 67, 3) := by decide +kernel
theorem dX5_takes_5 : decode cX5_takes 5 = .ok (.istore_n 2, 1) := by decide +kernel
theorem dX5_takes_6 : decode cX5_takes 6 = .ok (.iload_n 2, 1) := by decide +kernel
theorem dX5_takes_7 : decode cX5_takes 7 = .ok (.iconst (-1), 1) := by decide +kernel
theorem dX5_takes_8 : decode cX5_takes 8 = .ok (.if_icmp .ne 5, 3) := by decide +kernel
theorem dX5_takes_11 : decode cX5_takes 11 = .ok (.iconst 0, 1) := by decide +kernel
theorem dX5_takes_12 : decode cX5_takes 12 = .ok (.ireturn, 1) := by decide +kernel
theorem dX5_takes_13 : decode cX5_takes 13 = .ok (.aload_n 0, 1) := by decide +kernel
theorem dX5_takes_14 : decode cX5_takes 14 = .ok (.iload_n 1, 1) := by decide +kernel
theorem dX5_takes_15 : decode cX5_takes 15 = .ok (.iconst 0, 1) := by decide +kernel
theorem dX5_takes_16 : decode cX5_takes 16 = .ok (.invokevirtual 83, 3) := by decide +kernel
theorem dX5_takes_19 : decode cX5_takes 19 = .ok (.aload_n 0, 1) := by decide +kernel
theorem dX5_takes_20 : decode cX5_takes 20 = .ok (.iload_n 2, 1) := by decide +kernel
theorem dX5_takes_21 : decode cX5_takes 21 = .ok (.iconst 0, 1) := by decide +kernel
theorem dX5_takes_22 : decode cX5_takes 22 = .ok (.invokevirtual 83, 3) := by decide +kernel
theorem dX5_takes_25 : decode cX5_takes 25 = .ok (.if_icmp .ne 41, 3) := by decide +kernel
theorem dX5_takes_28 : decode cX5_takes 28 = .ok (.aload_n 0, 1) := by decide +kernel
theorem dX5_takes_29 : decode cX5_takes 29 = .ok (.iload_n 1, 1) := by decide +kernel
theorem dX5_takes_30 : decode cX5_takes 30 = .ok (.iconst 1, 1) := by decide +kernel
theorem dX5_takes_31 : decode cX5_takes 31 = .ok (.invokevirtual 83, 3) := by decide +kernel
theorem dX5_takes_34 : decode cX5_takes 34 = .ok (.aload_n 0, 1) := by decide +kernel
theorem dX5_takes_35 : decode cX5_takes 35 = .ok (.iload_n 2, 1) := by decide +kernel
theorem dX5_takes_36 : decode cX5_takes 36 = .ok (.iconst 1, 1) := by decide +kernel
theorem dX5_takes_37 : decode cX5_takes 37 = .ok (.invokevirtual 83, 3) := by decide +kernel
theorem dX5_takes_40 : decode cX5_takes 40 = .ok (.if_icmp .ne 26, 3) := by decide +kernel
theorem dX5_takes_43 : decode cX5_takes 43 = .ok (.aload_n 0, 1) := by decide +kernel
theorem dX5_takes_44 : decode cX5_takes 44 = .ok (.iload_n 1, 1) := by decide +kernel
theorem dX5_takes_45 : decode cX5_takes 45 = .ok (.bipush 6, 2) := by decide +kernel
theorem dX5_takes_47 : decode cX5_takes 47 = .ok (.bipush 9, 2) := by decide +kernel
theorem dX5_takes_49 : decode cX5_takes 49 = .ok (.aload_n 0, 1) := by decide +kernel
theorem dX5_takes_50 : decode cX5_takes 50 = .ok (.iload_n 1, 1) := by decide +kernel
theorem dX5_takes_51 : decode cX5_takes 51 = .ok (.bipush 6, 2) := by decide +kernel
theorem dX5_takes_53 : decode cX5_takes 53 = .ok (.invokevirtual 83, 3) := by decide +kernel
theorem dX5_takes_56 : decode cX5_takes 56 = .ok (.iconst 1, 1) := by decide +kernel
theorem dX5_takes_57 : decode cX5_takes 57 = .ok (.iadd, 1) := by decide +kernel
theorem dX5_takes_58 : decode cX5_takes 58 = .ok (.invokestatic 86, 3) := by decide +kernel
theorem dX5_takes_61 : decode cX5_takes 61 = .ok (.invokevirtual 54, 3) := by decide +kernel
theorem dX5_takes_64 : decode cX5_takes 64 = .ok (.iconst 0, 1) := by decide +kernel
theorem dX5_takes_65 : decode cX5_takes 65 = .ok (.ireturn, 1) := by decide +kernel
theorem dX5_takes_66 : decode cX5_takes 66 = .ok (.aload_n 0, 1) := by decide +kernel
theorem dX5_takes_67 : decode cX5_takes 67 = .ok (.iload_n 1, 1) := by decide +kernel
theorem dX5_takes_68 : decode cX5_takes 68 = .ok (.bipush 6, 2) := by decide +kernel
theorem dX5_takes_70 : decode cX5_takes 70 = .ok (.invokevirtual 83, 3) := by decide +kernel
theorem dX5_takes_73 : decode cX5_takes 73 = .ok (.aload_n 0, 1) := by decide +kernel
theorem dX5_takes_74 : decode cX5_takes 74 = .ok (.iload_n 2, 1) := by decide +kernel
theorem dX5_takes_75 : decode cX5_takes 75 = .ok (.bipush 6, 2) := by decide +kernel
