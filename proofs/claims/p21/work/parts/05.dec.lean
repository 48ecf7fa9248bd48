set_option maxRecDepth 20000 in
theorem gX4_parrot_X4_tellOfParrot : GoodIn wsX4_parrot (wsV RX4 99 RX4 yX4_tellOfParrot wsX4_tellOfParrot) := goodIn_app (goodIn_of _ (by decide +kernel)) ggX4_parrot_X4_tellOfParrot
theorem dX4_parrot_0 : decode cX4_parrot 0 = .ok (.aload_n 0, 1) := by decide +kernel
theorem dX4_parrot_1 : decode cX4_parrot 1 = .ok (.iload_n 1, 1) := by decide +kernel
theorem dX4_parrot_2 : decode cX4_parrot 2 = .ok (.invokevirtual 61, 3) := by decide +kernel
theorem dX4_parrot_5 : decode cX4_parrot 5 = .ok (.iload_n 2, 1) := by decide +kernel
theorem dX4_parrot_6 : decode cX4_parrot 6 = .ok (.bipush 6, 2) := by decide +kernel
theorem dX4_parrot_8 : decode cX4_parrot 8 = .ok (.invokestatic 96, 3) := by decide +kernel
theorem dX4_parrot_11 : decode cX4_parrot 11 = .ok (.aload_n 0, 1) := by decide +kernel
theorem dX4_parrot_12 : decode cX4_parrot 12 = .ok (.iload_n 1, 1) := by decide +kernel
theorem dX4_parrot_13 : decode cX4_parrot 13 = .ok (.iload_n 2, 1) := by decide +kernel
theorem dX4_parrot_14 : decode cX4_parrot 14 = .ok (.invokevirtual 99, 3) := by decide +kernel
theorem dX4_parrot_17 : decode cX4_parrot 17 = .ok (.ireturn, 1) := by decide +kernel
set_option maxRecDepth 20000 in
theorem ggX4_half_X4_needParrot : GoodIn wsX4_half wsX4_needParrot := goodIn_ca (goodIn_r _ [5, 6, 7, 8, 9, 10, 11, 12, 13, 14, 55, 56, 57, 58, 59, 60, 61, 62, 63] (by decide +kernel) (by decide +kernel)) (goodIn_sub (fun _ h => List.mem_cons_of_mem _ (List.mem_append_right _ h)) (by decide +kernel))
set_option maxRecDepth 20000 in
theorem gX4_half_X4_needParrot : GoodIn wsX4_half (wsV RX4 61 RX4 yX4_needParrot wsX4_needParrot) := goodIn_app (goodIn_of _ (by decide +kernel)) ggX4_half_X4_needParrot
set_option maxRecDepth 20000 in
theorem ggX4_half_X4_needWhat : GoodIn wsX4_half wsX4_needWhat := goodIn_ca (goodIn_r _ [17, 6, 7, 18, 19, 4, 20] (by decide +kernel) (by decide +kernel)) (goodIn_sub (fun _ h => List.mem_cons_of_mem _ (List.mem_append_right _ h)) (by decide +kernel))
set_option maxRecDepth 20000 in
theorem gX4_half_X4_needWhat : GoodIn wsX4_half (va_wsS RX4 96 yX4_needWhat wsX4_needWhat) := goodIn_app (goodIn_of _ (by decide +kernel)) ggX4_half_X4_needWhat
set_option maxRecDepth 20000 in
theorem ggX4_half_X4_tellOfHalf : GoodIn wsX4_half wsX4_tellOfHalf := goodIn_r _ [24, 25, 26, 27, 28, 29, 30, 31, 32, 33, 34, 35, 36, 37, 38, 39, 40, 41, 42, 43, 44, 45, 46, 47, 48, 49, 50, 51, 52, 53, 54, 55, 56, 57, 58, 64, 65, 66, 67, 68, 69, 70, 71, 72] (by decide +kernel) (by decide +kernel)
set_option maxRecDepth 20000 in
theorem gX4_half_X4_tellOfHalf : GoodIn wsX4_half (wsV RX4 102 RX4 yX4_tellOfHalf wsX4_tellOfHalf) := goodIn_app (goodIn_of _ (by decide +kernel)) ggX4_half_X4_tellOfHalf
theorem dX4_half_0 : decode cX4_half 0 = .ok (.aload_n 0, 1) := by decide +kernel
theorem dX4_half_1 : decode cX4_half 1 = .ok (.iload_n 1, 1) := by decide +kernel
theorem dX4_half_2 : decode cX4_half 2 = .ok (.invokevirtual 61, 3) := by decide +kernel
theorem dX4_half_5 : decode cX4_half 5 = .ok (.iload_n 3, 1) := by decide +kernel
theorem dX4_half_6 : decode cX4_half 6 = .ok (.iconst 2, 1) := by decide +kernel
theorem dX4_half_7 : decode cX4_half 7 = .ok (.invokestatic 96, 3) := by decide +kernel
theorem dX4_half_10 : decode cX4_half 10 = .ok (.aload_n 0, 1) := by decide +kernel
theorem dX4_half_11 : decode cX4_half 11 = .ok (.iload_n 1, 1) := by decide +kernel
theorem dX4_half_12 : decode cX4_half 12 = .ok (.iload_n 2, 1) := by decide +kernel
theorem dX4_half_13 : decode cX4_half 13 = .ok (.iload_n 3, 1) := by decide +kernel
theorem dX4_half_14 : decode cX4_half 14 = .ok (.invokevirtual 102, 3) := by decide +kernel
theorem dX4_half_17 : decode cX4_half 17 = .ok (.ireturn, 1) := by decide +kernel
set_option maxRecDepth 20000 in
theorem ggX4_hears_X4_needParrot : GoodIn wsX4_hears wsX4_needParrot := goodIn_ca (goodIn_r _ [8, 1, 2, 3, 9, 10, 11, 12, 13, 14, 31, 32, 33, 34, 35, 36, 37, 38, 39] (by decide +kernel) (by decide +kernel)) (goodIn_sub (fun _ h => List.mem_cons_of_mem _ (List.mem_append_right _ h)) (by decide +kernel))
set_option maxRecDepth 20000 in
theorem gX4_hears_X4_needParrot : GoodIn wsX4_hears (wsV RX4 61 RX4 yX4_needParrot wsX4_needParrot) := goodIn_app (goodIn_of _ (by decide +kernel)) ggX4_hears_X4_needParrot
set_option maxRecDepth 20000 in
theorem ggX4_hears_X2_listening : GoodIn wsX4_hears wsX2_listening := goodIn_r _ [18, 19, 20, 21, 22, 23, 24, 25, 35, 36, 37, 38, 39, 40] (by decide +kernel) (by decide +kernel)
set_option maxRecDepth 20000 in
theorem gX4_hears_X2_listening : GoodIn wsX4_hears (wsV RX4 73 RX2 yX2_listening wsX2_listening) := goodIn_app (goodIn_of _ (by decide +kernel)) ggX4_hears_X2_listening
set_option maxRecDepth 20000 in
theorem ggX4_hears_X2_other : GoodIn wsX4_hears wsX2_other := goodIn_r _ [29, 30, 20, 21, 22, 23, 24, 25, 35, 36, 37, 38, 39, 40] (by decide +kernel) (by decide +kernel)
set_option maxRecDepth 20000 in
theorem gX4_hears_X2_other : GoodIn wsX4_hears (wsV RX4 111 RX2 yX2_other wsX2_other) := goodIn_app (goodIn_of _ (by decide +kernel)) ggX4_hears_X2_other
theorem dX4_hears_0 : decode cX4_hears 0 = .ok (.aload_n 0, 1) := by decide +kernel
theorem dX4_hears_1 : decode cX4_hears 1 = .ok (.iload_n 1, 1) := by decide +kernel
theorem dX4_hears_2 : decode cX4_hears 2 = .ok (.invokevirtual 61, 3) := by decide +kernel
theorem dX4_hears_5 : decode cX4_hears 5 = .ok (.iload_n 2, 1) := by decide +kernel
theorem dX4_hears_6 : decode cX4_hears 6 = .ok (.ifCond .lt 15, 3) := by decide +kernel
theorem dX4_hears_9 : decode cX4_hears 9 = .ok (.iload_n 2, 1) := by decide +kernel
theorem dX4_hears_10 : decode cX4_hears 10 = .ok (.aload_n 0, 1) := by decide +kernel
theorem dX4_hears_11 : decode cX4_hears 11 = .ok (.getfield 10, 3) := by decide +kernel
theorem dX4_hears_14 : decode cX4_hears 14 = .ok (.iload_n 1, 1) := by decide +kernel
theorem dX4_hears_15 : decode cX4_hears 15 = .ok (.invokevirtual 73, 3) := by decide +kernel
theorem dX4_hears_18 : decode cX4_hears 18 = .ok (.if_icmp .lt 13, 3) := by decide +kernel
theorem dX4_hears_21 : decode cX4_hears 21 = .ok (.new 106, 3) := by decide +kernel
theorem dX4_hears_24 : decode cX4_hears 24 = .ok (.dup, 1) := by decide +kernel
theorem dX4_hears_25 : decode cX4_hears 25 = .ok (.ldc 108, 2) := by decide +kernel
theorem dX4_hears_27 : decode cX4_hears 27 = .ok (.invokespecial 110, 3) := by decide +kernel
theorem dX4_hears_30 : decode cX4_hears 30 = .ok (.athrow, 1) := by decide +kernel
theorem dX4_hears_31 : decode cX4_hears 31 = .ok (.aload_n 0, 1) := by decide +kernel
theorem dX4_hears_32 : decode cX4_hears 32 = .ok (.getfield 10, 3) := by decide +kernel
theorem dX4_hears_35 : decode cX4_hears 35 = .ok (.iload_n 1, 1) := by decide +kernel
theorem dX4_hears_36 : decode cX4_hears 36 = .ok (.iload_n 2, 1) := by decide +kernel
theorem dX4_hears_37 : decode cX4_hears 37 = .ok (.invokevirtual 111, 3) := by decide +kernel
theorem dX4_hears_40 : decode cX4_hears 40 = .ok (.ireturn, 1) := by decide +kernel
set_option maxRecDepth 20000 in
theorem ggX4_votes_X4_needWord : GoodIn wsX4_votes wsX4_needWord := goodIn_ca (goodIn_r _ [5, 6, 7, 8, 9, 4, 10] (by decide +kernel) (by decide +kernel)) (goodIn_sub (fun _ h => List.mem_cons_of_mem _ (List.mem_append_right _ h)) (by decide +kernel))
set_option maxRecDepth 20000 in
theorem gX4_votes_X4_needWord : GoodIn wsX4_votes (va_wsS RX4 88 yX4_needWord wsX4_needWord) := goodIn_app (goodIn_of _ (by decide +kernel)) ggX4_votes_X4_needWord
set_option maxRecDepth 20000 in
theorem ggX4_votes_X4_votesIn : GoodIn wsX4_votes wsX4_votesIn := goodIn_r _ [14, 15, 16, 17, 18, 19, 20, 21, 22, 23, 24, 25, 26, 27, 28, 29, 30, 31, 32, 33, 34, 35, 36, 37, 38, 39, 40, 41, 42, 43, 44, 45, 46, 47, 48, 49, 50, 51, 52, 53, 54, 55, 56, 57, 58] (by decide +kernel) (by decide +kernel)
set_option maxRecDepth 20000 in
theorem gX4_votes_X4_votesIn : GoodIn wsX4_votes (wsV RX4 114 RX4 yX4_votesIn wsX4_votesIn) := goodIn_app (goodIn_of _ (by decide +kernel)) ggX4_votes_X4_votesIn
theorem dX4_votes_0 : decode cX4_votes 0 = .ok (.iload_n 1, 1) := by decide +kernel
theorem dX4_votes_1 : decode cX4_votes 1 = .ok (.invokestatic 88, 3) := by decide +kernel
theorem dX4_votes_4 : decode cX4_votes 4 = .ok (.aload_n 0, 1) := by decide +kernel
theorem dX4_votes_5 : decode cX4_votes 5 = .ok (.aload_n 0, 1) := by decide +kernel
theorem dX4_votes_6 : decode cX4_votes 6 = .ok (.getfield 19, 3) := by decide +kernel
theorem dX4_votes_9 : decode cX4_votes 9 = .ok (.iload_n 1, 1) := by decide +kernel
theorem dX4_votes_10 : decode cX4_votes 10 = .ok (.invokevirtual 114, 3) := by decide +kernel
theorem dX4_votes_13 : decode cX4_votes 13 = .ok (.ireturn, 1) := by decide +kernel
set_option maxRecDepth 20000 in
theorem ggX4_verdict_X2_size : GoodIn wsX4_verdict wsX2_size := goodIn_r _ [7, 8, 37, 38, 39, 40, 41] (by decide +kernel) (by decide +kernel)
set_option maxRecDepth 20000 in
theorem gX4_verdict_X2_size : GoodIn wsX4_verdict (wsV RX4 44 RX2 yX2_size wsX2_size) := goodIn_app (goodIn_of _ (by decide +kernel)) ggX4_verdict_X2_size
set_option maxRecDepth 20000 in
theorem ggX4_verdict_X3_word : GoodIn wsX4_verdict wsX3_word := goodIn_r _ [13, 14, 15, 16, 17, 18, 19, 20, 21, 22, 23, 24, 25, 26, 27, 42, 43, 44, 45, 46, 47, 48, 49, 50] (by decide +kernel) (by decide +kernel)
set_option maxRecDepth 20000 in
theorem gX4_verdict_X3_word : GoodIn wsX4_verdict (wsV RX4 93 RX3 yX3_word wsX3_word) := goodIn_app (goodIn_of _ (by decide +kernel)) ggX4_verdict_X3_word
set_option maxRecDepth 20000 in
theorem ggX4_verdict_X4_votesIn : GoodIn wsX4_verdict wsX4_votesIn := goodIn_r _ [32, 1, 3, 4, 5, 6, 7, 8, 9, 10, 11, 12, 13, 14, 15, 16, 17, 18, 19, 20, 21, 22, 23, 24, 25, 26, 27, 33, 34, 35, 36, 37, 38, 39, 40, 41, 42, 43, 44, 45, 46, 47, 48, 49, 50] (by decide +kernel) (by decide +kernel)
set_option maxRecDepth 20000 in
theorem gX4_verdict_X4_votesIn : GoodIn wsX4_verdict (wsV RX4 114 RX4 yX4_votesIn wsX4_votesIn) := goodIn_app (goodIn_of _ (by decide +kernel)) ggX4_verdict_X4_votesIn
theorem dX4_verdict_0 : decode cX4_verdict 0 = .ok (.aload_n 0, 1) := by decide +kernel
theorem dX4_verdict_1 : decode cX4_verdict 1 = .ok (.getfield 10, 3) := by decide +kernel
theorem dX4_verdict_4 : decode cX4_verdict 4 = .ok (.invokevirtual 44, 3) := by decide +kernel
theorem dX4_verdict_7 : decode cX4_verdict 7 = .ok (.istore_n 1, 1) := by decide +kernel
theorem dX4_verdict_8 : decode cX4_verdict 8 = .ok (.iconst (-1), 1) := by decide +kernel
theorem dX4_verdict_9 : decode cX4_verdict 9 = .ok (.istore_n 2, 1) := by decide +kernel
theorem dX4_verdict_10 : decode cX4_verdict 10 = .ok (.iconst 0, 1) := by decide +kernel
theorem dX4_verdict_11 : decode cX4_verdict 11 = .ok (.istore_n 3, 1) := by decide +kernel
theorem dX4_verdict_12 : decode cX4_verdict 12 = .ok (.iconst 0, 1) := by decide +kernel
theorem dX4_verdict_13 : decode cX4_verdict 13 = .ok (.istore 4, 2) := by decide +kernel
theorem dX4_verdict_15 : decode cX4_verdict 15 = .ok (.iload 4, 2) := by decide +kernel
theorem dX4_verdict_17 : decode cX4_verdict 17 = .ok (.iload_n 1, 1) := by decide +kernel
theorem dX4_verdict_18 : decode cX4_verdict 18 = .ok (.if_icmp .ge 44, 3) := by decide +kernel
theorem dX4_verdict_21 : decode cX4_verdict 21 = .ok (.aload_n 0, 1) := by decide +kernel
theorem dX4_verdict_22 : decode cX4_verdict 22 = .ok (.getfield 19, 3) := by decide +kernel
theorem dX4_verdict_25 : decode cX4_verdict 25 = .ok (.iload 4, 2) := by decide +kernel
theorem dX4_verdict_27 : decode cX4_verdict 27 = .ok (.invokevirtual 93, 3) := by decide +kernel
theorem dX4_verdict_30 : decode cX4_verdict 30 = .ok (.istore 5, 2) := by decide +kernel
theorem dX4_verdict_32 : decode cX4_verdict 32 = .ok (.aload_n 0, 1) := by decide +kernel
theorem dX4_verdict_33 : decode cX4_verdict 33 = .ok (.aload_n 0, 1) := by decide +kernel
theorem dX4_verdict_34 : decode cX4_verdict 34 = .ok (.getfield 19, 3) := by decide +kernel
theorem dX4_verdict_37 : decode cX4_verdict 37 = .ok (.iload 5, 2) := by decide +kernel
theorem dX4_verdict_39 : decode cX4_verdict 39 = .ok (.invokevirtual 114, 3) := by decide +kernel
theorem dX4_verdict_42 : decode cX4_verdict 42 = .ok (.istore 6, 2) := by decide +kernel
theorem dX4_verdict_44 : decode cX4_verdict 44 = .ok (.iload 6, 2) := by decide +kernel
theorem dX4_verdict_46 : decode cX4_verdict 46 = .ok (.iload_n 3, 1) := by decide +kernel
theorem dX4_verdict_47 : decode cX4_verdict 47 = .ok (.if_icmp .le 9, 3) := by decide +kernel
theorem dX4_verdict_50 : decode cX4_verdict 50 = .ok (.iload 6, 2) := by decide +kernel
theorem dX4_verdict_52 : decode cX4_verdict 52 = .ok (.istore_n 3, 1) := by decide +kernel
theorem dX4_verdict_53 : decode cX4_verdict 53 = .ok (.iload 5, 2) := by decide +kernel
theorem dX4_verdict_55 : decode cX4_verdict 55 = .ok (.istore_n 2, 1) := by decide +kernel
theorem dX4_verdict_56 : decode cX4_verdict 56 = .ok (.iinc 4 1, 3) := by decide +kernel
theorem dX4_verdict_59 : decode cX4_verdict 59 = .ok (.goto (-44), 3) := by decide +kernel
theorem dX4_verdict_62 : decode cX4_verdict 62 = .ok (.iload_n 2, 1) := by decide +kernel
theorem dX4_verdict_63 : decode cX4_verdict 63 = .ok (.ireturn, 1) := by decide +kernel
set_option maxRecDepth 20000 in
theorem ggX4_left_X4_needWord : GoodIn wsX4_left wsX4_needWord := goodIn_ca (goodIn_r _ [6, 7, 8, 9, 10, 5, 11] (by decide +kernel) (by decide +kernel)) (goodIn_sub (fun _ h => List.mem_cons_of_mem _ (List.mem_append_right _ h)) (by decide +kernel))
set_option maxRecDepth 20000 in
theorem gX4_left_X4_needWord : GoodIn wsX4_left (va_wsS RX4 88 yX4_needWord wsX4_needWord) := goodIn_app (goodIn_of _ (by decide +kernel)) ggX4_left_X4_needWord
set_option maxRecDepth 20000 in
theorem ggX4_left_X2_size : GoodIn wsX4_left wsX2_size := goodIn_r _ [16, 17, 41, 42, 43, 44, 45] (by decide +kernel) (by decide +kernel)
set_option maxRecDepth 20000 in
theorem gX4_left_X2_size : GoodIn wsX4_left (wsV RX4 44 RX2 yX2_size wsX2_size) := goodIn_app (goodIn_of _ (by decide +kernel)) ggX4_left_X2_size
set_option maxRecDepth 20000 in
theorem ggX4_left_X3_halves : GoodIn wsX4_left wsX3_halves := goodIn_r _ [22, 23, 24, 46, 47, 48, 49, 50] (by decide +kernel) (by decide +kernel)
set_option maxRecDepth 20000 in
theorem gX4_left_X3_halves : GoodIn wsX4_left (wsV RX4 118 RX3 yX3_halves wsX3_halves) := goodIn_app (goodIn_of _ (by decide +kernel)) ggX4_left_X3_halves
set_option maxRecDepth 20000 in
theorem ggX4_left_X0_value : GoodIn wsX4_left wsX0_value := goodIn_r _ [29, 30, 31, 32, 33, 34, 35, 36, 51, 52, 53, 54] (by decide +kernel) (by decide +kernel)
set_option maxRecDepth 20000 in
theorem gX4_left_X0_value : GoodIn wsX4_left (wsV RX4 122 RX0 yX0_value wsX0_value) := goodIn_app (goodIn_of _ (by decide +kernel)) ggX4_left_X0_value
theorem dX4_left_0 : decode cX4_left 0 = .ok (.iload_n 1, 1) := by decide +kernel
theorem dX4_left_1 : decode cX4_left 1 = .ok (.invokestatic 88, 3) := by decide +kernel
theorem dX4_left_4 : decode cX4_left 4 = .ok (.aload_n 0, 1) := by decide +kernel
theorem dX4_left_5 : decode cX4_left 5 = .ok (.getfield 10, 3) := by decide +kernel
theorem dX4_left_8 : decode cX4_left 8 = .ok (.invokevirtual 44, 3) := by decide +kernel
theorem dX4_left_11 : decode cX4_left 11 = .ok (.istore_n 2, 1) := by decide +kernel
theorem dX4_left_12 : decode cX4_left 12 = .ok (.iconst 0, 1) := by decide +kernel
theorem dX4_left_13 : decode cX4_left 13 = .ok (.istore_n 3, 1) := by decide +kernel
theorem dX4_left_14 : decode cX4_left 14 = .ok (.iconst 0, 1) := by decide +kernel
theorem dX4_left_15 : decode cX4_left 15 = .ok (.istore 4, 2) := by decide +kernel
theorem dX4_left_17 : decode cX4_left 17 = .ok (.iload 4, 2) := by decide +kernel
theorem dX4_left_19 : decode cX4_left 19 = .ok (.iload_n 2, 1) := by decide +kernel
theorem dX4_left_20 : decode cX4_left 20 = .ok (.if_icmp .ge 55, 3) := by decide +kernel
theorem dX4_left_23 : decode cX4_left 23 = .ok (.aload_n 0, 1) := by decide +kernel
theorem dX4_left_24 : decode cX4_left 24 = .ok (.getfield 19, 3) := by decide +kernel
theorem dX4_left_27 : decode cX4_left 27 = .ok (.iconst 0, 1) := by decide +kernel
theorem dX4_left_28 : decode cX4_left 28 = .ok (.invokevirtual 118, 3) := by decide +kernel
theorem dX4_left_31 : decode cX4_left 31 = .ok (.iload 4, 2) := by decide +kernel
theorem dX4_left_33 : decode cX4_left 33 = .ok (.invokevirtual 122, 3) := by decide +kernel
theorem dX4_left_36 : decode cX4_left 36 = .ok (.iload_n 1, 1) := by decide +kernel
theorem dX4_left_37 : decode cX4_left 37 = .ok (.bipush 100, 2) := by decide +kernel
theorem dX4_left_39 : decode cX4_left 39 = .ok (.idiv, 1) := by decide +kernel
theorem dX4_left_40 : decode cX4_left 40 = .ok (.if_icmp .ne 6, 3) := by decide +kernel
theorem dX4_left_43 : decode cX4_left 43 = .ok (.iinc 3 1, 3) := by decide +kernel
theorem dX4_left_46 : decode cX4_left 46 = .ok (.aload_n 0, 1) := by decide +kernel
theorem dX4_left_47 : decode cX4_left 47 = .ok (.getfield 19, 3) := by decide +kernel
theorem dX4_left_50 : decode cX4_left 50 = .ok (.iconst 1, 1) := by decide +kernel
theorem dX4_left_51 : decode cX4_left 51 = .ok (.invokevirtual 118, 3) := by decide +kernel
theorem dX4_left_54 : decode cX4_left 54 = .ok (.iload 4, 2) := by decide +kernel
theorem dX4_left_56 : decode cX4_left 56 = .ok (.invokevirtual 122, 3) := by decide +kernel
theorem dX4_left_59 : decode cX4_left 59 = .ok (.iload_n 1, 1) := by decide +kernel
theorem dX4_left_60 : decode cX4_left 60 = .ok (.bipush 100, 2) := by decide +kernel
theorem dX4_left_62 : decode cX4_left 62 = .ok (.irem, 1) := by decide +kernel
theorem dX4_left_63 : decode cX4_left 63 = .ok (.if_icmp .ne 6, 3) := by decide +kernel
theorem dX4_left_66 : decode cX4_left 66 = .ok (.iinc 3 1, 3) := by decide +kernel
theorem dX4_left_69 : decode cX4_left 69 = .ok (.iinc 4 1, 3) := by decide +kernel
theorem dX4_left_72 : decode cX4_left 72 = .ok (.goto (-55), 3) := by decide +kernel
theorem dX4_left_75 : decode cX4_left 75 = .ok (.iload_n 3, 1) := by decide +kernel
theorem dX4_left_76 : decode cX4_left 76 = .ok (.ireturn, 1) := by decide +kernel
set_option maxRecDepth 20000 in
theorem ggX4_count_X4_needWhat : GoodIn wsX4_count wsX4_needWhat := goodIn_ca (goodIn_r _ [4, 5, 6, 7, 8, 3, 9] (by decide +kernel) (by decide +kernel)) (goodIn_sub (fun _ h => List.mem_cons_of_mem _ (List.mem_append_right _ h)) (by decide +kernel))
set_option maxRecDepth 20000 in
theorem gX4_count_X4_needWhat : GoodIn wsX4_count (va_wsS RX4 96 yX4_needWhat wsX4_needWhat) := goodIn_app (goodIn_of _ (by decide +kernel)) ggX4_count_X4_needWhat
set_option maxRecDepth 20000 in
theorem ggX4_count_X4_tellOfJury : GoodIn wsX4_count wsX4_tellOfJury := goodIn_r _ [13, 14, 15, 16, 17, 18, 19, 20, 21, 22, 23, 24, 25, 26, 27, 28, 29, 30, 3, 31, 32, 33, 34, 35, 36, 37, 38, 39, 40, 41, 42, 43, 44, 45, 46, 47, 48, 49, 50, 51, 52, 53, 54, 55, 56, 57, 58, 59, 60, 61, 62, 63, 64, 65, 66, 67, 68, 69, 70, 71, 72, 73, 74, 75, 76, 77, 78, 79, 80, 81, 82, 83, 84, 85, 86, 87, 88, 89, 90, 91, 92, 93, 94, 95, 96, 97, 98, 99] (by decide +kernel) (by decide +kernel)
set_option maxRecDepth 20000 in
theorem gX4_count_X4_tellOfJury : GoodIn wsX4_count (wsV RX4 127 RX4 yX4_tellOfJury wsX4_tellOfJury) := goodIn_app (goodIn_of _ (by decide +kernel)) ggX4_count_X4_tellOfJury
theorem dX4_count_0 : decode cX4_count 0 = .ok (.iload_n 1, 1) := by decide +kernel
theorem dX4_count_1 : decode cX4_count 1 = .ok (.iconst 5, 1) := by decide +kernel
theorem dX4_count_2 : decode cX4_count 2 = .ok (.invokestatic 96, 3) := by decide +kernel
theorem dX4_count_5 : decode cX4_count 5 = .ok (.aload_n 0, 1) := by decide +kernel
theorem dX4_count_6 : decode cX4_count 6 = .ok (.iload_n 1, 1) := by decide +kernel
theorem dX4_count_7 : decode cX4_count 7 = .ok (.invokevirtual 127, 3) := by decide +kernel
theorem dX4_count_10 : decode cX4_count 10 = .ok (.ireturn, 1) := by decide +kernel
set_option maxRecDepth 20000 in
theorem ggX4_pass_X4_needRounds : GoodIn wsX4_pass wsX4_needRounds := goodIn_ca (goodIn_r _ [7, 8, 9, 10, 11, 6, 12] (by decide +kernel) (by decide +kernel)) (goodIn_sub (fun _ h => List.mem_cons_of_mem _ (List.mem_append_right _ h)) (by decide +kernel))
set_option maxRecDepth 20000 in
theorem gX4_pass_X4_needRounds : GoodIn wsX4_pass (va_wsS RX4 130 yX4_needRounds wsX4_needRounds) := goodIn_app (goodIn_of _ (by decide +kernel)) ggX4_pass_X4_needRounds
set_option maxRecDepth 20000 in
theorem ggX4_pass_X3_taken : GoodIn wsX4_pass wsX3_taken := goodIn_r _ [17, 18, 128, 129, 130, 131, 132] (by decide +kernel) (by decide +kernel)
set_option maxRecDepth 20000 in
theorem gX4_pass_X3_taken : GoodIn wsX4_pass (wsV RX4 133 RX3 yX3_taken wsX3_taken) := goodIn_app (goodIn_of _ (by decide +kernel)) ggX4_pass_X3_taken
set_option maxRecDepth 20000 in
theorem ggX4_pass_X3_goRounds : GoodIn wsX4_pass wsX3_goRounds := goodIn_r _ [22, 23, 24, 25, 26, 16, 27, 18, 28, 29, 30, 31, 32, 33, 34, 35, 36, 37, 38, 39, 40, 41, 42, 43, 44, 45, 46, 47, 48, 49, 50, 51, 52, 53, 54, 55, 56, 57, 58, 59, 60, 61, 62, 63, 64, 65, 66, 67, 68, 69, 70, 71, 72, 73, 74, 75, 76, 77, 78, 79, 80, 81, 82, 83, 84, 85, 86, 87, 88, 89, 90, 91, 92, 93, 94, 95, 96, 97, 98, 99, 100, 101, 102, 103, 104, 105, 106, 107, 108, 109, 110, 111, 112, 113, 114, 115, 116, 117, 118, 119, 120, 121, 122, 123, 128, 129, 130, 131, 132, 133, 134, 135, 136, 137, 138, 139, 140, 141] (by decide +kernel) (by decide +kernel)
set_option maxRecDepth 20000 in
theorem gX4_pass_X3_goRounds : GoodIn wsX4_pass (wsV RX4 136 RX3 yX3_goRounds wsX3_goRounds) := goodIn_app (goodIn_of _ (by decide +kernel)) ggX4_pass_X3_goRounds
theorem dX4_pass_0 : decode cX4_pass 0 = .ok (.iload_n 1, 1) := by decide +kernel
theorem dX4_pass_1 : decode cX4_pass 1 = .ok (.sipush 200, 3) := by decide +kernel
theorem dX4_pass_4 : decode cX4_pass 4 = .ok (.invokestatic 130, 3) := by decide +kernel
theorem dX4_pass_7 : decode cX4_pass 7 = .ok (.aload_n 0, 1) := by decide +kernel
theorem dX4_pass_8 : decode cX4_pass 8 = .ok (.getfield 19, 3) := by decide +kernel
theorem dX4_pass_11 : decode cX4_pass 11 = .ok (.invokevirtual 133, 3) := by decide +kernel
theorem dX4_pass_14 : decode cX4_pass 14 = .ok (.istore_n 2, 1) := by decide +kernel
theorem dX4_pass_15 : decode cX4_pass 15 = .ok (.aload_n 0, 1) := by decide +kernel
theorem dX4_pass_16 : decode cX4_pass 16 = .ok (.getfield 19, 3) := by decide +kernel
theorem dX4_pass_19 : decode cX4_pass 19 = .ok (.aload_n 0, 1) := by decide +kernel
theorem dX4_pass_20 : decode cX4_pass 20 = .ok (.getfield 10, 3) := by decide +kernel
theorem dX4_pass_23 : decode cX4_pass 23 = .ok (.aload_n 0, 1) := by decide +kernel
theorem dX4_pass_24 : decode cX4_pass 24 = .ok (.getfield 26, 3) := by decide +kernel
theorem dX4_pass_27 : decode cX4_pass 27 = .ok (.iload_n 1, 1) := by decide +kernel
theorem dX4_pass_28 : decode cX4_pass 28 = .ok (.invokevirtual 136, 3) := by decide +kernel
theorem dX4_pass_31 : decode cX4_pass 31 = .ok (.aload_n 0, 1) := by decide +kernel
theorem dX4_pass_32 : decode cX4_pass 32 = .ok (.getfield 19, 3) := by decide +kernel
theorem dX4_pass_35 : decode cX4_pass 35 = .ok (.invokevirtual 133, 3) := by decide +kernel
theorem dX4_pass_38 : decode cX4_pass 38 = .ok (.iload_n 2, 1) := by decide +kernel
theorem dX4_pass_39 : decode cX4_pass 39 = .ok (.isub, 1) := by decide +kernel
theorem dX4_pass_40 : decode cX4_pass 40 = .ok (.ireturn, 1) := by decide +kernel
set_option maxRecDepth 20000 in
theorem ggX4_agrees_X3_copyFrom : GoodIn wsX4_agrees wsX3_copyFrom := goodIn_r _ [9, 10, 11, 12, 13, 14, 15, 16, 17, 18, 19, 20, 21, 22, 23, 24, 25, 26, 27, 28, 29, 30, 31, 32, 33, 34, 35, 36, 37, 128, 129, 130, 131, 132, 133, 134, 135, 136] (by decide +kernel) (by decide +kernel)
set_option maxRecDepth 20000 in
theorem gX4_agrees_X3_copyFrom : GoodIn wsX4_agrees (wsV RX4 140 RX3 yX3_copyFrom wsX3_copyFrom) := goodIn_app (goodIn_of _ (by decide +kernel)) ggX4_agrees_X3_copyFrom
set_option maxRecDepth 20000 in
theorem ggX4_agrees_X4_sayTheSame : GoodIn wsX4_agrees wsX4_sayTheSame := goodIn_r _ [42, 3, 43, 44, 45, 46, 47, 48, 49, 50, 51, 8, 52, 13, 14, 53, 54, 55, 32, 56, 34, 57, 58, 59, 18, 60, 20, 61, 62, 63, 41, 64, 124, 125, 126, 127, 137, 138, 139, 140, 141, 128, 129, 130, 131, 132, 134, 135, 136, 133] (by decide +kernel) (by decide +kernel)
set_option maxRecDepth 20000 in
theorem gX4_agrees_X4_sayTheSame : GoodIn wsX4_agrees (wsV RX4 144 RX4 yX4_sayTheSame wsX4_sayTheSame) := goodIn_app (goodIn_of _ (by decide +kernel)) ggX4_agrees_X4_sayTheSame
set_option maxRecDepth 20000 in
theorem ggX4_agrees_X3_goRounds : GoodIn wsX4_agrees wsX3_goRounds := goodIn_r _ [68, 10, 69, 6, 7, 8, 9, 11, 12, 13, 14, 15, 16, 17, 18, 19, 20, 21, 22, 23, 24, 25, 26, 27, 28, 29, 30, 31, 32, 33, 34, 35, 36, 37, 70, 71, 72, 73, 74, 44, 45, 46, 47, 48, 75, 76, 77, 78, 79, 80, 81, 58, 59, 60, 82, 83, 84, 85, 86, 87, 88, 89, 90, 91, 92, 93, 94, 95, 96, 97, 50, 51, 52, 53, 54, 55, 56, 57, 98, 99, 100, 101, 102, 103, 104, 105, 106, 107, 108, 109, 110, 111, 112, 113, 114, 115, 116, 117, 118, 119, 120, 121, 122, 123, 128, 129, 130, 131, 132, 133, 134, 135, 136, 137, 138, 139, 140, 141] (by decide +kernel) (by decide +kernel)
set_option maxRecDepth 20000 in
theorem gX4_agrees_X3_goRounds : GoodIn wsX4_agrees (wsV RX4 136 RX3 yX3_goRounds wsX3_goRounds) := goodIn_app (goodIn_of _ (by decide +kernel)) ggX4_agrees_X3_goRounds
theorem dX4_agrees_0 : decode cX4_agrees 0 = .ok (.aload_n 0, 1) := by decide +kernel
theorem dX4_agrees_1 : decode cX4_agrees 1 = .ok (.getfield 23, 3) := by decide +kernel
theorem dX4_agrees_4 : decode cX4_agrees 4 = .ok (.aload_n 0, 1) := by decide +kernel
theorem dX4_agrees_5 : decode cX4_agrees 5 = .ok (.getfield 19, 3) := by decide +kernel
theorem dX4_agrees_8 : decode cX4_agrees 8 = .ok (.invokevirtual 140, 3) := by decide +kernel
theorem dX4_agrees_11 : decode cX4_agrees 11 = .ok (.iconst 0, 1) := by decide +kernel
theorem dX4_agrees_12 : decode cX4_agrees 12 = .ok (.istore_n 1, 1) := by decide +kernel
theorem dX4_agrees_13 : decode cX4_agrees 13 = .ok (.iload_n 1, 1) := by decide +kernel
theorem dX4_agrees_14 : decode cX4_agrees 14 = .ok (.sipush 200, 3) := by decide +kernel
theorem dX4_agrees_17 : decode cX4_agrees 17 = .ok (.if_icmp .gt 38, 3) := by decide +kernel
theorem dX4_agrees_20 : decode cX4_agrees 20 = .ok (.aload_n 0, 1) := by decide +kernel
theorem dX4_agrees_21 : decode cX4_agrees 21 = .ok (.aload_n 0, 1) := by decide +kernel
theorem dX4_agrees_22 : decode cX4_agrees 22 = .ok (.getfield 23, 3) := by decide +kernel
theorem dX4_agrees_25 : decode cX4_agrees 25 = .ok (.invokevirtual 144, 3) := by decide +kernel
theorem dX4_agrees_28 : decode cX4_agrees 28 = .ok (.ifCond .eq 5, 3) := by decide +kernel
theorem dX4_agrees_31 : decode cX4_agrees 31 = .ok (.iload_n 1, 1) := by decide +kernel
theorem dX4_agrees_32 : decode cX4_agrees 32 = .ok (.ireturn, 1) := by decide +kernel
theorem dX4_agrees_33 : decode cX4_agrees 33 = .ok (.aload_n 0, 1) := by decide +kernel
theorem dX4_agrees_34 : decode cX4_agrees 34 = .ok (.getfield 23, 3) := by decide +kernel
theorem dX4_agrees_37 : decode cX4_agrees 37 = .ok (.aload_n 0, 1) := by decide +kernel
theorem dX4_agrees_38 : decode cX4_agrees 38 = .ok (.getfield 10, 3) := by decide +kernel
theorem dX4_agrees_41 : decode cX4_agrees 41 = .ok (.aload_n 0, 1) := by decide +kernel
theorem dX4_agrees_42 : decode cX4_agrees 42 = .ok (.getfield 26, 3) := by decide +kernel
theorem dX4_agrees_45 : decode cX4_agrees 45 = .ok (.iconst 1, 1) := by decide +kernel
theorem dX4_agrees_46 : decode cX4_agrees 46 = .ok (.invokevirtual 136, 3) := by decide +kernel
theorem dX4_agrees_49 : decode cX4_agrees 49 = .ok (.iinc 1 1, 3) := by decide +kernel
theorem dX4_agrees_52 : decode cX4_agrees 52 = .ok (.goto (-39), 3) := by decide +kernel
theorem dX4_agrees_55 : decode cX4_agrees 55 = .ok (.iconst (-1), 1) := by decide +kernel
theorem dX4_agrees_56 : decode cX4_agrees 56 = .ok (.ireturn, 1) := by decide +kernel
set_option maxRecDepth 20000 in
theorem ggX4_foresee_X4_needRounds : GoodIn wsX4_foresee wsX4_needRounds := goodIn_ca (goodIn_r _ [8, 9, 10, 11, 12, 7, 13] (by decide +kernel) (by decide +kernel)) (goodIn_sub (fun _ h => List.mem_cons_of_mem _ (List.mem_append_left _ (List.mem_append_right _ h))) (by decide +kernel))
set_option maxRecDepth 20000 in
theorem gX4_foresee_X4_needRounds : GoodIn wsX4_foresee (va_wsS RX4 130 yX4_needRounds wsX4_needRounds) := goodIn_app (goodIn_of _ (by decide +kernel)) ggX4_foresee_X4_needRounds
set_option maxRecDepth 20000 in
theorem ggX4_foresee_X4_needParrot : GoodIn wsX4_foresee wsX4_needParrot := goodIn_ca (goodIn_r _ [17, 18, 19, 3, 20, 21, 22, 23, 24, 25, 130, 131, 132, 133, 134, 135, 136, 137, 138] (by decide +kernel) (by decide +kernel)) (goodIn_sub (fun _ h => List.mem_cons_of_mem _ (List.mem_append_right _ h)) (by decide +kernel))
set_option maxRecDepth 20000 in
theorem gX4_foresee_X4_needParrot : GoodIn wsX4_foresee (wsV RX4 61 RX4 yX4_needParrot wsX4_needParrot) := goodIn_app (goodIn_of _ (by decide +kernel)) ggX4_foresee_X4_needParrot
set_option maxRecDepth 20000 in
theorem ggX4_foresee_X3_copyFrom : GoodIn wsX4_foresee wsX3_copyFrom := goodIn_r _ [30, 31, 32, 33, 34, 35, 36, 37, 38, 39, 40, 41, 42, 43, 44, 45, 46, 47, 48, 49, 50, 51, 52, 53, 54, 55, 56, 57, 58, 139, 140, 141, 142, 143, 144, 145, 146, 147] (by decide +kernel) (by decide +kernel)
set_option maxRecDepth 20000 in
theorem gX4_foresee_X3_copyFrom : GoodIn wsX4_foresee (wsV RX4 140 RX3 yX3_copyFrom wsX3_copyFrom) := goodIn_app (goodIn_of _ (by decide +kernel)) ggX4_foresee_X3_copyFrom
set_option maxRecDepth 20000 in
theorem ggX4_foresee_X3_goRounds : GoodIn wsX4_foresee wsX3_goRounds := goodIn_r _ [62, 31, 63, 27, 28, 29, 30, 32, 33, 34, 35, 36, 37, 38, 39, 40, 41, 42, 43, 44, 45, 46, 47, 48, 49, 50, 51, 52, 53, 54, 55, 56, 57, 58, 64, 65, 66, 67, 68, 21, 22, 23, 24, 25, 69, 70, 71, 72, 73, 74, 75, 76, 77, 78, 79, 80, 81, 82, 83, 84, 85, 86, 87, 88, 89, 90, 91, 92, 93, 94, 95, 96, 97, 98, 99, 100, 101, 102, 103, 104, 105, 106, 107, 108, 109, 110, 111, 112, 113, 114, 115, 116, 117, 118, 119, 120, 121, 122, 123, 124, 125, 126, 127, 128, 139, 140, 141, 142, 143, 144, 145, 146, 147, 134, 135, 136, 137, 138] (by decide +kernel) (by decide +kernel)
set_option maxRecDepth 20000 in
theorem gX4_foresee_X3_goRounds : GoodIn wsX4_foresee (wsV RX4 136 RX3 yX3_goRounds wsX3_goRounds) := goodIn_app (goodIn_of _ (by decide +kernel)) ggX4_foresee_X3_goRounds
set_option maxRecDepth 20000 in
theorem ggX4_foresee_X3_word : GoodIn wsX4_foresee wsX3_word := goodIn_r _ [97, 34, 35, 98, 99, 100, 53, 101, 55, 102, 76, 77, 39, 78, 41, 139, 140, 141, 142, 143, 145, 146, 147, 144] (by decide +kernel) (by decide +kernel)
set_option maxRecDepth 20000 in
theorem gX4_foresee_X3_word : GoodIn wsX4_foresee (wsV RX4 93 RX3 yX3_word wsX3_word) := goodIn_app (goodIn_of _ (by decide +kernel)) ggX4_foresee_X3_word
theorem dX4_foresee_0 : decode cX4_foresee 0 = .ok (.iload_n 1, 1) := by decide +kernel
theorem dX4_foresee_1 : decode cX4_foresee 1 = .ok (.sipush 200, 3) := by decide +kernel
theorem dX4_foresee_4 : decode cX4_foresee 4 = .ok (.invokestatic 130, 3) := by decide +kernel
theorem dX4_foresee_7 : decode cX4_foresee 7 = .ok (.aload_n 0, 1) := by decide +kernel
theorem dX4_foresee_8 : decode cX4_foresee 8 = .ok (.iload_n 2, 1) := by decide +kernel
theorem dX4_foresee_9 : decode cX4_foresee 9 = .ok (.invokevirtual 61, 3) := by decide +kernel
theorem dX4_foresee_12 : decode cX4_foresee 12 = .ok (.aload_n 0, 1) := by decide +kernel
theorem dX4_foresee_13 : decode cX4_foresee 13 = .ok (.getfield 23, 3) := by decide +kernel
theorem dX4_foresee_16 : decode cX4_foresee 16 = .ok (.aload_n 0, 1) := by decide +kernel
theorem dX4_foresee_17 : decode cX4_foresee 17 = .ok (.getfield 19, 3) := by decide +kernel
theorem dX4_foresee_20 : decode cX4_foresee 20 = .ok (.invokevirtual 140, 3) := by decide +kernel
theorem dX4_foresee_23 : decode cX4_foresee 23 = .ok (.aload_n 0, 1) := by decide +kernel
theorem dX4_foresee_24 : decode cX4_foresee 24 = .ok (.getfield 23, 3) := by decide +kernel
theorem dX4_foresee_27 : decode cX4_foresee 27 = .ok (.aload_n 0, 1) := by decide +kernel
theorem dX4_foresee_28 : decode cX4_foresee 28 = .ok (.getfield 10, 3) := by decide +kernel
theorem dX4_foresee_31 : decode cX4_foresee 31 = .ok (.aload_n 0, 1) := by decide +kernel
theorem dX4_foresee_32 : decode cX4_foresee 32 = .ok (.getfield 26, 3) := by decide +kernel
theorem dX4_foresee_35 : decode cX4_foresee 35 = .ok (.iload_n 1, 1) := by decide +kernel
theorem dX4_foresee_36 : decode cX4_foresee 36 = .ok (.invokevirtual 136, 3) := by decide +kernel
theorem dX4_foresee_39 : decode cX4_foresee 39 = .ok (.aload_n 0, 1) := by decide +kernel
theorem dX4_foresee_40 : decode cX4_foresee 40 = .ok (.getfield 23, 3) := by decide +kernel
theorem dX4_foresee_43 : decode cX4_foresee 43 = .ok (.iload_n 2, 1) := by decide +kernel
theorem dX4_foresee_44 : decode cX4_foresee 44 = .ok (.invokevirtual 93, 3) := by decide +kernel
theorem dX4_foresee_47 : decode cX4_foresee 47 = .ok (.ireturn, 1) := by decide +kernel
set_option maxRecDepth 20000 in
theorem ggX4_source_X4_needParrot : GoodIn wsX4_source wsX4_needParrot := goodIn_ca (goodIn_r _ [6, 7, 8, 1, 9, 10, 11, 12, 13, 14, 36, 37, 38, 39, 40, 41, 42, 43, 44] (by decide +kernel) (by decide +kernel)) (goodIn_sub (fun _ h => List.mem_cons_of_mem _ (List.mem_append_right _ h)) (by decide +kernel))
set_option maxRecDepth 20000 in
theorem gX4_source_X4_needParrot : GoodIn wsX4_source (wsV RX4 61 RX4 yX4_needParrot wsX4_needParrot) := goodIn_app (goodIn_of _ (by decide +kernel)) ggX4_source_X4_needParrot
set_option maxRecDepth 20000 in
theorem ggX4_source_X2_othersAsSet : GoodIn wsX4_source wsX2_othersAsSet := goodIn_r _ [18, 19, 20, 21, 22, 23, 24, 25, 26, 27, 28, 12, 29, 30, 40, 41, 42, 43, 44, 45] (by decide +kernel) (by decide +kernel)
set_option maxRecDepth 20000 in
theorem gX4_source_X2_othersAsSet : GoodIn wsX4_source (wsV RX4 152 RX2 yX2_othersAsSet wsX2_othersAsSet) := goodIn_app (goodIn_of _ (by decide +kernel)) ggX4_source_X2_othersAsSet
set_option maxRecDepth 20000 in
theorem ggX4_source_X2_othersOfAll : GoodIn wsX4_source wsX2_othersOfAll := goodIn_r _ [34, 14, 35, 16, 17, 12, 18, 19, 20, 21, 22, 23, 24, 25, 26, 27, 28, 29, 30, 40, 41, 42, 43, 44, 45] (by decide +kernel) (by decide +kernel)
set_option maxRecDepth 20000 in
theorem gX4_source_X2_othersOfAll : GoodIn wsX4_source (wsV RX4 155 RX2 yX2_othersOfAll wsX2_othersOfAll) := goodIn_app (goodIn_of _ (by decide +kernel)) ggX4_source_X2_othersOfAll
theorem dX4_source_0 : decode cX4_source 0 = .ok (.aload_n 0, 1) := by decide +kernel
theorem dX4_source_1 : decode cX4_source 1 = .ok (.iload_n 1, 1) := by decide +kernel
theorem dX4_source_2 : decode cX4_source 2 = .ok (.invokevirtual 61, 3) := by decide +kernel
theorem dX4_source_5 : decode cX4_source 5 = .ok (.aload_n 0, 1) := by decide +kernel
theorem dX4_source_6 : decode cX4_source 6 = .ok (.getfield 10, 3) := by decide +kernel
theorem dX4_source_9 : decode cX4_source 9 = .ok (.iload_n 1, 1) := by decide +kernel
theorem dX4_source_10 : decode cX4_source 10 = .ok (.invokevirtual 152, 3) := by decide +kernel
theorem dX4_source_13 : decode cX4_source 13 = .ok (.istore_n 2, 1) := by decide +kernel
theorem dX4_source_14 : decode cX4_source 14 = .ok (.iconst 0, 1) := by decide +kernel
theorem dX4_source_15 : decode cX4_source 15 = .ok (.istore_n 3, 1) := by decide +kernel
theorem dX4_source_16 : decode cX4_source 16 = .ok (.iload_n 3, 1) := by decide +kernel
theorem dX4_source_17 : decode cX4_source 17 = .ok (.bipush 12, 2) := by decide +kernel
theorem dX4_source_19 : decode cX4_source 19 = .ok (.if_icmp .ge 20, 3) := by decide +kernel
theorem dX4_source_22 : decode cX4_source 22 = .ok (.iload_n 2, 1) := by decide +kernel
theorem dX4_source_23 : decode cX4_source 23 = .ok (.aload_n 0, 1) := by decide +kernel
theorem dX4_source_24 : decode cX4_source 24 = .ok (.getfield 10, 3) := by decide +kernel
theorem dX4_source_27 : decode cX4_source 27 = .ok (.iload_n 2, 1) := by decide +kernel
theorem dX4_source_28 : decode cX4_source 28 = .ok (.invokevirtual 155, 3) := by decide +kernel
theorem dX4_source_31 : decode cX4_source 31 = .ok (.ior, 1) := by decide +kernel
theorem dX4_source_32 : decode cX4_source 32 = .ok (.istore_n 2, 1) := by decide +kernel
theorem dX4_source_33 : decode cX4_source 33 = .ok (.iinc 3 1, 3) := by decide +kernel
theorem dX4_source_36 : decode cX4_source 36 = .ok (.goto (-20), 3) := by decide +kernel
theorem dX4_source_39 : decode cX4_source 39 = .ok (.iload_n 2, 1) := by decide +kernel
theorem dX4_source_40 : decode cX4_source 40 = .ok (.ireturn, 1) := by decide +kernel
set_option maxRecDepth 20000 in
theorem ggX4_mean_X2_size : GoodIn wsX4_mean wsX2_size := goodIn_r _ [6, 7, 30, 31, 32, 33, 34] (by decide +kernel) (by decide +kernel)
set_option maxRecDepth 20000 in
theorem gX4_mean_X2_size : GoodIn wsX4_mean (wsV RX4 44 RX2 yX2_size wsX2_size) := goodIn_app (goodIn_of _ (by decide +kernel)) ggX4_mean_X2_size
set_option maxRecDepth 20000 in
theorem ggX4_mean_X4_sureOfAll : GoodIn wsX4_mean wsX4_sureOfAll := goodIn_r _ [12, 1, 13, 2, 3, 4, 5, 6, 7, 14, 15, 16, 17, 18, 19, 20, 21, 22, 23, 24, 25, 26, 27, 28, 29, 30, 31, 32, 33, 34, 35, 36, 37, 38, 39, 40] (by decide +kernel) (by decide +kernel)
set_option maxRecDepth 20000 in
theorem gX4_mean_X4_sureOfAll : GoodIn wsX4_mean (wsV RX4 158 RX4 yX4_sureOfAll wsX4_sureOfAll) := goodIn_app (goodIn_of _ (by decide +kernel)) ggX4_mean_X4_sureOfAll
theorem dX4_mean_0 : decode cX4_mean 0 = .ok (.aload_n 0, 1) := by decide +kernel
theorem dX4_mean_1 : decode cX4_mean 1 = .ok (.getfield 10, 3) := by decide +kernel
theorem dX4_mean_4 : decode cX4_mean 4 = .ok (.invokevirtual 44, 3) := by decide +kernel
theorem dX4_mean_7 : decode cX4_mean 7 = .ok (.istore_n 1, 1) := by decide +kernel
theorem dX4_mean_8 : decode cX4_mean 8 = .ok (.iload_n 1, 1) := by decide +kernel
theorem dX4_mean_9 : decode cX4_mean 9 = .ok (.ifCond .gt 5, 3) := by decide +kernel
theorem dX4_mean_12 : decode cX4_mean 12 = .ok (.dconst 0, 1) := by decide +kernel
theorem dX4_mean_13 : decode cX4_mean 13 = .ok (.dreturn, 1) := by decide +kernel
theorem dX4_mean_14 : decode cX4_mean 14 = .ok (.aload_n 0, 1) := by decide +kernel
theorem dX4_mean_15 : decode cX4_mean 15 = .ok (.invokevirtual 158, 3) := by decide +kernel
theorem dX4_mean_18 : decode cX4_mean 18 = .ok (.i2d, 1) := by decide +kernel
theorem dX4_mean_19 : decode cX4_mean 19 = .ok (.iload_n 1, 1) := by decide +kernel
theorem dX4_mean_20 : decode cX4_mean 20 = .ok (.i2d, 1) := by decide +kernel
theorem dX4_mean_21 : decode cX4_mean 21 = .ok (.ddiv, 1) := by decide +kernel
theorem dX4_mean_22 : decode cX4_mean 22 = .ok (.dreturn, 1) := by decide +kernel
theorem dX4_isOutside_0 : decode cX4_isOutside 0 = .ok (.iload_n 0, 1) := by decide +kernel
theorem dX4_isOutside_1 : decode cX4_isOutside 1 = .ok (.iload_n 1, 1) := by decide +kernel
theorem dX4_isOutside_2 : decode cX4_isOutside 2 = .ok (.if_icmp .lt 8, 3) := by decide +kernel
theorem dX4_isOutside_5 : decode cX4_isOutside 5 = .ok (.iload_n 0, 1) := by decide +kernel
theorem dX4_isOutside_6 : decode cX4_isOutside 6 = .ok (.iload_n 2, 1) := by decide +kernel
theorem dX4_isOutside_7 : decode cX4_isOutside 7 = .ok (.if_icmp .le 7, 3) := by decide +kernel
theorem dX4_isOutside_10 : decode cX4_isOutside 10 = .ok (.iconst 1, 1) := by decide +kernel
theorem dX4_isOutside_11 : decode cX4_isOutside 11 = .ok (.goto 4, 3) := by decide +kernel
theorem dX4_isOutside_14 : decode cX4_isOutside 14 = .ok (.iconst 0, 1) := by decide +kernel
theorem dX4_isOutside_15 : decode cX4_isOutside 15 = .ok (.ireturn, 1) := by decide +kernel
set_option maxRecDepth 20000 in
theorem ggX4_needParrot_X2_size : GoodIn wsX4_needParrot wsX2_size := goodIn_r _ [8, 9, 14, 15, 16, 17, 18] (by decide +kernel) (by decide +kernel)
set_option maxRecDepth 20000 in
theorem gX4_needParrot_X2_size : GoodIn wsX4_needParrot (wsV RX4 44 RX2 yX2_size wsX2_size) := goodIn_app (goodIn_of _ (by decide +kernel)) ggX4_needParrot_X2_size
theorem dX4_needParrot_0 : decode cX4_needParrot 0 = .ok (.iload_n 1, 1) := by decide +kernel
theorem dX4_needParrot_1 : decode cX4_needParrot 1 = .ok (.ifCond .lt 14, 3) := by decide +kernel
theorem dX4_needParrot_4 : decode cX4_needParrot 4 = .ok (.iload_n 1, 1) := by decide +kernel
theorem dX4_needParrot_5 : decode cX4_needParrot 5 = .ok (.aload_n 0, 1) := by decide +kernel
theorem dX4_needParrot_6 : decode cX4_needParrot 6 = .ok (.getfield 10, 3) := by decide +kernel
theorem dX4_needParrot_9 : decode cX4_needParrot 9 = .ok (.invokevirtual 44, 3) := by decide +kernel
theorem dX4_needParrot_12 : decode cX4_needParrot 12 = .ok (.if_icmp .lt 13, 3) := by decide +kernel
theorem dX4_needParrot_15 : decode cX4_needParrot 15 = .ok (.new 106, 3) := by decide +kernel
theorem dX4_needParrot_18 : decode cX4_needParrot 18 = .ok (.dup, 1) := by decide +kernel
theorem dX4_needParrot_19 : decode cX4_needParrot 19 = .ok (.ldc 170, 2) := by decide +kernel
theorem dX4_needParrot_21 : decode cX4_needParrot 21 = .ok (.invokespecial 110, 3) := by decide +kernel
theorem dX4_needParrot_24 : decode cX4_needParrot 24 = .ok (.athrow, 1) := by decide +kernel
theorem dX4_needParrot_25 : decode cX4_needParrot 25 = .ok (.return_, 1) := by decide +kernel
set_option maxRecDepth 20000 in
theorem ggX4_needWhat_X4_isOutside : GoodIn wsX4_needWhat wsX4_isOutside := goodIn_r _ [6] (by decide +kernel) (by decide +kernel)
set_option maxRecDepth 20000 in
theorem gX4_needWhat_X4_isOutside : GoodIn wsX4_needWhat (va_wsS RX4 29 yX4_isOutside wsX4_isOutside) := goodIn_app (goodIn_of _ (by decide +kernel)) ggX4_needWhat_X4_isOutside
theorem dX4_needWhat_0 : decode cX4_needWhat 0 = .ok (.iload_n 0, 1) := by decide +kernel
theorem dX4_needWhat_1 : decode cX4_needWhat 1 = .ok (.iconst 0, 1) := by decide +kernel
theorem dX4_needWhat_2 : decode cX4_needWhat 2 = .ok (.iload_n 1, 1) := by decide +kernel
theorem dX4_needWhat_3 : decode cX4_needWhat 3 = .ok (.invokestatic 29, 3) := by decide +kernel
theorem dX4_needWhat_6 : decode cX4_needWhat 6 = .ok (.ifCond .eq 13, 3) := by decide +kernel
theorem dX4_needWhat_9 : decode cX4_needWhat 9 = .ok (.new 106, 3) := by decide +kernel
theorem dX4_needWhat_12 : decode cX4_needWhat 12 = .ok (.dup, 1) := by decide +kernel
theorem dX4_needWhat_13 : decode cX4_needWhat 13 = .ok (.ldc 172, 2) := by decide +kernel
theorem dX4_needWhat_15 : decode cX4_needWhat 15 = .ok (.invokespecial 110, 3) := by decide +kernel
theorem dX4_needWhat_18 : decode cX4_needWhat 18 = .ok (.athrow, 1) := by decide +kernel
theorem dX4_needWhat_19 : decode cX4_needWhat 19 = .ok (.return_, 1) := by decide +kernel
set_option maxRecDepth 20000 in
theorem ggX4_needLoud_X4_isOutside : GoodIn wsX4_needLoud wsX4_isOutside := goodIn_r _ [6] (by decide +kernel) (by decide +kernel)
set_option maxRecDepth 20000 in
theorem gX4_needLoud_X4_isOutside : GoodIn wsX4_needLoud (va_wsS RX4 29 yX4_isOutside wsX4_isOutside) := goodIn_app (goodIn_of _ (by decide +kernel)) ggX4_needLoud_X4_isOutside
theorem dX4_needLoud_0 : decode cX4_needLoud 0 = .ok (.iload_n 0, 1) := by decide +kernel
theorem dX4_needLoud_1 : decode cX4_needLoud 1 = .ok (.iconst 1, 1) := by decide +kernel
theorem dX4_needLoud_2 : decode cX4_needLoud 2 = .ok (.iconst 5, 1) := by decide +kernel
theorem dX4_needLoud_3 : decode cX4_needLoud 3 = .ok (.invokestatic 29, 3) := by decide +kernel
theorem dX4_needLoud_6 : decode cX4_needLoud 6 = .ok (.ifCond .eq 13, 3) := by decide +kernel
theorem dX4_needLoud_9 : decode cX4_needLoud 9 = .ok (.new 33, 3) := by decide +kernel
theorem dX4_needLoud_12 : decode cX4_needLoud 12 = .ok (.dup, 1) := by decide +kernel
theorem dX4_needLoud_13 : decode cX4_needLoud 13 = .ok (.ldc 174, 2) := by decide +kernel
theorem dX4_needLoud_15 : decode cX4_needLoud 15 = .ok (.invokespecial 37, 3) := by decide +kernel
theorem dX4_needLoud_18 : decode cX4_needLoud 18 = .ok (.athrow, 1) := by decide +kernel
theorem dX4_needLoud_19 : decode cX4_needLoud 19 = .ok (.return_, 1) := by decide +kernel
set_option maxRecDepth 20000 in
theorem ggX4_needWord_X4_isOutside : GoodIn wsX4_needWord wsX4_isOutside := goodIn_r _ [6] (by decide +kernel) (by decide +kernel)
set_option maxRecDepth 20000 in
theorem gX4_needWord_X4_isOutside : GoodIn wsX4_needWord (va_wsS RX4 29 yX4_isOutside wsX4_isOutside) := goodIn_app (goodIn_of _ (by decide +kernel)) ggX4_needWord_X4_isOutside
theorem dX4_needWord_0 : decode cX4_needWord 0 = .ok (.iload_n 0, 1) := by decide +kernel
theorem dX4_needWord_1 : decode cX4_needWord 1 = .ok (.iconst 0, 1) := by decide +kernel
theorem dX4_needWord_2 : decode cX4_needWord 2 = .ok (.sipush 9999, 3) := by decide +kernel
theorem dX4_needWord_5 : decode cX4_needWord 5 = .ok (.invokestatic 29, 3) := by decide +kernel
theorem dX4_needWord_8 : decode cX4_needWord 8 = .ok (.ifCond .eq 13, 3) := by decide +kernel
theorem dX4_needWord_11 : decode cX4_needWord 11 = .ok (.new 33, 3) := by decide +kernel
theorem dX4_needWord_14 : decode cX4_needWord 14 = .ok (.dup, 1) := by decide +kernel
theorem dX4_needWord_15 : decode cX4_needWord 15 = .ok (.ldc 176, 2) := by decide +kernel
theorem dX4_needWord_17 : decode cX4_needWord 17 = .ok (.invokespecial 37, 3) := by decide +kernel
theorem dX4_needWord_20 : decode cX4_needWord 20 = .ok (.athrow, 1) := by decide +kernel
theorem dX4_needWord_21 : decode cX4_needWord 21 = .ok (.return_, 1) := by decide +kernel
set_option maxRecDepth 20000 in
theorem ggX4_needRounds_X4_isOutside : GoodIn wsX4_needRounds wsX4_isOutside := goodIn_r _ [6] (by decide +kernel) (by decide +kernel)
set_option maxRecDepth 20000 in
theorem gX4_needRounds_X4_isOutside : GoodIn wsX4_needRounds (va_wsS RX4 29 yX4_isOutside wsX4_isOutside) := goodIn_app (goodIn_of _ (by decide +kernel)) ggX4_needRounds_X4_isOutside
theorem dX4_needRounds_0 : decode cX4_needRounds 0 = .ok (.iload_n 0, 1) := by decide +kernel
theorem dX4_needRounds_1 : decode cX4_needRounds 1 = .ok (.iconst 1, 1) := by decide +kernel
theorem dX4_needRounds_2 : decode cX4_needRounds 2 = .ok (.iload_n 1, 1) := by decide +kernel
theorem dX4_needRounds_3 : decode cX4_needRounds 3 = .ok (.invokestatic 29, 3) := by decide +kernel
theorem dX4_needRounds_6 : decode cX4_needRounds 6 = .ok (.ifCond .eq 13, 3) := by decide +kernel
theorem dX4_needRounds_9 : decode cX4_needRounds 9 = .ok (.new 33, 3) := by decide +kernel
theorem dX4_needRounds_12 : decode cX4_needRounds 12 = .ok (.dup, 1) := by decide +kernel
theorem dX4_needRounds_13 : decode cX4_needRounds 13 = .ok (.ldc 178, 2) := by decide +kernel
theorem dX4_needRounds_15 : decode cX4_needRounds 15 = .ok (.invokespecial 37, 3) := by decide +kernel
theorem dX4_needRounds_18 : decode cX4_needRounds 18 = .ok (.athrow, 1) := by decide +kernel
theorem dX4_needRounds_19 : decode cX4_needRounds 19 = .ok (.return_, 1) := by decide +kernel
set_option maxRecDepth 20000 in
theorem ggX4_tellOfParrot_X3_word : GoodIn wsX4_tellOfParrot wsX3_word := goodIn_r _ [7, 8, 9, 10, 11, 12, 13, 14, 15, 16, 17, 18, 19, 20, 21, 67, 68, 69, 70, 71, 72, 73, 74, 75] (by decide +kernel) (by decide +kernel)
set_option maxRecDepth 20000 in
theorem gX4_tellOfParrot_X3_word : GoodIn wsX4_tellOfParrot (wsV RX4 93 RX3 yX3_word wsX3_word) := goodIn_app (goodIn_of _ (by decide +kernel)) ggX4_tellOfParrot_X3_word
set_option maxRecDepth 20000 in
theorem ggX4_tellOfParrot_X3_sure : GoodIn wsX4_tellOfParrot wsX3_sure := goodIn_r _ [25, 26, 27, 17, 18, 19, 20, 21, 67, 68, 69, 70, 71, 75] (by decide +kernel) (by decide +kernel)
set_option maxRecDepth 20000 in
theorem gX4_tellOfParrot_X3_sure : GoodIn wsX4_tellOfParrot (wsV RX4 180 RX3 yX3_sure wsX3_sure) := goodIn_app (goodIn_of _ (by decide +kernel)) ggX4_tellOfParrot_X3_sure
set_option maxRecDepth 20000 in
theorem ggX4_tellOfParrot_X2_memory : GoodIn wsX4_tellOfParrot wsX2_memory := goodIn_r _ [32, 33, 34, 17, 18, 19, 20, 21, 76, 77, 78, 79, 80, 75] (by decide +kernel) (by decide +kernel)
set_option maxRecDepth 20000 in
theorem gX4_tellOfParrot_X2_memory : GoodIn wsX4_tellOfParrot (wsV RX4 183 RX2 yX2_memory wsX2_memory) := goodIn_app (goodIn_of _ (by decide +kernel)) ggX4_tellOfParrot_X2_memory
set_option maxRecDepth 20000 in
theorem ggX4_tellOfParrot_X2_loud : GoodIn wsX4_tellOfParrot wsX2_loud := goodIn_r _ [38, 39, 34, 17, 18, 19, 20, 21, 76, 77, 78, 79, 80, 75] (by decide +kernel) (by decide +kernel)
set_option maxRecDepth 20000 in
theorem gX4_tellOfParrot_X2_loud : GoodIn wsX4_tellOfParrot (wsV RX4 82 RX2 yX2_loud wsX2_loud) := goodIn_app (goodIn_of _ (by decide +kernel)) ggX4_tellOfParrot_X2_loud
set_option maxRecDepth 20000 in
theorem ggX4_tellOfParrot_X2_listening : GoodIn wsX4_tellOfParrot wsX2_listening := goodIn_r _ [43, 44, 34, 17, 18, 19, 20, 21, 76, 77, 78, 79, 80, 75] (by decide +kernel) (by decide +kernel)
set_option maxRecDepth 20000 in
theorem gX4_tellOfParrot_X2_listening : GoodIn wsX4_tellOfParrot (wsV RX4 73 RX2 yX2_listening wsX2_listening) := goodIn_app (goodIn_of _ (by decide +kernel)) ggX4_tellOfParrot_X2_listening
set_option maxRecDepth 20000 in
theorem ggX4_tellOfParrot_X2_listeners : GoodIn wsX4_tellOfParrot wsX2_listeners := goodIn_r _ [48, 49, 50, 51, 52, 31, 53, 44, 34, 17, 18, 19, 20, 21, 54, 55, 56, 57, 58, 76, 77, 78, 79, 80, 75] (by decide +kernel) (by decide +kernel)
set_option maxRecDepth 20000 in
theorem gX4_tellOfParrot_X2_listeners : GoodIn wsX4_tellOfParrot (wsV RX4 186 RX2 yX2_listeners wsX2_listeners) := goodIn_app (goodIn_of _ (by decide +kernel)) ggX4_tellOfParrot_X2_listeners
set_option maxRecDepth 20000 in
theorem ggX4_tellOfParrot_X2_heard : GoodIn wsX4_tellOfParrot wsX2_heard := goodIn_r _ [62, 44, 39, 34, 17, 18, 19, 20, 21, 54, 55, 56, 31, 57, 58, 76, 77, 78, 79, 80, 75] (by decide +kernel) (by decide +kernel)
set_option maxRecDepth 20000 in
theorem gX4_tellOfParrot_X2_heard : GoodIn wsX4_tellOfParrot (wsV RX4 189 RX2 yX2_heard wsX2_heard) := goodIn_app (goodIn_of _ (by decide +kernel)) ggX4_tellOfParrot_X2_heard
theorem dX4_tellOfParrot_0 : decode cX4_tellOfParrot 0 = .ok (.iload_n 2, 1) := by decide +kernel
theorem dX4_tellOfParrot_1 : decode cX4_tellOfParrot 1 = .ok (.tableswitch 93 0 5 #[39, 48, 57, 66, 75, 84], 39) := by decide +kernel
theorem dX4_tellOfParrot_40 : decode cX4_tellOfParrot 40 = .ok (.aload_n 0, 1) := by decide +kernel
theorem dX4_tellOfParrot_41 : decode cX4_tellOfParrot 41 = .ok (.getfield 19, 3) := by decide +kernel
theorem dX4_tellOfParrot_44 : decode cX4_tellOfParrot 44 = .ok (.iload_n 1, 1) := by decide +kernel
theorem dX4_tellOfParrot_45 : decode cX4_tellOfParrot 45 = .ok (.invokevirtual 93, 3) := by decide +kernel
theorem dX4_tellOfParrot_48 : decode cX4_tellOfParrot 48 = .ok (.ireturn, 1) := by decide +kernel
theorem dX4_tellOfParrot_49 : decode cX4_tellOfParrot 49 = .ok (.aload_n 0, 1) := by decide +kernel
theorem dX4_tellOfParrot_50 : decode cX4_tellOfParrot 50 = .ok (.getfield 19, 3) := by decide +kernel
theorem dX4_tellOfParrot_53 : decode cX4_tellOfParrot 53 = .ok (.iload_n 1, 1) := by decide +kernel
theorem dX4_tellOfParrot_54 : decode cX4_tellOfParrot 54 = .ok (.invokevirtual 180, 3) := by decide +kernel
theorem dX4_tellOfParrot_57 : decode cX4_tellOfParrot 57 = .ok (.ireturn, 1) := by decide +kernel
theorem dX4_tellOfParrot_58 : decode cX4_tellOfParrot 58 = .ok (.aload_n 0, 1) := by decide +kernel
theorem dX4_tellOfParrot_59 : decode cX4_tellOfParrot 59 = .ok (.getfield 10, 3) := by decide +kernel
theorem dX4_tellOfParrot_62 : decode cX4_tellOfParrot 62 = .ok (.iload_n 1, 1) := by decide +kernel
theorem dX4_tellOfParrot_63 : decode cX4_tellOfParrot 63 = .ok (.invokevirtual 183, 3) := by decide +kernel
theorem dX4_tellOfParrot_66 : decode cX4_tellOfParrot 66 = .ok (.ireturn, 1) := by decide +kernel
theorem dX4_tellOfParrot_67 : decode cX4_tellOfParrot 67 = .ok (.aload_n 0, 1) := by decide +kernel
theorem dX4_tellOfParrot_68 : decode cX4_tellOfParrot 68 = .ok (.getfield 10, 3) := by decide +kernel
theorem dX4_tellOfParrot_71 : decode cX4_tellOfParrot 71 = .ok (.iload_n 1, 1) := by decide +kernel
theorem dX4_tellOfParrot_72 : decode cX4_tellOfParrot 72 = .ok (.invokevirtual 82, 3) := by decide +kernel
theorem dX4_tellOfParrot_75 : decode cX4_tellOfParrot 75 = .ok (.ireturn, 1) := by decide +kernel
theorem dX4_tellOfParrot_76 : decode cX4_tellOfParrot 76 = .ok (.aload_n 0, 1) := by decide +kernel
theorem dX4_tellOfParrot_77 : decode cX4_tellOfParrot 77 = .ok (.getfield 10, 3) := by decide +kernel
theorem dX4_tellOfParrot_80 : decode cX4_tellOfParrot 80 = .ok (.iload_n 1, 1) := by decide +kernel
theorem dX4_tellOfParrot_81 : decode cX4_tellOfParrot 81 = .ok (.invokevirtual 73, 3) := by decide +kernel
theorem dX4_tellOfParrot_84 : decode cX4_tellOfParrot 84 = .ok (.ireturn, 1) := by decide +kernel
theorem dX4_tellOfParrot_85 : decode cX4_tellOfParrot 85 = .ok (.aload_n 0, 1) := by decide +kernel
theorem dX4_tellOfParrot_86 : decode cX4_tellOfParrot 86 = .ok (.getfield 10, 3) := by decide +kernel
theorem dX4_tellOfParrot_89 : decode cX4_tellOfParrot 89 = .ok (.iload_n 1, 1) := by decide +kernel
theorem dX4_tellOfParrot_90 : decode cX4_tellOfParrot 90 = .ok (.invokevirtual 186, 3) := by decide +kernel
theorem dX4_tellOfParrot_93 : decode cX4_tellOfParrot 93 = .ok (.ireturn, 1) := by decide +kernel
theorem dX4_tellOfParrot_94 : decode cX4_tellOfParrot 94 = .ok (.aload_n 0, 1) := by decide +kernel
theorem dX4_tellOfParrot_95 : decode cX4_tellOfParrot 95 = .ok (.getfield 10, 3) := by decide +kernel
theorem dX4_tellOfParrot_98 : decode cX4_tellOfParrot 98 = .ok (.iload_n 1, 1) := by decide +kernel
theorem dX4_tellOfParrot_99 : decode cX4_tellOfParrot 99 = .ok (.invokevirtual 189, 3) := by decide +kernel
theorem dX4_tellOfParrot_102 : decode cX4_tellOfParrot 102 = .ok (.ireturn, 1) := by decide +kernel
set_option maxRecDepth 20000 in
theorem ggX4_tellOfHalf_X3_halves : GoodIn wsX4_tellOfHalf wsX3_halves := goodIn_r _ [6, 7, 8, 35, 36, 37, 38, 39] (by decide +kernel) (by decide +kernel)
set_option maxRecDepth 20000 in
theorem gX4_tellOfHalf_X3_halves : GoodIn wsX4_tellOfHalf (wsV RX4 118 RX3 yX3_halves wsX3_halves) := goodIn_app (goodIn_of _ (by decide +kernel)) ggX4_tellOfHalf_X3_halves
set_option maxRecDepth 20000 in
theorem ggX4_tellOfHalf_X0_value : GoodIn wsX4_tellOfHalf wsX0_value := goodIn_r _ [13, 14, 15, 16, 17, 18, 19, 20, 40, 41, 42, 43] (by decide +kernel) (by decide +kernel)
set_option maxRecDepth 20000 in
theorem gX4_tellOfHalf_X0_value : GoodIn wsX4_tellOfHalf (wsV RX4 122 RX0 yX0_value wsX0_value) := goodIn_app (goodIn_of _ (by decide +kernel)) ggX4_tellOfHalf_X0_value
set_option maxRecDepth 20000 in
theorem ggX4_tellOfHalf_X0_from : GoodIn wsX4_tellOfHalf wsX0_from := goodIn_r _ [24, 25, 15, 16, 17, 18, 19, 20, 40, 41, 42, 43] (by decide +kernel) (by decide +kernel)
set_option maxRecDepth 20000 in
theorem gX4_tellOfHalf_X0_from : GoodIn wsX4_tellOfHalf (wsV RX4 192 RX0 yX0_from wsX0_from) := goodIn_app (goodIn_of _ (by decide +kernel)) ggX4_tellOfHalf_X0_from
set_option maxRecDepth 20000 in
theorem ggX4_tellOfHalf_X0_over : GoodIn wsX4_tellOfHalf wsX0_over := goodIn_r _ [29, 30, 15, 16, 17, 18, 19, 20, 40, 41, 42, 43] (by decide +kernel) (by decide +kernel)
set_option maxRecDepth 20000 in
theorem gX4_tellOfHalf_X0_over : GoodIn wsX4_tellOfHalf (wsV RX4 195 RX0 yX0_over wsX0_over) := goodIn_app (goodIn_of _ (by decide +kernel)) ggX4_tellOfHalf_X0_over
theorem dX4_tellOfHalf_0 : decode cX4_tellOfHalf 0 = .ok (.aload_n 0, 1) := by decide +kernel
theorem dX4_tellOfHalf_1 : decode cX4_tellOfHalf 1 = .ok (.getfield 19, 3) := by decide +kernel
theorem dX4_tellOfHalf_4 : decode cX4_tellOfHalf 4 = .ok (.iload_n 2, 1) := by decide +kernel
theorem dX4_tellOfHalf_5 : decode cX4_tellOfHalf 5 = .ok (.invokevirtual 118, 3) := by decide +kernel
theorem dX4_tellOfHalf_8 : decode cX4_tellOfHalf 8 = .ok (.astore 4, 2) := by decide +kernel
theorem dX4_tellOfHalf_10 : decode cX4_tellOfHalf 10 = .ok (.iload_n 3, 1) := by decide +kernel
theorem dX4_tellOfHalf_11 : decode cX4_tellOfHalf 11 = .ok (.lookupswitch 39 #[(0, 25), (1, 32)], 25) := by decide +kernel
theorem dX4_tellOfHalf_36 : decode cX4_tellOfHalf 36 = .ok (.aload 4, 2) := by decide +kernel
theorem dX4_tellOfHalf_38 : decode cX4_tellOfHalf 38 = .ok (.iload_n 1, 1) := by decide +kernel
theorem dX4_tellOfHalf_39 : decode cX4_tellOfHalf 39 = .ok (.invokevirtual 122, 3) := by decide +kernel
theorem dX4_tellOfHalf_42 : decode cX4_tellOfHalf 42 = .ok (.ireturn, 1) := by decide +kernel
theorem dX4_tellOfHalf_43 : decode cX4_tellOfHalf 43 = .ok (.aload 4, 2) := by decide +kernel
theorem dX4_tellOfHalf_45 : decode cX4_tellOfHalf 45 = .ok (.iload_n 1, 1) := by decide +kernel
theorem dX4_tellOfHalf_46 : decode cX4_tellOfHalf 46 = .ok (.invokevirtual 192, 3) := by decide +kernel
theorem dX4_tellOfHalf_49 : decode cX4_tellOfHalf 49 = .ok (.ireturn, 1) := by decide +kernel
theorem dX4_tellOfHalf_50 : decode cX4_tellOfHalf 50 = .ok (.aload 4, 2) := by decide +kernel
theorem dX4_tellOfHalf_52 : decode cX4_tellOfHalf 52 = .ok (.iload_n 1, 1) := by decide +kernel
theorem dX4_tellOfHalf_53 : decode cX4_tellOfHalf 53 = .ok (.invokevirtual 195, 3) := by decide +kernel
theorem dX4_tellOfHalf_56 : decode cX4_tellOfHalf 56 = .ok (.ireturn, 1) := by decide +kernel
set_option maxRecDepth 20000 in
theorem ggX4_tellOfJury_X3_round : GoodIn wsX4_tellOfJury wsX3_round := goodIn_r _ [7, 8, 74, 75, 76, 77, 78] (by decide +kernel) (by decide +kernel)
set_option maxRecDepth 20000 in
theorem gX4_tellOfJury_X3_round : GoodIn wsX4_tellOfJury (wsV RX4 198 RX3 yX3_round wsX3_round) := goodIn_app (goodIn_of _ (by decide +kernel)) ggX4_tellOfJury_X3_round
set_option maxRecDepth 20000 in
theorem ggX4_tellOfJury_X2_size : GoodIn wsX4_tellOfJury wsX2_size := goodIn_r _ [13, 14, 79, 80, 81, 82, 83] (by decide +kernel) (by decide +kernel)
set_option maxRecDepth 20000 in
theorem gX4_tellOfJury_X2_size : GoodIn wsX4_tellOfJury (wsV RX4 44 RX2 yX2_size wsX2_size) := goodIn_app (goodIn_of _ (by decide +kernel)) ggX4_tellOfJury_X2_size
set_option maxRecDepth 20000 in
theorem ggX4_tellOfJury_X4_differentWords : GoodIn wsX4_tellOfJury wsX4_differentWords := goodIn_r _ [19, 2, 9, 10, 11, 12, 13, 14, 20, 21, 22, 18, 23, 1, 24, 25, 26, 6, 27, 28, 29, 30, 31, 32, 33, 34, 35, 36, 37, 38, 39, 40, 41, 70, 71, 72, 73, 79, 80, 81, 82, 83, 74, 75, 76, 77, 78, 84, 85, 86, 87] (by decide +kernel) (by decide +kernel)
set_option maxRecDepth 20000 in
theorem gX4_tellOfJury_X4_differentWords : GoodIn wsX4_tellOfJury (wsV RX4 201 RX4 yX4_differentWords wsX4_differentWords) := goodIn_app (goodIn_of _ (by decide +kernel)) ggX4_tellOfJury_X4_differentWords
set_option maxRecDepth 20000 in
theorem ggX4_tellOfJury_X4_halvesFromCourt : GoodIn wsX4_tellOfJury wsX4_halvesFromCourt := goodIn_r _ [45, 2, 1, 9, 10, 11, 12, 13, 14, 46, 47, 48, 6, 49, 29, 28, 50, 51, 52, 33, 53, 54, 36, 37, 38, 39, 40, 41, 70, 71, 72, 73, 79, 80, 81, 82, 83, 74, 75, 76, 77, 78, 84, 85, 86, 87] (by decide +kernel) (by decide +kernel)
set_option maxRecDepth 20000 in
theorem gX4_tellOfJury_X4_halvesFromCourt : GoodIn wsX4_tellOfJury (wsV RX4 204 RX4 yX4_halvesFromCourt wsX4_halvesFromCourt) := goodIn_app (goodIn_of _ (by decide +kernel)) ggX4_tellOfJury_X4_halvesFromCourt
set_option maxRecDepth 20000 in
theorem ggX4_tellOfJury_X4_sureOfAll : GoodIn wsX4_tellOfJury wsX4_sureOfAll := goodIn_r _ [58, 2, 1, 9, 10, 11, 12, 13, 14, 59, 60, 61, 6, 62, 63, 64, 37, 38, 39, 40, 41, 70, 71, 72, 73, 79, 80, 81, 82, 83, 74, 75, 76, 77, 78, 87] (by decide +kernel) (by decide +kernel)
set_option maxRecDepth 20000 in
theorem gX4_tellOfJury_X4_sureOfAll : GoodIn wsX4_tellOfJury (wsV RX4 158 RX4 yX4_sureOfAll wsX4_sureOfAll) := goodIn_app (goodIn_of _ (by decide +kernel)) ggX4_tellOfJury_X4_sureOfAll
set_option maxRecDepth 20000 in
theorem ggX4_tellOfJury_X3_taken : GoodIn wsX4_tellOfJury wsX3_taken := goodIn_r _ [68, 69, 74, 75, 76, 77, 78] (by decide +kernel) (by decide +kernel)
set_option maxRecDepth 20000 in
theorem gX4_tellOfJury_X3_taken : GoodIn wsX4_tellOfJury (wsV RX4 133 RX3 yX3_taken wsX3_taken) := goodIn_app (goodIn_of _ (by decide +kernel)) ggX4_tellOfJury_X3_taken
theorem dX4_tellOfJury_0 : decode cX4_tellOfJury 0 = .ok (.iload_n 1, 1) := by decide +kernel
theorem dX4_tellOfJury_1 : decode cX4_tellOfJury 1 = .ok (.tableswitch 66 0 4 #[35, 43, 51, 56, 61], 35) := by decide +kernel
theorem dX4_tellOfJury_36 : decode cX4_tellOfJury 36 = .ok (.aload_n 0, 1) := by decide +kernel
theorem dX4_tellOfJury_37 : decode cX4_tellOfJury 37 = .ok (.getfield 19, 3) := by decide +kernel
theorem dX4_tellOfJury_40 : decode cX4_tellOfJury 40 = .ok (.invokevirtual 198, 3) := by decide +kernel
theorem dX4_tellOfJury_43 : decode cX4_tellOfJury 43 = .ok (.ireturn, 1) := by decide +kernel
theorem dX4_tellOfJury_44 : decode cX4_tellOfJury 44 = .ok (.aload_n 0, 1) := by decide +kernel
theorem dX4_tellOfJury_45 : decode cX4_tellOfJury 45 = .ok (.getfield 10, 3) := by decide +kernel
theorem dX4_tellOfJury_48 : decode cX4_tellOfJury 48 = .ok (.invokevirtual 44, 3) := by decide +kernel
theorem dX4_tellOfJury_51 : decode cX4_tellOfJury 51 = .ok (.ireturn, 1) := by decide +kernel
theorem dX4_tellOfJury_52 : decode cX4_tellOfJury 52 = .ok (.aload_n 0, 1) := by decide +kernel
theorem dX4_tellOfJury_53 : decode cX4_tellOfJury 53 = .ok (.invokevirtual 201, 3) := by decide +kernel
theorem dX4_tellOfJury_56 : decode cX4_tellOfJury 56 = .ok (.ireturn, 1) := by decide +kernel
theorem dX4_tellOfJury_57 : decode cX4_tellOfJury 57 = .ok (.aload_n 0, 1) := by decide +kernel
theorem dX4_tellOfJury_58 : decode cX4_tellOfJury 58 = .ok (.invokevirtual 204, 3) := by decide +kernel
theorem dX4_tellOfJury_61 : decode cX4_tellOfJury 61 = .ok (.ireturn, 1) := by decide +kernel
theorem dX4_tellOfJury_62 : decode cX4_tellOfJury 62 = .ok (.aload_n 0, 1) := by decide +kernel
theorem dX4_tellOfJury_63 : decode cX4_tellOfJury 63 = .ok (.invokevirtual 158, 3) := by decide +kernel
theorem dX4_tellOfJury_66 : decode cX4_tellOfJury 66 = .ok (.ireturn, 1) := by decide +kernel
theorem dX4_tellOfJury_67 : decode cX4_tellOfJury 67 = .ok (.aload_n 0, 1) := by decide +kernel
theorem dX4_tellOfJury_68 : decode cX4_tellOfJury 68 = .ok (.getfield 19, 3) := by decide +kernel
theorem dX4_tellOfJury_71 : decode cX4_tellOfJury 71 = .ok (.invokevirtual 133, 3) := by decide +kernel
theorem dX4_tellOfJury_74 : decode cX4_tellOfJury 74 = .ok (.ireturn, 1) := by decide +kernel
set_option maxRecDepth 20000 in
theorem ggX4_differentWords_X2_size : GoodIn wsX4_differentWords wsX2_size := goodIn_r _ [6, 7, 37, 38, 39, 40, 41] (by decide +kernel) (by decide +kernel)
set_option maxRecDepth 20000 in
theorem gX4_differentWords_X2_size : GoodIn wsX4_differentWords (wsV RX4 44 RX2 yX2_size wsX2_size) := goodIn_app (goodIn_of _ (by decide +kernel)) ggX4_differentWords_X2_size
set_option maxRecDepth 20000 in
theorem ggX4_differentWords_X4_isFirstWithItsWord : GoodIn wsX4_differentWords wsX4_isFirstWithItsWord := goodIn_r _ [12, 13, 14, 15, 16, 17, 18, 19, 20, 21, 22, 23, 24, 25, 26, 27, 28, 29, 30, 31, 32, 33, 34, 35, 36, 42, 43, 44, 45, 46, 47, 48, 49, 50] (by decide +kernel) (by decide +kernel)
set_option maxRecDepth 20000 in
theorem gX4_differentWords_X4_isFirstWithItsWord : GoodIn wsX4_differentWords (wsV RX4 207 RX4 yX4_isFirstWithItsWord wsX4_isFirstWithItsWord) := goodIn_app (goodIn_of _ (by decide +kernel)) ggX4_differentWords_X4_isFirstWithItsWord
theorem dX4_differentWords_0 : decode cX4_differentWords 0 = .ok (.aload_n 0, 1) := by decide +kernel
theorem dX4_differentWords_1 : decode cX4_differentWords 1 = .ok (.getfield 10, 3) := by decide +kernel
theorem dX4_differentWords_4 : decode cX4_differentWords 4 = .ok (.invokevirtual 44, 3) := by decide +kernel
theorem dX4_differentWords_7 : decode cX4_differentWords 7 = .ok (.istore_n 1, 1) := by decide +kernel
theorem dX4_differentWords_8 : decode cX4_differentWords 8 = .ok (.iconst 0, 1) := by decide +kernel
theorem dX4_differentWords_9 : decode cX4_differentWords 9 = .ok (.istore_n 2, 1) := by decide +kernel
theorem dX4_differentWords_10 : decode cX4_differentWords 10 = .ok (.iconst 0, 1) := by decide +kernel
theorem dX4_differentWords_11 : decode cX4_differentWords 11 = .ok (.istore_n 3, 1) := by decide +kernel
theorem dX4_differentWords_12 : decode cX4_differentWords 12 = .ok (.iload_n 3, 1) := by decide +kernel
theorem dX4_differentWords_13 : decode cX4_differentWords 13 = .ok (.iload_n 1, 1) := by decide +kernel
theorem dX4_differentWords_14 : decode cX4_differentWords 14 = .ok (.if_icmp .ge 20, 3) := by decide +kernel
theorem dX4_differentWords_17 : decode cX4_differentWords 17 = .ok (.aload_n 0, 1) := by decide +kernel
theorem dX4_differentWords_18 : decode cX4_differentWords 18 = .ok (.iload_n 3, 1) := by decide +kernel
theorem dX4_differentWords_19 : decode cX4_differentWords 19 = .ok (.invokevirtual 207, 3) := by decide +kernel
theorem dX4_differentWords_22 : decode cX4_differentWords 22 = .ok (.ifCond .eq 6, 3) := by decide +kernel
theorem dX4_differentWords_25 : decode cX4_differentWords 25 = .ok (.iinc 2 1, 3) := by decide +kernel
theorem dX4_differentWords_28 : decode cX4_differentWords 28 = .ok (.iinc 3 1, 3) := by decide +kernel
theorem dX4_differentWords_31 : decode cX4_differentWords 31 = .ok (.goto (-19), 3) := by decide +kernel
theorem dX4_differentWords_34 : decode cX4_differentWords 34 = .ok (.iload_n 2, 1) := by decide +kernel
theorem dX4_differentWords_35 : decode cX4_differentWords 35 = .ok (.ireturn, 1) := by decide +kernel
set_option maxRecDepth 20000 in
theorem ggX4_isFirstWithItsWord_X3_word : GoodIn wsX4_isFirstWithItsWord wsX3_word := goodIn_r _ [6, 7, 8, 9, 10, 11, 12, 13, 14, 15, 16, 17, 18, 19, 20, 25, 26, 27, 28, 29, 30, 31, 32, 33] (by decide +kernel) (by decide +kernel)
set_option maxRecDepth 20000 in
theorem gX4_isFirstWithItsWord_X3_word : GoodIn wsX4_isFirstWithItsWord (wsV RX4 93 RX3 yX3_word wsX3_word) := goodIn_app (goodIn_of _ (by decide +kernel)) ggX4_isFirstWithItsWord_X3_word
theorem dX4_isFirstWithItsWord_0 : decode cX4_isFirstWithItsWord 0 = .ok (.aload_n 0, 1) := by decide +kernel
theorem dX4_isFirstWithItsWord_1 : decode cX4_isFirstWithItsWord 1 = .ok (.getfield 19, 3) := by decide +kernel
theorem dX4_isFirstWithItsWord_4 : decode cX4_isFirstWithItsWord 4 = .ok (.iload_n 1, 1) := by decide +kernel
theorem dX4_isFirstWithItsWord_5 : decode cX4_isFirstWithItsWord 5 = .ok (.invokevirtual 93, 3) := by decide +kernel
theorem dX4_isFirstWithItsWord_8 : decode cX4_isFirstWithItsWord 8 = .ok (.istore_n 2, 1) := by decide +kernel
theorem dX4_isFirstWithItsWord_9 : decode cX4_isFirstWithItsWord 9 = .ok (.iconst 0, 1) := by decide +kernel
theorem dX4_isFirstWithItsWord_10 : decode cX4_isFirstWithItsWord 10 = .ok (.istore_n 3, 1) := by decide +kernel
theorem dX4_isFirstWithItsWord_11 : decode cX4_isFirstWithItsWord 11 = .ok (.iload_n 3, 1) := by decide +kernel
theorem dX4_isFirstWithItsWord_12 : decode cX4_isFirstWithItsWord 12 = .ok (.iload_n 1, 1) := by decide +kernel
theorem dX4_isFirstWithItsWord_13 : decode cX4_isFirstWithItsWord 13 = .ok (.if_icmp .ge 23, 3) := by decide +kernel
theorem dX4_isFirstWithItsWord_16 : decode cX4_isFirstWithItsWord 16 = .ok (.aload_n 0, 1) := by decide +kernel
theorem dX4_isFirstWithItsWord_17 : decode cX4_isFirstWithItsWord 17 = .ok (.getfield 19, 3) := by decide +kernel
theorem dX4_isFirstWithItsWord_20 : decode cX4_isFirstWithItsWord 20 = .ok (.iload_n 3, 1) := by decide +kernel
theorem dX4_isFirstWithItsWord_21 : decode cX4_isFirstWithItsWord 21 = .ok (.invokevirtual 93, 3) := by decide +kernel
theorem dX4_isFirstWithItsWord_24 : decode cX4_isFirstWithItsWord 24 = .ok (.iload_n 2, 1) := by decide +kernel
theorem dX4_isFirstWithItsWord_25 : decode cX4_isFirstWithItsWord 25 = .ok (.if_icmp .ne 5, 3) := by decide +kernel
theorem dX4_isFirstWithItsWord_28 : decode cX4_isFirstWithItsWord 28 = .ok (.iconst 0, 1) := by decide +kernel
theorem dX4_isFirstWithItsWord_29 : decode cX4_isFirstWithItsWord 29 = .ok (.ireturn, 1) := by decide +kernel
theorem dX4_isFirstWithItsWord_30 : decode cX4_isFirstWithItsWord 30 = .ok (.iinc 3 1, 3) := by decide +kernel
theorem dX4_isFirstWithItsWord_33 : decode cX4_isFirstWithItsWord 33 = .ok (.goto (-22), 3) := by decide +kernel
theorem dX4_isFirstWithItsWord_36 : decode cX4_isFirstWithItsWord 36 = .ok (.iconst 1, 1) := by decide +kernel
theorem dX4_isFirstWithItsWord_37 : decode cX4_isFirstWithItsWord 37 = .ok (.ireturn, 1) := by decide +kernel
set_option maxRecDepth 20000 in
theorem ggX4_halvesFromCourt_X2_size : GoodIn wsX4_halvesFromCourt wsX2_size := goodIn_r _ [7, 8, 32, 33, 34, 35, 36] (by decide +kernel) (by decide +kernel)
set_option maxRecDepth 20000 in
theorem gX4_halvesFromCourt_X2_size : GoodIn wsX4_halvesFromCourt (wsV RX4 44 RX2 yX2_size wsX2_size) := goodIn_app (goodIn_of _ (by decide +kernel)) ggX4_halvesFromCourt_X2_size
set_option maxRecDepth 20000 in
theorem ggX4_halvesFromCourt_X3_halves : GoodIn wsX4_halvesFromCourt wsX3_halves := goodIn_r _ [13, 14, 15, 37, 38, 39, 40, 41] (by decide +kernel) (by decide +kernel)
set_option maxRecDepth 20000 in
theorem gX4_halvesFromCourt_X3_halves : GoodIn wsX4_halvesFromCourt (wsV RX4 118 RX3 yX3_halves wsX3_halves) := goodIn_app (goodIn_of _ (by decide +kernel)) ggX4_halvesFromCourt_X3_halves
set_option maxRecDepth 20000 in
theorem ggX4_halvesFromCourt_X0_from : GoodIn wsX4_halvesFromCourt wsX0_from := goodIn_r _ [20, 21, 22, 23, 24, 25, 26, 27, 42, 43, 44, 45] (by decide +kernel) (by decide +kernel)
set_option maxRecDepth 20000 in
theorem gX4_halvesFromCourt_X0_from : GoodIn wsX4_halvesFromCourt (wsV RX4 192 RX0 yX0_from wsX0_from) := goodIn_app (goodIn_of _ (by decide +kernel)) ggX4_halvesFromCourt_X0_from
theorem dX4_halvesFromCourt_0 : decode cX4_halvesFromCourt 0 = .ok (.aload_n 0, 1) := by decide +kernel
theorem dX4_halvesFromCourt_1 : decode cX4_halvesFromCourt 1 = .ok (.getfield 10, 3) := by decide +kernel
theorem dX4_halvesFromCourt_4 : decode cX4_halvesFromCourt 4 = .ok (.invokevirtual 44, 3) := by decide +kernel
theorem dX4_halvesFromCourt_7 : decode cX4_halvesFromCourt 7 = .ok (.istore_n 1, 1) := by decide +kernel
theorem dX4_halvesFromCourt_8 : decode cX4_halvesFromCourt 8 = .ok (.iconst 0, 1) := by decide +kernel
theorem dX4_halvesFromCourt_9 : decode cX4_halvesFromCourt 9 = .ok (.istore_n 2, 1) := by decide +kernel
theorem dX4_halvesFromCourt_10 : decode cX4_halvesFromCourt 10 = .ok (.iconst 0, 1) := by decide +kernel
theorem dX4_halvesFromCourt_11 : decode cX4_halvesFromCourt 11 = .ok (.istore_n 3, 1) := by decide +kernel
theorem dX4_halvesFromCourt_12 : decode cX4_halvesFromCourt 12 = .ok (.iload_n 3, 1) := by decide +kernel
theorem dX4_halvesFromCourt_13 : decode cX4_halvesFromCourt 13 = .ok (.iload_n 1, 1) := by decide +kernel
theorem dX4_halvesFromCourt_14 : decode cX4_halvesFromCourt 14 = .ok (.if_icmp .ge 47, 3) := by decide +kernel
theorem dX4_halvesFromCourt_17 : decode cX4_halvesFromCourt 17 = .ok (.aload_n 0, 1) := by decide +kernel
theorem dX4_halvesFromCourt_18 : decode cX4_halvesFromCourt 18 = .ok (.getfield 19, 3) := by decide +kernel
theorem dX4_halvesFromCourt_21 : decode cX4_halvesFromCourt 21 = .ok (.iconst 0, 1) := by decide +kernel
theorem dX4_halvesFromCourt_22 : decode cX4_halvesFromCourt 22 = .ok (.invokevirtual 118, 3) := by decide +kernel
theorem dX4_halvesFromCourt_25 : decode cX4_halvesFromCourt 25 = .ok (.iload_n 3, 1) := by decide +kernel
theorem dX4_halvesFromCourt_26 : decode cX4_halvesFromCourt 26 = .ok (.invokevirtual 192, 3) := by decide +kernel
theorem dX4_halvesFromCourt_29 : decode cX4_halvesFromCourt 29 = .ok (.iconst (-1), 1) := by decide +kernel
theorem dX4_halvesFromCourt_30 : decode cX4_halvesFromCourt 30 = .ok (.if_icmp .ne 6, 3) := by decide +kernel
theorem dX4_halvesFromCourt_33 : decode cX4_halvesFromCourt 33 = .ok (.iinc 2 1, 3) := by decide +kernel
theorem dX4_halvesFromCourt_36 : decode cX4_halvesFromCourt 36 = .ok (.aload_n 0, 1) := by decide +kernel
theorem dX4_halvesFromCourt_37 : decode cX4_halvesFromCourt 37 = .ok (.getfield 19, 3) := by decide +kernel
theorem dX4_halvesFromCourt_40 : decode cX4_halvesFromCourt 40 = .ok (.iconst 1, 1) := by decide +kernel
theorem dX4_halvesFromCourt_41 : decode cX4_halvesFromCourt 41 = .ok (.invokevirtual 118, 3) := by decide +kernel
theorem dX4_halvesFromCourt_44 : decode cX4_halvesFromCourt 44 = .ok (.iload_n 3, 1) := by decide +kernel
theorem dX4_halvesFromCourt_45 : decode cX4_halvesFromCourt 45 = .ok (.invokevirtual 192, 3) := by decide +kernel
theorem dX4_halvesFromCourt_48 : decode cX4_halvesFromCourt 48 = .ok (.iconst (-1), 1) := by decide +kernel
theorem dX4_halvesFromCourt_49 : decode cX4_halvesFromCourt 49 = .ok (.if_icmp .ne 6, 3) := by decide +kernel
theorem dX4_halvesFromCourt_52 : decode cX4_halvesFromCourt 52 = .ok (.iinc 2 1, 3) := by decide +kernel
theorem dX4_halvesFromCourt_55 : decode cX4_halvesFromCourt 55 = .ok (.iinc 3 1, 3) := by decide +kernel
theorem dX4_halvesFromCourt_58 : decode cX4_halvesFromCourt 58 = .ok (.goto (-46), 3) := by decide +kernel
theorem dX4_halvesFromCourt_61 : decode cX4_halvesFromCourt 61 = .ok (.iload_n 2, 1) := by decide +kernel
theorem dX4_halvesFromCourt_62 : decode cX4_halvesFromCourt 62 = .ok (.ireturn, 1) := by decide +kernel
set_option maxRecDepth 20000 in
theorem ggX4_sureOfAll_X2_size : GoodIn wsX4_sureOfAll wsX2_size := goodIn_r _ [7, 8, 25, 26, 27, 28, 29] (by decide +kernel) (by decide +kernel)
set_option maxRecDepth 20000 in
theorem gX4_sureOfAll_X2_size : GoodIn wsX4_sureOfAll (wsV RX4 44 RX2 yX2_size wsX2_size) := goodIn_app (goodIn_of _ (by decide +kernel)) ggX4_sureOfAll_X2_size
set_option maxRecDepth 20000 in
theorem ggX4_sureOfAll_X3_sure : GoodIn wsX4_sureOfAll wsX3_sure := goodIn_r _ [13, 14, 15, 16, 17, 18, 19, 20, 30, 31, 32, 33, 34, 35] (by decide +kernel) (by decide +kernel)
set_option maxRecDepth 20000 in
theorem gX4_sureOfAll_X3_sure : GoodIn wsX4_sureOfAll (wsV RX4 180 RX3 yX3_sure wsX3_sure) := goodIn_app (goodIn_of _ (by decide +kernel)) ggX4_sureOfAll_X3_sure
theorem dX4_sureOfAll_0 : decode cX4_sureOfAll 0 = .ok (.aload_n 0, 1) := by decide +kernel
theorem dX4_sureOfAll_1 : decode cX4_sureOfAll 1 = .ok (.getfield 10, 3) := by decide +kernel
theorem dX4_sureOfAll_4 : decode cX4_sureOfAll 4 = .ok (.invokevirtual 44, 3) := by decide +kernel
theorem dX4_sureOfAll_7 : decode cX4_sureOfAll 7 = .ok (.istore_n 1, 1) := by decide +kernel
theorem dX4_sureOfAll_8 : decode cX4_sureOfAll 8 = .ok (.iconst 0, 1) := by decide +kernel
theorem dX4_sureOfAll_9 : decode cX4_sureOfAll 9 = .ok (.istore_n 2, 1) := by decide +kernel
theorem dX4_sureOfAll_10 : decode cX4_sureOfAll 10 = .ok (.iconst 0, 1) := by decide +kernel
theorem dX4_sureOfAll_11 : decode cX4_sureOfAll 11 = .ok (.istore_n 3, 1) := by decide +kernel
theorem dX4_sureOfAll_12 : decode cX4_sureOfAll 12 = .ok (.iload_n 3, 1) := by decide +kernel
theorem dX4_sureOfAll_13 : decode cX4_sureOfAll 13 = .ok (.iload_n 1, 1) := by decide +kernel
theorem dX4_sureOfAll_14 : decode cX4_sureOfAll 14 = .ok (.if_icmp .ge 20, 3) := by decide +kernel
theorem dX4_sureOfAll_17 : decode cX4_sureOfAll 17 = .ok (.iload_n 2, 1) := by decide +kernel
theorem dX4_sureOfAll_18 : decode cX4_sureOfAll 18 = .ok (.aload_n 0, 1) := by decide +kernel
theorem dX4_sureOfAll_19 : decode cX4_sureOfAll 19 = .ok (.getfield 19, 3) := by decide +kernel
theorem dX4_sureOfAll_22 : decode cX4_sureOfAll 22 = .ok (.iload_n 3, 1) := by decide +kernel
theorem dX4_sureOfAll_23 : decode cX4_sureOfAll 23 = .ok (.invokevirtual 180, 3) := by decide +kernel
theorem dX4_sureOfAll_26 : decode cX4_sureOfAll 26 = .ok (.iadd, 1) := by decide +kernel
theorem dX4_sureOfAll_27 : decode cX4_sureOfAll 27 = .ok (.istore_n 2, 1) := by decide +kernel
theorem dX4_sureOfAll_28 : decode cX4_sureOfAll 28 = .ok (.iinc 3 1, 3) := by decide +kernel
theorem dX4_sureOfAll_31 : decode cX4_sureOfAll 31 = .ok (.goto (-19), 3) := by decide +kernel
theorem dX4_sureOfAll_34 : decode cX4_sureOfAll 34 = .ok (.iload_n 2, 1) := by decide +kernel
theorem dX4_sureOfAll_35 : decode cX4_sureOfAll 35 = .ok (.ireturn, 1) := by decide +kernel
set_option maxRecDepth 20000 in
theorem ggX4_votesIn_X2_size : GoodIn wsX4_votesIn wsX2_size := goodIn_r _ [6, 7, 31, 32, 33, 34, 35] (by decide +kernel) (by decide +kernel)
set_option maxRecDepth 20000 in
theorem gX4_votesIn_X2_size : GoodIn wsX4_votesIn (wsV RX4 44 RX2 yX2_size wsX2_size) := goodIn_app (goodIn_of _ (by decide +kernel)) ggX4_votesIn_X2_size
set_option maxRecDepth 20000 in
theorem ggX4_votesIn_X3_word : GoodIn wsX4_votesIn wsX3_word := goodIn_r _ [12, 13, 14, 15, 16, 17, 18, 19, 20, 21, 22, 23, 24, 25, 26, 36, 37, 38, 39, 40, 41, 42, 43, 44] (by decide +kernel) (by decide +kernel)
set_option maxRecDepth 20000 in
theorem gX4_votesIn_X3_word : GoodIn wsX4_votesIn (wsV RX4 93 RX3 yX3_word wsX3_word) := goodIn_app (goodIn_of _ (by decide +kernel)) ggX4_votesIn_X3_word
theorem dX4_votesIn_0 : decode cX4_votesIn 0 = .ok (.aload_n 0, 1) := by decide +kernel
theorem dX4_votesIn_1 : decode cX4_votesIn 1 = .ok (.getfield 10, 3) := by decide +kernel
theorem dX4_votesIn_4 : decode cX4_votesIn 4 = .ok (.invokevirtual 44, 3) := by decide +kernel
theorem dX4_votesIn_7 : decode cX4_votesIn 7 = .ok (.istore_n 3, 1) := by decide +kernel
theorem dX4_votesIn_8 : decode cX4_votesIn 8 = .ok (.iconst 0, 1) := by decide +kernel
theorem dX4_votesIn_9 : decode cX4_votesIn 9 = .ok (.istore 4, 2) := by decide +kernel
theorem dX4_votesIn_11 : decode cX4_votesIn 11 = .ok (.iconst 0, 1) := by decide +kernel
theorem dX4_votesIn_12 : decode cX4_votesIn 12 = .ok (.istore 5, 2) := by decide +kernel
theorem dX4_votesIn_14 : decode cX4_votesIn 14 = .ok (.iload 5, 2) := by decide +kernel
theorem dX4_votesIn_16 : decode cX4_votesIn 16 = .ok (.iload_n 3, 1) := by decide +kernel
theorem dX4_votesIn_17 : decode cX4_votesIn 17 = .ok (.if_icmp .ge 22, 3) := by decide +kernel
theorem dX4_votesIn_20 : decode cX4_votesIn 20 = .ok (.aload_n 1, 1) := by decide +kernel
theorem dX4_votesIn_21 : decode cX4_votesIn 21 = .ok (.iload 5, 2) := by decide +kernel
theorem dX4_votesIn_23 : decode cX4_votesIn 23 = .ok (.invokevirtual 93, 3) := by decide +kernel
theorem dX4_votesIn_26 : decode cX4_votesIn 26 = .ok (.iload_n 2, 1) := by decide +kernel
theorem dX4_votesIn_27 : decode cX4_votesIn 27 = .ok (.if_icmp .ne 6, 3) := by decide +kernel
theorem dX4_votesIn_30 : decode cX4_votesIn 30 = .ok (.iinc 4 1, 3) := by decide +kernel
theorem dX4_votesIn_33 : decode cX4_votesIn 33 = .ok (.iinc 5 1, 3) := by decide +kernel
theorem dX4_votesIn_36 : decode cX4_votesIn 36 = .ok (.goto (-22), 3) := by decide +kernel
theorem dX4_votesIn_39 : decode cX4_votesIn 39 = .ok (.iload 4, 2) := by decide +kernel
theorem dX4_votesIn_41 : decode cX4_votesIn 41 = .ok (.ireturn, 1) := by decide +kernel
set_option maxRecDepth 20000 in
theorem ggX4_sayTheSame_X2_size : GoodIn wsX4_sayTheSame wsX2_size := goodIn_r _ [6, 7, 36, 37, 38, 39, 40] (by decide +kernel) (by decide +kernel)
set_option maxRecDepth 20000 in
theorem gX4_sayTheSame_X2_size : GoodIn wsX4_sayTheSame (wsV RX4 44 RX2 yX2_size wsX2_size) := goodIn_app (goodIn_of _ (by decide +kernel)) ggX4_sayTheSame_X2_size
set_option maxRecDepth 20000 in
theorem ggX4_sayTheSame_X3_word : GoodIn wsX4_sayTheSame wsX3_word := goodIn_r _ [12, 13, 14, 15, 16, 17, 18, 19, 20, 21, 22, 23, 24, 25, 26, 41, 42, 43, 44, 45, 46, 47, 48, 49] (by decide +kernel) (by decide +kernel)
set_option maxRecDepth 20000 in
theorem gX4_sayTheSame_X3_word : GoodIn wsX4_sayTheSame (wsV RX4 93 RX3 yX3_word wsX3_word) := goodIn_app (goodIn_of _ (by decide +kernel)) ggX4_sayTheSame_X3_word
set_option maxRecDepth 20000 in
theorem ggX4_sayTheSame_X4_votesIn : GoodIn wsX4_sayTheSame wsX4_votesIn := goodIn_r _ [31, 1, 2, 3, 4, 5, 6, 7, 8, 9, 10, 11, 12, 13, 14, 15, 16, 17, 18, 19, 20, 21, 22, 23, 24, 25, 26, 32, 33, 34, 35, 36, 37, 38, 39, 40, 41, 42, 43, 44, 45, 46, 47, 48, 49] (by decide +kernel) (by decide +kernel)
set_option maxRecDepth 20000 in
theorem gX4_sayTheSame_X4_votesIn : GoodIn wsX4_sayTheSame (wsV RX4 114 RX4 yX4_votesIn wsX4_votesIn) := goodIn_app (goodIn_of _ (by decide +kernel)) ggX4_sayTheSame_X4_votesIn
theorem dX4_sayTheSame_0 : decode cX4_sayTheSame 0 = .ok (.aload_n 0, 1) := by decide +kernel
theorem dX4_sayTheSame_1 : decode cX4_sayTheSame 1 = .ok (.getfield 10, 3) := by decide +kernel
theorem dX4_sayTheSame_4 : decode cX4_sayTheSame 4 = .ok (.invokevirtual 44, 3) := by decide +kernel
theorem dX4_sayTheSame_7 : decode cX4_sayTheSame 7 = .ok (.istore_n 2, 1) := by decide +kernel
theorem dX4_sayTheSame_8 : decode cX4_sayTheSame 8 = .ok (.aload_n 0, 1) := by decide +kernel
theorem dX4_sayTheSame_9 : decode cX4_sayTheSame 9 = .ok (.aload_n 1, 1) := by decide +kernel
theorem dX4_sayTheSame_10 : decode cX4_sayTheSame 10 = .ok (.aload_n 1, 1) := by decide +kernel
theorem dX4_sayTheSame_11 : decode cX4_sayTheSame 11 = .ok (.iconst 0, 1) := by decide +kernel
theorem dX4_sayTheSame_12 : decode cX4_sayTheSame 12 = .ok (.invokevirtual 93, 3) := by decide +kernel
theorem dX4_sayTheSame_15 : decode cX4_sayTheSame 15 = .ok (.invokevirtual 114, 3) := by decide +kernel
theorem dX4_sayTheSame_18 : decode cX4_sayTheSame 18 = .ok (.iload_n 2, 1) := by decide +kernel
theorem dX4_sayTheSame_19 : decode cX4_sayTheSame 19 = .ok (.if_icmp .ne 7, 3) := by decide +kernel
theorem dX4_sayTheSame_22 : decode cX4_sayTheSame 22 = .ok (.iconst 1, 1) := by decide +kernel
theorem dX4_sayTheSame_23 : decode cX4_sayTheSame 23 = .ok (.goto 4, 3) := by decide +kernel
theorem dX4_sayTheSame_26 : decode cX4_sayTheSame 26 = .ok (.iconst 0, 1) := by decide +kernel
theorem dX4_sayTheSame_27 : decode cX4_sayTheSame 27 = .ok (.ireturn, 1) := by decide +kernel
theorem dX5_init_0 : decode cX5_init 0 = .ok (.aload_n 0, 1) := by decide +kernel
theorem dX5_init_1 : decode cX5_init 1 = .ok (.invokespecial 1, 3) := by decide +kernel
theorem dX5_init_4 : decode cX5_init 4 = .ok (.aload_n 0, 1) := by decide +kernel
theorem dX5_init_5 : decode cX5_init 5 = .ok (.iconst 2, 1) := by decide +kernel
theorem dX5_init_6 : decode cX5_init 6 = .ok (.newarray .int, 2) := by decide +kernel
theorem dX5_init_8 : decode cX5_init 8 = .ok (.putfield 7, 3) := by decide +kernel
theorem dX5_init_11 : decode cX5_init 11 = .ok (.aload_n 0, 1) := by decide +kernel
theorem dX5_init_12 : decode cX5_init 12 = .ok (.iconst 2, 1) := by decide +kernel
theorem dX5_init_13 : decode cX5_init 13 = .ok (.newarray .int, 2) := by decide +kernel
theorem dX5_init_15 : decode cX5_init 15 = .ok (.dup, 1) := by decide +kernel
theorem dX5_init_16 : decode cX5_init 16 = .ok (.iconst 0, 1) := by decide +kernel
theorem dX5_init_17 : decode cX5_init 17 = .ok (.iconst (-1), 1) := by decide +kernel
theorem dX5_init_18 : decode cX5_init 18 = .ok (.iastore, 1) := by decide +kernel
theorem dX5_init_19 : decode cX5_init 19 = .ok (.dup, 1) := by decide +kernel
theorem dX5_init_20 : decode cX5_init 20 = .ok (.iconst 1, 1) := by decide +kernel
theorem dX5_init_21 : decode cX5_init 21 = .ok (.iconst (-1), 1) := by decide +kernel
theorem dX5_init_22 : decode cX5_init 22 = .ok (.iastore, 1) := by decide +kernel
theorem dX5_init_23 : decode cX5_init 23 = .ok (.putfield 13, 3) := by decide +kernel
theorem dX5_init_26 : decode cX5_init 26 = .ok (.aload_n 0, 1) := by decide +kernel
theorem dX5_init_27 : decode cX5_init 27 = .ok (.iconst 2, 1) := by decide +kernel
theorem dX5_init_28 : decode cX5_init 28 = .ok (.newarray .int, 2) := by decide +kernel
theorem dX5_init_30 : decode cX5_init 30 = .ok (.putfield 16, 3) := by decide +kernel
theorem dX5_init_33 : decode cX5_init 33 = .ok (.aload_n 0, 1) := by decide +kernel
theorem dX5_init_34 : decode cX5_init 34 = .ok (.iconst 0, 1) := by decide +kernel
theorem dX5_init_35 : decode cX5_init 35 = .ok (.newarray .int, 2) := by decide +kernel
theorem dX5_init_37 : decode cX5_init 37 = .ok (.putfield 19, 3) := by decide +kernel
theorem dX5_init_40 : decode cX5_init 40 = .ok (.return_, 1) := by decide +kernel
set_option maxRecDepth 20000 in
theorem ggX5_copy_X5_init : GoodIn wsX5_copy wsX5_init := goodIn_r _ [13, 14, 15, 16, 17, 4, 5, 6, 10, 18, 19, 20, 21, 22, 23, 24] (by decide +kernel) (by decide +kernel)
set_option maxRecDepth 20000 in
theorem gX5_copy_X5_init : GoodIn wsX5_copy (wsX5_init) := ggX5_copy_X5_init
theorem dX5_copy_0 : decode cX5_copy 0 = .ok (.new 8, 3) := by decide +kernel
theorem dX5_copy_3 : decode cX5_copy 3 = .ok (.dup, 1) := by decide +kernel
theorem dX5_copy_4 : decode cX5_copy 4 = .ok (.invokespecial 22, 3) := by decide +kernel
theorem dX5_copy_7 : decode cX5_copy 7 = .ok (.astore_n 1, 1) := by decide +kernel
theorem dX5_copy_8 : decode cX5_copy 8 = .ok (.iconst 0, 1) := by decide +kernel
theorem dX5_copy_9 : decode cX5_copy 9 = .ok (.istore_n 2, 1) := by decide +kernel
theorem dX5_copy_10 : decode cX5_copy 10 = .ok (.iload_n 2, 1) := by decide +kernel
theorem dX5_copy_11 : decode cX5_copy 11 = .ok (.iconst 2, 1) := by decide +kernel
theorem dX5_copy_12 : decode cX5_copy 12 = .ok (.if_icmp .ge 45, 3) := by decide +kernel
theorem dX5_copy_15 : decode cX5_copy 15 = .ok (.aload_n 1, 1) := by decide +kernel
theorem dX5_copy_16 : decode cX5_copy 16 = .ok (.getfield 7, 3) := by decide +kernel
theorem dX5_copy_19 : decode cX5_copy 19 = .ok (.iload_n 2, 1) := by decide +kernel
theorem dX5_copy_20 : decode cX5_copy 20 = .ok (.aload_n 0, 1) := by decide +kernel
theorem dX5_copy_21 : decode cX5_copy 21 = .ok (.getfield 7, 3) := by decide +kernel
theorem dX5_copy_24 : decode cX5_copy 24 = .ok (.iload_n 2, 1) := by decide +kernel
theorem dX5_copy_25 : decode cX5_copy 25 = .ok (.iaload, 1) := by decide +kernel
theorem dX5_copy_26 : decode cX5_copy 26 = .ok (.iastore, 1) := by decide +kernel
theorem dX5_copy_27 : decode cX5_copy 27 = .ok (.aload_n 1, 1) := by decide +kernel
theorem dX5_copy_28 : decode cX5_copy 28 = .ok (.getfield 13, 3) := by decide +kernel
theorem dX5_copy_31 : decode cX5_copy 31 = .ok (.iload_n 2, 1) := by decide +kernel
theorem dX5_copy_32 : decode cX5_copy 32 = .ok (.aload_n 0, 1) := by decide +kernel
theorem dX5_copy_33 : decode cX5_copy 33 = .ok (.getfield 13, 3) := by decide +kernel
theorem dX5_copy_36 : decode cX5_copy 36 = .ok (.iload_n 2, 1) := by decide +kernel
theorem dX5_copy_37 : decode cX5_copy 37 = .ok (.iaload, 1) := by decide +kernel
theorem dX5_copy_38 : decode cX5_copy 38 = .ok (.iastore, 1) := by decide +kernel
theorem dX5_copy_39 : decode cX5_copy 39 = .ok (.aload_n 1, 1) := by decide +kernel
theorem dX5_copy_40 : decode cX5_copy 40 = .ok (.getfield 16, 3) := by decide +kernel
theorem dX5_copy_43 : decode cX5_copy 43 = .ok (.iload_n 2, 1) := by decide +kernel
theorem dX5_copy_44 : decode cX5_copy 44 = .ok (.aload_n 0, 1) := by decide +kernel
theorem dX5_copy_45 : decode cX5_copy 45 = .ok (.getfield 16, 3) := by decide +kernel
theorem dX5_copy_48 : decode cX5_copy 48 = .ok (.iload_n 2, 1) := by decide +kernel
theorem dX5_copy_49 : decode cX5_copy 49 = .ok (.iaload, 1) := by decide +kernel
theorem dX5_copy_50 : decode cX5_copy 50 = .ok (.iastore, 1) := by decide +kernel
theorem dX5_copy_51 : decode cX5_copy 51 = .ok (.iinc 2 1, 3) := by decide +kernel
theorem dX5_copy_54 : decode cX5_copy 54 = .ok (.goto (-44), 3) := by decide +kernel
theorem dX5_copy_57 : decode cX5_copy 57 = .ok (.aload_n 1, 1) := by decide +kernel
theorem dX5_copy_58 : decode cX5_copy 58 = .ok (.aload_n 0, 1) := by decide +kernel
theorem dX5_copy_59 : decode cX5_copy 59 = .ok (.getfield 23, 3) := by decide +kernel
theorem dX5_copy_62 : decode cX5_copy 62 = .ok (.putfield 23, 3) := by decide +kernel
theorem dX5_copy_65 : decode cX5_copy 65 = .ok (.aload_n 1, 1) := by decide +kernel
theorem dX5_copy_66 : decode cX5_copy 66 = .ok (.aload_n 0, 1) := by decide +kernel
theorem dX5_copy_67 : decode cX5_copy 67 = .ok (.getfield 27, 3) := by decide +kernel
theorem dX5_copy_70 : decode cX5_copy 70 = .ok (.putfield 27, 3) := by decide +kernel
theorem dX5_copy_73 : decode cX5_copy 73 = .ok (.aload_n 1, 1) := by decide +kernel
theorem dX5_copy_74 : decode cX5_copy 74 = .ok (.aload_n 0, 1) := by decide +kernel
theorem dX5_copy_75 : decode cX5_copy 75 = .ok (.getfield 30, 3) := by decide +kernel
theorem dX5_copy_78 : decode cX5_copy 78 = .ok (.putfield 30, 3) := by decide +kernel
theorem dX5_copy_81 : decode cX5_copy 81 = .ok (.aload_n 1, 1) := by decide +kernel
theorem dX5_copy_82 : decode cX5_copy 82 = .ok (.aload_n 0, 1) := by decide +kernel
theorem dX5_copy_83 : decode cX5_copy 83 = .ok (.getfield 19, 3) := by decide +kernel
theorem dX5_copy_86 : decode cX5_copy 86 = .ok (.putfield 19, 3) := by decide +kernel
theorem dX5_copy_89 : decode cX5_copy 89 = .ok (.aload_n 1, 1) := by decide +kernel
theorem dX5_copy_90 : decode cX5_copy 90 = .ok (.areturn, 1) := by decide +kernel
theorem dX5_word_0 : decode cX5_word 0 = .ok (.bipush 100, 2) := by decide +kernel
theorem dX5_word_2 : decode cX5_word 2 = .ok (.aload_n 0, 1) := by decide +kernel
theorem dX5_word_3 : decode cX5_word 3 = .ok (.getfield 7, 3) := by decide +kernel
theorem dX5_word_6 : decode cX5_word 6 = .ok (.iconst 0, 1) := by decide +kernel
theorem dX5_word_7 : decode cX5_word 7 = .ok (.iaload, 1) := by decide +kernel
theorem dX5_word_8 : decode cX5_word 8 = .ok (.imul, 1) := by decide +kernel
theorem dX5_word_9 : decode cX5_word 9 = .ok (.aload_n 0, 1) := by decide +kernel
theorem dX5_word_10 : decode cX5_word 10 = .ok (.getfield 7, 3) := by decide +kernel
theorem dX5_word_13 : decode cX5_word 13 = .ok (.iconst 1, 1) := by decide +kernel
theorem dX5_word_14 : decode cX5_word 14 = .ok (.iaload, 1) := by decide +kernel
theorem dX5_word_15 : decode cX5_word 15 = .ok (.iadd, 1) := by decide +kernel
theorem dX5_word_16 : decode cX5_word 16 = .ok (.ireturn, 1) := by decide +kernel
theorem dX5_say_0 : decode cX5_say 0 = .ok (.iconst 0, 1) := by decide +kernel
theorem dX5_say_1 : decode cX5_say 1 = .ok (.istore_n 3, 1) := by decide +kernel
theorem dX5_say_2 : decode cX5_say 2 = .ok (.iload_n 3, 1) := by decide +kernel
theorem dX5_say_3 : decode cX5_say 3 = .ok (.iconst 2, 1) := by decide +kernel
theorem dX5_say_4 : decode cX5_say 4 = .ok (.if_icmp .ge 44, 3) := by decide +kernel
theorem dX5_say_7 : decode cX5_say 7 = .ok (.aload_n 0, 1) := by decide +kernel
theorem dX5_say_8 : decode cX5_say 8 = .ok (.getfield 7, 3) := by decide +kernel
theorem dX5_say_11 : decode cX5_say 11 = .ok (.iload_n 3, 1) := by decide +kernel
theorem dX5_say_12 : decode cX5_say 12 = .ok (.iload_n 3, 1) := by decide +kernel
theorem dX5_say_13 : decode cX5_say 13 = .ok (.ifCond .ne 10, 3) := by decide +kernel
theorem dX5_say_16 : decode cX5_say 16 = .ok (.iload_n 1, 1) := by decide +kernel
theorem dX5_say_17 : decode cX5_say 17 = .ok (.bipush 100, 2) := by decide +kernel
theorem dX5_say_19 : decode cX5_say 19 = .ok (.idiv, 1) := by decide +kernel
theorem dX5_say_20 : decode cX5_say 20 = .ok (.goto 7, 3) := by decide +kernel
theorem dX5_say_23 : decode cX5_say 23 = .ok (.iload_n 1, 1) := by decide +kernel
theorem dX5_say_24 : decode cX5_say 24 = .ok (.bipush 100, 2) := by decide +kernel
theorem dX5_say_26 : decode cX5_say 26 = .ok (.irem, 1) := by decide +kernel
theorem dX5_say_27 : decode cX5_say 27 = .ok (.iastore, 1) := by decide +kernel
theorem dX5_say_28 : decode cX5_say 28 = .ok (.aload_n 0, 1) := by decide +kernel
theorem dX5_say_29 : decode cX5_say 29 = .ok (.getfield 13, 3) := by decide +kernel
theorem dX5_say_32 : decode cX5_say 32 = .ok (.iload_n 3, 1) := by decide +kernel
theorem dX5_say_33 : decode cX5_say 33 = .ok (.iconst (-1), 1) := by decide +kernel
theorem dX5_say_34 : decode cX5_say 34 = .ok (.iastore, 1) := by decide +kernel
theorem dX5_say_35 : decode cX5_say 35 = .ok (.aload_n 0, 1) := by decide +kernel
theorem dX5_say_36 : decode cX5_say 36 = .ok (.getfield 16, 3) := by decide +kernel
theorem dX5_say_39 : decode cX5_say 39 = .ok (.iload_n 3, 1) := by decide +kernel
theorem dX5_say_40 : decode cX5_say 40 = .ok (.iconst 0, 1) := by decide +kernel
theorem dX5_say_41 : decode cX5_say 41 = .ok (.iastore, 1) := by decide +kernel
theorem dX5_say_42 : decode cX5_say 42 = .ok (.iinc 3 1, 3) := by decide +kernel
theorem dX5_say_45 : decode cX5_say 45 = .ok (.goto (-43), 3) := by decide +kernel
theorem dX5_say_48 : decode cX5_say 48 = .ok (.aload_n 0, 1) := by decide +kernel
theorem dX5_say_49 : decode cX5_say 49 = .ok (.iload_n 2, 1) := by decide +kernel
theorem dX5_say_50 : decode cX5_say 50 = .ok (.putfield 23, 3) := by decide +kernel
theorem dX5_say_53 : decode cX5_say 53 = .ok (.return_, 1) := by decide +kernel
theorem dX5_place_0 : decode cX5_place 0 = .ok (.iconst 0, 1) := by decide +kernel
theorem dX5_place_1 : decode cX5_place 1 = .ok (.istore_n 2, 1) := by decide +kernel
theorem dX5_place_2 : decode cX5_place 2 = .ok (.iload_n 2, 1) := by decide +kernel
theorem dX5_place_3 : decode cX5_place 3 = .ok (.aload_n 0, 1) := by decide +kernel
theorem dX5_place_4 : decode cX5_place 4 = .ok (.getfield 19, 3) := by decide +kernel
theorem dX5_place_7 : decode cX5_place 7 = .ok (.arraylength, 1) := by decide +kernel
theorem dX5_place_8 : decode cX5_place 8 = .ok (.if_icmp .ge 21, 3) := by decide +kernel
theorem dX5_place_11 : decode cX5_place 11 = .ok (.aload_n 0, 1) := by decide +kernel
theorem dX5_place_12 : decode cX5_place 12 = .ok (.getfield 19, 3) := by decide +kernel
theorem dX5_place_15 : decode cX5_place 15 = .ok (.iload_n 2, 1) := by decide +kernel
theorem dX5_place_16 : decode cX5_place 16 = .ok (.iaload, 1) := by decide +kernel
theorem dX5_place_17 : decode cX5_place 17 = .ok (.iload_n 1, 1) := by decide +kernel
theorem dX5_place_18 : decode cX5_place 18 = .ok (.if_icmp .ne 5, 3) := by decide +kernel
theorem dX5_place_21 : decode cX5_place 21 = .ok (.iload_n 2, 1) := by decide +kernel
theorem dX5_place_22 : decode cX5_place 22 = .ok (.ireturn, 1) := by decide +kernel
theorem dX5_place_23 : decode cX5_place 23 = .ok (.iinc 2 1, 3) := by decide +kernel
theorem dX5_place_26 : decode cX5_place 26 = .ok (.goto (-24), 3) := by decide +kernel
theorem dX5_place_29 : decode cX5_place 29 = .ok (.iconst (-1), 1) := by decide +kernel
theorem dX5_place_30 : decode cX5_place 30 = .ok (.ireturn, 1) := by decide +kernel
theorem dX6_init_0 : decode cX6_init 0 = .ok (.aload_n 0, 1) := by decide +kernel
theorem dX6_init_1 : decode cX6_init 1 = .ok (.invokespecial 1, 3) := by decide +kernel
theorem dX6_init_4 : decode cX6_init 4 = .ok (.aload_n 0, 1) := by decide +kernel
theorem dX6_init_5 : decode cX6_init 5 = .ok (.iconst 0, 1) := by decide +kernel
theorem dX6_init_6 : decode cX6_init 6 = .ok (.anewarray 7, 3) := by decide +kernel
theorem dX6_init_9 : decode cX6_init 9 = .ok (.putfield 9, 3) := by decide +kernel
theorem dX6_init_12 : decode cX6_init 12 = .ok (.return_, 1) := by decide +kernel
set_option maxRecDepth 20000 in
theorem ggX6_come_X5_init : GoodIn wsX6_come wsX5_init := goodIn_r _ [8, 9, 10, 11, 12, 13, 14, 15, 16, 20, 21, 22, 23, 24, 25, 26] (by decide +kernel) (by decide +kernel)
set_option maxRecDepth 20000 in
theorem gX6_come_X5_init_n24 : GoodIn wsX6_come (wsX5_init) := ggX6_come_X5_init
theorem dX6_come_0 : decode cX6_come 0 = .ok (.aload_n 0, 1) := by decide +kernel
theorem dX6_come_1 : decode cX6_come 1 = .ok (.getfield 9, 3) := by decide +kernel
theorem dX6_come_4 : decode cX6_come 4 = .ok (.arraylength, 1) := by decide +kernel
theorem dX6_come_5 : decode cX6_come 5 = .ok (.iconst 1, 1) := by decide +kernel
theorem dX6_come_6 : decode cX6_come 6 = .ok (.iadd, 1) := by decide +kernel
theorem dX6_come_7 : decode cX6_come 7 = .ok (.anewarray 7, 3) := by decide +kernel
theorem dX6_come_10 : decode cX6_come 10 = .ok (.astore_n 3, 1) := by decide +kernel
theorem dX6_come_11 : decode cX6_come 11 = .ok (.iconst 0, 1) := by decide +kernel
theorem dX6_come_12 : decode cX6_come 12 = .ok (.istore 4, 2) := by decide +kernel
theorem dX6_come_14 : decode cX6_come 14 = .ok (.iload 4, 2) := by decide +kernel
theorem dX6_come_16 : decode cX6_come 16 = .ok (.aload_n 0, 1) := by decide +kernel
theorem dX6_come_17 : decode cX6_come 17 = .ok (.getfield 9, 3) := by decide +kernel
theorem dX6_come_20 : decode cX6_come 20 = .ok (.arraylength, 1) := by decide +kernel
theorem dX6_come_21 : decode cX6_come 21 = .ok (.if_icmp .ge 20, 3) := by decide +kernel
theorem dX6_come_24 : decode cX6_come 24 = .ok (.aload_n 3, 1) := by decide +kernel
theorem dX6_come_25 : decode cX6_come 25 = .ok (.iload 4, 2) := by decide +kernel
theorem dX6_come_27 : decode cX6_come 27 = .ok (.aload_n 0, 1) := by decide +kernel
theorem dX6_come_28 : decode cX6_come 28 = .ok (.getfield 9, 3) := by decide +kernel
theorem dX6_come_31 : decode cX6_come 31 = .ok (.iload 4, 2) := by decide +kernel
theorem dX6_come_33 : decode cX6_come 33 = .ok (.aaload, 1) := by decide +kernel
theorem dX6_come_34 : decode cX6_come 34 = .ok (.aastore, 1) := by decide +kernel
theorem dX6_come_35 : decode cX6_come 35 = .ok (.iinc 4 1, 3) := by decide +kernel
theorem dX6_come_38 : decode cX6_come 38 = .ok (.goto (-24), 3) := by decide +kernel
theorem dX6_come_41 : decode cX6_come 41 = .ok (.aload_n 3, 1) := by decide +kernel
theorem dX6_come_42 : decode cX6_come 42 = .ok (.aload_n 0, 1) := by decide +kernel
theorem dX6_come_43 : decode cX6_come 43 = .ok (.getfield 9, 3) := by decide +kernel
theorem dX6_come_46 : decode cX6_come 46 = .ok (.arraylength, 1) := by decide +kernel
theorem dX6_come_47 : decode cX6_come 47 = .ok (.new 7, 3) := by decide +kernel
theorem dX6_come_50 : decode cX6_come 50 = .ok (.dup, 1) := by decide +kernel
theorem dX6_come_51 : decode cX6_come 51 = .ok (.invokespecial 24, 3) := by decide +kernel
theorem dX6_come_54 : decode cX6_come 54 = .ok (.aastore, 1) := by decide +kernel
theorem dX6_come_55 : decode cX6_come 55 = .ok (.aload_n 3, 1) := by decide +kernel
theorem dX6_come_56 : decode cX6_come 56 = .ok (.aload_n 0, 1) := by decide +kernel
theorem dX6_come_57 : decode cX6_come 57 = .ok (.getfield 9, 3) := by decide +kernel
theorem dX6_come_60 : decode cX6_come 60 = .ok (.arraylength, 1) := by decide +kernel
theorem dX6_come_61 : decode cX6_come 61 = .ok (.aaload, 1) := by decide +kernel
theorem dX6_come_62 : decode cX6_come 62 = .ok (.iload_n 1, 1) := by decide +kernel
theorem dX6_come_63 : decode cX6_come 63 = .ok (.putfield 25, 3) := by decide +kernel
theorem dX6_come_66 : decode cX6_come 66 = .ok (.aload_n 3, 1) := by decide +kernel
theorem dX6_come_67 : decode cX6_come 67 = .ok (.aload_n 0, 1) := by decide +kernel
theorem dX6_come_68 : decode cX6_come 68 = .ok (.getfield 9, 3) := by decide +kernel
theorem dX6_come_71 : decode cX6_come 71 = .ok (.arraylength, 1) := by decide +kernel
theorem dX6_come_72 : decode cX6_come 72 = .ok (.aaload, 1) := by decide +kernel
theorem dX6_come_73 : decode cX6_come 73 = .ok (.iload_n 2, 1) := by decide +kernel
theorem dX6_come_74 : decode cX6_come 74 = .ok (.putfield 28, 3) := by decide +kernel
theorem dX6_come_77 : decode cX6_come 77 = .ok (.aload_n 0, 1) := by decide +kernel
theorem dX6_come_78 : decode cX6_come 78 = .ok (.aload_n 3, 1) := by decide +kernel
theorem dX6_come_79 : decode cX6_come 79 = .ok (.putfield 9, 3) := by decide +kernel
theorem dX6_come_82 : decode cX6_come 82 = .ok (.return_, 1) := by decide +kernel
set_option maxRecDepth 20000 in
theorem ggX6_listen_X5_place : GoodIn wsX6_listen wsX5_place := goodIn_r _ [8, 9, 13, 14, 15, 16, 17, 18, 19] (by decide +kernel) (by decide +kernel)
set_option maxRecDepth 20000 in
theorem gX6_listen_X5_place : GoodIn wsX6_listen (wsV RX6 31 RX5 yX5_place wsX5_place) := goodIn_app (goodIn_of _ (by decide +kernel)) ggX6_listen_X5_place
theorem dX6_listen_0 : decode cX6_listen 0 = .ok (.aload_n 0, 1) := by decide +kernel
theorem dX6_listen_1 : decode cX6_listen 1 = .ok (.getfield 9, 3) := by decide +kernel
theorem dX6_listen_4 : decode cX6_listen 4 = .ok (.iload_n 1, 1) := by decide +kernel
theorem dX6_listen_5 : decode cX6_listen 5 = .ok (.aaload, 1) := by decide +kernel
theorem dX6_listen_6 : decode cX6_listen 6 = .ok (.astore_n 3, 1) := by decide +kernel
theorem dX6_listen_7 : decode cX6_listen 7 = .ok (.aload_n 3, 1) := by decide +kernel
theorem dX6_listen_8 : decode cX6_listen 8 = .ok (.iload_n 2, 1) := by decide +kernel
theorem dX6_listen_9 : decode cX6_listen 9 = .ok (.invokevirtual 31, 3) := by decide +kernel
theorem dX6_listen_12 : decode cX6_listen 12 = .ok (.istore 4, 2) := by decide +kernel
theorem dX6_listen_14 : decode cX6_listen 14 = .ok (.aload_n 3, 1) := by decide +kernel
theorem dX6_listen_15 : decode cX6_listen 15 = .ok (.getfield 35, 3) := by decide +kernel
theorem dX6_listen_18 : decode cX6_listen 18 = .ok (.arraylength, 1) := by decide +kernel
theorem dX6_listen_19 : decode cX6_listen 19 = .ok (.iload 4, 2) := by decide +kernel
theorem dX6_listen_21 : decode cX6_listen 21 = .ok (.ifCond .ge 7, 3) := by decide +kernel
theorem dX6_listen_24 : decode cX6_listen 24 = .ok (.iconst 1, 1) := by decide +kernel
theorem dX6_listen_25 : decode cX6_listen 25 = .ok (.goto 4, 3) := by decide +kernel
theorem dX6_listen_28 : decode cX6_listen 28 = .ok (.iconst (-1), 1) := by decide +kernel
theorem dX6_listen_29 : decode cX6_listen 29 = .ok (.iadd, 1) := by decide +kernel
theorem dX6_listen_30 : decode cX6_listen 30 = .ok (.newarray .int, 2) := by decide +kernel
theorem dX6_listen_32 : decode cX6_listen 32 = .ok (.astore 5, 2) := by decide +kernel
theorem dX6_listen_34 : decode cX6_listen 34 = .ok (.iconst 0, 1) := by decide +kernel
theorem dX6_listen_35 : decode cX6_listen 35 = .ok (.istore 6, 2) := by decide +kernel
theorem dX6_listen_37 : decode cX6_listen 37 = .ok (.iload 6, 2) := by decide +kernel
theorem dX6_listen_39 : decode cX6_listen 39 = .ok (.aload 5, 2) := by decide +kernel
theorem dX6_listen_41 : decode cX6_listen 41 = .ok (.arraylength, 1) := by decide +kernel
theorem dX6_listen_42 : decode cX6_listen 42 = .ok (.if_icmp .ge 64, 3) := by decide +kernel
theorem dX6_listen_45 : decode cX6_listen 45 = .ok (.aload 5, 2) := by decide +kernel
theorem dX6_listen_47 : decode cX6_listen 47 = .ok (.iload 6, 2) := by decide +kernel
theorem dX6_listen_49 : decode cX6_listen 49 = .ok (.iload 4, 2) := by decide +kernel
theorem dX6_listen_51 : decode cX6_listen 51 = .ok (.ifCond .ge 27, 3) := by decide +kernel
theorem dX6_listen_54 : decode cX6_listen 54 = .ok (.iload 6, 2) := by decide +kernel
theorem dX6_listen_56 : decode cX6_listen 56 = .ok (.aload_n 3, 1) := by decide +kernel
theorem dX6_listen_57 : decode cX6_listen 57 = .ok (.getfield 35, 3) := by decide +kernel
theorem dX6_listen_60 : decode cX6_listen 60 = .ok (.arraylength, 1) := by decide +kernel
theorem dX6_listen_61 : decode cX6_listen 61 = .ok (.if_icmp .ge 13, 3) := by decide +kernel
theorem dX6_listen_64 : decode cX6_listen 64 = .ok (.aload_n 3, 1) := by decide +kernel
theorem dX6_listen_65 : decode cX6_listen 65 = .ok (.getfield 35, 3) := by decide +kernel
theorem dX6_listen_68 : decode cX6_listen 68 = .ok (.iload 6, 2) := by decide +kernel
theorem dX6_listen_70 : decode cX6_listen 70 = .ok (.iaload, 1) := by decide +kernel
theorem dX6_listen_71 : decode cX6_listen 71 = .ok (.goto 28, 3) := by decide +kernel
theorem dX6_listen_74 : decode cX6_listen 74 = .ok (.iload_n 2, 1) := by decide +kernel
theorem dX6_listen_75 : decode cX6_listen 75 = .ok (.goto 24, 3) := by decide +kernel
theorem dX6_listen_78 : decode cX6_listen 78 = .ok (.aload_n 3, 1) := by decide +kernel
theorem dX6_listen_79 : decode cX6_listen 79 = .ok (.getfield 35, 3) := by decide +kernel
theorem dX6_listen_82 : decode cX6_listen 82 = .ok (.iload 6, 2) := by decide +kernel
theorem dX6_listen_84 : decode cX6_listen 84 = .ok (.iload 4, 2) := by decide +kernel
theorem dX6_listen_86 : decode cX6_listen 86 = .ok (.if_icmp .ge 8, 3) := by decide +kernel
theorem dX6_listen_89 : decode cX6_listen 89 = .ok (.iload 6, 2) := by decide +kernel
theorem dX6_listen_91 : decode cX6_listen 91 = .ok (.goto 7, 3) := by decide +kernel
theorem dX6_listen_94 : decode cX6_listen 94 = .ok (.iload 6, 2) := by decide +kernel
theorem dX6_listen_96 : decode cX6_listen 96 = .ok (.iconst 1, 1) := by decide +kernel
theorem dX6_listen_97 : decode cX6_listen 97 = .ok (.iadd, 1) := by decide +kernel
theorem dX6_listen_98 : decode cX6_listen 98 = .ok (.iaload, 1) := by decide +kernel
theorem dX6_listen_99 : decode cX6_listen 99 = .ok (.iastore, 1) := by decide +kernel
theorem dX6_listen_100 : decode cX6_listen 100 = .ok (.iinc 6 1, 3) := by decide +kernel
theorem dX6_listen_103 : decode cX6_listen 103 = .ok (.goto (-66), 3) := by decide +kernel
theorem dX6_listen_106 : decode cX6_listen 106 = .ok (.aload_n 3, 1) := by decide +kernel
theorem dX6_listen_107 : decode cX6_listen 107 = .ok (.aload 5, 2) := by decide +kernel
theorem dX6_listen_109 : decode cX6_listen 109 = .ok (.putfield 35, 3) := by decide +kernel
theorem dX6_listen_112 : decode cX6_listen 112 = .ok (.aload 5, 2) := by decide +kernel
theorem dX6_listen_114 : decode cX6_listen 114 = .ok (.arraylength, 1) := by decide +kernel
theorem dX6_listen_115 : decode cX6_listen 115 = .ok (.ireturn, 1) := by decide +kernel
theorem dX6_heard_0 : decode cX6_heard 0 = .ok (.iconst (-1), 1) := by decide +kernel
theorem dX6_heard_1 : decode cX6_heard 1 = .ok (.istore_n 2, 1) := by decide +kernel
theorem dX6_heard_2 : decode cX6_heard 2 = .ok (.aload_n 1, 1) := by decide +kernel
theorem dX6_heard_3 : decode cX6_heard 3 = .ok (.getfield 35, 3) := by decide +kernel
theorem dX6_heard_6 : decode cX6_heard 6 = .ok (.arraylength, 1) := by decide +kernel
theorem dX6_heard_7 : decode cX6_heard 7 = .ok (.iconst 1, 1) := by decide +kernel
theorem dX6_heard_8 : decode cX6_heard 8 = .ok (.isub, 1) := by decide +kernel
theorem dX6_heard_9 : decode cX6_heard 9 = .ok (.istore_n 3, 1) := by decide +kernel
theorem dX6_heard_10 : decode cX6_heard 10 = .ok (.iload_n 3, 1) := by decide +kernel
theorem dX6_heard_11 : decode cX6_heard 11 = .ok (.ifCond .lt 46, 3) := by decide +kernel
theorem dX6_heard_14 : decode cX6_heard 14 = .ok (.iload_n 2, 1) := by decide +kernel
theorem dX6_heard_15 : decode cX6_heard 15 = .ok (.ifCond .lt 29, 3) := by decide +kernel
theorem dX6_heard_18 : decode cX6_heard 18 = .ok (.aload_n 0, 1) := by decide +kernel
theorem dX6_heard_19 : decode cX6_heard 19 = .ok (.getfield 9, 3) := by decide +kernel
theorem dX6_heard_22 : decode cX6_heard 22 = .ok (.aload_n 1, 1) := by decide +kernel
theorem dX6_heard_23 : decode cX6_heard 23 = .ok (.getfield 35, 3) := by decide +kernel
theorem dX6_heard_26 : decode cX6_heard 26 = .ok (.iload_n 3, 1) := by decide +kernel
theorem dX6_heard_27 : decode cX6_heard 27 = .ok (.iaload, 1) := by decide +kernel
theorem dX6_heard_28 : decode cX6_heard 28 = .ok (.aaload, 1) := by decide +kernel
theorem dX6_heard_29 : decode cX6_heard 29 = .ok (.getfield 28, 3) := by decide +kernel
theorem dX6_heard_32 : decode cX6_heard 32 = .ok (.aload_n 0, 1) := by decide +kernel
theorem dX6_heard_33 : decode cX6_heard 33 = .ok (.getfield 9, 3) := by decide +kernel
theorem dX6_heard_36 : decode cX6_heard 36 = .ok (.iload_n 2, 1) := by decide +kernel
theorem dX6_heard_37 : decode cX6_heard 37 = .ok (.aaload, 1) := by decide +kernel
theorem dX6_heard_38 : decode cX6_heard 38 = .ok (.getfield 28, 3) := by decide +kernel
theorem dX6_heard_41 : decode cX6_heard 41 = .ok (.if_icmp .lt 10, 3) := by decide +kernel
theorem dX6_heard_44 : decode cX6_heard 44 = .ok (.aload_n 1, 1) := by decide +kernel
