theorem dX0_init_0 : decode cX0_init 0 = .ok (.aload_n 0, 1) := by decide +kernel
theorem dX0_init_1 : decode cX0_init 1 = .ok (.invokespecial 3, 3) := by decide +kernel
theorem dX0_init_4 : decode cX0_init 4 = .ok (.aload_n 0, 1) := by decide +kernel
theorem dX0_init_5 : decode cX0_init 5 = .ok (.new 9, 3) := by decide +kernel
theorem dX0_init_8 : decode cX0_init 8 = .ok (.dup, 1) := by decide +kernel
theorem dX0_init_9 : decode cX0_init 9 = .ok (.bipush 12, 2) := by decide +kernel
theorem dX0_init_11 : decode cX0_init 11 = .ok (.invokespecial 11, 3) := by decide +kernel
theorem dX0_init_14 : decode cX0_init 14 = .ok (.putfield 14, 3) := by decide +kernel
theorem dX0_init_17 : decode cX0_init 17 = .ok (.aload_n 0, 1) := by decide +kernel
theorem dX0_init_18 : decode cX0_init 18 = .ok (.new 9, 3) := by decide +kernel
theorem dX0_init_21 : decode cX0_init 21 = .ok (.dup, 1) := by decide +kernel
theorem dX0_init_22 : decode cX0_init 22 = .ok (.bipush 12, 2) := by decide +kernel
theorem dX0_init_24 : decode cX0_init 24 = .ok (.invokespecial 11, 3) := by decide +kernel
theorem dX0_init_27 : decode cX0_init 27 = .ok (.putfield 20, 3) := by decide +kernel
theorem dX0_init_30 : decode cX0_init 30 = .ok (.aload_n 0, 1) := by decide +kernel
theorem dX0_init_31 : decode cX0_init 31 = .ok (.new 9, 3) := by decide +kernel
theorem dX0_init_34 : decode cX0_init 34 = .ok (.dup, 1) := by decide +kernel
theorem dX0_init_35 : decode cX0_init 35 = .ok (.bipush 12, 2) := by decide +kernel
theorem dX0_init_37 : decode cX0_init 37 = .ok (.invokespecial 11, 3) := by decide +kernel
theorem dX0_init_40 : decode cX0_init 40 = .ok (.putfield 23, 3) := by decide +kernel
theorem dX0_init_43 : decode cX0_init 43 = .ok (.return_, 1) := by decide +kernel
set_option maxRecDepth 20000 in
theorem ggX0_value_X1_at : GoodIn wsX0_value wsX1_at := goodIn_r _ [6, 7, 11] (by decide +kernel) (by decide +kernel)
set_option maxRecDepth 20000 in
theorem gX0_value_X1_at : GoodIn wsX0_value (wsV RX0 26 RX1 yX1_at wsX1_at) := goodIn_app (goodIn_of _ (by decide +kernel)) ggX0_value_X1_at
theorem dX0_value_0 : decode cX0_value 0 = .ok (.aload_n 0, 1) := by decide +kernel
theorem dX0_value_1 : decode cX0_value 1 = .ok (.getfield 14, 3) := by decide +kernel
theorem dX0_value_4 : decode cX0_value 4 = .ok (.iload_n 1, 1) := by decide +kernel
theorem dX0_value_5 : decode cX0_value 5 = .ok (.invokevirtual 26, 3) := by decide +kernel
theorem dX0_value_8 : decode cX0_value 8 = .ok (.ireturn, 1) := by decide +kernel
set_option maxRecDepth 20000 in
theorem ggX0_from_X1_at : GoodIn wsX0_from wsX1_at := goodIn_r _ [6, 7, 11] (by decide +kernel) (by decide +kernel)
set_option maxRecDepth 20000 in
theorem gX0_from_X1_at : GoodIn wsX0_from (wsV RX0 26 RX1 yX1_at wsX1_at) := goodIn_app (goodIn_of _ (by decide +kernel)) ggX0_from_X1_at
theorem dX0_from_0 : decode cX0_from 0 = .ok (.aload_n 0, 1) := by decide +kernel
theorem dX0_from_1 : decode cX0_from 1 = .ok (.getfield 20, 3) := by decide +kernel
theorem dX0_from_4 : decode cX0_from 4 = .ok (.iload_n 1, 1) := by decide +kernel
theorem dX0_from_5 : decode cX0_from 5 = .ok (.invokevirtual 26, 3) := by decide +kernel
theorem dX0_from_8 : decode cX0_from 8 = .ok (.ireturn, 1) := by decide +kernel
set_option maxRecDepth 20000 in
theorem ggX0_over_X1_at : GoodIn wsX0_over wsX1_at := goodIn_r _ [6, 7, 11] (by decide +kernel) (by decide +kernel)
set_option maxRecDepth 20000 in
theorem gX0_over_X1_at : GoodIn wsX0_over (wsV RX0 26 RX1 yX1_at wsX1_at) := goodIn_app (goodIn_of _ (by decide +kernel)) ggX0_over_X1_at
theorem dX0_over_0 : decode cX0_over 0 = .ok (.aload_n 0, 1) := by decide +kernel
theorem dX0_over_1 : decode cX0_over 1 = .ok (.getfield 23, 3) := by decide +kernel
theorem dX0_over_4 : decode cX0_over 4 = .ok (.iload_n 1, 1) := by decide +kernel
theorem dX0_over_5 : decode cX0_over 5 = .ok (.invokevirtual 26, 3) := by decide +kernel
theorem dX0_over_8 : decode cX0_over 8 = .ok (.ireturn, 1) := by decide +kernel
set_option maxRecDepth 20000 in
theorem ggX0_takeFromCourt_X1_put : GoodIn wsX0_takeFromCourt wsX1_put := goodIn_r _ [8, 9, 13] (by decide +kernel) (by decide +kernel)
set_option maxRecDepth 20000 in
theorem gX0_takeFromCourt_X1_put : GoodIn wsX0_takeFromCourt (wsV RX0 30 RX1 yX1_put wsX1_put) := goodIn_app (goodIn_of _ (by decide +kernel)) ggX0_takeFromCourt_X1_put
theorem dX0_takeFromCourt_0 : decode cX0_takeFromCourt 0 = .ok (.aload_n 0, 1) := by decide +kernel
theorem dX0_takeFromCourt_1 : decode cX0_takeFromCourt 1 = .ok (.getfield 14, 3) := by decide +kernel
theorem dX0_takeFromCourt_4 : decode cX0_takeFromCourt 4 = .ok (.iload_n 1, 1) := by decide +kernel
theorem dX0_takeFromCourt_5 : decode cX0_takeFromCourt 5 = .ok (.iload_n 2, 1) := by decide +kernel
theorem dX0_takeFromCourt_6 : decode cX0_takeFromCourt 6 = .ok (.invokevirtual 30, 3) := by decide +kernel
theorem dX0_takeFromCourt_9 : decode cX0_takeFromCourt 9 = .ok (.aload_n 0, 1) := by decide +kernel
theorem dX0_takeFromCourt_10 : decode cX0_takeFromCourt 10 = .ok (.getfield 20, 3) := by decide +kernel
theorem dX0_takeFromCourt_13 : decode cX0_takeFromCourt 13 = .ok (.iload_n 1, 1) := by decide +kernel
theorem dX0_takeFromCourt_14 : decode cX0_takeFromCourt 14 = .ok (.iconst (-1), 1) := by decide +kernel
theorem dX0_takeFromCourt_15 : decode cX0_takeFromCourt 15 = .ok (.invokevirtual 30, 3) := by decide +kernel
theorem dX0_takeFromCourt_18 : decode cX0_takeFromCourt 18 = .ok (.aload_n 0, 1) := by decide +kernel
theorem dX0_takeFromCourt_19 : decode cX0_takeFromCourt 19 = .ok (.getfield 23, 3) := by decide +kernel
theorem dX0_takeFromCourt_22 : decode cX0_takeFromCourt 22 = .ok (.iload_n 1, 1) := by decide +kernel
theorem dX0_takeFromCourt_23 : decode cX0_takeFromCourt 23 = .ok (.iconst 0, 1) := by decide +kernel
theorem dX0_takeFromCourt_24 : decode cX0_takeFromCourt 24 = .ok (.invokevirtual 30, 3) := by decide +kernel
theorem dX0_takeFromCourt_27 : decode cX0_takeFromCourt 27 = .ok (.return_, 1) := by decide +kernel
set_option maxRecDepth 20000 in
theorem ggX0_takeFrom_X1_at : GoodIn wsX0_takeFrom wsX1_at := goodIn_r _ [12, 13, 21] (by decide +kernel) (by decide +kernel)
set_option maxRecDepth 20000 in
theorem gX0_takeFrom_X1_at : GoodIn wsX0_takeFrom (wsV RX0 26 RX1 yX1_at wsX1_at) := goodIn_app (goodIn_of _ (by decide +kernel)) ggX0_takeFrom_X1_at
set_option maxRecDepth 20000 in
theorem ggX0_takeFrom_X1_put : GoodIn wsX0_takeFrom wsX1_put := goodIn_r _ [17, 13, 21] (by decide +kernel) (by decide +kernel)
set_option maxRecDepth 20000 in
theorem gX0_takeFrom_X1_put : GoodIn wsX0_takeFrom (wsV RX0 30 RX1 yX1_put wsX1_put) := goodIn_app (goodIn_of _ (by decide +kernel)) ggX0_takeFrom_X1_put
theorem dX0_takeFrom_0 : decode cX0_takeFrom 0 = .ok (.aload_n 0, 1) := by decide +kernel
theorem dX0_takeFrom_1 : decode cX0_takeFrom 1 = .ok (.getfield 14, 3) := by decide +kernel
theorem dX0_takeFrom_4 : decode cX0_takeFrom 4 = .ok (.iload_n 1, 1) := by decide +kernel
theorem dX0_takeFrom_5 : decode cX0_takeFrom 5 = .ok (.aload_n 3, 1) := by decide +kernel
theorem dX0_takeFrom_6 : decode cX0_takeFrom 6 = .ok (.getfield 14, 3) := by decide +kernel
theorem dX0_takeFrom_9 : decode cX0_takeFrom 9 = .ok (.iload_n 2, 1) := by decide +kernel
theorem dX0_takeFrom_10 : decode cX0_takeFrom 10 = .ok (.invokevirtual 26, 3) := by decide +kernel
theorem dX0_takeFrom_13 : decode cX0_takeFrom 13 = .ok (.invokevirtual 30, 3) := by decide +kernel
theorem dX0_takeFrom_16 : decode cX0_takeFrom 16 = .ok (.aload_n 0, 1) := by decide +kernel
theorem dX0_takeFrom_17 : decode cX0_takeFrom 17 = .ok (.getfield 20, 3) := by decide +kernel
theorem dX0_takeFrom_20 : decode cX0_takeFrom 20 = .ok (.iload_n 1, 1) := by decide +kernel
theorem dX0_takeFrom_21 : decode cX0_takeFrom 21 = .ok (.iload_n 2, 1) := by decide +kernel
theorem dX0_takeFrom_22 : decode cX0_takeFrom 22 = .ok (.invokevirtual 30, 3) := by decide +kernel
theorem dX0_takeFrom_25 : decode cX0_takeFrom 25 = .ok (.aload_n 0, 1) := by decide +kernel
theorem dX0_takeFrom_26 : decode cX0_takeFrom 26 = .ok (.getfield 23, 3) := by decide +kernel
theorem dX0_takeFrom_29 : decode cX0_takeFrom 29 = .ok (.iload_n 1, 1) := by decide +kernel
theorem dX0_takeFrom_30 : decode cX0_takeFrom 30 = .ok (.aload_n 3, 1) := by decide +kernel
theorem dX0_takeFrom_31 : decode cX0_takeFrom 31 = .ok (.getfield 23, 3) := by decide +kernel
theorem dX0_takeFrom_34 : decode cX0_takeFrom 34 = .ok (.iload_n 2, 1) := by decide +kernel
theorem dX0_takeFrom_35 : decode cX0_takeFrom 35 = .ok (.invokevirtual 26, 3) := by decide +kernel
theorem dX0_takeFrom_38 : decode cX0_takeFrom 38 = .ok (.iconst 1, 1) := by decide +kernel
theorem dX0_takeFrom_39 : decode cX0_takeFrom 39 = .ok (.iadd, 1) := by decide +kernel
theorem dX0_takeFrom_40 : decode cX0_takeFrom 40 = .ok (.bipush 99, 2) := by decide +kernel
theorem dX0_takeFrom_42 : decode cX0_takeFrom 42 = .ok (.invokestatic 34, 3) := by decide +kernel
theorem dX0_takeFrom_45 : decode cX0_takeFrom 45 = .ok (.invokevirtual 30, 3) := by decide +kernel
theorem dX0_takeFrom_48 : decode cX0_takeFrom 48 = .ok (.return_, 1) := by decide +kernel
set_option maxRecDepth 20000 in
theorem ggX0_copyFrom_X1_copyFrom : GoodIn wsX0_copyFrom wsX1_copyFrom := goodIn_r _ [8, 9, 10, 11, 12, 13, 14, 15, 16, 17, 21] (by decide +kernel) (by decide +kernel)
set_option maxRecDepth 20000 in
theorem gX0_copyFrom_X1_copyFrom : GoodIn wsX0_copyFrom (wsV RX0 40 RX1 yX1_copyFrom wsX1_copyFrom) := goodIn_app (goodIn_of _ (by decide +kernel)) ggX0_copyFrom_X1_copyFrom
theorem dX0_copyFrom_0 : decode cX0_copyFrom 0 = .ok (.aload_n 0, 1) := by decide +kernel
theorem dX0_copyFrom_1 : decode cX0_copyFrom 1 = .ok (.getfield 14, 3) := by decide +kernel
theorem dX0_copyFrom_4 : decode cX0_copyFrom 4 = .ok (.aload_n 1, 1) := by decide +kernel
theorem dX0_copyFrom_5 : decode cX0_copyFrom 5 = .ok (.getfield 14, 3) := by decide +kernel
theorem dX0_copyFrom_8 : decode cX0_copyFrom 8 = .ok (.invokevirtual 40, 3) := by decide +kernel
theorem dX0_copyFrom_11 : decode cX0_copyFrom 11 = .ok (.aload_n 0, 1) := by decide +kernel
theorem dX0_copyFrom_12 : decode cX0_copyFrom 12 = .ok (.getfield 20, 3) := by decide +kernel
theorem dX0_copyFrom_15 : decode cX0_copyFrom 15 = .ok (.aload_n 1, 1) := by decide +kernel
theorem dX0_copyFrom_16 : decode cX0_copyFrom 16 = .ok (.getfield 20, 3) := by decide +kernel
theorem dX0_copyFrom_19 : decode cX0_copyFrom 19 = .ok (.invokevirtual 40, 3) := by decide +kernel
theorem dX0_copyFrom_22 : decode cX0_copyFrom 22 = .ok (.aload_n 0, 1) := by decide +kernel
theorem dX0_copyFrom_23 : decode cX0_copyFrom 23 = .ok (.getfield 23, 3) := by decide +kernel
theorem dX0_copyFrom_26 : decode cX0_copyFrom 26 = .ok (.aload_n 1, 1) := by decide +kernel
theorem dX0_copyFrom_27 : decode cX0_copyFrom 27 = .ok (.getfield 23, 3) := by decide +kernel
theorem dX0_copyFrom_30 : decode cX0_copyFrom 30 = .ok (.invokevirtual 40, 3) := by decide +kernel
theorem dX0_copyFrom_33 : decode cX0_copyFrom 33 = .ok (.return_, 1) := by decide +kernel
theorem dX1_init_0 : decode cX1_init 0 = .ok (.aload_n 0, 1) := by decide +kernel
theorem dX1_init_1 : decode cX1_init 1 = .ok (.invokespecial 1, 3) := by decide +kernel
theorem dX1_init_4 : decode cX1_init 4 = .ok (.aload_n 0, 1) := by decide +kernel
theorem dX1_init_5 : decode cX1_init 5 = .ok (.iload_n 1, 1) := by decide +kernel
theorem dX1_init_6 : decode cX1_init 6 = .ok (.iconst 0, 1) := by decide +kernel
theorem dX1_init_7 : decode cX1_init 7 = .ok (.invokestatic 7, 3) := by decide +kernel
theorem dX1_init_10 : decode cX1_init 10 = .ok (.newarray .int, 2) := by decide +kernel
theorem dX1_init_12 : decode cX1_init 12 = .ok (.putfield 13, 3) := by decide +kernel
theorem dX1_init_15 : decode cX1_init 15 = .ok (.return_, 1) := by decide +kernel
theorem dX1_at_0 : decode cX1_at 0 = .ok (.iload_n 1, 1) := by decide +kernel
theorem dX1_at_1 : decode cX1_at 1 = .ok (.ifCond .lt 21, 3) := by decide +kernel
theorem dX1_at_4 : decode cX1_at 4 = .ok (.iload_n 1, 1) := by decide +kernel
theorem dX1_at_5 : decode cX1_at 5 = .ok (.aload_n 0, 1) := by decide +kernel
theorem dX1_at_6 : decode cX1_at 6 = .ok (.getfield 13, 3) := by decide +kernel
theorem dX1_at_9 : decode cX1_at 9 = .ok (.arraylength, 1) := by decide +kernel
theorem dX1_at_10 : decode cX1_at 10 = .ok (.if_icmp .ge 12, 3) := by decide +kernel
theorem dX1_at_13 : decode cX1_at 13 = .ok (.aload_n 0, 1) := by decide +kernel
theorem dX1_at_14 : decode cX1_at 14 = .ok (.getfield 13, 3) := by decide +kernel
theorem dX1_at_17 : decode cX1_at 17 = .ok (.iload_n 1, 1) := by decide +kernel
theorem dX1_at_18 : decode cX1_at 18 = .ok (.iaload, 1) := by decide +kernel
theorem dX1_at_19 : decode cX1_at 19 = .ok (.goto 4, 3) := by decide +kernel
theorem dX1_at_22 : decode cX1_at 22 = .ok (.iconst 0, 1) := by decide +kernel
theorem dX1_at_23 : decode cX1_at 23 = .ok (.ireturn, 1) := by decide +kernel
theorem dX1_put_0 : decode cX1_put 0 = .ok (.iload_n 1, 1) := by decide +kernel
theorem dX1_put_1 : decode cX1_put 1 = .ok (.ifCond .lt 19, 3) := by decide +kernel
theorem dX1_put_4 : decode cX1_put 4 = .ok (.iload_n 1, 1) := by decide +kernel
theorem dX1_put_5 : decode cX1_put 5 = .ok (.aload_n 0, 1) := by decide +kernel
theorem dX1_put_6 : decode cX1_put 6 = .ok (.getfield 13, 3) := by decide +kernel
theorem dX1_put_9 : decode cX1_put 9 = .ok (.arraylength, 1) := by decide +kernel
theorem dX1_put_10 : decode cX1_put 10 = .ok (.if_icmp .ge 10, 3) := by decide +kernel
theorem dX1_put_13 : decode cX1_put 13 = .ok (.aload_n 0, 1) := by decide +kernel
theorem dX1_put_14 : decode cX1_put 14 = .ok (.getfield 13, 3) := by decide +kernel
theorem dX1_put_17 : decode cX1_put 17 = .ok (.iload_n 1, 1) := by decide +kernel
theorem dX1_put_18 : decode cX1_put 18 = .ok (.iload_n 2, 1) := by decide +kernel
theorem dX1_put_19 : decode cX1_put 19 = .ok (.iastore, 1) := by decide +kernel
theorem dX1_put_20 : decode cX1_put 20 = .ok (.return_, 1) := by decide +kernel
theorem dX1_copyFrom_0 : decode cX1_copyFrom 0 = .ok (.aload_n 1, 1) := by decide +kernel
theorem dX1_copyFrom_1 : decode cX1_copyFrom 1 = .ok (.getfield 13, 3) := by decide +kernel
theorem dX1_copyFrom_4 : decode cX1_copyFrom 4 = .ok (.iconst 0, 1) := by decide +kernel
theorem dX1_copyFrom_5 : decode cX1_copyFrom 5 = .ok (.aload_n 0, 1) := by decide +kernel
theorem dX1_copyFrom_6 : decode cX1_copyFrom 6 = .ok (.getfield 13, 3) := by decide +kernel
theorem dX1_copyFrom_9 : decode cX1_copyFrom 9 = .ok (.iconst 0, 1) := by decide +kernel
theorem dX1_copyFrom_10 : decode cX1_copyFrom 10 = .ok (.aload_n 1, 1) := by decide +kernel
theorem dX1_copyFrom_11 : decode cX1_copyFrom 11 = .ok (.getfield 13, 3) := by decide +kernel
theorem dX1_copyFrom_14 : decode cX1_copyFrom 14 = .ok (.arraylength, 1) := by decide +kernel
theorem dX1_copyFrom_15 : decode cX1_copyFrom 15 = .ok (.aload_n 0, 1) := by decide +kernel
theorem dX1_copyFrom_16 : decode cX1_copyFrom 16 = .ok (.getfield 13, 3) := by decide +kernel
theorem dX1_copyFrom_19 : decode cX1_copyFrom 19 = .ok (.arraylength, 1) := by decide +kernel
theorem dX1_copyFrom_20 : decode cX1_copyFrom 20 = .ok (.invokestatic 19, 3) := by decide +kernel
theorem dX1_copyFrom_23 : decode cX1_copyFrom 23 = .ok (.invokestatic 22, 3) := by decide +kernel
theorem dX1_copyFrom_26 : decode cX1_copyFrom 26 = .ok (.return_, 1) := by decide +kernel
set_option maxRecDepth 20000 in
theorem ggX2_init_X1_init : GoodIn wsX2_init wsX1_init := goodIn_r _ [14, 15, 2, 3, 16, 17, 18, 19, 20, 21, 27] (by decide +kernel) (by decide +kernel)
set_option maxRecDepth 20000 in
theorem gX2_init_X1_init : GoodIn wsX2_init (wsX1_init) := ggX2_init_X1_init
theorem dX2_init_0 : decode cX2_init 0 = .ok (.aload_n 0, 1) := by decide +kernel
theorem dX2_init_1 : decode cX2_init 1 = .ok (.invokespecial 3, 3) := by decide +kernel
theorem dX2_init_4 : decode cX2_init 4 = .ok (.aload_n 0, 1) := by decide +kernel
theorem dX2_init_5 : decode cX2_init 5 = .ok (.iconst 0, 1) := by decide +kernel
theorem dX2_init_6 : decode cX2_init 6 = .ok (.putfield 9, 3) := by decide +kernel
theorem dX2_init_9 : decode cX2_init 9 = .ok (.aload_n 0, 1) := by decide +kernel
theorem dX2_init_10 : decode cX2_init 10 = .ok (.new 15, 3) := by decide +kernel
theorem dX2_init_13 : decode cX2_init 13 = .ok (.dup, 1) := by decide +kernel
theorem dX2_init_14 : decode cX2_init 14 = .ok (.bipush 12, 2) := by decide +kernel
theorem dX2_init_16 : decode cX2_init 16 = .ok (.invokespecial 17, 3) := by decide +kernel
theorem dX2_init_19 : decode cX2_init 19 = .ok (.putfield 20, 3) := by decide +kernel
theorem dX2_init_22 : decode cX2_init 22 = .ok (.aload_n 0, 1) := by decide +kernel
theorem dX2_init_23 : decode cX2_init 23 = .ok (.new 15, 3) := by decide +kernel
theorem dX2_init_26 : decode cX2_init 26 = .ok (.dup, 1) := by decide +kernel
theorem dX2_init_27 : decode cX2_init 27 = .ok (.bipush 12, 2) := by decide +kernel
theorem dX2_init_29 : decode cX2_init 29 = .ok (.invokespecial 17, 3) := by decide +kernel
theorem dX2_init_32 : decode cX2_init 32 = .ok (.putfield 24, 3) := by decide +kernel
theorem dX2_init_35 : decode cX2_init 35 = .ok (.aload_n 0, 1) := by decide +kernel
theorem dX2_init_36 : decode cX2_init 36 = .ok (.new 15, 3) := by decide +kernel
theorem dX2_init_39 : decode cX2_init 39 = .ok (.dup, 1) := by decide +kernel
theorem dX2_init_40 : decode cX2_init 40 = .ok (.bipush 12, 2) := by decide +kernel
theorem dX2_init_42 : decode cX2_init 42 = .ok (.invokespecial 17, 3) := by decide +kernel
theorem dX2_init_45 : decode cX2_init 45 = .ok (.putfield 27, 3) := by decide +kernel
theorem dX2_init_48 : decode cX2_init 48 = .ok (.aload_n 0, 1) := by decide +kernel
theorem dX2_init_49 : decode cX2_init 49 = .ok (.new 15, 3) := by decide +kernel
theorem dX2_init_52 : decode cX2_init 52 = .ok (.dup, 1) := by decide +kernel
theorem dX2_init_53 : decode cX2_init 53 = .ok (.bipush 48, 2) := by decide +kernel
theorem dX2_init_55 : decode cX2_init 55 = .ok (.invokespecial 17, 3) := by decide +kernel
theorem dX2_init_58 : decode cX2_init 58 = .ok (.putfield 30, 3) := by decide +kernel
theorem dX2_init_61 : decode cX2_init 61 = .ok (.return_, 1) := by decide +kernel
theorem dX2_size_0 : decode cX2_size 0 = .ok (.aload_n 0, 1) := by decide +kernel
theorem dX2_size_1 : decode cX2_size 1 = .ok (.getfield 9, 3) := by decide +kernel
theorem dX2_size_4 : decode cX2_size 4 = .ok (.ireturn, 1) := by decide +kernel
set_option maxRecDepth 20000 in
theorem ggX2_memory_X1_at : GoodIn wsX2_memory wsX1_at := goodIn_r _ [6, 7, 13] (by decide +kernel) (by decide +kernel)
set_option maxRecDepth 20000 in
theorem gX2_memory_X1_at : GoodIn wsX2_memory (wsV RX2 33 RX1 yX1_at wsX1_at) := goodIn_app (goodIn_of _ (by decide +kernel)) ggX2_memory_X1_at
theorem dX2_memory_0 : decode cX2_memory 0 = .ok (.aload_n 0, 1) := by decide +kernel
theorem dX2_memory_1 : decode cX2_memory 1 = .ok (.getfield 20, 3) := by decide +kernel
theorem dX2_memory_4 : decode cX2_memory 4 = .ok (.iload_n 1, 1) := by decide +kernel
theorem dX2_memory_5 : decode cX2_memory 5 = .ok (.invokevirtual 33, 3) := by decide +kernel
theorem dX2_memory_8 : decode cX2_memory 8 = .ok (.ireturn, 1) := by decide +kernel
set_option maxRecDepth 20000 in
theorem ggX2_loud_X1_at : GoodIn wsX2_loud wsX1_at := goodIn_r _ [6, 7, 13] (by decide +kernel) (by decide +kernel)
set_option maxRecDepth 20000 in
theorem gX2_loud_X1_at : GoodIn wsX2_loud (wsV RX2 33 RX1 yX1_at wsX1_at) := goodIn_app (goodIn_of _ (by decide +kernel)) ggX2_loud_X1_at
theorem dX2_loud_0 : decode cX2_loud 0 = .ok (.aload_n 0, 1) := by decide +kernel
theorem dX2_loud_1 : decode cX2_loud 1 = .ok (.getfield 24, 3) := by decide +kernel
theorem dX2_loud_4 : decode cX2_loud 4 = .ok (.iload_n 1, 1) := by decide +kernel
theorem dX2_loud_5 : decode cX2_loud 5 = .ok (.invokevirtual 33, 3) := by decide +kernel
theorem dX2_loud_8 : decode cX2_loud 8 = .ok (.ireturn, 1) := by decide +kernel
set_option maxRecDepth 20000 in
theorem ggX2_setLoud_X1_put : GoodIn wsX2_setLoud wsX1_put := goodIn_r _ [6, 7, 13] (by decide +kernel) (by decide +kernel)
set_option maxRecDepth 20000 in
theorem gX2_setLoud_X1_put : GoodIn wsX2_setLoud (wsV RX2 37 RX1 yX1_put wsX1_put) := goodIn_app (goodIn_of _ (by decide +kernel)) ggX2_setLoud_X1_put
theorem dX2_setLoud_0 : decode cX2_setLoud 0 = .ok (.aload_n 0, 1) := by decide +kernel
theorem dX2_setLoud_1 : decode cX2_setLoud 1 = .ok (.getfield 24, 3) := by decide +kernel
theorem dX2_setLoud_4 : decode cX2_setLoud 4 = .ok (.iload_n 1, 1) := by decide +kernel
theorem dX2_setLoud_5 : decode cX2_setLoud 5 = .ok (.iload_n 2, 1) := by decide +kernel
theorem dX2_setLoud_6 : decode cX2_setLoud 6 = .ok (.invokevirtual 37, 3) := by decide +kernel
theorem dX2_setLoud_9 : decode cX2_setLoud 9 = .ok (.return_, 1) := by decide +kernel
set_option maxRecDepth 20000 in
theorem ggX2_listening_X1_at : GoodIn wsX2_listening wsX1_at := goodIn_r _ [6, 7, 13] (by decide +kernel) (by decide +kernel)
set_option maxRecDepth 20000 in
theorem gX2_listening_X1_at : GoodIn wsX2_listening (wsV RX2 33 RX1 yX1_at wsX1_at) := goodIn_app (goodIn_of _ (by decide +kernel)) ggX2_listening_X1_at
theorem dX2_listening_0 : decode cX2_listening 0 = .ok (.aload_n 0, 1) := by decide +kernel
theorem dX2_listening_1 : decode cX2_listening 1 = .ok (.getfield 27, 3) := by decide +kernel
theorem dX2_listening_4 : decode cX2_listening 4 = .ok (.iload_n 1, 1) := by decide +kernel
theorem dX2_listening_5 : decode cX2_listening 5 = .ok (.invokevirtual 33, 3) := by decide +kernel
theorem dX2_listening_8 : decode cX2_listening 8 = .ok (.ireturn, 1) := by decide +kernel
set_option maxRecDepth 20000 in
theorem ggX2_other_X1_at : GoodIn wsX2_other wsX1_at := goodIn_r _ [6, 7, 13] (by decide +kernel) (by decide +kernel)
set_option maxRecDepth 20000 in
theorem gX2_other_X1_at : GoodIn wsX2_other (wsV RX2 33 RX1 yX1_at wsX1_at) := goodIn_app (goodIn_of _ (by decide +kernel)) ggX2_other_X1_at
theorem dX2_other_0 : decode cX2_other 0 = .ok (.aload_n 0, 1) := by decide +kernel
theorem dX2_other_1 : decode cX2_other 1 = .ok (.getfield 30, 3) := by decide +kernel
theorem dX2_other_4 : decode cX2_other 4 = .ok (.iload_n 1, 1) := by decide +kernel
theorem dX2_other_5 : decode cX2_other 5 = .ok (.iconst 4, 1) := by decide +kernel
theorem dX2_other_6 : decode cX2_other 6 = .ok (.imul, 1) := by decide +kernel
theorem dX2_other_7 : decode cX2_other 7 = .ok (.iload_n 2, 1) := by decide +kernel
theorem dX2_other_8 : decode cX2_other 8 = .ok (.iadd, 1) := by decide +kernel
theorem dX2_other_9 : decode cX2_other 9 = .ok (.invokevirtual 33, 3) := by decide +kernel
theorem dX2_other_12 : decode cX2_other 12 = .ok (.ireturn, 1) := by decide +kernel
set_option maxRecDepth 20000 in
theorem ggX2_seat_X1_put : GoodIn wsX2_seat wsX1_put := goodIn_r _ [8, 9, 15] (by decide +kernel) (by decide +kernel)
set_option maxRecDepth 20000 in
theorem gX2_seat_X1_put : GoodIn wsX2_seat (wsV RX2 37 RX1 yX1_put wsX1_put) := goodIn_app (goodIn_of _ (by decide +kernel)) ggX2_seat_X1_put
theorem dX2_seat_0 : decode cX2_seat 0 = .ok (.aload_n 0, 1) := by decide +kernel
theorem dX2_seat_1 : decode cX2_seat 1 = .ok (.getfield 9, 3) := by decide +kernel
theorem dX2_seat_4 : decode cX2_seat 4 = .ok (.istore_n 3, 1) := by decide +kernel
theorem dX2_seat_5 : decode cX2_seat 5 = .ok (.aload_n 0, 1) := by decide +kernel
theorem dX2_seat_6 : decode cX2_seat 6 = .ok (.getfield 20, 3) := by decide +kernel
theorem dX2_seat_9 : decode cX2_seat 9 = .ok (.iload_n 3, 1) := by decide +kernel
theorem dX2_seat_10 : decode cX2_seat 10 = .ok (.iload_n 1, 1) := by decide +kernel
theorem dX2_seat_11 : decode cX2_seat 11 = .ok (.invokevirtual 37, 3) := by decide +kernel
theorem dX2_seat_14 : decode cX2_seat 14 = .ok (.aload_n 0, 1) := by decide +kernel
theorem dX2_seat_15 : decode cX2_seat 15 = .ok (.getfield 24, 3) := by decide +kernel
theorem dX2_seat_18 : decode cX2_seat 18 = .ok (.iload_n 3, 1) := by decide +kernel
theorem dX2_seat_19 : decode cX2_seat 19 = .ok (.iload_n 2, 1) := by decide +kernel
theorem dX2_seat_20 : decode cX2_seat 20 = .ok (.invokevirtual 37, 3) := by decide +kernel
theorem dX2_seat_23 : decode cX2_seat 23 = .ok (.aload_n 0, 1) := by decide +kernel
theorem dX2_seat_24 : decode cX2_seat 24 = .ok (.dup, 1) := by decide +kernel
theorem dX2_seat_25 : decode cX2_seat 25 = .ok (.getfield 9, 3) := by decide +kernel
theorem dX2_seat_28 : decode cX2_seat 28 = .ok (.iconst 1, 1) := by decide +kernel
theorem dX2_seat_29 : decode cX2_seat 29 = .ok (.iadd, 1) := by decide +kernel
theorem dX2_seat_30 : decode cX2_seat 30 = .ok (.putfield 9, 3) := by decide +kernel
theorem dX2_seat_33 : decode cX2_seat 33 = .ok (.iload_n 3, 1) := by decide +kernel
theorem dX2_seat_34 : decode cX2_seat 34 = .ok (.ireturn, 1) := by decide +kernel
set_option maxRecDepth 20000 in
theorem ggX2_placeOf_X1_at : GoodIn wsX2_placeOf wsX1_at := goodIn_r _ [6, 7, 19] (by decide +kernel) (by decide +kernel)
set_option maxRecDepth 20000 in
theorem gX2_placeOf_X1_at : GoodIn wsX2_placeOf (wsV RX2 33 RX1 yX1_at wsX1_at) := goodIn_app (goodIn_of _ (by decide +kernel)) ggX2_placeOf_X1_at
set_option maxRecDepth 20000 in
theorem ggX2_placeOf_X2_other : GoodIn wsX2_placeOf wsX2_other := goodIn_r _ [12, 13, 2, 3, 4, 5, 6, 7, 14, 15, 16, 17, 18, 19] (by decide +kernel) (by decide +kernel)
set_option maxRecDepth 20000 in
theorem gX2_placeOf_X2_other : GoodIn wsX2_placeOf (wsV RX2 41 RX2 yX2_other wsX2_other) := goodIn_app (goodIn_of _ (by decide +kernel)) ggX2_placeOf_X2_other
theorem dX2_placeOf_0 : decode cX2_placeOf 0 = .ok (.aload_n 0, 1) := by decide +kernel
theorem dX2_placeOf_1 : decode cX2_placeOf 1 = .ok (.getfield 27, 3) := by decide +kernel
theorem dX2_placeOf_4 : decode cX2_placeOf 4 = .ok (.iload_n 1, 1) := by decide +kernel
theorem dX2_placeOf_5 : decode cX2_placeOf 5 = .ok (.invokevirtual 33, 3) := by decide +kernel
theorem dX2_placeOf_8 : decode cX2_placeOf 8 = .ok (.istore_n 3, 1) := by decide +kernel
theorem dX2_placeOf_9 : decode cX2_placeOf 9 = .ok (.iconst 0, 1) := by decide +kernel
theorem dX2_placeOf_10 : decode cX2_placeOf 10 = .ok (.istore 4, 2) := by decide +kernel
theorem dX2_placeOf_12 : decode cX2_placeOf 12 = .ok (.iload 4, 2) := by decide +kernel
theorem dX2_placeOf_14 : decode cX2_placeOf 14 = .ok (.iload_n 3, 1) := by decide +kernel
theorem dX2_placeOf_15 : decode cX2_placeOf 15 = .ok (.if_icmp .ge 23, 3) := by decide +kernel
theorem dX2_placeOf_18 : decode cX2_placeOf 18 = .ok (.aload_n 0, 1) := by decide +kernel
theorem dX2_placeOf_19 : decode cX2_placeOf 19 = .ok (.iload_n 1, 1) := by decide +kernel
theorem dX2_placeOf_20 : decode cX2_placeOf 20 = .ok (.iload 4, 2) := by decide +kernel
theorem dX2_placeOf_22 : decode cX2_placeOf 22 = .ok (.invokevirtual 41, 3) := by decide +kernel
theorem dX2_placeOf_25 : decode cX2_placeOf 25 = .ok (.iload_n 2, 1) := by decide +kernel
theorem dX2_placeOf_26 : decode cX2_placeOf 26 = .ok (.if_icmp .ne 6, 3) := by decide +kernel
theorem dX2_placeOf_29 : decode cX2_placeOf 29 = .ok (.iload 4, 2) := by decide +kernel
theorem dX2_placeOf_31 : decode cX2_placeOf 31 = .ok (.ireturn, 1) := by decide +kernel
theorem dX2_placeOf_32 : decode cX2_placeOf 32 = .ok (.iinc 4 1, 3) := by decide +kernel
theorem dX2_placeOf_35 : decode cX2_placeOf 35 = .ok (.goto (-23), 3) := by decide +kernel
theorem dX2_placeOf_38 : decode cX2_placeOf 38 = .ok (.iconst (-1), 1) := by decide +kernel
theorem dX2_placeOf_39 : decode cX2_placeOf 39 = .ok (.ireturn, 1) := by decide +kernel
set_option maxRecDepth 20000 in
theorem ggX2_addOther_X1_at : GoodIn wsX2_addOther wsX1_at := goodIn_r _ [7, 8, 18] (by decide +kernel) (by decide +kernel)
set_option maxRecDepth 20000 in
theorem gX2_addOther_X1_at : GoodIn wsX2_addOther (wsV RX2 33 RX1 yX1_at wsX1_at) := goodIn_app (goodIn_of _ (by decide +kernel)) ggX2_addOther_X1_at
set_option maxRecDepth 20000 in
theorem ggX2_addOther_X1_put : GoodIn wsX2_addOther wsX1_put := goodIn_r _ [12, 8, 18] (by decide +kernel) (by decide +kernel)
set_option maxRecDepth 20000 in
theorem gX2_addOther_X1_put : GoodIn wsX2_addOther (wsV RX2 37 RX1 yX1_put wsX1_put) := goodIn_app (goodIn_of _ (by decide +kernel)) ggX2_addOther_X1_put
theorem dX2_addOther_0 : decode cX2_addOther 0 = .ok (.aload_n 0, 1) := by decide +kernel
theorem dX2_addOther_1 : decode cX2_addOther 1 = .ok (.getfield 27, 3) := by decide +kernel
theorem dX2_addOther_4 : decode cX2_addOther 4 = .ok (.iload_n 1, 1) := by decide +kernel
theorem dX2_addOther_5 : decode cX2_addOther 5 = .ok (.invokevirtual 33, 3) := by decide +kernel
theorem dX2_addOther_8 : decode cX2_addOther 8 = .ok (.istore_n 3, 1) := by decide +kernel
theorem dX2_addOther_9 : decode cX2_addOther 9 = .ok (.aload_n 0, 1) := by decide +kernel
theorem dX2_addOther_10 : decode cX2_addOther 10 = .ok (.getfield 30, 3) := by decide +kernel
theorem dX2_addOther_13 : decode cX2_addOther 13 = .ok (.iload_n 1, 1) := by decide +kernel
theorem dX2_addOther_14 : decode cX2_addOther 14 = .ok (.iconst 4, 1) := by decide +kernel
theorem dX2_addOther_15 : decode cX2_addOther 15 = .ok (.imul, 1) := by decide +kernel
theorem dX2_addOther_16 : decode cX2_addOther 16 = .ok (.iload_n 3, 1) := by decide +kernel
theorem dX2_addOther_17 : decode cX2_addOther 17 = .ok (.iadd, 1) := by decide +kernel
theorem dX2_addOther_18 : decode cX2_addOther 18 = .ok (.iload_n 2, 1) := by decide +kernel
theorem dX2_addOther_19 : decode cX2_addOther 19 = .ok (.invokevirtual 37, 3) := by decide +kernel
theorem dX2_addOther_22 : decode cX2_addOther 22 = .ok (.aload_n 0, 1) := by decide +kernel
theorem dX2_addOther_23 : decode cX2_addOther 23 = .ok (.getfield 27, 3) := by decide +kernel
theorem dX2_addOther_26 : decode cX2_addOther 26 = .ok (.iload_n 1, 1) := by decide +kernel
theorem dX2_addOther_27 : decode cX2_addOther 27 = .ok (.iload_n 3, 1) := by decide +kernel
theorem dX2_addOther_28 : decode cX2_addOther 28 = .ok (.iconst 1, 1) := by decide +kernel
theorem dX2_addOther_29 : decode cX2_addOther 29 = .ok (.iadd, 1) := by decide +kernel
theorem dX2_addOther_30 : decode cX2_addOther 30 = .ok (.invokevirtual 37, 3) := by decide +kernel
theorem dX2_addOther_33 : decode cX2_addOther 33 = .ok (.return_, 1) := by decide +kernel
set_option maxRecDepth 20000 in
theorem ggX2_dropOther_X1_at : GoodIn wsX2_dropOther wsX1_at := goodIn_r _ [7, 8, 23] (by decide +kernel) (by decide +kernel)
set_option maxRecDepth 20000 in
theorem gX2_dropOther_X1_at : GoodIn wsX2_dropOther (wsV RX2 33 RX1 yX1_at wsX1_at) := goodIn_app (goodIn_of _ (by decide +kernel)) ggX2_dropOther_X1_at
set_option maxRecDepth 20000 in
theorem ggX2_dropOther_X2_other : GoodIn wsX2_dropOther wsX2_other := goodIn_r _ [13, 2, 3, 4, 5, 6, 7, 8, 18, 19, 20, 21, 22, 23] (by decide +kernel) (by decide +kernel)
set_option maxRecDepth 20000 in
theorem gX2_dropOther_X2_other : GoodIn wsX2_dropOther (wsV RX2 41 RX2 yX2_other wsX2_other) := goodIn_app (goodIn_of _ (by decide +kernel)) ggX2_dropOther_X2_other
set_option maxRecDepth 20000 in
theorem ggX2_dropOther_X1_put : GoodIn wsX2_dropOther wsX1_put := goodIn_r _ [17, 8, 23] (by decide +kernel) (by decide +kernel)
set_option maxRecDepth 20000 in
theorem gX2_dropOther_X1_put : GoodIn wsX2_dropOther (wsV RX2 37 RX1 yX1_put wsX1_put) := goodIn_app (goodIn_of _ (by decide +kernel)) ggX2_dropOther_X1_put
theorem dX2_dropOther_0 : decode cX2_dropOther 0 = .ok (.aload_n 0, 1) := by decide +kernel
theorem dX2_dropOther_1 : decode cX2_dropOther 1 = .ok (.getfield 27, 3) := by decide +kernel
theorem dX2_dropOther_4 : decode cX2_dropOther 4 = .ok (.iload_n 1, 1) := by decide +kernel
theorem dX2_dropOther_5 : decode cX2_dropOther 5 = .ok (.invokevirtual 33, 3) := by decide +kernel
theorem dX2_dropOther_8 : decode cX2_dropOther 8 = .ok (.iconst 1, 1) := by decide +kernel
theorem dX2_dropOther_9 : decode cX2_dropOther 9 = .ok (.isub, 1) := by decide +kernel
theorem dX2_dropOther_10 : decode cX2_dropOther 10 = .ok (.istore_n 3, 1) := by decide +kernel
theorem dX2_dropOther_11 : decode cX2_dropOther 11 = .ok (.iload_n 2, 1) := by decide +kernel
theorem dX2_dropOther_12 : decode cX2_dropOther 12 = .ok (.istore 4, 2) := by decide +kernel
theorem dX2_dropOther_14 : decode cX2_dropOther 14 = .ok (.iload 4, 2) := by decide +kernel
theorem dX2_dropOther_16 : decode cX2_dropOther 16 = .ok (.iload_n 3, 1) := by decide +kernel
theorem dX2_dropOther_17 : decode cX2_dropOther 17 = .ok (.if_icmp .ge 31, 3) := by decide +kernel
theorem dX2_dropOther_20 : decode cX2_dropOther 20 = .ok (.aload_n 0, 1) := by decide +kernel
theorem dX2_dropOther_21 : decode cX2_dropOther 21 = .ok (.getfield 30, 3) := by decide +kernel
theorem dX2_dropOther_24 : decode cX2_dropOther 24 = .ok (.iload_n 1, 1) := by decide +kernel
theorem dX2_dropOther_25 : decode cX2_dropOther 25 = .ok (.iconst 4, 1) := by decide +kernel
theorem dX2_dropOther_26 : decode cX2_dropOther 26 = .ok (.imul, 1) := by decide +kernel
theorem dX2_dropOther_27 : decode cX2_dropOther 27 = .ok (.iload 4, 2) := by decide +kernel
theorem dX2_dropOther_29 : decode cX2_dropOther 29 = .ok (.iadd, 1) := by decide +kernel
theorem dX2_dropOther_30 : decode cX2_dropOther 30 = .ok (.aload_n 0, 1) := by decide +kernel
theorem dX2_dropOther_31 : decode cX2_dropOther 31 = .ok (.iload_n 1, 1) := by decide +kernel
theorem dX2_dropOther_32 : decode cX2_dropOther 32 = .ok (.iload 4, 2) := by decide +kernel
theorem dX2_dropOther_34 : decode cX2_dropOther 34 = .ok (.iconst 1, 1) := by decide +kernel
theorem dX2_dropOther_35 : decode cX2_dropOther 35 = .ok (.iadd, 1) := by decide +kernel
theorem dX2_dropOther_36 : decode cX2_dropOther 36 = .ok (.invokevirtual 41, 3) := by decide +kernel
theorem dX2_dropOther_39 : decode cX2_dropOther 39 = .ok (.invokevirtual 37, 3) := by decide +kernel
theorem dX2_dropOther_42 : decode cX2_dropOther 42 = .ok (.iinc 4 1, 3) := by decide +kernel
theorem dX2_dropOther_45 : decode cX2_dropOther 45 = .ok (.goto (-31), 3) := by decide +kernel
theorem dX2_dropOther_48 : decode cX2_dropOther 48 = .ok (.aload_n 0, 1) := by decide +kernel
theorem dX2_dropOther_49 : decode cX2_dropOther 49 = .ok (.getfield 27, 3) := by decide +kernel
theorem dX2_dropOther_52 : decode cX2_dropOther 52 = .ok (.iload_n 1, 1) := by decide +kernel
theorem dX2_dropOther_53 : decode cX2_dropOther 53 = .ok (.iload_n 3, 1) := by decide +kernel
theorem dX2_dropOther_54 : decode cX2_dropOther 54 = .ok (.invokevirtual 37, 3) := by decide +kernel
theorem dX2_dropOther_57 : decode cX2_dropOther 57 = .ok (.return_, 1) := by decide +kernel
set_option maxRecDepth 20000 in
theorem ggX2_listeners_X2_placeOf : GoodIn wsX2_listeners wsX2_placeOf := goodIn_r _ [6, 7, 8, 9, 10, 11, 12, 13, 14, 15, 16, 5, 17, 18, 19, 20, 21, 22, 23, 24] (by decide +kernel) (by decide +kernel)
set_option maxRecDepth 20000 in
theorem gX2_listeners_X2_placeOf : GoodIn wsX2_listeners (wsV RX2 45 RX2 yX2_placeOf wsX2_placeOf) := goodIn_app (goodIn_of _ (by decide +kernel)) ggX2_listeners_X2_placeOf
theorem dX2_listeners_0 : decode cX2_listeners 0 = .ok (.iconst 0, 1) := by decide +kernel
theorem dX2_listeners_1 : decode cX2_listeners 1 = .ok (.istore_n 2, 1) := by decide +kernel
theorem dX2_listeners_2 : decode cX2_listeners 2 = .ok (.iconst 0, 1) := by decide +kernel
theorem dX2_listeners_3 : decode cX2_listeners 3 = .ok (.istore_n 3, 1) := by decide +kernel
theorem dX2_listeners_4 : decode cX2_listeners 4 = .ok (.iload_n 3, 1) := by decide +kernel
theorem dX2_listeners_5 : decode cX2_listeners 5 = .ok (.aload_n 0, 1) := by decide +kernel
theorem dX2_listeners_6 : decode cX2_listeners 6 = .ok (.getfield 9, 3) := by decide +kernel
theorem dX2_listeners_9 : decode cX2_listeners 9 = .ok (.if_icmp .ge 22, 3) := by decide +kernel
theorem dX2_listeners_12 : decode cX2_listeners 12 = .ok (.aload_n 0, 1) := by decide +kernel
theorem dX2_listeners_13 : decode cX2_listeners 13 = .ok (.iload_n 3, 1) := by decide +kernel
theorem dX2_listeners_14 : decode cX2_listeners 14 = .ok (.iload_n 1, 1) := by decide +kernel
theorem dX2_listeners_15 : decode cX2_listeners 15 = .ok (.invokevirtual 45, 3) := by decide +kernel
theorem dX2_listeners_18 : decode cX2_listeners 18 = .ok (.iconst (-1), 1) := by decide +kernel
theorem dX2_listeners_19 : decode cX2_listeners 19 = .ok (.if_icmp .eq 6, 3) := by decide +kernel
theorem dX2_listeners_22 : decode cX2_listeners 22 = .ok (.iinc 2 1, 3) := by decide +kernel
theorem dX2_listeners_25 : decode cX2_listeners 25 = .ok (.iinc 3 1, 3) := by decide +kernel
theorem dX2_listeners_28 : decode cX2_listeners 28 = .ok (.goto (-24), 3) := by decide +kernel
theorem dX2_listeners_31 : decode cX2_listeners 31 = .ok (.iload_n 2, 1) := by decide +kernel
theorem dX2_listeners_32 : decode cX2_listeners 32 = .ok (.ireturn, 1) := by decide +kernel
set_option maxRecDepth 20000 in
theorem ggX2_heard_X1_at : GoodIn wsX2_heard wsX1_at := goodIn_r _ [7, 8, 20] (by decide +kernel) (by decide +kernel)
set_option maxRecDepth 20000 in
theorem gX2_heard_X1_at : GoodIn wsX2_heard (wsV RX2 33 RX1 yX1_at wsX1_at) := goodIn_app (goodIn_of _ (by decide +kernel)) ggX2_heard_X1_at
set_option maxRecDepth 20000 in
theorem ggX2_heard_X2_other : GoodIn wsX2_heard wsX2_other := goodIn_r _ [13, 14, 3, 4, 5, 6, 7, 8, 15, 16, 17, 18, 19, 20] (by decide +kernel) (by decide +kernel)
set_option maxRecDepth 20000 in
theorem gX2_heard_X2_other : GoodIn wsX2_heard (wsV RX2 41 RX2 yX2_other wsX2_other) := goodIn_app (goodIn_of _ (by decide +kernel)) ggX2_heard_X2_other
theorem dX2_heard_0 : decode cX2_heard 0 = .ok (.aload_n 0, 1) := by decide +kernel
theorem dX2_heard_1 : decode cX2_heard 1 = .ok (.getfield 27, 3) := by decide +kernel
theorem dX2_heard_4 : decode cX2_heard 4 = .ok (.iload_n 1, 1) := by decide +kernel
theorem dX2_heard_5 : decode cX2_heard 5 = .ok (.invokevirtual 33, 3) := by decide +kernel
theorem dX2_heard_8 : decode cX2_heard 8 = .ok (.istore_n 2, 1) := by decide +kernel
theorem dX2_heard_9 : decode cX2_heard 9 = .ok (.iconst (-1), 1) := by decide +kernel
theorem dX2_heard_10 : decode cX2_heard 10 = .ok (.istore_n 3, 1) := by decide +kernel
theorem dX2_heard_11 : decode cX2_heard 11 = .ok (.iconst 0, 1) := by decide +kernel
theorem dX2_heard_12 : decode cX2_heard 12 = .ok (.istore 4, 2) := by decide +kernel
theorem dX2_heard_14 : decode cX2_heard 14 = .ok (.iconst 0, 1) := by decide +kernel
theorem dX2_heard_15 : decode cX2_heard 15 = .ok (.istore 5, 2) := by decide +kernel
theorem dX2_heard_17 : decode cX2_heard 17 = .ok (.iload 5, 2) := by decide +kernel
theorem dX2_heard_19 : decode cX2_heard 19 = .ok (.iload_n 2, 1) := by decide +kernel
theorem dX2_heard_20 : decode cX2_heard 20 = .ok (.if_icmp .ge 46, 3) := by decide +kernel
theorem dX2_heard_23 : decode cX2_heard 23 = .ok (.aload_n 0, 1) := by decide +kernel
theorem dX2_heard_24 : decode cX2_heard 24 = .ok (.iload_n 1, 1) := by decide +kernel
theorem dX2_heard_25 : decode cX2_heard 25 = .ok (.iload 5, 2) := by decide +kernel
theorem dX2_heard_27 : decode cX2_heard 27 = .ok (.invokevirtual 41, 3) := by decide +kernel
theorem dX2_heard_30 : decode cX2_heard 30 = .ok (.istore 6, 2) := by decide +kernel
theorem dX2_heard_32 : decode cX2_heard 32 = .ok (.aload_n 0, 1) := by decide +kernel
theorem dX2_heard_33 : decode cX2_heard 33 = .ok (.getfield 24, 3) := by decide +kernel
theorem dX2_heard_36 : decode cX2_heard 36 = .ok (.iload 6, 2) := by decide +kernel
theorem dX2_heard_38 : decode cX2_heard 38 = .ok (.invokevirtual 33, 3) := by decide +kernel
theorem dX2_heard_41 : decode cX2_heard 41 = .ok (.iload 4, 2) := by decide +kernel
theorem dX2_heard_43 : decode cX2_heard 43 = .ok (.if_icmp .le 17, 3) := by decide +kernel
theorem dX2_heard_46 : decode cX2_heard 46 = .ok (.aload_n 0, 1) := by decide +kernel
theorem dX2_heard_47 : decode cX2_heard 47 = .ok (.getfield 24, 3) := by decide +kernel
theorem dX2_heard_50 : decode cX2_heard 50 = .ok (.iload 6, 2) := by decide +kernel
theorem dX2_heard_52 : decode cX2_heard 52 = .ok (.invokevirtual 33, 3) := by decide +kernel
theorem dX2_heard_55 : decode cX2_heard 55 = .ok (.istore 4, 2) := by decide +kernel
theorem dX2_heard_57 : decode cX2_heard 57 = .ok (.iload 6, 2) := by decide +kernel
theorem dX2_heard_59 : decode cX2_heard 59 = .ok (.istore_n 3, 1) := by decide +kernel
theorem dX2_heard_60 : decode cX2_heard 60 = .ok (.iinc 5 1, 3) := by decide +kernel
theorem dX2_heard_63 : decode cX2_heard 63 = .ok (.goto (-46), 3) := by decide +kernel
theorem dX2_heard_66 : decode cX2_heard 66 = .ok (.iload_n 3, 1) := by decide +kernel
theorem dX2_heard_67 : decode cX2_heard 67 = .ok (.ireturn, 1) := by decide +kernel
set_option maxRecDepth 20000 in
theorem ggX2_othersAsSet_X1_at : GoodIn wsX2_othersAsSet wsX1_at := goodIn_r _ [6, 7, 19] (by decide +kernel) (by decide +kernel)
set_option maxRecDepth 20000 in
theorem gX2_othersAsSet_X1_at : GoodIn wsX2_othersAsSet (wsV RX2 33 RX1 yX1_at wsX1_at) := goodIn_app (goodIn_of _ (by decide +kernel)) ggX2_othersAsSet_X1_at
set_option maxRecDepth 20000 in
theorem ggX2_othersAsSet_X2_other : GoodIn wsX2_othersAsSet wsX2_other := goodIn_r _ [12, 13, 2, 3, 4, 5, 6, 7, 14, 15, 16, 17, 18, 19] (by decide +kernel) (by decide +kernel)
set_option maxRecDepth 20000 in
theorem gX2_othersAsSet_X2_other : GoodIn wsX2_othersAsSet (wsV RX2 41 RX2 yX2_other wsX2_other) := goodIn_app (goodIn_of _ (by decide +kernel)) ggX2_othersAsSet_X2_other
theorem dX2_othersAsSet_0 : decode cX2_othersAsSet 0 = .ok (.aload_n 0, 1) := by decide +kernel
theorem dX2_othersAsSet_1 : decode cX2_othersAsSet 1 = .ok (.getfield 27, 3) := by decide +kernel
theorem dX2_othersAsSet_4 : decode cX2_othersAsSet 4 = .ok (.iload_n 1, 1) := by decide +kernel
theorem dX2_othersAsSet_5 : decode cX2_othersAsSet 5 = .ok (.invokevirtual 33, 3) := by decide +kernel
theorem dX2_othersAsSet_8 : decode cX2_othersAsSet 8 = .ok (.istore_n 2, 1) := by decide +kernel
theorem dX2_othersAsSet_9 : decode cX2_othersAsSet 9 = .ok (.iconst 0, 1) := by decide +kernel
theorem dX2_othersAsSet_10 : decode cX2_othersAsSet 10 = .ok (.istore_n 3, 1) := by decide +kernel
theorem dX2_othersAsSet_11 : decode cX2_othersAsSet 11 = .ok (.iconst 0, 1) := by decide +kernel
theorem dX2_othersAsSet_12 : decode cX2_othersAsSet 12 = .ok (.istore 4, 2) := by decide +kernel
theorem dX2_othersAsSet_14 : decode cX2_othersAsSet 14 = .ok (.iload 4, 2) := by decide +kernel
theorem dX2_othersAsSet_16 : decode cX2_othersAsSet 16 = .ok (.iload_n 2, 1) := by decide +kernel
theorem dX2_othersAsSet_17 : decode cX2_othersAsSet 17 = .ok (.if_icmp .ge 21, 3) := by decide +kernel
theorem dX2_othersAsSet_20 : decode cX2_othersAsSet 20 = .ok (.iload_n 3, 1) := by decide +kernel
theorem dX2_othersAsSet_21 : decode cX2_othersAsSet 21 = .ok (.iconst 1, 1) := by decide +kernel
theorem dX2_othersAsSet_22 : decode cX2_othersAsSet 22 = .ok (.aload_n 0, 1) := by decide +kernel
theorem dX2_othersAsSet_23 : decode cX2_othersAsSet 23 = .ok (.iload_n 1, 1) := by decide +kernel
theorem dX2_othersAsSet_24 : decode cX2_othersAsSet 24 = .ok (.iload 4, 2) := by decide +kernel
theorem dX2_othersAsSet_26 : decode cX2_othersAsSet 26 = .ok (.invokevirtual 41, 3) := by decide +kernel
theorem dX2_othersAsSet_29 : decode cX2_othersAsSet 29 = .ok (.ishl, 1) := by decide +kernel
theorem dX2_othersAsSet_30 : decode cX2_othersAsSet 30 = .ok (.ior, 1) := by decide +kernel
theorem dX2_othersAsSet_31 : decode cX2_othersAsSet 31 = .ok (.istore_n 3, 1) := by decide +kernel
theorem dX2_othersAsSet_32 : decode cX2_othersAsSet 32 = .ok (.iinc 4 1, 3) := by decide +kernel
theorem dX2_othersAsSet_35 : decode cX2_othersAsSet 35 = .ok (.goto (-21), 3) := by decide +kernel
theorem dX2_othersAsSet_38 : decode cX2_othersAsSet 38 = .ok (.iload_n 3, 1) := by decide +kernel
theorem dX2_othersAsSet_39 : decode cX2_othersAsSet 39 = .ok (.ireturn, 1) := by decide +kernel
set_option maxRecDepth 20000 in
theorem ggX2_othersOfAll_X2_othersAsSet : GoodIn wsX2_othersOfAll wsX2_othersAsSet := goodIn_r _ [6, 7, 8, 9, 10, 11, 12, 13, 14, 15, 16, 5, 17, 18, 19, 20, 21, 22, 23, 24] (by decide +kernel) (by decide +kernel)
set_option maxRecDepth 20000 in
theorem gX2_othersOfAll_X2_othersAsSet : GoodIn wsX2_othersOfAll (wsV RX2 48 RX2 yX2_othersAsSet wsX2_othersAsSet) := goodIn_app (goodIn_of _ (by decide +kernel)) ggX2_othersOfAll_X2_othersAsSet
theorem dX2_othersOfAll_0 : decode cX2_othersOfAll 0 = .ok (.iconst 0, 1) := by decide +kernel
theorem dX2_othersOfAll_1 : decode cX2_othersOfAll 1 = .ok (.istore_n 2, 1) := by decide +kernel
theorem dX2_othersOfAll_2 : decode cX2_othersOfAll 2 = .ok (.iconst 0, 1) := by decide +kernel
theorem dX2_othersOfAll_3 : decode cX2_othersOfAll 3 = .ok (.istore_n 3, 1) := by decide +kernel
theorem dX2_othersOfAll_4 : decode cX2_othersOfAll 4 = .ok (.iload_n 3, 1) := by decide +kernel
theorem dX2_othersOfAll_5 : decode cX2_othersOfAll 5 = .ok (.aload_n 0, 1) := by decide +kernel
theorem dX2_othersOfAll_6 : decode cX2_othersOfAll 6 = .ok (.getfield 9, 3) := by decide +kernel
theorem dX2_othersOfAll_9 : decode cX2_othersOfAll 9 = .ok (.if_icmp .ge 26, 3) := by decide +kernel
theorem dX2_othersOfAll_12 : decode cX2_othersOfAll 12 = .ok (.iload_n 1, 1) := by decide +kernel
theorem dX2_othersOfAll_13 : decode cX2_othersOfAll 13 = .ok (.iload_n 3, 1) := by decide +kernel
theorem dX2_othersOfAll_14 : decode cX2_othersOfAll 14 = .ok (.ishr, 1) := by decide +kernel
theorem dX2_othersOfAll_15 : decode cX2_othersOfAll 15 = .ok (.iconst 1, 1) := by decide +kernel
theorem dX2_othersOfAll_16 : decode cX2_othersOfAll 16 = .ok (.iand, 1) := by decide +kernel
theorem dX2_othersOfAll_17 : decode cX2_othersOfAll 17 = .ok (.iconst 1, 1) := by decide +kernel
theorem dX2_othersOfAll_18 : decode cX2_othersOfAll 18 = .ok (.if_icmp .ne 11, 3) := by decide +kernel
theorem dX2_othersOfAll_21 : decode cX2_othersOfAll 21 = .ok (.iload_n 2, 1) := by decide +kernel
theorem dX2_othersOfAll_22 : decode cX2_othersOfAll 22 = .ok (.aload_n 0, 1) := by decide +kernel
theorem dX2_othersOfAll_23 : decode cX2_othersOfAll 23 = .ok (.iload_n 3, 1) := by decide +kernel
theorem dX2_othersOfAll_24 : decode cX2_othersOfAll 24 = .ok (.invokevirtual 48, 3) := by decide +kernel
theorem dX2_othersOfAll_27 : decode cX2_othersOfAll 27 = .ok (.ior, 1) := by decide +kernel
theorem dX2_othersOfAll_28 : decode cX2_othersOfAll 28 = .ok (.istore_n 2, 1) := by decide +kernel
theorem dX2_othersOfAll_29 : decode cX2_othersOfAll 29 = .ok (.iinc 3 1, 3) := by decide +kernel
theorem dX2_othersOfAll_32 : decode cX2_othersOfAll 32 = .ok (.goto (-28), 3) := by decide +kernel
theorem dX2_othersOfAll_35 : decode cX2_othersOfAll 35 = .ok (.iload_n 2, 1) := by decide +kernel
theorem dX2_othersOfAll_36 : decode cX2_othersOfAll 36 = .ok (.ireturn, 1) := by decide +kernel
set_option maxRecDepth 20000 in
theorem ggX3_init_X1_init : GoodIn wsX3_init wsX1_init := goodIn_r _ [17, 18, 2, 3, 19, 20, 21, 22, 23, 24, 39] (by decide +kernel) (by decide +kernel)
set_option maxRecDepth 20000 in
theorem gX3_init_X1_init : GoodIn wsX3_init (wsX1_init) := ggX3_init_X1_init
set_option maxRecDepth 20000 in
theorem ggX3_init_X0_init : GoodIn wsX3_init wsX0_init := goodIn_r _ [27, 28, 2, 3, 29, 7, 8, 30, 31, 32, 33, 16, 17, 18, 19, 20, 21, 22, 23, 24, 39, 40, 41, 42] (by decide +kernel) (by decide +kernel)
set_option maxRecDepth 20000 in
theorem gX3_init_X0_init : GoodIn wsX3_init (wsX0_init) := ggX3_init_X0_init
theorem dX3_init_0 : decode cX3_init 0 = .ok (.aload_n 0, 1) := by decide +kernel
theorem dX3_init_1 : decode cX3_init 1 = .ok (.invokespecial 3, 3) := by decide +kernel
theorem dX3_init_4 : decode cX3_init 4 = .ok (.aload_n 0, 1) := by decide +kernel
theorem dX3_init_5 : decode cX3_init 5 = .ok (.iconst 0, 1) := by decide +kernel
theorem dX3_init_6 : decode cX3_init 6 = .ok (.putfield 9, 3) := by decide +kernel
theorem dX3_init_9 : decode cX3_init 9 = .ok (.aload_n 0, 1) := by decide +kernel
theorem dX3_init_10 : decode cX3_init 10 = .ok (.iconst 0, 1) := by decide +kernel
theorem dX3_init_11 : decode cX3_init 11 = .ok (.putfield 15, 3) := by decide +kernel
theorem dX3_init_14 : decode cX3_init 14 = .ok (.aload_n 0, 1) := by decide +kernel
theorem dX3_init_15 : decode cX3_init 15 = .ok (.new 18, 3) := by decide +kernel
theorem dX3_init_18 : decode cX3_init 18 = .ok (.dup, 1) := by decide +kernel
theorem dX3_init_19 : decode cX3_init 19 = .ok (.bipush 12, 2) := by decide +kernel
theorem dX3_init_21 : decode cX3_init 21 = .ok (.invokespecial 20, 3) := by decide +kernel
theorem dX3_init_24 : decode cX3_init 24 = .ok (.putfield 23, 3) := by decide +kernel
theorem dX3_init_27 : decode cX3_init 27 = .ok (.aload_n 0, 1) := by decide +kernel
theorem dX3_init_28 : decode cX3_init 28 = .ok (.new 27, 3) := by decide +kernel
theorem dX3_init_31 : decode cX3_init 31 = .ok (.dup, 1) := by decide +kernel
theorem dX3_init_32 : decode cX3_init 32 = .ok (.invokespecial 29, 3) := by decide +kernel
theorem dX3_init_35 : decode cX3_init 35 = .ok (.putfield 30, 3) := by decide +kernel
theorem dX3_init_38 : decode cX3_init 38 = .ok (.aload_n 0, 1) := by decide +kernel
theorem dX3_init_39 : decode cX3_init 39 = .ok (.new 27, 3) := by decide +kernel
theorem dX3_init_42 : decode cX3_init 42 = .ok (.dup, 1) := by decide +kernel
theorem dX3_init_43 : decode cX3_init 43 = .ok (.invokespecial 29, 3) := by decide +kernel
theorem dX3_init_46 : decode cX3_init 46 = .ok (.putfield 34, 3) := by decide +kernel
theorem dX3_init_49 : decode cX3_init 49 = .ok (.return_, 1) := by decide +kernel
theorem dX3_round_0 : decode cX3_round 0 = .ok (.aload_n 0, 1) := by decide +kernel
theorem dX3_round_1 : decode cX3_round 1 = .ok (.getfield 9, 3) := by decide +kernel
theorem dX3_round_4 : decode cX3_round 4 = .ok (.ireturn, 1) := by decide +kernel
theorem dX3_taken_0 : decode cX3_taken 0 = .ok (.aload_n 0, 1) := by decide +kernel
theorem dX3_taken_1 : decode cX3_taken 1 = .ok (.getfield 15, 3) := by decide +kernel
theorem dX3_taken_4 : decode cX3_taken 4 = .ok (.ireturn, 1) := by decide +kernel
set_option maxRecDepth 20000 in
theorem ggX3_sure_X1_at : GoodIn wsX3_sure wsX1_at := goodIn_r _ [6, 7, 13] (by decide +kernel) (by decide +kernel)
set_option maxRecDepth 20000 in
theorem gX3_sure_X1_at : GoodIn wsX3_sure (wsV RX3 37 RX1 yX1_at wsX1_at) := goodIn_app (goodIn_of _ (by decide +kernel)) ggX3_sure_X1_at
theorem dX3_sure_0 : decode cX3_sure 0 = .ok (.aload_n 0, 1) := by decide +kernel
theorem dX3_sure_1 : decode cX3_sure 1 = .ok (.getfield 23, 3) := by decide +kernel
theorem dX3_sure_4 : decode cX3_sure 4 = .ok (.iload_n 1, 1) := by decide +kernel
theorem dX3_sure_5 : decode cX3_sure 5 = .ok (.invokevirtual 37, 3) := by decide +kernel
theorem dX3_sure_8 : decode cX3_sure 8 = .ok (.ireturn, 1) := by decide +kernel
theorem dX3_halves_0 : decode cX3_halves 0 = .ok (.iload_n 1, 1) := by decide +kernel
theorem dX3_halves_1 : decode cX3_halves 1 = .ok (.ifCond .eq 10, 3) := by decide +kernel
theorem dX3_halves_4 : decode cX3_halves 4 = .ok (.aload_n 0, 1) := by decide +kernel
theorem dX3_halves_5 : decode cX3_halves 5 = .ok (.getfield 34, 3) := by decide +kernel
theorem dX3_halves_8 : decode cX3_halves 8 = .ok (.goto 7, 3) := by decide +kernel
theorem dX3_halves_11 : decode cX3_halves 11 = .ok (.aload_n 0, 1) := by decide +kernel
theorem dX3_halves_12 : decode cX3_halves 12 = .ok (.getfield 30, 3) := by decide +kernel
theorem dX3_halves_15 : decode cX3_halves 15 = .ok (.areturn, 1) := by decide +kernel
set_option maxRecDepth 20000 in
theorem ggX3_word_X0_value : GoodIn wsX3_word wsX0_value := goodIn_r _ [7, 8, 9, 10, 11, 12, 13, 14, 20, 21, 22, 23] (by decide +kernel) (by decide +kernel)
set_option maxRecDepth 20000 in
theorem gX3_word_X0_value : GoodIn wsX3_word (wsV RX3 41 RX0 yX0_value wsX0_value) := goodIn_app (goodIn_of _ (by decide +kernel)) ggX3_word_X0_value
theorem dX3_word_0 : decode cX3_word 0 = .ok (.aload_n 0, 1) := by decide +kernel
theorem dX3_word_1 : decode cX3_word 1 = .ok (.getfield 30, 3) := by decide +kernel
theorem dX3_word_4 : decode cX3_word 4 = .ok (.iload_n 1, 1) := by decide +kernel
theorem dX3_word_5 : decode cX3_word 5 = .ok (.invokevirtual 41, 3) := by decide +kernel
theorem dX3_word_8 : decode cX3_word 8 = .ok (.bipush 100, 2) := by decide +kernel
theorem dX3_word_10 : decode cX3_word 10 = .ok (.imul, 1) := by decide +kernel
theorem dX3_word_11 : decode cX3_word 11 = .ok (.aload_n 0, 1) := by decide +kernel
theorem dX3_word_12 : decode cX3_word 12 = .ok (.getfield 34, 3) := by decide +kernel
theorem dX3_word_15 : decode cX3_word 15 = .ok (.iload_n 1, 1) := by decide +kernel
theorem dX3_word_16 : decode cX3_word 16 = .ok (.invokevirtual 41, 3) := by decide +kernel
theorem dX3_word_19 : decode cX3_word 19 = .ok (.iadd, 1) := by decide +kernel
theorem dX3_word_20 : decode cX3_word 20 = .ok (.ireturn, 1) := by decide +kernel
set_option maxRecDepth 20000 in
theorem ggX3_takeFromCourt_X0_takeFromCourt : GoodIn wsX3_takeFromCourt wsX0_takeFromCourt := goodIn_r _ [8, 9, 10, 11, 12, 13, 14, 15, 16, 17, 24, 25, 26, 27] (by decide +kernel) (by decide +kernel)
set_option maxRecDepth 20000 in
theorem gX3_takeFromCourt_X0_takeFromCourt : GoodIn wsX3_takeFromCourt (wsV RX3 44 RX0 yX0_takeFromCourt wsX0_takeFromCourt) := goodIn_app (goodIn_of _ (by decide +kernel)) ggX3_takeFromCourt_X0_takeFromCourt
set_option maxRecDepth 20000 in
theorem ggX3_takeFromCourt_X1_put : GoodIn wsX3_takeFromCourt wsX1_put := goodIn_r _ [16, 17, 27] (by decide +kernel) (by decide +kernel)
set_option maxRecDepth 20000 in
theorem gX3_takeFromCourt_X1_put : GoodIn wsX3_takeFromCourt (wsV RX3 48 RX1 yX1_put wsX1_put) := goodIn_app (goodIn_of _ (by decide +kernel)) ggX3_takeFromCourt_X1_put
theorem dX3_takeFromCourt_0 : decode cX3_takeFromCourt 0 = .ok (.aload_n 0, 1) := by decide +kernel
theorem dX3_takeFromCourt_1 : decode cX3_takeFromCourt 1 = .ok (.getfield 30, 3) := by decide +kernel
theorem dX3_takeFromCourt_4 : decode cX3_takeFromCourt 4 = .ok (.iload_n 1, 1) := by decide +kernel
theorem dX3_takeFromCourt_5 : decode cX3_takeFromCourt 5 = .ok (.iload_n 2, 1) := by decide +kernel
theorem dX3_takeFromCourt_6 : decode cX3_takeFromCourt 6 = .ok (.bipush 100, 2) := by decide +kernel
theorem dX3_takeFromCourt_8 : decode cX3_takeFromCourt 8 = .ok (.idiv, 1) := by decide +kernel
theorem dX3_takeFromCourt_9 : decode cX3_takeFromCourt 9 = .ok (.invokevirtual 44, 3) := by decide +kernel
theorem dX3_takeFromCourt_12 : decode cX3_takeFromCourt 12 = .ok (.aload_n 0, 1) := by decide +kernel
theorem dX3_takeFromCourt_13 : decode cX3_takeFromCourt 13 = .ok (.getfield 34, 3) := by decide +kernel
theorem dX3_takeFromCourt_16 : decode cX3_takeFromCourt 16 = .ok (.iload_n 1, 1) := by decide +kernel
theorem dX3_takeFromCourt_17 : decode cX3_takeFromCourt 17 = .ok (.iload_n 2, 1) := by decide +kernel
theorem dX3_takeFromCourt_18 : decode cX3_takeFromCourt 18 = .ok (.bipush 100, 2) := by decide +kernel
theorem dX3_takeFromCourt_20 : decode cX3_takeFromCourt 20 = .ok (.irem, 1) := by decide +kernel
theorem dX3_takeFromCourt_21 : decode cX3_takeFromCourt 21 = .ok (.invokevirtual 44, 3) := by decide +kernel
theorem dX3_takeFromCourt_24 : decode cX3_takeFromCourt 24 = .ok (.aload_n 0, 1) := by decide +kernel
theorem dX3_takeFromCourt_25 : decode cX3_takeFromCourt 25 = .ok (.getfield 23, 3) := by decide +kernel
theorem dX3_takeFromCourt_28 : decode cX3_takeFromCourt 28 = .ok (.iload_n 1, 1) := by decide +kernel
theorem dX3_takeFromCourt_29 : decode cX3_takeFromCourt 29 = .ok (.iload_n 3, 1) := by decide +kernel
theorem dX3_takeFromCourt_30 : decode cX3_takeFromCourt 30 = .ok (.invokevirtual 48, 3) := by decide +kernel
theorem dX3_takeFromCourt_33 : decode cX3_takeFromCourt 33 = .ok (.return_, 1) := by decide +kernel
set_option maxRecDepth 20000 in
theorem ggX3_copyFrom_X1_copyFrom : GoodIn wsX3_copyFrom wsX1_copyFrom := goodIn_r _ [10, 11, 12, 13, 14, 15, 16, 17, 18, 19, 34] (by decide +kernel) (by decide +kernel)
set_option maxRecDepth 20000 in
theorem gX3_copyFrom_X1_copyFrom : GoodIn wsX3_copyFrom (wsV RX3 51 RX1 yX1_copyFrom wsX1_copyFrom) := goodIn_app (goodIn_of _ (by decide +kernel)) ggX3_copyFrom_X1_copyFrom
set_option maxRecDepth 20000 in
theorem ggX3_copyFrom_X0_copyFrom : GoodIn wsX3_copyFrom wsX0_copyFrom := goodIn_r _ [24, 25, 26, 27, 28, 7, 8, 9, 10, 11, 12, 13, 14, 15, 16, 17, 18, 19, 35, 36, 37, 34] (by decide +kernel) (by decide +kernel)
set_option maxRecDepth 20000 in
theorem gX3_copyFrom_X0_copyFrom : GoodIn wsX3_copyFrom (wsV RX3 55 RX0 yX0_copyFrom wsX0_copyFrom) := goodIn_app (goodIn_of _ (by decide +kernel)) ggX3_copyFrom_X0_copyFrom
theorem dX3_copyFrom_0 : decode cX3_copyFrom 0 = .ok (.aload_n 0, 1) := by decide +kernel
theorem dX3_copyFrom_1 : decode cX3_copyFrom 1 = .ok (.aload_n 1, 1) := by decide +kernel
theorem dX3_copyFrom_2 : decode cX3_copyFrom 2 = .ok (.getfield 9, 3) := by decide +kernel
theorem dX3_copyFrom_5 : decode cX3_copyFrom 5 = .ok (.putfield 9, 3) := by decide +kernel
theorem dX3_copyFrom_8 : decode cX3_copyFrom 8 = .ok (.aload_n 0, 1) := by decide +kernel
theorem dX3_copyFrom_9 : decode cX3_copyFrom 9 = .ok (.aload_n 1, 1) := by decide +kernel
theorem dX3_copyFrom_10 : decode cX3_copyFrom 10 = .ok (.getfield 15, 3) := by decide +kernel
theorem dX3_copyFrom_13 : decode cX3_copyFrom 13 = .ok (.putfield 15, 3) := by decide +kernel
theorem dX3_copyFrom_16 : decode cX3_copyFrom 16 = .ok (.aload_n 0, 1) := by decide +kernel
theorem dX3_copyFrom_17 : decode cX3_copyFrom 17 = .ok (.getfield 23, 3) := by decide +kernel
theorem dX3_copyFrom_20 : decode cX3_copyFrom 20 = .ok (.aload_n 1, 1) := by decide +kernel
theorem dX3_copyFrom_21 : decode cX3_copyFrom 21 = .ok (.getfield 23, 3) := by decide +kernel
theorem dX3_copyFrom_24 : decode cX3_copyFrom 24 = .ok (.invokevirtual 51, 3) := by decide +kernel
theorem dX3_copyFrom_27 : decode cX3_copyFrom 27 = .ok (.aload_n 0, 1) := by decide +kernel
theorem dX3_copyFrom_28 : decode cX3_copyFrom 28 = .ok (.getfield 30, 3) := by decide +kernel
theorem dX3_copyFrom_31 : decode cX3_copyFrom 31 = .ok (.aload_n 1, 1) := by decide +kernel
theorem dX3_copyFrom_32 : decode cX3_copyFrom 32 = .ok (.getfield 30, 3) := by decide +kernel
theorem dX3_copyFrom_35 : decode cX3_copyFrom 35 = .ok (.invokevirtual 55, 3) := by decide +kernel
theorem dX3_copyFrom_38 : decode cX3_copyFrom 38 = .ok (.aload_n 0, 1) := by decide +kernel
theorem dX3_copyFrom_39 : decode cX3_copyFrom 39 = .ok (.getfield 34, 3) := by decide +kernel
theorem dX3_copyFrom_42 : decode cX3_copyFrom 42 = .ok (.aload_n 1, 1) := by decide +kernel
theorem dX3_copyFrom_43 : decode cX3_copyFrom 43 = .ok (.getfield 34, 3) := by decide +kernel
theorem dX3_copyFrom_46 : decode cX3_copyFrom 46 = .ok (.invokevirtual 55, 3) := by decide +kernel
theorem dX3_copyFrom_49 : decode cX3_copyFrom 49 = .ok (.return_, 1) := by decide +kernel
set_option maxRecDepth 20000 in
theorem ggX3_goRounds_X3_copyFrom : GoodIn wsX3_goRounds wsX3_copyFrom := goodIn_r _ [6, 1, 7, 8, 9, 10, 11, 12, 13, 14, 15, 16, 17, 18, 19, 20, 21, 22, 23, 24, 25, 26, 27, 28, 29, 30, 31, 32, 33, 104, 105, 106, 107, 108, 109, 110, 111, 112] (by decide +kernel) (by decide +kernel)
set_option maxRecDepth 20000 in
theorem gX3_goRounds_X3_copyFrom : GoodIn wsX3_goRounds (wsV RX3 58 RX3 yX3_copyFrom wsX3_copyFrom) := goodIn_app (goodIn_of _ (by decide +kernel)) ggX3_goRounds_X3_copyFrom
set_option maxRecDepth 20000 in
theorem ggX3_goRounds_X3_hearAll : GoodIn wsX3_goRounds wsX3_hearAll := goodIn_r _ [37, 38, 39, 40, 41, 42, 43, 44, 45, 46, 47, 48, 49, 50, 51, 52, 14, 53, 16, 54, 55, 56, 57, 58, 59, 60, 61, 5, 62, 8, 63, 18, 19, 20, 7, 64, 65, 66, 67, 68, 69, 70, 71, 72, 9, 10, 73, 74, 75, 28, 76, 30, 77, 78, 79, 80, 81, 82, 83, 84, 85, 86, 87, 88, 89, 31, 32, 90, 91, 113, 114, 115, 116, 117, 109, 104, 105, 106, 107, 108, 110, 111, 112] (by decide +kernel) (by decide +kernel)
set_option maxRecDepth 20000 in
theorem gX3_goRounds_X3_hearAll : GoodIn wsX3_goRounds (wsV RX3 61 RX3 yX3_hearAll wsX3_hearAll) := goodIn_app (goodIn_of _ (by decide +kernel)) ggX3_goRounds_X3_hearAll
set_option maxRecDepth 20000 in
theorem ggX3_goRounds_X3_forgetAll : GoodIn wsX3_goRounds wsX3_forgetAll := goodIn_r _ [95, 1, 8, 96, 97, 19, 98, 38, 39, 40, 41, 42, 43, 99, 100, 101, 102, 103, 50, 51, 52, 14, 53, 16, 68, 78, 79, 80, 81, 104, 105, 106, 107, 108, 113, 114, 115, 116, 117, 109] (by decide +kernel) (by decide +kernel)
set_option maxRecDepth 20000 in
theorem gX3_goRounds_X3_forgetAll : GoodIn wsX3_goRounds (wsV RX3 65 RX3 yX3_forgetAll wsX3_forgetAll) := goodIn_app (goodIn_of _ (by decide +kernel)) ggX3_goRounds_X3_forgetAll
theorem dX3_goRounds_0 : decode cX3_goRounds 0 = .ok (.iconst 0, 1) := by decide +kernel
theorem dX3_goRounds_1 : decode cX3_goRounds 1 = .ok (.istore 4, 2) := by decide +kernel
theorem dX3_goRounds_3 : decode cX3_goRounds 3 = .ok (.iload 4, 2) := by decide +kernel
theorem dX3_goRounds_5 : decode cX3_goRounds 5 = .ok (.iload_n 3, 1) := by decide +kernel
theorem dX3_goRounds_6 : decode cX3_goRounds 6 = .ok (.if_icmp .ge 35, 3) := by decide +kernel
theorem dX3_goRounds_9 : decode cX3_goRounds 9 = .ok (.aload_n 2, 1) := by decide +kernel
theorem dX3_goRounds_10 : decode cX3_goRounds 10 = .ok (.aload_n 0, 1) := by decide +kernel
theorem dX3_goRounds_11 : decode cX3_goRounds 11 = .ok (.invokevirtual 58, 3) := by decide +kernel
theorem dX3_goRounds_14 : decode cX3_goRounds 14 = .ok (.aload_n 0, 1) := by decide +kernel
theorem dX3_goRounds_15 : decode cX3_goRounds 15 = .ok (.aload_n 1, 1) := by decide +kernel
theorem dX3_goRounds_16 : decode cX3_goRounds 16 = .ok (.aload_n 2, 1) := by decide +kernel
theorem dX3_goRounds_17 : decode cX3_goRounds 17 = .ok (.invokevirtual 61, 3) := by decide +kernel
theorem dX3_goRounds_20 : decode cX3_goRounds 20 = .ok (.aload_n 0, 1) := by decide +kernel
theorem dX3_goRounds_21 : decode cX3_goRounds 21 = .ok (.aload_n 1, 1) := by decide +kernel
theorem dX3_goRounds_22 : decode cX3_goRounds 22 = .ok (.invokevirtual 65, 3) := by decide +kernel
theorem dX3_goRounds_25 : decode cX3_goRounds 25 = .ok (.aload_n 0, 1) := by decide +kernel
theorem dX3_goRounds_26 : decode cX3_goRounds 26 = .ok (.dup, 1) := by decide +kernel
theorem dX3_goRounds_27 : decode cX3_goRounds 27 = .ok (.getfield 9, 3) := by decide +kernel
theorem dX3_goRounds_30 : decode cX3_goRounds 30 = .ok (.iconst 1, 1) := by decide +kernel
theorem dX3_goRounds_31 : decode cX3_goRounds 31 = .ok (.iadd, 1) := by decide +kernel
theorem dX3_goRounds_32 : decode cX3_goRounds 32 = .ok (.putfield 9, 3) := by decide +kernel
theorem dX3_goRounds_35 : decode cX3_goRounds 35 = .ok (.iinc 4 1, 3) := by decide +kernel
theorem dX3_goRounds_38 : decode cX3_goRounds 38 = .ok (.goto (-35), 3) := by decide +kernel
theorem dX3_goRounds_41 : decode cX3_goRounds 41 = .ok (.return_, 1) := by decide +kernel
set_option maxRecDepth 20000 in
theorem ggX3_hearAll_X2_size : GoodIn wsX3_hearAll wsX2_size := goodIn_r _ [5, 6, 69, 70, 71, 72, 73] (by decide +kernel) (by decide +kernel)
set_option maxRecDepth 20000 in
theorem gX3_hearAll_X2_size : GoodIn wsX3_hearAll (wsV RX3 69 RX2 yX2_size wsX2_size) := goodIn_app (goodIn_of _ (by decide +kernel)) ggX3_hearAll_X2_size
set_option maxRecDepth 20000 in
theorem ggX3_hearAll_X2_heard : GoodIn wsX3_hearAll wsX2_heard := goodIn_r _ [10, 11, 12, 13, 14, 15, 16, 17, 18, 19, 20, 21, 4, 22, 23, 69, 70, 71, 72, 73, 74] (by decide +kernel) (by decide +kernel)
set_option maxRecDepth 20000 in
theorem gX3_hearAll_X2_heard : GoodIn wsX3_hearAll (wsV RX3 75 RX2 yX2_heard wsX2_heard) := goodIn_app (goodIn_of _ (by decide +kernel)) ggX3_hearAll_X2_heard
set_option maxRecDepth 20000 in
theorem ggX3_hearAll_X3_hear : GoodIn wsX3_hearAll wsX3_hear := goodIn_r _ [28, 29, 30, 31, 32, 33, 34, 35, 36, 37, 27, 38, 39, 14, 15, 16, 17, 18, 40, 41, 42, 43, 44, 45, 46, 47, 48, 49, 50, 51, 52, 53, 54, 55, 56, 57, 58, 59, 60, 61, 62, 63, 64, 65, 66, 67, 68, 75, 76, 77, 78, 79, 74, 80, 81, 82] (by decide +kernel) (by decide +kernel)
set_option maxRecDepth 20000 in
theorem gX3_hearAll_X3_hear : GoodIn wsX3_hearAll (wsV RX3 78 RX3 yX3_hear wsX3_hear) := goodIn_app (goodIn_of _ (by decide +kernel)) ggX3_hearAll_X3_hear
theorem dX3_hearAll_0 : decode cX3_hearAll 0 = .ok (.aload_n 1, 1) := by decide +kernel
theorem dX3_hearAll_1 : decode cX3_hearAll 1 = .ok (.invokevirtual 69, 3) := by decide +kernel
theorem dX3_hearAll_4 : decode cX3_hearAll 4 = .ok (.istore_n 3, 1) := by decide +kernel
theorem dX3_hearAll_5 : decode cX3_hearAll 5 = .ok (.iconst 0, 1) := by decide +kernel
theorem dX3_hearAll_6 : decode cX3_hearAll 6 = .ok (.istore 4, 2) := by decide +kernel
theorem dX3_hearAll_8 : decode cX3_hearAll 8 = .ok (.iload 4, 2) := by decide +kernel
theorem dX3_hearAll_10 : decode cX3_hearAll 10 = .ok (.iload_n 3, 1) := by decide +kernel
theorem dX3_hearAll_11 : decode cX3_hearAll 11 = .ok (.if_icmp .ge 32, 3) := by decide +kernel
theorem dX3_hearAll_14 : decode cX3_hearAll 14 = .ok (.aload_n 1, 1) := by decide +kernel
theorem dX3_hearAll_15 : decode cX3_hearAll 15 = .ok (.iload 4, 2) := by decide +kernel
theorem dX3_hearAll_17 : decode cX3_hearAll 17 = .ok (.invokevirtual 75, 3) := by decide +kernel
theorem dX3_hearAll_20 : decode cX3_hearAll 20 = .ok (.istore 5, 2) := by decide +kernel
theorem dX3_hearAll_22 : decode cX3_hearAll 22 = .ok (.iload 5, 2) := by decide +kernel
theorem dX3_hearAll_24 : decode cX3_hearAll 24 = .ok (.iconst (-1), 1) := by decide +kernel
theorem dX3_hearAll_25 : decode cX3_hearAll 25 = .ok (.if_icmp .eq 12, 3) := by decide +kernel
theorem dX3_hearAll_28 : decode cX3_hearAll 28 = .ok (.aload_n 0, 1) := by decide +kernel
theorem dX3_hearAll_29 : decode cX3_hearAll 29 = .ok (.iload 4, 2) := by decide +kernel
theorem dX3_hearAll_31 : decode cX3_hearAll 31 = .ok (.iload 5, 2) := by decide +kernel
theorem dX3_hearAll_33 : decode cX3_hearAll 33 = .ok (.aload_n 2, 1) := by decide +kernel
theorem dX3_hearAll_34 : decode cX3_hearAll 34 = .ok (.invokevirtual 78, 3) := by decide +kernel
theorem dX3_hearAll_37 : decode cX3_hearAll 37 = .ok (.iinc 4 1, 3) := by decide +kernel
theorem dX3_hearAll_40 : decode cX3_hearAll 40 = .ok (.goto (-32), 3) := by decide +kernel
theorem dX3_hearAll_43 : decode cX3_hearAll 43 = .ok (.return_, 1) := by decide +kernel
set_option maxRecDepth 20000 in
theorem ggX3_hear_X3_sure : GoodIn wsX3_hear wsX3_sure := goodIn_r _ [11, 1, 12, 13, 14, 15, 16, 17, 47, 48, 49, 50, 51, 52] (by decide +kernel) (by decide +kernel)
set_option maxRecDepth 20000 in
theorem gX3_hear_X3_sure : GoodIn wsX3_hear (wsV RX3 82 RX3 yX3_sure wsX3_sure) := goodIn_app (goodIn_of _ (by decide +kernel)) ggX3_hear_X3_sure
set_option maxRecDepth 20000 in
theorem ggX3_hear_X3_word : GoodIn wsX3_hear wsX3_word := goodIn_r _ [21, 22, 23, 24, 25, 26, 27, 28, 29, 30, 13, 14, 15, 16, 17, 47, 48, 49, 50, 51, 53, 54, 55, 52] (by decide +kernel) (by decide +kernel)
set_option maxRecDepth 20000 in
theorem gX3_hear_X3_word : GoodIn wsX3_hear (wsV RX3 84 RX3 yX3_word wsX3_word) := goodIn_app (goodIn_of _ (by decide +kernel)) ggX3_hear_X3_word
set_option maxRecDepth 20000 in
theorem ggX3_hear_X1_put : GoodIn wsX3_hear wsX1_put := goodIn_r _ [34, 17, 52] (by decide +kernel) (by decide +kernel)
set_option maxRecDepth 20000 in
theorem gX3_hear_X1_put : GoodIn wsX3_hear (wsV RX3 48 RX1 yX1_put wsX1_put) := goodIn_app (goodIn_of _ (by decide +kernel)) ggX3_hear_X1_put
set_option maxRecDepth 20000 in
theorem ggX3_hear_X3_halves : GoodIn wsX3_hear wsX3_halves := goodIn_r _ [38, 23, 22, 47, 48, 49, 50, 51] (by decide +kernel) (by decide +kernel)
set_option maxRecDepth 20000 in
theorem gX3_hear_X3_halves : GoodIn wsX3_hear (wsV RX3 93 RX3 yX3_halves wsX3_halves) := goodIn_app (goodIn_of _ (by decide +kernel)) ggX3_hear_X3_halves
set_option maxRecDepth 20000 in
theorem ggX3_hear_X0_takeFrom : GoodIn wsX3_hear wsX0_takeFrom := goodIn_r _ [42, 29, 43, 44, 45, 3, 4, 5, 30, 13, 14, 15, 16, 17, 46, 32, 33, 34, 53, 54, 55, 52] (by decide +kernel) (by decide +kernel)
set_option maxRecDepth 20000 in
theorem gX3_hear_X0_takeFrom : GoodIn wsX3_hear (wsV RX3 97 RX0 yX0_takeFrom wsX0_takeFrom) := goodIn_app (goodIn_of _ (by decide +kernel)) ggX3_hear_X0_takeFrom
theorem dX3_hear_0 : decode cX3_hear 0 = .ok (.aload_n 3, 1) := by decide +kernel
theorem dX3_hear_1 : decode cX3_hear 1 = .ok (.iload_n 1, 1) := by decide +kernel
theorem dX3_hear_2 : decode cX3_hear 2 = .ok (.invokevirtual 82, 3) := by decide +kernel
theorem dX3_hear_5 : decode cX3_hear 5 = .ok (.istore 4, 2) := by decide +kernel
theorem dX3_hear_7 : decode cX3_hear 7 = .ok (.aload_n 3, 1) := by decide +kernel
theorem dX3_hear_8 : decode cX3_hear 8 = .ok (.iload_n 1, 1) := by decide +kernel
theorem dX3_hear_9 : decode cX3_hear 9 = .ok (.invokevirtual 84, 3) := by decide +kernel
theorem dX3_hear_12 : decode cX3_hear 12 = .ok (.aload_n 3, 1) := by decide +kernel
theorem dX3_hear_13 : decode cX3_hear 13 = .ok (.iload_n 2, 1) := by decide +kernel
theorem dX3_hear_14 : decode cX3_hear 14 = .ok (.invokevirtual 84, 3) := by decide +kernel
theorem dX3_hear_17 : decode cX3_hear 17 = .ok (.if_icmp .ne 23, 3) := by decide +kernel
theorem dX3_hear_20 : decode cX3_hear 20 = .ok (.aload_n 0, 1) := by decide +kernel
theorem dX3_hear_21 : decode cX3_hear 21 = .ok (.getfield 23, 3) := by decide +kernel
theorem dX3_hear_24 : decode cX3_hear 24 = .ok (.iload_n 1, 1) := by decide +kernel
theorem dX3_hear_25 : decode cX3_hear 25 = .ok (.iload 4, 2) := by decide +kernel
theorem dX3_hear_27 : decode cX3_hear 27 = .ok (.iconst 1, 1) := by decide +kernel
theorem dX3_hear_28 : decode cX3_hear 28 = .ok (.iadd, 1) := by decide +kernel
theorem dX3_hear_29 : decode cX3_hear 29 = .ok (.bipush 9, 2) := by decide +kernel
theorem dX3_hear_31 : decode cX3_hear 31 = .ok (.invokestatic 87, 3) := by decide +kernel
theorem dX3_hear_34 : decode cX3_hear 34 = .ok (.invokevirtual 48, 3) := by decide +kernel
theorem dX3_hear_37 : decode cX3_hear 37 = .ok (.goto 78, 3) := by decide +kernel
theorem dX3_hear_40 : decode cX3_hear 40 = .ok (.iload 4, 2) := by decide +kernel
theorem dX3_hear_42 : decode cX3_hear 42 = .ok (.aload_n 3, 1) := by decide +kernel
theorem dX3_hear_43 : decode cX3_hear 43 = .ok (.iload_n 2, 1) := by decide +kernel
theorem dX3_hear_44 : decode cX3_hear 44 = .ok (.invokevirtual 82, 3) := by decide +kernel
theorem dX3_hear_47 : decode cX3_hear 47 = .ok (.if_icmp .le 18, 3) := by decide +kernel
theorem dX3_hear_50 : decode cX3_hear 50 = .ok (.aload_n 0, 1) := by decide +kernel
theorem dX3_hear_51 : decode cX3_hear 51 = .ok (.getfield 23, 3) := by decide +kernel
theorem dX3_hear_54 : decode cX3_hear 54 = .ok (.iload_n 1, 1) := by decide +kernel
theorem dX3_hear_55 : decode cX3_hear 55 = .ok (.iload 4, 2) := by decide +kernel
theorem dX3_hear_57 : decode cX3_hear 57 = .ok (.iconst 1, 1) := by decide +kernel
theorem dX3_hear_58 : decode cX3_hear 58 = .ok (.isub, 1) := by decide +kernel
theorem dX3_hear_59 : decode cX3_hear 59 = .ok (.invokevirtual 48, 3) := by decide +kernel
theorem dX3_hear_62 : decode cX3_hear 62 = .ok (.goto 53, 3) := by decide +kernel
theorem dX3_hear_65 : decode cX3_hear 65 = .ok (.iload_n 1, 1) := by decide +kernel
theorem dX3_hear_66 : decode cX3_hear 66 = .ok (.iconst 1, 1) := by decide +kernel
theorem dX3_hear_67 : decode cX3_hear 67 = .ok (.iand, 1) := by decide +kernel
theorem dX3_hear_68 : decode cX3_hear 68 = .ok (.iconst 1, 1) := by decide +kernel
theorem dX3_hear_69 : decode cX3_hear 69 = .ok (.if_icmp .ne 7, 3) := by decide +kernel
theorem dX3_hear_72 : decode cX3_hear 72 = .ok (.iconst 1, 1) := by decide +kernel
theorem dX3_hear_73 : decode cX3_hear 73 = .ok (.goto 4, 3) := by decide +kernel
theorem dX3_hear_76 : decode cX3_hear 76 = .ok (.iconst 0, 1) := by decide +kernel
theorem dX3_hear_77 : decode cX3_hear 77 = .ok (.istore 5, 2) := by decide +kernel
theorem dX3_hear_79 : decode cX3_hear 79 = .ok (.aload_n 0, 1) := by decide +kernel
theorem dX3_hear_80 : decode cX3_hear 80 = .ok (.iload 5, 2) := by decide +kernel
theorem dX3_hear_82 : decode cX3_hear 82 = .ok (.invokevirtual 93, 3) := by decide +kernel
theorem dX3_hear_85 : decode cX3_hear 85 = .ok (.iload_n 1, 1) := by decide +kernel
theorem dX3_hear_86 : decode cX3_hear 86 = .ok (.iload_n 2, 1) := by decide +kernel
theorem dX3_hear_87 : decode cX3_hear 87 = .ok (.aload_n 3, 1) := by decide +kernel
theorem dX3_hear_88 : decode cX3_hear 88 = .ok (.iload 5, 2) := by decide +kernel
theorem dX3_hear_90 : decode cX3_hear 90 = .ok (.invokevirtual 93, 3) := by decide +kernel
theorem dX3_hear_93 : decode cX3_hear 93 = .ok (.invokevirtual 97, 3) := by decide +kernel
theorem dX3_hear_96 : decode cX3_hear 96 = .ok (.aload_n 0, 1) := by decide +kernel
theorem dX3_hear_97 : decode cX3_hear 97 = .ok (.getfield 23, 3) := by decide +kernel
theorem dX3_hear_100 : decode cX3_hear 100 = .ok (.iload_n 1, 1) := by decide +kernel
theorem dX3_hear_101 : decode cX3_hear 101 = .ok (.iconst 1, 1) := by decide +kernel
theorem dX3_hear_102 : decode cX3_hear 102 = .ok (.invokevirtual 48, 3) := by decide +kernel
theorem dX3_hear_105 : decode cX3_hear 105 = .ok (.aload_n 0, 1) := by decide +kernel
theorem dX3_hear_106 : decode cX3_hear 106 = .ok (.dup, 1) := by decide +kernel
theorem dX3_hear_107 : decode cX3_hear 107 = .ok (.getfield 15, 3) := by decide +kernel
theorem dX3_hear_110 : decode cX3_hear 110 = .ok (.iconst 1, 1) := by decide +kernel
theorem dX3_hear_111 : decode cX3_hear 111 = .ok (.iadd, 1) := by decide +kernel
theorem dX3_hear_112 : decode cX3_hear 112 = .ok (.putfield 15, 3) := by decide +kernel
theorem dX3_hear_115 : decode cX3_hear 115 = .ok (.return_, 1) := by decide +kernel
set_option maxRecDepth 20000 in
theorem ggX3_forgetAll_X2_size : GoodIn wsX3_forgetAll wsX2_size := goodIn_r _ [11, 12, 34, 35, 36, 37, 38] (by decide +kernel) (by decide +kernel)
set_option maxRecDepth 20000 in
theorem gX3_forgetAll_X2_size : GoodIn wsX3_forgetAll (wsV RX3 69 RX2 yX2_size wsX2_size) := goodIn_app (goodIn_of _ (by decide +kernel)) ggX3_forgetAll_X2_size
set_option maxRecDepth 20000 in
theorem ggX3_forgetAll_X2_memory : GoodIn wsX3_forgetAll wsX2_memory := goodIn_r _ [16, 17, 18, 19, 20, 21, 22, 23, 34, 35, 36, 37, 38, 39] (by decide +kernel) (by decide +kernel)
set_option maxRecDepth 20000 in
theorem gX3_forgetAll_X2_memory : GoodIn wsX3_forgetAll (wsV RX3 101 RX2 yX2_memory wsX2_memory) := goodIn_app (goodIn_of _ (by decide +kernel)) ggX3_forgetAll_X2_memory
set_option maxRecDepth 20000 in
theorem ggX3_forgetAll_X1_at : GoodIn wsX3_forgetAll wsX1_at := goodIn_r _ [22, 23, 39] (by decide +kernel) (by decide +kernel)
set_option maxRecDepth 20000 in
theorem gX3_forgetAll_X1_at : GoodIn wsX3_forgetAll (wsV RX3 37 RX1 yX1_at wsX1_at) := goodIn_app (goodIn_of _ (by decide +kernel)) ggX3_forgetAll_X1_at
set_option maxRecDepth 20000 in
theorem ggX3_forgetAll_X1_put : GoodIn wsX3_forgetAll wsX1_put := goodIn_r _ [28, 23, 39] (by decide +kernel) (by decide +kernel)
set_option maxRecDepth 20000 in
theorem gX3_forgetAll_X1_put : GoodIn wsX3_forgetAll (wsV RX3 48 RX1 yX1_put wsX1_put) := goodIn_app (goodIn_of _ (by decide +kernel)) ggX3_forgetAll_X1_put
theorem dX3_forgetAll_0 : decode cX3_forgetAll 0 = .ok (.aload_n 1, 1) := by decide +kernel
theorem dX3_forgetAll_1 : decode cX3_forgetAll 1 = .ok (.invokevirtual 69, 3) := by decide +kernel
theorem dX3_forgetAll_4 : decode cX3_forgetAll 4 = .ok (.istore_n 2, 1) := by decide +kernel
theorem dX3_forgetAll_5 : decode cX3_forgetAll 5 = .ok (.iconst 0, 1) := by decide +kernel
theorem dX3_forgetAll_6 : decode cX3_forgetAll 6 = .ok (.istore_n 3, 1) := by decide +kernel
theorem dX3_forgetAll_7 : decode cX3_forgetAll 7 = .ok (.iload_n 3, 1) := by decide +kernel
theorem dX3_forgetAll_8 : decode cX3_forgetAll 8 = .ok (.iload_n 2, 1) := by decide +kernel
theorem dX3_forgetAll_9 : decode cX3_forgetAll 9 = .ok (.if_icmp .ge 55, 3) := by decide +kernel
theorem dX3_forgetAll_12 : decode cX3_forgetAll 12 = .ok (.aload_n 1, 1) := by decide +kernel
theorem dX3_forgetAll_13 : decode cX3_forgetAll 13 = .ok (.iload_n 3, 1) := by decide +kernel
theorem dX3_forgetAll_14 : decode cX3_forgetAll 14 = .ok (.invokevirtual 101, 3) := by decide +kernel
theorem dX3_forgetAll_17 : decode cX3_forgetAll 17 = .ok (.iconst 1, 1) := by decide +kernel
theorem dX3_forgetAll_18 : decode cX3_forgetAll 18 = .ok (.iadd, 1) := by decide +kernel
theorem dX3_forgetAll_19 : decode cX3_forgetAll 19 = .ok (.istore 4, 2) := by decide +kernel
theorem dX3_forgetAll_21 : decode cX3_forgetAll 21 = .ok (.iload 4, 2) := by decide +kernel
theorem dX3_forgetAll_23 : decode cX3_forgetAll 23 = .ok (.ifCond .le 35, 3) := by decide +kernel
theorem dX3_forgetAll_26 : decode cX3_forgetAll 26 = .ok (.aload_n 0, 1) := by decide +kernel
theorem dX3_forgetAll_27 : decode cX3_forgetAll 27 = .ok (.getfield 9, 3) := by decide +kernel
theorem dX3_forgetAll_30 : decode cX3_forgetAll 30 = .ok (.iload 4, 2) := by decide +kernel
theorem dX3_forgetAll_32 : decode cX3_forgetAll 32 = .ok (.irem, 1) := by decide +kernel
theorem dX3_forgetAll_33 : decode cX3_forgetAll 33 = .ok (.ifCond .ne 25, 3) := by decide +kernel
theorem dX3_forgetAll_36 : decode cX3_forgetAll 36 = .ok (.aload_n 0, 1) := by decide +kernel
theorem dX3_forgetAll_37 : decode cX3_forgetAll 37 = .ok (.getfield 23, 3) := by decide +kernel
theorem dX3_forgetAll_40 : decode cX3_forgetAll 40 = .ok (.iload_n 3, 1) := by decide +kernel
theorem dX3_forgetAll_41 : decode cX3_forgetAll 41 = .ok (.aload_n 0, 1) := by decide +kernel
theorem dX3_forgetAll_42 : decode cX3_forgetAll 42 = .ok (.getfield 23, 3) := by decide +kernel
theorem dX3_forgetAll_45 : decode cX3_forgetAll 45 = .ok (.iload_n 3, 1) := by decide +kernel
theorem dX3_forgetAll_46 : decode cX3_forgetAll 46 = .ok (.invokevirtual 37, 3) := by decide +kernel
theorem dX3_forgetAll_49 : decode cX3_forgetAll 49 = .ok (.iconst 1, 1) := by decide +kernel
theorem dX3_forgetAll_50 : decode cX3_forgetAll 50 = .ok (.isub, 1) := by decide +kernel
theorem dX3_forgetAll_51 : decode cX3_forgetAll 51 = .ok (.iconst 0, 1) := by decide +kernel
theorem dX3_forgetAll_52 : decode cX3_forgetAll 52 = .ok (.invokestatic 104, 3) := by decide +kernel
theorem dX3_forgetAll_55 : decode cX3_forgetAll 55 = .ok (.invokevirtual 48, 3) := by decide +kernel
theorem dX3_forgetAll_58 : decode cX3_forgetAll 58 = .ok (.iinc 3 1, 3) := by decide +kernel
theorem dX3_forgetAll_61 : decode cX3_forgetAll 61 = .ok (.goto (-54), 3) := by decide +kernel
theorem dX3_forgetAll_64 : decode cX3_forgetAll 64 = .ok (.return_, 1) := by decide +kernel
set_option maxRecDepth 20000 in
theorem ggX4_init_X2_init : GoodIn wsX4_init wsX2_init := goodIn_r _ [16, 17, 2, 3, 18, 19, 20, 21, 22, 23, 24, 25, 26, 27, 28, 29, 30, 31, 32, 33, 34, 35, 59, 60, 61, 62, 63, 73] (by decide +kernel) (by decide +kernel)
set_option maxRecDepth 20000 in
theorem gX4_init_X2_init : GoodIn wsX4_init (wsX2_init) := ggX4_init_X2_init
set_option maxRecDepth 20000 in
theorem ggX4_init_X3_init : GoodIn wsX4_init wsX3_init := goodIn_r _ [38, 39, 2, 3, 40, 41, 42, 20, 21, 43, 44, 45, 46, 47, 48, 49, 27, 28, 29, 30, 31, 32, 33, 34, 35, 50, 51, 52, 53, 54, 55, 56, 57, 58, 68, 69, 70, 71, 72, 73, 74, 75, 76] (by decide +kernel) (by decide +kernel)
set_option maxRecDepth 20000 in
theorem gX4_init_X3_init : GoodIn wsX4_init (wsX3_init) := ggX4_init_X3_init
theorem dX4_init_0 : decode cX4_init 0 = .ok (.aload_n 0, 1) := by decide +kernel
theorem dX4_init_1 : decode cX4_init 1 = .ok (.invokespecial 1, 3) := by decide +kernel
theorem dX4_init_4 : decode cX4_init 4 = .ok (.aload_n 0, 1) := by decide +kernel
theorem dX4_init_5 : decode cX4_init 5 = .ok (.new 7, 3) := by decide +kernel
theorem dX4_init_8 : decode cX4_init 8 = .ok (.dup, 1) := by decide +kernel
theorem dX4_init_9 : decode cX4_init 9 = .ok (.invokespecial 9, 3) := by decide +kernel
theorem dX4_init_12 : decode cX4_init 12 = .ok (.putfield 10, 3) := by decide +kernel
theorem dX4_init_15 : decode cX4_init 15 = .ok (.aload_n 0, 1) := by decide +kernel
theorem dX4_init_16 : decode cX4_init 16 = .ok (.new 16, 3) := by decide +kernel
theorem dX4_init_19 : decode cX4_init 19 = .ok (.dup, 1) := by decide +kernel
theorem dX4_init_20 : decode cX4_init 20 = .ok (.invokespecial 18, 3) := by decide +kernel
theorem dX4_init_23 : decode cX4_init 23 = .ok (.putfield 19, 3) := by decide +kernel
theorem dX4_init_26 : decode cX4_init 26 = .ok (.aload_n 0, 1) := by decide +kernel
theorem dX4_init_27 : decode cX4_init 27 = .ok (.new 16, 3) := by decide +kernel
theorem dX4_init_30 : decode cX4_init 30 = .ok (.dup, 1) := by decide +kernel
theorem dX4_init_31 : decode cX4_init 31 = .ok (.invokespecial 18, 3) := by decide +kernel
theorem dX4_init_34 : decode cX4_init 34 = .ok (.putfield 23, 3) := by decide +kernel
theorem dX4_init_37 : decode cX4_init 37 = .ok (.aload_n 0, 1) := by decide +kernel
theorem dX4_init_38 : decode cX4_init 38 = .ok (.new 16, 3) := by decide +kernel
theorem dX4_init_41 : decode cX4_init 41 = .ok (.dup, 1) := by decide +kernel
theorem dX4_init_42 : decode cX4_init 42 = .ok (.invokespecial 18, 3) := by decide +kernel
theorem dX4_init_45 : decode cX4_init 45 = .ok (.putfield 26, 3) := by decide +kernel
theorem dX4_init_48 : decode cX4_init 48 = .ok (.return_, 1) := by decide +kernel
set_option maxRecDepth 20000 in
theorem ggX4_come_X4_isOutside : GoodIn wsX4_come wsX4_isOutside := goodIn_r _ [10] (by decide +kernel) (by decide +kernel)
set_option maxRecDepth 20000 in
theorem gX4_come_X4_isOutside : GoodIn wsX4_come (va_wsS RX4 29 yX4_isOutside wsX4_isOutside) := goodIn_app (goodIn_of _ (by decide +kernel)) ggX4_come_X4_isOutside
set_option maxRecDepth 20000 in
theorem ggX4_come_X4_needLoud : GoodIn wsX4_come wsX4_needLoud := goodIn_ca (goodIn_r _ [13, 1, 2, 7, 8, 9, 10] (by decide +kernel) (by decide +kernel)) (goodIn_sub (fun _ h => List.mem_cons_of_mem _ (List.mem_append_left _ (List.mem_append_right _ h))) (by decide +kernel))
set_option maxRecDepth 20000 in
theorem gX4_come_X4_needLoud : GoodIn wsX4_come (va_wsS RX4 40 yX4_needLoud wsX4_needLoud) := goodIn_app (goodIn_of _ (by decide +kernel)) ggX4_come_X4_needLoud
set_option maxRecDepth 20000 in
theorem ggX4_come_X2_size : GoodIn wsX4_come wsX2_size := goodIn_r _ [18, 19, 54, 55, 56, 57, 58] (by decide +kernel) (by decide +kernel)
set_option maxRecDepth 20000 in
theorem gX4_come_X2_size : GoodIn wsX4_come (wsV RX4 44 RX2 yX2_size wsX2_size) := goodIn_app (goodIn_of _ (by decide +kernel)) ggX4_come_X2_size
set_option maxRecDepth 20000 in
theorem ggX4_come_X2_seat : GoodIn wsX4_come wsX2_seat := goodIn_r _ [23, 19, 24, 25, 26, 27, 28, 29, 30, 31, 54, 55, 56, 57, 58, 59] (by decide +kernel) (by decide +kernel)
set_option maxRecDepth 20000 in
theorem gX4_come_X2_seat : GoodIn wsX4_come (wsV RX4 53 RX2 yX2_seat wsX2_seat) := goodIn_app (goodIn_of _ (by decide +kernel)) ggX4_come_X2_seat
set_option maxRecDepth 20000 in
theorem ggX4_come_X3_takeFromCourt : GoodIn wsX4_come wsX3_takeFromCourt := goodIn_r _ [36, 37, 38, 39, 40, 41, 42, 43, 44, 45, 46, 47, 48, 27, 28, 29, 30, 31, 49, 60, 61, 62, 63, 64, 65, 66, 67, 59] (by decide +kernel) (by decide +kernel)
set_option maxRecDepth 20000 in
theorem gX4_come_X3_takeFromCourt : GoodIn wsX4_come (wsV RX4 57 RX3 yX3_takeFromCourt wsX3_takeFromCourt) := goodIn_app (goodIn_of _ (by decide +kernel)) ggX4_come_X3_takeFromCourt
theorem dX4_come_0 : decode cX4_come 0 = .ok (.iload_n 1, 1) := by decide +kernel
theorem dX4_come_1 : decode cX4_come 1 = .ok (.iconst 1, 1) := by decide +kernel
theorem dX4_come_2 : decode cX4_come 2 = .ok (.bipush 9, 2) := by decide +kernel
theorem dX4_come_4 : decode cX4_come 4 = .ok (.invokestatic 29, 3) := by decide +kernel
theorem dX4_come_7 : decode cX4_come 7 = .ok (.ifCond .eq 13, 3) := by decide +kernel
theorem dX4_come_10 : decode cX4_come 10 = .ok (.new 33, 3) := by decide +kernel
theorem dX4_come_13 : decode cX4_come 13 = .ok (.dup, 1) := by decide +kernel
theorem dX4_come_14 : decode cX4_come 14 = .ok (.ldc 35, 2) := by decide +kernel
theorem dX4_come_16 : decode cX4_come 16 = .ok (.invokespecial 37, 3) := by decide +kernel
theorem dX4_come_19 : decode cX4_come 19 = .ok (.athrow, 1) := by decide +kernel
theorem dX4_come_20 : decode cX4_come 20 = .ok (.iload_n 2, 1) := by decide +kernel
theorem dX4_come_21 : decode cX4_come 21 = .ok (.invokestatic 40, 3) := by decide +kernel
theorem dX4_come_24 : decode cX4_come 24 = .ok (.aload_n 0, 1) := by decide +kernel
theorem dX4_come_25 : decode cX4_come 25 = .ok (.getfield 10, 3) := by decide +kernel
theorem dX4_come_28 : decode cX4_come 28 = .ok (.invokevirtual 44, 3) := by decide +kernel
theorem dX4_come_31 : decode cX4_come 31 = .ok (.bipush 12, 2) := by decide +kernel
theorem dX4_come_33 : decode cX4_come 33 = .ok (.if_icmp .lt 13, 3) := by decide +kernel
theorem dX4_come_36 : decode cX4_come 36 = .ok (.new 48, 3) := by decide +kernel
theorem dX4_come_39 : decode cX4_come 39 = .ok (.dup, 1) := by decide +kernel
theorem dX4_come_40 : decode cX4_come 40 = .ok (.ldc 50, 2) := by decide +kernel
theorem dX4_come_42 : decode cX4_come 42 = .ok (.invokespecial 52, 3) := by decide +kernel
theorem dX4_come_45 : decode cX4_come 45 = .ok (.athrow, 1) := by decide +kernel
theorem dX4_come_46 : decode cX4_come 46 = .ok (.aload_n 0, 1) := by decide +kernel
theorem dX4_come_47 : decode cX4_come 47 = .ok (.getfield 10, 3) := by decide +kernel
theorem dX4_come_50 : decode cX4_come 50 = .ok (.iload_n 1, 1) := by decide +kernel
theorem dX4_come_51 : decode cX4_come 51 = .ok (.iload_n 2, 1) := by decide +kernel
theorem dX4_come_52 : decode cX4_come 52 = .ok (.invokevirtual 53, 3) := by decide +kernel
theorem dX4_come_55 : decode cX4_come 55 = .ok (.istore_n 3, 1) := by decide +kernel
theorem dX4_come_56 : decode cX4_come 56 = .ok (.aload_n 0, 1) := by decide +kernel
theorem dX4_come_57 : decode cX4_come 57 = .ok (.getfield 19, 3) := by decide +kernel
theorem dX4_come_60 : decode cX4_come 60 = .ok (.iload_n 3, 1) := by decide +kernel
theorem dX4_come_61 : decode cX4_come 61 = .ok (.iconst 0, 1) := by decide +kernel
theorem dX4_come_62 : decode cX4_come 62 = .ok (.iconst 0, 1) := by decide +kernel
theorem dX4_come_63 : decode cX4_come 63 = .ok (.invokevirtual 57, 3) := by decide +kernel
theorem dX4_come_66 : decode cX4_come 66 = .ok (.iload_n 3, 1) := by decide +kernel
theorem dX4_come_67 : decode cX4_come 67 = .ok (.ireturn, 1) := by decide +kernel
set_option maxRecDepth 20000 in
theorem ggX4_listen_X4_needParrot : GoodIn wsX4_listen wsX4_needParrot := goodIn_ca (goodIn_r _ [10, 11, 12, 5, 13, 14, 15, 16, 17, 18, 51, 52, 53, 54, 55, 56, 57, 58, 59] (by decide +kernel) (by decide +kernel)) (goodIn_sub (fun _ h => List.mem_cons_of_mem _ (List.mem_append_right _ h)) (by decide +kernel))
set_option maxRecDepth 20000 in
theorem gX4_listen_X4_needParrot : GoodIn wsX4_listen (wsV RX4 61 RX4 yX4_needParrot wsX4_needParrot) := goodIn_app (goodIn_of _ (by decide +kernel)) ggX4_listen_X4_needParrot
set_option maxRecDepth 20000 in
theorem ggX4_listen_X2_placeOf : GoodIn wsX4_listen wsX2_placeOf := goodIn_r _ [22, 23, 24, 25, 26, 27, 28, 29, 30, 31, 32, 16, 33, 34, 55, 56, 57, 58, 59, 60] (by decide +kernel) (by decide +kernel)
set_option maxRecDepth 20000 in
theorem gX4_listen_X2_placeOf : GoodIn wsX4_listen (wsV RX4 66 RX2 yX2_placeOf wsX2_placeOf) := goodIn_app (goodIn_of _ (by decide +kernel)) ggX4_listen_X2_placeOf
set_option maxRecDepth 20000 in
theorem ggX4_listen_X2_dropOther : GoodIn wsX4_listen wsX2_dropOther := goodIn_r _ [38, 23, 34, 24, 25, 26, 27, 28, 29, 30, 31, 32, 16, 33, 39, 40, 41, 42, 55, 56, 57, 58, 59, 60] (by decide +kernel) (by decide +kernel)
set_option maxRecDepth 20000 in
theorem gX4_listen_X2_dropOther : GoodIn wsX4_listen (wsV RX4 69 RX2 yX2_dropOther wsX2_dropOther) := goodIn_app (goodIn_of _ (by decide +kernel)) ggX4_listen_X2_dropOther
set_option maxRecDepth 20000 in
theorem ggX4_listen_X2_listening : GoodIn wsX4_listen wsX2_listening := goodIn_r _ [46, 23, 24, 25, 26, 27, 28, 29, 55, 56, 57, 58, 59, 60] (by decide +kernel) (by decide +kernel)
set_option maxRecDepth 20000 in
theorem gX4_listen_X2_listening : GoodIn wsX4_listen (wsV RX4 73 RX2 yX2_listening wsX2_listening) := goodIn_app (goodIn_of _ (by decide +kernel)) ggX4_listen_X2_listening
set_option maxRecDepth 20000 in
theorem ggX4_listen_X2_addOther : GoodIn wsX4_listen wsX2_addOther := goodIn_r _ [50, 23, 34, 24, 25, 26, 27, 28, 29, 39, 40, 41, 42, 55, 56, 57, 58, 59, 60] (by decide +kernel) (by decide +kernel)
set_option maxRecDepth 20000 in
theorem gX4_listen_X2_addOther : GoodIn wsX4_listen (wsV RX4 79 RX2 yX2_addOther wsX2_addOther) := goodIn_app (goodIn_of _ (by decide +kernel)) ggX4_listen_X2_addOther
theorem dX4_listen_0 : decode cX4_listen 0 = .ok (.aload_n 0, 1) := by decide +kernel
theorem dX4_listen_1 : decode cX4_listen 1 = .ok (.iload_n 1, 1) := by decide +kernel
theorem dX4_listen_2 : decode cX4_listen 2 = .ok (.invokevirtual 61, 3) := by decide +kernel
theorem dX4_listen_5 : decode cX4_listen 5 = .ok (.aload_n 0, 1) := by decide +kernel
theorem dX4_listen_6 : decode cX4_listen 6 = .ok (.iload_n 2, 1) := by decide +kernel
theorem dX4_listen_7 : decode cX4_listen 7 = .ok (.invokevirtual 61, 3) := by decide +kernel
theorem dX4_listen_10 : decode cX4_listen 10 = .ok (.iload_n 1, 1) := by decide +kernel
theorem dX4_listen_11 : decode cX4_listen 11 = .ok (.iload_n 2, 1) := by decide +kernel
theorem dX4_listen_12 : decode cX4_listen 12 = .ok (.if_icmp .ne 13, 3) := by decide +kernel
theorem dX4_listen_15 : decode cX4_listen 15 = .ok (.new 33, 3) := by decide +kernel
theorem dX4_listen_18 : decode cX4_listen 18 = .ok (.dup, 1) := by decide +kernel
theorem dX4_listen_19 : decode cX4_listen 19 = .ok (.ldc 64, 2) := by decide +kernel
theorem dX4_listen_21 : decode cX4_listen 21 = .ok (.invokespecial 37, 3) := by decide +kernel
theorem dX4_listen_24 : decode cX4_listen 24 = .ok (.athrow, 1) := by decide +kernel
theorem dX4_listen_25 : decode cX4_listen 25 = .ok (.aload_n 0, 1) := by decide +kernel
theorem dX4_listen_26 : decode cX4_listen 26 = .ok (.getfield 10, 3) := by decide +kernel
theorem dX4_listen_29 : decode cX4_listen 29 = .ok (.iload_n 1, 1) := by decide +kernel
theorem dX4_listen_30 : decode cX4_listen 30 = .ok (.iload_n 2, 1) := by decide +kernel
theorem dX4_listen_31 : decode cX4_listen 31 = .ok (.invokevirtual 66, 3) := by decide +kernel
theorem dX4_listen_34 : decode cX4_listen 34 = .ok (.istore_n 3, 1) := by decide +kernel
theorem dX4_listen_35 : decode cX4_listen 35 = .ok (.iload_n 3, 1) := by decide +kernel
theorem dX4_listen_36 : decode cX4_listen 36 = .ok (.iconst (-1), 1) := by decide +kernel
theorem dX4_listen_37 : decode cX4_listen 37 = .ok (.if_icmp .eq 15, 3) := by decide +kernel
theorem dX4_listen_40 : decode cX4_listen 40 = .ok (.aload_n 0, 1) := by decide +kernel
theorem dX4_listen_41 : decode cX4_listen 41 = .ok (.getfield 10, 3) := by decide +kernel
theorem dX4_listen_44 : decode cX4_listen 44 = .ok (.iload_n 1, 1) := by decide +kernel
theorem dX4_listen_45 : decode cX4_listen 45 = .ok (.iload_n 3, 1) := by decide +kernel
theorem dX4_listen_46 : decode cX4_listen 46 = .ok (.invokevirtual 69, 3) := by decide +kernel
theorem dX4_listen_49 : decode cX4_listen 49 = .ok (.goto 34, 3) := by decide +kernel
theorem dX4_listen_52 : decode cX4_listen 52 = .ok (.aload_n 0, 1) := by decide +kernel
theorem dX4_listen_53 : decode cX4_listen 53 = .ok (.getfield 10, 3) := by decide +kernel
theorem dX4_listen_56 : decode cX4_listen 56 = .ok (.iload_n 1, 1) := by decide +kernel
theorem dX4_listen_57 : decode cX4_listen 57 = .ok (.invokevirtual 73, 3) := by decide +kernel
theorem dX4_listen_60 : decode cX4_listen 60 = .ok (.iconst 4, 1) := by decide +kernel
theorem dX4_listen_61 : decode cX4_listen 61 = .ok (.if_icmp .lt 13, 3) := by decide +kernel
theorem dX4_listen_64 : decode cX4_listen 64 = .ok (.new 48, 3) := by decide +kernel
theorem dX4_listen_67 : decode cX4_listen 67 = .ok (.dup, 1) := by decide +kernel
theorem dX4_listen_68 : decode cX4_listen 68 = .ok (.ldc 77, 2) := by decide +kernel
theorem dX4_listen_70 : decode cX4_listen 70 = .ok (.invokespecial 52, 3) := by decide +kernel
theorem dX4_listen_73 : decode cX4_listen 73 = .ok (.athrow, 1) := by decide +kernel
theorem dX4_listen_74 : decode cX4_listen 74 = .ok (.aload_n 0, 1) := by decide +kernel
theorem dX4_listen_75 : decode cX4_listen 75 = .ok (.getfield 10, 3) := by decide +kernel
theorem dX4_listen_78 : decode cX4_listen 78 = .ok (.iload_n 1, 1) := by decide +kernel
theorem dX4_listen_79 : decode cX4_listen 79 = .ok (.iload_n 2, 1) := by decide +kernel
theorem dX4_listen_80 : decode cX4_listen 80 = .ok (.invokevirtual 79, 3) := by decide +kernel
theorem dX4_listen_83 : decode cX4_listen 83 = .ok (.aload_n 0, 1) := by decide +kernel
theorem dX4_listen_84 : decode cX4_listen 84 = .ok (.getfield 10, 3) := by decide +kernel
theorem dX4_listen_87 : decode cX4_listen 87 = .ok (.iload_n 1, 1) := by decide +kernel
theorem dX4_listen_88 : decode cX4_listen 88 = .ok (.invokevirtual 73, 3) := by decide +kernel
theorem dX4_listen_91 : decode cX4_listen 91 = .ok (.ireturn, 1) := by decide +kernel
set_option maxRecDepth 20000 in
theorem ggX4_raise_X4_needParrot : GoodIn wsX4_raise wsX4_needParrot := goodIn_ca (goodIn_r _ [6, 7, 8, 1, 9, 10, 11, 12, 13, 14, 42, 43, 44, 45, 46, 47, 48, 49, 50] (by decide +kernel) (by decide +kernel)) (goodIn_sub (fun _ h => List.mem_cons_of_mem _ (List.mem_append_left _ (List.mem_append_right _ h))) (by decide +kernel))
set_option maxRecDepth 20000 in
theorem gX4_raise_X4_needParrot : GoodIn wsX4_raise (wsV RX4 61 RX4 yX4_needParrot wsX4_needParrot) := goodIn_app (goodIn_of _ (by decide +kernel)) ggX4_raise_X4_needParrot
set_option maxRecDepth 20000 in
theorem ggX4_raise_X4_needLoud : GoodIn wsX4_raise wsX4_needLoud := goodIn_ca (goodIn_r _ [17, 18, 19, 20, 21, 5, 22] (by decide +kernel) (by decide +kernel)) (goodIn_sub (fun _ h => List.mem_cons_of_mem _ (List.mem_append_right _ h)) (by decide +kernel))
set_option maxRecDepth 20000 in
theorem gX4_raise_X4_needLoud : GoodIn wsX4_raise (va_wsS RX4 40 yX4_needLoud wsX4_needLoud) := goodIn_app (goodIn_of _ (by decide +kernel)) ggX4_raise_X4_needLoud
set_option maxRecDepth 20000 in
theorem ggX4_raise_X2_loud : GoodIn wsX4_raise wsX2_loud := goodIn_r _ [26, 27, 28, 29, 30, 31, 32, 33, 46, 47, 48, 49, 50, 51] (by decide +kernel) (by decide +kernel)
set_option maxRecDepth 20000 in
theorem gX4_raise_X2_loud : GoodIn wsX4_raise (wsV RX4 82 RX2 yX2_loud wsX2_loud) := goodIn_app (goodIn_of _ (by decide +kernel)) ggX4_raise_X2_loud
set_option maxRecDepth 20000 in
theorem ggX4_raise_X2_setLoud : GoodIn wsX4_raise wsX2_setLoud := goodIn_r _ [37, 27, 38, 39, 40, 31, 41, 33, 46, 47, 48, 49, 50, 51] (by decide +kernel) (by decide +kernel)
set_option maxRecDepth 20000 in
theorem gX4_raise_X2_setLoud : GoodIn wsX4_raise (wsV RX4 85 RX2 yX2_setLoud wsX2_setLoud) := goodIn_app (goodIn_of _ (by decide +kernel)) ggX4_raise_X2_setLoud
theorem dX4_raise_0 : decode cX4_raise 0 = .ok (.aload_n 0, 1) := by decide +kernel
theorem dX4_raise_1 : decode cX4_raise 1 = .ok (.iload_n 1, 1) := by decide +kernel
theorem dX4_raise_2 : decode cX4_raise 2 = .ok (.invokevirtual 61, 3) := by decide +kernel
theorem dX4_raise_5 : decode cX4_raise 5 = .ok (.iload_n 2, 1) := by decide +kernel
theorem dX4_raise_6 : decode cX4_raise 6 = .ok (.invokestatic 40, 3) := by decide +kernel
theorem dX4_raise_9 : decode cX4_raise 9 = .ok (.aload_n 0, 1) := by decide +kernel
theorem dX4_raise_10 : decode cX4_raise 10 = .ok (.getfield 10, 3) := by decide +kernel
theorem dX4_raise_13 : decode cX4_raise 13 = .ok (.iload_n 1, 1) := by decide +kernel
theorem dX4_raise_14 : decode cX4_raise 14 = .ok (.invokevirtual 82, 3) := by decide +kernel
theorem dX4_raise_17 : decode cX4_raise 17 = .ok (.istore_n 3, 1) := by decide +kernel
theorem dX4_raise_18 : decode cX4_raise 18 = .ok (.aload_n 0, 1) := by decide +kernel
theorem dX4_raise_19 : decode cX4_raise 19 = .ok (.getfield 10, 3) := by decide +kernel
theorem dX4_raise_22 : decode cX4_raise 22 = .ok (.iload_n 1, 1) := by decide +kernel
theorem dX4_raise_23 : decode cX4_raise 23 = .ok (.iload_n 2, 1) := by decide +kernel
theorem dX4_raise_24 : decode cX4_raise 24 = .ok (.invokevirtual 85, 3) := by decide +kernel
theorem dX4_raise_27 : decode cX4_raise 27 = .ok (.iload_n 3, 1) := by decide +kernel
theorem dX4_raise_28 : decode cX4_raise 28 = .ok (.ireturn, 1) := by decide +kernel
set_option maxRecDepth 20000 in
theorem ggX4_whisper_X4_needParrot : GoodIn wsX4_whisper wsX4_needParrot := goodIn_ca (goodIn_r _ [8, 9, 10, 11, 12, 13, 14, 15, 16, 17, 59, 60, 61, 62, 63, 64, 65, 66, 67] (by decide +kernel) (by decide +kernel)) (goodIn_sub (fun _ h => List.mem_cons_of_mem _ (List.mem_append_right _ h)) (by decide +kernel))
set_option maxRecDepth 20000 in
theorem gX4_whisper_X4_needParrot : GoodIn wsX4_whisper (wsV RX4 61 RX4 yX4_needParrot wsX4_needParrot) := goodIn_app (goodIn_of _ (by decide +kernel)) ggX4_whisper_X4_needParrot
set_option maxRecDepth 20000 in
theorem ggX4_whisper_X4_needWord : GoodIn wsX4_whisper wsX4_needWord := goodIn_ca (goodIn_r _ [20, 1, 2, 21, 22, 7, 23] (by decide +kernel) (by decide +kernel)) (goodIn_sub (fun _ h => List.mem_cons_of_mem _ (List.mem_append_left _ (List.mem_append_right _ h))) (by decide +kernel))
set_option maxRecDepth 20000 in
theorem gX4_whisper_X4_needWord : GoodIn wsX4_whisper (va_wsS RX4 88 yX4_needWord wsX4_needWord) := goodIn_app (goodIn_of _ (by decide +kernel)) ggX4_whisper_X4_needWord
set_option maxRecDepth 20000 in
theorem ggX4_whisper_X4_isOutside : GoodIn wsX4_whisper wsX4_isOutside := goodIn_r _ [23] (by decide +kernel) (by decide +kernel)
set_option maxRecDepth 20000 in
theorem gX4_whisper_X4_isOutside : GoodIn wsX4_whisper (va_wsS RX4 29 yX4_isOutside wsX4_isOutside) := goodIn_app (goodIn_of _ (by decide +kernel)) ggX4_whisper_X4_isOutside
set_option maxRecDepth 20000 in
theorem ggX4_whisper_X3_word : GoodIn wsX4_whisper wsX3_word := goodIn_r _ [28, 29, 30, 31, 32, 33, 34, 35, 36, 37, 38, 39, 40, 41, 42, 68, 69, 70, 71, 72, 73, 74, 75, 76] (by decide +kernel) (by decide +kernel)
set_option maxRecDepth 20000 in
theorem gX4_whisper_X3_word : GoodIn wsX4_whisper (wsV RX4 93 RX3 yX3_word wsX3_word) := goodIn_app (goodIn_of _ (by decide +kernel)) ggX4_whisper_X3_word
set_option maxRecDepth 20000 in
theorem ggX4_whisper_X3_takeFromCourt : GoodIn wsX4_whisper wsX3_takeFromCourt := goodIn_r _ [46, 29, 30, 47, 48, 49, 50, 34, 51, 36, 52, 53, 54, 55, 56, 40, 57, 42, 58, 68, 69, 70, 71, 72, 73, 74, 75, 76] (by decide +kernel) (by decide +kernel)
set_option maxRecDepth 20000 in
theorem gX4_whisper_X3_takeFromCourt : GoodIn wsX4_whisper (wsV RX4 57 RX3 yX3_takeFromCourt wsX3_takeFromCourt) := goodIn_app (goodIn_of _ (by decide +kernel)) ggX4_whisper_X3_takeFromCourt
theorem dX4_whisper_0 : decode cX4_whisper 0 = .ok (.aload_n 0, 1) := by decide +kernel
theorem dX4_whisper_1 : decode cX4_whisper 1 = .ok (.iload_n 1, 1) := by decide +kernel
theorem dX4_whisper_2 : decode cX4_whisper 2 = .ok (.invokevirtual 61, 3) := by decide +kernel
theorem dX4_whisper_5 : decode cX4_whisper 5 = .ok (.iload_n 2, 1) := by decide +kernel
theorem dX4_whisper_6 : decode cX4_whisper 6 = .ok (.invokestatic 88, 3) := by decide +kernel
theorem dX4_whisper_9 : decode cX4_whisper 9 = .ok (.iload_n 3, 1) := by decide +kernel
theorem dX4_whisper_10 : decode cX4_whisper 10 = .ok (.iconst 0, 1) := by decide +kernel
theorem dX4_whisper_11 : decode cX4_whisper 11 = .ok (.bipush 9, 2) := by decide +kernel
theorem dX4_whisper_13 : decode cX4_whisper 13 = .ok (.invokestatic 29, 3) := by decide +kernel
theorem dX4_whisper_16 : decode cX4_whisper 16 = .ok (.ifCond .eq 13, 3) := by decide +kernel
theorem dX4_whisper_19 : decode cX4_whisper 19 = .ok (.new 33, 3) := by decide +kernel
theorem dX4_whisper_22 : decode cX4_whisper 22 = .ok (.dup, 1) := by decide +kernel
theorem dX4_whisper_23 : decode cX4_whisper 23 = .ok (.ldc 91, 2) := by decide +kernel
theorem dX4_whisper_25 : decode cX4_whisper 25 = .ok (.invokespecial 37, 3) := by decide +kernel
theorem dX4_whisper_28 : decode cX4_whisper 28 = .ok (.athrow, 1) := by decide +kernel
theorem dX4_whisper_29 : decode cX4_whisper 29 = .ok (.aload_n 0, 1) := by decide +kernel
theorem dX4_whisper_30 : decode cX4_whisper 30 = .ok (.getfield 19, 3) := by decide +kernel
theorem dX4_whisper_33 : decode cX4_whisper 33 = .ok (.iload_n 1, 1) := by decide +kernel
theorem dX4_whisper_34 : decode cX4_whisper 34 = .ok (.invokevirtual 93, 3) := by decide +kernel
theorem dX4_whisper_37 : decode cX4_whisper 37 = .ok (.istore 4, 2) := by decide +kernel
theorem dX4_whisper_39 : decode cX4_whisper 39 = .ok (.aload_n 0, 1) := by decide +kernel
theorem dX4_whisper_40 : decode cX4_whisper 40 = .ok (.getfield 19, 3) := by decide +kernel
theorem dX4_whisper_43 : decode cX4_whisper 43 = .ok (.iload_n 1, 1) := by decide +kernel
theorem dX4_whisper_44 : decode cX4_whisper 44 = .ok (.iload_n 2, 1) := by decide +kernel
theorem dX4_whisper_45 : decode cX4_whisper 45 = .ok (.iload_n 3, 1) := by decide +kernel
theorem dX4_whisper_46 : decode cX4_whisper 46 = .ok (.invokevirtual 57, 3) := by decide +kernel
theorem dX4_whisper_49 : decode cX4_whisper 49 = .ok (.iload 4, 2) := by decide +kernel
theorem dX4_whisper_51 : decode cX4_whisper 51 = .ok (.ireturn, 1) := by decide +kernel
set_option maxRecDepth 20000 in
theorem ggX4_parrot_X4_needParrot : GoodIn wsX4_parrot wsX4_needParrot := goodIn_ca (goodIn_r _ [5, 6, 7, 8, 9, 10, 11, 12, 13, 14, 84, 85, 86, 87, 88, 89, 90, 91, 92] (by decide +kernel) (by decide +kernel)) (goodIn_sub (fun _ h => List.mem_cons_of_mem _ (List.mem_append_right _ h)) (by decide +kernel))
set_option maxRecDepth 20000 in
theorem gX4_parrot_X4_needParrot : GoodIn wsX4_parrot (wsV RX4 61 RX4 yX4_needParrot wsX4_needParrot) := goodIn_app (goodIn_of _ (by decide +kernel)) ggX4_parrot_X4_needParrot
set_option maxRecDepth 20000 in
theorem ggX4_parrot_X4_needWhat : GoodIn wsX4_parrot wsX4_needWhat := goodIn_ca (goodIn_r _ [17, 6, 7, 18, 19, 4, 20] (by decide +kernel) (by decide +kernel)) (goodIn_sub (fun _ h => List.mem_cons_of_mem _ (List.mem_append_right _ h)) (by decide +kernel))
set_option maxRecDepth 20000 in
theorem gX4_parrot_X4_needWhat : GoodIn wsX4_parrot (va_wsS RX4 96 yX4_needWhat wsX4_needWhat) := goodIn_app (goodIn_of _ (by decide +kernel)) ggX4_parrot_X4_needWhat
set_option maxRecDepth 20000 in
theorem ggX4_parrot_X4_tellOfParrot : GoodIn wsX4_parrot wsX4_tellOfParrot := goodIn_r _ [24, 25, 8, 26, 27, 28, 29, 30, 31, 32, 33, 34, 35, 36, 37, 38, 39, 40, 41, 42, 43, 44, 45, 46, 47, 48, 49, 50, 51, 52, 53, 12, 54, 55, 56, 57, 58, 59, 60, 61, 62, 63, 64, 65, 66, 67, 68, 69, 70, 14, 71, 72, 73, 74, 75, 76, 77, 78, 79, 80, 81, 82, 83, 84, 85, 86, 87, 93, 94, 95, 96, 97, 98, 99, 100, 101, 88, 89, 90, 91, 92] (by decide +kernel) (by decide +kernel)
