theorem dX0_init_0 : decode cX0_init 0 = .ok (.aload_n 0, 1) := by decide +kernel
theorem dX0_init_1 : decode cX0_init 1 = .ok (.invokespecial 3, 3) := by decide +kernel
theorem dX0_init_4 : decode cX0_init 4 = .ok (.aload_n 0, 1) := by decide +kernel
theorem dX0_init_5 : decode cX0_init 5 = .ok (.bipush 48, 2) := by decide +kernel
theorem dX0_init_7 : decode cX0_init 7 = .ok (.newarray .int, 2) := by decide +kernel
theorem dX0_init_9 : decode cX0_init 9 = .ok (.putfield 9, 3) := by decide +kernel
theorem dX0_init_12 : decode cX0_init 12 = .ok (.aload_n 0, 1) := by decide +kernel
theorem dX0_init_13 : decode cX0_init 13 = .ok (.bipush 48, 2) := by decide +kernel
theorem dX0_init_15 : decode cX0_init 15 = .ok (.newarray .int, 2) := by decide +kernel
theorem dX0_init_17 : decode cX0_init 17 = .ok (.putfield 15, 3) := by decide +kernel
theorem dX0_init_20 : decode cX0_init 20 = .ok (.return_, 1) := by decide +kernel
set_option maxRecDepth 20000 in
theorem ggX0_join_X0_collect : GoodIn wsX0_join wsX0_collect := goodIn_r _ [9, 1, 2, 10, 11, 12, 13, 14, 15, 16, 17, 18, 19, 20, 21, 22, 23, 24, 25, 26, 27, 28, 29, 30, 31, 32, 33, 34, 35, 36, 37, 38, 39, 40, 41, 42, 43, 44, 66, 67, 68, 69, 70, 71, 72, 73, 74, 75, 76, 77] (by decide +kernel) (by decide +kernel)
set_option maxRecDepth 20000 in
theorem gX0_join_X0_collect : GoodIn wsX0_join (wsV RX0 18 RX0 yX0_collect wsX0_collect) := goodIn_app (goodIn_of _ (by decide +kernel)) ggX0_join_X0_collect
set_option maxRecDepth 20000 in
theorem ggX0_join_X0_waysOf : GoodIn wsX0_join wsX0_waysOf := goodIn_r _ [48, 1, 11, 49, 32, 50, 42, 43, 44, 51, 52, 53, 8, 54, 12, 31, 33, 55, 56, 57, 16, 58, 59, 60, 61, 62, 29, 63, 64, 65, 66, 67, 68, 69, 70, 71, 72, 73, 74, 75, 76, 77] (by decide +kernel) (by decide +kernel)
set_option maxRecDepth 20000 in
theorem gX0_join_X0_waysOf : GoodIn wsX0_join (wsV RX0 32 RX0 yX0_waysOf wsX0_waysOf) := goodIn_app (goodIn_of _ (by decide +kernel)) ggX0_join_X0_waysOf
theorem dX0_join_0 : decode cX0_join 0 = .ok (.aload_n 0, 1) := by decide +kernel
theorem dX0_join_1 : decode cX0_join 1 = .ok (.aload_n 1, 1) := by decide +kernel
theorem dX0_join_2 : decode cX0_join 2 = .ok (.iload_n 2, 1) := by decide +kernel
theorem dX0_join_3 : decode cX0_join 3 = .ok (.invokevirtual 18, 3) := by decide +kernel
theorem dX0_join_6 : decode cX0_join 6 = .ok (.aload_n 0, 1) := by decide +kernel
theorem dX0_join_7 : decode cX0_join 7 = .ok (.getfield 22, 3) := by decide +kernel
theorem dX0_join_10 : decode cX0_join 10 = .ok (.aload_n 0, 1) := by decide +kernel
theorem dX0_join_11 : decode cX0_join 11 = .ok (.getfield 26, 3) := by decide +kernel
theorem dX0_join_14 : decode cX0_join 14 = .ok (.if_icmp .eq 5, 3) := by decide +kernel
theorem dX0_join_17 : decode cX0_join 17 = .ok (.iconst 0, 1) := by decide +kernel
theorem dX0_join_18 : decode cX0_join 18 = .ok (.ireturn, 1) := by decide +kernel
theorem dX0_join_19 : decode cX0_join 19 = .ok (.aload_n 0, 1) := by decide +kernel
theorem dX0_join_20 : decode cX0_join 20 = .ok (.iconst 0, 1) := by decide +kernel
theorem dX0_join_21 : decode cX0_join 21 = .ok (.putfield 29, 3) := by decide +kernel
theorem dX0_join_24 : decode cX0_join 24 = .ok (.aload_n 0, 1) := by decide +kernel
theorem dX0_join_25 : decode cX0_join 25 = .ok (.aload_n 0, 1) := by decide +kernel
theorem dX0_join_26 : decode cX0_join 26 = .ok (.aload_n 1, 1) := by decide +kernel
theorem dX0_join_27 : decode cX0_join 27 = .ok (.iconst 0, 1) := by decide +kernel
theorem dX0_join_28 : decode cX0_join 28 = .ok (.invokevirtual 32, 3) := by decide +kernel
theorem dX0_join_31 : decode cX0_join 31 = .ok (.putfield 36, 3) := by decide +kernel
theorem dX0_join_34 : decode cX0_join 34 = .ok (.iconst 1, 1) := by decide +kernel
theorem dX0_join_35 : decode cX0_join 35 = .ok (.istore_n 3, 1) := by decide +kernel
theorem dX0_join_36 : decode cX0_join 36 = .ok (.iload_n 3, 1) := by decide +kernel
theorem dX0_join_37 : decode cX0_join 37 = .ok (.aload_n 0, 1) := by decide +kernel
theorem dX0_join_38 : decode cX0_join 38 = .ok (.getfield 22, 3) := by decide +kernel
theorem dX0_join_41 : decode cX0_join 41 = .ok (.if_icmp .ge 37, 3) := by decide +kernel
theorem dX0_join_44 : decode cX0_join 44 = .ok (.aload_n 0, 1) := by decide +kernel
theorem dX0_join_45 : decode cX0_join 45 = .ok (.aload_n 1, 1) := by decide +kernel
theorem dX0_join_46 : decode cX0_join 46 = .ok (.iload_n 3, 1) := by decide +kernel
theorem dX0_join_47 : decode cX0_join 47 = .ok (.invokevirtual 32, 3) := by decide +kernel
theorem dX0_join_50 : decode cX0_join 50 = .ok (.istore 4, 2) := by decide +kernel
theorem dX0_join_52 : decode cX0_join 52 = .ok (.iload 4, 2) := by decide +kernel
theorem dX0_join_54 : decode cX0_join 54 = .ok (.aload_n 0, 1) := by decide +kernel
theorem dX0_join_55 : decode cX0_join 55 = .ok (.getfield 36, 3) := by decide +kernel
theorem dX0_join_58 : decode cX0_join 58 = .ok (.if_icmp .ge 14, 3) := by decide +kernel
theorem dX0_join_61 : decode cX0_join 61 = .ok (.aload_n 0, 1) := by decide +kernel
theorem dX0_join_62 : decode cX0_join 62 = .ok (.iload_n 3, 1) := by decide +kernel
theorem dX0_join_63 : decode cX0_join 63 = .ok (.putfield 29, 3) := by decide +kernel
theorem dX0_join_66 : decode cX0_join 66 = .ok (.aload_n 0, 1) := by decide +kernel
theorem dX0_join_67 : decode cX0_join 67 = .ok (.iload 4, 2) := by decide +kernel
theorem dX0_join_69 : decode cX0_join 69 = .ok (.putfield 36, 3) := by decide +kernel
theorem dX0_join_72 : decode cX0_join 72 = .ok (.iinc 3 1, 3) := by decide +kernel
theorem dX0_join_75 : decode cX0_join 75 = .ok (.goto (-39), 3) := by decide +kernel
theorem dX0_join_78 : decode cX0_join 78 = .ok (.iconst 1, 1) := by decide +kernel
theorem dX0_join_79 : decode cX0_join 79 = .ok (.ireturn, 1) := by decide +kernel
set_option maxRecDepth 20000 in
theorem ggX0_collect_X1_phaseOf : GoodIn wsX0_collect wsX1_phaseOf := goodIn_r _ [10, 11, 12, 13, 14, 9, 15, 16, 17, 18, 19, 20, 21, 22, 23, 24, 25, 26, 27, 28, 44, 45, 46, 47, 48, 49] (by decide +kernel) (by decide +kernel)
set_option maxRecDepth 20000 in
theorem gX0_collect_X1_phaseOf : GoodIn wsX0_collect (wsV RX0 44 RX1 yX1_phaseOf wsX1_phaseOf) := goodIn_app (goodIn_of _ (by decide +kernel)) ggX0_collect_X1_phaseOf
set_option maxRecDepth 20000 in
theorem ggX0_collect_X1_isForward : GoodIn wsX0_collect wsX1_isForward := goodIn_r _ [32, 12, 13, 14, 9, 15, 11, 16, 17, 18, 19, 20, 21, 22, 23, 24, 25, 26, 27, 28, 44, 45, 46, 47, 48, 49] (by decide +kernel) (by decide +kernel)
set_option maxRecDepth 20000 in
theorem gX0_collect_X1_isForward : GoodIn wsX0_collect (wsV RX0 48 RX1 yX1_isForward wsX1_isForward) := goodIn_app (goodIn_of _ (by decide +kernel)) ggX0_collect_X1_isForward
set_option maxRecDepth 20000 in
theorem ggX0_collect_X3_put : GoodIn wsX0_collect wsX3_put := goodIn_r _ [34, 35, 36, 25, 37] (by decide +kernel) (by decide +kernel)
set_option maxRecDepth 20000 in
theorem gX0_collect_X3_put_n52 : GoodIn wsX0_collect (wsX3_put) := ggX0_collect_X3_put
theorem dX0_collect_0 : decode cX0_collect 0 = .ok (.aload_n 0, 1) := by decide +kernel
theorem dX0_collect_1 : decode cX0_collect 1 = .ok (.iconst 0, 1) := by decide +kernel
theorem dX0_collect_2 : decode cX0_collect 2 = .ok (.putfield 22, 3) := by decide +kernel
theorem dX0_collect_5 : decode cX0_collect 5 = .ok (.aload_n 0, 1) := by decide +kernel
theorem dX0_collect_6 : decode cX0_collect 6 = .ok (.iconst 0, 1) := by decide +kernel
theorem dX0_collect_7 : decode cX0_collect 7 = .ok (.putfield 26, 3) := by decide +kernel
theorem dX0_collect_10 : decode cX0_collect 10 = .ok (.iconst 0, 1) := by decide +kernel
theorem dX0_collect_11 : decode cX0_collect 11 = .ok (.istore_n 3, 1) := by decide +kernel
theorem dX0_collect_12 : decode cX0_collect 12 = .ok (.iload_n 3, 1) := by decide +kernel
theorem dX0_collect_13 : decode cX0_collect 13 = .ok (.aload_n 1, 1) := by decide +kernel
theorem dX0_collect_14 : decode cX0_collect 14 = .ok (.getfield 39, 3) := by decide +kernel
theorem dX0_collect_17 : decode cX0_collect 17 = .ok (.if_icmp .ge 73, 3) := by decide +kernel
theorem dX0_collect_20 : decode cX0_collect 20 = .ok (.aload_n 1, 1) := by decide +kernel
theorem dX0_collect_21 : decode cX0_collect 21 = .ok (.iload_n 3, 1) := by decide +kernel
theorem dX0_collect_22 : decode cX0_collect 22 = .ok (.invokevirtual 44, 3) := by decide +kernel
theorem dX0_collect_25 : decode cX0_collect 25 = .ok (.iload_n 2, 1) := by decide +kernel
theorem dX0_collect_26 : decode cX0_collect 26 = .ok (.if_icmp .ne 58, 3) := by decide +kernel
theorem dX0_collect_29 : decode cX0_collect 29 = .ok (.aload_n 1, 1) := by decide +kernel
theorem dX0_collect_30 : decode cX0_collect 30 = .ok (.iload_n 3, 1) := by decide +kernel
theorem dX0_collect_31 : decode cX0_collect 31 = .ok (.invokevirtual 48, 3) := by decide +kernel
theorem dX0_collect_34 : decode cX0_collect 34 = .ok (.ifCond .eq 28, 3) := by decide +kernel
theorem dX0_collect_37 : decode cX0_collect 37 = .ok (.aload_n 0, 1) := by decide +kernel
theorem dX0_collect_38 : decode cX0_collect 38 = .ok (.getfield 9, 3) := by decide +kernel
theorem dX0_collect_41 : decode cX0_collect 41 = .ok (.aload_n 0, 1) := by decide +kernel
theorem dX0_collect_42 : decode cX0_collect 42 = .ok (.getfield 22, 3) := by decide +kernel
theorem dX0_collect_45 : decode cX0_collect 45 = .ok (.iload_n 3, 1) := by decide +kernel
theorem dX0_collect_46 : decode cX0_collect 46 = .ok (.invokestatic 52, 3) := by decide +kernel
theorem dX0_collect_49 : decode cX0_collect 49 = .ok (.aload_n 0, 1) := by decide +kernel
theorem dX0_collect_50 : decode cX0_collect 50 = .ok (.dup, 1) := by decide +kernel
theorem dX0_collect_51 : decode cX0_collect 51 = .ok (.getfield 22, 3) := by decide +kernel
theorem dX0_collect_54 : decode cX0_collect 54 = .ok (.iconst 1, 1) := by decide +kernel
theorem dX0_collect_55 : decode cX0_collect 55 = .ok (.iadd, 1) := by decide +kernel
theorem dX0_collect_56 : decode cX0_collect 56 = .ok (.putfield 22, 3) := by decide +kernel
theorem dX0_collect_59 : decode cX0_collect 59 = .ok (.goto 25, 3) := by decide +kernel
theorem dX0_collect_62 : decode cX0_collect 62 = .ok (.aload_n 0, 1) := by decide +kernel
theorem dX0_collect_63 : decode cX0_collect 63 = .ok (.getfield 15, 3) := by decide +kernel
theorem dX0_collect_66 : decode cX0_collect 66 = .ok (.aload_n 0, 1) := by decide +kernel
theorem dX0_collect_67 : decode cX0_collect 67 = .ok (.getfield 26, 3) := by decide +kernel
theorem dX0_collect_70 : decode cX0_collect 70 = .ok (.iload_n 3, 1) := by decide +kernel
theorem dX0_collect_71 : decode cX0_collect 71 = .ok (.invokestatic 52, 3) := by decide +kernel
theorem dX0_collect_74 : decode cX0_collect 74 = .ok (.aload_n 0, 1) := by decide +kernel
theorem dX0_collect_75 : decode cX0_collect 75 = .ok (.dup, 1) := by decide +kernel
theorem dX0_collect_76 : decode cX0_collect 76 = .ok (.getfield 26, 3) := by decide +kernel
theorem dX0_collect_79 : decode cX0_collect 79 = .ok (.iconst 1, 1) := by decide +kernel
theorem dX0_collect_80 : decode cX0_collect 80 = .ok (.iadd, 1) := by decide +kernel
theorem dX0_collect_81 : decode cX0_collect 81 = .ok (.putfield 26, 3) := by decide +kernel
theorem dX0_collect_84 : decode cX0_collect 84 = .ok (.iinc 3 1, 3) := by decide +kernel
theorem dX0_collect_87 : decode cX0_collect 87 = .ok (.goto (-75), 3) := by decide +kernel
theorem dX0_collect_90 : decode cX0_collect 90 = .ok (.return_, 1) := by decide +kernel
set_option maxRecDepth 20000 in
theorem ggX0_waysOf_X3_at : GoodIn wsX0_waysOf wsX3_at := goodIn_r _ [5, 6, 7, 4, 8] (by decide +kernel) (by decide +kernel)
set_option maxRecDepth 20000 in
theorem gX0_waysOf_X3_at_n56 : GoodIn wsX0_waysOf (wsX3_at) := ggX0_waysOf_X3_at
set_option maxRecDepth 20000 in
theorem ggX0_waysOf_X0_backOf : GoodIn wsX0_waysOf wsX0_backOf := goodIn_r _ [13, 14, 1, 15, 4, 16, 3, 5, 6, 7, 8, 30, 31, 32, 33, 34, 35] (by decide +kernel) (by decide +kernel)
set_option maxRecDepth 20000 in
theorem gX0_waysOf_X0_backOf : GoodIn wsX0_waysOf (wsV RX0 60 RX0 yX0_backOf wsX0_backOf) := goodIn_app (goodIn_of _ (by decide +kernel)) ggX0_waysOf_X0_backOf
set_option maxRecDepth 20000 in
theorem ggX0_waysOf_X1_wayBetween : GoodIn wsX0_waysOf wsX1_wayBetween := goodIn_r _ [21, 22, 23, 24, 25, 26, 27, 28, 29, 36, 37, 38, 39, 40, 41] (by decide +kernel) (by decide +kernel)
set_option maxRecDepth 20000 in
theorem gX0_waysOf_X1_wayBetween : GoodIn wsX0_waysOf (wsV RX0 64 RX1 yX1_wayBetween wsX1_wayBetween) := goodIn_app (goodIn_of _ (by decide +kernel)) ggX0_waysOf_X1_wayBetween
theorem dX0_waysOf_0 : decode cX0_waysOf 0 = .ok (.iconst 0, 1) := by decide +kernel
theorem dX0_waysOf_1 : decode cX0_waysOf 1 = .ok (.istore_n 3, 1) := by decide +kernel
theorem dX0_waysOf_2 : decode cX0_waysOf 2 = .ok (.iconst 0, 1) := by decide +kernel
theorem dX0_waysOf_3 : decode cX0_waysOf 3 = .ok (.istore 4, 2) := by decide +kernel
theorem dX0_waysOf_5 : decode cX0_waysOf 5 = .ok (.iload 4, 2) := by decide +kernel
theorem dX0_waysOf_7 : decode cX0_waysOf 7 = .ok (.aload_n 0, 1) := by decide +kernel
theorem dX0_waysOf_8 : decode cX0_waysOf 8 = .ok (.getfield 22, 3) := by decide +kernel
theorem dX0_waysOf_11 : decode cX0_waysOf 11 = .ok (.if_icmp .ge 32, 3) := by decide +kernel
theorem dX0_waysOf_14 : decode cX0_waysOf 14 = .ok (.iload_n 3, 1) := by decide +kernel
theorem dX0_waysOf_15 : decode cX0_waysOf 15 = .ok (.aload_n 1, 1) := by decide +kernel
theorem dX0_waysOf_16 : decode cX0_waysOf 16 = .ok (.aload_n 0, 1) := by decide +kernel
theorem dX0_waysOf_17 : decode cX0_waysOf 17 = .ok (.getfield 9, 3) := by decide +kernel
theorem dX0_waysOf_20 : decode cX0_waysOf 20 = .ok (.iload 4, 2) := by decide +kernel
theorem dX0_waysOf_22 : decode cX0_waysOf 22 = .ok (.invokestatic 56, 3) := by decide +kernel
theorem dX0_waysOf_25 : decode cX0_waysOf 25 = .ok (.aload_n 0, 1) := by decide +kernel
theorem dX0_waysOf_26 : decode cX0_waysOf 26 = .ok (.iload 4, 2) := by decide +kernel
theorem dX0_waysOf_28 : decode cX0_waysOf 28 = .ok (.iload_n 2, 1) := by decide +kernel
theorem dX0_waysOf_29 : decode cX0_waysOf 29 = .ok (.invokevirtual 60, 3) := by decide +kernel
theorem dX0_waysOf_32 : decode cX0_waysOf 32 = .ok (.invokevirtual 64, 3) := by decide +kernel
theorem dX0_waysOf_35 : decode cX0_waysOf 35 = .ok (.iadd, 1) := by decide +kernel
theorem dX0_waysOf_36 : decode cX0_waysOf 36 = .ok (.istore_n 3, 1) := by decide +kernel
theorem dX0_waysOf_37 : decode cX0_waysOf 37 = .ok (.iinc 4 1, 3) := by decide +kernel
theorem dX0_waysOf_40 : decode cX0_waysOf 40 = .ok (.goto (-35), 3) := by decide +kernel
theorem dX0_waysOf_43 : decode cX0_waysOf 43 = .ok (.iload_n 3, 1) := by decide +kernel
theorem dX0_waysOf_44 : decode cX0_waysOf 44 = .ok (.ireturn, 1) := by decide +kernel
set_option maxRecDepth 20000 in
theorem ggX0_backOf_X3_leftOver : GoodIn wsX0_backOf wsX3_leftOver := goodIn_r _ [5] (by decide +kernel) (by decide +kernel)
set_option maxRecDepth 20000 in
theorem gX0_backOf_X3_leftOver_n67 : GoodIn wsX0_backOf (wsX3_leftOver) := ggX0_backOf_X3_leftOver
set_option maxRecDepth 20000 in
theorem ggX0_backOf_X3_at : GoodIn wsX0_backOf wsX3_at := goodIn_r _ [7, 8, 9, 4, 10] (by decide +kernel) (by decide +kernel)
set_option maxRecDepth 20000 in
theorem gX0_backOf_X3_at_n56 : GoodIn wsX0_backOf (wsX3_at) := ggX0_backOf_X3_at
theorem dX0_backOf_0 : decode cX0_backOf 0 = .ok (.aload_n 0, 1) := by decide +kernel
theorem dX0_backOf_1 : decode cX0_backOf 1 = .ok (.getfield 15, 3) := by decide +kernel
theorem dX0_backOf_4 : decode cX0_backOf 4 = .ok (.iload_n 1, 1) := by decide +kernel
theorem dX0_backOf_5 : decode cX0_backOf 5 = .ok (.iload_n 2, 1) := by decide +kernel
theorem dX0_backOf_6 : decode cX0_backOf 6 = .ok (.iadd, 1) := by decide +kernel
theorem dX0_backOf_7 : decode cX0_backOf 7 = .ok (.aload_n 0, 1) := by decide +kernel
theorem dX0_backOf_8 : decode cX0_backOf 8 = .ok (.getfield 22, 3) := by decide +kernel
theorem dX0_backOf_11 : decode cX0_backOf 11 = .ok (.invokestatic 67, 3) := by decide +kernel
theorem dX0_backOf_14 : decode cX0_backOf 14 = .ok (.invokestatic 56, 3) := by decide +kernel
theorem dX0_backOf_17 : decode cX0_backOf 17 = .ok (.ireturn, 1) := by decide +kernel
set_option maxRecDepth 20000 in
theorem ggX0_otherOf_X3_at : GoodIn wsX0_otherOf wsX3_at := goodIn_r _ [6, 7, 8, 5, 9] (by decide +kernel) (by decide +kernel)
set_option maxRecDepth 20000 in
theorem gX0_otherOf_X3_at_n56 : GoodIn wsX0_otherOf (wsX3_at) := ggX0_otherOf_X3_at
set_option maxRecDepth 20000 in
theorem ggX0_otherOf_X0_backOf : GoodIn wsX0_otherOf wsX0_backOf := goodIn_r _ [14, 15, 1, 16, 5, 17, 4, 6, 7, 8, 9, 18, 19, 20, 21, 22, 23] (by decide +kernel) (by decide +kernel)
set_option maxRecDepth 20000 in
theorem gX0_otherOf_X0_backOf : GoodIn wsX0_otherOf (wsV RX0 60 RX0 yX0_backOf wsX0_backOf) := goodIn_app (goodIn_of _ (by decide +kernel)) ggX0_otherOf_X0_backOf
theorem dX0_otherOf_0 : decode cX0_otherOf 0 = .ok (.iconst 0, 1) := by decide +kernel
theorem dX0_otherOf_1 : decode cX0_otherOf 1 = .ok (.istore_n 3, 1) := by decide +kernel
theorem dX0_otherOf_2 : decode cX0_otherOf 2 = .ok (.iload_n 3, 1) := by decide +kernel
theorem dX0_otherOf_3 : decode cX0_otherOf 3 = .ok (.aload_n 0, 1) := by decide +kernel
theorem dX0_otherOf_4 : decode cX0_otherOf 4 = .ok (.getfield 22, 3) := by decide +kernel
theorem dX0_otherOf_7 : decode cX0_otherOf 7 = .ok (.if_icmp .ge 57, 3) := by decide +kernel
theorem dX0_otherOf_10 : decode cX0_otherOf 10 = .ok (.aload_n 0, 1) := by decide +kernel
theorem dX0_otherOf_11 : decode cX0_otherOf 11 = .ok (.getfield 9, 3) := by decide +kernel
theorem dX0_otherOf_14 : decode cX0_otherOf 14 = .ok (.iload_n 3, 1) := by decide +kernel
theorem dX0_otherOf_15 : decode cX0_otherOf 15 = .ok (.invokestatic 56, 3) := by decide +kernel
theorem dX0_otherOf_18 : decode cX0_otherOf 18 = .ok (.istore 4, 2) := by decide +kernel
theorem dX0_otherOf_20 : decode cX0_otherOf 20 = .ok (.aload_n 0, 1) := by decide +kernel
theorem dX0_otherOf_21 : decode cX0_otherOf 21 = .ok (.iload_n 3, 1) := by decide +kernel
theorem dX0_otherOf_22 : decode cX0_otherOf 22 = .ok (.aload_n 0, 1) := by decide +kernel
theorem dX0_otherOf_23 : decode cX0_otherOf 23 = .ok (.getfield 29, 3) := by decide +kernel
theorem dX0_otherOf_26 : decode cX0_otherOf 26 = .ok (.invokevirtual 60, 3) := by decide +kernel
theorem dX0_otherOf_29 : decode cX0_otherOf 29 = .ok (.istore 5, 2) := by decide +kernel
theorem dX0_otherOf_31 : decode cX0_otherOf 31 = .ok (.iload_n 1, 1) := by decide +kernel
theorem dX0_otherOf_32 : decode cX0_otherOf 32 = .ok (.iload_n 2, 1) := by decide +kernel
theorem dX0_otherOf_33 : decode cX0_otherOf 33 = .ok (.ifCond .eq 8, 3) := by decide +kernel
theorem dX0_otherOf_36 : decode cX0_otherOf 36 = .ok (.iload 4, 2) := by decide +kernel
theorem dX0_otherOf_38 : decode cX0_otherOf 38 = .ok (.goto 5, 3) := by decide +kernel
theorem dX0_otherOf_41 : decode cX0_otherOf 41 = .ok (.iload 5, 2) := by decide +kernel
theorem dX0_otherOf_43 : decode cX0_otherOf 43 = .ok (.if_icmp .ne 15, 3) := by decide +kernel
theorem dX0_otherOf_46 : decode cX0_otherOf 46 = .ok (.iload_n 2, 1) := by decide +kernel
theorem dX0_otherOf_47 : decode cX0_otherOf 47 = .ok (.ifCond .eq 8, 3) := by decide +kernel
theorem dX0_otherOf_50 : decode cX0_otherOf 50 = .ok (.iload 5, 2) := by decide +kernel
theorem dX0_otherOf_52 : decode cX0_otherOf 52 = .ok (.goto 5, 3) := by decide +kernel
theorem dX0_otherOf_55 : decode cX0_otherOf 55 = .ok (.iload 4, 2) := by decide +kernel
theorem dX0_otherOf_57 : decode cX0_otherOf 57 = .ok (.ireturn, 1) := by decide +kernel
theorem dX0_otherOf_58 : decode cX0_otherOf 58 = .ok (.iinc 3 1, 3) := by decide +kernel
theorem dX0_otherOf_61 : decode cX0_otherOf 61 = .ok (.goto (-59), 3) := by decide +kernel
theorem dX0_otherOf_64 : decode cX0_otherOf 64 = .ok (.bipush (-5), 2) := by decide +kernel
theorem dX0_otherOf_66 : decode cX0_otherOf 66 = .ok (.ireturn, 1) := by decide +kernel
theorem dX1_init_0 : decode cX1_init 0 = .ok (.aload_n 0, 1) := by decide +kernel
theorem dX1_init_1 : decode cX1_init 1 = .ok (.invokespecial 1, 3) := by decide +kernel
theorem dX1_init_4 : decode cX1_init 4 = .ok (.return_, 1) := by decide +kernel
set_option maxRecDepth 20000 in
theorem ggX1_become_X3_commonDivisor : GoodIn wsX1_become wsX3_commonDivisor := goodIn_r _ [9, 10, 11, 12, 13, 14, 15, 8, 16] (by decide +kernel) (by decide +kernel)
set_option maxRecDepth 20000 in
theorem gX1_become_X3_commonDivisor_n22 : GoodIn wsX1_become (wsX3_commonDivisor) := ggX1_become_X3_commonDivisor
set_option maxRecDepth 20000 in
theorem ggX1_become_X3_cut : GoodIn wsX1_become wsX3_cut := goodIn_r _ [18] (by decide +kernel) (by decide +kernel)
set_option maxRecDepth 20000 in
theorem gX1_become_X3_cut_n31 : GoodIn wsX1_become (wsX3_cut) := ggX1_become_X3_cut
theorem dX1_become_0 : decode cX1_become 0 = .ok (.aload_n 0, 1) := by decide +kernel
theorem dX1_become_1 : decode cX1_become 1 = .ok (.iload_n 1, 1) := by decide +kernel
theorem dX1_become_2 : decode cX1_become 2 = .ok (.putfield 7, 3) := by decide +kernel
theorem dX1_become_5 : decode cX1_become 5 = .ok (.aload_n 0, 1) := by decide +kernel
theorem dX1_become_6 : decode cX1_become 6 = .ok (.iload_n 2, 1) := by decide +kernel
theorem dX1_become_7 : decode cX1_become 7 = .ok (.putfield 13, 3) := by decide +kernel
theorem dX1_become_10 : decode cX1_become 10 = .ok (.aload_n 0, 1) := by decide +kernel
theorem dX1_become_11 : decode cX1_become 11 = .ok (.iload_n 3, 1) := by decide +kernel
theorem dX1_become_12 : decode cX1_become 12 = .ok (.putfield 16, 3) := by decide +kernel
theorem dX1_become_15 : decode cX1_become 15 = .ok (.aload_n 0, 1) := by decide +kernel
theorem dX1_become_16 : decode cX1_become 16 = .ok (.iload 4, 2) := by decide +kernel
theorem dX1_become_18 : decode cX1_become 18 = .ok (.putfield 19, 3) := by decide +kernel
theorem dX1_become_21 : decode cX1_become 21 = .ok (.aload_n 0, 1) := by decide +kernel
theorem dX1_become_22 : decode cX1_become 22 = .ok (.iload_n 1, 1) := by decide +kernel
theorem dX1_become_23 : decode cX1_become 23 = .ok (.iload_n 2, 1) := by decide +kernel
theorem dX1_become_24 : decode cX1_become 24 = .ok (.invokestatic 22, 3) := by decide +kernel
theorem dX1_become_27 : decode cX1_become 27 = .ok (.putfield 28, 3) := by decide +kernel
theorem dX1_become_30 : decode cX1_become 30 = .ok (.aload_n 0, 1) := by decide +kernel
theorem dX1_become_31 : decode cX1_become 31 = .ok (.iload_n 1, 1) := by decide +kernel
theorem dX1_become_32 : decode cX1_become 32 = .ok (.aload_n 0, 1) := by decide +kernel
theorem dX1_become_33 : decode cX1_become 33 = .ok (.getfield 28, 3) := by decide +kernel
theorem dX1_become_36 : decode cX1_become 36 = .ok (.invokestatic 31, 3) := by decide +kernel
theorem dX1_become_39 : decode cX1_become 39 = .ok (.putfield 34, 3) := by decide +kernel
theorem dX1_become_42 : decode cX1_become 42 = .ok (.return_, 1) := by decide +kernel
set_option maxRecDepth 20000 in
theorem ggX1_lackingDivisor_X3_commonDivisor : GoodIn wsX1_lackingDivisor wsX3_commonDivisor := goodIn_r _ [5, 6, 7, 8, 9, 10, 11, 4, 12] (by decide +kernel) (by decide +kernel)
set_option maxRecDepth 20000 in
theorem gX1_lackingDivisor_X3_commonDivisor_n22 : GoodIn wsX1_lackingDivisor (wsX3_commonDivisor) := ggX1_lackingDivisor_X3_commonDivisor
set_option maxRecDepth 20000 in
theorem ggX1_lackingDivisor_X3_cut : GoodIn wsX1_lackingDivisor wsX3_cut := goodIn_r _ [14] (by decide +kernel) (by decide +kernel)
set_option maxRecDepth 20000 in
theorem gX1_lackingDivisor_X3_cut_n31 : GoodIn wsX1_lackingDivisor (wsX3_cut) := ggX1_lackingDivisor_X3_cut
theorem dX1_lackingDivisor_0 : decode cX1_lackingDivisor 0 = .ok (.aload_n 0, 1) := by decide +kernel
theorem dX1_lackingDivisor_1 : decode cX1_lackingDivisor 1 = .ok (.getfield 16, 3) := by decide +kernel
theorem dX1_lackingDivisor_4 : decode cX1_lackingDivisor 4 = .ok (.aload_n 0, 1) := by decide +kernel
theorem dX1_lackingDivisor_5 : decode cX1_lackingDivisor 5 = .ok (.getfield 34, 3) := by decide +kernel
theorem dX1_lackingDivisor_8 : decode cX1_lackingDivisor 8 = .ok (.aload_n 0, 1) := by decide +kernel
theorem dX1_lackingDivisor_9 : decode cX1_lackingDivisor 9 = .ok (.getfield 16, 3) := by decide +kernel
theorem dX1_lackingDivisor_12 : decode cX1_lackingDivisor 12 = .ok (.invokestatic 22, 3) := by decide +kernel
theorem dX1_lackingDivisor_15 : decode cX1_lackingDivisor 15 = .ok (.invokestatic 31, 3) := by decide +kernel
theorem dX1_lackingDivisor_18 : decode cX1_lackingDivisor 18 = .ok (.ireturn, 1) := by decide +kernel
set_option maxRecDepth 20000 in
theorem ggX1_isBalanced_X1_lackingDivisor : GoodIn wsX1_isBalanced wsX1_lackingDivisor := goodIn_r _ [5, 6, 7, 8, 9, 10, 11, 12, 13, 14, 15, 16, 17, 18, 19, 20, 21, 22, 23, 24, 25] (by decide +kernel) (by decide +kernel)
set_option maxRecDepth 20000 in
theorem gX1_isBalanced_X1_lackingDivisor : GoodIn wsX1_isBalanced (wsV RX1 37 RX1 yX1_lackingDivisor wsX1_lackingDivisor) := goodIn_app (goodIn_of _ (by decide +kernel)) ggX1_isBalanced_X1_lackingDivisor
theorem dX1_isBalanced_0 : decode cX1_isBalanced 0 = .ok (.aload_n 0, 1) := by decide +kernel
theorem dX1_isBalanced_1 : decode cX1_isBalanced 1 = .ok (.invokevirtual 37, 3) := by decide +kernel
theorem dX1_isBalanced_4 : decode cX1_isBalanced 4 = .ok (.iconst 1, 1) := by decide +kernel
theorem dX1_isBalanced_5 : decode cX1_isBalanced 5 = .ok (.if_icmp .ne 7, 3) := by decide +kernel
theorem dX1_isBalanced_8 : decode cX1_isBalanced 8 = .ok (.iconst 1, 1) := by decide +kernel
theorem dX1_isBalanced_9 : decode cX1_isBalanced 9 = .ok (.goto 4, 3) := by decide +kernel
theorem dX1_isBalanced_12 : decode cX1_isBalanced 12 = .ok (.iconst 0, 1) := by decide +kernel
theorem dX1_isBalanced_13 : decode cX1_isBalanced 13 = .ok (.ireturn, 1) := by decide +kernel
set_option maxRecDepth 20000 in
theorem ggX1_turnOf_X3_leftOver : GoodIn wsX1_turnOf wsX3_leftOver := goodIn_r _ [6] (by decide +kernel) (by decide +kernel)
set_option maxRecDepth 20000 in
theorem gX1_turnOf_X3_leftOver_n41 : GoodIn wsX1_turnOf (wsX3_leftOver) := ggX1_turnOf_X3_leftOver
set_option maxRecDepth 20000 in
theorem ggX1_turnOf_X3_cut : GoodIn wsX1_turnOf wsX3_cut := goodIn_r _ [8] (by decide +kernel) (by decide +kernel)
set_option maxRecDepth 20000 in
theorem gX1_turnOf_X3_cut_n31 : GoodIn wsX1_turnOf (wsX3_cut) := ggX1_turnOf_X3_cut
theorem dX1_turnOf_0 : decode cX1_turnOf 0 = .ok (.iload_n 1, 1) := by decide +kernel
theorem dX1_turnOf_1 : decode cX1_turnOf 1 = .ok (.aload_n 0, 1) := by decide +kernel
theorem dX1_turnOf_2 : decode cX1_turnOf 2 = .ok (.getfield 13, 3) := by decide +kernel
theorem dX1_turnOf_5 : decode cX1_turnOf 5 = .ok (.imul, 1) := by decide +kernel
theorem dX1_turnOf_6 : decode cX1_turnOf 6 = .ok (.aload_n 0, 1) := by decide +kernel
theorem dX1_turnOf_7 : decode cX1_turnOf 7 = .ok (.getfield 7, 3) := by decide +kernel
theorem dX1_turnOf_10 : decode cX1_turnOf 10 = .ok (.invokestatic 41, 3) := by decide +kernel
theorem dX1_turnOf_13 : decode cX1_turnOf 13 = .ok (.aload_n 0, 1) := by decide +kernel
theorem dX1_turnOf_14 : decode cX1_turnOf 14 = .ok (.getfield 28, 3) := by decide +kernel
theorem dX1_turnOf_17 : decode cX1_turnOf 17 = .ok (.invokestatic 31, 3) := by decide +kernel
theorem dX1_turnOf_20 : decode cX1_turnOf 20 = .ok (.ireturn, 1) := by decide +kernel
set_option maxRecDepth 20000 in
theorem ggX1_copyOf_X3_cut : GoodIn wsX1_copyOf wsX3_cut := goodIn_r _ [4] (by decide +kernel) (by decide +kernel)
set_option maxRecDepth 20000 in
theorem gX1_copyOf_X3_cut_n31 : GoodIn wsX1_copyOf (wsX3_cut) := ggX1_copyOf_X3_cut
theorem dX1_copyOf_0 : decode cX1_copyOf 0 = .ok (.iload_n 1, 1) := by decide +kernel
theorem dX1_copyOf_1 : decode cX1_copyOf 1 = .ok (.aload_n 0, 1) := by decide +kernel
theorem dX1_copyOf_2 : decode cX1_copyOf 2 = .ok (.getfield 34, 3) := by decide +kernel
theorem dX1_copyOf_5 : decode cX1_copyOf 5 = .ok (.invokestatic 31, 3) := by decide +kernel
theorem dX1_copyOf_8 : decode cX1_copyOf 8 = .ok (.ireturn, 1) := by decide +kernel
set_option maxRecDepth 20000 in
theorem ggX1_zoneOf_X1_turnOf : GoodIn wsX1_zoneOf wsX1_turnOf := goodIn_r _ [7, 8, 9, 10, 11, 12, 13, 14, 15, 16, 17, 18, 19, 20, 21] (by decide +kernel) (by decide +kernel)
set_option maxRecDepth 20000 in
theorem gX1_zoneOf_X1_turnOf : GoodIn wsX1_zoneOf (wsV RX1 44 RX1 yX1_turnOf wsX1_turnOf) := goodIn_app (goodIn_of _ (by decide +kernel)) ggX1_zoneOf_X1_turnOf
set_option maxRecDepth 20000 in
theorem ggX1_zoneOf_X3_cut : GoodIn wsX1_zoneOf wsX3_cut := goodIn_r _ [15] (by decide +kernel) (by decide +kernel)
set_option maxRecDepth 20000 in
theorem gX1_zoneOf_X3_cut_n31 : GoodIn wsX1_zoneOf (wsX3_cut) := ggX1_zoneOf_X3_cut
theorem dX1_zoneOf_0 : decode cX1_zoneOf 0 = .ok (.iconst 2, 1) := by decide +kernel
theorem dX1_zoneOf_1 : decode cX1_zoneOf 1 = .ok (.aload_n 0, 1) := by decide +kernel
theorem dX1_zoneOf_2 : decode cX1_zoneOf 2 = .ok (.getfield 16, 3) := by decide +kernel
theorem dX1_zoneOf_5 : decode cX1_zoneOf 5 = .ok (.imul, 1) := by decide +kernel
theorem dX1_zoneOf_6 : decode cX1_zoneOf 6 = .ok (.aload_n 0, 1) := by decide +kernel
theorem dX1_zoneOf_7 : decode cX1_zoneOf 7 = .ok (.iload_n 1, 1) := by decide +kernel
theorem dX1_zoneOf_8 : decode cX1_zoneOf 8 = .ok (.invokevirtual 44, 3) := by decide +kernel
theorem dX1_zoneOf_11 : decode cX1_zoneOf 11 = .ok (.imul, 1) := by decide +kernel
theorem dX1_zoneOf_12 : decode cX1_zoneOf 12 = .ok (.aload_n 0, 1) := by decide +kernel
theorem dX1_zoneOf_13 : decode cX1_zoneOf 13 = .ok (.getfield 34, 3) := by decide +kernel
theorem dX1_zoneOf_16 : decode cX1_zoneOf 16 = .ok (.invokestatic 31, 3) := by decide +kernel
theorem dX1_zoneOf_19 : decode cX1_zoneOf 19 = .ok (.ireturn, 1) := by decide +kernel
set_option maxRecDepth 20000 in
theorem ggX1_isForward_X1_zoneOf : GoodIn wsX1_isForward wsX1_zoneOf := goodIn_r _ [5, 6, 7, 8, 9, 10, 4, 11, 12, 13, 14, 15, 16, 17, 18, 19, 20, 21, 22, 23, 24, 25] (by decide +kernel) (by decide +kernel)
set_option maxRecDepth 20000 in
theorem gX1_isForward_X1_zoneOf : GoodIn wsX1_isForward (wsV RX1 48 RX1 yX1_zoneOf wsX1_zoneOf) := goodIn_app (goodIn_of _ (by decide +kernel)) ggX1_isForward_X1_zoneOf
set_option maxRecDepth 20000 in
theorem ggX1_isForward_X3_leftOver : GoodIn wsX1_isForward wsX3_leftOver := goodIn_r _ [17] (by decide +kernel) (by decide +kernel)
set_option maxRecDepth 20000 in
theorem gX1_isForward_X3_leftOver_n41 : GoodIn wsX1_isForward (wsX3_leftOver) := ggX1_isForward_X3_leftOver
theorem dX1_isForward_0 : decode cX1_isForward 0 = .ok (.aload_n 0, 1) := by decide +kernel
theorem dX1_isForward_1 : decode cX1_isForward 1 = .ok (.iload_n 1, 1) := by decide +kernel
theorem dX1_isForward_2 : decode cX1_isForward 2 = .ok (.invokevirtual 48, 3) := by decide +kernel
theorem dX1_isForward_5 : decode cX1_isForward 5 = .ok (.iconst 2, 1) := by decide +kernel
theorem dX1_isForward_6 : decode cX1_isForward 6 = .ok (.invokestatic 41, 3) := by decide +kernel
theorem dX1_isForward_9 : decode cX1_isForward 9 = .ok (.ifCond .ne 7, 3) := by decide +kernel
theorem dX1_isForward_12 : decode cX1_isForward 12 = .ok (.iconst 1, 1) := by decide +kernel
theorem dX1_isForward_13 : decode cX1_isForward 13 = .ok (.goto 4, 3) := by decide +kernel
theorem dX1_isForward_16 : decode cX1_isForward 16 = .ok (.iconst 0, 1) := by decide +kernel
theorem dX1_isForward_17 : decode cX1_isForward 17 = .ok (.ireturn, 1) := by decide +kernel
set_option maxRecDepth 20000 in
theorem ggX1_phaseOf_X1_zoneOf : GoodIn wsX1_phaseOf wsX1_zoneOf := goodIn_r _ [6, 1, 7, 8, 9, 10, 5, 11, 12, 13, 14, 15, 16, 17, 18, 19, 20, 21, 22, 23, 24, 25] (by decide +kernel) (by decide +kernel)
set_option maxRecDepth 20000 in
theorem gX1_phaseOf_X1_zoneOf : GoodIn wsX1_phaseOf (wsV RX1 48 RX1 yX1_zoneOf wsX1_zoneOf) := goodIn_app (goodIn_of _ (by decide +kernel)) ggX1_phaseOf_X1_zoneOf
set_option maxRecDepth 20000 in
theorem ggX1_phaseOf_X3_leftOver : GoodIn wsX1_phaseOf wsX3_leftOver := goodIn_r _ [17] (by decide +kernel) (by decide +kernel)
set_option maxRecDepth 20000 in
theorem gX1_phaseOf_X3_leftOver_n41 : GoodIn wsX1_phaseOf (wsX3_leftOver) := ggX1_phaseOf_X3_leftOver
set_option maxRecDepth 20000 in
theorem ggX1_phaseOf_X3_cut : GoodIn wsX1_phaseOf wsX3_cut := goodIn_r _ [19] (by decide +kernel) (by decide +kernel)
set_option maxRecDepth 20000 in
theorem gX1_phaseOf_X3_cut_n31 : GoodIn wsX1_phaseOf (wsX3_cut) := ggX1_phaseOf_X3_cut
theorem dX1_phaseOf_0 : decode cX1_phaseOf 0 = .ok (.aload_n 0, 1) := by decide +kernel
theorem dX1_phaseOf_1 : decode cX1_phaseOf 1 = .ok (.iload_n 1, 1) := by decide +kernel
theorem dX1_phaseOf_2 : decode cX1_phaseOf 2 = .ok (.invokevirtual 48, 3) := by decide +kernel
theorem dX1_phaseOf_5 : decode cX1_phaseOf 5 = .ok (.istore_n 2, 1) := by decide +kernel
theorem dX1_phaseOf_6 : decode cX1_phaseOf 6 = .ok (.iload_n 2, 1) := by decide +kernel
theorem dX1_phaseOf_7 : decode cX1_phaseOf 7 = .ok (.iconst 2, 1) := by decide +kernel
theorem dX1_phaseOf_8 : decode cX1_phaseOf 8 = .ok (.invokestatic 41, 3) := by decide +kernel
theorem dX1_phaseOf_11 : decode cX1_phaseOf 11 = .ok (.ifCond .ne 11, 3) := by decide +kernel
theorem dX1_phaseOf_14 : decode cX1_phaseOf 14 = .ok (.iload_n 2, 1) := by decide +kernel
theorem dX1_phaseOf_15 : decode cX1_phaseOf 15 = .ok (.iconst 2, 1) := by decide +kernel
theorem dX1_phaseOf_16 : decode cX1_phaseOf 16 = .ok (.invokestatic 31, 3) := by decide +kernel
theorem dX1_phaseOf_19 : decode cX1_phaseOf 19 = .ok (.goto 20, 3) := by decide +kernel
theorem dX1_phaseOf_22 : decode cX1_phaseOf 22 = .ok (.iload_n 2, 1) := by decide +kernel
theorem dX1_phaseOf_23 : decode cX1_phaseOf 23 = .ok (.aload_n 0, 1) := by decide +kernel
theorem dX1_phaseOf_24 : decode cX1_phaseOf 24 = .ok (.getfield 16, 3) := by decide +kernel
theorem dX1_phaseOf_27 : decode cX1_phaseOf 27 = .ok (.iadd, 1) := by decide +kernel
theorem dX1_phaseOf_28 : decode cX1_phaseOf 28 = .ok (.iconst 2, 1) := by decide +kernel
theorem dX1_phaseOf_29 : decode cX1_phaseOf 29 = .ok (.invokestatic 31, 3) := by decide +kernel
theorem dX1_phaseOf_32 : decode cX1_phaseOf 32 = .ok (.aload_n 0, 1) := by decide +kernel
theorem dX1_phaseOf_33 : decode cX1_phaseOf 33 = .ok (.getfield 16, 3) := by decide +kernel
theorem dX1_phaseOf_36 : decode cX1_phaseOf 36 = .ok (.invokestatic 41, 3) := by decide +kernel
theorem dX1_phaseOf_39 : decode cX1_phaseOf 39 = .ok (.ireturn, 1) := by decide +kernel
set_option maxRecDepth 20000 in
theorem ggX1_endOf_X3_leftOver : GoodIn wsX1_endOf wsX3_leftOver := goodIn_r _ [4] (by decide +kernel) (by decide +kernel)
set_option maxRecDepth 20000 in
theorem gX1_endOf_X3_leftOver_n41 : GoodIn wsX1_endOf (wsX3_leftOver) := ggX1_endOf_X3_leftOver
theorem dX1_endOf_0 : decode cX1_endOf 0 = .ok (.iload_n 1, 1) := by decide +kernel
theorem dX1_endOf_1 : decode cX1_endOf 1 = .ok (.iload_n 2, 1) := by decide +kernel
theorem dX1_endOf_2 : decode cX1_endOf 2 = .ok (.iadd, 1) := by decide +kernel
theorem dX1_endOf_3 : decode cX1_endOf 3 = .ok (.aload_n 0, 1) := by decide +kernel
theorem dX1_endOf_4 : decode cX1_endOf 4 = .ok (.getfield 7, 3) := by decide +kernel
theorem dX1_endOf_7 : decode cX1_endOf 7 = .ok (.invokestatic 41, 3) := by decide +kernel
theorem dX1_endOf_10 : decode cX1_endOf 10 = .ok (.ireturn, 1) := by decide +kernel
set_option maxRecDepth 20000 in
theorem ggX1_coilEndingIn_X3_leftOver : GoodIn wsX1_coilEndingIn wsX3_leftOver := goodIn_r _ [5] (by decide +kernel) (by decide +kernel)
set_option maxRecDepth 20000 in
theorem gX1_coilEndingIn_X3_leftOver_n41 : GoodIn wsX1_coilEndingIn (wsX3_leftOver) := ggX1_coilEndingIn_X3_leftOver
theorem dX1_coilEndingIn_0 : decode cX1_coilEndingIn 0 = .ok (.iload_n 1, 1) := by decide +kernel
theorem dX1_coilEndingIn_1 : decode cX1_coilEndingIn 1 = .ok (.aload_n 0, 1) := by decide +kernel
theorem dX1_coilEndingIn_2 : decode cX1_coilEndingIn 2 = .ok (.getfield 19, 3) := by decide +kernel
theorem dX1_coilEndingIn_5 : decode cX1_coilEndingIn 5 = .ok (.isub, 1) := by decide +kernel
theorem dX1_coilEndingIn_6 : decode cX1_coilEndingIn 6 = .ok (.aload_n 0, 1) := by decide +kernel
theorem dX1_coilEndingIn_7 : decode cX1_coilEndingIn 7 = .ok (.getfield 7, 3) := by decide +kernel
theorem dX1_coilEndingIn_10 : decode cX1_coilEndingIn 10 = .ok (.invokestatic 41, 3) := by decide +kernel
theorem dX1_coilEndingIn_13 : decode cX1_coilEndingIn 13 = .ok (.ireturn, 1) := by decide +kernel
set_option maxRecDepth 20000 in
theorem ggX1_countSides_X1_phaseOf : GoodIn wsX1_countSides wsX1_phaseOf := goodIn_r _ [6, 7, 8, 9, 10, 5, 11, 12, 13, 14, 15, 16, 17, 1, 18, 19, 20, 21, 22, 23, 28, 29, 30, 31, 32, 33] (by decide +kernel) (by decide +kernel)
set_option maxRecDepth 20000 in
theorem gX1_countSides_X1_phaseOf : GoodIn wsX1_countSides (wsV RX1 51 RX1 yX1_phaseOf wsX1_phaseOf) := goodIn_app (goodIn_of _ (by decide +kernel)) ggX1_countSides_X1_phaseOf
set_option maxRecDepth 20000 in
theorem ggX1_countSides_X1_isForward : GoodIn wsX1_countSides wsX1_isForward := goodIn_r _ [27, 8, 9, 10, 5, 11, 7, 12, 13, 14, 15, 16, 17, 1, 18, 19, 20, 21, 22, 23, 28, 29, 30, 31, 32, 33] (by decide +kernel) (by decide +kernel)
set_option maxRecDepth 20000 in
theorem gX1_countSides_X1_isForward : GoodIn wsX1_countSides (wsV RX1 54 RX1 yX1_isForward wsX1_isForward) := goodIn_app (goodIn_of _ (by decide +kernel)) ggX1_countSides_X1_isForward
theorem dX1_countSides_0 : decode cX1_countSides 0 = .ok (.iconst 0, 1) := by decide +kernel
theorem dX1_countSides_1 : decode cX1_countSides 1 = .ok (.istore_n 3, 1) := by decide +kernel
theorem dX1_countSides_2 : decode cX1_countSides 2 = .ok (.iconst 0, 1) := by decide +kernel
theorem dX1_countSides_3 : decode cX1_countSides 3 = .ok (.istore 4, 2) := by decide +kernel
theorem dX1_countSides_5 : decode cX1_countSides 5 = .ok (.iload 4, 2) := by decide +kernel
theorem dX1_countSides_7 : decode cX1_countSides 7 = .ok (.aload_n 0, 1) := by decide +kernel
theorem dX1_countSides_8 : decode cX1_countSides 8 = .ok (.getfield 7, 3) := by decide +kernel
theorem dX1_countSides_11 : decode cX1_countSides 11 = .ok (.if_icmp .ge 32, 3) := by decide +kernel
theorem dX1_countSides_14 : decode cX1_countSides 14 = .ok (.aload_n 0, 1) := by decide +kernel
theorem dX1_countSides_15 : decode cX1_countSides 15 = .ok (.iload 4, 2) := by decide +kernel
theorem dX1_countSides_17 : decode cX1_countSides 17 = .ok (.invokevirtual 51, 3) := by decide +kernel
theorem dX1_countSides_20 : decode cX1_countSides 20 = .ok (.iload_n 1, 1) := by decide +kernel
theorem dX1_countSides_21 : decode cX1_countSides 21 = .ok (.if_icmp .ne 16, 3) := by decide +kernel
theorem dX1_countSides_24 : decode cX1_countSides 24 = .ok (.aload_n 0, 1) := by decide +kernel
theorem dX1_countSides_25 : decode cX1_countSides 25 = .ok (.iload 4, 2) := by decide +kernel
theorem dX1_countSides_27 : decode cX1_countSides 27 = .ok (.invokevirtual 54, 3) := by decide +kernel
theorem dX1_countSides_30 : decode cX1_countSides 30 = .ok (.iload_n 2, 1) := by decide +kernel
theorem dX1_countSides_31 : decode cX1_countSides 31 = .ok (.if_icmp .ne 6, 3) := by decide +kernel
theorem dX1_countSides_34 : decode cX1_countSides 34 = .ok (.iinc 3 1, 3) := by decide +kernel
theorem dX1_countSides_37 : decode cX1_countSides 37 = .ok (.iinc 4 1, 3) := by decide +kernel
theorem dX1_countSides_40 : decode cX1_countSides 40 = .ok (.goto (-35), 3) := by decide +kernel
theorem dX1_countSides_43 : decode cX1_countSides 43 = .ok (.iload_n 3, 1) := by decide +kernel
theorem dX1_countSides_44 : decode cX1_countSides 44 = .ok (.ireturn, 1) := by decide +kernel
theorem dX1_wayBetween_0 : decode cX1_wayBetween 0 = .ok (.iload_n 1, 1) := by decide +kernel
theorem dX1_wayBetween_1 : decode cX1_wayBetween 1 = .ok (.iload_n 2, 1) := by decide +kernel
theorem dX1_wayBetween_2 : decode cX1_wayBetween 2 = .ok (.isub, 1) := by decide +kernel
theorem dX1_wayBetween_3 : decode cX1_wayBetween 3 = .ok (.invokestatic 58, 3) := by decide +kernel
theorem dX1_wayBetween_6 : decode cX1_wayBetween 6 = .ok (.istore_n 3, 1) := by decide +kernel
theorem dX1_wayBetween_7 : decode cX1_wayBetween 7 = .ok (.iload_n 3, 1) := by decide +kernel
theorem dX1_wayBetween_8 : decode cX1_wayBetween 8 = .ok (.aload_n 0, 1) := by decide +kernel
theorem dX1_wayBetween_9 : decode cX1_wayBetween 9 = .ok (.getfield 7, 3) := by decide +kernel
theorem dX1_wayBetween_12 : decode cX1_wayBetween 12 = .ok (.iload_n 3, 1) := by decide +kernel
theorem dX1_wayBetween_13 : decode cX1_wayBetween 13 = .ok (.isub, 1) := by decide +kernel
theorem dX1_wayBetween_14 : decode cX1_wayBetween 14 = .ok (.invokestatic 63, 3) := by decide +kernel
theorem dX1_wayBetween_17 : decode cX1_wayBetween 17 = .ok (.ireturn, 1) := by decide +kernel
theorem dX2_init_0 : decode cX2_init 0 = .ok (.aload_n 0, 1) := by decide +kernel
theorem dX2_init_1 : decode cX2_init 1 = .ok (.invokespecial 3, 3) := by decide +kernel
theorem dX2_init_4 : decode cX2_init 4 = .ok (.aload_n 0, 1) := by decide +kernel
theorem dX2_init_5 : decode cX2_init 5 = .ok (.bipush 49, 2) := by decide +kernel
theorem dX2_init_7 : decode cX2_init 7 = .ok (.newarray .int, 2) := by decide +kernel
theorem dX2_init_9 : decode cX2_init 9 = .ok (.putfield 9, 3) := by decide +kernel
theorem dX2_init_12 : decode cX2_init 12 = .ok (.return_, 1) := by decide +kernel
set_option maxRecDepth 20000 in
theorem ggX2_become_J7_fill_53178 : GoodIn wsX2_become wsJ7_fill_53178 := goodIn_r _ [7] (by decide +kernel) (by decide +kernel)
set_option maxRecDepth 20000 in
theorem gX2_become_J7_fill_53178 : GoodIn wsX2_become (va_wsS RX2 19 yJ7_fill_53178 wsJ7_fill_53178) := goodIn_app (goodIn_of _ (by decide +kernel)) ggX2_become_J7_fill_53178
set_option maxRecDepth 20000 in
theorem ggX2_become_X3_put : GoodIn wsX2_become wsX3_put := goodIn_r _ [10, 11, 12, 9, 13] (by decide +kernel) (by decide +kernel)
set_option maxRecDepth 20000 in
theorem gX2_become_X3_put_n25 : GoodIn wsX2_become (wsX3_put) := ggX2_become_X3_put
set_option maxRecDepth 20000 in
theorem ggX2_become_X3_leftOver : GoodIn wsX2_become wsX3_leftOver := goodIn_r _ [15] (by decide +kernel) (by decide +kernel)
set_option maxRecDepth 20000 in
theorem gX2_become_X3_leftOver_n29 : GoodIn wsX2_become (wsX3_leftOver) := ggX2_become_X3_leftOver
set_option maxRecDepth 20000 in
theorem ggX2_become_X3_cut : GoodIn wsX2_become wsX3_cut := goodIn_r _ [17] (by decide +kernel) (by decide +kernel)
set_option maxRecDepth 20000 in
theorem gX2_become_X3_cut_n33 : GoodIn wsX2_become (wsX3_cut) := ggX2_become_X3_cut
set_option maxRecDepth 20000 in
theorem ggX2_become_X2_moebius : GoodIn wsX2_become wsX2_moebius := goodIn_r _ [21, 14, 9, 15, 16, 17] (by decide +kernel) (by decide +kernel)
set_option maxRecDepth 20000 in
theorem gX2_become_X2_moebius : GoodIn wsX2_become (va_wsS RX2 36 yX2_moebius wsX2_moebius) := goodIn_app (goodIn_of _ (by decide +kernel)) ggX2_become_X2_moebius
set_option maxRecDepth 20000 in
theorem ggX2_become_X2_multiplyByOneLess : GoodIn wsX2_become wsX2_multiplyByOneLess := goodIn_r _ [25, 1, 2, 26, 9, 27, 11, 12, 13, 8, 10, 36, 37, 38] (by decide +kernel) (by decide +kernel)
set_option maxRecDepth 20000 in
theorem gX2_become_X2_multiplyByOneLess : GoodIn wsX2_become (wsV RX2 40 RX2 yX2_multiplyByOneLess wsX2_multiplyByOneLess) := goodIn_app (goodIn_of _ (by decide +kernel)) ggX2_become_X2_multiplyByOneLess
set_option maxRecDepth 20000 in
theorem ggX2_become_X2_divideByOneLess : GoodIn wsX2_become wsX2_divideByOneLess := goodIn_r _ [31, 1, 2, 26, 9, 27, 11, 12, 13, 8, 10, 36, 37, 38] (by decide +kernel) (by decide +kernel)
set_option maxRecDepth 20000 in
theorem gX2_become_X2_divideByOneLess : GoodIn wsX2_become (wsV RX2 44 RX2 yX2_divideByOneLess wsX2_divideByOneLess) := goodIn_app (goodIn_of _ (by decide +kernel)) ggX2_become_X2_divideByOneLess
set_option maxRecDepth 20000 in
theorem ggX2_become_X2_highestPower : GoodIn wsX2_become wsX2_highestPower := goodIn_r _ [35, 1, 2, 26, 9, 27, 11, 12, 13, 36, 37, 38] (by decide +kernel) (by decide +kernel)
set_option maxRecDepth 20000 in
theorem gX2_become_X2_highestPower : GoodIn wsX2_become (wsV RX2 47 RX2 yX2_highestPower wsX2_highestPower) := goodIn_app (goodIn_of _ (by decide +kernel)) ggX2_become_X2_highestPower
theorem dX2_become_0 : decode cX2_become 0 = .ok (.aload_n 0, 1) := by decide +kernel
theorem dX2_become_1 : decode cX2_become 1 = .ok (.iload_n 1, 1) := by decide +kernel
theorem dX2_become_2 : decode cX2_become 2 = .ok (.putfield 15, 3) := by decide +kernel
theorem dX2_become_5 : decode cX2_become 5 = .ok (.aload_n 0, 1) := by decide +kernel
theorem dX2_become_6 : decode cX2_become 6 = .ok (.getfield 9, 3) := by decide +kernel
theorem dX2_become_9 : decode cX2_become 9 = .ok (.iconst 0, 1) := by decide +kernel
theorem dX2_become_10 : decode cX2_become 10 = .ok (.invokestatic 19, 3) := by decide +kernel
theorem dX2_become_13 : decode cX2_become 13 = .ok (.aload_n 0, 1) := by decide +kernel
theorem dX2_become_14 : decode cX2_become 14 = .ok (.getfield 9, 3) := by decide +kernel
theorem dX2_become_17 : decode cX2_become 17 = .ok (.iconst 0, 1) := by decide +kernel
theorem dX2_become_18 : decode cX2_become 18 = .ok (.iload_n 1, 1) := by decide +kernel
theorem dX2_become_19 : decode cX2_become 19 = .ok (.iconst 1, 1) := by decide +kernel
theorem dX2_become_20 : decode cX2_become 20 = .ok (.if_icmp .ne 7, 3) := by decide +kernel
theorem dX2_become_23 : decode cX2_become 23 = .ok (.iconst (-1), 1) := by decide +kernel
theorem dX2_become_24 : decode cX2_become 24 = .ok (.goto 4, 3) := by decide +kernel
theorem dX2_become_27 : decode cX2_become 27 = .ok (.iconst 1, 1) := by decide +kernel
theorem dX2_become_28 : decode cX2_become 28 = .ok (.invokestatic 25, 3) := by decide +kernel
theorem dX2_become_31 : decode cX2_become 31 = .ok (.iconst 1, 1) := by decide +kernel
theorem dX2_become_32 : decode cX2_become 32 = .ok (.istore_n 2, 1) := by decide +kernel
theorem dX2_become_33 : decode cX2_become 33 = .ok (.iload_n 2, 1) := by decide +kernel
theorem dX2_become_34 : decode cX2_become 34 = .ok (.iload_n 1, 1) := by decide +kernel
theorem dX2_become_35 : decode cX2_become 35 = .ok (.if_icmp .gt 47, 3) := by decide +kernel
theorem dX2_become_38 : decode cX2_become 38 = .ok (.iload_n 1, 1) := by decide +kernel
theorem dX2_become_39 : decode cX2_become 39 = .ok (.iload_n 2, 1) := by decide +kernel
theorem dX2_become_40 : decode cX2_become 40 = .ok (.invokestatic 29, 3) := by decide +kernel
theorem dX2_become_43 : decode cX2_become 43 = .ok (.ifCond .ne 33, 3) := by decide +kernel
theorem dX2_become_46 : decode cX2_become 46 = .ok (.iload_n 1, 1) := by decide +kernel
theorem dX2_become_47 : decode cX2_become 47 = .ok (.iload_n 2, 1) := by decide +kernel
theorem dX2_become_48 : decode cX2_become 48 = .ok (.invokestatic 33, 3) := by decide +kernel
theorem dX2_become_51 : decode cX2_become 51 = .ok (.invokestatic 36, 3) := by decide +kernel
theorem dX2_become_54 : decode cX2_become 54 = .ok (.istore_n 3, 1) := by decide +kernel
theorem dX2_become_55 : decode cX2_become 55 = .ok (.iload_n 3, 1) := by decide +kernel
theorem dX2_become_56 : decode cX2_become 56 = .ok (.ifCond .le 11, 3) := by decide +kernel
theorem dX2_become_59 : decode cX2_become 59 = .ok (.aload_n 0, 1) := by decide +kernel
theorem dX2_become_60 : decode cX2_become 60 = .ok (.iload_n 2, 1) := by decide +kernel
theorem dX2_become_61 : decode cX2_become 61 = .ok (.invokevirtual 40, 3) := by decide +kernel
theorem dX2_become_64 : decode cX2_become 64 = .ok (.goto 12, 3) := by decide +kernel
theorem dX2_become_67 : decode cX2_become 67 = .ok (.iload_n 3, 1) := by decide +kernel
theorem dX2_become_68 : decode cX2_become 68 = .ok (.ifCond .ge 8, 3) := by decide +kernel
theorem dX2_become_71 : decode cX2_become 71 = .ok (.aload_n 0, 1) := by decide +kernel
theorem dX2_become_72 : decode cX2_become 72 = .ok (.iload_n 2, 1) := by decide +kernel
theorem dX2_become_73 : decode cX2_become 73 = .ok (.invokevirtual 44, 3) := by decide +kernel
theorem dX2_become_76 : decode cX2_become 76 = .ok (.iinc 2 1, 3) := by decide +kernel
theorem dX2_become_79 : decode cX2_become 79 = .ok (.goto (-46), 3) := by decide +kernel
theorem dX2_become_82 : decode cX2_become 82 = .ok (.aload_n 0, 1) := by decide +kernel
theorem dX2_become_83 : decode cX2_become 83 = .ok (.aload_n 0, 1) := by decide +kernel
theorem dX2_become_84 : decode cX2_become 84 = .ok (.invokevirtual 47, 3) := by decide +kernel
theorem dX2_become_87 : decode cX2_become 87 = .ok (.putfield 51, 3) := by decide +kernel
theorem dX2_become_90 : decode cX2_become 90 = .ok (.return_, 1) := by decide +kernel
set_option maxRecDepth 20000 in
theorem ggX2_moebius_X3_leftOver : GoodIn wsX2_moebius wsX3_leftOver := goodIn_r _ [3] (by decide +kernel) (by decide +kernel)
set_option maxRecDepth 20000 in
theorem gX2_moebius_X3_leftOver_n29 : GoodIn wsX2_moebius (wsX3_leftOver) := ggX2_moebius_X3_leftOver
set_option maxRecDepth 20000 in
theorem ggX2_moebius_X3_cut : GoodIn wsX2_moebius wsX3_cut := goodIn_r _ [5] (by decide +kernel) (by decide +kernel)
set_option maxRecDepth 20000 in
theorem gX2_moebius_X3_cut_n33 : GoodIn wsX2_moebius (wsX3_cut) := ggX2_moebius_X3_cut
theorem dX2_moebius_0 : decode cX2_moebius 0 = .ok (.iload_n 0, 1) := by decide +kernel
theorem dX2_moebius_1 : decode cX2_moebius 1 = .ok (.istore_n 1, 1) := by decide +kernel
theorem dX2_moebius_2 : decode cX2_moebius 2 = .ok (.iconst 1, 1) := by decide +kernel
theorem dX2_moebius_3 : decode cX2_moebius 3 = .ok (.istore_n 2, 1) := by decide +kernel
theorem dX2_moebius_4 : decode cX2_moebius 4 = .ok (.iconst 2, 1) := by decide +kernel
theorem dX2_moebius_5 : decode cX2_moebius 5 = .ok (.istore_n 3, 1) := by decide +kernel
theorem dX2_moebius_6 : decode cX2_moebius 6 = .ok (.iload_n 3, 1) := by decide +kernel
theorem dX2_moebius_7 : decode cX2_moebius 7 = .ok (.bipush 48, 2) := by decide +kernel
theorem dX2_moebius_9 : decode cX2_moebius 9 = .ok (.if_icmp .gt 36, 3) := by decide +kernel
theorem dX2_moebius_12 : decode cX2_moebius 12 = .ok (.iload_n 1, 1) := by decide +kernel
theorem dX2_moebius_13 : decode cX2_moebius 13 = .ok (.iload_n 3, 1) := by decide +kernel
theorem dX2_moebius_14 : decode cX2_moebius 14 = .ok (.invokestatic 29, 3) := by decide +kernel
theorem dX2_moebius_17 : decode cX2_moebius 17 = .ok (.ifCond .ne 22, 3) := by decide +kernel
theorem dX2_moebius_20 : decode cX2_moebius 20 = .ok (.iload_n 1, 1) := by decide +kernel
theorem dX2_moebius_21 : decode cX2_moebius 21 = .ok (.iload_n 3, 1) := by decide +kernel
theorem dX2_moebius_22 : decode cX2_moebius 22 = .ok (.invokestatic 33, 3) := by decide +kernel
theorem dX2_moebius_25 : decode cX2_moebius 25 = .ok (.istore_n 1, 1) := by decide +kernel
theorem dX2_moebius_26 : decode cX2_moebius 26 = .ok (.iload_n 2, 1) := by decide +kernel
theorem dX2_moebius_27 : decode cX2_moebius 27 = .ok (.ineg, 1) := by decide +kernel
theorem dX2_moebius_28 : decode cX2_moebius 28 = .ok (.istore_n 2, 1) := by decide +kernel
theorem dX2_moebius_29 : decode cX2_moebius 29 = .ok (.iload_n 1, 1) := by decide +kernel
theorem dX2_moebius_30 : decode cX2_moebius 30 = .ok (.iload_n 3, 1) := by decide +kernel
theorem dX2_moebius_31 : decode cX2_moebius 31 = .ok (.invokestatic 29, 3) := by decide +kernel
theorem dX2_moebius_34 : decode cX2_moebius 34 = .ok (.ifCond .ne 5, 3) := by decide +kernel
theorem dX2_moebius_37 : decode cX2_moebius 37 = .ok (.iconst 0, 1) := by decide +kernel
theorem dX2_moebius_38 : decode cX2_moebius 38 = .ok (.ireturn, 1) := by decide +kernel
theorem dX2_moebius_39 : decode cX2_moebius 39 = .ok (.iinc 3 1, 3) := by decide +kernel
theorem dX2_moebius_42 : decode cX2_moebius 42 = .ok (.goto (-36), 3) := by decide +kernel
theorem dX2_moebius_45 : decode cX2_moebius 45 = .ok (.iload_n 2, 1) := by decide +kernel
theorem dX2_moebius_46 : decode cX2_moebius 46 = .ok (.ireturn, 1) := by decide +kernel
set_option maxRecDepth 20000 in
theorem ggX2_multiplyByOneLess_X3_at : GoodIn wsX2_multiplyByOneLess wsX3_at := goodIn_r _ [5, 6, 7, 4, 8] (by decide +kernel) (by decide +kernel)
set_option maxRecDepth 20000 in
theorem gX2_multiplyByOneLess_X3_at_n54 : GoodIn wsX2_multiplyByOneLess (wsX3_at) := ggX2_multiplyByOneLess_X3_at
set_option maxRecDepth 20000 in
theorem ggX2_multiplyByOneLess_X3_put : GoodIn wsX2_multiplyByOneLess wsX3_put := goodIn_r _ [10, 6, 7, 4, 8] (by decide +kernel) (by decide +kernel)
set_option maxRecDepth 20000 in
theorem gX2_multiplyByOneLess_X3_put_n25 : GoodIn wsX2_multiplyByOneLess (wsX3_put) := ggX2_multiplyByOneLess_X3_put
theorem dX2_multiplyByOneLess_0 : decode cX2_multiplyByOneLess 0 = .ok (.aload_n 0, 1) := by decide +kernel
theorem dX2_multiplyByOneLess_1 : decode cX2_multiplyByOneLess 1 = .ok (.getfield 15, 3) := by decide +kernel
theorem dX2_multiplyByOneLess_4 : decode cX2_multiplyByOneLess 4 = .ok (.istore_n 2, 1) := by decide +kernel
theorem dX2_multiplyByOneLess_5 : decode cX2_multiplyByOneLess 5 = .ok (.iload_n 2, 1) := by decide +kernel
theorem dX2_multiplyByOneLess_6 : decode cX2_multiplyByOneLess 6 = .ok (.iload_n 1, 1) := by decide +kernel
theorem dX2_multiplyByOneLess_7 : decode cX2_multiplyByOneLess 7 = .ok (.if_icmp .lt 36, 3) := by decide +kernel
theorem dX2_multiplyByOneLess_10 : decode cX2_multiplyByOneLess 10 = .ok (.aload_n 0, 1) := by decide +kernel
theorem dX2_multiplyByOneLess_11 : decode cX2_multiplyByOneLess 11 = .ok (.getfield 9, 3) := by decide +kernel
theorem dX2_multiplyByOneLess_14 : decode cX2_multiplyByOneLess 14 = .ok (.iload_n 2, 1) := by decide +kernel
theorem dX2_multiplyByOneLess_15 : decode cX2_multiplyByOneLess 15 = .ok (.aload_n 0, 1) := by decide +kernel
theorem dX2_multiplyByOneLess_16 : decode cX2_multiplyByOneLess 16 = .ok (.getfield 9, 3) := by decide +kernel
theorem dX2_multiplyByOneLess_19 : decode cX2_multiplyByOneLess 19 = .ok (.iload_n 2, 1) := by decide +kernel
theorem dX2_multiplyByOneLess_20 : decode cX2_multiplyByOneLess 20 = .ok (.invokestatic 54, 3) := by decide +kernel
theorem dX2_multiplyByOneLess_23 : decode cX2_multiplyByOneLess 23 = .ok (.aload_n 0, 1) := by decide +kernel
theorem dX2_multiplyByOneLess_24 : decode cX2_multiplyByOneLess 24 = .ok (.getfield 9, 3) := by decide +kernel
theorem dX2_multiplyByOneLess_27 : decode cX2_multiplyByOneLess 27 = .ok (.iload_n 2, 1) := by decide +kernel
theorem dX2_multiplyByOneLess_28 : decode cX2_multiplyByOneLess 28 = .ok (.iload_n 1, 1) := by decide +kernel
theorem dX2_multiplyByOneLess_29 : decode cX2_multiplyByOneLess 29 = .ok (.isub, 1) := by decide +kernel
theorem dX2_multiplyByOneLess_30 : decode cX2_multiplyByOneLess 30 = .ok (.invokestatic 54, 3) := by decide +kernel
theorem dX2_multiplyByOneLess_33 : decode cX2_multiplyByOneLess 33 = .ok (.isub, 1) := by decide +kernel
theorem dX2_multiplyByOneLess_34 : decode cX2_multiplyByOneLess 34 = .ok (.invokestatic 25, 3) := by decide +kernel
theorem dX2_multiplyByOneLess_37 : decode cX2_multiplyByOneLess 37 = .ok (.iinc 2 (-1), 3) := by decide +kernel
theorem dX2_multiplyByOneLess_40 : decode cX2_multiplyByOneLess 40 = .ok (.goto (-35), 3) := by decide +kernel
theorem dX2_multiplyByOneLess_43 : decode cX2_multiplyByOneLess 43 = .ok (.return_, 1) := by decide +kernel
set_option maxRecDepth 20000 in
theorem ggX2_divideByOneLess_X3_at : GoodIn wsX2_divideByOneLess wsX3_at := goodIn_r _ [5, 6, 7, 4, 8] (by decide +kernel) (by decide +kernel)
set_option maxRecDepth 20000 in
theorem gX2_divideByOneLess_X3_at_n54 : GoodIn wsX2_divideByOneLess (wsX3_at) := ggX2_divideByOneLess_X3_at
set_option maxRecDepth 20000 in
theorem ggX2_divideByOneLess_X3_put : GoodIn wsX2_divideByOneLess wsX3_put := goodIn_r _ [10, 6, 7, 4, 8] (by decide +kernel) (by decide +kernel)
set_option maxRecDepth 20000 in
theorem gX2_divideByOneLess_X3_put_n25 : GoodIn wsX2_divideByOneLess (wsX3_put) := ggX2_divideByOneLess_X3_put
theorem dX2_divideByOneLess_0 : decode cX2_divideByOneLess 0 = .ok (.iload_n 1, 1) := by decide +kernel
theorem dX2_divideByOneLess_1 : decode cX2_divideByOneLess 1 = .ok (.istore_n 2, 1) := by decide +kernel
theorem dX2_divideByOneLess_2 : decode cX2_divideByOneLess 2 = .ok (.iload_n 2, 1) := by decide +kernel
theorem dX2_divideByOneLess_3 : decode cX2_divideByOneLess 3 = .ok (.aload_n 0, 1) := by decide +kernel
theorem dX2_divideByOneLess_4 : decode cX2_divideByOneLess 4 = .ok (.getfield 15, 3) := by decide +kernel
theorem dX2_divideByOneLess_7 : decode cX2_divideByOneLess 7 = .ok (.if_icmp .gt 36, 3) := by decide +kernel
theorem dX2_divideByOneLess_10 : decode cX2_divideByOneLess 10 = .ok (.aload_n 0, 1) := by decide +kernel
theorem dX2_divideByOneLess_11 : decode cX2_divideByOneLess 11 = .ok (.getfield 9, 3) := by decide +kernel
theorem dX2_divideByOneLess_14 : decode cX2_divideByOneLess 14 = .ok (.iload_n 2, 1) := by decide +kernel
theorem dX2_divideByOneLess_15 : decode cX2_divideByOneLess 15 = .ok (.aload_n 0, 1) := by decide +kernel
theorem dX2_divideByOneLess_16 : decode cX2_divideByOneLess 16 = .ok (.getfield 9, 3) := by decide +kernel
theorem dX2_divideByOneLess_19 : decode cX2_divideByOneLess 19 = .ok (.iload_n 2, 1) := by decide +kernel
theorem dX2_divideByOneLess_20 : decode cX2_divideByOneLess 20 = .ok (.invokestatic 54, 3) := by decide +kernel
theorem dX2_divideByOneLess_23 : decode cX2_divideByOneLess 23 = .ok (.aload_n 0, 1) := by decide +kernel
theorem dX2_divideByOneLess_24 : decode cX2_divideByOneLess 24 = .ok (.getfield 9, 3) := by decide +kernel
theorem dX2_divideByOneLess_27 : decode cX2_divideByOneLess 27 = .ok (.iload_n 2, 1) := by decide +kernel
theorem dX2_divideByOneLess_28 : decode cX2_divideByOneLess 28 = .ok (.iload_n 1, 1) := by decide +kernel
theorem dX2_divideByOneLess_29 : decode cX2_divideByOneLess 29 = .ok (.isub, 1) := by decide +kernel
theorem dX2_divideByOneLess_30 : decode cX2_divideByOneLess 30 = .ok (.invokestatic 54, 3) := by decide +kernel
theorem dX2_divideByOneLess_33 : decode cX2_divideByOneLess 33 = .ok (.iadd, 1) := by decide +kernel
theorem dX2_divideByOneLess_34 : decode cX2_divideByOneLess 34 = .ok (.invokestatic 25, 3) := by decide +kernel
theorem dX2_divideByOneLess_37 : decode cX2_divideByOneLess 37 = .ok (.iinc 2 1, 3) := by decide +kernel
theorem dX2_divideByOneLess_40 : decode cX2_divideByOneLess 40 = .ok (.goto (-38), 3) := by decide +kernel
theorem dX2_divideByOneLess_43 : decode cX2_divideByOneLess 43 = .ok (.return_, 1) := by decide +kernel
set_option maxRecDepth 20000 in
theorem ggX2_highestPower_X3_at : GoodIn wsX2_highestPower wsX3_at := goodIn_r _ [5, 6, 7, 4, 8] (by decide +kernel) (by decide +kernel)
set_option maxRecDepth 20000 in
theorem gX2_highestPower_X3_at_n54 : GoodIn wsX2_highestPower (wsX3_at) := ggX2_highestPower_X3_at
theorem dX2_highestPower_0 : decode cX2_highestPower 0 = .ok (.aload_n 0, 1) := by decide +kernel
theorem dX2_highestPower_1 : decode cX2_highestPower 1 = .ok (.getfield 15, 3) := by decide +kernel
theorem dX2_highestPower_4 : decode cX2_highestPower 4 = .ok (.istore_n 1, 1) := by decide +kernel
theorem dX2_highestPower_5 : decode cX2_highestPower 5 = .ok (.iload_n 1, 1) := by decide +kernel
theorem dX2_highestPower_6 : decode cX2_highestPower 6 = .ok (.ifCond .le 22, 3) := by decide +kernel
theorem dX2_highestPower_9 : decode cX2_highestPower 9 = .ok (.aload_n 0, 1) := by decide +kernel
theorem dX2_highestPower_10 : decode cX2_highestPower 10 = .ok (.getfield 9, 3) := by decide +kernel
theorem dX2_highestPower_13 : decode cX2_highestPower 13 = .ok (.iload_n 1, 1) := by decide +kernel
theorem dX2_highestPower_14 : decode cX2_highestPower 14 = .ok (.invokestatic 54, 3) := by decide +kernel
theorem dX2_highestPower_17 : decode cX2_highestPower 17 = .ok (.ifCond .eq 5, 3) := by decide +kernel
theorem dX2_highestPower_20 : decode cX2_highestPower 20 = .ok (.iload_n 1, 1) := by decide +kernel
theorem dX2_highestPower_21 : decode cX2_highestPower 21 = .ok (.ireturn, 1) := by decide +kernel
theorem dX2_highestPower_22 : decode cX2_highestPower 22 = .ok (.iinc 1 (-1), 3) := by decide +kernel
theorem dX2_highestPower_25 : decode cX2_highestPower 25 = .ok (.goto (-20), 3) := by decide +kernel
theorem dX2_highestPower_28 : decode cX2_highestPower 28 = .ok (.iconst 0, 1) := by decide +kernel
theorem dX2_highestPower_29 : decode cX2_highestPower 29 = .ok (.ireturn, 1) := by decide +kernel
set_option maxRecDepth 20000 in
theorem ggX2_reduce_X3_at : GoodIn wsX2_reduce wsX3_at := goodIn_r _ [6, 7, 8, 5, 9] (by decide +kernel) (by decide +kernel)
set_option maxRecDepth 20000 in
theorem gX2_reduce_X3_at_n54 : GoodIn wsX2_reduce (wsX3_at) := ggX2_reduce_X3_at
set_option maxRecDepth 20000 in
theorem ggX2_reduce_X3_put : GoodIn wsX2_reduce wsX3_put := goodIn_r _ [11, 7, 8, 5, 9] (by decide +kernel) (by decide +kernel)
set_option maxRecDepth 20000 in
theorem gX2_reduce_X3_put_n25 : GoodIn wsX2_reduce (wsX3_put) := ggX2_reduce_X3_put
theorem dX2_reduce_0 : decode cX2_reduce 0 = .ok (.aload_n 0, 1) := by decide +kernel
theorem dX2_reduce_1 : decode cX2_reduce 1 = .ok (.getfield 15, 3) := by decide +kernel
theorem dX2_reduce_4 : decode cX2_reduce 4 = .ok (.iconst 1, 1) := by decide +kernel
theorem dX2_reduce_5 : decode cX2_reduce 5 = .ok (.isub, 1) := by decide +kernel
theorem dX2_reduce_6 : decode cX2_reduce 6 = .ok (.istore_n 2, 1) := by decide +kernel
theorem dX2_reduce_7 : decode cX2_reduce 7 = .ok (.iload_n 2, 1) := by decide +kernel
theorem dX2_reduce_8 : decode cX2_reduce 8 = .ok (.aload_n 0, 1) := by decide +kernel
theorem dX2_reduce_9 : decode cX2_reduce 9 = .ok (.getfield 51, 3) := by decide +kernel
theorem dX2_reduce_12 : decode cX2_reduce 12 = .ok (.if_icmp .lt 68, 3) := by decide +kernel
theorem dX2_reduce_15 : decode cX2_reduce 15 = .ok (.aload_n 1, 1) := by decide +kernel
theorem dX2_reduce_16 : decode cX2_reduce 16 = .ok (.iload_n 2, 1) := by decide +kernel
theorem dX2_reduce_17 : decode cX2_reduce 17 = .ok (.invokestatic 54, 3) := by decide +kernel
theorem dX2_reduce_20 : decode cX2_reduce 20 = .ok (.istore_n 3, 1) := by decide +kernel
theorem dX2_reduce_21 : decode cX2_reduce 21 = .ok (.iconst 0, 1) := by decide +kernel
theorem dX2_reduce_22 : decode cX2_reduce 22 = .ok (.istore 4, 2) := by decide +kernel
theorem dX2_reduce_24 : decode cX2_reduce 24 = .ok (.iload 4, 2) := by decide +kernel
theorem dX2_reduce_26 : decode cX2_reduce 26 = .ok (.aload_n 0, 1) := by decide +kernel
theorem dX2_reduce_27 : decode cX2_reduce 27 = .ok (.getfield 51, 3) := by decide +kernel
theorem dX2_reduce_30 : decode cX2_reduce 30 = .ok (.if_icmp .gt 44, 3) := by decide +kernel
theorem dX2_reduce_33 : decode cX2_reduce 33 = .ok (.iload_n 2, 1) := by decide +kernel
theorem dX2_reduce_34 : decode cX2_reduce 34 = .ok (.aload_n 0, 1) := by decide +kernel
theorem dX2_reduce_35 : decode cX2_reduce 35 = .ok (.getfield 51, 3) := by decide +kernel
theorem dX2_reduce_38 : decode cX2_reduce 38 = .ok (.isub, 1) := by decide +kernel
theorem dX2_reduce_39 : decode cX2_reduce 39 = .ok (.iload 4, 2) := by decide +kernel
theorem dX2_reduce_41 : decode cX2_reduce 41 = .ok (.iadd, 1) := by decide +kernel
theorem dX2_reduce_42 : decode cX2_reduce 42 = .ok (.istore 5, 2) := by decide +kernel
theorem dX2_reduce_44 : decode cX2_reduce 44 = .ok (.aload_n 1, 1) := by decide +kernel
theorem dX2_reduce_45 : decode cX2_reduce 45 = .ok (.iload 5, 2) := by decide +kernel
theorem dX2_reduce_47 : decode cX2_reduce 47 = .ok (.aload_n 1, 1) := by decide +kernel
theorem dX2_reduce_48 : decode cX2_reduce 48 = .ok (.iload 5, 2) := by decide +kernel
theorem dX2_reduce_50 : decode cX2_reduce 50 = .ok (.invokestatic 54, 3) := by decide +kernel
theorem dX2_reduce_53 : decode cX2_reduce 53 = .ok (.iload_n 3, 1) := by decide +kernel
theorem dX2_reduce_54 : decode cX2_reduce 54 = .ok (.aload_n 0, 1) := by decide +kernel
theorem dX2_reduce_55 : decode cX2_reduce 55 = .ok (.getfield 9, 3) := by decide +kernel
theorem dX2_reduce_58 : decode cX2_reduce 58 = .ok (.iload 4, 2) := by decide +kernel
theorem dX2_reduce_60 : decode cX2_reduce 60 = .ok (.invokestatic 54, 3) := by decide +kernel
theorem dX2_reduce_63 : decode cX2_reduce 63 = .ok (.imul, 1) := by decide +kernel
theorem dX2_reduce_64 : decode cX2_reduce 64 = .ok (.isub, 1) := by decide +kernel
theorem dX2_reduce_65 : decode cX2_reduce 65 = .ok (.invokestatic 25, 3) := by decide +kernel
theorem dX2_reduce_68 : decode cX2_reduce 68 = .ok (.iinc 4 1, 3) := by decide +kernel
theorem dX2_reduce_71 : decode cX2_reduce 71 = .ok (.goto (-47), 3) := by decide +kernel
theorem dX2_reduce_74 : decode cX2_reduce 74 = .ok (.iinc 2 (-1), 3) := by decide +kernel
theorem dX2_reduce_77 : decode cX2_reduce 77 = .ok (.goto (-70), 3) := by decide +kernel
theorem dX2_reduce_80 : decode cX2_reduce 80 = .ok (.return_, 1) := by decide +kernel
set_option maxRecDepth 20000 in
theorem ggX2_multiplyByX_X3_at : GoodIn wsX2_multiplyByX wsX3_at := goodIn_r _ [5, 6, 7, 4, 8] (by decide +kernel) (by decide +kernel)
set_option maxRecDepth 20000 in
theorem gX2_multiplyByX_X3_at_n54 : GoodIn wsX2_multiplyByX (wsX3_at) := ggX2_multiplyByX_X3_at
set_option maxRecDepth 20000 in
theorem ggX2_multiplyByX_X3_put : GoodIn wsX2_multiplyByX wsX3_put := goodIn_r _ [10, 6, 7, 4, 8] (by decide +kernel) (by decide +kernel)
set_option maxRecDepth 20000 in
theorem gX2_multiplyByX_X3_put_n25 : GoodIn wsX2_multiplyByX (wsX3_put) := ggX2_multiplyByX_X3_put
theorem dX2_multiplyByX_0 : decode cX2_multiplyByX 0 = .ok (.aload_n 1, 1) := by decide +kernel
theorem dX2_multiplyByX_1 : decode cX2_multiplyByX 1 = .ok (.aload_n 0, 1) := by decide +kernel
theorem dX2_multiplyByX_2 : decode cX2_multiplyByX 2 = .ok (.getfield 51, 3) := by decide +kernel
theorem dX2_multiplyByX_5 : decode cX2_multiplyByX 5 = .ok (.iconst 1, 1) := by decide +kernel
theorem dX2_multiplyByX_6 : decode cX2_multiplyByX 6 = .ok (.isub, 1) := by decide +kernel
theorem dX2_multiplyByX_7 : decode cX2_multiplyByX 7 = .ok (.invokestatic 54, 3) := by decide +kernel
theorem dX2_multiplyByX_10 : decode cX2_multiplyByX 10 = .ok (.istore_n 2, 1) := by decide +kernel
theorem dX2_multiplyByX_11 : decode cX2_multiplyByX 11 = .ok (.aload_n 0, 1) := by decide +kernel
theorem dX2_multiplyByX_12 : decode cX2_multiplyByX 12 = .ok (.getfield 51, 3) := by decide +kernel
theorem dX2_multiplyByX_15 : decode cX2_multiplyByX 15 = .ok (.iconst 1, 1) := by decide +kernel
theorem dX2_multiplyByX_16 : decode cX2_multiplyByX 16 = .ok (.isub, 1) := by decide +kernel
theorem dX2_multiplyByX_17 : decode cX2_multiplyByX 17 = .ok (.istore_n 3, 1) := by decide +kernel
theorem dX2_multiplyByX_18 : decode cX2_multiplyByX 18 = .ok (.iload_n 3, 1) := by decide +kernel
theorem dX2_multiplyByX_19 : decode cX2_multiplyByX 19 = .ok (.ifCond .le 32, 3) := by decide +kernel
theorem dX2_multiplyByX_22 : decode cX2_multiplyByX 22 = .ok (.aload_n 1, 1) := by decide +kernel
theorem dX2_multiplyByX_23 : decode cX2_multiplyByX 23 = .ok (.iload_n 3, 1) := by decide +kernel
theorem dX2_multiplyByX_24 : decode cX2_multiplyByX 24 = .ok (.aload_n 1, 1) := by decide +kernel
theorem dX2_multiplyByX_25 : decode cX2_multiplyByX 25 = .ok (.iload_n 3, 1) := by decide +kernel
theorem dX2_multiplyByX_26 : decode cX2_multiplyByX 26 = .ok (.iconst 1, 1) := by decide +kernel
theorem dX2_multiplyByX_27 : decode cX2_multiplyByX 27 = .ok (.isub, 1) := by decide +kernel
theorem dX2_multiplyByX_28 : decode cX2_multiplyByX 28 = .ok (.invokestatic 54, 3) := by decide +kernel
theorem dX2_multiplyByX_31 : decode cX2_multiplyByX 31 = .ok (.iload_n 2, 1) := by decide +kernel
theorem dX2_multiplyByX_32 : decode cX2_multiplyByX 32 = .ok (.aload_n 0, 1) := by decide +kernel
theorem dX2_multiplyByX_33 : decode cX2_multiplyByX 33 = .ok (.getfield 9, 3) := by decide +kernel
theorem dX2_multiplyByX_36 : decode cX2_multiplyByX 36 = .ok (.iload_n 3, 1) := by decide +kernel
theorem dX2_multiplyByX_37 : decode cX2_multiplyByX 37 = .ok (.invokestatic 54, 3) := by decide +kernel
theorem dX2_multiplyByX_40 : decode cX2_multiplyByX 40 = .ok (.imul, 1) := by decide +kernel
theorem dX2_multiplyByX_41 : decode cX2_multiplyByX 41 = .ok (.isub, 1) := by decide +kernel
theorem dX2_multiplyByX_42 : decode cX2_multiplyByX 42 = .ok (.invokestatic 25, 3) := by decide +kernel
theorem dX2_multiplyByX_45 : decode cX2_multiplyByX 45 = .ok (.iinc 3 (-1), 3) := by decide +kernel
theorem dX2_multiplyByX_48 : decode cX2_multiplyByX 48 = .ok (.goto (-30), 3) := by decide +kernel
theorem dX2_multiplyByX_51 : decode cX2_multiplyByX 51 = .ok (.aload_n 1, 1) := by decide +kernel
theorem dX2_multiplyByX_52 : decode cX2_multiplyByX 52 = .ok (.iconst 0, 1) := by decide +kernel
theorem dX2_multiplyByX_53 : decode cX2_multiplyByX 53 = .ok (.iload_n 2, 1) := by decide +kernel
theorem dX2_multiplyByX_54 : decode cX2_multiplyByX 54 = .ok (.ineg, 1) := by decide +kernel
theorem dX2_multiplyByX_55 : decode cX2_multiplyByX 55 = .ok (.aload_n 0, 1) := by decide +kernel
theorem dX2_multiplyByX_56 : decode cX2_multiplyByX 56 = .ok (.getfield 9, 3) := by decide +kernel
theorem dX2_multiplyByX_59 : decode cX2_multiplyByX 59 = .ok (.iconst 0, 1) := by decide +kernel
theorem dX2_multiplyByX_60 : decode cX2_multiplyByX 60 = .ok (.invokestatic 54, 3) := by decide +kernel
theorem dX2_multiplyByX_63 : decode cX2_multiplyByX 63 = .ok (.imul, 1) := by decide +kernel
theorem dX2_multiplyByX_64 : decode cX2_multiplyByX 64 = .ok (.invokestatic 25, 3) := by decide +kernel
theorem dX2_multiplyByX_67 : decode cX2_multiplyByX 67 = .ok (.return_, 1) := by decide +kernel
set_option maxRecDepth 20000 in
theorem ggX2_isZero_X3_at : GoodIn wsX2_isZero wsX3_at := goodIn_r _ [4, 5, 6, 3, 7] (by decide +kernel) (by decide +kernel)
set_option maxRecDepth 20000 in
theorem gX2_isZero_X3_at_n54 : GoodIn wsX2_isZero (wsX3_at) := ggX2_isZero_X3_at
theorem dX2_isZero_0 : decode cX2_isZero 0 = .ok (.iconst 0, 1) := by decide +kernel
theorem dX2_isZero_1 : decode cX2_isZero 1 = .ok (.istore_n 2, 1) := by decide +kernel
theorem dX2_isZero_2 : decode cX2_isZero 2 = .ok (.iload_n 2, 1) := by decide +kernel
theorem dX2_isZero_3 : decode cX2_isZero 3 = .ok (.aload_n 0, 1) := by decide +kernel
theorem dX2_isZero_4 : decode cX2_isZero 4 = .ok (.getfield 51, 3) := by decide +kernel
theorem dX2_isZero_7 : decode cX2_isZero 7 = .ok (.if_icmp .ge 19, 3) := by decide +kernel
theorem dX2_isZero_10 : decode cX2_isZero 10 = .ok (.aload_n 1, 1) := by decide +kernel
theorem dX2_isZero_11 : decode cX2_isZero 11 = .ok (.iload_n 2, 1) := by decide +kernel
theorem dX2_isZero_12 : decode cX2_isZero 12 = .ok (.invokestatic 54, 3) := by decide +kernel
theorem dX2_isZero_15 : decode cX2_isZero 15 = .ok (.ifCond .eq 5, 3) := by decide +kernel
theorem dX2_isZero_18 : decode cX2_isZero 18 = .ok (.iconst 0, 1) := by decide +kernel
theorem dX2_isZero_19 : decode cX2_isZero 19 = .ok (.ireturn, 1) := by decide +kernel
theorem dX2_isZero_20 : decode cX2_isZero 20 = .ok (.iinc 2 1, 3) := by decide +kernel
theorem dX2_isZero_23 : decode cX2_isZero 23 = .ok (.goto (-21), 3) := by decide +kernel
theorem dX2_isZero_26 : decode cX2_isZero 26 = .ok (.iconst 1, 1) := by decide +kernel
theorem dX2_isZero_27 : decode cX2_isZero 27 = .ok (.ireturn, 1) := by decide +kernel
set_option maxRecDepth 20000 in
theorem ggX2_areSame_X3_at : GoodIn wsX2_areSame wsX3_at := goodIn_r _ [4, 5, 6, 3, 7] (by decide +kernel) (by decide +kernel)
set_option maxRecDepth 20000 in
theorem gX2_areSame_X3_at_n54 : GoodIn wsX2_areSame (wsX3_at) := ggX2_areSame_X3_at
theorem dX2_areSame_0 : decode cX2_areSame 0 = .ok (.iconst 0, 1) := by decide +kernel
theorem dX2_areSame_1 : decode cX2_areSame 1 = .ok (.istore_n 3, 1) := by decide +kernel
theorem dX2_areSame_2 : decode cX2_areSame 2 = .ok (.iload_n 3, 1) := by decide +kernel
theorem dX2_areSame_3 : decode cX2_areSame 3 = .ok (.aload_n 0, 1) := by decide +kernel
theorem dX2_areSame_4 : decode cX2_areSame 4 = .ok (.getfield 51, 3) := by decide +kernel
theorem dX2_areSame_7 : decode cX2_areSame 7 = .ok (.if_icmp .ge 24, 3) := by decide +kernel
theorem dX2_areSame_10 : decode cX2_areSame 10 = .ok (.aload_n 1, 1) := by decide +kernel
theorem dX2_areSame_11 : decode cX2_areSame 11 = .ok (.iload_n 3, 1) := by decide +kernel
theorem dX2_areSame_12 : decode cX2_areSame 12 = .ok (.invokestatic 54, 3) := by decide +kernel
theorem dX2_areSame_15 : decode cX2_areSame 15 = .ok (.aload_n 2, 1) := by decide +kernel
theorem dX2_areSame_16 : decode cX2_areSame 16 = .ok (.iload_n 3, 1) := by decide +kernel
theorem dX2_areSame_17 : decode cX2_areSame 17 = .ok (.invokestatic 54, 3) := by decide +kernel
theorem dX2_areSame_20 : decode cX2_areSame 20 = .ok (.if_icmp .eq 5, 3) := by decide +kernel
theorem dX2_areSame_23 : decode cX2_areSame 23 = .ok (.iconst 0, 1) := by decide +kernel
theorem dX2_areSame_24 : decode cX2_areSame 24 = .ok (.ireturn, 1) := by decide +kernel
theorem dX2_areSame_25 : decode cX2_areSame 25 = .ok (.iinc 3 1, 3) := by decide +kernel
theorem dX2_areSame_28 : decode cX2_areSame 28 = .ok (.goto (-26), 3) := by decide +kernel
theorem dX2_areSame_31 : decode cX2_areSame 31 = .ok (.iconst 1, 1) := by decide +kernel
theorem dX2_areSame_32 : decode cX2_areSame 32 = .ok (.ireturn, 1) := by decide +kernel
theorem dJ7_fill_53178_0 : decode cJ7_fill_53178 0 = .ok (.iconst 0, 1) := by decide +kernel
theorem dJ7_fill_53178_1 : decode cJ7_fill_53178 1 = .ok (.istore_n 2, 1) := by decide +kernel
theorem dJ7_fill_53178_2 : decode cJ7_fill_53178 2 = .ok (.aload_n 0, 1) := by decide +kernel
theorem dJ7_fill_53178_3 : decode cJ7_fill_53178 3 = .ok (.arraylength, 1) := by decide +kernel
theorem dJ7_fill_53178_4 : decode cJ7_fill_53178 4 = .ok (.istore_n 3, 1) := by decide +kernel
theorem dJ7_fill_53178_5 : decode cJ7_fill_53178 5 = .ok (.iload_n 2, 1) := by decide +kernel
theorem dJ7_fill_53178_6 : decode cJ7_fill_53178 6 = .ok (.iload_n 3, 1) := by decide +kernel
theorem dJ7_fill_53178_7 : decode cJ7_fill_53178 7 = .ok (.if_icmp .ge 13, 3) := by decide +kernel
theorem dJ7_fill_53178_10 : decode cJ7_fill_53178 10 = .ok (.aload_n 0, 1) := by decide +kernel
theorem dJ7_fill_53178_11 : decode cJ7_fill_53178 11 = .ok (.iload_n 2, 1) := by decide +kernel
theorem dJ7_fill_53178_12 : decode cJ7_fill_53178 12 = .ok (.iload_n 1, 1) := by decide +kernel
theorem dJ7_fill_53178_13 : decode cJ7_fill_53178 13 = .ok (.iastore, 1) := by decide +kernel
theorem dJ7_fill_53178_14 : decode cJ7_fill_53178 14 = .ok (.iinc 2 1, 3) := by decide +kernel
theorem dJ7_fill_53178_17 : decode cJ7_fill_53178 17 = .ok (.goto (-12), 3) := by decide +kernel
theorem dJ7_fill_53178_20 : decode cJ7_fill_53178 20 = .ok (.return_, 1) := by decide +kernel
