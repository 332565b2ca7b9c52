set_option maxRecDepth 20000 in
theorem ggX4_laySum_X4_leaveOver : GoodIn wsX4_laySum wsX4_leaveOver := goodIn_r _ [51, 26, 1, 25, 3, 4, 5, 6, 7, 2, 8, 9, 10, 11, 12, 13, 14, 15, 52, 53, 54, 55, 56, 57, 58, 59, 60, 61, 62, 63, 64, 65, 66, 67] (by decide +kernel) (by decide +kernel)
set_option maxRecDepth 20000 in
theorem gX4_laySum_X4_leaveOver : GoodIn wsX4_laySum (wsV RX4 106 RX4 yX4_leaveOver wsX4_leaveOver) := goodIn_app (goodIn_of _ (by decide +kernel)) ggX4_laySum_X4_leaveOver
theorem dX4_laySum_0 : decode cX4_laySum 0 = .ok (.aload_n 0, 1) := by decide +kernel
theorem dX4_laySum_1 : decode cX4_laySum 1 = .ok (.invokevirtual 56, 3) := by decide +kernel
theorem dX4_laySum_4 : decode cX4_laySum 4 = .ok (.istore 5, 2) := by decide +kernel
theorem dX4_laySum_6 : decode cX4_laySum 6 = .ok (.aload_n 0, 1) := by decide +kernel
theorem dX4_laySum_7 : decode cX4_laySum 7 = .ok (.invokevirtual 103, 3) := by decide +kernel
theorem dX4_laySum_10 : decode cX4_laySum 10 = .ok (.iconst 0, 1) := by decide +kernel
theorem dX4_laySum_11 : decode cX4_laySum 11 = .ok (.istore 6, 2) := by decide +kernel
theorem dX4_laySum_13 : decode cX4_laySum 13 = .ok (.iload 6, 2) := by decide +kernel
theorem dX4_laySum_15 : decode cX4_laySum 15 = .ok (.bipush 49, 2) := by decide +kernel
theorem dX4_laySum_17 : decode cX4_laySum 17 = .ok (.if_icmp .ge 22, 3) := by decide +kernel
theorem dX4_laySum_20 : decode cX4_laySum 20 = .ok (.aload_n 0, 1) := by decide +kernel
theorem dX4_laySum_21 : decode cX4_laySum 21 = .ok (.getfield 32, 3) := by decide +kernel
theorem dX4_laySum_24 : decode cX4_laySum 24 = .ok (.bipush 49, 2) := by decide +kernel
theorem dX4_laySum_26 : decode cX4_laySum 26 = .ok (.iload_n 1, 1) := by decide +kernel
theorem dX4_laySum_27 : decode cX4_laySum 27 = .ok (.imul, 1) := by decide +kernel
theorem dX4_laySum_28 : decode cX4_laySum 28 = .ok (.iload 6, 2) := by decide +kernel
theorem dX4_laySum_30 : decode cX4_laySum 30 = .ok (.iadd, 1) := by decide +kernel
theorem dX4_laySum_31 : decode cX4_laySum 31 = .ok (.iconst 0, 1) := by decide +kernel
theorem dX4_laySum_32 : decode cX4_laySum 32 = .ok (.iastore, 1) := by decide +kernel
theorem dX4_laySum_33 : decode cX4_laySum 33 = .ok (.iinc 6 1, 3) := by decide +kernel
theorem dX4_laySum_36 : decode cX4_laySum 36 = .ok (.goto (-23), 3) := by decide +kernel
theorem dX4_laySum_39 : decode cX4_laySum 39 = .ok (.iconst 0, 1) := by decide +kernel
theorem dX4_laySum_40 : decode cX4_laySum 40 = .ok (.istore 6, 2) := by decide +kernel
theorem dX4_laySum_42 : decode cX4_laySum 42 = .ok (.iload 6, 2) := by decide +kernel
theorem dX4_laySum_44 : decode cX4_laySum 44 = .ok (.iload 5, 2) := by decide +kernel
theorem dX4_laySum_46 : decode cX4_laySum 46 = .ok (.if_icmp .ge 95, 3) := by decide +kernel
theorem dX4_laySum_49 : decode cX4_laySum 49 = .ok (.aload_n 0, 1) := by decide +kernel
theorem dX4_laySum_50 : decode cX4_laySum 50 = .ok (.iload 6, 2) := by decide +kernel
theorem dX4_laySum_52 : decode cX4_laySum 52 = .ok (.invokevirtual 84, 3) := by decide +kernel
theorem dX4_laySum_55 : decode cX4_laySum 55 = .ok (.iload_n 2, 1) := by decide +kernel
theorem dX4_laySum_56 : decode cX4_laySum 56 = .ok (.if_icmp .ne 79, 3) := by decide +kernel
theorem dX4_laySum_59 : decode cX4_laySum 59 = .ok (.aload_n 0, 1) := by decide +kernel
theorem dX4_laySum_60 : decode cX4_laySum 60 = .ok (.iload 6, 2) := by decide +kernel
theorem dX4_laySum_62 : decode cX4_laySum 62 = .ok (.invokevirtual 87, 3) := by decide +kernel
theorem dX4_laySum_65 : decode cX4_laySum 65 = .ok (.ifCond .eq 7, 3) := by decide +kernel
theorem dX4_laySum_68 : decode cX4_laySum 68 = .ok (.iconst 1, 1) := by decide +kernel
theorem dX4_laySum_69 : decode cX4_laySum 69 = .ok (.goto 4, 3) := by decide +kernel
theorem dX4_laySum_72 : decode cX4_laySum 72 = .ok (.iconst (-1), 1) := by decide +kernel
theorem dX4_laySum_73 : decode cX4_laySum 73 = .ok (.istore 7, 2) := by decide +kernel
theorem dX4_laySum_75 : decode cX4_laySum 75 = .ok (.aload_n 0, 1) := by decide +kernel
theorem dX4_laySum_76 : decode cX4_laySum 76 = .ok (.getfield 32, 3) := by decide +kernel
theorem dX4_laySum_79 : decode cX4_laySum 79 = .ok (.bipush 49, 2) := by decide +kernel
theorem dX4_laySum_81 : decode cX4_laySum 81 = .ok (.iload_n 1, 1) := by decide +kernel
theorem dX4_laySum_82 : decode cX4_laySum 82 = .ok (.imul, 1) := by decide +kernel
theorem dX4_laySum_83 : decode cX4_laySum 83 = .ok (.iload_n 3, 1) := by decide +kernel
theorem dX4_laySum_84 : decode cX4_laySum 84 = .ok (.aload_n 0, 1) := by decide +kernel
theorem dX4_laySum_85 : decode cX4_laySum 85 = .ok (.iload 6, 2) := by decide +kernel
theorem dX4_laySum_87 : decode cX4_laySum 87 = .ok (.invokevirtual 69, 3) := by decide +kernel
theorem dX4_laySum_90 : decode cX4_laySum 90 = .ok (.imul, 1) := by decide +kernel
theorem dX4_laySum_91 : decode cX4_laySum 91 = .ok (.iload 5, 2) := by decide +kernel
theorem dX4_laySum_93 : decode cX4_laySum 93 = .ok (.irem, 1) := by decide +kernel
theorem dX4_laySum_94 : decode cX4_laySum 94 = .ok (.iadd, 1) := by decide +kernel
theorem dX4_laySum_95 : decode cX4_laySum 95 = .ok (.dup2, 1) := by decide +kernel
theorem dX4_laySum_96 : decode cX4_laySum 96 = .ok (.iaload, 1) := by decide +kernel
theorem dX4_laySum_97 : decode cX4_laySum 97 = .ok (.iload 7, 2) := by decide +kernel
theorem dX4_laySum_99 : decode cX4_laySum 99 = .ok (.iadd, 1) := by decide +kernel
theorem dX4_laySum_100 : decode cX4_laySum 100 = .ok (.iastore, 1) := by decide +kernel
theorem dX4_laySum_101 : decode cX4_laySum 101 = .ok (.aload_n 0, 1) := by decide +kernel
theorem dX4_laySum_102 : decode cX4_laySum 102 = .ok (.getfield 32, 3) := by decide +kernel
theorem dX4_laySum_105 : decode cX4_laySum 105 = .ok (.bipush 49, 2) := by decide +kernel
theorem dX4_laySum_107 : decode cX4_laySum 107 = .ok (.iload_n 1, 1) := by decide +kernel
theorem dX4_laySum_108 : decode cX4_laySum 108 = .ok (.imul, 1) := by decide +kernel
theorem dX4_laySum_109 : decode cX4_laySum 109 = .ok (.iload_n 3, 1) := by decide +kernel
theorem dX4_laySum_110 : decode cX4_laySum 110 = .ok (.aload_n 0, 1) := by decide +kernel
theorem dX4_laySum_111 : decode cX4_laySum 111 = .ok (.iload 6, 2) := by decide +kernel
theorem dX4_laySum_113 : decode cX4_laySum 113 = .ok (.iload 4, 2) := by decide +kernel
theorem dX4_laySum_115 : decode cX4_laySum 115 = .ok (.iadd, 1) := by decide +kernel
theorem dX4_laySum_116 : decode cX4_laySum 116 = .ok (.aload_n 0, 1) := by decide +kernel
theorem dX4_laySum_117 : decode cX4_laySum 117 = .ok (.getfield 7, 3) := by decide +kernel
theorem dX4_laySum_120 : decode cX4_laySum 120 = .ok (.irem, 1) := by decide +kernel
theorem dX4_laySum_121 : decode cX4_laySum 121 = .ok (.invokevirtual 69, 3) := by decide +kernel
theorem dX4_laySum_124 : decode cX4_laySum 124 = .ok (.imul, 1) := by decide +kernel
theorem dX4_laySum_125 : decode cX4_laySum 125 = .ok (.iload 5, 2) := by decide +kernel
theorem dX4_laySum_127 : decode cX4_laySum 127 = .ok (.irem, 1) := by decide +kernel
theorem dX4_laySum_128 : decode cX4_laySum 128 = .ok (.iadd, 1) := by decide +kernel
theorem dX4_laySum_129 : decode cX4_laySum 129 = .ok (.dup2, 1) := by decide +kernel
theorem dX4_laySum_130 : decode cX4_laySum 130 = .ok (.iaload, 1) := by decide +kernel
theorem dX4_laySum_131 : decode cX4_laySum 131 = .ok (.iload 7, 2) := by decide +kernel
theorem dX4_laySum_133 : decode cX4_laySum 133 = .ok (.isub, 1) := by decide +kernel
theorem dX4_laySum_134 : decode cX4_laySum 134 = .ok (.iastore, 1) := by decide +kernel
theorem dX4_laySum_135 : decode cX4_laySum 135 = .ok (.iinc 6 1, 3) := by decide +kernel
theorem dX4_laySum_138 : decode cX4_laySum 138 = .ok (.goto (-96), 3) := by decide +kernel
theorem dX4_laySum_141 : decode cX4_laySum 141 = .ok (.aload_n 0, 1) := by decide +kernel
theorem dX4_laySum_142 : decode cX4_laySum 142 = .ok (.iload_n 1, 1) := by decide +kernel
theorem dX4_laySum_143 : decode cX4_laySum 143 = .ok (.invokevirtual 106, 3) := by decide +kernel
theorem dX4_laySum_146 : decode cX4_laySum 146 = .ok (.return_, 1) := by decide +kernel
set_option maxRecDepth 20000 in
theorem ggX4_sum_X4_isPhase : GoodIn wsX4_sum wsX4_isPhase := goodIn_r _ [11, 12, 13, 14, 10, 15, 71, 72, 73, 74, 75, 76, 77, 78, 79, 80, 81, 82, 83, 84, 85, 86] (by decide +kernel) (by decide +kernel)
set_option maxRecDepth 20000 in
theorem gX4_sum_X4_isPhase : GoodIn wsX4_sum (wsV RX4 93 RX4 yX4_isPhase wsX4_isPhase) := goodIn_app (goodIn_of _ (by decide +kernel)) ggX4_sum_X4_isPhase
set_option maxRecDepth 20000 in
theorem ggX4_sum_X4_layOwn : GoodIn wsX4_sum wsX4_layOwn := goodIn_r _ [19, 20, 21, 22, 10, 23, 24, 25, 26, 27, 28, 29, 30, 31, 32, 33, 34, 35, 36, 37, 38, 2, 39, 40, 41, 42, 71, 72, 73, 74, 75, 76, 77, 78, 79, 80, 81, 82, 83, 84, 85, 86] (by decide +kernel) (by decide +kernel)
set_option maxRecDepth 20000 in
theorem gX4_sum_X4_layOwn : GoodIn wsX4_sum (wsV RX4 103 RX4 yX4_layOwn wsX4_layOwn) := goodIn_app (goodIn_of _ (by decide +kernel)) ggX4_sum_X4_layOwn
set_option maxRecDepth 20000 in
theorem ggX4_sum_X4_in : GoodIn wsX4_sum wsX4_in := goodIn_r _ [15] (by decide +kernel) (by decide +kernel)
set_option maxRecDepth 20000 in
theorem gX4_sum_X4_in : GoodIn wsX4_sum (va_wsS RX4 59 yX4_in wsX4_in) := goodIn_app (goodIn_of _ (by decide +kernel)) ggX4_sum_X4_in
set_option maxRecDepth 20000 in
theorem ggX4_sum_X4_star : GoodIn wsX4_sum wsX4_star := goodIn_r _ [23, 24, 25, 26, 27, 10, 28, 29, 30, 31, 32, 71, 72, 73, 74, 75, 76, 77, 78, 79, 80, 81, 82, 83, 84, 85, 86] (by decide +kernel) (by decide +kernel)
set_option maxRecDepth 20000 in
theorem gX4_sum_X4_star : GoodIn wsX4_sum (wsV RX4 56 RX4 yX4_star wsX4_star) := goodIn_app (goodIn_of _ (by decide +kernel)) ggX4_sum_X4_star
set_option maxRecDepth 20000 in
theorem ggX4_sum_X4_isBalanced : GoodIn wsX4_sum wsX4_isBalanced := goodIn_r _ [46, 12, 20, 21, 22, 10, 23, 24, 25, 26, 27, 28, 29, 30, 31, 32, 71, 72, 73, 74, 75, 76, 77, 78, 79, 80, 81, 82, 83, 84, 85, 86] (by decide +kernel) (by decide +kernel)
set_option maxRecDepth 20000 in
theorem gX4_sum_X4_isBalanced : GoodIn wsX4_sum (wsV RX4 80 RX4 yX4_isBalanced wsX4_isBalanced) := goodIn_app (goodIn_of _ (by decide +kernel)) ggX4_sum_X4_isBalanced
set_option maxRecDepth 20000 in
theorem ggX4_sum_X4_laySum : GoodIn wsX4_sum wsX4_laySum := goodIn_r _ [50, 6, 24, 20, 21, 22, 10, 23, 25, 26, 27, 28, 29, 30, 31, 32, 16, 17, 18, 19, 33, 34, 35, 36, 37, 38, 2, 39, 40, 41, 42, 51, 52, 53, 54, 12, 55, 56, 57, 58, 59, 60, 61, 62, 63, 64, 65, 66, 67, 68, 69, 70, 71, 72, 73, 74, 75, 76, 77, 78, 79, 80, 81, 82, 83, 84, 85, 86] (by decide +kernel) (by decide +kernel)
set_option maxRecDepth 20000 in
theorem gX4_sum_X4_laySum : GoodIn wsX4_sum (wsV RX4 112 RX4 yX4_laySum wsX4_laySum) := goodIn_app (goodIn_of _ (by decide +kernel)) ggX4_sum_X4_laySum
theorem dX4_sum_0 : decode cX4_sum 0 = .ok (.aload_n 0, 1) := by decide +kernel
theorem dX4_sum_1 : decode cX4_sum 1 = .ok (.iload_n 1, 1) := by decide +kernel
theorem dX4_sum_2 : decode cX4_sum 2 = .ok (.invokevirtual 93, 3) := by decide +kernel
theorem dX4_sum_5 : decode cX4_sum 5 = .ok (.ifCond .ne 6, 3) := by decide +kernel
theorem dX4_sum_8 : decode cX4_sum 8 = .ok (.ldc 109, 2) := by decide +kernel
theorem dX4_sum_10 : decode cX4_sum 10 = .ok (.ireturn, 1) := by decide +kernel
theorem dX4_sum_11 : decode cX4_sum 11 = .ok (.aload_n 0, 1) := by decide +kernel
theorem dX4_sum_12 : decode cX4_sum 12 = .ok (.invokevirtual 103, 3) := by decide +kernel
theorem dX4_sum_15 : decode cX4_sum 15 = .ok (.iload_n 2, 1) := by decide +kernel
theorem dX4_sum_16 : decode cX4_sum 16 = .ok (.iconst 1, 1) := by decide +kernel
theorem dX4_sum_17 : decode cX4_sum 17 = .ok (.bipush 99, 2) := by decide +kernel
theorem dX4_sum_19 : decode cX4_sum 19 = .ok (.invokestatic 59, 3) := by decide +kernel
theorem dX4_sum_22 : decode cX4_sum 22 = .ok (.ifCond .eq 22, 3) := by decide +kernel
theorem dX4_sum_25 : decode cX4_sum 25 = .ok (.iload_n 3, 1) := by decide +kernel
theorem dX4_sum_26 : decode cX4_sum 26 = .ok (.iconst 0, 1) := by decide +kernel
theorem dX4_sum_27 : decode cX4_sum 27 = .ok (.aload_n 0, 1) := by decide +kernel
theorem dX4_sum_28 : decode cX4_sum 28 = .ok (.getfield 26, 3) := by decide +kernel
theorem dX4_sum_31 : decode cX4_sum 31 = .ok (.aload_n 0, 1) := by decide +kernel
theorem dX4_sum_32 : decode cX4_sum 32 = .ok (.invokevirtual 56, 3) := by decide +kernel
theorem dX4_sum_35 : decode cX4_sum 35 = .ok (.iaload, 1) := by decide +kernel
theorem dX4_sum_36 : decode cX4_sum 36 = .ok (.iconst 1, 1) := by decide +kernel
theorem dX4_sum_37 : decode cX4_sum 37 = .ok (.isub, 1) := by decide +kernel
theorem dX4_sum_38 : decode cX4_sum 38 = .ok (.invokestatic 59, 3) := by decide +kernel
theorem dX4_sum_41 : decode cX4_sum 41 = .ok (.ifCond .ne 6, 3) := by decide +kernel
theorem dX4_sum_44 : decode cX4_sum 44 = .ok (.ldc 110, 2) := by decide +kernel
theorem dX4_sum_46 : decode cX4_sum 46 = .ok (.ireturn, 1) := by decide +kernel
theorem dX4_sum_47 : decode cX4_sum 47 = .ok (.aload_n 0, 1) := by decide +kernel
theorem dX4_sum_48 : decode cX4_sum 48 = .ok (.invokevirtual 80, 3) := by decide +kernel
theorem dX4_sum_51 : decode cX4_sum 51 = .ok (.ifCond .ne 6, 3) := by decide +kernel
theorem dX4_sum_54 : decode cX4_sum 54 = .ok (.ldc 111, 2) := by decide +kernel
theorem dX4_sum_56 : decode cX4_sum 56 = .ok (.ireturn, 1) := by decide +kernel
theorem dX4_sum_57 : decode cX4_sum 57 = .ok (.aload_n 0, 1) := by decide +kernel
theorem dX4_sum_58 : decode cX4_sum 58 = .ok (.iconst 0, 1) := by decide +kernel
theorem dX4_sum_59 : decode cX4_sum 59 = .ok (.iload_n 1, 1) := by decide +kernel
theorem dX4_sum_60 : decode cX4_sum 60 = .ok (.iload_n 2, 1) := by decide +kernel
theorem dX4_sum_61 : decode cX4_sum 61 = .ok (.aload_n 0, 1) := by decide +kernel
theorem dX4_sum_62 : decode cX4_sum 62 = .ok (.getfield 19, 3) := by decide +kernel
theorem dX4_sum_65 : decode cX4_sum 65 = .ok (.invokevirtual 112, 3) := by decide +kernel
theorem dX4_sum_68 : decode cX4_sum 68 = .ok (.aload_n 0, 1) := by decide +kernel
theorem dX4_sum_69 : decode cX4_sum 69 = .ok (.getfield 32, 3) := by decide +kernel
theorem dX4_sum_72 : decode cX4_sum 72 = .ok (.iload_n 3, 1) := by decide +kernel
theorem dX4_sum_73 : decode cX4_sum 73 = .ok (.iaload, 1) := by decide +kernel
theorem dX4_sum_74 : decode cX4_sum 74 = .ok (.ireturn, 1) := by decide +kernel
set_option maxRecDepth 20000 in
theorem ggX4_isNone_X4_laySum : GoodIn wsX4_isNone wsX4_laySum := goodIn_r _ [6, 1, 7, 8, 9, 10, 5, 11, 12, 13, 14, 15, 16, 17, 18, 19, 20, 21, 22, 23, 24, 25, 26, 27, 28, 29, 30, 31, 32, 33, 34, 35, 36, 37, 38, 39, 40, 41, 42, 43, 44, 45, 46, 47, 48, 49, 50, 51, 52, 53, 54, 55, 56, 57, 58, 59, 60, 61, 62, 63, 64, 65, 66, 67, 68, 69, 70, 71] (by decide +kernel) (by decide +kernel)
set_option maxRecDepth 20000 in
theorem gX4_isNone_X4_laySum : GoodIn wsX4_isNone (wsV RX4 112 RX4 yX4_laySum wsX4_laySum) := goodIn_app (goodIn_of _ (by decide +kernel)) ggX4_isNone_X4_laySum
theorem dX4_isNone_0 : decode cX4_isNone 0 = .ok (.aload_n 0, 1) := by decide +kernel
theorem dX4_isNone_1 : decode cX4_isNone 1 = .ok (.iconst 0, 1) := by decide +kernel
theorem dX4_isNone_2 : decode cX4_isNone 2 = .ok (.iconst 0, 1) := by decide +kernel
theorem dX4_isNone_3 : decode cX4_isNone 3 = .ok (.iload_n 1, 1) := by decide +kernel
theorem dX4_isNone_4 : decode cX4_isNone 4 = .ok (.iload_n 2, 1) := by decide +kernel
theorem dX4_isNone_5 : decode cX4_isNone 5 = .ok (.invokevirtual 112, 3) := by decide +kernel
theorem dX4_isNone_8 : decode cX4_isNone 8 = .ok (.iconst 1, 1) := by decide +kernel
theorem dX4_isNone_9 : decode cX4_isNone 9 = .ok (.istore_n 3, 1) := by decide +kernel
theorem dX4_isNone_10 : decode cX4_isNone 10 = .ok (.iconst 0, 1) := by decide +kernel
theorem dX4_isNone_11 : decode cX4_isNone 11 = .ok (.istore 4, 2) := by decide +kernel
theorem dX4_isNone_13 : decode cX4_isNone 13 = .ok (.iload 4, 2) := by decide +kernel
theorem dX4_isNone_15 : decode cX4_isNone 15 = .ok (.bipush 49, 2) := by decide +kernel
theorem dX4_isNone_17 : decode cX4_isNone 17 = .ok (.if_icmp .ge 29, 3) := by decide +kernel
theorem dX4_isNone_20 : decode cX4_isNone 20 = .ok (.iload_n 3, 1) := by decide +kernel
theorem dX4_isNone_21 : decode cX4_isNone 21 = .ok (.ifCond .eq 17, 3) := by decide +kernel
theorem dX4_isNone_24 : decode cX4_isNone 24 = .ok (.aload_n 0, 1) := by decide +kernel
theorem dX4_isNone_25 : decode cX4_isNone 25 = .ok (.getfield 32, 3) := by decide +kernel
theorem dX4_isNone_28 : decode cX4_isNone 28 = .ok (.iload 4, 2) := by decide +kernel
theorem dX4_isNone_30 : decode cX4_isNone 30 = .ok (.iaload, 1) := by decide +kernel
theorem dX4_isNone_31 : decode cX4_isNone 31 = .ok (.ifCond .ne 7, 3) := by decide +kernel
theorem dX4_isNone_34 : decode cX4_isNone 34 = .ok (.iconst 1, 1) := by decide +kernel
theorem dX4_isNone_35 : decode cX4_isNone 35 = .ok (.goto 4, 3) := by decide +kernel
theorem dX4_isNone_38 : decode cX4_isNone 38 = .ok (.iconst 0, 1) := by decide +kernel
theorem dX4_isNone_39 : decode cX4_isNone 39 = .ok (.istore_n 3, 1) := by decide +kernel
theorem dX4_isNone_40 : decode cX4_isNone 40 = .ok (.iinc 4 1, 3) := by decide +kernel
theorem dX4_isNone_43 : decode cX4_isNone 43 = .ok (.goto (-30), 3) := by decide +kernel
theorem dX4_isNone_46 : decode cX4_isNone 46 = .ok (.iload_n 3, 1) := by decide +kernel
theorem dX4_isNone_47 : decode cX4_isNone 47 = .ok (.ireturn, 1) := by decide +kernel
set_option maxRecDepth 20000 in
theorem ggX4_vanishes_X4_in : GoodIn wsX4_vanishes wsX4_in := goodIn_r _ [5] (by decide +kernel) (by decide +kernel)
set_option maxRecDepth 20000 in
theorem gX4_vanishes_X4_in : GoodIn wsX4_vanishes (va_wsS RX4 59 yX4_in wsX4_in) := goodIn_app (goodIn_of _ (by decide +kernel)) ggX4_vanishes_X4_in
set_option maxRecDepth 20000 in
theorem ggX4_vanishes_X4_isBalanced : GoodIn wsX4_vanishes wsX4_isBalanced := goodIn_r _ [9, 10, 11, 12, 13, 4, 14, 15, 16, 17, 18, 19, 20, 21, 22, 23, 68, 69, 70, 71, 72, 73, 74, 75, 76, 77, 78, 79, 80, 81, 82, 83] (by decide +kernel) (by decide +kernel)
set_option maxRecDepth 20000 in
theorem gX4_vanishes_X4_isBalanced : GoodIn wsX4_vanishes (wsV RX4 80 RX4 yX4_isBalanced wsX4_isBalanced) := goodIn_app (goodIn_of _ (by decide +kernel)) ggX4_vanishes_X4_isBalanced
set_option maxRecDepth 20000 in
theorem ggX4_vanishes_X4_isNone : GoodIn wsX4_vanishes wsX4_isNone := goodIn_r _ [27, 28, 29, 30, 31, 4, 32, 15, 11, 12, 13, 14, 16, 17, 18, 19, 20, 21, 22, 23, 33, 34, 35, 36, 37, 38, 39, 40, 41, 42, 43, 44, 45, 46, 47, 48, 49, 50, 51, 10, 52, 53, 54, 55, 56, 57, 58, 59, 60, 61, 62, 63, 64, 65, 66, 67, 68, 69, 70, 71, 72, 73, 74, 75, 76, 77, 78, 79, 80, 81, 82, 83] (by decide +kernel) (by decide +kernel)
set_option maxRecDepth 20000 in
theorem gX4_vanishes_X4_isNone : GoodIn wsX4_vanishes (wsV RX4 116 RX4 yX4_isNone wsX4_isNone) := goodIn_app (goodIn_of _ (by decide +kernel)) ggX4_vanishes_X4_isNone
theorem dX4_vanishes_0 : decode cX4_vanishes 0 = .ok (.iload_n 1, 1) := by decide +kernel
theorem dX4_vanishes_1 : decode cX4_vanishes 1 = .ok (.iconst 1, 1) := by decide +kernel
theorem dX4_vanishes_2 : decode cX4_vanishes 2 = .ok (.bipush 99, 2) := by decide +kernel
theorem dX4_vanishes_4 : decode cX4_vanishes 4 = .ok (.invokestatic 59, 3) := by decide +kernel
theorem dX4_vanishes_7 : decode cX4_vanishes 7 = .ok (.ifCond .ne 6, 3) := by decide +kernel
theorem dX4_vanishes_10 : decode cX4_vanishes 10 = .ok (.bipush (-2), 2) := by decide +kernel
theorem dX4_vanishes_12 : decode cX4_vanishes 12 = .ok (.ireturn, 1) := by decide +kernel
theorem dX4_vanishes_13 : decode cX4_vanishes 13 = .ok (.aload_n 0, 1) := by decide +kernel
theorem dX4_vanishes_14 : decode cX4_vanishes 14 = .ok (.invokevirtual 80, 3) := by decide +kernel
theorem dX4_vanishes_17 : decode cX4_vanishes 17 = .ok (.ifCond .ne 8, 3) := by decide +kernel
theorem dX4_vanishes_20 : decode cX4_vanishes 20 = .ok (.bipush (-3), 2) := by decide +kernel
theorem dX4_vanishes_22 : decode cX4_vanishes 22 = .ok (.goto 20, 3) := by decide +kernel
theorem dX4_vanishes_25 : decode cX4_vanishes 25 = .ok (.aload_n 0, 1) := by decide +kernel
theorem dX4_vanishes_26 : decode cX4_vanishes 26 = .ok (.iload_n 1, 1) := by decide +kernel
theorem dX4_vanishes_27 : decode cX4_vanishes 27 = .ok (.aload_n 0, 1) := by decide +kernel
theorem dX4_vanishes_28 : decode cX4_vanishes 28 = .ok (.getfield 19, 3) := by decide +kernel
theorem dX4_vanishes_31 : decode cX4_vanishes 31 = .ok (.invokevirtual 116, 3) := by decide +kernel
theorem dX4_vanishes_34 : decode cX4_vanishes 34 = .ok (.ifCond .eq 7, 3) := by decide +kernel
theorem dX4_vanishes_37 : decode cX4_vanishes 37 = .ok (.iconst 1, 1) := by decide +kernel
theorem dX4_vanishes_38 : decode cX4_vanishes 38 = .ok (.goto 4, 3) := by decide +kernel
theorem dX4_vanishes_41 : decode cX4_vanishes 41 = .ok (.iconst 0, 1) := by decide +kernel
theorem dX4_vanishes_42 : decode cX4_vanishes 42 = .ok (.ireturn, 1) := by decide +kernel
set_option maxRecDepth 20000 in
theorem ggX4_choose_X4_in : GoodIn wsX4_choose wsX4_in := goodIn_r _ [4] (by decide +kernel) (by decide +kernel)
set_option maxRecDepth 20000 in
theorem gX4_choose_X4_in : GoodIn wsX4_choose (va_wsS RX4 59 yX4_in wsX4_in) := goodIn_app (goodIn_of _ (by decide +kernel)) ggX4_choose_X4_in
set_option maxRecDepth 20000 in
theorem ggX4_choose_X4_isBalanced : GoodIn wsX4_choose wsX4_isBalanced := goodIn_r _ [8, 9, 10, 11, 12, 3, 13, 14, 15, 16, 17, 18, 19, 20, 21, 22, 74, 75, 76, 77, 78, 79, 80, 81, 82, 83, 84, 85, 86, 87, 88, 89] (by decide +kernel) (by decide +kernel)
set_option maxRecDepth 20000 in
theorem gX4_choose_X4_isBalanced : GoodIn wsX4_choose (wsV RX4 80 RX4 yX4_isBalanced wsX4_isBalanced) := goodIn_app (goodIn_of _ (by decide +kernel)) ggX4_choose_X4_isBalanced
set_option maxRecDepth 20000 in
theorem ggX4_choose_X4_pitch : GoodIn wsX4_choose wsX4_pitch := goodIn_r _ [26, 14, 19, 27, 28, 3, 29, 74, 75, 76, 77, 78, 79, 80, 81, 82, 83, 84, 85, 86, 87, 88, 89] (by decide +kernel) (by decide +kernel)
set_option maxRecDepth 20000 in
theorem gX4_choose_X4_pitch : GoodIn wsX4_choose (wsV RX4 66 RX4 yX4_pitch wsX4_pitch) := goodIn_app (goodIn_of _ (by decide +kernel)) ggX4_choose_X4_pitch
set_option maxRecDepth 20000 in
theorem ggX4_choose_X4_isNone : GoodIn wsX4_choose wsX4_isNone := goodIn_r _ [33, 34, 35, 36, 37, 3, 38, 14, 10, 11, 12, 13, 15, 16, 17, 18, 19, 20, 21, 22, 39, 40, 41, 42, 43, 44, 45, 46, 47, 48, 49, 50, 51, 52, 53, 54, 55, 56, 57, 9, 58, 59, 60, 61, 62, 63, 64, 65, 66, 67, 68, 69, 70, 71, 72, 73, 74, 75, 76, 77, 78, 79, 80, 81, 82, 83, 84, 85, 86, 87, 88, 89] (by decide +kernel) (by decide +kernel)
set_option maxRecDepth 20000 in
theorem gX4_choose_X4_isNone : GoodIn wsX4_choose (wsV RX4 116 RX4 yX4_isNone wsX4_isNone) := goodIn_app (goodIn_of _ (by decide +kernel)) ggX4_choose_X4_isNone
theorem dX4_choose_0 : decode cX4_choose 0 = .ok (.iload_n 1, 1) := by decide +kernel
theorem dX4_choose_1 : decode cX4_choose 1 = .ok (.iconst 1, 1) := by decide +kernel
theorem dX4_choose_2 : decode cX4_choose 2 = .ok (.bipush 99, 2) := by decide +kernel
theorem dX4_choose_4 : decode cX4_choose 4 = .ok (.invokestatic 59, 3) := by decide +kernel
theorem dX4_choose_7 : decode cX4_choose 7 = .ok (.ifCond .ne 6, 3) := by decide +kernel
theorem dX4_choose_10 : decode cX4_choose 10 = .ok (.bipush (-2), 2) := by decide +kernel
theorem dX4_choose_12 : decode cX4_choose 12 = .ok (.ireturn, 1) := by decide +kernel
theorem dX4_choose_13 : decode cX4_choose 13 = .ok (.aload_n 0, 1) := by decide +kernel
theorem dX4_choose_14 : decode cX4_choose 14 = .ok (.invokevirtual 80, 3) := by decide +kernel
theorem dX4_choose_17 : decode cX4_choose 17 = .ok (.ifCond .ne 6, 3) := by decide +kernel
theorem dX4_choose_20 : decode cX4_choose 20 = .ok (.bipush (-3), 2) := by decide +kernel
theorem dX4_choose_22 : decode cX4_choose 22 = .ok (.ireturn, 1) := by decide +kernel
theorem dX4_choose_23 : decode cX4_choose 23 = .ok (.aload_n 0, 1) := by decide +kernel
theorem dX4_choose_24 : decode cX4_choose 24 = .ok (.invokevirtual 66, 3) := by decide +kernel
theorem dX4_choose_27 : decode cX4_choose 27 = .ok (.istore_n 2, 1) := by decide +kernel
theorem dX4_choose_28 : decode cX4_choose 28 = .ok (.iload_n 2, 1) := by decide +kernel
theorem dX4_choose_29 : decode cX4_choose 29 = .ok (.ifCond .le 20, 3) := by decide +kernel
theorem dX4_choose_32 : decode cX4_choose 32 = .ok (.aload_n 0, 1) := by decide +kernel
theorem dX4_choose_33 : decode cX4_choose 33 = .ok (.iload_n 1, 1) := by decide +kernel
theorem dX4_choose_34 : decode cX4_choose 34 = .ok (.iload_n 2, 1) := by decide +kernel
theorem dX4_choose_35 : decode cX4_choose 35 = .ok (.invokevirtual 116, 3) := by decide +kernel
theorem dX4_choose_38 : decode cX4_choose 38 = .ok (.ifCond .eq 5, 3) := by decide +kernel
theorem dX4_choose_41 : decode cX4_choose 41 = .ok (.iload_n 2, 1) := by decide +kernel
theorem dX4_choose_42 : decode cX4_choose 42 = .ok (.ireturn, 1) := by decide +kernel
theorem dX4_choose_43 : decode cX4_choose 43 = .ok (.iinc 2 (-1), 3) := by decide +kernel
theorem dX4_choose_46 : decode cX4_choose 46 = .ok (.goto (-18), 3) := by decide +kernel
theorem dX4_choose_49 : decode cX4_choose 49 = .ok (.bipush (-6), 2) := by decide +kernel
theorem dX4_choose_51 : decode cX4_choose 51 = .ok (.ireturn, 1) := by decide +kernel
set_option maxRecDepth 20000 in
theorem ggX4_turned_X4_isPhase : GoodIn wsX4_turned wsX4_isPhase := goodIn_r _ [7, 8, 9, 10, 6, 11, 68, 69, 70, 71, 72, 73, 74, 75, 76, 77, 78, 79, 80, 81, 82, 83] (by decide +kernel) (by decide +kernel)
set_option maxRecDepth 20000 in
theorem gX4_turned_X4_isPhase : GoodIn wsX4_turned (wsV RX4 93 RX4 yX4_isPhase wsX4_isPhase) := goodIn_app (goodIn_of _ (by decide +kernel)) ggX4_turned_X4_isPhase
set_option maxRecDepth 20000 in
theorem ggX4_turned_X4_in : GoodIn wsX4_turned wsX4_in := goodIn_r _ [11] (by decide +kernel) (by decide +kernel)
set_option maxRecDepth 20000 in
theorem gX4_turned_X4_in : GoodIn wsX4_turned (va_wsS RX4 59 yX4_in wsX4_in) := goodIn_app (goodIn_of _ (by decide +kernel)) ggX4_turned_X4_in
set_option maxRecDepth 20000 in
theorem ggX4_turned_X4_isBalanced : GoodIn wsX4_turned wsX4_isBalanced := goodIn_r _ [15, 8, 16, 17, 18, 6, 19, 20, 21, 22, 23, 24, 25, 26, 27, 28, 68, 69, 70, 71, 72, 73, 74, 75, 76, 77, 78, 79, 80, 81, 82, 83] (by decide +kernel) (by decide +kernel)
set_option maxRecDepth 20000 in
theorem gX4_turned_X4_isBalanced : GoodIn wsX4_turned (wsV RX4 80 RX4 yX4_isBalanced wsX4_isBalanced) := goodIn_app (goodIn_of _ (by decide +kernel)) ggX4_turned_X4_isBalanced
set_option maxRecDepth 20000 in
theorem ggX4_turned_X4_laySum : GoodIn wsX4_turned wsX4_laySum := goodIn_r _ [32, 2, 20, 16, 17, 18, 6, 19, 21, 22, 23, 24, 25, 26, 27, 28, 33, 34, 35, 36, 37, 38, 39, 40, 41, 42, 43, 44, 45, 46, 47, 48, 49, 50, 51, 8, 52, 53, 54, 55, 56, 57, 58, 59, 60, 61, 62, 63, 64, 65, 66, 67, 68, 69, 70, 71, 72, 73, 74, 75, 76, 77, 78, 79, 80, 81, 82, 83] (by decide +kernel) (by decide +kernel)
set_option maxRecDepth 20000 in
theorem gX4_turned_X4_laySum : GoodIn wsX4_turned (wsV RX4 112 RX4 yX4_laySum wsX4_laySum) := goodIn_app (goodIn_of _ (by decide +kernel)) ggX4_turned_X4_laySum
set_option maxRecDepth 20000 in
theorem ggX4_turned_X4_star : GoodIn wsX4_turned wsX4_star := goodIn_r _ [19, 20, 21, 22, 23, 6, 24, 25, 26, 27, 28, 68, 69, 70, 71, 72, 73, 74, 75, 76, 77, 78, 79, 80, 81, 82, 83] (by decide +kernel) (by decide +kernel)
set_option maxRecDepth 20000 in
theorem gX4_turned_X4_star : GoodIn wsX4_turned (wsV RX4 56 RX4 yX4_star wsX4_star) := goodIn_app (goodIn_of _ (by decide +kernel)) ggX4_turned_X4_star
set_option maxRecDepth 20000 in
theorem ggX4_turned_X4_leaveOver : GoodIn wsX4_turned wsX4_leaveOver := goodIn_r _ [67, 43, 2, 42, 16, 17, 18, 6, 19, 20, 21, 22, 23, 24, 25, 26, 27, 28, 68, 69, 70, 71, 72, 73, 74, 75, 76, 77, 78, 79, 80, 81, 82, 83] (by decide +kernel) (by decide +kernel)
set_option maxRecDepth 20000 in
theorem gX4_turned_X4_leaveOver : GoodIn wsX4_turned (wsV RX4 106 RX4 yX4_leaveOver wsX4_leaveOver) := goodIn_app (goodIn_of _ (by decide +kernel)) ggX4_turned_X4_leaveOver
theorem dX4_turned_0 : decode cX4_turned 0 = .ok (.aload_n 0, 1) := by decide +kernel
theorem dX4_turned_1 : decode cX4_turned 1 = .ok (.iload_n 1, 1) := by decide +kernel
theorem dX4_turned_2 : decode cX4_turned 2 = .ok (.invokevirtual 93, 3) := by decide +kernel
theorem dX4_turned_5 : decode cX4_turned 5 = .ok (.ifCond .eq 11, 3) := by decide +kernel
theorem dX4_turned_8 : decode cX4_turned 8 = .ok (.aload_n 0, 1) := by decide +kernel
theorem dX4_turned_9 : decode cX4_turned 9 = .ok (.iload_n 2, 1) := by decide +kernel
theorem dX4_turned_10 : decode cX4_turned 10 = .ok (.invokevirtual 93, 3) := by decide +kernel
theorem dX4_turned_13 : decode cX4_turned 13 = .ok (.ifCond .ne 5, 3) := by decide +kernel
theorem dX4_turned_16 : decode cX4_turned 16 = .ok (.iconst (-1), 1) := by decide +kernel
theorem dX4_turned_17 : decode cX4_turned 17 = .ok (.ireturn, 1) := by decide +kernel
theorem dX4_turned_18 : decode cX4_turned 18 = .ok (.iload_n 3, 1) := by decide +kernel
theorem dX4_turned_19 : decode cX4_turned 19 = .ok (.iconst 1, 1) := by decide +kernel
theorem dX4_turned_20 : decode cX4_turned 20 = .ok (.bipush 99, 2) := by decide +kernel
theorem dX4_turned_22 : decode cX4_turned 22 = .ok (.invokestatic 59, 3) := by decide +kernel
theorem dX4_turned_25 : decode cX4_turned 25 = .ok (.ifCond .ne 6, 3) := by decide +kernel
theorem dX4_turned_28 : decode cX4_turned 28 = .ok (.bipush (-2), 2) := by decide +kernel
theorem dX4_turned_30 : decode cX4_turned 30 = .ok (.ireturn, 1) := by decide +kernel
theorem dX4_turned_31 : decode cX4_turned 31 = .ok (.aload_n 0, 1) := by decide +kernel
theorem dX4_turned_32 : decode cX4_turned 32 = .ok (.invokevirtual 80, 3) := by decide +kernel
theorem dX4_turned_35 : decode cX4_turned 35 = .ok (.ifCond .ne 6, 3) := by decide +kernel
theorem dX4_turned_38 : decode cX4_turned 38 = .ok (.bipush (-3), 2) := by decide +kernel
theorem dX4_turned_40 : decode cX4_turned 40 = .ok (.ireturn, 1) := by decide +kernel
theorem dX4_turned_41 : decode cX4_turned 41 = .ok (.aload_n 0, 1) := by decide +kernel
theorem dX4_turned_42 : decode cX4_turned 42 = .ok (.iconst 0, 1) := by decide +kernel
theorem dX4_turned_43 : decode cX4_turned 43 = .ok (.iload_n 1, 1) := by decide +kernel
theorem dX4_turned_44 : decode cX4_turned 44 = .ok (.iload_n 3, 1) := by decide +kernel
theorem dX4_turned_45 : decode cX4_turned 45 = .ok (.aload_n 0, 1) := by decide +kernel
theorem dX4_turned_46 : decode cX4_turned 46 = .ok (.getfield 19, 3) := by decide +kernel
theorem dX4_turned_49 : decode cX4_turned 49 = .ok (.invokevirtual 112, 3) := by decide +kernel
theorem dX4_turned_52 : decode cX4_turned 52 = .ok (.aload_n 0, 1) := by decide +kernel
theorem dX4_turned_53 : decode cX4_turned 53 = .ok (.iconst 1, 1) := by decide +kernel
theorem dX4_turned_54 : decode cX4_turned 54 = .ok (.iload_n 2, 1) := by decide +kernel
theorem dX4_turned_55 : decode cX4_turned 55 = .ok (.iload_n 3, 1) := by decide +kernel
theorem dX4_turned_56 : decode cX4_turned 56 = .ok (.aload_n 0, 1) := by decide +kernel
theorem dX4_turned_57 : decode cX4_turned 57 = .ok (.getfield 19, 3) := by decide +kernel
theorem dX4_turned_60 : decode cX4_turned 60 = .ok (.invokevirtual 112, 3) := by decide +kernel
theorem dX4_turned_63 : decode cX4_turned 63 = .ok (.aload_n 0, 1) := by decide +kernel
theorem dX4_turned_64 : decode cX4_turned 64 = .ok (.invokevirtual 56, 3) := by decide +kernel
theorem dX4_turned_67 : decode cX4_turned 67 = .ok (.istore 4, 2) := by decide +kernel
theorem dX4_turned_69 : decode cX4_turned 69 = .ok (.iconst 0, 1) := by decide +kernel
theorem dX4_turned_70 : decode cX4_turned 70 = .ok (.istore 5, 2) := by decide +kernel
theorem dX4_turned_72 : decode cX4_turned 72 = .ok (.iload 5, 2) := by decide +kernel
theorem dX4_turned_74 : decode cX4_turned 74 = .ok (.iload 4, 2) := by decide +kernel
theorem dX4_turned_76 : decode cX4_turned 76 = .ok (.if_icmp .ge 125, 3) := by decide +kernel
theorem dX4_turned_79 : decode cX4_turned 79 = .ok (.iconst 1, 1) := by decide +kernel
theorem dX4_turned_80 : decode cX4_turned 80 = .ok (.istore 6, 2) := by decide +kernel
theorem dX4_turned_82 : decode cX4_turned 82 = .ok (.iconst 0, 1) := by decide +kernel
theorem dX4_turned_83 : decode cX4_turned 83 = .ok (.istore 7, 2) := by decide +kernel
theorem dX4_turned_85 : decode cX4_turned 85 = .ok (.iload 7, 2) := by decide +kernel
theorem dX4_turned_87 : decode cX4_turned 87 = .ok (.bipush 49, 2) := by decide +kernel
theorem dX4_turned_89 : decode cX4_turned 89 = .ok (.if_icmp .ge 41, 3) := by decide +kernel
theorem dX4_turned_92 : decode cX4_turned 92 = .ok (.iload 6, 2) := by decide +kernel
theorem dX4_turned_94 : decode cX4_turned 94 = .ok (.ifCond .eq 27, 3) := by decide +kernel
theorem dX4_turned_97 : decode cX4_turned 97 = .ok (.aload_n 0, 1) := by decide +kernel
theorem dX4_turned_98 : decode cX4_turned 98 = .ok (.getfield 32, 3) := by decide +kernel
theorem dX4_turned_101 : decode cX4_turned 101 = .ok (.iload 7, 2) := by decide +kernel
theorem dX4_turned_103 : decode cX4_turned 103 = .ok (.iaload, 1) := by decide +kernel
theorem dX4_turned_104 : decode cX4_turned 104 = .ok (.aload_n 0, 1) := by decide +kernel
theorem dX4_turned_105 : decode cX4_turned 105 = .ok (.getfield 32, 3) := by decide +kernel
theorem dX4_turned_108 : decode cX4_turned 108 = .ok (.bipush 49, 2) := by decide +kernel
theorem dX4_turned_110 : decode cX4_turned 110 = .ok (.iload 7, 2) := by decide +kernel
theorem dX4_turned_112 : decode cX4_turned 112 = .ok (.iadd, 1) := by decide +kernel
theorem dX4_turned_113 : decode cX4_turned 113 = .ok (.iaload, 1) := by decide +kernel
theorem dX4_turned_114 : decode cX4_turned 114 = .ok (.if_icmp .ne 7, 3) := by decide +kernel
theorem dX4_turned_117 : decode cX4_turned 117 = .ok (.iconst 1, 1) := by decide +kernel
theorem dX4_turned_118 : decode cX4_turned 118 = .ok (.goto 4, 3) := by decide +kernel
theorem dX4_turned_121 : decode cX4_turned 121 = .ok (.iconst 0, 1) := by decide +kernel
theorem dX4_turned_122 : decode cX4_turned 122 = .ok (.istore 6, 2) := by decide +kernel
theorem dX4_turned_124 : decode cX4_turned 124 = .ok (.iinc 7 1, 3) := by decide +kernel
theorem dX4_turned_127 : decode cX4_turned 127 = .ok (.goto (-42), 3) := by decide +kernel
theorem dX4_turned_130 : decode cX4_turned 130 = .ok (.iload 6, 2) := by decide +kernel
theorem dX4_turned_132 : decode cX4_turned 132 = .ok (.ifCond .eq 6, 3) := by decide +kernel
theorem dX4_turned_135 : decode cX4_turned 135 = .ok (.iload 5, 2) := by decide +kernel
theorem dX4_turned_137 : decode cX4_turned 137 = .ok (.ireturn, 1) := by decide +kernel
theorem dX4_turned_138 : decode cX4_turned 138 = .ok (.iload 4, 2) := by decide +kernel
theorem dX4_turned_140 : decode cX4_turned 140 = .ok (.istore 7, 2) := by decide +kernel
theorem dX4_turned_142 : decode cX4_turned 142 = .ok (.iload 7, 2) := by decide +kernel
theorem dX4_turned_144 : decode cX4_turned 144 = .ok (.ifCond .le 25, 3) := by decide +kernel
theorem dX4_turned_147 : decode cX4_turned 147 = .ok (.aload_n 0, 1) := by decide +kernel
theorem dX4_turned_148 : decode cX4_turned 148 = .ok (.getfield 32, 3) := by decide +kernel
theorem dX4_turned_151 : decode cX4_turned 151 = .ok (.iload 7, 2) := by decide +kernel
theorem dX4_turned_153 : decode cX4_turned 153 = .ok (.aload_n 0, 1) := by decide +kernel
theorem dX4_turned_154 : decode cX4_turned 154 = .ok (.getfield 32, 3) := by decide +kernel
theorem dX4_turned_157 : decode cX4_turned 157 = .ok (.iload 7, 2) := by decide +kernel
theorem dX4_turned_159 : decode cX4_turned 159 = .ok (.iconst 1, 1) := by decide +kernel
theorem dX4_turned_160 : decode cX4_turned 160 = .ok (.isub, 1) := by decide +kernel
theorem dX4_turned_161 : decode cX4_turned 161 = .ok (.iaload, 1) := by decide +kernel
theorem dX4_turned_162 : decode cX4_turned 162 = .ok (.iastore, 1) := by decide +kernel
theorem dX4_turned_163 : decode cX4_turned 163 = .ok (.iinc 7 (-1), 3) := by decide +kernel
theorem dX4_turned_166 : decode cX4_turned 166 = .ok (.goto (-24), 3) := by decide +kernel
theorem dX4_turned_169 : decode cX4_turned 169 = .ok (.aload_n 0, 1) := by decide +kernel
theorem dX4_turned_170 : decode cX4_turned 170 = .ok (.getfield 32, 3) := by decide +kernel
theorem dX4_turned_173 : decode cX4_turned 173 = .ok (.iconst 0, 1) := by decide +kernel
theorem dX4_turned_174 : decode cX4_turned 174 = .ok (.aload_n 0, 1) := by decide +kernel
theorem dX4_turned_175 : decode cX4_turned 175 = .ok (.getfield 32, 3) := by decide +kernel
theorem dX4_turned_178 : decode cX4_turned 178 = .ok (.iload 4, 2) := by decide +kernel
theorem dX4_turned_180 : decode cX4_turned 180 = .ok (.iaload, 1) := by decide +kernel
theorem dX4_turned_181 : decode cX4_turned 181 = .ok (.iastore, 1) := by decide +kernel
theorem dX4_turned_182 : decode cX4_turned 182 = .ok (.aload_n 0, 1) := by decide +kernel
theorem dX4_turned_183 : decode cX4_turned 183 = .ok (.getfield 32, 3) := by decide +kernel
theorem dX4_turned_186 : decode cX4_turned 186 = .ok (.iload 4, 2) := by decide +kernel
theorem dX4_turned_188 : decode cX4_turned 188 = .ok (.iconst 0, 1) := by decide +kernel
theorem dX4_turned_189 : decode cX4_turned 189 = .ok (.iastore, 1) := by decide +kernel
theorem dX4_turned_190 : decode cX4_turned 190 = .ok (.aload_n 0, 1) := by decide +kernel
theorem dX4_turned_191 : decode cX4_turned 191 = .ok (.iconst 0, 1) := by decide +kernel
theorem dX4_turned_192 : decode cX4_turned 192 = .ok (.invokevirtual 106, 3) := by decide +kernel
theorem dX4_turned_195 : decode cX4_turned 195 = .ok (.iinc 5 1, 3) := by decide +kernel
theorem dX4_turned_198 : decode cX4_turned 198 = .ok (.goto (-126), 3) := by decide +kernel
theorem dX4_turned_201 : decode cX4_turned 201 = .ok (.bipush (-6), 2) := by decide +kernel
theorem dX4_turned_203 : decode cX4_turned 203 = .ok (.ireturn, 1) := by decide +kernel
theorem dX4_wayOf_0 : decode cX4_wayOf 0 = .ok (.iload_n 1, 1) := by decide +kernel
theorem dX4_wayOf_1 : decode cX4_wayOf 1 = .ok (.iload_n 2, 1) := by decide +kernel
theorem dX4_wayOf_2 : decode cX4_wayOf 2 = .ok (.if_icmp .ge 9, 3) := by decide +kernel
theorem dX4_wayOf_5 : decode cX4_wayOf 5 = .ok (.iload_n 2, 1) := by decide +kernel
theorem dX4_wayOf_6 : decode cX4_wayOf 6 = .ok (.iload_n 1, 1) := by decide +kernel
theorem dX4_wayOf_7 : decode cX4_wayOf 7 = .ok (.isub, 1) := by decide +kernel
theorem dX4_wayOf_8 : decode cX4_wayOf 8 = .ok (.goto 6, 3) := by decide +kernel
theorem dX4_wayOf_11 : decode cX4_wayOf 11 = .ok (.iload_n 1, 1) := by decide +kernel
theorem dX4_wayOf_12 : decode cX4_wayOf 12 = .ok (.iload_n 2, 1) := by decide +kernel
theorem dX4_wayOf_13 : decode cX4_wayOf 13 = .ok (.isub, 1) := by decide +kernel
theorem dX4_wayOf_14 : decode cX4_wayOf 14 = .ok (.istore_n 3, 1) := by decide +kernel
theorem dX4_wayOf_15 : decode cX4_wayOf 15 = .ok (.iload_n 3, 1) := by decide +kernel
theorem dX4_wayOf_16 : decode cX4_wayOf 16 = .ok (.aload_n 0, 1) := by decide +kernel
theorem dX4_wayOf_17 : decode cX4_wayOf 17 = .ok (.getfield 7, 3) := by decide +kernel
theorem dX4_wayOf_20 : decode cX4_wayOf 20 = .ok (.iload_n 3, 1) := by decide +kernel
theorem dX4_wayOf_21 : decode cX4_wayOf 21 = .ok (.isub, 1) := by decide +kernel
theorem dX4_wayOf_22 : decode cX4_wayOf 22 = .ok (.if_icmp .ge 7, 3) := by decide +kernel
theorem dX4_wayOf_25 : decode cX4_wayOf 25 = .ok (.iload_n 3, 1) := by decide +kernel
theorem dX4_wayOf_26 : decode cX4_wayOf 26 = .ok (.goto 9, 3) := by decide +kernel
theorem dX4_wayOf_29 : decode cX4_wayOf 29 = .ok (.aload_n 0, 1) := by decide +kernel
theorem dX4_wayOf_30 : decode cX4_wayOf 30 = .ok (.getfield 7, 3) := by decide +kernel
theorem dX4_wayOf_33 : decode cX4_wayOf 33 = .ok (.iload_n 3, 1) := by decide +kernel
theorem dX4_wayOf_34 : decode cX4_wayOf 34 = .ok (.isub, 1) := by decide +kernel
theorem dX4_wayOf_35 : decode cX4_wayOf 35 = .ok (.ireturn, 1) := by decide +kernel
set_option maxRecDepth 20000 in
theorem ggX4_join_X4_phaseOf : GoodIn wsX4_join wsX4_phaseOf := goodIn_r _ [12, 13, 14, 15, 16, 11, 17, 18, 19, 20, 21, 22, 3, 23, 24, 25, 26, 27, 28, 29, 30, 31, 32, 33, 42, 43, 44, 45, 46, 47, 48, 49, 50, 51, 52, 53, 54, 55, 56, 57] (by decide +kernel) (by decide +kernel)
set_option maxRecDepth 20000 in
theorem gX4_join_X4_phaseOf : GoodIn wsX4_join (wsV RX4 84 RX4 yX4_phaseOf wsX4_phaseOf) := goodIn_app (goodIn_of _ (by decide +kernel)) ggX4_join_X4_phaseOf
set_option maxRecDepth 20000 in
theorem ggX4_join_X4_isForward : GoodIn wsX4_join wsX4_isForward := goodIn_r _ [37, 14, 15, 16, 11, 17, 13, 18, 19, 20, 21, 22, 3, 23, 24, 25, 26, 27, 28, 29, 30, 31, 32, 33, 42, 43, 44, 45, 46, 47, 48, 49, 50, 51, 52, 53, 54, 55, 56, 57] (by decide +kernel) (by decide +kernel)
set_option maxRecDepth 20000 in
theorem gX4_join_X4_isForward : GoodIn wsX4_join (wsV RX4 87 RX4 yX4_isForward wsX4_isForward) := goodIn_app (goodIn_of _ (by decide +kernel)) ggX4_join_X4_isForward
set_option maxRecDepth 20000 in
theorem ggX4_join_X4_wayOf : GoodIn wsX4_join wsX4_wayOf := goodIn_r _ [41, 3, 42, 43, 44, 45, 46, 47, 48, 49, 50, 51, 52, 53, 54, 55, 56, 57] (by decide +kernel) (by decide +kernel)
set_option maxRecDepth 20000 in
theorem gX4_join_X4_wayOf : GoodIn wsX4_join (wsV RX4 132 RX4 yX4_wayOf wsX4_wayOf) := goodIn_app (goodIn_of _ (by decide +kernel)) ggX4_join_X4_wayOf
theorem dX4_join_0 : decode cX4_join 0 = .ok (.aload_n 0, 1) := by decide +kernel
theorem dX4_join_1 : decode cX4_join 1 = .ok (.iconst 0, 1) := by decide +kernel
theorem dX4_join_2 : decode cX4_join 2 = .ok (.putfield 120, 3) := by decide +kernel
theorem dX4_join_5 : decode cX4_join 5 = .ok (.aload_n 0, 1) := by decide +kernel
theorem dX4_join_6 : decode cX4_join 6 = .ok (.iconst 0, 1) := by decide +kernel
theorem dX4_join_7 : decode cX4_join 7 = .ok (.putfield 123, 3) := by decide +kernel
theorem dX4_join_10 : decode cX4_join 10 = .ok (.iconst 0, 1) := by decide +kernel
theorem dX4_join_11 : decode cX4_join 11 = .ok (.istore_n 2, 1) := by decide +kernel
theorem dX4_join_12 : decode cX4_join 12 = .ok (.iload_n 2, 1) := by decide +kernel
theorem dX4_join_13 : decode cX4_join 13 = .ok (.aload_n 0, 1) := by decide +kernel
theorem dX4_join_14 : decode cX4_join 14 = .ok (.getfield 7, 3) := by decide +kernel
theorem dX4_join_17 : decode cX4_join 17 = .ok (.if_icmp .ge 78, 3) := by decide +kernel
theorem dX4_join_20 : decode cX4_join 20 = .ok (.aload_n 0, 1) := by decide +kernel
theorem dX4_join_21 : decode cX4_join 21 = .ok (.iload_n 2, 1) := by decide +kernel
theorem dX4_join_22 : decode cX4_join 22 = .ok (.invokevirtual 84, 3) := by decide +kernel
theorem dX4_join_25 : decode cX4_join 25 = .ok (.iload_n 1, 1) := by decide +kernel
theorem dX4_join_26 : decode cX4_join 26 = .ok (.if_icmp .ne 34, 3) := by decide +kernel
theorem dX4_join_29 : decode cX4_join 29 = .ok (.aload_n 0, 1) := by decide +kernel
theorem dX4_join_30 : decode cX4_join 30 = .ok (.iload_n 2, 1) := by decide +kernel
theorem dX4_join_31 : decode cX4_join 31 = .ok (.invokevirtual 87, 3) := by decide +kernel
theorem dX4_join_34 : decode cX4_join 34 = .ok (.ifCond .eq 26, 3) := by decide +kernel
theorem dX4_join_37 : decode cX4_join 37 = .ok (.aload_n 0, 1) := by decide +kernel
theorem dX4_join_38 : decode cX4_join 38 = .ok (.getfield 35, 3) := by decide +kernel
theorem dX4_join_41 : decode cX4_join 41 = .ok (.aload_n 0, 1) := by decide +kernel
theorem dX4_join_42 : decode cX4_join 42 = .ok (.getfield 120, 3) := by decide +kernel
theorem dX4_join_45 : decode cX4_join 45 = .ok (.iload_n 2, 1) := by decide +kernel
theorem dX4_join_46 : decode cX4_join 46 = .ok (.iastore, 1) := by decide +kernel
theorem dX4_join_47 : decode cX4_join 47 = .ok (.aload_n 0, 1) := by decide +kernel
theorem dX4_join_48 : decode cX4_join 48 = .ok (.dup, 1) := by decide +kernel
theorem dX4_join_49 : decode cX4_join 49 = .ok (.getfield 120, 3) := by decide +kernel
theorem dX4_join_52 : decode cX4_join 52 = .ok (.iconst 1, 1) := by decide +kernel
theorem dX4_join_53 : decode cX4_join 53 = .ok (.iadd, 1) := by decide +kernel
theorem dX4_join_54 : decode cX4_join 54 = .ok (.putfield 120, 3) := by decide +kernel
theorem dX4_join_57 : decode cX4_join 57 = .ok (.goto 32, 3) := by decide +kernel
theorem dX4_join_60 : decode cX4_join 60 = .ok (.aload_n 0, 1) := by decide +kernel
theorem dX4_join_61 : decode cX4_join 61 = .ok (.iload_n 2, 1) := by decide +kernel
theorem dX4_join_62 : decode cX4_join 62 = .ok (.invokevirtual 84, 3) := by decide +kernel
theorem dX4_join_65 : decode cX4_join 65 = .ok (.iload_n 1, 1) := by decide +kernel
theorem dX4_join_66 : decode cX4_join 66 = .ok (.if_icmp .ne 23, 3) := by decide +kernel
theorem dX4_join_69 : decode cX4_join 69 = .ok (.aload_n 0, 1) := by decide +kernel
theorem dX4_join_70 : decode cX4_join 70 = .ok (.getfield 38, 3) := by decide +kernel
theorem dX4_join_73 : decode cX4_join 73 = .ok (.aload_n 0, 1) := by decide +kernel
theorem dX4_join_74 : decode cX4_join 74 = .ok (.getfield 123, 3) := by decide +kernel
theorem dX4_join_77 : decode cX4_join 77 = .ok (.iload_n 2, 1) := by decide +kernel
theorem dX4_join_78 : decode cX4_join 78 = .ok (.iastore, 1) := by decide +kernel
theorem dX4_join_79 : decode cX4_join 79 = .ok (.aload_n 0, 1) := by decide +kernel
theorem dX4_join_80 : decode cX4_join 80 = .ok (.dup, 1) := by decide +kernel
theorem dX4_join_81 : decode cX4_join 81 = .ok (.getfield 123, 3) := by decide +kernel
theorem dX4_join_84 : decode cX4_join 84 = .ok (.iconst 1, 1) := by decide +kernel
theorem dX4_join_85 : decode cX4_join 85 = .ok (.iadd, 1) := by decide +kernel
theorem dX4_join_86 : decode cX4_join 86 = .ok (.putfield 123, 3) := by decide +kernel
theorem dX4_join_89 : decode cX4_join 89 = .ok (.iinc 2 1, 3) := by decide +kernel
theorem dX4_join_92 : decode cX4_join 92 = .ok (.goto (-80), 3) := by decide +kernel
theorem dX4_join_95 : decode cX4_join 95 = .ok (.aload_n 0, 1) := by decide +kernel
theorem dX4_join_96 : decode cX4_join 96 = .ok (.getfield 120, 3) := by decide +kernel
theorem dX4_join_99 : decode cX4_join 99 = .ok (.aload_n 0, 1) := by decide +kernel
theorem dX4_join_100 : decode cX4_join 100 = .ok (.getfield 123, 3) := by decide +kernel
theorem dX4_join_103 : decode cX4_join 103 = .ok (.if_icmp .eq 5, 3) := by decide +kernel
theorem dX4_join_106 : decode cX4_join 106 = .ok (.iconst 0, 1) := by decide +kernel
theorem dX4_join_107 : decode cX4_join 107 = .ok (.ireturn, 1) := by decide +kernel
theorem dX4_join_108 : decode cX4_join 108 = .ok (.aload_n 0, 1) := by decide +kernel
theorem dX4_join_109 : decode cX4_join 109 = .ok (.iconst 0, 1) := by decide +kernel
theorem dX4_join_110 : decode cX4_join 110 = .ok (.putfield 126, 3) := by decide +kernel
theorem dX4_join_113 : decode cX4_join 113 = .ok (.aload_n 0, 1) := by decide +kernel
theorem dX4_join_114 : decode cX4_join 114 = .ok (.iconst 0, 1) := by decide +kernel
theorem dX4_join_115 : decode cX4_join 115 = .ok (.putfield 129, 3) := by decide +kernel
theorem dX4_join_118 : decode cX4_join 118 = .ok (.iconst 0, 1) := by decide +kernel
theorem dX4_join_119 : decode cX4_join 119 = .ok (.istore_n 2, 1) := by decide +kernel
theorem dX4_join_120 : decode cX4_join 120 = .ok (.iload_n 2, 1) := by decide +kernel
theorem dX4_join_121 : decode cX4_join 121 = .ok (.aload_n 0, 1) := by decide +kernel
theorem dX4_join_122 : decode cX4_join 122 = .ok (.getfield 120, 3) := by decide +kernel
theorem dX4_join_125 : decode cX4_join 125 = .ok (.if_icmp .ge 79, 3) := by decide +kernel
theorem dX4_join_128 : decode cX4_join 128 = .ok (.iconst 0, 1) := by decide +kernel
theorem dX4_join_129 : decode cX4_join 129 = .ok (.istore_n 3, 1) := by decide +kernel
theorem dX4_join_130 : decode cX4_join 130 = .ok (.iconst 0, 1) := by decide +kernel
theorem dX4_join_131 : decode cX4_join 131 = .ok (.istore 4, 2) := by decide +kernel
theorem dX4_join_133 : decode cX4_join 133 = .ok (.iload 4, 2) := by decide +kernel
theorem dX4_join_135 : decode cX4_join 135 = .ok (.aload_n 0, 1) := by decide +kernel
theorem dX4_join_136 : decode cX4_join 136 = .ok (.getfield 120, 3) := by decide +kernel
theorem dX4_join_139 : decode cX4_join 139 = .ok (.if_icmp .ge 37, 3) := by decide +kernel
theorem dX4_join_142 : decode cX4_join 142 = .ok (.iload_n 3, 1) := by decide +kernel
theorem dX4_join_143 : decode cX4_join 143 = .ok (.aload_n 0, 1) := by decide +kernel
theorem dX4_join_144 : decode cX4_join 144 = .ok (.aload_n 0, 1) := by decide +kernel
theorem dX4_join_145 : decode cX4_join 145 = .ok (.getfield 35, 3) := by decide +kernel
theorem dX4_join_148 : decode cX4_join 148 = .ok (.iload 4, 2) := by decide +kernel
theorem dX4_join_150 : decode cX4_join 150 = .ok (.iaload, 1) := by decide +kernel
theorem dX4_join_151 : decode cX4_join 151 = .ok (.aload_n 0, 1) := by decide +kernel
theorem dX4_join_152 : decode cX4_join 152 = .ok (.getfield 38, 3) := by decide +kernel
theorem dX4_join_155 : decode cX4_join 155 = .ok (.iload 4, 2) := by decide +kernel
theorem dX4_join_157 : decode cX4_join 157 = .ok (.iload_n 2, 1) := by decide +kernel
theorem dX4_join_158 : decode cX4_join 158 = .ok (.iadd, 1) := by decide +kernel
theorem dX4_join_159 : decode cX4_join 159 = .ok (.aload_n 0, 1) := by decide +kernel
theorem dX4_join_160 : decode cX4_join 160 = .ok (.getfield 123, 3) := by decide +kernel
theorem dX4_join_163 : decode cX4_join 163 = .ok (.irem, 1) := by decide +kernel
theorem dX4_join_164 : decode cX4_join 164 = .ok (.iaload, 1) := by decide +kernel
theorem dX4_join_165 : decode cX4_join 165 = .ok (.invokevirtual 132, 3) := by decide +kernel
theorem dX4_join_168 : decode cX4_join 168 = .ok (.iadd, 1) := by decide +kernel
theorem dX4_join_169 : decode cX4_join 169 = .ok (.istore_n 3, 1) := by decide +kernel
theorem dX4_join_170 : decode cX4_join 170 = .ok (.iinc 4 1, 3) := by decide +kernel
theorem dX4_join_173 : decode cX4_join 173 = .ok (.goto (-40), 3) := by decide +kernel
theorem dX4_join_176 : decode cX4_join 176 = .ok (.iload_n 2, 1) := by decide +kernel
theorem dX4_join_177 : decode cX4_join 177 = .ok (.ifCond .eq 11, 3) := by decide +kernel
theorem dX4_join_180 : decode cX4_join 180 = .ok (.iload_n 3, 1) := by decide +kernel
theorem dX4_join_181 : decode cX4_join 181 = .ok (.aload_n 0, 1) := by decide +kernel
theorem dX4_join_182 : decode cX4_join 182 = .ok (.getfield 126, 3) := by decide +kernel
theorem dX4_join_185 : decode cX4_join 185 = .ok (.if_icmp .ge 13, 3) := by decide +kernel
theorem dX4_join_188 : decode cX4_join 188 = .ok (.aload_n 0, 1) := by decide +kernel
theorem dX4_join_189 : decode cX4_join 189 = .ok (.iload_n 3, 1) := by decide +kernel
theorem dX4_join_190 : decode cX4_join 190 = .ok (.putfield 126, 3) := by decide +kernel
theorem dX4_join_193 : decode cX4_join 193 = .ok (.aload_n 0, 1) := by decide +kernel
theorem dX4_join_194 : decode cX4_join 194 = .ok (.iload_n 2, 1) := by decide +kernel
theorem dX4_join_195 : decode cX4_join 195 = .ok (.putfield 129, 3) := by decide +kernel
theorem dX4_join_198 : decode cX4_join 198 = .ok (.iinc 2 1, 3) := by decide +kernel
theorem dX4_join_201 : decode cX4_join 201 = .ok (.goto (-81), 3) := by decide +kernel
theorem dX4_join_204 : decode cX4_join 204 = .ok (.iconst 1, 1) := by decide +kernel
theorem dX4_join_205 : decode cX4_join 205 = .ok (.ireturn, 1) := by decide +kernel
set_option maxRecDepth 20000 in
theorem ggX4_joined_X4_isPhase : GoodIn wsX4_joined wsX4_isPhase := goodIn_r _ [8, 9, 10, 11, 7, 12, 57, 58, 59, 60, 61, 62, 63, 64, 65, 66, 67, 68, 69, 70, 71, 72] (by decide +kernel) (by decide +kernel)
set_option maxRecDepth 20000 in
theorem gX4_joined_X4_isPhase : GoodIn wsX4_joined (wsV RX4 93 RX4 yX4_isPhase wsX4_isPhase) := goodIn_app (goodIn_of _ (by decide +kernel)) ggX4_joined_X4_isPhase
set_option maxRecDepth 20000 in
theorem ggX4_joined_X4_in : GoodIn wsX4_joined wsX4_in := goodIn_r _ [12] (by decide +kernel) (by decide +kernel)
set_option maxRecDepth 20000 in
theorem gX4_joined_X4_in : GoodIn wsX4_joined (va_wsS RX4 59 yX4_in wsX4_in) := goodIn_app (goodIn_of _ (by decide +kernel)) ggX4_joined_X4_in
set_option maxRecDepth 20000 in
theorem ggX4_joined_X4_isBalanced : GoodIn wsX4_joined wsX4_isBalanced := goodIn_r _ [16, 9, 17, 18, 19, 7, 20, 21, 22, 23, 24, 25, 26, 27, 28, 29, 57, 58, 59, 60, 61, 62, 63, 64, 65, 66, 67, 68, 69, 70, 71, 72] (by decide +kernel) (by decide +kernel)
set_option maxRecDepth 20000 in
theorem gX4_joined_X4_isBalanced : GoodIn wsX4_joined (wsV RX4 80 RX4 yX4_isBalanced wsX4_isBalanced) := goodIn_app (goodIn_of _ (by decide +kernel)) ggX4_joined_X4_isBalanced
set_option maxRecDepth 20000 in
theorem ggX4_joined_X4_join : GoodIn wsX4_joined wsX4_join := goodIn_r _ [33, 3, 34, 21, 35, 36, 1, 2, 37, 38, 39, 7, 40, 9, 41, 42, 43, 44, 45, 46, 47, 48, 26, 22, 23, 24, 25, 27, 28, 29, 17, 18, 19, 20, 49, 50, 51, 52, 53, 54, 55, 56, 57, 58, 59, 60, 61, 62, 63, 64, 65, 66, 67, 68, 69, 70, 71, 72] (by decide +kernel) (by decide +kernel)
set_option maxRecDepth 20000 in
theorem gX4_joined_X4_join : GoodIn wsX4_joined (wsV RX4 135 RX4 yX4_join wsX4_join) := goodIn_app (goodIn_of _ (by decide +kernel)) ggX4_joined_X4_join
theorem dX4_joined_0 : decode cX4_joined 0 = .ok (.aload_n 0, 1) := by decide +kernel
theorem dX4_joined_1 : decode cX4_joined 1 = .ok (.iload_n 1, 1) := by decide +kernel
theorem dX4_joined_2 : decode cX4_joined 2 = .ok (.invokevirtual 93, 3) := by decide +kernel
theorem dX4_joined_5 : decode cX4_joined 5 = .ok (.ifCond .ne 5, 3) := by decide +kernel
theorem dX4_joined_8 : decode cX4_joined 8 = .ok (.iconst (-1), 1) := by decide +kernel
theorem dX4_joined_9 : decode cX4_joined 9 = .ok (.ireturn, 1) := by decide +kernel
theorem dX4_joined_10 : decode cX4_joined 10 = .ok (.iload_n 2, 1) := by decide +kernel
theorem dX4_joined_11 : decode cX4_joined 11 = .ok (.iconst 0, 1) := by decide +kernel
theorem dX4_joined_12 : decode cX4_joined 12 = .ok (.iconst 2, 1) := by decide +kernel
theorem dX4_joined_13 : decode cX4_joined 13 = .ok (.invokestatic 59, 3) := by decide +kernel
theorem dX4_joined_16 : decode cX4_joined 16 = .ok (.ifCond .ne 6, 3) := by decide +kernel
theorem dX4_joined_19 : decode cX4_joined 19 = .ok (.bipush (-2), 2) := by decide +kernel
theorem dX4_joined_21 : decode cX4_joined 21 = .ok (.ireturn, 1) := by decide +kernel
theorem dX4_joined_22 : decode cX4_joined 22 = .ok (.aload_n 0, 1) := by decide +kernel
theorem dX4_joined_23 : decode cX4_joined 23 = .ok (.invokevirtual 80, 3) := by decide +kernel
theorem dX4_joined_26 : decode cX4_joined 26 = .ok (.ifCond .ne 6, 3) := by decide +kernel
theorem dX4_joined_29 : decode cX4_joined 29 = .ok (.bipush (-3), 2) := by decide +kernel
theorem dX4_joined_31 : decode cX4_joined 31 = .ok (.ireturn, 1) := by decide +kernel
theorem dX4_joined_32 : decode cX4_joined 32 = .ok (.aload_n 0, 1) := by decide +kernel
theorem dX4_joined_33 : decode cX4_joined 33 = .ok (.iload_n 1, 1) := by decide +kernel
theorem dX4_joined_34 : decode cX4_joined 34 = .ok (.invokevirtual 135, 3) := by decide +kernel
theorem dX4_joined_37 : decode cX4_joined 37 = .ok (.ifCond .ne 6, 3) := by decide +kernel
theorem dX4_joined_40 : decode cX4_joined 40 = .ok (.bipush (-5), 2) := by decide +kernel
theorem dX4_joined_42 : decode cX4_joined 42 = .ok (.ireturn, 1) := by decide +kernel
theorem dX4_joined_43 : decode cX4_joined 43 = .ok (.iload_n 2, 1) := by decide +kernel
theorem dX4_joined_44 : decode cX4_joined 44 = .ok (.ifCond .ne 10, 3) := by decide +kernel
theorem dX4_joined_47 : decode cX4_joined 47 = .ok (.aload_n 0, 1) := by decide +kernel
theorem dX4_joined_48 : decode cX4_joined 48 = .ok (.getfield 126, 3) := by decide +kernel
theorem dX4_joined_51 : decode cX4_joined 51 = .ok (.goto 19, 3) := by decide +kernel
theorem dX4_joined_54 : decode cX4_joined 54 = .ok (.iload_n 2, 1) := by decide +kernel
theorem dX4_joined_55 : decode cX4_joined 55 = .ok (.iconst 1, 1) := by decide +kernel
theorem dX4_joined_56 : decode cX4_joined 56 = .ok (.if_icmp .ne 10, 3) := by decide +kernel
theorem dX4_joined_59 : decode cX4_joined 59 = .ok (.aload_n 0, 1) := by decide +kernel
theorem dX4_joined_60 : decode cX4_joined 60 = .ok (.getfield 129, 3) := by decide +kernel
theorem dX4_joined_63 : decode cX4_joined 63 = .ok (.goto 7, 3) := by decide +kernel
theorem dX4_joined_66 : decode cX4_joined 66 = .ok (.aload_n 0, 1) := by decide +kernel
theorem dX4_joined_67 : decode cX4_joined 67 = .ok (.getfield 120, 3) := by decide +kernel
theorem dX4_joined_70 : decode cX4_joined 70 = .ok (.ireturn, 1) := by decide +kernel
set_option maxRecDepth 20000 in
theorem ggX4_partner_X4_isSlot : GoodIn wsX4_partner wsX4_isSlot := goodIn_r _ [10, 11, 12, 13, 9, 14, 57, 58, 59, 60, 61, 62, 63, 64, 65, 66, 67, 68, 69, 70, 71, 72] (by decide +kernel) (by decide +kernel)
set_option maxRecDepth 20000 in
theorem gX4_partner_X4_isSlot : GoodIn wsX4_partner (wsV RX4 76 RX4 yX4_isSlot wsX4_isSlot) := goodIn_app (goodIn_of _ (by decide +kernel)) ggX4_partner_X4_isSlot
set_option maxRecDepth 20000 in
theorem ggX4_partner_X4_isBalanced : GoodIn wsX4_partner wsX4_isBalanced := goodIn_r _ [18, 19, 20, 21, 22, 9, 23, 11, 24, 25, 26, 27, 28, 29, 30, 31, 57, 58, 59, 60, 61, 62, 63, 64, 65, 66, 67, 68, 69, 70, 71, 72] (by decide +kernel) (by decide +kernel)
set_option maxRecDepth 20000 in
theorem gX4_partner_X4_isBalanced : GoodIn wsX4_partner (wsV RX4 80 RX4 yX4_isBalanced wsX4_isBalanced) := goodIn_app (goodIn_of _ (by decide +kernel)) ggX4_partner_X4_isBalanced
set_option maxRecDepth 20000 in
theorem ggX4_partner_X4_phaseOf : GoodIn wsX4_partner wsX4_phaseOf := goodIn_r _ [35, 19, 36, 37, 38, 9, 39, 40, 41, 42, 43, 28, 11, 24, 25, 26, 27, 29, 30, 31, 20, 21, 22, 23, 57, 58, 59, 60, 61, 62, 63, 64, 65, 66, 67, 68, 69, 70, 71, 72] (by decide +kernel) (by decide +kernel)
set_option maxRecDepth 20000 in
theorem gX4_partner_X4_phaseOf : GoodIn wsX4_partner (wsV RX4 84 RX4 yX4_phaseOf wsX4_phaseOf) := goodIn_app (goodIn_of _ (by decide +kernel)) ggX4_partner_X4_phaseOf
set_option maxRecDepth 20000 in
theorem ggX4_partner_X4_join : GoodIn wsX4_partner wsX4_join := goodIn_r _ [47, 1, 4, 11, 5, 2, 48, 3, 32, 33, 34, 9, 35, 19, 36, 37, 38, 39, 40, 41, 42, 43, 28, 24, 25, 26, 27, 29, 30, 31, 20, 21, 22, 23, 49, 50, 51, 52, 53, 54, 55, 56, 57, 58, 59, 60, 61, 62, 63, 64, 65, 66, 67, 68, 69, 70, 71, 72] (by decide +kernel) (by decide +kernel)
set_option maxRecDepth 20000 in
theorem gX4_partner_X4_join : GoodIn wsX4_partner (wsV RX4 135 RX4 yX4_join wsX4_join) := goodIn_app (goodIn_of _ (by decide +kernel)) ggX4_partner_X4_join
theorem dX4_partner_0 : decode cX4_partner 0 = .ok (.aload_n 0, 1) := by decide +kernel
theorem dX4_partner_1 : decode cX4_partner 1 = .ok (.iload_n 1, 1) := by decide +kernel
theorem dX4_partner_2 : decode cX4_partner 2 = .ok (.invokevirtual 76, 3) := by decide +kernel
theorem dX4_partner_5 : decode cX4_partner 5 = .ok (.ifCond .ne 5, 3) := by decide +kernel
theorem dX4_partner_8 : decode cX4_partner 8 = .ok (.iconst (-1), 1) := by decide +kernel
theorem dX4_partner_9 : decode cX4_partner 9 = .ok (.ireturn, 1) := by decide +kernel
theorem dX4_partner_10 : decode cX4_partner 10 = .ok (.aload_n 0, 1) := by decide +kernel
theorem dX4_partner_11 : decode cX4_partner 11 = .ok (.invokevirtual 80, 3) := by decide +kernel
theorem dX4_partner_14 : decode cX4_partner 14 = .ok (.ifCond .ne 6, 3) := by decide +kernel
theorem dX4_partner_17 : decode cX4_partner 17 = .ok (.bipush (-3), 2) := by decide +kernel
theorem dX4_partner_19 : decode cX4_partner 19 = .ok (.ireturn, 1) := by decide +kernel
theorem dX4_partner_20 : decode cX4_partner 20 = .ok (.aload_n 0, 1) := by decide +kernel
theorem dX4_partner_21 : decode cX4_partner 21 = .ok (.aload_n 0, 1) := by decide +kernel
theorem dX4_partner_22 : decode cX4_partner 22 = .ok (.iload_n 1, 1) := by decide +kernel
theorem dX4_partner_23 : decode cX4_partner 23 = .ok (.invokevirtual 84, 3) := by decide +kernel
theorem dX4_partner_26 : decode cX4_partner 26 = .ok (.invokevirtual 135, 3) := by decide +kernel
theorem dX4_partner_29 : decode cX4_partner 29 = .ok (.ifCond .ne 6, 3) := by decide +kernel
theorem dX4_partner_32 : decode cX4_partner 32 = .ok (.bipush (-5), 2) := by decide +kernel
theorem dX4_partner_34 : decode cX4_partner 34 = .ok (.ireturn, 1) := by decide +kernel
theorem dX4_partner_35 : decode cX4_partner 35 = .ok (.bipush (-6), 2) := by decide +kernel
theorem dX4_partner_37 : decode cX4_partner 37 = .ok (.istore_n 2, 1) := by decide +kernel
theorem dX4_partner_38 : decode cX4_partner 38 = .ok (.iconst 0, 1) := by decide +kernel
theorem dX4_partner_39 : decode cX4_partner 39 = .ok (.istore_n 3, 1) := by decide +kernel
theorem dX4_partner_40 : decode cX4_partner 40 = .ok (.iload_n 3, 1) := by decide +kernel
theorem dX4_partner_41 : decode cX4_partner 41 = .ok (.aload_n 0, 1) := by decide +kernel
theorem dX4_partner_42 : decode cX4_partner 42 = .ok (.getfield 120, 3) := by decide +kernel
theorem dX4_partner_45 : decode cX4_partner 45 = .ok (.if_icmp .ge 59, 3) := by decide +kernel
theorem dX4_partner_48 : decode cX4_partner 48 = .ok (.aload_n 0, 1) := by decide +kernel
theorem dX4_partner_49 : decode cX4_partner 49 = .ok (.getfield 38, 3) := by decide +kernel
theorem dX4_partner_52 : decode cX4_partner 52 = .ok (.iload_n 3, 1) := by decide +kernel
theorem dX4_partner_53 : decode cX4_partner 53 = .ok (.aload_n 0, 1) := by decide +kernel
theorem dX4_partner_54 : decode cX4_partner 54 = .ok (.getfield 129, 3) := by decide +kernel
theorem dX4_partner_57 : decode cX4_partner 57 = .ok (.iadd, 1) := by decide +kernel
theorem dX4_partner_58 : decode cX4_partner 58 = .ok (.aload_n 0, 1) := by decide +kernel
theorem dX4_partner_59 : decode cX4_partner 59 = .ok (.getfield 123, 3) := by decide +kernel
theorem dX4_partner_62 : decode cX4_partner 62 = .ok (.irem, 1) := by decide +kernel
theorem dX4_partner_63 : decode cX4_partner 63 = .ok (.iaload, 1) := by decide +kernel
theorem dX4_partner_64 : decode cX4_partner 64 = .ok (.istore 4, 2) := by decide +kernel
theorem dX4_partner_66 : decode cX4_partner 66 = .ok (.aload_n 0, 1) := by decide +kernel
theorem dX4_partner_67 : decode cX4_partner 67 = .ok (.getfield 35, 3) := by decide +kernel
theorem dX4_partner_70 : decode cX4_partner 70 = .ok (.iload_n 3, 1) := by decide +kernel
theorem dX4_partner_71 : decode cX4_partner 71 = .ok (.iaload, 1) := by decide +kernel
theorem dX4_partner_72 : decode cX4_partner 72 = .ok (.iload_n 1, 1) := by decide +kernel
theorem dX4_partner_73 : decode cX4_partner 73 = .ok (.if_icmp .ne 8, 3) := by decide +kernel
theorem dX4_partner_76 : decode cX4_partner 76 = .ok (.iload 4, 2) := by decide +kernel
theorem dX4_partner_78 : decode cX4_partner 78 = .ok (.goto 19, 3) := by decide +kernel
theorem dX4_partner_81 : decode cX4_partner 81 = .ok (.iload 4, 2) := by decide +kernel
theorem dX4_partner_83 : decode cX4_partner 83 = .ok (.iload_n 1, 1) := by decide +kernel
theorem dX4_partner_84 : decode cX4_partner 84 = .ok (.if_icmp .ne 12, 3) := by decide +kernel
theorem dX4_partner_87 : decode cX4_partner 87 = .ok (.aload_n 0, 1) := by decide +kernel
theorem dX4_partner_88 : decode cX4_partner 88 = .ok (.getfield 35, 3) := by decide +kernel
theorem dX4_partner_91 : decode cX4_partner 91 = .ok (.iload_n 3, 1) := by decide +kernel
theorem dX4_partner_92 : decode cX4_partner 92 = .ok (.iaload, 1) := by decide +kernel
theorem dX4_partner_93 : decode cX4_partner 93 = .ok (.goto 4, 3) := by decide +kernel
theorem dX4_partner_96 : decode cX4_partner 96 = .ok (.iload_n 2, 1) := by decide +kernel
theorem dX4_partner_97 : decode cX4_partner 97 = .ok (.istore_n 2, 1) := by decide +kernel
theorem dX4_partner_98 : decode cX4_partner 98 = .ok (.iinc 3 1, 3) := by decide +kernel
theorem dX4_partner_101 : decode cX4_partner 101 = .ok (.goto (-61), 3) := by decide +kernel
theorem dX4_partner_104 : decode cX4_partner 104 = .ok (.iload_n 2, 1) := by decide +kernel
theorem dX4_partner_105 : decode cX4_partner 105 = .ok (.ireturn, 1) := by decide +kernel
set_option maxRecDepth 20000 in
theorem ggX4_path_X4_isSlot : GoodIn wsX4_path wsX4_isSlot := goodIn_r _ [5, 6, 7, 8, 4, 9, 22, 23, 24, 25, 26, 27, 28, 29, 30, 31, 32, 33, 34, 35, 36, 37] (by decide +kernel) (by decide +kernel)
set_option maxRecDepth 20000 in
theorem gX4_path_X4_isSlot : GoodIn wsX4_path (wsV RX4 76 RX4 yX4_isSlot wsX4_isSlot) := goodIn_app (goodIn_of _ (by decide +kernel)) ggX4_path_X4_isSlot
set_option maxRecDepth 20000 in
theorem ggX4_path_X4_in : GoodIn wsX4_path wsX4_in := goodIn_r _ [9] (by decide +kernel) (by decide +kernel)
set_option maxRecDepth 20000 in
theorem gX4_path_X4_in : GoodIn wsX4_path (va_wsS RX4 59 yX4_in wsX4_in) := goodIn_app (goodIn_of _ (by decide +kernel)) ggX4_path_X4_in
set_option maxRecDepth 20000 in
theorem ggX4_path_X4_copies : GoodIn wsX4_path wsX4_copies := goodIn_r _ [13, 6, 14, 15, 16, 4, 17, 22, 23, 24, 25, 26, 27, 28, 29, 30, 31, 32, 33, 34, 35, 36, 37] (by decide +kernel) (by decide +kernel)
set_option maxRecDepth 20000 in
theorem gX4_path_X4_copies : GoodIn wsX4_path (wsV RX4 52 RX4 yX4_copies wsX4_copies) := goodIn_app (goodIn_of _ (by decide +kernel)) ggX4_path_X4_copies
set_option maxRecDepth 20000 in
theorem ggX4_path_X4_star : GoodIn wsX4_path wsX4_star := goodIn_r _ [21, 6, 10, 11, 12, 4, 13, 14, 15, 16, 17, 22, 23, 24, 25, 26, 27, 28, 29, 30, 31, 32, 33, 34, 35, 36, 37] (by decide +kernel) (by decide +kernel)
set_option maxRecDepth 20000 in
theorem gX4_path_X4_star : GoodIn wsX4_path (wsV RX4 56 RX4 yX4_star wsX4_star) := goodIn_app (goodIn_of _ (by decide +kernel)) ggX4_path_X4_star
theorem dX4_path_0 : decode cX4_path 0 = .ok (.aload_n 0, 1) := by decide +kernel
theorem dX4_path_1 : decode cX4_path 1 = .ok (.iload_n 1, 1) := by decide +kernel
theorem dX4_path_2 : decode cX4_path 2 = .ok (.invokevirtual 76, 3) := by decide +kernel
theorem dX4_path_5 : decode cX4_path 5 = .ok (.ifCond .ne 5, 3) := by decide +kernel
theorem dX4_path_8 : decode cX4_path 8 = .ok (.iconst (-1), 1) := by decide +kernel
theorem dX4_path_9 : decode cX4_path 9 = .ok (.ireturn, 1) := by decide +kernel
theorem dX4_path_10 : decode cX4_path 10 = .ok (.iload_n 2, 1) := by decide +kernel
theorem dX4_path_11 : decode cX4_path 11 = .ok (.iconst 1, 1) := by decide +kernel
theorem dX4_path_12 : decode cX4_path 12 = .ok (.bipush 10, 2) := by decide +kernel
theorem dX4_path_14 : decode cX4_path 14 = .ok (.invokestatic 59, 3) := by decide +kernel
theorem dX4_path_17 : decode cX4_path 17 = .ok (.ifCond .ne 6, 3) := by decide +kernel
theorem dX4_path_20 : decode cX4_path 20 = .ok (.bipush (-2), 2) := by decide +kernel
theorem dX4_path_22 : decode cX4_path 22 = .ok (.ireturn, 1) := by decide +kernel
theorem dX4_path_23 : decode cX4_path 23 = .ok (.aload_n 0, 1) := by decide +kernel
theorem dX4_path_24 : decode cX4_path 24 = .ok (.invokevirtual 52, 3) := by decide +kernel
theorem dX4_path_27 : decode cX4_path 27 = .ok (.iload_n 2, 1) := by decide +kernel
theorem dX4_path_28 : decode cX4_path 28 = .ok (.irem, 1) := by decide +kernel
theorem dX4_path_29 : decode cX4_path 29 = .ok (.ifCond .ne 14, 3) := by decide +kernel
theorem dX4_path_32 : decode cX4_path 32 = .ok (.iload_n 1, 1) := by decide +kernel
theorem dX4_path_33 : decode cX4_path 33 = .ok (.aload_n 0, 1) := by decide +kernel
theorem dX4_path_34 : decode cX4_path 34 = .ok (.invokevirtual 56, 3) := by decide +kernel
theorem dX4_path_37 : decode cX4_path 37 = .ok (.idiv, 1) := by decide +kernel
theorem dX4_path_38 : decode cX4_path 38 = .ok (.iload_n 2, 1) := by decide +kernel
theorem dX4_path_39 : decode cX4_path 39 = .ok (.irem, 1) := by decide +kernel
theorem dX4_path_40 : decode cX4_path 40 = .ok (.goto 5, 3) := by decide +kernel
theorem dX4_path_43 : decode cX4_path 43 = .ok (.bipush (-5), 2) := by decide +kernel
theorem dX4_path_45 : decode cX4_path 45 = .ok (.ireturn, 1) := by decide +kernel
set_option maxRecDepth 20000 in
theorem ggX4_image_X4_in : GoodIn wsX4_image wsX4_in := goodIn_r _ [10] (by decide +kernel) (by decide +kernel)
set_option maxRecDepth 20000 in
theorem gX4_image_X4_in : GoodIn wsX4_image (va_wsS RX4 59 yX4_in wsX4_in) := goodIn_app (goodIn_of _ (by decide +kernel)) ggX4_image_X4_in
theorem dX4_image_0 : decode cX4_image 0 = .ok (.iload_n 1, 1) := by decide +kernel
theorem dX4_image_1 : decode cX4_image 1 = .ok (.iconst 0, 1) := by decide +kernel
theorem dX4_image_2 : decode cX4_image 2 = .ok (.iconst 1, 1) := by decide +kernel
theorem dX4_image_3 : decode cX4_image 3 = .ok (.invokestatic 59, 3) := by decide +kernel
theorem dX4_image_6 : decode cX4_image 6 = .ok (.ifCond .ne 6, 3) := by decide +kernel
theorem dX4_image_9 : decode cX4_image 9 = .ok (.bipush (-2), 2) := by decide +kernel
theorem dX4_image_11 : decode cX4_image 11 = .ok (.ireturn, 1) := by decide +kernel
theorem dX4_image_12 : decode cX4_image 12 = .ok (.aload_n 0, 1) := by decide +kernel
theorem dX4_image_13 : decode cX4_image 13 = .ok (.getfield 41, 3) := by decide +kernel
theorem dX4_image_16 : decode cX4_image 16 = .ok (.iconst 4, 1) := by decide +kernel
theorem dX4_image_17 : decode cX4_image 17 = .ok (.iload_n 1, 1) := by decide +kernel
theorem dX4_image_18 : decode cX4_image 18 = .ok (.imul, 1) := by decide +kernel
theorem dX4_image_19 : decode cX4_image 19 = .ok (.aload_n 0, 1) := by decide +kernel
theorem dX4_image_20 : decode cX4_image 20 = .ok (.getfield 7, 3) := by decide +kernel
theorem dX4_image_23 : decode cX4_image 23 = .ok (.iastore, 1) := by decide +kernel
theorem dX4_image_24 : decode cX4_image 24 = .ok (.aload_n 0, 1) := by decide +kernel
theorem dX4_image_25 : decode cX4_image 25 = .ok (.getfield 41, 3) := by decide +kernel
theorem dX4_image_28 : decode cX4_image 28 = .ok (.iconst 4, 1) := by decide +kernel
theorem dX4_image_29 : decode cX4_image 29 = .ok (.iload_n 1, 1) := by decide +kernel
theorem dX4_image_30 : decode cX4_image 30 = .ok (.imul, 1) := by decide +kernel
theorem dX4_image_31 : decode cX4_image 31 = .ok (.iconst 1, 1) := by decide +kernel
theorem dX4_image_32 : decode cX4_image 32 = .ok (.iadd, 1) := by decide +kernel
theorem dX4_image_33 : decode cX4_image 33 = .ok (.aload_n 0, 1) := by decide +kernel
theorem dX4_image_34 : decode cX4_image 34 = .ok (.getfield 13, 3) := by decide +kernel
theorem dX4_image_37 : decode cX4_image 37 = .ok (.iastore, 1) := by decide +kernel
theorem dX4_image_38 : decode cX4_image 38 = .ok (.aload_n 0, 1) := by decide +kernel
theorem dX4_image_39 : decode cX4_image 39 = .ok (.getfield 41, 3) := by decide +kernel
theorem dX4_image_42 : decode cX4_image 42 = .ok (.iconst 4, 1) := by decide +kernel
theorem dX4_image_43 : decode cX4_image 43 = .ok (.iload_n 1, 1) := by decide +kernel
theorem dX4_image_44 : decode cX4_image 44 = .ok (.imul, 1) := by decide +kernel
theorem dX4_image_45 : decode cX4_image 45 = .ok (.iconst 2, 1) := by decide +kernel
theorem dX4_image_46 : decode cX4_image 46 = .ok (.iadd, 1) := by decide +kernel
theorem dX4_image_47 : decode cX4_image 47 = .ok (.aload_n 0, 1) := by decide +kernel
theorem dX4_image_48 : decode cX4_image 48 = .ok (.getfield 16, 3) := by decide +kernel
theorem dX4_image_51 : decode cX4_image 51 = .ok (.iastore, 1) := by decide +kernel
theorem dX4_image_52 : decode cX4_image 52 = .ok (.aload_n 0, 1) := by decide +kernel
theorem dX4_image_53 : decode cX4_image 53 = .ok (.getfield 41, 3) := by decide +kernel
theorem dX4_image_56 : decode cX4_image 56 = .ok (.iconst 4, 1) := by decide +kernel
theorem dX4_image_57 : decode cX4_image 57 = .ok (.iload_n 1, 1) := by decide +kernel
theorem dX4_image_58 : decode cX4_image 58 = .ok (.imul, 1) := by decide +kernel
theorem dX4_image_59 : decode cX4_image 59 = .ok (.iconst 3, 1) := by decide +kernel
theorem dX4_image_60 : decode cX4_image 60 = .ok (.iadd, 1) := by decide +kernel
theorem dX4_image_61 : decode cX4_image 61 = .ok (.aload_n 0, 1) := by decide +kernel
theorem dX4_image_62 : decode cX4_image 62 = .ok (.getfield 19, 3) := by decide +kernel
theorem dX4_image_65 : decode cX4_image 65 = .ok (.iastore, 1) := by decide +kernel
theorem dX4_image_66 : decode cX4_image 66 = .ok (.aload_n 0, 1) := by decide +kernel
theorem dX4_image_67 : decode cX4_image 67 = .ok (.getfield 44, 3) := by decide +kernel
theorem dX4_image_70 : decode cX4_image 70 = .ok (.iload_n 1, 1) := by decide +kernel
theorem dX4_image_71 : decode cX4_image 71 = .ok (.iconst 1, 1) := by decide +kernel
theorem dX4_image_72 : decode cX4_image 72 = .ok (.bastore, 1) := by decide +kernel
theorem dX4_image_73 : decode cX4_image 73 = .ok (.iconst 1, 1) := by decide +kernel
theorem dX4_image_74 : decode cX4_image 74 = .ok (.ireturn, 1) := by decide +kernel
set_option maxRecDepth 20000 in
theorem ggX4_restore_X4_in : GoodIn wsX4_restore wsX4_in := goodIn_r _ [10] (by decide +kernel) (by decide +kernel)
set_option maxRecDepth 20000 in
theorem gX4_restore_X4_in : GoodIn wsX4_restore (va_wsS RX4 59 yX4_in wsX4_in) := goodIn_app (goodIn_of _ (by decide +kernel)) ggX4_restore_X4_in
theorem dX4_restore_0 : decode cX4_restore 0 = .ok (.iload_n 1, 1) := by decide +kernel
theorem dX4_restore_1 : decode cX4_restore 1 = .ok (.iconst 0, 1) := by decide +kernel
theorem dX4_restore_2 : decode cX4_restore 2 = .ok (.iconst 1, 1) := by decide +kernel
theorem dX4_restore_3 : decode cX4_restore 3 = .ok (.invokestatic 59, 3) := by decide +kernel
theorem dX4_restore_6 : decode cX4_restore 6 = .ok (.ifCond .ne 6, 3) := by decide +kernel
theorem dX4_restore_9 : decode cX4_restore 9 = .ok (.bipush (-2), 2) := by decide +kernel
theorem dX4_restore_11 : decode cX4_restore 11 = .ok (.ireturn, 1) := by decide +kernel
theorem dX4_restore_12 : decode cX4_restore 12 = .ok (.aload_n 0, 1) := by decide +kernel
theorem dX4_restore_13 : decode cX4_restore 13 = .ok (.getfield 44, 3) := by decide +kernel
theorem dX4_restore_16 : decode cX4_restore 16 = .ok (.iload_n 1, 1) := by decide +kernel
theorem dX4_restore_17 : decode cX4_restore 17 = .ok (.baload, 1) := by decide +kernel
theorem dX4_restore_18 : decode cX4_restore 18 = .ok (.ifCond .ne 6, 3) := by decide +kernel
theorem dX4_restore_21 : decode cX4_restore 21 = .ok (.bipush (-3), 2) := by decide +kernel
theorem dX4_restore_23 : decode cX4_restore 23 = .ok (.ireturn, 1) := by decide +kernel
theorem dX4_restore_24 : decode cX4_restore 24 = .ok (.aload_n 0, 1) := by decide +kernel
theorem dX4_restore_25 : decode cX4_restore 25 = .ok (.aload_n 0, 1) := by decide +kernel
theorem dX4_restore_26 : decode cX4_restore 26 = .ok (.getfield 41, 3) := by decide +kernel
theorem dX4_restore_29 : decode cX4_restore 29 = .ok (.iconst 4, 1) := by decide +kernel
theorem dX4_restore_30 : decode cX4_restore 30 = .ok (.iload_n 1, 1) := by decide +kernel
theorem dX4_restore_31 : decode cX4_restore 31 = .ok (.imul, 1) := by decide +kernel
theorem dX4_restore_32 : decode cX4_restore 32 = .ok (.iaload, 1) := by decide +kernel
theorem dX4_restore_33 : decode cX4_restore 33 = .ok (.putfield 7, 3) := by decide +kernel
theorem dX4_restore_36 : decode cX4_restore 36 = .ok (.aload_n 0, 1) := by decide +kernel
theorem dX4_restore_37 : decode cX4_restore 37 = .ok (.aload_n 0, 1) := by decide +kernel
theorem dX4_restore_38 : decode cX4_restore 38 = .ok (.getfield 41, 3) := by decide +kernel
theorem dX4_restore_41 : decode cX4_restore 41 = .ok (.iconst 4, 1) := by decide +kernel
theorem dX4_restore_42 : decode cX4_restore 42 = .ok (.iload_n 1, 1) := by decide +kernel
theorem dX4_restore_43 : decode cX4_restore 43 = .ok (.imul, 1) := by decide +kernel
theorem dX4_restore_44 : decode cX4_restore 44 = .ok (.iconst 1, 1) := by decide +kernel
theorem dX4_restore_45 : decode cX4_restore 45 = .ok (.iadd, 1) := by decide +kernel
theorem dX4_restore_46 : decode cX4_restore 46 = .ok (.iaload, 1) := by decide +kernel
theorem dX4_restore_47 : decode cX4_restore 47 = .ok (.putfield 13, 3) := by decide +kernel
theorem dX4_restore_50 : decode cX4_restore 50 = .ok (.aload_n 0, 1) := by decide +kernel
theorem dX4_restore_51 : decode cX4_restore 51 = .ok (.aload_n 0, 1) := by decide +kernel
theorem dX4_restore_52 : decode cX4_restore 52 = .ok (.getfield 41, 3) := by decide +kernel
theorem dX4_restore_55 : decode cX4_restore 55 = .ok (.iconst 4, 1) := by decide +kernel
theorem dX4_restore_56 : decode cX4_restore 56 = .ok (.iload_n 1, 1) := by decide +kernel
theorem dX4_restore_57 : decode cX4_restore 57 = .ok (.imul, 1) := by decide +kernel
theorem dX4_restore_58 : decode cX4_restore 58 = .ok (.iconst 2, 1) := by decide +kernel
theorem dX4_restore_59 : decode cX4_restore 59 = .ok (.iadd, 1) := by decide +kernel
theorem dX4_restore_60 : decode cX4_restore 60 = .ok (.iaload, 1) := by decide +kernel
theorem dX4_restore_61 : decode cX4_restore 61 = .ok (.putfield 16, 3) := by decide +kernel
theorem dX4_restore_64 : decode cX4_restore 64 = .ok (.aload_n 0, 1) := by decide +kernel
theorem dX4_restore_65 : decode cX4_restore 65 = .ok (.aload_n 0, 1) := by decide +kernel
theorem dX4_restore_66 : decode cX4_restore 66 = .ok (.getfield 41, 3) := by decide +kernel
theorem dX4_restore_69 : decode cX4_restore 69 = .ok (.iconst 4, 1) := by decide +kernel
theorem dX4_restore_70 : decode cX4_restore 70 = .ok (.iload_n 1, 1) := by decide +kernel
theorem dX4_restore_71 : decode cX4_restore 71 = .ok (.imul, 1) := by decide +kernel
theorem dX4_restore_72 : decode cX4_restore 72 = .ok (.iconst 3, 1) := by decide +kernel
theorem dX4_restore_73 : decode cX4_restore 73 = .ok (.iadd, 1) := by decide +kernel
theorem dX4_restore_74 : decode cX4_restore 74 = .ok (.iaload, 1) := by decide +kernel
theorem dX4_restore_75 : decode cX4_restore 75 = .ok (.putfield 19, 3) := by decide +kernel
theorem dX4_restore_78 : decode cX4_restore 78 = .ok (.iconst 1, 1) := by decide +kernel
theorem dX4_restore_79 : decode cX4_restore 79 = .ok (.ireturn, 1) := by decide +kernel
set_option maxRecDepth 20000 in
theorem ggX4_told_X4_copies : GoodIn wsX4_told wsX4_copies := goodIn_r _ [9, 1, 2, 10, 11, 8, 12, 21, 22, 23, 24, 25, 26, 27, 28, 29, 30, 31, 32, 33, 34, 35, 36] (by decide +kernel) (by decide +kernel)
set_option maxRecDepth 20000 in
theorem gX4_told_X4_copies : GoodIn wsX4_told (wsV RX4 52 RX4 yX4_copies wsX4_copies) := goodIn_app (goodIn_of _ (by decide +kernel)) ggX4_told_X4_copies
set_option maxRecDepth 20000 in
theorem ggX4_told_X4_star : GoodIn wsX4_told wsX4_star := goodIn_r _ [16, 1, 5, 6, 7, 8, 9, 2, 10, 11, 12, 21, 22, 23, 24, 25, 26, 27, 28, 29, 30, 31, 32, 33, 34, 35, 36] (by decide +kernel) (by decide +kernel)
set_option maxRecDepth 20000 in
theorem gX4_told_X4_star : GoodIn wsX4_told (wsV RX4 56 RX4 yX4_star wsX4_star) := goodIn_app (goodIn_of _ (by decide +kernel)) ggX4_told_X4_star
set_option maxRecDepth 20000 in
theorem ggX4_told_X4_isBalanced : GoodIn wsX4_told wsX4_isBalanced := goodIn_r _ [20, 3, 13, 14, 15, 8, 16, 1, 5, 6, 7, 9, 2, 10, 11, 12, 21, 22, 23, 24, 25, 26, 27, 28, 29, 30, 31, 32, 33, 34, 35, 36] (by decide +kernel) (by decide +kernel)
set_option maxRecDepth 20000 in
theorem gX4_told_X4_isBalanced : GoodIn wsX4_told (wsV RX4 80 RX4 yX4_isBalanced wsX4_isBalanced) := goodIn_app (goodIn_of _ (by decide +kernel)) ggX4_told_X4_isBalanced
theorem dX4_told_0 : decode cX4_told 0 = .ok (.iload_n 1, 1) := by decide +kernel
theorem dX4_told_1 : decode cX4_told 1 = .ok (.tableswitch 86 0 6 #[43, 48, 53, 58, 63, 68, 73], 43) := by decide +kernel
theorem dX4_told_44 : decode cX4_told 44 = .ok (.aload_n 0, 1) := by decide +kernel
theorem dX4_told_45 : decode cX4_told 45 = .ok (.getfield 7, 3) := by decide +kernel
theorem dX4_told_48 : decode cX4_told 48 = .ok (.ireturn, 1) := by decide +kernel
theorem dX4_told_49 : decode cX4_told 49 = .ok (.aload_n 0, 1) := by decide +kernel
theorem dX4_told_50 : decode cX4_told 50 = .ok (.getfield 13, 3) := by decide +kernel
theorem dX4_told_53 : decode cX4_told 53 = .ok (.ireturn, 1) := by decide +kernel
theorem dX4_told_54 : decode cX4_told 54 = .ok (.aload_n 0, 1) := by decide +kernel
theorem dX4_told_55 : decode cX4_told 55 = .ok (.getfield 16, 3) := by decide +kernel
theorem dX4_told_58 : decode cX4_told 58 = .ok (.ireturn, 1) := by decide +kernel
theorem dX4_told_59 : decode cX4_told 59 = .ok (.aload_n 0, 1) := by decide +kernel
theorem dX4_told_60 : decode cX4_told 60 = .ok (.getfield 19, 3) := by decide +kernel
theorem dX4_told_63 : decode cX4_told 63 = .ok (.ireturn, 1) := by decide +kernel
theorem dX4_told_64 : decode cX4_told 64 = .ok (.aload_n 0, 1) := by decide +kernel
theorem dX4_told_65 : decode cX4_told 65 = .ok (.invokevirtual 52, 3) := by decide +kernel
theorem dX4_told_68 : decode cX4_told 68 = .ok (.ireturn, 1) := by decide +kernel
theorem dX4_told_69 : decode cX4_told 69 = .ok (.aload_n 0, 1) := by decide +kernel
theorem dX4_told_70 : decode cX4_told 70 = .ok (.invokevirtual 56, 3) := by decide +kernel
theorem dX4_told_73 : decode cX4_told 73 = .ok (.ireturn, 1) := by decide +kernel
theorem dX4_told_74 : decode cX4_told 74 = .ok (.aload_n 0, 1) := by decide +kernel
theorem dX4_told_75 : decode cX4_told 75 = .ok (.invokevirtual 80, 3) := by decide +kernel
theorem dX4_told_78 : decode cX4_told 78 = .ok (.ifCond .eq 7, 3) := by decide +kernel
theorem dX4_told_81 : decode cX4_told 81 = .ok (.iconst 1, 1) := by decide +kernel
theorem dX4_told_82 : decode cX4_told 82 = .ok (.goto 4, 3) := by decide +kernel
theorem dX4_told_85 : decode cX4_told 85 = .ok (.iconst 0, 1) := by decide +kernel
theorem dX4_told_86 : decode cX4_told 86 = .ok (.ireturn, 1) := by decide +kernel
theorem dX4_told_87 : decode cX4_told 87 = .ok (.bipush (-2), 2) := by decide +kernel
theorem dX4_told_89 : decode cX4_told 89 = .ok (.ireturn, 1) := by decide +kernel
