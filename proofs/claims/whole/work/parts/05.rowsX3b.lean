theorem dX3_turned_66 : decode cX3_turned 66 = .ok (.getfield 10, 3) := by decide +kernel
theorem dX3_turned_69 : decode cX3_turned 69 = .ok (.getfield 59, 3) := by decide +kernel
theorem dX3_turned_72 : decode cX3_turned 72 = .ok (.invokevirtual 131, 3) := by decide +kernel
theorem dX3_turned_75 : decode cX3_turned 75 = .ok (.iconst 0, 1) := by decide +kernel
theorem dX3_turned_76 : decode cX3_turned 76 = .ok (.istore 4, 2) := by decide +kernel
theorem dX3_turned_78 : decode cX3_turned 78 = .ok (.iload 4, 2) := by decide +kernel
theorem dX3_turned_80 : decode cX3_turned 80 = .ok (.aload_n 0, 1) := by decide +kernel
theorem dX3_turned_81 : decode cX3_turned 81 = .ok (.getfield 10, 3) := by decide +kernel
theorem dX3_turned_84 : decode cX3_turned 84 = .ok (.getfield 52, 3) := by decide +kernel
theorem dX3_turned_87 : decode cX3_turned 87 = .ok (.if_icmp .ge 41, 3) := by decide +kernel
theorem dX3_turned_90 : decode cX3_turned 90 = .ok (.aload_n 0, 1) := by decide +kernel
theorem dX3_turned_91 : decode cX3_turned 91 = .ok (.getfield 19, 3) := by decide +kernel
theorem dX3_turned_94 : decode cX3_turned 94 = .ok (.aload_n 0, 1) := by decide +kernel
theorem dX3_turned_95 : decode cX3_turned 95 = .ok (.getfield 30, 3) := by decide +kernel
theorem dX3_turned_98 : decode cX3_turned 98 = .ok (.aload_n 0, 1) := by decide +kernel
theorem dX3_turned_99 : decode cX3_turned 99 = .ok (.getfield 34, 3) := by decide +kernel
theorem dX3_turned_102 : decode cX3_turned 102 = .ok (.invokevirtual 139, 3) := by decide +kernel
theorem dX3_turned_105 : decode cX3_turned 105 = .ok (.ifCond .eq 6, 3) := by decide +kernel
theorem dX3_turned_108 : decode cX3_turned 108 = .ok (.iload 4, 2) := by decide +kernel
theorem dX3_turned_110 : decode cX3_turned 110 = .ok (.ireturn, 1) := by decide +kernel
theorem dX3_turned_111 : decode cX3_turned 111 = .ok (.aload_n 0, 1) := by decide +kernel
theorem dX3_turned_112 : decode cX3_turned 112 = .ok (.getfield 19, 3) := by decide +kernel
theorem dX3_turned_115 : decode cX3_turned 115 = .ok (.aload_n 0, 1) := by decide +kernel
theorem dX3_turned_116 : decode cX3_turned 116 = .ok (.getfield 30, 3) := by decide +kernel
theorem dX3_turned_119 : decode cX3_turned 119 = .ok (.invokevirtual 143, 3) := by decide +kernel
theorem dX3_turned_122 : decode cX3_turned 122 = .ok (.iinc 4 1, 3) := by decide +kernel
theorem dX3_turned_125 : decode cX3_turned 125 = .ok (.goto (-47), 3) := by decide +kernel
theorem dX3_turned_128 : decode cX3_turned 128 = .ok (.bipush (-6), 2) := by decide +kernel
theorem dX3_turned_130 : decode cX3_turned 130 = .ok (.ireturn, 1) := by decide +kernel
set_option maxRecDepth 20000 in
theorem ggX3_joined_X3_isPhase : GoodIn wsX3_joined wsX3_isPhase := goodIn_r _ [10, 1, 11, 12, 13, 9, 14, 92, 93, 94, 95, 96, 97, 104, 105, 106, 107, 108, 109] (by decide +kernel) (by decide +kernel)
set_option maxRecDepth 20000 in
theorem gX3_joined_X3_isPhase : GoodIn wsX3_joined (wsV RX3 96 RX3 yX3_isPhase wsX3_isPhase) := goodIn_app (goodIn_of _ (by decide +kernel)) ggX3_joined_X3_isPhase
set_option maxRecDepth 20000 in
theorem ggX3_joined_X3_isWithin : GoodIn wsX3_joined wsX3_isWithin := goodIn_r _ [14] (by decide +kernel) (by decide +kernel)
set_option maxRecDepth 20000 in
theorem gX3_joined_X3_isWithin : GoodIn wsX3_joined (va_wsS RX3 44 yX3_isWithin wsX3_isWithin) := goodIn_app (goodIn_of _ (by decide +kernel)) ggX3_joined_X3_isWithin
set_option maxRecDepth 20000 in
theorem ggX3_joined_X1_isBalanced : GoodIn wsX3_joined wsX1_isBalanced := goodIn_r _ [19, 20, 21, 22, 18, 23, 24, 25, 26, 9, 27, 28, 29, 30, 31, 32, 33, 34, 35, 36, 104, 105, 106, 107, 108, 109] (by decide +kernel) (by decide +kernel)
set_option maxRecDepth 20000 in
theorem gX3_joined_X1_isBalanced : GoodIn wsX3_joined (wsV RX3 70 RX1 yX1_isBalanced wsX1_isBalanced) := goodIn_app (goodIn_of _ (by decide +kernel)) ggX3_joined_X1_isBalanced
set_option maxRecDepth 20000 in
theorem ggX3_joined_X0_join : GoodIn wsX3_joined wsX0_join := goodIn_r _ [41, 42, 43, 44, 45, 46, 47, 48, 40, 49, 50, 51, 52, 53, 54, 55, 18, 56, 24, 57, 58, 59, 60, 25, 61, 62, 63, 64, 65, 66, 67, 33, 9, 34, 35, 36, 68, 69, 70, 71, 72, 73, 12, 13, 14, 74, 75, 76, 77, 78, 79, 80, 81, 82, 83, 84, 85, 86, 87, 88, 89, 30, 90, 91, 29, 31, 98, 99, 100, 101, 102, 103, 104, 105, 106, 107, 108, 109] (by decide +kernel) (by decide +kernel)
set_option maxRecDepth 20000 in
theorem gX3_joined_X0_join : GoodIn wsX3_joined (wsV RX3 147 RX0 yX0_join wsX0_join) := goodIn_app (goodIn_of _ (by decide +kernel)) ggX3_joined_X0_join
theorem dX3_joined_0 : decode cX3_joined 0 = .ok (.aload_n 0, 1) := by decide +kernel
theorem dX3_joined_1 : decode cX3_joined 1 = .ok (.iload_n 1, 1) := by decide +kernel
theorem dX3_joined_2 : decode cX3_joined 2 = .ok (.invokevirtual 96, 3) := by decide +kernel
theorem dX3_joined_5 : decode cX3_joined 5 = .ok (.ifCond .ne 5, 3) := by decide +kernel
theorem dX3_joined_8 : decode cX3_joined 8 = .ok (.iconst (-1), 1) := by decide +kernel
theorem dX3_joined_9 : decode cX3_joined 9 = .ok (.ireturn, 1) := by decide +kernel
theorem dX3_joined_10 : decode cX3_joined 10 = .ok (.iload_n 2, 1) := by decide +kernel
theorem dX3_joined_11 : decode cX3_joined 11 = .ok (.iconst 0, 1) := by decide +kernel
theorem dX3_joined_12 : decode cX3_joined 12 = .ok (.iconst 2, 1) := by decide +kernel
theorem dX3_joined_13 : decode cX3_joined 13 = .ok (.invokestatic 44, 3) := by decide +kernel
theorem dX3_joined_16 : decode cX3_joined 16 = .ok (.ifCond .ne 6, 3) := by decide +kernel
theorem dX3_joined_19 : decode cX3_joined 19 = .ok (.bipush (-2), 2) := by decide +kernel
theorem dX3_joined_21 : decode cX3_joined 21 = .ok (.ireturn, 1) := by decide +kernel
theorem dX3_joined_22 : decode cX3_joined 22 = .ok (.aload_n 0, 1) := by decide +kernel
theorem dX3_joined_23 : decode cX3_joined 23 = .ok (.getfield 10, 3) := by decide +kernel
theorem dX3_joined_26 : decode cX3_joined 26 = .ok (.invokevirtual 70, 3) := by decide +kernel
theorem dX3_joined_29 : decode cX3_joined 29 = .ok (.ifCond .ne 6, 3) := by decide +kernel
theorem dX3_joined_32 : decode cX3_joined 32 = .ok (.bipush (-3), 2) := by decide +kernel
theorem dX3_joined_34 : decode cX3_joined 34 = .ok (.ireturn, 1) := by decide +kernel
theorem dX3_joined_35 : decode cX3_joined 35 = .ok (.aload_n 0, 1) := by decide +kernel
theorem dX3_joined_36 : decode cX3_joined 36 = .ok (.getfield 26, 3) := by decide +kernel
theorem dX3_joined_39 : decode cX3_joined 39 = .ok (.aload_n 0, 1) := by decide +kernel
theorem dX3_joined_40 : decode cX3_joined 40 = .ok (.getfield 10, 3) := by decide +kernel
theorem dX3_joined_43 : decode cX3_joined 43 = .ok (.iload_n 1, 1) := by decide +kernel
theorem dX3_joined_44 : decode cX3_joined 44 = .ok (.invokevirtual 147, 3) := by decide +kernel
theorem dX3_joined_47 : decode cX3_joined 47 = .ok (.ifCond .ne 6, 3) := by decide +kernel
theorem dX3_joined_50 : decode cX3_joined 50 = .ok (.bipush (-5), 2) := by decide +kernel
theorem dX3_joined_52 : decode cX3_joined 52 = .ok (.ireturn, 1) := by decide +kernel
theorem dX3_joined_53 : decode cX3_joined 53 = .ok (.iload_n 2, 1) := by decide +kernel
theorem dX3_joined_54 : decode cX3_joined 54 = .ok (.lookupswitch 42 #[(0, 26), (1, 34)], 26) := by decide +kernel
theorem dX3_joined_80 : decode cX3_joined 80 = .ok (.aload_n 0, 1) := by decide +kernel
theorem dX3_joined_81 : decode cX3_joined 81 = .ok (.getfield 26, 3) := by decide +kernel
theorem dX3_joined_84 : decode cX3_joined 84 = .ok (.getfield 151, 3) := by decide +kernel
theorem dX3_joined_87 : decode cX3_joined 87 = .ok (.ireturn, 1) := by decide +kernel
theorem dX3_joined_88 : decode cX3_joined 88 = .ok (.aload_n 0, 1) := by decide +kernel
theorem dX3_joined_89 : decode cX3_joined 89 = .ok (.getfield 26, 3) := by decide +kernel
theorem dX3_joined_92 : decode cX3_joined 92 = .ok (.getfield 154, 3) := by decide +kernel
theorem dX3_joined_95 : decode cX3_joined 95 = .ok (.ireturn, 1) := by decide +kernel
theorem dX3_joined_96 : decode cX3_joined 96 = .ok (.aload_n 0, 1) := by decide +kernel
theorem dX3_joined_97 : decode cX3_joined 97 = .ok (.getfield 26, 3) := by decide +kernel
theorem dX3_joined_100 : decode cX3_joined 100 = .ok (.getfield 157, 3) := by decide +kernel
theorem dX3_joined_103 : decode cX3_joined 103 = .ok (.ireturn, 1) := by decide +kernel
set_option maxRecDepth 20000 in
theorem ggX3_partner_X3_isSlot : GoodIn wsX3_partner wsX3_isSlot := goodIn_r _ [7, 1, 8, 9, 10, 6, 11, 95, 96, 97, 98, 99, 100, 101, 102, 103, 104, 105, 106] (by decide +kernel) (by decide +kernel)
set_option maxRecDepth 20000 in
theorem gX3_partner_X3_isSlot : GoodIn wsX3_partner (wsV RX3 66 RX3 yX3_isSlot wsX3_isSlot) := goodIn_app (goodIn_of _ (by decide +kernel)) ggX3_partner_X3_isSlot
set_option maxRecDepth 20000 in
theorem ggX3_partner_X1_isBalanced : GoodIn wsX3_partner wsX1_isBalanced := goodIn_r _ [16, 17, 18, 19, 15, 20, 21, 22, 23, 6, 24, 25, 26, 27, 28, 29, 30, 31, 32, 33, 101, 102, 103, 104, 105, 106] (by decide +kernel) (by decide +kernel)
set_option maxRecDepth 20000 in
theorem gX3_partner_X1_isBalanced : GoodIn wsX3_partner (wsV RX3 70 RX1 yX1_isBalanced wsX1_isBalanced) := goodIn_app (goodIn_of _ (by decide +kernel)) ggX3_partner_X1_isBalanced
set_option maxRecDepth 20000 in
theorem ggX3_partner_X1_phaseOf : GoodIn wsX3_partner wsX1_phaseOf := goodIn_r _ [37, 21, 38, 39, 40, 15, 41, 22, 42, 43, 44, 45, 46, 47, 48, 30, 6, 31, 32, 33, 101, 102, 103, 104, 105, 106] (by decide +kernel) (by decide +kernel)
set_option maxRecDepth 20000 in
theorem gX3_partner_X1_phaseOf : GoodIn wsX3_partner (wsV RX3 84 RX1 yX1_phaseOf wsX1_phaseOf) := goodIn_app (goodIn_of _ (by decide +kernel)) ggX3_partner_X1_phaseOf
set_option maxRecDepth 20000 in
theorem ggX3_partner_X0_join : GoodIn wsX3_partner wsX0_join := goodIn_r _ [53, 54, 55, 56, 57, 58, 59, 60, 52, 61, 62, 63, 64, 65, 35, 36, 15, 37, 21, 38, 39, 40, 41, 22, 42, 43, 44, 45, 46, 47, 48, 30, 6, 31, 32, 33, 66, 67, 68, 69, 70, 71, 9, 10, 11, 72, 73, 74, 75, 76, 77, 78, 79, 80, 81, 82, 83, 84, 85, 86, 87, 27, 88, 89, 26, 28, 107, 108, 109, 110, 111, 112, 101, 102, 103, 104, 105, 106] (by decide +kernel) (by decide +kernel)
set_option maxRecDepth 20000 in
theorem gX3_partner_X0_join : GoodIn wsX3_partner (wsV RX3 147 RX0 yX0_join wsX0_join) := goodIn_app (goodIn_of _ (by decide +kernel)) ggX3_partner_X0_join
set_option maxRecDepth 20000 in
theorem ggX3_partner_X1_isForward : GoodIn wsX3_partner wsX1_isForward := goodIn_r _ [69, 38, 39, 40, 15, 41, 21, 22, 42, 43, 44, 45, 46, 47, 48, 30, 6, 31, 32, 33, 101, 102, 103, 104, 105, 106] (by decide +kernel) (by decide +kernel)
set_option maxRecDepth 20000 in
theorem gX3_partner_X1_isForward : GoodIn wsX3_partner (wsV RX3 87 RX1 yX1_isForward wsX1_isForward) := goodIn_app (goodIn_of _ (by decide +kernel)) ggX3_partner_X1_isForward
set_option maxRecDepth 20000 in
theorem ggX3_partner_X0_otherOf : GoodIn wsX3_partner wsX0_otherOf := goodIn_r _ [94, 54, 63, 56, 76, 6, 77, 9, 10, 11, 78, 79, 80, 52, 81, 64, 30, 31, 107, 108, 109, 110, 111, 112] (by decide +kernel) (by decide +kernel)
set_option maxRecDepth 20000 in
theorem gX3_partner_X0_otherOf : GoodIn wsX3_partner (wsV RX3 160 RX0 yX0_otherOf wsX0_otherOf) := goodIn_app (goodIn_of _ (by decide +kernel)) ggX3_partner_X0_otherOf
theorem dX3_partner_0 : decode cX3_partner 0 = .ok (.aload_n 0, 1) := by decide +kernel
theorem dX3_partner_1 : decode cX3_partner 1 = .ok (.iload_n 1, 1) := by decide +kernel
theorem dX3_partner_2 : decode cX3_partner 2 = .ok (.invokevirtual 66, 3) := by decide +kernel
theorem dX3_partner_5 : decode cX3_partner 5 = .ok (.ifCond .ne 5, 3) := by decide +kernel
theorem dX3_partner_8 : decode cX3_partner 8 = .ok (.iconst (-1), 1) := by decide +kernel
theorem dX3_partner_9 : decode cX3_partner 9 = .ok (.ireturn, 1) := by decide +kernel
theorem dX3_partner_10 : decode cX3_partner 10 = .ok (.aload_n 0, 1) := by decide +kernel
theorem dX3_partner_11 : decode cX3_partner 11 = .ok (.getfield 10, 3) := by decide +kernel
theorem dX3_partner_14 : decode cX3_partner 14 = .ok (.invokevirtual 70, 3) := by decide +kernel
theorem dX3_partner_17 : decode cX3_partner 17 = .ok (.ifCond .ne 6, 3) := by decide +kernel
theorem dX3_partner_20 : decode cX3_partner 20 = .ok (.bipush (-3), 2) := by decide +kernel
theorem dX3_partner_22 : decode cX3_partner 22 = .ok (.ireturn, 1) := by decide +kernel
theorem dX3_partner_23 : decode cX3_partner 23 = .ok (.aload_n 0, 1) := by decide +kernel
theorem dX3_partner_24 : decode cX3_partner 24 = .ok (.getfield 26, 3) := by decide +kernel
theorem dX3_partner_27 : decode cX3_partner 27 = .ok (.aload_n 0, 1) := by decide +kernel
theorem dX3_partner_28 : decode cX3_partner 28 = .ok (.getfield 10, 3) := by decide +kernel
theorem dX3_partner_31 : decode cX3_partner 31 = .ok (.aload_n 0, 1) := by decide +kernel
theorem dX3_partner_32 : decode cX3_partner 32 = .ok (.getfield 10, 3) := by decide +kernel
theorem dX3_partner_35 : decode cX3_partner 35 = .ok (.iload_n 1, 1) := by decide +kernel
theorem dX3_partner_36 : decode cX3_partner 36 = .ok (.invokevirtual 84, 3) := by decide +kernel
theorem dX3_partner_39 : decode cX3_partner 39 = .ok (.invokevirtual 147, 3) := by decide +kernel
theorem dX3_partner_42 : decode cX3_partner 42 = .ok (.ifCond .ne 6, 3) := by decide +kernel
theorem dX3_partner_45 : decode cX3_partner 45 = .ok (.bipush (-5), 2) := by decide +kernel
theorem dX3_partner_47 : decode cX3_partner 47 = .ok (.ireturn, 1) := by decide +kernel
theorem dX3_partner_48 : decode cX3_partner 48 = .ok (.aload_n 0, 1) := by decide +kernel
theorem dX3_partner_49 : decode cX3_partner 49 = .ok (.getfield 26, 3) := by decide +kernel
theorem dX3_partner_52 : decode cX3_partner 52 = .ok (.iload_n 1, 1) := by decide +kernel
theorem dX3_partner_53 : decode cX3_partner 53 = .ok (.aload_n 0, 1) := by decide +kernel
theorem dX3_partner_54 : decode cX3_partner 54 = .ok (.getfield 10, 3) := by decide +kernel
theorem dX3_partner_57 : decode cX3_partner 57 = .ok (.iload_n 1, 1) := by decide +kernel
theorem dX3_partner_58 : decode cX3_partner 58 = .ok (.invokevirtual 87, 3) := by decide +kernel
theorem dX3_partner_61 : decode cX3_partner 61 = .ok (.invokevirtual 160, 3) := by decide +kernel
theorem dX3_partner_64 : decode cX3_partner 64 = .ok (.ireturn, 1) := by decide +kernel
set_option maxRecDepth 20000 in
theorem ggX3_path_X3_isSlot : GoodIn wsX3_path wsX3_isSlot := goodIn_r _ [7, 1, 8, 9, 10, 6, 11, 23, 24, 25, 26, 27, 28, 29, 30, 31, 32, 33, 34] (by decide +kernel) (by decide +kernel)
set_option maxRecDepth 20000 in
theorem gX3_path_X3_isSlot : GoodIn wsX3_path (wsV RX3 66 RX3 yX3_isSlot wsX3_isSlot) := goodIn_app (goodIn_of _ (by decide +kernel)) ggX3_path_X3_isSlot
set_option maxRecDepth 20000 in
theorem ggX3_path_X3_isWithin : GoodIn wsX3_path wsX3_isWithin := goodIn_r _ [11] (by decide +kernel) (by decide +kernel)
set_option maxRecDepth 20000 in
theorem gX3_path_X3_isWithin : GoodIn wsX3_path (va_wsS RX3 44 yX3_isWithin wsX3_isWithin) := goodIn_app (goodIn_of _ (by decide +kernel)) ggX3_path_X3_isWithin
set_option maxRecDepth 20000 in
theorem ggX3_path_X3_leftOver : GoodIn wsX3_path wsX3_leftOver := goodIn_r _ [14] (by decide +kernel) (by decide +kernel)
set_option maxRecDepth 20000 in
theorem gX3_path_X3_leftOver : GoodIn wsX3_path (va_wsS RX3 166 yX3_leftOver wsX3_leftOver) := goodIn_app (goodIn_of _ (by decide +kernel)) ggX3_path_X3_leftOver
set_option maxRecDepth 20000 in
theorem ggX3_path_X1_copyOf : GoodIn wsX3_path wsX1_copyOf := goodIn_r _ [19, 20, 21, 6, 22, 29, 30, 31, 32, 33, 34] (by decide +kernel) (by decide +kernel)
set_option maxRecDepth 20000 in
theorem gX3_path_X1_copyOf : GoodIn wsX3_path (wsV RX3 78 RX1 yX1_copyOf wsX1_copyOf) := goodIn_app (goodIn_of _ (by decide +kernel)) ggX3_path_X1_copyOf
theorem dX3_path_0 : decode cX3_path 0 = .ok (.aload_n 0, 1) := by decide +kernel
theorem dX3_path_1 : decode cX3_path 1 = .ok (.iload_n 1, 1) := by decide +kernel
theorem dX3_path_2 : decode cX3_path 2 = .ok (.invokevirtual 66, 3) := by decide +kernel
theorem dX3_path_5 : decode cX3_path 5 = .ok (.ifCond .ne 5, 3) := by decide +kernel
theorem dX3_path_8 : decode cX3_path 8 = .ok (.iconst (-1), 1) := by decide +kernel
theorem dX3_path_9 : decode cX3_path 9 = .ok (.ireturn, 1) := by decide +kernel
theorem dX3_path_10 : decode cX3_path 10 = .ok (.iload_n 2, 1) := by decide +kernel
theorem dX3_path_11 : decode cX3_path 11 = .ok (.iconst 1, 1) := by decide +kernel
theorem dX3_path_12 : decode cX3_path 12 = .ok (.bipush 10, 2) := by decide +kernel
theorem dX3_path_14 : decode cX3_path 14 = .ok (.invokestatic 44, 3) := by decide +kernel
theorem dX3_path_17 : decode cX3_path 17 = .ok (.ifCond .ne 6, 3) := by decide +kernel
theorem dX3_path_20 : decode cX3_path 20 = .ok (.bipush (-2), 2) := by decide +kernel
theorem dX3_path_22 : decode cX3_path 22 = .ok (.ireturn, 1) := by decide +kernel
theorem dX3_path_23 : decode cX3_path 23 = .ok (.aload_n 0, 1) := by decide +kernel
theorem dX3_path_24 : decode cX3_path 24 = .ok (.getfield 10, 3) := by decide +kernel
theorem dX3_path_27 : decode cX3_path 27 = .ok (.getfield 163, 3) := by decide +kernel
theorem dX3_path_30 : decode cX3_path 30 = .ok (.iload_n 2, 1) := by decide +kernel
theorem dX3_path_31 : decode cX3_path 31 = .ok (.invokestatic 166, 3) := by decide +kernel
theorem dX3_path_34 : decode cX3_path 34 = .ok (.ifCond .eq 6, 3) := by decide +kernel
theorem dX3_path_37 : decode cX3_path 37 = .ok (.bipush (-5), 2) := by decide +kernel
theorem dX3_path_39 : decode cX3_path 39 = .ok (.ireturn, 1) := by decide +kernel
theorem dX3_path_40 : decode cX3_path 40 = .ok (.aload_n 0, 1) := by decide +kernel
theorem dX3_path_41 : decode cX3_path 41 = .ok (.getfield 10, 3) := by decide +kernel
theorem dX3_path_44 : decode cX3_path 44 = .ok (.iload_n 1, 1) := by decide +kernel
theorem dX3_path_45 : decode cX3_path 45 = .ok (.invokevirtual 78, 3) := by decide +kernel
theorem dX3_path_48 : decode cX3_path 48 = .ok (.iload_n 2, 1) := by decide +kernel
theorem dX3_path_49 : decode cX3_path 49 = .ok (.invokestatic 166, 3) := by decide +kernel
theorem dX3_path_52 : decode cX3_path 52 = .ok (.ireturn, 1) := by decide +kernel
set_option maxRecDepth 20000 in
theorem ggX3_image_X3_isWithin : GoodIn wsX3_image wsX3_isWithin := goodIn_r _ [10] (by decide +kernel) (by decide +kernel)
set_option maxRecDepth 20000 in
theorem gX3_image_X3_isWithin : GoodIn wsX3_image (va_wsS RX3 44 yX3_isWithin wsX3_isWithin) := goodIn_app (goodIn_of _ (by decide +kernel)) ggX3_image_X3_isWithin
set_option maxRecDepth 20000 in
theorem ggX3_image_X3_put : GoodIn wsX3_image wsX3_put := goodIn_r _ [13, 7, 8, 9, 10] (by decide +kernel) (by decide +kernel)
set_option maxRecDepth 20000 in
theorem gX3_image_X3_put : GoodIn wsX3_image (va_wsS RX3 169 yX3_put wsX3_put) := goodIn_app (goodIn_of _ (by decide +kernel)) ggX3_image_X3_put
theorem dX3_image_0 : decode cX3_image 0 = .ok (.iload_n 1, 1) := by decide +kernel
theorem dX3_image_1 : decode cX3_image 1 = .ok (.iconst 0, 1) := by decide +kernel
theorem dX3_image_2 : decode cX3_image 2 = .ok (.iconst 1, 1) := by decide +kernel
theorem dX3_image_3 : decode cX3_image 3 = .ok (.invokestatic 44, 3) := by decide +kernel
theorem dX3_image_6 : decode cX3_image 6 = .ok (.ifCond .ne 6, 3) := by decide +kernel
theorem dX3_image_9 : decode cX3_image 9 = .ok (.bipush (-2), 2) := by decide +kernel
theorem dX3_image_11 : decode cX3_image 11 = .ok (.ireturn, 1) := by decide +kernel
theorem dX3_image_12 : decode cX3_image 12 = .ok (.iload_n 1, 1) := by decide +kernel
theorem dX3_image_13 : decode cX3_image 13 = .ok (.iconst 4, 1) := by decide +kernel
theorem dX3_image_14 : decode cX3_image 14 = .ok (.imul, 1) := by decide +kernel
theorem dX3_image_15 : decode cX3_image 15 = .ok (.istore_n 2, 1) := by decide +kernel
theorem dX3_image_16 : decode cX3_image 16 = .ok (.aload_n 0, 1) := by decide +kernel
theorem dX3_image_17 : decode cX3_image 17 = .ok (.getfield 37, 3) := by decide +kernel
theorem dX3_image_20 : decode cX3_image 20 = .ok (.iload_n 2, 1) := by decide +kernel
theorem dX3_image_21 : decode cX3_image 21 = .ok (.aload_n 0, 1) := by decide +kernel
theorem dX3_image_22 : decode cX3_image 22 = .ok (.getfield 10, 3) := by decide +kernel
theorem dX3_image_25 : decode cX3_image 25 = .ok (.getfield 56, 3) := by decide +kernel
theorem dX3_image_28 : decode cX3_image 28 = .ok (.invokestatic 169, 3) := by decide +kernel
theorem dX3_image_31 : decode cX3_image 31 = .ok (.aload_n 0, 1) := by decide +kernel
theorem dX3_image_32 : decode cX3_image 32 = .ok (.getfield 37, 3) := by decide +kernel
theorem dX3_image_35 : decode cX3_image 35 = .ok (.iload_n 2, 1) := by decide +kernel
theorem dX3_image_36 : decode cX3_image 36 = .ok (.iconst 1, 1) := by decide +kernel
theorem dX3_image_37 : decode cX3_image 37 = .ok (.iadd, 1) := by decide +kernel
theorem dX3_image_38 : decode cX3_image 38 = .ok (.aload_n 0, 1) := by decide +kernel
theorem dX3_image_39 : decode cX3_image 39 = .ok (.getfield 10, 3) := by decide +kernel
theorem dX3_image_42 : decode cX3_image 42 = .ok (.getfield 103, 3) := by decide +kernel
theorem dX3_image_45 : decode cX3_image 45 = .ok (.invokestatic 169, 3) := by decide +kernel
theorem dX3_image_48 : decode cX3_image 48 = .ok (.aload_n 0, 1) := by decide +kernel
theorem dX3_image_49 : decode cX3_image 49 = .ok (.getfield 37, 3) := by decide +kernel
theorem dX3_image_52 : decode cX3_image 52 = .ok (.iload_n 2, 1) := by decide +kernel
theorem dX3_image_53 : decode cX3_image 53 = .ok (.iconst 2, 1) := by decide +kernel
theorem dX3_image_54 : decode cX3_image 54 = .ok (.iadd, 1) := by decide +kernel
theorem dX3_image_55 : decode cX3_image 55 = .ok (.aload_n 0, 1) := by decide +kernel
theorem dX3_image_56 : decode cX3_image 56 = .ok (.getfield 10, 3) := by decide +kernel
theorem dX3_image_59 : decode cX3_image 59 = .ok (.getfield 106, 3) := by decide +kernel
theorem dX3_image_62 : decode cX3_image 62 = .ok (.invokestatic 169, 3) := by decide +kernel
theorem dX3_image_65 : decode cX3_image 65 = .ok (.aload_n 0, 1) := by decide +kernel
theorem dX3_image_66 : decode cX3_image 66 = .ok (.getfield 37, 3) := by decide +kernel
theorem dX3_image_69 : decode cX3_image 69 = .ok (.iload_n 2, 1) := by decide +kernel
theorem dX3_image_70 : decode cX3_image 70 = .ok (.iconst 3, 1) := by decide +kernel
theorem dX3_image_71 : decode cX3_image 71 = .ok (.iadd, 1) := by decide +kernel
theorem dX3_image_72 : decode cX3_image 72 = .ok (.aload_n 0, 1) := by decide +kernel
theorem dX3_image_73 : decode cX3_image 73 = .ok (.getfield 10, 3) := by decide +kernel
theorem dX3_image_76 : decode cX3_image 76 = .ok (.getfield 59, 3) := by decide +kernel
theorem dX3_image_79 : decode cX3_image 79 = .ok (.invokestatic 169, 3) := by decide +kernel
theorem dX3_image_82 : decode cX3_image 82 = .ok (.iconst 1, 1) := by decide +kernel
theorem dX3_image_83 : decode cX3_image 83 = .ok (.ireturn, 1) := by decide +kernel
set_option maxRecDepth 20000 in
theorem ggX3_restore_X3_isWithin : GoodIn wsX3_restore wsX3_isWithin := goodIn_r _ [5] (by decide +kernel) (by decide +kernel)
set_option maxRecDepth 20000 in
theorem gX3_restore_X3_isWithin : GoodIn wsX3_restore (va_wsS RX3 44 yX3_isWithin wsX3_isWithin) := goodIn_app (goodIn_of _ (by decide +kernel)) ggX3_restore_X3_isWithin
set_option maxRecDepth 20000 in
theorem ggX3_restore_X3_at : GoodIn wsX3_restore wsX3_at := goodIn_r _ [8, 2, 3, 4, 5] (by decide +kernel) (by decide +kernel)
set_option maxRecDepth 20000 in
theorem gX3_restore_X3_at : GoodIn wsX3_restore (va_wsS RX3 121 yX3_at wsX3_at) := goodIn_app (goodIn_of _ (by decide +kernel)) ggX3_restore_X3_at
set_option maxRecDepth 20000 in
theorem ggX3_restore_X3_take : GoodIn wsX3_restore wsX3_take := goodIn_r _ [12, 13, 14, 15, 16, 17, 18, 19, 20, 21, 22, 23, 24, 25, 26, 27, 4, 28, 29, 30, 31, 32, 33, 34, 35, 36, 37, 38, 39, 40, 41, 42, 43, 44, 45, 46, 47, 48, 49, 50, 51, 2, 3, 5, 52, 53, 54, 55, 56, 57, 58, 7, 8, 59, 60, 61, 62, 63, 64, 65, 66, 67, 68, 69, 70, 71, 72, 73, 74, 75, 76, 77, 78, 79, 80, 81] (by decide +kernel) (by decide +kernel)
set_option maxRecDepth 20000 in
theorem gX3_restore_X3_take : GoodIn wsX3_restore (wsV RX3 40 RX3 yX3_take wsX3_take) := goodIn_app (goodIn_of _ (by decide +kernel)) ggX3_restore_X3_take
theorem dX3_restore_0 : decode cX3_restore 0 = .ok (.iload_n 1, 1) := by decide +kernel
theorem dX3_restore_1 : decode cX3_restore 1 = .ok (.iconst 0, 1) := by decide +kernel
theorem dX3_restore_2 : decode cX3_restore 2 = .ok (.iconst 1, 1) := by decide +kernel
theorem dX3_restore_3 : decode cX3_restore 3 = .ok (.invokestatic 44, 3) := by decide +kernel
theorem dX3_restore_6 : decode cX3_restore 6 = .ok (.ifCond .ne 6, 3) := by decide +kernel
theorem dX3_restore_9 : decode cX3_restore 9 = .ok (.bipush (-2), 2) := by decide +kernel
theorem dX3_restore_11 : decode cX3_restore 11 = .ok (.ireturn, 1) := by decide +kernel
theorem dX3_restore_12 : decode cX3_restore 12 = .ok (.iload_n 1, 1) := by decide +kernel
theorem dX3_restore_13 : decode cX3_restore 13 = .ok (.iconst 4, 1) := by decide +kernel
theorem dX3_restore_14 : decode cX3_restore 14 = .ok (.imul, 1) := by decide +kernel
theorem dX3_restore_15 : decode cX3_restore 15 = .ok (.istore_n 2, 1) := by decide +kernel
theorem dX3_restore_16 : decode cX3_restore 16 = .ok (.aload_n 0, 1) := by decide +kernel
theorem dX3_restore_17 : decode cX3_restore 17 = .ok (.getfield 37, 3) := by decide +kernel
theorem dX3_restore_20 : decode cX3_restore 20 = .ok (.iload_n 2, 1) := by decide +kernel
theorem dX3_restore_21 : decode cX3_restore 21 = .ok (.invokestatic 121, 3) := by decide +kernel
theorem dX3_restore_24 : decode cX3_restore 24 = .ok (.ifCond .ne 6, 3) := by decide +kernel
theorem dX3_restore_27 : decode cX3_restore 27 = .ok (.bipush (-3), 2) := by decide +kernel
theorem dX3_restore_29 : decode cX3_restore 29 = .ok (.ireturn, 1) := by decide +kernel
theorem dX3_restore_30 : decode cX3_restore 30 = .ok (.aload_n 0, 1) := by decide +kernel
theorem dX3_restore_31 : decode cX3_restore 31 = .ok (.aload_n 0, 1) := by decide +kernel
theorem dX3_restore_32 : decode cX3_restore 32 = .ok (.getfield 37, 3) := by decide +kernel
theorem dX3_restore_35 : decode cX3_restore 35 = .ok (.iload_n 2, 1) := by decide +kernel
theorem dX3_restore_36 : decode cX3_restore 36 = .ok (.invokestatic 121, 3) := by decide +kernel
theorem dX3_restore_39 : decode cX3_restore 39 = .ok (.aload_n 0, 1) := by decide +kernel
theorem dX3_restore_40 : decode cX3_restore 40 = .ok (.getfield 37, 3) := by decide +kernel
theorem dX3_restore_43 : decode cX3_restore 43 = .ok (.iload_n 2, 1) := by decide +kernel
theorem dX3_restore_44 : decode cX3_restore 44 = .ok (.iconst 1, 1) := by decide +kernel
theorem dX3_restore_45 : decode cX3_restore 45 = .ok (.iadd, 1) := by decide +kernel
theorem dX3_restore_46 : decode cX3_restore 46 = .ok (.invokestatic 121, 3) := by decide +kernel
theorem dX3_restore_49 : decode cX3_restore 49 = .ok (.aload_n 0, 1) := by decide +kernel
theorem dX3_restore_50 : decode cX3_restore 50 = .ok (.getfield 37, 3) := by decide +kernel
theorem dX3_restore_53 : decode cX3_restore 53 = .ok (.iload_n 2, 1) := by decide +kernel
theorem dX3_restore_54 : decode cX3_restore 54 = .ok (.iconst 2, 1) := by decide +kernel
theorem dX3_restore_55 : decode cX3_restore 55 = .ok (.iadd, 1) := by decide +kernel
theorem dX3_restore_56 : decode cX3_restore 56 = .ok (.invokestatic 121, 3) := by decide +kernel
theorem dX3_restore_59 : decode cX3_restore 59 = .ok (.aload_n 0, 1) := by decide +kernel
theorem dX3_restore_60 : decode cX3_restore 60 = .ok (.getfield 37, 3) := by decide +kernel
theorem dX3_restore_63 : decode cX3_restore 63 = .ok (.iload_n 2, 1) := by decide +kernel
theorem dX3_restore_64 : decode cX3_restore 64 = .ok (.iconst 3, 1) := by decide +kernel
theorem dX3_restore_65 : decode cX3_restore 65 = .ok (.iadd, 1) := by decide +kernel
theorem dX3_restore_66 : decode cX3_restore 66 = .ok (.invokestatic 121, 3) := by decide +kernel
theorem dX3_restore_69 : decode cX3_restore 69 = .ok (.invokevirtual 40, 3) := by decide +kernel
theorem dX3_restore_72 : decode cX3_restore 72 = .ok (.iconst 1, 1) := by decide +kernel
theorem dX3_restore_73 : decode cX3_restore 73 = .ok (.ireturn, 1) := by decide +kernel
set_option maxRecDepth 20000 in
theorem ggX3_told_X1_isBalanced : GoodIn wsX3_told wsX1_isBalanced := goodIn_r _ [12, 13, 14, 15, 11, 16, 17, 18, 19, 20, 21, 22, 23, 24, 25, 26, 27, 28, 29, 30, 37, 38, 39, 40, 41, 42] (by decide +kernel) (by decide +kernel)
set_option maxRecDepth 20000 in
theorem gX3_told_X1_isBalanced : GoodIn wsX3_told (wsV RX3 70 RX1 yX1_isBalanced wsX1_isBalanced) := goodIn_app (goodIn_of _ (by decide +kernel)) ggX3_told_X1_isBalanced
theorem dX3_told_0 : decode cX3_told 0 = .ok (.iload_n 1, 1) := by decide +kernel
theorem dX3_told_1 : decode cX3_told 1 = .ok (.tableswitch 107 0 6 #[43, 51, 59, 67, 75, 83, 91], 43) := by decide +kernel
theorem dX3_told_44 : decode cX3_told 44 = .ok (.aload_n 0, 1) := by decide +kernel
theorem dX3_told_45 : decode cX3_told 45 = .ok (.getfield 10, 3) := by decide +kernel
theorem dX3_told_48 : decode cX3_told 48 = .ok (.getfield 56, 3) := by decide +kernel
theorem dX3_told_51 : decode cX3_told 51 = .ok (.ireturn, 1) := by decide +kernel
theorem dX3_told_52 : decode cX3_told 52 = .ok (.aload_n 0, 1) := by decide +kernel
theorem dX3_told_53 : decode cX3_told 53 = .ok (.getfield 10, 3) := by decide +kernel
theorem dX3_told_56 : decode cX3_told 56 = .ok (.getfield 103, 3) := by decide +kernel
theorem dX3_told_59 : decode cX3_told 59 = .ok (.ireturn, 1) := by decide +kernel
theorem dX3_told_60 : decode cX3_told 60 = .ok (.aload_n 0, 1) := by decide +kernel
theorem dX3_told_61 : decode cX3_told 61 = .ok (.getfield 10, 3) := by decide +kernel
theorem dX3_told_64 : decode cX3_told 64 = .ok (.getfield 106, 3) := by decide +kernel
theorem dX3_told_67 : decode cX3_told 67 = .ok (.ireturn, 1) := by decide +kernel
theorem dX3_told_68 : decode cX3_told 68 = .ok (.aload_n 0, 1) := by decide +kernel
theorem dX3_told_69 : decode cX3_told 69 = .ok (.getfield 10, 3) := by decide +kernel
theorem dX3_told_72 : decode cX3_told 72 = .ok (.getfield 59, 3) := by decide +kernel
theorem dX3_told_75 : decode cX3_told 75 = .ok (.ireturn, 1) := by decide +kernel
theorem dX3_told_76 : decode cX3_told 76 = .ok (.aload_n 0, 1) := by decide +kernel
theorem dX3_told_77 : decode cX3_told 77 = .ok (.getfield 10, 3) := by decide +kernel
theorem dX3_told_80 : decode cX3_told 80 = .ok (.getfield 163, 3) := by decide +kernel
theorem dX3_told_83 : decode cX3_told 83 = .ok (.ireturn, 1) := by decide +kernel
theorem dX3_told_84 : decode cX3_told 84 = .ok (.aload_n 0, 1) := by decide +kernel
theorem dX3_told_85 : decode cX3_told 85 = .ok (.getfield 10, 3) := by decide +kernel
theorem dX3_told_88 : decode cX3_told 88 = .ok (.getfield 52, 3) := by decide +kernel
theorem dX3_told_91 : decode cX3_told 91 = .ok (.ireturn, 1) := by decide +kernel
theorem dX3_told_92 : decode cX3_told 92 = .ok (.aload_n 0, 1) := by decide +kernel
theorem dX3_told_93 : decode cX3_told 93 = .ok (.getfield 10, 3) := by decide +kernel
theorem dX3_told_96 : decode cX3_told 96 = .ok (.invokevirtual 70, 3) := by decide +kernel
theorem dX3_told_99 : decode cX3_told 99 = .ok (.ifCond .eq 7, 3) := by decide +kernel
theorem dX3_told_102 : decode cX3_told 102 = .ok (.iconst 1, 1) := by decide +kernel
theorem dX3_told_103 : decode cX3_told 103 = .ok (.goto 4, 3) := by decide +kernel
theorem dX3_told_106 : decode cX3_told 106 = .ok (.iconst 0, 1) := by decide +kernel
theorem dX3_told_107 : decode cX3_told 107 = .ok (.ireturn, 1) := by decide +kernel
theorem dX3_told_108 : decode cX3_told 108 = .ok (.bipush (-2), 2) := by decide +kernel
theorem dX3_told_110 : decode cX3_told 110 = .ok (.ireturn, 1) := by decide +kernel
set_option maxRecDepth 20000 in
theorem ggX3_take_X1_become : GoodIn wsX3_take wsX1_become := goodIn_r _ [8, 9, 10, 11, 12, 13, 14, 15, 16, 17, 18, 19, 20, 21, 22, 23, 24, 25, 26, 67, 68, 69, 70, 71, 72] (by decide +kernel) (by decide +kernel)
set_option maxRecDepth 20000 in
theorem gX3_take_X1_become : GoodIn wsX3_take (wsV RX3 173 RX1 yX1_become wsX1_become) := goodIn_app (goodIn_of _ (by decide +kernel)) ggX3_take_X1_become
set_option maxRecDepth 20000 in
theorem ggX3_take_X2_become : GoodIn wsX3_take wsX2_become := goodIn_r _ [31, 32, 33, 34, 35, 36, 37, 38, 39, 16, 40, 41, 42, 43, 23, 24, 25, 26, 44, 45, 30, 46, 47, 48, 49, 50, 51, 52, 53, 54, 55, 56, 57, 58, 59, 60, 73, 74, 75] (by decide +kernel) (by decide +kernel)
set_option maxRecDepth 20000 in
theorem gX3_take_X2_become : GoodIn wsX3_take (wsV RX3 176 RX2 yX2_become wsX2_become) := goodIn_app (goodIn_of _ (by decide +kernel)) ggX3_take_X2_become
theorem dX3_take_0 : decode cX3_take 0 = .ok (.aload_n 0, 1) := by decide +kernel
theorem dX3_take_1 : decode cX3_take 1 = .ok (.getfield 10, 3) := by decide +kernel
theorem dX3_take_4 : decode cX3_take 4 = .ok (.iload_n 1, 1) := by decide +kernel
theorem dX3_take_5 : decode cX3_take 5 = .ok (.iload_n 2, 1) := by decide +kernel
theorem dX3_take_6 : decode cX3_take 6 = .ok (.iload_n 3, 1) := by decide +kernel
theorem dX3_take_7 : decode cX3_take 7 = .ok (.iload 4, 2) := by decide +kernel
theorem dX3_take_9 : decode cX3_take 9 = .ok (.invokevirtual 173, 3) := by decide +kernel
theorem dX3_take_12 : decode cX3_take 12 = .ok (.aload_n 0, 1) := by decide +kernel
theorem dX3_take_13 : decode cX3_take 13 = .ok (.getfield 19, 3) := by decide +kernel
theorem dX3_take_16 : decode cX3_take 16 = .ok (.aload_n 0, 1) := by decide +kernel
theorem dX3_take_17 : decode cX3_take 17 = .ok (.getfield 10, 3) := by decide +kernel
theorem dX3_take_20 : decode cX3_take 20 = .ok (.getfield 52, 3) := by decide +kernel
theorem dX3_take_23 : decode cX3_take 23 = .ok (.invokevirtual 176, 3) := by decide +kernel
theorem dX3_take_26 : decode cX3_take 26 = .ok (.return_, 1) := by decide +kernel
set_option maxRecDepth 20000 in
theorem ggX3_isSlot_X3_isWithin : GoodIn wsX3_isSlot wsX3_isWithin := goodIn_r _ [6] (by decide +kernel) (by decide +kernel)
set_option maxRecDepth 20000 in
theorem gX3_isSlot_X3_isWithin : GoodIn wsX3_isSlot (va_wsS RX3 44 yX3_isWithin wsX3_isWithin) := goodIn_app (goodIn_of _ (by decide +kernel)) ggX3_isSlot_X3_isWithin
theorem dX3_isSlot_0 : decode cX3_isSlot 0 = .ok (.iload_n 1, 1) := by decide +kernel
theorem dX3_isSlot_1 : decode cX3_isSlot 1 = .ok (.iconst 0, 1) := by decide +kernel
theorem dX3_isSlot_2 : decode cX3_isSlot 2 = .ok (.aload_n 0, 1) := by decide +kernel
theorem dX3_isSlot_3 : decode cX3_isSlot 3 = .ok (.getfield 10, 3) := by decide +kernel
theorem dX3_isSlot_6 : decode cX3_isSlot 6 = .ok (.getfield 56, 3) := by decide +kernel
theorem dX3_isSlot_9 : decode cX3_isSlot 9 = .ok (.iconst 1, 1) := by decide +kernel
theorem dX3_isSlot_10 : decode cX3_isSlot 10 = .ok (.isub, 1) := by decide +kernel
theorem dX3_isSlot_11 : decode cX3_isSlot 11 = .ok (.invokestatic 44, 3) := by decide +kernel
theorem dX3_isSlot_14 : decode cX3_isSlot 14 = .ok (.ireturn, 1) := by decide +kernel
set_option maxRecDepth 20000 in
theorem ggX3_isPhase_X3_isWithin : GoodIn wsX3_isPhase wsX3_isWithin := goodIn_r _ [6] (by decide +kernel) (by decide +kernel)
set_option maxRecDepth 20000 in
theorem gX3_isPhase_X3_isWithin : GoodIn wsX3_isPhase (va_wsS RX3 44 yX3_isWithin wsX3_isWithin) := goodIn_app (goodIn_of _ (by decide +kernel)) ggX3_isPhase_X3_isWithin
theorem dX3_isPhase_0 : decode cX3_isPhase 0 = .ok (.iload_n 1, 1) := by decide +kernel
theorem dX3_isPhase_1 : decode cX3_isPhase 1 = .ok (.iconst 0, 1) := by decide +kernel
theorem dX3_isPhase_2 : decode cX3_isPhase 2 = .ok (.aload_n 0, 1) := by decide +kernel
theorem dX3_isPhase_3 : decode cX3_isPhase 3 = .ok (.getfield 10, 3) := by decide +kernel
theorem dX3_isPhase_6 : decode cX3_isPhase 6 = .ok (.getfield 106, 3) := by decide +kernel
theorem dX3_isPhase_9 : decode cX3_isPhase 9 = .ok (.iconst 1, 1) := by decide +kernel
theorem dX3_isPhase_10 : decode cX3_isPhase 10 = .ok (.isub, 1) := by decide +kernel
theorem dX3_isPhase_11 : decode cX3_isPhase 11 = .ok (.invokestatic 44, 3) := by decide +kernel
theorem dX3_isPhase_14 : decode cX3_isPhase 14 = .ok (.ireturn, 1) := by decide +kernel
set_option maxRecDepth 20000 in
theorem ggX3_isWave_X3_isWithin : GoodIn wsX3_isWave wsX3_isWithin := goodIn_r _ [4] (by decide +kernel) (by decide +kernel)
set_option maxRecDepth 20000 in
theorem gX3_isWave_X3_isWithin : GoodIn wsX3_isWave (va_wsS RX3 44 yX3_isWithin wsX3_isWithin) := goodIn_app (goodIn_of _ (by decide +kernel)) ggX3_isWave_X3_isWithin
theorem dX3_isWave_0 : decode cX3_isWave 0 = .ok (.iload_n 0, 1) := by decide +kernel
theorem dX3_isWave_1 : decode cX3_isWave 1 = .ok (.iconst 1, 1) := by decide +kernel
theorem dX3_isWave_2 : decode cX3_isWave 2 = .ok (.bipush 99, 2) := by decide +kernel
theorem dX3_isWave_4 : decode cX3_isWave 4 = .ok (.invokestatic 44, 3) := by decide +kernel
theorem dX3_isWave_7 : decode cX3_isWave 7 = .ok (.ireturn, 1) := by decide +kernel
set_option maxRecDepth 20000 in
theorem ggX3_addUp_J7_fill_53178 : GoodIn wsX3_addUp wsJ7_fill_53178 := goodIn_r _ [7] (by decide +kernel) (by decide +kernel)
set_option maxRecDepth 20000 in
theorem gX3_addUp_J7_fill_53178 : GoodIn wsX3_addUp (va_wsS RX3 179 yJ7_fill_53178 wsJ7_fill_53178) := goodIn_app (goodIn_of _ (by decide +kernel)) ggX3_addUp_J7_fill_53178
set_option maxRecDepth 20000 in
theorem ggX3_addUp_X1_phaseOf : GoodIn wsX3_addUp wsX1_phaseOf := goodIn_r _ [12, 13, 14, 15, 16, 11, 17, 18, 19, 20, 21, 22, 23, 24, 25, 26, 27, 28, 29, 30, 68, 69, 70, 71, 72, 73] (by decide +kernel) (by decide +kernel)
set_option maxRecDepth 20000 in
theorem gX3_addUp_X1_phaseOf : GoodIn wsX3_addUp (wsV RX3 84 RX1 yX1_phaseOf wsX1_phaseOf) := goodIn_app (goodIn_of _ (by decide +kernel)) ggX3_addUp_X1_phaseOf
set_option maxRecDepth 20000 in
theorem ggX3_addUp_X1_isForward : GoodIn wsX3_addUp wsX1_isForward := goodIn_r _ [34, 14, 15, 16, 11, 17, 13, 18, 19, 20, 21, 22, 23, 24, 25, 26, 27, 28, 29, 30, 68, 69, 70, 71, 72, 73] (by decide +kernel) (by decide +kernel)
set_option maxRecDepth 20000 in
theorem gX3_addUp_X1_isForward : GoodIn wsX3_addUp (wsV RX3 87 RX1 yX1_isForward wsX1_isForward) := goodIn_app (goodIn_of _ (by decide +kernel)) ggX3_addUp_X1_isForward
set_option maxRecDepth 20000 in
theorem ggX3_addUp_X1_turnOf : GoodIn wsX3_addUp wsX1_turnOf := goodIn_r _ [22, 23, 24, 25, 26, 27, 28, 29, 30, 68, 69, 70, 71, 72, 73] (by decide +kernel) (by decide +kernel)
set_option maxRecDepth 20000 in
theorem gX3_addUp_X1_turnOf : GoodIn wsX3_addUp (wsV RX3 74 RX1 yX1_turnOf wsX1_turnOf) := goodIn_app (goodIn_of _ (by decide +kernel)) ggX3_addUp_X1_turnOf
set_option maxRecDepth 20000 in
theorem ggX3_addUp_X3_addPower : GoodIn wsX3_addUp wsX3_addPower := goodIn_r _ [39, 1, 2, 40, 26, 27, 28, 41, 42, 43, 44, 45, 46, 47, 48, 49, 62, 63, 64, 65, 66, 67, 68, 69, 70, 71, 72, 73] (by decide +kernel) (by decide +kernel)
set_option maxRecDepth 20000 in
theorem gX3_addUp_X3_addPower : GoodIn wsX3_addUp (wsV RX3 185 RX3 yX3_addPower wsX3_addPower) := goodIn_app (goodIn_of _ (by decide +kernel)) ggX3_addUp_X3_addPower
set_option maxRecDepth 20000 in
theorem ggX3_addUp_X1_endOf : GoodIn wsX3_addUp wsX1_endOf := goodIn_r _ [53, 24, 26, 27, 28, 68, 69, 70, 71, 72, 73] (by decide +kernel) (by decide +kernel)
set_option maxRecDepth 20000 in
theorem gX3_addUp_X1_endOf : GoodIn wsX3_addUp (wsV RX3 90 RX1 yX1_endOf wsX1_endOf) := goodIn_app (goodIn_of _ (by decide +kernel)) ggX3_addUp_X1_endOf
set_option maxRecDepth 20000 in
theorem ggX3_addUp_X2_reduce : GoodIn wsX3_addUp wsX2_reduce := goodIn_r _ [58, 59, 60, 61, 42, 27, 43, 44, 45, 46, 48, 49, 74, 75, 76] (by decide +kernel) (by decide +kernel)
set_option maxRecDepth 20000 in
theorem gX3_addUp_X2_reduce : GoodIn wsX3_addUp (wsV RX3 188 RX2 yX2_reduce wsX2_reduce) := goodIn_app (goodIn_of _ (by decide +kernel)) ggX3_addUp_X2_reduce
theorem dX3_addUp_0 : decode cX3_addUp 0 = .ok (.aload_n 1, 1) := by decide +kernel
theorem dX3_addUp_1 : decode cX3_addUp 1 = .ok (.iconst 0, 1) := by decide +kernel
theorem dX3_addUp_2 : decode cX3_addUp 2 = .ok (.invokestatic 179, 3) := by decide +kernel
theorem dX3_addUp_5 : decode cX3_addUp 5 = .ok (.iconst 0, 1) := by decide +kernel
theorem dX3_addUp_6 : decode cX3_addUp 6 = .ok (.istore 5, 2) := by decide +kernel
theorem dX3_addUp_8 : decode cX3_addUp 8 = .ok (.iload 5, 2) := by decide +kernel
theorem dX3_addUp_10 : decode cX3_addUp 10 = .ok (.aload_n 0, 1) := by decide +kernel
theorem dX3_addUp_11 : decode cX3_addUp 11 = .ok (.getfield 10, 3) := by decide +kernel
theorem dX3_addUp_14 : decode cX3_addUp 14 = .ok (.getfield 52, 3) := by decide +kernel
theorem dX3_addUp_17 : decode cX3_addUp 17 = .ok (.if_icmp .ge 87, 3) := by decide +kernel
theorem dX3_addUp_20 : decode cX3_addUp 20 = .ok (.aload_n 0, 1) := by decide +kernel
theorem dX3_addUp_21 : decode cX3_addUp 21 = .ok (.getfield 10, 3) := by decide +kernel
theorem dX3_addUp_24 : decode cX3_addUp 24 = .ok (.iload 5, 2) := by decide +kernel
theorem dX3_addUp_26 : decode cX3_addUp 26 = .ok (.invokevirtual 84, 3) := by decide +kernel
theorem dX3_addUp_29 : decode cX3_addUp 29 = .ok (.iload_n 2, 1) := by decide +kernel
theorem dX3_addUp_30 : decode cX3_addUp 30 = .ok (.if_icmp .ne 68, 3) := by decide +kernel
theorem dX3_addUp_33 : decode cX3_addUp 33 = .ok (.aload_n 0, 1) := by decide +kernel
theorem dX3_addUp_34 : decode cX3_addUp 34 = .ok (.getfield 10, 3) := by decide +kernel
theorem dX3_addUp_37 : decode cX3_addUp 37 = .ok (.iload 5, 2) := by decide +kernel
theorem dX3_addUp_39 : decode cX3_addUp 39 = .ok (.invokevirtual 87, 3) := by decide +kernel
theorem dX3_addUp_42 : decode cX3_addUp 42 = .ok (.ifCond .eq 7, 3) := by decide +kernel
theorem dX3_addUp_45 : decode cX3_addUp 45 = .ok (.iconst 1, 1) := by decide +kernel
theorem dX3_addUp_46 : decode cX3_addUp 46 = .ok (.goto 4, 3) := by decide +kernel
theorem dX3_addUp_49 : decode cX3_addUp 49 = .ok (.iconst (-1), 1) := by decide +kernel
theorem dX3_addUp_50 : decode cX3_addUp 50 = .ok (.istore 6, 2) := by decide +kernel
theorem dX3_addUp_52 : decode cX3_addUp 52 = .ok (.aload_n 0, 1) := by decide +kernel
theorem dX3_addUp_53 : decode cX3_addUp 53 = .ok (.aload_n 1, 1) := by decide +kernel
theorem dX3_addUp_54 : decode cX3_addUp 54 = .ok (.iload_n 3, 1) := by decide +kernel
theorem dX3_addUp_55 : decode cX3_addUp 55 = .ok (.aload_n 0, 1) := by decide +kernel
theorem dX3_addUp_56 : decode cX3_addUp 56 = .ok (.getfield 10, 3) := by decide +kernel
theorem dX3_addUp_59 : decode cX3_addUp 59 = .ok (.iload 5, 2) := by decide +kernel
theorem dX3_addUp_61 : decode cX3_addUp 61 = .ok (.invokevirtual 74, 3) := by decide +kernel
theorem dX3_addUp_64 : decode cX3_addUp 64 = .ok (.imul, 1) := by decide +kernel
theorem dX3_addUp_65 : decode cX3_addUp 65 = .ok (.iload 6, 2) := by decide +kernel
theorem dX3_addUp_67 : decode cX3_addUp 67 = .ok (.invokevirtual 185, 3) := by decide +kernel
theorem dX3_addUp_70 : decode cX3_addUp 70 = .ok (.aload_n 0, 1) := by decide +kernel
theorem dX3_addUp_71 : decode cX3_addUp 71 = .ok (.aload_n 1, 1) := by decide +kernel
theorem dX3_addUp_72 : decode cX3_addUp 72 = .ok (.iload_n 3, 1) := by decide +kernel
theorem dX3_addUp_73 : decode cX3_addUp 73 = .ok (.aload_n 0, 1) := by decide +kernel
theorem dX3_addUp_74 : decode cX3_addUp 74 = .ok (.getfield 10, 3) := by decide +kernel
theorem dX3_addUp_77 : decode cX3_addUp 77 = .ok (.aload_n 0, 1) := by decide +kernel
theorem dX3_addUp_78 : decode cX3_addUp 78 = .ok (.getfield 10, 3) := by decide +kernel
theorem dX3_addUp_81 : decode cX3_addUp 81 = .ok (.iload 5, 2) := by decide +kernel
theorem dX3_addUp_83 : decode cX3_addUp 83 = .ok (.iload 4, 2) := by decide +kernel
theorem dX3_addUp_85 : decode cX3_addUp 85 = .ok (.invokevirtual 90, 3) := by decide +kernel
theorem dX3_addUp_88 : decode cX3_addUp 88 = .ok (.invokevirtual 74, 3) := by decide +kernel
theorem dX3_addUp_91 : decode cX3_addUp 91 = .ok (.imul, 1) := by decide +kernel
theorem dX3_addUp_92 : decode cX3_addUp 92 = .ok (.iload 6, 2) := by decide +kernel
theorem dX3_addUp_94 : decode cX3_addUp 94 = .ok (.ineg, 1) := by decide +kernel
theorem dX3_addUp_95 : decode cX3_addUp 95 = .ok (.invokevirtual 185, 3) := by decide +kernel
theorem dX3_addUp_98 : decode cX3_addUp 98 = .ok (.iinc 5 1, 3) := by decide +kernel
theorem dX3_addUp_101 : decode cX3_addUp 101 = .ok (.goto (-93), 3) := by decide +kernel
theorem dX3_addUp_104 : decode cX3_addUp 104 = .ok (.aload_n 0, 1) := by decide +kernel
theorem dX3_addUp_105 : decode cX3_addUp 105 = .ok (.getfield 19, 3) := by decide +kernel
theorem dX3_addUp_108 : decode cX3_addUp 108 = .ok (.aload_n 1, 1) := by decide +kernel
theorem dX3_addUp_109 : decode cX3_addUp 109 = .ok (.invokevirtual 188, 3) := by decide +kernel
theorem dX3_addUp_112 : decode cX3_addUp 112 = .ok (.return_, 1) := by decide +kernel
set_option maxRecDepth 20000 in
theorem ggX3_addPower_X3_leftOver : GoodIn wsX3_addPower wsX3_leftOver := goodIn_r _ [6] (by decide +kernel) (by decide +kernel)
set_option maxRecDepth 20000 in
theorem gX3_addPower_X3_leftOver : GoodIn wsX3_addPower (va_wsS RX3 166 yX3_leftOver wsX3_leftOver) := goodIn_app (goodIn_of _ (by decide +kernel)) ggX3_addPower_X3_leftOver
set_option maxRecDepth 20000 in
theorem ggX3_addPower_X3_at : GoodIn wsX3_addPower wsX3_at := goodIn_r _ [9, 10, 11, 5, 12] (by decide +kernel) (by decide +kernel)
set_option maxRecDepth 20000 in
theorem gX3_addPower_X3_at : GoodIn wsX3_addPower (va_wsS RX3 121 yX3_at wsX3_at) := goodIn_app (goodIn_of _ (by decide +kernel)) ggX3_addPower_X3_at
set_option maxRecDepth 20000 in
theorem ggX3_addPower_X3_put : GoodIn wsX3_addPower wsX3_put := goodIn_r _ [15, 10, 11, 5, 12] (by decide +kernel) (by decide +kernel)
set_option maxRecDepth 20000 in
theorem gX3_addPower_X3_put : GoodIn wsX3_addPower (va_wsS RX3 169 yX3_put wsX3_put) := goodIn_app (goodIn_of _ (by decide +kernel)) ggX3_addPower_X3_put
theorem dX3_addPower_0 : decode cX3_addPower 0 = .ok (.iload_n 2, 1) := by decide +kernel
theorem dX3_addPower_1 : decode cX3_addPower 1 = .ok (.aload_n 0, 1) := by decide +kernel
theorem dX3_addPower_2 : decode cX3_addPower 2 = .ok (.getfield 10, 3) := by decide +kernel
theorem dX3_addPower_5 : decode cX3_addPower 5 = .ok (.getfield 52, 3) := by decide +kernel
theorem dX3_addPower_8 : decode cX3_addPower 8 = .ok (.invokestatic 166, 3) := by decide +kernel
theorem dX3_addPower_11 : decode cX3_addPower 11 = .ok (.istore 4, 2) := by decide +kernel
theorem dX3_addPower_13 : decode cX3_addPower 13 = .ok (.aload_n 1, 1) := by decide +kernel
theorem dX3_addPower_14 : decode cX3_addPower 14 = .ok (.iload 4, 2) := by decide +kernel
theorem dX3_addPower_16 : decode cX3_addPower 16 = .ok (.aload_n 1, 1) := by decide +kernel
theorem dX3_addPower_17 : decode cX3_addPower 17 = .ok (.iload 4, 2) := by decide +kernel
theorem dX3_addPower_19 : decode cX3_addPower 19 = .ok (.invokestatic 121, 3) := by decide +kernel
theorem dX3_addPower_22 : decode cX3_addPower 22 = .ok (.iload_n 3, 1) := by decide +kernel
theorem dX3_addPower_23 : decode cX3_addPower 23 = .ok (.iadd, 1) := by decide +kernel
theorem dX3_addPower_24 : decode cX3_addPower 24 = .ok (.invokestatic 169, 3) := by decide +kernel
theorem dX3_addPower_27 : decode cX3_addPower 27 = .ok (.return_, 1) := by decide +kernel
set_option maxRecDepth 20000 in
theorem ggX3_isNothing_X3_addUp : GoodIn wsX3_isNothing wsX3_addUp := goodIn_r _ [7, 8, 9, 2, 10, 11, 12, 13, 14, 15, 16, 17, 18, 19, 20, 21, 22, 23, 24, 25, 26, 27, 28, 29, 30, 31, 32, 6, 33, 34, 35, 36, 37, 38, 39, 40, 41, 42, 43, 44, 45, 46, 47, 48, 49, 50, 51, 52, 53, 54, 55, 56, 57, 58, 59, 60, 61, 62, 63, 64, 65, 66, 71, 72, 73, 74, 75, 76, 77, 78, 79, 80, 81, 82, 83, 84, 85] (by decide +kernel) (by decide +kernel)
set_option maxRecDepth 20000 in
theorem gX3_isNothing_X3_addUp : GoodIn wsX3_isNothing (wsV RX3 131 RX3 yX3_addUp wsX3_addUp) := goodIn_app (goodIn_of _ (by decide +kernel)) ggX3_isNothing_X3_addUp
set_option maxRecDepth 20000 in
theorem ggX3_isNothing_X2_isZero : GoodIn wsX3_isNothing wsX2_isZero := goodIn_r _ [70, 65, 47, 6, 48, 49, 50, 51, 83, 84, 85] (by decide +kernel) (by decide +kernel)
set_option maxRecDepth 20000 in
theorem gX3_isNothing_X2_isZero : GoodIn wsX3_isNothing (wsV RX3 191 RX2 yX2_isZero wsX2_isZero) := goodIn_app (goodIn_of _ (by decide +kernel)) ggX3_isNothing_X2_isZero
theorem dX3_isNothing_0 : decode cX3_isNothing 0 = .ok (.aload_n 0, 1) := by decide +kernel
theorem dX3_isNothing_1 : decode cX3_isNothing 1 = .ok (.aload_n 0, 1) := by decide +kernel
theorem dX3_isNothing_2 : decode cX3_isNothing 2 = .ok (.getfield 30, 3) := by decide +kernel
theorem dX3_isNothing_5 : decode cX3_isNothing 5 = .ok (.iconst 0, 1) := by decide +kernel
theorem dX3_isNothing_6 : decode cX3_isNothing 6 = .ok (.iload_n 1, 1) := by decide +kernel
theorem dX3_isNothing_7 : decode cX3_isNothing 7 = .ok (.iload_n 2, 1) := by decide +kernel
theorem dX3_isNothing_8 : decode cX3_isNothing 8 = .ok (.invokevirtual 131, 3) := by decide +kernel
theorem dX3_isNothing_11 : decode cX3_isNothing 11 = .ok (.aload_n 0, 1) := by decide +kernel
theorem dX3_isNothing_12 : decode cX3_isNothing 12 = .ok (.getfield 19, 3) := by decide +kernel
theorem dX3_isNothing_15 : decode cX3_isNothing 15 = .ok (.aload_n 0, 1) := by decide +kernel
theorem dX3_isNothing_16 : decode cX3_isNothing 16 = .ok (.getfield 30, 3) := by decide +kernel
theorem dX3_isNothing_19 : decode cX3_isNothing 19 = .ok (.invokevirtual 191, 3) := by decide +kernel
theorem dX3_isNothing_22 : decode cX3_isNothing 22 = .ok (.ireturn, 1) := by decide +kernel
set_option maxRecDepth 20000 in
theorem ggX3_poleWidth_X3_cut : GoodIn wsX3_poleWidth wsX3_cut := goodIn_r _ [8] (by decide +kernel) (by decide +kernel)
set_option maxRecDepth 20000 in
theorem gX3_poleWidth_X3_cut : GoodIn wsX3_poleWidth (va_wsS RX3 112 yX3_cut wsX3_cut) := goodIn_app (goodIn_of _ (by decide +kernel)) ggX3_poleWidth_X3_cut
theorem dX3_poleWidth_0 : decode cX3_poleWidth 0 = .ok (.iconst 1, 1) := by decide +kernel
theorem dX3_poleWidth_1 : decode cX3_poleWidth 1 = .ok (.iload_n 0, 1) := by decide +kernel
theorem dX3_poleWidth_2 : decode cX3_poleWidth 2 = .ok (.iconst 2, 1) := by decide +kernel
theorem dX3_poleWidth_3 : decode cX3_poleWidth 3 = .ok (.iload_n 1, 1) := by decide +kernel
theorem dX3_poleWidth_4 : decode cX3_poleWidth 4 = .ok (.imul, 1) := by decide +kernel
theorem dX3_poleWidth_5 : decode cX3_poleWidth 5 = .ok (.invokestatic 112, 3) := by decide +kernel
theorem dX3_poleWidth_8 : decode cX3_poleWidth 8 = .ok (.invokestatic 195, 3) := by decide +kernel
theorem dX3_poleWidth_11 : decode cX3_poleWidth 11 = .ok (.ireturn, 1) := by decide +kernel
theorem dX3_isWithin_0 : decode cX3_isWithin 0 = .ok (.iload_n 0, 1) := by decide +kernel
theorem dX3_isWithin_1 : decode cX3_isWithin 1 = .ok (.iload_n 1, 1) := by decide +kernel
theorem dX3_isWithin_2 : decode cX3_isWithin 2 = .ok (.if_icmp .lt 12, 3) := by decide +kernel
theorem dX3_isWithin_5 : decode cX3_isWithin 5 = .ok (.iload_n 0, 1) := by decide +kernel
theorem dX3_isWithin_6 : decode cX3_isWithin 6 = .ok (.iload_n 2, 1) := by decide +kernel
theorem dX3_isWithin_7 : decode cX3_isWithin 7 = .ok (.if_icmp .gt 7, 3) := by decide +kernel
theorem dX3_isWithin_10 : decode cX3_isWithin 10 = .ok (.iconst 1, 1) := by decide +kernel
theorem dX3_isWithin_11 : decode cX3_isWithin 11 = .ok (.goto 4, 3) := by decide +kernel
theorem dX3_isWithin_14 : decode cX3_isWithin 14 = .ok (.iconst 0, 1) := by decide +kernel
theorem dX3_isWithin_15 : decode cX3_isWithin 15 = .ok (.ireturn, 1) := by decide +kernel
set_option maxRecDepth 20000 in
theorem ggX3_commonDivisor_X3_leftOver : GoodIn wsX3_commonDivisor wsX3_leftOver := goodIn_r _ [8] (by decide +kernel) (by decide +kernel)
set_option maxRecDepth 20000 in
theorem gX3_commonDivisor_X3_leftOver : GoodIn wsX3_commonDivisor (va_wsS RX3 166 yX3_leftOver wsX3_leftOver) := goodIn_app (goodIn_of _ (by decide +kernel)) ggX3_commonDivisor_X3_leftOver
theorem dX3_commonDivisor_0 : decode cX3_commonDivisor 0 = .ok (.iload_n 0, 1) := by decide +kernel
theorem dX3_commonDivisor_1 : decode cX3_commonDivisor 1 = .ok (.iload_n 1, 1) := by decide +kernel
theorem dX3_commonDivisor_2 : decode cX3_commonDivisor 2 = .ok (.invokestatic 200, 3) := by decide +kernel
theorem dX3_commonDivisor_5 : decode cX3_commonDivisor 5 = .ok (.istore_n 2, 1) := by decide +kernel
theorem dX3_commonDivisor_6 : decode cX3_commonDivisor 6 = .ok (.iload_n 2, 1) := by decide +kernel
theorem dX3_commonDivisor_7 : decode cX3_commonDivisor 7 = .ok (.iconst 1, 1) := by decide +kernel
theorem dX3_commonDivisor_8 : decode cX3_commonDivisor 8 = .ok (.if_icmp .le 27, 3) := by decide +kernel
theorem dX3_commonDivisor_11 : decode cX3_commonDivisor 11 = .ok (.iload_n 0, 1) := by decide +kernel
theorem dX3_commonDivisor_12 : decode cX3_commonDivisor 12 = .ok (.iload_n 2, 1) := by decide +kernel
theorem dX3_commonDivisor_13 : decode cX3_commonDivisor 13 = .ok (.invokestatic 166, 3) := by decide +kernel
theorem dX3_commonDivisor_16 : decode cX3_commonDivisor 16 = .ok (.ifCond .ne 13, 3) := by decide +kernel
theorem dX3_commonDivisor_19 : decode cX3_commonDivisor 19 = .ok (.iload_n 1, 1) := by decide +kernel
theorem dX3_commonDivisor_20 : decode cX3_commonDivisor 20 = .ok (.iload_n 2, 1) := by decide +kernel
theorem dX3_commonDivisor_21 : decode cX3_commonDivisor 21 = .ok (.invokestatic 166, 3) := by decide +kernel
theorem dX3_commonDivisor_24 : decode cX3_commonDivisor 24 = .ok (.ifCond .ne 5, 3) := by decide +kernel
theorem dX3_commonDivisor_27 : decode cX3_commonDivisor 27 = .ok (.iload_n 2, 1) := by decide +kernel
theorem dX3_commonDivisor_28 : decode cX3_commonDivisor 28 = .ok (.ireturn, 1) := by decide +kernel
theorem dX3_commonDivisor_29 : decode cX3_commonDivisor 29 = .ok (.iinc 2 (-1), 3) := by decide +kernel
theorem dX3_commonDivisor_32 : decode cX3_commonDivisor 32 = .ok (.goto (-26), 3) := by decide +kernel
theorem dX3_commonDivisor_35 : decode cX3_commonDivisor 35 = .ok (.iconst 1, 1) := by decide +kernel
theorem dX3_commonDivisor_36 : decode cX3_commonDivisor 36 = .ok (.ireturn, 1) := by decide +kernel
theorem dX3_leftOver_0 : decode cX3_leftOver 0 = .ok (.iload_n 1, 1) := by decide +kernel
theorem dX3_leftOver_1 : decode cX3_leftOver 1 = .ok (.iconst 1, 1) := by decide +kernel
theorem dX3_leftOver_2 : decode cX3_leftOver 2 = .ok (.if_icmp .ge 5, 3) := by decide +kernel
theorem dX3_leftOver_5 : decode cX3_leftOver 5 = .ok (.iconst 0, 1) := by decide +kernel
theorem dX3_leftOver_6 : decode cX3_leftOver 6 = .ok (.ireturn, 1) := by decide +kernel
theorem dX3_leftOver_7 : decode cX3_leftOver 7 = .ok (.iload_n 0, 1) := by decide +kernel
theorem dX3_leftOver_8 : decode cX3_leftOver 8 = .ok (.iload_n 1, 1) := by decide +kernel
theorem dX3_leftOver_9 : decode cX3_leftOver 9 = .ok (.irem, 1) := by decide +kernel
theorem dX3_leftOver_10 : decode cX3_leftOver 10 = .ok (.istore_n 2, 1) := by decide +kernel
theorem dX3_leftOver_11 : decode cX3_leftOver 11 = .ok (.iload_n 2, 1) := by decide +kernel
theorem dX3_leftOver_12 : decode cX3_leftOver 12 = .ok (.ifCond .ge 9, 3) := by decide +kernel
theorem dX3_leftOver_15 : decode cX3_leftOver 15 = .ok (.iload_n 2, 1) := by decide +kernel
theorem dX3_leftOver_16 : decode cX3_leftOver 16 = .ok (.iload_n 1, 1) := by decide +kernel
theorem dX3_leftOver_17 : decode cX3_leftOver 17 = .ok (.iadd, 1) := by decide +kernel
theorem dX3_leftOver_18 : decode cX3_leftOver 18 = .ok (.goto 4, 3) := by decide +kernel
theorem dX3_leftOver_21 : decode cX3_leftOver 21 = .ok (.iload_n 2, 1) := by decide +kernel
theorem dX3_leftOver_22 : decode cX3_leftOver 22 = .ok (.ireturn, 1) := by decide +kernel
theorem dX3_cut_0 : decode cX3_cut 0 = .ok (.iload_n 1, 1) := by decide +kernel
theorem dX3_cut_1 : decode cX3_cut 1 = .ok (.iconst 1, 1) := by decide +kernel
theorem dX3_cut_2 : decode cX3_cut 2 = .ok (.if_icmp .ge 7, 3) := by decide +kernel
theorem dX3_cut_5 : decode cX3_cut 5 = .ok (.iconst 0, 1) := by decide +kernel
theorem dX3_cut_6 : decode cX3_cut 6 = .ok (.goto 6, 3) := by decide +kernel
theorem dX3_cut_9 : decode cX3_cut 9 = .ok (.iload_n 0, 1) := by decide +kernel
theorem dX3_cut_10 : decode cX3_cut 10 = .ok (.iload_n 1, 1) := by decide +kernel
theorem dX3_cut_11 : decode cX3_cut 11 = .ok (.idiv, 1) := by decide +kernel
theorem dX3_cut_12 : decode cX3_cut 12 = .ok (.ireturn, 1) := by decide +kernel
set_option maxRecDepth 20000 in
theorem ggX3_at_X3_isWithin : GoodIn wsX3_at wsX3_isWithin := goodIn_r _ [4] (by decide +kernel) (by decide +kernel)
set_option maxRecDepth 20000 in
theorem gX3_at_X3_isWithin : GoodIn wsX3_at (va_wsS RX3 44 yX3_isWithin wsX3_isWithin) := goodIn_app (goodIn_of _ (by decide +kernel)) ggX3_at_X3_isWithin
theorem dX3_at_0 : decode cX3_at 0 = .ok (.iload_n 1, 1) := by decide +kernel
theorem dX3_at_1 : decode cX3_at 1 = .ok (.iconst 0, 1) := by decide +kernel
theorem dX3_at_2 : decode cX3_at 2 = .ok (.aload_n 0, 1) := by decide +kernel
theorem dX3_at_3 : decode cX3_at 3 = .ok (.arraylength, 1) := by decide +kernel
theorem dX3_at_4 : decode cX3_at 4 = .ok (.iconst 1, 1) := by decide +kernel
theorem dX3_at_5 : decode cX3_at 5 = .ok (.isub, 1) := by decide +kernel
theorem dX3_at_6 : decode cX3_at 6 = .ok (.invokestatic 44, 3) := by decide +kernel
theorem dX3_at_9 : decode cX3_at 9 = .ok (.ifCond .eq 9, 3) := by decide +kernel
theorem dX3_at_12 : decode cX3_at 12 = .ok (.aload_n 0, 1) := by decide +kernel
theorem dX3_at_13 : decode cX3_at 13 = .ok (.iload_n 1, 1) := by decide +kernel
theorem dX3_at_14 : decode cX3_at 14 = .ok (.iaload, 1) := by decide +kernel
theorem dX3_at_15 : decode cX3_at 15 = .ok (.goto 4, 3) := by decide +kernel
theorem dX3_at_18 : decode cX3_at 18 = .ok (.iconst 0, 1) := by decide +kernel
theorem dX3_at_19 : decode cX3_at 19 = .ok (.ireturn, 1) := by decide +kernel
set_option maxRecDepth 20000 in
theorem ggX3_put_X3_isWithin : GoodIn wsX3_put wsX3_isWithin := goodIn_r _ [4] (by decide +kernel) (by decide +kernel)
set_option maxRecDepth 20000 in
theorem gX3_put_X3_isWithin : GoodIn wsX3_put (va_wsS RX3 44 yX3_isWithin wsX3_isWithin) := goodIn_app (goodIn_of _ (by decide +kernel)) ggX3_put_X3_isWithin
theorem dX3_put_0 : decode cX3_put 0 = .ok (.iload_n 1, 1) := by decide +kernel
theorem dX3_put_1 : decode cX3_put 1 = .ok (.iconst 0, 1) := by decide +kernel
theorem dX3_put_2 : decode cX3_put 2 = .ok (.aload_n 0, 1) := by decide +kernel
theorem dX3_put_3 : decode cX3_put 3 = .ok (.arraylength, 1) := by decide +kernel
theorem dX3_put_4 : decode cX3_put 4 = .ok (.iconst 1, 1) := by decide +kernel
theorem dX3_put_5 : decode cX3_put 5 = .ok (.isub, 1) := by decide +kernel
theorem dX3_put_6 : decode cX3_put 6 = .ok (.invokestatic 44, 3) := by decide +kernel
theorem dX3_put_9 : decode cX3_put 9 = .ok (.ifCond .eq 7, 3) := by decide +kernel
theorem dX3_put_12 : decode cX3_put 12 = .ok (.aload_n 0, 1) := by decide +kernel
theorem dX3_put_13 : decode cX3_put 13 = .ok (.iload_n 1, 1) := by decide +kernel
theorem dX3_put_14 : decode cX3_put 14 = .ok (.iload_n 2, 1) := by decide +kernel
theorem dX3_put_15 : decode cX3_put 15 = .ok (.iastore, 1) := by decide +kernel
theorem dX3_put_16 : decode cX3_put 16 = .ok (.return_, 1) := by decide +kernel
