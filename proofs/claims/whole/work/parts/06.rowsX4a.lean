theorem dX4_init_0 : decode cX4_init 0 = .ok (.aload_n 0, 1) := by decide +kernel
theorem dX4_init_1 : decode cX4_init 1 = .ok (.invokespecial 1, 3) := by decide +kernel
theorem dX4_init_4 : decode cX4_init 4 = .ok (.aload_n 0, 1) := by decide +kernel
theorem dX4_init_5 : decode cX4_init 5 = .ok (.bipush 12, 2) := by decide +kernel
theorem dX4_init_7 : decode cX4_init 7 = .ok (.putfield 7, 3) := by decide +kernel
theorem dX4_init_10 : decode cX4_init 10 = .ok (.aload_n 0, 1) := by decide +kernel
theorem dX4_init_11 : decode cX4_init 11 = .ok (.iconst 1, 1) := by decide +kernel
theorem dX4_init_12 : decode cX4_init 12 = .ok (.putfield 13, 3) := by decide +kernel
theorem dX4_init_15 : decode cX4_init 15 = .ok (.aload_n 0, 1) := by decide +kernel
theorem dX4_init_16 : decode cX4_init 16 = .ok (.iconst 3, 1) := by decide +kernel
theorem dX4_init_17 : decode cX4_init 17 = .ok (.putfield 16, 3) := by decide +kernel
theorem dX4_init_20 : decode cX4_init 20 = .ok (.aload_n 0, 1) := by decide +kernel
theorem dX4_init_21 : decode cX4_init 21 = .ok (.iconst 5, 1) := by decide +kernel
theorem dX4_init_22 : decode cX4_init 22 = .ok (.putfield 19, 3) := by decide +kernel
theorem dX4_init_25 : decode cX4_init 25 = .ok (.aload_n 0, 1) := by decide +kernel
theorem dX4_init_26 : decode cX4_init 26 = .ok (.sipush 2401, 3) := by decide +kernel
theorem dX4_init_29 : decode cX4_init 29 = .ok (.newarray .int, 2) := by decide +kernel
theorem dX4_init_31 : decode cX4_init 31 = .ok (.putfield 22, 3) := by decide +kernel
theorem dX4_init_34 : decode cX4_init 34 = .ok (.aload_n 0, 1) := by decide +kernel
theorem dX4_init_35 : decode cX4_init 35 = .ok (.bipush 49, 2) := by decide +kernel
theorem dX4_init_37 : decode cX4_init 37 = .ok (.newarray .int, 2) := by decide +kernel
theorem dX4_init_39 : decode cX4_init 39 = .ok (.putfield 26, 3) := by decide +kernel
theorem dX4_init_42 : decode cX4_init 42 = .ok (.aload_n 0, 1) := by decide +kernel
theorem dX4_init_43 : decode cX4_init 43 = .ok (.bipush 49, 2) := by decide +kernel
theorem dX4_init_45 : decode cX4_init 45 = .ok (.newarray .int, 2) := by decide +kernel
theorem dX4_init_47 : decode cX4_init 47 = .ok (.putfield 29, 3) := by decide +kernel
theorem dX4_init_50 : decode cX4_init 50 = .ok (.aload_n 0, 1) := by decide +kernel
theorem dX4_init_51 : decode cX4_init 51 = .ok (.bipush 98, 2) := by decide +kernel
theorem dX4_init_53 : decode cX4_init 53 = .ok (.newarray .int, 2) := by decide +kernel
theorem dX4_init_55 : decode cX4_init 55 = .ok (.putfield 32, 3) := by decide +kernel
theorem dX4_init_58 : decode cX4_init 58 = .ok (.aload_n 0, 1) := by decide +kernel
theorem dX4_init_59 : decode cX4_init 59 = .ok (.bipush 48, 2) := by decide +kernel
theorem dX4_init_61 : decode cX4_init 61 = .ok (.newarray .int, 2) := by decide +kernel
theorem dX4_init_63 : decode cX4_init 63 = .ok (.putfield 35, 3) := by decide +kernel
theorem dX4_init_66 : decode cX4_init 66 = .ok (.aload_n 0, 1) := by decide +kernel
theorem dX4_init_67 : decode cX4_init 67 = .ok (.bipush 48, 2) := by decide +kernel
theorem dX4_init_69 : decode cX4_init 69 = .ok (.newarray .int, 2) := by decide +kernel
theorem dX4_init_71 : decode cX4_init 71 = .ok (.putfield 38, 3) := by decide +kernel
theorem dX4_init_74 : decode cX4_init 74 = .ok (.aload_n 0, 1) := by decide +kernel
theorem dX4_init_75 : decode cX4_init 75 = .ok (.bipush 8, 2) := by decide +kernel
theorem dX4_init_77 : decode cX4_init 77 = .ok (.newarray .int, 2) := by decide +kernel
theorem dX4_init_79 : decode cX4_init 79 = .ok (.putfield 41, 3) := by decide +kernel
theorem dX4_init_82 : decode cX4_init 82 = .ok (.aload_n 0, 1) := by decide +kernel
theorem dX4_init_83 : decode cX4_init 83 = .ok (.iconst 2, 1) := by decide +kernel
theorem dX4_init_84 : decode cX4_init 84 = .ok (.newarray .boolean, 2) := by decide +kernel
theorem dX4_init_86 : decode cX4_init 86 = .ok (.putfield 44, 3) := by decide +kernel
theorem dX4_init_89 : decode cX4_init 89 = .ok (.return_, 1) := by decide +kernel
theorem dX4_in_0 : decode cX4_in 0 = .ok (.iload_n 0, 1) := by decide +kernel
theorem dX4_in_1 : decode cX4_in 1 = .ok (.iload_n 1, 1) := by decide +kernel
theorem dX4_in_2 : decode cX4_in 2 = .ok (.if_icmp .lt 12, 3) := by decide +kernel
theorem dX4_in_5 : decode cX4_in 5 = .ok (.iload_n 0, 1) := by decide +kernel
theorem dX4_in_6 : decode cX4_in 6 = .ok (.iload_n 2, 1) := by decide +kernel
theorem dX4_in_7 : decode cX4_in 7 = .ok (.if_icmp .gt 7, 3) := by decide +kernel
theorem dX4_in_10 : decode cX4_in 10 = .ok (.iconst 1, 1) := by decide +kernel
theorem dX4_in_11 : decode cX4_in 11 = .ok (.goto 4, 3) := by decide +kernel
theorem dX4_in_14 : decode cX4_in 14 = .ok (.iconst 0, 1) := by decide +kernel
theorem dX4_in_15 : decode cX4_in 15 = .ok (.ireturn, 1) := by decide +kernel
theorem dX4_common_0 : decode cX4_common 0 = .ok (.iload_n 0, 1) := by decide +kernel
theorem dX4_common_1 : decode cX4_common 1 = .ok (.istore_n 2, 1) := by decide +kernel
theorem dX4_common_2 : decode cX4_common 2 = .ok (.iload_n 1, 1) := by decide +kernel
theorem dX4_common_3 : decode cX4_common 3 = .ok (.istore_n 3, 1) := by decide +kernel
theorem dX4_common_4 : decode cX4_common 4 = .ok (.iload_n 3, 1) := by decide +kernel
theorem dX4_common_5 : decode cX4_common 5 = .ok (.ifCond .le 16, 3) := by decide +kernel
theorem dX4_common_8 : decode cX4_common 8 = .ok (.iload_n 2, 1) := by decide +kernel
theorem dX4_common_9 : decode cX4_common 9 = .ok (.iload_n 3, 1) := by decide +kernel
theorem dX4_common_10 : decode cX4_common 10 = .ok (.irem, 1) := by decide +kernel
theorem dX4_common_11 : decode cX4_common 11 = .ok (.istore 4, 2) := by decide +kernel
theorem dX4_common_13 : decode cX4_common 13 = .ok (.iload_n 3, 1) := by decide +kernel
theorem dX4_common_14 : decode cX4_common 14 = .ok (.istore_n 2, 1) := by decide +kernel
theorem dX4_common_15 : decode cX4_common 15 = .ok (.iload 4, 2) := by decide +kernel
theorem dX4_common_17 : decode cX4_common 17 = .ok (.istore_n 3, 1) := by decide +kernel
theorem dX4_common_18 : decode cX4_common 18 = .ok (.goto (-14), 3) := by decide +kernel
theorem dX4_common_21 : decode cX4_common 21 = .ok (.iload_n 2, 1) := by decide +kernel
theorem dX4_common_22 : decode cX4_common 22 = .ok (.ireturn, 1) := by decide +kernel
set_option maxRecDepth 20000 in
theorem ggX4_copies_X4_common : GoodIn wsX4_copies wsX4_common := goodIn_r _ [6] (by decide +kernel) (by decide +kernel)
set_option maxRecDepth 20000 in
theorem gX4_copies_X4_common : GoodIn wsX4_copies (va_wsS RX4 48 yX4_common wsX4_common) := goodIn_app (goodIn_of _ (by decide +kernel)) ggX4_copies_X4_common
theorem dX4_copies_0 : decode cX4_copies 0 = .ok (.aload_n 0, 1) := by decide +kernel
theorem dX4_copies_1 : decode cX4_copies 1 = .ok (.getfield 7, 3) := by decide +kernel
theorem dX4_copies_4 : decode cX4_copies 4 = .ok (.aload_n 0, 1) := by decide +kernel
theorem dX4_copies_5 : decode cX4_copies 5 = .ok (.getfield 13, 3) := by decide +kernel
theorem dX4_copies_8 : decode cX4_copies 8 = .ok (.invokestatic 48, 3) := by decide +kernel
theorem dX4_copies_11 : decode cX4_copies 11 = .ok (.ireturn, 1) := by decide +kernel
set_option maxRecDepth 20000 in
theorem ggX4_star_X4_copies : GoodIn wsX4_star wsX4_copies := goodIn_r _ [6, 1, 7, 8, 9, 5, 10, 11, 12, 13, 14, 15, 16, 17, 18, 19, 20, 21, 22, 23, 24, 25, 26] (by decide +kernel) (by decide +kernel)
set_option maxRecDepth 20000 in
theorem gX4_star_X4_copies : GoodIn wsX4_star (wsV RX4 52 RX4 yX4_copies wsX4_copies) := goodIn_app (goodIn_of _ (by decide +kernel)) ggX4_star_X4_copies
theorem dX4_star_0 : decode cX4_star 0 = .ok (.aload_n 0, 1) := by decide +kernel
theorem dX4_star_1 : decode cX4_star 1 = .ok (.getfield 7, 3) := by decide +kernel
theorem dX4_star_4 : decode cX4_star 4 = .ok (.aload_n 0, 1) := by decide +kernel
theorem dX4_star_5 : decode cX4_star 5 = .ok (.invokevirtual 52, 3) := by decide +kernel
theorem dX4_star_8 : decode cX4_star 8 = .ok (.idiv, 1) := by decide +kernel
theorem dX4_star_9 : decode cX4_star 9 = .ok (.ireturn, 1) := by decide +kernel
set_option maxRecDepth 20000 in
theorem ggX4_isBalanced_X4_star : GoodIn wsX4_isBalanced wsX4_star := goodIn_r _ [6, 7, 8, 9, 10, 5, 11, 12, 13, 14, 15, 16, 17, 18, 19, 20, 21, 22, 23, 24, 25, 26, 27, 28, 29, 30, 31] (by decide +kernel) (by decide +kernel)
set_option maxRecDepth 20000 in
theorem gX4_isBalanced_X4_star : GoodIn wsX4_isBalanced (wsV RX4 56 RX4 yX4_star wsX4_star) := goodIn_app (goodIn_of _ (by decide +kernel)) ggX4_isBalanced_X4_star
theorem dX4_isBalanced_0 : decode cX4_isBalanced 0 = .ok (.aload_n 0, 1) := by decide +kernel
theorem dX4_isBalanced_1 : decode cX4_isBalanced 1 = .ok (.invokevirtual 56, 3) := by decide +kernel
theorem dX4_isBalanced_4 : decode cX4_isBalanced 4 = .ok (.aload_n 0, 1) := by decide +kernel
theorem dX4_isBalanced_5 : decode cX4_isBalanced 5 = .ok (.getfield 16, 3) := by decide +kernel
theorem dX4_isBalanced_8 : decode cX4_isBalanced 8 = .ok (.irem, 1) := by decide +kernel
theorem dX4_isBalanced_9 : decode cX4_isBalanced 9 = .ok (.ifCond .ne 7, 3) := by decide +kernel
theorem dX4_isBalanced_12 : decode cX4_isBalanced 12 = .ok (.iconst 1, 1) := by decide +kernel
theorem dX4_isBalanced_13 : decode cX4_isBalanced 13 = .ok (.goto 4, 3) := by decide +kernel
theorem dX4_isBalanced_16 : decode cX4_isBalanced 16 = .ok (.iconst 0, 1) := by decide +kernel
theorem dX4_isBalanced_17 : decode cX4_isBalanced 17 = .ok (.ireturn, 1) := by decide +kernel
set_option maxRecDepth 20000 in
theorem ggX4_isSlot_X4_in : GoodIn wsX4_isSlot wsX4_in := goodIn_r _ [5] (by decide +kernel) (by decide +kernel)
set_option maxRecDepth 20000 in
theorem gX4_isSlot_X4_in : GoodIn wsX4_isSlot (va_wsS RX4 59 yX4_in wsX4_in) := goodIn_app (goodIn_of _ (by decide +kernel)) ggX4_isSlot_X4_in
theorem dX4_isSlot_0 : decode cX4_isSlot 0 = .ok (.iload_n 1, 1) := by decide +kernel
theorem dX4_isSlot_1 : decode cX4_isSlot 1 = .ok (.iconst 0, 1) := by decide +kernel
theorem dX4_isSlot_2 : decode cX4_isSlot 2 = .ok (.aload_n 0, 1) := by decide +kernel
theorem dX4_isSlot_3 : decode cX4_isSlot 3 = .ok (.getfield 7, 3) := by decide +kernel
theorem dX4_isSlot_6 : decode cX4_isSlot 6 = .ok (.iconst 1, 1) := by decide +kernel
theorem dX4_isSlot_7 : decode cX4_isSlot 7 = .ok (.isub, 1) := by decide +kernel
theorem dX4_isSlot_8 : decode cX4_isSlot 8 = .ok (.invokestatic 59, 3) := by decide +kernel
theorem dX4_isSlot_11 : decode cX4_isSlot 11 = .ok (.ireturn, 1) := by decide +kernel
set_option maxRecDepth 20000 in
theorem ggX4_isPhase_X4_in : GoodIn wsX4_isPhase wsX4_in := goodIn_r _ [5] (by decide +kernel) (by decide +kernel)
set_option maxRecDepth 20000 in
theorem gX4_isPhase_X4_in : GoodIn wsX4_isPhase (va_wsS RX4 59 yX4_in wsX4_in) := goodIn_app (goodIn_of _ (by decide +kernel)) ggX4_isPhase_X4_in
theorem dX4_isPhase_0 : decode cX4_isPhase 0 = .ok (.iload_n 1, 1) := by decide +kernel
theorem dX4_isPhase_1 : decode cX4_isPhase 1 = .ok (.iconst 0, 1) := by decide +kernel
theorem dX4_isPhase_2 : decode cX4_isPhase 2 = .ok (.aload_n 0, 1) := by decide +kernel
theorem dX4_isPhase_3 : decode cX4_isPhase 3 = .ok (.getfield 16, 3) := by decide +kernel
theorem dX4_isPhase_6 : decode cX4_isPhase 6 = .ok (.iconst 1, 1) := by decide +kernel
theorem dX4_isPhase_7 : decode cX4_isPhase 7 = .ok (.isub, 1) := by decide +kernel
theorem dX4_isPhase_8 : decode cX4_isPhase 8 = .ok (.invokestatic 59, 3) := by decide +kernel
theorem dX4_isPhase_11 : decode cX4_isPhase 11 = .ok (.ireturn, 1) := by decide +kernel
theorem dX4_greater_0 : decode cX4_greater 0 = .ok (.iload_n 0, 1) := by decide +kernel
theorem dX4_greater_1 : decode cX4_greater 1 = .ok (.iload_n 1, 1) := by decide +kernel
theorem dX4_greater_2 : decode cX4_greater 2 = .ok (.if_icmp .le 7, 3) := by decide +kernel
theorem dX4_greater_5 : decode cX4_greater 5 = .ok (.iload_n 0, 1) := by decide +kernel
theorem dX4_greater_6 : decode cX4_greater 6 = .ok (.goto 4, 3) := by decide +kernel
theorem dX4_greater_9 : decode cX4_greater 9 = .ok (.iload_n 1, 1) := by decide +kernel
theorem dX4_greater_10 : decode cX4_greater 10 = .ok (.ireturn, 1) := by decide +kernel
set_option maxRecDepth 20000 in
theorem ggX4_pitch_X4_greater : GoodIn wsX4_pitch wsX4_greater := goodIn_r _ [6] (by decide +kernel) (by decide +kernel)
set_option maxRecDepth 20000 in
theorem gX4_pitch_X4_greater : GoodIn wsX4_pitch (va_wsS RX4 63 yX4_greater wsX4_greater) := goodIn_app (goodIn_of _ (by decide +kernel)) ggX4_pitch_X4_greater
theorem dX4_pitch_0 : decode cX4_pitch 0 = .ok (.iconst 1, 1) := by decide +kernel
theorem dX4_pitch_1 : decode cX4_pitch 1 = .ok (.aload_n 0, 1) := by decide +kernel
theorem dX4_pitch_2 : decode cX4_pitch 2 = .ok (.getfield 7, 3) := by decide +kernel
theorem dX4_pitch_5 : decode cX4_pitch 5 = .ok (.iconst 2, 1) := by decide +kernel
theorem dX4_pitch_6 : decode cX4_pitch 6 = .ok (.aload_n 0, 1) := by decide +kernel
theorem dX4_pitch_7 : decode cX4_pitch 7 = .ok (.getfield 13, 3) := by decide +kernel
theorem dX4_pitch_10 : decode cX4_pitch 10 = .ok (.imul, 1) := by decide +kernel
theorem dX4_pitch_11 : decode cX4_pitch 11 = .ok (.idiv, 1) := by decide +kernel
theorem dX4_pitch_12 : decode cX4_pitch 12 = .ok (.invokestatic 63, 3) := by decide +kernel
theorem dX4_pitch_15 : decode cX4_pitch 15 = .ok (.ireturn, 1) := by decide +kernel
set_option maxRecDepth 20000 in
theorem ggX4_machine_X4_in : GoodIn wsX4_machine wsX4_in := goodIn_r _ [8] (by decide +kernel) (by decide +kernel)
set_option maxRecDepth 20000 in
theorem gX4_machine_X4_in : GoodIn wsX4_machine (va_wsS RX4 59 yX4_in wsX4_in) := goodIn_app (goodIn_of _ (by decide +kernel)) ggX4_machine_X4_in
set_option maxRecDepth 20000 in
theorem ggX4_machine_X4_pitch : GoodIn wsX4_machine wsX4_pitch := goodIn_r _ [12, 1, 2, 13, 14, 7, 15, 27, 28, 29, 30, 31, 32, 33, 34, 35, 36, 37, 38, 39, 40, 41, 42] (by decide +kernel) (by decide +kernel)
set_option maxRecDepth 20000 in
theorem gX4_machine_X4_pitch : GoodIn wsX4_machine (wsV RX4 66 RX4 yX4_pitch wsX4_pitch) := goodIn_app (goodIn_of _ (by decide +kernel)) ggX4_machine_X4_pitch
set_option maxRecDepth 20000 in
theorem ggX4_machine_X4_star : GoodIn wsX4_machine wsX4_star := goodIn_r _ [19, 1, 20, 21, 22, 7, 23, 2, 24, 25, 26, 27, 28, 29, 30, 31, 32, 33, 34, 35, 36, 37, 38, 39, 40, 41, 42] (by decide +kernel) (by decide +kernel)
set_option maxRecDepth 20000 in
theorem gX4_machine_X4_star : GoodIn wsX4_machine (wsV RX4 56 RX4 yX4_star wsX4_star) := goodIn_app (goodIn_of _ (by decide +kernel)) ggX4_machine_X4_star
theorem dX4_machine_0 : decode cX4_machine 0 = .ok (.iload_n 1, 1) := by decide +kernel
theorem dX4_machine_1 : decode cX4_machine 1 = .ok (.iconst 3, 1) := by decide +kernel
theorem dX4_machine_2 : decode cX4_machine 2 = .ok (.bipush 48, 2) := by decide +kernel
theorem dX4_machine_4 : decode cX4_machine 4 = .ok (.invokestatic 59, 3) := by decide +kernel
theorem dX4_machine_7 : decode cX4_machine 7 = .ok (.ifCond .eq 23, 3) := by decide +kernel
theorem dX4_machine_10 : decode cX4_machine 10 = .ok (.iload_n 2, 1) := by decide +kernel
theorem dX4_machine_11 : decode cX4_machine 11 = .ok (.iconst 1, 1) := by decide +kernel
theorem dX4_machine_12 : decode cX4_machine 12 = .ok (.bipush 10, 2) := by decide +kernel
theorem dX4_machine_14 : decode cX4_machine 14 = .ok (.invokestatic 59, 3) := by decide +kernel
theorem dX4_machine_17 : decode cX4_machine 17 = .ok (.ifCond .eq 13, 3) := by decide +kernel
theorem dX4_machine_20 : decode cX4_machine 20 = .ok (.iload_n 3, 1) := by decide +kernel
theorem dX4_machine_21 : decode cX4_machine 21 = .ok (.iconst 3, 1) := by decide +kernel
theorem dX4_machine_22 : decode cX4_machine 22 = .ok (.if_icmp .eq 11, 3) := by decide +kernel
theorem dX4_machine_25 : decode cX4_machine 25 = .ok (.iload_n 3, 1) := by decide +kernel
theorem dX4_machine_26 : decode cX4_machine 26 = .ok (.iconst 5, 1) := by decide +kernel
theorem dX4_machine_27 : decode cX4_machine 27 = .ok (.if_icmp .eq 6, 3) := by decide +kernel
theorem dX4_machine_30 : decode cX4_machine 30 = .ok (.bipush (-2), 2) := by decide +kernel
theorem dX4_machine_32 : decode cX4_machine 32 = .ok (.ireturn, 1) := by decide +kernel
theorem dX4_machine_33 : decode cX4_machine 33 = .ok (.aload_n 0, 1) := by decide +kernel
theorem dX4_machine_34 : decode cX4_machine 34 = .ok (.iload_n 1, 1) := by decide +kernel
theorem dX4_machine_35 : decode cX4_machine 35 = .ok (.putfield 7, 3) := by decide +kernel
theorem dX4_machine_38 : decode cX4_machine 38 = .ok (.aload_n 0, 1) := by decide +kernel
theorem dX4_machine_39 : decode cX4_machine 39 = .ok (.iload_n 2, 1) := by decide +kernel
theorem dX4_machine_40 : decode cX4_machine 40 = .ok (.putfield 13, 3) := by decide +kernel
theorem dX4_machine_43 : decode cX4_machine 43 = .ok (.aload_n 0, 1) := by decide +kernel
theorem dX4_machine_44 : decode cX4_machine 44 = .ok (.iload_n 3, 1) := by decide +kernel
theorem dX4_machine_45 : decode cX4_machine 45 = .ok (.putfield 16, 3) := by decide +kernel
theorem dX4_machine_48 : decode cX4_machine 48 = .ok (.aload_n 0, 1) := by decide +kernel
theorem dX4_machine_49 : decode cX4_machine 49 = .ok (.aload_n 0, 1) := by decide +kernel
theorem dX4_machine_50 : decode cX4_machine 50 = .ok (.invokevirtual 66, 3) := by decide +kernel
theorem dX4_machine_53 : decode cX4_machine 53 = .ok (.putfield 19, 3) := by decide +kernel
theorem dX4_machine_56 : decode cX4_machine 56 = .ok (.aload_n 0, 1) := by decide +kernel
theorem dX4_machine_57 : decode cX4_machine 57 = .ok (.invokevirtual 56, 3) := by decide +kernel
theorem dX4_machine_60 : decode cX4_machine 60 = .ok (.ireturn, 1) := by decide +kernel
set_option maxRecDepth 20000 in
theorem ggX4_width_X4_in : GoodIn wsX4_width wsX4_in := goodIn_r _ [6] (by decide +kernel) (by decide +kernel)
set_option maxRecDepth 20000 in
theorem gX4_width_X4_in : GoodIn wsX4_width (va_wsS RX4 59 yX4_in wsX4_in) := goodIn_app (goodIn_of _ (by decide +kernel)) ggX4_width_X4_in
theorem dX4_width_0 : decode cX4_width 0 = .ok (.iload_n 1, 1) := by decide +kernel
theorem dX4_width_1 : decode cX4_width 1 = .ok (.iconst 1, 1) := by decide +kernel
theorem dX4_width_2 : decode cX4_width 2 = .ok (.aload_n 0, 1) := by decide +kernel
theorem dX4_width_3 : decode cX4_width 3 = .ok (.getfield 7, 3) := by decide +kernel
theorem dX4_width_6 : decode cX4_width 6 = .ok (.iconst 1, 1) := by decide +kernel
theorem dX4_width_7 : decode cX4_width 7 = .ok (.isub, 1) := by decide +kernel
theorem dX4_width_8 : decode cX4_width 8 = .ok (.invokestatic 59, 3) := by decide +kernel
theorem dX4_width_11 : decode cX4_width 11 = .ok (.ifCond .ne 6, 3) := by decide +kernel
theorem dX4_width_14 : decode cX4_width 14 = .ok (.bipush (-2), 2) := by decide +kernel
theorem dX4_width_16 : decode cX4_width 16 = .ok (.ireturn, 1) := by decide +kernel
theorem dX4_width_17 : decode cX4_width 17 = .ok (.aload_n 0, 1) := by decide +kernel
theorem dX4_width_18 : decode cX4_width 18 = .ok (.getfield 19, 3) := by decide +kernel
theorem dX4_width_21 : decode cX4_width 21 = .ok (.istore_n 2, 1) := by decide +kernel
theorem dX4_width_22 : decode cX4_width 22 = .ok (.aload_n 0, 1) := by decide +kernel
theorem dX4_width_23 : decode cX4_width 23 = .ok (.iload_n 1, 1) := by decide +kernel
theorem dX4_width_24 : decode cX4_width 24 = .ok (.putfield 19, 3) := by decide +kernel
theorem dX4_width_27 : decode cX4_width 27 = .ok (.iload_n 2, 1) := by decide +kernel
theorem dX4_width_28 : decode cX4_width 28 = .ok (.ireturn, 1) := by decide +kernel
set_option maxRecDepth 20000 in
theorem ggX4_lacking_X4_star : GoodIn wsX4_lacking wsX4_star := goodIn_r _ [6, 7, 8, 9, 10, 5, 11, 12, 13, 14, 15, 16, 17, 18, 19, 20, 21, 22, 23, 24, 25, 26, 27, 28, 29, 30, 31] (by decide +kernel) (by decide +kernel)
set_option maxRecDepth 20000 in
theorem gX4_lacking_X4_star : GoodIn wsX4_lacking (wsV RX4 56 RX4 yX4_star wsX4_star) := goodIn_app (goodIn_of _ (by decide +kernel)) ggX4_lacking_X4_star
set_option maxRecDepth 20000 in
theorem ggX4_lacking_X4_common : GoodIn wsX4_lacking wsX4_common := goodIn_r _ [15] (by decide +kernel) (by decide +kernel)
set_option maxRecDepth 20000 in
theorem gX4_lacking_X4_common : GoodIn wsX4_lacking (va_wsS RX4 48 yX4_common wsX4_common) := goodIn_app (goodIn_of _ (by decide +kernel)) ggX4_lacking_X4_common
theorem dX4_lacking_0 : decode cX4_lacking 0 = .ok (.aload_n 0, 1) := by decide +kernel
theorem dX4_lacking_1 : decode cX4_lacking 1 = .ok (.getfield 16, 3) := by decide +kernel
theorem dX4_lacking_4 : decode cX4_lacking 4 = .ok (.aload_n 0, 1) := by decide +kernel
theorem dX4_lacking_5 : decode cX4_lacking 5 = .ok (.invokevirtual 56, 3) := by decide +kernel
theorem dX4_lacking_8 : decode cX4_lacking 8 = .ok (.aload_n 0, 1) := by decide +kernel
theorem dX4_lacking_9 : decode cX4_lacking 9 = .ok (.getfield 16, 3) := by decide +kernel
theorem dX4_lacking_12 : decode cX4_lacking 12 = .ok (.invokestatic 48, 3) := by decide +kernel
theorem dX4_lacking_15 : decode cX4_lacking 15 = .ok (.idiv, 1) := by decide +kernel
theorem dX4_lacking_16 : decode cX4_lacking 16 = .ok (.ireturn, 1) := by decide +kernel
set_option maxRecDepth 20000 in
theorem ggX4_turn_X4_copies : GoodIn wsX4_turn wsX4_copies := goodIn_r _ [7, 2, 1, 8, 9, 6, 10, 11, 12, 13, 14, 15, 16, 17, 18, 19, 20, 21, 22, 23, 24, 25, 26] (by decide +kernel) (by decide +kernel)
set_option maxRecDepth 20000 in
theorem gX4_turn_X4_copies : GoodIn wsX4_turn (wsV RX4 52 RX4 yX4_copies wsX4_copies) := goodIn_app (goodIn_of _ (by decide +kernel)) ggX4_turn_X4_copies
theorem dX4_turn_0 : decode cX4_turn 0 = .ok (.iload_n 1, 1) := by decide +kernel
theorem dX4_turn_1 : decode cX4_turn 1 = .ok (.aload_n 0, 1) := by decide +kernel
theorem dX4_turn_2 : decode cX4_turn 2 = .ok (.getfield 13, 3) := by decide +kernel
theorem dX4_turn_5 : decode cX4_turn 5 = .ok (.imul, 1) := by decide +kernel
theorem dX4_turn_6 : decode cX4_turn 6 = .ok (.aload_n 0, 1) := by decide +kernel
theorem dX4_turn_7 : decode cX4_turn 7 = .ok (.getfield 7, 3) := by decide +kernel
theorem dX4_turn_10 : decode cX4_turn 10 = .ok (.irem, 1) := by decide +kernel
theorem dX4_turn_11 : decode cX4_turn 11 = .ok (.aload_n 0, 1) := by decide +kernel
theorem dX4_turn_12 : decode cX4_turn 12 = .ok (.invokevirtual 52, 3) := by decide +kernel
theorem dX4_turn_15 : decode cX4_turn 15 = .ok (.idiv, 1) := by decide +kernel
theorem dX4_turn_16 : decode cX4_turn 16 = .ok (.ireturn, 1) := by decide +kernel
set_option maxRecDepth 20000 in
theorem ggX4_zone_X4_turn : GoodIn wsX4_zone wsX4_turn := goodIn_r _ [6, 7, 8, 9, 10, 11, 5, 12, 13, 14, 15, 20, 21, 22, 23, 24, 25, 26, 27, 28, 29, 30, 31, 32, 33, 34, 35] (by decide +kernel) (by decide +kernel)
set_option maxRecDepth 20000 in
theorem gX4_zone_X4_turn : GoodIn wsX4_zone (wsV RX4 69 RX4 yX4_turn wsX4_turn) := goodIn_app (goodIn_of _ (by decide +kernel)) ggX4_zone_X4_turn
set_option maxRecDepth 20000 in
theorem ggX4_zone_X4_star : GoodIn wsX4_zone wsX4_star := goodIn_r _ [19, 8, 9, 10, 11, 5, 12, 7, 13, 14, 15, 20, 21, 22, 23, 24, 25, 26, 27, 28, 29, 30, 31, 32, 33, 34, 35] (by decide +kernel) (by decide +kernel)
set_option maxRecDepth 20000 in
theorem gX4_zone_X4_star : GoodIn wsX4_zone (wsV RX4 56 RX4 yX4_star wsX4_star) := goodIn_app (goodIn_of _ (by decide +kernel)) ggX4_zone_X4_star
theorem dX4_zone_0 : decode cX4_zone 0 = .ok (.iconst 2, 1) := by decide +kernel
theorem dX4_zone_1 : decode cX4_zone 1 = .ok (.aload_n 0, 1) := by decide +kernel
theorem dX4_zone_2 : decode cX4_zone 2 = .ok (.getfield 16, 3) := by decide +kernel
theorem dX4_zone_5 : decode cX4_zone 5 = .ok (.imul, 1) := by decide +kernel
theorem dX4_zone_6 : decode cX4_zone 6 = .ok (.aload_n 0, 1) := by decide +kernel
theorem dX4_zone_7 : decode cX4_zone 7 = .ok (.iload_n 1, 1) := by decide +kernel
theorem dX4_zone_8 : decode cX4_zone 8 = .ok (.invokevirtual 69, 3) := by decide +kernel
theorem dX4_zone_11 : decode cX4_zone 11 = .ok (.imul, 1) := by decide +kernel
theorem dX4_zone_12 : decode cX4_zone 12 = .ok (.aload_n 0, 1) := by decide +kernel
theorem dX4_zone_13 : decode cX4_zone 13 = .ok (.invokevirtual 56, 3) := by decide +kernel
theorem dX4_zone_16 : decode cX4_zone 16 = .ok (.idiv, 1) := by decide +kernel
theorem dX4_zone_17 : decode cX4_zone 17 = .ok (.ireturn, 1) := by decide +kernel
set_option maxRecDepth 20000 in
theorem ggX4_phaseOf_X4_zone : GoodIn wsX4_phaseOf wsX4_zone := goodIn_r _ [6, 1, 7, 8, 9, 5, 10, 11, 12, 13, 14, 15, 16, 17, 18, 19, 20, 21, 22, 23, 24, 25, 26, 27, 28, 29, 30, 31, 32, 33, 34, 35, 36, 37, 38, 39] (by decide +kernel) (by decide +kernel)
set_option maxRecDepth 20000 in
theorem gX4_phaseOf_X4_zone : GoodIn wsX4_phaseOf (wsV RX4 73 RX4 yX4_zone wsX4_zone) := goodIn_app (goodIn_of _ (by decide +kernel)) ggX4_phaseOf_X4_zone
theorem dX4_phaseOf_0 : decode cX4_phaseOf 0 = .ok (.aload_n 0, 1) := by decide +kernel
theorem dX4_phaseOf_1 : decode cX4_phaseOf 1 = .ok (.iload_n 1, 1) := by decide +kernel
theorem dX4_phaseOf_2 : decode cX4_phaseOf 2 = .ok (.invokevirtual 73, 3) := by decide +kernel
theorem dX4_phaseOf_5 : decode cX4_phaseOf 5 = .ok (.istore_n 2, 1) := by decide +kernel
theorem dX4_phaseOf_6 : decode cX4_phaseOf 6 = .ok (.iload_n 2, 1) := by decide +kernel
theorem dX4_phaseOf_7 : decode cX4_phaseOf 7 = .ok (.iconst 2, 1) := by decide +kernel
theorem dX4_phaseOf_8 : decode cX4_phaseOf 8 = .ok (.irem, 1) := by decide +kernel
theorem dX4_phaseOf_9 : decode cX4_phaseOf 9 = .ok (.ifCond .ne 9, 3) := by decide +kernel
theorem dX4_phaseOf_12 : decode cX4_phaseOf 12 = .ok (.iload_n 2, 1) := by decide +kernel
theorem dX4_phaseOf_13 : decode cX4_phaseOf 13 = .ok (.iconst 2, 1) := by decide +kernel
theorem dX4_phaseOf_14 : decode cX4_phaseOf 14 = .ok (.idiv, 1) := by decide +kernel
theorem dX4_phaseOf_15 : decode cX4_phaseOf 15 = .ok (.goto 16, 3) := by decide +kernel
theorem dX4_phaseOf_18 : decode cX4_phaseOf 18 = .ok (.iload_n 2, 1) := by decide +kernel
theorem dX4_phaseOf_19 : decode cX4_phaseOf 19 = .ok (.aload_n 0, 1) := by decide +kernel
theorem dX4_phaseOf_20 : decode cX4_phaseOf 20 = .ok (.getfield 16, 3) := by decide +kernel
theorem dX4_phaseOf_23 : decode cX4_phaseOf 23 = .ok (.iadd, 1) := by decide +kernel
theorem dX4_phaseOf_24 : decode cX4_phaseOf 24 = .ok (.iconst 2, 1) := by decide +kernel
theorem dX4_phaseOf_25 : decode cX4_phaseOf 25 = .ok (.idiv, 1) := by decide +kernel
theorem dX4_phaseOf_26 : decode cX4_phaseOf 26 = .ok (.aload_n 0, 1) := by decide +kernel
theorem dX4_phaseOf_27 : decode cX4_phaseOf 27 = .ok (.getfield 16, 3) := by decide +kernel
theorem dX4_phaseOf_30 : decode cX4_phaseOf 30 = .ok (.irem, 1) := by decide +kernel
theorem dX4_phaseOf_31 : decode cX4_phaseOf 31 = .ok (.ireturn, 1) := by decide +kernel
set_option maxRecDepth 20000 in
theorem ggX4_isForward_X4_zone : GoodIn wsX4_isForward wsX4_zone := goodIn_r _ [5, 6, 7, 8, 9, 4, 10, 11, 12, 13, 14, 15, 16, 17, 18, 19, 20, 21, 22, 23, 24, 25, 26, 27, 28, 29, 30, 31, 32, 33, 34, 35, 36, 37, 38, 39] (by decide +kernel) (by decide +kernel)
set_option maxRecDepth 20000 in
theorem gX4_isForward_X4_zone : GoodIn wsX4_isForward (wsV RX4 73 RX4 yX4_zone wsX4_zone) := goodIn_app (goodIn_of _ (by decide +kernel)) ggX4_isForward_X4_zone
theorem dX4_isForward_0 : decode cX4_isForward 0 = .ok (.aload_n 0, 1) := by decide +kernel
theorem dX4_isForward_1 : decode cX4_isForward 1 = .ok (.iload_n 1, 1) := by decide +kernel
theorem dX4_isForward_2 : decode cX4_isForward 2 = .ok (.invokevirtual 73, 3) := by decide +kernel
theorem dX4_isForward_5 : decode cX4_isForward 5 = .ok (.iconst 2, 1) := by decide +kernel
theorem dX4_isForward_6 : decode cX4_isForward 6 = .ok (.irem, 1) := by decide +kernel
theorem dX4_isForward_7 : decode cX4_isForward 7 = .ok (.ifCond .ne 7, 3) := by decide +kernel
theorem dX4_isForward_10 : decode cX4_isForward 10 = .ok (.iconst 1, 1) := by decide +kernel
theorem dX4_isForward_11 : decode cX4_isForward 11 = .ok (.goto 4, 3) := by decide +kernel
theorem dX4_isForward_14 : decode cX4_isForward 14 = .ok (.iconst 0, 1) := by decide +kernel
theorem dX4_isForward_15 : decode cX4_isForward 15 = .ok (.ireturn, 1) := by decide +kernel
theorem dX4_begins_0 : decode cX4_begins 0 = .ok (.iload_n 1, 1) := by decide +kernel
theorem dX4_begins_1 : decode cX4_begins 1 = .ok (.aload_n 0, 1) := by decide +kernel
theorem dX4_begins_2 : decode cX4_begins 2 = .ok (.getfield 7, 3) := by decide +kernel
theorem dX4_begins_5 : decode cX4_begins 5 = .ok (.iadd, 1) := by decide +kernel
theorem dX4_begins_6 : decode cX4_begins 6 = .ok (.aload_n 0, 1) := by decide +kernel
theorem dX4_begins_7 : decode cX4_begins 7 = .ok (.getfield 19, 3) := by decide +kernel
theorem dX4_begins_10 : decode cX4_begins 10 = .ok (.isub, 1) := by decide +kernel
theorem dX4_begins_11 : decode cX4_begins 11 = .ok (.aload_n 0, 1) := by decide +kernel
theorem dX4_begins_12 : decode cX4_begins 12 = .ok (.getfield 7, 3) := by decide +kernel
theorem dX4_begins_15 : decode cX4_begins 15 = .ok (.irem, 1) := by decide +kernel
theorem dX4_begins_16 : decode cX4_begins 16 = .ok (.ireturn, 1) := by decide +kernel
set_option maxRecDepth 20000 in
theorem ggX4_slot_X4_isSlot : GoodIn wsX4_slot wsX4_isSlot := goodIn_r _ [7, 2, 8, 9, 6, 10, 48, 49, 50, 51, 52, 53, 54, 55, 56, 57, 58, 59, 60, 61, 62, 63] (by decide +kernel) (by decide +kernel)
set_option maxRecDepth 20000 in
theorem gX4_slot_X4_isSlot : GoodIn wsX4_slot (wsV RX4 76 RX4 yX4_isSlot wsX4_isSlot) := goodIn_app (goodIn_of _ (by decide +kernel)) ggX4_slot_X4_isSlot
set_option maxRecDepth 20000 in
theorem ggX4_slot_X4_in : GoodIn wsX4_slot wsX4_in := goodIn_r _ [10] (by decide +kernel) (by decide +kernel)
set_option maxRecDepth 20000 in
theorem gX4_slot_X4_in : GoodIn wsX4_slot (va_wsS RX4 59 yX4_in wsX4_in) := goodIn_app (goodIn_of _ (by decide +kernel)) ggX4_slot_X4_in
set_option maxRecDepth 20000 in
theorem ggX4_slot_X4_isBalanced : GoodIn wsX4_slot wsX4_isBalanced := goodIn_r _ [14, 15, 16, 17, 18, 6, 19, 2, 20, 21, 22, 23, 24, 25, 26, 27, 48, 49, 50, 51, 52, 53, 54, 55, 56, 57, 58, 59, 60, 61, 62, 63] (by decide +kernel) (by decide +kernel)
set_option maxRecDepth 20000 in
theorem gX4_slot_X4_isBalanced : GoodIn wsX4_slot (wsV RX4 80 RX4 yX4_isBalanced wsX4_isBalanced) := goodIn_app (goodIn_of _ (by decide +kernel)) ggX4_slot_X4_isBalanced
set_option maxRecDepth 20000 in
theorem ggX4_slot_X4_turn : GoodIn wsX4_slot wsX4_turn := goodIn_r _ [31, 24, 2, 20, 21, 22, 6, 23, 25, 26, 27, 48, 49, 50, 51, 52, 53, 54, 55, 56, 57, 58, 59, 60, 61, 62, 63] (by decide +kernel) (by decide +kernel)
set_option maxRecDepth 20000 in
theorem gX4_slot_X4_turn : GoodIn wsX4_slot (wsV RX4 69 RX4 yX4_turn wsX4_turn) := goodIn_app (goodIn_of _ (by decide +kernel)) ggX4_slot_X4_turn
set_option maxRecDepth 20000 in
theorem ggX4_slot_X4_star : GoodIn wsX4_slot wsX4_star := goodIn_r _ [19, 2, 20, 21, 22, 6, 23, 24, 25, 26, 27, 48, 49, 50, 51, 52, 53, 54, 55, 56, 57, 58, 59, 60, 61, 62, 63] (by decide +kernel) (by decide +kernel)
set_option maxRecDepth 20000 in
theorem gX4_slot_X4_star : GoodIn wsX4_slot (wsV RX4 56 RX4 yX4_star wsX4_star) := goodIn_app (goodIn_of _ (by decide +kernel)) ggX4_slot_X4_star
set_option maxRecDepth 20000 in
theorem ggX4_slot_X4_zone : GoodIn wsX4_slot wsX4_zone := goodIn_r _ [35, 15, 28, 29, 30, 6, 31, 24, 2, 20, 21, 22, 23, 25, 26, 27, 16, 17, 18, 19, 48, 49, 50, 51, 52, 53, 54, 55, 56, 57, 58, 59, 60, 61, 62, 63] (by decide +kernel) (by decide +kernel)
set_option maxRecDepth 20000 in
theorem gX4_slot_X4_zone : GoodIn wsX4_slot (wsV RX4 73 RX4 yX4_zone wsX4_zone) := goodIn_app (goodIn_of _ (by decide +kernel)) ggX4_slot_X4_zone
set_option maxRecDepth 20000 in
theorem ggX4_slot_X4_phaseOf : GoodIn wsX4_slot wsX4_phaseOf := goodIn_r _ [39, 15, 32, 33, 34, 6, 35, 28, 29, 30, 31, 24, 2, 20, 21, 22, 23, 25, 26, 27, 16, 17, 18, 19, 48, 49, 50, 51, 52, 53, 54, 55, 56, 57, 58, 59, 60, 61, 62, 63] (by decide +kernel) (by decide +kernel)
set_option maxRecDepth 20000 in
theorem gX4_slot_X4_phaseOf : GoodIn wsX4_slot (wsV RX4 84 RX4 yX4_phaseOf wsX4_phaseOf) := goodIn_app (goodIn_of _ (by decide +kernel)) ggX4_slot_X4_phaseOf
set_option maxRecDepth 20000 in
theorem ggX4_slot_X4_isForward : GoodIn wsX4_slot wsX4_isForward := goodIn_r _ [43, 32, 33, 34, 6, 35, 15, 28, 29, 30, 31, 24, 2, 20, 21, 22, 23, 25, 26, 27, 16, 17, 18, 19, 48, 49, 50, 51, 52, 53, 54, 55, 56, 57, 58, 59, 60, 61, 62, 63] (by decide +kernel) (by decide +kernel)
set_option maxRecDepth 20000 in
theorem gX4_slot_X4_isForward : GoodIn wsX4_slot (wsV RX4 87 RX4 yX4_isForward wsX4_isForward) := goodIn_app (goodIn_of _ (by decide +kernel)) ggX4_slot_X4_isForward
set_option maxRecDepth 20000 in
theorem ggX4_slot_X4_begins : GoodIn wsX4_slot wsX4_begins := goodIn_r _ [47, 2, 1, 48, 49, 50, 51, 52, 53, 54, 55, 56, 57, 58, 59, 60, 61, 62, 63] (by decide +kernel) (by decide +kernel)
set_option maxRecDepth 20000 in
theorem gX4_slot_X4_begins : GoodIn wsX4_slot (wsV RX4 90 RX4 yX4_begins wsX4_begins) := goodIn_app (goodIn_of _ (by decide +kernel)) ggX4_slot_X4_begins
theorem dX4_slot_0 : decode cX4_slot 0 = .ok (.aload_n 0, 1) := by decide +kernel
theorem dX4_slot_1 : decode cX4_slot 1 = .ok (.iload_n 1, 1) := by decide +kernel
theorem dX4_slot_2 : decode cX4_slot 2 = .ok (.invokevirtual 76, 3) := by decide +kernel
theorem dX4_slot_5 : decode cX4_slot 5 = .ok (.ifCond .ne 5, 3) := by decide +kernel
theorem dX4_slot_8 : decode cX4_slot 8 = .ok (.iconst (-1), 1) := by decide +kernel
theorem dX4_slot_9 : decode cX4_slot 9 = .ok (.ireturn, 1) := by decide +kernel
theorem dX4_slot_10 : decode cX4_slot 10 = .ok (.iload_n 2, 1) := by decide +kernel
theorem dX4_slot_11 : decode cX4_slot 11 = .ok (.iconst 0, 1) := by decide +kernel
theorem dX4_slot_12 : decode cX4_slot 12 = .ok (.bipush 6, 2) := by decide +kernel
theorem dX4_slot_14 : decode cX4_slot 14 = .ok (.invokestatic 59, 3) := by decide +kernel
theorem dX4_slot_17 : decode cX4_slot 17 = .ok (.ifCond .ne 6, 3) := by decide +kernel
theorem dX4_slot_20 : decode cX4_slot 20 = .ok (.bipush (-2), 2) := by decide +kernel
theorem dX4_slot_22 : decode cX4_slot 22 = .ok (.ireturn, 1) := by decide +kernel
theorem dX4_slot_23 : decode cX4_slot 23 = .ok (.iload_n 2, 1) := by decide +kernel
theorem dX4_slot_24 : decode cX4_slot 24 = .ok (.iconst 2, 1) := by decide +kernel
theorem dX4_slot_25 : decode cX4_slot 25 = .ok (.iconst 4, 1) := by decide +kernel
theorem dX4_slot_26 : decode cX4_slot 26 = .ok (.invokestatic 59, 3) := by decide +kernel
theorem dX4_slot_29 : decode cX4_slot 29 = .ok (.ifCond .eq 13, 3) := by decide +kernel
theorem dX4_slot_32 : decode cX4_slot 32 = .ok (.aload_n 0, 1) := by decide +kernel
theorem dX4_slot_33 : decode cX4_slot 33 = .ok (.invokevirtual 80, 3) := by decide +kernel
theorem dX4_slot_36 : decode cX4_slot 36 = .ok (.ifCond .ne 6, 3) := by decide +kernel
theorem dX4_slot_39 : decode cX4_slot 39 = .ok (.bipush (-3), 2) := by decide +kernel
theorem dX4_slot_41 : decode cX4_slot 41 = .ok (.ireturn, 1) := by decide +kernel
theorem dX4_slot_42 : decode cX4_slot 42 = .ok (.iload_n 2, 1) := by decide +kernel
theorem dX4_slot_43 : decode cX4_slot 43 = .ok (.tableswitch 88 0 5 #[37, 43, 50, 56, 62, 76], 37) := by decide +kernel
theorem dX4_slot_80 : decode cX4_slot 80 = .ok (.aload_n 0, 1) := by decide +kernel
theorem dX4_slot_81 : decode cX4_slot 81 = .ok (.iload_n 1, 1) := by decide +kernel
theorem dX4_slot_82 : decode cX4_slot 82 = .ok (.invokevirtual 69, 3) := by decide +kernel
theorem dX4_slot_85 : decode cX4_slot 85 = .ok (.ireturn, 1) := by decide +kernel
theorem dX4_slot_86 : decode cX4_slot 86 = .ok (.iload_n 1, 1) := by decide +kernel
theorem dX4_slot_87 : decode cX4_slot 87 = .ok (.aload_n 0, 1) := by decide +kernel
theorem dX4_slot_88 : decode cX4_slot 88 = .ok (.invokevirtual 56, 3) := by decide +kernel
theorem dX4_slot_91 : decode cX4_slot 91 = .ok (.idiv, 1) := by decide +kernel
theorem dX4_slot_92 : decode cX4_slot 92 = .ok (.ireturn, 1) := by decide +kernel
theorem dX4_slot_93 : decode cX4_slot 93 = .ok (.aload_n 0, 1) := by decide +kernel
theorem dX4_slot_94 : decode cX4_slot 94 = .ok (.iload_n 1, 1) := by decide +kernel
theorem dX4_slot_95 : decode cX4_slot 95 = .ok (.invokevirtual 73, 3) := by decide +kernel
theorem dX4_slot_98 : decode cX4_slot 98 = .ok (.ireturn, 1) := by decide +kernel
theorem dX4_slot_99 : decode cX4_slot 99 = .ok (.aload_n 0, 1) := by decide +kernel
theorem dX4_slot_100 : decode cX4_slot 100 = .ok (.iload_n 1, 1) := by decide +kernel
theorem dX4_slot_101 : decode cX4_slot 101 = .ok (.invokevirtual 84, 3) := by decide +kernel
theorem dX4_slot_104 : decode cX4_slot 104 = .ok (.ireturn, 1) := by decide +kernel
theorem dX4_slot_105 : decode cX4_slot 105 = .ok (.aload_n 0, 1) := by decide +kernel
theorem dX4_slot_106 : decode cX4_slot 106 = .ok (.iload_n 1, 1) := by decide +kernel
theorem dX4_slot_107 : decode cX4_slot 107 = .ok (.invokevirtual 87, 3) := by decide +kernel
theorem dX4_slot_110 : decode cX4_slot 110 = .ok (.ifCond .eq 7, 3) := by decide +kernel
theorem dX4_slot_113 : decode cX4_slot 113 = .ok (.iconst 1, 1) := by decide +kernel
theorem dX4_slot_114 : decode cX4_slot 114 = .ok (.goto 4, 3) := by decide +kernel
theorem dX4_slot_117 : decode cX4_slot 117 = .ok (.iconst 0, 1) := by decide +kernel
theorem dX4_slot_118 : decode cX4_slot 118 = .ok (.ireturn, 1) := by decide +kernel
theorem dX4_slot_119 : decode cX4_slot 119 = .ok (.iload_n 1, 1) := by decide +kernel
theorem dX4_slot_120 : decode cX4_slot 120 = .ok (.aload_n 0, 1) := by decide +kernel
theorem dX4_slot_121 : decode cX4_slot 121 = .ok (.getfield 19, 3) := by decide +kernel
theorem dX4_slot_124 : decode cX4_slot 124 = .ok (.iadd, 1) := by decide +kernel
theorem dX4_slot_125 : decode cX4_slot 125 = .ok (.aload_n 0, 1) := by decide +kernel
theorem dX4_slot_126 : decode cX4_slot 126 = .ok (.getfield 7, 3) := by decide +kernel
theorem dX4_slot_129 : decode cX4_slot 129 = .ok (.irem, 1) := by decide +kernel
theorem dX4_slot_130 : decode cX4_slot 130 = .ok (.ireturn, 1) := by decide +kernel
theorem dX4_slot_131 : decode cX4_slot 131 = .ok (.aload_n 0, 1) := by decide +kernel
theorem dX4_slot_132 : decode cX4_slot 132 = .ok (.iload_n 1, 1) := by decide +kernel
theorem dX4_slot_133 : decode cX4_slot 133 = .ok (.invokevirtual 90, 3) := by decide +kernel
theorem dX4_slot_136 : decode cX4_slot 136 = .ok (.ireturn, 1) := by decide +kernel
set_option maxRecDepth 20000 in
theorem ggX4_phase_X4_isPhase : GoodIn wsX4_phase wsX4_isPhase := goodIn_r _ [6, 7, 8, 9, 5, 10, 43, 44, 45, 46, 47, 48, 49, 50, 51, 52, 53, 54, 55, 56, 57, 58] (by decide +kernel) (by decide +kernel)
set_option maxRecDepth 20000 in
theorem gX4_phase_X4_isPhase : GoodIn wsX4_phase (wsV RX4 93 RX4 yX4_isPhase wsX4_isPhase) := goodIn_app (goodIn_of _ (by decide +kernel)) ggX4_phase_X4_isPhase
set_option maxRecDepth 20000 in
theorem ggX4_phase_X4_in : GoodIn wsX4_phase wsX4_in := goodIn_r _ [10] (by decide +kernel) (by decide +kernel)
set_option maxRecDepth 20000 in
theorem gX4_phase_X4_in : GoodIn wsX4_phase (va_wsS RX4 59 yX4_in wsX4_in) := goodIn_app (goodIn_of _ (by decide +kernel)) ggX4_phase_X4_in
set_option maxRecDepth 20000 in
theorem ggX4_phase_X4_isBalanced : GoodIn wsX4_phase wsX4_isBalanced := goodIn_r _ [14, 7, 15, 16, 17, 5, 18, 1, 19, 20, 21, 22, 23, 24, 25, 26, 43, 44, 45, 46, 47, 48, 49, 50, 51, 52, 53, 54, 55, 56, 57, 58] (by decide +kernel) (by decide +kernel)
set_option maxRecDepth 20000 in
theorem gX4_phase_X4_isBalanced : GoodIn wsX4_phase (wsV RX4 80 RX4 yX4_isBalanced wsX4_isBalanced) := goodIn_app (goodIn_of _ (by decide +kernel)) ggX4_phase_X4_isBalanced
set_option maxRecDepth 20000 in
theorem ggX4_phase_X4_phaseOf : GoodIn wsX4_phase wsX4_phaseOf := goodIn_r _ [30, 7, 31, 32, 33, 5, 34, 35, 36, 37, 38, 23, 1, 19, 20, 21, 22, 24, 25, 26, 15, 16, 17, 18, 43, 44, 45, 46, 47, 48, 49, 50, 51, 52, 53, 54, 55, 56, 57, 58] (by decide +kernel) (by decide +kernel)
set_option maxRecDepth 20000 in
theorem gX4_phase_X4_phaseOf : GoodIn wsX4_phase (wsV RX4 84 RX4 yX4_phaseOf wsX4_phaseOf) := goodIn_app (goodIn_of _ (by decide +kernel)) ggX4_phase_X4_phaseOf
set_option maxRecDepth 20000 in
theorem ggX4_phase_X4_isForward : GoodIn wsX4_phase wsX4_isForward := goodIn_r _ [42, 31, 32, 33, 5, 34, 7, 35, 36, 37, 38, 23, 1, 19, 20, 21, 22, 24, 25, 26, 15, 16, 17, 18, 43, 44, 45, 46, 47, 48, 49, 50, 51, 52, 53, 54, 55, 56, 57, 58] (by decide +kernel) (by decide +kernel)
set_option maxRecDepth 20000 in
theorem gX4_phase_X4_isForward : GoodIn wsX4_phase (wsV RX4 87 RX4 yX4_isForward wsX4_isForward) := goodIn_app (goodIn_of _ (by decide +kernel)) ggX4_phase_X4_isForward
theorem dX4_phase_0 : decode cX4_phase 0 = .ok (.aload_n 0, 1) := by decide +kernel
theorem dX4_phase_1 : decode cX4_phase 1 = .ok (.iload_n 1, 1) := by decide +kernel
theorem dX4_phase_2 : decode cX4_phase 2 = .ok (.invokevirtual 93, 3) := by decide +kernel
theorem dX4_phase_5 : decode cX4_phase 5 = .ok (.ifCond .ne 5, 3) := by decide +kernel
theorem dX4_phase_8 : decode cX4_phase 8 = .ok (.iconst (-1), 1) := by decide +kernel
theorem dX4_phase_9 : decode cX4_phase 9 = .ok (.ireturn, 1) := by decide +kernel
theorem dX4_phase_10 : decode cX4_phase 10 = .ok (.iload_n 2, 1) := by decide +kernel
theorem dX4_phase_11 : decode cX4_phase 11 = .ok (.iconst 0, 1) := by decide +kernel
theorem dX4_phase_12 : decode cX4_phase 12 = .ok (.iconst 2, 1) := by decide +kernel
theorem dX4_phase_13 : decode cX4_phase 13 = .ok (.invokestatic 59, 3) := by decide +kernel
theorem dX4_phase_16 : decode cX4_phase 16 = .ok (.ifCond .ne 6, 3) := by decide +kernel
theorem dX4_phase_19 : decode cX4_phase 19 = .ok (.bipush (-2), 2) := by decide +kernel
theorem dX4_phase_21 : decode cX4_phase 21 = .ok (.ireturn, 1) := by decide +kernel
theorem dX4_phase_22 : decode cX4_phase 22 = .ok (.aload_n 0, 1) := by decide +kernel
theorem dX4_phase_23 : decode cX4_phase 23 = .ok (.invokevirtual 80, 3) := by decide +kernel
theorem dX4_phase_26 : decode cX4_phase 26 = .ok (.ifCond .ne 6, 3) := by decide +kernel
theorem dX4_phase_29 : decode cX4_phase 29 = .ok (.bipush (-3), 2) := by decide +kernel
theorem dX4_phase_31 : decode cX4_phase 31 = .ok (.ireturn, 1) := by decide +kernel
theorem dX4_phase_32 : decode cX4_phase 32 = .ok (.iconst 0, 1) := by decide +kernel
theorem dX4_phase_33 : decode cX4_phase 33 = .ok (.istore_n 3, 1) := by decide +kernel
theorem dX4_phase_34 : decode cX4_phase 34 = .ok (.iconst 0, 1) := by decide +kernel
theorem dX4_phase_35 : decode cX4_phase 35 = .ok (.istore 4, 2) := by decide +kernel
theorem dX4_phase_37 : decode cX4_phase 37 = .ok (.iload 4, 2) := by decide +kernel
theorem dX4_phase_39 : decode cX4_phase 39 = .ok (.aload_n 0, 1) := by decide +kernel
theorem dX4_phase_40 : decode cX4_phase 40 = .ok (.getfield 7, 3) := by decide +kernel
theorem dX4_phase_43 : decode cX4_phase 43 = .ok (.if_icmp .ge 50, 3) := by decide +kernel
theorem dX4_phase_46 : decode cX4_phase 46 = .ok (.iload_n 3, 1) := by decide +kernel
theorem dX4_phase_47 : decode cX4_phase 47 = .ok (.aload_n 0, 1) := by decide +kernel
theorem dX4_phase_48 : decode cX4_phase 48 = .ok (.iload 4, 2) := by decide +kernel
theorem dX4_phase_50 : decode cX4_phase 50 = .ok (.invokevirtual 84, 3) := by decide +kernel
theorem dX4_phase_53 : decode cX4_phase 53 = .ok (.iload_n 1, 1) := by decide +kernel
theorem dX4_phase_54 : decode cX4_phase 54 = .ok (.if_icmp .ne 30, 3) := by decide +kernel
theorem dX4_phase_57 : decode cX4_phase 57 = .ok (.iload_n 2, 1) := by decide +kernel
theorem dX4_phase_58 : decode cX4_phase 58 = .ok (.ifCond .eq 22, 3) := by decide +kernel
theorem dX4_phase_61 : decode cX4_phase 61 = .ok (.aload_n 0, 1) := by decide +kernel
theorem dX4_phase_62 : decode cX4_phase 62 = .ok (.iload 4, 2) := by decide +kernel
theorem dX4_phase_64 : decode cX4_phase 64 = .ok (.invokevirtual 87, 3) := by decide +kernel
theorem dX4_phase_67 : decode cX4_phase 67 = .ok (.iload_n 2, 1) := by decide +kernel
theorem dX4_phase_68 : decode cX4_phase 68 = .ok (.iconst 1, 1) := by decide +kernel
theorem dX4_phase_69 : decode cX4_phase 69 = .ok (.if_icmp .ne 7, 3) := by decide +kernel
theorem dX4_phase_72 : decode cX4_phase 72 = .ok (.iconst 1, 1) := by decide +kernel
theorem dX4_phase_73 : decode cX4_phase 73 = .ok (.goto 4, 3) := by decide +kernel
theorem dX4_phase_76 : decode cX4_phase 76 = .ok (.iconst 0, 1) := by decide +kernel
theorem dX4_phase_77 : decode cX4_phase 77 = .ok (.if_icmp .ne 7, 3) := by decide +kernel
theorem dX4_phase_80 : decode cX4_phase 80 = .ok (.iconst 1, 1) := by decide +kernel
theorem dX4_phase_81 : decode cX4_phase 81 = .ok (.goto 4, 3) := by decide +kernel
theorem dX4_phase_84 : decode cX4_phase 84 = .ok (.iconst 0, 1) := by decide +kernel
theorem dX4_phase_85 : decode cX4_phase 85 = .ok (.iadd, 1) := by decide +kernel
theorem dX4_phase_86 : decode cX4_phase 86 = .ok (.istore_n 3, 1) := by decide +kernel
theorem dX4_phase_87 : decode cX4_phase 87 = .ok (.iinc 4 1, 3) := by decide +kernel
theorem dX4_phase_90 : decode cX4_phase 90 = .ok (.goto (-53), 3) := by decide +kernel
theorem dX4_phase_93 : decode cX4_phase 93 = .ok (.iload_n 3, 1) := by decide +kernel
theorem dX4_phase_94 : decode cX4_phase 94 = .ok (.ireturn, 1) := by decide +kernel
set_option maxRecDepth 20000 in
theorem ggX4_layer_X4_isSlot : GoodIn wsX4_layer wsX4_isSlot := goodIn_r _ [5, 6, 7, 8, 4, 9, 48, 49, 50, 51, 52, 53, 54, 55, 56, 57, 58, 59, 60, 61, 62, 63] (by decide +kernel) (by decide +kernel)
set_option maxRecDepth 20000 in
theorem gX4_layer_X4_isSlot : GoodIn wsX4_layer (wsV RX4 76 RX4 yX4_isSlot wsX4_isSlot) := goodIn_app (goodIn_of _ (by decide +kernel)) ggX4_layer_X4_isSlot
set_option maxRecDepth 20000 in
theorem ggX4_layer_X4_in : GoodIn wsX4_layer wsX4_in := goodIn_r _ [9] (by decide +kernel) (by decide +kernel)
set_option maxRecDepth 20000 in
theorem gX4_layer_X4_in : GoodIn wsX4_layer (va_wsS RX4 59 yX4_in wsX4_in) := goodIn_app (goodIn_of _ (by decide +kernel)) ggX4_layer_X4_in
set_option maxRecDepth 20000 in
theorem ggX4_layer_X4_isBalanced : GoodIn wsX4_layer wsX4_isBalanced := goodIn_r _ [13, 14, 15, 16, 17, 4, 18, 6, 19, 20, 21, 22, 23, 24, 25, 26, 48, 49, 50, 51, 52, 53, 54, 55, 56, 57, 58, 59, 60, 61, 62, 63] (by decide +kernel) (by decide +kernel)
set_option maxRecDepth 20000 in
theorem gX4_layer_X4_isBalanced : GoodIn wsX4_layer (wsV RX4 80 RX4 yX4_isBalanced wsX4_isBalanced) := goodIn_app (goodIn_of _ (by decide +kernel)) ggX4_layer_X4_isBalanced
set_option maxRecDepth 20000 in
theorem ggX4_layer_X4_begins : GoodIn wsX4_layer wsX4_begins := goodIn_r _ [30, 6, 31, 48, 49, 50, 51, 52, 53, 54, 55, 56, 57, 58, 59, 60, 61, 62, 63] (by decide +kernel) (by decide +kernel)
set_option maxRecDepth 20000 in
theorem gX4_layer_X4_begins : GoodIn wsX4_layer (wsV RX4 90 RX4 yX4_begins wsX4_begins) := goodIn_app (goodIn_of _ (by decide +kernel)) ggX4_layer_X4_begins
set_option maxRecDepth 20000 in
theorem ggX4_layer_X4_phaseOf : GoodIn wsX4_layer wsX4_phaseOf := goodIn_r _ [35, 14, 36, 37, 38, 4, 39, 40, 41, 42, 43, 23, 6, 19, 20, 21, 22, 24, 25, 26, 15, 16, 17, 18, 48, 49, 50, 51, 52, 53, 54, 55, 56, 57, 58, 59, 60, 61, 62, 63] (by decide +kernel) (by decide +kernel)
set_option maxRecDepth 20000 in
theorem gX4_layer_X4_phaseOf : GoodIn wsX4_layer (wsV RX4 84 RX4 yX4_phaseOf wsX4_phaseOf) := goodIn_app (goodIn_of _ (by decide +kernel)) ggX4_layer_X4_phaseOf
set_option maxRecDepth 20000 in
theorem ggX4_layer_X4_isForward : GoodIn wsX4_layer wsX4_isForward := goodIn_r _ [47, 36, 37, 38, 4, 39, 14, 40, 41, 42, 43, 23, 6, 19, 20, 21, 22, 24, 25, 26, 15, 16, 17, 18, 48, 49, 50, 51, 52, 53, 54, 55, 56, 57, 58, 59, 60, 61, 62, 63] (by decide +kernel) (by decide +kernel)
set_option maxRecDepth 20000 in
theorem gX4_layer_X4_isForward : GoodIn wsX4_layer (wsV RX4 87 RX4 yX4_isForward wsX4_isForward) := goodIn_app (goodIn_of _ (by decide +kernel)) ggX4_layer_X4_isForward
theorem dX4_layer_0 : decode cX4_layer 0 = .ok (.aload_n 0, 1) := by decide +kernel
theorem dX4_layer_1 : decode cX4_layer 1 = .ok (.iload_n 1, 1) := by decide +kernel
theorem dX4_layer_2 : decode cX4_layer 2 = .ok (.invokevirtual 76, 3) := by decide +kernel
theorem dX4_layer_5 : decode cX4_layer 5 = .ok (.ifCond .ne 5, 3) := by decide +kernel
theorem dX4_layer_8 : decode cX4_layer 8 = .ok (.iconst (-1), 1) := by decide +kernel
theorem dX4_layer_9 : decode cX4_layer 9 = .ok (.ireturn, 1) := by decide +kernel
theorem dX4_layer_10 : decode cX4_layer 10 = .ok (.iload_n 2, 1) := by decide +kernel
theorem dX4_layer_11 : decode cX4_layer 11 = .ok (.iconst 0, 1) := by decide +kernel
theorem dX4_layer_12 : decode cX4_layer 12 = .ok (.iconst 1, 1) := by decide +kernel
theorem dX4_layer_13 : decode cX4_layer 13 = .ok (.invokestatic 59, 3) := by decide +kernel
theorem dX4_layer_16 : decode cX4_layer 16 = .ok (.ifCond .ne 6, 3) := by decide +kernel
theorem dX4_layer_19 : decode cX4_layer 19 = .ok (.bipush (-2), 2) := by decide +kernel
theorem dX4_layer_21 : decode cX4_layer 21 = .ok (.ireturn, 1) := by decide +kernel
theorem dX4_layer_22 : decode cX4_layer 22 = .ok (.aload_n 0, 1) := by decide +kernel
theorem dX4_layer_23 : decode cX4_layer 23 = .ok (.invokevirtual 80, 3) := by decide +kernel
theorem dX4_layer_26 : decode cX4_layer 26 = .ok (.ifCond .ne 6, 3) := by decide +kernel
theorem dX4_layer_29 : decode cX4_layer 29 = .ok (.bipush (-3), 2) := by decide +kernel
theorem dX4_layer_31 : decode cX4_layer 31 = .ok (.ireturn, 1) := by decide +kernel
theorem dX4_layer_32 : decode cX4_layer 32 = .ok (.iload_n 2, 1) := by decide +kernel
theorem dX4_layer_33 : decode cX4_layer 33 = .ok (.ifCond .ne 7, 3) := by decide +kernel
theorem dX4_layer_36 : decode cX4_layer 36 = .ok (.iload_n 1, 1) := by decide +kernel
theorem dX4_layer_37 : decode cX4_layer 37 = .ok (.goto 8, 3) := by decide +kernel
theorem dX4_layer_40 : decode cX4_layer 40 = .ok (.aload_n 0, 1) := by decide +kernel
theorem dX4_layer_41 : decode cX4_layer 41 = .ok (.iload_n 1, 1) := by decide +kernel
theorem dX4_layer_42 : decode cX4_layer 42 = .ok (.invokevirtual 90, 3) := by decide +kernel
theorem dX4_layer_45 : decode cX4_layer 45 = .ok (.istore_n 3, 1) := by decide +kernel
theorem dX4_layer_46 : decode cX4_layer 46 = .ok (.bipush 10, 2) := by decide +kernel
theorem dX4_layer_48 : decode cX4_layer 48 = .ok (.aload_n 0, 1) := by decide +kernel
theorem dX4_layer_49 : decode cX4_layer 49 = .ok (.iload_n 3, 1) := by decide +kernel
theorem dX4_layer_50 : decode cX4_layer 50 = .ok (.invokevirtual 84, 3) := by decide +kernel
theorem dX4_layer_53 : decode cX4_layer 53 = .ok (.imul, 1) := by decide +kernel
theorem dX4_layer_54 : decode cX4_layer 54 = .ok (.aload_n 0, 1) := by decide +kernel
theorem dX4_layer_55 : decode cX4_layer 55 = .ok (.iload_n 3, 1) := by decide +kernel
theorem dX4_layer_56 : decode cX4_layer 56 = .ok (.invokevirtual 87, 3) := by decide +kernel
theorem dX4_layer_59 : decode cX4_layer 59 = .ok (.iload_n 2, 1) := by decide +kernel
theorem dX4_layer_60 : decode cX4_layer 60 = .ok (.ifCond .ne 7, 3) := by decide +kernel
theorem dX4_layer_63 : decode cX4_layer 63 = .ok (.iconst 1, 1) := by decide +kernel
theorem dX4_layer_64 : decode cX4_layer 64 = .ok (.goto 4, 3) := by decide +kernel
theorem dX4_layer_67 : decode cX4_layer 67 = .ok (.iconst 0, 1) := by decide +kernel
theorem dX4_layer_68 : decode cX4_layer 68 = .ok (.if_icmp .ne 7, 3) := by decide +kernel
theorem dX4_layer_71 : decode cX4_layer 71 = .ok (.iconst 1, 1) := by decide +kernel
theorem dX4_layer_72 : decode cX4_layer 72 = .ok (.goto 4, 3) := by decide +kernel
theorem dX4_layer_75 : decode cX4_layer 75 = .ok (.iconst 0, 1) := by decide +kernel
theorem dX4_layer_76 : decode cX4_layer 76 = .ok (.iadd, 1) := by decide +kernel
theorem dX4_layer_77 : decode cX4_layer 77 = .ok (.ireturn, 1) := by decide +kernel
set_option maxRecDepth 20000 in
theorem ggX4_each_X4_in : GoodIn wsX4_each wsX4_in := goodIn_r _ [7] (by decide +kernel) (by decide +kernel)
set_option maxRecDepth 20000 in
theorem gX4_each_X4_in : GoodIn wsX4_each (va_wsS RX4 59 yX4_in wsX4_in) := goodIn_app (goodIn_of _ (by decide +kernel)) ggX4_each_X4_in
set_option maxRecDepth 20000 in
theorem ggX4_each_X4_common : GoodIn wsX4_each wsX4_common := goodIn_r _ [10] (by decide +kernel) (by decide +kernel)
set_option maxRecDepth 20000 in
theorem gX4_each_X4_common : GoodIn wsX4_each (va_wsS RX4 48 yX4_common wsX4_common) := goodIn_app (goodIn_of _ (by decide +kernel)) ggX4_each_X4_common
theorem dX4_each_0 : decode cX4_each 0 = .ok (.iload_n 1, 1) := by decide +kernel
theorem dX4_each_1 : decode cX4_each 1 = .ok (.iconst 0, 1) := by decide +kernel
theorem dX4_each_2 : decode cX4_each 2 = .ok (.iconst 1, 1) := by decide +kernel
theorem dX4_each_3 : decode cX4_each 3 = .ok (.invokestatic 59, 3) := by decide +kernel
theorem dX4_each_6 : decode cX4_each 6 = .ok (.ifCond .ne 6, 3) := by decide +kernel
theorem dX4_each_9 : decode cX4_each 9 = .ok (.bipush (-2), 2) := by decide +kernel
theorem dX4_each_11 : decode cX4_each 11 = .ok (.ireturn, 1) := by decide +kernel
theorem dX4_each_12 : decode cX4_each 12 = .ok (.iconst 2, 1) := by decide +kernel
theorem dX4_each_13 : decode cX4_each 13 = .ok (.aload_n 0, 1) := by decide +kernel
theorem dX4_each_14 : decode cX4_each 14 = .ok (.getfield 13, 3) := by decide +kernel
theorem dX4_each_17 : decode cX4_each 17 = .ok (.imul, 1) := by decide +kernel
theorem dX4_each_18 : decode cX4_each 18 = .ok (.aload_n 0, 1) := by decide +kernel
theorem dX4_each_19 : decode cX4_each 19 = .ok (.getfield 16, 3) := by decide +kernel
theorem dX4_each_22 : decode cX4_each 22 = .ok (.imul, 1) := by decide +kernel
theorem dX4_each_23 : decode cX4_each 23 = .ok (.istore_n 2, 1) := by decide +kernel
theorem dX4_each_24 : decode cX4_each 24 = .ok (.aload_n 0, 1) := by decide +kernel
theorem dX4_each_25 : decode cX4_each 25 = .ok (.getfield 7, 3) := by decide +kernel
theorem dX4_each_28 : decode cX4_each 28 = .ok (.iload_n 2, 1) := by decide +kernel
theorem dX4_each_29 : decode cX4_each 29 = .ok (.invokestatic 48, 3) := by decide +kernel
theorem dX4_each_32 : decode cX4_each 32 = .ok (.istore_n 3, 1) := by decide +kernel
theorem dX4_each_33 : decode cX4_each 33 = .ok (.iload_n 1, 1) := by decide +kernel
theorem dX4_each_34 : decode cX4_each 34 = .ok (.ifCond .ne 12, 3) := by decide +kernel
theorem dX4_each_37 : decode cX4_each 37 = .ok (.aload_n 0, 1) := by decide +kernel
theorem dX4_each_38 : decode cX4_each 38 = .ok (.getfield 7, 3) := by decide +kernel
theorem dX4_each_41 : decode cX4_each 41 = .ok (.iload_n 3, 1) := by decide +kernel
theorem dX4_each_42 : decode cX4_each 42 = .ok (.idiv, 1) := by decide +kernel
theorem dX4_each_43 : decode cX4_each 43 = .ok (.goto 6, 3) := by decide +kernel
theorem dX4_each_46 : decode cX4_each 46 = .ok (.iload_n 2, 1) := by decide +kernel
theorem dX4_each_47 : decode cX4_each 47 = .ok (.iload_n 3, 1) := by decide +kernel
theorem dX4_each_48 : decode cX4_each 48 = .ok (.idiv, 1) := by decide +kernel
theorem dX4_each_49 : decode cX4_each 49 = .ok (.ireturn, 1) := by decide +kernel
set_option maxRecDepth 20000 in
theorem ggX4_layOwn_X4_star : GoodIn wsX4_layOwn wsX4_star := goodIn_r _ [5, 6, 7, 8, 9, 4, 10, 11, 12, 13, 14, 26, 27, 28, 29, 30, 31, 32, 33, 34, 35, 36, 37, 38, 39, 40, 41] (by decide +kernel) (by decide +kernel)
set_option maxRecDepth 20000 in
theorem gX4_layOwn_X4_star : GoodIn wsX4_layOwn (wsV RX4 56 RX4 yX4_star wsX4_star) := goodIn_app (goodIn_of _ (by decide +kernel)) ggX4_layOwn_X4_star
set_option maxRecDepth 20000 in
theorem ggX4_layOwn_X4_layDivisor : GoodIn wsX4_layOwn wsX4_layDivisor := goodIn_r _ [18, 19, 20, 21, 22, 23, 24, 4, 25, 26, 27, 28, 29, 30, 31, 32, 33, 34, 35, 36, 37, 38, 39, 40, 41] (by decide +kernel) (by decide +kernel)
set_option maxRecDepth 20000 in
theorem gX4_layOwn_X4_layDivisor : GoodIn wsX4_layOwn (wsV RX4 96 RX4 yX4_layDivisor wsX4_layDivisor) := goodIn_app (goodIn_of _ (by decide +kernel)) ggX4_layOwn_X4_layDivisor
theorem dX4_layOwn_0 : decode cX4_layOwn 0 = .ok (.aload_n 0, 1) := by decide +kernel
theorem dX4_layOwn_1 : decode cX4_layOwn 1 = .ok (.invokevirtual 56, 3) := by decide +kernel
theorem dX4_layOwn_4 : decode cX4_layOwn 4 = .ok (.istore_n 1, 1) := by decide +kernel
theorem dX4_layOwn_5 : decode cX4_layOwn 5 = .ok (.iconst 1, 1) := by decide +kernel
theorem dX4_layOwn_6 : decode cX4_layOwn 6 = .ok (.istore_n 2, 1) := by decide +kernel
theorem dX4_layOwn_7 : decode cX4_layOwn 7 = .ok (.iload_n 2, 1) := by decide +kernel
theorem dX4_layOwn_8 : decode cX4_layOwn 8 = .ok (.iload_n 1, 1) := by decide +kernel
theorem dX4_layOwn_9 : decode cX4_layOwn 9 = .ok (.if_icmp .gt 20, 3) := by decide +kernel
theorem dX4_layOwn_12 : decode cX4_layOwn 12 = .ok (.iload_n 1, 1) := by decide +kernel
theorem dX4_layOwn_13 : decode cX4_layOwn 13 = .ok (.iload_n 2, 1) := by decide +kernel
theorem dX4_layOwn_14 : decode cX4_layOwn 14 = .ok (.irem, 1) := by decide +kernel
theorem dX4_layOwn_15 : decode cX4_layOwn 15 = .ok (.ifCond .ne 8, 3) := by decide +kernel
theorem dX4_layOwn_18 : decode cX4_layOwn 18 = .ok (.aload_n 0, 1) := by decide +kernel
theorem dX4_layOwn_19 : decode cX4_layOwn 19 = .ok (.iload_n 2, 1) := by decide +kernel
theorem dX4_layOwn_20 : decode cX4_layOwn 20 = .ok (.invokevirtual 96, 3) := by decide +kernel
theorem dX4_layOwn_23 : decode cX4_layOwn 23 = .ok (.iinc 2 1, 3) := by decide +kernel
theorem dX4_layOwn_26 : decode cX4_layOwn 26 = .ok (.goto (-19), 3) := by decide +kernel
theorem dX4_layOwn_29 : decode cX4_layOwn 29 = .ok (.return_, 1) := by decide +kernel
set_option maxRecDepth 20000 in
theorem ggX4_layDivisor_X4_divide : GoodIn wsX4_layDivisor wsX4_divide := goodIn_r _ [8, 3, 1, 2, 9, 10, 11, 12, 13, 14, 15, 16, 17, 18, 19, 20, 21, 22, 23, 24] (by decide +kernel) (by decide +kernel)
set_option maxRecDepth 20000 in
theorem gX4_layDivisor_X4_divide : GoodIn wsX4_layDivisor (wsV RX4 100 RX4 yX4_divide wsX4_divide) := goodIn_app (goodIn_of _ (by decide +kernel)) ggX4_layDivisor_X4_divide
theorem dX4_layDivisor_0 : decode cX4_layDivisor 0 = .ok (.iconst 0, 1) := by decide +kernel
theorem dX4_layDivisor_1 : decode cX4_layDivisor 1 = .ok (.istore_n 2, 1) := by decide +kernel
theorem dX4_layDivisor_2 : decode cX4_layDivisor 2 = .ok (.iload_n 2, 1) := by decide +kernel
theorem dX4_layDivisor_3 : decode cX4_layDivisor 3 = .ok (.bipush 49, 2) := by decide +kernel
theorem dX4_layDivisor_5 : decode cX4_layDivisor 5 = .ok (.if_icmp .ge 33, 3) := by decide +kernel
theorem dX4_layDivisor_8 : decode cX4_layDivisor 8 = .ok (.aload_n 0, 1) := by decide +kernel
theorem dX4_layDivisor_9 : decode cX4_layDivisor 9 = .ok (.getfield 29, 3) := by decide +kernel
theorem dX4_layDivisor_12 : decode cX4_layDivisor 12 = .ok (.iload_n 2, 1) := by decide +kernel
theorem dX4_layDivisor_13 : decode cX4_layDivisor 13 = .ok (.iload_n 2, 1) := by decide +kernel
theorem dX4_layDivisor_14 : decode cX4_layDivisor 14 = .ok (.iload_n 1, 1) := by decide +kernel
theorem dX4_layDivisor_15 : decode cX4_layDivisor 15 = .ok (.if_icmp .ne 7, 3) := by decide +kernel
theorem dX4_layDivisor_18 : decode cX4_layDivisor 18 = .ok (.iconst 1, 1) := by decide +kernel
theorem dX4_layDivisor_19 : decode cX4_layDivisor 19 = .ok (.goto 12, 3) := by decide +kernel
theorem dX4_layDivisor_22 : decode cX4_layDivisor 22 = .ok (.iload_n 2, 1) := by decide +kernel
theorem dX4_layDivisor_23 : decode cX4_layDivisor 23 = .ok (.ifCond .ne 7, 3) := by decide +kernel
theorem dX4_layDivisor_26 : decode cX4_layDivisor 26 = .ok (.iconst (-1), 1) := by decide +kernel
theorem dX4_layDivisor_27 : decode cX4_layDivisor 27 = .ok (.goto 4, 3) := by decide +kernel
theorem dX4_layDivisor_30 : decode cX4_layDivisor 30 = .ok (.iconst 0, 1) := by decide +kernel
theorem dX4_layDivisor_31 : decode cX4_layDivisor 31 = .ok (.iastore, 1) := by decide +kernel
theorem dX4_layDivisor_32 : decode cX4_layDivisor 32 = .ok (.iinc 2 1, 3) := by decide +kernel
theorem dX4_layDivisor_35 : decode cX4_layDivisor 35 = .ok (.goto (-33), 3) := by decide +kernel
theorem dX4_layDivisor_38 : decode cX4_layDivisor 38 = .ok (.iload_n 1, 1) := by decide +kernel
theorem dX4_layDivisor_39 : decode cX4_layDivisor 39 = .ok (.istore_n 2, 1) := by decide +kernel
theorem dX4_layDivisor_40 : decode cX4_layDivisor 40 = .ok (.iconst 1, 1) := by decide +kernel
theorem dX4_layDivisor_41 : decode cX4_layDivisor 41 = .ok (.istore_n 3, 1) := by decide +kernel
theorem dX4_layDivisor_42 : decode cX4_layDivisor 42 = .ok (.iload_n 3, 1) := by decide +kernel
theorem dX4_layDivisor_43 : decode cX4_layDivisor 43 = .ok (.iload_n 1, 1) := by decide +kernel
theorem dX4_layDivisor_44 : decode cX4_layDivisor 44 = .ok (.if_icmp .ge 22, 3) := by decide +kernel
theorem dX4_layDivisor_47 : decode cX4_layDivisor 47 = .ok (.iload_n 1, 1) := by decide +kernel
theorem dX4_layDivisor_48 : decode cX4_layDivisor 48 = .ok (.iload_n 3, 1) := by decide +kernel
theorem dX4_layDivisor_49 : decode cX4_layDivisor 49 = .ok (.irem, 1) := by decide +kernel
theorem dX4_layDivisor_50 : decode cX4_layDivisor 50 = .ok (.ifCond .ne 10, 3) := by decide +kernel
theorem dX4_layDivisor_53 : decode cX4_layDivisor 53 = .ok (.aload_n 0, 1) := by decide +kernel
theorem dX4_layDivisor_54 : decode cX4_layDivisor 54 = .ok (.iload_n 2, 1) := by decide +kernel
theorem dX4_layDivisor_55 : decode cX4_layDivisor 55 = .ok (.iload_n 3, 1) := by decide +kernel
theorem dX4_layDivisor_56 : decode cX4_layDivisor 56 = .ok (.invokevirtual 100, 3) := by decide +kernel
theorem dX4_layDivisor_59 : decode cX4_layDivisor 59 = .ok (.istore_n 2, 1) := by decide +kernel
theorem dX4_layDivisor_60 : decode cX4_layDivisor 60 = .ok (.iinc 3 1, 3) := by decide +kernel
theorem dX4_layDivisor_63 : decode cX4_layDivisor 63 = .ok (.goto (-21), 3) := by decide +kernel
theorem dX4_layDivisor_66 : decode cX4_layDivisor 66 = .ok (.iconst 0, 1) := by decide +kernel
theorem dX4_layDivisor_67 : decode cX4_layDivisor 67 = .ok (.istore_n 3, 1) := by decide +kernel
theorem dX4_layDivisor_68 : decode cX4_layDivisor 68 = .ok (.iload_n 3, 1) := by decide +kernel
theorem dX4_layDivisor_69 : decode cX4_layDivisor 69 = .ok (.bipush 49, 2) := by decide +kernel
theorem dX4_layDivisor_71 : decode cX4_layDivisor 71 = .ok (.if_icmp .ge 35, 3) := by decide +kernel
theorem dX4_layDivisor_74 : decode cX4_layDivisor 74 = .ok (.aload_n 0, 1) := by decide +kernel
theorem dX4_layDivisor_75 : decode cX4_layDivisor 75 = .ok (.getfield 22, 3) := by decide +kernel
theorem dX4_layDivisor_78 : decode cX4_layDivisor 78 = .ok (.bipush 49, 2) := by decide +kernel
theorem dX4_layDivisor_80 : decode cX4_layDivisor 80 = .ok (.iload_n 1, 1) := by decide +kernel
theorem dX4_layDivisor_81 : decode cX4_layDivisor 81 = .ok (.imul, 1) := by decide +kernel
theorem dX4_layDivisor_82 : decode cX4_layDivisor 82 = .ok (.iload_n 3, 1) := by decide +kernel
theorem dX4_layDivisor_83 : decode cX4_layDivisor 83 = .ok (.iadd, 1) := by decide +kernel
theorem dX4_layDivisor_84 : decode cX4_layDivisor 84 = .ok (.iload_n 3, 1) := by decide +kernel
theorem dX4_layDivisor_85 : decode cX4_layDivisor 85 = .ok (.iload_n 2, 1) := by decide +kernel
theorem dX4_layDivisor_86 : decode cX4_layDivisor 86 = .ok (.if_icmp .gt 12, 3) := by decide +kernel
theorem dX4_layDivisor_89 : decode cX4_layDivisor 89 = .ok (.aload_n 0, 1) := by decide +kernel
theorem dX4_layDivisor_90 : decode cX4_layDivisor 90 = .ok (.getfield 29, 3) := by decide +kernel
theorem dX4_layDivisor_93 : decode cX4_layDivisor 93 = .ok (.iload_n 3, 1) := by decide +kernel
theorem dX4_layDivisor_94 : decode cX4_layDivisor 94 = .ok (.iaload, 1) := by decide +kernel
theorem dX4_layDivisor_95 : decode cX4_layDivisor 95 = .ok (.goto 4, 3) := by decide +kernel
theorem dX4_layDivisor_98 : decode cX4_layDivisor 98 = .ok (.iconst 0, 1) := by decide +kernel
theorem dX4_layDivisor_99 : decode cX4_layDivisor 99 = .ok (.iastore, 1) := by decide +kernel
theorem dX4_layDivisor_100 : decode cX4_layDivisor 100 = .ok (.iinc 3 1, 3) := by decide +kernel
theorem dX4_layDivisor_103 : decode cX4_layDivisor 103 = .ok (.goto (-35), 3) := by decide +kernel
theorem dX4_layDivisor_106 : decode cX4_layDivisor 106 = .ok (.aload_n 0, 1) := by decide +kernel
theorem dX4_layDivisor_107 : decode cX4_layDivisor 107 = .ok (.getfield 26, 3) := by decide +kernel
theorem dX4_layDivisor_110 : decode cX4_layDivisor 110 = .ok (.iload_n 1, 1) := by decide +kernel
theorem dX4_layDivisor_111 : decode cX4_layDivisor 111 = .ok (.iload_n 2, 1) := by decide +kernel
theorem dX4_layDivisor_112 : decode cX4_layDivisor 112 = .ok (.iastore, 1) := by decide +kernel
theorem dX4_layDivisor_113 : decode cX4_layDivisor 113 = .ok (.return_, 1) := by decide +kernel
theorem dX4_divide_0 : decode cX4_divide 0 = .ok (.aload_n 0, 1) := by decide +kernel
theorem dX4_divide_1 : decode cX4_divide 1 = .ok (.getfield 26, 3) := by decide +kernel
theorem dX4_divide_4 : decode cX4_divide 4 = .ok (.iload_n 2, 1) := by decide +kernel
theorem dX4_divide_5 : decode cX4_divide 5 = .ok (.iaload, 1) := by decide +kernel
theorem dX4_divide_6 : decode cX4_divide 6 = .ok (.istore_n 3, 1) := by decide +kernel
theorem dX4_divide_7 : decode cX4_divide 7 = .ok (.iload_n 1, 1) := by decide +kernel
theorem dX4_divide_8 : decode cX4_divide 8 = .ok (.istore 4, 2) := by decide +kernel
theorem dX4_divide_10 : decode cX4_divide 10 = .ok (.iload 4, 2) := by decide +kernel
theorem dX4_divide_12 : decode cX4_divide 12 = .ok (.iload_n 3, 1) := by decide +kernel
theorem dX4_divide_13 : decode cX4_divide 13 = .ok (.if_icmp .lt 63, 3) := by decide +kernel
theorem dX4_divide_16 : decode cX4_divide 16 = .ok (.aload_n 0, 1) := by decide +kernel
theorem dX4_divide_17 : decode cX4_divide 17 = .ok (.getfield 29, 3) := by decide +kernel
theorem dX4_divide_20 : decode cX4_divide 20 = .ok (.iload 4, 2) := by decide +kernel
theorem dX4_divide_22 : decode cX4_divide 22 = .ok (.iaload, 1) := by decide +kernel
theorem dX4_divide_23 : decode cX4_divide 23 = .ok (.istore 5, 2) := by decide +kernel
theorem dX4_divide_25 : decode cX4_divide 25 = .ok (.iconst 0, 1) := by decide +kernel
theorem dX4_divide_26 : decode cX4_divide 26 = .ok (.istore 6, 2) := by decide +kernel
theorem dX4_divide_28 : decode cX4_divide 28 = .ok (.iload 6, 2) := by decide +kernel
theorem dX4_divide_30 : decode cX4_divide 30 = .ok (.iload_n 3, 1) := by decide +kernel
theorem dX4_divide_31 : decode cX4_divide 31 = .ok (.if_icmp .ge 39, 3) := by decide +kernel
theorem dX4_divide_34 : decode cX4_divide 34 = .ok (.aload_n 0, 1) := by decide +kernel
theorem dX4_divide_35 : decode cX4_divide 35 = .ok (.getfield 29, 3) := by decide +kernel
theorem dX4_divide_38 : decode cX4_divide 38 = .ok (.iload 4, 2) := by decide +kernel
theorem dX4_divide_40 : decode cX4_divide 40 = .ok (.iload_n 3, 1) := by decide +kernel
theorem dX4_divide_41 : decode cX4_divide 41 = .ok (.isub, 1) := by decide +kernel
theorem dX4_divide_42 : decode cX4_divide 42 = .ok (.iload 6, 2) := by decide +kernel
theorem dX4_divide_44 : decode cX4_divide 44 = .ok (.iadd, 1) := by decide +kernel
theorem dX4_divide_45 : decode cX4_divide 45 = .ok (.dup2, 1) := by decide +kernel
theorem dX4_divide_46 : decode cX4_divide 46 = .ok (.iaload, 1) := by decide +kernel
theorem dX4_divide_47 : decode cX4_divide 47 = .ok (.iload 5, 2) := by decide +kernel
theorem dX4_divide_49 : decode cX4_divide 49 = .ok (.aload_n 0, 1) := by decide +kernel
theorem dX4_divide_50 : decode cX4_divide 50 = .ok (.getfield 22, 3) := by decide +kernel
theorem dX4_divide_53 : decode cX4_divide 53 = .ok (.bipush 49, 2) := by decide +kernel
theorem dX4_divide_55 : decode cX4_divide 55 = .ok (.iload_n 2, 1) := by decide +kernel
theorem dX4_divide_56 : decode cX4_divide 56 = .ok (.imul, 1) := by decide +kernel
theorem dX4_divide_57 : decode cX4_divide 57 = .ok (.iload 6, 2) := by decide +kernel
theorem dX4_divide_59 : decode cX4_divide 59 = .ok (.iadd, 1) := by decide +kernel
theorem dX4_divide_60 : decode cX4_divide 60 = .ok (.iaload, 1) := by decide +kernel
theorem dX4_divide_61 : decode cX4_divide 61 = .ok (.imul, 1) := by decide +kernel
theorem dX4_divide_62 : decode cX4_divide 62 = .ok (.isub, 1) := by decide +kernel
theorem dX4_divide_63 : decode cX4_divide 63 = .ok (.iastore, 1) := by decide +kernel
theorem dX4_divide_64 : decode cX4_divide 64 = .ok (.iinc 6 1, 3) := by decide +kernel
theorem dX4_divide_67 : decode cX4_divide 67 = .ok (.goto (-39), 3) := by decide +kernel
theorem dX4_divide_70 : decode cX4_divide 70 = .ok (.iinc 4 (-1), 3) := by decide +kernel
theorem dX4_divide_73 : decode cX4_divide 73 = .ok (.goto (-63), 3) := by decide +kernel
theorem dX4_divide_76 : decode cX4_divide 76 = .ok (.iconst 0, 1) := by decide +kernel
theorem dX4_divide_77 : decode cX4_divide 77 = .ok (.istore 4, 2) := by decide +kernel
theorem dX4_divide_79 : decode cX4_divide 79 = .ok (.iload 4, 2) := by decide +kernel
theorem dX4_divide_81 : decode cX4_divide 81 = .ok (.bipush 49, 2) := by decide +kernel
theorem dX4_divide_83 : decode cX4_divide 83 = .ok (.if_icmp .ge 37, 3) := by decide +kernel
theorem dX4_divide_86 : decode cX4_divide 86 = .ok (.aload_n 0, 1) := by decide +kernel
theorem dX4_divide_87 : decode cX4_divide 87 = .ok (.getfield 29, 3) := by decide +kernel
theorem dX4_divide_90 : decode cX4_divide 90 = .ok (.iload 4, 2) := by decide +kernel
theorem dX4_divide_92 : decode cX4_divide 92 = .ok (.iload 4, 2) := by decide +kernel
theorem dX4_divide_94 : decode cX4_divide 94 = .ok (.iload_n 1, 1) := by decide +kernel
theorem dX4_divide_95 : decode cX4_divide 95 = .ok (.iload_n 3, 1) := by decide +kernel
theorem dX4_divide_96 : decode cX4_divide 96 = .ok (.isub, 1) := by decide +kernel
theorem dX4_divide_97 : decode cX4_divide 97 = .ok (.if_icmp .gt 15, 3) := by decide +kernel
theorem dX4_divide_100 : decode cX4_divide 100 = .ok (.aload_n 0, 1) := by decide +kernel
theorem dX4_divide_101 : decode cX4_divide 101 = .ok (.getfield 29, 3) := by decide +kernel
theorem dX4_divide_104 : decode cX4_divide 104 = .ok (.iload 4, 2) := by decide +kernel
theorem dX4_divide_106 : decode cX4_divide 106 = .ok (.iload_n 3, 1) := by decide +kernel
theorem dX4_divide_107 : decode cX4_divide 107 = .ok (.iadd, 1) := by decide +kernel
theorem dX4_divide_108 : decode cX4_divide 108 = .ok (.iaload, 1) := by decide +kernel
theorem dX4_divide_109 : decode cX4_divide 109 = .ok (.goto 4, 3) := by decide +kernel
theorem dX4_divide_112 : decode cX4_divide 112 = .ok (.iconst 0, 1) := by decide +kernel
theorem dX4_divide_113 : decode cX4_divide 113 = .ok (.iastore, 1) := by decide +kernel
theorem dX4_divide_114 : decode cX4_divide 114 = .ok (.iinc 4 1, 3) := by decide +kernel
theorem dX4_divide_117 : decode cX4_divide 117 = .ok (.goto (-38), 3) := by decide +kernel
theorem dX4_divide_120 : decode cX4_divide 120 = .ok (.iload_n 1, 1) := by decide +kernel
theorem dX4_divide_121 : decode cX4_divide 121 = .ok (.iload_n 3, 1) := by decide +kernel
theorem dX4_divide_122 : decode cX4_divide 122 = .ok (.isub, 1) := by decide +kernel
theorem dX4_divide_123 : decode cX4_divide 123 = .ok (.ireturn, 1) := by decide +kernel
set_option maxRecDepth 20000 in
theorem ggX4_own_X4_layOwn : GoodIn wsX4_own wsX4_layOwn := goodIn_r _ [7, 8, 9, 10, 6, 11, 12, 13, 14, 15, 16, 17, 18, 19, 20, 21, 22, 23, 24, 25, 2, 1, 26, 27, 28, 29, 33, 34, 35, 36, 37, 38, 39, 40, 41, 42, 43, 44, 45, 46, 47, 48] (by decide +kernel) (by decide +kernel)
set_option maxRecDepth 20000 in
theorem gX4_own_X4_layOwn : GoodIn wsX4_own (wsV RX4 103 RX4 yX4_layOwn wsX4_layOwn) := goodIn_app (goodIn_of _ (by decide +kernel)) ggX4_own_X4_layOwn
set_option maxRecDepth 20000 in
theorem ggX4_own_X4_star : GoodIn wsX4_own wsX4_star := goodIn_r _ [11, 12, 13, 14, 15, 6, 16, 17, 18, 19, 20, 33, 34, 35, 36, 37, 38, 39, 40, 41, 42, 43, 44, 45, 46, 47, 48] (by decide +kernel) (by decide +kernel)
set_option maxRecDepth 20000 in
theorem gX4_own_X4_star : GoodIn wsX4_own (wsV RX4 56 RX4 yX4_star wsX4_star) := goodIn_app (goodIn_of _ (by decide +kernel)) ggX4_own_X4_star
set_option maxRecDepth 20000 in
theorem ggX4_own_X4_in : GoodIn wsX4_own wsX4_in := goodIn_r _ [32] (by decide +kernel) (by decide +kernel)
set_option maxRecDepth 20000 in
theorem gX4_own_X4_in : GoodIn wsX4_own (va_wsS RX4 59 yX4_in wsX4_in) := goodIn_app (goodIn_of _ (by decide +kernel)) ggX4_own_X4_in
theorem dX4_own_0 : decode cX4_own 0 = .ok (.aload_n 0, 1) := by decide +kernel
theorem dX4_own_1 : decode cX4_own 1 = .ok (.invokevirtual 103, 3) := by decide +kernel
theorem dX4_own_4 : decode cX4_own 4 = .ok (.aload_n 0, 1) := by decide +kernel
theorem dX4_own_5 : decode cX4_own 5 = .ok (.invokevirtual 56, 3) := by decide +kernel
theorem dX4_own_8 : decode cX4_own 8 = .ok (.istore_n 2, 1) := by decide +kernel
theorem dX4_own_9 : decode cX4_own 9 = .ok (.iload_n 1, 1) := by decide +kernel
theorem dX4_own_10 : decode cX4_own 10 = .ok (.iconst (-1), 1) := by decide +kernel
theorem dX4_own_11 : decode cX4_own 11 = .ok (.if_icmp .ne 12, 3) := by decide +kernel
theorem dX4_own_14 : decode cX4_own 14 = .ok (.aload_n 0, 1) := by decide +kernel
theorem dX4_own_15 : decode cX4_own 15 = .ok (.getfield 26, 3) := by decide +kernel
theorem dX4_own_18 : decode cX4_own 18 = .ok (.iload_n 2, 1) := by decide +kernel
theorem dX4_own_19 : decode cX4_own 19 = .ok (.iaload, 1) := by decide +kernel
theorem dX4_own_20 : decode cX4_own 20 = .ok (.goto 33, 3) := by decide +kernel
theorem dX4_own_23 : decode cX4_own 23 = .ok (.iload_n 1, 1) := by decide +kernel
theorem dX4_own_24 : decode cX4_own 24 = .ok (.iconst 0, 1) := by decide +kernel
theorem dX4_own_25 : decode cX4_own 25 = .ok (.aload_n 0, 1) := by decide +kernel
theorem dX4_own_26 : decode cX4_own 26 = .ok (.getfield 26, 3) := by decide +kernel
theorem dX4_own_29 : decode cX4_own 29 = .ok (.iload_n 2, 1) := by decide +kernel
theorem dX4_own_30 : decode cX4_own 30 = .ok (.iaload, 1) := by decide +kernel
theorem dX4_own_31 : decode cX4_own 31 = .ok (.invokestatic 59, 3) := by decide +kernel
theorem dX4_own_34 : decode cX4_own 34 = .ok (.ifCond .eq 17, 3) := by decide +kernel
theorem dX4_own_37 : decode cX4_own 37 = .ok (.aload_n 0, 1) := by decide +kernel
theorem dX4_own_38 : decode cX4_own 38 = .ok (.getfield 22, 3) := by decide +kernel
theorem dX4_own_41 : decode cX4_own 41 = .ok (.bipush 49, 2) := by decide +kernel
theorem dX4_own_43 : decode cX4_own 43 = .ok (.iload_n 2, 1) := by decide +kernel
theorem dX4_own_44 : decode cX4_own 44 = .ok (.imul, 1) := by decide +kernel
theorem dX4_own_45 : decode cX4_own 45 = .ok (.iload_n 1, 1) := by decide +kernel
theorem dX4_own_46 : decode cX4_own 46 = .ok (.iadd, 1) := by decide +kernel
theorem dX4_own_47 : decode cX4_own 47 = .ok (.iaload, 1) := by decide +kernel
theorem dX4_own_48 : decode cX4_own 48 = .ok (.goto 5, 3) := by decide +kernel
theorem dX4_own_51 : decode cX4_own 51 = .ok (.bipush (-6), 2) := by decide +kernel
theorem dX4_own_53 : decode cX4_own 53 = .ok (.ireturn, 1) := by decide +kernel
set_option maxRecDepth 20000 in
theorem ggX4_leaveOver_X4_star : GoodIn wsX4_leaveOver wsX4_star := goodIn_r _ [8, 9, 10, 11, 12, 7, 13, 14, 15, 16, 17, 18, 19, 20, 21, 22, 23, 24, 25, 26, 27, 28, 29, 30, 31, 32, 33] (by decide +kernel) (by decide +kernel)
set_option maxRecDepth 20000 in
theorem gX4_leaveOver_X4_star : GoodIn wsX4_leaveOver (wsV RX4 56 RX4 yX4_star wsX4_star) := goodIn_app (goodIn_of _ (by decide +kernel)) ggX4_leaveOver_X4_star
theorem dX4_leaveOver_0 : decode cX4_leaveOver 0 = .ok (.aload_n 0, 1) := by decide +kernel
theorem dX4_leaveOver_1 : decode cX4_leaveOver 1 = .ok (.invokevirtual 56, 3) := by decide +kernel
theorem dX4_leaveOver_4 : decode cX4_leaveOver 4 = .ok (.istore_n 2, 1) := by decide +kernel
theorem dX4_leaveOver_5 : decode cX4_leaveOver 5 = .ok (.aload_n 0, 1) := by decide +kernel
theorem dX4_leaveOver_6 : decode cX4_leaveOver 6 = .ok (.getfield 26, 3) := by decide +kernel
theorem dX4_leaveOver_9 : decode cX4_leaveOver 9 = .ok (.iload_n 2, 1) := by decide +kernel
theorem dX4_leaveOver_10 : decode cX4_leaveOver 10 = .ok (.iaload, 1) := by decide +kernel
theorem dX4_leaveOver_11 : decode cX4_leaveOver 11 = .ok (.istore_n 3, 1) := by decide +kernel
theorem dX4_leaveOver_12 : decode cX4_leaveOver 12 = .ok (.iload_n 2, 1) := by decide +kernel
theorem dX4_leaveOver_13 : decode cX4_leaveOver 13 = .ok (.iconst 1, 1) := by decide +kernel
theorem dX4_leaveOver_14 : decode cX4_leaveOver 14 = .ok (.isub, 1) := by decide +kernel
theorem dX4_leaveOver_15 : decode cX4_leaveOver 15 = .ok (.istore 4, 2) := by decide +kernel
theorem dX4_leaveOver_17 : decode cX4_leaveOver 17 = .ok (.iload 4, 2) := by decide +kernel
theorem dX4_leaveOver_19 : decode cX4_leaveOver 19 = .ok (.iload_n 3, 1) := by decide +kernel
theorem dX4_leaveOver_20 : decode cX4_leaveOver 20 = .ok (.if_icmp .lt 73, 3) := by decide +kernel
theorem dX4_leaveOver_23 : decode cX4_leaveOver 23 = .ok (.aload_n 0, 1) := by decide +kernel
theorem dX4_leaveOver_24 : decode cX4_leaveOver 24 = .ok (.getfield 32, 3) := by decide +kernel
theorem dX4_leaveOver_27 : decode cX4_leaveOver 27 = .ok (.bipush 49, 2) := by decide +kernel
theorem dX4_leaveOver_29 : decode cX4_leaveOver 29 = .ok (.iload_n 1, 1) := by decide +kernel
theorem dX4_leaveOver_30 : decode cX4_leaveOver 30 = .ok (.imul, 1) := by decide +kernel
theorem dX4_leaveOver_31 : decode cX4_leaveOver 31 = .ok (.iload 4, 2) := by decide +kernel
theorem dX4_leaveOver_33 : decode cX4_leaveOver 33 = .ok (.iadd, 1) := by decide +kernel
theorem dX4_leaveOver_34 : decode cX4_leaveOver 34 = .ok (.iaload, 1) := by decide +kernel
theorem dX4_leaveOver_35 : decode cX4_leaveOver 35 = .ok (.istore 5, 2) := by decide +kernel
theorem dX4_leaveOver_37 : decode cX4_leaveOver 37 = .ok (.iconst 0, 1) := by decide +kernel
theorem dX4_leaveOver_38 : decode cX4_leaveOver 38 = .ok (.istore 6, 2) := by decide +kernel
theorem dX4_leaveOver_40 : decode cX4_leaveOver 40 = .ok (.iload 6, 2) := by decide +kernel
theorem dX4_leaveOver_42 : decode cX4_leaveOver 42 = .ok (.iload_n 3, 1) := by decide +kernel
theorem dX4_leaveOver_43 : decode cX4_leaveOver 43 = .ok (.if_icmp .gt 44, 3) := by decide +kernel
theorem dX4_leaveOver_46 : decode cX4_leaveOver 46 = .ok (.aload_n 0, 1) := by decide +kernel
theorem dX4_leaveOver_47 : decode cX4_leaveOver 47 = .ok (.getfield 32, 3) := by decide +kernel
theorem dX4_leaveOver_50 : decode cX4_leaveOver 50 = .ok (.bipush 49, 2) := by decide +kernel
theorem dX4_leaveOver_52 : decode cX4_leaveOver 52 = .ok (.iload_n 1, 1) := by decide +kernel
theorem dX4_leaveOver_53 : decode cX4_leaveOver 53 = .ok (.imul, 1) := by decide +kernel
theorem dX4_leaveOver_54 : decode cX4_leaveOver 54 = .ok (.iload 4, 2) := by decide +kernel
theorem dX4_leaveOver_56 : decode cX4_leaveOver 56 = .ok (.iadd, 1) := by decide +kernel
theorem dX4_leaveOver_57 : decode cX4_leaveOver 57 = .ok (.iload_n 3, 1) := by decide +kernel
theorem dX4_leaveOver_58 : decode cX4_leaveOver 58 = .ok (.isub, 1) := by decide +kernel
theorem dX4_leaveOver_59 : decode cX4_leaveOver 59 = .ok (.iload 6, 2) := by decide +kernel
theorem dX4_leaveOver_61 : decode cX4_leaveOver 61 = .ok (.iadd, 1) := by decide +kernel
theorem dX4_leaveOver_62 : decode cX4_leaveOver 62 = .ok (.dup2, 1) := by decide +kernel
theorem dX4_leaveOver_63 : decode cX4_leaveOver 63 = .ok (.iaload, 1) := by decide +kernel
theorem dX4_leaveOver_64 : decode cX4_leaveOver 64 = .ok (.iload 5, 2) := by decide +kernel
theorem dX4_leaveOver_66 : decode cX4_leaveOver 66 = .ok (.aload_n 0, 1) := by decide +kernel
theorem dX4_leaveOver_67 : decode cX4_leaveOver 67 = .ok (.getfield 22, 3) := by decide +kernel
theorem dX4_leaveOver_70 : decode cX4_leaveOver 70 = .ok (.bipush 49, 2) := by decide +kernel
theorem dX4_leaveOver_72 : decode cX4_leaveOver 72 = .ok (.iload_n 2, 1) := by decide +kernel
theorem dX4_leaveOver_73 : decode cX4_leaveOver 73 = .ok (.imul, 1) := by decide +kernel
theorem dX4_leaveOver_74 : decode cX4_leaveOver 74 = .ok (.iload 6, 2) := by decide +kernel
theorem dX4_leaveOver_76 : decode cX4_leaveOver 76 = .ok (.iadd, 1) := by decide +kernel
theorem dX4_leaveOver_77 : decode cX4_leaveOver 77 = .ok (.iaload, 1) := by decide +kernel
theorem dX4_leaveOver_78 : decode cX4_leaveOver 78 = .ok (.imul, 1) := by decide +kernel
theorem dX4_leaveOver_79 : decode cX4_leaveOver 79 = .ok (.isub, 1) := by decide +kernel
theorem dX4_leaveOver_80 : decode cX4_leaveOver 80 = .ok (.iastore, 1) := by decide +kernel
theorem dX4_leaveOver_81 : decode cX4_leaveOver 81 = .ok (.iinc 6 1, 3) := by decide +kernel
theorem dX4_leaveOver_84 : decode cX4_leaveOver 84 = .ok (.goto (-44), 3) := by decide +kernel
theorem dX4_leaveOver_87 : decode cX4_leaveOver 87 = .ok (.iinc 4 (-1), 3) := by decide +kernel
theorem dX4_leaveOver_90 : decode cX4_leaveOver 90 = .ok (.goto (-73), 3) := by decide +kernel
theorem dX4_leaveOver_93 : decode cX4_leaveOver 93 = .ok (.return_, 1) := by decide +kernel
set_option maxRecDepth 20000 in
theorem ggX4_laySum_X4_star : GoodIn wsX4_laySum wsX4_star := goodIn_r _ [7, 2, 8, 9, 10, 6, 11, 12, 13, 14, 15, 52, 53, 54, 55, 56, 57, 58, 59, 60, 61, 62, 63, 64, 65, 66, 67] (by decide +kernel) (by decide +kernel)
set_option maxRecDepth 20000 in
theorem gX4_laySum_X4_star : GoodIn wsX4_laySum (wsV RX4 56 RX4 yX4_star wsX4_star) := goodIn_app (goodIn_of _ (by decide +kernel)) ggX4_laySum_X4_star
set_option maxRecDepth 20000 in
theorem ggX4_laySum_X4_layOwn : GoodIn wsX4_laySum wsX4_layOwn := goodIn_r _ [19, 3, 4, 5, 6, 7, 2, 8, 9, 10, 11, 12, 13, 14, 15, 20, 21, 22, 23, 24, 25, 26, 27, 28, 29, 30, 52, 53, 54, 55, 56, 57, 58, 59, 60, 61, 62, 63, 64, 65, 66, 67] (by decide +kernel) (by decide +kernel)
set_option maxRecDepth 20000 in
theorem gX4_laySum_X4_layOwn : GoodIn wsX4_laySum (wsV RX4 103 RX4 yX4_layOwn wsX4_layOwn) := goodIn_app (goodIn_of _ (by decide +kernel)) ggX4_laySum_X4_layOwn
set_option maxRecDepth 20000 in
theorem ggX4_laySum_X4_phaseOf : GoodIn wsX4_laySum wsX4_phaseOf := goodIn_r _ [34, 35, 36, 37, 38, 6, 39, 40, 41, 42, 43, 12, 2, 8, 9, 10, 11, 13, 14, 15, 3, 4, 5, 7, 52, 53, 54, 55, 56, 57, 58, 59, 60, 61, 62, 63, 64, 65, 66, 67] (by decide +kernel) (by decide +kernel)
set_option maxRecDepth 20000 in
theorem gX4_laySum_X4_phaseOf : GoodIn wsX4_laySum (wsV RX4 84 RX4 yX4_phaseOf wsX4_phaseOf) := goodIn_app (goodIn_of _ (by decide +kernel)) ggX4_laySum_X4_phaseOf
set_option maxRecDepth 20000 in
theorem ggX4_laySum_X4_isForward : GoodIn wsX4_laySum wsX4_isForward := goodIn_r _ [47, 36, 37, 38, 6, 39, 35, 40, 41, 42, 43, 12, 2, 8, 9, 10, 11, 13, 14, 15, 3, 4, 5, 7, 52, 53, 54, 55, 56, 57, 58, 59, 60, 61, 62, 63, 64, 65, 66, 67] (by decide +kernel) (by decide +kernel)
set_option maxRecDepth 20000 in
theorem gX4_laySum_X4_isForward : GoodIn wsX4_laySum (wsV RX4 87 RX4 yX4_isForward wsX4_isForward) := goodIn_app (goodIn_of _ (by decide +kernel)) ggX4_laySum_X4_isForward
set_option maxRecDepth 20000 in
theorem ggX4_laySum_X4_turn : GoodIn wsX4_laySum wsX4_turn := goodIn_r _ [43, 12, 2, 8, 9, 10, 6, 11, 13, 14, 15, 52, 53, 54, 55, 56, 57, 58, 59, 60, 61, 62, 63, 64, 65, 66, 67] (by decide +kernel) (by decide +kernel)
set_option maxRecDepth 20000 in
theorem gX4_laySum_X4_turn : GoodIn wsX4_laySum (wsV RX4 69 RX4 yX4_turn wsX4_turn) := goodIn_app (goodIn_of _ (by decide +kernel)) ggX4_laySum_X4_turn
