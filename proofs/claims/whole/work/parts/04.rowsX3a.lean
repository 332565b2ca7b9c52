set_option maxRecDepth 20000 in
theorem ggX3_init_X1_init : GoodIn wsX3_init wsX1_init := goodIn_r _ [21, 22, 2, 3] (by decide +kernel) (by decide +kernel)
set_option maxRecDepth 20000 in
theorem gX3_init_X1_init_n9 : GoodIn wsX3_init (wsX1_init) := ggX3_init_X1_init
set_option maxRecDepth 20000 in
theorem ggX3_init_X2_init : GoodIn wsX3_init wsX2_init := goodIn_r _ [24, 25, 2, 3, 16, 26, 103, 104, 105] (by decide +kernel) (by decide +kernel)
set_option maxRecDepth 20000 in
theorem gX3_init_X2_init_n18 : GoodIn wsX3_init (wsX2_init) := ggX3_init_X2_init
set_option maxRecDepth 20000 in
theorem ggX3_init_X0_init : GoodIn wsX3_init wsX0_init := goodIn_r _ [28, 29, 2, 3, 16, 30, 31, 106, 107, 108, 109, 110, 111] (by decide +kernel) (by decide +kernel)
set_option maxRecDepth 20000 in
theorem gX3_init_X0_init_n25 : GoodIn wsX3_init (wsX0_init) := ggX3_init_X0_init
set_option maxRecDepth 20000 in
theorem ggX3_init_X3_take : GoodIn wsX3_init wsX3_take := goodIn_r _ [36, 7, 11, 37, 38, 39, 40, 6, 41, 42, 43, 44, 45, 46, 47, 48, 35, 49, 50, 51, 52, 53, 54, 55, 56, 57, 58, 59, 60, 61, 10, 62, 63, 26, 64, 65, 66, 67, 68, 69, 70, 71, 72, 73, 74, 75, 76, 77, 78, 79, 80, 81, 82, 83, 84, 85, 86, 87, 88, 89, 90, 97, 98, 99, 100, 101, 102, 91, 92, 93, 94, 95, 96, 103, 104, 105] (by decide +kernel) (by decide +kernel)
set_option maxRecDepth 20000 in
theorem gX3_init_X3_take : GoodIn wsX3_init (wsV RX3 40 RX3 yX3_take wsX3_take) := goodIn_app (goodIn_of _ (by decide +kernel)) ggX3_init_X3_take
theorem dX3_init_0 : decode cX3_init 0 = .ok (.aload_n 0, 1) := by decide +kernel
theorem dX3_init_1 : decode cX3_init 1 = .ok (.invokespecial 1, 3) := by decide +kernel
theorem dX3_init_4 : decode cX3_init 4 = .ok (.aload_n 0, 1) := by decide +kernel
theorem dX3_init_5 : decode cX3_init 5 = .ok (.new 7, 3) := by decide +kernel
theorem dX3_init_8 : decode cX3_init 8 = .ok (.dup, 1) := by decide +kernel
theorem dX3_init_9 : decode cX3_init 9 = .ok (.invokespecial 9, 3) := by decide +kernel
theorem dX3_init_12 : decode cX3_init 12 = .ok (.putfield 10, 3) := by decide +kernel
theorem dX3_init_15 : decode cX3_init 15 = .ok (.aload_n 0, 1) := by decide +kernel
theorem dX3_init_16 : decode cX3_init 16 = .ok (.new 16, 3) := by decide +kernel
theorem dX3_init_19 : decode cX3_init 19 = .ok (.dup, 1) := by decide +kernel
theorem dX3_init_20 : decode cX3_init 20 = .ok (.invokespecial 18, 3) := by decide +kernel
theorem dX3_init_23 : decode cX3_init 23 = .ok (.putfield 19, 3) := by decide +kernel
theorem dX3_init_26 : decode cX3_init 26 = .ok (.aload_n 0, 1) := by decide +kernel
theorem dX3_init_27 : decode cX3_init 27 = .ok (.new 23, 3) := by decide +kernel
theorem dX3_init_30 : decode cX3_init 30 = .ok (.dup, 1) := by decide +kernel
theorem dX3_init_31 : decode cX3_init 31 = .ok (.invokespecial 25, 3) := by decide +kernel
theorem dX3_init_34 : decode cX3_init 34 = .ok (.putfield 26, 3) := by decide +kernel
theorem dX3_init_37 : decode cX3_init 37 = .ok (.aload_n 0, 1) := by decide +kernel
theorem dX3_init_38 : decode cX3_init 38 = .ok (.bipush 48, 2) := by decide +kernel
theorem dX3_init_40 : decode cX3_init 40 = .ok (.newarray .int, 2) := by decide +kernel
theorem dX3_init_42 : decode cX3_init 42 = .ok (.putfield 30, 3) := by decide +kernel
theorem dX3_init_45 : decode cX3_init 45 = .ok (.aload_n 0, 1) := by decide +kernel
theorem dX3_init_46 : decode cX3_init 46 = .ok (.bipush 48, 2) := by decide +kernel
theorem dX3_init_48 : decode cX3_init 48 = .ok (.newarray .int, 2) := by decide +kernel
theorem dX3_init_50 : decode cX3_init 50 = .ok (.putfield 34, 3) := by decide +kernel
theorem dX3_init_53 : decode cX3_init 53 = .ok (.aload_n 0, 1) := by decide +kernel
theorem dX3_init_54 : decode cX3_init 54 = .ok (.bipush 8, 2) := by decide +kernel
theorem dX3_init_56 : decode cX3_init 56 = .ok (.newarray .int, 2) := by decide +kernel
theorem dX3_init_58 : decode cX3_init 58 = .ok (.putfield 37, 3) := by decide +kernel
theorem dX3_init_61 : decode cX3_init 61 = .ok (.aload_n 0, 1) := by decide +kernel
theorem dX3_init_62 : decode cX3_init 62 = .ok (.bipush 12, 2) := by decide +kernel
theorem dX3_init_64 : decode cX3_init 64 = .ok (.iconst 1, 1) := by decide +kernel
theorem dX3_init_65 : decode cX3_init 65 = .ok (.iconst 3, 1) := by decide +kernel
theorem dX3_init_66 : decode cX3_init 66 = .ok (.iconst 5, 1) := by decide +kernel
theorem dX3_init_67 : decode cX3_init 67 = .ok (.invokevirtual 40, 3) := by decide +kernel
theorem dX3_init_70 : decode cX3_init 70 = .ok (.return_, 1) := by decide +kernel
set_option maxRecDepth 20000 in
theorem ggX3_machine_X3_isWithin : GoodIn wsX3_machine wsX3_isWithin := goodIn_r _ [6] (by decide +kernel) (by decide +kernel)
set_option maxRecDepth 20000 in
theorem gX3_machine_X3_isWithin : GoodIn wsX3_machine (va_wsS RX3 44 yX3_isWithin wsX3_isWithin) := goodIn_app (goodIn_of _ (by decide +kernel)) ggX3_machine_X3_isWithin
set_option maxRecDepth 20000 in
theorem ggX3_machine_X3_poleWidth : GoodIn wsX3_machine wsX3_poleWidth := goodIn_r _ [9, 10, 11, 12, 13, 14, 15, 5, 16] (by decide +kernel) (by decide +kernel)
set_option maxRecDepth 20000 in
theorem gX3_machine_X3_poleWidth : GoodIn wsX3_machine (va_wsS RX3 48 yX3_poleWidth wsX3_poleWidth) := goodIn_app (goodIn_of _ (by decide +kernel)) ggX3_machine_X3_poleWidth
set_option maxRecDepth 20000 in
theorem ggX3_machine_X3_take : GoodIn wsX3_machine wsX3_take := goodIn_r _ [20, 1, 21, 2, 22, 23, 24, 25, 26, 27, 28, 29, 30, 31, 32, 33, 5, 34, 35, 36, 12, 37, 38, 39, 40, 15, 16, 41, 42, 43, 44, 45, 46, 47, 48, 49, 50, 51, 52, 53, 54, 3, 4, 6, 55, 56, 57, 58, 59, 60, 61, 62, 63, 64, 65, 66, 67, 68, 69, 70, 71, 72, 73, 74, 75, 76, 77, 78, 79, 80, 81, 82, 83, 84, 85, 86] (by decide +kernel) (by decide +kernel)
set_option maxRecDepth 20000 in
theorem gX3_machine_X3_take : GoodIn wsX3_machine (wsV RX3 40 RX3 yX3_take wsX3_take) := goodIn_app (goodIn_of _ (by decide +kernel)) ggX3_machine_X3_take
theorem dX3_machine_0 : decode cX3_machine 0 = .ok (.iload_n 1, 1) := by decide +kernel
theorem dX3_machine_1 : decode cX3_machine 1 = .ok (.iconst 3, 1) := by decide +kernel
theorem dX3_machine_2 : decode cX3_machine 2 = .ok (.bipush 48, 2) := by decide +kernel
theorem dX3_machine_4 : decode cX3_machine 4 = .ok (.invokestatic 44, 3) := by decide +kernel
theorem dX3_machine_7 : decode cX3_machine 7 = .ok (.ifCond .eq 23, 3) := by decide +kernel
theorem dX3_machine_10 : decode cX3_machine 10 = .ok (.iload_n 2, 1) := by decide +kernel
theorem dX3_machine_11 : decode cX3_machine 11 = .ok (.iconst 1, 1) := by decide +kernel
theorem dX3_machine_12 : decode cX3_machine 12 = .ok (.bipush 10, 2) := by decide +kernel
theorem dX3_machine_14 : decode cX3_machine 14 = .ok (.invokestatic 44, 3) := by decide +kernel
theorem dX3_machine_17 : decode cX3_machine 17 = .ok (.ifCond .eq 13, 3) := by decide +kernel
theorem dX3_machine_20 : decode cX3_machine 20 = .ok (.iload_n 3, 1) := by decide +kernel
theorem dX3_machine_21 : decode cX3_machine 21 = .ok (.iconst 3, 1) := by decide +kernel
theorem dX3_machine_22 : decode cX3_machine 22 = .ok (.if_icmp .eq 11, 3) := by decide +kernel
theorem dX3_machine_25 : decode cX3_machine 25 = .ok (.iload_n 3, 1) := by decide +kernel
theorem dX3_machine_26 : decode cX3_machine 26 = .ok (.iconst 5, 1) := by decide +kernel
theorem dX3_machine_27 : decode cX3_machine 27 = .ok (.if_icmp .eq 6, 3) := by decide +kernel
theorem dX3_machine_30 : decode cX3_machine 30 = .ok (.bipush (-2), 2) := by decide +kernel
theorem dX3_machine_32 : decode cX3_machine 32 = .ok (.ireturn, 1) := by decide +kernel
theorem dX3_machine_33 : decode cX3_machine 33 = .ok (.aload_n 0, 1) := by decide +kernel
theorem dX3_machine_34 : decode cX3_machine 34 = .ok (.iload_n 1, 1) := by decide +kernel
theorem dX3_machine_35 : decode cX3_machine 35 = .ok (.iload_n 2, 1) := by decide +kernel
theorem dX3_machine_36 : decode cX3_machine 36 = .ok (.iload_n 3, 1) := by decide +kernel
theorem dX3_machine_37 : decode cX3_machine 37 = .ok (.iload_n 1, 1) := by decide +kernel
theorem dX3_machine_38 : decode cX3_machine 38 = .ok (.iload_n 2, 1) := by decide +kernel
theorem dX3_machine_39 : decode cX3_machine 39 = .ok (.invokestatic 48, 3) := by decide +kernel
theorem dX3_machine_42 : decode cX3_machine 42 = .ok (.invokevirtual 40, 3) := by decide +kernel
theorem dX3_machine_45 : decode cX3_machine 45 = .ok (.aload_n 0, 1) := by decide +kernel
theorem dX3_machine_46 : decode cX3_machine 46 = .ok (.getfield 10, 3) := by decide +kernel
theorem dX3_machine_49 : decode cX3_machine 49 = .ok (.getfield 52, 3) := by decide +kernel
theorem dX3_machine_52 : decode cX3_machine 52 = .ok (.ireturn, 1) := by decide +kernel
set_option maxRecDepth 20000 in
theorem ggX3_width_X3_isWithin : GoodIn wsX3_width wsX3_isWithin := goodIn_r _ [7] (by decide +kernel) (by decide +kernel)
set_option maxRecDepth 20000 in
theorem gX3_width_X3_isWithin : GoodIn wsX3_width (va_wsS RX3 44 yX3_isWithin wsX3_isWithin) := goodIn_app (goodIn_of _ (by decide +kernel)) ggX3_width_X3_isWithin
theorem dX3_width_0 : decode cX3_width 0 = .ok (.iload_n 1, 1) := by decide +kernel
theorem dX3_width_1 : decode cX3_width 1 = .ok (.iconst 1, 1) := by decide +kernel
theorem dX3_width_2 : decode cX3_width 2 = .ok (.aload_n 0, 1) := by decide +kernel
theorem dX3_width_3 : decode cX3_width 3 = .ok (.getfield 10, 3) := by decide +kernel
theorem dX3_width_6 : decode cX3_width 6 = .ok (.getfield 56, 3) := by decide +kernel
theorem dX3_width_9 : decode cX3_width 9 = .ok (.iconst 1, 1) := by decide +kernel
theorem dX3_width_10 : decode cX3_width 10 = .ok (.isub, 1) := by decide +kernel
theorem dX3_width_11 : decode cX3_width 11 = .ok (.invokestatic 44, 3) := by decide +kernel
theorem dX3_width_14 : decode cX3_width 14 = .ok (.ifCond .ne 6, 3) := by decide +kernel
theorem dX3_width_17 : decode cX3_width 17 = .ok (.bipush (-2), 2) := by decide +kernel
theorem dX3_width_19 : decode cX3_width 19 = .ok (.ireturn, 1) := by decide +kernel
theorem dX3_width_20 : decode cX3_width 20 = .ok (.aload_n 0, 1) := by decide +kernel
theorem dX3_width_21 : decode cX3_width 21 = .ok (.getfield 10, 3) := by decide +kernel
theorem dX3_width_24 : decode cX3_width 24 = .ok (.getfield 59, 3) := by decide +kernel
theorem dX3_width_27 : decode cX3_width 27 = .ok (.istore_n 2, 1) := by decide +kernel
theorem dX3_width_28 : decode cX3_width 28 = .ok (.aload_n 0, 1) := by decide +kernel
theorem dX3_width_29 : decode cX3_width 29 = .ok (.getfield 10, 3) := by decide +kernel
theorem dX3_width_32 : decode cX3_width 32 = .ok (.iload_n 1, 1) := by decide +kernel
theorem dX3_width_33 : decode cX3_width 33 = .ok (.putfield 59, 3) := by decide +kernel
theorem dX3_width_36 : decode cX3_width 36 = .ok (.iload_n 2, 1) := by decide +kernel
theorem dX3_width_37 : decode cX3_width 37 = .ok (.ireturn, 1) := by decide +kernel
set_option maxRecDepth 20000 in
theorem ggX3_lacking_X1_lackingDivisor : GoodIn wsX3_lacking wsX1_lackingDivisor := goodIn_r _ [6, 7, 8, 9, 10, 11, 12, 13, 14, 15, 16, 17, 18, 19, 20, 27, 28, 29, 30, 31, 32] (by decide +kernel) (by decide +kernel)
set_option maxRecDepth 20000 in
theorem gX3_lacking_X1_lackingDivisor : GoodIn wsX3_lacking (wsV RX3 62 RX1 yX1_lackingDivisor wsX1_lackingDivisor) := goodIn_app (goodIn_of _ (by decide +kernel)) ggX3_lacking_X1_lackingDivisor
theorem dX3_lacking_0 : decode cX3_lacking 0 = .ok (.aload_n 0, 1) := by decide +kernel
theorem dX3_lacking_1 : decode cX3_lacking 1 = .ok (.getfield 10, 3) := by decide +kernel
theorem dX3_lacking_4 : decode cX3_lacking 4 = .ok (.invokevirtual 62, 3) := by decide +kernel
theorem dX3_lacking_7 : decode cX3_lacking 7 = .ok (.ireturn, 1) := by decide +kernel
set_option maxRecDepth 20000 in
theorem ggX3_slot_X3_isSlot : GoodIn wsX3_slot wsX3_isSlot := goodIn_r _ [7, 1, 8, 9, 10, 6, 11, 68, 69, 70, 71, 72, 73, 74, 75, 76, 77, 78, 79] (by decide +kernel) (by decide +kernel)
set_option maxRecDepth 20000 in
theorem gX3_slot_X3_isSlot : GoodIn wsX3_slot (wsV RX3 66 RX3 yX3_isSlot wsX3_isSlot) := goodIn_app (goodIn_of _ (by decide +kernel)) ggX3_slot_X3_isSlot
set_option maxRecDepth 20000 in
theorem ggX3_slot_X3_isWithin : GoodIn wsX3_slot wsX3_isWithin := goodIn_r _ [11] (by decide +kernel) (by decide +kernel)
set_option maxRecDepth 20000 in
theorem gX3_slot_X3_isWithin : GoodIn wsX3_slot (va_wsS RX3 44 yX3_isWithin wsX3_isWithin) := goodIn_app (goodIn_of _ (by decide +kernel)) ggX3_slot_X3_isWithin
set_option maxRecDepth 20000 in
theorem ggX3_slot_X1_isBalanced : GoodIn wsX3_slot wsX1_isBalanced := goodIn_r _ [16, 17, 18, 19, 15, 20, 21, 22, 23, 6, 24, 25, 26, 27, 28, 29, 30, 31, 32, 33, 74, 75, 76, 77, 78, 79] (by decide +kernel) (by decide +kernel)
set_option maxRecDepth 20000 in
theorem gX3_slot_X1_isBalanced : GoodIn wsX3_slot (wsV RX3 70 RX1 yX1_isBalanced wsX1_isBalanced) := goodIn_app (goodIn_of _ (by decide +kernel)) ggX3_slot_X1_isBalanced
set_option maxRecDepth 20000 in
theorem ggX3_slot_X1_turnOf : GoodIn wsX3_slot wsX1_turnOf := goodIn_r _ [37, 38, 39, 40, 30, 6, 31, 32, 33, 74, 75, 76, 77, 78, 79] (by decide +kernel) (by decide +kernel)
set_option maxRecDepth 20000 in
theorem gX3_slot_X1_turnOf : GoodIn wsX3_slot (wsV RX3 74 RX1 yX1_turnOf wsX1_turnOf) := goodIn_app (goodIn_of _ (by decide +kernel)) ggX3_slot_X1_turnOf
set_option maxRecDepth 20000 in
theorem ggX3_slot_X1_copyOf : GoodIn wsX3_slot wsX1_copyOf := goodIn_r _ [44, 22, 32, 6, 33, 74, 75, 76, 77, 78, 79] (by decide +kernel) (by decide +kernel)
set_option maxRecDepth 20000 in
theorem gX3_slot_X1_copyOf : GoodIn wsX3_slot (wsV RX3 78 RX1 yX1_copyOf wsX1_copyOf) := goodIn_app (goodIn_of _ (by decide +kernel)) ggX3_slot_X1_copyOf
set_option maxRecDepth 20000 in
theorem ggX3_slot_X1_zoneOf : GoodIn wsX3_slot wsX1_zoneOf := goodIn_r _ [48, 21, 22, 49, 35, 36, 15, 37, 38, 39, 40, 30, 6, 31, 32, 33, 74, 75, 76, 77, 78, 79] (by decide +kernel) (by decide +kernel)
set_option maxRecDepth 20000 in
theorem gX3_slot_X1_zoneOf : GoodIn wsX3_slot (wsV RX3 81 RX1 yX1_zoneOf wsX1_zoneOf) := goodIn_app (goodIn_of _ (by decide +kernel)) ggX3_slot_X1_zoneOf
set_option maxRecDepth 20000 in
theorem ggX3_slot_X1_phaseOf : GoodIn wsX3_slot wsX1_phaseOf := goodIn_r _ [53, 21, 54, 46, 47, 15, 48, 22, 49, 35, 36, 37, 38, 39, 40, 30, 6, 31, 32, 33, 74, 75, 76, 77, 78, 79] (by decide +kernel) (by decide +kernel)
set_option maxRecDepth 20000 in
theorem gX3_slot_X1_phaseOf : GoodIn wsX3_slot (wsV RX3 84 RX1 yX1_phaseOf wsX1_phaseOf) := goodIn_app (goodIn_of _ (by decide +kernel)) ggX3_slot_X1_phaseOf
set_option maxRecDepth 20000 in
theorem ggX3_slot_X1_isForward : GoodIn wsX3_slot wsX1_isForward := goodIn_r _ [58, 54, 46, 47, 15, 48, 21, 22, 49, 35, 36, 37, 38, 39, 40, 30, 6, 31, 32, 33, 74, 75, 76, 77, 78, 79] (by decide +kernel) (by decide +kernel)
set_option maxRecDepth 20000 in
theorem gX3_slot_X1_isForward : GoodIn wsX3_slot (wsV RX3 87 RX1 yX1_isForward wsX1_isForward) := goodIn_app (goodIn_of _ (by decide +kernel)) ggX3_slot_X1_isForward
set_option maxRecDepth 20000 in
theorem ggX3_slot_X1_endOf : GoodIn wsX3_slot wsX1_endOf := goodIn_r _ [62, 39, 30, 6, 31, 74, 75, 76, 77, 78, 79] (by decide +kernel) (by decide +kernel)
set_option maxRecDepth 20000 in
theorem gX3_slot_X1_endOf : GoodIn wsX3_slot (wsV RX3 90 RX1 yX1_endOf wsX1_endOf) := goodIn_app (goodIn_of _ (by decide +kernel)) ggX3_slot_X1_endOf
set_option maxRecDepth 20000 in
theorem ggX3_slot_X1_coilEndingIn : GoodIn wsX3_slot wsX1_coilEndingIn := goodIn_r _ [66, 67, 39, 30, 6, 31, 74, 75, 76, 77, 78, 79] (by decide +kernel) (by decide +kernel)
set_option maxRecDepth 20000 in
theorem gX3_slot_X1_coilEndingIn : GoodIn wsX3_slot (wsV RX3 93 RX1 yX1_coilEndingIn wsX1_coilEndingIn) := goodIn_app (goodIn_of _ (by decide +kernel)) ggX3_slot_X1_coilEndingIn
theorem dX3_slot_0 : decode cX3_slot 0 = .ok (.aload_n 0, 1) := by decide +kernel
theorem dX3_slot_1 : decode cX3_slot 1 = .ok (.iload_n 1, 1) := by decide +kernel
theorem dX3_slot_2 : decode cX3_slot 2 = .ok (.invokevirtual 66, 3) := by decide +kernel
theorem dX3_slot_5 : decode cX3_slot 5 = .ok (.ifCond .ne 5, 3) := by decide +kernel
theorem dX3_slot_8 : decode cX3_slot 8 = .ok (.iconst (-1), 1) := by decide +kernel
theorem dX3_slot_9 : decode cX3_slot 9 = .ok (.ireturn, 1) := by decide +kernel
theorem dX3_slot_10 : decode cX3_slot 10 = .ok (.iload_n 2, 1) := by decide +kernel
theorem dX3_slot_11 : decode cX3_slot 11 = .ok (.iconst 0, 1) := by decide +kernel
theorem dX3_slot_12 : decode cX3_slot 12 = .ok (.bipush 6, 2) := by decide +kernel
theorem dX3_slot_14 : decode cX3_slot 14 = .ok (.invokestatic 44, 3) := by decide +kernel
theorem dX3_slot_17 : decode cX3_slot 17 = .ok (.ifCond .ne 6, 3) := by decide +kernel
theorem dX3_slot_20 : decode cX3_slot 20 = .ok (.bipush (-2), 2) := by decide +kernel
theorem dX3_slot_22 : decode cX3_slot 22 = .ok (.ireturn, 1) := by decide +kernel
theorem dX3_slot_23 : decode cX3_slot 23 = .ok (.iload_n 2, 1) := by decide +kernel
theorem dX3_slot_24 : decode cX3_slot 24 = .ok (.iconst 2, 1) := by decide +kernel
theorem dX3_slot_25 : decode cX3_slot 25 = .ok (.iconst 4, 1) := by decide +kernel
theorem dX3_slot_26 : decode cX3_slot 26 = .ok (.invokestatic 44, 3) := by decide +kernel
theorem dX3_slot_29 : decode cX3_slot 29 = .ok (.ifCond .eq 16, 3) := by decide +kernel
theorem dX3_slot_32 : decode cX3_slot 32 = .ok (.aload_n 0, 1) := by decide +kernel
theorem dX3_slot_33 : decode cX3_slot 33 = .ok (.getfield 10, 3) := by decide +kernel
theorem dX3_slot_36 : decode cX3_slot 36 = .ok (.invokevirtual 70, 3) := by decide +kernel
theorem dX3_slot_39 : decode cX3_slot 39 = .ok (.ifCond .ne 6, 3) := by decide +kernel
theorem dX3_slot_42 : decode cX3_slot 42 = .ok (.bipush (-3), 2) := by decide +kernel
theorem dX3_slot_44 : decode cX3_slot 44 = .ok (.ireturn, 1) := by decide +kernel
theorem dX3_slot_45 : decode cX3_slot 45 = .ok (.iload_n 2, 1) := by decide +kernel
theorem dX3_slot_46 : decode cX3_slot 46 = .ok (.tableswitch 107 0 5 #[38, 47, 56, 65, 74, 91], 38) := by decide +kernel
theorem dX3_slot_84 : decode cX3_slot 84 = .ok (.aload_n 0, 1) := by decide +kernel
theorem dX3_slot_85 : decode cX3_slot 85 = .ok (.getfield 10, 3) := by decide +kernel
theorem dX3_slot_88 : decode cX3_slot 88 = .ok (.iload_n 1, 1) := by decide +kernel
theorem dX3_slot_89 : decode cX3_slot 89 = .ok (.invokevirtual 74, 3) := by decide +kernel
theorem dX3_slot_92 : decode cX3_slot 92 = .ok (.ireturn, 1) := by decide +kernel
theorem dX3_slot_93 : decode cX3_slot 93 = .ok (.aload_n 0, 1) := by decide +kernel
theorem dX3_slot_94 : decode cX3_slot 94 = .ok (.getfield 10, 3) := by decide +kernel
theorem dX3_slot_97 : decode cX3_slot 97 = .ok (.iload_n 1, 1) := by decide +kernel
theorem dX3_slot_98 : decode cX3_slot 98 = .ok (.invokevirtual 78, 3) := by decide +kernel
theorem dX3_slot_101 : decode cX3_slot 101 = .ok (.ireturn, 1) := by decide +kernel
theorem dX3_slot_102 : decode cX3_slot 102 = .ok (.aload_n 0, 1) := by decide +kernel
theorem dX3_slot_103 : decode cX3_slot 103 = .ok (.getfield 10, 3) := by decide +kernel
theorem dX3_slot_106 : decode cX3_slot 106 = .ok (.iload_n 1, 1) := by decide +kernel
theorem dX3_slot_107 : decode cX3_slot 107 = .ok (.invokevirtual 81, 3) := by decide +kernel
theorem dX3_slot_110 : decode cX3_slot 110 = .ok (.ireturn, 1) := by decide +kernel
theorem dX3_slot_111 : decode cX3_slot 111 = .ok (.aload_n 0, 1) := by decide +kernel
theorem dX3_slot_112 : decode cX3_slot 112 = .ok (.getfield 10, 3) := by decide +kernel
theorem dX3_slot_115 : decode cX3_slot 115 = .ok (.iload_n 1, 1) := by decide +kernel
theorem dX3_slot_116 : decode cX3_slot 116 = .ok (.invokevirtual 84, 3) := by decide +kernel
theorem dX3_slot_119 : decode cX3_slot 119 = .ok (.ireturn, 1) := by decide +kernel
theorem dX3_slot_120 : decode cX3_slot 120 = .ok (.aload_n 0, 1) := by decide +kernel
theorem dX3_slot_121 : decode cX3_slot 121 = .ok (.getfield 10, 3) := by decide +kernel
theorem dX3_slot_124 : decode cX3_slot 124 = .ok (.iload_n 1, 1) := by decide +kernel
theorem dX3_slot_125 : decode cX3_slot 125 = .ok (.invokevirtual 87, 3) := by decide +kernel
theorem dX3_slot_128 : decode cX3_slot 128 = .ok (.ifCond .eq 7, 3) := by decide +kernel
theorem dX3_slot_131 : decode cX3_slot 131 = .ok (.iconst 1, 1) := by decide +kernel
theorem dX3_slot_132 : decode cX3_slot 132 = .ok (.goto 4, 3) := by decide +kernel
theorem dX3_slot_135 : decode cX3_slot 135 = .ok (.iconst 0, 1) := by decide +kernel
theorem dX3_slot_136 : decode cX3_slot 136 = .ok (.ireturn, 1) := by decide +kernel
theorem dX3_slot_137 : decode cX3_slot 137 = .ok (.aload_n 0, 1) := by decide +kernel
theorem dX3_slot_138 : decode cX3_slot 138 = .ok (.getfield 10, 3) := by decide +kernel
theorem dX3_slot_141 : decode cX3_slot 141 = .ok (.iload_n 1, 1) := by decide +kernel
theorem dX3_slot_142 : decode cX3_slot 142 = .ok (.aload_n 0, 1) := by decide +kernel
theorem dX3_slot_143 : decode cX3_slot 143 = .ok (.getfield 10, 3) := by decide +kernel
theorem dX3_slot_146 : decode cX3_slot 146 = .ok (.getfield 59, 3) := by decide +kernel
theorem dX3_slot_149 : decode cX3_slot 149 = .ok (.invokevirtual 90, 3) := by decide +kernel
theorem dX3_slot_152 : decode cX3_slot 152 = .ok (.ireturn, 1) := by decide +kernel
theorem dX3_slot_153 : decode cX3_slot 153 = .ok (.aload_n 0, 1) := by decide +kernel
theorem dX3_slot_154 : decode cX3_slot 154 = .ok (.getfield 10, 3) := by decide +kernel
theorem dX3_slot_157 : decode cX3_slot 157 = .ok (.iload_n 1, 1) := by decide +kernel
theorem dX3_slot_158 : decode cX3_slot 158 = .ok (.invokevirtual 93, 3) := by decide +kernel
theorem dX3_slot_161 : decode cX3_slot 161 = .ok (.ireturn, 1) := by decide +kernel
set_option maxRecDepth 20000 in
theorem ggX3_phase_X3_isPhase : GoodIn wsX3_phase wsX3_isPhase := goodIn_r _ [6, 1, 7, 8, 9, 5, 10, 56, 57, 58, 59, 60, 61, 62, 63, 64, 65, 66, 67] (by decide +kernel) (by decide +kernel)
set_option maxRecDepth 20000 in
theorem gX3_phase_X3_isPhase : GoodIn wsX3_phase (wsV RX3 96 RX3 yX3_isPhase wsX3_isPhase) := goodIn_app (goodIn_of _ (by decide +kernel)) ggX3_phase_X3_isPhase
set_option maxRecDepth 20000 in
theorem ggX3_phase_X3_isWithin : GoodIn wsX3_phase wsX3_isWithin := goodIn_r _ [10] (by decide +kernel) (by decide +kernel)
set_option maxRecDepth 20000 in
theorem gX3_phase_X3_isWithin : GoodIn wsX3_phase (va_wsS RX3 44 yX3_isWithin wsX3_isWithin) := goodIn_app (goodIn_of _ (by decide +kernel)) ggX3_phase_X3_isWithin
set_option maxRecDepth 20000 in
theorem ggX3_phase_X1_isBalanced : GoodIn wsX3_phase wsX1_isBalanced := goodIn_r _ [15, 16, 17, 18, 14, 19, 20, 21, 22, 5, 23, 24, 25, 26, 27, 28, 29, 30, 31, 32, 62, 63, 64, 65, 66, 67] (by decide +kernel) (by decide +kernel)
set_option maxRecDepth 20000 in
theorem gX3_phase_X1_isBalanced : GoodIn wsX3_phase (wsV RX3 70 RX1 yX1_isBalanced wsX1_isBalanced) := goodIn_app (goodIn_of _ (by decide +kernel)) ggX3_phase_X1_isBalanced
set_option maxRecDepth 20000 in
theorem ggX3_phase_X1_countSides : GoodIn wsX3_phase wsX1_countSides := goodIn_r _ [36, 37, 38, 39, 40, 14, 41, 20, 42, 43, 44, 45, 21, 46, 47, 48, 49, 50, 51, 29, 5, 30, 31, 32, 52, 53, 54, 55, 62, 63, 64, 65, 66, 67] (by decide +kernel) (by decide +kernel)
set_option maxRecDepth 20000 in
theorem gX3_phase_X1_countSides : GoodIn wsX3_phase (wsV RX3 99 RX1 yX1_countSides wsX1_countSides) := goodIn_app (goodIn_of _ (by decide +kernel)) ggX3_phase_X1_countSides
theorem dX3_phase_0 : decode cX3_phase 0 = .ok (.aload_n 0, 1) := by decide +kernel
theorem dX3_phase_1 : decode cX3_phase 1 = .ok (.iload_n 1, 1) := by decide +kernel
theorem dX3_phase_2 : decode cX3_phase 2 = .ok (.invokevirtual 96, 3) := by decide +kernel
theorem dX3_phase_5 : decode cX3_phase 5 = .ok (.ifCond .ne 5, 3) := by decide +kernel
theorem dX3_phase_8 : decode cX3_phase 8 = .ok (.iconst (-1), 1) := by decide +kernel
theorem dX3_phase_9 : decode cX3_phase 9 = .ok (.ireturn, 1) := by decide +kernel
theorem dX3_phase_10 : decode cX3_phase 10 = .ok (.iload_n 2, 1) := by decide +kernel
theorem dX3_phase_11 : decode cX3_phase 11 = .ok (.iconst 0, 1) := by decide +kernel
theorem dX3_phase_12 : decode cX3_phase 12 = .ok (.iconst 2, 1) := by decide +kernel
theorem dX3_phase_13 : decode cX3_phase 13 = .ok (.invokestatic 44, 3) := by decide +kernel
theorem dX3_phase_16 : decode cX3_phase 16 = .ok (.ifCond .ne 6, 3) := by decide +kernel
theorem dX3_phase_19 : decode cX3_phase 19 = .ok (.bipush (-2), 2) := by decide +kernel
theorem dX3_phase_21 : decode cX3_phase 21 = .ok (.ireturn, 1) := by decide +kernel
theorem dX3_phase_22 : decode cX3_phase 22 = .ok (.aload_n 0, 1) := by decide +kernel
theorem dX3_phase_23 : decode cX3_phase 23 = .ok (.getfield 10, 3) := by decide +kernel
theorem dX3_phase_26 : decode cX3_phase 26 = .ok (.invokevirtual 70, 3) := by decide +kernel
theorem dX3_phase_29 : decode cX3_phase 29 = .ok (.ifCond .ne 6, 3) := by decide +kernel
theorem dX3_phase_32 : decode cX3_phase 32 = .ok (.bipush (-3), 2) := by decide +kernel
theorem dX3_phase_34 : decode cX3_phase 34 = .ok (.ireturn, 1) := by decide +kernel
theorem dX3_phase_35 : decode cX3_phase 35 = .ok (.iload_n 2, 1) := by decide +kernel
theorem dX3_phase_36 : decode cX3_phase 36 = .ok (.lookupswitch 58 #[(0, 28), (1, 48)], 28) := by decide +kernel
theorem dX3_phase_64 : decode cX3_phase 64 = .ok (.aload_n 0, 1) := by decide +kernel
theorem dX3_phase_65 : decode cX3_phase 65 = .ok (.getfield 10, 3) := by decide +kernel
theorem dX3_phase_68 : decode cX3_phase 68 = .ok (.iload_n 1, 1) := by decide +kernel
theorem dX3_phase_69 : decode cX3_phase 69 = .ok (.iconst 1, 1) := by decide +kernel
theorem dX3_phase_70 : decode cX3_phase 70 = .ok (.invokevirtual 99, 3) := by decide +kernel
theorem dX3_phase_73 : decode cX3_phase 73 = .ok (.aload_n 0, 1) := by decide +kernel
theorem dX3_phase_74 : decode cX3_phase 74 = .ok (.getfield 10, 3) := by decide +kernel
theorem dX3_phase_77 : decode cX3_phase 77 = .ok (.iload_n 1, 1) := by decide +kernel
theorem dX3_phase_78 : decode cX3_phase 78 = .ok (.iconst 0, 1) := by decide +kernel
theorem dX3_phase_79 : decode cX3_phase 79 = .ok (.invokevirtual 99, 3) := by decide +kernel
theorem dX3_phase_82 : decode cX3_phase 82 = .ok (.iadd, 1) := by decide +kernel
theorem dX3_phase_83 : decode cX3_phase 83 = .ok (.ireturn, 1) := by decide +kernel
theorem dX3_phase_84 : decode cX3_phase 84 = .ok (.aload_n 0, 1) := by decide +kernel
theorem dX3_phase_85 : decode cX3_phase 85 = .ok (.getfield 10, 3) := by decide +kernel
theorem dX3_phase_88 : decode cX3_phase 88 = .ok (.iload_n 1, 1) := by decide +kernel
theorem dX3_phase_89 : decode cX3_phase 89 = .ok (.iconst 1, 1) := by decide +kernel
theorem dX3_phase_90 : decode cX3_phase 90 = .ok (.invokevirtual 99, 3) := by decide +kernel
theorem dX3_phase_93 : decode cX3_phase 93 = .ok (.ireturn, 1) := by decide +kernel
theorem dX3_phase_94 : decode cX3_phase 94 = .ok (.aload_n 0, 1) := by decide +kernel
theorem dX3_phase_95 : decode cX3_phase 95 = .ok (.getfield 10, 3) := by decide +kernel
theorem dX3_phase_98 : decode cX3_phase 98 = .ok (.iload_n 1, 1) := by decide +kernel
theorem dX3_phase_99 : decode cX3_phase 99 = .ok (.iconst 0, 1) := by decide +kernel
theorem dX3_phase_100 : decode cX3_phase 100 = .ok (.invokevirtual 99, 3) := by decide +kernel
theorem dX3_phase_103 : decode cX3_phase 103 = .ok (.ireturn, 1) := by decide +kernel
set_option maxRecDepth 20000 in
theorem ggX3_layer_X3_isSlot : GoodIn wsX3_layer wsX3_isSlot := goodIn_r _ [6, 1, 7, 8, 9, 5, 10, 57, 58, 59, 60, 61, 62, 63, 64, 65, 66, 67, 68] (by decide +kernel) (by decide +kernel)
set_option maxRecDepth 20000 in
theorem gX3_layer_X3_isSlot : GoodIn wsX3_layer (wsV RX3 66 RX3 yX3_isSlot wsX3_isSlot) := goodIn_app (goodIn_of _ (by decide +kernel)) ggX3_layer_X3_isSlot
set_option maxRecDepth 20000 in
theorem ggX3_layer_X3_isWithin : GoodIn wsX3_layer wsX3_isWithin := goodIn_r _ [10] (by decide +kernel) (by decide +kernel)
set_option maxRecDepth 20000 in
theorem gX3_layer_X3_isWithin : GoodIn wsX3_layer (va_wsS RX3 44 yX3_isWithin wsX3_isWithin) := goodIn_app (goodIn_of _ (by decide +kernel)) ggX3_layer_X3_isWithin
set_option maxRecDepth 20000 in
theorem ggX3_layer_X1_isBalanced : GoodIn wsX3_layer wsX1_isBalanced := goodIn_r _ [15, 16, 17, 18, 14, 19, 20, 21, 22, 5, 23, 24, 25, 26, 27, 28, 29, 30, 31, 32, 63, 64, 65, 66, 67, 68] (by decide +kernel) (by decide +kernel)
set_option maxRecDepth 20000 in
theorem gX3_layer_X1_isBalanced : GoodIn wsX3_layer (wsV RX3 70 RX1 yX1_isBalanced wsX1_isBalanced) := goodIn_app (goodIn_of _ (by decide +kernel)) ggX3_layer_X1_isBalanced
set_option maxRecDepth 20000 in
theorem ggX3_layer_X1_coilEndingIn : GoodIn wsX3_layer wsX1_coilEndingIn := goodIn_r _ [36, 37, 38, 29, 5, 30, 63, 64, 65, 66, 67, 68] (by decide +kernel) (by decide +kernel)
set_option maxRecDepth 20000 in
theorem gX3_layer_X1_coilEndingIn : GoodIn wsX3_layer (wsV RX3 93 RX1 yX1_coilEndingIn wsX1_coilEndingIn) := goodIn_app (goodIn_of _ (by decide +kernel)) ggX3_layer_X1_coilEndingIn
set_option maxRecDepth 20000 in
theorem ggX3_layer_X1_isForward : GoodIn wsX3_layer wsX1_isForward := goodIn_r _ [42, 43, 44, 45, 14, 46, 20, 21, 47, 48, 49, 50, 51, 38, 52, 29, 5, 30, 31, 32, 63, 64, 65, 66, 67, 68] (by decide +kernel) (by decide +kernel)
set_option maxRecDepth 20000 in
theorem gX3_layer_X1_isForward : GoodIn wsX3_layer (wsV RX3 87 RX1 yX1_isForward wsX1_isForward) := goodIn_app (goodIn_of _ (by decide +kernel)) ggX3_layer_X1_isForward
set_option maxRecDepth 20000 in
theorem ggX3_layer_X1_phaseOf : GoodIn wsX3_layer wsX1_phaseOf := goodIn_r _ [56, 20, 43, 44, 45, 14, 46, 21, 47, 48, 49, 50, 51, 38, 52, 29, 5, 30, 31, 32, 63, 64, 65, 66, 67, 68] (by decide +kernel) (by decide +kernel)
set_option maxRecDepth 20000 in
theorem gX3_layer_X1_phaseOf : GoodIn wsX3_layer (wsV RX3 84 RX1 yX1_phaseOf wsX1_phaseOf) := goodIn_app (goodIn_of _ (by decide +kernel)) ggX3_layer_X1_phaseOf
theorem dX3_layer_0 : decode cX3_layer 0 = .ok (.aload_n 0, 1) := by decide +kernel
theorem dX3_layer_1 : decode cX3_layer 1 = .ok (.iload_n 1, 1) := by decide +kernel
theorem dX3_layer_2 : decode cX3_layer 2 = .ok (.invokevirtual 66, 3) := by decide +kernel
theorem dX3_layer_5 : decode cX3_layer 5 = .ok (.ifCond .ne 5, 3) := by decide +kernel
theorem dX3_layer_8 : decode cX3_layer 8 = .ok (.iconst (-1), 1) := by decide +kernel
theorem dX3_layer_9 : decode cX3_layer 9 = .ok (.ireturn, 1) := by decide +kernel
theorem dX3_layer_10 : decode cX3_layer 10 = .ok (.iload_n 2, 1) := by decide +kernel
theorem dX3_layer_11 : decode cX3_layer 11 = .ok (.iconst 0, 1) := by decide +kernel
theorem dX3_layer_12 : decode cX3_layer 12 = .ok (.iconst 1, 1) := by decide +kernel
theorem dX3_layer_13 : decode cX3_layer 13 = .ok (.invokestatic 44, 3) := by decide +kernel
theorem dX3_layer_16 : decode cX3_layer 16 = .ok (.ifCond .ne 6, 3) := by decide +kernel
theorem dX3_layer_19 : decode cX3_layer 19 = .ok (.bipush (-2), 2) := by decide +kernel
theorem dX3_layer_21 : decode cX3_layer 21 = .ok (.ireturn, 1) := by decide +kernel
theorem dX3_layer_22 : decode cX3_layer 22 = .ok (.aload_n 0, 1) := by decide +kernel
theorem dX3_layer_23 : decode cX3_layer 23 = .ok (.getfield 10, 3) := by decide +kernel
theorem dX3_layer_26 : decode cX3_layer 26 = .ok (.invokevirtual 70, 3) := by decide +kernel
theorem dX3_layer_29 : decode cX3_layer 29 = .ok (.ifCond .ne 6, 3) := by decide +kernel
theorem dX3_layer_32 : decode cX3_layer 32 = .ok (.bipush (-3), 2) := by decide +kernel
theorem dX3_layer_34 : decode cX3_layer 34 = .ok (.ireturn, 1) := by decide +kernel
theorem dX3_layer_35 : decode cX3_layer 35 = .ok (.iload_n 2, 1) := by decide +kernel
theorem dX3_layer_36 : decode cX3_layer 36 = .ok (.ifCond .ne 7, 3) := by decide +kernel
theorem dX3_layer_39 : decode cX3_layer 39 = .ok (.iconst 1, 1) := by decide +kernel
theorem dX3_layer_40 : decode cX3_layer 40 = .ok (.goto 4, 3) := by decide +kernel
theorem dX3_layer_43 : decode cX3_layer 43 = .ok (.iconst 0, 1) := by decide +kernel
theorem dX3_layer_44 : decode cX3_layer 44 = .ok (.istore_n 3, 1) := by decide +kernel
theorem dX3_layer_45 : decode cX3_layer 45 = .ok (.iload_n 3, 1) := by decide +kernel
theorem dX3_layer_46 : decode cX3_layer 46 = .ok (.ifCond .eq 7, 3) := by decide +kernel
theorem dX3_layer_49 : decode cX3_layer 49 = .ok (.iload_n 1, 1) := by decide +kernel
theorem dX3_layer_50 : decode cX3_layer 50 = .ok (.goto 11, 3) := by decide +kernel
theorem dX3_layer_53 : decode cX3_layer 53 = .ok (.aload_n 0, 1) := by decide +kernel
theorem dX3_layer_54 : decode cX3_layer 54 = .ok (.getfield 10, 3) := by decide +kernel
theorem dX3_layer_57 : decode cX3_layer 57 = .ok (.iload_n 1, 1) := by decide +kernel
theorem dX3_layer_58 : decode cX3_layer 58 = .ok (.invokevirtual 93, 3) := by decide +kernel
theorem dX3_layer_61 : decode cX3_layer 61 = .ok (.istore 4, 2) := by decide +kernel
theorem dX3_layer_63 : decode cX3_layer 63 = .ok (.aload_n 0, 1) := by decide +kernel
theorem dX3_layer_64 : decode cX3_layer 64 = .ok (.getfield 10, 3) := by decide +kernel
theorem dX3_layer_67 : decode cX3_layer 67 = .ok (.iload 4, 2) := by decide +kernel
theorem dX3_layer_69 : decode cX3_layer 69 = .ok (.invokevirtual 87, 3) := by decide +kernel
theorem dX3_layer_72 : decode cX3_layer 72 = .ok (.iload_n 3, 1) := by decide +kernel
theorem dX3_layer_73 : decode cX3_layer 73 = .ok (.if_icmp .ne 7, 3) := by decide +kernel
theorem dX3_layer_76 : decode cX3_layer 76 = .ok (.iconst 1, 1) := by decide +kernel
theorem dX3_layer_77 : decode cX3_layer 77 = .ok (.goto 4, 3) := by decide +kernel
theorem dX3_layer_80 : decode cX3_layer 80 = .ok (.iconst 0, 1) := by decide +kernel
theorem dX3_layer_81 : decode cX3_layer 81 = .ok (.istore 5, 2) := by decide +kernel
theorem dX3_layer_83 : decode cX3_layer 83 = .ok (.bipush 10, 2) := by decide +kernel
theorem dX3_layer_85 : decode cX3_layer 85 = .ok (.aload_n 0, 1) := by decide +kernel
theorem dX3_layer_86 : decode cX3_layer 86 = .ok (.getfield 10, 3) := by decide +kernel
theorem dX3_layer_89 : decode cX3_layer 89 = .ok (.iload 4, 2) := by decide +kernel
theorem dX3_layer_91 : decode cX3_layer 91 = .ok (.invokevirtual 84, 3) := by decide +kernel
theorem dX3_layer_94 : decode cX3_layer 94 = .ok (.imul, 1) := by decide +kernel
theorem dX3_layer_95 : decode cX3_layer 95 = .ok (.iload 5, 2) := by decide +kernel
theorem dX3_layer_97 : decode cX3_layer 97 = .ok (.ifCond .eq 7, 3) := by decide +kernel
theorem dX3_layer_100 : decode cX3_layer 100 = .ok (.iconst 1, 1) := by decide +kernel
theorem dX3_layer_101 : decode cX3_layer 101 = .ok (.goto 4, 3) := by decide +kernel
theorem dX3_layer_104 : decode cX3_layer 104 = .ok (.iconst 0, 1) := by decide +kernel
theorem dX3_layer_105 : decode cX3_layer 105 = .ok (.iadd, 1) := by decide +kernel
theorem dX3_layer_106 : decode cX3_layer 106 = .ok (.ireturn, 1) := by decide +kernel
set_option maxRecDepth 20000 in
theorem ggX3_each_X3_isWithin : GoodIn wsX3_each wsX3_isWithin := goodIn_r _ [8] (by decide +kernel) (by decide +kernel)
set_option maxRecDepth 20000 in
theorem gX3_each_X3_isWithin : GoodIn wsX3_each (va_wsS RX3 44 yX3_isWithin wsX3_isWithin) := goodIn_app (goodIn_of _ (by decide +kernel)) ggX3_each_X3_isWithin
set_option maxRecDepth 20000 in
theorem ggX3_each_X3_commonDivisor : GoodIn wsX3_each wsX3_commonDivisor := goodIn_r _ [11, 12, 13, 14, 15, 16, 17, 7, 18] (by decide +kernel) (by decide +kernel)
set_option maxRecDepth 20000 in
theorem gX3_each_X3_commonDivisor : GoodIn wsX3_each (va_wsS RX3 109 yX3_commonDivisor wsX3_commonDivisor) := goodIn_app (goodIn_of _ (by decide +kernel)) ggX3_each_X3_commonDivisor
set_option maxRecDepth 20000 in
theorem ggX3_each_X3_cut : GoodIn wsX3_each wsX3_cut := goodIn_r _ [21] (by decide +kernel) (by decide +kernel)
set_option maxRecDepth 20000 in
theorem gX3_each_X3_cut : GoodIn wsX3_each (va_wsS RX3 112 yX3_cut wsX3_cut) := goodIn_app (goodIn_of _ (by decide +kernel)) ggX3_each_X3_cut
theorem dX3_each_0 : decode cX3_each 0 = .ok (.iload_n 1, 1) := by decide +kernel
theorem dX3_each_1 : decode cX3_each 1 = .ok (.iconst 0, 1) := by decide +kernel
theorem dX3_each_2 : decode cX3_each 2 = .ok (.iconst 1, 1) := by decide +kernel
theorem dX3_each_3 : decode cX3_each 3 = .ok (.invokestatic 44, 3) := by decide +kernel
theorem dX3_each_6 : decode cX3_each 6 = .ok (.ifCond .ne 6, 3) := by decide +kernel
theorem dX3_each_9 : decode cX3_each 9 = .ok (.bipush (-2), 2) := by decide +kernel
theorem dX3_each_11 : decode cX3_each 11 = .ok (.ireturn, 1) := by decide +kernel
theorem dX3_each_12 : decode cX3_each 12 = .ok (.iconst 2, 1) := by decide +kernel
theorem dX3_each_13 : decode cX3_each 13 = .ok (.aload_n 0, 1) := by decide +kernel
theorem dX3_each_14 : decode cX3_each 14 = .ok (.getfield 10, 3) := by decide +kernel
theorem dX3_each_17 : decode cX3_each 17 = .ok (.getfield 103, 3) := by decide +kernel
theorem dX3_each_20 : decode cX3_each 20 = .ok (.imul, 1) := by decide +kernel
theorem dX3_each_21 : decode cX3_each 21 = .ok (.aload_n 0, 1) := by decide +kernel
theorem dX3_each_22 : decode cX3_each 22 = .ok (.getfield 10, 3) := by decide +kernel
theorem dX3_each_25 : decode cX3_each 25 = .ok (.getfield 106, 3) := by decide +kernel
theorem dX3_each_28 : decode cX3_each 28 = .ok (.imul, 1) := by decide +kernel
theorem dX3_each_29 : decode cX3_each 29 = .ok (.istore_n 2, 1) := by decide +kernel
theorem dX3_each_30 : decode cX3_each 30 = .ok (.aload_n 0, 1) := by decide +kernel
theorem dX3_each_31 : decode cX3_each 31 = .ok (.getfield 10, 3) := by decide +kernel
theorem dX3_each_34 : decode cX3_each 34 = .ok (.getfield 56, 3) := by decide +kernel
theorem dX3_each_37 : decode cX3_each 37 = .ok (.iload_n 2, 1) := by decide +kernel
theorem dX3_each_38 : decode cX3_each 38 = .ok (.invokestatic 109, 3) := by decide +kernel
theorem dX3_each_41 : decode cX3_each 41 = .ok (.istore_n 3, 1) := by decide +kernel
theorem dX3_each_42 : decode cX3_each 42 = .ok (.iload_n 1, 1) := by decide +kernel
theorem dX3_each_43 : decode cX3_each 43 = .ok (.ifCond .ne 17, 3) := by decide +kernel
theorem dX3_each_46 : decode cX3_each 46 = .ok (.aload_n 0, 1) := by decide +kernel
theorem dX3_each_47 : decode cX3_each 47 = .ok (.getfield 10, 3) := by decide +kernel
theorem dX3_each_50 : decode cX3_each 50 = .ok (.getfield 56, 3) := by decide +kernel
theorem dX3_each_53 : decode cX3_each 53 = .ok (.iload_n 3, 1) := by decide +kernel
theorem dX3_each_54 : decode cX3_each 54 = .ok (.invokestatic 112, 3) := by decide +kernel
theorem dX3_each_57 : decode cX3_each 57 = .ok (.goto 8, 3) := by decide +kernel
theorem dX3_each_60 : decode cX3_each 60 = .ok (.iload_n 2, 1) := by decide +kernel
theorem dX3_each_61 : decode cX3_each 61 = .ok (.iload_n 3, 1) := by decide +kernel
theorem dX3_each_62 : decode cX3_each 62 = .ok (.invokestatic 112, 3) := by decide +kernel
theorem dX3_each_65 : decode cX3_each 65 = .ok (.ireturn, 1) := by decide +kernel
set_option maxRecDepth 20000 in
theorem ggX3_own_X3_isWithin : GoodIn wsX3_own wsX3_isWithin := goodIn_r _ [7] (by decide +kernel) (by decide +kernel)
set_option maxRecDepth 20000 in
theorem gX3_own_X3_isWithin : GoodIn wsX3_own (va_wsS RX3 44 yX3_isWithin wsX3_isWithin) := goodIn_app (goodIn_of _ (by decide +kernel)) ggX3_own_X3_isWithin
set_option maxRecDepth 20000 in
theorem ggX3_own_X3_at : GoodIn wsX3_own wsX3_at := goodIn_r _ [10, 4, 5, 6, 7] (by decide +kernel) (by decide +kernel)
set_option maxRecDepth 20000 in
theorem gX3_own_X3_at : GoodIn wsX3_own (va_wsS RX3 121 yX3_at wsX3_at) := goodIn_app (goodIn_of _ (by decide +kernel)) ggX3_own_X3_at
theorem dX3_own_0 : decode cX3_own 0 = .ok (.iload_n 1, 1) := by decide +kernel
theorem dX3_own_1 : decode cX3_own 1 = .ok (.iconst (-1), 1) := by decide +kernel
theorem dX3_own_2 : decode cX3_own 2 = .ok (.if_icmp .ne 11, 3) := by decide +kernel
theorem dX3_own_5 : decode cX3_own 5 = .ok (.aload_n 0, 1) := by decide +kernel
theorem dX3_own_6 : decode cX3_own 6 = .ok (.getfield 19, 3) := by decide +kernel
theorem dX3_own_9 : decode cX3_own 9 = .ok (.getfield 115, 3) := by decide +kernel
theorem dX3_own_12 : decode cX3_own 12 = .ok (.ireturn, 1) := by decide +kernel
theorem dX3_own_13 : decode cX3_own 13 = .ok (.iload_n 1, 1) := by decide +kernel
theorem dX3_own_14 : decode cX3_own 14 = .ok (.iconst 0, 1) := by decide +kernel
theorem dX3_own_15 : decode cX3_own 15 = .ok (.aload_n 0, 1) := by decide +kernel
theorem dX3_own_16 : decode cX3_own 16 = .ok (.getfield 19, 3) := by decide +kernel
theorem dX3_own_19 : decode cX3_own 19 = .ok (.getfield 115, 3) := by decide +kernel
theorem dX3_own_22 : decode cX3_own 22 = .ok (.invokestatic 44, 3) := by decide +kernel
theorem dX3_own_25 : decode cX3_own 25 = .ok (.ifCond .ne 6, 3) := by decide +kernel
theorem dX3_own_28 : decode cX3_own 28 = .ok (.bipush (-6), 2) := by decide +kernel
theorem dX3_own_30 : decode cX3_own 30 = .ok (.ireturn, 1) := by decide +kernel
theorem dX3_own_31 : decode cX3_own 31 = .ok (.aload_n 0, 1) := by decide +kernel
theorem dX3_own_32 : decode cX3_own 32 = .ok (.getfield 19, 3) := by decide +kernel
theorem dX3_own_35 : decode cX3_own 35 = .ok (.getfield 118, 3) := by decide +kernel
theorem dX3_own_38 : decode cX3_own 38 = .ok (.iload_n 1, 1) := by decide +kernel
theorem dX3_own_39 : decode cX3_own 39 = .ok (.invokestatic 121, 3) := by decide +kernel
theorem dX3_own_42 : decode cX3_own 42 = .ok (.ireturn, 1) := by decide +kernel
set_option maxRecDepth 20000 in
theorem ggX3_sum_X3_isPhase : GoodIn wsX3_sum wsX3_isPhase := goodIn_r _ [13, 5, 14, 15, 16, 12, 17, 94, 95, 96, 97, 98, 99, 103, 104, 105, 106, 107, 108] (by decide +kernel) (by decide +kernel)
set_option maxRecDepth 20000 in
theorem gX3_sum_X3_isPhase : GoodIn wsX3_sum (wsV RX3 96 RX3 yX3_isPhase wsX3_isPhase) := goodIn_app (goodIn_of _ (by decide +kernel)) ggX3_sum_X3_isPhase
set_option maxRecDepth 20000 in
theorem ggX3_sum_X3_isWave : GoodIn wsX3_sum wsX3_isWave := goodIn_r _ [20, 15, 16, 12, 17] (by decide +kernel) (by decide +kernel)
set_option maxRecDepth 20000 in
theorem gX3_sum_X3_isWave : GoodIn wsX3_sum (va_wsS RX3 126 yX3_isWave wsX3_isWave) := goodIn_app (goodIn_of _ (by decide +kernel)) ggX3_sum_X3_isWave
set_option maxRecDepth 20000 in
theorem ggX3_sum_X3_isWithin : GoodIn wsX3_sum wsX3_isWithin := goodIn_r _ [17] (by decide +kernel) (by decide +kernel)
set_option maxRecDepth 20000 in
theorem gX3_sum_X3_isWithin : GoodIn wsX3_sum (va_wsS RX3 44 yX3_isWithin wsX3_isWithin) := goodIn_app (goodIn_of _ (by decide +kernel)) ggX3_sum_X3_isWithin
set_option maxRecDepth 20000 in
theorem ggX3_sum_X1_isBalanced : GoodIn wsX3_sum wsX1_isBalanced := goodIn_r _ [25, 26, 27, 28, 24, 29, 30, 31, 32, 12, 33, 34, 35, 36, 37, 38, 39, 40, 41, 42, 103, 104, 105, 106, 107, 108] (by decide +kernel) (by decide +kernel)
set_option maxRecDepth 20000 in
theorem gX3_sum_X1_isBalanced : GoodIn wsX3_sum (wsV RX3 70 RX1 yX1_isBalanced wsX1_isBalanced) := goodIn_app (goodIn_of _ (by decide +kernel)) ggX3_sum_X1_isBalanced
set_option maxRecDepth 20000 in
theorem ggX3_sum_X3_addUp : GoodIn wsX3_sum wsX3_addUp := goodIn_r _ [46, 5, 47, 2, 48, 49, 50, 51, 52, 53, 54, 24, 55, 30, 56, 57, 58, 59, 31, 60, 61, 62, 63, 64, 65, 66, 39, 12, 40, 41, 42, 67, 68, 69, 70, 71, 72, 73, 74, 75, 38, 76, 77, 78, 15, 16, 17, 79, 80, 81, 82, 83, 84, 85, 86, 87, 88, 89, 90, 91, 92, 93, 94, 95, 96, 97, 98, 99, 103, 104, 105, 106, 107, 108, 100, 101, 102] (by decide +kernel) (by decide +kernel)
set_option maxRecDepth 20000 in
theorem gX3_sum_X3_addUp : GoodIn wsX3_sum (wsV RX3 131 RX3 yX3_addUp wsX3_addUp) := goodIn_app (goodIn_of _ (by decide +kernel)) ggX3_sum_X3_addUp
set_option maxRecDepth 20000 in
theorem ggX3_sum_X3_at : GoodIn wsX3_sum wsX3_at := goodIn_r _ [78, 15, 16, 12, 17] (by decide +kernel) (by decide +kernel)
set_option maxRecDepth 20000 in
theorem gX3_sum_X3_at : GoodIn wsX3_sum (va_wsS RX3 121 yX3_at wsX3_at) := goodIn_app (goodIn_of _ (by decide +kernel)) ggX3_sum_X3_at
theorem dX3_sum_0 : decode cX3_sum 0 = .ok (.aload_n 0, 1) := by decide +kernel
theorem dX3_sum_1 : decode cX3_sum 1 = .ok (.iload_n 1, 1) := by decide +kernel
theorem dX3_sum_2 : decode cX3_sum 2 = .ok (.invokevirtual 96, 3) := by decide +kernel
theorem dX3_sum_5 : decode cX3_sum 5 = .ok (.ifCond .ne 6, 3) := by decide +kernel
theorem dX3_sum_8 : decode cX3_sum 8 = .ok (.ldc 125, 2) := by decide +kernel
theorem dX3_sum_10 : decode cX3_sum 10 = .ok (.ireturn, 1) := by decide +kernel
theorem dX3_sum_11 : decode cX3_sum 11 = .ok (.iload_n 2, 1) := by decide +kernel
theorem dX3_sum_12 : decode cX3_sum 12 = .ok (.invokestatic 126, 3) := by decide +kernel
theorem dX3_sum_15 : decode cX3_sum 15 = .ok (.ifCond .eq 20, 3) := by decide +kernel
theorem dX3_sum_18 : decode cX3_sum 18 = .ok (.iload_n 3, 1) := by decide +kernel
theorem dX3_sum_19 : decode cX3_sum 19 = .ok (.iconst 0, 1) := by decide +kernel
theorem dX3_sum_20 : decode cX3_sum 20 = .ok (.aload_n 0, 1) := by decide +kernel
theorem dX3_sum_21 : decode cX3_sum 21 = .ok (.getfield 19, 3) := by decide +kernel
theorem dX3_sum_24 : decode cX3_sum 24 = .ok (.getfield 115, 3) := by decide +kernel
theorem dX3_sum_27 : decode cX3_sum 27 = .ok (.iconst 1, 1) := by decide +kernel
theorem dX3_sum_28 : decode cX3_sum 28 = .ok (.isub, 1) := by decide +kernel
theorem dX3_sum_29 : decode cX3_sum 29 = .ok (.invokestatic 44, 3) := by decide +kernel
theorem dX3_sum_32 : decode cX3_sum 32 = .ok (.ifCond .ne 6, 3) := by decide +kernel
theorem dX3_sum_35 : decode cX3_sum 35 = .ok (.ldc 129, 2) := by decide +kernel
theorem dX3_sum_37 : decode cX3_sum 37 = .ok (.ireturn, 1) := by decide +kernel
theorem dX3_sum_38 : decode cX3_sum 38 = .ok (.aload_n 0, 1) := by decide +kernel
theorem dX3_sum_39 : decode cX3_sum 39 = .ok (.getfield 10, 3) := by decide +kernel
theorem dX3_sum_42 : decode cX3_sum 42 = .ok (.invokevirtual 70, 3) := by decide +kernel
theorem dX3_sum_45 : decode cX3_sum 45 = .ok (.ifCond .ne 6, 3) := by decide +kernel
theorem dX3_sum_48 : decode cX3_sum 48 = .ok (.ldc 130, 2) := by decide +kernel
theorem dX3_sum_50 : decode cX3_sum 50 = .ok (.ireturn, 1) := by decide +kernel
theorem dX3_sum_51 : decode cX3_sum 51 = .ok (.aload_n 0, 1) := by decide +kernel
theorem dX3_sum_52 : decode cX3_sum 52 = .ok (.aload_n 0, 1) := by decide +kernel
theorem dX3_sum_53 : decode cX3_sum 53 = .ok (.getfield 30, 3) := by decide +kernel
theorem dX3_sum_56 : decode cX3_sum 56 = .ok (.iload_n 1, 1) := by decide +kernel
theorem dX3_sum_57 : decode cX3_sum 57 = .ok (.iload_n 2, 1) := by decide +kernel
theorem dX3_sum_58 : decode cX3_sum 58 = .ok (.aload_n 0, 1) := by decide +kernel
theorem dX3_sum_59 : decode cX3_sum 59 = .ok (.getfield 10, 3) := by decide +kernel
theorem dX3_sum_62 : decode cX3_sum 62 = .ok (.getfield 59, 3) := by decide +kernel
theorem dX3_sum_65 : decode cX3_sum 65 = .ok (.invokevirtual 131, 3) := by decide +kernel
theorem dX3_sum_68 : decode cX3_sum 68 = .ok (.aload_n 0, 1) := by decide +kernel
theorem dX3_sum_69 : decode cX3_sum 69 = .ok (.getfield 30, 3) := by decide +kernel
theorem dX3_sum_72 : decode cX3_sum 72 = .ok (.iload_n 3, 1) := by decide +kernel
theorem dX3_sum_73 : decode cX3_sum 73 = .ok (.invokestatic 121, 3) := by decide +kernel
theorem dX3_sum_76 : decode cX3_sum 76 = .ok (.ireturn, 1) := by decide +kernel
set_option maxRecDepth 20000 in
theorem ggX3_vanishes_X3_isWave : GoodIn wsX3_vanishes wsX3_isWave := goodIn_r _ [6, 7, 8, 5, 9] (by decide +kernel) (by decide +kernel)
set_option maxRecDepth 20000 in
theorem gX3_vanishes_X3_isWave : GoodIn wsX3_vanishes (va_wsS RX3 126 yX3_isWave wsX3_isWave) := goodIn_app (goodIn_of _ (by decide +kernel)) ggX3_vanishes_X3_isWave
set_option maxRecDepth 20000 in
theorem ggX3_vanishes_X1_isBalanced : GoodIn wsX3_vanishes wsX1_isBalanced := goodIn_r _ [14, 15, 16, 17, 13, 18, 19, 20, 21, 5, 22, 23, 24, 25, 26, 27, 28, 29, 30, 31, 99, 100, 101, 102, 103, 104] (by decide +kernel) (by decide +kernel)
set_option maxRecDepth 20000 in
theorem gX3_vanishes_X1_isBalanced : GoodIn wsX3_vanishes (wsV RX3 70 RX1 yX1_isBalanced wsX1_isBalanced) := goodIn_app (goodIn_of _ (by decide +kernel)) ggX3_vanishes_X1_isBalanced
set_option maxRecDepth 20000 in
theorem ggX3_vanishes_X3_isNothing : GoodIn wsX3_vanishes wsX3_isNothing := goodIn_r _ [35, 36, 37, 38, 39, 40, 5, 41, 1, 42, 43, 44, 45, 46, 47, 48, 49, 13, 50, 19, 51, 52, 53, 54, 20, 55, 56, 57, 58, 59, 60, 61, 28, 29, 30, 31, 62, 63, 64, 65, 66, 67, 68, 69, 70, 27, 71, 72, 73, 7, 8, 9, 74, 75, 76, 77, 78, 79, 80, 81, 82, 83, 84, 85, 86, 87, 88, 89, 90, 91, 92, 93, 94, 95, 96, 97, 98, 99, 100, 101, 102, 103, 104, 105, 106, 107] (by decide +kernel) (by decide +kernel)
set_option maxRecDepth 20000 in
theorem gX3_vanishes_X3_isNothing : GoodIn wsX3_vanishes (wsV RX3 135 RX3 yX3_isNothing wsX3_isNothing) := goodIn_app (goodIn_of _ (by decide +kernel)) ggX3_vanishes_X3_isNothing
theorem dX3_vanishes_0 : decode cX3_vanishes 0 = .ok (.iload_n 1, 1) := by decide +kernel
theorem dX3_vanishes_1 : decode cX3_vanishes 1 = .ok (.invokestatic 126, 3) := by decide +kernel
theorem dX3_vanishes_4 : decode cX3_vanishes 4 = .ok (.ifCond .ne 6, 3) := by decide +kernel
theorem dX3_vanishes_7 : decode cX3_vanishes 7 = .ok (.bipush (-2), 2) := by decide +kernel
theorem dX3_vanishes_9 : decode cX3_vanishes 9 = .ok (.ireturn, 1) := by decide +kernel
theorem dX3_vanishes_10 : decode cX3_vanishes 10 = .ok (.aload_n 0, 1) := by decide +kernel
theorem dX3_vanishes_11 : decode cX3_vanishes 11 = .ok (.getfield 10, 3) := by decide +kernel
theorem dX3_vanishes_14 : decode cX3_vanishes 14 = .ok (.invokevirtual 70, 3) := by decide +kernel
theorem dX3_vanishes_17 : decode cX3_vanishes 17 = .ok (.ifCond .ne 6, 3) := by decide +kernel
theorem dX3_vanishes_20 : decode cX3_vanishes 20 = .ok (.bipush (-3), 2) := by decide +kernel
theorem dX3_vanishes_22 : decode cX3_vanishes 22 = .ok (.ireturn, 1) := by decide +kernel
theorem dX3_vanishes_23 : decode cX3_vanishes 23 = .ok (.aload_n 0, 1) := by decide +kernel
theorem dX3_vanishes_24 : decode cX3_vanishes 24 = .ok (.iload_n 1, 1) := by decide +kernel
theorem dX3_vanishes_25 : decode cX3_vanishes 25 = .ok (.aload_n 0, 1) := by decide +kernel
theorem dX3_vanishes_26 : decode cX3_vanishes 26 = .ok (.getfield 10, 3) := by decide +kernel
theorem dX3_vanishes_29 : decode cX3_vanishes 29 = .ok (.getfield 59, 3) := by decide +kernel
theorem dX3_vanishes_32 : decode cX3_vanishes 32 = .ok (.invokevirtual 135, 3) := by decide +kernel
theorem dX3_vanishes_35 : decode cX3_vanishes 35 = .ok (.ifCond .eq 7, 3) := by decide +kernel
theorem dX3_vanishes_38 : decode cX3_vanishes 38 = .ok (.iconst 1, 1) := by decide +kernel
theorem dX3_vanishes_39 : decode cX3_vanishes 39 = .ok (.goto 4, 3) := by decide +kernel
theorem dX3_vanishes_42 : decode cX3_vanishes 42 = .ok (.iconst 0, 1) := by decide +kernel
theorem dX3_vanishes_43 : decode cX3_vanishes 43 = .ok (.ireturn, 1) := by decide +kernel
set_option maxRecDepth 20000 in
theorem ggX3_choose_X3_isWave : GoodIn wsX3_choose wsX3_isWave := goodIn_r _ [7, 8, 9, 6, 10] (by decide +kernel) (by decide +kernel)
set_option maxRecDepth 20000 in
theorem gX3_choose_X3_isWave : GoodIn wsX3_choose (va_wsS RX3 126 yX3_isWave wsX3_isWave) := goodIn_app (goodIn_of _ (by decide +kernel)) ggX3_choose_X3_isWave
set_option maxRecDepth 20000 in
theorem ggX3_choose_X1_isBalanced : GoodIn wsX3_choose wsX1_isBalanced := goodIn_r _ [15, 16, 17, 18, 14, 19, 20, 21, 22, 6, 23, 24, 25, 26, 27, 28, 29, 30, 31, 32, 107, 108, 109, 110, 111, 112] (by decide +kernel) (by decide +kernel)
set_option maxRecDepth 20000 in
theorem gX3_choose_X1_isBalanced : GoodIn wsX3_choose (wsV RX3 70 RX1 yX1_isBalanced wsX1_isBalanced) := goodIn_app (goodIn_of _ (by decide +kernel)) ggX3_choose_X1_isBalanced
set_option maxRecDepth 20000 in
theorem ggX3_choose_X3_poleWidth : GoodIn wsX3_choose wsX3_poleWidth := goodIn_r _ [35, 36, 37, 26, 38, 39, 31, 6, 32] (by decide +kernel) (by decide +kernel)
set_option maxRecDepth 20000 in
theorem gX3_choose_X3_poleWidth : GoodIn wsX3_choose (va_wsS RX3 48 yX3_poleWidth wsX3_poleWidth) := goodIn_app (goodIn_of _ (by decide +kernel)) ggX3_choose_X3_poleWidth
set_option maxRecDepth 20000 in
theorem ggX3_choose_X3_isNothing : GoodIn wsX3_choose wsX3_isNothing := goodIn_r _ [43, 44, 45, 46, 47, 48, 6, 49, 1, 50, 51, 52, 53, 54, 55, 56, 57, 14, 58, 20, 59, 60, 61, 62, 21, 63, 64, 65, 66, 67, 68, 69, 29, 30, 31, 32, 70, 71, 72, 73, 74, 75, 76, 77, 78, 28, 79, 80, 81, 8, 9, 10, 82, 83, 84, 85, 86, 87, 88, 89, 90, 91, 92, 93, 94, 95, 96, 97, 98, 99, 100, 101, 102, 103, 104, 105, 106, 107, 108, 109, 110, 111, 112, 113, 114, 115] (by decide +kernel) (by decide +kernel)
set_option maxRecDepth 20000 in
theorem gX3_choose_X3_isNothing : GoodIn wsX3_choose (wsV RX3 135 RX3 yX3_isNothing wsX3_isNothing) := goodIn_app (goodIn_of _ (by decide +kernel)) ggX3_choose_X3_isNothing
theorem dX3_choose_0 : decode cX3_choose 0 = .ok (.iload_n 1, 1) := by decide +kernel
theorem dX3_choose_1 : decode cX3_choose 1 = .ok (.invokestatic 126, 3) := by decide +kernel
theorem dX3_choose_4 : decode cX3_choose 4 = .ok (.ifCond .ne 6, 3) := by decide +kernel
theorem dX3_choose_7 : decode cX3_choose 7 = .ok (.bipush (-2), 2) := by decide +kernel
theorem dX3_choose_9 : decode cX3_choose 9 = .ok (.ireturn, 1) := by decide +kernel
theorem dX3_choose_10 : decode cX3_choose 10 = .ok (.aload_n 0, 1) := by decide +kernel
theorem dX3_choose_11 : decode cX3_choose 11 = .ok (.getfield 10, 3) := by decide +kernel
theorem dX3_choose_14 : decode cX3_choose 14 = .ok (.invokevirtual 70, 3) := by decide +kernel
theorem dX3_choose_17 : decode cX3_choose 17 = .ok (.ifCond .ne 6, 3) := by decide +kernel
theorem dX3_choose_20 : decode cX3_choose 20 = .ok (.bipush (-3), 2) := by decide +kernel
theorem dX3_choose_22 : decode cX3_choose 22 = .ok (.ireturn, 1) := by decide +kernel
theorem dX3_choose_23 : decode cX3_choose 23 = .ok (.aload_n 0, 1) := by decide +kernel
theorem dX3_choose_24 : decode cX3_choose 24 = .ok (.getfield 10, 3) := by decide +kernel
theorem dX3_choose_27 : decode cX3_choose 27 = .ok (.getfield 56, 3) := by decide +kernel
theorem dX3_choose_30 : decode cX3_choose 30 = .ok (.aload_n 0, 1) := by decide +kernel
theorem dX3_choose_31 : decode cX3_choose 31 = .ok (.getfield 10, 3) := by decide +kernel
theorem dX3_choose_34 : decode cX3_choose 34 = .ok (.getfield 103, 3) := by decide +kernel
theorem dX3_choose_37 : decode cX3_choose 37 = .ok (.invokestatic 48, 3) := by decide +kernel
theorem dX3_choose_40 : decode cX3_choose 40 = .ok (.istore_n 2, 1) := by decide +kernel
theorem dX3_choose_41 : decode cX3_choose 41 = .ok (.iload_n 2, 1) := by decide +kernel
theorem dX3_choose_42 : decode cX3_choose 42 = .ok (.iconst 1, 1) := by decide +kernel
theorem dX3_choose_43 : decode cX3_choose 43 = .ok (.if_icmp .lt 20, 3) := by decide +kernel
theorem dX3_choose_46 : decode cX3_choose 46 = .ok (.aload_n 0, 1) := by decide +kernel
theorem dX3_choose_47 : decode cX3_choose 47 = .ok (.iload_n 1, 1) := by decide +kernel
theorem dX3_choose_48 : decode cX3_choose 48 = .ok (.iload_n 2, 1) := by decide +kernel
theorem dX3_choose_49 : decode cX3_choose 49 = .ok (.invokevirtual 135, 3) := by decide +kernel
theorem dX3_choose_52 : decode cX3_choose 52 = .ok (.ifCond .eq 5, 3) := by decide +kernel
theorem dX3_choose_55 : decode cX3_choose 55 = .ok (.iload_n 2, 1) := by decide +kernel
theorem dX3_choose_56 : decode cX3_choose 56 = .ok (.ireturn, 1) := by decide +kernel
theorem dX3_choose_57 : decode cX3_choose 57 = .ok (.iinc 2 (-1), 3) := by decide +kernel
theorem dX3_choose_60 : decode cX3_choose 60 = .ok (.goto (-19), 3) := by decide +kernel
theorem dX3_choose_63 : decode cX3_choose 63 = .ok (.bipush (-6), 2) := by decide +kernel
theorem dX3_choose_65 : decode cX3_choose 65 = .ok (.ireturn, 1) := by decide +kernel
set_option maxRecDepth 20000 in
theorem ggX3_turned_X3_isPhase : GoodIn wsX3_turned wsX3_isPhase := goodIn_r _ [11, 1, 12, 13, 14, 10, 15, 99, 100, 101, 102, 103, 104, 105, 106, 107, 108, 109, 110] (by decide +kernel) (by decide +kernel)
set_option maxRecDepth 20000 in
theorem gX3_turned_X3_isPhase : GoodIn wsX3_turned (wsV RX3 96 RX3 yX3_isPhase wsX3_isPhase) := goodIn_app (goodIn_of _ (by decide +kernel)) ggX3_turned_X3_isPhase
set_option maxRecDepth 20000 in
theorem ggX3_turned_X3_isWave : GoodIn wsX3_turned wsX3_isWave := goodIn_r _ [18, 13, 14, 10, 15] (by decide +kernel) (by decide +kernel)
set_option maxRecDepth 20000 in
theorem gX3_turned_X3_isWave : GoodIn wsX3_turned (va_wsS RX3 126 yX3_isWave wsX3_isWave) := goodIn_app (goodIn_of _ (by decide +kernel)) ggX3_turned_X3_isWave
set_option maxRecDepth 20000 in
theorem ggX3_turned_X1_isBalanced : GoodIn wsX3_turned wsX1_isBalanced := goodIn_r _ [23, 24, 25, 26, 22, 27, 28, 29, 30, 10, 31, 32, 33, 34, 35, 36, 37, 38, 39, 40, 105, 106, 107, 108, 109, 110] (by decide +kernel) (by decide +kernel)
set_option maxRecDepth 20000 in
theorem gX3_turned_X1_isBalanced : GoodIn wsX3_turned (wsV RX3 70 RX1 yX1_isBalanced wsX1_isBalanced) := goodIn_app (goodIn_of _ (by decide +kernel)) ggX3_turned_X1_isBalanced
set_option maxRecDepth 20000 in
theorem ggX3_turned_X3_addUp : GoodIn wsX3_turned wsX3_addUp := goodIn_r _ [44, 1, 5, 6, 45, 46, 47, 48, 49, 50, 51, 22, 52, 28, 53, 54, 55, 56, 29, 57, 58, 59, 60, 61, 62, 63, 37, 10, 38, 39, 40, 64, 65, 66, 67, 68, 69, 70, 71, 72, 36, 73, 74, 75, 13, 14, 15, 76, 77, 78, 79, 80, 81, 82, 83, 84, 85, 86, 87, 88, 89, 90, 99, 100, 101, 102, 103, 104, 105, 106, 107, 108, 109, 110, 111, 112, 113] (by decide +kernel) (by decide +kernel)
set_option maxRecDepth 20000 in
theorem gX3_turned_X3_addUp : GoodIn wsX3_turned (wsV RX3 131 RX3 yX3_addUp wsX3_addUp) := goodIn_app (goodIn_of _ (by decide +kernel)) ggX3_turned_X3_addUp
set_option maxRecDepth 20000 in
theorem ggX3_turned_X2_areSame : GoodIn wsX3_turned wsX2_areSame := goodIn_r _ [94, 89, 74, 10, 75, 13, 14, 15, 111, 112, 113] (by decide +kernel) (by decide +kernel)
set_option maxRecDepth 20000 in
theorem gX3_turned_X2_areSame : GoodIn wsX3_turned (wsV RX3 139 RX2 yX2_areSame wsX2_areSame) := goodIn_app (goodIn_of _ (by decide +kernel)) ggX3_turned_X2_areSame
set_option maxRecDepth 20000 in
theorem ggX3_turned_X2_multiplyByX : GoodIn wsX3_turned wsX2_multiplyByX := goodIn_r _ [98, 89, 90, 74, 10, 75, 13, 14, 15, 77, 78, 111, 112, 113] (by decide +kernel) (by decide +kernel)
set_option maxRecDepth 20000 in
theorem gX3_turned_X2_multiplyByX : GoodIn wsX3_turned (wsV RX3 143 RX2 yX2_multiplyByX wsX2_multiplyByX) := goodIn_app (goodIn_of _ (by decide +kernel)) ggX3_turned_X2_multiplyByX
theorem dX3_turned_0 : decode cX3_turned 0 = .ok (.aload_n 0, 1) := by decide +kernel
theorem dX3_turned_1 : decode cX3_turned 1 = .ok (.iload_n 1, 1) := by decide +kernel
theorem dX3_turned_2 : decode cX3_turned 2 = .ok (.invokevirtual 96, 3) := by decide +kernel
theorem dX3_turned_5 : decode cX3_turned 5 = .ok (.ifCond .eq 11, 3) := by decide +kernel
theorem dX3_turned_8 : decode cX3_turned 8 = .ok (.aload_n 0, 1) := by decide +kernel
theorem dX3_turned_9 : decode cX3_turned 9 = .ok (.iload_n 2, 1) := by decide +kernel
theorem dX3_turned_10 : decode cX3_turned 10 = .ok (.invokevirtual 96, 3) := by decide +kernel
theorem dX3_turned_13 : decode cX3_turned 13 = .ok (.ifCond .ne 5, 3) := by decide +kernel
theorem dX3_turned_16 : decode cX3_turned 16 = .ok (.iconst (-1), 1) := by decide +kernel
theorem dX3_turned_17 : decode cX3_turned 17 = .ok (.ireturn, 1) := by decide +kernel
theorem dX3_turned_18 : decode cX3_turned 18 = .ok (.iload_n 3, 1) := by decide +kernel
theorem dX3_turned_19 : decode cX3_turned 19 = .ok (.invokestatic 126, 3) := by decide +kernel
theorem dX3_turned_22 : decode cX3_turned 22 = .ok (.ifCond .ne 6, 3) := by decide +kernel
theorem dX3_turned_25 : decode cX3_turned 25 = .ok (.bipush (-2), 2) := by decide +kernel
theorem dX3_turned_27 : decode cX3_turned 27 = .ok (.ireturn, 1) := by decide +kernel
theorem dX3_turned_28 : decode cX3_turned 28 = .ok (.aload_n 0, 1) := by decide +kernel
theorem dX3_turned_29 : decode cX3_turned 29 = .ok (.getfield 10, 3) := by decide +kernel
theorem dX3_turned_32 : decode cX3_turned 32 = .ok (.invokevirtual 70, 3) := by decide +kernel
theorem dX3_turned_35 : decode cX3_turned 35 = .ok (.ifCond .ne 6, 3) := by decide +kernel
theorem dX3_turned_38 : decode cX3_turned 38 = .ok (.bipush (-3), 2) := by decide +kernel
theorem dX3_turned_40 : decode cX3_turned 40 = .ok (.ireturn, 1) := by decide +kernel
theorem dX3_turned_41 : decode cX3_turned 41 = .ok (.aload_n 0, 1) := by decide +kernel
theorem dX3_turned_42 : decode cX3_turned 42 = .ok (.aload_n 0, 1) := by decide +kernel
theorem dX3_turned_43 : decode cX3_turned 43 = .ok (.getfield 30, 3) := by decide +kernel
theorem dX3_turned_46 : decode cX3_turned 46 = .ok (.iload_n 1, 1) := by decide +kernel
theorem dX3_turned_47 : decode cX3_turned 47 = .ok (.iload_n 3, 1) := by decide +kernel
theorem dX3_turned_48 : decode cX3_turned 48 = .ok (.aload_n 0, 1) := by decide +kernel
theorem dX3_turned_49 : decode cX3_turned 49 = .ok (.getfield 10, 3) := by decide +kernel
theorem dX3_turned_52 : decode cX3_turned 52 = .ok (.getfield 59, 3) := by decide +kernel
theorem dX3_turned_55 : decode cX3_turned 55 = .ok (.invokevirtual 131, 3) := by decide +kernel
theorem dX3_turned_58 : decode cX3_turned 58 = .ok (.aload_n 0, 1) := by decide +kernel
theorem dX3_turned_59 : decode cX3_turned 59 = .ok (.aload_n 0, 1) := by decide +kernel
theorem dX3_turned_60 : decode cX3_turned 60 = .ok (.getfield 34, 3) := by decide +kernel
theorem dX3_turned_63 : decode cX3_turned 63 = .ok (.iload_n 2, 1) := by decide +kernel
theorem dX3_turned_64 : decode cX3_turned 64 = .ok (.iload_n 3, 1) := by decide +kernel
theorem dX3_turned_65 : decode cX3_turned 65 = .ok (.aload_n 0, 1) := by decide +kernel
