set_option maxRecDepth 20000 in
theorem ggX6_init_X2_init : GoodIn wsX6_init wsX2_init := goodIn_r _ [26, 27, 2, 3, 28, 29, 30, 92, 93] (by decide +kernel) (by decide +kernel)
set_option maxRecDepth 20000 in
theorem gX6_init_X2_init_n11 : GoodIn wsX6_init (wsX2_init) := ggX6_init_X2_init
set_option maxRecDepth 20000 in
theorem ggX6_init_X4_init : GoodIn wsX6_init wsX4_init := goodIn_r _ [32, 33, 2, 3, 34, 35, 36, 37, 38, 17, 18, 39, 40, 41, 42, 43, 44, 45, 46, 47, 48, 49, 50, 51, 52, 53, 54, 55, 28, 56, 57, 58, 59, 60, 61, 62, 63, 64, 65, 66, 67, 68, 69, 70, 71, 72, 73, 74, 75, 76, 77, 78, 79, 80, 81, 82, 83, 84, 116, 117, 118, 101, 102, 103, 104, 105, 106, 107, 108, 109, 110, 111, 119, 120] (by decide +kernel) (by decide +kernel)
set_option maxRecDepth 20000 in
theorem gX6_init_X4_init_n18 : GoodIn wsX6_init (wsX4_init) := ggX6_init_X4_init
set_option maxRecDepth 20000 in
theorem ggX6_init_X0_init : GoodIn wsX6_init wsX0_init := goodIn_r _ [51, 52, 2, 3, 53, 54, 55, 28, 56, 57, 58, 59, 60, 104, 105, 106, 107, 108, 109, 110, 111] (by decide +kernel) (by decide +kernel)
set_option maxRecDepth 20000 in
theorem gX6_init_X0_init_n35 : GoodIn wsX6_init (wsX0_init) := ggX6_init_X0_init
set_option maxRecDepth 20000 in
theorem ggX6_init_X3_init : GoodIn wsX6_init wsX3_init := goodIn_r _ [86, 87, 2, 3, 28, 88, 89, 90, 91, 112, 113, 114, 115] (by decide +kernel) (by decide +kernel)
set_option maxRecDepth 20000 in
theorem gX6_init_X3_init_n41 : GoodIn wsX6_init (wsX3_init) := ggX6_init_X3_init
theorem dX6_init_0 : decode cX6_init 0 = .ok (.aload_n 0, 1) := by decide +kernel
theorem dX6_init_1 : decode cX6_init 1 = .ok (.invokespecial 3, 3) := by decide +kernel
theorem dX6_init_4 : decode cX6_init 4 = .ok (.aload_n 0, 1) := by decide +kernel
theorem dX6_init_5 : decode cX6_init 5 = .ok (.new 9, 3) := by decide +kernel
theorem dX6_init_8 : decode cX6_init 8 = .ok (.dup, 1) := by decide +kernel
theorem dX6_init_9 : decode cX6_init 9 = .ok (.invokespecial 11, 3) := by decide +kernel
theorem dX6_init_12 : decode cX6_init 12 = .ok (.putfield 12, 3) := by decide +kernel
theorem dX6_init_15 : decode cX6_init 15 = .ok (.aload_n 0, 1) := by decide +kernel
theorem dX6_init_16 : decode cX6_init 16 = .ok (.new 16, 3) := by decide +kernel
theorem dX6_init_19 : decode cX6_init 19 = .ok (.dup, 1) := by decide +kernel
theorem dX6_init_20 : decode cX6_init 20 = .ok (.invokespecial 18, 3) := by decide +kernel
theorem dX6_init_23 : decode cX6_init 23 = .ok (.putfield 19, 3) := by decide +kernel
theorem dX6_init_26 : decode cX6_init 26 = .ok (.aload_n 0, 1) := by decide +kernel
theorem dX6_init_27 : decode cX6_init 27 = .ok (.aload_n 0, 1) := by decide +kernel
theorem dX6_init_28 : decode cX6_init 28 = .ok (.getfield 19, 3) := by decide +kernel
theorem dX6_init_31 : decode cX6_init 31 = .ok (.getfield 23, 3) := by decide +kernel
theorem dX6_init_34 : decode cX6_init 34 = .ok (.putfield 27, 3) := by decide +kernel
theorem dX6_init_37 : decode cX6_init 37 = .ok (.aload_n 0, 1) := by decide +kernel
theorem dX6_init_38 : decode cX6_init 38 = .ok (.aload_n 0, 1) := by decide +kernel
theorem dX6_init_39 : decode cX6_init 39 = .ok (.getfield 19, 3) := by decide +kernel
theorem dX6_init_42 : decode cX6_init 42 = .ok (.getfield 28, 3) := by decide +kernel
theorem dX6_init_45 : decode cX6_init 45 = .ok (.putfield 32, 3) := by decide +kernel
theorem dX6_init_48 : decode cX6_init 48 = .ok (.aload_n 0, 1) := by decide +kernel
theorem dX6_init_49 : decode cX6_init 49 = .ok (.new 33, 3) := by decide +kernel
theorem dX6_init_52 : decode cX6_init 52 = .ok (.dup, 1) := by decide +kernel
theorem dX6_init_53 : decode cX6_init 53 = .ok (.invokespecial 35, 3) := by decide +kernel
theorem dX6_init_56 : decode cX6_init 56 = .ok (.putfield 36, 3) := by decide +kernel
theorem dX6_init_59 : decode cX6_init 59 = .ok (.aload_n 0, 1) := by decide +kernel
theorem dX6_init_60 : decode cX6_init 60 = .ok (.new 39, 3) := by decide +kernel
theorem dX6_init_63 : decode cX6_init 63 = .ok (.dup, 1) := by decide +kernel
theorem dX6_init_64 : decode cX6_init 64 = .ok (.invokespecial 41, 3) := by decide +kernel
theorem dX6_init_67 : decode cX6_init 67 = .ok (.putfield 42, 3) := by decide +kernel
theorem dX6_init_70 : decode cX6_init 70 = .ok (.aload_n 0, 1) := by decide +kernel
theorem dX6_init_71 : decode cX6_init 71 = .ok (.iconst 0, 1) := by decide +kernel
theorem dX6_init_72 : decode cX6_init 72 = .ok (.putfield 46, 3) := by decide +kernel
theorem dX6_init_75 : decode cX6_init 75 = .ok (.return_, 1) := by decide +kernel
set_option maxRecDepth 20000 in
theorem ggX6_letter_X2_add : GoodIn wsX6_letter wsX2_add := goodIn_r _ [6, 7, 8, 16, 17] (by decide +kernel) (by decide +kernel)
set_option maxRecDepth 20000 in
theorem gX6_letter_X2_add : GoodIn wsX6_letter (wsV RX6 50 RX2 yX2_add wsX2_add) := goodIn_app (goodIn_of _ (by decide +kernel)) ggX6_letter_X2_add
theorem dX6_letter_0 : decode cX6_letter 0 = .ok (.iload_n 1, 1) := by decide +kernel
theorem dX6_letter_1 : decode cX6_letter 1 = .ok (.bipush 32, 2) := by decide +kernel
theorem dX6_letter_3 : decode cX6_letter 3 = .ok (.if_icmp .lt 9, 3) := by decide +kernel
theorem dX6_letter_6 : decode cX6_letter 6 = .ok (.iload_n 1, 1) := by decide +kernel
theorem dX6_letter_7 : decode cX6_letter 7 = .ok (.bipush 126, 2) := by decide +kernel
theorem dX6_letter_9 : decode cX6_letter 9 = .ok (.if_icmp .le 6, 3) := by decide +kernel
theorem dX6_letter_12 : decode cX6_letter 12 = .ok (.bipush (-102), 2) := by decide +kernel
theorem dX6_letter_14 : decode cX6_letter 14 = .ok (.ireturn, 1) := by decide +kernel
theorem dX6_letter_15 : decode cX6_letter 15 = .ok (.aload_n 0, 1) := by decide +kernel
theorem dX6_letter_16 : decode cX6_letter 16 = .ok (.getfield 12, 3) := by decide +kernel
theorem dX6_letter_19 : decode cX6_letter 19 = .ok (.iload_n 1, 1) := by decide +kernel
theorem dX6_letter_20 : decode cX6_letter 20 = .ok (.invokevirtual 50, 3) := by decide +kernel
theorem dX6_letter_23 : decode cX6_letter 23 = .ok (.ireturn, 1) := by decide +kernel
set_option maxRecDepth 20000 in
theorem ggX6_blank_X2_clear : GoodIn wsX6_blank wsX2_clear := goodIn_r _ [6, 7, 15, 16] (by decide +kernel) (by decide +kernel)
set_option maxRecDepth 20000 in
theorem gX6_blank_X2_clear : GoodIn wsX6_blank (wsV RX6 54 RX2 yX2_clear wsX2_clear) := goodIn_app (goodIn_of _ (by decide +kernel)) ggX6_blank_X2_clear
theorem dX6_blank_0 : decode cX6_blank 0 = .ok (.aload_n 0, 1) := by decide +kernel
theorem dX6_blank_1 : decode cX6_blank 1 = .ok (.getfield 12, 3) := by decide +kernel
theorem dX6_blank_4 : decode cX6_blank 4 = .ok (.invokevirtual 54, 3) := by decide +kernel
theorem dX6_blank_7 : decode cX6_blank 7 = .ok (.ireturn, 1) := by decide +kernel
set_option maxRecDepth 20000 in
theorem ggX6_fault_X2_firstFault : GoodIn wsX6_fault wsX2_firstFault := goodIn_r _ [6, 7, 8, 9, 10, 5, 11, 12, 13, 14, 15, 16, 24, 25] (by decide +kernel) (by decide +kernel)
set_option maxRecDepth 20000 in
theorem gX6_fault_X2_firstFault : GoodIn wsX6_fault (wsV RX6 58 RX2 yX2_firstFault wsX2_firstFault) := goodIn_app (goodIn_of _ (by decide +kernel)) ggX6_fault_X2_firstFault
theorem dX6_fault_0 : decode cX6_fault 0 = .ok (.aload_n 0, 1) := by decide +kernel
theorem dX6_fault_1 : decode cX6_fault 1 = .ok (.getfield 12, 3) := by decide +kernel
theorem dX6_fault_4 : decode cX6_fault 4 = .ok (.invokevirtual 58, 3) := by decide +kernel
theorem dX6_fault_7 : decode cX6_fault 7 = .ok (.ireturn, 1) := by decide +kernel
set_option maxRecDepth 20000 in
theorem ggX6_hall_X2_isHall : GoodIn wsX6_hall wsX2_isHall := goodIn_r _ [9, 10, 11, 12, 13, 8, 14, 15, 16, 17, 18, 19, 20, 21, 22, 23, 67, 68] (by decide +kernel) (by decide +kernel)
set_option maxRecDepth 20000 in
theorem gX6_hall_X2_isHall : GoodIn wsX6_hall (wsV RX6 61 RX2 yX2_isHall wsX2_isHall) := goodIn_app (goodIn_of _ (by decide +kernel)) ggX6_hall_X2_isHall
set_option maxRecDepth 20000 in
theorem ggX6_hall_X2_clear : GoodIn wsX6_hall wsX2_clear := goodIn_r _ [49, 10, 67, 68] (by decide +kernel) (by decide +kernel)
set_option maxRecDepth 20000 in
theorem gX6_hall_X2_clear : GoodIn wsX6_hall (wsV RX6 54 RX2 yX2_clear wsX2_clear) := goodIn_app (goodIn_of _ (by decide +kernel)) ggX6_hall_X2_clear
theorem dX6_hall_0 : decode cX6_hall 0 = .ok (.aload_n 0, 1) := by decide +kernel
theorem dX6_hall_1 : decode cX6_hall 1 = .ok (.getfield 12, 3) := by decide +kernel
theorem dX6_hall_4 : decode cX6_hall 4 = .ok (.invokevirtual 61, 3) := by decide +kernel
theorem dX6_hall_7 : decode cX6_hall 7 = .ok (.ifCond .ne 6, 3) := by decide +kernel
theorem dX6_hall_10 : decode cX6_hall 10 = .ok (.bipush (-103), 2) := by decide +kernel
theorem dX6_hall_12 : decode cX6_hall 12 = .ok (.ireturn, 1) := by decide +kernel
theorem dX6_hall_13 : decode cX6_hall 13 = .ok (.aload_n 0, 1) := by decide +kernel
theorem dX6_hall_14 : decode cX6_hall 14 = .ok (.getfield 27, 3) := by decide +kernel
theorem dX6_hall_17 : decode cX6_hall 17 = .ok (.aload_n 0, 1) := by decide +kernel
theorem dX6_hall_18 : decode cX6_hall 18 = .ok (.getfield 12, 3) := by decide +kernel
theorem dX6_hall_21 : decode cX6_hall 21 = .ok (.invokevirtual 65, 3) := by decide +kernel
theorem dX6_hall_24 : decode cX6_hall 24 = .ok (.aload_n 0, 1) := by decide +kernel
theorem dX6_hall_25 : decode cX6_hall 25 = .ok (.getfield 12, 3) := by decide +kernel
theorem dX6_hall_28 : decode cX6_hall 28 = .ok (.invokevirtual 54, 3) := by decide +kernel
theorem dX6_hall_31 : decode cX6_hall 31 = .ok (.pop, 1) := by decide +kernel
theorem dX6_hall_32 : decode cX6_hall 32 = .ok (.aload_n 0, 1) := by decide +kernel
theorem dX6_hall_33 : decode cX6_hall 33 = .ok (.getfield 32, 3) := by decide +kernel
theorem dX6_hall_36 : decode cX6_hall 36 = .ok (.invokevirtual 71, 3) := by decide +kernel
theorem dX6_hall_39 : decode cX6_hall 39 = .ok (.aload_n 0, 1) := by decide +kernel
theorem dX6_hall_40 : decode cX6_hall 40 = .ok (.getfield 27, 3) := by decide +kernel
theorem dX6_hall_43 : decode cX6_hall 43 = .ok (.getfield 74, 3) := by decide +kernel
theorem dX6_hall_46 : decode cX6_hall 46 = .ok (.ireturn, 1) := by decide +kernel
set_option maxRecDepth 20000 in
theorem ggX6_on_X6_isPlace : GoodIn wsX6_on wsX6_isPlace := goodIn_r _ [8] (by decide +kernel) (by decide +kernel)
set_option maxRecDepth 20000 in
theorem gX6_on_X6_isPlace : GoodIn wsX6_on (va_wsS RX6 77 yX6_isPlace wsX6_isPlace) := goodIn_app (goodIn_of _ (by decide +kernel)) ggX6_on_X6_isPlace
set_option maxRecDepth 20000 in
theorem ggX6_on_X1_isMissing : GoodIn wsX6_on wsX1_isMissing := goodIn_r _ [13, 14, 38, 39, 40] (by decide +kernel) (by decide +kernel)
set_option maxRecDepth 20000 in
theorem gX6_on_X1_isMissing : GoodIn wsX6_on (wsV RX6 81 RX1 yX1_isMissing wsX1_isMissing) := goodIn_app (goodIn_of _ (by decide +kernel)) ggX6_on_X1_isMissing
set_option maxRecDepth 20000 in
theorem ggX6_on_X6_placeOf : GoodIn wsX6_on wsX6_placeOf := goodIn_r _ [23] (by decide +kernel) (by decide +kernel)
set_option maxRecDepth 20000 in
theorem gX6_on_X6_placeOf : GoodIn wsX6_on (va_wsS RX6 94 yX6_placeOf wsX6_placeOf) := goodIn_app (goodIn_of _ (by decide +kernel)) ggX6_on_X6_placeOf
theorem dX6_on_0 : decode cX6_on 0 = .ok (.iload_n 1, 1) := by decide +kernel
theorem dX6_on_1 : decode cX6_on 1 = .ok (.invokestatic 77, 3) := by decide +kernel
theorem dX6_on_4 : decode cX6_on 4 = .ok (.ifCond .ne 6, 3) := by decide +kernel
theorem dX6_on_7 : decode cX6_on 7 = .ok (.bipush (-101), 2) := by decide +kernel
theorem dX6_on_9 : decode cX6_on 9 = .ok (.ireturn, 1) := by decide +kernel
theorem dX6_on_10 : decode cX6_on 10 = .ok (.aload_n 0, 1) := by decide +kernel
theorem dX6_on_11 : decode cX6_on 11 = .ok (.getfield 27, 3) := by decide +kernel
theorem dX6_on_14 : decode cX6_on 14 = .ok (.invokevirtual 81, 3) := by decide +kernel
theorem dX6_on_17 : decode cX6_on 17 = .ok (.ifCond .eq 6, 3) := by decide +kernel
theorem dX6_on_20 : decode cX6_on 20 = .ok (.bipush (-103), 2) := by decide +kernel
theorem dX6_on_22 : decode cX6_on 22 = .ok (.ireturn, 1) := by decide +kernel
theorem dX6_on_23 : decode cX6_on 23 = .ok (.iload_n 1, 1) := by decide +kernel
theorem dX6_on_24 : decode cX6_on 24 = .ok (.aload_n 0, 1) := by decide +kernel
theorem dX6_on_25 : decode cX6_on 25 = .ok (.getfield 27, 3) := by decide +kernel
theorem dX6_on_28 : decode cX6_on 28 = .ok (.getfield 84, 3) := by decide +kernel
theorem dX6_on_31 : decode cX6_on 31 = .ok (.invokestatic 87, 3) := by decide +kernel
theorem dX6_on_34 : decode cX6_on 34 = .ok (.ifCond .ne 6, 3) := by decide +kernel
theorem dX6_on_37 : decode cX6_on 37 = .ok (.bipush (-2), 2) := by decide +kernel
theorem dX6_on_39 : decode cX6_on 39 = .ok (.ireturn, 1) := by decide +kernel
theorem dX6_on_40 : decode cX6_on 40 = .ok (.iload_n 1, 1) := by decide +kernel
theorem dX6_on_41 : decode cX6_on 41 = .ok (.aload_n 0, 1) := by decide +kernel
theorem dX6_on_42 : decode cX6_on 42 = .ok (.getfield 32, 3) := by decide +kernel
theorem dX6_on_45 : decode cX6_on 45 = .ok (.getfield 91, 3) := by decide +kernel
theorem dX6_on_48 : decode cX6_on 48 = .ok (.invokestatic 94, 3) := by decide +kernel
theorem dX6_on_51 : decode cX6_on 51 = .ok (.if_icmp .ne 8, 3) := by decide +kernel
theorem dX6_on_54 : decode cX6_on 54 = .ok (.bipush 9, 2) := by decide +kernel
theorem dX6_on_56 : decode cX6_on 56 = .ok (.goto 11, 3) := by decide +kernel
theorem dX6_on_59 : decode cX6_on 59 = .ok (.aload_n 0, 1) := by decide +kernel
theorem dX6_on_60 : decode cX6_on 60 = .ok (.getfield 32, 3) := by decide +kernel
theorem dX6_on_63 : decode cX6_on 63 = .ok (.iload_n 1, 1) := by decide +kernel
theorem dX6_on_64 : decode cX6_on 64 = .ok (.invokevirtual 97, 3) := by decide +kernel
theorem dX6_on_67 : decode cX6_on 67 = .ok (.ireturn, 1) := by decide +kernel
set_option maxRecDepth 20000 in
theorem ggX6_duke_X6_isPlace : GoodIn wsX6_duke wsX6_isPlace := goodIn_r _ [8] (by decide +kernel) (by decide +kernel)
set_option maxRecDepth 20000 in
theorem gX6_duke_X6_isPlace : GoodIn wsX6_duke (va_wsS RX6 77 yX6_isPlace wsX6_isPlace) := goodIn_app (goodIn_of _ (by decide +kernel)) ggX6_duke_X6_isPlace
set_option maxRecDepth 20000 in
theorem ggX6_duke_X1_isMissing : GoodIn wsX6_duke wsX1_isMissing := goodIn_r _ [13, 14, 38, 39, 40] (by decide +kernel) (by decide +kernel)
set_option maxRecDepth 20000 in
theorem gX6_duke_X1_isMissing : GoodIn wsX6_duke (wsV RX6 81 RX1 yX1_isMissing wsX1_isMissing) := goodIn_app (goodIn_of _ (by decide +kernel)) ggX6_duke_X1_isMissing
set_option maxRecDepth 20000 in
theorem ggX6_duke_X0_people : GoodIn wsX6_duke wsX0_people := goodIn_r _ [19, 20, 21, 22, 7, 23, 41, 42, 43, 44, 45, 46, 47, 48] (by decide +kernel) (by decide +kernel)
set_option maxRecDepth 20000 in
theorem gX6_duke_X0_people : GoodIn wsX6_duke (wsV RX6 100 RX0 yX0_people wsX0_people) := goodIn_app (goodIn_of _ (by decide +kernel)) ggX6_duke_X0_people
theorem dX6_duke_0 : decode cX6_duke 0 = .ok (.iload_n 1, 1) := by decide +kernel
theorem dX6_duke_1 : decode cX6_duke 1 = .ok (.invokestatic 77, 3) := by decide +kernel
theorem dX6_duke_4 : decode cX6_duke 4 = .ok (.ifCond .ne 6, 3) := by decide +kernel
theorem dX6_duke_7 : decode cX6_duke 7 = .ok (.bipush (-101), 2) := by decide +kernel
theorem dX6_duke_9 : decode cX6_duke 9 = .ok (.ireturn, 1) := by decide +kernel
theorem dX6_duke_10 : decode cX6_duke 10 = .ok (.iload_n 2, 1) := by decide +kernel
theorem dX6_duke_11 : decode cX6_duke 11 = .ok (.ifCond .lt 8, 3) := by decide +kernel
theorem dX6_duke_14 : decode cX6_duke 14 = .ok (.iload_n 2, 1) := by decide +kernel
theorem dX6_duke_15 : decode cX6_duke 15 = .ok (.iconst 4, 1) := by decide +kernel
theorem dX6_duke_16 : decode cX6_duke 16 = .ok (.if_icmp .lt 6, 3) := by decide +kernel
theorem dX6_duke_19 : decode cX6_duke 19 = .ok (.bipush (-102), 2) := by decide +kernel
theorem dX6_duke_21 : decode cX6_duke 21 = .ok (.ireturn, 1) := by decide +kernel
theorem dX6_duke_22 : decode cX6_duke 22 = .ok (.aload_n 0, 1) := by decide +kernel
theorem dX6_duke_23 : decode cX6_duke 23 = .ok (.getfield 27, 3) := by decide +kernel
theorem dX6_duke_26 : decode cX6_duke 26 = .ok (.invokevirtual 81, 3) := by decide +kernel
theorem dX6_duke_29 : decode cX6_duke 29 = .ok (.ifCond .ne 25, 3) := by decide +kernel
theorem dX6_duke_32 : decode cX6_duke 32 = .ok (.iload_n 1, 1) := by decide +kernel
theorem dX6_duke_33 : decode cX6_duke 33 = .ok (.aload_n 0, 1) := by decide +kernel
theorem dX6_duke_34 : decode cX6_duke 34 = .ok (.getfield 27, 3) := by decide +kernel
theorem dX6_duke_37 : decode cX6_duke 37 = .ok (.getfield 84, 3) := by decide +kernel
theorem dX6_duke_40 : decode cX6_duke 40 = .ok (.aload_n 0, 1) := by decide +kernel
theorem dX6_duke_41 : decode cX6_duke 41 = .ok (.getfield 32, 3) := by decide +kernel
theorem dX6_duke_44 : decode cX6_duke 44 = .ok (.invokevirtual 100, 3) := by decide +kernel
theorem dX6_duke_47 : decode cX6_duke 47 = .ok (.ior, 1) := by decide +kernel
theorem dX6_duke_48 : decode cX6_duke 48 = .ok (.invokestatic 87, 3) := by decide +kernel
theorem dX6_duke_51 : decode cX6_duke 51 = .ok (.ifCond .ne 6, 3) := by decide +kernel
theorem dX6_duke_54 : decode cX6_duke 54 = .ok (.bipush (-103), 2) := by decide +kernel
theorem dX6_duke_56 : decode cX6_duke 56 = .ok (.ireturn, 1) := by decide +kernel
theorem dX6_duke_57 : decode cX6_duke 57 = .ok (.aload_n 0, 1) := by decide +kernel
theorem dX6_duke_58 : decode cX6_duke 58 = .ok (.getfield 32, 3) := by decide +kernel
theorem dX6_duke_61 : decode cX6_duke 61 = .ok (.iload_n 1, 1) := by decide +kernel
theorem dX6_duke_62 : decode cX6_duke 62 = .ok (.iload_n 2, 1) := by decide +kernel
theorem dX6_duke_63 : decode cX6_duke 63 = .ok (.invokestatic 103, 3) := by decide +kernel
theorem dX6_duke_66 : decode cX6_duke 66 = .ok (.putfield 91, 3) := by decide +kernel
theorem dX6_duke_69 : decode cX6_duke 69 = .ok (.aload_n 0, 1) := by decide +kernel
theorem dX6_duke_70 : decode cX6_duke 70 = .ok (.getfield 32, 3) := by decide +kernel
theorem dX6_duke_73 : decode cX6_duke 73 = .ok (.getfield 91, 3) := by decide +kernel
theorem dX6_duke_76 : decode cX6_duke 76 = .ok (.ireturn, 1) := by decide +kernel
set_option maxRecDepth 20000 in
theorem ggX6_courtier_X6_isPlace : GoodIn wsX6_courtier wsX6_isPlace := goodIn_r _ [7] (by decide +kernel) (by decide +kernel)
set_option maxRecDepth 20000 in
theorem gX6_courtier_X6_isPlace : GoodIn wsX6_courtier (va_wsS RX6 77 yX6_isPlace wsX6_isPlace) := goodIn_app (goodIn_of _ (by decide +kernel)) ggX6_courtier_X6_isPlace
set_option maxRecDepth 20000 in
theorem ggX6_courtier_X6_isKind : GoodIn wsX6_courtier wsX6_isKind := goodIn_r _ [10] (by decide +kernel) (by decide +kernel)
set_option maxRecDepth 20000 in
theorem gX6_courtier_X6_isKind : GoodIn wsX6_courtier (va_wsS RX6 107 yX6_isKind wsX6_isKind) := goodIn_app (goodIn_of _ (by decide +kernel)) ggX6_courtier_X6_isKind
set_option maxRecDepth 20000 in
theorem ggX6_courtier_X1_isMissing : GoodIn wsX6_courtier wsX1_isMissing := goodIn_r _ [15, 16, 56, 57, 58] (by decide +kernel) (by decide +kernel)
set_option maxRecDepth 20000 in
theorem gX6_courtier_X1_isMissing : GoodIn wsX6_courtier (wsV RX6 81 RX1 yX1_isMissing wsX1_isMissing) := goodIn_app (goodIn_of _ (by decide +kernel)) ggX6_courtier_X1_isMissing
theorem dX6_courtier_0 : decode cX6_courtier 0 = .ok (.iload_n 2, 1) := by decide +kernel
theorem dX6_courtier_1 : decode cX6_courtier 1 = .ok (.invokestatic 77, 3) := by decide +kernel
theorem dX6_courtier_4 : decode cX6_courtier 4 = .ok (.ifCond .ne 6, 3) := by decide +kernel
theorem dX6_courtier_7 : decode cX6_courtier 7 = .ok (.bipush (-101), 2) := by decide +kernel
theorem dX6_courtier_9 : decode cX6_courtier 9 = .ok (.ireturn, 1) := by decide +kernel
theorem dX6_courtier_10 : decode cX6_courtier 10 = .ok (.iload_n 1, 1) := by decide +kernel
theorem dX6_courtier_11 : decode cX6_courtier 11 = .ok (.invokestatic 107, 3) := by decide +kernel
theorem dX6_courtier_14 : decode cX6_courtier 14 = .ok (.ifCond .ne 6, 3) := by decide +kernel
theorem dX6_courtier_17 : decode cX6_courtier 17 = .ok (.bipush (-102), 2) := by decide +kernel
theorem dX6_courtier_19 : decode cX6_courtier 19 = .ok (.ireturn, 1) := by decide +kernel
theorem dX6_courtier_20 : decode cX6_courtier 20 = .ok (.aload_n 0, 1) := by decide +kernel
theorem dX6_courtier_21 : decode cX6_courtier 21 = .ok (.getfield 27, 3) := by decide +kernel
theorem dX6_courtier_24 : decode cX6_courtier 24 = .ok (.invokevirtual 81, 3) := by decide +kernel
theorem dX6_courtier_27 : decode cX6_courtier 27 = .ok (.ifCond .ne 17, 3) := by decide +kernel
theorem dX6_courtier_30 : decode cX6_courtier 30 = .ok (.iload_n 2, 1) := by decide +kernel
theorem dX6_courtier_31 : decode cX6_courtier 31 = .ok (.aload_n 0, 1) := by decide +kernel
theorem dX6_courtier_32 : decode cX6_courtier 32 = .ok (.getfield 19, 3) := by decide +kernel
theorem dX6_courtier_35 : decode cX6_courtier 35 = .ok (.invokevirtual 110, 3) := by decide +kernel
theorem dX6_courtier_38 : decode cX6_courtier 38 = .ok (.invokestatic 87, 3) := by decide +kernel
theorem dX6_courtier_41 : decode cX6_courtier 41 = .ok (.ifCond .ne 6, 3) := by decide +kernel
theorem dX6_courtier_44 : decode cX6_courtier 44 = .ok (.bipush (-103), 2) := by decide +kernel
theorem dX6_courtier_46 : decode cX6_courtier 46 = .ok (.ireturn, 1) := by decide +kernel
theorem dX6_courtier_47 : decode cX6_courtier 47 = .ok (.aload_n 0, 1) := by decide +kernel
theorem dX6_courtier_48 : decode cX6_courtier 48 = .ok (.getfield 32, 3) := by decide +kernel
theorem dX6_courtier_51 : decode cX6_courtier 51 = .ok (.iload_n 1, 1) := by decide +kernel
theorem dX6_courtier_52 : decode cX6_courtier 52 = .ok (.iload_n 2, 1) := by decide +kernel
theorem dX6_courtier_53 : decode cX6_courtier 53 = .ok (.invokevirtual 113, 3) := by decide +kernel
theorem dX6_courtier_56 : decode cX6_courtier 56 = .ok (.ireturn, 1) := by decide +kernel
set_option maxRecDepth 20000 in
theorem ggX6_about_X0_has : GoodIn wsX6_about wsX0_has := goodIn_r _ [14, 15, 91, 92, 93, 94, 95, 96, 97, 98] (by decide +kernel) (by decide +kernel)
set_option maxRecDepth 20000 in
theorem gX6_about_X0_has : GoodIn wsX6_about (wsV RX6 116 RX0 yX0_has wsX0_has) := goodIn_app (goodIn_of _ (by decide +kernel)) ggX6_about_X0_has
set_option maxRecDepth 20000 in
theorem ggX6_about_X4_guiltyIf : GoodIn wsX6_about wsX4_guiltyIf := goodIn_r _ [76, 21, 77, 35, 36, 37, 23, 24, 25, 13, 26, 15, 27, 28, 29, 30, 78, 79, 80, 44, 81, 82, 42, 43, 45, 46, 47, 48, 49, 50, 51, 52, 53, 54, 55, 56, 57, 58, 59, 60, 61, 62, 63, 64, 65, 66, 67, 68, 69, 70, 71, 72, 102, 103, 104, 91, 92, 93, 94, 95, 96, 97, 98, 105, 106] (by decide +kernel) (by decide +kernel)
set_option maxRecDepth 20000 in
theorem gX6_about_X4_guiltyIf : GoodIn wsX6_about (wsV RX6 129 RX4 yX4_guiltyIf wsX4_guiltyIf) := goodIn_app (goodIn_of _ (by decide +kernel)) ggX6_about_X4_guiltyIf
set_option maxRecDepth 20000 in
theorem ggX6_about_X6_bit : GoodIn wsX6_about wsX6_bit := goodIn_r _ [30] (by decide +kernel) (by decide +kernel)
set_option maxRecDepth 20000 in
theorem gX6_about_X6_bit : GoodIn wsX6_about (va_wsS RX6 132 yX6_bit wsX6_bit) := goodIn_app (goodIn_of _ (by decide +kernel)) ggX6_about_X6_bit
theorem dX6_about_0 : decode cX6_about 0 = .ok (.aload_n 0, 1) := by decide +kernel
theorem dX6_about_1 : decode cX6_about 1 = .ok (.getfield 32, 3) := by decide +kernel
theorem dX6_about_4 : decode cX6_about 4 = .ok (.iload_n 1, 1) := by decide +kernel
theorem dX6_about_5 : decode cX6_about 5 = .ok (.invokevirtual 116, 3) := by decide +kernel
theorem dX6_about_8 : decode cX6_about 8 = .ok (.ifCond .ne 6, 3) := by decide +kernel
theorem dX6_about_11 : decode cX6_about 11 = .ok (.bipush (-101), 2) := by decide +kernel
theorem dX6_about_13 : decode cX6_about 13 = .ok (.ireturn, 1) := by decide +kernel
theorem dX6_about_14 : decode cX6_about 14 = .ok (.iload_n 2, 1) := by decide +kernel
theorem dX6_about_15 : decode cX6_about 15 = .ok (.tableswitch 121 0 5 #[37, 47, 57, 66, 101, 111], 37) := by decide +kernel
theorem dX6_about_52 : decode cX6_about 52 = .ok (.aload_n 0, 1) := by decide +kernel
theorem dX6_about_53 : decode cX6_about 53 = .ok (.getfield 32, 3) := by decide +kernel
theorem dX6_about_56 : decode cX6_about 56 = .ok (.getfield 119, 3) := by decide +kernel
theorem dX6_about_59 : decode cX6_about 59 = .ok (.iload_n 1, 1) := by decide +kernel
theorem dX6_about_60 : decode cX6_about 60 = .ok (.iaload, 1) := by decide +kernel
theorem dX6_about_61 : decode cX6_about 61 = .ok (.ireturn, 1) := by decide +kernel
theorem dX6_about_62 : decode cX6_about 62 = .ok (.aload_n 0, 1) := by decide +kernel
theorem dX6_about_63 : decode cX6_about 63 = .ok (.getfield 32, 3) := by decide +kernel
theorem dX6_about_66 : decode cX6_about 66 = .ok (.getfield 123, 3) := by decide +kernel
theorem dX6_about_69 : decode cX6_about 69 = .ok (.iload_n 1, 1) := by decide +kernel
theorem dX6_about_70 : decode cX6_about 70 = .ok (.iaload, 1) := by decide +kernel
theorem dX6_about_71 : decode cX6_about 71 = .ok (.ireturn, 1) := by decide +kernel
theorem dX6_about_72 : decode cX6_about 72 = .ok (.aload_n 0, 1) := by decide +kernel
theorem dX6_about_73 : decode cX6_about 73 = .ok (.getfield 19, 3) := by decide +kernel
theorem dX6_about_76 : decode cX6_about 76 = .ok (.iload_n 1, 1) := by decide +kernel
theorem dX6_about_77 : decode cX6_about 77 = .ok (.invokevirtual 126, 3) := by decide +kernel
theorem dX6_about_80 : decode cX6_about 80 = .ok (.ireturn, 1) := by decide +kernel
theorem dX6_about_81 : decode cX6_about 81 = .ok (.aload_n 0, 1) := by decide +kernel
theorem dX6_about_82 : decode cX6_about 82 = .ok (.getfield 19, 3) := by decide +kernel
theorem dX6_about_85 : decode cX6_about 85 = .ok (.aload_n 0, 1) := by decide +kernel
theorem dX6_about_86 : decode cX6_about 86 = .ok (.getfield 32, 3) := by decide +kernel
theorem dX6_about_89 : decode cX6_about 89 = .ok (.getfield 91, 3) := by decide +kernel
theorem dX6_about_92 : decode cX6_about 92 = .ok (.aload_n 0, 1) := by decide +kernel
theorem dX6_about_93 : decode cX6_about 93 = .ok (.getfield 27, 3) := by decide +kernel
theorem dX6_about_96 : decode cX6_about 96 = .ok (.getfield 84, 3) := by decide +kernel
theorem dX6_about_99 : decode cX6_about 99 = .ok (.invokevirtual 129, 3) := by decide +kernel
theorem dX6_about_102 : decode cX6_about 102 = .ok (.iload_n 1, 1) := by decide +kernel
theorem dX6_about_103 : decode cX6_about 103 = .ok (.invokestatic 132, 3) := by decide +kernel
theorem dX6_about_106 : decode cX6_about 106 = .ok (.iand, 1) := by decide +kernel
theorem dX6_about_107 : decode cX6_about 107 = .ok (.ifCond .eq 7, 3) := by decide +kernel
theorem dX6_about_110 : decode cX6_about 110 = .ok (.iconst 1, 1) := by decide +kernel
theorem dX6_about_111 : decode cX6_about 111 = .ok (.goto 4, 3) := by decide +kernel
theorem dX6_about_114 : decode cX6_about 114 = .ok (.iconst 0, 1) := by decide +kernel
theorem dX6_about_115 : decode cX6_about 115 = .ok (.ireturn, 1) := by decide +kernel
theorem dX6_about_116 : decode cX6_about 116 = .ok (.aload_n 0, 1) := by decide +kernel
theorem dX6_about_117 : decode cX6_about 117 = .ok (.getfield 32, 3) := by decide +kernel
theorem dX6_about_120 : decode cX6_about 120 = .ok (.getfield 135, 3) := by decide +kernel
theorem dX6_about_123 : decode cX6_about 123 = .ok (.iload_n 1, 1) := by decide +kernel
theorem dX6_about_124 : decode cX6_about 124 = .ok (.iaload, 1) := by decide +kernel
theorem dX6_about_125 : decode cX6_about 125 = .ok (.ireturn, 1) := by decide +kernel
theorem dX6_about_126 : decode cX6_about 126 = .ok (.aload_n 0, 1) := by decide +kernel
theorem dX6_about_127 : decode cX6_about 127 = .ok (.getfield 32, 3) := by decide +kernel
theorem dX6_about_130 : decode cX6_about 130 = .ok (.getfield 138, 3) := by decide +kernel
theorem dX6_about_133 : decode cX6_about 133 = .ok (.iload_n 1, 1) := by decide +kernel
theorem dX6_about_134 : decode cX6_about 134 = .ok (.iaload, 1) := by decide +kernel
theorem dX6_about_135 : decode cX6_about 135 = .ok (.ireturn, 1) := by decide +kernel
theorem dX6_about_136 : decode cX6_about 136 = .ok (.bipush (-102), 2) := by decide +kernel
theorem dX6_about_138 : decode cX6_about 138 = .ok (.ireturn, 1) := by decide +kernel
set_option maxRecDepth 20000 in
theorem ggX6_as_X0_has : GoodIn wsX6_as wsX0_has := goodIn_r _ [7, 8, 23, 24, 25, 26, 27, 28, 29, 30] (by decide +kernel) (by decide +kernel)
set_option maxRecDepth 20000 in
theorem gX6_as_X0_has : GoodIn wsX6_as (wsV RX6 116 RX0 yX0_has wsX0_has) := goodIn_app (goodIn_of _ (by decide +kernel)) ggX6_as_X0_has
set_option maxRecDepth 20000 in
theorem ggX6_as_X6_isKind : GoodIn wsX6_as wsX6_isKind := goodIn_r _ [12] (by decide +kernel) (by decide +kernel)
set_option maxRecDepth 20000 in
theorem gX6_as_X6_isKind : GoodIn wsX6_as (va_wsS RX6 107 yX6_isKind wsX6_isKind) := goodIn_app (goodIn_of _ (by decide +kernel)) ggX6_as_X6_isKind
theorem dX6_as_0 : decode cX6_as 0 = .ok (.aload_n 0, 1) := by decide +kernel
theorem dX6_as_1 : decode cX6_as 1 = .ok (.getfield 32, 3) := by decide +kernel
theorem dX6_as_4 : decode cX6_as 4 = .ok (.iload_n 1, 1) := by decide +kernel
theorem dX6_as_5 : decode cX6_as 5 = .ok (.invokevirtual 116, 3) := by decide +kernel
theorem dX6_as_8 : decode cX6_as 8 = .ok (.ifCond .ne 6, 3) := by decide +kernel
theorem dX6_as_11 : decode cX6_as 11 = .ok (.bipush (-101), 2) := by decide +kernel
theorem dX6_as_13 : decode cX6_as 13 = .ok (.ireturn, 1) := by decide +kernel
theorem dX6_as_14 : decode cX6_as 14 = .ok (.iload_n 2, 1) := by decide +kernel
theorem dX6_as_15 : decode cX6_as 15 = .ok (.invokestatic 107, 3) := by decide +kernel
theorem dX6_as_18 : decode cX6_as 18 = .ok (.ifCond .ne 6, 3) := by decide +kernel
theorem dX6_as_21 : decode cX6_as 21 = .ok (.bipush (-102), 2) := by decide +kernel
theorem dX6_as_23 : decode cX6_as 23 = .ok (.ireturn, 1) := by decide +kernel
theorem dX6_as_24 : decode cX6_as 24 = .ok (.aload_n 0, 1) := by decide +kernel
theorem dX6_as_25 : decode cX6_as 25 = .ok (.getfield 32, 3) := by decide +kernel
theorem dX6_as_28 : decode cX6_as 28 = .ok (.getfield 119, 3) := by decide +kernel
theorem dX6_as_31 : decode cX6_as 31 = .ok (.iload_n 1, 1) := by decide +kernel
theorem dX6_as_32 : decode cX6_as 32 = .ok (.iaload, 1) := by decide +kernel
theorem dX6_as_33 : decode cX6_as 33 = .ok (.iload_n 2, 1) := by decide +kernel
theorem dX6_as_34 : decode cX6_as 34 = .ok (.invokestatic 141, 3) := by decide +kernel
theorem dX6_as_37 : decode cX6_as 37 = .ok (.ifCond .eq 7, 3) := by decide +kernel
theorem dX6_as_40 : decode cX6_as 40 = .ok (.iload_n 1, 1) := by decide +kernel
theorem dX6_as_41 : decode cX6_as 41 = .ok (.goto 4, 3) := by decide +kernel
theorem dX6_as_44 : decode cX6_as 44 = .ok (.iconst (-1), 1) := by decide +kernel
theorem dX6_as_45 : decode cX6_as 45 = .ok (.ireturn, 1) := by decide +kernel
set_option maxRecDepth 20000 in
theorem ggX6_go_X0_has : GoodIn wsX6_go wsX0_has := goodIn_r _ [8, 9, 43, 44, 45, 46, 47, 48, 49, 50] (by decide +kernel) (by decide +kernel)
set_option maxRecDepth 20000 in
theorem gX6_go_X0_has : GoodIn wsX6_go (wsV RX6 116 RX0 yX0_has wsX0_has) := goodIn_app (goodIn_of _ (by decide +kernel)) ggX6_go_X0_has
set_option maxRecDepth 20000 in
theorem ggX6_go_X6_isPlace : GoodIn wsX6_go wsX6_isPlace := goodIn_r _ [13] (by decide +kernel) (by decide +kernel)
set_option maxRecDepth 20000 in
theorem gX6_go_X6_isPlace : GoodIn wsX6_go (va_wsS RX6 77 yX6_isPlace wsX6_isPlace) := goodIn_app (goodIn_of _ (by decide +kernel)) ggX6_go_X6_isPlace
theorem dX6_go_0 : decode cX6_go 0 = .ok (.aload_n 0, 1) := by decide +kernel
theorem dX6_go_1 : decode cX6_go 1 = .ok (.getfield 32, 3) := by decide +kernel
theorem dX6_go_4 : decode cX6_go 4 = .ok (.iload_n 1, 1) := by decide +kernel
theorem dX6_go_5 : decode cX6_go 5 = .ok (.invokevirtual 116, 3) := by decide +kernel
theorem dX6_go_8 : decode cX6_go 8 = .ok (.ifCond .eq 10, 3) := by decide +kernel
theorem dX6_go_11 : decode cX6_go 11 = .ok (.iload_n 2, 1) := by decide +kernel
theorem dX6_go_12 : decode cX6_go 12 = .ok (.invokestatic 77, 3) := by decide +kernel
theorem dX6_go_15 : decode cX6_go 15 = .ok (.ifCond .ne 6, 3) := by decide +kernel
theorem dX6_go_18 : decode cX6_go 18 = .ok (.bipush (-101), 2) := by decide +kernel
theorem dX6_go_20 : decode cX6_go 20 = .ok (.ireturn, 1) := by decide +kernel
theorem dX6_go_21 : decode cX6_go 21 = .ok (.iload_n 2, 1) := by decide +kernel
theorem dX6_go_22 : decode cX6_go 22 = .ok (.aload_n 0, 1) := by decide +kernel
theorem dX6_go_23 : decode cX6_go 23 = .ok (.getfield 19, 3) := by decide +kernel
theorem dX6_go_26 : decode cX6_go 26 = .ok (.invokevirtual 110, 3) := by decide +kernel
theorem dX6_go_29 : decode cX6_go 29 = .ok (.invokestatic 87, 3) := by decide +kernel
theorem dX6_go_32 : decode cX6_go 32 = .ok (.ifCond .ne 6, 3) := by decide +kernel
theorem dX6_go_35 : decode cX6_go 35 = .ok (.bipush (-103), 2) := by decide +kernel
theorem dX6_go_37 : decode cX6_go 37 = .ok (.ireturn, 1) := by decide +kernel
theorem dX6_go_38 : decode cX6_go 38 = .ok (.aload_n 0, 1) := by decide +kernel
theorem dX6_go_39 : decode cX6_go 39 = .ok (.getfield 32, 3) := by decide +kernel
theorem dX6_go_42 : decode cX6_go 42 = .ok (.getfield 123, 3) := by decide +kernel
theorem dX6_go_45 : decode cX6_go 45 = .ok (.iload_n 1, 1) := by decide +kernel
theorem dX6_go_46 : decode cX6_go 46 = .ok (.iaload, 1) := by decide +kernel
theorem dX6_go_47 : decode cX6_go 47 = .ok (.istore_n 3, 1) := by decide +kernel
theorem dX6_go_48 : decode cX6_go 48 = .ok (.aload_n 0, 1) := by decide +kernel
theorem dX6_go_49 : decode cX6_go 49 = .ok (.getfield 32, 3) := by decide +kernel
theorem dX6_go_52 : decode cX6_go 52 = .ok (.getfield 123, 3) := by decide +kernel
theorem dX6_go_55 : decode cX6_go 55 = .ok (.iload_n 1, 1) := by decide +kernel
theorem dX6_go_56 : decode cX6_go 56 = .ok (.iload_n 2, 1) := by decide +kernel
theorem dX6_go_57 : decode cX6_go 57 = .ok (.iastore, 1) := by decide +kernel
theorem dX6_go_58 : decode cX6_go 58 = .ok (.iload_n 3, 1) := by decide +kernel
theorem dX6_go_59 : decode cX6_go 59 = .ok (.ireturn, 1) := by decide +kernel
set_option maxRecDepth 20000 in
theorem ggX6_act_X4_after : GoodIn wsX6_act wsX4_after := goodIn_r _ [11, 12, 13, 14, 15, 16, 17, 18, 19, 20, 21, 22, 23, 24, 25, 26, 27, 28, 29, 30, 31, 32, 33, 34, 35, 36, 37, 38, 39, 40, 119, 120, 121, 116, 117, 118, 108, 109, 110, 111, 112, 113, 114, 115] (by decide +kernel) (by decide +kernel)
set_option maxRecDepth 20000 in
theorem gX6_act_X4_after : GoodIn wsX6_act (wsV RX6 144 RX4 yX4_after wsX4_after) := goodIn_app (goodIn_of _ (by decide +kernel)) ggX6_act_X4_after
set_option maxRecDepth 20000 in
theorem ggX6_act_X4_guiltyIf : GoodIn wsX6_act wsX4_guiltyIf := goodIn_r _ [94, 14, 45, 51, 52, 53, 29, 30, 31, 32, 33, 34, 35, 36, 16, 37, 95, 96, 97, 61, 98, 99, 59, 60, 62, 63, 64, 15, 17, 27, 28, 65, 66, 67, 68, 69, 70, 71, 72, 73, 74, 75, 76, 18, 19, 77, 78, 79, 80, 81, 82, 83, 119, 120, 121, 108, 109, 110, 111, 112, 113, 114, 115, 122, 123] (by decide +kernel) (by decide +kernel)
set_option maxRecDepth 20000 in
theorem gX6_act_X4_guiltyIf : GoodIn wsX6_act (wsV RX6 129 RX4 yX4_guiltyIf wsX4_guiltyIf) := goodIn_app (goodIn_of _ (by decide +kernel)) ggX6_act_X4_guiltyIf
theorem dX6_act_0 : decode cX6_act 0 = .ok (.iload_n 1, 1) := by decide +kernel
theorem dX6_act_1 : decode cX6_act 1 = .ok (.ifCond .lt 8, 3) := by decide +kernel
theorem dX6_act_4 : decode cX6_act 4 = .ok (.iload_n 1, 1) := by decide +kernel
theorem dX6_act_5 : decode cX6_act 5 = .ok (.iconst 3, 1) := by decide +kernel
theorem dX6_act_6 : decode cX6_act 6 = .ok (.if_icmp .lt 6, 3) := by decide +kernel
theorem dX6_act_9 : decode cX6_act 9 = .ok (.bipush (-102), 2) := by decide +kernel
theorem dX6_act_11 : decode cX6_act 11 = .ok (.ireturn, 1) := by decide +kernel
theorem dX6_act_12 : decode cX6_act 12 = .ok (.aload_n 0, 1) := by decide +kernel
theorem dX6_act_13 : decode cX6_act 13 = .ok (.getfield 19, 3) := by decide +kernel
theorem dX6_act_16 : decode cX6_act 16 = .ok (.aload_n 0, 1) := by decide +kernel
theorem dX6_act_17 : decode cX6_act 17 = .ok (.getfield 32, 3) := by decide +kernel
theorem dX6_act_20 : decode cX6_act 20 = .ok (.getfield 91, 3) := by decide +kernel
theorem dX6_act_23 : decode cX6_act 23 = .ok (.iload_n 1, 1) := by decide +kernel
theorem dX6_act_24 : decode cX6_act 24 = .ok (.invokevirtual 144, 3) := by decide +kernel
theorem dX6_act_27 : decode cX6_act 27 = .ok (.istore_n 2, 1) := by decide +kernel
theorem dX6_act_28 : decode cX6_act 28 = .ok (.iload_n 2, 1) := by decide +kernel
theorem dX6_act_29 : decode cX6_act 29 = .ok (.iconst (-1), 1) := by decide +kernel
theorem dX6_act_30 : decode cX6_act 30 = .ok (.if_icmp .ne 6, 3) := by decide +kernel
theorem dX6_act_33 : decode cX6_act 33 = .ok (.bipush (-103), 2) := by decide +kernel
theorem dX6_act_35 : decode cX6_act 35 = .ok (.ireturn, 1) := by decide +kernel
theorem dX6_act_36 : decode cX6_act 36 = .ok (.aload_n 0, 1) := by decide +kernel
theorem dX6_act_37 : decode cX6_act 37 = .ok (.getfield 32, 3) := by decide +kernel
theorem dX6_act_40 : decode cX6_act 40 = .ok (.iload_n 2, 1) := by decide +kernel
theorem dX6_act_41 : decode cX6_act 41 = .ok (.putfield 91, 3) := by decide +kernel
theorem dX6_act_44 : decode cX6_act 44 = .ok (.aload_n 0, 1) := by decide +kernel
theorem dX6_act_45 : decode cX6_act 45 = .ok (.getfield 32, 3) := by decide +kernel
theorem dX6_act_48 : decode cX6_act 48 = .ok (.dup, 1) := by decide +kernel
theorem dX6_act_49 : decode cX6_act 49 = .ok (.getfield 147, 3) := by decide +kernel
theorem dX6_act_52 : decode cX6_act 52 = .ok (.iconst 1, 1) := by decide +kernel
theorem dX6_act_53 : decode cX6_act 53 = .ok (.iadd, 1) := by decide +kernel
theorem dX6_act_54 : decode cX6_act 54 = .ok (.putfield 147, 3) := by decide +kernel
theorem dX6_act_57 : decode cX6_act 57 = .ok (.aload_n 0, 1) := by decide +kernel
theorem dX6_act_58 : decode cX6_act 58 = .ok (.getfield 19, 3) := by decide +kernel
theorem dX6_act_61 : decode cX6_act 61 = .ok (.invokevirtual 150, 3) := by decide +kernel
theorem dX6_act_64 : decode cX6_act 64 = .ok (.aload_n 0, 1) := by decide +kernel
theorem dX6_act_65 : decode cX6_act 65 = .ok (.getfield 19, 3) := by decide +kernel
theorem dX6_act_68 : decode cX6_act 68 = .ok (.aload_n 0, 1) := by decide +kernel
theorem dX6_act_69 : decode cX6_act 69 = .ok (.getfield 32, 3) := by decide +kernel
theorem dX6_act_72 : decode cX6_act 72 = .ok (.getfield 91, 3) := by decide +kernel
theorem dX6_act_75 : decode cX6_act 75 = .ok (.aload_n 0, 1) := by decide +kernel
theorem dX6_act_76 : decode cX6_act 76 = .ok (.getfield 27, 3) := by decide +kernel
theorem dX6_act_79 : decode cX6_act 79 = .ok (.getfield 84, 3) := by decide +kernel
theorem dX6_act_82 : decode cX6_act 82 = .ok (.invokevirtual 129, 3) := by decide +kernel
theorem dX6_act_85 : decode cX6_act 85 = .ok (.invokestatic 153, 3) := by decide +kernel
theorem dX6_act_88 : decode cX6_act 88 = .ok (.ireturn, 1) := by decide +kernel
set_option maxRecDepth 20000 in
theorem ggX6_guilty_X4_guiltyIf : GoodIn wsX6_guilty wsX4_guiltyIf := goodIn_r _ [10, 11, 12, 13, 14, 15, 16, 17, 18, 19, 20, 21, 22, 23, 24, 25, 26, 27, 28, 29, 30, 31, 32, 33, 34, 35, 36, 37, 38, 39, 40, 41, 42, 43, 44, 45, 46, 47, 48, 49, 50, 51, 52, 53, 54, 55, 56, 57, 58, 59, 60, 61, 80, 81, 82, 69, 70, 71, 72, 73, 74, 75, 76, 83, 84] (by decide +kernel) (by decide +kernel)
set_option maxRecDepth 20000 in
theorem gX6_guilty_X4_guiltyIf : GoodIn wsX6_guilty (wsV RX6 129 RX4 yX4_guiltyIf wsX4_guiltyIf) := goodIn_app (goodIn_of _ (by decide +kernel)) ggX6_guilty_X4_guiltyIf
theorem dX6_guilty_0 : decode cX6_guilty 0 = .ok (.aload_n 0, 1) := by decide +kernel
theorem dX6_guilty_1 : decode cX6_guilty 1 = .ok (.getfield 19, 3) := by decide +kernel
theorem dX6_guilty_4 : decode cX6_guilty 4 = .ok (.aload_n 0, 1) := by decide +kernel
theorem dX6_guilty_5 : decode cX6_guilty 5 = .ok (.getfield 32, 3) := by decide +kernel
theorem dX6_guilty_8 : decode cX6_guilty 8 = .ok (.getfield 91, 3) := by decide +kernel
theorem dX6_guilty_11 : decode cX6_guilty 11 = .ok (.aload_n 0, 1) := by decide +kernel
theorem dX6_guilty_12 : decode cX6_guilty 12 = .ok (.getfield 27, 3) := by decide +kernel
theorem dX6_guilty_15 : decode cX6_guilty 15 = .ok (.getfield 84, 3) := by decide +kernel
theorem dX6_guilty_18 : decode cX6_guilty 18 = .ok (.invokevirtual 129, 3) := by decide +kernel
theorem dX6_guilty_21 : decode cX6_guilty 21 = .ok (.ireturn, 1) := by decide +kernel
theorem dX6_room_0 : decode cX6_room 0 = .ok (.iload_n 1, 1) := by decide +kernel
theorem dX6_room_1 : decode cX6_room 1 = .ok (.iconst 1, 1) := by decide +kernel
theorem dX6_room_2 : decode cX6_room 2 = .ok (.if_icmp .lt 17, 3) := by decide +kernel
theorem dX6_room_5 : decode cX6_room 5 = .ok (.iload_n 1, 1) := by decide +kernel
theorem dX6_room_6 : decode cX6_room 6 = .ok (.iconst 3, 1) := by decide +kernel
theorem dX6_room_7 : decode cX6_room 7 = .ok (.if_icmp .gt 12, 3) := by decide +kernel
theorem dX6_room_10 : decode cX6_room 10 = .ok (.iload_n 2, 1) := by decide +kernel
theorem dX6_room_11 : decode cX6_room 11 = .ok (.ifCond .lt 8, 3) := by decide +kernel
theorem dX6_room_14 : decode cX6_room 14 = .ok (.iload_n 2, 1) := by decide +kernel
theorem dX6_room_15 : decode cX6_room 15 = .ok (.iconst 3, 1) := by decide +kernel
theorem dX6_room_16 : decode cX6_room 16 = .ok (.if_icmp .lt 6, 3) := by decide +kernel
theorem dX6_room_19 : decode cX6_room 19 = .ok (.bipush (-102), 2) := by decide +kernel
theorem dX6_room_21 : decode cX6_room 21 = .ok (.ireturn, 1) := by decide +kernel
theorem dX6_room_22 : decode cX6_room 22 = .ok (.aload_n 0, 1) := by decide +kernel
theorem dX6_room_23 : decode cX6_room 23 = .ok (.getfield 32, 3) := by decide +kernel
theorem dX6_room_26 : decode cX6_room 26 = .ok (.getfield 91, 3) := by decide +kernel
theorem dX6_room_29 : decode cX6_room 29 = .ok (.iconst (-1), 1) := by decide +kernel
theorem dX6_room_30 : decode cX6_room 30 = .ok (.if_icmp .ne 6, 3) := by decide +kernel
theorem dX6_room_33 : decode cX6_room 33 = .ok (.bipush (-103), 2) := by decide +kernel
theorem dX6_room_35 : decode cX6_room 35 = .ok (.ireturn, 1) := by decide +kernel
theorem dX6_room_36 : decode cX6_room 36 = .ok (.aload_n 0, 1) := by decide +kernel
theorem dX6_room_37 : decode cX6_room 37 = .ok (.getfield 19, 3) := by decide +kernel
theorem dX6_room_40 : decode cX6_room 40 = .ok (.iload_n 1, 1) := by decide +kernel
theorem dX6_room_41 : decode cX6_room 41 = .ok (.invokevirtual 158, 3) := by decide +kernel
theorem dX6_room_44 : decode cX6_room 44 = .ok (.iload_n 2, 1) := by decide +kernel
theorem dX6_room_45 : decode cX6_room 45 = .ok (.invokestatic 161, 3) := by decide +kernel
theorem dX6_room_48 : decode cX6_room 48 = .ok (.ireturn, 1) := by decide +kernel
set_option maxRecDepth 20000 in
theorem ggX6_brick_X6_bit : GoodIn wsX6_brick wsX6_bit := goodIn_r _ [28] (by decide +kernel) (by decide +kernel)
set_option maxRecDepth 20000 in
theorem gX6_brick_X6_bit : GoodIn wsX6_brick (va_wsS RX6 132 yX6_bit wsX6_bit) := goodIn_app (goodIn_of _ (by decide +kernel)) ggX6_brick_X6_bit
set_option maxRecDepth 20000 in
theorem ggX6_brick_X4_guiltyIf : GoodIn wsX6_brick wsX4_guiltyIf := goodIn_r _ [34, 11, 35, 36, 37, 38, 19, 20, 21, 22, 23, 24, 25, 26, 27, 28, 39, 40, 41, 42, 43, 44, 45, 46, 47, 48, 49, 29, 30, 50, 51, 52, 53, 54, 55, 56, 57, 58, 59, 60, 61, 62, 63, 64, 65, 66, 67, 68, 69, 70, 71, 72, 98, 99, 100, 87, 88, 89, 90, 91, 92, 93, 94, 101, 102] (by decide +kernel) (by decide +kernel)
set_option maxRecDepth 20000 in
theorem gX6_brick_X4_guiltyIf : GoodIn wsX6_brick (wsV RX6 129 RX4 yX4_guiltyIf wsX4_guiltyIf) := goodIn_app (goodIn_of _ (by decide +kernel)) ggX6_brick_X4_guiltyIf
theorem dX6_brick_0 : decode cX6_brick 0 = .ok (.iload_n 1, 1) := by decide +kernel
theorem dX6_brick_1 : decode cX6_brick 1 = .ok (.ifCond .lt 8, 3) := by decide +kernel
theorem dX6_brick_4 : decode cX6_brick 4 = .ok (.iload_n 1, 1) := by decide +kernel
theorem dX6_brick_5 : decode cX6_brick 5 = .ok (.iconst 1, 1) := by decide +kernel
theorem dX6_brick_6 : decode cX6_brick 6 = .ok (.if_icmp .le 6, 3) := by decide +kernel
theorem dX6_brick_9 : decode cX6_brick 9 = .ok (.bipush (-102), 2) := by decide +kernel
theorem dX6_brick_11 : decode cX6_brick 11 = .ok (.ireturn, 1) := by decide +kernel
theorem dX6_brick_12 : decode cX6_brick 12 = .ok (.aload_n 0, 1) := by decide +kernel
theorem dX6_brick_13 : decode cX6_brick 13 = .ok (.getfield 32, 3) := by decide +kernel
theorem dX6_brick_16 : decode cX6_brick 16 = .ok (.getfield 91, 3) := by decide +kernel
theorem dX6_brick_19 : decode cX6_brick 19 = .ok (.iconst (-1), 1) := by decide +kernel
theorem dX6_brick_20 : decode cX6_brick 20 = .ok (.if_icmp .ne 6, 3) := by decide +kernel
theorem dX6_brick_23 : decode cX6_brick 23 = .ok (.bipush (-103), 2) := by decide +kernel
theorem dX6_brick_25 : decode cX6_brick 25 = .ok (.ireturn, 1) := by decide +kernel
theorem dX6_brick_26 : decode cX6_brick 26 = .ok (.aload_n 0, 1) := by decide +kernel
theorem dX6_brick_27 : decode cX6_brick 27 = .ok (.getfield 19, 3) := by decide +kernel
theorem dX6_brick_30 : decode cX6_brick 30 = .ok (.invokevirtual 164, 3) := by decide +kernel
theorem dX6_brick_33 : decode cX6_brick 33 = .ok (.istore_n 2, 1) := by decide +kernel
theorem dX6_brick_34 : decode cX6_brick 34 = .ok (.iload_n 1, 1) := by decide +kernel
theorem dX6_brick_35 : decode cX6_brick 35 = .ok (.ifCond .eq 8, 3) := by decide +kernel
theorem dX6_brick_38 : decode cX6_brick 38 = .ok (.iload_n 2, 1) := by decide +kernel
theorem dX6_brick_39 : decode cX6_brick 39 = .ok (.iconst (-1), 1) := by decide +kernel
theorem dX6_brick_40 : decode cX6_brick 40 = .ok (.if_icmp .ne 5, 3) := by decide +kernel
theorem dX6_brick_43 : decode cX6_brick 43 = .ok (.iload_n 2, 1) := by decide +kernel
theorem dX6_brick_44 : decode cX6_brick 44 = .ok (.ireturn, 1) := by decide +kernel
theorem dX6_brick_45 : decode cX6_brick 45 = .ok (.aload_n 0, 1) := by decide +kernel
theorem dX6_brick_46 : decode cX6_brick 46 = .ok (.getfield 19, 3) := by decide +kernel
theorem dX6_brick_49 : decode cX6_brick 49 = .ok (.aload_n 0, 1) := by decide +kernel
theorem dX6_brick_50 : decode cX6_brick 50 = .ok (.getfield 32, 3) := by decide +kernel
theorem dX6_brick_53 : decode cX6_brick 53 = .ok (.getfield 91, 3) := by decide +kernel
theorem dX6_brick_56 : decode cX6_brick 56 = .ok (.aload_n 0, 1) := by decide +kernel
theorem dX6_brick_57 : decode cX6_brick 57 = .ok (.getfield 27, 3) := by decide +kernel
theorem dX6_brick_60 : decode cX6_brick 60 = .ok (.getfield 84, 3) := by decide +kernel
theorem dX6_brick_63 : decode cX6_brick 63 = .ok (.iload_n 2, 1) := by decide +kernel
theorem dX6_brick_64 : decode cX6_brick 64 = .ok (.invokestatic 132, 3) := by decide +kernel
theorem dX6_brick_67 : decode cX6_brick 67 = .ok (.ior, 1) := by decide +kernel
theorem dX6_brick_68 : decode cX6_brick 68 = .ok (.invokevirtual 129, 3) := by decide +kernel
theorem dX6_brick_71 : decode cX6_brick 71 = .ok (.invokestatic 153, 3) := by decide +kernel
theorem dX6_brick_74 : decode cX6_brick 74 = .ok (.ireturn, 1) := by decide +kernel
set_option maxRecDepth 20000 in
theorem ggX6_way_X6_isPlace : GoodIn wsX6_way wsX6_isPlace := goodIn_r _ [8] (by decide +kernel) (by decide +kernel)
set_option maxRecDepth 20000 in
theorem gX6_way_X6_isPlace : GoodIn wsX6_way (va_wsS RX6 77 yX6_isPlace wsX6_isPlace) := goodIn_app (goodIn_of _ (by decide +kernel)) ggX6_way_X6_isPlace
theorem dX6_way_0 : decode cX6_way 0 = .ok (.iload_n 1, 1) := by decide +kernel
theorem dX6_way_1 : decode cX6_way 1 = .ok (.invokestatic 77, 3) := by decide +kernel
theorem dX6_way_4 : decode cX6_way 4 = .ok (.ifCond .ne 6, 3) := by decide +kernel
theorem dX6_way_7 : decode cX6_way 7 = .ok (.bipush (-101), 2) := by decide +kernel
theorem dX6_way_9 : decode cX6_way 9 = .ok (.ireturn, 1) := by decide +kernel
theorem dX6_way_10 : decode cX6_way 10 = .ok (.iload_n 2, 1) := by decide +kernel
theorem dX6_way_11 : decode cX6_way 11 = .ok (.ifCond .lt 8, 3) := by decide +kernel
theorem dX6_way_14 : decode cX6_way 14 = .ok (.iload_n 2, 1) := by decide +kernel
theorem dX6_way_15 : decode cX6_way 15 = .ok (.iconst 1, 1) := by decide +kernel
theorem dX6_way_16 : decode cX6_way 16 = .ok (.if_icmp .le 6, 3) := by decide +kernel
theorem dX6_way_19 : decode cX6_way 19 = .ok (.bipush (-102), 2) := by decide +kernel
theorem dX6_way_21 : decode cX6_way 21 = .ok (.ireturn, 1) := by decide +kernel
theorem dX6_way_22 : decode cX6_way 22 = .ok (.aload_n 0, 1) := by decide +kernel
theorem dX6_way_23 : decode cX6_way 23 = .ok (.getfield 32, 3) := by decide +kernel
theorem dX6_way_26 : decode cX6_way 26 = .ok (.getfield 91, 3) := by decide +kernel
theorem dX6_way_29 : decode cX6_way 29 = .ok (.iconst (-1), 1) := by decide +kernel
theorem dX6_way_30 : decode cX6_way 30 = .ok (.if_icmp .ne 6, 3) := by decide +kernel
theorem dX6_way_33 : decode cX6_way 33 = .ok (.bipush (-103), 2) := by decide +kernel
theorem dX6_way_35 : decode cX6_way 35 = .ok (.ireturn, 1) := by decide +kernel
theorem dX6_way_36 : decode cX6_way 36 = .ok (.aload_n 0, 1) := by decide +kernel
theorem dX6_way_37 : decode cX6_way 37 = .ok (.getfield 42, 3) := by decide +kernel
theorem dX6_way_40 : decode cX6_way 40 = .ok (.aload_n 0, 1) := by decide +kernel
theorem dX6_way_41 : decode cX6_way 41 = .ok (.getfield 19, 3) := by decide +kernel
theorem dX6_way_44 : decode cX6_way 44 = .ok (.aload_n 0, 1) := by decide +kernel
theorem dX6_way_45 : decode cX6_way 45 = .ok (.getfield 32, 3) := by decide +kernel
theorem dX6_way_48 : decode cX6_way 48 = .ok (.getfield 91, 3) := by decide +kernel
theorem dX6_way_51 : decode cX6_way 51 = .ok (.iload_n 1, 1) := by decide +kernel
theorem dX6_way_52 : decode cX6_way 52 = .ok (.invokevirtual 167, 3) := by decide +kernel
theorem dX6_way_55 : decode cX6_way 55 = .ok (.istore_n 3, 1) := by decide +kernel
theorem dX6_way_56 : decode cX6_way 56 = .ok (.iload_n 3, 1) := by decide +kernel
theorem dX6_way_57 : decode cX6_way 57 = .ok (.iconst (-1), 1) := by decide +kernel
theorem dX6_way_58 : decode cX6_way 58 = .ok (.if_icmp .ne 5, 3) := by decide +kernel
theorem dX6_way_61 : decode cX6_way 61 = .ok (.iconst (-1), 1) := by decide +kernel
theorem dX6_way_62 : decode cX6_way 62 = .ok (.ireturn, 1) := by decide +kernel
theorem dX6_way_63 : decode cX6_way 63 = .ok (.iload_n 2, 1) := by decide +kernel
theorem dX6_way_64 : decode cX6_way 64 = .ok (.ifCond .ne 14, 3) := by decide +kernel
theorem dX6_way_67 : decode cX6_way 67 = .ok (.aload_n 0, 1) := by decide +kernel
theorem dX6_way_68 : decode cX6_way 68 = .ok (.getfield 42, 3) := by decide +kernel
theorem dX6_way_71 : decode cX6_way 71 = .ok (.iload_n 3, 1) := by decide +kernel
theorem dX6_way_72 : decode cX6_way 72 = .ok (.invokevirtual 171, 3) := by decide +kernel
theorem dX6_way_75 : decode cX6_way 75 = .ok (.goto 11, 3) := by decide +kernel
theorem dX6_way_78 : decode cX6_way 78 = .ok (.aload_n 0, 1) := by decide +kernel
theorem dX6_way_79 : decode cX6_way 79 = .ok (.getfield 42, 3) := by decide +kernel
theorem dX6_way_82 : decode cX6_way 82 = .ok (.iload_n 3, 1) := by decide +kernel
theorem dX6_way_83 : decode cX6_way 83 = .ok (.invokevirtual 174, 3) := by decide +kernel
theorem dX6_way_86 : decode cX6_way 86 = .ok (.ireturn, 1) := by decide +kernel
set_option maxRecDepth 20000 in
theorem ggX6_told_X0_has : GoodIn wsX6_told wsX0_has := goodIn_r _ [7, 8, 16, 17, 18, 19, 20, 21, 22, 23] (by decide +kernel) (by decide +kernel)
set_option maxRecDepth 20000 in
theorem gX6_told_X0_has : GoodIn wsX6_told (wsV RX6 116 RX0 yX0_has wsX0_has) := goodIn_app (goodIn_of _ (by decide +kernel)) ggX6_told_X0_has
theorem dX6_told_0 : decode cX6_told 0 = .ok (.aload_n 0, 1) := by decide +kernel
theorem dX6_told_1 : decode cX6_told 1 = .ok (.getfield 32, 3) := by decide +kernel
theorem dX6_told_4 : decode cX6_told 4 = .ok (.iload_n 1, 1) := by decide +kernel
theorem dX6_told_5 : decode cX6_told 5 = .ok (.invokevirtual 116, 3) := by decide +kernel
theorem dX6_told_8 : decode cX6_told 8 = .ok (.ifCond .ne 6, 3) := by decide +kernel
theorem dX6_told_11 : decode cX6_told 11 = .ok (.bipush (-101), 2) := by decide +kernel
theorem dX6_told_13 : decode cX6_told 13 = .ok (.ireturn, 1) := by decide +kernel
theorem dX6_told_14 : decode cX6_told 14 = .ok (.iload_n 2, 1) := by decide +kernel
theorem dX6_told_15 : decode cX6_told 15 = .ok (.iconst (-1), 1) := by decide +kernel
theorem dX6_told_16 : decode cX6_told 16 = .ok (.if_icmp .lt 8, 3) := by decide +kernel
theorem dX6_told_19 : decode cX6_told 19 = .ok (.iload_n 2, 1) := by decide +kernel
theorem dX6_told_20 : decode cX6_told 20 = .ok (.iconst 4, 1) := by decide +kernel
theorem dX6_told_21 : decode cX6_told 21 = .ok (.if_icmp .le 6, 3) := by decide +kernel
theorem dX6_told_24 : decode cX6_told 24 = .ok (.bipush (-102), 2) := by decide +kernel
theorem dX6_told_26 : decode cX6_told 26 = .ok (.ireturn, 1) := by decide +kernel
theorem dX6_told_27 : decode cX6_told 27 = .ok (.aload_n 0, 1) := by decide +kernel
theorem dX6_told_28 : decode cX6_told 28 = .ok (.getfield 32, 3) := by decide +kernel
theorem dX6_told_31 : decode cX6_told 31 = .ok (.getfield 177, 3) := by decide +kernel
theorem dX6_told_34 : decode cX6_told 34 = .ok (.iload_n 1, 1) := by decide +kernel
theorem dX6_told_35 : decode cX6_told 35 = .ok (.iaload, 1) := by decide +kernel
theorem dX6_told_36 : decode cX6_told 36 = .ok (.istore_n 3, 1) := by decide +kernel
theorem dX6_told_37 : decode cX6_told 37 = .ok (.aload_n 0, 1) := by decide +kernel
theorem dX6_told_38 : decode cX6_told 38 = .ok (.getfield 32, 3) := by decide +kernel
theorem dX6_told_41 : decode cX6_told 41 = .ok (.getfield 177, 3) := by decide +kernel
theorem dX6_told_44 : decode cX6_told 44 = .ok (.iload_n 1, 1) := by decide +kernel
theorem dX6_told_45 : decode cX6_told 45 = .ok (.iload_n 2, 1) := by decide +kernel
theorem dX6_told_46 : decode cX6_told 46 = .ok (.iastore, 1) := by decide +kernel
theorem dX6_told_47 : decode cX6_told 47 = .ok (.iload_n 3, 1) := by decide +kernel
theorem dX6_told_48 : decode cX6_told 48 = .ok (.ireturn, 1) := by decide +kernel
set_option maxRecDepth 20000 in
theorem ggX6_stood_X1_isMissing : GoodIn wsX6_stood wsX1_isMissing := goodIn_r _ [7, 8, 87, 88, 89] (by decide +kernel) (by decide +kernel)
set_option maxRecDepth 20000 in
theorem gX6_stood_X1_isMissing : GoodIn wsX6_stood (wsV RX6 81 RX1 yX1_isMissing wsX1_isMissing) := goodIn_app (goodIn_of _ (by decide +kernel)) ggX6_stood_X1_isMissing
theorem dX6_stood_0 : decode cX6_stood 0 = .ok (.iload_n 1, 1) := by decide +kernel
theorem dX6_stood_1 : decode cX6_stood 1 = .ok (.ifCond .lt 8, 3) := by decide +kernel
theorem dX6_stood_4 : decode cX6_stood 4 = .ok (.iload_n 1, 1) := by decide +kernel
theorem dX6_stood_5 : decode cX6_stood 5 = .ok (.iconst 2, 1) := by decide +kernel
theorem dX6_stood_6 : decode cX6_stood 6 = .ok (.if_icmp .le 6, 3) := by decide +kernel
theorem dX6_stood_9 : decode cX6_stood 9 = .ok (.bipush (-102), 2) := by decide +kernel
theorem dX6_stood_11 : decode cX6_stood 11 = .ok (.ireturn, 1) := by decide +kernel
theorem dX6_stood_12 : decode cX6_stood 12 = .ok (.aload_n 0, 1) := by decide +kernel
theorem dX6_stood_13 : decode cX6_stood 13 = .ok (.getfield 27, 3) := by decide +kernel
theorem dX6_stood_16 : decode cX6_stood 16 = .ok (.invokevirtual 81, 3) := by decide +kernel
theorem dX6_stood_19 : decode cX6_stood 19 = .ok (.ifCond .eq 6, 3) := by decide +kernel
theorem dX6_stood_22 : decode cX6_stood 22 = .ok (.bipush (-103), 2) := by decide +kernel
theorem dX6_stood_24 : decode cX6_stood 24 = .ok (.ireturn, 1) := by decide +kernel
theorem dX6_stood_25 : decode cX6_stood 25 = .ok (.aload_n 0, 1) := by decide +kernel
theorem dX6_stood_26 : decode cX6_stood 26 = .ok (.getfield 19, 3) := by decide +kernel
theorem dX6_stood_29 : decode cX6_stood 29 = .ok (.iload_n 1, 1) := by decide +kernel
theorem dX6_stood_30 : decode cX6_stood 30 = .ok (.invokevirtual 180, 3) := by decide +kernel
theorem dX6_stood_33 : decode cX6_stood 33 = .ok (.ireturn, 1) := by decide +kernel
theorem dX6_walk_0 : decode cX6_walk 0 = .ok (.iload_n 1, 1) := by decide +kernel
theorem dX6_walk_1 : decode cX6_walk 1 = .ok (.iconst 1, 1) := by decide +kernel
theorem dX6_walk_2 : decode cX6_walk 2 = .ok (.if_icmp .lt 22, 3) := by decide +kernel
theorem dX6_walk_5 : decode cX6_walk 5 = .ok (.iload_n 1, 1) := by decide +kernel
theorem dX6_walk_6 : decode cX6_walk 6 = .ok (.bipush 60, 2) := by decide +kernel
theorem dX6_walk_8 : decode cX6_walk 8 = .ok (.if_icmp .gt 16, 3) := by decide +kernel
theorem dX6_walk_11 : decode cX6_walk 11 = .ok (.iload_n 2, 1) := by decide +kernel
theorem dX6_walk_12 : decode cX6_walk 12 = .ok (.ifCond .lt 12, 3) := by decide +kernel
theorem dX6_walk_15 : decode cX6_walk 15 = .ok (.iload_n 3, 1) := by decide +kernel
theorem dX6_walk_16 : decode cX6_walk 16 = .ok (.ifCond .lt 8, 3) := by decide +kernel
theorem dX6_walk_19 : decode cX6_walk 19 = .ok (.iload_n 3, 1) := by decide +kernel
theorem dX6_walk_20 : decode cX6_walk 20 = .ok (.iconst 3, 1) := by decide +kernel
theorem dX6_walk_21 : decode cX6_walk 21 = .ok (.if_icmp .le 6, 3) := by decide +kernel
theorem dX6_walk_24 : decode cX6_walk 24 = .ok (.bipush (-102), 2) := by decide +kernel
theorem dX6_walk_26 : decode cX6_walk 26 = .ok (.ireturn, 1) := by decide +kernel
theorem dX6_walk_27 : decode cX6_walk 27 = .ok (.aload_n 0, 1) := by decide +kernel
theorem dX6_walk_28 : decode cX6_walk 28 = .ok (.getfield 32, 3) := by decide +kernel
theorem dX6_walk_31 : decode cX6_walk 31 = .ok (.getfield 91, 3) := by decide +kernel
theorem dX6_walk_34 : decode cX6_walk 34 = .ok (.iconst (-1), 1) := by decide +kernel
theorem dX6_walk_35 : decode cX6_walk 35 = .ok (.if_icmp .ne 6, 3) := by decide +kernel
theorem dX6_walk_38 : decode cX6_walk 38 = .ok (.bipush (-103), 2) := by decide +kernel
theorem dX6_walk_40 : decode cX6_walk 40 = .ok (.ireturn, 1) := by decide +kernel
theorem dX6_walk_41 : decode cX6_walk 41 = .ok (.aload_n 0, 1) := by decide +kernel
theorem dX6_walk_42 : decode cX6_walk 42 = .ok (.getfield 19, 3) := by decide +kernel
theorem dX6_walk_45 : decode cX6_walk 45 = .ok (.iload_n 1, 1) := by decide +kernel
theorem dX6_walk_46 : decode cX6_walk 46 = .ok (.iload_n 2, 1) := by decide +kernel
theorem dX6_walk_47 : decode cX6_walk 47 = .ok (.iload_n 3, 1) := by decide +kernel
theorem dX6_walk_48 : decode cX6_walk 48 = .ok (.invokevirtual 183, 3) := by decide +kernel
theorem dX6_walk_51 : decode cX6_walk 51 = .ok (.ireturn, 1) := by decide +kernel
set_option maxRecDepth 20000 in
theorem ggX6_image_X1_isMissing : GoodIn wsX6_image wsX1_isMissing := goodIn_r _ [11, 12, 37, 38, 39] (by decide +kernel) (by decide +kernel)
set_option maxRecDepth 20000 in
theorem gX6_image_X1_isMissing : GoodIn wsX6_image (wsV RX6 81 RX1 yX1_isMissing wsX1_isMissing) := goodIn_app (goodIn_of _ (by decide +kernel)) ggX6_image_X1_isMissing
theorem dX6_image_0 : decode cX6_image 0 = .ok (.aload_n 0, 1) := by decide +kernel
theorem dX6_image_1 : decode cX6_image 1 = .ok (.getfield 27, 3) := by decide +kernel
theorem dX6_image_4 : decode cX6_image 4 = .ok (.invokevirtual 81, 3) := by decide +kernel
theorem dX6_image_7 : decode cX6_image 7 = .ok (.ifCond .eq 6, 3) := by decide +kernel
theorem dX6_image_10 : decode cX6_image 10 = .ok (.bipush (-103), 2) := by decide +kernel
theorem dX6_image_12 : decode cX6_image 12 = .ok (.ireturn, 1) := by decide +kernel
theorem dX6_image_13 : decode cX6_image 13 = .ok (.aload_n 0, 1) := by decide +kernel
theorem dX6_image_14 : decode cX6_image 14 = .ok (.getfield 36, 3) := by decide +kernel
theorem dX6_image_17 : decode cX6_image 17 = .ok (.aload_n 0, 1) := by decide +kernel
theorem dX6_image_18 : decode cX6_image 18 = .ok (.getfield 32, 3) := by decide +kernel
theorem dX6_image_21 : decode cX6_image 21 = .ok (.invokevirtual 187, 3) := by decide +kernel
theorem dX6_image_24 : decode cX6_image 24 = .ok (.aload_n 0, 1) := by decide +kernel
theorem dX6_image_25 : decode cX6_image 25 = .ok (.aload_n 0, 1) := by decide +kernel
theorem dX6_image_26 : decode cX6_image 26 = .ok (.getfield 27, 3) := by decide +kernel
theorem dX6_image_29 : decode cX6_image 29 = .ok (.getfield 191, 3) := by decide +kernel
theorem dX6_image_32 : decode cX6_image 32 = .ok (.putfield 46, 3) := by decide +kernel
theorem dX6_image_35 : decode cX6_image 35 = .ok (.aload_n 0, 1) := by decide +kernel
theorem dX6_image_36 : decode cX6_image 36 = .ok (.getfield 32, 3) := by decide +kernel
theorem dX6_image_39 : decode cX6_image 39 = .ok (.getfield 194, 3) := by decide +kernel
theorem dX6_image_42 : decode cX6_image 42 = .ok (.ireturn, 1) := by decide +kernel
theorem dX6_restore_0 : decode cX6_restore 0 = .ok (.aload_n 0, 1) := by decide +kernel
theorem dX6_restore_1 : decode cX6_restore 1 = .ok (.getfield 46, 3) := by decide +kernel
theorem dX6_restore_4 : decode cX6_restore 4 = .ok (.ifCond .eq 17, 3) := by decide +kernel
theorem dX6_restore_7 : decode cX6_restore 7 = .ok (.aload_n 0, 1) := by decide +kernel
theorem dX6_restore_8 : decode cX6_restore 8 = .ok (.getfield 46, 3) := by decide +kernel
theorem dX6_restore_11 : decode cX6_restore 11 = .ok (.aload_n 0, 1) := by decide +kernel
theorem dX6_restore_12 : decode cX6_restore 12 = .ok (.getfield 27, 3) := by decide +kernel
theorem dX6_restore_15 : decode cX6_restore 15 = .ok (.getfield 191, 3) := by decide +kernel
theorem dX6_restore_18 : decode cX6_restore 18 = .ok (.if_icmp .eq 6, 3) := by decide +kernel
theorem dX6_restore_21 : decode cX6_restore 21 = .ok (.bipush (-103), 2) := by decide +kernel
theorem dX6_restore_23 : decode cX6_restore 23 = .ok (.ireturn, 1) := by decide +kernel
theorem dX6_restore_24 : decode cX6_restore 24 = .ok (.aload_n 0, 1) := by decide +kernel
theorem dX6_restore_25 : decode cX6_restore 25 = .ok (.getfield 32, 3) := by decide +kernel
theorem dX6_restore_28 : decode cX6_restore 28 = .ok (.aload_n 0, 1) := by decide +kernel
theorem dX6_restore_29 : decode cX6_restore 29 = .ok (.getfield 36, 3) := by decide +kernel
theorem dX6_restore_32 : decode cX6_restore 32 = .ok (.invokevirtual 187, 3) := by decide +kernel
theorem dX6_restore_35 : decode cX6_restore 35 = .ok (.aload_n 0, 1) := by decide +kernel
theorem dX6_restore_36 : decode cX6_restore 36 = .ok (.getfield 32, 3) := by decide +kernel
theorem dX6_restore_39 : decode cX6_restore 39 = .ok (.getfield 194, 3) := by decide +kernel
theorem dX6_restore_42 : decode cX6_restore 42 = .ok (.ireturn, 1) := by decide +kernel
set_option maxRecDepth 20000 in
theorem ggX6_count_X6_placeOf : GoodIn wsX6_count wsX6_placeOf := goodIn_r _ [15] (by decide +kernel) (by decide +kernel)
set_option maxRecDepth 20000 in
theorem gX6_count_X6_placeOf : GoodIn wsX6_count (va_wsS RX6 94 yX6_placeOf wsX6_placeOf) := goodIn_app (goodIn_of _ (by decide +kernel)) ggX6_count_X6_placeOf
set_option maxRecDepth 20000 in
theorem ggX6_count_X6_sideOf : GoodIn wsX6_count wsX6_sideOf := goodIn_r _ [18] (by decide +kernel) (by decide +kernel)
set_option maxRecDepth 20000 in
theorem gX6_count_X6_sideOf : GoodIn wsX6_count (va_wsS RX6 197 yX6_sideOf wsX6_sideOf) := goodIn_app (goodIn_of _ (by decide +kernel)) ggX6_count_X6_sideOf
set_option maxRecDepth 20000 in
theorem ggX6_count_X4_guiltyIf : GoodIn wsX6_count wsX4_guiltyIf := goodIn_r _ [23, 24, 25, 26, 27, 28, 29, 30, 31, 32, 33, 34, 35, 36, 14, 37, 38, 39, 40, 41, 42, 43, 44, 45, 46, 47, 48, 13, 15, 49, 50, 51, 52, 53, 54, 55, 56, 57, 58, 59, 60, 61, 62, 17, 18, 63, 64, 65, 66, 67, 68, 69, 96, 97, 98, 86, 87, 88, 89, 90, 91, 92, 93, 99, 100] (by decide +kernel) (by decide +kernel)
set_option maxRecDepth 20000 in
theorem gX6_count_X4_guiltyIf : GoodIn wsX6_count (wsV RX6 129 RX4 yX4_guiltyIf wsX4_guiltyIf) := goodIn_app (goodIn_of _ (by decide +kernel)) ggX6_count_X4_guiltyIf
set_option maxRecDepth 20000 in
theorem ggX6_count_X0_howManyTold : GoodIn wsX6_count wsX0_howManyTold := goodIn_r _ [74, 34, 75, 86, 87, 88, 89, 90, 91, 92, 93] (by decide +kernel) (by decide +kernel)
set_option maxRecDepth 20000 in
theorem gX6_count_X0_howManyTold : GoodIn wsX6_count (wsV RX6 200 RX0 yX0_howManyTold wsX0_howManyTold) := goodIn_app (goodIn_of _ (by decide +kernel)) ggX6_count_X0_howManyTold
theorem dX6_count_0 : decode cX6_count 0 = .ok (.iload_n 1, 1) := by decide +kernel
theorem dX6_count_1 : decode cX6_count 1 = .ok (.tableswitch 146 0 8 #[51, 59, 67, 78, 89, 114, 122, 130, 138], 51) := by decide +kernel
theorem dX6_count_52 : decode cX6_count 52 = .ok (.aload_n 0, 1) := by decide +kernel
theorem dX6_count_53 : decode cX6_count 53 = .ok (.getfield 27, 3) := by decide +kernel
theorem dX6_count_56 : decode cX6_count 56 = .ok (.getfield 74, 3) := by decide +kernel
theorem dX6_count_59 : decode cX6_count 59 = .ok (.ireturn, 1) := by decide +kernel
theorem dX6_count_60 : decode cX6_count 60 = .ok (.aload_n 0, 1) := by decide +kernel
theorem dX6_count_61 : decode cX6_count 61 = .ok (.getfield 32, 3) := by decide +kernel
theorem dX6_count_64 : decode cX6_count 64 = .ok (.getfield 194, 3) := by decide +kernel
theorem dX6_count_67 : decode cX6_count 67 = .ok (.ireturn, 1) := by decide +kernel
theorem dX6_count_68 : decode cX6_count 68 = .ok (.aload_n 0, 1) := by decide +kernel
theorem dX6_count_69 : decode cX6_count 69 = .ok (.getfield 32, 3) := by decide +kernel
theorem dX6_count_72 : decode cX6_count 72 = .ok (.getfield 91, 3) := by decide +kernel
theorem dX6_count_75 : decode cX6_count 75 = .ok (.invokestatic 94, 3) := by decide +kernel
theorem dX6_count_78 : decode cX6_count 78 = .ok (.ireturn, 1) := by decide +kernel
theorem dX6_count_79 : decode cX6_count 79 = .ok (.aload_n 0, 1) := by decide +kernel
theorem dX6_count_80 : decode cX6_count 80 = .ok (.getfield 32, 3) := by decide +kernel
theorem dX6_count_83 : decode cX6_count 83 = .ok (.getfield 91, 3) := by decide +kernel
theorem dX6_count_86 : decode cX6_count 86 = .ok (.invokestatic 197, 3) := by decide +kernel
theorem dX6_count_89 : decode cX6_count 89 = .ok (.ireturn, 1) := by decide +kernel
theorem dX6_count_90 : decode cX6_count 90 = .ok (.aload_n 0, 1) := by decide +kernel
theorem dX6_count_91 : decode cX6_count 91 = .ok (.getfield 19, 3) := by decide +kernel
theorem dX6_count_94 : decode cX6_count 94 = .ok (.aload_n 0, 1) := by decide +kernel
theorem dX6_count_95 : decode cX6_count 95 = .ok (.getfield 32, 3) := by decide +kernel
theorem dX6_count_98 : decode cX6_count 98 = .ok (.getfield 91, 3) := by decide +kernel
theorem dX6_count_101 : decode cX6_count 101 = .ok (.aload_n 0, 1) := by decide +kernel
theorem dX6_count_102 : decode cX6_count 102 = .ok (.getfield 27, 3) := by decide +kernel
theorem dX6_count_105 : decode cX6_count 105 = .ok (.getfield 84, 3) := by decide +kernel
theorem dX6_count_108 : decode cX6_count 108 = .ok (.invokevirtual 129, 3) := by decide +kernel
theorem dX6_count_111 : decode cX6_count 111 = .ok (.invokestatic 153, 3) := by decide +kernel
theorem dX6_count_114 : decode cX6_count 114 = .ok (.ireturn, 1) := by decide +kernel
theorem dX6_count_115 : decode cX6_count 115 = .ok (.aload_n 0, 1) := by decide +kernel
theorem dX6_count_116 : decode cX6_count 116 = .ok (.getfield 32, 3) := by decide +kernel
theorem dX6_count_119 : decode cX6_count 119 = .ok (.invokevirtual 200, 3) := by decide +kernel
theorem dX6_count_122 : decode cX6_count 122 = .ok (.ireturn, 1) := by decide +kernel
theorem dX6_count_123 : decode cX6_count 123 = .ok (.aload_n 0, 1) := by decide +kernel
theorem dX6_count_124 : decode cX6_count 124 = .ok (.getfield 32, 3) := by decide +kernel
theorem dX6_count_127 : decode cX6_count 127 = .ok (.getfield 147, 3) := by decide +kernel
theorem dX6_count_130 : decode cX6_count 130 = .ok (.ireturn, 1) := by decide +kernel
theorem dX6_count_131 : decode cX6_count 131 = .ok (.aload_n 0, 1) := by decide +kernel
theorem dX6_count_132 : decode cX6_count 132 = .ok (.getfield 12, 3) := by decide +kernel
theorem dX6_count_135 : decode cX6_count 135 = .ok (.getfield 203, 3) := by decide +kernel
theorem dX6_count_138 : decode cX6_count 138 = .ok (.ireturn, 1) := by decide +kernel
theorem dX6_count_139 : decode cX6_count 139 = .ok (.aload_n 0, 1) := by decide +kernel
theorem dX6_count_140 : decode cX6_count 140 = .ok (.getfield 27, 3) := by decide +kernel
theorem dX6_count_143 : decode cX6_count 143 = .ok (.getfield 191, 3) := by decide +kernel
theorem dX6_count_146 : decode cX6_count 146 = .ok (.ireturn, 1) := by decide +kernel
theorem dX6_count_147 : decode cX6_count 147 = .ok (.bipush (-102), 2) := by decide +kernel
theorem dX6_count_149 : decode cX6_count 149 = .ok (.ireturn, 1) := by decide +kernel
set_option maxRecDepth 20000 in
theorem ggX6_digest_X1_isMissing : GoodIn wsX6_digest wsX1_isMissing := goodIn_r _ [11, 12, 244, 245, 246] (by decide +kernel) (by decide +kernel)
set_option maxRecDepth 20000 in
theorem gX6_digest_X1_isMissing : GoodIn wsX6_digest (wsV RX6 81 RX1 yX1_isMissing wsX1_isMissing) := goodIn_app (goodIn_of _ (by decide +kernel)) ggX6_digest_X1_isMissing
set_option maxRecDepth 20000 in
theorem ggX6_digest_X6_on : GoodIn wsX6_digest wsX6_on := goodIn_r _ [17, 2, 18, 3, 4, 19, 20, 16, 21, 7, 8, 9, 10, 11, 12, 22, 23, 24, 25, 26, 27, 28, 29, 30, 31, 32, 33, 34, 35, 36, 37, 227, 228, 229, 230, 231, 232, 233, 244, 245, 246, 234, 235, 236, 237, 238, 239, 240, 241] (by decide +kernel) (by decide +kernel)
set_option maxRecDepth 20000 in
theorem gX6_digest_X6_on : GoodIn wsX6_digest (wsV RX6 206 RX6 yX6_on wsX6_on) := goodIn_app (goodIn_of _ (by decide +kernel)) ggX6_digest_X6_on
set_option maxRecDepth 20000 in
theorem ggX6_digest_X6_mixed : GoodIn wsX6_digest wsX6_mixed := goodIn_r _ [40, 41] (by decide +kernel) (by decide +kernel)
set_option maxRecDepth 20000 in
theorem gX6_digest_X6_mixed : GoodIn wsX6_digest (va_wsS RX6 209 yX6_mixed wsX6_mixed) := goodIn_app (goodIn_of _ (by decide +kernel)) ggX6_digest_X6_mixed
set_option maxRecDepth 20000 in
theorem ggX6_digest_X6_mixedCourtiers : GoodIn wsX6_digest wsX6_mixedCourtiers := goodIn_r _ [45, 3, 46, 47, 48, 49, 50, 16, 51, 52, 53, 54, 4, 2, 18, 55, 56, 57, 58, 59, 34, 60, 36, 61, 62, 63, 64, 65, 66, 67, 68, 69, 70, 71, 37, 26, 27, 72, 73, 74, 75, 76, 77, 78, 79, 80, 81, 82, 83, 84, 85, 86, 87, 88, 29, 30, 20, 21, 89, 90, 91, 92, 93, 94, 95, 96, 97, 98, 99, 100, 101, 102, 103, 104, 105, 106, 107, 108, 109, 110, 111, 112, 113, 114, 115, 116, 117, 118, 119, 25, 38, 39, 40, 41, 227, 228, 229, 230, 231, 232, 233, 234, 235, 236, 237, 238, 239, 240, 241, 244, 245, 246, 247, 248, 249, 250, 251] (by decide +kernel) (by decide +kernel)
set_option maxRecDepth 20000 in
theorem gX6_digest_X6_mixedCourtiers : GoodIn wsX6_digest (wsV RX6 213 RX6 yX6_mixedCourtiers wsX6_mixedCourtiers) := goodIn_app (goodIn_of _ (by decide +kernel)) ggX6_digest_X6_mixedCourtiers
set_option maxRecDepth 20000 in
theorem ggX6_digest_X6_room : GoodIn wsX6_digest wsX6_room := goodIn_r _ [123, 3, 4, 54, 124, 125, 126, 64, 127, 66, 67, 79, 80, 76, 128, 111, 112, 113, 114, 77, 78, 68, 69, 70, 34, 71, 36, 37, 26, 16, 27, 115, 116, 117, 85, 118, 119, 83, 84, 86, 87, 88, 29, 30, 20, 21, 89, 90, 91, 92, 93, 94, 95, 96, 97, 98, 99, 100, 101, 102, 103, 104, 105, 106, 107, 108, 109, 129, 130, 131, 132, 23, 24, 19, 25, 133, 134, 135, 227, 228, 229, 230, 231, 232, 233, 234, 235, 236, 237, 238, 239, 240, 241, 247, 248, 249, 244, 245, 246, 250, 251] (by decide +kernel) (by decide +kernel)
set_option maxRecDepth 20000 in
theorem gX6_digest_X6_room : GoodIn wsX6_digest (wsV RX6 217 RX6 yX6_room wsX6_room) := goodIn_app (goodIn_of _ (by decide +kernel)) ggX6_digest_X6_room
set_option maxRecDepth 20000 in
theorem ggX6_digest_X6_brick : GoodIn wsX6_digest wsX6_brick := goodIn_r _ [139, 3, 4, 54, 2, 18, 140, 141, 142, 64, 143, 66, 67, 79, 80, 129, 130, 131, 132, 68, 69, 70, 34, 71, 36, 37, 26, 16, 27, 29, 30, 128, 111, 112, 113, 114, 76, 77, 78, 115, 116, 117, 85, 118, 119, 83, 84, 86, 87, 88, 20, 21, 89, 90, 91, 92, 93, 94, 95, 96, 97, 98, 99, 100, 101, 102, 103, 104, 105, 106, 107, 108, 109, 144, 23, 24, 19, 25, 110, 145, 227, 228, 229, 230, 231, 232, 233, 234, 235, 236, 237, 238, 239, 240, 241, 244, 245, 246, 247, 248, 249, 250, 251] (by decide +kernel) (by decide +kernel)
set_option maxRecDepth 20000 in
theorem gX6_digest_X6_brick : GoodIn wsX6_digest (wsV RX6 220 RX6 yX6_brick wsX6_brick) := goodIn_app (goodIn_of _ (by decide +kernel)) ggX6_digest_X6_brick
set_option maxRecDepth 20000 in
theorem ggX6_digest_X6_way : GoodIn wsX6_digest wsX6_way := goodIn_r _ [149, 3, 4, 150, 54, 19, 20, 16, 21, 151, 152, 153, 154, 155, 156, 157, 158, 159, 160, 161, 162, 163, 164, 165, 166, 167, 168, 169, 170, 171, 172, 29, 30, 173, 174, 175, 64, 176, 79, 80, 66, 101, 102, 177, 178, 179, 180, 181, 182, 68, 69, 70, 34, 71, 36, 37, 26, 27, 23, 24, 25, 183, 111, 112, 113, 114, 76, 77, 78, 115, 116, 117, 85, 118, 119, 83, 84, 86, 87, 88, 89, 90, 91, 92, 93, 94, 95, 96, 97, 98, 99, 100, 103, 104, 105, 106, 107, 108, 109, 184, 185, 186, 187, 188, 189, 190, 191, 192, 193, 227, 228, 229, 230, 231, 232, 233, 234, 235, 236, 237, 238, 239, 240, 241, 252, 253, 254, 255, 247, 248, 249, 244, 245, 246, 250, 251] (by decide +kernel) (by decide +kernel)
set_option maxRecDepth 20000 in
theorem gX6_digest_X6_way : GoodIn wsX6_digest (wsV RX6 223 RX6 yX6_way wsX6_way) := goodIn_app (goodIn_of _ (by decide +kernel)) ggX6_digest_X6_way
set_option maxRecDepth 20000 in
theorem ggX6_digest_X6_stood : GoodIn wsX6_digest wsX6_stood := goodIn_r _ [197, 2, 54, 7, 8, 9, 10, 11, 12, 198, 199, 200, 64, 201, 79, 80, 66, 68, 69, 70, 34, 71, 36, 37, 26, 16, 27, 29, 30, 23, 24, 19, 20, 21, 25, 202, 203, 204, 205, 114, 206, 72, 73, 74, 75, 76, 77, 78, 81, 58, 59, 60, 82, 83, 84, 85, 86, 87, 88, 89, 90, 91, 92, 93, 94, 95, 96, 97, 98, 99, 100, 101, 102, 103, 104, 105, 106, 107, 108, 109, 227, 228, 229, 230, 231, 232, 233, 244, 245, 246, 247, 248, 249, 234, 235, 236, 237, 238, 239, 240, 241, 250, 251] (by decide +kernel) (by decide +kernel)
set_option maxRecDepth 20000 in
theorem gX6_digest_X6_stood : GoodIn wsX6_digest (wsV RX6 226 RX6 yX6_stood wsX6_stood) := goodIn_app (goodIn_of _ (by decide +kernel)) ggX6_digest_X6_stood
set_option maxRecDepth 20000 in
theorem ggX6_digest_X6_count : GoodIn wsX6_digest wsX6_count := goodIn_r _ [217, 2, 218, 3, 46, 4, 54, 18, 219, 5, 6, 220, 28, 29, 16, 30, 221, 101, 102, 110, 111, 112, 64, 113, 66, 114, 76, 77, 78, 68, 69, 70, 34, 71, 36, 37, 26, 27, 115, 116, 117, 85, 118, 119, 83, 84, 86, 87, 88, 20, 21, 89, 90, 91, 92, 93, 94, 95, 96, 97, 98, 99, 100, 103, 104, 105, 106, 107, 108, 109, 145, 222, 223, 224, 225, 226, 227, 228, 229, 230, 231, 232, 233, 244, 245, 246, 234, 235, 236, 237, 238, 239, 240, 241, 242, 243, 247, 248, 249, 250, 251] (by decide +kernel) (by decide +kernel)
set_option maxRecDepth 20000 in
theorem gX6_digest_X6_count : GoodIn wsX6_digest (wsV RX6 232 RX6 yX6_count wsX6_count) := goodIn_app (goodIn_of _ (by decide +kernel)) ggX6_digest_X6_count
theorem dX6_digest_0 : decode cX6_digest 0 = .ok (.ldc2_w 204, 3) := by decide +kernel
theorem dX6_digest_3 : decode cX6_digest 3 = .ok (.lstore_n 1, 1) := by decide +kernel
theorem dX6_digest_4 : decode cX6_digest 4 = .ok (.aload_n 0, 1) := by decide +kernel
theorem dX6_digest_5 : decode cX6_digest 5 = .ok (.getfield 27, 3) := by decide +kernel
theorem dX6_digest_8 : decode cX6_digest 8 = .ok (.invokevirtual 81, 3) := by decide +kernel
theorem dX6_digest_11 : decode cX6_digest 11 = .ok (.ifCond .ne 27, 3) := by decide +kernel
theorem dX6_digest_14 : decode cX6_digest 14 = .ok (.iconst 0, 1) := by decide +kernel
theorem dX6_digest_15 : decode cX6_digest 15 = .ok (.istore_n 3, 1) := by decide +kernel
theorem dX6_digest_16 : decode cX6_digest 16 = .ok (.iload_n 3, 1) := by decide +kernel
theorem dX6_digest_17 : decode cX6_digest 17 = .ok (.bipush 20, 2) := by decide +kernel
theorem dX6_digest_19 : decode cX6_digest 19 = .ok (.if_icmp .ge 19, 3) := by decide +kernel
theorem dX6_digest_22 : decode cX6_digest 22 = .ok (.lload_n 1, 1) := by decide +kernel
theorem dX6_digest_23 : decode cX6_digest 23 = .ok (.aload_n 0, 1) := by decide +kernel
theorem dX6_digest_24 : decode cX6_digest 24 = .ok (.iload_n 3, 1) := by decide +kernel
theorem dX6_digest_25 : decode cX6_digest 25 = .ok (.invokevirtual 206, 3) := by decide +kernel
theorem dX6_digest_28 : decode cX6_digest 28 = .ok (.invokestatic 209, 3) := by decide +kernel
theorem dX6_digest_31 : decode cX6_digest 31 = .ok (.lstore_n 1, 1) := by decide +kernel
theorem dX6_digest_32 : decode cX6_digest 32 = .ok (.iinc 3 1, 3) := by decide +kernel
theorem dX6_digest_35 : decode cX6_digest 35 = .ok (.goto (-19), 3) := by decide +kernel
theorem dX6_digest_38 : decode cX6_digest 38 = .ok (.aload_n 0, 1) := by decide +kernel
theorem dX6_digest_39 : decode cX6_digest 39 = .ok (.lload_n 1, 1) := by decide +kernel
theorem dX6_digest_40 : decode cX6_digest 40 = .ok (.invokevirtual 213, 3) := by decide +kernel
theorem dX6_digest_43 : decode cX6_digest 43 = .ok (.lstore_n 1, 1) := by decide +kernel
theorem dX6_digest_44 : decode cX6_digest 44 = .ok (.aload_n 0, 1) := by decide +kernel
theorem dX6_digest_45 : decode cX6_digest 45 = .ok (.getfield 32, 3) := by decide +kernel
theorem dX6_digest_48 : decode cX6_digest 48 = .ok (.getfield 91, 3) := by decide +kernel
theorem dX6_digest_51 : decode cX6_digest 51 = .ok (.iconst (-1), 1) := by decide +kernel
theorem dX6_digest_52 : decode cX6_digest 52 = .ok (.if_icmp .eq 62, 3) := by decide +kernel
theorem dX6_digest_55 : decode cX6_digest 55 = .ok (.lload_n 1, 1) := by decide +kernel
theorem dX6_digest_56 : decode cX6_digest 56 = .ok (.aload_n 0, 1) := by decide +kernel
theorem dX6_digest_57 : decode cX6_digest 57 = .ok (.iconst 2, 1) := by decide +kernel
theorem dX6_digest_58 : decode cX6_digest 58 = .ok (.iconst 0, 1) := by decide +kernel
theorem dX6_digest_59 : decode cX6_digest 59 = .ok (.invokevirtual 217, 3) := by decide +kernel
theorem dX6_digest_62 : decode cX6_digest 62 = .ok (.invokestatic 209, 3) := by decide +kernel
theorem dX6_digest_65 : decode cX6_digest 65 = .ok (.aload_n 0, 1) := by decide +kernel
theorem dX6_digest_66 : decode cX6_digest 66 = .ok (.iconst 2, 1) := by decide +kernel
theorem dX6_digest_67 : decode cX6_digest 67 = .ok (.iconst 1, 1) := by decide +kernel
theorem dX6_digest_68 : decode cX6_digest 68 = .ok (.invokevirtual 217, 3) := by decide +kernel
theorem dX6_digest_71 : decode cX6_digest 71 = .ok (.invokestatic 209, 3) := by decide +kernel
theorem dX6_digest_74 : decode cX6_digest 74 = .ok (.lstore_n 1, 1) := by decide +kernel
theorem dX6_digest_75 : decode cX6_digest 75 = .ok (.lload_n 1, 1) := by decide +kernel
theorem dX6_digest_76 : decode cX6_digest 76 = .ok (.aload_n 0, 1) := by decide +kernel
theorem dX6_digest_77 : decode cX6_digest 77 = .ok (.iconst 0, 1) := by decide +kernel
theorem dX6_digest_78 : decode cX6_digest 78 = .ok (.invokevirtual 220, 3) := by decide +kernel
theorem dX6_digest_81 : decode cX6_digest 81 = .ok (.invokestatic 209, 3) := by decide +kernel
theorem dX6_digest_84 : decode cX6_digest 84 = .ok (.aload_n 0, 1) := by decide +kernel
theorem dX6_digest_85 : decode cX6_digest 85 = .ok (.iconst 1, 1) := by decide +kernel
theorem dX6_digest_86 : decode cX6_digest 86 = .ok (.invokevirtual 220, 3) := by decide +kernel
theorem dX6_digest_89 : decode cX6_digest 89 = .ok (.invokestatic 209, 3) := by decide +kernel
theorem dX6_digest_92 : decode cX6_digest 92 = .ok (.lstore_n 1, 1) := by decide +kernel
theorem dX6_digest_93 : decode cX6_digest 93 = .ok (.lload_n 1, 1) := by decide +kernel
theorem dX6_digest_94 : decode cX6_digest 94 = .ok (.aload_n 0, 1) := by decide +kernel
theorem dX6_digest_95 : decode cX6_digest 95 = .ok (.iconst 0, 1) := by decide +kernel
theorem dX6_digest_96 : decode cX6_digest 96 = .ok (.iconst 0, 1) := by decide +kernel
theorem dX6_digest_97 : decode cX6_digest 97 = .ok (.invokevirtual 223, 3) := by decide +kernel
theorem dX6_digest_100 : decode cX6_digest 100 = .ok (.invokestatic 209, 3) := by decide +kernel
theorem dX6_digest_103 : decode cX6_digest 103 = .ok (.aload_n 0, 1) := by decide +kernel
theorem dX6_digest_104 : decode cX6_digest 104 = .ok (.bipush 19, 2) := by decide +kernel
theorem dX6_digest_106 : decode cX6_digest 106 = .ok (.iconst 0, 1) := by decide +kernel
theorem dX6_digest_107 : decode cX6_digest 107 = .ok (.invokevirtual 223, 3) := by decide +kernel
theorem dX6_digest_110 : decode cX6_digest 110 = .ok (.invokestatic 209, 3) := by decide +kernel
theorem dX6_digest_113 : decode cX6_digest 113 = .ok (.lstore_n 1, 1) := by decide +kernel
theorem dX6_digest_114 : decode cX6_digest 114 = .ok (.aload_n 0, 1) := by decide +kernel
theorem dX6_digest_115 : decode cX6_digest 115 = .ok (.getfield 27, 3) := by decide +kernel
theorem dX6_digest_118 : decode cX6_digest 118 = .ok (.invokevirtual 81, 3) := by decide +kernel
theorem dX6_digest_121 : decode cX6_digest 121 = .ok (.ifCond .ne 26, 3) := by decide +kernel
theorem dX6_digest_124 : decode cX6_digest 124 = .ok (.iconst 0, 1) := by decide +kernel
theorem dX6_digest_125 : decode cX6_digest 125 = .ok (.istore_n 3, 1) := by decide +kernel
theorem dX6_digest_126 : decode cX6_digest 126 = .ok (.iload_n 3, 1) := by decide +kernel
theorem dX6_digest_127 : decode cX6_digest 127 = .ok (.iconst 2, 1) := by decide +kernel
theorem dX6_digest_128 : decode cX6_digest 128 = .ok (.if_icmp .gt 19, 3) := by decide +kernel
theorem dX6_digest_131 : decode cX6_digest 131 = .ok (.lload_n 1, 1) := by decide +kernel
theorem dX6_digest_132 : decode cX6_digest 132 = .ok (.aload_n 0, 1) := by decide +kernel
theorem dX6_digest_133 : decode cX6_digest 133 = .ok (.iload_n 3, 1) := by decide +kernel
theorem dX6_digest_134 : decode cX6_digest 134 = .ok (.invokevirtual 226, 3) := by decide +kernel
theorem dX6_digest_137 : decode cX6_digest 137 = .ok (.invokestatic 209, 3) := by decide +kernel
theorem dX6_digest_140 : decode cX6_digest 140 = .ok (.lstore_n 1, 1) := by decide +kernel
theorem dX6_digest_141 : decode cX6_digest 141 = .ok (.iinc 3 1, 3) := by decide +kernel
theorem dX6_digest_144 : decode cX6_digest 144 = .ok (.goto (-18), 3) := by decide +kernel
theorem dX6_digest_147 : decode cX6_digest 147 = .ok (.iconst 0, 1) := by decide +kernel
theorem dX6_digest_148 : decode cX6_digest 148 = .ok (.istore_n 3, 1) := by decide +kernel
theorem dX6_digest_149 : decode cX6_digest 149 = .ok (.iload_n 3, 1) := by decide +kernel
theorem dX6_digest_150 : decode cX6_digest 150 = .ok (.aload_n 0, 1) := by decide +kernel
theorem dX6_digest_151 : decode cX6_digest 151 = .ok (.getfield 12, 3) := by decide +kernel
theorem dX6_digest_154 : decode cX6_digest 154 = .ok (.getfield 203, 3) := by decide +kernel
theorem dX6_digest_157 : decode cX6_digest 157 = .ok (.if_icmp .ge 22, 3) := by decide +kernel
theorem dX6_digest_160 : decode cX6_digest 160 = .ok (.lload_n 1, 1) := by decide +kernel
theorem dX6_digest_161 : decode cX6_digest 161 = .ok (.aload_n 0, 1) := by decide +kernel
theorem dX6_digest_162 : decode cX6_digest 162 = .ok (.getfield 12, 3) := by decide +kernel
theorem dX6_digest_165 : decode cX6_digest 165 = .ok (.iload_n 3, 1) := by decide +kernel
theorem dX6_digest_166 : decode cX6_digest 166 = .ok (.invokevirtual 229, 3) := by decide +kernel
theorem dX6_digest_169 : decode cX6_digest 169 = .ok (.invokestatic 209, 3) := by decide +kernel
theorem dX6_digest_172 : decode cX6_digest 172 = .ok (.lstore_n 1, 1) := by decide +kernel
theorem dX6_digest_173 : decode cX6_digest 173 = .ok (.iinc 3 1, 3) := by decide +kernel
theorem dX6_digest_176 : decode cX6_digest 176 = .ok (.goto (-27), 3) := by decide +kernel
theorem dX6_digest_179 : decode cX6_digest 179 = .ok (.iconst 0, 1) := by decide +kernel
theorem dX6_digest_180 : decode cX6_digest 180 = .ok (.istore_n 3, 1) := by decide +kernel
theorem dX6_digest_181 : decode cX6_digest 181 = .ok (.iload_n 3, 1) := by decide +kernel
theorem dX6_digest_182 : decode cX6_digest 182 = .ok (.bipush 8, 2) := by decide +kernel
theorem dX6_digest_184 : decode cX6_digest 184 = .ok (.if_icmp .gt 19, 3) := by decide +kernel
theorem dX6_digest_187 : decode cX6_digest 187 = .ok (.lload_n 1, 1) := by decide +kernel
theorem dX6_digest_188 : decode cX6_digest 188 = .ok (.aload_n 0, 1) := by decide +kernel
theorem dX6_digest_189 : decode cX6_digest 189 = .ok (.iload_n 3, 1) := by decide +kernel
theorem dX6_digest_190 : decode cX6_digest 190 = .ok (.invokevirtual 232, 3) := by decide +kernel
theorem dX6_digest_193 : decode cX6_digest 193 = .ok (.invokestatic 209, 3) := by decide +kernel
theorem dX6_digest_196 : decode cX6_digest 196 = .ok (.lstore_n 1, 1) := by decide +kernel
theorem dX6_digest_197 : decode cX6_digest 197 = .ok (.iinc 3 1, 3) := by decide +kernel
theorem dX6_digest_200 : decode cX6_digest 200 = .ok (.goto (-19), 3) := by decide +kernel
theorem dX6_digest_203 : decode cX6_digest 203 = .ok (.lload_n 1, 1) := by decide +kernel
theorem dX6_digest_204 : decode cX6_digest 204 = .ok (.lreturn, 1) := by decide +kernel
set_option maxRecDepth 20000 in
theorem ggX6_mixedCourtiers_X6_about : GoodIn wsX6_mixedCourtiers wsX6_about := goodIn_r _ [8, 1, 9, 10, 11, 12, 13, 14, 15, 16, 17, 18, 19, 20, 21, 22, 23, 24, 25, 26, 27, 28, 29, 30, 31, 32, 33, 34, 35, 7, 36, 37, 38, 39, 40, 41, 42, 43, 44, 45, 46, 47, 48, 49, 50, 51, 52, 53, 54, 55, 56, 57, 58, 59, 60, 61, 62, 63, 64, 65, 66, 67, 68, 69, 70, 71, 72, 73, 74, 75, 76, 77, 78, 79, 80, 81, 82, 83, 84, 85, 86, 87, 88, 89, 94, 95, 96, 97, 98, 99, 100, 101, 102, 103, 104, 105, 106, 107, 108, 109, 110, 111, 112, 113, 114, 115, 116] (by decide +kernel) (by decide +kernel)
set_option maxRecDepth 20000 in
theorem gX6_mixedCourtiers_X6_about : GoodIn wsX6_mixedCourtiers (wsV RX6 235 RX6 yX6_about wsX6_about) := goodIn_app (goodIn_of _ (by decide +kernel)) ggX6_mixedCourtiers_X6_about
set_option maxRecDepth 20000 in
theorem ggX6_mixedCourtiers_X6_mixed : GoodIn wsX6_mixedCourtiers wsX6_mixed := goodIn_r _ [92, 93] (by decide +kernel) (by decide +kernel)
set_option maxRecDepth 20000 in
theorem gX6_mixedCourtiers_X6_mixed : GoodIn wsX6_mixedCourtiers (va_wsS RX6 209 yX6_mixed wsX6_mixed) := goodIn_app (goodIn_of _ (by decide +kernel)) ggX6_mixedCourtiers_X6_mixed
theorem dX6_mixedCourtiers_0 : decode cX6_mixedCourtiers 0 = .ok (.lload_n 1, 1) := by decide +kernel
theorem dX6_mixedCourtiers_1 : decode cX6_mixedCourtiers 1 = .ok (.lstore_n 3, 1) := by decide +kernel
theorem dX6_mixedCourtiers_2 : decode cX6_mixedCourtiers 2 = .ok (.iconst 0, 1) := by decide +kernel
theorem dX6_mixedCourtiers_3 : decode cX6_mixedCourtiers 3 = .ok (.istore 5, 2) := by decide +kernel
theorem dX6_mixedCourtiers_5 : decode cX6_mixedCourtiers 5 = .ok (.iload 5, 2) := by decide +kernel
theorem dX6_mixedCourtiers_7 : decode cX6_mixedCourtiers 7 = .ok (.aload_n 0, 1) := by decide +kernel
theorem dX6_mixedCourtiers_8 : decode cX6_mixedCourtiers 8 = .ok (.getfield 32, 3) := by decide +kernel
theorem dX6_mixedCourtiers_11 : decode cX6_mixedCourtiers 11 = .ok (.getfield 194, 3) := by decide +kernel
theorem dX6_mixedCourtiers_14 : decode cX6_mixedCourtiers 14 = .ok (.if_icmp .ge 52, 3) := by decide +kernel
theorem dX6_mixedCourtiers_17 : decode cX6_mixedCourtiers 17 = .ok (.iconst 0, 1) := by decide +kernel
theorem dX6_mixedCourtiers_18 : decode cX6_mixedCourtiers 18 = .ok (.istore 6, 2) := by decide +kernel
theorem dX6_mixedCourtiers_20 : decode cX6_mixedCourtiers 20 = .ok (.iload 6, 2) := by decide +kernel
theorem dX6_mixedCourtiers_22 : decode cX6_mixedCourtiers 22 = .ok (.iconst 5, 1) := by decide +kernel
theorem dX6_mixedCourtiers_23 : decode cX6_mixedCourtiers 23 = .ok (.if_icmp .gt 22, 3) := by decide +kernel
theorem dX6_mixedCourtiers_26 : decode cX6_mixedCourtiers 26 = .ok (.lload_n 3, 1) := by decide +kernel
theorem dX6_mixedCourtiers_27 : decode cX6_mixedCourtiers 27 = .ok (.aload_n 0, 1) := by decide +kernel
theorem dX6_mixedCourtiers_28 : decode cX6_mixedCourtiers 28 = .ok (.iload 5, 2) := by decide +kernel
theorem dX6_mixedCourtiers_30 : decode cX6_mixedCourtiers 30 = .ok (.iload 6, 2) := by decide +kernel
theorem dX6_mixedCourtiers_32 : decode cX6_mixedCourtiers 32 = .ok (.invokevirtual 235, 3) := by decide +kernel
theorem dX6_mixedCourtiers_35 : decode cX6_mixedCourtiers 35 = .ok (.invokestatic 209, 3) := by decide +kernel
theorem dX6_mixedCourtiers_38 : decode cX6_mixedCourtiers 38 = .ok (.lstore_n 3, 1) := by decide +kernel
theorem dX6_mixedCourtiers_39 : decode cX6_mixedCourtiers 39 = .ok (.iinc 6 1, 3) := by decide +kernel
theorem dX6_mixedCourtiers_42 : decode cX6_mixedCourtiers 42 = .ok (.goto (-22), 3) := by decide +kernel
theorem dX6_mixedCourtiers_45 : decode cX6_mixedCourtiers 45 = .ok (.lload_n 3, 1) := by decide +kernel
theorem dX6_mixedCourtiers_46 : decode cX6_mixedCourtiers 46 = .ok (.aload_n 0, 1) := by decide +kernel
theorem dX6_mixedCourtiers_47 : decode cX6_mixedCourtiers 47 = .ok (.getfield 32, 3) := by decide +kernel
theorem dX6_mixedCourtiers_50 : decode cX6_mixedCourtiers 50 = .ok (.getfield 177, 3) := by decide +kernel
theorem dX6_mixedCourtiers_53 : decode cX6_mixedCourtiers 53 = .ok (.iload 5, 2) := by decide +kernel
theorem dX6_mixedCourtiers_55 : decode cX6_mixedCourtiers 55 = .ok (.iaload, 1) := by decide +kernel
theorem dX6_mixedCourtiers_56 : decode cX6_mixedCourtiers 56 = .ok (.invokestatic 209, 3) := by decide +kernel
theorem dX6_mixedCourtiers_59 : decode cX6_mixedCourtiers 59 = .ok (.lstore_n 3, 1) := by decide +kernel
theorem dX6_mixedCourtiers_60 : decode cX6_mixedCourtiers 60 = .ok (.iinc 5 1, 3) := by decide +kernel
theorem dX6_mixedCourtiers_63 : decode cX6_mixedCourtiers 63 = .ok (.goto (-58), 3) := by decide +kernel
theorem dX6_mixedCourtiers_66 : decode cX6_mixedCourtiers 66 = .ok (.lload_n 3, 1) := by decide +kernel
theorem dX6_mixedCourtiers_67 : decode cX6_mixedCourtiers 67 = .ok (.lreturn, 1) := by decide +kernel
theorem dX6_mixed_0 : decode cX6_mixed 0 = .ok (.ldc2_w 238, 3) := by decide +kernel
theorem dX6_mixed_3 : decode cX6_mixed 3 = .ok (.lload_n 0, 1) := by decide +kernel
theorem dX6_mixed_4 : decode cX6_mixed 4 = .ok (.lmul, 1) := by decide +kernel
theorem dX6_mixed_5 : decode cX6_mixed 5 = .ok (.iload_n 2, 1) := by decide +kernel
theorem dX6_mixed_6 : decode cX6_mixed 6 = .ok (.i2l, 1) := by decide +kernel
theorem dX6_mixed_7 : decode cX6_mixed 7 = .ok (.ladd, 1) := by decide +kernel
theorem dX6_mixed_8 : decode cX6_mixed 8 = .ok (.lreturn, 1) := by decide +kernel
theorem dX6_isPlace_0 : decode cX6_isPlace 0 = .ok (.iload_n 0, 1) := by decide +kernel
theorem dX6_isPlace_1 : decode cX6_isPlace 1 = .ok (.ifCond .lt 13, 3) := by decide +kernel
theorem dX6_isPlace_4 : decode cX6_isPlace 4 = .ok (.iload_n 0, 1) := by decide +kernel
theorem dX6_isPlace_5 : decode cX6_isPlace 5 = .ok (.bipush 20, 2) := by decide +kernel
theorem dX6_isPlace_7 : decode cX6_isPlace 7 = .ok (.if_icmp .ge 7, 3) := by decide +kernel
theorem dX6_isPlace_10 : decode cX6_isPlace 10 = .ok (.iconst 1, 1) := by decide +kernel
theorem dX6_isPlace_11 : decode cX6_isPlace 11 = .ok (.goto 4, 3) := by decide +kernel
theorem dX6_isPlace_14 : decode cX6_isPlace 14 = .ok (.iconst 0, 1) := by decide +kernel
theorem dX6_isPlace_15 : decode cX6_isPlace 15 = .ok (.ireturn, 1) := by decide +kernel
theorem dX6_isKind_0 : decode cX6_isKind 0 = .ok (.iload_n 0, 1) := by decide +kernel
theorem dX6_isKind_1 : decode cX6_isKind 1 = .ok (.ifCond .lt 12, 3) := by decide +kernel
theorem dX6_isKind_4 : decode cX6_isKind 4 = .ok (.iload_n 0, 1) := by decide +kernel
theorem dX6_isKind_5 : decode cX6_isKind 5 = .ok (.iconst 4, 1) := by decide +kernel
theorem dX6_isKind_6 : decode cX6_isKind 6 = .ok (.if_icmp .gt 7, 3) := by decide +kernel
theorem dX6_isKind_9 : decode cX6_isKind 9 = .ok (.iconst 1, 1) := by decide +kernel
theorem dX6_isKind_10 : decode cX6_isKind 10 = .ok (.goto 4, 3) := by decide +kernel
theorem dX6_isKind_13 : decode cX6_isKind 13 = .ok (.iconst 0, 1) := by decide +kernel
theorem dX6_isKind_14 : decode cX6_isKind 14 = .ok (.ireturn, 1) := by decide +kernel
theorem dX6_bit_0 : decode cX6_bit 0 = .ok (.iconst 1, 1) := by decide +kernel
theorem dX6_bit_1 : decode cX6_bit 1 = .ok (.iload_n 0, 1) := by decide +kernel
theorem dX6_bit_2 : decode cX6_bit 2 = .ok (.ishl, 1) := by decide +kernel
theorem dX6_bit_3 : decode cX6_bit 3 = .ok (.ireturn, 1) := by decide +kernel
set_option maxRecDepth 20000 in
theorem ggX6_neighbour_X6_isPlace : GoodIn wsX6_neighbour wsX6_isPlace := goodIn_r _ [6] (by decide +kernel) (by decide +kernel)
set_option maxRecDepth 20000 in
theorem gX6_neighbour_X6_isPlace : GoodIn wsX6_neighbour (va_wsS RX6 77 yX6_isPlace wsX6_isPlace) := goodIn_app (goodIn_of _ (by decide +kernel)) ggX6_neighbour_X6_isPlace
theorem dX6_neighbour_0 : decode cX6_neighbour 0 = .ok (.iload_n 0, 1) := by decide +kernel
theorem dX6_neighbour_1 : decode cX6_neighbour 1 = .ok (.invokestatic 77, 3) := by decide +kernel
theorem dX6_neighbour_4 : decode cX6_neighbour 4 = .ok (.ifCond .eq 13, 3) := by decide +kernel
theorem dX6_neighbour_7 : decode cX6_neighbour 7 = .ok (.iload_n 1, 1) := by decide +kernel
theorem dX6_neighbour_8 : decode cX6_neighbour 8 = .ok (.ifCond .lt 9, 3) := by decide +kernel
theorem dX6_neighbour_11 : decode cX6_neighbour 11 = .ok (.iload_n 1, 1) := by decide +kernel
theorem dX6_neighbour_12 : decode cX6_neighbour 12 = .ok (.bipush 8, 2) := by decide +kernel
theorem dX6_neighbour_14 : decode cX6_neighbour 14 = .ok (.if_icmp .lt 5, 3) := by decide +kernel
theorem dX6_neighbour_17 : decode cX6_neighbour 17 = .ok (.iconst (-1), 1) := by decide +kernel
theorem dX6_neighbour_18 : decode cX6_neighbour 18 = .ok (.ireturn, 1) := by decide +kernel
theorem dX6_neighbour_19 : decode cX6_neighbour 19 = .ok (.iload_n 0, 1) := by decide +kernel
theorem dX6_neighbour_20 : decode cX6_neighbour 20 = .ok (.iconst 5, 1) := by decide +kernel
theorem dX6_neighbour_21 : decode cX6_neighbour 21 = .ok (.idiv, 1) := by decide +kernel
theorem dX6_neighbour_22 : decode cX6_neighbour 22 = .ok (.getstatic 240, 3) := by decide +kernel
theorem dX6_neighbour_25 : decode cX6_neighbour 25 = .ok (.iload_n 1, 1) := by decide +kernel
theorem dX6_neighbour_26 : decode cX6_neighbour 26 = .ok (.iaload, 1) := by decide +kernel
theorem dX6_neighbour_27 : decode cX6_neighbour 27 = .ok (.iadd, 1) := by decide +kernel
theorem dX6_neighbour_28 : decode cX6_neighbour 28 = .ok (.istore_n 2, 1) := by decide +kernel
theorem dX6_neighbour_29 : decode cX6_neighbour 29 = .ok (.iload_n 0, 1) := by decide +kernel
theorem dX6_neighbour_30 : decode cX6_neighbour 30 = .ok (.iconst 5, 1) := by decide +kernel
theorem dX6_neighbour_31 : decode cX6_neighbour 31 = .ok (.irem, 1) := by decide +kernel
theorem dX6_neighbour_32 : decode cX6_neighbour 32 = .ok (.getstatic 243, 3) := by decide +kernel
theorem dX6_neighbour_35 : decode cX6_neighbour 35 = .ok (.iload_n 1, 1) := by decide +kernel
theorem dX6_neighbour_36 : decode cX6_neighbour 36 = .ok (.iaload, 1) := by decide +kernel
theorem dX6_neighbour_37 : decode cX6_neighbour 37 = .ok (.iadd, 1) := by decide +kernel
theorem dX6_neighbour_38 : decode cX6_neighbour 38 = .ok (.istore_n 3, 1) := by decide +kernel
theorem dX6_neighbour_39 : decode cX6_neighbour 39 = .ok (.iload_n 2, 1) := by decide +kernel
theorem dX6_neighbour_40 : decode cX6_neighbour 40 = .ok (.ifCond .lt 17, 3) := by decide +kernel
theorem dX6_neighbour_43 : decode cX6_neighbour 43 = .ok (.iload_n 2, 1) := by decide +kernel
theorem dX6_neighbour_44 : decode cX6_neighbour 44 = .ok (.iconst 4, 1) := by decide +kernel
theorem dX6_neighbour_45 : decode cX6_neighbour 45 = .ok (.if_icmp .ge 12, 3) := by decide +kernel
theorem dX6_neighbour_48 : decode cX6_neighbour 48 = .ok (.iload_n 3, 1) := by decide +kernel
theorem dX6_neighbour_49 : decode cX6_neighbour 49 = .ok (.ifCond .lt 8, 3) := by decide +kernel
theorem dX6_neighbour_52 : decode cX6_neighbour 52 = .ok (.iload_n 3, 1) := by decide +kernel
theorem dX6_neighbour_53 : decode cX6_neighbour 53 = .ok (.iconst 5, 1) := by decide +kernel
theorem dX6_neighbour_54 : decode cX6_neighbour 54 = .ok (.if_icmp .lt 5, 3) := by decide +kernel
theorem dX6_neighbour_57 : decode cX6_neighbour 57 = .ok (.iconst (-1), 1) := by decide +kernel
theorem dX6_neighbour_58 : decode cX6_neighbour 58 = .ok (.ireturn, 1) := by decide +kernel
theorem dX6_neighbour_59 : decode cX6_neighbour 59 = .ok (.iload_n 2, 1) := by decide +kernel
theorem dX6_neighbour_60 : decode cX6_neighbour 60 = .ok (.iconst 5, 1) := by decide +kernel
theorem dX6_neighbour_61 : decode cX6_neighbour 61 = .ok (.imul, 1) := by decide +kernel
theorem dX6_neighbour_62 : decode cX6_neighbour 62 = .ok (.iload_n 3, 1) := by decide +kernel
theorem dX6_neighbour_63 : decode cX6_neighbour 63 = .ok (.iadd, 1) := by decide +kernel
theorem dX6_neighbour_64 : decode cX6_neighbour 64 = .ok (.ireturn, 1) := by decide +kernel
theorem dX6_placeOf_0 : decode cX6_placeOf 0 = .ok (.iload_n 0, 1) := by decide +kernel
theorem dX6_placeOf_1 : decode cX6_placeOf 1 = .ok (.ifCond .ge 7, 3) := by decide +kernel
theorem dX6_placeOf_4 : decode cX6_placeOf 4 = .ok (.iconst (-1), 1) := by decide +kernel
theorem dX6_placeOf_5 : decode cX6_placeOf 5 = .ok (.goto 6, 3) := by decide +kernel
theorem dX6_placeOf_8 : decode cX6_placeOf 8 = .ok (.iload_n 0, 1) := by decide +kernel
theorem dX6_placeOf_9 : decode cX6_placeOf 9 = .ok (.iconst 4, 1) := by decide +kernel
theorem dX6_placeOf_10 : decode cX6_placeOf 10 = .ok (.idiv, 1) := by decide +kernel
theorem dX6_placeOf_11 : decode cX6_placeOf 11 = .ok (.ireturn, 1) := by decide +kernel
theorem dX6_sideOf_0 : decode cX6_sideOf 0 = .ok (.iload_n 0, 1) := by decide +kernel
theorem dX6_sideOf_1 : decode cX6_sideOf 1 = .ok (.ifCond .ge 7, 3) := by decide +kernel
theorem dX6_sideOf_4 : decode cX6_sideOf 4 = .ok (.iconst (-1), 1) := by decide +kernel
theorem dX6_sideOf_5 : decode cX6_sideOf 5 = .ok (.goto 6, 3) := by decide +kernel
theorem dX6_sideOf_8 : decode cX6_sideOf 8 = .ok (.iload_n 0, 1) := by decide +kernel
theorem dX6_sideOf_9 : decode cX6_sideOf 9 = .ok (.iconst 4, 1) := by decide +kernel
theorem dX6_sideOf_10 : decode cX6_sideOf 10 = .ok (.irem, 1) := by decide +kernel
theorem dX6_sideOf_11 : decode cX6_sideOf 11 = .ok (.ireturn, 1) := by decide +kernel
