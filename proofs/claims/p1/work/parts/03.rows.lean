theorem dX0_init_0 : decode cX0_init 0 = .ok (.aload_n 0, 1) := by decide +kernel
theorem dX0_init_1 : decode cX0_init 1 = .ok (.invokespecial 3, 3) := by decide +kernel
theorem dX0_init_4 : decode cX0_init 4 = .ok (.aload_n 0, 1) := by decide +kernel
theorem dX0_init_5 : decode cX0_init 5 = .ok (.iconst (-1), 1) := by decide +kernel
theorem dX0_init_6 : decode cX0_init 6 = .ok (.putfield 9, 3) := by decide +kernel
theorem dX0_init_9 : decode cX0_init 9 = .ok (.aload_n 0, 1) := by decide +kernel
theorem dX0_init_10 : decode cX0_init 10 = .ok (.iconst 0, 1) := by decide +kernel
theorem dX0_init_11 : decode cX0_init 11 = .ok (.putfield 15, 3) := by decide +kernel
theorem dX0_init_14 : decode cX0_init 14 = .ok (.aload_n 0, 1) := by decide +kernel
theorem dX0_init_15 : decode cX0_init 15 = .ok (.iconst 0, 1) := by decide +kernel
theorem dX0_init_16 : decode cX0_init 16 = .ok (.putfield 18, 3) := by decide +kernel
theorem dX0_init_19 : decode cX0_init 19 = .ok (.aload_n 0, 1) := by decide +kernel
theorem dX0_init_20 : decode cX0_init 20 = .ok (.bipush 6, 2) := by decide +kernel
theorem dX0_init_22 : decode cX0_init 22 = .ok (.newarray .int, 2) := by decide +kernel
theorem dX0_init_24 : decode cX0_init 24 = .ok (.putfield 21, 3) := by decide +kernel
theorem dX0_init_27 : decode cX0_init 27 = .ok (.aload_n 0, 1) := by decide +kernel
theorem dX0_init_28 : decode cX0_init 28 = .ok (.bipush 6, 2) := by decide +kernel
theorem dX0_init_30 : decode cX0_init 30 = .ok (.newarray .int, 2) := by decide +kernel
theorem dX0_init_32 : decode cX0_init 32 = .ok (.putfield 25, 3) := by decide +kernel
theorem dX0_init_35 : decode cX0_init 35 = .ok (.aload_n 0, 1) := by decide +kernel
theorem dX0_init_36 : decode cX0_init 36 = .ok (.bipush 6, 2) := by decide +kernel
theorem dX0_init_38 : decode cX0_init 38 = .ok (.newarray .int, 2) := by decide +kernel
theorem dX0_init_40 : decode cX0_init 40 = .ok (.putfield 28, 3) := by decide +kernel
theorem dX0_init_43 : decode cX0_init 43 = .ok (.aload_n 0, 1) := by decide +kernel
theorem dX0_init_44 : decode cX0_init 44 = .ok (.bipush 6, 2) := by decide +kernel
theorem dX0_init_46 : decode cX0_init 46 = .ok (.newarray .int, 2) := by decide +kernel
theorem dX0_init_48 : decode cX0_init 48 = .ok (.putfield 31, 3) := by decide +kernel
theorem dX0_init_51 : decode cX0_init 51 = .ok (.aload_n 0, 1) := by decide +kernel
theorem dX0_init_52 : decode cX0_init 52 = .ok (.bipush 6, 2) := by decide +kernel
theorem dX0_init_54 : decode cX0_init 54 = .ok (.newarray .int, 2) := by decide +kernel
theorem dX0_init_56 : decode cX0_init 56 = .ok (.putfield 34, 3) := by decide +kernel
theorem dX0_init_59 : decode cX0_init 59 = .ok (.return_, 1) := by decide +kernel
theorem dX0_has_0 : decode cX0_has 0 = .ok (.iload_n 1, 1) := by decide +kernel
theorem dX0_has_1 : decode cX0_has 1 = .ok (.ifCond .lt 21, 3) := by decide +kernel
theorem dX0_has_4 : decode cX0_has 4 = .ok (.iload_n 1, 1) := by decide +kernel
theorem dX0_has_5 : decode cX0_has 5 = .ok (.aload_n 0, 1) := by decide +kernel
theorem dX0_has_6 : decode cX0_has 6 = .ok (.getfield 18, 3) := by decide +kernel
theorem dX0_has_9 : decode cX0_has 9 = .ok (.if_icmp .ge 13, 3) := by decide +kernel
theorem dX0_has_12 : decode cX0_has 12 = .ok (.iload_n 1, 1) := by decide +kernel
theorem dX0_has_13 : decode cX0_has 13 = .ok (.bipush 6, 2) := by decide +kernel
theorem dX0_has_15 : decode cX0_has 15 = .ok (.if_icmp .ge 7, 3) := by decide +kernel
theorem dX0_has_18 : decode cX0_has 18 = .ok (.iconst 1, 1) := by decide +kernel
theorem dX0_has_19 : decode cX0_has 19 = .ok (.goto 4, 3) := by decide +kernel
theorem dX0_has_22 : decode cX0_has 22 = .ok (.iconst 0, 1) := by decide +kernel
theorem dX0_has_23 : decode cX0_has 23 = .ok (.ireturn, 1) := by decide +kernel
set_option maxRecDepth 20000 in
theorem ggX0_people_X6_bit : GoodIn wsX0_people wsX6_bit := goodIn_r _ [5] (by decide +kernel) (by decide +kernel)
set_option maxRecDepth 20000 in
theorem gX0_people_X6_bit_n43 : GoodIn wsX0_people (wsX6_bit) := ggX0_people_X6_bit
theorem dX0_people_0 : decode cX0_people 0 = .ok (.iconst 0, 1) := by decide +kernel
theorem dX0_people_1 : decode cX0_people 1 = .ok (.istore_n 1, 1) := by decide +kernel
theorem dX0_people_2 : decode cX0_people 2 = .ok (.iconst 0, 1) := by decide +kernel
theorem dX0_people_3 : decode cX0_people 3 = .ok (.istore_n 2, 1) := by decide +kernel
theorem dX0_people_4 : decode cX0_people 4 = .ok (.iload_n 2, 1) := by decide +kernel
theorem dX0_people_5 : decode cX0_people 5 = .ok (.aload_n 0, 1) := by decide +kernel
theorem dX0_people_6 : decode cX0_people 6 = .ok (.getfield 18, 3) := by decide +kernel
theorem dX0_people_9 : decode cX0_people 9 = .ok (.if_icmp .ge 21, 3) := by decide +kernel
theorem dX0_people_12 : decode cX0_people 12 = .ok (.iload_n 1, 1) := by decide +kernel
theorem dX0_people_13 : decode cX0_people 13 = .ok (.aload_n 0, 1) := by decide +kernel
theorem dX0_people_14 : decode cX0_people 14 = .ok (.getfield 25, 3) := by decide +kernel
theorem dX0_people_17 : decode cX0_people 17 = .ok (.iload_n 2, 1) := by decide +kernel
theorem dX0_people_18 : decode cX0_people 18 = .ok (.iaload, 1) := by decide +kernel
theorem dX0_people_19 : decode cX0_people 19 = .ok (.invokestatic 43, 3) := by decide +kernel
theorem dX0_people_22 : decode cX0_people 22 = .ok (.ior, 1) := by decide +kernel
theorem dX0_people_23 : decode cX0_people 23 = .ok (.istore_n 1, 1) := by decide +kernel
theorem dX0_people_24 : decode cX0_people 24 = .ok (.iinc 2 1, 3) := by decide +kernel
theorem dX0_people_27 : decode cX0_people 27 = .ok (.goto (-23), 3) := by decide +kernel
theorem dX0_people_30 : decode cX0_people 30 = .ok (.iload_n 1, 1) := by decide +kernel
theorem dX0_people_31 : decode cX0_people 31 = .ok (.ireturn, 1) := by decide +kernel
theorem dX0_howManyTold_0 : decode cX0_howManyTold 0 = .ok (.iconst 0, 1) := by decide +kernel
theorem dX0_howManyTold_1 : decode cX0_howManyTold 1 = .ok (.istore_n 1, 1) := by decide +kernel
theorem dX0_howManyTold_2 : decode cX0_howManyTold 2 = .ok (.iconst 0, 1) := by decide +kernel
theorem dX0_howManyTold_3 : decode cX0_howManyTold 3 = .ok (.istore_n 2, 1) := by decide +kernel
theorem dX0_howManyTold_4 : decode cX0_howManyTold 4 = .ok (.iload_n 2, 1) := by decide +kernel
theorem dX0_howManyTold_5 : decode cX0_howManyTold 5 = .ok (.aload_n 0, 1) := by decide +kernel
theorem dX0_howManyTold_6 : decode cX0_howManyTold 6 = .ok (.getfield 18, 3) := by decide +kernel
theorem dX0_howManyTold_9 : decode cX0_howManyTold 9 = .ok (.if_icmp .ge 22, 3) := by decide +kernel
theorem dX0_howManyTold_12 : decode cX0_howManyTold 12 = .ok (.aload_n 0, 1) := by decide +kernel
theorem dX0_howManyTold_13 : decode cX0_howManyTold 13 = .ok (.getfield 34, 3) := by decide +kernel
theorem dX0_howManyTold_16 : decode cX0_howManyTold 16 = .ok (.iload_n 2, 1) := by decide +kernel
theorem dX0_howManyTold_17 : decode cX0_howManyTold 17 = .ok (.iaload, 1) := by decide +kernel
theorem dX0_howManyTold_18 : decode cX0_howManyTold 18 = .ok (.iconst (-1), 1) := by decide +kernel
theorem dX0_howManyTold_19 : decode cX0_howManyTold 19 = .ok (.if_icmp .eq 6, 3) := by decide +kernel
theorem dX0_howManyTold_22 : decode cX0_howManyTold 22 = .ok (.iinc 1 1, 3) := by decide +kernel
theorem dX0_howManyTold_25 : decode cX0_howManyTold 25 = .ok (.iinc 2 1, 3) := by decide +kernel
theorem dX0_howManyTold_28 : decode cX0_howManyTold 28 = .ok (.goto (-24), 3) := by decide +kernel
theorem dX0_howManyTold_31 : decode cX0_howManyTold 31 = .ok (.iload_n 1, 1) := by decide +kernel
theorem dX0_howManyTold_32 : decode cX0_howManyTold 32 = .ok (.ireturn, 1) := by decide +kernel
theorem dX1_init_0 : decode cX1_init 0 = .ok (.aload_n 0, 1) := by decide +kernel
theorem dX1_init_1 : decode cX1_init 1 = .ok (.invokespecial 3, 3) := by decide +kernel
theorem dX1_init_4 : decode cX1_init 4 = .ok (.aload_n 0, 1) := by decide +kernel
theorem dX1_init_5 : decode cX1_init 5 = .ok (.iconst 0, 1) := by decide +kernel
theorem dX1_init_6 : decode cX1_init 6 = .ok (.putfield 9, 3) := by decide +kernel
theorem dX1_init_9 : decode cX1_init 9 = .ok (.aload_n 0, 1) := by decide +kernel
theorem dX1_init_10 : decode cX1_init 10 = .ok (.iconst 0, 1) := by decide +kernel
theorem dX1_init_11 : decode cX1_init 11 = .ok (.putfield 15, 3) := by decide +kernel
theorem dX1_init_14 : decode cX1_init 14 = .ok (.aload_n 0, 1) := by decide +kernel
theorem dX1_init_15 : decode cX1_init 15 = .ok (.iconst 0, 1) := by decide +kernel
theorem dX1_init_16 : decode cX1_init 16 = .ok (.putfield 18, 3) := by decide +kernel
theorem dX1_init_19 : decode cX1_init 19 = .ok (.return_, 1) := by decide +kernel
theorem dX1_isMissing_0 : decode cX1_isMissing 0 = .ok (.aload_n 0, 1) := by decide +kernel
theorem dX1_isMissing_1 : decode cX1_isMissing 1 = .ok (.getfield 18, 3) := by decide +kernel
theorem dX1_isMissing_4 : decode cX1_isMissing 4 = .ok (.ifCond .ne 7, 3) := by decide +kernel
theorem dX1_isMissing_7 : decode cX1_isMissing 7 = .ok (.iconst 1, 1) := by decide +kernel
theorem dX1_isMissing_8 : decode cX1_isMissing 8 = .ok (.goto 4, 3) := by decide +kernel
theorem dX1_isMissing_11 : decode cX1_isMissing 11 = .ok (.iconst 0, 1) := by decide +kernel
theorem dX1_isMissing_12 : decode cX1_isMissing 12 = .ok (.ireturn, 1) := by decide +kernel
theorem dX2_init_0 : decode cX2_init 0 = .ok (.aload_n 0, 1) := by decide +kernel
theorem dX2_init_1 : decode cX2_init 1 = .ok (.invokespecial 3, 3) := by decide +kernel
theorem dX2_init_4 : decode cX2_init 4 = .ok (.aload_n 0, 1) := by decide +kernel
theorem dX2_init_5 : decode cX2_init 5 = .ok (.bipush 24, 2) := by decide +kernel
theorem dX2_init_7 : decode cX2_init 7 = .ok (.newarray .int, 2) := by decide +kernel
theorem dX2_init_9 : decode cX2_init 9 = .ok (.putfield 11, 3) := by decide +kernel
theorem dX2_init_12 : decode cX2_init 12 = .ok (.aload_n 0, 1) := by decide +kernel
theorem dX2_init_13 : decode cX2_init 13 = .ok (.iconst 0, 1) := by decide +kernel
theorem dX2_init_14 : decode cX2_init 14 = .ok (.putfield 15, 3) := by decide +kernel
theorem dX2_init_17 : decode cX2_init 17 = .ok (.return_, 1) := by decide +kernel
theorem dX2_add_0 : decode cX2_add 0 = .ok (.aload_n 0, 1) := by decide +kernel
theorem dX2_add_1 : decode cX2_add 1 = .ok (.getfield 15, 3) := by decide +kernel
theorem dX2_add_4 : decode cX2_add 4 = .ok (.bipush 24, 2) := by decide +kernel
theorem dX2_add_6 : decode cX2_add 6 = .ok (.if_icmp .lt 6, 3) := by decide +kernel
theorem dX2_add_9 : decode cX2_add 9 = .ok (.bipush (-104), 2) := by decide +kernel
theorem dX2_add_11 : decode cX2_add 11 = .ok (.ireturn, 1) := by decide +kernel
theorem dX2_add_12 : decode cX2_add 12 = .ok (.aload_n 0, 1) := by decide +kernel
theorem dX2_add_13 : decode cX2_add 13 = .ok (.getfield 11, 3) := by decide +kernel
theorem dX2_add_16 : decode cX2_add 16 = .ok (.aload_n 0, 1) := by decide +kernel
theorem dX2_add_17 : decode cX2_add 17 = .ok (.getfield 15, 3) := by decide +kernel
theorem dX2_add_20 : decode cX2_add 20 = .ok (.iload_n 1, 1) := by decide +kernel
theorem dX2_add_21 : decode cX2_add 21 = .ok (.iastore, 1) := by decide +kernel
theorem dX2_add_22 : decode cX2_add 22 = .ok (.aload_n 0, 1) := by decide +kernel
theorem dX2_add_23 : decode cX2_add 23 = .ok (.dup, 1) := by decide +kernel
theorem dX2_add_24 : decode cX2_add 24 = .ok (.getfield 15, 3) := by decide +kernel
theorem dX2_add_27 : decode cX2_add 27 = .ok (.iconst 1, 1) := by decide +kernel
theorem dX2_add_28 : decode cX2_add 28 = .ok (.iadd, 1) := by decide +kernel
theorem dX2_add_29 : decode cX2_add 29 = .ok (.putfield 15, 3) := by decide +kernel
theorem dX2_add_32 : decode cX2_add 32 = .ok (.aload_n 0, 1) := by decide +kernel
theorem dX2_add_33 : decode cX2_add 33 = .ok (.getfield 15, 3) := by decide +kernel
theorem dX2_add_36 : decode cX2_add 36 = .ok (.ireturn, 1) := by decide +kernel
theorem dX2_clear_0 : decode cX2_clear 0 = .ok (.aload_n 0, 1) := by decide +kernel
theorem dX2_clear_1 : decode cX2_clear 1 = .ok (.getfield 15, 3) := by decide +kernel
theorem dX2_clear_4 : decode cX2_clear 4 = .ok (.istore_n 1, 1) := by decide +kernel
theorem dX2_clear_5 : decode cX2_clear 5 = .ok (.aload_n 0, 1) := by decide +kernel
theorem dX2_clear_6 : decode cX2_clear 6 = .ok (.iconst 0, 1) := by decide +kernel
theorem dX2_clear_7 : decode cX2_clear 7 = .ok (.putfield 15, 3) := by decide +kernel
theorem dX2_clear_10 : decode cX2_clear 10 = .ok (.iload_n 1, 1) := by decide +kernel
theorem dX2_clear_11 : decode cX2_clear 11 = .ok (.ireturn, 1) := by decide +kernel
theorem dX2_firstFault_0 : decode cX2_firstFault 0 = .ok (.iconst 0, 1) := by decide +kernel
theorem dX2_firstFault_1 : decode cX2_firstFault 1 = .ok (.istore_n 1, 1) := by decide +kernel
theorem dX2_firstFault_2 : decode cX2_firstFault 2 = .ok (.iload_n 1, 1) := by decide +kernel
theorem dX2_firstFault_3 : decode cX2_firstFault 3 = .ok (.aload_n 0, 1) := by decide +kernel
theorem dX2_firstFault_4 : decode cX2_firstFault 4 = .ok (.getfield 15, 3) := by decide +kernel
theorem dX2_firstFault_7 : decode cX2_firstFault 7 = .ok (.if_icmp .ge 19, 3) := by decide +kernel
theorem dX2_firstFault_10 : decode cX2_firstFault 10 = .ok (.aload_n 0, 1) := by decide +kernel
theorem dX2_firstFault_11 : decode cX2_firstFault 11 = .ok (.iload_n 1, 1) := by decide +kernel
theorem dX2_firstFault_12 : decode cX2_firstFault 12 = .ok (.invokevirtual 19, 3) := by decide +kernel
theorem dX2_firstFault_15 : decode cX2_firstFault 15 = .ok (.ifCond .ne 5, 3) := by decide +kernel
theorem dX2_firstFault_18 : decode cX2_firstFault 18 = .ok (.iload_n 1, 1) := by decide +kernel
theorem dX2_firstFault_19 : decode cX2_firstFault 19 = .ok (.ireturn, 1) := by decide +kernel
theorem dX2_firstFault_20 : decode cX2_firstFault 20 = .ok (.iinc 1 1, 3) := by decide +kernel
theorem dX2_firstFault_23 : decode cX2_firstFault 23 = .ok (.goto (-21), 3) := by decide +kernel
theorem dX2_firstFault_26 : decode cX2_firstFault 26 = .ok (.aload_n 0, 1) := by decide +kernel
theorem dX2_firstFault_27 : decode cX2_firstFault 27 = .ok (.getfield 15, 3) := by decide +kernel
theorem dX2_firstFault_30 : decode cX2_firstFault 30 = .ok (.ireturn, 1) := by decide +kernel
set_option maxRecDepth 20000 in
theorem ggX2_isHall_X2_firstFault : GoodIn wsX2_isHall wsX2_firstFault := goodIn_r _ [6, 1, 7, 8, 9, 5, 10, 11, 12, 13, 14, 15, 16, 17] (by decide +kernel) (by decide +kernel)
set_option maxRecDepth 20000 in
theorem gX2_isHall_X2_firstFault : GoodIn wsX2_isHall (wsV RX2 23 RX2 yX2_firstFault wsX2_firstFault) := goodIn_app (goodIn_of _ (by decide +kernel)) ggX2_isHall_X2_firstFault
theorem dX2_isHall_0 : decode cX2_isHall 0 = .ok (.aload_n 0, 1) := by decide +kernel
theorem dX2_isHall_1 : decode cX2_isHall 1 = .ok (.getfield 15, 3) := by decide +kernel
theorem dX2_isHall_4 : decode cX2_isHall 4 = .ok (.bipush 23, 2) := by decide +kernel
theorem dX2_isHall_6 : decode cX2_isHall 6 = .ok (.if_icmp .ne 16, 3) := by decide +kernel
theorem dX2_isHall_9 : decode cX2_isHall 9 = .ok (.aload_n 0, 1) := by decide +kernel
theorem dX2_isHall_10 : decode cX2_isHall 10 = .ok (.invokevirtual 23, 3) := by decide +kernel
theorem dX2_isHall_13 : decode cX2_isHall 13 = .ok (.bipush 23, 2) := by decide +kernel
theorem dX2_isHall_15 : decode cX2_isHall 15 = .ok (.if_icmp .ne 7, 3) := by decide +kernel
theorem dX2_isHall_18 : decode cX2_isHall 18 = .ok (.iconst 1, 1) := by decide +kernel
theorem dX2_isHall_19 : decode cX2_isHall 19 = .ok (.goto 4, 3) := by decide +kernel
theorem dX2_isHall_22 : decode cX2_isHall 22 = .ok (.iconst 0, 1) := by decide +kernel
theorem dX2_isHall_23 : decode cX2_isHall 23 = .ok (.ireturn, 1) := by decide +kernel
theorem dX3_init_0 : decode cX3_init 0 = .ok (.aload_n 0, 1) := by decide +kernel
theorem dX3_init_1 : decode cX3_init 1 = .ok (.invokespecial 3, 3) := by decide +kernel
theorem dX3_init_4 : decode cX3_init 4 = .ok (.aload_n 0, 1) := by decide +kernel
theorem dX3_init_5 : decode cX3_init 5 = .ok (.bipush 80, 2) := by decide +kernel
theorem dX3_init_7 : decode cX3_init 7 = .ok (.newarray .int, 2) := by decide +kernel
theorem dX3_init_9 : decode cX3_init 9 = .ok (.putfield 9, 3) := by decide +kernel
theorem dX3_init_12 : decode cX3_init 12 = .ok (.aload_n 0, 1) := by decide +kernel
theorem dX3_init_13 : decode cX3_init 13 = .ok (.bipush 80, 2) := by decide +kernel
theorem dX3_init_15 : decode cX3_init 15 = .ok (.newarray .int, 2) := by decide +kernel
theorem dX3_init_17 : decode cX3_init 17 = .ok (.putfield 15, 3) := by decide +kernel
theorem dX3_init_20 : decode cX3_init 20 = .ok (.aload_n 0, 1) := by decide +kernel
theorem dX3_init_21 : decode cX3_init 21 = .ok (.bipush 80, 2) := by decide +kernel
theorem dX3_init_23 : decode cX3_init 23 = .ok (.newarray .int, 2) := by decide +kernel
theorem dX3_init_25 : decode cX3_init 25 = .ok (.putfield 18, 3) := by decide +kernel
theorem dX3_init_28 : decode cX3_init 28 = .ok (.aload_n 0, 1) := by decide +kernel
theorem dX3_init_29 : decode cX3_init 29 = .ok (.iconst 0, 1) := by decide +kernel
theorem dX3_init_30 : decode cX3_init 30 = .ok (.putfield 21, 3) := by decide +kernel
theorem dX3_init_33 : decode cX3_init 33 = .ok (.return_, 1) := by decide +kernel
set_option maxRecDepth 20000 in
theorem ggX4_init_X1_init : GoodIn wsX4_init wsX1_init := goodIn_r _ [17, 18, 2, 3, 19, 20, 21, 58, 59, 60] (by decide +kernel) (by decide +kernel)
set_option maxRecDepth 20000 in
theorem gX4_init_X1_init_n11 : GoodIn wsX4_init (wsX1_init) := ggX4_init_X1_init
set_option maxRecDepth 20000 in
theorem ggX4_init_X0_init : GoodIn wsX4_init wsX0_init := goodIn_r _ [23, 24, 2, 3, 25, 26, 27, 28, 29, 30, 31, 32, 33, 64, 65, 66, 67, 68, 69, 70, 71] (by decide +kernel) (by decide +kernel)
set_option maxRecDepth 20000 in
theorem gX4_init_X0_init_n20 : GoodIn wsX4_init (wsX0_init) := ggX4_init_X0_init
set_option maxRecDepth 20000 in
theorem ggX4_init_X5_init : GoodIn wsX4_init wsX5_init := goodIn_r _ [36, 37, 2, 3, 28, 38, 39, 40, 41, 42, 43, 44, 45, 46, 14, 47, 48, 49, 50, 51, 52, 53, 54, 55, 56, 57, 72, 73] (by decide +kernel) (by decide +kernel)
set_option maxRecDepth 20000 in
theorem gX4_init_X5_init : GoodIn wsX4_init (wsX5_init) := ggX4_init_X5_init
theorem dX4_init_0 : decode cX4_init 0 = .ok (.aload_n 0, 1) := by decide +kernel
theorem dX4_init_1 : decode cX4_init 1 = .ok (.invokespecial 3, 3) := by decide +kernel
theorem dX4_init_4 : decode cX4_init 4 = .ok (.aload_n 0, 1) := by decide +kernel
theorem dX4_init_5 : decode cX4_init 5 = .ok (.new 9, 3) := by decide +kernel
theorem dX4_init_8 : decode cX4_init 8 = .ok (.dup, 1) := by decide +kernel
theorem dX4_init_9 : decode cX4_init 9 = .ok (.invokespecial 11, 3) := by decide +kernel
theorem dX4_init_12 : decode cX4_init 12 = .ok (.putfield 12, 3) := by decide +kernel
theorem dX4_init_15 : decode cX4_init 15 = .ok (.aload_n 0, 1) := by decide +kernel
theorem dX4_init_16 : decode cX4_init 16 = .ok (.new 18, 3) := by decide +kernel
theorem dX4_init_19 : decode cX4_init 19 = .ok (.dup, 1) := by decide +kernel
theorem dX4_init_20 : decode cX4_init 20 = .ok (.invokespecial 20, 3) := by decide +kernel
theorem dX4_init_23 : decode cX4_init 23 = .ok (.putfield 21, 3) := by decide +kernel
theorem dX4_init_26 : decode cX4_init 26 = .ok (.aload_n 0, 1) := by decide +kernel
theorem dX4_init_27 : decode cX4_init 27 = .ok (.new 25, 3) := by decide +kernel
theorem dX4_init_30 : decode cX4_init 30 = .ok (.dup, 1) := by decide +kernel
theorem dX4_init_31 : decode cX4_init 31 = .ok (.invokespecial 27, 3) := by decide +kernel
theorem dX4_init_34 : decode cX4_init 34 = .ok (.putfield 28, 3) := by decide +kernel
theorem dX4_init_37 : decode cX4_init 37 = .ok (.return_, 1) := by decide +kernel
set_option maxRecDepth 20000 in
theorem ggX4_guiltyIf_X0_people : GoodIn wsX4_guiltyIf wsX0_people := goodIn_r _ [10, 11, 12, 13, 14, 15, 55, 56, 57, 58, 59, 60, 61, 62] (by decide +kernel) (by decide +kernel)
set_option maxRecDepth 20000 in
theorem gX4_guiltyIf_X0_people : GoodIn wsX4_guiltyIf (wsV RX4 36 RX0 yX0_people wsX0_people) := goodIn_app (goodIn_of _ (by decide +kernel)) ggX4_guiltyIf_X0_people
set_option maxRecDepth 20000 in
theorem ggX4_guiltyIf_X6_bit : GoodIn wsX4_guiltyIf wsX6_bit := goodIn_r _ [15] (by decide +kernel) (by decide +kernel)
set_option maxRecDepth 20000 in
theorem gX4_guiltyIf_X6_bit_n47 : GoodIn wsX4_guiltyIf (wsX6_bit) := ggX4_guiltyIf_X6_bit
theorem dX4_guiltyIf_0 : decode cX4_guiltyIf 0 = .ok (.aload_n 0, 1) := by decide +kernel
theorem dX4_guiltyIf_1 : decode cX4_guiltyIf 1 = .ok (.getfield 21, 3) := by decide +kernel
theorem dX4_guiltyIf_4 : decode cX4_guiltyIf 4 = .ok (.invokevirtual 36, 3) := by decide +kernel
theorem dX4_guiltyIf_7 : decode cX4_guiltyIf 7 = .ok (.istore_n 3, 1) := by decide +kernel
theorem dX4_guiltyIf_8 : decode cX4_guiltyIf 8 = .ok (.iconst 0, 1) := by decide +kernel
theorem dX4_guiltyIf_9 : decode cX4_guiltyIf 9 = .ok (.istore 4, 2) := by decide +kernel
theorem dX4_guiltyIf_11 : decode cX4_guiltyIf 11 = .ok (.iconst 0, 1) := by decide +kernel
theorem dX4_guiltyIf_12 : decode cX4_guiltyIf 12 = .ok (.istore 5, 2) := by decide +kernel
theorem dX4_guiltyIf_14 : decode cX4_guiltyIf 14 = .ok (.iload 5, 2) := by decide +kernel
theorem dX4_guiltyIf_16 : decode cX4_guiltyIf 16 = .ok (.aload_n 0, 1) := by decide +kernel
theorem dX4_guiltyIf_17 : decode cX4_guiltyIf 17 = .ok (.getfield 21, 3) := by decide +kernel
theorem dX4_guiltyIf_20 : decode cX4_guiltyIf 20 = .ok (.getfield 69, 3) := by decide +kernel
theorem dX4_guiltyIf_23 : decode cX4_guiltyIf 23 = .ok (.if_icmp .ge 52, 3) := by decide +kernel
theorem dX4_guiltyIf_26 : decode cX4_guiltyIf 26 = .ok (.aload_n 0, 1) := by decide +kernel
theorem dX4_guiltyIf_27 : decode cX4_guiltyIf 27 = .ok (.getfield 28, 3) := by decide +kernel
theorem dX4_guiltyIf_30 : decode cX4_guiltyIf 30 = .ok (.aload_n 0, 1) := by decide +kernel
theorem dX4_guiltyIf_31 : decode cX4_guiltyIf 31 = .ok (.getfield 21, 3) := by decide +kernel
theorem dX4_guiltyIf_34 : decode cX4_guiltyIf 34 = .ok (.getfield 58, 3) := by decide +kernel
theorem dX4_guiltyIf_37 : decode cX4_guiltyIf 37 = .ok (.iload 5, 2) := by decide +kernel
theorem dX4_guiltyIf_39 : decode cX4_guiltyIf 39 = .ok (.iaload, 1) := by decide +kernel
theorem dX4_guiltyIf_40 : decode cX4_guiltyIf 40 = .ok (.aload_n 0, 1) := by decide +kernel
theorem dX4_guiltyIf_41 : decode cX4_guiltyIf 41 = .ok (.getfield 21, 3) := by decide +kernel
theorem dX4_guiltyIf_44 : decode cX4_guiltyIf 44 = .ok (.getfield 62, 3) := by decide +kernel
theorem dX4_guiltyIf_47 : decode cX4_guiltyIf 47 = .ok (.iload 5, 2) := by decide +kernel
theorem dX4_guiltyIf_49 : decode cX4_guiltyIf 49 = .ok (.iaload, 1) := by decide +kernel
theorem dX4_guiltyIf_50 : decode cX4_guiltyIf 50 = .ok (.iload_n 1, 1) := by decide +kernel
theorem dX4_guiltyIf_51 : decode cX4_guiltyIf 51 = .ok (.iload_n 2, 1) := by decide +kernel
theorem dX4_guiltyIf_52 : decode cX4_guiltyIf 52 = .ok (.iload_n 3, 1) := by decide +kernel
theorem dX4_guiltyIf_53 : decode cX4_guiltyIf 53 = .ok (.invokevirtual 76, 3) := by decide +kernel
theorem dX4_guiltyIf_56 : decode cX4_guiltyIf 56 = .ok (.ifCond .eq 13, 3) := by decide +kernel
theorem dX4_guiltyIf_59 : decode cX4_guiltyIf 59 = .ok (.iload 4, 2) := by decide +kernel
theorem dX4_guiltyIf_61 : decode cX4_guiltyIf 61 = .ok (.iload 5, 2) := by decide +kernel
theorem dX4_guiltyIf_63 : decode cX4_guiltyIf 63 = .ok (.invokestatic 47, 3) := by decide +kernel
theorem dX4_guiltyIf_66 : decode cX4_guiltyIf 66 = .ok (.ior, 1) := by decide +kernel
theorem dX4_guiltyIf_67 : decode cX4_guiltyIf 67 = .ok (.istore 4, 2) := by decide +kernel
theorem dX4_guiltyIf_69 : decode cX4_guiltyIf 69 = .ok (.iinc 5 1, 3) := by decide +kernel
theorem dX4_guiltyIf_72 : decode cX4_guiltyIf 72 = .ok (.goto (-58), 3) := by decide +kernel
theorem dX4_guiltyIf_75 : decode cX4_guiltyIf 75 = .ok (.iload 4, 2) := by decide +kernel
theorem dX4_guiltyIf_77 : decode cX4_guiltyIf 77 = .ok (.ireturn, 1) := by decide +kernel
set_option maxRecDepth 20000 in
theorem ggX4_after_X6_placeOf : GoodIn wsX4_after wsX6_placeOf := goodIn_r _ [6] (by decide +kernel) (by decide +kernel)
set_option maxRecDepth 20000 in
theorem gX4_after_X6_placeOf_n43 : GoodIn wsX4_after (wsX6_placeOf) := ggX4_after_X6_placeOf
set_option maxRecDepth 20000 in
theorem ggX4_after_X6_sideOf : GoodIn wsX4_after wsX6_sideOf := goodIn_r _ [8] (by decide +kernel) (by decide +kernel)
set_option maxRecDepth 20000 in
theorem gX4_after_X6_sideOf_n80 : GoodIn wsX4_after (wsX6_sideOf) := ggX4_after_X6_sideOf
set_option maxRecDepth 20000 in
theorem ggX4_after_X6_neighbour : GoodIn wsX4_after wsX6_neighbour := goodIn_r _ [12, 13, 14, 15, 16, 5, 17] (by decide +kernel) (by decide +kernel)
set_option maxRecDepth 20000 in
theorem gX4_after_X6_neighbour_n87 : GoodIn wsX4_after (wsX6_neighbour) := ggX4_after_X6_neighbour
set_option maxRecDepth 20000 in
theorem ggX4_after_X0_people : GoodIn wsX4_after wsX0_people := goodIn_r _ [22, 23, 24, 25, 5, 26, 36, 37, 38, 39, 40, 41, 42, 43] (by decide +kernel) (by decide +kernel)
set_option maxRecDepth 20000 in
theorem gX4_after_X0_people : GoodIn wsX4_after (wsV RX4 36 RX0 yX0_people wsX0_people) := goodIn_app (goodIn_of _ (by decide +kernel)) ggX4_after_X0_people
theorem dX4_after_0 : decode cX4_after 0 = .ok (.iload_n 1, 1) := by decide +kernel
theorem dX4_after_1 : decode cX4_after 1 = .ok (.iconst (-1), 1) := by decide +kernel
theorem dX4_after_2 : decode cX4_after 2 = .ok (.if_icmp .ne 5, 3) := by decide +kernel
theorem dX4_after_5 : decode cX4_after 5 = .ok (.iconst (-1), 1) := by decide +kernel
theorem dX4_after_6 : decode cX4_after 6 = .ok (.ireturn, 1) := by decide +kernel
theorem dX4_after_7 : decode cX4_after 7 = .ok (.iload_n 1, 1) := by decide +kernel
theorem dX4_after_8 : decode cX4_after 8 = .ok (.invokestatic 43, 3) := by decide +kernel
theorem dX4_after_11 : decode cX4_after 11 = .ok (.istore_n 3, 1) := by decide +kernel
theorem dX4_after_12 : decode cX4_after 12 = .ok (.iload_n 1, 1) := by decide +kernel
theorem dX4_after_13 : decode cX4_after 13 = .ok (.invokestatic 80, 3) := by decide +kernel
theorem dX4_after_16 : decode cX4_after 16 = .ok (.istore 4, 2) := by decide +kernel
theorem dX4_after_18 : decode cX4_after 18 = .ok (.iload_n 2, 1) := by decide +kernel
theorem dX4_after_19 : decode cX4_after 19 = .ok (.ifCond .ne 16, 3) := by decide +kernel
theorem dX4_after_22 : decode cX4_after 22 = .ok (.iload_n 3, 1) := by decide +kernel
theorem dX4_after_23 : decode cX4_after 23 = .ok (.iload 4, 2) := by decide +kernel
theorem dX4_after_25 : decode cX4_after 25 = .ok (.iconst 4, 1) := by decide +kernel
theorem dX4_after_26 : decode cX4_after 26 = .ok (.iadd, 1) := by decide +kernel
theorem dX4_after_27 : decode cX4_after 27 = .ok (.iconst 1, 1) := by decide +kernel
theorem dX4_after_28 : decode cX4_after 28 = .ok (.isub, 1) := by decide +kernel
theorem dX4_after_29 : decode cX4_after 29 = .ok (.iconst 4, 1) := by decide +kernel
theorem dX4_after_30 : decode cX4_after 30 = .ok (.irem, 1) := by decide +kernel
theorem dX4_after_31 : decode cX4_after 31 = .ok (.invokestatic 83, 3) := by decide +kernel
theorem dX4_after_34 : decode cX4_after 34 = .ok (.ireturn, 1) := by decide +kernel
theorem dX4_after_35 : decode cX4_after 35 = .ok (.iload_n 2, 1) := by decide +kernel
theorem dX4_after_36 : decode cX4_after 36 = .ok (.iconst 1, 1) := by decide +kernel
theorem dX4_after_37 : decode cX4_after 37 = .ok (.if_icmp .ne 14, 3) := by decide +kernel
theorem dX4_after_40 : decode cX4_after 40 = .ok (.iload_n 3, 1) := by decide +kernel
theorem dX4_after_41 : decode cX4_after 41 = .ok (.iload 4, 2) := by decide +kernel
theorem dX4_after_43 : decode cX4_after 43 = .ok (.iconst 1, 1) := by decide +kernel
theorem dX4_after_44 : decode cX4_after 44 = .ok (.iadd, 1) := by decide +kernel
theorem dX4_after_45 : decode cX4_after 45 = .ok (.iconst 4, 1) := by decide +kernel
theorem dX4_after_46 : decode cX4_after 46 = .ok (.irem, 1) := by decide +kernel
theorem dX4_after_47 : decode cX4_after 47 = .ok (.invokestatic 83, 3) := by decide +kernel
theorem dX4_after_50 : decode cX4_after 50 = .ok (.ireturn, 1) := by decide +kernel
theorem dX4_after_51 : decode cX4_after 51 = .ok (.iload_n 3, 1) := by decide +kernel
theorem dX4_after_52 : decode cX4_after 52 = .ok (.iconst 2, 1) := by decide +kernel
theorem dX4_after_53 : decode cX4_after 53 = .ok (.iload 4, 2) := by decide +kernel
theorem dX4_after_55 : decode cX4_after 55 = .ok (.imul, 1) := by decide +kernel
theorem dX4_after_56 : decode cX4_after 56 = .ok (.invokestatic 87, 3) := by decide +kernel
theorem dX4_after_59 : decode cX4_after 59 = .ok (.istore 5, 2) := by decide +kernel
theorem dX4_after_61 : decode cX4_after 61 = .ok (.iload_n 2, 1) := by decide +kernel
theorem dX4_after_62 : decode cX4_after 62 = .ok (.iconst 2, 1) := by decide +kernel
theorem dX4_after_63 : decode cX4_after 63 = .ok (.if_icmp .ne 30, 3) := by decide +kernel
theorem dX4_after_66 : decode cX4_after 66 = .ok (.iload 5, 2) := by decide +kernel
theorem dX4_after_68 : decode cX4_after 68 = .ok (.aload_n 0, 1) := by decide +kernel
theorem dX4_after_69 : decode cX4_after 69 = .ok (.getfield 12, 3) := by decide +kernel
theorem dX4_after_72 : decode cX4_after 72 = .ok (.getfield 32, 3) := by decide +kernel
theorem dX4_after_75 : decode cX4_after 75 = .ok (.aload_n 0, 1) := by decide +kernel
theorem dX4_after_76 : decode cX4_after 76 = .ok (.getfield 21, 3) := by decide +kernel
theorem dX4_after_79 : decode cX4_after 79 = .ok (.invokevirtual 36, 3) := by decide +kernel
theorem dX4_after_82 : decode cX4_after 82 = .ok (.ior, 1) := by decide +kernel
theorem dX4_after_83 : decode cX4_after 83 = .ok (.invokestatic 90, 3) := by decide +kernel
theorem dX4_after_86 : decode cX4_after 86 = .ok (.ifCond .eq 7, 3) := by decide +kernel
theorem dX4_after_89 : decode cX4_after 89 = .ok (.iconst 1, 1) := by decide +kernel
theorem dX4_after_90 : decode cX4_after 90 = .ok (.goto 4, 3) := by decide +kernel
theorem dX4_after_93 : decode cX4_after 93 = .ok (.iconst 0, 1) := by decide +kernel
theorem dX4_after_94 : decode cX4_after 94 = .ok (.istore 6, 2) := by decide +kernel
theorem dX4_after_96 : decode cX4_after 96 = .ok (.iload 6, 2) := by decide +kernel
theorem dX4_after_98 : decode cX4_after 98 = .ok (.ifCond .eq 13, 3) := by decide +kernel
theorem dX4_after_101 : decode cX4_after 101 = .ok (.iload 5, 2) := by decide +kernel
theorem dX4_after_103 : decode cX4_after 103 = .ok (.iload 4, 2) := by decide +kernel
theorem dX4_after_105 : decode cX4_after 105 = .ok (.invokestatic 83, 3) := by decide +kernel
theorem dX4_after_108 : decode cX4_after 108 = .ok (.goto 4, 3) := by decide +kernel
theorem dX4_after_111 : decode cX4_after 111 = .ok (.iconst (-1), 1) := by decide +kernel
theorem dX4_after_112 : decode cX4_after 112 = .ok (.ireturn, 1) := by decide +kernel
set_option maxRecDepth 20000 in
theorem ggX5_init_X5_follow : GoodIn wsX5_init wsX5_follow := goodIn_r _ [15, 5, 6, 16, 17, 18, 19, 20, 21, 22, 23, 24, 25, 26, 27] (by decide +kernel) (by decide +kernel)
set_option maxRecDepth 20000 in
theorem gX5_init_X5_follow : GoodIn wsX5_init (wsV RX5 24 RX5 yX5_follow wsX5_follow) := goodIn_app (goodIn_of _ (by decide +kernel)) ggX5_init_X5_follow
theorem dX5_init_0 : decode cX5_init 0 = .ok (.aload_n 0, 1) := by decide +kernel
theorem dX5_init_1 : decode cX5_init 1 = .ok (.invokespecial 3, 3) := by decide +kernel
theorem dX5_init_4 : decode cX5_init 4 = .ok (.aload_n 0, 1) := by decide +kernel
theorem dX5_init_5 : decode cX5_init 5 = .ok (.sipush 400, 3) := by decide +kernel
theorem dX5_init_8 : decode cX5_init 8 = .ok (.newarray .int, 2) := by decide +kernel
theorem dX5_init_10 : decode cX5_init 10 = .ok (.putfield 9, 3) := by decide +kernel
theorem dX5_init_13 : decode cX5_init 13 = .ok (.aload_n 0, 1) := by decide +kernel
theorem dX5_init_14 : decode cX5_init 14 = .ok (.sipush 400, 3) := by decide +kernel
theorem dX5_init_17 : decode cX5_init 17 = .ok (.newarray .int, 2) := by decide +kernel
theorem dX5_init_19 : decode cX5_init 19 = .ok (.putfield 15, 3) := by decide +kernel
theorem dX5_init_22 : decode cX5_init 22 = .ok (.aload_n 0, 1) := by decide +kernel
theorem dX5_init_23 : decode cX5_init 23 = .ok (.getfield 9, 3) := by decide +kernel
theorem dX5_init_26 : decode cX5_init 26 = .ok (.iconst (-1), 1) := by decide +kernel
theorem dX5_init_27 : decode cX5_init 27 = .ok (.invokestatic 18, 3) := by decide +kernel
theorem dX5_init_30 : decode cX5_init 30 = .ok (.iconst 0, 1) := by decide +kernel
theorem dX5_init_31 : decode cX5_init 31 = .ok (.istore_n 1, 1) := by decide +kernel
theorem dX5_init_32 : decode cX5_init 32 = .ok (.iload_n 1, 1) := by decide +kernel
theorem dX5_init_33 : decode cX5_init 33 = .ok (.bipush 20, 2) := by decide +kernel
theorem dX5_init_35 : decode cX5_init 35 = .ok (.if_icmp .ge 29, 3) := by decide +kernel
theorem dX5_init_38 : decode cX5_init 38 = .ok (.iconst 0, 1) := by decide +kernel
theorem dX5_init_39 : decode cX5_init 39 = .ok (.istore_n 2, 1) := by decide +kernel
theorem dX5_init_40 : decode cX5_init 40 = .ok (.iload_n 2, 1) := by decide +kernel
theorem dX5_init_41 : decode cX5_init 41 = .ok (.bipush 8, 2) := by decide +kernel
theorem dX5_init_43 : decode cX5_init 43 = .ok (.if_icmp .ge 15, 3) := by decide +kernel
theorem dX5_init_46 : decode cX5_init 46 = .ok (.aload_n 0, 1) := by decide +kernel
theorem dX5_init_47 : decode cX5_init 47 = .ok (.iload_n 1, 1) := by decide +kernel
theorem dX5_init_48 : decode cX5_init 48 = .ok (.iload_n 2, 1) := by decide +kernel
theorem dX5_init_49 : decode cX5_init 49 = .ok (.invokevirtual 24, 3) := by decide +kernel
theorem dX5_init_52 : decode cX5_init 52 = .ok (.iinc 2 1, 3) := by decide +kernel
theorem dX5_init_55 : decode cX5_init 55 = .ok (.goto (-15), 3) := by decide +kernel
theorem dX5_init_58 : decode cX5_init 58 = .ok (.iinc 1 1, 3) := by decide +kernel
theorem dX5_init_61 : decode cX5_init 61 = .ok (.goto (-29), 3) := by decide +kernel
theorem dX5_init_64 : decode cX5_init 64 = .ok (.return_, 1) := by decide +kernel
set_option maxRecDepth 20000 in
theorem ggX5_follow_X6_neighbour : GoodIn wsX5_follow wsX6_neighbour := goodIn_r _ [5, 6, 7, 8, 9, 4, 10] (by decide +kernel) (by decide +kernel)
set_option maxRecDepth 20000 in
theorem gX5_follow_X6_neighbour_n28 : GoodIn wsX5_follow (wsX6_neighbour) := ggX5_follow_X6_neighbour
set_option maxRecDepth 20000 in
theorem ggX5_follow_X6_isPlace : GoodIn wsX5_follow wsX6_isPlace := goodIn_r _ [10] (by decide +kernel) (by decide +kernel)
set_option maxRecDepth 20000 in
theorem gX5_follow_X6_isPlace_n32 : GoodIn wsX5_follow (wsX6_isPlace) := ggX5_follow_X6_isPlace
set_option maxRecDepth 20000 in
theorem ggX5_follow_X6_bit : GoodIn wsX5_follow wsX6_bit := goodIn_r _ [12] (by decide +kernel) (by decide +kernel)
set_option maxRecDepth 20000 in
theorem gX5_follow_X6_bit_n36 : GoodIn wsX5_follow (wsX6_bit) := ggX5_follow_X6_bit
theorem dX5_follow_0 : decode cX5_follow 0 = .ok (.iconst 0, 1) := by decide +kernel
theorem dX5_follow_1 : decode cX5_follow 1 = .ok (.istore_n 3, 1) := by decide +kernel
theorem dX5_follow_2 : decode cX5_follow 2 = .ok (.iload_n 1, 1) := by decide +kernel
theorem dX5_follow_3 : decode cX5_follow 3 = .ok (.iload_n 2, 1) := by decide +kernel
theorem dX5_follow_4 : decode cX5_follow 4 = .ok (.invokestatic 28, 3) := by decide +kernel
theorem dX5_follow_7 : decode cX5_follow 7 = .ok (.istore 4, 2) := by decide +kernel
theorem dX5_follow_9 : decode cX5_follow 9 = .ok (.iconst 1, 1) := by decide +kernel
theorem dX5_follow_10 : decode cX5_follow 10 = .ok (.istore 5, 2) := by decide +kernel
theorem dX5_follow_12 : decode cX5_follow 12 = .ok (.iload 5, 2) := by decide +kernel
theorem dX5_follow_14 : decode cX5_follow 14 = .ok (.iconst 5, 1) := by decide +kernel
theorem dX5_follow_15 : decode cX5_follow 15 = .ok (.if_icmp .ge 59, 3) := by decide +kernel
theorem dX5_follow_18 : decode cX5_follow 18 = .ok (.iload 4, 2) := by decide +kernel
theorem dX5_follow_20 : decode cX5_follow 20 = .ok (.invokestatic 32, 3) := by decide +kernel
theorem dX5_follow_23 : decode cX5_follow 23 = .ok (.ifCond .eq 51, 3) := by decide +kernel
theorem dX5_follow_26 : decode cX5_follow 26 = .ok (.aload_n 0, 1) := by decide +kernel
theorem dX5_follow_27 : decode cX5_follow 27 = .ok (.getfield 9, 3) := by decide +kernel
theorem dX5_follow_30 : decode cX5_follow 30 = .ok (.iload_n 1, 1) := by decide +kernel
theorem dX5_follow_31 : decode cX5_follow 31 = .ok (.bipush 20, 2) := by decide +kernel
theorem dX5_follow_33 : decode cX5_follow 33 = .ok (.imul, 1) := by decide +kernel
theorem dX5_follow_34 : decode cX5_follow 34 = .ok (.iload 4, 2) := by decide +kernel
theorem dX5_follow_36 : decode cX5_follow 36 = .ok (.iadd, 1) := by decide +kernel
theorem dX5_follow_37 : decode cX5_follow 37 = .ok (.iload_n 2, 1) := by decide +kernel
theorem dX5_follow_38 : decode cX5_follow 38 = .ok (.iastore, 1) := by decide +kernel
theorem dX5_follow_39 : decode cX5_follow 39 = .ok (.aload_n 0, 1) := by decide +kernel
theorem dX5_follow_40 : decode cX5_follow 40 = .ok (.getfield 15, 3) := by decide +kernel
theorem dX5_follow_43 : decode cX5_follow 43 = .ok (.iload_n 1, 1) := by decide +kernel
theorem dX5_follow_44 : decode cX5_follow 44 = .ok (.bipush 20, 2) := by decide +kernel
theorem dX5_follow_46 : decode cX5_follow 46 = .ok (.imul, 1) := by decide +kernel
theorem dX5_follow_47 : decode cX5_follow 47 = .ok (.iload 4, 2) := by decide +kernel
theorem dX5_follow_49 : decode cX5_follow 49 = .ok (.iadd, 1) := by decide +kernel
theorem dX5_follow_50 : decode cX5_follow 50 = .ok (.iload_n 3, 1) := by decide +kernel
theorem dX5_follow_51 : decode cX5_follow 51 = .ok (.iastore, 1) := by decide +kernel
theorem dX5_follow_52 : decode cX5_follow 52 = .ok (.iload_n 3, 1) := by decide +kernel
theorem dX5_follow_53 : decode cX5_follow 53 = .ok (.iload 4, 2) := by decide +kernel
theorem dX5_follow_55 : decode cX5_follow 55 = .ok (.invokestatic 36, 3) := by decide +kernel
theorem dX5_follow_58 : decode cX5_follow 58 = .ok (.ior, 1) := by decide +kernel
theorem dX5_follow_59 : decode cX5_follow 59 = .ok (.istore_n 3, 1) := by decide +kernel
theorem dX5_follow_60 : decode cX5_follow 60 = .ok (.iload 4, 2) := by decide +kernel
theorem dX5_follow_62 : decode cX5_follow 62 = .ok (.iload_n 2, 1) := by decide +kernel
theorem dX5_follow_63 : decode cX5_follow 63 = .ok (.invokestatic 28, 3) := by decide +kernel
theorem dX5_follow_66 : decode cX5_follow 66 = .ok (.istore 4, 2) := by decide +kernel
theorem dX5_follow_68 : decode cX5_follow 68 = .ok (.iinc 5 1, 3) := by decide +kernel
theorem dX5_follow_71 : decode cX5_follow 71 = .ok (.goto (-59), 3) := by decide +kernel
theorem dX5_follow_74 : decode cX5_follow 74 = .ok (.return_, 1) := by decide +kernel
theorem dJ6_bitCount_0f7a4_0 : decode cJ6_bitCount_0f7a4 0 = .ok (.iload_n 0, 1) := by decide +kernel
theorem dJ6_bitCount_0f7a4_1 : decode cJ6_bitCount_0f7a4 1 = .ok (.iload_n 0, 1) := by decide +kernel
theorem dJ6_bitCount_0f7a4_2 : decode cJ6_bitCount_0f7a4 2 = .ok (.iconst 1, 1) := by decide +kernel
theorem dJ6_bitCount_0f7a4_3 : decode cJ6_bitCount_0f7a4 3 = .ok (.iushr, 1) := by decide +kernel
theorem dJ6_bitCount_0f7a4_4 : decode cJ6_bitCount_0f7a4 4 = .ok (.ldc_w 265, 3) := by decide +kernel
theorem dJ6_bitCount_0f7a4_7 : decode cJ6_bitCount_0f7a4 7 = .ok (.iand, 1) := by decide +kernel
theorem dJ6_bitCount_0f7a4_8 : decode cJ6_bitCount_0f7a4 8 = .ok (.isub, 1) := by decide +kernel
theorem dJ6_bitCount_0f7a4_9 : decode cJ6_bitCount_0f7a4 9 = .ok (.istore_n 0, 1) := by decide +kernel
theorem dJ6_bitCount_0f7a4_10 : decode cJ6_bitCount_0f7a4 10 = .ok (.iload_n 0, 1) := by decide +kernel
theorem dJ6_bitCount_0f7a4_11 : decode cJ6_bitCount_0f7a4 11 = .ok (.ldc_w 266, 3) := by decide +kernel
theorem dJ6_bitCount_0f7a4_14 : decode cJ6_bitCount_0f7a4 14 = .ok (.iand, 1) := by decide +kernel
theorem dJ6_bitCount_0f7a4_15 : decode cJ6_bitCount_0f7a4 15 = .ok (.iload_n 0, 1) := by decide +kernel
theorem dJ6_bitCount_0f7a4_16 : decode cJ6_bitCount_0f7a4 16 = .ok (.iconst 2, 1) := by decide +kernel
theorem dJ6_bitCount_0f7a4_17 : decode cJ6_bitCount_0f7a4 17 = .ok (.iushr, 1) := by decide +kernel
theorem dJ6_bitCount_0f7a4_18 : decode cJ6_bitCount_0f7a4 18 = .ok (.ldc_w 266, 3) := by decide +kernel
theorem dJ6_bitCount_0f7a4_21 : decode cJ6_bitCount_0f7a4 21 = .ok (.iand, 1) := by decide +kernel
theorem dJ6_bitCount_0f7a4_22 : decode cJ6_bitCount_0f7a4 22 = .ok (.iadd, 1) := by decide +kernel
theorem dJ6_bitCount_0f7a4_23 : decode cJ6_bitCount_0f7a4 23 = .ok (.istore_n 0, 1) := by decide +kernel
theorem dJ6_bitCount_0f7a4_24 : decode cJ6_bitCount_0f7a4 24 = .ok (.iload_n 0, 1) := by decide +kernel
theorem dJ6_bitCount_0f7a4_25 : decode cJ6_bitCount_0f7a4 25 = .ok (.iload_n 0, 1) := by decide +kernel
theorem dJ6_bitCount_0f7a4_26 : decode cJ6_bitCount_0f7a4 26 = .ok (.iconst 4, 1) := by decide +kernel
theorem dJ6_bitCount_0f7a4_27 : decode cJ6_bitCount_0f7a4 27 = .ok (.iushr, 1) := by decide +kernel
theorem dJ6_bitCount_0f7a4_28 : decode cJ6_bitCount_0f7a4 28 = .ok (.iadd, 1) := by decide +kernel
theorem dJ6_bitCount_0f7a4_29 : decode cJ6_bitCount_0f7a4 29 = .ok (.ldc_w 267, 3) := by decide +kernel
theorem dJ6_bitCount_0f7a4_32 : decode cJ6_bitCount_0f7a4 32 = .ok (.iand, 1) := by decide +kernel
theorem dJ6_bitCount_0f7a4_33 : decode cJ6_bitCount_0f7a4 33 = .ok (.istore_n 0, 1) := by decide +kernel
theorem dJ6_bitCount_0f7a4_34 : decode cJ6_bitCount_0f7a4 34 = .ok (.iload_n 0, 1) := by decide +kernel
theorem dJ6_bitCount_0f7a4_35 : decode cJ6_bitCount_0f7a4 35 = .ok (.iload_n 0, 1) := by decide +kernel
theorem dJ6_bitCount_0f7a4_36 : decode cJ6_bitCount_0f7a4 36 = .ok (.bipush 8, 2) := by decide +kernel
theorem dJ6_bitCount_0f7a4_38 : decode cJ6_bitCount_0f7a4 38 = .ok (.iushr, 1) := by decide +kernel
theorem dJ6_bitCount_0f7a4_39 : decode cJ6_bitCount_0f7a4 39 = .ok (.iadd, 1) := by decide +kernel
theorem dJ6_bitCount_0f7a4_40 : decode cJ6_bitCount_0f7a4 40 = .ok (.istore_n 0, 1) := by decide +kernel
theorem dJ6_bitCount_0f7a4_41 : decode cJ6_bitCount_0f7a4 41 = .ok (.iload_n 0, 1) := by decide +kernel
theorem dJ6_bitCount_0f7a4_42 : decode cJ6_bitCount_0f7a4 42 = .ok (.iload_n 0, 1) := by decide +kernel
theorem dJ6_bitCount_0f7a4_43 : decode cJ6_bitCount_0f7a4 43 = .ok (.bipush 16, 2) := by decide +kernel
theorem dJ6_bitCount_0f7a4_45 : decode cJ6_bitCount_0f7a4 45 = .ok (.iushr, 1) := by decide +kernel
theorem dJ6_bitCount_0f7a4_46 : decode cJ6_bitCount_0f7a4 46 = .ok (.iadd, 1) := by decide +kernel
theorem dJ6_bitCount_0f7a4_47 : decode cJ6_bitCount_0f7a4 47 = .ok (.istore_n 0, 1) := by decide +kernel
theorem dJ6_bitCount_0f7a4_48 : decode cJ6_bitCount_0f7a4 48 = .ok (.iload_n 0, 1) := by decide +kernel
theorem dJ6_bitCount_0f7a4_49 : decode cJ6_bitCount_0f7a4 49 = .ok (.bipush 63, 2) := by decide +kernel
theorem dJ6_bitCount_0f7a4_51 : decode cJ6_bitCount_0f7a4 51 = .ok (.iand, 1) := by decide +kernel
theorem dJ6_bitCount_0f7a4_52 : decode cJ6_bitCount_0f7a4 52 = .ok (.ireturn, 1) := by decide +kernel
theorem dJ7_fill_53178_0 : decode cJ7_fill_53178 0 = .ok (.iconst 0, 1) := by decide +kernel
theorem dJ7_fill_53178_1 : decode cJ7_fill_53178 1 = .ok (.istore_n 2, 1) := by decide +kernel
theorem dJ7_fill_53178_2 : decode cJ7_fill_53178 2 = .ok (.aload_n 0, 1) := by decide +kernel
theorem dJ7_fill_53178_3 : decode cJ7_fill_53178 3 = .ok (.arraylength, 1) := by decide +kernel
theorem dJ7_fill_53178_4 : decode cJ7_fill_53178 4 = .ok (.istore_n 3, 1) := by decide +kernel
theorem dJ7_fill_53178_5 : decode cJ7_fill_53178 5 = .ok (.iload_n 2, 1) := by decide +kernel
theorem dJ7_fill_53178_6 : decode cJ7_fill_53178 6 = .ok (.iload_n 3, 1) := by decide +kernel
theorem dJ7_fill_53178_7 : decode cJ7_fill_53178 7 = .ok (.if_icmp .ge 13, 3) := by decide +kernel
theorem dJ7_fill_53178_10 : decode cJ7_fill_53178 10 = .ok (.aload_n 0, 1) := by decide +kernel
theorem dJ7_fill_53178_11 : decode cJ7_fill_53178 11 = .ok (.iload_n 2, 1) := by decide +kernel
theorem dJ7_fill_53178_12 : decode cJ7_fill_53178 12 = .ok (.iload_n 1, 1) := by decide +kernel
theorem dJ7_fill_53178_13 : decode cJ7_fill_53178 13 = .ok (.iastore, 1) := by decide +kernel
theorem dJ7_fill_53178_14 : decode cJ7_fill_53178 14 = .ok (.iinc 2 1, 3) := by decide +kernel
theorem dJ7_fill_53178_17 : decode cJ7_fill_53178 17 = .ok (.goto (-12), 3) := by decide +kernel
theorem dJ7_fill_53178_20 : decode cJ7_fill_53178 20 = .ok (.return_, 1) := by decide +kernel
