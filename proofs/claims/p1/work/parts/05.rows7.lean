theorem dX7_init_0 : decode cX7_init 0 = .ok (.aload_n 0, 1) := by decide +kernel
theorem dX7_init_1 : decode cX7_init 1 = .ok (.invokespecial 1, 3) := by decide +kernel
theorem dX7_init_4 : decode cX7_init 4 = .ok (.aload_n 0, 1) := by decide +kernel
theorem dX7_init_5 : decode cX7_init 5 = .ok (.iconst (-1), 1) := by decide +kernel
theorem dX7_init_6 : decode cX7_init 6 = .ok (.putfield 7, 3) := by decide +kernel
theorem dX7_init_9 : decode cX7_init 9 = .ok (.aload_n 0, 1) := by decide +kernel
theorem dX7_init_10 : decode cX7_init 10 = .ok (.iconst (-1), 1) := by decide +kernel
theorem dX7_init_11 : decode cX7_init 11 = .ok (.putfield 13, 3) := by decide +kernel
theorem dX7_init_14 : decode cX7_init 14 = .ok (.aload_n 0, 1) := by decide +kernel
theorem dX7_init_15 : decode cX7_init 15 = .ok (.bipush 6, 2) := by decide +kernel
theorem dX7_init_17 : decode cX7_init 17 = .ok (.newarray .int, 2) := by decide +kernel
theorem dX7_init_19 : decode cX7_init 19 = .ok (.putfield 16, 3) := by decide +kernel
theorem dX7_init_22 : decode cX7_init 22 = .ok (.aload_n 0, 1) := by decide +kernel
theorem dX7_init_23 : decode cX7_init 23 = .ok (.bipush 6, 2) := by decide +kernel
theorem dX7_init_25 : decode cX7_init 25 = .ok (.newarray .int, 2) := by decide +kernel
theorem dX7_init_27 : decode cX7_init 27 = .ok (.putfield 20, 3) := by decide +kernel
theorem dX7_init_30 : decode cX7_init 30 = .ok (.aload_n 0, 1) := by decide +kernel
theorem dX7_init_31 : decode cX7_init 31 = .ok (.bipush 6, 2) := by decide +kernel
theorem dX7_init_33 : decode cX7_init 33 = .ok (.newarray .int, 2) := by decide +kernel
theorem dX7_init_35 : decode cX7_init 35 = .ok (.putfield 23, 3) := by decide +kernel
theorem dX7_init_38 : decode cX7_init 38 = .ok (.aload_n 0, 1) := by decide +kernel
theorem dX7_init_39 : decode cX7_init 39 = .ok (.bipush 6, 2) := by decide +kernel
theorem dX7_init_41 : decode cX7_init 41 = .ok (.newarray .int, 2) := by decide +kernel
theorem dX7_init_43 : decode cX7_init 43 = .ok (.putfield 26, 3) := by decide +kernel
theorem dX7_init_46 : decode cX7_init 46 = .ok (.aload_n 0, 1) := by decide +kernel
theorem dX7_init_47 : decode cX7_init 47 = .ok (.bipush 6, 2) := by decide +kernel
theorem dX7_init_49 : decode cX7_init 49 = .ok (.newarray .int, 2) := by decide +kernel
theorem dX7_init_51 : decode cX7_init 51 = .ok (.putfield 29, 3) := by decide +kernel
theorem dX7_init_54 : decode cX7_init 54 = .ok (.aload_n 0, 1) := by decide +kernel
theorem dX7_init_55 : decode cX7_init 55 = .ok (.bipush 24, 2) := by decide +kernel
theorem dX7_init_57 : decode cX7_init 57 = .ok (.newarray .byte, 2) := by decide +kernel
theorem dX7_init_59 : decode cX7_init 59 = .ok (.putfield 32, 3) := by decide +kernel
theorem dX7_init_62 : decode cX7_init 62 = .ok (.aload_n 0, 1) := by decide +kernel
theorem dX7_init_63 : decode cX7_init 63 = .ok (.iconst 3, 1) := by decide +kernel
theorem dX7_init_64 : decode cX7_init 64 = .ok (.newarray .int, 2) := by decide +kernel
theorem dX7_init_66 : decode cX7_init 66 = .ok (.putfield 36, 3) := by decide +kernel
theorem dX7_init_69 : decode cX7_init 69 = .ok (.aload_n 0, 1) := by decide +kernel
theorem dX7_init_70 : decode cX7_init 70 = .ok (.bipush 80, 2) := by decide +kernel
theorem dX7_init_72 : decode cX7_init 72 = .ok (.newarray .int, 2) := by decide +kernel
theorem dX7_init_74 : decode cX7_init 74 = .ok (.putfield 39, 3) := by decide +kernel
theorem dX7_init_77 : decode cX7_init 77 = .ok (.aload_n 0, 1) := by decide +kernel
theorem dX7_init_78 : decode cX7_init 78 = .ok (.bipush 80, 2) := by decide +kernel
theorem dX7_init_80 : decode cX7_init 80 = .ok (.newarray .int, 2) := by decide +kernel
theorem dX7_init_82 : decode cX7_init 82 = .ok (.putfield 42, 3) := by decide +kernel
theorem dX7_init_85 : decode cX7_init 85 = .ok (.aload_n 0, 1) := by decide +kernel
theorem dX7_init_86 : decode cX7_init 86 = .ok (.bipush 6, 2) := by decide +kernel
theorem dX7_init_88 : decode cX7_init 88 = .ok (.newarray .int, 2) := by decide +kernel
theorem dX7_init_90 : decode cX7_init 90 = .ok (.putfield 45, 3) := by decide +kernel
theorem dX7_init_93 : decode cX7_init 93 = .ok (.aload_n 0, 1) := by decide +kernel
theorem dX7_init_94 : decode cX7_init 94 = .ok (.bipush 6, 2) := by decide +kernel
theorem dX7_init_96 : decode cX7_init 96 = .ok (.newarray .int, 2) := by decide +kernel
theorem dX7_init_98 : decode cX7_init 98 = .ok (.putfield 48, 3) := by decide +kernel
theorem dX7_init_101 : decode cX7_init 101 = .ok (.aload_n 0, 1) := by decide +kernel
theorem dX7_init_102 : decode cX7_init 102 = .ok (.bipush 6, 2) := by decide +kernel
theorem dX7_init_104 : decode cX7_init 104 = .ok (.newarray .int, 2) := by decide +kernel
theorem dX7_init_106 : decode cX7_init 106 = .ok (.putfield 51, 3) := by decide +kernel
theorem dX7_init_109 : decode cX7_init 109 = .ok (.aload_n 0, 1) := by decide +kernel
theorem dX7_init_110 : decode cX7_init 110 = .ok (.bipush 6, 2) := by decide +kernel
theorem dX7_init_112 : decode cX7_init 112 = .ok (.newarray .int, 2) := by decide +kernel
theorem dX7_init_114 : decode cX7_init 114 = .ok (.putfield 54, 3) := by decide +kernel
theorem dX7_init_117 : decode cX7_init 117 = .ok (.return_, 1) := by decide +kernel
theorem dX7_within_0 : decode cX7_within 0 = .ok (.iload_n 0, 1) := by decide +kernel
theorem dX7_within_1 : decode cX7_within 1 = .ok (.iload_n 1, 1) := by decide +kernel
theorem dX7_within_2 : decode cX7_within 2 = .ok (.if_icmp .lt 12, 3) := by decide +kernel
theorem dX7_within_5 : decode cX7_within 5 = .ok (.iload_n 0, 1) := by decide +kernel
theorem dX7_within_6 : decode cX7_within 6 = .ok (.iload_n 2, 1) := by decide +kernel
theorem dX7_within_7 : decode cX7_within 7 = .ok (.if_icmp .gt 7, 3) := by decide +kernel
theorem dX7_within_10 : decode cX7_within 10 = .ok (.iconst 1, 1) := by decide +kernel
theorem dX7_within_11 : decode cX7_within 11 = .ok (.goto 4, 3) := by decide +kernel
theorem dX7_within_14 : decode cX7_within 14 = .ok (.iconst 0, 1) := by decide +kernel
theorem dX7_within_15 : decode cX7_within 15 = .ok (.ireturn, 1) := by decide +kernel
theorem dX7_size_0 : decode cX7_size 0 = .ok (.iconst 0, 1) := by decide +kernel
theorem dX7_size_1 : decode cX7_size 1 = .ok (.istore_n 1, 1) := by decide +kernel
theorem dX7_size_2 : decode cX7_size 2 = .ok (.iconst 0, 1) := by decide +kernel
theorem dX7_size_3 : decode cX7_size 3 = .ok (.istore_n 2, 1) := by decide +kernel
theorem dX7_size_4 : decode cX7_size 4 = .ok (.iload_n 2, 1) := by decide +kernel
theorem dX7_size_5 : decode cX7_size 5 = .ok (.bipush 20, 2) := by decide +kernel
theorem dX7_size_7 : decode cX7_size 7 = .ok (.if_icmp .ge 17, 3) := by decide +kernel
theorem dX7_size_10 : decode cX7_size 10 = .ok (.iload_n 1, 1) := by decide +kernel
theorem dX7_size_11 : decode cX7_size 11 = .ok (.iload_n 0, 1) := by decide +kernel
theorem dX7_size_12 : decode cX7_size 12 = .ok (.iload_n 2, 1) := by decide +kernel
theorem dX7_size_13 : decode cX7_size 13 = .ok (.ishr, 1) := by decide +kernel
theorem dX7_size_14 : decode cX7_size 14 = .ok (.iconst 1, 1) := by decide +kernel
theorem dX7_size_15 : decode cX7_size 15 = .ok (.iand, 1) := by decide +kernel
theorem dX7_size_16 : decode cX7_size 16 = .ok (.iadd, 1) := by decide +kernel
theorem dX7_size_17 : decode cX7_size 17 = .ok (.istore_n 1, 1) := by decide +kernel
theorem dX7_size_18 : decode cX7_size 18 = .ok (.iinc 2 1, 3) := by decide +kernel
theorem dX7_size_21 : decode cX7_size 21 = .ok (.goto (-17), 3) := by decide +kernel
theorem dX7_size_24 : decode cX7_size 24 = .ok (.iload_n 1, 1) := by decide +kernel
theorem dX7_size_25 : decode cX7_size 25 = .ok (.ireturn, 1) := by decide +kernel
set_option maxRecDepth 20000 in
theorem ggX7_isPlace_X7_within : GoodIn wsX7_isPlace wsX7_within := goodIn_r _ [4] (by decide +kernel) (by decide +kernel)
set_option maxRecDepth 20000 in
theorem gX7_isPlace_X7_within : GoodIn wsX7_isPlace (va_wsS RX7 57 yX7_within wsX7_within) := goodIn_app (goodIn_of _ (by decide +kernel)) ggX7_isPlace_X7_within
theorem dX7_isPlace_0 : decode cX7_isPlace 0 = .ok (.iload_n 0, 1) := by decide +kernel
theorem dX7_isPlace_1 : decode cX7_isPlace 1 = .ok (.iconst 0, 1) := by decide +kernel
theorem dX7_isPlace_2 : decode cX7_isPlace 2 = .ok (.bipush 19, 2) := by decide +kernel
theorem dX7_isPlace_4 : decode cX7_isPlace 4 = .ok (.invokestatic 57, 3) := by decide +kernel
theorem dX7_isPlace_7 : decode cX7_isPlace 7 = .ok (.ireturn, 1) := by decide +kernel
set_option maxRecDepth 20000 in
theorem ggX7_letter_X7_within : GoodIn wsX7_letter wsX7_within := goodIn_r _ [6] (by decide +kernel) (by decide +kernel)
set_option maxRecDepth 20000 in
theorem gX7_letter_X7_within : GoodIn wsX7_letter (va_wsS RX7 57 yX7_within wsX7_within) := goodIn_app (goodIn_of _ (by decide +kernel)) ggX7_letter_X7_within
theorem dX7_letter_0 : decode cX7_letter 0 = .ok (.iload_n 1, 1) := by decide +kernel
theorem dX7_letter_1 : decode cX7_letter 1 = .ok (.bipush 32, 2) := by decide +kernel
theorem dX7_letter_3 : decode cX7_letter 3 = .ok (.bipush 126, 2) := by decide +kernel
theorem dX7_letter_5 : decode cX7_letter 5 = .ok (.invokestatic 57, 3) := by decide +kernel
theorem dX7_letter_8 : decode cX7_letter 8 = .ok (.ifCond .ne 6, 3) := by decide +kernel
theorem dX7_letter_11 : decode cX7_letter 11 = .ok (.bipush (-102), 2) := by decide +kernel
theorem dX7_letter_13 : decode cX7_letter 13 = .ok (.ireturn, 1) := by decide +kernel
theorem dX7_letter_14 : decode cX7_letter 14 = .ok (.aload_n 0, 1) := by decide +kernel
theorem dX7_letter_15 : decode cX7_letter 15 = .ok (.getfield 61, 3) := by decide +kernel
theorem dX7_letter_18 : decode cX7_letter 18 = .ok (.bipush 24, 2) := by decide +kernel
theorem dX7_letter_20 : decode cX7_letter 20 = .ok (.if_icmp .ne 6, 3) := by decide +kernel
theorem dX7_letter_23 : decode cX7_letter 23 = .ok (.bipush (-104), 2) := by decide +kernel
theorem dX7_letter_25 : decode cX7_letter 25 = .ok (.ireturn, 1) := by decide +kernel
theorem dX7_letter_26 : decode cX7_letter 26 = .ok (.aload_n 0, 1) := by decide +kernel
theorem dX7_letter_27 : decode cX7_letter 27 = .ok (.getfield 32, 3) := by decide +kernel
theorem dX7_letter_30 : decode cX7_letter 30 = .ok (.aload_n 0, 1) := by decide +kernel
theorem dX7_letter_31 : decode cX7_letter 31 = .ok (.getfield 61, 3) := by decide +kernel
theorem dX7_letter_34 : decode cX7_letter 34 = .ok (.iload_n 1, 1) := by decide +kernel
theorem dX7_letter_35 : decode cX7_letter 35 = .ok (.i2b, 1) := by decide +kernel
theorem dX7_letter_36 : decode cX7_letter 36 = .ok (.bastore, 1) := by decide +kernel
theorem dX7_letter_37 : decode cX7_letter 37 = .ok (.aload_n 0, 1) := by decide +kernel
theorem dX7_letter_38 : decode cX7_letter 38 = .ok (.dup, 1) := by decide +kernel
theorem dX7_letter_39 : decode cX7_letter 39 = .ok (.getfield 61, 3) := by decide +kernel
theorem dX7_letter_42 : decode cX7_letter 42 = .ok (.iconst 1, 1) := by decide +kernel
theorem dX7_letter_43 : decode cX7_letter 43 = .ok (.iadd, 1) := by decide +kernel
theorem dX7_letter_44 : decode cX7_letter 44 = .ok (.putfield 61, 3) := by decide +kernel
theorem dX7_letter_47 : decode cX7_letter 47 = .ok (.aload_n 0, 1) := by decide +kernel
theorem dX7_letter_48 : decode cX7_letter 48 = .ok (.getfield 61, 3) := by decide +kernel
theorem dX7_letter_51 : decode cX7_letter 51 = .ok (.ireturn, 1) := by decide +kernel
theorem dX7_blank_0 : decode cX7_blank 0 = .ok (.aload_n 0, 1) := by decide +kernel
theorem dX7_blank_1 : decode cX7_blank 1 = .ok (.getfield 61, 3) := by decide +kernel
theorem dX7_blank_4 : decode cX7_blank 4 = .ok (.istore_n 1, 1) := by decide +kernel
theorem dX7_blank_5 : decode cX7_blank 5 = .ok (.aload_n 0, 1) := by decide +kernel
theorem dX7_blank_6 : decode cX7_blank 6 = .ok (.iconst 0, 1) := by decide +kernel
theorem dX7_blank_7 : decode cX7_blank 7 = .ok (.putfield 61, 3) := by decide +kernel
theorem dX7_blank_10 : decode cX7_blank 10 = .ok (.iload_n 1, 1) := by decide +kernel
theorem dX7_blank_11 : decode cX7_blank 11 = .ok (.ireturn, 1) := by decide +kernel
theorem dX7_readHall_0 : decode cX7_readHall 0 = .ok (.aload_n 0, 1) := by decide +kernel
theorem dX7_readHall_1 : decode cX7_readHall 1 = .ok (.iconst 0, 1) := by decide +kernel
theorem dX7_readHall_2 : decode cX7_readHall 2 = .ok (.putfield 64, 3) := by decide +kernel
theorem dX7_readHall_5 : decode cX7_readHall 5 = .ok (.iconst 0, 1) := by decide +kernel
theorem dX7_readHall_6 : decode cX7_readHall 6 = .ok (.istore_n 1, 1) := by decide +kernel
theorem dX7_readHall_7 : decode cX7_readHall 7 = .ok (.iconst 1, 1) := by decide +kernel
theorem dX7_readHall_8 : decode cX7_readHall 8 = .ok (.istore_n 2, 1) := by decide +kernel
theorem dX7_readHall_9 : decode cX7_readHall 9 = .ok (.iload_n 1, 1) := by decide +kernel
theorem dX7_readHall_10 : decode cX7_readHall 10 = .ok (.aload_n 0, 1) := by decide +kernel
theorem dX7_readHall_11 : decode cX7_readHall 11 = .ok (.getfield 61, 3) := by decide +kernel
theorem dX7_readHall_14 : decode cX7_readHall 14 = .ok (.if_icmp .ge 129, 3) := by decide +kernel
theorem dX7_readHall_17 : decode cX7_readHall 17 = .ok (.iload_n 2, 1) := by decide +kernel
theorem dX7_readHall_18 : decode cX7_readHall 18 = .ok (.ifCond .eq 125, 3) := by decide +kernel
theorem dX7_readHall_21 : decode cX7_readHall 21 = .ok (.iload_n 1, 1) := by decide +kernel
theorem dX7_readHall_22 : decode cX7_readHall 22 = .ok (.bipush 6, 2) := by decide +kernel
theorem dX7_readHall_24 : decode cX7_readHall 24 = .ok (.irem, 1) := by decide +kernel
theorem dX7_readHall_25 : decode cX7_readHall 25 = .ok (.iconst 5, 1) := by decide +kernel
theorem dX7_readHall_26 : decode cX7_readHall 26 = .ok (.if_icmp .ne 7, 3) := by decide +kernel
theorem dX7_readHall_29 : decode cX7_readHall 29 = .ok (.iconst 1, 1) := by decide +kernel
theorem dX7_readHall_30 : decode cX7_readHall 30 = .ok (.goto 4, 3) := by decide +kernel
theorem dX7_readHall_33 : decode cX7_readHall 33 = .ok (.iconst 0, 1) := by decide +kernel
theorem dX7_readHall_34 : decode cX7_readHall 34 = .ok (.istore_n 3, 1) := by decide +kernel
theorem dX7_readHall_35 : decode cX7_readHall 35 = .ok (.iload_n 1, 1) := by decide +kernel
theorem dX7_readHall_36 : decode cX7_readHall 36 = .ok (.bipush 23, 2) := by decide +kernel
theorem dX7_readHall_38 : decode cX7_readHall 38 = .ok (.if_icmp .ge 47, 3) := by decide +kernel
theorem dX7_readHall_41 : decode cX7_readHall 41 = .ok (.iload_n 3, 1) := by decide +kernel
theorem dX7_readHall_42 : decode cX7_readHall 42 = .ok (.ifCond .eq 17, 3) := by decide +kernel
theorem dX7_readHall_45 : decode cX7_readHall 45 = .ok (.aload_n 0, 1) := by decide +kernel
theorem dX7_readHall_46 : decode cX7_readHall 46 = .ok (.getfield 32, 3) := by decide +kernel
theorem dX7_readHall_49 : decode cX7_readHall 49 = .ok (.iload_n 1, 1) := by decide +kernel
theorem dX7_readHall_50 : decode cX7_readHall 50 = .ok (.baload, 1) := by decide +kernel
theorem dX7_readHall_51 : decode cX7_readHall 51 = .ok (.bipush 47, 2) := by decide +kernel
theorem dX7_readHall_53 : decode cX7_readHall 53 = .ok (.if_icmp .ne 32, 3) := by decide +kernel
theorem dX7_readHall_56 : decode cX7_readHall 56 = .ok (.goto 25, 3) := by decide +kernel
theorem dX7_readHall_59 : decode cX7_readHall 59 = .ok (.aload_n 0, 1) := by decide +kernel
theorem dX7_readHall_60 : decode cX7_readHall 60 = .ok (.getfield 32, 3) := by decide +kernel
theorem dX7_readHall_63 : decode cX7_readHall 63 = .ok (.iload_n 1, 1) := by decide +kernel
theorem dX7_readHall_64 : decode cX7_readHall 64 = .ok (.baload, 1) := by decide +kernel
theorem dX7_readHall_65 : decode cX7_readHall 65 = .ok (.bipush 46, 2) := by decide +kernel
theorem dX7_readHall_67 : decode cX7_readHall 67 = .ok (.if_icmp .eq 14, 3) := by decide +kernel
theorem dX7_readHall_70 : decode cX7_readHall 70 = .ok (.aload_n 0, 1) := by decide +kernel
theorem dX7_readHall_71 : decode cX7_readHall 71 = .ok (.getfield 32, 3) := by decide +kernel
theorem dX7_readHall_74 : decode cX7_readHall 74 = .ok (.iload_n 1, 1) := by decide +kernel
theorem dX7_readHall_75 : decode cX7_readHall 75 = .ok (.baload, 1) := by decide +kernel
theorem dX7_readHall_76 : decode cX7_readHall 76 = .ok (.bipush 35, 2) := by decide +kernel
theorem dX7_readHall_78 : decode cX7_readHall 78 = .ok (.if_icmp .ne 7, 3) := by decide +kernel
theorem dX7_readHall_81 : decode cX7_readHall 81 = .ok (.iconst 1, 1) := by decide +kernel
theorem dX7_readHall_82 : decode cX7_readHall 82 = .ok (.goto 4, 3) := by decide +kernel
theorem dX7_readHall_85 : decode cX7_readHall 85 = .ok (.iconst 0, 1) := by decide +kernel
theorem dX7_readHall_86 : decode cX7_readHall 86 = .ok (.istore_n 2, 1) := by decide +kernel
theorem dX7_readHall_87 : decode cX7_readHall 87 = .ok (.aload_n 0, 1) := by decide +kernel
theorem dX7_readHall_88 : decode cX7_readHall 88 = .ok (.dup, 1) := by decide +kernel
theorem dX7_readHall_89 : decode cX7_readHall 89 = .ok (.getfield 64, 3) := by decide +kernel
theorem dX7_readHall_92 : decode cX7_readHall 92 = .ok (.iload_n 2, 1) := by decide +kernel
theorem dX7_readHall_93 : decode cX7_readHall 93 = .ok (.ifCond .eq 30, 3) := by decide +kernel
theorem dX7_readHall_96 : decode cX7_readHall 96 = .ok (.aload_n 0, 1) := by decide +kernel
theorem dX7_readHall_97 : decode cX7_readHall 97 = .ok (.getfield 32, 3) := by decide +kernel
theorem dX7_readHall_100 : decode cX7_readHall 100 = .ok (.iload_n 1, 1) := by decide +kernel
theorem dX7_readHall_101 : decode cX7_readHall 101 = .ok (.baload, 1) := by decide +kernel
theorem dX7_readHall_102 : decode cX7_readHall 102 = .ok (.bipush 46, 2) := by decide +kernel
theorem dX7_readHall_104 : decode cX7_readHall 104 = .ok (.if_icmp .ne 19, 3) := by decide +kernel
theorem dX7_readHall_107 : decode cX7_readHall 107 = .ok (.iconst 1, 1) := by decide +kernel
theorem dX7_readHall_108 : decode cX7_readHall 108 = .ok (.iload_n 1, 1) := by decide +kernel
theorem dX7_readHall_109 : decode cX7_readHall 109 = .ok (.bipush 6, 2) := by decide +kernel
theorem dX7_readHall_111 : decode cX7_readHall 111 = .ok (.idiv, 1) := by decide +kernel
theorem dX7_readHall_112 : decode cX7_readHall 112 = .ok (.iconst 5, 1) := by decide +kernel
theorem dX7_readHall_113 : decode cX7_readHall 113 = .ok (.imul, 1) := by decide +kernel
theorem dX7_readHall_114 : decode cX7_readHall 114 = .ok (.iload_n 1, 1) := by decide +kernel
theorem dX7_readHall_115 : decode cX7_readHall 115 = .ok (.bipush 6, 2) := by decide +kernel
theorem dX7_readHall_117 : decode cX7_readHall 117 = .ok (.irem, 1) := by decide +kernel
theorem dX7_readHall_118 : decode cX7_readHall 118 = .ok (.iadd, 1) := by decide +kernel
theorem dX7_readHall_119 : decode cX7_readHall 119 = .ok (.ishl, 1) := by decide +kernel
theorem dX7_readHall_120 : decode cX7_readHall 120 = .ok (.goto 4, 3) := by decide +kernel
theorem dX7_readHall_123 : decode cX7_readHall 123 = .ok (.iconst 0, 1) := by decide +kernel
theorem dX7_readHall_124 : decode cX7_readHall 124 = .ok (.ior, 1) := by decide +kernel
theorem dX7_readHall_125 : decode cX7_readHall 125 = .ok (.putfield 64, 3) := by decide +kernel
theorem dX7_readHall_128 : decode cX7_readHall 128 = .ok (.iload_n 1, 1) := by decide +kernel
theorem dX7_readHall_129 : decode cX7_readHall 129 = .ok (.iload_n 2, 1) := by decide +kernel
theorem dX7_readHall_130 : decode cX7_readHall 130 = .ok (.ifCond .eq 7, 3) := by decide +kernel
theorem dX7_readHall_133 : decode cX7_readHall 133 = .ok (.iconst 1, 1) := by decide +kernel
theorem dX7_readHall_134 : decode cX7_readHall 134 = .ok (.goto 4, 3) := by decide +kernel
theorem dX7_readHall_137 : decode cX7_readHall 137 = .ok (.iconst 0, 1) := by decide +kernel
theorem dX7_readHall_138 : decode cX7_readHall 138 = .ok (.iadd, 1) := by decide +kernel
theorem dX7_readHall_139 : decode cX7_readHall 139 = .ok (.istore_n 1, 1) := by decide +kernel
theorem dX7_readHall_140 : decode cX7_readHall 140 = .ok (.goto (-131), 3) := by decide +kernel
theorem dX7_readHall_143 : decode cX7_readHall 143 = .ok (.aload_n 0, 1) := by decide +kernel
theorem dX7_readHall_144 : decode cX7_readHall 144 = .ok (.iload_n 1, 1) := by decide +kernel
theorem dX7_readHall_145 : decode cX7_readHall 145 = .ok (.putfield 67, 3) := by decide +kernel
theorem dX7_readHall_148 : decode cX7_readHall 148 = .ok (.return_, 1) := by decide +kernel
set_option maxRecDepth 20000 in
theorem ggX7_fault_X7_readHall : GoodIn wsX7_fault wsX7_readHall := goodIn_r _ [6, 7, 8, 9, 1, 10, 11, 12, 13, 14, 15, 16, 17, 18, 19, 20, 21, 22, 23, 24, 25, 26, 27, 28, 29, 30, 31, 32, 33, 34, 35, 36, 37, 38, 39, 40] (by decide +kernel) (by decide +kernel)
set_option maxRecDepth 20000 in
theorem gX7_fault_X7_readHall : GoodIn wsX7_fault (wsV RX7 70 RX7 yX7_readHall wsX7_readHall) := goodIn_app (goodIn_of _ (by decide +kernel)) ggX7_fault_X7_readHall
theorem dX7_fault_0 : decode cX7_fault 0 = .ok (.aload_n 0, 1) := by decide +kernel
theorem dX7_fault_1 : decode cX7_fault 1 = .ok (.invokevirtual 70, 3) := by decide +kernel
theorem dX7_fault_4 : decode cX7_fault 4 = .ok (.aload_n 0, 1) := by decide +kernel
theorem dX7_fault_5 : decode cX7_fault 5 = .ok (.getfield 67, 3) := by decide +kernel
theorem dX7_fault_8 : decode cX7_fault 8 = .ok (.ireturn, 1) := by decide +kernel
set_option maxRecDepth 20000 in
theorem ggX7_hall_X7_readHall : GoodIn wsX7_hall wsX7_readHall := goodIn_r _ [15, 3, 2, 16, 1, 20, 21, 22, 23, 24, 25, 26, 27, 28, 29, 30, 31, 32, 33, 34, 35, 36, 37, 38, 39, 40, 41, 42, 43, 44, 45, 46, 47, 48, 49, 50] (by decide +kernel) (by decide +kernel)
set_option maxRecDepth 20000 in
theorem gX7_hall_X7_readHall : GoodIn wsX7_hall (wsV RX7 70 RX7 yX7_readHall wsX7_readHall) := goodIn_app (goodIn_of _ (by decide +kernel)) ggX7_hall_X7_readHall
set_option maxRecDepth 20000 in
theorem ggX7_hall_X7_size : GoodIn wsX7_hall wsX7_size := goodIn_r _ [19] (by decide +kernel) (by decide +kernel)
set_option maxRecDepth 20000 in
theorem gX7_hall_X7_size : GoodIn wsX7_hall (va_wsS RX7 89 yX7_size wsX7_size) := goodIn_app (goodIn_of _ (by decide +kernel)) ggX7_hall_X7_size
theorem dX7_hall_0 : decode cX7_hall 0 = .ok (.aload_n 0, 1) := by decide +kernel
theorem dX7_hall_1 : decode cX7_hall 1 = .ok (.invokevirtual 70, 3) := by decide +kernel
theorem dX7_hall_4 : decode cX7_hall 4 = .ok (.aload_n 0, 1) := by decide +kernel
theorem dX7_hall_5 : decode cX7_hall 5 = .ok (.getfield 67, 3) := by decide +kernel
theorem dX7_hall_8 : decode cX7_hall 8 = .ok (.aload_n 0, 1) := by decide +kernel
theorem dX7_hall_9 : decode cX7_hall 9 = .ok (.getfield 61, 3) := by decide +kernel
theorem dX7_hall_12 : decode cX7_hall 12 = .ok (.if_icmp .ne 12, 3) := by decide +kernel
theorem dX7_hall_15 : decode cX7_hall 15 = .ok (.aload_n 0, 1) := by decide +kernel
theorem dX7_hall_16 : decode cX7_hall 16 = .ok (.getfield 61, 3) := by decide +kernel
theorem dX7_hall_19 : decode cX7_hall 19 = .ok (.bipush 23, 2) := by decide +kernel
theorem dX7_hall_21 : decode cX7_hall 21 = .ok (.if_icmp .eq 6, 3) := by decide +kernel
theorem dX7_hall_24 : decode cX7_hall 24 = .ok (.bipush (-103), 2) := by decide +kernel
theorem dX7_hall_26 : decode cX7_hall 26 = .ok (.ireturn, 1) := by decide +kernel
theorem dX7_hall_27 : decode cX7_hall 27 = .ok (.aload_n 0, 1) := by decide +kernel
theorem dX7_hall_28 : decode cX7_hall 28 = .ok (.aload_n 0, 1) := by decide +kernel
theorem dX7_hall_29 : decode cX7_hall 29 = .ok (.getfield 64, 3) := by decide +kernel
theorem dX7_hall_32 : decode cX7_hall 32 = .ok (.putfield 73, 3) := by decide +kernel
theorem dX7_hall_35 : decode cX7_hall 35 = .ok (.aload_n 0, 1) := by decide +kernel
theorem dX7_hall_36 : decode cX7_hall 36 = .ok (.iconst 1, 1) := by decide +kernel
theorem dX7_hall_37 : decode cX7_hall 37 = .ok (.putfield 76, 3) := by decide +kernel
theorem dX7_hall_40 : decode cX7_hall 40 = .ok (.aload_n 0, 1) := by decide +kernel
theorem dX7_hall_41 : decode cX7_hall 41 = .ok (.dup, 1) := by decide +kernel
theorem dX7_hall_42 : decode cX7_hall 42 = .ok (.getfield 80, 3) := by decide +kernel
theorem dX7_hall_45 : decode cX7_hall 45 = .ok (.iconst 1, 1) := by decide +kernel
theorem dX7_hall_46 : decode cX7_hall 46 = .ok (.iadd, 1) := by decide +kernel
theorem dX7_hall_47 : decode cX7_hall 47 = .ok (.putfield 80, 3) := by decide +kernel
theorem dX7_hall_50 : decode cX7_hall 50 = .ok (.aload_n 0, 1) := by decide +kernel
theorem dX7_hall_51 : decode cX7_hall 51 = .ok (.iconst (-1), 1) := by decide +kernel
theorem dX7_hall_52 : decode cX7_hall 52 = .ok (.putfield 7, 3) := by decide +kernel
theorem dX7_hall_55 : decode cX7_hall 55 = .ok (.aload_n 0, 1) := by decide +kernel
theorem dX7_hall_56 : decode cX7_hall 56 = .ok (.iconst (-1), 1) := by decide +kernel
theorem dX7_hall_57 : decode cX7_hall 57 = .ok (.putfield 13, 3) := by decide +kernel
theorem dX7_hall_60 : decode cX7_hall 60 = .ok (.aload_n 0, 1) := by decide +kernel
theorem dX7_hall_61 : decode cX7_hall 61 = .ok (.iconst 0, 1) := by decide +kernel
theorem dX7_hall_62 : decode cX7_hall 62 = .ok (.putfield 83, 3) := by decide +kernel
theorem dX7_hall_65 : decode cX7_hall 65 = .ok (.aload_n 0, 1) := by decide +kernel
theorem dX7_hall_66 : decode cX7_hall 66 = .ok (.iconst 0, 1) := by decide +kernel
theorem dX7_hall_67 : decode cX7_hall 67 = .ok (.putfield 86, 3) := by decide +kernel
theorem dX7_hall_70 : decode cX7_hall 70 = .ok (.aload_n 0, 1) := by decide +kernel
theorem dX7_hall_71 : decode cX7_hall 71 = .ok (.iconst 0, 1) := by decide +kernel
theorem dX7_hall_72 : decode cX7_hall 72 = .ok (.putfield 61, 3) := by decide +kernel
theorem dX7_hall_75 : decode cX7_hall 75 = .ok (.aload_n 0, 1) := by decide +kernel
theorem dX7_hall_76 : decode cX7_hall 76 = .ok (.getfield 73, 3) := by decide +kernel
theorem dX7_hall_79 : decode cX7_hall 79 = .ok (.invokestatic 89, 3) := by decide +kernel
theorem dX7_hall_82 : decode cX7_hall 82 = .ok (.ireturn, 1) := by decide +kernel
set_option maxRecDepth 20000 in
theorem ggX7_on_X7_isPlace : GoodIn wsX7_on wsX7_isPlace := goodIn_r _ [5, 6, 7, 4, 8] (by decide +kernel) (by decide +kernel)
set_option maxRecDepth 20000 in
theorem gX7_on_X7_isPlace : GoodIn wsX7_on (va_wsS RX7 100 yX7_isPlace wsX7_isPlace) := goodIn_app (goodIn_of _ (by decide +kernel)) ggX7_on_X7_isPlace
theorem dX7_on_0 : decode cX7_on 0 = .ok (.iload_n 1, 1) := by decide +kernel
theorem dX7_on_1 : decode cX7_on 1 = .ok (.invokestatic 100, 3) := by decide +kernel
theorem dX7_on_4 : decode cX7_on 4 = .ok (.ifCond .ne 6, 3) := by decide +kernel
theorem dX7_on_7 : decode cX7_on 7 = .ok (.bipush (-101), 2) := by decide +kernel
theorem dX7_on_9 : decode cX7_on 9 = .ok (.ireturn, 1) := by decide +kernel
theorem dX7_on_10 : decode cX7_on 10 = .ok (.aload_n 0, 1) := by decide +kernel
theorem dX7_on_11 : decode cX7_on 11 = .ok (.getfield 76, 3) := by decide +kernel
theorem dX7_on_14 : decode cX7_on 14 = .ok (.ifCond .eq 11, 3) := by decide +kernel
theorem dX7_on_17 : decode cX7_on 17 = .ok (.aload_n 0, 1) := by decide +kernel
theorem dX7_on_18 : decode cX7_on 18 = .ok (.iload_n 1, 1) := by decide +kernel
theorem dX7_on_19 : decode cX7_on 19 = .ok (.invokevirtual 104, 3) := by decide +kernel
theorem dX7_on_22 : decode cX7_on 22 = .ok (.goto 5, 3) := by decide +kernel
theorem dX7_on_25 : decode cX7_on 25 = .ok (.bipush (-103), 2) := by decide +kernel
theorem dX7_on_27 : decode cX7_on 27 = .ok (.ireturn, 1) := by decide +kernel
set_option maxRecDepth 20000 in
theorem ggX7_duke_X7_isPlace : GoodIn wsX7_duke wsX7_isPlace := goodIn_r _ [7, 8, 9, 6, 10] (by decide +kernel) (by decide +kernel)
set_option maxRecDepth 20000 in
theorem gX7_duke_X7_isPlace : GoodIn wsX7_duke (va_wsS RX7 100 yX7_isPlace wsX7_isPlace) := goodIn_app (goodIn_of _ (by decide +kernel)) ggX7_duke_X7_isPlace
set_option maxRecDepth 20000 in
theorem ggX7_duke_X7_within : GoodIn wsX7_duke wsX7_within := goodIn_r _ [10] (by decide +kernel) (by decide +kernel)
set_option maxRecDepth 20000 in
theorem gX7_duke_X7_within : GoodIn wsX7_duke (va_wsS RX7 57 yX7_within wsX7_within) := goodIn_app (goodIn_of _ (by decide +kernel)) ggX7_duke_X7_within
theorem dX7_duke_0 : decode cX7_duke 0 = .ok (.iload_n 1, 1) := by decide +kernel
theorem dX7_duke_1 : decode cX7_duke 1 = .ok (.invokestatic 100, 3) := by decide +kernel
theorem dX7_duke_4 : decode cX7_duke 4 = .ok (.ifCond .ne 6, 3) := by decide +kernel
theorem dX7_duke_7 : decode cX7_duke 7 = .ok (.bipush (-101), 2) := by decide +kernel
theorem dX7_duke_9 : decode cX7_duke 9 = .ok (.ireturn, 1) := by decide +kernel
theorem dX7_duke_10 : decode cX7_duke 10 = .ok (.iload_n 2, 1) := by decide +kernel
theorem dX7_duke_11 : decode cX7_duke 11 = .ok (.iconst 0, 1) := by decide +kernel
theorem dX7_duke_12 : decode cX7_duke 12 = .ok (.iconst 3, 1) := by decide +kernel
theorem dX7_duke_13 : decode cX7_duke 13 = .ok (.invokestatic 57, 3) := by decide +kernel
theorem dX7_duke_16 : decode cX7_duke 16 = .ok (.ifCond .ne 6, 3) := by decide +kernel
theorem dX7_duke_19 : decode cX7_duke 19 = .ok (.bipush (-102), 2) := by decide +kernel
theorem dX7_duke_21 : decode cX7_duke 21 = .ok (.ireturn, 1) := by decide +kernel
theorem dX7_duke_22 : decode cX7_duke 22 = .ok (.aload_n 0, 1) := by decide +kernel
theorem dX7_duke_23 : decode cX7_duke 23 = .ok (.getfield 76, 3) := by decide +kernel
theorem dX7_duke_26 : decode cX7_duke 26 = .ok (.ifCond .eq 19, 3) := by decide +kernel
theorem dX7_duke_29 : decode cX7_duke 29 = .ok (.aload_n 0, 1) := by decide +kernel
theorem dX7_duke_30 : decode cX7_duke 30 = .ok (.iload_n 1, 1) := by decide +kernel
theorem dX7_duke_31 : decode cX7_duke 31 = .ok (.invokevirtual 107, 3) := by decide +kernel
theorem dX7_duke_34 : decode cX7_duke 34 = .ok (.ifCond .ne 14, 3) := by decide +kernel
theorem dX7_duke_37 : decode cX7_duke 37 = .ok (.iload_n 1, 1) := by decide +kernel
theorem dX7_duke_38 : decode cX7_duke 38 = .ok (.aload_n 0, 1) := by decide +kernel
theorem dX7_duke_39 : decode cX7_duke 39 = .ok (.getfield 7, 3) := by decide +kernel
theorem dX7_duke_42 : decode cX7_duke 42 = .ok (.if_icmp .eq 6, 3) := by decide +kernel
theorem dX7_duke_45 : decode cX7_duke 45 = .ok (.bipush (-103), 2) := by decide +kernel
theorem dX7_duke_47 : decode cX7_duke 47 = .ok (.ireturn, 1) := by decide +kernel
theorem dX7_duke_48 : decode cX7_duke 48 = .ok (.aload_n 0, 1) := by decide +kernel
theorem dX7_duke_49 : decode cX7_duke 49 = .ok (.iload_n 1, 1) := by decide +kernel
theorem dX7_duke_50 : decode cX7_duke 50 = .ok (.putfield 7, 3) := by decide +kernel
theorem dX7_duke_53 : decode cX7_duke 53 = .ok (.aload_n 0, 1) := by decide +kernel
theorem dX7_duke_54 : decode cX7_duke 54 = .ok (.iload_n 2, 1) := by decide +kernel
theorem dX7_duke_55 : decode cX7_duke 55 = .ok (.putfield 13, 3) := by decide +kernel
theorem dX7_duke_58 : decode cX7_duke 58 = .ok (.iconst 4, 1) := by decide +kernel
theorem dX7_duke_59 : decode cX7_duke 59 = .ok (.iload_n 1, 1) := by decide +kernel
theorem dX7_duke_60 : decode cX7_duke 60 = .ok (.imul, 1) := by decide +kernel
theorem dX7_duke_61 : decode cX7_duke 61 = .ok (.iload_n 2, 1) := by decide +kernel
theorem dX7_duke_62 : decode cX7_duke 62 = .ok (.iadd, 1) := by decide +kernel
theorem dX7_duke_63 : decode cX7_duke 63 = .ok (.ireturn, 1) := by decide +kernel
set_option maxRecDepth 20000 in
theorem ggX7_courtier_X7_isPlace : GoodIn wsX7_courtier wsX7_isPlace := goodIn_r _ [6, 7, 8, 5, 9] (by decide +kernel) (by decide +kernel)
set_option maxRecDepth 20000 in
theorem gX7_courtier_X7_isPlace : GoodIn wsX7_courtier (va_wsS RX7 100 yX7_isPlace wsX7_isPlace) := goodIn_app (goodIn_of _ (by decide +kernel)) ggX7_courtier_X7_isPlace
set_option maxRecDepth 20000 in
theorem ggX7_courtier_X7_within : GoodIn wsX7_courtier wsX7_within := goodIn_r _ [9] (by decide +kernel) (by decide +kernel)
set_option maxRecDepth 20000 in
theorem gX7_courtier_X7_within : GoodIn wsX7_courtier (va_wsS RX7 57 yX7_within wsX7_within) := goodIn_app (goodIn_of _ (by decide +kernel)) ggX7_courtier_X7_within
theorem dX7_courtier_0 : decode cX7_courtier 0 = .ok (.iload_n 2, 1) := by decide +kernel
theorem dX7_courtier_1 : decode cX7_courtier 1 = .ok (.invokestatic 100, 3) := by decide +kernel
theorem dX7_courtier_4 : decode cX7_courtier 4 = .ok (.ifCond .ne 6, 3) := by decide +kernel
theorem dX7_courtier_7 : decode cX7_courtier 7 = .ok (.bipush (-101), 2) := by decide +kernel
theorem dX7_courtier_9 : decode cX7_courtier 9 = .ok (.ireturn, 1) := by decide +kernel
theorem dX7_courtier_10 : decode cX7_courtier 10 = .ok (.iload_n 1, 1) := by decide +kernel
theorem dX7_courtier_11 : decode cX7_courtier 11 = .ok (.iconst 0, 1) := by decide +kernel
theorem dX7_courtier_12 : decode cX7_courtier 12 = .ok (.iconst 4, 1) := by decide +kernel
theorem dX7_courtier_13 : decode cX7_courtier 13 = .ok (.invokestatic 57, 3) := by decide +kernel
theorem dX7_courtier_16 : decode cX7_courtier 16 = .ok (.ifCond .ne 6, 3) := by decide +kernel
theorem dX7_courtier_19 : decode cX7_courtier 19 = .ok (.bipush (-102), 2) := by decide +kernel
theorem dX7_courtier_21 : decode cX7_courtier 21 = .ok (.ireturn, 1) := by decide +kernel
theorem dX7_courtier_22 : decode cX7_courtier 22 = .ok (.aload_n 0, 1) := by decide +kernel
theorem dX7_courtier_23 : decode cX7_courtier 23 = .ok (.getfield 76, 3) := by decide +kernel
theorem dX7_courtier_26 : decode cX7_courtier 26 = .ok (.ifCond .eq 11, 3) := by decide +kernel
theorem dX7_courtier_29 : decode cX7_courtier 29 = .ok (.aload_n 0, 1) := by decide +kernel
theorem dX7_courtier_30 : decode cX7_courtier 30 = .ok (.iload_n 2, 1) := by decide +kernel
theorem dX7_courtier_31 : decode cX7_courtier 31 = .ok (.invokevirtual 107, 3) := by decide +kernel
theorem dX7_courtier_34 : decode cX7_courtier 34 = .ok (.ifCond .ne 6, 3) := by decide +kernel
theorem dX7_courtier_37 : decode cX7_courtier 37 = .ok (.bipush (-103), 2) := by decide +kernel
theorem dX7_courtier_39 : decode cX7_courtier 39 = .ok (.ireturn, 1) := by decide +kernel
theorem dX7_courtier_40 : decode cX7_courtier 40 = .ok (.aload_n 0, 1) := by decide +kernel
theorem dX7_courtier_41 : decode cX7_courtier 41 = .ok (.getfield 86, 3) := by decide +kernel
theorem dX7_courtier_44 : decode cX7_courtier 44 = .ok (.bipush 6, 2) := by decide +kernel
theorem dX7_courtier_46 : decode cX7_courtier 46 = .ok (.if_icmp .ne 6, 3) := by decide +kernel
theorem dX7_courtier_49 : decode cX7_courtier 49 = .ok (.bipush (-104), 2) := by decide +kernel
theorem dX7_courtier_51 : decode cX7_courtier 51 = .ok (.ireturn, 1) := by decide +kernel
theorem dX7_courtier_52 : decode cX7_courtier 52 = .ok (.aload_n 0, 1) := by decide +kernel
theorem dX7_courtier_53 : decode cX7_courtier 53 = .ok (.iload_n 1, 1) := by decide +kernel
theorem dX7_courtier_54 : decode cX7_courtier 54 = .ok (.iload_n 2, 1) := by decide +kernel
theorem dX7_courtier_55 : decode cX7_courtier 55 = .ok (.invokevirtual 110, 3) := by decide +kernel
theorem dX7_courtier_58 : decode cX7_courtier 58 = .ok (.aload_n 0, 1) := by decide +kernel
theorem dX7_courtier_59 : decode cX7_courtier 59 = .ok (.getfield 86, 3) := by decide +kernel
theorem dX7_courtier_62 : decode cX7_courtier 62 = .ok (.iconst 1, 1) := by decide +kernel
theorem dX7_courtier_63 : decode cX7_courtier 63 = .ok (.isub, 1) := by decide +kernel
theorem dX7_courtier_64 : decode cX7_courtier 64 = .ok (.ireturn, 1) := by decide +kernel
set_option maxRecDepth 20000 in
theorem ggX7_isCourtier_X7_within : GoodIn wsX7_isCourtier wsX7_within := goodIn_r _ [5] (by decide +kernel) (by decide +kernel)
set_option maxRecDepth 20000 in
theorem gX7_isCourtier_X7_within : GoodIn wsX7_isCourtier (va_wsS RX7 57 yX7_within wsX7_within) := goodIn_app (goodIn_of _ (by decide +kernel)) ggX7_isCourtier_X7_within
theorem dX7_isCourtier_0 : decode cX7_isCourtier 0 = .ok (.iload_n 1, 1) := by decide +kernel
theorem dX7_isCourtier_1 : decode cX7_isCourtier 1 = .ok (.iconst 0, 1) := by decide +kernel
theorem dX7_isCourtier_2 : decode cX7_isCourtier 2 = .ok (.aload_n 0, 1) := by decide +kernel
theorem dX7_isCourtier_3 : decode cX7_isCourtier 3 = .ok (.getfield 86, 3) := by decide +kernel
theorem dX7_isCourtier_6 : decode cX7_isCourtier 6 = .ok (.iconst 1, 1) := by decide +kernel
theorem dX7_isCourtier_7 : decode cX7_isCourtier 7 = .ok (.isub, 1) := by decide +kernel
theorem dX7_isCourtier_8 : decode cX7_isCourtier 8 = .ok (.invokestatic 57, 3) := by decide +kernel
theorem dX7_isCourtier_11 : decode cX7_isCourtier 11 = .ok (.ireturn, 1) := by decide +kernel
theorem dX7_guiltySet_0 : decode cX7_guiltySet 0 = .ok (.iconst 0, 1) := by decide +kernel
theorem dX7_guiltySet_1 : decode cX7_guiltySet 1 = .ok (.istore_n 1, 1) := by decide +kernel
theorem dX7_guiltySet_2 : decode cX7_guiltySet 2 = .ok (.iconst 0, 1) := by decide +kernel
theorem dX7_guiltySet_3 : decode cX7_guiltySet 3 = .ok (.istore_n 2, 1) := by decide +kernel
theorem dX7_guiltySet_4 : decode cX7_guiltySet 4 = .ok (.iload_n 2, 1) := by decide +kernel
theorem dX7_guiltySet_5 : decode cX7_guiltySet 5 = .ok (.aload_n 0, 1) := by decide +kernel
theorem dX7_guiltySet_6 : decode cX7_guiltySet 6 = .ok (.getfield 86, 3) := by decide +kernel
theorem dX7_guiltySet_9 : decode cX7_guiltySet 9 = .ok (.if_icmp .ge 27, 3) := by decide +kernel
theorem dX7_guiltySet_12 : decode cX7_guiltySet 12 = .ok (.iload_n 1, 1) := by decide +kernel
theorem dX7_guiltySet_13 : decode cX7_guiltySet 13 = .ok (.aload_n 0, 1) := by decide +kernel
theorem dX7_guiltySet_14 : decode cX7_guiltySet 14 = .ok (.iload_n 2, 1) := by decide +kernel
theorem dX7_guiltySet_15 : decode cX7_guiltySet 15 = .ok (.invokevirtual 134, 3) := by decide +kernel
theorem dX7_guiltySet_18 : decode cX7_guiltySet 18 = .ok (.ifCond .eq 9, 3) := by decide +kernel
theorem dX7_guiltySet_21 : decode cX7_guiltySet 21 = .ok (.iconst 1, 1) := by decide +kernel
theorem dX7_guiltySet_22 : decode cX7_guiltySet 22 = .ok (.iload_n 2, 1) := by decide +kernel
theorem dX7_guiltySet_23 : decode cX7_guiltySet 23 = .ok (.ishl, 1) := by decide +kernel
theorem dX7_guiltySet_24 : decode cX7_guiltySet 24 = .ok (.goto 4, 3) := by decide +kernel
theorem dX7_guiltySet_27 : decode cX7_guiltySet 27 = .ok (.iconst 0, 1) := by decide +kernel
theorem dX7_guiltySet_28 : decode cX7_guiltySet 28 = .ok (.ior, 1) := by decide +kernel
theorem dX7_guiltySet_29 : decode cX7_guiltySet 29 = .ok (.istore_n 1, 1) := by decide +kernel
theorem dX7_guiltySet_30 : decode cX7_guiltySet 30 = .ok (.iinc 2 1, 3) := by decide +kernel
theorem dX7_guiltySet_33 : decode cX7_guiltySet 33 = .ok (.goto (-29), 3) := by decide +kernel
theorem dX7_guiltySet_36 : decode cX7_guiltySet 36 = .ok (.iload_n 1, 1) := by decide +kernel
theorem dX7_guiltySet_37 : decode cX7_guiltySet 37 = .ok (.ireturn, 1) := by decide +kernel
set_option maxRecDepth 20000 in
theorem ggX7_about_X7_isCourtier : GoodIn wsX7_about wsX7_isCourtier := goodIn_r _ [5, 6, 7, 8, 4, 9, 52, 53, 54, 55, 56, 57, 58, 59, 60, 61, 62, 63, 64, 65, 66, 67, 68, 69, 70, 71, 72, 73, 74, 75, 76, 77, 78, 79, 80, 81, 82] (by decide +kernel) (by decide +kernel)
set_option maxRecDepth 20000 in
theorem gX7_about_X7_isCourtier : GoodIn wsX7_about (wsV RX7 137 RX7 yX7_isCourtier wsX7_isCourtier) := goodIn_app (goodIn_of _ (by decide +kernel)) ggX7_about_X7_isCourtier
set_option maxRecDepth 20000 in
theorem ggX7_about_X7_within : GoodIn wsX7_about wsX7_within := goodIn_r _ [9] (by decide +kernel) (by decide +kernel)
set_option maxRecDepth 20000 in
theorem gX7_about_X7_within : GoodIn wsX7_about (va_wsS RX7 57 yX7_within wsX7_within) := goodIn_app (goodIn_of _ (by decide +kernel)) ggX7_about_X7_within
theorem dX7_about_0 : decode cX7_about 0 = .ok (.aload_n 0, 1) := by decide +kernel
theorem dX7_about_1 : decode cX7_about 1 = .ok (.iload_n 1, 1) := by decide +kernel
theorem dX7_about_2 : decode cX7_about 2 = .ok (.invokevirtual 137, 3) := by decide +kernel
theorem dX7_about_5 : decode cX7_about 5 = .ok (.ifCond .ne 8, 3) := by decide +kernel
theorem dX7_about_8 : decode cX7_about 8 = .ok (.bipush (-101), 2) := by decide +kernel
theorem dX7_about_10 : decode cX7_about 10 = .ok (.goto 23, 3) := by decide +kernel
theorem dX7_about_13 : decode cX7_about 13 = .ok (.iload_n 2, 1) := by decide +kernel
theorem dX7_about_14 : decode cX7_about 14 = .ok (.iconst 0, 1) := by decide +kernel
theorem dX7_about_15 : decode cX7_about 15 = .ok (.iconst 5, 1) := by decide +kernel
theorem dX7_about_16 : decode cX7_about 16 = .ok (.invokestatic 57, 3) := by decide +kernel
theorem dX7_about_19 : decode cX7_about 19 = .ok (.ifCond .eq 12, 3) := by decide +kernel
theorem dX7_about_22 : decode cX7_about 22 = .ok (.aload_n 0, 1) := by decide +kernel
theorem dX7_about_23 : decode cX7_about 23 = .ok (.iload_n 1, 1) := by decide +kernel
theorem dX7_about_24 : decode cX7_about 24 = .ok (.iload_n 2, 1) := by decide +kernel
theorem dX7_about_25 : decode cX7_about 25 = .ok (.invokevirtual 140, 3) := by decide +kernel
theorem dX7_about_28 : decode cX7_about 28 = .ok (.goto 5, 3) := by decide +kernel
theorem dX7_about_31 : decode cX7_about 31 = .ok (.bipush (-102), 2) := by decide +kernel
theorem dX7_about_33 : decode cX7_about 33 = .ok (.ireturn, 1) := by decide +kernel
set_option maxRecDepth 20000 in
theorem ggX7_as_X7_isCourtier : GoodIn wsX7_as wsX7_isCourtier := goodIn_r _ [6, 7, 8, 9, 5, 10, 11, 12, 13, 14, 15, 16, 17, 18, 19, 20, 21, 22, 23, 24, 25, 26, 27, 28, 29, 30, 31, 32, 33, 34, 35, 36, 37, 38, 39, 40, 41] (by decide +kernel) (by decide +kernel)
set_option maxRecDepth 20000 in
theorem gX7_as_X7_isCourtier : GoodIn wsX7_as (wsV RX7 137 RX7 yX7_isCourtier wsX7_isCourtier) := goodIn_app (goodIn_of _ (by decide +kernel)) ggX7_as_X7_isCourtier
set_option maxRecDepth 20000 in
theorem ggX7_as_X7_within : GoodIn wsX7_as wsX7_within := goodIn_r _ [10] (by decide +kernel) (by decide +kernel)
set_option maxRecDepth 20000 in
theorem gX7_as_X7_within : GoodIn wsX7_as (va_wsS RX7 57 yX7_within wsX7_within) := goodIn_app (goodIn_of _ (by decide +kernel)) ggX7_as_X7_within
theorem dX7_as_0 : decode cX7_as 0 = .ok (.aload_n 0, 1) := by decide +kernel
theorem dX7_as_1 : decode cX7_as 1 = .ok (.iload_n 1, 1) := by decide +kernel
theorem dX7_as_2 : decode cX7_as 2 = .ok (.invokevirtual 137, 3) := by decide +kernel
theorem dX7_as_5 : decode cX7_as 5 = .ok (.ifCond .ne 6, 3) := by decide +kernel
theorem dX7_as_8 : decode cX7_as 8 = .ok (.bipush (-101), 2) := by decide +kernel
theorem dX7_as_10 : decode cX7_as 10 = .ok (.ireturn, 1) := by decide +kernel
theorem dX7_as_11 : decode cX7_as 11 = .ok (.iload_n 2, 1) := by decide +kernel
theorem dX7_as_12 : decode cX7_as 12 = .ok (.iconst 0, 1) := by decide +kernel
theorem dX7_as_13 : decode cX7_as 13 = .ok (.iconst 4, 1) := by decide +kernel
theorem dX7_as_14 : decode cX7_as 14 = .ok (.invokestatic 57, 3) := by decide +kernel
theorem dX7_as_17 : decode cX7_as 17 = .ok (.ifCond .ne 6, 3) := by decide +kernel
theorem dX7_as_20 : decode cX7_as 20 = .ok (.bipush (-102), 2) := by decide +kernel
theorem dX7_as_22 : decode cX7_as 22 = .ok (.ireturn, 1) := by decide +kernel
theorem dX7_as_23 : decode cX7_as 23 = .ok (.aload_n 0, 1) := by decide +kernel
theorem dX7_as_24 : decode cX7_as 24 = .ok (.getfield 16, 3) := by decide +kernel
theorem dX7_as_27 : decode cX7_as 27 = .ok (.iload_n 1, 1) := by decide +kernel
theorem dX7_as_28 : decode cX7_as 28 = .ok (.iaload, 1) := by decide +kernel
theorem dX7_as_29 : decode cX7_as 29 = .ok (.istore_n 3, 1) := by decide +kernel
theorem dX7_as_30 : decode cX7_as 30 = .ok (.iload_n 2, 1) := by decide +kernel
theorem dX7_as_31 : decode cX7_as 31 = .ok (.ifCond .eq 18, 3) := by decide +kernel
theorem dX7_as_34 : decode cX7_as 34 = .ok (.iload_n 3, 1) := by decide +kernel
theorem dX7_as_35 : decode cX7_as 35 = .ok (.iload_n 2, 1) := by decide +kernel
theorem dX7_as_36 : decode cX7_as 36 = .ok (.if_icmp .eq 13, 3) := by decide +kernel
theorem dX7_as_39 : decode cX7_as 39 = .ok (.iload_n 2, 1) := by decide +kernel
theorem dX7_as_40 : decode cX7_as 40 = .ok (.iconst 3, 1) := by decide +kernel
theorem dX7_as_41 : decode cX7_as 41 = .ok (.if_icmp .ne 12, 3) := by decide +kernel
theorem dX7_as_44 : decode cX7_as 44 = .ok (.iload_n 3, 1) := by decide +kernel
theorem dX7_as_45 : decode cX7_as 45 = .ok (.iconst 4, 1) := by decide +kernel
theorem dX7_as_46 : decode cX7_as 46 = .ok (.if_icmp .ne 7, 3) := by decide +kernel
theorem dX7_as_49 : decode cX7_as 49 = .ok (.iload_n 1, 1) := by decide +kernel
theorem dX7_as_50 : decode cX7_as 50 = .ok (.goto 4, 3) := by decide +kernel
theorem dX7_as_53 : decode cX7_as 53 = .ok (.iconst (-1), 1) := by decide +kernel
theorem dX7_as_54 : decode cX7_as 54 = .ok (.ireturn, 1) := by decide +kernel
set_option maxRecDepth 20000 in
theorem ggX7_go_X7_isCourtier : GoodIn wsX7_go wsX7_isCourtier := goodIn_r _ [6, 7, 8, 9, 5, 10, 27, 28, 29, 30, 31, 32, 33, 34, 35, 36, 37, 38, 39, 40, 41, 42, 43, 44, 45, 46, 47, 48, 49, 50, 51, 52, 53, 54, 55, 56, 57] (by decide +kernel) (by decide +kernel)
set_option maxRecDepth 20000 in
theorem gX7_go_X7_isCourtier : GoodIn wsX7_go (wsV RX7 137 RX7 yX7_isCourtier wsX7_isCourtier) := goodIn_app (goodIn_of _ (by decide +kernel)) ggX7_go_X7_isCourtier
set_option maxRecDepth 20000 in
theorem ggX7_go_X7_isPlace : GoodIn wsX7_go wsX7_isPlace := goodIn_r _ [13, 8, 9, 5, 10] (by decide +kernel) (by decide +kernel)
set_option maxRecDepth 20000 in
theorem gX7_go_X7_isPlace : GoodIn wsX7_go (va_wsS RX7 100 yX7_isPlace wsX7_isPlace) := goodIn_app (goodIn_of _ (by decide +kernel)) ggX7_go_X7_isPlace
theorem dX7_go_0 : decode cX7_go 0 = .ok (.aload_n 0, 1) := by decide +kernel
theorem dX7_go_1 : decode cX7_go 1 = .ok (.iload_n 1, 1) := by decide +kernel
theorem dX7_go_2 : decode cX7_go 2 = .ok (.invokevirtual 137, 3) := by decide +kernel
theorem dX7_go_5 : decode cX7_go 5 = .ok (.ifCond .eq 10, 3) := by decide +kernel
theorem dX7_go_8 : decode cX7_go 8 = .ok (.iload_n 2, 1) := by decide +kernel
theorem dX7_go_9 : decode cX7_go 9 = .ok (.invokestatic 100, 3) := by decide +kernel
theorem dX7_go_12 : decode cX7_go 12 = .ok (.ifCond .ne 6, 3) := by decide +kernel
theorem dX7_go_15 : decode cX7_go 15 = .ok (.bipush (-101), 2) := by decide +kernel
theorem dX7_go_17 : decode cX7_go 17 = .ok (.ireturn, 1) := by decide +kernel
theorem dX7_go_18 : decode cX7_go 18 = .ok (.aload_n 0, 1) := by decide +kernel
theorem dX7_go_19 : decode cX7_go 19 = .ok (.iload_n 2, 1) := by decide +kernel
theorem dX7_go_20 : decode cX7_go 20 = .ok (.invokevirtual 107, 3) := by decide +kernel
theorem dX7_go_23 : decode cX7_go 23 = .ok (.ifCond .ne 6, 3) := by decide +kernel
theorem dX7_go_26 : decode cX7_go 26 = .ok (.bipush (-103), 2) := by decide +kernel
theorem dX7_go_28 : decode cX7_go 28 = .ok (.ireturn, 1) := by decide +kernel
theorem dX7_go_29 : decode cX7_go 29 = .ok (.aload_n 0, 1) := by decide +kernel
theorem dX7_go_30 : decode cX7_go 30 = .ok (.getfield 20, 3) := by decide +kernel
theorem dX7_go_33 : decode cX7_go 33 = .ok (.iload_n 1, 1) := by decide +kernel
theorem dX7_go_34 : decode cX7_go 34 = .ok (.iaload, 1) := by decide +kernel
theorem dX7_go_35 : decode cX7_go 35 = .ok (.istore_n 3, 1) := by decide +kernel
theorem dX7_go_36 : decode cX7_go 36 = .ok (.aload_n 0, 1) := by decide +kernel
theorem dX7_go_37 : decode cX7_go 37 = .ok (.getfield 20, 3) := by decide +kernel
theorem dX7_go_40 : decode cX7_go 40 = .ok (.iload_n 1, 1) := by decide +kernel
theorem dX7_go_41 : decode cX7_go 41 = .ok (.iload_n 2, 1) := by decide +kernel
theorem dX7_go_42 : decode cX7_go 42 = .ok (.iastore, 1) := by decide +kernel
theorem dX7_go_43 : decode cX7_go 43 = .ok (.iload_n 3, 1) := by decide +kernel
theorem dX7_go_44 : decode cX7_go 44 = .ok (.ireturn, 1) := by decide +kernel
set_option maxRecDepth 20000 in
theorem ggX7_act_X7_within : GoodIn wsX7_act wsX7_within := goodIn_r _ [9] (by decide +kernel) (by decide +kernel)
set_option maxRecDepth 20000 in
theorem gX7_act_X7_within : GoodIn wsX7_act (va_wsS RX7 57 yX7_within wsX7_within) := goodIn_app (goodIn_of _ (by decide +kernel)) ggX7_act_X7_within
set_option maxRecDepth 20000 in
theorem ggX7_act_X7_guiltySet : GoodIn wsX7_act wsX7_guiltySet := goodIn_r _ [59, 3, 60, 61, 62, 8, 63, 39, 35, 36, 37, 38, 1, 30, 14, 40, 41, 42, 43, 44, 45, 46, 47, 48, 49, 50, 51, 52, 53, 54, 55, 22, 23, 24, 25, 26, 27, 28, 29, 67, 68, 69, 70, 71, 72, 73, 74, 75, 76, 77, 78, 79, 80, 81, 82, 83, 84, 85, 86, 87, 88, 89, 90, 91, 92, 93, 94, 95, 96, 97] (by decide +kernel) (by decide +kernel)
set_option maxRecDepth 20000 in
theorem gX7_act_X7_guiltySet : GoodIn wsX7_act (wsV RX7 153 RX7 yX7_guiltySet wsX7_guiltySet) := goodIn_app (goodIn_of _ (by decide +kernel)) ggX7_act_X7_guiltySet
set_option maxRecDepth 20000 in
theorem ggX7_act_X7_size : GoodIn wsX7_act wsX7_size := goodIn_r _ [66] (by decide +kernel) (by decide +kernel)
set_option maxRecDepth 20000 in
theorem gX7_act_X7_size : GoodIn wsX7_act (va_wsS RX7 89 yX7_size wsX7_size) := goodIn_app (goodIn_of _ (by decide +kernel)) ggX7_act_X7_size
theorem dX7_act_0 : decode cX7_act 0 = .ok (.iload_n 1, 1) := by decide +kernel
theorem dX7_act_1 : decode cX7_act 1 = .ok (.iconst 0, 1) := by decide +kernel
theorem dX7_act_2 : decode cX7_act 2 = .ok (.iconst 2, 1) := by decide +kernel
theorem dX7_act_3 : decode cX7_act 3 = .ok (.invokestatic 57, 3) := by decide +kernel
theorem dX7_act_6 : decode cX7_act 6 = .ok (.ifCond .ne 6, 3) := by decide +kernel
theorem dX7_act_9 : decode cX7_act 9 = .ok (.bipush (-102), 2) := by decide +kernel
theorem dX7_act_11 : decode cX7_act 11 = .ok (.ireturn, 1) := by decide +kernel
theorem dX7_act_12 : decode cX7_act 12 = .ok (.aload_n 0, 1) := by decide +kernel
theorem dX7_act_13 : decode cX7_act 13 = .ok (.getfield 7, 3) := by decide +kernel
theorem dX7_act_16 : decode cX7_act 16 = .ok (.iconst (-1), 1) := by decide +kernel
theorem dX7_act_17 : decode cX7_act 17 = .ok (.if_icmp .eq 11, 3) := by decide +kernel
theorem dX7_act_20 : decode cX7_act 20 = .ok (.aload_n 0, 1) := by decide +kernel
theorem dX7_act_21 : decode cX7_act 21 = .ok (.iload_n 1, 1) := by decide +kernel
theorem dX7_act_22 : decode cX7_act 22 = .ok (.invokevirtual 146, 3) := by decide +kernel
theorem dX7_act_25 : decode cX7_act 25 = .ok (.ifCond .ne 6, 3) := by decide +kernel
theorem dX7_act_28 : decode cX7_act 28 = .ok (.bipush (-103), 2) := by decide +kernel
theorem dX7_act_30 : decode cX7_act 30 = .ok (.ireturn, 1) := by decide +kernel
theorem dX7_act_31 : decode cX7_act 31 = .ok (.aload_n 0, 1) := by decide +kernel
theorem dX7_act_32 : decode cX7_act 32 = .ok (.iload_n 1, 1) := by decide +kernel
theorem dX7_act_33 : decode cX7_act 33 = .ok (.invokevirtual 149, 3) := by decide +kernel
theorem dX7_act_36 : decode cX7_act 36 = .ok (.aload_n 0, 1) := by decide +kernel
theorem dX7_act_37 : decode cX7_act 37 = .ok (.dup, 1) := by decide +kernel
theorem dX7_act_38 : decode cX7_act 38 = .ok (.getfield 83, 3) := by decide +kernel
theorem dX7_act_41 : decode cX7_act 41 = .ok (.iconst 1, 1) := by decide +kernel
theorem dX7_act_42 : decode cX7_act 42 = .ok (.iadd, 1) := by decide +kernel
theorem dX7_act_43 : decode cX7_act 43 = .ok (.putfield 83, 3) := by decide +kernel
theorem dX7_act_46 : decode cX7_act 46 = .ok (.iconst 0, 1) := by decide +kernel
theorem dX7_act_47 : decode cX7_act 47 = .ok (.istore_n 2, 1) := by decide +kernel
theorem dX7_act_48 : decode cX7_act 48 = .ok (.iload_n 2, 1) := by decide +kernel
theorem dX7_act_49 : decode cX7_act 49 = .ok (.aload_n 0, 1) := by decide +kernel
theorem dX7_act_50 : decode cX7_act 50 = .ok (.getfield 86, 3) := by decide +kernel
theorem dX7_act_53 : decode cX7_act 53 = .ok (.if_icmp .ge 63, 3) := by decide +kernel
theorem dX7_act_56 : decode cX7_act 56 = .ok (.aload_n 0, 1) := by decide +kernel
theorem dX7_act_57 : decode cX7_act 57 = .ok (.iload_n 2, 1) := by decide +kernel
theorem dX7_act_58 : decode cX7_act 58 = .ok (.invokevirtual 131, 3) := by decide +kernel
theorem dX7_act_61 : decode cX7_act 61 = .ok (.istore_n 3, 1) := by decide +kernel
theorem dX7_act_62 : decode cX7_act 62 = .ok (.aload_n 0, 1) := by decide +kernel
theorem dX7_act_63 : decode cX7_act 63 = .ok (.getfield 23, 3) := by decide +kernel
theorem dX7_act_66 : decode cX7_act 66 = .ok (.iload_n 2, 1) := by decide +kernel
theorem dX7_act_67 : decode cX7_act 67 = .ok (.dup2, 1) := by decide +kernel
theorem dX7_act_68 : decode cX7_act 68 = .ok (.iaload, 1) := by decide +kernel
theorem dX7_act_69 : decode cX7_act 69 = .ok (.iload_n 3, 1) := by decide +kernel
theorem dX7_act_70 : decode cX7_act 70 = .ok (.iconst 1, 1) := by decide +kernel
theorem dX7_act_71 : decode cX7_act 71 = .ok (.if_icmp .eq 8, 3) := by decide +kernel
theorem dX7_act_74 : decode cX7_act 74 = .ok (.iload_n 3, 1) := by decide +kernel
theorem dX7_act_75 : decode cX7_act 75 = .ok (.iconst 3, 1) := by decide +kernel
theorem dX7_act_76 : decode cX7_act 76 = .ok (.if_icmp .ne 7, 3) := by decide +kernel
theorem dX7_act_79 : decode cX7_act 79 = .ok (.iconst 1, 1) := by decide +kernel
theorem dX7_act_80 : decode cX7_act 80 = .ok (.goto 4, 3) := by decide +kernel
theorem dX7_act_83 : decode cX7_act 83 = .ok (.iconst 0, 1) := by decide +kernel
theorem dX7_act_84 : decode cX7_act 84 = .ok (.iadd, 1) := by decide +kernel
theorem dX7_act_85 : decode cX7_act 85 = .ok (.iastore, 1) := by decide +kernel
theorem dX7_act_86 : decode cX7_act 86 = .ok (.aload_n 0, 1) := by decide +kernel
theorem dX7_act_87 : decode cX7_act 87 = .ok (.getfield 26, 3) := by decide +kernel
theorem dX7_act_90 : decode cX7_act 90 = .ok (.iload_n 2, 1) := by decide +kernel
theorem dX7_act_91 : decode cX7_act 91 = .ok (.dup2, 1) := by decide +kernel
theorem dX7_act_92 : decode cX7_act 92 = .ok (.iaload, 1) := by decide +kernel
theorem dX7_act_93 : decode cX7_act 93 = .ok (.iload_n 3, 1) := by decide +kernel
theorem dX7_act_94 : decode cX7_act 94 = .ok (.iconst 2, 1) := by decide +kernel
theorem dX7_act_95 : decode cX7_act 95 = .ok (.if_icmp .eq 8, 3) := by decide +kernel
theorem dX7_act_98 : decode cX7_act 98 = .ok (.iload_n 3, 1) := by decide +kernel
theorem dX7_act_99 : decode cX7_act 99 = .ok (.iconst 3, 1) := by decide +kernel
theorem dX7_act_100 : decode cX7_act 100 = .ok (.if_icmp .ne 7, 3) := by decide +kernel
theorem dX7_act_103 : decode cX7_act 103 = .ok (.iconst 1, 1) := by decide +kernel
theorem dX7_act_104 : decode cX7_act 104 = .ok (.goto 4, 3) := by decide +kernel
theorem dX7_act_107 : decode cX7_act 107 = .ok (.iconst 0, 1) := by decide +kernel
theorem dX7_act_108 : decode cX7_act 108 = .ok (.iadd, 1) := by decide +kernel
theorem dX7_act_109 : decode cX7_act 109 = .ok (.iastore, 1) := by decide +kernel
theorem dX7_act_110 : decode cX7_act 110 = .ok (.iinc 2 1, 3) := by decide +kernel
theorem dX7_act_113 : decode cX7_act 113 = .ok (.goto (-65), 3) := by decide +kernel
theorem dX7_act_116 : decode cX7_act 116 = .ok (.aload_n 0, 1) := by decide +kernel
theorem dX7_act_117 : decode cX7_act 117 = .ok (.invokevirtual 153, 3) := by decide +kernel
theorem dX7_act_120 : decode cX7_act 120 = .ok (.invokestatic 89, 3) := by decide +kernel
theorem dX7_act_123 : decode cX7_act 123 = .ok (.ireturn, 1) := by decide +kernel
set_option maxRecDepth 20000 in
theorem ggX7_guilty_X7_guiltySet : GoodIn wsX7_guilty wsX7_guiltySet := goodIn_r _ [5, 6, 7, 8, 9, 4, 10, 11, 12, 13, 14, 15, 16, 17, 18, 19, 20, 21, 22, 23, 24, 25, 26, 27, 28, 29, 30, 31, 32, 33, 34, 35, 36, 37, 38, 39, 40, 41, 42, 43, 44, 45, 46, 47, 48, 49, 50, 51, 52, 53, 54, 55, 56, 57, 58, 59, 60, 61, 62, 63, 64, 65, 66, 67, 68, 69, 70, 71, 72, 73] (by decide +kernel) (by decide +kernel)
set_option maxRecDepth 20000 in
theorem gX7_guilty_X7_guiltySet : GoodIn wsX7_guilty (wsV RX7 153 RX7 yX7_guiltySet wsX7_guiltySet) := goodIn_app (goodIn_of _ (by decide +kernel)) ggX7_guilty_X7_guiltySet
theorem dX7_guilty_0 : decode cX7_guilty 0 = .ok (.aload_n 0, 1) := by decide +kernel
theorem dX7_guilty_1 : decode cX7_guilty 1 = .ok (.invokevirtual 153, 3) := by decide +kernel
theorem dX7_guilty_4 : decode cX7_guilty 4 = .ok (.ireturn, 1) := by decide +kernel
set_option maxRecDepth 20000 in
theorem ggX7_room_X7_within : GoodIn wsX7_room wsX7_within := goodIn_r _ [5] (by decide +kernel) (by decide +kernel)
set_option maxRecDepth 20000 in
theorem gX7_room_X7_within : GoodIn wsX7_room (va_wsS RX7 57 yX7_within wsX7_within) := goodIn_app (goodIn_of _ (by decide +kernel)) ggX7_room_X7_within
theorem dX7_room_0 : decode cX7_room 0 = .ok (.iload_n 1, 1) := by decide +kernel
theorem dX7_room_1 : decode cX7_room 1 = .ok (.iconst 1, 1) := by decide +kernel
theorem dX7_room_2 : decode cX7_room 2 = .ok (.iconst 3, 1) := by decide +kernel
theorem dX7_room_3 : decode cX7_room 3 = .ok (.invokestatic 57, 3) := by decide +kernel
theorem dX7_room_6 : decode cX7_room 6 = .ok (.ifCond .eq 12, 3) := by decide +kernel
theorem dX7_room_9 : decode cX7_room 9 = .ok (.iload_n 2, 1) := by decide +kernel
theorem dX7_room_10 : decode cX7_room 10 = .ok (.iconst 0, 1) := by decide +kernel
theorem dX7_room_11 : decode cX7_room 11 = .ok (.iconst 2, 1) := by decide +kernel
theorem dX7_room_12 : decode cX7_room 12 = .ok (.invokestatic 57, 3) := by decide +kernel
theorem dX7_room_15 : decode cX7_room 15 = .ok (.ifCond .ne 6, 3) := by decide +kernel
theorem dX7_room_18 : decode cX7_room 18 = .ok (.bipush (-102), 2) := by decide +kernel
theorem dX7_room_20 : decode cX7_room 20 = .ok (.ireturn, 1) := by decide +kernel
theorem dX7_room_21 : decode cX7_room 21 = .ok (.aload_n 0, 1) := by decide +kernel
theorem dX7_room_22 : decode cX7_room 22 = .ok (.getfield 7, 3) := by decide +kernel
theorem dX7_room_25 : decode cX7_room 25 = .ok (.iconst (-1), 1) := by decide +kernel
theorem dX7_room_26 : decode cX7_room 26 = .ok (.if_icmp .ne 8, 3) := by decide +kernel
theorem dX7_room_29 : decode cX7_room 29 = .ok (.bipush (-103), 2) := by decide +kernel
theorem dX7_room_31 : decode cX7_room 31 = .ok (.goto 9, 3) := by decide +kernel
theorem dX7_room_34 : decode cX7_room 34 = .ok (.aload_n 0, 1) := by decide +kernel
theorem dX7_room_35 : decode cX7_room 35 = .ok (.iload_n 1, 1) := by decide +kernel
theorem dX7_room_36 : decode cX7_room 36 = .ok (.iload_n 2, 1) := by decide +kernel
theorem dX7_room_37 : decode cX7_room 37 = .ok (.invokevirtual 169, 3) := by decide +kernel
theorem dX7_room_40 : decode cX7_room 40 = .ok (.ireturn, 1) := by decide +kernel
set_option maxRecDepth 20000 in
theorem ggX7_brick_X7_within : GoodIn wsX7_brick wsX7_within := goodIn_r _ [5] (by decide +kernel) (by decide +kernel)
set_option maxRecDepth 20000 in
theorem gX7_brick_X7_within : GoodIn wsX7_brick (va_wsS RX7 57 yX7_within wsX7_within) := goodIn_app (goodIn_of _ (by decide +kernel)) ggX7_brick_X7_within
theorem dX7_brick_0 : decode cX7_brick 0 = .ok (.iload_n 1, 1) := by decide +kernel
theorem dX7_brick_1 : decode cX7_brick 1 = .ok (.iconst 0, 1) := by decide +kernel
theorem dX7_brick_2 : decode cX7_brick 2 = .ok (.iconst 1, 1) := by decide +kernel
theorem dX7_brick_3 : decode cX7_brick 3 = .ok (.invokestatic 57, 3) := by decide +kernel
theorem dX7_brick_6 : decode cX7_brick 6 = .ok (.ifCond .ne 6, 3) := by decide +kernel
theorem dX7_brick_9 : decode cX7_brick 9 = .ok (.bipush (-102), 2) := by decide +kernel
theorem dX7_brick_11 : decode cX7_brick 11 = .ok (.ireturn, 1) := by decide +kernel
theorem dX7_brick_12 : decode cX7_brick 12 = .ok (.aload_n 0, 1) := by decide +kernel
theorem dX7_brick_13 : decode cX7_brick 13 = .ok (.getfield 7, 3) := by decide +kernel
theorem dX7_brick_16 : decode cX7_brick 16 = .ok (.iconst (-1), 1) := by decide +kernel
theorem dX7_brick_17 : decode cX7_brick 17 = .ok (.if_icmp .ne 8, 3) := by decide +kernel
theorem dX7_brick_20 : decode cX7_brick 20 = .ok (.bipush (-103), 2) := by decide +kernel
theorem dX7_brick_22 : decode cX7_brick 22 = .ok (.goto 8, 3) := by decide +kernel
theorem dX7_brick_25 : decode cX7_brick 25 = .ok (.aload_n 0, 1) := by decide +kernel
theorem dX7_brick_26 : decode cX7_brick 26 = .ok (.iload_n 1, 1) := by decide +kernel
theorem dX7_brick_27 : decode cX7_brick 27 = .ok (.invokevirtual 172, 3) := by decide +kernel
theorem dX7_brick_30 : decode cX7_brick 30 = .ok (.ireturn, 1) := by decide +kernel
set_option maxRecDepth 20000 in
theorem ggX7_way_X7_isPlace : GoodIn wsX7_way wsX7_isPlace := goodIn_r _ [5, 6, 7, 4, 8] (by decide +kernel) (by decide +kernel)
set_option maxRecDepth 20000 in
theorem gX7_way_X7_isPlace : GoodIn wsX7_way (va_wsS RX7 100 yX7_isPlace wsX7_isPlace) := goodIn_app (goodIn_of _ (by decide +kernel)) ggX7_way_X7_isPlace
set_option maxRecDepth 20000 in
theorem ggX7_way_X7_within : GoodIn wsX7_way wsX7_within := goodIn_r _ [8] (by decide +kernel) (by decide +kernel)
set_option maxRecDepth 20000 in
theorem gX7_way_X7_within : GoodIn wsX7_way (va_wsS RX7 57 yX7_within wsX7_within) := goodIn_app (goodIn_of _ (by decide +kernel)) ggX7_way_X7_within
theorem dX7_way_0 : decode cX7_way 0 = .ok (.iload_n 1, 1) := by decide +kernel
theorem dX7_way_1 : decode cX7_way 1 = .ok (.invokestatic 100, 3) := by decide +kernel
theorem dX7_way_4 : decode cX7_way 4 = .ok (.ifCond .ne 6, 3) := by decide +kernel
theorem dX7_way_7 : decode cX7_way 7 = .ok (.bipush (-101), 2) := by decide +kernel
theorem dX7_way_9 : decode cX7_way 9 = .ok (.ireturn, 1) := by decide +kernel
theorem dX7_way_10 : decode cX7_way 10 = .ok (.iload_n 2, 1) := by decide +kernel
theorem dX7_way_11 : decode cX7_way 11 = .ok (.iconst 0, 1) := by decide +kernel
theorem dX7_way_12 : decode cX7_way 12 = .ok (.iconst 1, 1) := by decide +kernel
theorem dX7_way_13 : decode cX7_way 13 = .ok (.invokestatic 57, 3) := by decide +kernel
theorem dX7_way_16 : decode cX7_way 16 = .ok (.ifCond .ne 6, 3) := by decide +kernel
theorem dX7_way_19 : decode cX7_way 19 = .ok (.bipush (-102), 2) := by decide +kernel
theorem dX7_way_21 : decode cX7_way 21 = .ok (.ireturn, 1) := by decide +kernel
theorem dX7_way_22 : decode cX7_way 22 = .ok (.aload_n 0, 1) := by decide +kernel
theorem dX7_way_23 : decode cX7_way 23 = .ok (.getfield 7, 3) := by decide +kernel
theorem dX7_way_26 : decode cX7_way 26 = .ok (.iconst (-1), 1) := by decide +kernel
theorem dX7_way_27 : decode cX7_way 27 = .ok (.if_icmp .ne 8, 3) := by decide +kernel
theorem dX7_way_30 : decode cX7_way 30 = .ok (.bipush (-103), 2) := by decide +kernel
theorem dX7_way_32 : decode cX7_way 32 = .ok (.goto 9, 3) := by decide +kernel
theorem dX7_way_35 : decode cX7_way 35 = .ok (.aload_n 0, 1) := by decide +kernel
theorem dX7_way_36 : decode cX7_way 36 = .ok (.iload_n 1, 1) := by decide +kernel
theorem dX7_way_37 : decode cX7_way 37 = .ok (.iload_n 2, 1) := by decide +kernel
theorem dX7_way_38 : decode cX7_way 38 = .ok (.invokevirtual 178, 3) := by decide +kernel
theorem dX7_way_41 : decode cX7_way 41 = .ok (.ireturn, 1) := by decide +kernel
set_option maxRecDepth 20000 in
theorem ggX7_told_X7_isCourtier : GoodIn wsX7_told wsX7_isCourtier := goodIn_r _ [6, 7, 8, 9, 5, 10, 11, 12, 13, 14, 15, 16, 17, 18, 19, 20, 21, 22, 23, 24, 25, 26, 27, 28, 29, 30, 31, 32, 33, 34, 35, 36, 37, 38, 39, 40, 41] (by decide +kernel) (by decide +kernel)
set_option maxRecDepth 20000 in
theorem gX7_told_X7_isCourtier : GoodIn wsX7_told (wsV RX7 137 RX7 yX7_isCourtier wsX7_isCourtier) := goodIn_app (goodIn_of _ (by decide +kernel)) ggX7_told_X7_isCourtier
set_option maxRecDepth 20000 in
theorem ggX7_told_X7_within : GoodIn wsX7_told wsX7_within := goodIn_r _ [10] (by decide +kernel) (by decide +kernel)
set_option maxRecDepth 20000 in
theorem gX7_told_X7_within : GoodIn wsX7_told (va_wsS RX7 57 yX7_within wsX7_within) := goodIn_app (goodIn_of _ (by decide +kernel)) ggX7_told_X7_within
theorem dX7_told_0 : decode cX7_told 0 = .ok (.aload_n 0, 1) := by decide +kernel
theorem dX7_told_1 : decode cX7_told 1 = .ok (.iload_n 1, 1) := by decide +kernel
theorem dX7_told_2 : decode cX7_told 2 = .ok (.invokevirtual 137, 3) := by decide +kernel
theorem dX7_told_5 : decode cX7_told 5 = .ok (.ifCond .ne 6, 3) := by decide +kernel
theorem dX7_told_8 : decode cX7_told 8 = .ok (.bipush (-101), 2) := by decide +kernel
theorem dX7_told_10 : decode cX7_told 10 = .ok (.ireturn, 1) := by decide +kernel
theorem dX7_told_11 : decode cX7_told 11 = .ok (.iload_n 2, 1) := by decide +kernel
theorem dX7_told_12 : decode cX7_told 12 = .ok (.iconst (-1), 1) := by decide +kernel
theorem dX7_told_13 : decode cX7_told 13 = .ok (.iconst 4, 1) := by decide +kernel
theorem dX7_told_14 : decode cX7_told 14 = .ok (.invokestatic 57, 3) := by decide +kernel
theorem dX7_told_17 : decode cX7_told 17 = .ok (.ifCond .ne 6, 3) := by decide +kernel
theorem dX7_told_20 : decode cX7_told 20 = .ok (.bipush (-102), 2) := by decide +kernel
theorem dX7_told_22 : decode cX7_told 22 = .ok (.ireturn, 1) := by decide +kernel
theorem dX7_told_23 : decode cX7_told 23 = .ok (.aload_n 0, 1) := by decide +kernel
theorem dX7_told_24 : decode cX7_told 24 = .ok (.getfield 29, 3) := by decide +kernel
theorem dX7_told_27 : decode cX7_told 27 = .ok (.iload_n 1, 1) := by decide +kernel
theorem dX7_told_28 : decode cX7_told 28 = .ok (.iaload, 1) := by decide +kernel
theorem dX7_told_29 : decode cX7_told 29 = .ok (.istore_n 3, 1) := by decide +kernel
theorem dX7_told_30 : decode cX7_told 30 = .ok (.aload_n 0, 1) := by decide +kernel
theorem dX7_told_31 : decode cX7_told 31 = .ok (.getfield 29, 3) := by decide +kernel
theorem dX7_told_34 : decode cX7_told 34 = .ok (.iload_n 1, 1) := by decide +kernel
theorem dX7_told_35 : decode cX7_told 35 = .ok (.iload_n 2, 1) := by decide +kernel
theorem dX7_told_36 : decode cX7_told 36 = .ok (.iastore, 1) := by decide +kernel
theorem dX7_told_37 : decode cX7_told 37 = .ok (.iload_n 3, 1) := by decide +kernel
theorem dX7_told_38 : decode cX7_told 38 = .ok (.ireturn, 1) := by decide +kernel
set_option maxRecDepth 20000 in
theorem ggX7_stood_X7_within : GoodIn wsX7_stood wsX7_within := goodIn_r _ [5] (by decide +kernel) (by decide +kernel)
set_option maxRecDepth 20000 in
theorem gX7_stood_X7_within : GoodIn wsX7_stood (va_wsS RX7 57 yX7_within wsX7_within) := goodIn_app (goodIn_of _ (by decide +kernel)) ggX7_stood_X7_within
theorem dX7_stood_0 : decode cX7_stood 0 = .ok (.iload_n 1, 1) := by decide +kernel
theorem dX7_stood_1 : decode cX7_stood 1 = .ok (.iconst 0, 1) := by decide +kernel
theorem dX7_stood_2 : decode cX7_stood 2 = .ok (.iconst 2, 1) := by decide +kernel
theorem dX7_stood_3 : decode cX7_stood 3 = .ok (.invokestatic 57, 3) := by decide +kernel
theorem dX7_stood_6 : decode cX7_stood 6 = .ok (.ifCond .ne 6, 3) := by decide +kernel
theorem dX7_stood_9 : decode cX7_stood 9 = .ok (.bipush (-102), 2) := by decide +kernel
theorem dX7_stood_11 : decode cX7_stood 11 = .ok (.ireturn, 1) := by decide +kernel
theorem dX7_stood_12 : decode cX7_stood 12 = .ok (.aload_n 0, 1) := by decide +kernel
theorem dX7_stood_13 : decode cX7_stood 13 = .ok (.getfield 76, 3) := by decide +kernel
theorem dX7_stood_16 : decode cX7_stood 16 = .ok (.ifCond .eq 11, 3) := by decide +kernel
theorem dX7_stood_19 : decode cX7_stood 19 = .ok (.aload_n 0, 1) := by decide +kernel
theorem dX7_stood_20 : decode cX7_stood 20 = .ok (.iload_n 1, 1) := by decide +kernel
theorem dX7_stood_21 : decode cX7_stood 21 = .ok (.invokevirtual 188, 3) := by decide +kernel
theorem dX7_stood_24 : decode cX7_stood 24 = .ok (.goto 5, 3) := by decide +kernel
theorem dX7_stood_27 : decode cX7_stood 27 = .ok (.bipush (-103), 2) := by decide +kernel
theorem dX7_stood_29 : decode cX7_stood 29 = .ok (.ireturn, 1) := by decide +kernel
set_option maxRecDepth 20000 in
theorem ggX7_walk_X7_within : GoodIn wsX7_walk wsX7_within := goodIn_r _ [5] (by decide +kernel) (by decide +kernel)
set_option maxRecDepth 20000 in
theorem gX7_walk_X7_within : GoodIn wsX7_walk (va_wsS RX7 57 yX7_within wsX7_within) := goodIn_app (goodIn_of _ (by decide +kernel)) ggX7_walk_X7_within
theorem dX7_walk_0 : decode cX7_walk 0 = .ok (.iload_n 1, 1) := by decide +kernel
theorem dX7_walk_1 : decode cX7_walk 1 = .ok (.iconst 1, 1) := by decide +kernel
theorem dX7_walk_2 : decode cX7_walk 2 = .ok (.bipush 60, 2) := by decide +kernel
theorem dX7_walk_4 : decode cX7_walk 4 = .ok (.invokestatic 57, 3) := by decide +kernel
theorem dX7_walk_7 : decode cX7_walk 7 = .ok (.ifCond .eq 16, 3) := by decide +kernel
theorem dX7_walk_10 : decode cX7_walk 10 = .ok (.iload_n 2, 1) := by decide +kernel
theorem dX7_walk_11 : decode cX7_walk 11 = .ok (.ifCond .lt 12, 3) := by decide +kernel
theorem dX7_walk_14 : decode cX7_walk 14 = .ok (.iload_n 3, 1) := by decide +kernel
theorem dX7_walk_15 : decode cX7_walk 15 = .ok (.iconst 0, 1) := by decide +kernel
theorem dX7_walk_16 : decode cX7_walk 16 = .ok (.iconst 3, 1) := by decide +kernel
theorem dX7_walk_17 : decode cX7_walk 17 = .ok (.invokestatic 57, 3) := by decide +kernel
theorem dX7_walk_20 : decode cX7_walk 20 = .ok (.ifCond .ne 6, 3) := by decide +kernel
theorem dX7_walk_23 : decode cX7_walk 23 = .ok (.bipush (-102), 2) := by decide +kernel
theorem dX7_walk_25 : decode cX7_walk 25 = .ok (.ireturn, 1) := by decide +kernel
theorem dX7_walk_26 : decode cX7_walk 26 = .ok (.aload_n 0, 1) := by decide +kernel
theorem dX7_walk_27 : decode cX7_walk 27 = .ok (.getfield 7, 3) := by decide +kernel
theorem dX7_walk_30 : decode cX7_walk 30 = .ok (.iconst (-1), 1) := by decide +kernel
theorem dX7_walk_31 : decode cX7_walk 31 = .ok (.if_icmp .ne 8, 3) := by decide +kernel
theorem dX7_walk_34 : decode cX7_walk 34 = .ok (.bipush (-103), 2) := by decide +kernel
theorem dX7_walk_36 : decode cX7_walk 36 = .ok (.goto 10, 3) := by decide +kernel
theorem dX7_walk_39 : decode cX7_walk 39 = .ok (.aload_n 0, 1) := by decide +kernel
theorem dX7_walk_40 : decode cX7_walk 40 = .ok (.iload_n 1, 1) := by decide +kernel
theorem dX7_walk_41 : decode cX7_walk 41 = .ok (.iload_n 2, 1) := by decide +kernel
theorem dX7_walk_42 : decode cX7_walk 42 = .ok (.iload_n 3, 1) := by decide +kernel
theorem dX7_walk_43 : decode cX7_walk 43 = .ok (.invokevirtual 206, 3) := by decide +kernel
theorem dX7_walk_46 : decode cX7_walk 46 = .ok (.ireturn, 1) := by decide +kernel
theorem dX7_image_0 : decode cX7_image 0 = .ok (.aload_n 0, 1) := by decide +kernel
theorem dX7_image_1 : decode cX7_image 1 = .ok (.getfield 76, 3) := by decide +kernel
theorem dX7_image_4 : decode cX7_image 4 = .ok (.ifCond .ne 6, 3) := by decide +kernel
theorem dX7_image_7 : decode cX7_image 7 = .ok (.bipush (-103), 2) := by decide +kernel
theorem dX7_image_9 : decode cX7_image 9 = .ok (.ireturn, 1) := by decide +kernel
theorem dX7_image_10 : decode cX7_image 10 = .ok (.aload_n 0, 1) := by decide +kernel
theorem dX7_image_11 : decode cX7_image 11 = .ok (.iconst 1, 1) := by decide +kernel
theorem dX7_image_12 : decode cX7_image 12 = .ok (.putfield 210, 3) := by decide +kernel
theorem dX7_image_15 : decode cX7_image 15 = .ok (.aload_n 0, 1) := by decide +kernel
theorem dX7_image_16 : decode cX7_image 16 = .ok (.aload_n 0, 1) := by decide +kernel
theorem dX7_image_17 : decode cX7_image 17 = .ok (.getfield 80, 3) := by decide +kernel
theorem dX7_image_20 : decode cX7_image 20 = .ok (.putfield 213, 3) := by decide +kernel
theorem dX7_image_23 : decode cX7_image 23 = .ok (.aload_n 0, 1) := by decide +kernel
theorem dX7_image_24 : decode cX7_image 24 = .ok (.aload_n 0, 1) := by decide +kernel
theorem dX7_image_25 : decode cX7_image 25 = .ok (.getfield 86, 3) := by decide +kernel
theorem dX7_image_28 : decode cX7_image 28 = .ok (.putfield 216, 3) := by decide +kernel
theorem dX7_image_31 : decode cX7_image 31 = .ok (.aload_n 0, 1) := by decide +kernel
theorem dX7_image_32 : decode cX7_image 32 = .ok (.aload_n 0, 1) := by decide +kernel
theorem dX7_image_33 : decode cX7_image 33 = .ok (.getfield 7, 3) := by decide +kernel
theorem dX7_image_36 : decode cX7_image 36 = .ok (.putfield 219, 3) := by decide +kernel
theorem dX7_image_39 : decode cX7_image 39 = .ok (.aload_n 0, 1) := by decide +kernel
theorem dX7_image_40 : decode cX7_image 40 = .ok (.aload_n 0, 1) := by decide +kernel
theorem dX7_image_41 : decode cX7_image 41 = .ok (.getfield 13, 3) := by decide +kernel
theorem dX7_image_44 : decode cX7_image 44 = .ok (.putfield 222, 3) := by decide +kernel
theorem dX7_image_47 : decode cX7_image 47 = .ok (.aload_n 0, 1) := by decide +kernel
theorem dX7_image_48 : decode cX7_image 48 = .ok (.aload_n 0, 1) := by decide +kernel
theorem dX7_image_49 : decode cX7_image 49 = .ok (.getfield 83, 3) := by decide +kernel
theorem dX7_image_52 : decode cX7_image 52 = .ok (.putfield 225, 3) := by decide +kernel
theorem dX7_image_55 : decode cX7_image 55 = .ok (.iconst 0, 1) := by decide +kernel
theorem dX7_image_56 : decode cX7_image 56 = .ok (.istore_n 1, 1) := by decide +kernel
theorem dX7_image_57 : decode cX7_image 57 = .ok (.iload_n 1, 1) := by decide +kernel
theorem dX7_image_58 : decode cX7_image 58 = .ok (.bipush 6, 2) := by decide +kernel
theorem dX7_image_60 : decode cX7_image 60 = .ok (.if_icmp .ge 57, 3) := by decide +kernel
theorem dX7_image_63 : decode cX7_image 63 = .ok (.aload_n 0, 1) := by decide +kernel
theorem dX7_image_64 : decode cX7_image 64 = .ok (.getfield 45, 3) := by decide +kernel
theorem dX7_image_67 : decode cX7_image 67 = .ok (.iload_n 1, 1) := by decide +kernel
theorem dX7_image_68 : decode cX7_image 68 = .ok (.aload_n 0, 1) := by decide +kernel
theorem dX7_image_69 : decode cX7_image 69 = .ok (.getfield 20, 3) := by decide +kernel
theorem dX7_image_72 : decode cX7_image 72 = .ok (.iload_n 1, 1) := by decide +kernel
theorem dX7_image_73 : decode cX7_image 73 = .ok (.iaload, 1) := by decide +kernel
theorem dX7_image_74 : decode cX7_image 74 = .ok (.iastore, 1) := by decide +kernel
theorem dX7_image_75 : decode cX7_image 75 = .ok (.aload_n 0, 1) := by decide +kernel
theorem dX7_image_76 : decode cX7_image 76 = .ok (.getfield 48, 3) := by decide +kernel
theorem dX7_image_79 : decode cX7_image 79 = .ok (.iload_n 1, 1) := by decide +kernel
theorem dX7_image_80 : decode cX7_image 80 = .ok (.aload_n 0, 1) := by decide +kernel
theorem dX7_image_81 : decode cX7_image 81 = .ok (.getfield 23, 3) := by decide +kernel
theorem dX7_image_84 : decode cX7_image 84 = .ok (.iload_n 1, 1) := by decide +kernel
theorem dX7_image_85 : decode cX7_image 85 = .ok (.iaload, 1) := by decide +kernel
theorem dX7_image_86 : decode cX7_image 86 = .ok (.iastore, 1) := by decide +kernel
theorem dX7_image_87 : decode cX7_image 87 = .ok (.aload_n 0, 1) := by decide +kernel
theorem dX7_image_88 : decode cX7_image 88 = .ok (.getfield 51, 3) := by decide +kernel
theorem dX7_image_91 : decode cX7_image 91 = .ok (.iload_n 1, 1) := by decide +kernel
theorem dX7_image_92 : decode cX7_image 92 = .ok (.aload_n 0, 1) := by decide +kernel
theorem dX7_image_93 : decode cX7_image 93 = .ok (.getfield 26, 3) := by decide +kernel
theorem dX7_image_96 : decode cX7_image 96 = .ok (.iload_n 1, 1) := by decide +kernel
theorem dX7_image_97 : decode cX7_image 97 = .ok (.iaload, 1) := by decide +kernel
theorem dX7_image_98 : decode cX7_image 98 = .ok (.iastore, 1) := by decide +kernel
theorem dX7_image_99 : decode cX7_image 99 = .ok (.aload_n 0, 1) := by decide +kernel
theorem dX7_image_100 : decode cX7_image 100 = .ok (.getfield 54, 3) := by decide +kernel
theorem dX7_image_103 : decode cX7_image 103 = .ok (.iload_n 1, 1) := by decide +kernel
theorem dX7_image_104 : decode cX7_image 104 = .ok (.aload_n 0, 1) := by decide +kernel
theorem dX7_image_105 : decode cX7_image 105 = .ok (.getfield 29, 3) := by decide +kernel
theorem dX7_image_108 : decode cX7_image 108 = .ok (.iload_n 1, 1) := by decide +kernel
theorem dX7_image_109 : decode cX7_image 109 = .ok (.iaload, 1) := by decide +kernel
theorem dX7_image_110 : decode cX7_image 110 = .ok (.iastore, 1) := by decide +kernel
theorem dX7_image_111 : decode cX7_image 111 = .ok (.iinc 1 1, 3) := by decide +kernel
theorem dX7_image_114 : decode cX7_image 114 = .ok (.goto (-57), 3) := by decide +kernel
theorem dX7_image_117 : decode cX7_image 117 = .ok (.aload_n 0, 1) := by decide +kernel
theorem dX7_image_118 : decode cX7_image 118 = .ok (.getfield 86, 3) := by decide +kernel
theorem dX7_image_121 : decode cX7_image 121 = .ok (.ireturn, 1) := by decide +kernel
theorem dX7_restore_0 : decode cX7_restore 0 = .ok (.aload_n 0, 1) := by decide +kernel
theorem dX7_restore_1 : decode cX7_restore 1 = .ok (.getfield 210, 3) := by decide +kernel
theorem dX7_restore_4 : decode cX7_restore 4 = .ok (.ifCond .eq 14, 3) := by decide +kernel
theorem dX7_restore_7 : decode cX7_restore 7 = .ok (.aload_n 0, 1) := by decide +kernel
theorem dX7_restore_8 : decode cX7_restore 8 = .ok (.getfield 213, 3) := by decide +kernel
theorem dX7_restore_11 : decode cX7_restore 11 = .ok (.aload_n 0, 1) := by decide +kernel
theorem dX7_restore_12 : decode cX7_restore 12 = .ok (.getfield 80, 3) := by decide +kernel
theorem dX7_restore_15 : decode cX7_restore 15 = .ok (.if_icmp .eq 6, 3) := by decide +kernel
theorem dX7_restore_18 : decode cX7_restore 18 = .ok (.bipush (-103), 2) := by decide +kernel
theorem dX7_restore_20 : decode cX7_restore 20 = .ok (.ireturn, 1) := by decide +kernel
theorem dX7_restore_21 : decode cX7_restore 21 = .ok (.aload_n 0, 1) := by decide +kernel
theorem dX7_restore_22 : decode cX7_restore 22 = .ok (.aload_n 0, 1) := by decide +kernel
theorem dX7_restore_23 : decode cX7_restore 23 = .ok (.getfield 216, 3) := by decide +kernel
theorem dX7_restore_26 : decode cX7_restore 26 = .ok (.putfield 86, 3) := by decide +kernel
theorem dX7_restore_29 : decode cX7_restore 29 = .ok (.aload_n 0, 1) := by decide +kernel
theorem dX7_restore_30 : decode cX7_restore 30 = .ok (.aload_n 0, 1) := by decide +kernel
theorem dX7_restore_31 : decode cX7_restore 31 = .ok (.getfield 219, 3) := by decide +kernel
theorem dX7_restore_34 : decode cX7_restore 34 = .ok (.putfield 7, 3) := by decide +kernel
theorem dX7_restore_37 : decode cX7_restore 37 = .ok (.aload_n 0, 1) := by decide +kernel
theorem dX7_restore_38 : decode cX7_restore 38 = .ok (.aload_n 0, 1) := by decide +kernel
theorem dX7_restore_39 : decode cX7_restore 39 = .ok (.getfield 222, 3) := by decide +kernel
theorem dX7_restore_42 : decode cX7_restore 42 = .ok (.putfield 13, 3) := by decide +kernel
theorem dX7_restore_45 : decode cX7_restore 45 = .ok (.aload_n 0, 1) := by decide +kernel
theorem dX7_restore_46 : decode cX7_restore 46 = .ok (.aload_n 0, 1) := by decide +kernel
theorem dX7_restore_47 : decode cX7_restore 47 = .ok (.getfield 225, 3) := by decide +kernel
theorem dX7_restore_50 : decode cX7_restore 50 = .ok (.putfield 83, 3) := by decide +kernel
theorem dX7_restore_53 : decode cX7_restore 53 = .ok (.iconst 0, 1) := by decide +kernel
theorem dX7_restore_54 : decode cX7_restore 54 = .ok (.istore_n 1, 1) := by decide +kernel
theorem dX7_restore_55 : decode cX7_restore 55 = .ok (.iload_n 1, 1) := by decide +kernel
theorem dX7_restore_56 : decode cX7_restore 56 = .ok (.bipush 6, 2) := by decide +kernel
theorem dX7_restore_58 : decode cX7_restore 58 = .ok (.if_icmp .ge 57, 3) := by decide +kernel
theorem dX7_restore_61 : decode cX7_restore 61 = .ok (.aload_n 0, 1) := by decide +kernel
theorem dX7_restore_62 : decode cX7_restore 62 = .ok (.getfield 20, 3) := by decide +kernel
theorem dX7_restore_65 : decode cX7_restore 65 = .ok (.iload_n 1, 1) := by decide +kernel
theorem dX7_restore_66 : decode cX7_restore 66 = .ok (.aload_n 0, 1) := by decide +kernel
theorem dX7_restore_67 : decode cX7_restore 67 = .ok (.getfield 45, 3) := by decide +kernel
theorem dX7_restore_70 : decode cX7_restore 70 = .ok (.iload_n 1, 1) := by decide +kernel
theorem dX7_restore_71 : decode cX7_restore 71 = .ok (.iaload, 1) := by decide +kernel
theorem dX7_restore_72 : decode cX7_restore 72 = .ok (.iastore, 1) := by decide +kernel
theorem dX7_restore_73 : decode cX7_restore 73 = .ok (.aload_n 0, 1) := by decide +kernel
theorem dX7_restore_74 : decode cX7_restore 74 = .ok (.getfield 23, 3) := by decide +kernel
theorem dX7_restore_77 : decode cX7_restore 77 = .ok (.iload_n 1, 1) := by decide +kernel
theorem dX7_restore_78 : decode cX7_restore 78 = .ok (.aload_n 0, 1) := by decide +kernel
theorem dX7_restore_79 : decode cX7_restore 79 = .ok (.getfield 48, 3) := by decide +kernel
theorem dX7_restore_82 : decode cX7_restore 82 = .ok (.iload_n 1, 1) := by decide +kernel
theorem dX7_restore_83 : decode cX7_restore 83 = .ok (.iaload, 1) := by decide +kernel
theorem dX7_restore_84 : decode cX7_restore 84 = .ok (.iastore, 1) := by decide +kernel
theorem dX7_restore_85 : decode cX7_restore 85 = .ok (.aload_n 0, 1) := by decide +kernel
theorem dX7_restore_86 : decode cX7_restore 86 = .ok (.getfield 26, 3) := by decide +kernel
theorem dX7_restore_89 : decode cX7_restore 89 = .ok (.iload_n 1, 1) := by decide +kernel
theorem dX7_restore_90 : decode cX7_restore 90 = .ok (.aload_n 0, 1) := by decide +kernel
theorem dX7_restore_91 : decode cX7_restore 91 = .ok (.getfield 51, 3) := by decide +kernel
theorem dX7_restore_94 : decode cX7_restore 94 = .ok (.iload_n 1, 1) := by decide +kernel
theorem dX7_restore_95 : decode cX7_restore 95 = .ok (.iaload, 1) := by decide +kernel
theorem dX7_restore_96 : decode cX7_restore 96 = .ok (.iastore, 1) := by decide +kernel
theorem dX7_restore_97 : decode cX7_restore 97 = .ok (.aload_n 0, 1) := by decide +kernel
theorem dX7_restore_98 : decode cX7_restore 98 = .ok (.getfield 29, 3) := by decide +kernel
theorem dX7_restore_101 : decode cX7_restore 101 = .ok (.iload_n 1, 1) := by decide +kernel
theorem dX7_restore_102 : decode cX7_restore 102 = .ok (.aload_n 0, 1) := by decide +kernel
theorem dX7_restore_103 : decode cX7_restore 103 = .ok (.getfield 54, 3) := by decide +kernel
theorem dX7_restore_106 : decode cX7_restore 106 = .ok (.iload_n 1, 1) := by decide +kernel
theorem dX7_restore_107 : decode cX7_restore 107 = .ok (.iaload, 1) := by decide +kernel
theorem dX7_restore_108 : decode cX7_restore 108 = .ok (.iastore, 1) := by decide +kernel
theorem dX7_restore_109 : decode cX7_restore 109 = .ok (.iinc 1 1, 3) := by decide +kernel
theorem dX7_restore_112 : decode cX7_restore 112 = .ok (.goto (-57), 3) := by decide +kernel
theorem dX7_restore_115 : decode cX7_restore 115 = .ok (.aload_n 0, 1) := by decide +kernel
theorem dX7_restore_116 : decode cX7_restore 116 = .ok (.getfield 86, 3) := by decide +kernel
theorem dX7_restore_119 : decode cX7_restore 119 = .ok (.ireturn, 1) := by decide +kernel
theorem dX7_toldMany_0 : decode cX7_toldMany 0 = .ok (.iconst 0, 1) := by decide +kernel
theorem dX7_toldMany_1 : decode cX7_toldMany 1 = .ok (.istore_n 1, 1) := by decide +kernel
theorem dX7_toldMany_2 : decode cX7_toldMany 2 = .ok (.iconst 0, 1) := by decide +kernel
theorem dX7_toldMany_3 : decode cX7_toldMany 3 = .ok (.istore_n 2, 1) := by decide +kernel
theorem dX7_toldMany_4 : decode cX7_toldMany 4 = .ok (.iload_n 2, 1) := by decide +kernel
theorem dX7_toldMany_5 : decode cX7_toldMany 5 = .ok (.aload_n 0, 1) := by decide +kernel
theorem dX7_toldMany_6 : decode cX7_toldMany 6 = .ok (.getfield 86, 3) := by decide +kernel
theorem dX7_toldMany_9 : decode cX7_toldMany 9 = .ok (.if_icmp .ge 27, 3) := by decide +kernel
theorem dX7_toldMany_12 : decode cX7_toldMany 12 = .ok (.iload_n 1, 1) := by decide +kernel
theorem dX7_toldMany_13 : decode cX7_toldMany 13 = .ok (.aload_n 0, 1) := by decide +kernel
theorem dX7_toldMany_14 : decode cX7_toldMany 14 = .ok (.getfield 29, 3) := by decide +kernel
theorem dX7_toldMany_17 : decode cX7_toldMany 17 = .ok (.iload_n 2, 1) := by decide +kernel
theorem dX7_toldMany_18 : decode cX7_toldMany 18 = .ok (.iaload, 1) := by decide +kernel
theorem dX7_toldMany_19 : decode cX7_toldMany 19 = .ok (.iconst (-1), 1) := by decide +kernel
theorem dX7_toldMany_20 : decode cX7_toldMany 20 = .ok (.if_icmp .ne 7, 3) := by decide +kernel
theorem dX7_toldMany_23 : decode cX7_toldMany 23 = .ok (.iconst 0, 1) := by decide +kernel
theorem dX7_toldMany_24 : decode cX7_toldMany 24 = .ok (.goto 4, 3) := by decide +kernel
theorem dX7_toldMany_27 : decode cX7_toldMany 27 = .ok (.iconst 1, 1) := by decide +kernel
theorem dX7_toldMany_28 : decode cX7_toldMany 28 = .ok (.iadd, 1) := by decide +kernel
theorem dX7_toldMany_29 : decode cX7_toldMany 29 = .ok (.istore_n 1, 1) := by decide +kernel
theorem dX7_toldMany_30 : decode cX7_toldMany 30 = .ok (.iinc 2 1, 3) := by decide +kernel
theorem dX7_toldMany_33 : decode cX7_toldMany 33 = .ok (.goto (-29), 3) := by decide +kernel
theorem dX7_toldMany_36 : decode cX7_toldMany 36 = .ok (.iload_n 1, 1) := by decide +kernel
theorem dX7_toldMany_37 : decode cX7_toldMany 37 = .ok (.ireturn, 1) := by decide +kernel
set_option maxRecDepth 20000 in
theorem ggX7_howMany_X7_size : GoodIn wsX7_howMany wsX7_size := goodIn_r _ [11] (by decide +kernel) (by decide +kernel)
set_option maxRecDepth 20000 in
theorem gX7_howMany_X7_size : GoodIn wsX7_howMany (va_wsS RX7 89 yX7_size wsX7_size) := goodIn_app (goodIn_of _ (by decide +kernel)) ggX7_howMany_X7_size
set_option maxRecDepth 20000 in
theorem ggX7_howMany_X7_guiltySet : GoodIn wsX7_howMany wsX7_guiltySet := goodIn_r _ [15, 2, 16, 17, 18, 10, 19, 20, 21, 22, 23, 24, 3, 25, 4, 26, 27, 28, 29, 30, 31, 32, 33, 34, 35, 36, 37, 38, 39, 40, 41, 1, 42, 43, 44, 45, 46, 47, 48, 54, 55, 56, 57, 58, 59, 60, 61, 62, 63, 64, 65, 66, 67, 68, 69, 70, 71, 72, 73, 74, 75, 76, 77, 78, 79, 80, 81, 82, 83, 84] (by decide +kernel) (by decide +kernel)
set_option maxRecDepth 20000 in
theorem gX7_howMany_X7_guiltySet : GoodIn wsX7_howMany (wsV RX7 153 RX7 yX7_guiltySet wsX7_guiltySet) := goodIn_app (goodIn_of _ (by decide +kernel)) ggX7_howMany_X7_guiltySet
set_option maxRecDepth 20000 in
theorem ggX7_howMany_X7_toldMany : GoodIn wsX7_howMany wsX7_toldMany := goodIn_r _ [52, 2, 53, 54, 55, 56, 57, 58, 59, 60, 61, 62, 63, 64, 65, 66, 67, 68, 69, 70, 71, 72, 73, 74, 75, 76, 77, 78, 79, 80, 81, 82, 83, 84] (by decide +kernel) (by decide +kernel)
set_option maxRecDepth 20000 in
theorem gX7_howMany_X7_toldMany : GoodIn wsX7_howMany (wsV RX7 228 RX7 yX7_toldMany wsX7_toldMany) := goodIn_app (goodIn_of _ (by decide +kernel)) ggX7_howMany_X7_toldMany
theorem dX7_howMany_0 : decode cX7_howMany 0 = .ok (.iload_n 1, 1) := by decide +kernel
theorem dX7_howMany_1 : decode cX7_howMany 1 = .ok (.tableswitch 102 0 8 #[51, 59, 64, 69, 74, 82, 87, 92, 97], 51) := by decide +kernel
theorem dX7_howMany_52 : decode cX7_howMany 52 = .ok (.aload_n 0, 1) := by decide +kernel
theorem dX7_howMany_53 : decode cX7_howMany 53 = .ok (.getfield 73, 3) := by decide +kernel
theorem dX7_howMany_56 : decode cX7_howMany 56 = .ok (.invokestatic 89, 3) := by decide +kernel
theorem dX7_howMany_59 : decode cX7_howMany 59 = .ok (.ireturn, 1) := by decide +kernel
theorem dX7_howMany_60 : decode cX7_howMany 60 = .ok (.aload_n 0, 1) := by decide +kernel
theorem dX7_howMany_61 : decode cX7_howMany 61 = .ok (.getfield 86, 3) := by decide +kernel
theorem dX7_howMany_64 : decode cX7_howMany 64 = .ok (.ireturn, 1) := by decide +kernel
theorem dX7_howMany_65 : decode cX7_howMany 65 = .ok (.aload_n 0, 1) := by decide +kernel
theorem dX7_howMany_66 : decode cX7_howMany 66 = .ok (.getfield 7, 3) := by decide +kernel
theorem dX7_howMany_69 : decode cX7_howMany 69 = .ok (.ireturn, 1) := by decide +kernel
theorem dX7_howMany_70 : decode cX7_howMany 70 = .ok (.aload_n 0, 1) := by decide +kernel
theorem dX7_howMany_71 : decode cX7_howMany 71 = .ok (.getfield 13, 3) := by decide +kernel
theorem dX7_howMany_74 : decode cX7_howMany 74 = .ok (.ireturn, 1) := by decide +kernel
theorem dX7_howMany_75 : decode cX7_howMany 75 = .ok (.aload_n 0, 1) := by decide +kernel
theorem dX7_howMany_76 : decode cX7_howMany 76 = .ok (.invokevirtual 153, 3) := by decide +kernel
theorem dX7_howMany_79 : decode cX7_howMany 79 = .ok (.invokestatic 89, 3) := by decide +kernel
theorem dX7_howMany_82 : decode cX7_howMany 82 = .ok (.ireturn, 1) := by decide +kernel
theorem dX7_howMany_83 : decode cX7_howMany 83 = .ok (.aload_n 0, 1) := by decide +kernel
theorem dX7_howMany_84 : decode cX7_howMany 84 = .ok (.invokevirtual 228, 3) := by decide +kernel
theorem dX7_howMany_87 : decode cX7_howMany 87 = .ok (.ireturn, 1) := by decide +kernel
theorem dX7_howMany_88 : decode cX7_howMany 88 = .ok (.aload_n 0, 1) := by decide +kernel
theorem dX7_howMany_89 : decode cX7_howMany 89 = .ok (.getfield 83, 3) := by decide +kernel
theorem dX7_howMany_92 : decode cX7_howMany 92 = .ok (.ireturn, 1) := by decide +kernel
theorem dX7_howMany_93 : decode cX7_howMany 93 = .ok (.aload_n 0, 1) := by decide +kernel
theorem dX7_howMany_94 : decode cX7_howMany 94 = .ok (.getfield 61, 3) := by decide +kernel
theorem dX7_howMany_97 : decode cX7_howMany 97 = .ok (.ireturn, 1) := by decide +kernel
theorem dX7_howMany_98 : decode cX7_howMany 98 = .ok (.aload_n 0, 1) := by decide +kernel
theorem dX7_howMany_99 : decode cX7_howMany 99 = .ok (.getfield 80, 3) := by decide +kernel
theorem dX7_howMany_102 : decode cX7_howMany 102 = .ok (.ireturn, 1) := by decide +kernel
theorem dX7_howMany_103 : decode cX7_howMany 103 = .ok (.bipush (-102), 2) := by decide +kernel
theorem dX7_howMany_105 : decode cX7_howMany 105 = .ok (.ireturn, 1) := by decide +kernel
set_option maxRecDepth 20000 in
theorem ggX7_count_X7_howMany : GoodIn wsX7_count wsX7_howMany := goodIn_r _ [5, 6, 7, 8, 9, 10, 11, 12, 13, 14, 4, 15, 16, 17, 18, 19, 20, 21, 22, 23, 24, 25, 26, 27, 28, 29, 30, 31, 32, 33, 34, 35, 36, 37, 38, 39, 40, 41, 42, 43, 44, 45, 46, 47, 48, 49, 50, 51, 52, 53, 54, 55, 56, 57, 58, 59, 60, 61, 62, 63, 64, 65, 66, 67, 68, 69, 70, 71, 72, 73, 74, 75, 76, 77, 78, 79, 80, 81, 82, 83, 84, 85, 86, 87, 88] (by decide +kernel) (by decide +kernel)
set_option maxRecDepth 20000 in
theorem gX7_count_X7_howMany : GoodIn wsX7_count (wsV RX7 231 RX7 yX7_howMany wsX7_howMany) := goodIn_app (goodIn_of _ (by decide +kernel)) ggX7_count_X7_howMany
theorem dX7_count_0 : decode cX7_count 0 = .ok (.aload_n 0, 1) := by decide +kernel
theorem dX7_count_1 : decode cX7_count 1 = .ok (.iload_n 1, 1) := by decide +kernel
theorem dX7_count_2 : decode cX7_count 2 = .ok (.invokevirtual 231, 3) := by decide +kernel
theorem dX7_count_5 : decode cX7_count 5 = .ok (.ireturn, 1) := by decide +kernel
theorem dX7_mix_0 : decode cX7_mix 0 = .ok (.aload_n 0, 1) := by decide +kernel
theorem dX7_mix_1 : decode cX7_mix 1 = .ok (.ldc2_w 234, 3) := by decide +kernel
theorem dX7_mix_4 : decode cX7_mix 4 = .ok (.aload_n 0, 1) := by decide +kernel
theorem dX7_mix_5 : decode cX7_mix 5 = .ok (.getfield 236, 3) := by decide +kernel
theorem dX7_mix_8 : decode cX7_mix 8 = .ok (.lmul, 1) := by decide +kernel
theorem dX7_mix_9 : decode cX7_mix 9 = .ok (.lload_n 1, 1) := by decide +kernel
theorem dX7_mix_10 : decode cX7_mix 10 = .ok (.ladd, 1) := by decide +kernel
theorem dX7_mix_11 : decode cX7_mix 11 = .ok (.putfield 236, 3) := by decide +kernel
theorem dX7_mix_14 : decode cX7_mix 14 = .ok (.return_, 1) := by decide +kernel
set_option maxRecDepth 20000 in
theorem ggX7_digest_X7_mix : GoodIn wsX7_digest wsX7_mix := goodIn_r _ [26, 27, 2, 138, 139, 140, 141, 142, 143, 144, 145, 146, 147, 148, 149, 150, 151, 152, 153, 154, 155, 156, 157, 158, 159, 160, 161, 162, 163, 164, 165, 166, 167, 168] (by decide +kernel) (by decide +kernel)
set_option maxRecDepth 20000 in
theorem gX7_digest_X7_mix : GoodIn wsX7_digest (wsV RX7 241 RX7 yX7_mix wsX7_mix) := goodIn_app (goodIn_of _ (by decide +kernel)) ggX7_digest_X7_mix
set_option maxRecDepth 20000 in
theorem ggX7_digest_X7_howMany : GoodIn wsX7_digest wsX7_howMany := goodIn_r _ [131, 14, 4, 6, 39, 132, 7, 133, 93, 94, 12, 95, 89, 90, 91, 92, 56, 57, 58, 59, 32, 35, 36, 37, 38, 22, 40, 41, 42, 43, 44, 45, 46, 47, 48, 49, 50, 51, 52, 53, 54, 55, 15, 16, 17, 18, 19, 20, 21, 134, 135, 136, 137, 5, 138, 139, 140, 141, 142, 143, 144, 145, 146, 147, 148, 149, 150, 151, 152, 153, 154, 155, 156, 157, 158, 159, 160, 161, 162, 163, 164, 165, 166, 167, 168] (by decide +kernel) (by decide +kernel)
set_option maxRecDepth 20000 in
theorem gX7_digest_X7_howMany : GoodIn wsX7_digest (wsV RX7 231 RX7 yX7_howMany wsX7_howMany) := goodIn_app (goodIn_of _ (by decide +kernel)) ggX7_digest_X7_howMany
theorem dX7_digest_0 : decode cX7_digest 0 = .ok (.aload_n 0, 1) := by decide +kernel
theorem dX7_digest_1 : decode cX7_digest 1 = .ok (.ldc2_w 239, 3) := by decide +kernel
theorem dX7_digest_4 : decode cX7_digest 4 = .ok (.putfield 236, 3) := by decide +kernel
theorem dX7_digest_7 : decode cX7_digest 7 = .ok (.iconst 0, 1) := by decide +kernel
theorem dX7_digest_8 : decode cX7_digest 8 = .ok (.istore_n 1, 1) := by decide +kernel
theorem dX7_digest_9 : decode cX7_digest 9 = .ok (.iload_n 1, 1) := by decide +kernel
theorem dX7_digest_10 : decode cX7_digest 10 = .ok (.bipush 20, 2) := by decide +kernel
theorem dX7_digest_12 : decode cX7_digest 12 = .ok (.if_icmp .ge 26, 3) := by decide +kernel
theorem dX7_digest_15 : decode cX7_digest 15 = .ok (.aload_n 0, 1) := by decide +kernel
theorem dX7_digest_16 : decode cX7_digest 16 = .ok (.getfield 76, 3) := by decide +kernel
theorem dX7_digest_19 : decode cX7_digest 19 = .ok (.ifCond .eq 19, 3) := by decide +kernel
theorem dX7_digest_22 : decode cX7_digest 22 = .ok (.aload_n 0, 1) := by decide +kernel
theorem dX7_digest_23 : decode cX7_digest 23 = .ok (.aload_n 0, 1) := by decide +kernel
theorem dX7_digest_24 : decode cX7_digest 24 = .ok (.iload_n 1, 1) := by decide +kernel
theorem dX7_digest_25 : decode cX7_digest 25 = .ok (.invokevirtual 104, 3) := by decide +kernel
theorem dX7_digest_28 : decode cX7_digest 28 = .ok (.i2l, 1) := by decide +kernel
theorem dX7_digest_29 : decode cX7_digest 29 = .ok (.invokevirtual 241, 3) := by decide +kernel
theorem dX7_digest_32 : decode cX7_digest 32 = .ok (.iinc 1 1, 3) := by decide +kernel
theorem dX7_digest_35 : decode cX7_digest 35 = .ok (.goto (-26), 3) := by decide +kernel
theorem dX7_digest_38 : decode cX7_digest 38 = .ok (.iconst 0, 1) := by decide +kernel
theorem dX7_digest_39 : decode cX7_digest 39 = .ok (.istore_n 1, 1) := by decide +kernel
theorem dX7_digest_40 : decode cX7_digest 40 = .ok (.iload_n 1, 1) := by decide +kernel
theorem dX7_digest_41 : decode cX7_digest 41 = .ok (.aload_n 0, 1) := by decide +kernel
theorem dX7_digest_42 : decode cX7_digest 42 = .ok (.getfield 86, 3) := by decide +kernel
theorem dX7_digest_45 : decode cX7_digest 45 = .ok (.if_icmp .ge 45, 3) := by decide +kernel
theorem dX7_digest_48 : decode cX7_digest 48 = .ok (.iconst 0, 1) := by decide +kernel
theorem dX7_digest_49 : decode cX7_digest 49 = .ok (.istore_n 2, 1) := by decide +kernel
theorem dX7_digest_50 : decode cX7_digest 50 = .ok (.iload_n 2, 1) := by decide +kernel
theorem dX7_digest_51 : decode cX7_digest 51 = .ok (.bipush 6, 2) := by decide +kernel
theorem dX7_digest_53 : decode cX7_digest 53 = .ok (.if_icmp .ge 20, 3) := by decide +kernel
theorem dX7_digest_56 : decode cX7_digest 56 = .ok (.aload_n 0, 1) := by decide +kernel
theorem dX7_digest_57 : decode cX7_digest 57 = .ok (.aload_n 0, 1) := by decide +kernel
theorem dX7_digest_58 : decode cX7_digest 58 = .ok (.iload_n 1, 1) := by decide +kernel
theorem dX7_digest_59 : decode cX7_digest 59 = .ok (.iload_n 2, 1) := by decide +kernel
theorem dX7_digest_60 : decode cX7_digest 60 = .ok (.invokevirtual 140, 3) := by decide +kernel
theorem dX7_digest_63 : decode cX7_digest 63 = .ok (.i2l, 1) := by decide +kernel
theorem dX7_digest_64 : decode cX7_digest 64 = .ok (.invokevirtual 241, 3) := by decide +kernel
theorem dX7_digest_67 : decode cX7_digest 67 = .ok (.iinc 2 1, 3) := by decide +kernel
theorem dX7_digest_70 : decode cX7_digest 70 = .ok (.goto (-20), 3) := by decide +kernel
theorem dX7_digest_73 : decode cX7_digest 73 = .ok (.aload_n 0, 1) := by decide +kernel
theorem dX7_digest_74 : decode cX7_digest 74 = .ok (.aload_n 0, 1) := by decide +kernel
theorem dX7_digest_75 : decode cX7_digest 75 = .ok (.getfield 29, 3) := by decide +kernel
theorem dX7_digest_78 : decode cX7_digest 78 = .ok (.iload_n 1, 1) := by decide +kernel
theorem dX7_digest_79 : decode cX7_digest 79 = .ok (.iaload, 1) := by decide +kernel
theorem dX7_digest_80 : decode cX7_digest 80 = .ok (.i2l, 1) := by decide +kernel
theorem dX7_digest_81 : decode cX7_digest 81 = .ok (.invokevirtual 241, 3) := by decide +kernel
theorem dX7_digest_84 : decode cX7_digest 84 = .ok (.iinc 1 1, 3) := by decide +kernel
theorem dX7_digest_87 : decode cX7_digest 87 = .ok (.goto (-47), 3) := by decide +kernel
theorem dX7_digest_90 : decode cX7_digest 90 = .ok (.aload_n 0, 1) := by decide +kernel
theorem dX7_digest_91 : decode cX7_digest 91 = .ok (.getfield 7, 3) := by decide +kernel
theorem dX7_digest_94 : decode cX7_digest 94 = .ok (.iconst (-1), 1) := by decide +kernel
theorem dX7_digest_95 : decode cX7_digest 95 = .ok (.if_icmp .eq 68, 3) := by decide +kernel
theorem dX7_digest_98 : decode cX7_digest 98 = .ok (.aload_n 0, 1) := by decide +kernel
theorem dX7_digest_99 : decode cX7_digest 99 = .ok (.aload_n 0, 1) := by decide +kernel
theorem dX7_digest_100 : decode cX7_digest 100 = .ok (.iconst 2, 1) := by decide +kernel
theorem dX7_digest_101 : decode cX7_digest 101 = .ok (.iconst 0, 1) := by decide +kernel
theorem dX7_digest_102 : decode cX7_digest 102 = .ok (.invokevirtual 169, 3) := by decide +kernel
theorem dX7_digest_105 : decode cX7_digest 105 = .ok (.i2l, 1) := by decide +kernel
theorem dX7_digest_106 : decode cX7_digest 106 = .ok (.invokevirtual 241, 3) := by decide +kernel
theorem dX7_digest_109 : decode cX7_digest 109 = .ok (.aload_n 0, 1) := by decide +kernel
theorem dX7_digest_110 : decode cX7_digest 110 = .ok (.aload_n 0, 1) := by decide +kernel
theorem dX7_digest_111 : decode cX7_digest 111 = .ok (.iconst 2, 1) := by decide +kernel
theorem dX7_digest_112 : decode cX7_digest 112 = .ok (.iconst 1, 1) := by decide +kernel
theorem dX7_digest_113 : decode cX7_digest 113 = .ok (.invokevirtual 169, 3) := by decide +kernel
theorem dX7_digest_116 : decode cX7_digest 116 = .ok (.i2l, 1) := by decide +kernel
theorem dX7_digest_117 : decode cX7_digest 117 = .ok (.invokevirtual 241, 3) := by decide +kernel
theorem dX7_digest_120 : decode cX7_digest 120 = .ok (.aload_n 0, 1) := by decide +kernel
theorem dX7_digest_121 : decode cX7_digest 121 = .ok (.aload_n 0, 1) := by decide +kernel
theorem dX7_digest_122 : decode cX7_digest 122 = .ok (.iconst 0, 1) := by decide +kernel
theorem dX7_digest_123 : decode cX7_digest 123 = .ok (.invokevirtual 172, 3) := by decide +kernel
theorem dX7_digest_126 : decode cX7_digest 126 = .ok (.i2l, 1) := by decide +kernel
theorem dX7_digest_127 : decode cX7_digest 127 = .ok (.invokevirtual 241, 3) := by decide +kernel
theorem dX7_digest_130 : decode cX7_digest 130 = .ok (.aload_n 0, 1) := by decide +kernel
theorem dX7_digest_131 : decode cX7_digest 131 = .ok (.aload_n 0, 1) := by decide +kernel
theorem dX7_digest_132 : decode cX7_digest 132 = .ok (.iconst 1, 1) := by decide +kernel
theorem dX7_digest_133 : decode cX7_digest 133 = .ok (.invokevirtual 172, 3) := by decide +kernel
theorem dX7_digest_136 : decode cX7_digest 136 = .ok (.i2l, 1) := by decide +kernel
theorem dX7_digest_137 : decode cX7_digest 137 = .ok (.invokevirtual 241, 3) := by decide +kernel
theorem dX7_digest_140 : decode cX7_digest 140 = .ok (.aload_n 0, 1) := by decide +kernel
theorem dX7_digest_141 : decode cX7_digest 141 = .ok (.aload_n 0, 1) := by decide +kernel
theorem dX7_digest_142 : decode cX7_digest 142 = .ok (.iconst 0, 1) := by decide +kernel
theorem dX7_digest_143 : decode cX7_digest 143 = .ok (.iconst 0, 1) := by decide +kernel
theorem dX7_digest_144 : decode cX7_digest 144 = .ok (.invokevirtual 178, 3) := by decide +kernel
theorem dX7_digest_147 : decode cX7_digest 147 = .ok (.i2l, 1) := by decide +kernel
theorem dX7_digest_148 : decode cX7_digest 148 = .ok (.invokevirtual 241, 3) := by decide +kernel
theorem dX7_digest_151 : decode cX7_digest 151 = .ok (.aload_n 0, 1) := by decide +kernel
theorem dX7_digest_152 : decode cX7_digest 152 = .ok (.aload_n 0, 1) := by decide +kernel
theorem dX7_digest_153 : decode cX7_digest 153 = .ok (.bipush 19, 2) := by decide +kernel
theorem dX7_digest_155 : decode cX7_digest 155 = .ok (.iconst 0, 1) := by decide +kernel
theorem dX7_digest_156 : decode cX7_digest 156 = .ok (.invokevirtual 178, 3) := by decide +kernel
theorem dX7_digest_159 : decode cX7_digest 159 = .ok (.i2l, 1) := by decide +kernel
theorem dX7_digest_160 : decode cX7_digest 160 = .ok (.invokevirtual 241, 3) := by decide +kernel
theorem dX7_digest_163 : decode cX7_digest 163 = .ok (.iconst 0, 1) := by decide +kernel
theorem dX7_digest_164 : decode cX7_digest 164 = .ok (.istore_n 1, 1) := by decide +kernel
theorem dX7_digest_165 : decode cX7_digest 165 = .ok (.iload_n 1, 1) := by decide +kernel
theorem dX7_digest_166 : decode cX7_digest 166 = .ok (.iconst 3, 1) := by decide +kernel
theorem dX7_digest_167 : decode cX7_digest 167 = .ok (.if_icmp .ge 26, 3) := by decide +kernel
theorem dX7_digest_170 : decode cX7_digest 170 = .ok (.aload_n 0, 1) := by decide +kernel
theorem dX7_digest_171 : decode cX7_digest 171 = .ok (.getfield 76, 3) := by decide +kernel
theorem dX7_digest_174 : decode cX7_digest 174 = .ok (.ifCond .eq 19, 3) := by decide +kernel
theorem dX7_digest_177 : decode cX7_digest 177 = .ok (.aload_n 0, 1) := by decide +kernel
theorem dX7_digest_178 : decode cX7_digest 178 = .ok (.aload_n 0, 1) := by decide +kernel
theorem dX7_digest_179 : decode cX7_digest 179 = .ok (.iload_n 1, 1) := by decide +kernel
theorem dX7_digest_180 : decode cX7_digest 180 = .ok (.invokevirtual 188, 3) := by decide +kernel
theorem dX7_digest_183 : decode cX7_digest 183 = .ok (.i2l, 1) := by decide +kernel
theorem dX7_digest_184 : decode cX7_digest 184 = .ok (.invokevirtual 241, 3) := by decide +kernel
theorem dX7_digest_187 : decode cX7_digest 187 = .ok (.iinc 1 1, 3) := by decide +kernel
theorem dX7_digest_190 : decode cX7_digest 190 = .ok (.goto (-25), 3) := by decide +kernel
theorem dX7_digest_193 : decode cX7_digest 193 = .ok (.iconst 0, 1) := by decide +kernel
theorem dX7_digest_194 : decode cX7_digest 194 = .ok (.istore_n 1, 1) := by decide +kernel
theorem dX7_digest_195 : decode cX7_digest 195 = .ok (.iload_n 1, 1) := by decide +kernel
theorem dX7_digest_196 : decode cX7_digest 196 = .ok (.aload_n 0, 1) := by decide +kernel
theorem dX7_digest_197 : decode cX7_digest 197 = .ok (.getfield 61, 3) := by decide +kernel
theorem dX7_digest_200 : decode cX7_digest 200 = .ok (.if_icmp .ge 20, 3) := by decide +kernel
theorem dX7_digest_203 : decode cX7_digest 203 = .ok (.aload_n 0, 1) := by decide +kernel
theorem dX7_digest_204 : decode cX7_digest 204 = .ok (.aload_n 0, 1) := by decide +kernel
theorem dX7_digest_205 : decode cX7_digest 205 = .ok (.getfield 32, 3) := by decide +kernel
theorem dX7_digest_208 : decode cX7_digest 208 = .ok (.iload_n 1, 1) := by decide +kernel
theorem dX7_digest_209 : decode cX7_digest 209 = .ok (.baload, 1) := by decide +kernel
theorem dX7_digest_210 : decode cX7_digest 210 = .ok (.i2l, 1) := by decide +kernel
theorem dX7_digest_211 : decode cX7_digest 211 = .ok (.invokevirtual 241, 3) := by decide +kernel
theorem dX7_digest_214 : decode cX7_digest 214 = .ok (.iinc 1 1, 3) := by decide +kernel
theorem dX7_digest_217 : decode cX7_digest 217 = .ok (.goto (-22), 3) := by decide +kernel
theorem dX7_digest_220 : decode cX7_digest 220 = .ok (.iconst 0, 1) := by decide +kernel
theorem dX7_digest_221 : decode cX7_digest 221 = .ok (.istore_n 1, 1) := by decide +kernel
theorem dX7_digest_222 : decode cX7_digest 222 = .ok (.iload_n 1, 1) := by decide +kernel
theorem dX7_digest_223 : decode cX7_digest 223 = .ok (.bipush 9, 2) := by decide +kernel
theorem dX7_digest_225 : decode cX7_digest 225 = .ok (.if_icmp .ge 19, 3) := by decide +kernel
theorem dX7_digest_228 : decode cX7_digest 228 = .ok (.aload_n 0, 1) := by decide +kernel
theorem dX7_digest_229 : decode cX7_digest 229 = .ok (.aload_n 0, 1) := by decide +kernel
theorem dX7_digest_230 : decode cX7_digest 230 = .ok (.iload_n 1, 1) := by decide +kernel
theorem dX7_digest_231 : decode cX7_digest 231 = .ok (.invokevirtual 231, 3) := by decide +kernel
theorem dX7_digest_234 : decode cX7_digest 234 = .ok (.i2l, 1) := by decide +kernel
theorem dX7_digest_235 : decode cX7_digest 235 = .ok (.invokevirtual 241, 3) := by decide +kernel
theorem dX7_digest_238 : decode cX7_digest 238 = .ok (.iinc 1 1, 3) := by decide +kernel
theorem dX7_digest_241 : decode cX7_digest 241 = .ok (.goto (-19), 3) := by decide +kernel
theorem dX7_digest_244 : decode cX7_digest 244 = .ok (.aload_n 0, 1) := by decide +kernel
theorem dX7_digest_245 : decode cX7_digest 245 = .ok (.getfield 236, 3) := by decide +kernel
theorem dX7_digest_248 : decode cX7_digest 248 = .ok (.lreturn, 1) := by decide +kernel
