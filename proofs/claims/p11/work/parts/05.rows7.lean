theorem dX7_init_0 : decode cX7_init 0 = .ok (.aload_n 0, 1) := by decide +kernel
theorem dX7_init_1 : decode cX7_init 1 = .ok (.invokespecial 1, 3) := by decide +kernel
theorem dX7_init_4 : decode cX7_init 4 = .ok (.aload_n 0, 1) := by decide +kernel
theorem dX7_init_5 : decode cX7_init 5 = .ok (.iconst (-1), 1) := by decide +kernel
theorem dX7_init_6 : decode cX7_init 6 = .ok (.putfield 7, 3) := by decide +kernel
theorem dX7_init_9 : decode cX7_init 9 = .ok (.aload_n 0, 1) := by decide +kernel
theorem dX7_init_10 : decode cX7_init 10 = .ok (.iconst (-1), 1) := by decide +kernel
theorem dX7_init_11 : decode cX7_init 11 = .ok (.putfield 13, 3) := by decide +kernel
theorem dX7_init_14 : decode cX7_init 14 = .ok (.aload_n 0, 1) := by decide +kernel
theorem dX7_init_15 : decode cX7_init 15 = .ok (.bipush 6, 2) := by decide +kernel
theorem dX7_init_17 : decode cX7_init 17 = .ok (.newarray .int, 2) := by decide +kernel
theorem dX7_init_19 : decode cX7_init 19 = .ok (.putfield 16, 3) := by decide +kernel
theorem dX7_init_22 : decode cX7_init 22 = .ok (.aload_n 0, 1) := by decide +kernel
theorem dX7_init_23 : decode cX7_init 23 = .ok (.bipush 6, 2) := by decide +kernel
theorem dX7_init_25 : decode cX7_init 25 = .ok (.newarray .int, 2) := by decide +kernel
theorem dX7_init_27 : decode cX7_init 27 = .ok (.putfield 20, 3) := by decide +kernel
theorem dX7_init_30 : decode cX7_init 30 = .ok (.aload_n 0, 1) := by decide +kernel
theorem dX7_init_31 : decode cX7_init 31 = .ok (.bipush 6, 2) := by decide +kernel
theorem dX7_init_33 : decode cX7_init 33 = .ok (.newarray .int, 2) := by decide +kernel
theorem dX7_init_35 : decode cX7_init 35 = .ok (.putfield 23, 3) := by decide +kernel
theorem dX7_init_38 : decode cX7_init 38 = .ok (.aload_n 0, 1) := by decide +kernel
theorem dX7_init_39 : decode cX7_init 39 = .ok (.bipush 6, 2) := by decide +kernel
theorem dX7_init_41 : decode cX7_init 41 = .ok (.newarray .int, 2) := by decide +kernel
theorem dX7_init_43 : decode cX7_init 43 = .ok (.putfield 26, 3) := by decide +kernel
theorem dX7_init_46 : decode cX7_init 46 = .ok (.aload_n 0, 1) := by decide +kernel
theorem dX7_init_47 : decode cX7_init 47 = .ok (.bipush 6, 2) := by decide +kernel
theorem dX7_init_49 : decode cX7_init 49 = .ok (.newarray .int, 2) := by decide +kernel
theorem dX7_init_51 : decode cX7_init 51 = .ok (.putfield 29, 3) := by decide +kernel
theorem dX7_init_54 : decode cX7_init 54 = .ok (.aload_n 0, 1) := by decide +kernel
theorem dX7_init_55 : decode cX7_init 55 = .ok (.bipush 24, 2) := by decide +kernel
theorem dX7_init_57 : decode cX7_init 57 = .ok (.newarray .byte, 2) := by decide +kernel
theorem dX7_init_59 : decode cX7_init 59 = .ok (.putfield 32, 3) := by decide +kernel
theorem dX7_init_62 : decode cX7_init 62 = .ok (.aload_n 0, 1) := by decide +kernel
theorem dX7_init_63 : decode cX7_init 63 = .ok (.iconst 3, 1) := by decide +kernel
theorem dX7_init_64 : decode cX7_init 64 = .ok (.newarray .int, 2) := by decide +kernel
theorem dX7_init_66 : decode cX7_init 66 = .ok (.putfield 36, 3) := by decide +kernel
theorem dX7_init_69 : decode cX7_init 69 = .ok (.aload_n 0, 1) := by decide +kernel
theorem dX7_init_70 : decode cX7_init 70 = .ok (.bipush 80, 2) := by decide +kernel
theorem dX7_init_72 : decode cX7_init 72 = .ok (.newarray .int, 2) := by decide +kernel
theorem dX7_init_74 : decode cX7_init 74 = .ok (.putfield 39, 3) := by decide +kernel
theorem dX7_init_77 : decode cX7_init 77 = .ok (.aload_n 0, 1) := by decide +kernel
theorem dX7_init_78 : decode cX7_init 78 = .ok (.bipush 80, 2) := by decide +kernel
theorem dX7_init_80 : decode cX7_init 80 = .ok (.newarray .int, 2) := by decide +kernel
theorem dX7_init_82 : decode cX7_init 82 = .ok (.putfield 42, 3) := by decide +kernel
theorem dX7_init_85 : decode cX7_init 85 = .ok (.aload_n 0, 1) := by decide +kernel
theorem dX7_init_86 : decode cX7_init 86 = .ok (.bipush 6, 2) := by decide +kernel
theorem dX7_init_88 : decode cX7_init 88 = .ok (.newarray .int, 2) := by decide +kernel
theorem dX7_init_90 : decode cX7_init 90 = .ok (.putfield 45, 3) := by decide +kernel
theorem dX7_init_93 : decode cX7_init 93 = .ok (.aload_n 0, 1) := by decide +kernel
theorem dX7_init_94 : decode cX7_init 94 = .ok (.bipush 6, 2) := by decide +kernel
theorem dX7_init_96 : decode cX7_init 96 = .ok (.newarray .int, 2) := by decide +kernel
theorem dX7_init_98 : decode cX7_init 98 = .ok (.putfield 48, 3) := by decide +kernel
theorem dX7_init_101 : decode cX7_init 101 = .ok (.aload_n 0, 1) := by decide +kernel
theorem dX7_init_102 : decode cX7_init 102 = .ok (.bipush 6, 2) := by decide +kernel
theorem dX7_init_104 : decode cX7_init 104 = .ok (.newarray .int, 2) := by decide +kernel
theorem dX7_init_106 : decode cX7_init 106 = .ok (.putfield 51, 3) := by decide +kernel
theorem dX7_init_109 : decode cX7_init 109 = .ok (.aload_n 0, 1) := by decide +kernel
theorem dX7_init_110 : decode cX7_init 110 = .ok (.bipush 6, 2) := by decide +kernel
theorem dX7_init_112 : decode cX7_init 112 = .ok (.newarray .int, 2) := by decide +kernel
theorem dX7_init_114 : decode cX7_init 114 = .ok (.putfield 54, 3) := by decide +kernel
theorem dX7_init_117 : decode cX7_init 117 = .ok (.return_, 1) := by decide +kernel
theorem dX7_within_0 : decode cX7_within 0 = .ok (.iload_n 0, 1) := by decide +kernel
theorem dX7_within_1 : decode cX7_within 1 = .ok (.iload_n 1, 1) := by decide +kernel
theorem dX7_within_2 : decode cX7_within 2 = .ok (.if_icmp .lt 12, 3) := by decide +kernel
theorem dX7_within_5 : decode cX7_within 5 = .ok (.iload_n 0, 1) := by decide +kernel
theorem dX7_within_6 : decode cX7_within 6 = .ok (.iload_n 2, 1) := by decide +kernel
theorem dX7_within_7 : decode cX7_within 7 = .ok (.if_icmp .gt 7, 3) := by decide +kernel
theorem dX7_within_10 : decode cX7_within 10 = .ok (.iconst 1, 1) := by decide +kernel
theorem dX7_within_11 : decode cX7_within 11 = .ok (.goto 4, 3) := by decide +kernel
theorem dX7_within_14 : decode cX7_within 14 = .ok (.iconst 0, 1) := by decide +kernel
theorem dX7_within_15 : decode cX7_within 15 = .ok (.ireturn, 1) := by decide +kernel
theorem dX7_has_0 : decode cX7_has 0 = .ok (.iload_n 0, 1) := by decide +kernel
theorem dX7_has_1 : decode cX7_has 1 = .ok (.iload_n 1, 1) := by decide +kernel
theorem dX7_has_2 : decode cX7_has 2 = .ok (.ishr, 1) := by decide +kernel
theorem dX7_has_3 : decode cX7_has 3 = .ok (.iconst 1, 1) := by decide +kernel
theorem dX7_has_4 : decode cX7_has 4 = .ok (.iand, 1) := by decide +kernel
theorem dX7_has_5 : decode cX7_has 5 = .ok (.iconst 1, 1) := by decide +kernel
theorem dX7_has_6 : decode cX7_has 6 = .ok (.if_icmp .ne 7, 3) := by decide +kernel
theorem dX7_has_9 : decode cX7_has 9 = .ok (.iconst 1, 1) := by decide +kernel
theorem dX7_has_10 : decode cX7_has 10 = .ok (.goto 4, 3) := by decide +kernel
theorem dX7_has_13 : decode cX7_has 13 = .ok (.iconst 0, 1) := by decide +kernel
theorem dX7_has_14 : decode cX7_has 14 = .ok (.ireturn, 1) := by decide +kernel
theorem dX7_size_0 : decode cX7_size 0 = .ok (.iconst 0, 1) := by decide +kernel
theorem dX7_size_1 : decode cX7_size 1 = .ok (.istore_n 1, 1) := by decide +kernel
theorem dX7_size_2 : decode cX7_size 2 = .ok (.iconst 0, 1) := by decide +kernel
theorem dX7_size_3 : decode cX7_size 3 = .ok (.istore_n 2, 1) := by decide +kernel
theorem dX7_size_4 : decode cX7_size 4 = .ok (.iload_n 2, 1) := by decide +kernel
theorem dX7_size_5 : decode cX7_size 5 = .ok (.bipush 20, 2) := by decide +kernel
theorem dX7_size_7 : decode cX7_size 7 = .ok (.if_icmp .ge 17, 3) := by decide +kernel
theorem dX7_size_10 : decode cX7_size 10 = .ok (.iload_n 1, 1) := by decide +kernel
theorem dX7_size_11 : decode cX7_size 11 = .ok (.iload_n 0, 1) := by decide +kernel
theorem dX7_size_12 : decode cX7_size 12 = .ok (.iload_n 2, 1) := by decide +kernel
theorem dX7_size_13 : decode cX7_size 13 = .ok (.ishr, 1) := by decide +kernel
theorem dX7_size_14 : decode cX7_size 14 = .ok (.iconst 1, 1) := by decide +kernel
theorem dX7_size_15 : decode cX7_size 15 = .ok (.iand, 1) := by decide +kernel
theorem dX7_size_16 : decode cX7_size 16 = .ok (.iadd, 1) := by decide +kernel
theorem dX7_size_17 : decode cX7_size 17 = .ok (.istore_n 1, 1) := by decide +kernel
theorem dX7_size_18 : decode cX7_size 18 = .ok (.iinc 2 1, 3) := by decide +kernel
theorem dX7_size_21 : decode cX7_size 21 = .ok (.goto (-17), 3) := by decide +kernel
theorem dX7_size_24 : decode cX7_size 24 = .ok (.iload_n 1, 1) := by decide +kernel
theorem dX7_size_25 : decode cX7_size 25 = .ok (.ireturn, 1) := by decide +kernel
theorem dX7_isPlace_0 : decode cX7_isPlace 0 = .ok (.iload_n 0, 1) := by decide +kernel
theorem dX7_isPlace_1 : decode cX7_isPlace 1 = .ok (.iconst 0, 1) := by decide +kernel
theorem dX7_isPlace_2 : decode cX7_isPlace 2 = .ok (.bipush 19, 2) := by decide +kernel
theorem dX7_isPlace_4 : decode cX7_isPlace 4 = .ok (.invokestatic 57, 3) := by decide +kernel
theorem dX7_isPlace_7 : decode cX7_isPlace 7 = .ok (.ireturn, 1) := by decide +kernel
theorem dX7_letter_0 : decode cX7_letter 0 = .ok (.iload_n 1, 1) := by decide +kernel
theorem dX7_letter_1 : decode cX7_letter 1 = .ok (.bipush 32, 2) := by decide +kernel
theorem dX7_letter_3 : decode cX7_letter 3 = .ok (.bipush 126, 2) := by decide +kernel
theorem dX7_letter_5 : decode cX7_letter 5 = .ok (.invokestatic 57, 3) := by decide +kernel
theorem dX7_letter_8 : decode cX7_letter 8 = .ok (.ifCond .ne 6, 3) := by decide +kernel
theorem dX7_letter_11 : decode cX7_letter 11 = .ok (.bipush (-102), 2) := by decide +kernel
theorem dX7_letter_13 : decode cX7_letter 13 = .ok (.ireturn, 1) := by decide +kernel
theorem dX7_letter_14 : decode cX7_letter 14 = .ok (.aload_n 0, 1) := by decide +kernel
theorem dX7_letter_15 : decode cX7_letter 15 = .ok (.getfield 61, 3) := by decide +kernel
theorem dX7_letter_18 : decode cX7_letter 18 = .ok (.bipush 24, 2) := by decide +kernel
theorem dX7_letter_20 : decode cX7_letter 20 = .ok (.if_icmp .ne 6, 3) := by decide +kernel
theorem dX7_letter_23 : decode cX7_letter 23 = .ok (.bipush (-104), 2) := by decide +kernel
theorem dX7_letter_25 : decode cX7_letter 25 = .ok (.ireturn, 1) := by decide +kernel
theorem dX7_letter_26 : decode cX7_letter 26 = .ok (.aload_n 0, 1) := by decide +kernel
theorem dX7_letter_27 : decode cX7_letter 27 = .ok (.getfield 32, 3) := by decide +kernel
theorem dX7_letter_30 : decode cX7_letter 30 = .ok (.aload_n 0, 1) := by decide +kernel
theorem dX7_letter_31 : decode cX7_letter 31 = .ok (.getfield 61, 3) := by decide +kernel
theorem dX7_letter_34 : decode cX7_letter 34 = .ok (.iload_n 1, 1) := by decide +kernel
theorem dX7_letter_35 : decode cX7_letter 35 = .ok (.i2b, 1) := by decide +kernel
theorem dX7_letter_36 : decode cX7_letter 36 = .ok (.bastore, 1) := by decide +kernel
theorem dX7_letter_37 : decode cX7_letter 37 = .ok (.aload_n 0, 1) := by decide +kernel
theorem dX7_letter_38 : decode cX7_letter 38 = .ok (.dup, 1) := by decide +kernel
theorem dX7_letter_39 : decode cX7_letter 39 = .ok (.getfield 61, 3) := by decide +kernel
theorem dX7_letter_42 : decode cX7_letter 42 = .ok (.iconst 1, 1) := by decide +kernel
theorem dX7_letter_43 : decode cX7_letter 43 = .ok (.iadd, 1) := by decide +kernel
theorem dX7_letter_44 : decode cX7_letter 44 = .ok (.putfield 61, 3) := by decide +kernel
theorem dX7_letter_47 : decode cX7_letter 47 = .ok (.aload_n 0, 1) := by decide +kernel
theorem dX7_letter_48 : decode cX7_letter 48 = .ok (.getfield 61, 3) := by decide +kernel
theorem dX7_letter_51 : decode cX7_letter 51 = .ok (.ireturn, 1) := by decide +kernel
theorem dX7_blank_0 : decode cX7_blank 0 = .ok (.aload_n 0, 1) := by decide +kernel
theorem dX7_blank_1 : decode cX7_blank 1 = .ok (.getfield 61, 3) := by decide +kernel
theorem dX7_blank_4 : decode cX7_blank 4 = .ok (.istore_n 1, 1) := by decide +kernel
theorem dX7_blank_5 : decode cX7_blank 5 = .ok (.aload_n 0, 1) := by decide +kernel
theorem dX7_blank_6 : decode cX7_blank 6 = .ok (.iconst 0, 1) := by decide +kernel
theorem dX7_blank_7 : decode cX7_blank 7 = .ok (.putfield 61, 3) := by decide +kernel
theorem dX7_blank_10 : decode cX7_blank 10 = .ok (.iload_n 1, 1) := by decide +kernel
theorem dX7_blank_11 : decode cX7_blank 11 = .ok (.ireturn, 1) := by decide +kernel
theorem dX7_readHall_0 : decode cX7_readHall 0 = .ok (.aload_n 0, 1) := by decide +kernel
theorem dX7_readHall_1 : decode cX7_readHall 1 = .ok (.iconst 0, 1) := by decide +kernel
theorem dX7_readHall_2 : decode cX7_readHall 2 = .ok (.putfield 64, 3) := by decide +kernel
theorem dX7_readHall_5 : decode cX7_readHall 5 = .ok (.iconst 0, 1) := by decide +kernel
theorem dX7_readHall_6 : decode cX7_readHall 6 = .ok (.istore_n 1, 1) := by decide +kernel
theorem dX7_readHall_7 : decode cX7_readHall 7 = .ok (.iconst 1, 1) := by decide +kernel
theorem dX7_readHall_8 : decode cX7_readHall 8 = .ok (.istore_n 2, 1) := by decide +kernel
theorem dX7_readHall_9 : decode cX7_readHall 9 = .ok (.iload_n 1, 1) := by decide +kernel
theorem dX7_readHall_10 : decode cX7_readHall 10 = .ok (.aload_n 0, 1) := by decide +kernel
theorem dX7_readHall_11 : decode cX7_readHall 11 = .ok (.getfield 61, 3) := by decide +kernel
theorem dX7_readHall_14 : decode cX7_readHall 14 = .ok (.if_icmp .ge 129, 3) := by decide +kernel
theorem dX7_readHall_17 : decode cX7_readHall 17 = .ok (.iload_n 2, 1) := by decide +kernel
theorem dX7_readHall_18 : decode cX7_readHall 18 = .ok (.ifCond .eq 125, 3) := by decide +kernel
theorem dX7_readHall_21 : decode cX7_readHall 21 = .ok (.iload_n 1, 1) := by decide +kernel
theorem dX7_readHall_22 : decode cX7_readHall 22 = .ok (.bipush 6, 2) := by decide +kernel
theorem dX7_readHall_24 : decode cX7_readHall 24 = .ok (.irem, 1) := by decide +kernel
theorem dX7_readHall_25 : decode cX7_readHall 25 = .ok (.iconst 5, 1) := by decide +kernel
theorem dX7_readHall_26 : decode cX7_readHall 26 = .ok (.if_icmp .ne 7, 3) := by decide +kernel
theorem dX7_readHall_29 : decode cX7_readHall 29 = .ok (.iconst 1, 1) := by decide +kernel
theorem dX7_readHall_30 : decode cX7_readHall 30 = .ok (.goto 4, 3) := by decide +kernel
theorem dX7_readHall_33 : decode cX7_readHall 33 = .ok (.iconst 0, 1) := by decide +kernel
theorem dX7_readHall_34 : decode cX7_readHall 34 = .ok (.istore_n 3, 1) := by decide +kernel
theorem dX7_readHall_35 : decode cX7_readHall 35 = .ok (.iload_n 1, 1) := by decide +kernel
theorem dX7_readHall_36 : decode cX7_readHall 36 = .ok (.bipush 23, 2) := by decide +kernel
theorem dX7_readHall_38 : decode cX7_readHall 38 = .ok (.if_icmp .ge 47, 3) := by decide +kernel
theorem dX7_readHall_41 : decode cX7_readHall 41 = .ok (.iload_n 3, 1) := by decide +kernel
theorem dX7_readHall_42 : decode cX7_readHall 42 = .ok (.ifCond .eq 17, 3) := by decide +kernel
theorem dX7_readHall_45 : decode cX7_readHall 45 = .ok (.aload_n 0, 1) := by decide +kernel
theorem dX7_readHall_46 : decode cX7_readHall 46 = .ok (.getfield 32, 3) := by decide +kernel
theorem dX7_readHall_49 : decode cX7_readHall 49 = .ok (.iload_n 1, 1) := by decide +kernel
theorem dX7_readHall_50 : decode cX7_readHall 50 = .ok (.baload, 1) := by decide +kernel
theorem dX7_readHall_51 : decode cX7_readHall 51 = .ok (.bipush 47, 2) := by decide +kernel
theorem dX7_readHall_53 : decode cX7_readHall 53 = .ok (.if_icmp .ne 32, 3) := by decide +kernel
theorem dX7_readHall_56 : decode cX7_readHall 56 = .ok (.goto 25, 3) := by decide +kernel
theorem dX7_readHall_59 : decode cX7_readHall 59 = .ok (.aload_n 0, 1) := by decide +kernel
theorem dX7_readHall_60 : decode cX7_readHall 60 = .ok (.getfield 32, 3) := by decide +kernel
theorem dX7_readHall_63 : decode cX7_readHall 63 = .ok (.iload_n 1, 1) := by decide +kernel
theorem dX7_readHall_64 : decode cX7_readHall 64 = .ok (.baload, 1) := by decide +kernel
theorem dX7_readHall_65 : decode cX7_readHall 65 = .ok (.bipush 46, 2) := by decide +kernel
theorem dX7_readHall_67 : decode cX7_readHall 67 = .ok (.if_icmp .eq 14, 3) := by decide +kernel
theorem dX7_readHall_70 : decode cX7_readHall 70 = .ok (.aload_n 0, 1) := by decide +kernel
theorem dX7_readHall_71 : decode cX7_readHall 71 = .ok (.getfield 32, 3) := by decide +kernel
theorem dX7_readHall_74 : decode cX7_readHall 74 = .ok (.iload_n 1, 1) := by decide +kernel
theorem dX7_readHall_75 : decode cX7_readHall 75 = .ok (.baload, 1) := by decide +kernel
theorem dX7_readHall_76 : decode cX7_readHall 76 = .ok (.bipush 35, 2) := by decide +kernel
theorem dX7_readHall_78 : decode cX7_readHall 78 = .ok (.if_icmp .ne 7, 3) := by decide +kernel
theorem dX7_readHall_81 : decode cX7_readHall 81 = .ok (.iconst 1, 1) := by decide +kernel
theorem dX7_readHall_82 : decode cX7_readHall 82 = .ok (.goto 4, 3) := by decide +kernel
theorem dX7_readHall_85 : decode cX7_readHall 85 = .ok (.iconst 0, 1) := by decide +kernel
theorem dX7_readHall_86 : decode cX7_readHall 86 = .ok (.istore_n 2, 1) := by decide +kernel
theorem dX7_readHall_87 : decode cX7_readHall 87 = .ok (.aload_n 0, 1) := by decide +kernel
theorem dX7_readHall_88 : decode cX7_readHall 88 = .ok (.dup, 1) := by decide +kernel
theorem dX7_readHall_89 : decode cX7_readHall 89 = .ok (.getfield 64, 3) := by decide +kernel
theorem dX7_readHall_92 : decode cX7_readHall 92 = .ok (.iload_n 2, 1) := by decide +kernel
theorem dX7_readHall_93 : decode cX7_readHall 93 = .ok (.ifCond .eq 30, 3) := by decide +kernel
theorem dX7_readHall_96 : decode cX7_readHall 96 = .ok (.aload_n 0, 1) := by decide +kernel
theorem dX7_readHall_97 : decode cX7_readHall 97 = .ok (.getfield 32, 3) := by decide +kernel
theorem dX7_readHall_100 : decode cX7_readHall 100 = .ok (.iload_n 1, 1) := by decide +kernel
theorem dX7_readHall_101 : decode cX7_readHall 101 = .ok (.baload, 1) := by decide +kernel
theorem dX7_readHall_102 : decode cX7_readHall 102 = .ok (.bipush 46, 2) := by decide +kernel
theorem dX7_readHall_104 : decode cX7_readHall 104 = .ok (.if_icmp .ne 19, 3) := by decide +kernel
theorem dX7_readHall_107 : decode cX7_readHall 107 = .ok (.iconst 1, 1) := by decide +kernel
theorem dX7_readHall_108 : decode cX7_readHall 108 = .ok (.iload_n 1, 1) := by decide +kernel
theorem dX7_readHall_109 : decode cX7_readHall 109 = .ok (.bipush 6, 2) := by decide +kernel
theorem dX7_readHall_111 : decode cX7_readHall 111 = .ok (.idiv, 1) := by decide +kernel
theorem dX7_readHall_112 : decode cX7_readHall 112 = .ok (.iconst 5, 1) := by decide +kernel
theorem dX7_readHall_113 : decode cX7_readHall 113 = .ok (.imul, 1) := by decide +kernel
theorem dX7_readHall_114 : decode cX7_readHall 114 = .ok (.iload_n 1, 1) := by decide +kernel
theorem dX7_readHall_115 : decode cX7_readHall 115 = .ok (.bipush 6, 2) := by decide +kernel
theorem dX7_readHall_117 : decode cX7_readHall 117 = .ok (.irem, 1) := by decide +kernel
theorem dX7_readHall_118 : decode cX7_readHall 118 = .ok (.iadd, 1) := by decide +kernel
theorem dX7_readHall_119 : decode cX7_readHall 119 = .ok (.ishl, 1) := by decide +kernel
theorem dX7_readHall_120 : decode cX7_readHall 120 = .ok (.goto 4, 3) := by decide +kernel
theorem dX7_readHall_123 : decode cX7_readHall 123 = .ok (.iconst 0, 1) := by decide +kernel
theorem dX7_readHall_124 : decode cX7_readHall 124 = .ok (.ior, 1) := by decide +kernel
theorem dX7_readHall_125 : decode cX7_readHall 125 = .ok (.putfield 64, 3) := by decide +kernel
theorem dX7_readHall_128 : decode cX7_readHall 128 = .ok (.iload_n 1, 1) := by decide +kernel
theorem dX7_readHall_129 : decode cX7_readHall 129 = .ok (.iload_n 2, 1) := by decide +kernel
theorem dX7_readHall_130 : decode cX7_readHall 130 = .ok (.ifCond .eq 7, 3) := by decide +kernel
theorem dX7_readHall_133 : decode cX7_readHall 133 = .ok (.iconst 1, 1) := by decide +kernel
theorem dX7_readHall_134 : decode cX7_readHall 134 = .ok (.goto 4, 3) := by decide +kernel
theorem dX7_readHall_137 : decode cX7_readHall 137 = .ok (.iconst 0, 1) := by decide +kernel
theorem dX7_readHall_138 : decode cX7_readHall 138 = .ok (.iadd, 1) := by decide +kernel
theorem dX7_readHall_139 : decode cX7_readHall 139 = .ok (.istore_n 1, 1) := by decide +kernel
theorem dX7_readHall_140 : decode cX7_readHall 140 = .ok (.goto (-131), 3) := by decide +kernel
theorem dX7_readHall_143 : decode cX7_readHall 143 = .ok (.aload_n 0, 1) := by decide +kernel
theorem dX7_readHall_144 : decode cX7_readHall 144 = .ok (.iload_n 1, 1) := by decide +kernel
theorem dX7_readHall_145 : decode cX7_readHall 145 = .ok (.putfield 67, 3) := by decide +kernel
theorem dX7_readHall_148 : decode cX7_readHall 148 = .ok (.return_, 1) := by decide +kernel
theorem dX7_fault_0 : decode cX7_fault 0 = .ok (.aload_n 0, 1) := by decide +kernel
theorem dX7_fault_1 : decode cX7_fault 1 = .ok (.invokevirtual 70, 3) := by decide +kernel
theorem dX7_fault_4 : decode cX7_fault 4 = .ok (.aload_n 0, 1) := by decide +kernel
theorem dX7_fault_5 : decode cX7_fault 5 = .ok (.getfield 67, 3) := by decide +kernel
theorem dX7_fault_8 : decode cX7_fault 8 = .ok (.ireturn, 1) := by decide +kernel
theorem dX7_hall_0 : decode cX7_hall 0 = .ok (.aload_n 0, 1) := by decide +kernel
theorem dX7_hall_1 : decode cX7_hall 1 = .ok (.invokevirtual 70, 3) := by decide +kernel
theorem dX7_hall_4 : decode cX7_hall 4 = .ok (.aload_n 0, 1) := by decide +kernel
theorem dX7_hall_5 : decode cX7_hall 5 = .ok (.getfield 67, 3) := by decide +kernel
theorem dX7_hall_8 : decode cX7_hall 8 = .ok (.aload_n 0, 1) := by decide +kernel
theorem dX7_hall_9 : decode cX7_hall 9 = .ok (.getfield 61, 3) := by decide +kernel
theorem dX7_hall_12 : decode cX7_hall 12 = .ok (.if_icmp .ne 12, 3) := by decide +kernel
theorem dX7_hall_15 : decode cX7_hall 15 = .ok (.aload_n 0, 1) := by decide +kernel
theorem dX7_hall_16 : decode cX7_hall 16 = .ok (.getfield 61, 3) := by decide +kernel
theorem dX7_hall_19 : decode cX7_hall 19 = .ok (.bipush 23, 2) := by decide +kernel
theorem dX7_hall_21 : decode cX7_hall 21 = .ok (.if_icmp .eq 6, 3) := by decide +kernel
theorem dX7_hall_24 : decode cX7_hall 24 = .ok (.bipush (-103), 2) := by decide +kernel
theorem dX7_hall_26 : decode cX7_hall 26 = .ok (.ireturn, 1) := by decide +kernel
theorem dX7_hall_27 : decode cX7_hall 27 = .ok (.aload_n 0, 1) := by decide +kernel
theorem dX7_hall_28 : decode cX7_hall 28 = .ok (.aload_n 0, 1) := by decide +kernel
theorem dX7_hall_29 : decode cX7_hall 29 = .ok (.getfield 64, 3) := by decide +kernel
theorem dX7_hall_32 : decode cX7_hall 32 = .ok (.putfield 73, 3) := by decide +kernel
theorem dX7_hall_35 : decode cX7_hall 35 = .ok (.aload_n 0, 1) := by decide +kernel
theorem dX7_hall_36 : decode cX7_hall 36 = .ok (.iconst 1, 1) := by decide +kernel
theorem dX7_hall_37 : decode cX7_hall 37 = .ok (.putfield 76, 3) := by decide +kernel
theorem dX7_hall_40 : decode cX7_hall 40 = .ok (.aload_n 0, 1) := by decide +kernel
theorem dX7_hall_41 : decode cX7_hall 41 = .ok (.dup, 1) := by decide +kernel
theorem dX7_hall_42 : decode cX7_hall 42 = .ok (.getfield 80, 3) := by decide +kernel
theorem dX7_hall_45 : decode cX7_hall 45 = .ok (.iconst 1, 1) := by decide +kernel
theorem dX7_hall_46 : decode cX7_hall 46 = .ok (.iadd, 1) := by decide +kernel
theorem dX7_hall_47 : decode cX7_hall 47 = .ok (.putfield 80, 3) := by decide +kernel
theorem dX7_hall_50 : decode cX7_hall 50 = .ok (.aload_n 0, 1) := by decide +kernel
theorem dX7_hall_51 : decode cX7_hall 51 = .ok (.iconst (-1), 1) := by decide +kernel
theorem dX7_hall_52 : decode cX7_hall 52 = .ok (.putfield 7, 3) := by decide +kernel
theorem dX7_hall_55 : decode cX7_hall 55 = .ok (.aload_n 0, 1) := by decide +kernel
theorem dX7_hall_56 : decode cX7_hall 56 = .ok (.iconst (-1), 1) := by decide +kernel
theorem dX7_hall_57 : decode cX7_hall 57 = .ok (.putfield 13, 3) := by decide +kernel
theorem dX7_hall_60 : decode cX7_hall 60 = .ok (.aload_n 0, 1) := by decide +kernel
theorem dX7_hall_61 : decode cX7_hall 61 = .ok (.iconst 0, 1) := by decide +kernel
theorem dX7_hall_62 : decode cX7_hall 62 = .ok (.putfield 83, 3) := by decide +kernel
theorem dX7_hall_65 : decode cX7_hall 65 = .ok (.aload_n 0, 1) := by decide +kernel
theorem dX7_hall_66 : decode cX7_hall 66 = .ok (.iconst 0, 1) := by decide +kernel
theorem dX7_hall_67 : decode cX7_hall 67 = .ok (.putfield 86, 3) := by decide +kernel
theorem dX7_hall_70 : decode cX7_hall 70 = .ok (.aload_n 0, 1) := by decide +kernel
theorem dX7_hall_71 : decode cX7_hall 71 = .ok (.iconst 0, 1) := by decide +kernel
theorem dX7_hall_72 : decode cX7_hall 72 = .ok (.putfield 61, 3) := by decide +kernel
theorem dX7_hall_75 : decode cX7_hall 75 = .ok (.aload_n 0, 1) := by decide +kernel
theorem dX7_hall_76 : decode cX7_hall 76 = .ok (.getfield 73, 3) := by decide +kernel
theorem dX7_hall_79 : decode cX7_hall 79 = .ok (.invokestatic 89, 3) := by decide +kernel
theorem dX7_hall_82 : decode cX7_hall 82 = .ok (.ireturn, 1) := by decide +kernel
theorem dX7_whoOn_0 : decode cX7_whoOn 0 = .ok (.aload_n 0, 1) := by decide +kernel
theorem dX7_whoOn_1 : decode cX7_whoOn 1 = .ok (.getfield 7, 3) := by decide +kernel
theorem dX7_whoOn_4 : decode cX7_whoOn 4 = .ok (.iload_n 1, 1) := by decide +kernel
theorem dX7_whoOn_5 : decode cX7_whoOn 5 = .ok (.if_icmp .ne 8, 3) := by decide +kernel
theorem dX7_whoOn_8 : decode cX7_whoOn 8 = .ok (.bipush 9, 2) := by decide +kernel
theorem dX7_whoOn_10 : decode cX7_whoOn 10 = .ok (.goto 4, 3) := by decide +kernel
theorem dX7_whoOn_13 : decode cX7_whoOn 13 = .ok (.iconst (-1), 1) := by decide +kernel
theorem dX7_whoOn_14 : decode cX7_whoOn 14 = .ok (.istore_n 2, 1) := by decide +kernel
theorem dX7_whoOn_15 : decode cX7_whoOn 15 = .ok (.iconst 0, 1) := by decide +kernel
theorem dX7_whoOn_16 : decode cX7_whoOn 16 = .ok (.istore_n 3, 1) := by decide +kernel
theorem dX7_whoOn_17 : decode cX7_whoOn 17 = .ok (.iload_n 3, 1) := by decide +kernel
theorem dX7_whoOn_18 : decode cX7_whoOn 18 = .ok (.aload_n 0, 1) := by decide +kernel
theorem dX7_whoOn_19 : decode cX7_whoOn 19 = .ok (.getfield 86, 3) := by decide +kernel
theorem dX7_whoOn_22 : decode cX7_whoOn 22 = .ok (.if_icmp .ge 25, 3) := by decide +kernel
theorem dX7_whoOn_25 : decode cX7_whoOn 25 = .ok (.aload_n 0, 1) := by decide +kernel
theorem dX7_whoOn_26 : decode cX7_whoOn 26 = .ok (.getfield 20, 3) := by decide +kernel
theorem dX7_whoOn_29 : decode cX7_whoOn 29 = .ok (.iload_n 3, 1) := by decide +kernel
theorem dX7_whoOn_30 : decode cX7_whoOn 30 = .ok (.iaload, 1) := by decide +kernel
theorem dX7_whoOn_31 : decode cX7_whoOn 31 = .ok (.iload_n 1, 1) := by decide +kernel
theorem dX7_whoOn_32 : decode cX7_whoOn 32 = .ok (.if_icmp .ne 7, 3) := by decide +kernel
theorem dX7_whoOn_35 : decode cX7_whoOn 35 = .ok (.iload_n 3, 1) := by decide +kernel
theorem dX7_whoOn_36 : decode cX7_whoOn 36 = .ok (.goto 4, 3) := by decide +kernel
theorem dX7_whoOn_39 : decode cX7_whoOn 39 = .ok (.iload_n 2, 1) := by decide +kernel
theorem dX7_whoOn_40 : decode cX7_whoOn 40 = .ok (.istore_n 2, 1) := by decide +kernel
theorem dX7_whoOn_41 : decode cX7_whoOn 41 = .ok (.iinc 3 1, 3) := by decide +kernel
theorem dX7_whoOn_44 : decode cX7_whoOn 44 = .ok (.goto (-27), 3) := by decide +kernel
theorem dX7_whoOn_47 : decode cX7_whoOn 47 = .ok (.iload_n 2, 1) := by decide +kernel
theorem dX7_whoOn_48 : decode cX7_whoOn 48 = .ok (.ireturn, 1) := by decide +kernel
theorem dX7_onNow_0 : decode cX7_onNow 0 = .ok (.aload_n 0, 1) := by decide +kernel
theorem dX7_onNow_1 : decode cX7_onNow 1 = .ok (.getfield 73, 3) := by decide +kernel
theorem dX7_onNow_4 : decode cX7_onNow 4 = .ok (.iload_n 1, 1) := by decide +kernel
theorem dX7_onNow_5 : decode cX7_onNow 5 = .ok (.invokestatic 93, 3) := by decide +kernel
theorem dX7_onNow_8 : decode cX7_onNow 8 = .ok (.ifCond .eq 11, 3) := by decide +kernel
theorem dX7_onNow_11 : decode cX7_onNow 11 = .ok (.aload_n 0, 1) := by decide +kernel
theorem dX7_onNow_12 : decode cX7_onNow 12 = .ok (.iload_n 1, 1) := by decide +kernel
theorem dX7_onNow_13 : decode cX7_onNow 13 = .ok (.invokevirtual 97, 3) := by decide +kernel
theorem dX7_onNow_16 : decode cX7_onNow 16 = .ok (.goto 5, 3) := by decide +kernel
theorem dX7_onNow_19 : decode cX7_onNow 19 = .ok (.bipush (-2), 2) := by decide +kernel
theorem dX7_onNow_21 : decode cX7_onNow 21 = .ok (.ireturn, 1) := by decide +kernel
theorem dX7_on_0 : decode cX7_on 0 = .ok (.iload_n 1, 1) := by decide +kernel
theorem dX7_on_1 : decode cX7_on 1 = .ok (.invokestatic 100, 3) := by decide +kernel
theorem dX7_on_4 : decode cX7_on 4 = .ok (.ifCond .ne 6, 3) := by decide +kernel
theorem dX7_on_7 : decode cX7_on 7 = .ok (.bipush (-101), 2) := by decide +kernel
theorem dX7_on_9 : decode cX7_on 9 = .ok (.ireturn, 1) := by decide +kernel
theorem dX7_on_10 : decode cX7_on 10 = .ok (.aload_n 0, 1) := by decide +kernel
theorem dX7_on_11 : decode cX7_on 11 = .ok (.getfield 76, 3) := by decide +kernel
theorem dX7_on_14 : decode cX7_on 14 = .ok (.ifCond .eq 11, 3) := by decide +kernel
theorem dX7_on_17 : decode cX7_on 17 = .ok (.aload_n 0, 1) := by decide +kernel
theorem dX7_on_18 : decode cX7_on 18 = .ok (.iload_n 1, 1) := by decide +kernel
theorem dX7_on_19 : decode cX7_on 19 = .ok (.invokevirtual 104, 3) := by decide +kernel
theorem dX7_on_22 : decode cX7_on 22 = .ok (.goto 5, 3) := by decide +kernel
theorem dX7_on_25 : decode cX7_on 25 = .ok (.bipush (-103), 2) := by decide +kernel
theorem dX7_on_27 : decode cX7_on 27 = .ok (.ireturn, 1) := by decide +kernel
theorem dX7_isEmpty_0 : decode cX7_isEmpty 0 = .ok (.aload_n 0, 1) := by decide +kernel
theorem dX7_isEmpty_1 : decode cX7_isEmpty 1 = .ok (.getfield 73, 3) := by decide +kernel
theorem dX7_isEmpty_4 : decode cX7_isEmpty 4 = .ok (.iload_n 1, 1) := by decide +kernel
theorem dX7_isEmpty_5 : decode cX7_isEmpty 5 = .ok (.invokestatic 93, 3) := by decide +kernel
theorem dX7_isEmpty_8 : decode cX7_isEmpty 8 = .ok (.ifCond .eq 16, 3) := by decide +kernel
theorem dX7_isEmpty_11 : decode cX7_isEmpty 11 = .ok (.aload_n 0, 1) := by decide +kernel
theorem dX7_isEmpty_12 : decode cX7_isEmpty 12 = .ok (.iload_n 1, 1) := by decide +kernel
theorem dX7_isEmpty_13 : decode cX7_isEmpty 13 = .ok (.invokevirtual 97, 3) := by decide +kernel
theorem dX7_isEmpty_16 : decode cX7_isEmpty 16 = .ok (.iconst (-1), 1) := by decide +kernel
theorem dX7_isEmpty_17 : decode cX7_isEmpty 17 = .ok (.if_icmp .ne 7, 3) := by decide +kernel
theorem dX7_isEmpty_20 : decode cX7_isEmpty 20 = .ok (.iconst 1, 1) := by decide +kernel
theorem dX7_isEmpty_21 : decode cX7_isEmpty 21 = .ok (.goto 4, 3) := by decide +kernel
theorem dX7_isEmpty_24 : decode cX7_isEmpty 24 = .ok (.iconst 0, 1) := by decide +kernel
theorem dX7_isEmpty_25 : decode cX7_isEmpty 25 = .ok (.ireturn, 1) := by decide +kernel
theorem dX7_duke_0 : decode cX7_duke 0 = .ok (.iload_n 1, 1) := by decide +kernel
theorem dX7_duke_1 : decode cX7_duke 1 = .ok (.invokestatic 100, 3) := by decide +kernel
theorem dX7_duke_4 : decode cX7_duke 4 = .ok (.ifCond .ne 6, 3) := by decide +kernel
theorem dX7_duke_7 : decode cX7_duke 7 = .ok (.bipush (-101), 2) := by decide +kernel
theorem dX7_duke_9 : decode cX7_duke 9 = .ok (.ireturn, 1) := by decide +kernel
theorem dX7_duke_10 : decode cX7_duke 10 = .ok (.iload_n 2, 1) := by decide +kernel
theorem dX7_duke_11 : decode cX7_duke 11 = .ok (.iconst 0, 1) := by decide +kernel
theorem dX7_duke_12 : decode cX7_duke 12 = .ok (.iconst 3, 1) := by decide +kernel
theorem dX7_duke_13 : decode cX7_duke 13 = .ok (.invokestatic 57, 3) := by decide +kernel
theorem dX7_duke_16 : decode cX7_duke 16 = .ok (.ifCond .ne 6, 3) := by decide +kernel
theorem dX7_duke_19 : decode cX7_duke 19 = .ok (.bipush (-102), 2) := by decide +kernel
theorem dX7_duke_21 : decode cX7_duke 21 = .ok (.ireturn, 1) := by decide +kernel
theorem dX7_duke_22 : decode cX7_duke 22 = .ok (.aload_n 0, 1) := by decide +kernel
theorem dX7_duke_23 : decode cX7_duke 23 = .ok (.getfield 76, 3) := by decide +kernel
theorem dX7_duke_26 : decode cX7_duke 26 = .ok (.ifCond .eq 19, 3) := by decide +kernel
theorem dX7_duke_29 : decode cX7_duke 29 = .ok (.aload_n 0, 1) := by decide +kernel
theorem dX7_duke_30 : decode cX7_duke 30 = .ok (.iload_n 1, 1) := by decide +kernel
theorem dX7_duke_31 : decode cX7_duke 31 = .ok (.invokevirtual 107, 3) := by decide +kernel
theorem dX7_duke_34 : decode cX7_duke 34 = .ok (.ifCond .ne 14, 3) := by decide +kernel
theorem dX7_duke_37 : decode cX7_duke 37 = .ok (.iload_n 1, 1) := by decide +kernel
theorem dX7_duke_38 : decode cX7_duke 38 = .ok (.aload_n 0, 1) := by decide +kernel
theorem dX7_duke_39 : decode cX7_duke 39 = .ok (.getfield 7, 3) := by decide +kernel
theorem dX7_duke_42 : decode cX7_duke 42 = .ok (.if_icmp .eq 6, 3) := by decide +kernel
theorem dX7_duke_45 : decode cX7_duke 45 = .ok (.bipush (-103), 2) := by decide +kernel
theorem dX7_duke_47 : decode cX7_duke 47 = .ok (.ireturn, 1) := by decide +kernel
theorem dX7_duke_48 : decode cX7_duke 48 = .ok (.aload_n 0, 1) := by decide +kernel
theorem dX7_duke_49 : decode cX7_duke 49 = .ok (.iload_n 1, 1) := by decide +kernel
theorem dX7_duke_50 : decode cX7_duke 50 = .ok (.putfield 7, 3) := by decide +kernel
theorem dX7_duke_53 : decode cX7_duke 53 = .ok (.aload_n 0, 1) := by decide +kernel
theorem dX7_duke_54 : decode cX7_duke 54 = .ok (.iload_n 2, 1) := by decide +kernel
theorem dX7_duke_55 : decode cX7_duke 55 = .ok (.putfield 13, 3) := by decide +kernel
theorem dX7_duke_58 : decode cX7_duke 58 = .ok (.iconst 4, 1) := by decide +kernel
theorem dX7_duke_59 : decode cX7_duke 59 = .ok (.iload_n 1, 1) := by decide +kernel
theorem dX7_duke_60 : decode cX7_duke 60 = .ok (.imul, 1) := by decide +kernel
theorem dX7_duke_61 : decode cX7_duke 61 = .ok (.iload_n 2, 1) := by decide +kernel
theorem dX7_duke_62 : decode cX7_duke 62 = .ok (.iadd, 1) := by decide +kernel
theorem dX7_duke_63 : decode cX7_duke 63 = .ok (.ireturn, 1) := by decide +kernel
theorem dX7_courtier_0 : decode cX7_courtier 0 = .ok (.iload_n 2, 1) := by decide +kernel
theorem dX7_courtier_1 : decode cX7_courtier 1 = .ok (.invokestatic 100, 3) := by decide +kernel
theorem dX7_courtier_4 : decode cX7_courtier 4 = .ok (.ifCond .ne 6, 3) := by decide +kernel
theorem dX7_courtier_7 : decode cX7_courtier 7 = .ok (.bipush (-101), 2) := by decide +kernel
theorem dX7_courtier_9 : decode cX7_courtier 9 = .ok (.ireturn, 1) := by decide +kernel
theorem dX7_courtier_10 : decode cX7_courtier 10 = .ok (.iload_n 1, 1) := by decide +kernel
theorem dX7_courtier_11 : decode cX7_courtier 11 = .ok (.iconst 0, 1) := by decide +kernel
theorem dX7_courtier_12 : decode cX7_courtier 12 = .ok (.iconst 4, 1) := by decide +kernel
theorem dX7_courtier_13 : decode cX7_courtier 13 = .ok (.invokestatic 57, 3) := by decide +kernel
theorem dX7_courtier_16 : decode cX7_courtier 16 = .ok (.ifCond .ne 6, 3) := by decide +kernel
theorem dX7_courtier_19 : decode cX7_courtier 19 = .ok (.bipush (-102), 2) := by decide +kernel
theorem dX7_courtier_21 : decode cX7_courtier 21 = .ok (.ireturn, 1) := by decide +kernel
theorem dX7_courtier_22 : decode cX7_courtier 22 = .ok (.aload_n 0, 1) := by decide +kernel
theorem dX7_courtier_23 : decode cX7_courtier 23 = .ok (.getfield 76, 3) := by decide +kernel
theorem dX7_courtier_26 : decode cX7_courtier 26 = .ok (.ifCond .eq 11, 3) := by decide +kernel
theorem dX7_courtier_29 : decode cX7_courtier 29 = .ok (.aload_n 0, 1) := by decide +kernel
theorem dX7_courtier_30 : decode cX7_courtier 30 = .ok (.iload_n 2, 1) := by decide +kernel
theorem dX7_courtier_31 : decode cX7_courtier 31 = .ok (.invokevirtual 107, 3) := by decide +kernel
theorem dX7_courtier_34 : decode cX7_courtier 34 = .ok (.ifCond .ne 6, 3) := by decide +kernel
theorem dX7_courtier_37 : decode cX7_courtier 37 = .ok (.bipush (-103), 2) := by decide +kernel
theorem dX7_courtier_39 : decode cX7_courtier 39 = .ok (.ireturn, 1) := by decide +kernel
theorem dX7_courtier_40 : decode cX7_courtier 40 = .ok (.aload_n 0, 1) := by decide +kernel
theorem dX7_courtier_41 : decode cX7_courtier 41 = .ok (.getfield 86, 3) := by decide +kernel
theorem dX7_courtier_44 : decode cX7_courtier 44 = .ok (.bipush 6, 2) := by decide +kernel
theorem dX7_courtier_46 : decode cX7_courtier 46 = .ok (.if_icmp .ne 6, 3) := by decide +kernel
theorem dX7_courtier_49 : decode cX7_courtier 49 = .ok (.bipush (-104), 2) := by decide +kernel
theorem dX7_courtier_51 : decode cX7_courtier 51 = .ok (.ireturn, 1) := by decide +kernel
theorem dX7_courtier_52 : decode cX7_courtier 52 = .ok (.aload_n 0, 1) := by decide +kernel
theorem dX7_courtier_53 : decode cX7_courtier 53 = .ok (.iload_n 1, 1) := by decide +kernel
theorem dX7_courtier_54 : decode cX7_courtier 54 = .ok (.iload_n 2, 1) := by decide +kernel
theorem dX7_courtier_55 : decode cX7_courtier 55 = .ok (.invokevirtual 110, 3) := by decide +kernel
theorem dX7_courtier_58 : decode cX7_courtier 58 = .ok (.aload_n 0, 1) := by decide +kernel
theorem dX7_courtier_59 : decode cX7_courtier 59 = .ok (.getfield 86, 3) := by decide +kernel
theorem dX7_courtier_62 : decode cX7_courtier 62 = .ok (.iconst 1, 1) := by decide +kernel
theorem dX7_courtier_63 : decode cX7_courtier 63 = .ok (.isub, 1) := by decide +kernel
theorem dX7_courtier_64 : decode cX7_courtier 64 = .ok (.ireturn, 1) := by decide +kernel
theorem dX7_lay_0 : decode cX7_lay 0 = .ok (.aload_n 0, 1) := by decide +kernel
theorem dX7_lay_1 : decode cX7_lay 1 = .ok (.getfield 16, 3) := by decide +kernel
theorem dX7_lay_4 : decode cX7_lay 4 = .ok (.aload_n 0, 1) := by decide +kernel
theorem dX7_lay_5 : decode cX7_lay 5 = .ok (.getfield 86, 3) := by decide +kernel
theorem dX7_lay_8 : decode cX7_lay 8 = .ok (.iload_n 1, 1) := by decide +kernel
theorem dX7_lay_9 : decode cX7_lay 9 = .ok (.iastore, 1) := by decide +kernel
theorem dX7_lay_10 : decode cX7_lay 10 = .ok (.aload_n 0, 1) := by decide +kernel
theorem dX7_lay_11 : decode cX7_lay 11 = .ok (.getfield 20, 3) := by decide +kernel
theorem dX7_lay_14 : decode cX7_lay 14 = .ok (.aload_n 0, 1) := by decide +kernel
theorem dX7_lay_15 : decode cX7_lay 15 = .ok (.getfield 86, 3) := by decide +kernel
theorem dX7_lay_18 : decode cX7_lay 18 = .ok (.iload_n 2, 1) := by decide +kernel
theorem dX7_lay_19 : decode cX7_lay 19 = .ok (.iastore, 1) := by decide +kernel
theorem dX7_lay_20 : decode cX7_lay 20 = .ok (.aload_n 0, 1) := by decide +kernel
theorem dX7_lay_21 : decode cX7_lay 21 = .ok (.getfield 23, 3) := by decide +kernel
theorem dX7_lay_24 : decode cX7_lay 24 = .ok (.aload_n 0, 1) := by decide +kernel
theorem dX7_lay_25 : decode cX7_lay 25 = .ok (.getfield 86, 3) := by decide +kernel
theorem dX7_lay_28 : decode cX7_lay 28 = .ok (.iconst 0, 1) := by decide +kernel
theorem dX7_lay_29 : decode cX7_lay 29 = .ok (.iastore, 1) := by decide +kernel
theorem dX7_lay_30 : decode cX7_lay 30 = .ok (.aload_n 0, 1) := by decide +kernel
theorem dX7_lay_31 : decode cX7_lay 31 = .ok (.getfield 26, 3) := by decide +kernel
theorem dX7_lay_34 : decode cX7_lay 34 = .ok (.aload_n 0, 1) := by decide +kernel
theorem dX7_lay_35 : decode cX7_lay 35 = .ok (.getfield 86, 3) := by decide +kernel
theorem dX7_lay_38 : decode cX7_lay 38 = .ok (.iconst 0, 1) := by decide +kernel
theorem dX7_lay_39 : decode cX7_lay 39 = .ok (.iastore, 1) := by decide +kernel
theorem dX7_lay_40 : decode cX7_lay 40 = .ok (.aload_n 0, 1) := by decide +kernel
theorem dX7_lay_41 : decode cX7_lay 41 = .ok (.getfield 29, 3) := by decide +kernel
theorem dX7_lay_44 : decode cX7_lay 44 = .ok (.aload_n 0, 1) := by decide +kernel
theorem dX7_lay_45 : decode cX7_lay 45 = .ok (.getfield 86, 3) := by decide +kernel
theorem dX7_lay_48 : decode cX7_lay 48 = .ok (.iconst (-1), 1) := by decide +kernel
theorem dX7_lay_49 : decode cX7_lay 49 = .ok (.iastore, 1) := by decide +kernel
theorem dX7_lay_50 : decode cX7_lay 50 = .ok (.aload_n 0, 1) := by decide +kernel
theorem dX7_lay_51 : decode cX7_lay 51 = .ok (.dup, 1) := by decide +kernel
theorem dX7_lay_52 : decode cX7_lay 52 = .ok (.getfield 86, 3) := by decide +kernel
theorem dX7_lay_55 : decode cX7_lay 55 = .ok (.iconst 1, 1) := by decide +kernel
theorem dX7_lay_56 : decode cX7_lay 56 = .ok (.iadd, 1) := by decide +kernel
theorem dX7_lay_57 : decode cX7_lay 57 = .ok (.putfield 86, 3) := by decide +kernel
theorem dX7_lay_60 : decode cX7_lay 60 = .ok (.return_, 1) := by decide +kernel
theorem dX7_isCourtier_0 : decode cX7_isCourtier 0 = .ok (.iload_n 1, 1) := by decide +kernel
theorem dX7_isCourtier_1 : decode cX7_isCourtier 1 = .ok (.iconst 0, 1) := by decide +kernel
theorem dX7_isCourtier_2 : decode cX7_isCourtier 2 = .ok (.aload_n 0, 1) := by decide +kernel
theorem dX7_isCourtier_3 : decode cX7_isCourtier 3 = .ok (.getfield 86, 3) := by decide +kernel
theorem dX7_isCourtier_6 : decode cX7_isCourtier 6 = .ok (.iconst 1, 1) := by decide +kernel
theorem dX7_isCourtier_7 : decode cX7_isCourtier 7 = .ok (.isub, 1) := by decide +kernel
theorem dX7_isCourtier_8 : decode cX7_isCourtier 8 = .ok (.invokestatic 57, 3) := by decide +kernel
theorem dX7_isCourtier_11 : decode cX7_isCourtier 11 = .ok (.ireturn, 1) := by decide +kernel
theorem dX7_sign_0 : decode cX7_sign 0 = .ok (.iload_n 0, 1) := by decide +kernel
theorem dX7_sign_1 : decode cX7_sign 1 = .ok (.ifCond .le 7, 3) := by decide +kernel
theorem dX7_sign_4 : decode cX7_sign 4 = .ok (.iconst 1, 1) := by decide +kernel
theorem dX7_sign_5 : decode cX7_sign 5 = .ok (.goto 12, 3) := by decide +kernel
theorem dX7_sign_8 : decode cX7_sign 8 = .ok (.iload_n 0, 1) := by decide +kernel
theorem dX7_sign_9 : decode cX7_sign 9 = .ok (.ifCond .ge 7, 3) := by decide +kernel
theorem dX7_sign_12 : decode cX7_sign 12 = .ok (.iconst (-1), 1) := by decide +kernel
theorem dX7_sign_13 : decode cX7_sign 13 = .ok (.goto 4, 3) := by decide +kernel
theorem dX7_sign_16 : decode cX7_sign 16 = .ok (.iconst 0, 1) := by decide +kernel
theorem dX7_sign_17 : decode cX7_sign 17 = .ok (.ireturn, 1) := by decide +kernel
theorem dX7_sized_0 : decode cX7_sized 0 = .ok (.iload_n 0, 1) := by decide +kernel
theorem dX7_sized_1 : decode cX7_sized 1 = .ok (.ifCond .ge 8, 3) := by decide +kernel
theorem dX7_sized_4 : decode cX7_sized 4 = .ok (.iload_n 0, 1) := by decide +kernel
theorem dX7_sized_5 : decode cX7_sized 5 = .ok (.ineg, 1) := by decide +kernel
theorem dX7_sized_6 : decode cX7_sized 6 = .ok (.goto 4, 3) := by decide +kernel
theorem dX7_sized_9 : decode cX7_sized 9 = .ok (.iload_n 0, 1) := by decide +kernel
theorem dX7_sized_10 : decode cX7_sized 10 = .ok (.ireturn, 1) := by decide +kernel
theorem dX7_wayTo_0 : decode cX7_wayTo 0 = .ok (.iload_n 1, 1) := by decide +kernel
theorem dX7_wayTo_1 : decode cX7_wayTo 1 = .ok (.iconst 5, 1) := by decide +kernel
theorem dX7_wayTo_2 : decode cX7_wayTo 2 = .ok (.idiv, 1) := by decide +kernel
theorem dX7_wayTo_3 : decode cX7_wayTo 3 = .ok (.iload_n 0, 1) := by decide +kernel
theorem dX7_wayTo_4 : decode cX7_wayTo 4 = .ok (.iconst 5, 1) := by decide +kernel
theorem dX7_wayTo_5 : decode cX7_wayTo 5 = .ok (.idiv, 1) := by decide +kernel
theorem dX7_wayTo_6 : decode cX7_wayTo 6 = .ok (.isub, 1) := by decide +kernel
theorem dX7_wayTo_7 : decode cX7_wayTo 7 = .ok (.istore_n 2, 1) := by decide +kernel
theorem dX7_wayTo_8 : decode cX7_wayTo 8 = .ok (.iload_n 1, 1) := by decide +kernel
theorem dX7_wayTo_9 : decode cX7_wayTo 9 = .ok (.iconst 5, 1) := by decide +kernel
theorem dX7_wayTo_10 : decode cX7_wayTo 10 = .ok (.irem, 1) := by decide +kernel
theorem dX7_wayTo_11 : decode cX7_wayTo 11 = .ok (.iload_n 0, 1) := by decide +kernel
theorem dX7_wayTo_12 : decode cX7_wayTo 12 = .ok (.iconst 5, 1) := by decide +kernel
theorem dX7_wayTo_13 : decode cX7_wayTo 13 = .ok (.irem, 1) := by decide +kernel
theorem dX7_wayTo_14 : decode cX7_wayTo 14 = .ok (.isub, 1) := by decide +kernel
theorem dX7_wayTo_15 : decode cX7_wayTo 15 = .ok (.istore_n 3, 1) := by decide +kernel
theorem dX7_wayTo_16 : decode cX7_wayTo 16 = .ok (.iload_n 2, 1) := by decide +kernel
theorem dX7_wayTo_17 : decode cX7_wayTo 17 = .ok (.ifCond .ne 7, 3) := by decide +kernel
theorem dX7_wayTo_20 : decode cX7_wayTo 20 = .ok (.iload_n 3, 1) := by decide +kernel
theorem dX7_wayTo_21 : decode cX7_wayTo 21 = .ok (.ifCond .eq 22, 3) := by decide +kernel
theorem dX7_wayTo_24 : decode cX7_wayTo 24 = .ok (.iload_n 2, 1) := by decide +kernel
theorem dX7_wayTo_25 : decode cX7_wayTo 25 = .ok (.ifCond .eq 20, 3) := by decide +kernel
theorem dX7_wayTo_28 : decode cX7_wayTo 28 = .ok (.iload_n 3, 1) := by decide +kernel
theorem dX7_wayTo_29 : decode cX7_wayTo 29 = .ok (.ifCond .eq 16, 3) := by decide +kernel
theorem dX7_wayTo_32 : decode cX7_wayTo 32 = .ok (.iload_n 2, 1) := by decide +kernel
theorem dX7_wayTo_33 : decode cX7_wayTo 33 = .ok (.invokestatic 114, 3) := by decide +kernel
theorem dX7_wayTo_36 : decode cX7_wayTo 36 = .ok (.iload_n 3, 1) := by decide +kernel
theorem dX7_wayTo_37 : decode cX7_wayTo 37 = .ok (.invokestatic 114, 3) := by decide +kernel
theorem dX7_wayTo_40 : decode cX7_wayTo 40 = .ok (.if_icmp .eq 5, 3) := by decide +kernel
theorem dX7_wayTo_43 : decode cX7_wayTo 43 = .ok (.iconst (-1), 1) := by decide +kernel
theorem dX7_wayTo_44 : decode cX7_wayTo 44 = .ok (.ireturn, 1) := by decide +kernel
theorem dX7_wayTo_45 : decode cX7_wayTo 45 = .ok (.iconst 3, 1) := by decide +kernel
theorem dX7_wayTo_46 : decode cX7_wayTo 46 = .ok (.iload_n 2, 1) := by decide +kernel
theorem dX7_wayTo_47 : decode cX7_wayTo 47 = .ok (.invokestatic 117, 3) := by decide +kernel
theorem dX7_wayTo_50 : decode cX7_wayTo 50 = .ok (.imul, 1) := by decide +kernel
theorem dX7_wayTo_51 : decode cX7_wayTo 51 = .ok (.iload_n 3, 1) := by decide +kernel
theorem dX7_wayTo_52 : decode cX7_wayTo 52 = .ok (.invokestatic 117, 3) := by decide +kernel
theorem dX7_wayTo_55 : decode cX7_wayTo 55 = .ok (.iadd, 1) := by decide +kernel
theorem dX7_wayTo_56 : decode cX7_wayTo 56 = .ok (.istore 4, 2) := by decide +kernel
theorem dX7_wayTo_58 : decode cX7_wayTo 58 = .ok (.iload 4, 2) := by decide +kernel
theorem dX7_wayTo_60 : decode cX7_wayTo 60 = .ok (.tableswitch 63 (-3) 4 #[48, 50, 60, 63, 52, 58, 56, 54], 48) := by decide +kernel
theorem dX7_wayTo_108 : decode cX7_wayTo 108 = .ok (.iconst 0, 1) := by decide +kernel
theorem dX7_wayTo_109 : decode cX7_wayTo 109 = .ok (.ireturn, 1) := by decide +kernel
theorem dX7_wayTo_110 : decode cX7_wayTo 110 = .ok (.iconst 1, 1) := by decide +kernel
theorem dX7_wayTo_111 : decode cX7_wayTo 111 = .ok (.ireturn, 1) := by decide +kernel
theorem dX7_wayTo_112 : decode cX7_wayTo 112 = .ok (.iconst 2, 1) := by decide +kernel
theorem dX7_wayTo_113 : decode cX7_wayTo 113 = .ok (.ireturn, 1) := by decide +kernel
theorem dX7_wayTo_114 : decode cX7_wayTo 114 = .ok (.iconst 3, 1) := by decide +kernel
theorem dX7_wayTo_115 : decode cX7_wayTo 115 = .ok (.ireturn, 1) := by decide +kernel
theorem dX7_wayTo_116 : decode cX7_wayTo 116 = .ok (.iconst 4, 1) := by decide +kernel
theorem dX7_wayTo_117 : decode cX7_wayTo 117 = .ok (.ireturn, 1) := by decide +kernel
theorem dX7_wayTo_118 : decode cX7_wayTo 118 = .ok (.iconst 5, 1) := by decide +kernel
theorem dX7_wayTo_119 : decode cX7_wayTo 119 = .ok (.ireturn, 1) := by decide +kernel
theorem dX7_wayTo_120 : decode cX7_wayTo 120 = .ok (.bipush 6, 2) := by decide +kernel
theorem dX7_wayTo_122 : decode cX7_wayTo 122 = .ok (.ireturn, 1) := by decide +kernel
theorem dX7_wayTo_123 : decode cX7_wayTo 123 = .ok (.bipush 7, 2) := by decide +kernel
theorem dX7_wayTo_125 : decode cX7_wayTo 125 = .ok (.ireturn, 1) := by decide +kernel
theorem dX7_far_0 : decode cX7_far 0 = .ok (.iload_n 1, 1) := by decide +kernel
theorem dX7_far_1 : decode cX7_far 1 = .ok (.iconst 5, 1) := by decide +kernel
theorem dX7_far_2 : decode cX7_far 2 = .ok (.idiv, 1) := by decide +kernel
theorem dX7_far_3 : decode cX7_far 3 = .ok (.iload_n 0, 1) := by decide +kernel
theorem dX7_far_4 : decode cX7_far 4 = .ok (.iconst 5, 1) := by decide +kernel
theorem dX7_far_5 : decode cX7_far 5 = .ok (.idiv, 1) := by decide +kernel
theorem dX7_far_6 : decode cX7_far 6 = .ok (.isub, 1) := by decide +kernel
theorem dX7_far_7 : decode cX7_far 7 = .ok (.invokestatic 114, 3) := by decide +kernel
theorem dX7_far_10 : decode cX7_far 10 = .ok (.istore_n 2, 1) := by decide +kernel
theorem dX7_far_11 : decode cX7_far 11 = .ok (.iload_n 1, 1) := by decide +kernel
theorem dX7_far_12 : decode cX7_far 12 = .ok (.iconst 5, 1) := by decide +kernel
theorem dX7_far_13 : decode cX7_far 13 = .ok (.irem, 1) := by decide +kernel
theorem dX7_far_14 : decode cX7_far 14 = .ok (.iload_n 0, 1) := by decide +kernel
theorem dX7_far_15 : decode cX7_far 15 = .ok (.iconst 5, 1) := by decide +kernel
theorem dX7_far_16 : decode cX7_far 16 = .ok (.irem, 1) := by decide +kernel
theorem dX7_far_17 : decode cX7_far 17 = .ok (.isub, 1) := by decide +kernel
theorem dX7_far_18 : decode cX7_far 18 = .ok (.invokestatic 114, 3) := by decide +kernel
theorem dX7_far_21 : decode cX7_far 21 = .ok (.istore_n 3, 1) := by decide +kernel
theorem dX7_far_22 : decode cX7_far 22 = .ok (.iload_n 2, 1) := by decide +kernel
theorem dX7_far_23 : decode cX7_far 23 = .ok (.iload_n 3, 1) := by decide +kernel
theorem dX7_far_24 : decode cX7_far 24 = .ok (.if_icmp .le 7, 3) := by decide +kernel
theorem dX7_far_27 : decode cX7_far 27 = .ok (.iload_n 2, 1) := by decide +kernel
theorem dX7_far_28 : decode cX7_far 28 = .ok (.goto 4, 3) := by decide +kernel
theorem dX7_far_31 : decode cX7_far 31 = .ok (.iload_n 3, 1) := by decide +kernel
theorem dX7_far_32 : decode cX7_far 32 = .ok (.ireturn, 1) := by decide +kernel
theorem dX7_isClear_0 : decode cX7_isClear 0 = .ok (.iconst 5, 1) := by decide +kernel
theorem dX7_isClear_1 : decode cX7_isClear 1 = .ok (.iload_n 2, 1) := by decide +kernel
theorem dX7_isClear_2 : decode cX7_isClear 2 = .ok (.iconst 5, 1) := by decide +kernel
theorem dX7_isClear_3 : decode cX7_isClear 3 = .ok (.idiv, 1) := by decide +kernel
theorem dX7_isClear_4 : decode cX7_isClear 4 = .ok (.iload_n 1, 1) := by decide +kernel
theorem dX7_isClear_5 : decode cX7_isClear 5 = .ok (.iconst 5, 1) := by decide +kernel
theorem dX7_isClear_6 : decode cX7_isClear 6 = .ok (.idiv, 1) := by decide +kernel
theorem dX7_isClear_7 : decode cX7_isClear 7 = .ok (.isub, 1) := by decide +kernel
theorem dX7_isClear_8 : decode cX7_isClear 8 = .ok (.invokestatic 117, 3) := by decide +kernel
theorem dX7_isClear_11 : decode cX7_isClear 11 = .ok (.imul, 1) := by decide +kernel
theorem dX7_isClear_12 : decode cX7_isClear 12 = .ok (.iload_n 2, 1) := by decide +kernel
theorem dX7_isClear_13 : decode cX7_isClear 13 = .ok (.iconst 5, 1) := by decide +kernel
theorem dX7_isClear_14 : decode cX7_isClear 14 = .ok (.irem, 1) := by decide +kernel
theorem dX7_isClear_15 : decode cX7_isClear 15 = .ok (.iload_n 1, 1) := by decide +kernel
theorem dX7_isClear_16 : decode cX7_isClear 16 = .ok (.iconst 5, 1) := by decide +kernel
theorem dX7_isClear_17 : decode cX7_isClear 17 = .ok (.irem, 1) := by decide +kernel
theorem dX7_isClear_18 : decode cX7_isClear 18 = .ok (.isub, 1) := by decide +kernel
theorem dX7_isClear_19 : decode cX7_isClear 19 = .ok (.invokestatic 117, 3) := by decide +kernel
theorem dX7_isClear_22 : decode cX7_isClear 22 = .ok (.iadd, 1) := by decide +kernel
theorem dX7_isClear_23 : decode cX7_isClear 23 = .ok (.istore 4, 2) := by decide +kernel
theorem dX7_isClear_25 : decode cX7_isClear 25 = .ok (.iconst 1, 1) := by decide +kernel
theorem dX7_isClear_26 : decode cX7_isClear 26 = .ok (.istore 5, 2) := by decide +kernel
theorem dX7_isClear_28 : decode cX7_isClear 28 = .ok (.iload_n 1, 1) := by decide +kernel
theorem dX7_isClear_29 : decode cX7_isClear 29 = .ok (.iload 4, 2) := by decide +kernel
theorem dX7_isClear_31 : decode cX7_isClear 31 = .ok (.iadd, 1) := by decide +kernel
theorem dX7_isClear_32 : decode cX7_isClear 32 = .ok (.istore 6, 2) := by decide +kernel
theorem dX7_isClear_34 : decode cX7_isClear 34 = .ok (.iload 6, 2) := by decide +kernel
theorem dX7_isClear_36 : decode cX7_isClear 36 = .ok (.iload_n 2, 1) := by decide +kernel
theorem dX7_isClear_37 : decode cX7_isClear 37 = .ok (.if_icmp .eq 51, 3) := by decide +kernel
theorem dX7_isClear_40 : decode cX7_isClear 40 = .ok (.iload 5, 2) := by decide +kernel
theorem dX7_isClear_42 : decode cX7_isClear 42 = .ok (.ifCond .eq 33, 3) := by decide +kernel
theorem dX7_isClear_45 : decode cX7_isClear 45 = .ok (.aload_n 0, 1) := by decide +kernel
theorem dX7_isClear_46 : decode cX7_isClear 46 = .ok (.getfield 73, 3) := by decide +kernel
theorem dX7_isClear_49 : decode cX7_isClear 49 = .ok (.iload 6, 2) := by decide +kernel
theorem dX7_isClear_51 : decode cX7_isClear 51 = .ok (.invokestatic 93, 3) := by decide +kernel
theorem dX7_isClear_54 : decode cX7_isClear 54 = .ok (.ifCond .eq 21, 3) := by decide +kernel
theorem dX7_isClear_57 : decode cX7_isClear 57 = .ok (.iload_n 3, 1) := by decide +kernel
theorem dX7_isClear_58 : decode cX7_isClear 58 = .ok (.ifCond .eq 13, 3) := by decide +kernel
theorem dX7_isClear_61 : decode cX7_isClear 61 = .ok (.aload_n 0, 1) := by decide +kernel
theorem dX7_isClear_62 : decode cX7_isClear 62 = .ok (.iload 6, 2) := by decide +kernel
theorem dX7_isClear_64 : decode cX7_isClear 64 = .ok (.invokevirtual 97, 3) := by decide +kernel
theorem dX7_isClear_67 : decode cX7_isClear 67 = .ok (.iconst (-1), 1) := by decide +kernel
theorem dX7_isClear_68 : decode cX7_isClear 68 = .ok (.if_icmp .ne 7, 3) := by decide +kernel
theorem dX7_isClear_71 : decode cX7_isClear 71 = .ok (.iconst 1, 1) := by decide +kernel
theorem dX7_isClear_72 : decode cX7_isClear 72 = .ok (.goto 4, 3) := by decide +kernel
theorem dX7_isClear_75 : decode cX7_isClear 75 = .ok (.iconst 0, 1) := by decide +kernel
theorem dX7_isClear_76 : decode cX7_isClear 76 = .ok (.istore 5, 2) := by decide +kernel
theorem dX7_isClear_78 : decode cX7_isClear 78 = .ok (.iload 6, 2) := by decide +kernel
theorem dX7_isClear_80 : decode cX7_isClear 80 = .ok (.iload 4, 2) := by decide +kernel
theorem dX7_isClear_82 : decode cX7_isClear 82 = .ok (.iadd, 1) := by decide +kernel
theorem dX7_isClear_83 : decode cX7_isClear 83 = .ok (.istore 6, 2) := by decide +kernel
theorem dX7_isClear_85 : decode cX7_isClear 85 = .ok (.goto (-51), 3) := by decide +kernel
theorem dX7_isClear_88 : decode cX7_isClear 88 = .ok (.iload 5, 2) := by decide +kernel
theorem dX7_isClear_90 : decode cX7_isClear 90 = .ok (.ireturn, 1) := by decide +kernel
theorem dX7_seesNow_0 : decode cX7_seesNow 0 = .ok (.aload_n 0, 1) := by decide +kernel
theorem dX7_seesNow_1 : decode cX7_seesNow 1 = .ok (.getfield 7, 3) := by decide +kernel
theorem dX7_seesNow_4 : decode cX7_seesNow 4 = .ok (.iconst (-1), 1) := by decide +kernel
theorem dX7_seesNow_5 : decode cX7_seesNow 5 = .ok (.if_icmp .ne 7, 3) := by decide +kernel
theorem dX7_seesNow_8 : decode cX7_seesNow 8 = .ok (.iconst (-1), 1) := by decide +kernel
theorem dX7_seesNow_9 : decode cX7_seesNow 9 = .ok (.goto 16, 3) := by decide +kernel
theorem dX7_seesNow_12 : decode cX7_seesNow 12 = .ok (.aload_n 0, 1) := by decide +kernel
theorem dX7_seesNow_13 : decode cX7_seesNow 13 = .ok (.getfield 7, 3) := by decide +kernel
theorem dX7_seesNow_16 : decode cX7_seesNow 16 = .ok (.aload_n 0, 1) := by decide +kernel
theorem dX7_seesNow_17 : decode cX7_seesNow 17 = .ok (.getfield 20, 3) := by decide +kernel
theorem dX7_seesNow_20 : decode cX7_seesNow 20 = .ok (.iload_n 1, 1) := by decide +kernel
theorem dX7_seesNow_21 : decode cX7_seesNow 21 = .ok (.iaload, 1) := by decide +kernel
theorem dX7_seesNow_22 : decode cX7_seesNow 22 = .ok (.invokestatic 120, 3) := by decide +kernel
theorem dX7_seesNow_25 : decode cX7_seesNow 25 = .ok (.istore_n 2, 1) := by decide +kernel
theorem dX7_seesNow_26 : decode cX7_seesNow 26 = .ok (.iload_n 2, 1) := by decide +kernel
theorem dX7_seesNow_27 : decode cX7_seesNow 27 = .ok (.iconst (-1), 1) := by decide +kernel
theorem dX7_seesNow_28 : decode cX7_seesNow 28 = .ok (.if_icmp .eq 30, 3) := by decide +kernel
theorem dX7_seesNow_31 : decode cX7_seesNow 31 = .ok (.aload_n 0, 1) := by decide +kernel
theorem dX7_seesNow_32 : decode cX7_seesNow 32 = .ok (.getfield 16, 3) := by decide +kernel
theorem dX7_seesNow_35 : decode cX7_seesNow 35 = .ok (.iload_n 1, 1) := by decide +kernel
theorem dX7_seesNow_36 : decode cX7_seesNow 36 = .ok (.iaload, 1) := by decide +kernel
theorem dX7_seesNow_37 : decode cX7_seesNow 37 = .ok (.iconst 2, 1) := by decide +kernel
theorem dX7_seesNow_38 : decode cX7_seesNow 38 = .ok (.if_icmp .ne 22, 3) := by decide +kernel
theorem dX7_seesNow_41 : decode cX7_seesNow 41 = .ok (.aload_n 0, 1) := by decide +kernel
theorem dX7_seesNow_42 : decode cX7_seesNow 42 = .ok (.getfield 7, 3) := by decide +kernel
theorem dX7_seesNow_45 : decode cX7_seesNow 45 = .ok (.aload_n 0, 1) := by decide +kernel
theorem dX7_seesNow_46 : decode cX7_seesNow 46 = .ok (.getfield 20, 3) := by decide +kernel
theorem dX7_seesNow_49 : decode cX7_seesNow 49 = .ok (.iload_n 1, 1) := by decide +kernel
theorem dX7_seesNow_50 : decode cX7_seesNow 50 = .ok (.iaload, 1) := by decide +kernel
theorem dX7_seesNow_51 : decode cX7_seesNow 51 = .ok (.invokestatic 124, 3) := by decide +kernel
theorem dX7_seesNow_54 : decode cX7_seesNow 54 = .ok (.iconst 2, 1) := by decide +kernel
theorem dX7_seesNow_55 : decode cX7_seesNow 55 = .ok (.if_icmp .le 5, 3) := by decide +kernel
theorem dX7_seesNow_58 : decode cX7_seesNow 58 = .ok (.iconst 0, 1) := by decide +kernel
theorem dX7_seesNow_59 : decode cX7_seesNow 59 = .ok (.ireturn, 1) := by decide +kernel
theorem dX7_seesNow_60 : decode cX7_seesNow 60 = .ok (.aload_n 0, 1) := by decide +kernel
theorem dX7_seesNow_61 : decode cX7_seesNow 61 = .ok (.aload_n 0, 1) := by decide +kernel
theorem dX7_seesNow_62 : decode cX7_seesNow 62 = .ok (.getfield 7, 3) := by decide +kernel
theorem dX7_seesNow_65 : decode cX7_seesNow 65 = .ok (.aload_n 0, 1) := by decide +kernel
theorem dX7_seesNow_66 : decode cX7_seesNow 66 = .ok (.getfield 20, 3) := by decide +kernel
theorem dX7_seesNow_69 : decode cX7_seesNow 69 = .ok (.iload_n 1, 1) := by decide +kernel
theorem dX7_seesNow_70 : decode cX7_seesNow 70 = .ok (.iaload, 1) := by decide +kernel
theorem dX7_seesNow_71 : decode cX7_seesNow 71 = .ok (.aload_n 0, 1) := by decide +kernel
theorem dX7_seesNow_72 : decode cX7_seesNow 72 = .ok (.getfield 16, 3) := by decide +kernel
theorem dX7_seesNow_75 : decode cX7_seesNow 75 = .ok (.iload_n 1, 1) := by decide +kernel
theorem dX7_seesNow_76 : decode cX7_seesNow 76 = .ok (.iaload, 1) := by decide +kernel
theorem dX7_seesNow_77 : decode cX7_seesNow 77 = .ok (.iconst 3, 1) := by decide +kernel
theorem dX7_seesNow_78 : decode cX7_seesNow 78 = .ok (.if_icmp .eq 17, 3) := by decide +kernel
theorem dX7_seesNow_81 : decode cX7_seesNow 81 = .ok (.aload_n 0, 1) := by decide +kernel
theorem dX7_seesNow_82 : decode cX7_seesNow 82 = .ok (.getfield 16, 3) := by decide +kernel
theorem dX7_seesNow_85 : decode cX7_seesNow 85 = .ok (.iload_n 1, 1) := by decide +kernel
theorem dX7_seesNow_86 : decode cX7_seesNow 86 = .ok (.iaload, 1) := by decide +kernel
theorem dX7_seesNow_87 : decode cX7_seesNow 87 = .ok (.iconst 4, 1) := by decide +kernel
theorem dX7_seesNow_88 : decode cX7_seesNow 88 = .ok (.if_icmp .eq 7, 3) := by decide +kernel
theorem dX7_seesNow_91 : decode cX7_seesNow 91 = .ok (.iconst 1, 1) := by decide +kernel
theorem dX7_seesNow_92 : decode cX7_seesNow 92 = .ok (.goto 4, 3) := by decide +kernel
theorem dX7_seesNow_95 : decode cX7_seesNow 95 = .ok (.iconst 0, 1) := by decide +kernel
theorem dX7_seesNow_96 : decode cX7_seesNow 96 = .ok (.invokevirtual 127, 3) := by decide +kernel
theorem dX7_seesNow_99 : decode cX7_seesNow 99 = .ok (.ifCond .ne 5, 3) := by decide +kernel
theorem dX7_seesNow_102 : decode cX7_seesNow 102 = .ok (.iconst 0, 1) := by decide +kernel
theorem dX7_seesNow_103 : decode cX7_seesNow 103 = .ok (.ireturn, 1) := by decide +kernel
theorem dX7_seesNow_104 : decode cX7_seesNow 104 = .ok (.iload_n 2, 1) := by decide +kernel
theorem dX7_seesNow_105 : decode cX7_seesNow 105 = .ok (.iconst 2, 1) := by decide +kernel
theorem dX7_seesNow_106 : decode cX7_seesNow 106 = .ok (.aload_n 0, 1) := by decide +kernel
theorem dX7_seesNow_107 : decode cX7_seesNow 107 = .ok (.getfield 13, 3) := by decide +kernel
theorem dX7_seesNow_110 : decode cX7_seesNow 110 = .ok (.imul, 1) := by decide +kernel
theorem dX7_seesNow_111 : decode cX7_seesNow 111 = .ok (.isub, 1) := by decide +kernel
theorem dX7_seesNow_112 : decode cX7_seesNow 112 = .ok (.bipush 8, 2) := by decide +kernel
theorem dX7_seesNow_114 : decode cX7_seesNow 114 = .ok (.iadd, 1) := by decide +kernel
theorem dX7_seesNow_115 : decode cX7_seesNow 115 = .ok (.bipush 8, 2) := by decide +kernel
theorem dX7_seesNow_117 : decode cX7_seesNow 117 = .ok (.irem, 1) := by decide +kernel
theorem dX7_seesNow_118 : decode cX7_seesNow 118 = .ok (.istore_n 3, 1) := by decide +kernel
theorem dX7_seesNow_119 : decode cX7_seesNow 119 = .ok (.iload_n 3, 1) := by decide +kernel
theorem dX7_seesNow_120 : decode cX7_seesNow 120 = .ok (.ifCond .ne 19, 3) := by decide +kernel
theorem dX7_seesNow_123 : decode cX7_seesNow 123 = .ok (.aload_n 0, 1) := by decide +kernel
theorem dX7_seesNow_124 : decode cX7_seesNow 124 = .ok (.getfield 16, 3) := by decide +kernel
theorem dX7_seesNow_127 : decode cX7_seesNow 127 = .ok (.iload_n 1, 1) := by decide +kernel
theorem dX7_seesNow_128 : decode cX7_seesNow 128 = .ok (.iaload, 1) := by decide +kernel
theorem dX7_seesNow_129 : decode cX7_seesNow 129 = .ok (.iconst 1, 1) := by decide +kernel
theorem dX7_seesNow_130 : decode cX7_seesNow 130 = .ok (.if_icmp .ne 7, 3) := by decide +kernel
theorem dX7_seesNow_133 : decode cX7_seesNow 133 = .ok (.iconst 0, 1) := by decide +kernel
theorem dX7_seesNow_134 : decode cX7_seesNow 134 = .ok (.goto 4, 3) := by decide +kernel
theorem dX7_seesNow_137 : decode cX7_seesNow 137 = .ok (.iconst 3, 1) := by decide +kernel
theorem dX7_seesNow_138 : decode cX7_seesNow 138 = .ok (.ireturn, 1) := by decide +kernel
theorem dX7_seesNow_139 : decode cX7_seesNow 139 = .ok (.iload_n 3, 1) := by decide +kernel
theorem dX7_seesNow_140 : decode cX7_seesNow 140 = .ok (.iconst 4, 1) := by decide +kernel
theorem dX7_seesNow_141 : decode cX7_seesNow 141 = .ok (.if_icmp .ne 7, 3) := by decide +kernel
theorem dX7_seesNow_144 : decode cX7_seesNow 144 = .ok (.iconst 4, 1) := by decide +kernel
theorem dX7_seesNow_145 : decode cX7_seesNow 145 = .ok (.goto 13, 3) := by decide +kernel
theorem dX7_seesNow_148 : decode cX7_seesNow 148 = .ok (.iload_n 3, 1) := by decide +kernel
theorem dX7_seesNow_149 : decode cX7_seesNow 149 = .ok (.iconst 4, 1) := by decide +kernel
theorem dX7_seesNow_150 : decode cX7_seesNow 150 = .ok (.if_icmp .ge 7, 3) := by decide +kernel
theorem dX7_seesNow_153 : decode cX7_seesNow 153 = .ok (.iconst 2, 1) := by decide +kernel
theorem dX7_seesNow_154 : decode cX7_seesNow 154 = .ok (.goto 4, 3) := by decide +kernel
theorem dX7_seesNow_157 : decode cX7_seesNow 157 = .ok (.iconst 1, 1) := by decide +kernel
theorem dX7_seesNow_158 : decode cX7_seesNow 158 = .ok (.ireturn, 1) := by decide +kernel
theorem dX7_isGuilty_0 : decode cX7_isGuilty 0 = .ok (.aload_n 0, 1) := by decide +kernel
theorem dX7_isGuilty_1 : decode cX7_isGuilty 1 = .ok (.iload_n 1, 1) := by decide +kernel
theorem dX7_isGuilty_2 : decode cX7_isGuilty 2 = .ok (.invokevirtual 131, 3) := by decide +kernel
theorem dX7_isGuilty_5 : decode cX7_isGuilty 5 = .ok (.istore_n 2, 1) := by decide +kernel
theorem dX7_isGuilty_6 : decode cX7_isGuilty 6 = .ok (.iload_n 2, 1) := by decide +kernel
theorem dX7_isGuilty_7 : decode cX7_isGuilty 7 = .ok (.iconst 2, 1) := by decide +kernel
theorem dX7_isGuilty_8 : decode cX7_isGuilty 8 = .ok (.if_icmp .eq 8, 3) := by decide +kernel
theorem dX7_isGuilty_11 : decode cX7_isGuilty 11 = .ok (.iload_n 2, 1) := by decide +kernel
theorem dX7_isGuilty_12 : decode cX7_isGuilty 12 = .ok (.iconst 3, 1) := by decide +kernel
theorem dX7_isGuilty_13 : decode cX7_isGuilty 13 = .ok (.if_icmp .ne 17, 3) := by decide +kernel
theorem dX7_isGuilty_16 : decode cX7_isGuilty 16 = .ok (.aload_n 0, 1) := by decide +kernel
theorem dX7_isGuilty_17 : decode cX7_isGuilty 17 = .ok (.getfield 16, 3) := by decide +kernel
theorem dX7_isGuilty_20 : decode cX7_isGuilty 20 = .ok (.iload_n 1, 1) := by decide +kernel
theorem dX7_isGuilty_21 : decode cX7_isGuilty 21 = .ok (.iaload, 1) := by decide +kernel
theorem dX7_isGuilty_22 : decode cX7_isGuilty 22 = .ok (.iconst 4, 1) := by decide +kernel
theorem dX7_isGuilty_23 : decode cX7_isGuilty 23 = .ok (.if_icmp .eq 7, 3) := by decide +kernel
theorem dX7_isGuilty_26 : decode cX7_isGuilty 26 = .ok (.iconst 1, 1) := by decide +kernel
theorem dX7_isGuilty_27 : decode cX7_isGuilty 27 = .ok (.goto 4, 3) := by decide +kernel
theorem dX7_isGuilty_30 : decode cX7_isGuilty 30 = .ok (.iconst 0, 1) := by decide +kernel
theorem dX7_isGuilty_31 : decode cX7_isGuilty 31 = .ok (.ireturn, 1) := by decide +kernel
theorem dX7_guiltySet_0 : decode cX7_guiltySet 0 = .ok (.iconst 0, 1) := by decide +kernel
theorem dX7_guiltySet_1 : decode cX7_guiltySet 1 = .ok (.istore_n 1, 1) := by decide +kernel
theorem dX7_guiltySet_2 : decode cX7_guiltySet 2 = .ok (.iconst 0, 1) := by decide +kernel
theorem dX7_guiltySet_3 : decode cX7_guiltySet 3 = .ok (.istore_n 2, 1) := by decide +kernel
theorem dX7_guiltySet_4 : decode cX7_guiltySet 4 = .ok (.iload_n 2, 1) := by decide +kernel
theorem dX7_guiltySet_5 : decode cX7_guiltySet 5 = .ok (.aload_n 0, 1) := by decide +kernel
theorem dX7_guiltySet_6 : decode cX7_guiltySet 6 = .ok (.getfield 86, 3) := by decide +kernel
theorem dX7_guiltySet_9 : decode cX7_guiltySet 9 = .ok (.if_icmp .ge 27, 3) := by decide +kernel
theorem dX7_guiltySet_12 : decode cX7_guiltySet 12 = .ok (.iload_n 1, 1) := by decide +kernel
theorem dX7_guiltySet_13 : decode cX7_guiltySet 13 = .ok (.aload_n 0, 1) := by decide +kernel
theorem dX7_guiltySet_14 : decode cX7_guiltySet 14 = .ok (.iload_n 2, 1) := by decide +kernel
theorem dX7_guiltySet_15 : decode cX7_guiltySet 15 = .ok (.invokevirtual 134, 3) := by decide +kernel
theorem dX7_guiltySet_18 : decode cX7_guiltySet 18 = .ok (.ifCond .eq 9, 3) := by decide +kernel
theorem dX7_guiltySet_21 : decode cX7_guiltySet 21 = .ok (.iconst 1, 1) := by decide +kernel
theorem dX7_guiltySet_22 : decode cX7_guiltySet 22 = .ok (.iload_n 2, 1) := by decide +kernel
theorem dX7_guiltySet_23 : decode cX7_guiltySet 23 = .ok (.ishl, 1) := by decide +kernel
theorem dX7_guiltySet_24 : decode cX7_guiltySet 24 = .ok (.goto 4, 3) := by decide +kernel
theorem dX7_guiltySet_27 : decode cX7_guiltySet 27 = .ok (.iconst 0, 1) := by decide +kernel
theorem dX7_guiltySet_28 : decode cX7_guiltySet 28 = .ok (.ior, 1) := by decide +kernel
theorem dX7_guiltySet_29 : decode cX7_guiltySet 29 = .ok (.istore_n 1, 1) := by decide +kernel
theorem dX7_guiltySet_30 : decode cX7_guiltySet 30 = .ok (.iinc 2 1, 3) := by decide +kernel
theorem dX7_guiltySet_33 : decode cX7_guiltySet 33 = .ok (.goto (-29), 3) := by decide +kernel
theorem dX7_guiltySet_36 : decode cX7_guiltySet 36 = .ok (.iload_n 1, 1) := by decide +kernel
theorem dX7_guiltySet_37 : decode cX7_guiltySet 37 = .ok (.ireturn, 1) := by decide +kernel
theorem dX7_courtierNow_0 : decode cX7_courtierNow 0 = .ok (.iload_n 2, 1) := by decide +kernel
theorem dX7_courtierNow_1 : decode cX7_courtierNow 1 = .ok (.tableswitch 76 0 4 #[35, 42, 49, 55, 69], 35) := by decide +kernel
theorem dX7_courtierNow_36 : decode cX7_courtierNow 36 = .ok (.aload_n 0, 1) := by decide +kernel
theorem dX7_courtierNow_37 : decode cX7_courtierNow 37 = .ok (.getfield 16, 3) := by decide +kernel
theorem dX7_courtierNow_40 : decode cX7_courtierNow 40 = .ok (.iload_n 1, 1) := by decide +kernel
theorem dX7_courtierNow_41 : decode cX7_courtierNow 41 = .ok (.iaload, 1) := by decide +kernel
theorem dX7_courtierNow_42 : decode cX7_courtierNow 42 = .ok (.ireturn, 1) := by decide +kernel
theorem dX7_courtierNow_43 : decode cX7_courtierNow 43 = .ok (.aload_n 0, 1) := by decide +kernel
theorem dX7_courtierNow_44 : decode cX7_courtierNow 44 = .ok (.getfield 20, 3) := by decide +kernel
theorem dX7_courtierNow_47 : decode cX7_courtierNow 47 = .ok (.iload_n 1, 1) := by decide +kernel
theorem dX7_courtierNow_48 : decode cX7_courtierNow 48 = .ok (.iaload, 1) := by decide +kernel
theorem dX7_courtierNow_49 : decode cX7_courtierNow 49 = .ok (.ireturn, 1) := by decide +kernel
theorem dX7_courtierNow_50 : decode cX7_courtierNow 50 = .ok (.aload_n 0, 1) := by decide +kernel
theorem dX7_courtierNow_51 : decode cX7_courtierNow 51 = .ok (.iload_n 1, 1) := by decide +kernel
theorem dX7_courtierNow_52 : decode cX7_courtierNow 52 = .ok (.invokevirtual 131, 3) := by decide +kernel
theorem dX7_courtierNow_55 : decode cX7_courtierNow 55 = .ok (.ireturn, 1) := by decide +kernel
theorem dX7_courtierNow_56 : decode cX7_courtierNow 56 = .ok (.aload_n 0, 1) := by decide +kernel
theorem dX7_courtierNow_57 : decode cX7_courtierNow 57 = .ok (.iload_n 1, 1) := by decide +kernel
theorem dX7_courtierNow_58 : decode cX7_courtierNow 58 = .ok (.invokevirtual 134, 3) := by decide +kernel
theorem dX7_courtierNow_61 : decode cX7_courtierNow 61 = .ok (.ifCond .eq 7, 3) := by decide +kernel
theorem dX7_courtierNow_64 : decode cX7_courtierNow 64 = .ok (.iconst 1, 1) := by decide +kernel
theorem dX7_courtierNow_65 : decode cX7_courtierNow 65 = .ok (.goto 4, 3) := by decide +kernel
theorem dX7_courtierNow_68 : decode cX7_courtierNow 68 = .ok (.iconst 0, 1) := by decide +kernel
theorem dX7_courtierNow_69 : decode cX7_courtierNow 69 = .ok (.ireturn, 1) := by decide +kernel
theorem dX7_courtierNow_70 : decode cX7_courtierNow 70 = .ok (.aload_n 0, 1) := by decide +kernel
theorem dX7_courtierNow_71 : decode cX7_courtierNow 71 = .ok (.getfield 23, 3) := by decide +kernel
theorem dX7_courtierNow_74 : decode cX7_courtierNow 74 = .ok (.iload_n 1, 1) := by decide +kernel
theorem dX7_courtierNow_75 : decode cX7_courtierNow 75 = .ok (.iaload, 1) := by decide +kernel
theorem dX7_courtierNow_76 : decode cX7_courtierNow 76 = .ok (.ireturn, 1) := by decide +kernel
theorem dX7_courtierNow_77 : decode cX7_courtierNow 77 = .ok (.aload_n 0, 1) := by decide +kernel
theorem dX7_courtierNow_78 : decode cX7_courtierNow 78 = .ok (.getfield 26, 3) := by decide +kernel
theorem dX7_courtierNow_81 : decode cX7_courtierNow 81 = .ok (.iload_n 1, 1) := by decide +kernel
theorem dX7_courtierNow_82 : decode cX7_courtierNow 82 = .ok (.iaload, 1) := by decide +kernel
theorem dX7_courtierNow_83 : decode cX7_courtierNow 83 = .ok (.ireturn, 1) := by decide +kernel
theorem dX7_about_0 : decode cX7_about 0 = .ok (.aload_n 0, 1) := by decide +kernel
theorem dX7_about_1 : decode cX7_about 1 = .ok (.iload_n 1, 1) := by decide +kernel
theorem dX7_about_2 : decode cX7_about 2 = .ok (.invokevirtual 137, 3) := by decide +kernel
theorem dX7_about_5 : decode cX7_about 5 = .ok (.ifCond .ne 8, 3) := by decide +kernel
theorem dX7_about_8 : decode cX7_about 8 = .ok (.bipush (-101), 2) := by decide +kernel
theorem dX7_about_10 : decode cX7_about 10 = .ok (.goto 23, 3) := by decide +kernel
theorem dX7_about_13 : decode cX7_about 13 = .ok (.iload_n 2, 1) := by decide +kernel
theorem dX7_about_14 : decode cX7_about 14 = .ok (.iconst 0, 1) := by decide +kernel
theorem dX7_about_15 : decode cX7_about 15 = .ok (.iconst 5, 1) := by decide +kernel
theorem dX7_about_16 : decode cX7_about 16 = .ok (.invokestatic 57, 3) := by decide +kernel
theorem dX7_about_19 : decode cX7_about 19 = .ok (.ifCond .eq 12, 3) := by decide +kernel
theorem dX7_about_22 : decode cX7_about 22 = .ok (.aload_n 0, 1) := by decide +kernel
theorem dX7_about_23 : decode cX7_about 23 = .ok (.iload_n 1, 1) := by decide +kernel
theorem dX7_about_24 : decode cX7_about 24 = .ok (.iload_n 2, 1) := by decide +kernel
theorem dX7_about_25 : decode cX7_about 25 = .ok (.invokevirtual 140, 3) := by decide +kernel
theorem dX7_about_28 : decode cX7_about 28 = .ok (.goto 5, 3) := by decide +kernel
theorem dX7_about_31 : decode cX7_about 31 = .ok (.bipush (-102), 2) := by decide +kernel
theorem dX7_about_33 : decode cX7_about 33 = .ok (.ireturn, 1) := by decide +kernel
theorem dX7_as_0 : decode cX7_as 0 = .ok (.aload_n 0, 1) := by decide +kernel
theorem dX7_as_1 : decode cX7_as 1 = .ok (.iload_n 1, 1) := by decide +kernel
theorem dX7_as_2 : decode cX7_as 2 = .ok (.invokevirtual 137, 3) := by decide +kernel
theorem dX7_as_5 : decode cX7_as 5 = .ok (.ifCond .ne 6, 3) := by decide +kernel
theorem dX7_as_8 : decode cX7_as 8 = .ok (.bipush (-101), 2) := by decide +kernel
theorem dX7_as_10 : decode cX7_as 10 = .ok (.ireturn, 1) := by decide +kernel
theorem dX7_as_11 : decode cX7_as 11 = .ok (.iload_n 2, 1) := by decide +kernel
theorem dX7_as_12 : decode cX7_as 12 = .ok (.iconst 0, 1) := by decide +kernel
theorem dX7_as_13 : decode cX7_as 13 = .ok (.iconst 4, 1) := by decide +kernel
theorem dX7_as_14 : decode cX7_as 14 = .ok (.invokestatic 57, 3) := by decide +kernel
theorem dX7_as_17 : decode cX7_as 17 = .ok (.ifCond .ne 6, 3) := by decide +kernel
theorem dX7_as_20 : decode cX7_as 20 = .ok (.bipush (-102), 2) := by decide +kernel
theorem dX7_as_22 : decode cX7_as 22 = .ok (.ireturn, 1) := by decide +kernel
theorem dX7_as_23 : decode cX7_as 23 = .ok (.aload_n 0, 1) := by decide +kernel
theorem dX7_as_24 : decode cX7_as 24 = .ok (.getfield 16, 3) := by decide +kernel
theorem dX7_as_27 : decode cX7_as 27 = .ok (.iload_n 1, 1) := by decide +kernel
theorem dX7_as_28 : decode cX7_as 28 = .ok (.iaload, 1) := by decide +kernel
theorem dX7_as_29 : decode cX7_as 29 = .ok (.istore_n 3, 1) := by decide +kernel
theorem dX7_as_30 : decode cX7_as 30 = .ok (.iload_n 2, 1) := by decide +kernel
theorem dX7_as_31 : decode cX7_as 31 = .ok (.ifCond .eq 18, 3) := by decide +kernel
theorem dX7_as_34 : decode cX7_as 34 = .ok (.iload_n 3, 1) := by decide +kernel
theorem dX7_as_35 : decode cX7_as 35 = .ok (.iload_n 2, 1) := by decide +kernel
theorem dX7_as_36 : decode cX7_as 36 = .ok (.if_icmp .eq 13, 3) := by decide +kernel
theorem dX7_as_39 : decode cX7_as 39 = .ok (.iload_n 2, 1) := by decide +kernel
theorem dX7_as_40 : decode cX7_as 40 = .ok (.iconst 3, 1) := by decide +kernel
theorem dX7_as_41 : decode cX7_as 41 = .ok (.if_icmp .ne 12, 3) := by decide +kernel
theorem dX7_as_44 : decode cX7_as 44 = .ok (.iload_n 3, 1) := by decide +kernel
theorem dX7_as_45 : decode cX7_as 45 = .ok (.iconst 4, 1) := by decide +kernel
theorem dX7_as_46 : decode cX7_as 46 = .ok (.if_icmp .ne 7, 3) := by decide +kernel
theorem dX7_as_49 : decode cX7_as 49 = .ok (.iload_n 1, 1) := by decide +kernel
theorem dX7_as_50 : decode cX7_as 50 = .ok (.goto 4, 3) := by decide +kernel
theorem dX7_as_53 : decode cX7_as 53 = .ok (.iconst (-1), 1) := by decide +kernel
theorem dX7_as_54 : decode cX7_as 54 = .ok (.ireturn, 1) := by decide +kernel
theorem dX7_go_0 : decode cX7_go 0 = .ok (.aload_n 0, 1) := by decide +kernel
theorem dX7_go_1 : decode cX7_go 1 = .ok (.iload_n 1, 1) := by decide +kernel
theorem dX7_go_2 : decode cX7_go 2 = .ok (.invokevirtual 137, 3) := by decide +kernel
theorem dX7_go_5 : decode cX7_go 5 = .ok (.ifCond .eq 10, 3) := by decide +kernel
theorem dX7_go_8 : decode cX7_go 8 = .ok (.iload_n 2, 1) := by decide +kernel
theorem dX7_go_9 : decode cX7_go 9 = .ok (.invokestatic 100, 3) := by decide +kernel
theorem dX7_go_12 : decode cX7_go 12 = .ok (.ifCond .ne 6, 3) := by decide +kernel
theorem dX7_go_15 : decode cX7_go 15 = .ok (.bipush (-101), 2) := by decide +kernel
theorem dX7_go_17 : decode cX7_go 17 = .ok (.ireturn, 1) := by decide +kernel
theorem dX7_go_18 : decode cX7_go 18 = .ok (.aload_n 0, 1) := by decide +kernel
theorem dX7_go_19 : decode cX7_go 19 = .ok (.iload_n 2, 1) := by decide +kernel
theorem dX7_go_20 : decode cX7_go 20 = .ok (.invokevirtual 107, 3) := by decide +kernel
theorem dX7_go_23 : decode cX7_go 23 = .ok (.ifCond .ne 6, 3) := by decide +kernel
theorem dX7_go_26 : decode cX7_go 26 = .ok (.bipush (-103), 2) := by decide +kernel
theorem dX7_go_28 : decode cX7_go 28 = .ok (.ireturn, 1) := by decide +kernel
theorem dX7_go_29 : decode cX7_go 29 = .ok (.aload_n 0, 1) := by decide +kernel
theorem dX7_go_30 : decode cX7_go 30 = .ok (.getfield 20, 3) := by decide +kernel
theorem dX7_go_33 : decode cX7_go 33 = .ok (.iload_n 1, 1) := by decide +kernel
theorem dX7_go_34 : decode cX7_go 34 = .ok (.iaload, 1) := by decide +kernel
theorem dX7_go_35 : decode cX7_go 35 = .ok (.istore_n 3, 1) := by decide +kernel
theorem dX7_go_36 : decode cX7_go 36 = .ok (.aload_n 0, 1) := by decide +kernel
theorem dX7_go_37 : decode cX7_go 37 = .ok (.getfield 20, 3) := by decide +kernel
theorem dX7_go_40 : decode cX7_go 40 = .ok (.iload_n 1, 1) := by decide +kernel
theorem dX7_go_41 : decode cX7_go 41 = .ok (.iload_n 2, 1) := by decide +kernel
theorem dX7_go_42 : decode cX7_go 42 = .ok (.iastore, 1) := by decide +kernel
theorem dX7_go_43 : decode cX7_go 43 = .ok (.iload_n 3, 1) := by decide +kernel
theorem dX7_go_44 : decode cX7_go 44 = .ok (.ireturn, 1) := by decide +kernel
theorem dX7_ahead_0 : decode cX7_ahead 0 = .ok (.iload_n 1, 1) := by decide +kernel
theorem dX7_ahead_1 : decode cX7_ahead 1 = .ok (.tableswitch 69 0 2 #[27, 40, 55], 27) := by decide +kernel
theorem dX7_ahead_28 : decode cX7_ahead 28 = .ok (.iload_n 0, 1) := by decide +kernel
theorem dX7_ahead_29 : decode cX7_ahead 29 = .ok (.iconst 5, 1) := by decide +kernel
theorem dX7_ahead_30 : decode cX7_ahead 30 = .ok (.if_icmp .lt 9, 3) := by decide +kernel
theorem dX7_ahead_33 : decode cX7_ahead 33 = .ok (.iload_n 0, 1) := by decide +kernel
theorem dX7_ahead_34 : decode cX7_ahead 34 = .ok (.iconst 5, 1) := by decide +kernel
theorem dX7_ahead_35 : decode cX7_ahead 35 = .ok (.isub, 1) := by decide +kernel
theorem dX7_ahead_36 : decode cX7_ahead 36 = .ok (.goto 4, 3) := by decide +kernel
theorem dX7_ahead_39 : decode cX7_ahead 39 = .ok (.iconst (-1), 1) := by decide +kernel
theorem dX7_ahead_40 : decode cX7_ahead 40 = .ok (.ireturn, 1) := by decide +kernel
theorem dX7_ahead_41 : decode cX7_ahead 41 = .ok (.iload_n 0, 1) := by decide +kernel
theorem dX7_ahead_42 : decode cX7_ahead 42 = .ok (.iconst 5, 1) := by decide +kernel
theorem dX7_ahead_43 : decode cX7_ahead 43 = .ok (.irem, 1) := by decide +kernel
theorem dX7_ahead_44 : decode cX7_ahead 44 = .ok (.iconst 4, 1) := by decide +kernel
theorem dX7_ahead_45 : decode cX7_ahead 45 = .ok (.if_icmp .ge 9, 3) := by decide +kernel
theorem dX7_ahead_48 : decode cX7_ahead 48 = .ok (.iload_n 0, 1) := by decide +kernel
theorem dX7_ahead_49 : decode cX7_ahead 49 = .ok (.iconst 1, 1) := by decide +kernel
theorem dX7_ahead_50 : decode cX7_ahead 50 = .ok (.iadd, 1) := by decide +kernel
theorem dX7_ahead_51 : decode cX7_ahead 51 = .ok (.goto 4, 3) := by decide +kernel
theorem dX7_ahead_54 : decode cX7_ahead 54 = .ok (.iconst (-1), 1) := by decide +kernel
theorem dX7_ahead_55 : decode cX7_ahead 55 = .ok (.ireturn, 1) := by decide +kernel
theorem dX7_ahead_56 : decode cX7_ahead 56 = .ok (.iload_n 0, 1) := by decide +kernel
theorem dX7_ahead_57 : decode cX7_ahead 57 = .ok (.bipush 15, 2) := by decide +kernel
theorem dX7_ahead_59 : decode cX7_ahead 59 = .ok (.if_icmp .ge 9, 3) := by decide +kernel
theorem dX7_ahead_62 : decode cX7_ahead 62 = .ok (.iload_n 0, 1) := by decide +kernel
theorem dX7_ahead_63 : decode cX7_ahead 63 = .ok (.iconst 5, 1) := by decide +kernel
theorem dX7_ahead_64 : decode cX7_ahead 64 = .ok (.iadd, 1) := by decide +kernel
theorem dX7_ahead_65 : decode cX7_ahead 65 = .ok (.goto 4, 3) := by decide +kernel
theorem dX7_ahead_68 : decode cX7_ahead 68 = .ok (.iconst (-1), 1) := by decide +kernel
theorem dX7_ahead_69 : decode cX7_ahead 69 = .ok (.ireturn, 1) := by decide +kernel
theorem dX7_ahead_70 : decode cX7_ahead 70 = .ok (.iload_n 0, 1) := by decide +kernel
theorem dX7_ahead_71 : decode cX7_ahead 71 = .ok (.iconst 5, 1) := by decide +kernel
theorem dX7_ahead_72 : decode cX7_ahead 72 = .ok (.irem, 1) := by decide +kernel
theorem dX7_ahead_73 : decode cX7_ahead 73 = .ok (.ifCond .le 9, 3) := by decide +kernel
theorem dX7_ahead_76 : decode cX7_ahead 76 = .ok (.iload_n 0, 1) := by decide +kernel
theorem dX7_ahead_77 : decode cX7_ahead 77 = .ok (.iconst 1, 1) := by decide +kernel
theorem dX7_ahead_78 : decode cX7_ahead 78 = .ok (.isub, 1) := by decide +kernel
theorem dX7_ahead_79 : decode cX7_ahead 79 = .ok (.goto 4, 3) := by decide +kernel
theorem dX7_ahead_82 : decode cX7_ahead 82 = .ok (.iconst (-1), 1) := by decide +kernel
theorem dX7_ahead_83 : decode cX7_ahead 83 = .ok (.ireturn, 1) := by decide +kernel
theorem dX7_mayAct_0 : decode cX7_mayAct 0 = .ok (.aload_n 0, 1) := by decide +kernel
theorem dX7_mayAct_1 : decode cX7_mayAct 1 = .ok (.getfield 7, 3) := by decide +kernel
theorem dX7_mayAct_4 : decode cX7_mayAct 4 = .ok (.aload_n 0, 1) := by decide +kernel
theorem dX7_mayAct_5 : decode cX7_mayAct 5 = .ok (.getfield 13, 3) := by decide +kernel
theorem dX7_mayAct_8 : decode cX7_mayAct 8 = .ok (.invokestatic 143, 3) := by decide +kernel
theorem dX7_mayAct_11 : decode cX7_mayAct 11 = .ok (.istore_n 2, 1) := by decide +kernel
theorem dX7_mayAct_12 : decode cX7_mayAct 12 = .ok (.iload_n 1, 1) := by decide +kernel
theorem dX7_mayAct_13 : decode cX7_mayAct 13 = .ok (.iconst 2, 1) := by decide +kernel
theorem dX7_mayAct_14 : decode cX7_mayAct 14 = .ok (.if_icmp .lt 16, 3) := by decide +kernel
theorem dX7_mayAct_17 : decode cX7_mayAct 17 = .ok (.iload_n 2, 1) := by decide +kernel
theorem dX7_mayAct_18 : decode cX7_mayAct 18 = .ok (.iconst (-1), 1) := by decide +kernel
theorem dX7_mayAct_19 : decode cX7_mayAct 19 = .ok (.if_icmp .eq 15, 3) := by decide +kernel
theorem dX7_mayAct_22 : decode cX7_mayAct 22 = .ok (.aload_n 0, 1) := by decide +kernel
theorem dX7_mayAct_23 : decode cX7_mayAct 23 = .ok (.iload_n 2, 1) := by decide +kernel
theorem dX7_mayAct_24 : decode cX7_mayAct 24 = .ok (.invokevirtual 107, 3) := by decide +kernel
theorem dX7_mayAct_27 : decode cX7_mayAct 27 = .ok (.ifCond .eq 7, 3) := by decide +kernel
theorem dX7_mayAct_30 : decode cX7_mayAct 30 = .ok (.iconst 1, 1) := by decide +kernel
theorem dX7_mayAct_31 : decode cX7_mayAct 31 = .ok (.goto 4, 3) := by decide +kernel
theorem dX7_mayAct_34 : decode cX7_mayAct 34 = .ok (.iconst 0, 1) := by decide +kernel
theorem dX7_mayAct_35 : decode cX7_mayAct 35 = .ok (.ireturn, 1) := by decide +kernel
theorem dX7_doAct_0 : decode cX7_doAct 0 = .ok (.iload_n 1, 1) := by decide +kernel
theorem dX7_doAct_1 : decode cX7_doAct 1 = .ok (.iconst 2, 1) := by decide +kernel
theorem dX7_doAct_2 : decode cX7_doAct 2 = .ok (.if_icmp .ne 21, 3) := by decide +kernel
theorem dX7_doAct_5 : decode cX7_doAct 5 = .ok (.aload_n 0, 1) := by decide +kernel
theorem dX7_doAct_6 : decode cX7_doAct 6 = .ok (.aload_n 0, 1) := by decide +kernel
theorem dX7_doAct_7 : decode cX7_doAct 7 = .ok (.getfield 7, 3) := by decide +kernel
theorem dX7_doAct_10 : decode cX7_doAct 10 = .ok (.aload_n 0, 1) := by decide +kernel
theorem dX7_doAct_11 : decode cX7_doAct 11 = .ok (.getfield 13, 3) := by decide +kernel
theorem dX7_doAct_14 : decode cX7_doAct 14 = .ok (.invokestatic 143, 3) := by decide +kernel
theorem dX7_doAct_17 : decode cX7_doAct 17 = .ok (.putfield 7, 3) := by decide +kernel
theorem dX7_doAct_20 : decode cX7_doAct 20 = .ok (.goto 23, 3) := by decide +kernel
theorem dX7_doAct_23 : decode cX7_doAct 23 = .ok (.aload_n 0, 1) := by decide +kernel
theorem dX7_doAct_24 : decode cX7_doAct 24 = .ok (.aload_n 0, 1) := by decide +kernel
theorem dX7_doAct_25 : decode cX7_doAct 25 = .ok (.getfield 13, 3) := by decide +kernel
theorem dX7_doAct_28 : decode cX7_doAct 28 = .ok (.iload_n 1, 1) := by decide +kernel
theorem dX7_doAct_29 : decode cX7_doAct 29 = .ok (.ifCond .ne 7, 3) := by decide +kernel
theorem dX7_doAct_32 : decode cX7_doAct 32 = .ok (.iconst 3, 1) := by decide +kernel
theorem dX7_doAct_33 : decode cX7_doAct 33 = .ok (.goto 4, 3) := by decide +kernel
theorem dX7_doAct_36 : decode cX7_doAct 36 = .ok (.iconst 1, 1) := by decide +kernel
theorem dX7_doAct_37 : decode cX7_doAct 37 = .ok (.iadd, 1) := by decide +kernel
theorem dX7_doAct_38 : decode cX7_doAct 38 = .ok (.iconst 4, 1) := by decide +kernel
theorem dX7_doAct_39 : decode cX7_doAct 39 = .ok (.irem, 1) := by decide +kernel
theorem dX7_doAct_40 : decode cX7_doAct 40 = .ok (.putfield 13, 3) := by decide +kernel
theorem dX7_doAct_43 : decode cX7_doAct 43 = .ok (.return_, 1) := by decide +kernel
theorem dX7_act_0 : decode cX7_act 0 = .ok (.iload_n 1, 1) := by decide +kernel
theorem dX7_act_1 : decode cX7_act 1 = .ok (.iconst 0, 1) := by decide +kernel
theorem dX7_act_2 : decode cX7_act 2 = .ok (.iconst 2, 1) := by decide +kernel
theorem dX7_act_3 : decode cX7_act 3 = .ok (.invokestatic 57, 3) := by decide +kernel
theorem dX7_act_6 : decode cX7_act 6 = .ok (.ifCond .ne 6, 3) := by decide +kernel
theorem dX7_act_9 : decode cX7_act 9 = .ok (.bipush (-102), 2) := by decide +kernel
theorem dX7_act_11 : decode cX7_act 11 = .ok (.ireturn, 1) := by decide +kernel
theorem dX7_act_12 : decode cX7_act 12 = .ok (.aload_n 0, 1) := by decide +kernel
theorem dX7_act_13 : decode cX7_act 13 = .ok (.getfield 7, 3) := by decide +kernel
theorem dX7_act_16 : decode cX7_act 16 = .ok (.iconst (-1), 1) := by decide +kernel
theorem dX7_act_17 : decode cX7_act 17 = .ok (.if_icmp .eq 11, 3) := by decide +kernel
theorem dX7_act_20 : decode cX7_act 20 = .ok (.aload_n 0, 1) := by decide +kernel
theorem dX7_act_21 : decode cX7_act 21 = .ok (.iload_n 1, 1) := by decide +kernel
theorem dX7_act_22 : decode cX7_act 22 = .ok (.invokevirtual 146, 3) := by decide +kernel
theorem dX7_act_25 : decode cX7_act 25 = .ok (.ifCond .ne 6, 3) := by decide +kernel
theorem dX7_act_28 : decode cX7_act 28 = .ok (.bipush (-103), 2) := by decide +kernel
theorem dX7_act_30 : decode cX7_act 30 = .ok (.ireturn, 1) := by decide +kernel
theorem dX7_act_31 : decode cX7_act 31 = .ok (.aload_n 0, 1) := by decide +kernel
theorem dX7_act_32 : decode cX7_act 32 = .ok (.iload_n 1, 1) := by decide +kernel
theorem dX7_act_33 : decode cX7_act 33 = .ok (.invokevirtual 149, 3) := by decide +kernel
theorem dX7_act_36 : decode cX7_act 36 = .ok (.aload_n 0, 1) := by decide +kernel
theorem dX7_act_37 : decode cX7_act 37 = .ok (.dup, 1) := by decide +kernel
theorem dX7_act_38 : decode cX7_act 38 = .ok (.getfield 83, 3) := by decide +kernel
theorem dX7_act_41 : decode cX7_act 41 = .ok (.iconst 1, 1) := by decide +kernel
theorem dX7_act_42 : decode cX7_act 42 = .ok (.iadd, 1) := by decide +kernel
theorem dX7_act_43 : decode cX7_act 43 = .ok (.putfield 83, 3) := by decide +kernel
theorem dX7_act_46 : decode cX7_act 46 = .ok (.iconst 0, 1) := by decide +kernel
theorem dX7_act_47 : decode cX7_act 47 = .ok (.istore_n 2, 1) := by decide +kernel
theorem dX7_act_48 : decode cX7_act 48 = .ok (.iload_n 2, 1) := by decide +kernel
theorem dX7_act_49 : decode cX7_act 49 = .ok (.aload_n 0, 1) := by decide +kernel
theorem dX7_act_50 : decode cX7_act 50 = .ok (.getfield 86, 3) := by decide +kernel
theorem dX7_act_53 : decode cX7_act 53 = .ok (.if_icmp .ge 63, 3) := by decide +kernel
theorem dX7_act_56 : decode cX7_act 56 = .ok (.aload_n 0, 1) := by decide +kernel
theorem dX7_act_57 : decode cX7_act 57 = .ok (.iload_n 2, 1) := by decide +kernel
theorem dX7_act_58 : decode cX7_act 58 = .ok (.invokevirtual 131, 3) := by decide +kernel
theorem dX7_act_61 : decode cX7_act 61 = .ok (.istore_n 3, 1) := by decide +kernel
theorem dX7_act_62 : decode cX7_act 62 = .ok (.aload_n 0, 1) := by decide +kernel
theorem dX7_act_63 : decode cX7_act 63 = .ok (.getfield 23, 3) := by decide +kernel
theorem dX7_act_66 : decode cX7_act 66 = .ok (.iload_n 2, 1) := by decide +kernel
theorem dX7_act_67 : decode cX7_act 67 = .ok (.dup2, 1) := by decide +kernel
theorem dX7_act_68 : decode cX7_act 68 = .ok (.iaload, 1) := by decide +kernel
theorem dX7_act_69 : decode cX7_act 69 = .ok (.iload_n 3, 1) := by decide +kernel
theorem dX7_act_70 : decode cX7_act 70 = .ok (.iconst 1, 1) := by decide +kernel
theorem dX7_act_71 : decode cX7_act 71 = .ok (.if_icmp .eq 8, 3) := by decide +kernel
theorem dX7_act_74 : decode cX7_act 74 = .ok (.iload_n 3, 1) := by decide +kernel
theorem dX7_act_75 : decode cX7_act 75 = .ok (.iconst 3, 1) := by decide +kernel
theorem dX7_act_76 : decode cX7_act 76 = .ok (.if_icmp .ne 7, 3) := by decide +kernel
theorem dX7_act_79 : decode cX7_act 79 = .ok (.iconst 1, 1) := by decide +kernel
theorem dX7_act_80 : decode cX7_act 80 = .ok (.goto 4, 3) := by decide +kernel
theorem dX7_act_83 : decode cX7_act 83 = .ok (.iconst 0, 1) := by decide +kernel
theorem dX7_act_84 : decode cX7_act 84 = .ok (.iadd, 1) := by decide +kernel
theorem dX7_act_85 : decode cX7_act 85 = .ok (.iastore, 1) := by decide +kernel
theorem dX7_act_86 : decode cX7_act 86 = .ok (.aload_n 0, 1) := by decide +kernel
theorem dX7_act_87 : decode cX7_act 87 = .ok (.getfield 26, 3) := by decide +kernel
theorem dX7_act_90 : decode cX7_act 90 = .ok (.iload_n 2, 1) := by decide +kernel
theorem dX7_act_91 : decode cX7_act 91 = .ok (.dup2, 1) := by decide +kernel
theorem dX7_act_92 : decode cX7_act 92 = .ok (.iaload, 1) := by decide +kernel
theorem dX7_act_93 : decode cX7_act 93 = .ok (.iload_n 3, 1) := by decide +kernel
theorem dX7_act_94 : decode cX7_act 94 = .ok (.iconst 2, 1) := by decide +kernel
theorem dX7_act_95 : decode cX7_act 95 = .ok (.if_icmp .eq 8, 3) := by decide +kernel
theorem dX7_act_98 : decode cX7_act 98 = .ok (.iload_n 3, 1) := by decide +kernel
theorem dX7_act_99 : decode cX7_act 99 = .ok (.iconst 3, 1) := by decide +kernel
theorem dX7_act_100 : decode cX7_act 100 = .ok (.if_icmp .ne 7, 3) := by decide +kernel
theorem dX7_act_103 : decode cX7_act 103 = .ok (.iconst 1, 1) := by decide +kernel
theorem dX7_act_104 : decode cX7_act 104 = .ok (.goto 4, 3) := by decide +kernel
theorem dX7_act_107 : decode cX7_act 107 = .ok (.iconst 0, 1) := by decide +kernel
theorem dX7_act_108 : decode cX7_act 108 = .ok (.iadd, 1) := by decide +kernel
theorem dX7_act_109 : decode cX7_act 109 = .ok (.iastore, 1) := by decide +kernel
theorem dX7_act_110 : decode cX7_act 110 = .ok (.iinc 2 1, 3) := by decide +kernel
theorem dX7_act_113 : decode cX7_act 113 = .ok (.goto (-65), 3) := by decide +kernel
theorem dX7_act_116 : decode cX7_act 116 = .ok (.aload_n 0, 1) := by decide +kernel
theorem dX7_act_117 : decode cX7_act 117 = .ok (.invokevirtual 153, 3) := by decide +kernel
theorem dX7_act_120 : decode cX7_act 120 = .ok (.invokestatic 89, 3) := by decide +kernel
theorem dX7_act_123 : decode cX7_act 123 = .ok (.ireturn, 1) := by decide +kernel
theorem dX7_guilty_0 : decode cX7_guilty 0 = .ok (.aload_n 0, 1) := by decide +kernel
theorem dX7_guilty_1 : decode cX7_guilty 1 = .ok (.invokevirtual 153, 3) := by decide +kernel
theorem dX7_guilty_4 : decode cX7_guilty 4 = .ok (.ireturn, 1) := by decide +kernel
theorem dX7_isRoom_0 : decode cX7_isRoom 0 = .ok (.iconst 1, 1) := by decide +kernel
theorem dX7_isRoom_1 : decode cX7_isRoom 1 = .ok (.istore_n 2, 1) := by decide +kernel
theorem dX7_isRoom_2 : decode cX7_isRoom 2 = .ok (.iconst 0, 1) := by decide +kernel
theorem dX7_isRoom_3 : decode cX7_isRoom 3 = .ok (.istore_n 3, 1) := by decide +kernel
theorem dX7_isRoom_4 : decode cX7_isRoom 4 = .ok (.iload_n 3, 1) := by decide +kernel
theorem dX7_isRoom_5 : decode cX7_isRoom 5 = .ok (.aload_n 0, 1) := by decide +kernel
theorem dX7_isRoom_6 : decode cX7_isRoom 6 = .ok (.getfield 86, 3) := by decide +kernel
theorem dX7_isRoom_9 : decode cX7_isRoom 9 = .ok (.iload_n 1, 1) := by decide +kernel
theorem dX7_isRoom_10 : decode cX7_isRoom 10 = .ok (.iadd, 1) := by decide +kernel
theorem dX7_isRoom_11 : decode cX7_isRoom 11 = .ok (.if_icmp .ge 81, 3) := by decide +kernel
theorem dX7_isRoom_14 : decode cX7_isRoom 14 = .ok (.iload_n 3, 1) := by decide +kernel
theorem dX7_isRoom_15 : decode cX7_isRoom 15 = .ok (.aload_n 0, 1) := by decide +kernel
theorem dX7_isRoom_16 : decode cX7_isRoom 16 = .ok (.getfield 86, 3) := by decide +kernel
theorem dX7_isRoom_19 : decode cX7_isRoom 19 = .ok (.if_icmp .ge 12, 3) := by decide +kernel
theorem dX7_isRoom_22 : decode cX7_isRoom 22 = .ok (.aload_n 0, 1) := by decide +kernel
theorem dX7_isRoom_23 : decode cX7_isRoom 23 = .ok (.getfield 16, 3) := by decide +kernel
theorem dX7_isRoom_26 : decode cX7_isRoom 26 = .ok (.iload_n 3, 1) := by decide +kernel
theorem dX7_isRoom_27 : decode cX7_isRoom 27 = .ok (.iaload, 1) := by decide +kernel
theorem dX7_isRoom_28 : decode cX7_isRoom 28 = .ok (.goto 4, 3) := by decide +kernel
theorem dX7_isRoom_31 : decode cX7_isRoom 31 = .ok (.iconst 0, 1) := by decide +kernel
theorem dX7_isRoom_32 : decode cX7_isRoom 32 = .ok (.istore 4, 2) := by decide +kernel
theorem dX7_isRoom_34 : decode cX7_isRoom 34 = .ok (.iload_n 3, 1) := by decide +kernel
theorem dX7_isRoom_35 : decode cX7_isRoom 35 = .ok (.aload_n 0, 1) := by decide +kernel
theorem dX7_isRoom_36 : decode cX7_isRoom 36 = .ok (.getfield 86, 3) := by decide +kernel
theorem dX7_isRoom_39 : decode cX7_isRoom 39 = .ok (.if_icmp .ge 12, 3) := by decide +kernel
theorem dX7_isRoom_42 : decode cX7_isRoom 42 = .ok (.aload_n 0, 1) := by decide +kernel
theorem dX7_isRoom_43 : decode cX7_isRoom 43 = .ok (.getfield 20, 3) := by decide +kernel
theorem dX7_isRoom_46 : decode cX7_isRoom 46 = .ok (.iload_n 3, 1) := by decide +kernel
theorem dX7_isRoom_47 : decode cX7_isRoom 47 = .ok (.iaload, 1) := by decide +kernel
theorem dX7_isRoom_48 : decode cX7_isRoom 48 = .ok (.goto 14, 3) := by decide +kernel
theorem dX7_isRoom_51 : decode cX7_isRoom 51 = .ok (.aload_n 0, 1) := by decide +kernel
theorem dX7_isRoom_52 : decode cX7_isRoom 52 = .ok (.getfield 36, 3) := by decide +kernel
theorem dX7_isRoom_55 : decode cX7_isRoom 55 = .ok (.iload_n 3, 1) := by decide +kernel
theorem dX7_isRoom_56 : decode cX7_isRoom 56 = .ok (.aload_n 0, 1) := by decide +kernel
theorem dX7_isRoom_57 : decode cX7_isRoom 57 = .ok (.getfield 86, 3) := by decide +kernel
theorem dX7_isRoom_60 : decode cX7_isRoom 60 = .ok (.isub, 1) := by decide +kernel
theorem dX7_isRoom_61 : decode cX7_isRoom 61 = .ok (.iaload, 1) := by decide +kernel
theorem dX7_isRoom_62 : decode cX7_isRoom 62 = .ok (.istore 5, 2) := by decide +kernel
theorem dX7_isRoom_64 : decode cX7_isRoom 64 = .ok (.iload_n 2, 1) := by decide +kernel
theorem dX7_isRoom_65 : decode cX7_isRoom 65 = .ok (.ifCond .eq 19, 3) := by decide +kernel
theorem dX7_isRoom_68 : decode cX7_isRoom 68 = .ok (.aload_n 0, 1) := by decide +kernel
theorem dX7_isRoom_69 : decode cX7_isRoom 69 = .ok (.iload 4, 2) := by decide +kernel
theorem dX7_isRoom_71 : decode cX7_isRoom 71 = .ok (.iload 5, 2) := by decide +kernel
theorem dX7_isRoom_73 : decode cX7_isRoom 73 = .ok (.iload_n 1, 1) := by decide +kernel
theorem dX7_isRoom_74 : decode cX7_isRoom 74 = .ok (.invokevirtual 157, 3) := by decide +kernel
theorem dX7_isRoom_77 : decode cX7_isRoom 77 = .ok (.ifCond .ne 7, 3) := by decide +kernel
theorem dX7_isRoom_80 : decode cX7_isRoom 80 = .ok (.iconst 1, 1) := by decide +kernel
theorem dX7_isRoom_81 : decode cX7_isRoom 81 = .ok (.goto 4, 3) := by decide +kernel
theorem dX7_isRoom_84 : decode cX7_isRoom 84 = .ok (.iconst 0, 1) := by decide +kernel
theorem dX7_isRoom_85 : decode cX7_isRoom 85 = .ok (.istore_n 2, 1) := by decide +kernel
theorem dX7_isRoom_86 : decode cX7_isRoom 86 = .ok (.iinc 3 1, 3) := by decide +kernel
theorem dX7_isRoom_89 : decode cX7_isRoom 89 = .ok (.goto (-85), 3) := by decide +kernel
theorem dX7_isRoom_92 : decode cX7_isRoom 92 = .ok (.iload_n 2, 1) := by decide +kernel
theorem dX7_isRoom_93 : decode cX7_isRoom 93 = .ok (.ireturn, 1) := by decide +kernel
theorem dX7_isMore_0 : decode cX7_isMore 0 = .ok (.iconst 0, 1) := by decide +kernel
theorem dX7_isMore_1 : decode cX7_isMore 1 = .ok (.istore_n 3, 1) := by decide +kernel
theorem dX7_isMore_2 : decode cX7_isMore 2 = .ok (.iconst 0, 1) := by decide +kernel
theorem dX7_isMore_3 : decode cX7_isMore 3 = .ok (.istore 4, 2) := by decide +kernel
theorem dX7_isMore_5 : decode cX7_isMore 5 = .ok (.iload 4, 2) := by decide +kernel
theorem dX7_isMore_7 : decode cX7_isMore 7 = .ok (.iload_n 2, 1) := by decide +kernel
theorem dX7_isMore_8 : decode cX7_isMore 8 = .ok (.if_icmp .ge 30, 3) := by decide +kernel
theorem dX7_isMore_11 : decode cX7_isMore 11 = .ok (.iload_n 3, 1) := by decide +kernel
theorem dX7_isMore_12 : decode cX7_isMore 12 = .ok (.ifCond .ne 14, 3) := by decide +kernel
theorem dX7_isMore_15 : decode cX7_isMore 15 = .ok (.aload_n 0, 1) := by decide +kernel
theorem dX7_isMore_16 : decode cX7_isMore 16 = .ok (.getfield 36, 3) := by decide +kernel
theorem dX7_isMore_19 : decode cX7_isMore 19 = .ok (.iload 4, 2) := by decide +kernel
theorem dX7_isMore_21 : decode cX7_isMore 21 = .ok (.iaload, 1) := by decide +kernel
theorem dX7_isMore_22 : decode cX7_isMore 22 = .ok (.iload_n 1, 1) := by decide +kernel
theorem dX7_isMore_23 : decode cX7_isMore 23 = .ok (.if_icmp .ne 7, 3) := by decide +kernel
theorem dX7_isMore_26 : decode cX7_isMore 26 = .ok (.iconst 1, 1) := by decide +kernel
theorem dX7_isMore_27 : decode cX7_isMore 27 = .ok (.goto 4, 3) := by decide +kernel
theorem dX7_isMore_30 : decode cX7_isMore 30 = .ok (.iconst 0, 1) := by decide +kernel
theorem dX7_isMore_31 : decode cX7_isMore 31 = .ok (.istore_n 3, 1) := by decide +kernel
theorem dX7_isMore_32 : decode cX7_isMore 32 = .ok (.iinc 4 1, 3) := by decide +kernel
theorem dX7_isMore_35 : decode cX7_isMore 35 = .ok (.goto (-30), 3) := by decide +kernel
theorem dX7_isMore_38 : decode cX7_isMore 38 = .ok (.iload_n 3, 1) := by decide +kernel
theorem dX7_isMore_39 : decode cX7_isMore 39 = .ok (.ireturn, 1) := by decide +kernel
theorem dX7_isGuiltyAt_0 : decode cX7_isGuiltyAt 0 = .ok (.aload_n 0, 1) := by decide +kernel
theorem dX7_isGuiltyAt_1 : decode cX7_isGuiltyAt 1 = .ok (.getfield 7, 3) := by decide +kernel
theorem dX7_isGuiltyAt_4 : decode cX7_isGuiltyAt 4 = .ok (.iload_n 2, 1) := by decide +kernel
theorem dX7_isGuiltyAt_5 : decode cX7_isGuiltyAt 5 = .ok (.invokestatic 120, 3) := by decide +kernel
theorem dX7_isGuiltyAt_8 : decode cX7_isGuiltyAt 8 = .ok (.istore 4, 2) := by decide +kernel
theorem dX7_isGuiltyAt_10 : decode cX7_isGuiltyAt 10 = .ok (.iload 4, 2) := by decide +kernel
theorem dX7_isGuiltyAt_12 : decode cX7_isGuiltyAt 12 = .ok (.iconst (-1), 1) := by decide +kernel
theorem dX7_isGuiltyAt_13 : decode cX7_isGuiltyAt 13 = .ok (.if_icmp .eq 25, 3) := by decide +kernel
theorem dX7_isGuiltyAt_16 : decode cX7_isGuiltyAt 16 = .ok (.iload_n 1, 1) := by decide +kernel
theorem dX7_isGuiltyAt_17 : decode cX7_isGuiltyAt 17 = .ok (.iconst 4, 1) := by decide +kernel
theorem dX7_isGuiltyAt_18 : decode cX7_isGuiltyAt 18 = .ok (.if_icmp .eq 20, 3) := by decide +kernel
theorem dX7_isGuiltyAt_21 : decode cX7_isGuiltyAt 21 = .ok (.iload_n 1, 1) := by decide +kernel
theorem dX7_isGuiltyAt_22 : decode cX7_isGuiltyAt 22 = .ok (.iconst 2, 1) := by decide +kernel
theorem dX7_isGuiltyAt_23 : decode cX7_isGuiltyAt 23 = .ok (.if_icmp .ne 17, 3) := by decide +kernel
theorem dX7_isGuiltyAt_26 : decode cX7_isGuiltyAt 26 = .ok (.aload_n 0, 1) := by decide +kernel
theorem dX7_isGuiltyAt_27 : decode cX7_isGuiltyAt 27 = .ok (.getfield 7, 3) := by decide +kernel
theorem dX7_isGuiltyAt_30 : decode cX7_isGuiltyAt 30 = .ok (.iload_n 2, 1) := by decide +kernel
theorem dX7_isGuiltyAt_31 : decode cX7_isGuiltyAt 31 = .ok (.invokestatic 124, 3) := by decide +kernel
theorem dX7_isGuiltyAt_34 : decode cX7_isGuiltyAt 34 = .ok (.iconst 2, 1) := by decide +kernel
theorem dX7_isGuiltyAt_35 : decode cX7_isGuiltyAt 35 = .ok (.if_icmp .le 5, 3) := by decide +kernel
theorem dX7_isGuiltyAt_38 : decode cX7_isGuiltyAt 38 = .ok (.iconst 0, 1) := by decide +kernel
theorem dX7_isGuiltyAt_39 : decode cX7_isGuiltyAt 39 = .ok (.ireturn, 1) := by decide +kernel
theorem dX7_isGuiltyAt_40 : decode cX7_isGuiltyAt 40 = .ok (.iconst 5, 1) := by decide +kernel
theorem dX7_isGuiltyAt_41 : decode cX7_isGuiltyAt 41 = .ok (.iload_n 2, 1) := by decide +kernel
theorem dX7_isGuiltyAt_42 : decode cX7_isGuiltyAt 42 = .ok (.iconst 5, 1) := by decide +kernel
theorem dX7_isGuiltyAt_43 : decode cX7_isGuiltyAt 43 = .ok (.idiv, 1) := by decide +kernel
theorem dX7_isGuiltyAt_44 : decode cX7_isGuiltyAt 44 = .ok (.aload_n 0, 1) := by decide +kernel
theorem dX7_isGuiltyAt_45 : decode cX7_isGuiltyAt 45 = .ok (.getfield 7, 3) := by decide +kernel
theorem dX7_isGuiltyAt_48 : decode cX7_isGuiltyAt 48 = .ok (.iconst 5, 1) := by decide +kernel
theorem dX7_isGuiltyAt_49 : decode cX7_isGuiltyAt 49 = .ok (.idiv, 1) := by decide +kernel
theorem dX7_isGuiltyAt_50 : decode cX7_isGuiltyAt 50 = .ok (.isub, 1) := by decide +kernel
theorem dX7_isGuiltyAt_51 : decode cX7_isGuiltyAt 51 = .ok (.invokestatic 117, 3) := by decide +kernel
theorem dX7_isGuiltyAt_54 : decode cX7_isGuiltyAt 54 = .ok (.imul, 1) := by decide +kernel
theorem dX7_isGuiltyAt_55 : decode cX7_isGuiltyAt 55 = .ok (.iload_n 2, 1) := by decide +kernel
theorem dX7_isGuiltyAt_56 : decode cX7_isGuiltyAt 56 = .ok (.iconst 5, 1) := by decide +kernel
theorem dX7_isGuiltyAt_57 : decode cX7_isGuiltyAt 57 = .ok (.irem, 1) := by decide +kernel
theorem dX7_isGuiltyAt_58 : decode cX7_isGuiltyAt 58 = .ok (.aload_n 0, 1) := by decide +kernel
theorem dX7_isGuiltyAt_59 : decode cX7_isGuiltyAt 59 = .ok (.getfield 7, 3) := by decide +kernel
theorem dX7_isGuiltyAt_62 : decode cX7_isGuiltyAt 62 = .ok (.iconst 5, 1) := by decide +kernel
theorem dX7_isGuiltyAt_63 : decode cX7_isGuiltyAt 63 = .ok (.irem, 1) := by decide +kernel
theorem dX7_isGuiltyAt_64 : decode cX7_isGuiltyAt 64 = .ok (.isub, 1) := by decide +kernel
theorem dX7_isGuiltyAt_65 : decode cX7_isGuiltyAt 65 = .ok (.invokestatic 117, 3) := by decide +kernel
theorem dX7_isGuiltyAt_68 : decode cX7_isGuiltyAt 68 = .ok (.iadd, 1) := by decide +kernel
theorem dX7_isGuiltyAt_69 : decode cX7_isGuiltyAt 69 = .ok (.istore 5, 2) := by decide +kernel
theorem dX7_isGuiltyAt_71 : decode cX7_isGuiltyAt 71 = .ok (.aload_n 0, 1) := by decide +kernel
theorem dX7_isGuiltyAt_72 : decode cX7_isGuiltyAt 72 = .ok (.aload_n 0, 1) := by decide +kernel
theorem dX7_isGuiltyAt_73 : decode cX7_isGuiltyAt 73 = .ok (.getfield 7, 3) := by decide +kernel
theorem dX7_isGuiltyAt_76 : decode cX7_isGuiltyAt 76 = .ok (.iload_n 2, 1) := by decide +kernel
theorem dX7_isGuiltyAt_77 : decode cX7_isGuiltyAt 77 = .ok (.iload_n 1, 1) := by decide +kernel
theorem dX7_isGuiltyAt_78 : decode cX7_isGuiltyAt 78 = .ok (.iconst 3, 1) := by decide +kernel
theorem dX7_isGuiltyAt_79 : decode cX7_isGuiltyAt 79 = .ok (.if_icmp .eq 7, 3) := by decide +kernel
theorem dX7_isGuiltyAt_82 : decode cX7_isGuiltyAt 82 = .ok (.iconst 1, 1) := by decide +kernel
theorem dX7_isGuiltyAt_83 : decode cX7_isGuiltyAt 83 = .ok (.goto 4, 3) := by decide +kernel
theorem dX7_isGuiltyAt_86 : decode cX7_isGuiltyAt 86 = .ok (.iconst 0, 1) := by decide +kernel
theorem dX7_isGuiltyAt_87 : decode cX7_isGuiltyAt 87 = .ok (.invokevirtual 127, 3) := by decide +kernel
theorem dX7_isGuiltyAt_90 : decode cX7_isGuiltyAt 90 = .ok (.istore 6, 2) := by decide +kernel
theorem dX7_isGuiltyAt_92 : decode cX7_isGuiltyAt 92 = .ok (.aload_n 0, 1) := by decide +kernel
theorem dX7_isGuiltyAt_93 : decode cX7_isGuiltyAt 93 = .ok (.getfield 7, 3) := by decide +kernel
theorem dX7_isGuiltyAt_96 : decode cX7_isGuiltyAt 96 = .ok (.iload 5, 2) := by decide +kernel
theorem dX7_isGuiltyAt_98 : decode cX7_isGuiltyAt 98 = .ok (.iadd, 1) := by decide +kernel
theorem dX7_isGuiltyAt_99 : decode cX7_isGuiltyAt 99 = .ok (.istore 7, 2) := by decide +kernel
theorem dX7_isGuiltyAt_101 : decode cX7_isGuiltyAt 101 = .ok (.iload 7, 2) := by decide +kernel
theorem dX7_isGuiltyAt_103 : decode cX7_isGuiltyAt 103 = .ok (.iload_n 2, 1) := by decide +kernel
theorem dX7_isGuiltyAt_104 : decode cX7_isGuiltyAt 104 = .ok (.if_icmp .eq 40, 3) := by decide +kernel
theorem dX7_isGuiltyAt_107 : decode cX7_isGuiltyAt 107 = .ok (.iload 6, 2) := by decide +kernel
theorem dX7_isGuiltyAt_109 : decode cX7_isGuiltyAt 109 = .ok (.ifCond .eq 22, 3) := by decide +kernel
theorem dX7_isGuiltyAt_112 : decode cX7_isGuiltyAt 112 = .ok (.iload_n 1, 1) := by decide +kernel
theorem dX7_isGuiltyAt_113 : decode cX7_isGuiltyAt 113 = .ok (.iconst 3, 1) := by decide +kernel
theorem dX7_isGuiltyAt_114 : decode cX7_isGuiltyAt 114 = .ok (.if_icmp .eq 13, 3) := by decide +kernel
theorem dX7_isGuiltyAt_117 : decode cX7_isGuiltyAt 117 = .ok (.aload_n 0, 1) := by decide +kernel
theorem dX7_isGuiltyAt_118 : decode cX7_isGuiltyAt 118 = .ok (.iload 7, 2) := by decide +kernel
theorem dX7_isGuiltyAt_120 : decode cX7_isGuiltyAt 120 = .ok (.iload_n 3, 1) := by decide +kernel
theorem dX7_isGuiltyAt_121 : decode cX7_isGuiltyAt 121 = .ok (.invokevirtual 160, 3) := by decide +kernel
theorem dX7_isGuiltyAt_124 : decode cX7_isGuiltyAt 124 = .ok (.ifCond .ne 7, 3) := by decide +kernel
theorem dX7_isGuiltyAt_127 : decode cX7_isGuiltyAt 127 = .ok (.iconst 1, 1) := by decide +kernel
theorem dX7_isGuiltyAt_128 : decode cX7_isGuiltyAt 128 = .ok (.goto 4, 3) := by decide +kernel
theorem dX7_isGuiltyAt_131 : decode cX7_isGuiltyAt 131 = .ok (.iconst 0, 1) := by decide +kernel
theorem dX7_isGuiltyAt_132 : decode cX7_isGuiltyAt 132 = .ok (.istore 6, 2) := by decide +kernel
theorem dX7_isGuiltyAt_134 : decode cX7_isGuiltyAt 134 = .ok (.iload 7, 2) := by decide +kernel
theorem dX7_isGuiltyAt_136 : decode cX7_isGuiltyAt 136 = .ok (.iload 5, 2) := by decide +kernel
theorem dX7_isGuiltyAt_138 : decode cX7_isGuiltyAt 138 = .ok (.iadd, 1) := by decide +kernel
theorem dX7_isGuiltyAt_139 : decode cX7_isGuiltyAt 139 = .ok (.istore 7, 2) := by decide +kernel
theorem dX7_isGuiltyAt_141 : decode cX7_isGuiltyAt 141 = .ok (.goto (-40), 3) := by decide +kernel
theorem dX7_isGuiltyAt_144 : decode cX7_isGuiltyAt 144 = .ok (.iload 4, 2) := by decide +kernel
theorem dX7_isGuiltyAt_146 : decode cX7_isGuiltyAt 146 = .ok (.iconst 2, 1) := by decide +kernel
theorem dX7_isGuiltyAt_147 : decode cX7_isGuiltyAt 147 = .ok (.aload_n 0, 1) := by decide +kernel
theorem dX7_isGuiltyAt_148 : decode cX7_isGuiltyAt 148 = .ok (.getfield 13, 3) := by decide +kernel
theorem dX7_isGuiltyAt_151 : decode cX7_isGuiltyAt 151 = .ok (.imul, 1) := by decide +kernel
theorem dX7_isGuiltyAt_152 : decode cX7_isGuiltyAt 152 = .ok (.isub, 1) := by decide +kernel
theorem dX7_isGuiltyAt_153 : decode cX7_isGuiltyAt 153 = .ok (.bipush 8, 2) := by decide +kernel
theorem dX7_isGuiltyAt_155 : decode cX7_isGuiltyAt 155 = .ok (.iadd, 1) := by decide +kernel
theorem dX7_isGuiltyAt_156 : decode cX7_isGuiltyAt 156 = .ok (.bipush 8, 2) := by decide +kernel
theorem dX7_isGuiltyAt_158 : decode cX7_isGuiltyAt 158 = .ok (.irem, 1) := by decide +kernel
theorem dX7_isGuiltyAt_159 : decode cX7_isGuiltyAt 159 = .ok (.istore 7, 2) := by decide +kernel
theorem dX7_isGuiltyAt_161 : decode cX7_isGuiltyAt 161 = .ok (.iload 6, 2) := by decide +kernel
theorem dX7_isGuiltyAt_163 : decode cX7_isGuiltyAt 163 = .ok (.ifCond .eq 26, 3) := by decide +kernel
theorem dX7_isGuiltyAt_166 : decode cX7_isGuiltyAt 166 = .ok (.iload 7, 2) := by decide +kernel
theorem dX7_isGuiltyAt_168 : decode cX7_isGuiltyAt 168 = .ok (.ifCond .ne 11, 3) := by decide +kernel
theorem dX7_isGuiltyAt_171 : decode cX7_isGuiltyAt 171 = .ok (.iload_n 1, 1) := by decide +kernel
theorem dX7_isGuiltyAt_172 : decode cX7_isGuiltyAt 172 = .ok (.iconst 1, 1) := by decide +kernel
theorem dX7_isGuiltyAt_173 : decode cX7_isGuiltyAt 173 = .ok (.if_icmp .eq 16, 3) := by decide +kernel
theorem dX7_isGuiltyAt_176 : decode cX7_isGuiltyAt 176 = .ok (.goto 9, 3) := by decide +kernel
theorem dX7_isGuiltyAt_179 : decode cX7_isGuiltyAt 179 = .ok (.iload 7, 2) := by decide +kernel
theorem dX7_isGuiltyAt_181 : decode cX7_isGuiltyAt 181 = .ok (.iconst 4, 1) := by decide +kernel
theorem dX7_isGuiltyAt_182 : decode cX7_isGuiltyAt 182 = .ok (.if_icmp .ge 7, 3) := by decide +kernel
theorem dX7_isGuiltyAt_185 : decode cX7_isGuiltyAt 185 = .ok (.iconst 1, 1) := by decide +kernel
theorem dX7_isGuiltyAt_186 : decode cX7_isGuiltyAt 186 = .ok (.goto 4, 3) := by decide +kernel
theorem dX7_isGuiltyAt_189 : decode cX7_isGuiltyAt 189 = .ok (.iconst 0, 1) := by decide +kernel
theorem dX7_isGuiltyAt_190 : decode cX7_isGuiltyAt 190 = .ok (.ireturn, 1) := by decide +kernel
theorem dX7_findRoom_0 : decode cX7_findRoom 0 = .ok (.iload_n 1, 1) := by decide +kernel
theorem dX7_findRoom_1 : decode cX7_findRoom 1 = .ok (.iconst 1, 1) := by decide +kernel
theorem dX7_findRoom_2 : decode cX7_findRoom 2 = .ok (.if_icmp .ne 8, 3) := by decide +kernel
theorem dX7_findRoom_5 : decode cX7_findRoom 5 = .ok (.bipush 20, 2) := by decide +kernel
theorem dX7_findRoom_7 : decode cX7_findRoom 7 = .ok (.goto 17, 3) := by decide +kernel
theorem dX7_findRoom_10 : decode cX7_findRoom 10 = .ok (.iload_n 1, 1) := by decide +kernel
theorem dX7_findRoom_11 : decode cX7_findRoom 11 = .ok (.iconst 2, 1) := by decide +kernel
theorem dX7_findRoom_12 : decode cX7_findRoom 12 = .ok (.if_icmp .ne 9, 3) := by decide +kernel
theorem dX7_findRoom_15 : decode cX7_findRoom 15 = .ok (.sipush 400, 3) := by decide +kernel
theorem dX7_findRoom_18 : decode cX7_findRoom 18 = .ok (.goto 6, 3) := by decide +kernel
theorem dX7_findRoom_21 : decode cX7_findRoom 21 = .ok (.sipush 8000, 3) := by decide +kernel
theorem dX7_findRoom_24 : decode cX7_findRoom 24 = .ok (.istore_n 2, 1) := by decide +kernel
theorem dX7_findRoom_25 : decode cX7_findRoom 25 = .ok (.iconst 0, 1) := by decide +kernel
theorem dX7_findRoom_26 : decode cX7_findRoom 26 = .ok (.istore_n 3, 1) := by decide +kernel
theorem dX7_findRoom_27 : decode cX7_findRoom 27 = .ok (.iload_n 3, 1) := by decide +kernel
theorem dX7_findRoom_28 : decode cX7_findRoom 28 = .ok (.iload_n 2, 1) := by decide +kernel
theorem dX7_findRoom_29 : decode cX7_findRoom 29 = .ok (.if_icmp .ge 181, 3) := by decide +kernel
theorem dX7_findRoom_32 : decode cX7_findRoom 32 = .ok (.aload_n 0, 1) := by decide +kernel
theorem dX7_findRoom_33 : decode cX7_findRoom 33 = .ok (.getfield 36, 3) := by decide +kernel
theorem dX7_findRoom_36 : decode cX7_findRoom 36 = .ok (.iconst 0, 1) := by decide +kernel
theorem dX7_findRoom_37 : decode cX7_findRoom 37 = .ok (.iload_n 1, 1) := by decide +kernel
theorem dX7_findRoom_38 : decode cX7_findRoom 38 = .ok (.iconst 1, 1) := by decide +kernel
theorem dX7_findRoom_39 : decode cX7_findRoom 39 = .ok (.if_icmp .ne 7, 3) := by decide +kernel
theorem dX7_findRoom_42 : decode cX7_findRoom 42 = .ok (.iload_n 3, 1) := by decide +kernel
theorem dX7_findRoom_43 : decode cX7_findRoom 43 = .ok (.goto 20, 3) := by decide +kernel
theorem dX7_findRoom_46 : decode cX7_findRoom 46 = .ok (.iload_n 1, 1) := by decide +kernel
theorem dX7_findRoom_47 : decode cX7_findRoom 47 = .ok (.iconst 2, 1) := by decide +kernel
theorem dX7_findRoom_48 : decode cX7_findRoom 48 = .ok (.if_icmp .ne 10, 3) := by decide +kernel
theorem dX7_findRoom_51 : decode cX7_findRoom 51 = .ok (.iload_n 3, 1) := by decide +kernel
theorem dX7_findRoom_52 : decode cX7_findRoom 52 = .ok (.bipush 20, 2) := by decide +kernel
theorem dX7_findRoom_54 : decode cX7_findRoom 54 = .ok (.idiv, 1) := by decide +kernel
theorem dX7_findRoom_55 : decode cX7_findRoom 55 = .ok (.goto 8, 3) := by decide +kernel
theorem dX7_findRoom_58 : decode cX7_findRoom 58 = .ok (.iload_n 3, 1) := by decide +kernel
theorem dX7_findRoom_59 : decode cX7_findRoom 59 = .ok (.sipush 400, 3) := by decide +kernel
theorem dX7_findRoom_62 : decode cX7_findRoom 62 = .ok (.idiv, 1) := by decide +kernel
theorem dX7_findRoom_63 : decode cX7_findRoom 63 = .ok (.iastore, 1) := by decide +kernel
theorem dX7_findRoom_64 : decode cX7_findRoom 64 = .ok (.aload_n 0, 1) := by decide +kernel
theorem dX7_findRoom_65 : decode cX7_findRoom 65 = .ok (.getfield 36, 3) := by decide +kernel
theorem dX7_findRoom_68 : decode cX7_findRoom 68 = .ok (.iconst 1, 1) := by decide +kernel
theorem dX7_findRoom_69 : decode cX7_findRoom 69 = .ok (.iload_n 1, 1) := by decide +kernel
theorem dX7_findRoom_70 : decode cX7_findRoom 70 = .ok (.iconst 1, 1) := by decide +kernel
theorem dX7_findRoom_71 : decode cX7_findRoom 71 = .ok (.if_icmp .ne 8, 3) := by decide +kernel
theorem dX7_findRoom_74 : decode cX7_findRoom 74 = .ok (.bipush 20, 2) := by decide +kernel
theorem dX7_findRoom_76 : decode cX7_findRoom 76 = .ok (.goto 22, 3) := by decide +kernel
theorem dX7_findRoom_79 : decode cX7_findRoom 79 = .ok (.iload_n 1, 1) := by decide +kernel
theorem dX7_findRoom_80 : decode cX7_findRoom 80 = .ok (.iconst 2, 1) := by decide +kernel
theorem dX7_findRoom_81 : decode cX7_findRoom 81 = .ok (.if_icmp .ne 10, 3) := by decide +kernel
theorem dX7_findRoom_84 : decode cX7_findRoom 84 = .ok (.iload_n 3, 1) := by decide +kernel
theorem dX7_findRoom_85 : decode cX7_findRoom 85 = .ok (.bipush 20, 2) := by decide +kernel
theorem dX7_findRoom_87 : decode cX7_findRoom 87 = .ok (.irem, 1) := by decide +kernel
theorem dX7_findRoom_88 : decode cX7_findRoom 88 = .ok (.goto 10, 3) := by decide +kernel
theorem dX7_findRoom_91 : decode cX7_findRoom 91 = .ok (.iload_n 3, 1) := by decide +kernel
theorem dX7_findRoom_92 : decode cX7_findRoom 92 = .ok (.bipush 20, 2) := by decide +kernel
theorem dX7_findRoom_94 : decode cX7_findRoom 94 = .ok (.idiv, 1) := by decide +kernel
theorem dX7_findRoom_95 : decode cX7_findRoom 95 = .ok (.bipush 20, 2) := by decide +kernel
theorem dX7_findRoom_97 : decode cX7_findRoom 97 = .ok (.irem, 1) := by decide +kernel
theorem dX7_findRoom_98 : decode cX7_findRoom 98 = .ok (.iastore, 1) := by decide +kernel
theorem dX7_findRoom_99 : decode cX7_findRoom 99 = .ok (.aload_n 0, 1) := by decide +kernel
theorem dX7_findRoom_100 : decode cX7_findRoom 100 = .ok (.getfield 36, 3) := by decide +kernel
theorem dX7_findRoom_103 : decode cX7_findRoom 103 = .ok (.iconst 2, 1) := by decide +kernel
theorem dX7_findRoom_104 : decode cX7_findRoom 104 = .ok (.iload_n 1, 1) := by decide +kernel
theorem dX7_findRoom_105 : decode cX7_findRoom 105 = .ok (.iconst 3, 1) := by decide +kernel
theorem dX7_findRoom_106 : decode cX7_findRoom 106 = .ok (.if_icmp .ge 8, 3) := by decide +kernel
theorem dX7_findRoom_109 : decode cX7_findRoom 109 = .ok (.bipush 21, 2) := by decide +kernel
theorem dX7_findRoom_111 : decode cX7_findRoom 111 = .ok (.goto 7, 3) := by decide +kernel
theorem dX7_findRoom_114 : decode cX7_findRoom 114 = .ok (.iload_n 3, 1) := by decide +kernel
theorem dX7_findRoom_115 : decode cX7_findRoom 115 = .ok (.bipush 20, 2) := by decide +kernel
theorem dX7_findRoom_117 : decode cX7_findRoom 117 = .ok (.irem, 1) := by decide +kernel
theorem dX7_findRoom_118 : decode cX7_findRoom 118 = .ok (.iastore, 1) := by decide +kernel
theorem dX7_findRoom_119 : decode cX7_findRoom 119 = .ok (.aload_n 0, 1) := by decide +kernel
theorem dX7_findRoom_120 : decode cX7_findRoom 120 = .ok (.getfield 36, 3) := by decide +kernel
theorem dX7_findRoom_123 : decode cX7_findRoom 123 = .ok (.iconst 0, 1) := by decide +kernel
theorem dX7_findRoom_124 : decode cX7_findRoom 124 = .ok (.iaload, 1) := by decide +kernel
theorem dX7_findRoom_125 : decode cX7_findRoom 125 = .ok (.aload_n 0, 1) := by decide +kernel
theorem dX7_findRoom_126 : decode cX7_findRoom 126 = .ok (.getfield 36, 3) := by decide +kernel
theorem dX7_findRoom_129 : decode cX7_findRoom 129 = .ok (.iconst 1, 1) := by decide +kernel
theorem dX7_findRoom_130 : decode cX7_findRoom 130 = .ok (.iaload, 1) := by decide +kernel
theorem dX7_findRoom_131 : decode cX7_findRoom 131 = .ok (.if_icmp .ge 22, 3) := by decide +kernel
theorem dX7_findRoom_134 : decode cX7_findRoom 134 = .ok (.aload_n 0, 1) := by decide +kernel
theorem dX7_findRoom_135 : decode cX7_findRoom 135 = .ok (.getfield 36, 3) := by decide +kernel
theorem dX7_findRoom_138 : decode cX7_findRoom 138 = .ok (.iconst 1, 1) := by decide +kernel
theorem dX7_findRoom_139 : decode cX7_findRoom 139 = .ok (.iaload, 1) := by decide +kernel
theorem dX7_findRoom_140 : decode cX7_findRoom 140 = .ok (.aload_n 0, 1) := by decide +kernel
theorem dX7_findRoom_141 : decode cX7_findRoom 141 = .ok (.getfield 36, 3) := by decide +kernel
theorem dX7_findRoom_144 : decode cX7_findRoom 144 = .ok (.iconst 2, 1) := by decide +kernel
theorem dX7_findRoom_145 : decode cX7_findRoom 145 = .ok (.iaload, 1) := by decide +kernel
theorem dX7_findRoom_146 : decode cX7_findRoom 146 = .ok (.if_icmp .ge 7, 3) := by decide +kernel
theorem dX7_findRoom_149 : decode cX7_findRoom 149 = .ok (.iconst 1, 1) := by decide +kernel
theorem dX7_findRoom_150 : decode cX7_findRoom 150 = .ok (.goto 4, 3) := by decide +kernel
theorem dX7_findRoom_153 : decode cX7_findRoom 153 = .ok (.iconst 0, 1) := by decide +kernel
theorem dX7_findRoom_154 : decode cX7_findRoom 154 = .ok (.istore 4, 2) := by decide +kernel
theorem dX7_findRoom_156 : decode cX7_findRoom 156 = .ok (.iconst 0, 1) := by decide +kernel
theorem dX7_findRoom_157 : decode cX7_findRoom 157 = .ok (.istore 5, 2) := by decide +kernel
theorem dX7_findRoom_159 : decode cX7_findRoom 159 = .ok (.iload 5, 2) := by decide +kernel
theorem dX7_findRoom_161 : decode cX7_findRoom 161 = .ok (.iload_n 1, 1) := by decide +kernel
theorem dX7_findRoom_162 : decode cX7_findRoom 162 = .ok (.if_icmp .ge 27, 3) := by decide +kernel
theorem dX7_findRoom_165 : decode cX7_findRoom 165 = .ok (.iload 4, 2) := by decide +kernel
theorem dX7_findRoom_167 : decode cX7_findRoom 167 = .ok (.ifCond .eq 22, 3) := by decide +kernel
theorem dX7_findRoom_170 : decode cX7_findRoom 170 = .ok (.aload_n 0, 1) := by decide +kernel
theorem dX7_findRoom_171 : decode cX7_findRoom 171 = .ok (.aload_n 0, 1) := by decide +kernel
theorem dX7_findRoom_172 : decode cX7_findRoom 172 = .ok (.getfield 36, 3) := by decide +kernel
theorem dX7_findRoom_175 : decode cX7_findRoom 175 = .ok (.iload 5, 2) := by decide +kernel
theorem dX7_findRoom_177 : decode cX7_findRoom 177 = .ok (.iaload, 1) := by decide +kernel
theorem dX7_findRoom_178 : decode cX7_findRoom 178 = .ok (.invokevirtual 107, 3) := by decide +kernel
theorem dX7_findRoom_181 : decode cX7_findRoom 181 = .ok (.istore 4, 2) := by decide +kernel
theorem dX7_findRoom_183 : decode cX7_findRoom 183 = .ok (.iinc 5 1, 3) := by decide +kernel
theorem dX7_findRoom_186 : decode cX7_findRoom 186 = .ok (.goto (-27), 3) := by decide +kernel
theorem dX7_findRoom_189 : decode cX7_findRoom 189 = .ok (.iload 4, 2) := by decide +kernel
theorem dX7_findRoom_191 : decode cX7_findRoom 191 = .ok (.ifCond .eq 13, 3) := by decide +kernel
theorem dX7_findRoom_194 : decode cX7_findRoom 194 = .ok (.aload_n 0, 1) := by decide +kernel
theorem dX7_findRoom_195 : decode cX7_findRoom 195 = .ok (.iload_n 1, 1) := by decide +kernel
theorem dX7_findRoom_196 : decode cX7_findRoom 196 = .ok (.invokevirtual 163, 3) := by decide +kernel
theorem dX7_findRoom_199 : decode cX7_findRoom 199 = .ok (.ifCond .eq 5, 3) := by decide +kernel
theorem dX7_findRoom_202 : decode cX7_findRoom 202 = .ok (.iconst 1, 1) := by decide +kernel
theorem dX7_findRoom_203 : decode cX7_findRoom 203 = .ok (.ireturn, 1) := by decide +kernel
theorem dX7_findRoom_204 : decode cX7_findRoom 204 = .ok (.iinc 3 1, 3) := by decide +kernel
theorem dX7_findRoom_207 : decode cX7_findRoom 207 = .ok (.goto (-180), 3) := by decide +kernel
theorem dX7_findRoom_210 : decode cX7_findRoom 210 = .ok (.iconst 0, 1) := by decide +kernel
theorem dX7_findRoom_211 : decode cX7_findRoom 211 = .ok (.ireturn, 1) := by decide +kernel
theorem dX7_roomNow_0 : decode cX7_roomNow 0 = .ok (.iload_n 2, 1) := by decide +kernel
theorem dX7_roomNow_1 : decode cX7_roomNow 1 = .ok (.iload_n 1, 1) := by decide +kernel
theorem dX7_roomNow_2 : decode cX7_roomNow 2 = .ok (.if_icmp .ge 20, 3) := by decide +kernel
theorem dX7_roomNow_5 : decode cX7_roomNow 5 = .ok (.aload_n 0, 1) := by decide +kernel
theorem dX7_roomNow_6 : decode cX7_roomNow 6 = .ok (.iload_n 1, 1) := by decide +kernel
theorem dX7_roomNow_7 : decode cX7_roomNow 7 = .ok (.invokevirtual 166, 3) := by decide +kernel
theorem dX7_roomNow_10 : decode cX7_roomNow 10 = .ok (.ifCond .eq 12, 3) := by decide +kernel
theorem dX7_roomNow_13 : decode cX7_roomNow 13 = .ok (.aload_n 0, 1) := by decide +kernel
theorem dX7_roomNow_14 : decode cX7_roomNow 14 = .ok (.getfield 36, 3) := by decide +kernel
theorem dX7_roomNow_17 : decode cX7_roomNow 17 = .ok (.iload_n 2, 1) := by decide +kernel
theorem dX7_roomNow_18 : decode cX7_roomNow 18 = .ok (.iaload, 1) := by decide +kernel
theorem dX7_roomNow_19 : decode cX7_roomNow 19 = .ok (.goto 4, 3) := by decide +kernel
theorem dX7_roomNow_22 : decode cX7_roomNow 22 = .ok (.iconst (-1), 1) := by decide +kernel
theorem dX7_roomNow_23 : decode cX7_roomNow 23 = .ok (.ireturn, 1) := by decide +kernel
theorem dX7_room_0 : decode cX7_room 0 = .ok (.iload_n 1, 1) := by decide +kernel
theorem dX7_room_1 : decode cX7_room 1 = .ok (.iconst 1, 1) := by decide +kernel
theorem dX7_room_2 : decode cX7_room 2 = .ok (.iconst 3, 1) := by decide +kernel
theorem dX7_room_3 : decode cX7_room 3 = .ok (.invokestatic 57, 3) := by decide +kernel
theorem dX7_room_6 : decode cX7_room 6 = .ok (.ifCond .eq 12, 3) := by decide +kernel
theorem dX7_room_9 : decode cX7_room 9 = .ok (.iload_n 2, 1) := by decide +kernel
theorem dX7_room_10 : decode cX7_room 10 = .ok (.iconst 0, 1) := by decide +kernel
theorem dX7_room_11 : decode cX7_room 11 = .ok (.iconst 2, 1) := by decide +kernel
theorem dX7_room_12 : decode cX7_room 12 = .ok (.invokestatic 57, 3) := by decide +kernel
theorem dX7_room_15 : decode cX7_room 15 = .ok (.ifCond .ne 6, 3) := by decide +kernel
theorem dX7_room_18 : decode cX7_room 18 = .ok (.bipush (-102), 2) := by decide +kernel
theorem dX7_room_20 : decode cX7_room 20 = .ok (.ireturn, 1) := by decide +kernel
theorem dX7_room_21 : decode cX7_room 21 = .ok (.aload_n 0, 1) := by decide +kernel
theorem dX7_room_22 : decode cX7_room 22 = .ok (.getfield 7, 3) := by decide +kernel
theorem dX7_room_25 : decode cX7_room 25 = .ok (.iconst (-1), 1) := by decide +kernel
theorem dX7_room_26 : decode cX7_room 26 = .ok (.if_icmp .ne 8, 3) := by decide +kernel
theorem dX7_room_29 : decode cX7_room 29 = .ok (.bipush (-103), 2) := by decide +kernel
theorem dX7_room_31 : decode cX7_room 31 = .ok (.goto 9, 3) := by decide +kernel
theorem dX7_room_34 : decode cX7_room 34 = .ok (.aload_n 0, 1) := by decide +kernel
theorem dX7_room_35 : decode cX7_room 35 = .ok (.iload_n 1, 1) := by decide +kernel
theorem dX7_room_36 : decode cX7_room 36 = .ok (.iload_n 2, 1) := by decide +kernel
theorem dX7_room_37 : decode cX7_room 37 = .ok (.invokevirtual 169, 3) := by decide +kernel
theorem dX7_room_40 : decode cX7_room 40 = .ok (.ireturn, 1) := by decide +kernel
theorem dX7_brickNow_0 : decode cX7_brickNow 0 = .ok (.iconst (-1), 1) := by decide +kernel
theorem dX7_brickNow_1 : decode cX7_brickNow 1 = .ok (.istore_n 2, 1) := by decide +kernel
theorem dX7_brickNow_2 : decode cX7_brickNow 2 = .ok (.bipush 20, 2) := by decide +kernel
theorem dX7_brickNow_4 : decode cX7_brickNow 4 = .ok (.istore_n 3, 1) := by decide +kernel
theorem dX7_brickNow_5 : decode cX7_brickNow 5 = .ok (.aload_n 0, 1) := by decide +kernel
theorem dX7_brickNow_6 : decode cX7_brickNow 6 = .ok (.getfield 73, 3) := by decide +kernel
theorem dX7_brickNow_9 : decode cX7_brickNow 9 = .ok (.istore 4, 2) := by decide +kernel
theorem dX7_brickNow_11 : decode cX7_brickNow 11 = .ok (.iconst 0, 1) := by decide +kernel
theorem dX7_brickNow_12 : decode cX7_brickNow 12 = .ok (.istore 5, 2) := by decide +kernel
theorem dX7_brickNow_14 : decode cX7_brickNow 14 = .ok (.iload 5, 2) := by decide +kernel
theorem dX7_brickNow_16 : decode cX7_brickNow 16 = .ok (.bipush 20, 2) := by decide +kernel
theorem dX7_brickNow_18 : decode cX7_brickNow 18 = .ok (.if_icmp .ge 72, 3) := by decide +kernel
theorem dX7_brickNow_21 : decode cX7_brickNow 21 = .ok (.aload_n 0, 1) := by decide +kernel
theorem dX7_brickNow_22 : decode cX7_brickNow 22 = .ok (.iload 5, 2) := by decide +kernel
theorem dX7_brickNow_24 : decode cX7_brickNow 24 = .ok (.invokevirtual 107, 3) := by decide +kernel
theorem dX7_brickNow_27 : decode cX7_brickNow 27 = .ok (.ifCond .eq 57, 3) := by decide +kernel
theorem dX7_brickNow_30 : decode cX7_brickNow 30 = .ok (.aload_n 0, 1) := by decide +kernel
theorem dX7_brickNow_31 : decode cX7_brickNow 31 = .ok (.iload 4, 2) := by decide +kernel
theorem dX7_brickNow_33 : decode cX7_brickNow 33 = .ok (.iconst 1, 1) := by decide +kernel
theorem dX7_brickNow_34 : decode cX7_brickNow 34 = .ok (.iload 5, 2) := by decide +kernel
theorem dX7_brickNow_36 : decode cX7_brickNow 36 = .ok (.ishl, 1) := by decide +kernel
theorem dX7_brickNow_37 : decode cX7_brickNow 37 = .ok (.iconst (-1), 1) := by decide +kernel
theorem dX7_brickNow_38 : decode cX7_brickNow 38 = .ok (.ixor, 1) := by decide +kernel
theorem dX7_brickNow_39 : decode cX7_brickNow 39 = .ok (.iand, 1) := by decide +kernel
theorem dX7_brickNow_40 : decode cX7_brickNow 40 = .ok (.putfield 73, 3) := by decide +kernel
theorem dX7_brickNow_43 : decode cX7_brickNow 43 = .ok (.aload_n 0, 1) := by decide +kernel
theorem dX7_brickNow_44 : decode cX7_brickNow 44 = .ok (.invokevirtual 153, 3) := by decide +kernel
theorem dX7_brickNow_47 : decode cX7_brickNow 47 = .ok (.invokestatic 89, 3) := by decide +kernel
theorem dX7_brickNow_50 : decode cX7_brickNow 50 = .ok (.istore 6, 2) := by decide +kernel
theorem dX7_brickNow_52 : decode cX7_brickNow 52 = .ok (.aload_n 0, 1) := by decide +kernel
theorem dX7_brickNow_53 : decode cX7_brickNow 53 = .ok (.iload 4, 2) := by decide +kernel
theorem dX7_brickNow_55 : decode cX7_brickNow 55 = .ok (.putfield 73, 3) := by decide +kernel
theorem dX7_brickNow_58 : decode cX7_brickNow 58 = .ok (.iload 6, 2) := by decide +kernel
theorem dX7_brickNow_60 : decode cX7_brickNow 60 = .ok (.iload_n 3, 1) := by decide +kernel
theorem dX7_brickNow_61 : decode cX7_brickNow 61 = .ok (.if_icmp .ge 8, 3) := by decide +kernel
theorem dX7_brickNow_64 : decode cX7_brickNow 64 = .ok (.iload 5, 2) := by decide +kernel
theorem dX7_brickNow_66 : decode cX7_brickNow 66 = .ok (.goto 4, 3) := by decide +kernel
theorem dX7_brickNow_69 : decode cX7_brickNow 69 = .ok (.iload_n 2, 1) := by decide +kernel
theorem dX7_brickNow_70 : decode cX7_brickNow 70 = .ok (.istore_n 2, 1) := by decide +kernel
theorem dX7_brickNow_71 : decode cX7_brickNow 71 = .ok (.iload 6, 2) := by decide +kernel
theorem dX7_brickNow_73 : decode cX7_brickNow 73 = .ok (.iload_n 3, 1) := by decide +kernel
theorem dX7_brickNow_74 : decode cX7_brickNow 74 = .ok (.if_icmp .ge 8, 3) := by decide +kernel
theorem dX7_brickNow_77 : decode cX7_brickNow 77 = .ok (.iload 6, 2) := by decide +kernel
theorem dX7_brickNow_79 : decode cX7_brickNow 79 = .ok (.goto 4, 3) := by decide +kernel
theorem dX7_brickNow_82 : decode cX7_brickNow 82 = .ok (.iload_n 3, 1) := by decide +kernel
theorem dX7_brickNow_83 : decode cX7_brickNow 83 = .ok (.istore_n 3, 1) := by decide +kernel
theorem dX7_brickNow_84 : decode cX7_brickNow 84 = .ok (.iinc 5 1, 3) := by decide +kernel
theorem dX7_brickNow_87 : decode cX7_brickNow 87 = .ok (.goto (-73), 3) := by decide +kernel
theorem dX7_brickNow_90 : decode cX7_brickNow 90 = .ok (.iload_n 2, 1) := by decide +kernel
theorem dX7_brickNow_91 : decode cX7_brickNow 91 = .ok (.iconst (-1), 1) := by decide +kernel
theorem dX7_brickNow_92 : decode cX7_brickNow 92 = .ok (.if_icmp .eq 7, 3) := by decide +kernel
theorem dX7_brickNow_95 : decode cX7_brickNow 95 = .ok (.iload_n 1, 1) := by decide +kernel
theorem dX7_brickNow_96 : decode cX7_brickNow 96 = .ok (.ifCond .ne 7, 3) := by decide +kernel
theorem dX7_brickNow_99 : decode cX7_brickNow 99 = .ok (.iload_n 2, 1) := by decide +kernel
theorem dX7_brickNow_100 : decode cX7_brickNow 100 = .ok (.goto 4, 3) := by decide +kernel
theorem dX7_brickNow_103 : decode cX7_brickNow 103 = .ok (.iload_n 3, 1) := by decide +kernel
theorem dX7_brickNow_104 : decode cX7_brickNow 104 = .ok (.ireturn, 1) := by decide +kernel
theorem dX7_brick_0 : decode cX7_brick 0 = .ok (.iload_n 1, 1) := by decide +kernel
theorem dX7_brick_1 : decode cX7_brick 1 = .ok (.iconst 0, 1) := by decide +kernel
theorem dX7_brick_2 : decode cX7_brick 2 = .ok (.iconst 1, 1) := by decide +kernel
theorem dX7_brick_3 : decode cX7_brick 3 = .ok (.invokestatic 57, 3) := by decide +kernel
theorem dX7_brick_6 : decode cX7_brick 6 = .ok (.ifCond .ne 6, 3) := by decide +kernel
theorem dX7_brick_9 : decode cX7_brick 9 = .ok (.bipush (-102), 2) := by decide +kernel
theorem dX7_brick_11 : decode cX7_brick 11 = .ok (.ireturn, 1) := by decide +kernel
theorem dX7_brick_12 : decode cX7_brick 12 = .ok (.aload_n 0, 1) := by decide +kernel
theorem dX7_brick_13 : decode cX7_brick 13 = .ok (.getfield 7, 3) := by decide +kernel
theorem dX7_brick_16 : decode cX7_brick 16 = .ok (.iconst (-1), 1) := by decide +kernel
theorem dX7_brick_17 : decode cX7_brick 17 = .ok (.if_icmp .ne 8, 3) := by decide +kernel
theorem dX7_brick_20 : decode cX7_brick 20 = .ok (.bipush (-103), 2) := by decide +kernel
theorem dX7_brick_22 : decode cX7_brick 22 = .ok (.goto 8, 3) := by decide +kernel
theorem dX7_brick_25 : decode cX7_brick 25 = .ok (.aload_n 0, 1) := by decide +kernel
theorem dX7_brick_26 : decode cX7_brick 26 = .ok (.iload_n 1, 1) := by decide +kernel
theorem dX7_brick_27 : decode cX7_brick 27 = .ok (.invokevirtual 172, 3) := by decide +kernel
theorem dX7_brick_30 : decode cX7_brick 30 = .ok (.ireturn, 1) := by decide +kernel
theorem dX7_wayNow_0 : decode cX7_wayNow 0 = .ok (.iload_n 1, 1) := by decide +kernel
theorem dX7_wayNow_1 : decode cX7_wayNow 1 = .ok (.aload_n 0, 1) := by decide +kernel
theorem dX7_wayNow_2 : decode cX7_wayNow 2 = .ok (.getfield 7, 3) := by decide +kernel
theorem dX7_wayNow_5 : decode cX7_wayNow 5 = .ok (.if_icmp .ne 13, 3) := by decide +kernel
theorem dX7_wayNow_8 : decode cX7_wayNow 8 = .ok (.iload_n 2, 1) := by decide +kernel
theorem dX7_wayNow_9 : decode cX7_wayNow 9 = .ok (.ifCond .ne 7, 3) := by decide +kernel
theorem dX7_wayNow_12 : decode cX7_wayNow 12 = .ok (.iconst 0, 1) := by decide +kernel
theorem dX7_wayNow_13 : decode cX7_wayNow 13 = .ok (.goto 4, 3) := by decide +kernel
theorem dX7_wayNow_16 : decode cX7_wayNow 16 = .ok (.iconst (-1), 1) := by decide +kernel
theorem dX7_wayNow_17 : decode cX7_wayNow 17 = .ok (.ireturn, 1) := by decide +kernel
theorem dX7_wayNow_18 : decode cX7_wayNow 18 = .ok (.aload_n 0, 1) := by decide +kernel
theorem dX7_wayNow_19 : decode cX7_wayNow 19 = .ok (.getfield 7, 3) := by decide +kernel
theorem dX7_wayNow_22 : decode cX7_wayNow 22 = .ok (.istore_n 3, 1) := by decide +kernel
theorem dX7_wayNow_23 : decode cX7_wayNow 23 = .ok (.aload_n 0, 1) := by decide +kernel
theorem dX7_wayNow_24 : decode cX7_wayNow 24 = .ok (.getfield 13, 3) := by decide +kernel
theorem dX7_wayNow_27 : decode cX7_wayNow 27 = .ok (.istore 4, 2) := by decide +kernel
theorem dX7_wayNow_29 : decode cX7_wayNow 29 = .ok (.iconst 0, 1) := by decide +kernel
theorem dX7_wayNow_30 : decode cX7_wayNow 30 = .ok (.istore 5, 2) := by decide +kernel
theorem dX7_wayNow_32 : decode cX7_wayNow 32 = .ok (.iload 5, 2) := by decide +kernel
theorem dX7_wayNow_34 : decode cX7_wayNow 34 = .ok (.bipush 80, 2) := by decide +kernel
theorem dX7_wayNow_36 : decode cX7_wayNow 36 = .ok (.if_icmp .ge 17, 3) := by decide +kernel
theorem dX7_wayNow_39 : decode cX7_wayNow 39 = .ok (.aload_n 0, 1) := by decide +kernel
theorem dX7_wayNow_40 : decode cX7_wayNow 40 = .ok (.getfield 39, 3) := by decide +kernel
theorem dX7_wayNow_43 : decode cX7_wayNow 43 = .ok (.iload 5, 2) := by decide +kernel
theorem dX7_wayNow_45 : decode cX7_wayNow 45 = .ok (.iconst 0, 1) := by decide +kernel
theorem dX7_wayNow_46 : decode cX7_wayNow 46 = .ok (.iastore, 1) := by decide +kernel
theorem dX7_wayNow_47 : decode cX7_wayNow 47 = .ok (.iinc 5 1, 3) := by decide +kernel
theorem dX7_wayNow_50 : decode cX7_wayNow 50 = .ok (.goto (-18), 3) := by decide +kernel
theorem dX7_wayNow_53 : decode cX7_wayNow 53 = .ok (.iconst 4, 1) := by decide +kernel
theorem dX7_wayNow_54 : decode cX7_wayNow 54 = .ok (.aload_n 0, 1) := by decide +kernel
theorem dX7_wayNow_55 : decode cX7_wayNow 55 = .ok (.getfield 7, 3) := by decide +kernel
theorem dX7_wayNow_58 : decode cX7_wayNow 58 = .ok (.imul, 1) := by decide +kernel
theorem dX7_wayNow_59 : decode cX7_wayNow 59 = .ok (.aload_n 0, 1) := by decide +kernel
theorem dX7_wayNow_60 : decode cX7_wayNow 60 = .ok (.getfield 13, 3) := by decide +kernel
theorem dX7_wayNow_63 : decode cX7_wayNow 63 = .ok (.iadd, 1) := by decide +kernel
theorem dX7_wayNow_64 : decode cX7_wayNow 64 = .ok (.istore 5, 2) := by decide +kernel
theorem dX7_wayNow_66 : decode cX7_wayNow 66 = .ok (.aload_n 0, 1) := by decide +kernel
theorem dX7_wayNow_67 : decode cX7_wayNow 67 = .ok (.getfield 39, 3) := by decide +kernel
theorem dX7_wayNow_70 : decode cX7_wayNow 70 = .ok (.iload 5, 2) := by decide +kernel
theorem dX7_wayNow_72 : decode cX7_wayNow 72 = .ok (.bipush 9, 2) := by decide +kernel
theorem dX7_wayNow_74 : decode cX7_wayNow 74 = .ok (.iastore, 1) := by decide +kernel
theorem dX7_wayNow_75 : decode cX7_wayNow 75 = .ok (.aload_n 0, 1) := by decide +kernel
theorem dX7_wayNow_76 : decode cX7_wayNow 76 = .ok (.getfield 42, 3) := by decide +kernel
theorem dX7_wayNow_79 : decode cX7_wayNow 79 = .ok (.iconst 0, 1) := by decide +kernel
theorem dX7_wayNow_80 : decode cX7_wayNow 80 = .ok (.iload 5, 2) := by decide +kernel
theorem dX7_wayNow_82 : decode cX7_wayNow 82 = .ok (.iastore, 1) := by decide +kernel
theorem dX7_wayNow_83 : decode cX7_wayNow 83 = .ok (.iconst 1, 1) := by decide +kernel
theorem dX7_wayNow_84 : decode cX7_wayNow 84 = .ok (.istore 6, 2) := by decide +kernel
theorem dX7_wayNow_86 : decode cX7_wayNow 86 = .ok (.iconst 0, 1) := by decide +kernel
theorem dX7_wayNow_87 : decode cX7_wayNow 87 = .ok (.istore 7, 2) := by decide +kernel
theorem dX7_wayNow_89 : decode cX7_wayNow 89 = .ok (.iconst 0, 1) := by decide +kernel
theorem dX7_wayNow_90 : decode cX7_wayNow 90 = .ok (.istore 8, 2) := by decide +kernel
theorem dX7_wayNow_92 : decode cX7_wayNow 92 = .ok (.iconst (-1), 1) := by decide +kernel
theorem dX7_wayNow_93 : decode cX7_wayNow 93 = .ok (.istore 9, 2) := by decide +kernel
theorem dX7_wayNow_95 : decode cX7_wayNow 95 = .ok (.iload 7, 2) := by decide +kernel
theorem dX7_wayNow_97 : decode cX7_wayNow 97 = .ok (.iload 6, 2) := by decide +kernel
theorem dX7_wayNow_99 : decode cX7_wayNow 99 = .ok (.if_icmp .ge 103, 3) := by decide +kernel
theorem dX7_wayNow_102 : decode cX7_wayNow 102 = .ok (.iload 9, 2) := by decide +kernel
theorem dX7_wayNow_104 : decode cX7_wayNow 104 = .ok (.iconst (-1), 1) := by decide +kernel
theorem dX7_wayNow_105 : decode cX7_wayNow 105 = .ok (.if_icmp .ne 97, 3) := by decide +kernel
theorem dX7_wayNow_108 : decode cX7_wayNow 108 = .ok (.iload 6, 2) := by decide +kernel
theorem dX7_wayNow_110 : decode cX7_wayNow 110 = .ok (.istore 10, 2) := by decide +kernel
theorem dX7_wayNow_112 : decode cX7_wayNow 112 = .ok (.iinc 8 1, 3) := by decide +kernel
theorem dX7_wayNow_115 : decode cX7_wayNow 115 = .ok (.iload 7, 2) := by decide +kernel
theorem dX7_wayNow_117 : decode cX7_wayNow 117 = .ok (.iload 10, 2) := by decide +kernel
theorem dX7_wayNow_119 : decode cX7_wayNow 119 = .ok (.if_icmp .ge 24, 3) := by decide +kernel
theorem dX7_wayNow_122 : decode cX7_wayNow 122 = .ok (.aload_n 0, 1) := by decide +kernel
theorem dX7_wayNow_123 : decode cX7_wayNow 123 = .ok (.aload_n 0, 1) := by decide +kernel
theorem dX7_wayNow_124 : decode cX7_wayNow 124 = .ok (.getfield 42, 3) := by decide +kernel
theorem dX7_wayNow_127 : decode cX7_wayNow 127 = .ok (.iload 7, 2) := by decide +kernel
theorem dX7_wayNow_129 : decode cX7_wayNow 129 = .ok (.iaload, 1) := by decide +kernel
theorem dX7_wayNow_130 : decode cX7_wayNow 130 = .ok (.iload 6, 2) := by decide +kernel
theorem dX7_wayNow_132 : decode cX7_wayNow 132 = .ok (.invokevirtual 175, 3) := by decide +kernel
theorem dX7_wayNow_135 : decode cX7_wayNow 135 = .ok (.istore 6, 2) := by decide +kernel
theorem dX7_wayNow_137 : decode cX7_wayNow 137 = .ok (.iinc 7 1, 3) := by decide +kernel
theorem dX7_wayNow_140 : decode cX7_wayNow 140 = .ok (.goto (-25), 3) := by decide +kernel
theorem dX7_wayNow_143 : decode cX7_wayNow 143 = .ok (.iload 10, 2) := by decide +kernel
theorem dX7_wayNow_145 : decode cX7_wayNow 145 = .ok (.istore 11, 2) := by decide +kernel
theorem dX7_wayNow_147 : decode cX7_wayNow 147 = .ok (.iload 11, 2) := by decide +kernel
theorem dX7_wayNow_149 : decode cX7_wayNow 149 = .ok (.iload 6, 2) := by decide +kernel
theorem dX7_wayNow_151 : decode cX7_wayNow 151 = .ok (.if_icmp .ge 48, 3) := by decide +kernel
theorem dX7_wayNow_154 : decode cX7_wayNow 154 = .ok (.iload 9, 2) := by decide +kernel
theorem dX7_wayNow_156 : decode cX7_wayNow 156 = .ok (.iconst (-1), 1) := by decide +kernel
theorem dX7_wayNow_157 : decode cX7_wayNow 157 = .ok (.if_icmp .ne 42, 3) := by decide +kernel
theorem dX7_wayNow_160 : decode cX7_wayNow 160 = .ok (.aload_n 0, 1) := by decide +kernel
theorem dX7_wayNow_161 : decode cX7_wayNow 161 = .ok (.getfield 42, 3) := by decide +kernel
theorem dX7_wayNow_164 : decode cX7_wayNow 164 = .ok (.iload 11, 2) := by decide +kernel
theorem dX7_wayNow_166 : decode cX7_wayNow 166 = .ok (.iaload, 1) := by decide +kernel
theorem dX7_wayNow_167 : decode cX7_wayNow 167 = .ok (.iconst 4, 1) := by decide +kernel
theorem dX7_wayNow_168 : decode cX7_wayNow 168 = .ok (.idiv, 1) := by decide +kernel
theorem dX7_wayNow_169 : decode cX7_wayNow 169 = .ok (.iload_n 1, 1) := by decide +kernel
theorem dX7_wayNow_170 : decode cX7_wayNow 170 = .ok (.if_icmp .ne 20, 3) := by decide +kernel
theorem dX7_wayNow_173 : decode cX7_wayNow 173 = .ok (.aload_n 0, 1) := by decide +kernel
theorem dX7_wayNow_174 : decode cX7_wayNow 174 = .ok (.getfield 39, 3) := by decide +kernel
theorem dX7_wayNow_177 : decode cX7_wayNow 177 = .ok (.aload_n 0, 1) := by decide +kernel
theorem dX7_wayNow_178 : decode cX7_wayNow 178 = .ok (.getfield 42, 3) := by decide +kernel
theorem dX7_wayNow_181 : decode cX7_wayNow 181 = .ok (.iload 11, 2) := by decide +kernel
theorem dX7_wayNow_183 : decode cX7_wayNow 183 = .ok (.iaload, 1) := by decide +kernel
theorem dX7_wayNow_184 : decode cX7_wayNow 184 = .ok (.iaload, 1) := by decide +kernel
theorem dX7_wayNow_185 : decode cX7_wayNow 185 = .ok (.iconst 1, 1) := by decide +kernel
theorem dX7_wayNow_186 : decode cX7_wayNow 186 = .ok (.isub, 1) := by decide +kernel
theorem dX7_wayNow_187 : decode cX7_wayNow 187 = .ok (.goto 4, 3) := by decide +kernel
theorem dX7_wayNow_190 : decode cX7_wayNow 190 = .ok (.iconst (-1), 1) := by decide +kernel
theorem dX7_wayNow_191 : decode cX7_wayNow 191 = .ok (.istore 9, 2) := by decide +kernel
theorem dX7_wayNow_193 : decode cX7_wayNow 193 = .ok (.iinc 11 1, 3) := by decide +kernel
theorem dX7_wayNow_196 : decode cX7_wayNow 196 = .ok (.goto (-49), 3) := by decide +kernel
theorem dX7_wayNow_199 : decode cX7_wayNow 199 = .ok (.goto (-104), 3) := by decide +kernel
theorem dX7_wayNow_202 : decode cX7_wayNow 202 = .ok (.aload_n 0, 1) := by decide +kernel
theorem dX7_wayNow_203 : decode cX7_wayNow 203 = .ok (.iload_n 3, 1) := by decide +kernel
theorem dX7_wayNow_204 : decode cX7_wayNow 204 = .ok (.putfield 7, 3) := by decide +kernel
theorem dX7_wayNow_207 : decode cX7_wayNow 207 = .ok (.aload_n 0, 1) := by decide +kernel
theorem dX7_wayNow_208 : decode cX7_wayNow 208 = .ok (.iload 4, 2) := by decide +kernel
theorem dX7_wayNow_210 : decode cX7_wayNow 210 = .ok (.putfield 13, 3) := by decide +kernel
theorem dX7_wayNow_213 : decode cX7_wayNow 213 = .ok (.iload 9, 2) := by decide +kernel
theorem dX7_wayNow_215 : decode cX7_wayNow 215 = .ok (.iconst (-1), 1) := by decide +kernel
theorem dX7_wayNow_216 : decode cX7_wayNow 216 = .ok (.if_icmp .eq 8, 3) := by decide +kernel
theorem dX7_wayNow_219 : decode cX7_wayNow 219 = .ok (.iload_n 2, 1) := by decide +kernel
theorem dX7_wayNow_220 : decode cX7_wayNow 220 = .ok (.iconst 1, 1) := by decide +kernel
theorem dX7_wayNow_221 : decode cX7_wayNow 221 = .ok (.if_icmp .ne 8, 3) := by decide +kernel
theorem dX7_wayNow_224 : decode cX7_wayNow 224 = .ok (.iload 9, 2) := by decide +kernel
theorem dX7_wayNow_226 : decode cX7_wayNow 226 = .ok (.goto 5, 3) := by decide +kernel
theorem dX7_wayNow_229 : decode cX7_wayNow 229 = .ok (.iload 8, 2) := by decide +kernel
theorem dX7_wayNow_231 : decode cX7_wayNow 231 = .ok (.ireturn, 1) := by decide +kernel
theorem dX7_actsFrom_0 : decode cX7_actsFrom 0 = .ok (.iload_n 2, 1) := by decide +kernel
theorem dX7_actsFrom_1 : decode cX7_actsFrom 1 = .ok (.istore_n 3, 1) := by decide +kernel
theorem dX7_actsFrom_2 : decode cX7_actsFrom 2 = .ok (.iconst 0, 1) := by decide +kernel
theorem dX7_actsFrom_3 : decode cX7_actsFrom 3 = .ok (.istore 4, 2) := by decide +kernel
theorem dX7_actsFrom_5 : decode cX7_actsFrom 5 = .ok (.iload 4, 2) := by decide +kernel
theorem dX7_actsFrom_7 : decode cX7_actsFrom 7 = .ok (.iconst 3, 1) := by decide +kernel
theorem dX7_actsFrom_8 : decode cX7_actsFrom 8 = .ok (.if_icmp .ge 110, 3) := by decide +kernel
theorem dX7_actsFrom_11 : decode cX7_actsFrom 11 = .ok (.aload_n 0, 1) := by decide +kernel
theorem dX7_actsFrom_12 : decode cX7_actsFrom 12 = .ok (.iload_n 1, 1) := by decide +kernel
theorem dX7_actsFrom_13 : decode cX7_actsFrom 13 = .ok (.iconst 4, 1) := by decide +kernel
theorem dX7_actsFrom_14 : decode cX7_actsFrom 14 = .ok (.idiv, 1) := by decide +kernel
theorem dX7_actsFrom_15 : decode cX7_actsFrom 15 = .ok (.putfield 7, 3) := by decide +kernel
theorem dX7_actsFrom_18 : decode cX7_actsFrom 18 = .ok (.aload_n 0, 1) := by decide +kernel
theorem dX7_actsFrom_19 : decode cX7_actsFrom 19 = .ok (.iload_n 1, 1) := by decide +kernel
theorem dX7_actsFrom_20 : decode cX7_actsFrom 20 = .ok (.iconst 4, 1) := by decide +kernel
theorem dX7_actsFrom_21 : decode cX7_actsFrom 21 = .ok (.irem, 1) := by decide +kernel
theorem dX7_actsFrom_22 : decode cX7_actsFrom 22 = .ok (.putfield 13, 3) := by decide +kernel
theorem dX7_actsFrom_25 : decode cX7_actsFrom 25 = .ok (.aload_n 0, 1) := by decide +kernel
theorem dX7_actsFrom_26 : decode cX7_actsFrom 26 = .ok (.iload 4, 2) := by decide +kernel
theorem dX7_actsFrom_28 : decode cX7_actsFrom 28 = .ok (.invokevirtual 146, 3) := by decide +kernel
theorem dX7_actsFrom_31 : decode cX7_actsFrom 31 = .ok (.ifCond .eq 81, 3) := by decide +kernel
theorem dX7_actsFrom_34 : decode cX7_actsFrom 34 = .ok (.aload_n 0, 1) := by decide +kernel
theorem dX7_actsFrom_35 : decode cX7_actsFrom 35 = .ok (.iload 4, 2) := by decide +kernel
theorem dX7_actsFrom_37 : decode cX7_actsFrom 37 = .ok (.invokevirtual 149, 3) := by decide +kernel
theorem dX7_actsFrom_40 : decode cX7_actsFrom 40 = .ok (.iconst 4, 1) := by decide +kernel
theorem dX7_actsFrom_41 : decode cX7_actsFrom 41 = .ok (.aload_n 0, 1) := by decide +kernel
theorem dX7_actsFrom_42 : decode cX7_actsFrom 42 = .ok (.getfield 7, 3) := by decide +kernel
theorem dX7_actsFrom_45 : decode cX7_actsFrom 45 = .ok (.imul, 1) := by decide +kernel
theorem dX7_actsFrom_46 : decode cX7_actsFrom 46 = .ok (.aload_n 0, 1) := by decide +kernel
theorem dX7_actsFrom_47 : decode cX7_actsFrom 47 = .ok (.getfield 13, 3) := by decide +kernel
theorem dX7_actsFrom_50 : decode cX7_actsFrom 50 = .ok (.iadd, 1) := by decide +kernel
theorem dX7_actsFrom_51 : decode cX7_actsFrom 51 = .ok (.istore 5, 2) := by decide +kernel
theorem dX7_actsFrom_53 : decode cX7_actsFrom 53 = .ok (.aload_n 0, 1) := by decide +kernel
theorem dX7_actsFrom_54 : decode cX7_actsFrom 54 = .ok (.getfield 39, 3) := by decide +kernel
theorem dX7_actsFrom_57 : decode cX7_actsFrom 57 = .ok (.iload 5, 2) := by decide +kernel
theorem dX7_actsFrom_59 : decode cX7_actsFrom 59 = .ok (.iaload, 1) := by decide +kernel
theorem dX7_actsFrom_60 : decode cX7_actsFrom 60 = .ok (.ifCond .ne 52, 3) := by decide +kernel
theorem dX7_actsFrom_63 : decode cX7_actsFrom 63 = .ok (.aload_n 0, 1) := by decide +kernel
theorem dX7_actsFrom_64 : decode cX7_actsFrom 64 = .ok (.invokevirtual 153, 3) := by decide +kernel
theorem dX7_actsFrom_67 : decode cX7_actsFrom 67 = .ok (.ifCond .ne 45, 3) := by decide +kernel
theorem dX7_actsFrom_70 : decode cX7_actsFrom 70 = .ok (.aload_n 0, 1) := by decide +kernel
theorem dX7_actsFrom_71 : decode cX7_actsFrom 71 = .ok (.getfield 39, 3) := by decide +kernel
theorem dX7_actsFrom_74 : decode cX7_actsFrom 74 = .ok (.iload 5, 2) := by decide +kernel
theorem dX7_actsFrom_76 : decode cX7_actsFrom 76 = .ok (.aload_n 0, 1) := by decide +kernel
theorem dX7_actsFrom_77 : decode cX7_actsFrom 77 = .ok (.getfield 39, 3) := by decide +kernel
theorem dX7_actsFrom_80 : decode cX7_actsFrom 80 = .ok (.iload_n 1, 1) := by decide +kernel
theorem dX7_actsFrom_81 : decode cX7_actsFrom 81 = .ok (.iaload, 1) := by decide +kernel
theorem dX7_actsFrom_82 : decode cX7_actsFrom 82 = .ok (.bipush 9, 2) := by decide +kernel
theorem dX7_actsFrom_84 : decode cX7_actsFrom 84 = .ok (.if_icmp .ne 10, 3) := by decide +kernel
theorem dX7_actsFrom_87 : decode cX7_actsFrom 87 = .ok (.iload 4, 2) := by decide +kernel
theorem dX7_actsFrom_89 : decode cX7_actsFrom 89 = .ok (.iconst 1, 1) := by decide +kernel
theorem dX7_actsFrom_90 : decode cX7_actsFrom 90 = .ok (.iadd, 1) := by decide +kernel
theorem dX7_actsFrom_91 : decode cX7_actsFrom 91 = .ok (.goto 9, 3) := by decide +kernel
theorem dX7_actsFrom_94 : decode cX7_actsFrom 94 = .ok (.aload_n 0, 1) := by decide +kernel
theorem dX7_actsFrom_95 : decode cX7_actsFrom 95 = .ok (.getfield 39, 3) := by decide +kernel
theorem dX7_actsFrom_98 : decode cX7_actsFrom 98 = .ok (.iload_n 1, 1) := by decide +kernel
theorem dX7_actsFrom_99 : decode cX7_actsFrom 99 = .ok (.iaload, 1) := by decide +kernel
theorem dX7_actsFrom_100 : decode cX7_actsFrom 100 = .ok (.iastore, 1) := by decide +kernel
theorem dX7_actsFrom_101 : decode cX7_actsFrom 101 = .ok (.aload_n 0, 1) := by decide +kernel
theorem dX7_actsFrom_102 : decode cX7_actsFrom 102 = .ok (.getfield 42, 3) := by decide +kernel
theorem dX7_actsFrom_105 : decode cX7_actsFrom 105 = .ok (.iload_n 3, 1) := by decide +kernel
theorem dX7_actsFrom_106 : decode cX7_actsFrom 106 = .ok (.iload 5, 2) := by decide +kernel
theorem dX7_actsFrom_108 : decode cX7_actsFrom 108 = .ok (.iastore, 1) := by decide +kernel
theorem dX7_actsFrom_109 : decode cX7_actsFrom 109 = .ok (.iinc 3 1, 3) := by decide +kernel
theorem dX7_actsFrom_112 : decode cX7_actsFrom 112 = .ok (.iinc 4 1, 3) := by decide +kernel
theorem dX7_actsFrom_115 : decode cX7_actsFrom 115 = .ok (.goto (-110), 3) := by decide +kernel
theorem dX7_actsFrom_118 : decode cX7_actsFrom 118 = .ok (.iload_n 3, 1) := by decide +kernel
theorem dX7_actsFrom_119 : decode cX7_actsFrom 119 = .ok (.ireturn, 1) := by decide +kernel
theorem dX7_way_0 : decode cX7_way 0 = .ok (.iload_n 1, 1) := by decide +kernel
theorem dX7_way_1 : decode cX7_way 1 = .ok (.invokestatic 100, 3) := by decide +kernel
theorem dX7_way_4 : decode cX7_way 4 = .ok (.ifCond .ne 6, 3) := by decide +kernel
theorem dX7_way_7 : decode cX7_way 7 = .ok (.bipush (-101), 2) := by decide +kernel
theorem dX7_way_9 : decode cX7_way 9 = .ok (.ireturn, 1) := by decide +kernel
theorem dX7_way_10 : decode cX7_way 10 = .ok (.iload_n 2, 1) := by decide +kernel
theorem dX7_way_11 : decode cX7_way 11 = .ok (.iconst 0, 1) := by decide +kernel
theorem dX7_way_12 : decode cX7_way 12 = .ok (.iconst 1, 1) := by decide +kernel
theorem dX7_way_13 : decode cX7_way 13 = .ok (.invokestatic 57, 3) := by decide +kernel
theorem dX7_way_16 : decode cX7_way 16 = .ok (.ifCond .ne 6, 3) := by decide +kernel
theorem dX7_way_19 : decode cX7_way 19 = .ok (.bipush (-102), 2) := by decide +kernel
theorem dX7_way_21 : decode cX7_way 21 = .ok (.ireturn, 1) := by decide +kernel
theorem dX7_way_22 : decode cX7_way 22 = .ok (.aload_n 0, 1) := by decide +kernel
theorem dX7_way_23 : decode cX7_way 23 = .ok (.getfield 7, 3) := by decide +kernel
theorem dX7_way_26 : decode cX7_way 26 = .ok (.iconst (-1), 1) := by decide +kernel
theorem dX7_way_27 : decode cX7_way 27 = .ok (.if_icmp .ne 8, 3) := by decide +kernel
theorem dX7_way_30 : decode cX7_way 30 = .ok (.bipush (-103), 2) := by decide +kernel
theorem dX7_way_32 : decode cX7_way 32 = .ok (.goto 9, 3) := by decide +kernel
theorem dX7_way_35 : decode cX7_way 35 = .ok (.aload_n 0, 1) := by decide +kernel
theorem dX7_way_36 : decode cX7_way 36 = .ok (.iload_n 1, 1) := by decide +kernel
theorem dX7_way_37 : decode cX7_way 37 = .ok (.iload_n 2, 1) := by decide +kernel
theorem dX7_way_38 : decode cX7_way 38 = .ok (.invokevirtual 178, 3) := by decide +kernel
theorem dX7_way_41 : decode cX7_way 41 = .ok (.ireturn, 1) := by decide +kernel
theorem dX7_told_0 : decode cX7_told 0 = .ok (.aload_n 0, 1) := by decide +kernel
theorem dX7_told_1 : decode cX7_told 1 = .ok (.iload_n 1, 1) := by decide +kernel
theorem dX7_told_2 : decode cX7_told 2 = .ok (.invokevirtual 137, 3) := by decide +kernel
theorem dX7_told_5 : decode cX7_told 5 = .ok (.ifCond .ne 6, 3) := by decide +kernel
theorem dX7_told_8 : decode cX7_told 8 = .ok (.bipush (-101), 2) := by decide +kernel
theorem dX7_told_10 : decode cX7_told 10 = .ok (.ireturn, 1) := by decide +kernel
theorem dX7_told_11 : decode cX7_told 11 = .ok (.iload_n 2, 1) := by decide +kernel
theorem dX7_told_12 : decode cX7_told 12 = .ok (.iconst (-1), 1) := by decide +kernel
theorem dX7_told_13 : decode cX7_told 13 = .ok (.iconst 4, 1) := by decide +kernel
theorem dX7_told_14 : decode cX7_told 14 = .ok (.invokestatic 57, 3) := by decide +kernel
theorem dX7_told_17 : decode cX7_told 17 = .ok (.ifCond .ne 6, 3) := by decide +kernel
theorem dX7_told_20 : decode cX7_told 20 = .ok (.bipush (-102), 2) := by decide +kernel
theorem dX7_told_22 : decode cX7_told 22 = .ok (.ireturn, 1) := by decide +kernel
theorem dX7_told_23 : decode cX7_told 23 = .ok (.aload_n 0, 1) := by decide +kernel
theorem dX7_told_24 : decode cX7_told 24 = .ok (.getfield 29, 3) := by decide +kernel
theorem dX7_told_27 : decode cX7_told 27 = .ok (.iload_n 1, 1) := by decide +kernel
theorem dX7_told_28 : decode cX7_told 28 = .ok (.iaload, 1) := by decide +kernel
theorem dX7_told_29 : decode cX7_told 29 = .ok (.istore_n 3, 1) := by decide +kernel
theorem dX7_told_30 : decode cX7_told 30 = .ok (.aload_n 0, 1) := by decide +kernel
theorem dX7_told_31 : decode cX7_told 31 = .ok (.getfield 29, 3) := by decide +kernel
theorem dX7_told_34 : decode cX7_told 34 = .ok (.iload_n 1, 1) := by decide +kernel
theorem dX7_told_35 : decode cX7_told 35 = .ok (.iload_n 2, 1) := by decide +kernel
theorem dX7_told_36 : decode cX7_told 36 = .ok (.iastore, 1) := by decide +kernel
theorem dX7_told_37 : decode cX7_told 37 = .ok (.iload_n 3, 1) := by decide +kernel
theorem dX7_told_38 : decode cX7_told 38 = .ok (.ireturn, 1) := by decide +kernel
theorem dX7_isToldSo_0 : decode cX7_isToldSo 0 = .ok (.iconst 1, 1) := by decide +kernel
theorem dX7_isToldSo_1 : decode cX7_isToldSo 1 = .ok (.istore_n 1, 1) := by decide +kernel
theorem dX7_isToldSo_2 : decode cX7_isToldSo 2 = .ok (.iconst 0, 1) := by decide +kernel
theorem dX7_isToldSo_3 : decode cX7_isToldSo 3 = .ok (.istore_n 2, 1) := by decide +kernel
theorem dX7_isToldSo_4 : decode cX7_isToldSo 4 = .ok (.iload_n 2, 1) := by decide +kernel
theorem dX7_isToldSo_5 : decode cX7_isToldSo 5 = .ok (.aload_n 0, 1) := by decide +kernel
theorem dX7_isToldSo_6 : decode cX7_isToldSo 6 = .ok (.getfield 86, 3) := by decide +kernel
theorem dX7_isToldSo_9 : decode cX7_isToldSo 9 = .ok (.if_icmp .ge 43, 3) := by decide +kernel
theorem dX7_isToldSo_12 : decode cX7_isToldSo 12 = .ok (.iload_n 1, 1) := by decide +kernel
theorem dX7_isToldSo_13 : decode cX7_isToldSo 13 = .ok (.ifCond .eq 31, 3) := by decide +kernel
theorem dX7_isToldSo_16 : decode cX7_isToldSo 16 = .ok (.aload_n 0, 1) := by decide +kernel
theorem dX7_isToldSo_17 : decode cX7_isToldSo 17 = .ok (.getfield 29, 3) := by decide +kernel
theorem dX7_isToldSo_20 : decode cX7_isToldSo 20 = .ok (.iload_n 2, 1) := by decide +kernel
theorem dX7_isToldSo_21 : decode cX7_isToldSo 21 = .ok (.iaload, 1) := by decide +kernel
theorem dX7_isToldSo_22 : decode cX7_isToldSo 22 = .ok (.iconst (-1), 1) := by decide +kernel
theorem dX7_isToldSo_23 : decode cX7_isToldSo 23 = .ok (.if_icmp .eq 17, 3) := by decide +kernel
theorem dX7_isToldSo_26 : decode cX7_isToldSo 26 = .ok (.aload_n 0, 1) := by decide +kernel
theorem dX7_isToldSo_27 : decode cX7_isToldSo 27 = .ok (.getfield 29, 3) := by decide +kernel
theorem dX7_isToldSo_30 : decode cX7_isToldSo 30 = .ok (.iload_n 2, 1) := by decide +kernel
theorem dX7_isToldSo_31 : decode cX7_isToldSo 31 = .ok (.iaload, 1) := by decide +kernel
theorem dX7_isToldSo_32 : decode cX7_isToldSo 32 = .ok (.aload_n 0, 1) := by decide +kernel
theorem dX7_isToldSo_33 : decode cX7_isToldSo 33 = .ok (.iload_n 2, 1) := by decide +kernel
theorem dX7_isToldSo_34 : decode cX7_isToldSo 34 = .ok (.invokevirtual 131, 3) := by decide +kernel
theorem dX7_isToldSo_37 : decode cX7_isToldSo 37 = .ok (.if_icmp .ne 7, 3) := by decide +kernel
theorem dX7_isToldSo_40 : decode cX7_isToldSo 40 = .ok (.iconst 1, 1) := by decide +kernel
theorem dX7_isToldSo_41 : decode cX7_isToldSo 41 = .ok (.goto 4, 3) := by decide +kernel
theorem dX7_isToldSo_44 : decode cX7_isToldSo 44 = .ok (.iconst 0, 1) := by decide +kernel
theorem dX7_isToldSo_45 : decode cX7_isToldSo 45 = .ok (.istore_n 1, 1) := by decide +kernel
theorem dX7_isToldSo_46 : decode cX7_isToldSo 46 = .ok (.iinc 2 1, 3) := by decide +kernel
theorem dX7_isToldSo_49 : decode cX7_isToldSo 49 = .ok (.goto (-45), 3) := by decide +kernel
theorem dX7_isToldSo_52 : decode cX7_isToldSo 52 = .ok (.iload_n 1, 1) := by decide +kernel
theorem dX7_isToldSo_53 : decode cX7_isToldSo 53 = .ok (.ireturn, 1) := by decide +kernel
theorem dX7_stoodNow_0 : decode cX7_stoodNow 0 = .ok (.aload_n 0, 1) := by decide +kernel
theorem dX7_stoodNow_1 : decode cX7_stoodNow 1 = .ok (.getfield 7, 3) := by decide +kernel
theorem dX7_stoodNow_4 : decode cX7_stoodNow 4 = .ok (.istore_n 2, 1) := by decide +kernel
theorem dX7_stoodNow_5 : decode cX7_stoodNow 5 = .ok (.aload_n 0, 1) := by decide +kernel
theorem dX7_stoodNow_6 : decode cX7_stoodNow 6 = .ok (.getfield 13, 3) := by decide +kernel
theorem dX7_stoodNow_9 : decode cX7_stoodNow 9 = .ok (.istore_n 3, 1) := by decide +kernel
theorem dX7_stoodNow_10 : decode cX7_stoodNow 10 = .ok (.iconst 0, 1) := by decide +kernel
theorem dX7_stoodNow_11 : decode cX7_stoodNow 11 = .ok (.istore 4, 2) := by decide +kernel
theorem dX7_stoodNow_13 : decode cX7_stoodNow 13 = .ok (.iconst 0, 1) := by decide +kernel
theorem dX7_stoodNow_14 : decode cX7_stoodNow 14 = .ok (.istore 5, 2) := by decide +kernel
theorem dX7_stoodNow_16 : decode cX7_stoodNow 16 = .ok (.iconst 0, 1) := by decide +kernel
theorem dX7_stoodNow_17 : decode cX7_stoodNow 17 = .ok (.istore 6, 2) := by decide +kernel
theorem dX7_stoodNow_19 : decode cX7_stoodNow 19 = .ok (.aload_n 0, 1) := by decide +kernel
theorem dX7_stoodNow_20 : decode cX7_stoodNow 20 = .ok (.iconst (-1), 1) := by decide +kernel
theorem dX7_stoodNow_21 : decode cX7_stoodNow 21 = .ok (.putfield 7, 3) := by decide +kernel
theorem dX7_stoodNow_24 : decode cX7_stoodNow 24 = .ok (.iconst 0, 1) := by decide +kernel
theorem dX7_stoodNow_25 : decode cX7_stoodNow 25 = .ok (.istore 7, 2) := by decide +kernel
theorem dX7_stoodNow_27 : decode cX7_stoodNow 27 = .ok (.iload 7, 2) := by decide +kernel
theorem dX7_stoodNow_29 : decode cX7_stoodNow 29 = .ok (.bipush 80, 2) := by decide +kernel
theorem dX7_stoodNow_31 : decode cX7_stoodNow 31 = .ok (.if_icmp .ge 102, 3) := by decide +kernel
theorem dX7_stoodNow_34 : decode cX7_stoodNow 34 = .ok (.aload_n 0, 1) := by decide +kernel
theorem dX7_stoodNow_35 : decode cX7_stoodNow 35 = .ok (.iconst (-1), 1) := by decide +kernel
theorem dX7_stoodNow_36 : decode cX7_stoodNow 36 = .ok (.putfield 7, 3) := by decide +kernel
theorem dX7_stoodNow_39 : decode cX7_stoodNow 39 = .ok (.aload_n 0, 1) := by decide +kernel
theorem dX7_stoodNow_40 : decode cX7_stoodNow 40 = .ok (.iload 7, 2) := by decide +kernel
theorem dX7_stoodNow_42 : decode cX7_stoodNow 42 = .ok (.iconst 4, 1) := by decide +kernel
theorem dX7_stoodNow_43 : decode cX7_stoodNow 43 = .ok (.idiv, 1) := by decide +kernel
theorem dX7_stoodNow_44 : decode cX7_stoodNow 44 = .ok (.invokevirtual 107, 3) := by decide +kernel
theorem dX7_stoodNow_47 : decode cX7_stoodNow 47 = .ok (.ifCond .eq 80, 3) := by decide +kernel
theorem dX7_stoodNow_50 : decode cX7_stoodNow 50 = .ok (.aload_n 0, 1) := by decide +kernel
theorem dX7_stoodNow_51 : decode cX7_stoodNow 51 = .ok (.iload 7, 2) := by decide +kernel
theorem dX7_stoodNow_53 : decode cX7_stoodNow 53 = .ok (.iconst 4, 1) := by decide +kernel
theorem dX7_stoodNow_54 : decode cX7_stoodNow 54 = .ok (.idiv, 1) := by decide +kernel
theorem dX7_stoodNow_55 : decode cX7_stoodNow 55 = .ok (.putfield 7, 3) := by decide +kernel
theorem dX7_stoodNow_58 : decode cX7_stoodNow 58 = .ok (.aload_n 0, 1) := by decide +kernel
theorem dX7_stoodNow_59 : decode cX7_stoodNow 59 = .ok (.iload 7, 2) := by decide +kernel
theorem dX7_stoodNow_61 : decode cX7_stoodNow 61 = .ok (.iconst 4, 1) := by decide +kernel
theorem dX7_stoodNow_62 : decode cX7_stoodNow 62 = .ok (.irem, 1) := by decide +kernel
theorem dX7_stoodNow_63 : decode cX7_stoodNow 63 = .ok (.putfield 13, 3) := by decide +kernel
theorem dX7_stoodNow_66 : decode cX7_stoodNow 66 = .ok (.aload_n 0, 1) := by decide +kernel
theorem dX7_stoodNow_67 : decode cX7_stoodNow 67 = .ok (.invokevirtual 181, 3) := by decide +kernel
theorem dX7_stoodNow_70 : decode cX7_stoodNow 70 = .ok (.istore 8, 2) := by decide +kernel
theorem dX7_stoodNow_72 : decode cX7_stoodNow 72 = .ok (.iload 4, 2) := by decide +kernel
theorem dX7_stoodNow_74 : decode cX7_stoodNow 74 = .ok (.iload 8, 2) := by decide +kernel
theorem dX7_stoodNow_76 : decode cX7_stoodNow 76 = .ok (.ifCond .eq 7, 3) := by decide +kernel
theorem dX7_stoodNow_79 : decode cX7_stoodNow 79 = .ok (.iconst 1, 1) := by decide +kernel
theorem dX7_stoodNow_80 : decode cX7_stoodNow 80 = .ok (.goto 4, 3) := by decide +kernel
theorem dX7_stoodNow_83 : decode cX7_stoodNow 83 = .ok (.iconst 0, 1) := by decide +kernel
theorem dX7_stoodNow_84 : decode cX7_stoodNow 84 = .ok (.iadd, 1) := by decide +kernel
theorem dX7_stoodNow_85 : decode cX7_stoodNow 85 = .ok (.istore 4, 2) := by decide +kernel
theorem dX7_stoodNow_87 : decode cX7_stoodNow 87 = .ok (.iload 5, 2) := by decide +kernel
theorem dX7_stoodNow_89 : decode cX7_stoodNow 89 = .ok (.iload 8, 2) := by decide +kernel
theorem dX7_stoodNow_91 : decode cX7_stoodNow 91 = .ok (.ifCond .eq 12, 3) := by decide +kernel
theorem dX7_stoodNow_94 : decode cX7_stoodNow 94 = .ok (.iconst 1, 1) := by decide +kernel
theorem dX7_stoodNow_95 : decode cX7_stoodNow 95 = .ok (.iload 7, 2) := by decide +kernel
theorem dX7_stoodNow_97 : decode cX7_stoodNow 97 = .ok (.iconst 4, 1) := by decide +kernel
theorem dX7_stoodNow_98 : decode cX7_stoodNow 98 = .ok (.idiv, 1) := by decide +kernel
theorem dX7_stoodNow_99 : decode cX7_stoodNow 99 = .ok (.ishl, 1) := by decide +kernel
theorem dX7_stoodNow_100 : decode cX7_stoodNow 100 = .ok (.goto 4, 3) := by decide +kernel
theorem dX7_stoodNow_103 : decode cX7_stoodNow 103 = .ok (.iconst 0, 1) := by decide +kernel
theorem dX7_stoodNow_104 : decode cX7_stoodNow 104 = .ok (.ior, 1) := by decide +kernel
theorem dX7_stoodNow_105 : decode cX7_stoodNow 105 = .ok (.istore 5, 2) := by decide +kernel
theorem dX7_stoodNow_107 : decode cX7_stoodNow 107 = .ok (.iload 6, 2) := by decide +kernel
theorem dX7_stoodNow_109 : decode cX7_stoodNow 109 = .ok (.iload 8, 2) := by decide +kernel
theorem dX7_stoodNow_111 : decode cX7_stoodNow 111 = .ok (.ifCond .eq 12, 3) := by decide +kernel
theorem dX7_stoodNow_114 : decode cX7_stoodNow 114 = .ok (.iconst 1, 1) := by decide +kernel
theorem dX7_stoodNow_115 : decode cX7_stoodNow 115 = .ok (.iload 7, 2) := by decide +kernel
theorem dX7_stoodNow_117 : decode cX7_stoodNow 117 = .ok (.iconst 4, 1) := by decide +kernel
theorem dX7_stoodNow_118 : decode cX7_stoodNow 118 = .ok (.irem, 1) := by decide +kernel
theorem dX7_stoodNow_119 : decode cX7_stoodNow 119 = .ok (.ishl, 1) := by decide +kernel
theorem dX7_stoodNow_120 : decode cX7_stoodNow 120 = .ok (.goto 4, 3) := by decide +kernel
theorem dX7_stoodNow_123 : decode cX7_stoodNow 123 = .ok (.iconst 0, 1) := by decide +kernel
theorem dX7_stoodNow_124 : decode cX7_stoodNow 124 = .ok (.ior, 1) := by decide +kernel
theorem dX7_stoodNow_125 : decode cX7_stoodNow 125 = .ok (.istore 6, 2) := by decide +kernel
theorem dX7_stoodNow_127 : decode cX7_stoodNow 127 = .ok (.iinc 7 1, 3) := by decide +kernel
theorem dX7_stoodNow_130 : decode cX7_stoodNow 130 = .ok (.goto (-103), 3) := by decide +kernel
theorem dX7_stoodNow_133 : decode cX7_stoodNow 133 = .ok (.aload_n 0, 1) := by decide +kernel
theorem dX7_stoodNow_134 : decode cX7_stoodNow 134 = .ok (.iload_n 2, 1) := by decide +kernel
theorem dX7_stoodNow_135 : decode cX7_stoodNow 135 = .ok (.putfield 7, 3) := by decide +kernel
theorem dX7_stoodNow_138 : decode cX7_stoodNow 138 = .ok (.aload_n 0, 1) := by decide +kernel
theorem dX7_stoodNow_139 : decode cX7_stoodNow 139 = .ok (.iload_n 3, 1) := by decide +kernel
theorem dX7_stoodNow_140 : decode cX7_stoodNow 140 = .ok (.putfield 13, 3) := by decide +kernel
theorem dX7_stoodNow_143 : decode cX7_stoodNow 143 = .ok (.iload_n 1, 1) := by decide +kernel
theorem dX7_stoodNow_144 : decode cX7_stoodNow 144 = .ok (.ifCond .ne 8, 3) := by decide +kernel
theorem dX7_stoodNow_147 : decode cX7_stoodNow 147 = .ok (.iload 4, 2) := by decide +kernel
theorem dX7_stoodNow_149 : decode cX7_stoodNow 149 = .ok (.goto 18, 3) := by decide +kernel
theorem dX7_stoodNow_152 : decode cX7_stoodNow 152 = .ok (.iload_n 1, 1) := by decide +kernel
theorem dX7_stoodNow_153 : decode cX7_stoodNow 153 = .ok (.iconst 1, 1) := by decide +kernel
theorem dX7_stoodNow_154 : decode cX7_stoodNow 154 = .ok (.if_icmp .ne 8, 3) := by decide +kernel
theorem dX7_stoodNow_157 : decode cX7_stoodNow 157 = .ok (.iload 5, 2) := by decide +kernel
theorem dX7_stoodNow_159 : decode cX7_stoodNow 159 = .ok (.goto 5, 3) := by decide +kernel
theorem dX7_stoodNow_162 : decode cX7_stoodNow 162 = .ok (.iload 6, 2) := by decide +kernel
theorem dX7_stoodNow_164 : decode cX7_stoodNow 164 = .ok (.invokestatic 185, 3) := by decide +kernel
theorem dX7_stoodNow_167 : decode cX7_stoodNow 167 = .ok (.ireturn, 1) := by decide +kernel
theorem dX7_only_0 : decode cX7_only 0 = .ok (.iconst (-1), 1) := by decide +kernel
theorem dX7_only_1 : decode cX7_only 1 = .ok (.istore_n 1, 1) := by decide +kernel
theorem dX7_only_2 : decode cX7_only 2 = .ok (.iconst 0, 1) := by decide +kernel
theorem dX7_only_3 : decode cX7_only 3 = .ok (.istore_n 2, 1) := by decide +kernel
theorem dX7_only_4 : decode cX7_only 4 = .ok (.iload_n 2, 1) := by decide +kernel
theorem dX7_only_5 : decode cX7_only 5 = .ok (.bipush 20, 2) := by decide +kernel
theorem dX7_only_7 : decode cX7_only 7 = .ok (.if_icmp .ge 22, 3) := by decide +kernel
theorem dX7_only_10 : decode cX7_only 10 = .ok (.iload_n 0, 1) := by decide +kernel
theorem dX7_only_11 : decode cX7_only 11 = .ok (.iconst 1, 1) := by decide +kernel
theorem dX7_only_12 : decode cX7_only 12 = .ok (.iload_n 2, 1) := by decide +kernel
theorem dX7_only_13 : decode cX7_only 13 = .ok (.ishl, 1) := by decide +kernel
theorem dX7_only_14 : decode cX7_only 14 = .ok (.if_icmp .ne 7, 3) := by decide +kernel
theorem dX7_only_17 : decode cX7_only 17 = .ok (.iload_n 2, 1) := by decide +kernel
theorem dX7_only_18 : decode cX7_only 18 = .ok (.goto 4, 3) := by decide +kernel
theorem dX7_only_21 : decode cX7_only 21 = .ok (.iload_n 1, 1) := by decide +kernel
theorem dX7_only_22 : decode cX7_only 22 = .ok (.istore_n 1, 1) := by decide +kernel
theorem dX7_only_23 : decode cX7_only 23 = .ok (.iinc 2 1, 3) := by decide +kernel
theorem dX7_only_26 : decode cX7_only 26 = .ok (.goto (-22), 3) := by decide +kernel
theorem dX7_only_29 : decode cX7_only 29 = .ok (.iload_n 1, 1) := by decide +kernel
theorem dX7_only_30 : decode cX7_only 30 = .ok (.ireturn, 1) := by decide +kernel
theorem dX7_stood_0 : decode cX7_stood 0 = .ok (.iload_n 1, 1) := by decide +kernel
theorem dX7_stood_1 : decode cX7_stood 1 = .ok (.iconst 0, 1) := by decide +kernel
theorem dX7_stood_2 : decode cX7_stood 2 = .ok (.iconst 2, 1) := by decide +kernel
theorem dX7_stood_3 : decode cX7_stood 3 = .ok (.invokestatic 57, 3) := by decide +kernel
theorem dX7_stood_6 : decode cX7_stood 6 = .ok (.ifCond .ne 6, 3) := by decide +kernel
theorem dX7_stood_9 : decode cX7_stood 9 = .ok (.bipush (-102), 2) := by decide +kernel
theorem dX7_stood_11 : decode cX7_stood 11 = .ok (.ireturn, 1) := by decide +kernel
theorem dX7_stood_12 : decode cX7_stood 12 = .ok (.aload_n 0, 1) := by decide +kernel
theorem dX7_stood_13 : decode cX7_stood 13 = .ok (.getfield 76, 3) := by decide +kernel
theorem dX7_stood_16 : decode cX7_stood 16 = .ok (.ifCond .eq 11, 3) := by decide +kernel
theorem dX7_stood_19 : decode cX7_stood 19 = .ok (.aload_n 0, 1) := by decide +kernel
theorem dX7_stood_20 : decode cX7_stood 20 = .ok (.iload_n 1, 1) := by decide +kernel
theorem dX7_stood_21 : decode cX7_stood 21 = .ok (.invokevirtual 188, 3) := by decide +kernel
theorem dX7_stood_24 : decode cX7_stood 24 = .ok (.goto 5, 3) := by decide +kernel
theorem dX7_stood_27 : decode cX7_stood 27 = .ok (.bipush (-103), 2) := by decide +kernel
theorem dX7_stood_29 : decode cX7_stood 29 = .ok (.ireturn, 1) := by decide +kernel
theorem dX7_draw_0 : decode cX7_draw 0 = .ok (.aload_n 0, 1) := by decide +kernel
theorem dX7_draw_1 : decode cX7_draw 1 = .ok (.ldc2_w 191, 3) := by decide +kernel
theorem dX7_draw_4 : decode cX7_draw 4 = .ok (.aload_n 0, 1) := by decide +kernel
theorem dX7_draw_5 : decode cX7_draw 5 = .ok (.getfield 193, 3) := by decide +kernel
theorem dX7_draw_8 : decode cX7_draw 8 = .ok (.lmul, 1) := by decide +kernel
theorem dX7_draw_9 : decode cX7_draw 9 = .ok (.ldc2_w 197, 3) := by decide +kernel
theorem dX7_draw_12 : decode cX7_draw 12 = .ok (.ladd, 1) := by decide +kernel
theorem dX7_draw_13 : decode cX7_draw 13 = .ok (.ldc2_w 199, 3) := by decide +kernel
theorem dX7_draw_16 : decode cX7_draw 16 = .ok (.land, 1) := by decide +kernel
theorem dX7_draw_17 : decode cX7_draw 17 = .ok (.putfield 193, 3) := by decide +kernel
theorem dX7_draw_20 : decode cX7_draw 20 = .ok (.aload_n 0, 1) := by decide +kernel
theorem dX7_draw_21 : decode cX7_draw 21 = .ok (.getfield 193, 3) := by decide +kernel
theorem dX7_draw_24 : decode cX7_draw 24 = .ok (.ldc2_w 201, 3) := by decide +kernel
theorem dX7_draw_27 : decode cX7_draw 27 = .ok (.ldiv, 1) := by decide +kernel
theorem dX7_draw_28 : decode cX7_draw 28 = .ok (.iload_n 1, 1) := by decide +kernel
theorem dX7_draw_29 : decode cX7_draw 29 = .ok (.i2l, 1) := by decide +kernel
theorem dX7_draw_30 : decode cX7_draw 30 = .ok (.lrem, 1) := by decide +kernel
theorem dX7_draw_31 : decode cX7_draw 31 = .ok (.l2i, 1) := by decide +kernel
theorem dX7_draw_32 : decode cX7_draw 32 = .ok (.ireturn, 1) := by decide +kernel
theorem dX7_walkNow_0 : decode cX7_walkNow 0 = .ok (.aload_n 0, 1) := by decide +kernel
theorem dX7_walkNow_1 : decode cX7_walkNow 1 = .ok (.getfield 7, 3) := by decide +kernel
theorem dX7_walkNow_4 : decode cX7_walkNow 4 = .ok (.istore 4, 2) := by decide +kernel
theorem dX7_walkNow_6 : decode cX7_walkNow 6 = .ok (.aload_n 0, 1) := by decide +kernel
theorem dX7_walkNow_7 : decode cX7_walkNow 7 = .ok (.getfield 13, 3) := by decide +kernel
theorem dX7_walkNow_10 : decode cX7_walkNow 10 = .ok (.istore 5, 2) := by decide +kernel
theorem dX7_walkNow_12 : decode cX7_walkNow 12 = .ok (.aload_n 0, 1) := by decide +kernel
theorem dX7_walkNow_13 : decode cX7_walkNow 13 = .ok (.iload_n 2, 1) := by decide +kernel
theorem dX7_walkNow_14 : decode cX7_walkNow 14 = .ok (.i2l, 1) := by decide +kernel
theorem dX7_walkNow_15 : decode cX7_walkNow 15 = .ok (.putfield 193, 3) := by decide +kernel
theorem dX7_walkNow_18 : decode cX7_walkNow 18 = .ok (.iconst 0, 1) := by decide +kernel
theorem dX7_walkNow_19 : decode cX7_walkNow 19 = .ok (.istore 6, 2) := by decide +kernel
theorem dX7_walkNow_21 : decode cX7_walkNow 21 = .ok (.iconst 0, 1) := by decide +kernel
theorem dX7_walkNow_22 : decode cX7_walkNow 22 = .ok (.istore 7, 2) := by decide +kernel
theorem dX7_walkNow_24 : decode cX7_walkNow 24 = .ok (.iload 7, 2) := by decide +kernel
theorem dX7_walkNow_26 : decode cX7_walkNow 26 = .ok (.iload_n 1, 1) := by decide +kernel
theorem dX7_walkNow_27 : decode cX7_walkNow 27 = .ok (.if_icmp .ge 43, 3) := by decide +kernel
theorem dX7_walkNow_30 : decode cX7_walkNow 30 = .ok (.aload_n 0, 1) := by decide +kernel
theorem dX7_walkNow_31 : decode cX7_walkNow 31 = .ok (.iconst 3, 1) := by decide +kernel
theorem dX7_walkNow_32 : decode cX7_walkNow 32 = .ok (.invokevirtual 203, 3) := by decide +kernel
theorem dX7_walkNow_35 : decode cX7_walkNow 35 = .ok (.istore 8, 2) := by decide +kernel
theorem dX7_walkNow_37 : decode cX7_walkNow 37 = .ok (.aload_n 0, 1) := by decide +kernel
theorem dX7_walkNow_38 : decode cX7_walkNow 38 = .ok (.iload 8, 2) := by decide +kernel
theorem dX7_walkNow_40 : decode cX7_walkNow 40 = .ok (.invokevirtual 146, 3) := by decide +kernel
theorem dX7_walkNow_43 : decode cX7_walkNow 43 = .ok (.ifCond .eq 21, 3) := by decide +kernel
theorem dX7_walkNow_46 : decode cX7_walkNow 46 = .ok (.aload_n 0, 1) := by decide +kernel
theorem dX7_walkNow_47 : decode cX7_walkNow 47 = .ok (.iload 8, 2) := by decide +kernel
theorem dX7_walkNow_49 : decode cX7_walkNow 49 = .ok (.invokevirtual 149, 3) := by decide +kernel
theorem dX7_walkNow_52 : decode cX7_walkNow 52 = .ok (.iload 6, 2) := by decide +kernel
theorem dX7_walkNow_54 : decode cX7_walkNow 54 = .ok (.aload_n 0, 1) := by decide +kernel
theorem dX7_walkNow_55 : decode cX7_walkNow 55 = .ok (.invokevirtual 153, 3) := by decide +kernel
theorem dX7_walkNow_58 : decode cX7_walkNow 58 = .ok (.invokestatic 89, 3) := by decide +kernel
theorem dX7_walkNow_61 : decode cX7_walkNow 61 = .ok (.iadd, 1) := by decide +kernel
theorem dX7_walkNow_62 : decode cX7_walkNow 62 = .ok (.istore 6, 2) := by decide +kernel
theorem dX7_walkNow_64 : decode cX7_walkNow 64 = .ok (.iinc 7 1, 3) := by decide +kernel
theorem dX7_walkNow_67 : decode cX7_walkNow 67 = .ok (.goto (-43), 3) := by decide +kernel
theorem dX7_walkNow_70 : decode cX7_walkNow 70 = .ok (.iload_n 3, 1) := by decide +kernel
theorem dX7_walkNow_71 : decode cX7_walkNow 71 = .ok (.ifCond .ne 10, 3) := by decide +kernel
theorem dX7_walkNow_74 : decode cX7_walkNow 74 = .ok (.aload_n 0, 1) := by decide +kernel
theorem dX7_walkNow_75 : decode cX7_walkNow 75 = .ok (.getfield 7, 3) := by decide +kernel
theorem dX7_walkNow_78 : decode cX7_walkNow 78 = .ok (.goto 30, 3) := by decide +kernel
theorem dX7_walkNow_81 : decode cX7_walkNow 81 = .ok (.iload_n 3, 1) := by decide +kernel
theorem dX7_walkNow_82 : decode cX7_walkNow 82 = .ok (.iconst 1, 1) := by decide +kernel
theorem dX7_walkNow_83 : decode cX7_walkNow 83 = .ok (.if_icmp .ne 10, 3) := by decide +kernel
theorem dX7_walkNow_86 : decode cX7_walkNow 86 = .ok (.aload_n 0, 1) := by decide +kernel
theorem dX7_walkNow_87 : decode cX7_walkNow 87 = .ok (.getfield 13, 3) := by decide +kernel
theorem dX7_walkNow_90 : decode cX7_walkNow 90 = .ok (.goto 18, 3) := by decide +kernel
theorem dX7_walkNow_93 : decode cX7_walkNow 93 = .ok (.iload_n 3, 1) := by decide +kernel
theorem dX7_walkNow_94 : decode cX7_walkNow 94 = .ok (.iconst 2, 1) := by decide +kernel
theorem dX7_walkNow_95 : decode cX7_walkNow 95 = .ok (.if_icmp .ne 8, 3) := by decide +kernel
theorem dX7_walkNow_98 : decode cX7_walkNow 98 = .ok (.iload 6, 2) := by decide +kernel
theorem dX7_walkNow_100 : decode cX7_walkNow 100 = .ok (.goto 8, 3) := by decide +kernel
theorem dX7_walkNow_103 : decode cX7_walkNow 103 = .ok (.aload_n 0, 1) := by decide +kernel
theorem dX7_walkNow_104 : decode cX7_walkNow 104 = .ok (.getfield 193, 3) := by decide +kernel
theorem dX7_walkNow_107 : decode cX7_walkNow 107 = .ok (.l2i, 1) := by decide +kernel
theorem dX7_walkNow_108 : decode cX7_walkNow 108 = .ok (.istore 7, 2) := by decide +kernel
theorem dX7_walkNow_110 : decode cX7_walkNow 110 = .ok (.aload_n 0, 1) := by decide +kernel
theorem dX7_walkNow_111 : decode cX7_walkNow 111 = .ok (.iload 4, 2) := by decide +kernel
theorem dX7_walkNow_113 : decode cX7_walkNow 113 = .ok (.putfield 7, 3) := by decide +kernel
theorem dX7_walkNow_116 : decode cX7_walkNow 116 = .ok (.aload_n 0, 1) := by decide +kernel
theorem dX7_walkNow_117 : decode cX7_walkNow 117 = .ok (.iload 5, 2) := by decide +kernel
theorem dX7_walkNow_119 : decode cX7_walkNow 119 = .ok (.putfield 13, 3) := by decide +kernel
theorem dX7_walkNow_122 : decode cX7_walkNow 122 = .ok (.iload 7, 2) := by decide +kernel
theorem dX7_walkNow_124 : decode cX7_walkNow 124 = .ok (.ireturn, 1) := by decide +kernel
theorem dX7_walk_0 : decode cX7_walk 0 = .ok (.iload_n 1, 1) := by decide +kernel
theorem dX7_walk_1 : decode cX7_walk 1 = .ok (.iconst 1, 1) := by decide +kernel
theorem dX7_walk_2 : decode cX7_walk 2 = .ok (.bipush 60, 2) := by decide +kernel
theorem dX7_walk_4 : decode cX7_walk 4 = .ok (.invokestatic 57, 3) := by decide +kernel
theorem dX7_walk_7 : decode cX7_walk 7 = .ok (.ifCond .eq 16, 3) := by decide +kernel
theorem dX7_walk_10 : decode cX7_walk 10 = .ok (.iload_n 2, 1) := by decide +kernel
theorem dX7_walk_11 : decode cX7_walk 11 = .ok (.ifCond .lt 12, 3) := by decide +kernel
theorem dX7_walk_14 : decode cX7_walk 14 = .ok (.iload_n 3, 1) := by decide +kernel
theorem dX7_walk_15 : decode cX7_walk 15 = .ok (.iconst 0, 1) := by decide +kernel
theorem dX7_walk_16 : decode cX7_walk 16 = .ok (.iconst 3, 1) := by decide +kernel
theorem dX7_walk_17 : decode cX7_walk 17 = .ok (.invokestatic 57, 3) := by decide +kernel
theorem dX7_walk_20 : decode cX7_walk 20 = .ok (.ifCond .ne 6, 3) := by decide +kernel
theorem dX7_walk_23 : decode cX7_walk 23 = .ok (.bipush (-102), 2) := by decide +kernel
theorem dX7_walk_25 : decode cX7_walk 25 = .ok (.ireturn, 1) := by decide +kernel
theorem dX7_walk_26 : decode cX7_walk 26 = .ok (.aload_n 0, 1) := by decide +kernel
theorem dX7_walk_27 : decode cX7_walk 27 = .ok (.getfield 7, 3) := by decide +kernel
theorem dX7_walk_30 : decode cX7_walk 30 = .ok (.iconst (-1), 1) := by decide +kernel
theorem dX7_walk_31 : decode cX7_walk 31 = .ok (.if_icmp .ne 8, 3) := by decide +kernel
theorem dX7_walk_34 : decode cX7_walk 34 = .ok (.bipush (-103), 2) := by decide +kernel
theorem dX7_walk_36 : decode cX7_walk 36 = .ok (.goto 10, 3) := by decide +kernel
theorem dX7_walk_39 : decode cX7_walk 39 = .ok (.aload_n 0, 1) := by decide +kernel
theorem dX7_walk_40 : decode cX7_walk 40 = .ok (.iload_n 1, 1) := by decide +kernel
theorem dX7_walk_41 : decode cX7_walk 41 = .ok (.iload_n 2, 1) := by decide +kernel
theorem dX7_walk_42 : decode cX7_walk 42 = .ok (.iload_n 3, 1) := by decide +kernel
theorem dX7_walk_43 : decode cX7_walk 43 = .ok (.invokevirtual 206, 3) := by decide +kernel
theorem dX7_walk_46 : decode cX7_walk 46 = .ok (.ireturn, 1) := by decide +kernel
theorem dX7_image_0 : decode cX7_image 0 = .ok (.aload_n 0, 1) := by decide +kernel
theorem dX7_image_1 : decode cX7_image 1 = .ok (.getfield 76, 3) := by decide +kernel
theorem dX7_image_4 : decode cX7_image 4 = .ok (.ifCond .ne 6, 3) := by decide +kernel
theorem dX7_image_7 : decode cX7_image 7 = .ok (.bipush (-103), 2) := by decide +kernel
theorem dX7_image_9 : decode cX7_image 9 = .ok (.ireturn, 1) := by decide +kernel
theorem dX7_image_10 : decode cX7_image 10 = .ok (.aload_n 0, 1) := by decide +kernel
theorem dX7_image_11 : decode cX7_image 11 = .ok (.iconst 1, 1) := by decide +kernel
theorem dX7_image_12 : decode cX7_image 12 = .ok (.putfield 210, 3) := by decide +kernel
theorem dX7_image_15 : decode cX7_image 15 = .ok (.aload_n 0, 1) := by decide +kernel
theorem dX7_image_16 : decode cX7_image 16 = .ok (.aload_n 0, 1) := by decide +kernel
theorem dX7_image_17 : decode cX7_image 17 = .ok (.getfield 80, 3) := by decide +kernel
theorem dX7_image_20 : decode cX7_image 20 = .ok (.putfield 213, 3) := by decide +kernel
theorem dX7_image_23 : decode cX7_image 23 = .ok (.aload_n 0, 1) := by decide +kernel
theorem dX7_image_24 : decode cX7_image 24 = .ok (.aload_n 0, 1) := by decide +kernel
theorem dX7_image_25 : decode cX7_image 25 = .ok (.getfield 86, 3) := by decide +kernel
theorem dX7_image_28 : decode cX7_image 28 = .ok (.putfield 216, 3) := by decide +kernel
theorem dX7_image_31 : decode cX7_image 31 = .ok (.aload_n 0, 1) := by decide +kernel
theorem dX7_image_32 : decode cX7_image 32 = .ok (.aload_n 0, 1) := by decide +kernel
theorem dX7_image_33 : decode cX7_image 33 = .ok (.getfield 7, 3) := by decide +kernel
theorem dX7_image_36 : decode cX7_image 36 = .ok (.putfield 219, 3) := by decide +kernel
theorem dX7_image_39 : decode cX7_image 39 = .ok (.aload_n 0, 1) := by decide +kernel
theorem dX7_image_40 : decode cX7_image 40 = .ok (.aload_n 0, 1) := by decide +kernel
theorem dX7_image_41 : decode cX7_image 41 = .ok (.getfield 13, 3) := by decide +kernel
theorem dX7_image_44 : decode cX7_image 44 = .ok (.putfield 222, 3) := by decide +kernel
theorem dX7_image_47 : decode cX7_image 47 = .ok (.aload_n 0, 1) := by decide +kernel
theorem dX7_image_48 : decode cX7_image 48 = .ok (.aload_n 0, 1) := by decide +kernel
theorem dX7_image_49 : decode cX7_image 49 = .ok (.getfield 83, 3) := by decide +kernel
theorem dX7_image_52 : decode cX7_image 52 = .ok (.putfield 225, 3) := by decide +kernel
theorem dX7_image_55 : decode cX7_image 55 = .ok (.iconst 0, 1) := by decide +kernel
theorem dX7_image_56 : decode cX7_image 56 = .ok (.istore_n 1, 1) := by decide +kernel
theorem dX7_image_57 : decode cX7_image 57 = .ok (.iload_n 1, 1) := by decide +kernel
theorem dX7_image_58 : decode cX7_image 58 = .ok (.bipush 6, 2) := by decide +kernel
theorem dX7_image_60 : decode cX7_image 60 = .ok (.if_icmp .ge 57, 3) := by decide +kernel
theorem dX7_image_63 : decode cX7_image 63 = .ok (.aload_n 0, 1) := by decide +kernel
theorem dX7_image_64 : decode cX7_image 64 = .ok (.getfield 45, 3) := by decide +kernel
theorem dX7_image_67 : decode cX7_image 67 = .ok (.iload_n 1, 1) := by decide +kernel
theorem dX7_image_68 : decode cX7_image 68 = .ok (.aload_n 0, 1) := by decide +kernel
theorem dX7_image_69 : decode cX7_image 69 = .ok (.getfield 20, 3) := by decide +kernel
theorem dX7_image_72 : decode cX7_image 72 = .ok (.iload_n 1, 1) := by decide +kernel
theorem dX7_image_73 : decode cX7_image 73 = .ok (.iaload, 1) := by decide +kernel
theorem dX7_image_74 : decode cX7_image 74 = .ok (.iastore, 1) := by decide +kernel
theorem dX7_image_75 : decode cX7_image 75 = .ok (.aload_n 0, 1) := by decide +kernel
theorem dX7_image_76 : decode cX7_image 76 = .ok (.getfield 48, 3) := by decide +kernel
theorem dX7_image_79 : decode cX7_image 79 = .ok (.iload_n 1, 1) := by decide +kernel
theorem dX7_image_80 : decode cX7_image 80 = .ok (.aload_n 0, 1) := by decide +kernel
theorem dX7_image_81 : decode cX7_image 81 = .ok (.getfield 23, 3) := by decide +kernel
theorem dX7_image_84 : decode cX7_image 84 = .ok (.iload_n 1, 1) := by decide +kernel
theorem dX7_image_85 : decode cX7_image 85 = .ok (.iaload, 1) := by decide +kernel
theorem dX7_image_86 : decode cX7_image 86 = .ok (.iastore, 1) := by decide +kernel
theorem dX7_image_87 : decode cX7_image 87 = .ok (.aload_n 0, 1) := by decide +kernel
theorem dX7_image_88 : decode cX7_image 88 = .ok (.getfield 51, 3) := by decide +kernel
theorem dX7_image_91 : decode cX7_image 91 = .ok (.iload_n 1, 1) := by decide +kernel
theorem dX7_image_92 : decode cX7_image 92 = .ok (.aload_n 0, 1) := by decide +kernel
theorem dX7_image_93 : decode cX7_image 93 = .ok (.getfield 26, 3) := by decide +kernel
theorem dX7_image_96 : decode cX7_image 96 = .ok (.iload_n 1, 1) := by decide +kernel
theorem dX7_image_97 : decode cX7_image 97 = .ok (.iaload, 1) := by decide +kernel
theorem dX7_image_98 : decode cX7_image 98 = .ok (.iastore, 1) := by decide +kernel
theorem dX7_image_99 : decode cX7_image 99 = .ok (.aload_n 0, 1) := by decide +kernel
theorem dX7_image_100 : decode cX7_image 100 = .ok (.getfield 54, 3) := by decide +kernel
theorem dX7_image_103 : decode cX7_image 103 = .ok (.iload_n 1, 1) := by decide +kernel
theorem dX7_image_104 : decode cX7_image 104 = .ok (.aload_n 0, 1) := by decide +kernel
theorem dX7_image_105 : decode cX7_image 105 = .ok (.getfield 29, 3) := by decide +kernel
theorem dX7_image_108 : decode cX7_image 108 = .ok (.iload_n 1, 1) := by decide +kernel
theorem dX7_image_109 : decode cX7_image 109 = .ok (.iaload, 1) := by decide +kernel
theorem dX7_image_110 : decode cX7_image 110 = .ok (.iastore, 1) := by decide +kernel
theorem dX7_image_111 : decode cX7_image 111 = .ok (.iinc 1 1, 3) := by decide +kernel
theorem dX7_image_114 : decode cX7_image 114 = .ok (.goto (-57), 3) := by decide +kernel
theorem dX7_image_117 : decode cX7_image 117 = .ok (.aload_n 0, 1) := by decide +kernel
theorem dX7_image_118 : decode cX7_image 118 = .ok (.getfield 86, 3) := by decide +kernel
theorem dX7_image_121 : decode cX7_image 121 = .ok (.ireturn, 1) := by decide +kernel
theorem dX7_restore_0 : decode cX7_restore 0 = .ok (.aload_n 0, 1) := by decide +kernel
theorem dX7_restore_1 : decode cX7_restore 1 = .ok (.getfield 210, 3) := by decide +kernel
theorem dX7_restore_4 : decode cX7_restore 4 = .ok (.ifCond .eq 14, 3) := by decide +kernel
theorem dX7_restore_7 : decode cX7_restore 7 = .ok (.aload_n 0, 1) := by decide +kernel
theorem dX7_restore_8 : decode cX7_restore 8 = .ok (.getfield 213, 3) := by decide +kernel
theorem dX7_restore_11 : decode cX7_restore 11 = .ok (.aload_n 0, 1) := by decide +kernel
theorem dX7_restore_12 : decode cX7_restore 12 = .ok (.getfield 80, 3) := by decide +kernel
theorem dX7_restore_15 : decode cX7_restore 15 = .ok (.if_icmp .eq 6, 3) := by decide +kernel
theorem dX7_restore_18 : decode cX7_restore 18 = .ok (.bipush (-103), 2) := by decide +kernel
theorem dX7_restore_20 : decode cX7_restore 20 = .ok (.ireturn, 1) := by decide +kernel
theorem dX7_restore_21 : decode cX7_restore 21 = .ok (.aload_n 0, 1) := by decide +kernel
theorem dX7_restore_22 : decode cX7_restore 22 = .ok (.aload_n 0, 1) := by decide +kernel
theorem dX7_restore_23 : decode cX7_restore 23 = .ok (.getfield 216, 3) := by decide +kernel
theorem dX7_restore_26 : decode cX7_restore 26 = .ok (.putfield 86, 3) := by decide +kernel
theorem dX7_restore_29 : decode cX7_restore 29 = .ok (.aload_n 0, 1) := by decide +kernel
theorem dX7_restore_30 : decode cX7_restore 30 = .ok (.aload_n 0, 1) := by decide +kernel
theorem dX7_restore_31 : decode cX7_restore 31 = .ok (.getfield 219, 3) := by decide +kernel
theorem dX7_restore_34 : decode cX7_restore 34 = .ok (.putfield 7, 3) := by decide +kernel
theorem dX7_restore_37 : decode cX7_restore 37 = .ok (.aload_n 0, 1) := by decide +kernel
theorem dX7_restore_38 : decode cX7_restore 38 = .ok (.aload_n 0, 1) := by decide +kernel
theorem dX7_restore_39 : decode cX7_restore 39 = .ok (.getfield 222, 3) := by decide +kernel
theorem dX7_restore_42 : decode cX7_restore 42 = .ok (.putfield 13, 3) := by decide +kernel
theorem dX7_restore_45 : decode cX7_restore 45 = .ok (.aload_n 0, 1) := by decide +kernel
theorem dX7_restore_46 : decode cX7_restore 46 = .ok (.aload_n 0, 1) := by decide +kernel
theorem dX7_restore_47 : decode cX7_restore 47 = .ok (.getfield 225, 3) := by decide +kernel
theorem dX7_restore_50 : decode cX7_restore 50 = .ok (.putfield 83, 3) := by decide +kernel
theorem dX7_restore_53 : decode cX7_restore 53 = .ok (.iconst 0, 1) := by decide +kernel
theorem dX7_restore_54 : decode cX7_restore 54 = .ok (.istore_n 1, 1) := by decide +kernel
theorem dX7_restore_55 : decode cX7_restore 55 = .ok (.iload_n 1, 1) := by decide +kernel
theorem dX7_restore_56 : decode cX7_restore 56 = .ok (.bipush 6, 2) := by decide +kernel
theorem dX7_restore_58 : decode cX7_restore 58 = .ok (.if_icmp .ge 57, 3) := by decide +kernel
theorem dX7_restore_61 : decode cX7_restore 61 = .ok (.aload_n 0, 1) := by decide +kernel
theorem dX7_restore_62 : decode cX7_restore 62 = .ok (.getfield 20, 3) := by decide +kernel
theorem dX7_restore_65 : decode cX7_restore 65 = .ok (.iload_n 1, 1) := by decide +kernel
theorem dX7_restore_66 : decode cX7_restore 66 = .ok (.aload_n 0, 1) := by decide +kernel
theorem dX7_restore_67 : decode cX7_restore 67 = .ok (.getfield 45, 3) := by decide +kernel
theorem dX7_restore_70 : decode cX7_restore 70 = .ok (.iload_n 1, 1) := by decide +kernel
theorem dX7_restore_71 : decode cX7_restore 71 = .ok (.iaload, 1) := by decide +kernel
theorem dX7_restore_72 : decode cX7_restore 72 = .ok (.iastore, 1) := by decide +kernel
theorem dX7_restore_73 : decode cX7_restore 73 = .ok (.aload_n 0, 1) := by decide +kernel
theorem dX7_restore_74 : decode cX7_restore 74 = .ok (.getfield 23, 3) := by decide +kernel
theorem dX7_restore_77 : decode cX7_restore 77 = .ok (.iload_n 1, 1) := by decide +kernel
theorem dX7_restore_78 : decode cX7_restore 78 = .ok (.aload_n 0, 1) := by decide +kernel
theorem dX7_restore_79 : decode cX7_restore 79 = .ok (.getfield 48, 3) := by decide +kernel
theorem dX7_restore_82 : decode cX7_restore 82 = .ok (.iload_n 1, 1) := by decide +kernel
theorem dX7_restore_83 : decode cX7_restore 83 = .ok (.iaload, 1) := by decide +kernel
theorem dX7_restore_84 : decode cX7_restore 84 = .ok (.iastore, 1) := by decide +kernel
theorem dX7_restore_85 : decode cX7_restore 85 = .ok (.aload_n 0, 1) := by decide +kernel
theorem dX7_restore_86 : decode cX7_restore 86 = .ok (.getfield 26, 3) := by decide +kernel
theorem dX7_restore_89 : decode cX7_restore 89 = .ok (.iload_n 1, 1) := by decide +kernel
theorem dX7_restore_90 : decode cX7_restore 90 = .ok (.aload_n 0, 1) := by decide +kernel
theorem dX7_restore_91 : decode cX7_restore 91 = .ok (.getfield 51, 3) := by decide +kernel
theorem dX7_restore_94 : decode cX7_restore 94 = .ok (.iload_n 1, 1) := by decide +kernel
theorem dX7_restore_95 : decode cX7_restore 95 = .ok (.iaload, 1) := by decide +kernel
theorem dX7_restore_96 : decode cX7_restore 96 = .ok (.iastore, 1) := by decide +kernel
theorem dX7_restore_97 : decode cX7_restore 97 = .ok (.aload_n 0, 1) := by decide +kernel
theorem dX7_restore_98 : decode cX7_restore 98 = .ok (.getfield 29, 3) := by decide +kernel
theorem dX7_restore_101 : decode cX7_restore 101 = .ok (.iload_n 1, 1) := by decide +kernel
theorem dX7_restore_102 : decode cX7_restore 102 = .ok (.aload_n 0, 1) := by decide +kernel
theorem dX7_restore_103 : decode cX7_restore 103 = .ok (.getfield 54, 3) := by decide +kernel
theorem dX7_restore_106 : decode cX7_restore 106 = .ok (.iload_n 1, 1) := by decide +kernel
theorem dX7_restore_107 : decode cX7_restore 107 = .ok (.iaload, 1) := by decide +kernel
theorem dX7_restore_108 : decode cX7_restore 108 = .ok (.iastore, 1) := by decide +kernel
theorem dX7_restore_109 : decode cX7_restore 109 = .ok (.iinc 1 1, 3) := by decide +kernel
theorem dX7_restore_112 : decode cX7_restore 112 = .ok (.goto (-57), 3) := by decide +kernel
theorem dX7_restore_115 : decode cX7_restore 115 = .ok (.aload_n 0, 1) := by decide +kernel
theorem dX7_restore_116 : decode cX7_restore 116 = .ok (.getfield 86, 3) := by decide +kernel
theorem dX7_restore_119 : decode cX7_restore 119 = .ok (.ireturn, 1) := by decide +kernel
theorem dX7_toldMany_0 : decode cX7_toldMany 0 = .ok (.iconst 0, 1) := by decide +kernel
theorem dX7_toldMany_1 : decode cX7_toldMany 1 = .ok (.istore_n 1, 1) := by decide +kernel
theorem dX7_toldMany_2 : decode cX7_toldMany 2 = .ok (.iconst 0, 1) := by decide +kernel
theorem dX7_toldMany_3 : decode cX7_toldMany 3 = .ok (.istore_n 2, 1) := by decide +kernel
theorem dX7_toldMany_4 : decode cX7_toldMany 4 = .ok (.iload_n 2, 1) := by decide +kernel
theorem dX7_toldMany_5 : decode cX7_toldMany 5 = .ok (.aload_n 0, 1) := by decide +kernel
theorem dX7_toldMany_6 : decode cX7_toldMany 6 = .ok (.getfield 86, 3) := by decide +kernel
theorem dX7_toldMany_9 : decode cX7_toldMany 9 = .ok (.if_icmp .ge 27, 3) := by decide +kernel
theorem dX7_toldMany_12 : decode cX7_toldMany 12 = .ok (.iload_n 1, 1) := by decide +kernel
theorem dX7_toldMany_13 : decode cX7_toldMany 13 = .ok (.aload_n 0, 1) := by decide +kernel
theorem dX7_toldMany_14 : decode cX7_toldMany 14 = .ok (.getfield 29, 3) := by decide +kernel
theorem dX7_toldMany_17 : decode cX7_toldMany 17 = .ok (.iload_n 2, 1) := by decide +kernel
theorem dX7_toldMany_18 : decode cX7_toldMany 18 = .ok (.iaload, 1) := by decide +kernel
theorem dX7_toldMany_19 : decode cX7_toldMany 19 = .ok (.iconst (-1), 1) := by decide +kernel
theorem dX7_toldMany_20 : decode cX7_toldMany 20 = .ok (.if_icmp .ne 7, 3) := by decide +kernel
theorem dX7_toldMany_23 : decode cX7_toldMany 23 = .ok (.iconst 0, 1) := by decide +kernel
theorem dX7_toldMany_24 : decode cX7_toldMany 24 = .ok (.goto 4, 3) := by decide +kernel
theorem dX7_toldMany_27 : decode cX7_toldMany 27 = .ok (.iconst 1, 1) := by decide +kernel
theorem dX7_toldMany_28 : decode cX7_toldMany 28 = .ok (.iadd, 1) := by decide +kernel
theorem dX7_toldMany_29 : decode cX7_toldMany 29 = .ok (.istore_n 1, 1) := by decide +kernel
theorem dX7_toldMany_30 : decode cX7_toldMany 30 = .ok (.iinc 2 1, 3) := by decide +kernel
theorem dX7_toldMany_33 : decode cX7_toldMany 33 = .ok (.goto (-29), 3) := by decide +kernel
theorem dX7_toldMany_36 : decode cX7_toldMany 36 = .ok (.iload_n 1, 1) := by decide +kernel
theorem dX7_toldMany_37 : decode cX7_toldMany 37 = .ok (.ireturn, 1) := by decide +kernel
theorem dX7_howMany_0 : decode cX7_howMany 0 = .ok (.iload_n 1, 1) := by decide +kernel
theorem dX7_howMany_1 : decode cX7_howMany 1 = .ok (.tableswitch 102 0 8 #[51, 59, 64, 69, 74, 82, 87, 92, 97], 51) := by decide +kernel
theorem dX7_howMany_52 : decode cX7_howMany 52 = .ok (.aload_n 0, 1) := by decide +kernel
theorem dX7_howMany_53 : decode cX7_howMany 53 = .ok (.getfield 73, 3) := by decide +kernel
theorem dX7_howMany_56 : decode cX7_howMany 56 = .ok (.invokestatic 89, 3) := by decide +kernel
theorem dX7_howMany_59 : decode cX7_howMany 59 = .ok (.ireturn, 1) := by decide +kernel
theorem dX7_howMany_60 : decode cX7_howMany 60 = .ok (.aload_n 0, 1) := by decide +kernel
theorem dX7_howMany_61 : decode cX7_howMany 61 = .ok (.getfield 86, 3) := by decide +kernel
theorem dX7_howMany_64 : decode cX7_howMany 64 = .ok (.ireturn, 1) := by decide +kernel
theorem dX7_howMany_65 : decode cX7_howMany 65 = .ok (.aload_n 0, 1) := by decide +kernel
theorem dX7_howMany_66 : decode cX7_howMany 66 = .ok (.getfield 7, 3) := by decide +kernel
theorem dX7_howMany_69 : decode cX7_howMany 69 = .ok (.ireturn, 1) := by decide +kernel
theorem dX7_howMany_70 : decode cX7_howMany 70 = .ok (.aload_n 0, 1) := by decide +kernel
theorem dX7_howMany_71 : decode cX7_howMany 71 = .ok (.getfield 13, 3) := by decide +kernel
theorem dX7_howMany_74 : decode cX7_howMany 74 = .ok (.ireturn, 1) := by decide +kernel
theorem dX7_howMany_75 : decode cX7_howMany 75 = .ok (.aload_n 0, 1) := by decide +kernel
theorem dX7_howMany_76 : decode cX7_howMany 76 = .ok (.invokevirtual 153, 3) := by decide +kernel
theorem dX7_howMany_79 : decode cX7_howMany 79 = .ok (.invokestatic 89, 3) := by decide +kernel
theorem dX7_howMany_82 : decode cX7_howMany 82 = .ok (.ireturn, 1) := by decide +kernel
theorem dX7_howMany_83 : decode cX7_howMany 83 = .ok (.aload_n 0, 1) := by decide +kernel
theorem dX7_howMany_84 : decode cX7_howMany 84 = .ok (.invokevirtual 228, 3) := by decide +kernel
theorem dX7_howMany_87 : decode cX7_howMany 87 = .ok (.ireturn, 1) := by decide +kernel
theorem dX7_howMany_88 : decode cX7_howMany 88 = .ok (.aload_n 0, 1) := by decide +kernel
theorem dX7_howMany_89 : decode cX7_howMany 89 = .ok (.getfield 83, 3) := by decide +kernel
theorem dX7_howMany_92 : decode cX7_howMany 92 = .ok (.ireturn, 1) := by decide +kernel
theorem dX7_howMany_93 : decode cX7_howMany 93 = .ok (.aload_n 0, 1) := by decide +kernel
theorem dX7_howMany_94 : decode cX7_howMany 94 = .ok (.getfield 61, 3) := by decide +kernel
theorem dX7_howMany_97 : decode cX7_howMany 97 = .ok (.ireturn, 1) := by decide +kernel
theorem dX7_howMany_98 : decode cX7_howMany 98 = .ok (.aload_n 0, 1) := by decide +kernel
theorem dX7_howMany_99 : decode cX7_howMany 99 = .ok (.getfield 80, 3) := by decide +kernel
theorem dX7_howMany_102 : decode cX7_howMany 102 = .ok (.ireturn, 1) := by decide +kernel
theorem dX7_howMany_103 : decode cX7_howMany 103 = .ok (.bipush (-102), 2) := by decide +kernel
theorem dX7_howMany_105 : decode cX7_howMany 105 = .ok (.ireturn, 1) := by decide +kernel
theorem dX7_count_0 : decode cX7_count 0 = .ok (.aload_n 0, 1) := by decide +kernel
theorem dX7_count_1 : decode cX7_count 1 = .ok (.iload_n 1, 1) := by decide +kernel
theorem dX7_count_2 : decode cX7_count 2 = .ok (.invokevirtual 231, 3) := by decide +kernel
theorem dX7_count_5 : decode cX7_count 5 = .ok (.ireturn, 1) := by decide +kernel
theorem dX7_mix_0 : decode cX7_mix 0 = .ok (.aload_n 0, 1) := by decide +kernel
theorem dX7_mix_1 : decode cX7_mix 1 = .ok (.ldc2_w 234, 3) := by decide +kernel
theorem dX7_mix_4 : decode cX7_mix 4 = .ok (.aload_n 0, 1) := by decide +kernel
theorem dX7_mix_5 : decode cX7_mix 5 = .ok (.getfield 236, 3) := by decide +kernel
theorem dX7_mix_8 : decode cX7_mix 8 = .ok (.lmul, 1) := by decide +kernel
theorem dX7_mix_9 : decode cX7_mix 9 = .ok (.lload_n 1, 1) := by decide +kernel
theorem dX7_mix_10 : decode cX7_mix 10 = .ok (.ladd, 1) := by decide +kernel
theorem dX7_mix_11 : decode cX7_mix 11 = .ok (.putfield 236, 3) := by decide +kernel
theorem dX7_mix_14 : decode cX7_mix 14 = .ok (.return_, 1) := by decide +kernel
theorem dX7_digest_0 : decode cX7_digest 0 = .ok (.aload_n 0, 1) := by decide +kernel
theorem dX7_digest_1 : decode cX7_digest 1 = .ok (.ldc2_w 239, 3) := by decide +kernel
theorem dX7_digest_4 : decode cX7_digest 4 = .ok (.putfield 236, 3) := by decide +kernel
theorem dX7_digest_7 : decode cX7_digest 7 = .ok (.iconst 0, 1) := by decide +kernel
theorem dX7_digest_8 : decode cX7_digest 8 = .ok (.istore_n 1, 1) := by decide +kernel
theorem dX7_digest_9 : decode cX7_digest 9 = .ok (.iload_n 1, 1) := by decide +kernel
theorem dX7_digest_10 : decode cX7_digest 10 = .ok (.bipush 20, 2) := by decide +kernel
theorem dX7_digest_12 : decode cX7_digest 12 = .ok (.if_icmp .ge 26, 3) := by decide +kernel
theorem dX7_digest_15 : decode cX7_digest 15 = .ok (.aload_n 0, 1) := by decide +kernel
theorem dX7_digest_16 : decode cX7_digest 16 = .ok (.getfield 76, 3) := by decide +kernel
theorem dX7_digest_19 : decode cX7_digest 19 = .ok (.ifCond .eq 19, 3) := by decide +kernel
theorem dX7_digest_22 : decode cX7_digest 22 = .ok (.aload_n 0, 1) := by decide +kernel
theorem dX7_digest_23 : decode cX7_digest 23 = .ok (.aload_n 0, 1) := by decide +kernel
theorem dX7_digest_24 : decode cX7_digest 24 = .ok (.iload_n 1, 1) := by decide +kernel
theorem dX7_digest_25 : decode cX7_digest 25 = .ok (.invokevirtual 104, 3) := by decide +kernel
theorem dX7_digest_28 : decode cX7_digest 28 = .ok (.i2l, 1) := by decide +kernel
theorem dX7_digest_29 : decode cX7_digest 29 = .ok (.invokevirtual 241, 3) := by decide +kernel
theorem dX7_digest_32 : decode cX7_digest 32 = .ok (.iinc 1 1, 3) := by decide +kernel
theorem dX7_digest_35 : decode cX7_digest 35 = .ok (.goto (-26), 3) := by decide +kernel
theorem dX7_digest_38 : decode cX7_digest 38 = .ok (.iconst 0, 1) := by decide +kernel
theorem dX7_digest_39 : decode cX7_digest 39 = .ok (.istore_n 1, 1) := by decide +kernel
theorem dX7_digest_40 : decode cX7_digest 40 = .ok (.iload_n 1, 1) := by decide +kernel
theorem dX7_digest_41 : decode cX7_digest 41 = .ok (.aload_n 0, 1) := by decide +kernel
theorem dX7_digest_42 : decode cX7_digest 42 = .ok (.getfield 86, 3) := by decide +kernel
theorem dX7_digest_45 : decode cX7_digest 45 = .ok (.if_icmp .ge 45, 3) := by decide +kernel
theorem dX7_digest_48 : decode cX7_digest 48 = .ok (.iconst 0, 1) := by decide +kernel
theorem dX7_digest_49 : decode cX7_digest 49 = .ok (.istore_n 2, 1) := by decide +kernel
theorem dX7_digest_50 : decode cX7_digest 50 = .ok (.iload_n 2, 1) := by decide +kernel
theorem dX7_digest_51 : decode cX7_digest 51 = .ok (.bipush 6, 2) := by decide +kernel
theorem dX7_digest_53 : decode cX7_digest 53 = .ok (.if_icmp .ge 20, 3) := by decide +kernel
theorem dX7_digest_56 : decode cX7_digest 56 = .ok (.aload_n 0, 1) := by decide +kernel
theorem dX7_digest_57 : decode cX7_digest 57 = .ok (.aload_n 0, 1) := by decide +kernel
theorem dX7_digest_58 : decode cX7_digest 58 = .ok (.iload_n 1, 1) := by decide +kernel
theorem dX7_digest_59 : decode cX7_digest 59 = .ok (.iload_n 2, 1) := by decide +kernel
theorem dX7_digest_60 : decode cX7_digest 60 = .ok (.invokevirtual 140, 3) := by decide +kernel
theorem dX7_digest_63 : decode cX7_digest 63 = .ok (.i2l, 1) := by decide +kernel
theorem dX7_digest_64 : decode cX7_digest 64 = .ok (.invokevirtual 241, 3) := by decide +kernel
theorem dX7_digest_67 : decode cX7_digest 67 = .ok (.iinc 2 1, 3) := by decide +kernel
theorem dX7_digest_70 : decode cX7_digest 70 = .ok (.goto (-20), 3) := by decide +kernel
theorem dX7_digest_73 : decode cX7_digest 73 = .ok (.aload_n 0, 1) := by decide +kernel
theorem dX7_digest_74 : decode cX7_digest 74 = .ok (.aload_n 0, 1) := by decide +kernel
theorem dX7_digest_75 : decode cX7_digest 75 = .ok (.getfield 29, 3) := by decide +kernel
theorem dX7_digest_78 : decode cX7_digest 78 = .ok (.iload_n 1, 1) := by decide +kernel
theorem dX7_digest_79 : decode cX7_digest 79 = .ok (.iaload, 1) := by decide +kernel
theorem dX7_digest_80 : decode cX7_digest 80 = .ok (.i2l, 1) := by decide +kernel
theorem dX7_digest_81 : decode cX7_digest 81 = .ok (.invokevirtual 241, 3) := by decide +kernel
theorem dX7_digest_84 : decode cX7_digest 84 = .ok (.iinc 1 1, 3) := by decide +kernel
theorem dX7_digest_87 : decode cX7_digest 87 = .ok (.goto (-47), 3) := by decide +kernel
theorem dX7_digest_90 : decode cX7_digest 90 = .ok (.aload_n 0, 1) := by decide +kernel
theorem dX7_digest_91 : decode cX7_digest 91 = .ok (.getfield 7, 3) := by decide +kernel
theorem dX7_digest_94 : decode cX7_digest 94 = .ok (.iconst (-1), 1) := by decide +kernel
theorem dX7_digest_95 : decode cX7_digest 95 = .ok (.if_icmp .eq 68, 3) := by decide +kernel
theorem dX7_digest_98 : decode cX7_digest 98 = .ok (.aload_n 0, 1) := by decide +kernel
theorem dX7_digest_99 : decode cX7_digest 99 = .ok (.aload_n 0, 1) := by decide +kernel
theorem dX7_digest_100 : decode cX7_digest 100 = .ok (.iconst 2, 1) := by decide +kernel
theorem dX7_digest_101 : decode cX7_digest 101 = .ok (.iconst 0, 1) := by decide +kernel
theorem dX7_digest_102 : decode cX7_digest 102 = .ok (.invokevirtual 169, 3) := by decide +kernel
theorem dX7_digest_105 : decode cX7_digest 105 = .ok (.i2l, 1) := by decide +kernel
theorem dX7_digest_106 : decode cX7_digest 106 = .ok (.invokevirtual 241, 3) := by decide +kernel
theorem dX7_digest_109 : decode cX7_digest 109 = .ok (.aload_n 0, 1) := by decide +kernel
theorem dX7_digest_110 : decode cX7_digest 110 = .ok (.aload_n 0, 1) := by decide +kernel
theorem dX7_digest_111 : decode cX7_digest 111 = .ok (.iconst 2, 1) := by decide +kernel
theorem dX7_digest_112 : decode cX7_digest 112 = .ok (.iconst 1, 1) := by decide +kernel
theorem dX7_digest_113 : decode cX7_digest 113 = .ok (.invokevirtual 169, 3) := by decide +kernel
theorem dX7_digest_116 : decode cX7_digest 116 = .ok (.i2l, 1) := by decide +kernel
theorem dX7_digest_117 : decode cX7_digest 117 = .ok (.invokevirtual 241, 3) := by decide +kernel
theorem dX7_digest_120 : decode cX7_digest 120 = .ok (.aload_n 0, 1) := by decide +kernel
theorem dX7_digest_121 : decode cX7_digest 121 = .ok (.aload_n 0, 1) := by decide +kernel
theorem dX7_digest_122 : decode cX7_digest 122 = .ok (.iconst 0, 1) := by decide +kernel
theorem dX7_digest_123 : decode cX7_digest 123 = .ok (.invokevirtual 172, 3) := by decide +kernel
theorem dX7_digest_126 : decode cX7_digest 126 = .ok (.i2l, 1) := by decide +kernel
theorem dX7_digest_127 : decode cX7_digest 127 = .ok (.invokevirtual 241, 3) := by decide +kernel
theorem dX7_digest_130 : decode cX7_digest 130 = .ok (.aload_n 0, 1) := by decide +kernel
theorem dX7_digest_131 : decode cX7_digest 131 = .ok (.aload_n 0, 1) := by decide +kernel
theorem dX7_digest_132 : decode cX7_digest 132 = .ok (.iconst 1, 1) := by decide +kernel
theorem dX7_digest_133 : decode cX7_digest 133 = .ok (.invokevirtual 172, 3) := by decide +kernel
theorem dX7_digest_136 : decode cX7_digest 136 = .ok (.i2l, 1) := by decide +kernel
theorem dX7_digest_137 : decode cX7_digest 137 = .ok (.invokevirtual 241, 3) := by decide +kernel
theorem dX7_digest_140 : decode cX7_digest 140 = .ok (.aload_n 0, 1) := by decide +kernel
theorem dX7_digest_141 : decode cX7_digest 141 = .ok (.aload_n 0, 1) := by decide +kernel
theorem dX7_digest_142 : decode cX7_digest 142 = .ok (.iconst 0, 1) := by decide +kernel
theorem dX7_digest_143 : decode cX7_digest 143 = .ok (.iconst 0, 1) := by decide +kernel
theorem dX7_digest_144 : decode cX7_digest 144 = .ok (.invokevirtual 178, 3) := by decide +kernel
theorem dX7_digest_147 : decode cX7_digest 147 = .ok (.i2l, 1) := by decide +kernel
theorem dX7_digest_148 : decode cX7_digest 148 = .ok (.invokevirtual 241, 3) := by decide +kernel
theorem dX7_digest_151 : decode cX7_digest 151 = .ok (.aload_n 0, 1) := by decide +kernel
theorem dX7_digest_152 : decode cX7_digest 152 = .ok (.aload_n 0, 1) := by decide +kernel
theorem dX7_digest_153 : decode cX7_digest 153 = .ok (.bipush 19, 2) := by decide +kernel
theorem dX7_digest_155 : decode cX7_digest 155 = .ok (.iconst 0, 1) := by decide +kernel
theorem dX7_digest_156 : decode cX7_digest 156 = .ok (.invokevirtual 178, 3) := by decide +kernel
theorem dX7_digest_159 : decode cX7_digest 159 = .ok (.i2l, 1) := by decide +kernel
theorem dX7_digest_160 : decode cX7_digest 160 = .ok (.invokevirtual 241, 3) := by decide +kernel
theorem dX7_digest_163 : decode cX7_digest 163 = .ok (.iconst 0, 1) := by decide +kernel
theorem dX7_digest_164 : decode cX7_digest 164 = .ok (.istore_n 1, 1) := by decide +kernel
theorem dX7_digest_165 : decode cX7_digest 165 = .ok (.iload_n 1, 1) := by decide +kernel
theorem dX7_digest_166 : decode cX7_digest 166 = .ok (.iconst 3, 1) := by decide +kernel
theorem dX7_digest_167 : decode cX7_digest 167 = .ok (.if_icmp .ge 26, 3) := by decide +kernel
theorem dX7_digest_170 : decode cX7_digest 170 = .ok (.aload_n 0, 1) := by decide +kernel
theorem dX7_digest_171 : decode cX7_digest 171 = .ok (.getfield 76, 3) := by decide +kernel
theorem dX7_digest_174 : decode cX7_digest 174 = .ok (.ifCond .eq 19, 3) := by decide +kernel
theorem dX7_digest_177 : decode cX7_digest 177 = .ok (.aload_n 0, 1) := by decide +kernel
theorem dX7_digest_178 : decode cX7_digest 178 = .ok (.aload_n 0, 1) := by decide +kernel
theorem dX7_digest_179 : decode cX7_digest 179 = .ok (.iload_n 1, 1) := by decide +kernel
theorem dX7_digest_180 : decode cX7_digest 180 = .ok (.invokevirtual 188, 3) := by decide +kernel
theorem dX7_digest_183 : decode cX7_digest 183 = .ok (.i2l, 1) := by decide +kernel
theorem dX7_digest_184 : decode cX7_digest 184 = .ok (.invokevirtual 241, 3) := by decide +kernel
theorem dX7_digest_187 : decode cX7_digest 187 = .ok (.iinc 1 1, 3) := by decide +kernel
theorem dX7_digest_190 : decode cX7_digest 190 = .ok (.goto (-25), 3) := by decide +kernel
theorem dX7_digest_193 : decode cX7_digest 193 = .ok (.iconst 0, 1) := by decide +kernel
theorem dX7_digest_194 : decode cX7_digest 194 = .ok (.istore_n 1, 1) := by decide +kernel
theorem dX7_digest_195 : decode cX7_digest 195 = .ok (.iload_n 1, 1) := by decide +kernel
theorem dX7_digest_196 : decode cX7_digest 196 = .ok (.aload_n 0, 1) := by decide +kernel
theorem dX7_digest_197 : decode cX7_digest 197 = .ok (.getfield 61, 3) := by decide +kernel
theorem dX7_digest_200 : decode cX7_digest 200 = .ok (.if_icmp .ge 20, 3) := by decide +kernel
theorem dX7_digest_203 : decode cX7_digest 203 = .ok (.aload_n 0, 1) := by decide +kernel
theorem dX7_digest_204 : decode cX7_digest 204 = .ok (.aload_n 0, 1) := by decide +kernel
theorem dX7_digest_205 : decode cX7_digest 205 = .ok (.getfield 32, 3) := by decide +kernel
theorem dX7_digest_208 : decode cX7_digest 208 = .ok (.iload_n 1, 1) := by decide +kernel
theorem dX7_digest_209 : decode cX7_digest 209 = .ok (.baload, 1) := by decide +kernel
theorem dX7_digest_210 : decode cX7_digest 210 = .ok (.i2l, 1) := by decide +kernel
theorem dX7_digest_211 : decode cX7_digest 211 = .ok (.invokevirtual 241, 3) := by decide +kernel
theorem dX7_digest_214 : decode cX7_digest 214 = .ok (.iinc 1 1, 3) := by decide +kernel
theorem dX7_digest_217 : decode cX7_digest 217 = .ok (.goto (-22), 3) := by decide +kernel
theorem dX7_digest_220 : decode cX7_digest 220 = .ok (.iconst 0, 1) := by decide +kernel
theorem dX7_digest_221 : decode cX7_digest 221 = .ok (.istore_n 1, 1) := by decide +kernel
theorem dX7_digest_222 : decode cX7_digest 222 = .ok (.iload_n 1, 1) := by decide +kernel
theorem dX7_digest_223 : decode cX7_digest 223 = .ok (.bipush 9, 2) := by decide +kernel
theorem dX7_digest_225 : decode cX7_digest 225 = .ok (.if_icmp .ge 19, 3) := by decide +kernel
theorem dX7_digest_228 : decode cX7_digest 228 = .ok (.aload_n 0, 1) := by decide +kernel
theorem dX7_digest_229 : decode cX7_digest 229 = .ok (.aload_n 0, 1) := by decide +kernel
theorem dX7_digest_230 : decode cX7_digest 230 = .ok (.iload_n 1, 1) := by decide +kernel
theorem dX7_digest_231 : decode cX7_digest 231 = .ok (.invokevirtual 231, 3) := by decide +kernel
theorem dX7_digest_234 : decode cX7_digest 234 = .ok (.i2l, 1) := by decide +kernel
theorem dX7_digest_235 : decode cX7_digest 235 = .ok (.invokevirtual 241, 3) := by decide +kernel
theorem dX7_digest_238 : decode cX7_digest 238 = .ok (.iinc 1 1, 3) := by decide +kernel
theorem dX7_digest_241 : decode cX7_digest 241 = .ok (.goto (-19), 3) := by decide +kernel
theorem dX7_digest_244 : decode cX7_digest 244 = .ok (.aload_n 0, 1) := by decide +kernel
theorem dX7_digest_245 : decode cX7_digest 245 = .ok (.getfield 236, 3) := by decide +kernel
theorem dX7_digest_248 : decode cX7_digest 248 = .ok (.lreturn, 1) := by decide +kernel
set_option maxRecDepth 20000 in
theorem ggX7_isPlace_X7_within : GoodIn wsX7_isPlace wsX7_within := goodIn_sub (cz_c (List.mem_cons_of_mem _ (List.mem_of_getElem? (i := 3) rfl)) cz_n) (by decide +kernel)
set_option maxRecDepth 20000 in
theorem gX7_isPlace_X7_within : GoodIn wsX7_isPlace (va_wsS RX7 57 yX7_within wsX7_within) := goodIn_app (goodIn_sub (cz_c (List.mem_cons_of_mem _ (List.mem_of_getElem? (i := 0) rfl)) (cz_c (List.mem_cons_of_mem _ (List.mem_of_getElem? (i := 1) rfl)) (cz_c (List.mem_cons_of_mem _ (List.mem_of_getElem? (i := 2) rfl)) cz_n))) (by decide +kernel)) ggX7_isPlace_X7_within
set_option maxRecDepth 20000 in
theorem ggX7_letter_X7_within : GoodIn wsX7_letter wsX7_within := goodIn_sub (cz_c (List.mem_cons_of_mem _ (List.mem_append_left _ (List.mem_of_getElem? (i := 5) rfl))) cz_n) (by decide +kernel)
set_option maxRecDepth 20000 in
theorem gX7_letter_X7_within : GoodIn wsX7_letter (va_wsS RX7 57 yX7_within wsX7_within) := goodIn_app (goodIn_sub (cz_c (List.mem_cons_of_mem _ (List.mem_append_left _ (List.mem_of_getElem? (i := 2) rfl))) (cz_c (List.mem_cons_of_mem _ (List.mem_append_left _ (List.mem_of_getElem? (i := 3) rfl))) (cz_c (List.mem_cons_of_mem _ (List.mem_append_left _ (List.mem_of_getElem? (i := 4) rfl))) cz_n))) (by decide +kernel)) ggX7_letter_X7_within
set_option maxRecDepth 20000 in
theorem ggX7_fault_X7_readHall : GoodIn wsX7_fault wsX7_readHall := goodIn_sub (cz_c (List.mem_cons_of_mem _ (List.mem_append_left _ (List.mem_of_getElem? (i := 5) rfl))) (cz_a (cz_c (List.mem_cons_of_mem _ (List.mem_append_left _ (List.mem_of_getElem? (i := 6) rfl))) (cz_c (List.mem_cons_of_mem _ (List.mem_append_left _ (List.mem_of_getElem? (i := 7) rfl))) (cz_c (List.mem_cons_of_mem _ (List.mem_append_left _ (List.mem_of_getElem? (i := 8) rfl))) (cz_c (List.mem_cons_of_mem _ (List.mem_append_left _ (List.mem_of_getElem? (i := 0) rfl))) cz_n)))) (fun _ h => List.mem_cons_of_mem _ (List.mem_append_right _ h)))) (by decide +kernel)
set_option maxRecDepth 20000 in
theorem gX7_fault_X7_readHall : GoodIn wsX7_fault (wsV RX7 70 RX7 yX7_readHall wsX7_readHall) := goodIn_app (goodIn_sub (cz_c (List.mem_cons_of_mem _ (List.mem_append_left _ (List.mem_of_getElem? (i := 1) rfl))) (cz_c (List.mem_cons_of_mem _ (List.mem_append_left _ (List.mem_of_getElem? (i := 2) rfl))) (cz_c (List.mem_cons_of_mem _ (List.mem_append_left _ (List.mem_of_getElem? (i := 3) rfl))) (cz_c (List.mem_cons_of_mem _ (List.mem_append_left _ (List.mem_of_getElem? (i := 4) rfl))) cz_n)))) (by decide +kernel)) ggX7_fault_X7_readHall
set_option maxRecDepth 20000 in
theorem ggX7_hall_X7_readHall : GoodIn wsX7_hall wsX7_readHall := goodIn_sub (cz_c (List.mem_cons_of_mem _ (List.mem_append_left _ (List.mem_of_getElem? (i := 14) rfl))) (cz_a (cz_c (List.mem_cons_of_mem _ (List.mem_append_left _ (List.mem_of_getElem? (i := 2) rfl))) (cz_c (List.mem_cons_of_mem _ (List.mem_append_left _ (List.mem_of_getElem? (i := 1) rfl))) (cz_c (List.mem_cons_of_mem _ (List.mem_append_left _ (List.mem_of_getElem? (i := 15) rfl))) (cz_c (List.mem_cons_of_mem _ (List.mem_append_left _ (List.mem_of_getElem? (i := 0) rfl))) cz_n)))) (fun _ h => List.mem_cons_of_mem _ (List.mem_append_right _ h)))) (by decide +kernel)
set_option maxRecDepth 20000 in
theorem gX7_hall_X7_readHall : GoodIn wsX7_hall (wsV RX7 70 RX7 yX7_readHall wsX7_readHall) := goodIn_app (goodIn_sub (cz_c (List.mem_cons_of_mem _ (List.mem_append_left _ (List.mem_of_getElem? (i := 10) rfl))) (cz_c (List.mem_cons_of_mem _ (List.mem_append_left _ (List.mem_of_getElem? (i := 11) rfl))) (cz_c (List.mem_cons_of_mem _ (List.mem_append_left _ (List.mem_of_getElem? (i := 12) rfl))) (cz_c (List.mem_cons_of_mem _ (List.mem_append_left _ (List.mem_of_getElem? (i := 13) rfl))) cz_n)))) (by decide +kernel)) ggX7_hall_X7_readHall
set_option maxRecDepth 20000 in
theorem ggX7_hall_X7_size : GoodIn wsX7_hall wsX7_size := goodIn_sub (cz_c (List.mem_cons_of_mem _ (List.mem_append_left _ (List.mem_of_getElem? (i := 18) rfl))) cz_n) (by decide +kernel)
set_option maxRecDepth 20000 in
theorem gX7_hall_X7_size : GoodIn wsX7_hall (va_wsS RX7 89 yX7_size wsX7_size) := goodIn_app (goodIn_sub (cz_c (List.mem_cons_of_mem _ (List.mem_append_left _ (List.mem_of_getElem? (i := 16) rfl))) (cz_c (List.mem_cons_of_mem _ (List.mem_append_left _ (List.mem_of_getElem? (i := 17) rfl))) (cz_c (List.mem_cons_of_mem _ (List.mem_append_left _ (List.mem_of_getElem? (i := 13) rfl))) cz_n))) (by decide +kernel)) ggX7_hall_X7_size
set_option maxRecDepth 20000 in
theorem ggX7_onNow_X7_has : GoodIn wsX7_onNow wsX7_has := goodIn_sub (cz_c (List.mem_cons_of_mem _ (List.mem_append_left _ (List.mem_of_getElem? (i := 4) rfl))) cz_n) (by decide +kernel)
set_option maxRecDepth 20000 in
theorem gX7_onNow_X7_has : GoodIn wsX7_onNow (va_wsS RX7 93 yX7_has wsX7_has) := goodIn_app (goodIn_sub (cz_c (List.mem_cons_of_mem _ (List.mem_append_left _ (List.mem_of_getElem? (i := 1) rfl))) (cz_c (List.mem_cons_of_mem _ (List.mem_append_left _ (List.mem_of_getElem? (i := 2) rfl))) (cz_c (List.mem_cons_of_mem _ (List.mem_append_left _ (List.mem_of_getElem? (i := 3) rfl))) cz_n))) (by decide +kernel)) ggX7_onNow_X7_has
set_option maxRecDepth 20000 in
theorem ggX7_onNow_X7_whoOn : GoodIn wsX7_onNow wsX7_whoOn := goodIn_sub (cz_c (List.mem_cons_of_mem _ (List.mem_append_left _ (List.mem_of_getElem? (i := 8) rfl))) (cz_a (cz_c (List.mem_cons_of_mem _ (List.mem_append_left _ (List.mem_of_getElem? (i := 9) rfl))) (cz_c (List.mem_cons_of_mem _ (List.mem_append_left _ (List.mem_of_getElem? (i := 10) rfl))) (cz_c (List.mem_cons_of_mem _ (List.mem_append_left _ (List.mem_of_getElem? (i := 11) rfl))) cz_n))) (fun _ h => List.mem_cons_of_mem _ (List.mem_append_right _ h)))) (by decide +kernel)
set_option maxRecDepth 20000 in
theorem gX7_onNow_X7_whoOn : GoodIn wsX7_onNow (wsV RX7 97 RX7 yX7_whoOn wsX7_whoOn) := goodIn_app (goodIn_sub (cz_c (List.mem_cons_of_mem _ (List.mem_append_left _ (List.mem_of_getElem? (i := 5) rfl))) (cz_c (List.mem_cons_of_mem _ (List.mem_append_left _ (List.mem_of_getElem? (i := 6) rfl))) (cz_c (List.mem_cons_of_mem _ (List.mem_append_left _ (List.mem_of_getElem? (i := 7) rfl))) (cz_c (List.mem_cons_of_mem _ (List.mem_append_left _ (List.mem_of_getElem? (i := 3) rfl))) cz_n)))) (by decide +kernel)) ggX7_onNow_X7_whoOn
set_option maxRecDepth 20000 in
theorem ggX7_on_X7_isPlace : GoodIn wsX7_on wsX7_isPlace := goodIn_sub (cz_c (List.mem_cons_of_mem _ (List.mem_append_left _ (List.mem_of_getElem? (i := 4) rfl))) (cz_c (List.mem_cons_of_mem _ (List.mem_append_left _ (List.mem_of_getElem? (i := 5) rfl))) (cz_c (List.mem_cons_of_mem _ (List.mem_append_left _ (List.mem_of_getElem? (i := 6) rfl))) (cz_c (List.mem_cons_of_mem _ (List.mem_append_left _ (List.mem_of_getElem? (i := 3) rfl))) (cz_c (List.mem_cons_of_mem _ (List.mem_append_left _ (List.mem_of_getElem? (i := 7) rfl))) cz_n))))) (by decide +kernel)
set_option maxRecDepth 20000 in
theorem gX7_on_X7_isPlace : GoodIn wsX7_on (va_wsS RX7 100 yX7_isPlace wsX7_isPlace) := goodIn_app (goodIn_sub (cz_c (List.mem_cons_of_mem _ (List.mem_append_left _ (List.mem_of_getElem? (i := 1) rfl))) (cz_c (List.mem_cons_of_mem _ (List.mem_append_left _ (List.mem_of_getElem? (i := 2) rfl))) (cz_c (List.mem_cons_of_mem _ (List.mem_append_left _ (List.mem_of_getElem? (i := 3) rfl))) cz_n))) (by decide +kernel)) ggX7_on_X7_isPlace
set_option maxRecDepth 20000 in
theorem ggX7_on_X7_onNow : GoodIn wsX7_on wsX7_onNow := goodIn_sub (cz_c (List.mem_cons_of_mem _ (List.mem_append_left _ (List.mem_of_getElem? (i := 11) rfl))) (cz_a (cz_c (List.mem_cons_of_mem _ (List.mem_append_left _ (List.mem_of_getElem? (i := 12) rfl))) (cz_c (List.mem_cons_of_mem _ (List.mem_append_left _ (List.mem_of_getElem? (i := 13) rfl))) (cz_c (List.mem_cons_of_mem _ (List.mem_append_left _ (List.mem_of_getElem? (i := 14) rfl))) (cz_c (List.mem_cons_of_mem _ (List.mem_append_left _ (List.mem_of_getElem? (i := 3) rfl))) (cz_c (List.mem_cons_of_mem _ (List.mem_append_left _ (List.mem_of_getElem? (i := 15) rfl))) (cz_c (List.mem_cons_of_mem _ (List.mem_append_left _ (List.mem_of_getElem? (i := 16) rfl))) (cz_c (List.mem_cons_of_mem _ (List.mem_append_left _ (List.mem_of_getElem? (i := 17) rfl))) (cz_c (List.mem_cons_of_mem _ (List.mem_append_left _ (List.mem_of_getElem? (i := 18) rfl))) (cz_c (List.mem_cons_of_mem _ (List.mem_append_left _ (List.mem_of_getElem? (i := 19) rfl))) (cz_c (List.mem_cons_of_mem _ (List.mem_append_left _ (List.mem_of_getElem? (i := 20) rfl))) (cz_c (List.mem_cons_of_mem _ (List.mem_append_left _ (List.mem_of_getElem? (i := 21) rfl))) (cz_c (List.mem_cons_of_mem _ (List.mem_append_left _ (List.mem_of_getElem? (i := 22) rfl))) cz_n)))))))))))) (fun _ h => List.mem_cons_of_mem _ (List.mem_append_right _ h)))) (by decide +kernel)
set_option maxRecDepth 20000 in
theorem gX7_on_X7_onNow : GoodIn wsX7_on (wsV RX7 104 RX7 yX7_onNow wsX7_onNow) := goodIn_app (goodIn_sub (cz_c (List.mem_cons_of_mem _ (List.mem_append_left _ (List.mem_of_getElem? (i := 8) rfl))) (cz_c (List.mem_cons_of_mem _ (List.mem_append_left _ (List.mem_of_getElem? (i := 9) rfl))) (cz_c (List.mem_cons_of_mem _ (List.mem_append_left _ (List.mem_of_getElem? (i := 10) rfl))) (cz_c (List.mem_cons_of_mem _ (List.mem_append_left _ (List.mem_of_getElem? (i := 3) rfl))) cz_n)))) (by decide +kernel)) ggX7_on_X7_onNow
set_option maxRecDepth 20000 in
theorem ggX7_isEmpty_X7_has : GoodIn wsX7_isEmpty wsX7_has := goodIn_sub (cz_c (List.mem_cons_of_mem _ (List.mem_append_left _ (List.mem_of_getElem? (i := 4) rfl))) cz_n) (by decide +kernel)
set_option maxRecDepth 20000 in
theorem gX7_isEmpty_X7_has : GoodIn wsX7_isEmpty (va_wsS RX7 93 yX7_has wsX7_has) := goodIn_app (goodIn_sub (cz_c (List.mem_cons_of_mem _ (List.mem_append_left _ (List.mem_of_getElem? (i := 1) rfl))) (cz_c (List.mem_cons_of_mem _ (List.mem_append_left _ (List.mem_of_getElem? (i := 2) rfl))) (cz_c (List.mem_cons_of_mem _ (List.mem_append_left _ (List.mem_of_getElem? (i := 3) rfl))) cz_n))) (by decide +kernel)) ggX7_isEmpty_X7_has
set_option maxRecDepth 20000 in
theorem ggX7_isEmpty_X7_whoOn : GoodIn wsX7_isEmpty wsX7_whoOn := goodIn_sub (cz_c (List.mem_cons_of_mem _ (List.mem_append_left _ (List.mem_of_getElem? (i := 8) rfl))) (cz_a (cz_c (List.mem_cons_of_mem _ (List.mem_append_left _ (List.mem_of_getElem? (i := 9) rfl))) (cz_c (List.mem_cons_of_mem _ (List.mem_append_left _ (List.mem_of_getElem? (i := 10) rfl))) (cz_c (List.mem_cons_of_mem _ (List.mem_append_left _ (List.mem_of_getElem? (i := 11) rfl))) cz_n))) (fun _ h => List.mem_cons_of_mem _ (List.mem_append_right _ h)))) (by decide +kernel)
set_option maxRecDepth 20000 in
theorem gX7_isEmpty_X7_whoOn : GoodIn wsX7_isEmpty (wsV RX7 97 RX7 yX7_whoOn wsX7_whoOn) := goodIn_app (goodIn_sub (cz_c (List.mem_cons_of_mem _ (List.mem_append_left _ (List.mem_of_getElem? (i := 5) rfl))) (cz_c (List.mem_cons_of_mem _ (List.mem_append_left _ (List.mem_of_getElem? (i := 6) rfl))) (cz_c (List.mem_cons_of_mem _ (List.mem_append_left _ (List.mem_of_getElem? (i := 7) rfl))) (cz_c (List.mem_cons_of_mem _ (List.mem_append_left _ (List.mem_of_getElem? (i := 3) rfl))) cz_n)))) (by decide +kernel)) ggX7_isEmpty_X7_whoOn
set_option maxRecDepth 20000 in
theorem ggX7_duke_X7_isPlace : GoodIn wsX7_duke wsX7_isPlace := goodIn_sub (cz_c (List.mem_cons_of_mem _ (List.mem_append_left _ (List.mem_of_getElem? (i := 6) rfl))) (cz_c (List.mem_cons_of_mem _ (List.mem_append_left _ (List.mem_of_getElem? (i := 7) rfl))) (cz_c (List.mem_cons_of_mem _ (List.mem_append_left _ (List.mem_of_getElem? (i := 8) rfl))) (cz_c (List.mem_cons_of_mem _ (List.mem_append_left _ (List.mem_of_getElem? (i := 5) rfl))) (cz_c (List.mem_cons_of_mem _ (List.mem_append_left _ (List.mem_of_getElem? (i := 9) rfl))) cz_n))))) (by decide +kernel)
set_option maxRecDepth 20000 in
theorem gX7_duke_X7_isPlace : GoodIn wsX7_duke (va_wsS RX7 100 yX7_isPlace wsX7_isPlace) := goodIn_app (goodIn_sub (cz_c (List.mem_cons_of_mem _ (List.mem_append_left _ (List.mem_of_getElem? (i := 3) rfl))) (cz_c (List.mem_cons_of_mem _ (List.mem_append_left _ (List.mem_of_getElem? (i := 4) rfl))) (cz_c (List.mem_cons_of_mem _ (List.mem_append_left _ (List.mem_of_getElem? (i := 5) rfl))) cz_n))) (by decide +kernel)) ggX7_duke_X7_isPlace
set_option maxRecDepth 20000 in
theorem ggX7_duke_X7_within : GoodIn wsX7_duke wsX7_within := goodIn_sub (cz_c (List.mem_cons_of_mem _ (List.mem_append_left _ (List.mem_of_getElem? (i := 9) rfl))) cz_n) (by decide +kernel)
set_option maxRecDepth 20000 in
theorem gX7_duke_X7_within : GoodIn wsX7_duke (va_wsS RX7 57 yX7_within wsX7_within) := goodIn_app (goodIn_sub (cz_c (List.mem_cons_of_mem _ (List.mem_append_left _ (List.mem_of_getElem? (i := 7) rfl))) (cz_c (List.mem_cons_of_mem _ (List.mem_append_left _ (List.mem_of_getElem? (i := 8) rfl))) (cz_c (List.mem_cons_of_mem _ (List.mem_append_left _ (List.mem_of_getElem? (i := 5) rfl))) cz_n))) (by decide +kernel)) ggX7_duke_X7_within
set_option maxRecDepth 20000 in
theorem ggX7_duke_X7_isEmpty : GoodIn wsX7_duke wsX7_isEmpty := goodIn_sub (cz_c (List.mem_cons_of_mem _ (List.mem_append_left _ (List.mem_of_getElem? (i := 13) rfl))) (cz_a (cz_c (List.mem_cons_of_mem _ (List.mem_append_left _ (List.mem_of_getElem? (i := 14) rfl))) (cz_c (List.mem_cons_of_mem _ (List.mem_append_left _ (List.mem_of_getElem? (i := 15) rfl))) (cz_c (List.mem_cons_of_mem _ (List.mem_append_left _ (List.mem_of_getElem? (i := 16) rfl))) (cz_c (List.mem_cons_of_mem _ (List.mem_append_left _ (List.mem_of_getElem? (i := 5) rfl))) (cz_c (List.mem_cons_of_mem _ (List.mem_append_left _ (List.mem_of_getElem? (i := 17) rfl))) (cz_c (List.mem_cons_of_mem _ (List.mem_append_left _ (List.mem_of_getElem? (i := 18) rfl))) (cz_c (List.mem_cons_of_mem _ (List.mem_append_left _ (List.mem_of_getElem? (i := 19) rfl))) (cz_c (List.mem_cons_of_mem _ (List.mem_append_left _ (List.mem_of_getElem? (i := 20) rfl))) (cz_c (List.mem_cons_of_mem _ (List.mem_append_left _ (List.mem_of_getElem? (i := 21) rfl))) (cz_c (List.mem_cons_of_mem _ (List.mem_append_left _ (List.mem_of_getElem? (i := 1) rfl))) (cz_c (List.mem_cons_of_mem _ (List.mem_append_left _ (List.mem_of_getElem? (i := 22) rfl))) (cz_c (List.mem_cons_of_mem _ (List.mem_append_left _ (List.mem_of_getElem? (i := 23) rfl))) cz_n)))))))))))) (fun _ h => List.mem_cons_of_mem _ (List.mem_append_right _ h)))) (by decide +kernel)
set_option maxRecDepth 20000 in
theorem gX7_duke_X7_isEmpty : GoodIn wsX7_duke (wsV RX7 107 RX7 yX7_isEmpty wsX7_isEmpty) := goodIn_app (goodIn_sub (cz_c (List.mem_cons_of_mem _ (List.mem_append_left _ (List.mem_of_getElem? (i := 10) rfl))) (cz_c (List.mem_cons_of_mem _ (List.mem_append_left _ (List.mem_of_getElem? (i := 11) rfl))) (cz_c (List.mem_cons_of_mem _ (List.mem_append_left _ (List.mem_of_getElem? (i := 12) rfl))) (cz_c (List.mem_cons_of_mem _ (List.mem_append_left _ (List.mem_of_getElem? (i := 5) rfl))) cz_n)))) (by decide +kernel)) ggX7_duke_X7_isEmpty
set_option maxRecDepth 20000 in
theorem ggX7_courtier_X7_isPlace : GoodIn wsX7_courtier wsX7_isPlace := goodIn_sub (cz_c (List.mem_cons_of_mem _ (List.mem_append_left _ (List.mem_append_left _ (List.mem_of_getElem? (i := 5) rfl)))) (cz_c (List.mem_cons_of_mem _ (List.mem_append_left _ (List.mem_append_left _ (List.mem_of_getElem? (i := 6) rfl)))) (cz_c (List.mem_cons_of_mem _ (List.mem_append_left _ (List.mem_append_left _ (List.mem_of_getElem? (i := 7) rfl)))) (cz_c (List.mem_cons_of_mem _ (List.mem_append_left _ (List.mem_append_left _ (List.mem_of_getElem? (i := 4) rfl)))) (cz_c (List.mem_cons_of_mem _ (List.mem_append_left _ (List.mem_append_left _ (List.mem_of_getElem? (i := 8) rfl)))) cz_n))))) (by decide +kernel)
set_option maxRecDepth 20000 in
theorem gX7_courtier_X7_isPlace : GoodIn wsX7_courtier (va_wsS RX7 100 yX7_isPlace wsX7_isPlace) := goodIn_app (goodIn_sub (cz_c (List.mem_cons_of_mem _ (List.mem_append_left _ (List.mem_append_left _ (List.mem_of_getElem? (i := 2) rfl)))) (cz_c (List.mem_cons_of_mem _ (List.mem_append_left _ (List.mem_append_left _ (List.mem_of_getElem? (i := 3) rfl)))) (cz_c (List.mem_cons_of_mem _ (List.mem_append_left _ (List.mem_append_left _ (List.mem_of_getElem? (i := 4) rfl)))) cz_n))) (by decide +kernel)) ggX7_courtier_X7_isPlace
set_option maxRecDepth 20000 in
theorem ggX7_courtier_X7_within : GoodIn wsX7_courtier wsX7_within := goodIn_sub (cz_c (List.mem_cons_of_mem _ (List.mem_append_left _ (List.mem_append_left _ (List.mem_of_getElem? (i := 8) rfl)))) cz_n) (by decide +kernel)
set_option maxRecDepth 20000 in
theorem gX7_courtier_X7_within : GoodIn wsX7_courtier (va_wsS RX7 57 yX7_within wsX7_within) := goodIn_app (goodIn_sub (cz_c (List.mem_cons_of_mem _ (List.mem_append_left _ (List.mem_append_left _ (List.mem_of_getElem? (i := 6) rfl)))) (cz_c (List.mem_cons_of_mem _ (List.mem_append_left _ (List.mem_append_left _ (List.mem_of_getElem? (i := 7) rfl)))) (cz_c (List.mem_cons_of_mem _ (List.mem_append_left _ (List.mem_append_left _ (List.mem_of_getElem? (i := 4) rfl)))) cz_n))) (by decide +kernel)) ggX7_courtier_X7_within
set_option maxRecDepth 20000 in
theorem ggX7_courtier_X7_isEmpty : GoodIn wsX7_courtier wsX7_isEmpty := goodIn_sub (cz_c (List.mem_cons_of_mem _ (List.mem_append_left _ (List.mem_append_left _ (List.mem_of_getElem? (i := 12) rfl)))) (cz_a (cz_c (List.mem_cons_of_mem _ (List.mem_append_left _ (List.mem_append_left _ (List.mem_of_getElem? (i := 13) rfl)))) (cz_c (List.mem_cons_of_mem _ (List.mem_append_left _ (List.mem_append_left _ (List.mem_of_getElem? (i := 14) rfl)))) (cz_c (List.mem_cons_of_mem _ (List.mem_append_left _ (List.mem_append_left _ (List.mem_of_getElem? (i := 15) rfl)))) (cz_c (List.mem_cons_of_mem _ (List.mem_append_left _ (List.mem_append_left _ (List.mem_of_getElem? (i := 4) rfl)))) (cz_c (List.mem_cons_of_mem _ (List.mem_append_left _ (List.mem_append_left _ (List.mem_of_getElem? (i := 16) rfl)))) (cz_c (List.mem_cons_of_mem _ (List.mem_append_left _ (List.mem_append_left _ (List.mem_of_getElem? (i := 17) rfl)))) (cz_c (List.mem_cons_of_mem _ (List.mem_append_left _ (List.mem_append_left _ (List.mem_of_getElem? (i := 18) rfl)))) (cz_c (List.mem_cons_of_mem _ (List.mem_append_left _ (List.mem_append_left _ (List.mem_of_getElem? (i := 19) rfl)))) (cz_c (List.mem_cons_of_mem _ (List.mem_append_left _ (List.mem_append_left _ (List.mem_of_getElem? (i := 20) rfl)))) (cz_c (List.mem_cons_of_mem _ (List.mem_append_left _ (List.mem_append_left _ (List.mem_of_getElem? (i := 21) rfl)))) (cz_c (List.mem_cons_of_mem _ (List.mem_append_left _ (List.mem_append_left _ (List.mem_of_getElem? (i := 1) rfl)))) (cz_c (List.mem_cons_of_mem _ (List.mem_append_left _ (List.mem_append_left _ (List.mem_of_getElem? (i := 22) rfl)))) cz_n)))))))))))) (fun _ h => List.mem_cons_of_mem _ (List.mem_append_right _ h)))) (by decide +kernel)
set_option maxRecDepth 20000 in
theorem gX7_courtier_X7_isEmpty : GoodIn wsX7_courtier (wsV RX7 107 RX7 yX7_isEmpty wsX7_isEmpty) := goodIn_app (goodIn_sub (cz_c (List.mem_cons_of_mem _ (List.mem_append_left _ (List.mem_append_left _ (List.mem_of_getElem? (i := 9) rfl)))) (cz_c (List.mem_cons_of_mem _ (List.mem_append_left _ (List.mem_append_left _ (List.mem_of_getElem? (i := 10) rfl)))) (cz_c (List.mem_cons_of_mem _ (List.mem_append_left _ (List.mem_append_left _ (List.mem_of_getElem? (i := 11) rfl)))) (cz_c (List.mem_cons_of_mem _ (List.mem_append_left _ (List.mem_append_left _ (List.mem_of_getElem? (i := 4) rfl)))) cz_n)))) (by decide +kernel)) ggX7_courtier_X7_isEmpty
set_option maxRecDepth 20000 in
theorem ggX7_courtier_X7_lay : GoodIn wsX7_courtier wsX7_lay := goodIn_sub (cz_c (List.mem_cons_of_mem _ (List.mem_append_left _ (List.mem_append_right _ (List.mem_of_getElem? (i := 2) rfl)))) (cz_a (cz_c (List.mem_cons_of_mem _ (List.mem_append_left _ (List.mem_append_right _ (List.mem_of_getElem? (i := 3) rfl)))) (cz_c (List.mem_cons_of_mem _ (List.mem_append_left _ (List.mem_append_left _ (List.mem_of_getElem? (i := 1) rfl)))) (cz_c (List.mem_cons_of_mem _ (List.mem_append_left _ (List.mem_append_left _ (List.mem_of_getElem? (i := 22) rfl)))) (cz_c (List.mem_cons_of_mem _ (List.mem_append_left _ (List.mem_append_right _ (List.mem_of_getElem? (i := 4) rfl)))) (cz_c (List.mem_cons_of_mem _ (List.mem_append_left _ (List.mem_append_right _ (List.mem_of_getElem? (i := 5) rfl)))) (cz_c (List.mem_cons_of_mem _ (List.mem_append_left _ (List.mem_append_right _ (List.mem_of_getElem? (i := 6) rfl)))) cz_n)))))) (fun _ h => List.mem_cons_of_mem _ (List.mem_append_right _ h)))) (by decide +kernel)
set_option maxRecDepth 20000 in
theorem gX7_courtier_X7_lay : GoodIn wsX7_courtier (wsV RX7 110 RX7 yX7_lay wsX7_lay) := goodIn_app (goodIn_sub (cz_c (List.mem_cons_of_mem _ (List.mem_append_left _ (List.mem_append_left _ (List.mem_of_getElem? (i := 23) rfl)))) (cz_c (List.mem_cons_of_mem _ (List.mem_append_left _ (List.mem_append_right _ (List.mem_of_getElem? (i := 0) rfl)))) (cz_c (List.mem_cons_of_mem _ (List.mem_append_left _ (List.mem_append_right _ (List.mem_of_getElem? (i := 1) rfl)))) (cz_c (List.mem_cons_of_mem _ (List.mem_append_left _ (List.mem_append_left _ (List.mem_of_getElem? (i := 4) rfl)))) cz_n)))) (by decide +kernel)) ggX7_courtier_X7_lay
set_option maxRecDepth 20000 in
theorem ggX7_isCourtier_X7_within : GoodIn wsX7_isCourtier wsX7_within := goodIn_sub (cz_c (List.mem_cons_of_mem _ (List.mem_append_left _ (List.mem_of_getElem? (i := 4) rfl))) cz_n) (by decide +kernel)
set_option maxRecDepth 20000 in
theorem gX7_isCourtier_X7_within : GoodIn wsX7_isCourtier (va_wsS RX7 57 yX7_within wsX7_within) := goodIn_app (goodIn_sub (cz_c (List.mem_cons_of_mem _ (List.mem_append_left _ (List.mem_of_getElem? (i := 1) rfl))) (cz_c (List.mem_cons_of_mem _ (List.mem_append_left _ (List.mem_of_getElem? (i := 2) rfl))) (cz_c (List.mem_cons_of_mem _ (List.mem_append_left _ (List.mem_of_getElem? (i := 3) rfl))) cz_n))) (by decide +kernel)) ggX7_isCourtier_X7_within
set_option maxRecDepth 20000 in
theorem ggX7_wayTo_X7_sized : GoodIn wsX7_wayTo wsX7_sized := goodIn_sub (cz_c (List.mem_cons_of_mem _ (List.mem_of_getElem? (i := 3) rfl)) cz_n) (by decide +kernel)
set_option maxRecDepth 20000 in
theorem gX7_wayTo_X7_sized : GoodIn wsX7_wayTo (va_wsS RX7 114 yX7_sized wsX7_sized) := goodIn_app (goodIn_sub (cz_c (List.mem_cons_of_mem _ (List.mem_of_getElem? (i := 0) rfl)) (cz_c (List.mem_cons_of_mem _ (List.mem_of_getElem? (i := 1) rfl)) (cz_c (List.mem_cons_of_mem _ (List.mem_of_getElem? (i := 2) rfl)) cz_n))) (by decide +kernel)) ggX7_wayTo_X7_sized
set_option maxRecDepth 20000 in
theorem ggX7_wayTo_X7_sign : GoodIn wsX7_wayTo wsX7_sign := goodIn_sub (cz_c (List.mem_cons_of_mem _ (List.mem_of_getElem? (i := 6) rfl)) cz_n) (by decide +kernel)
set_option maxRecDepth 20000 in
theorem gX7_wayTo_X7_sign : GoodIn wsX7_wayTo (va_wsS RX7 117 yX7_sign wsX7_sign) := goodIn_app (goodIn_sub (cz_c (List.mem_cons_of_mem _ (List.mem_of_getElem? (i := 4) rfl)) (cz_c (List.mem_cons_of_mem _ (List.mem_of_getElem? (i := 5) rfl)) (cz_c (List.mem_cons_of_mem _ (List.mem_of_getElem? (i := 2) rfl)) cz_n))) (by decide +kernel)) ggX7_wayTo_X7_sign
set_option maxRecDepth 20000 in
theorem ggX7_far_X7_sized : GoodIn wsX7_far wsX7_sized := goodIn_sub (cz_c (List.mem_cons_of_mem _ (List.mem_of_getElem? (i := 3) rfl)) cz_n) (by decide +kernel)
set_option maxRecDepth 20000 in
theorem gX7_far_X7_sized : GoodIn wsX7_far (va_wsS RX7 114 yX7_sized wsX7_sized) := goodIn_app (goodIn_sub (cz_c (List.mem_cons_of_mem _ (List.mem_of_getElem? (i := 0) rfl)) (cz_c (List.mem_cons_of_mem _ (List.mem_of_getElem? (i := 1) rfl)) (cz_c (List.mem_cons_of_mem _ (List.mem_of_getElem? (i := 2) rfl)) cz_n))) (by decide +kernel)) ggX7_far_X7_sized
set_option maxRecDepth 20000 in
theorem ggX7_isClear_X7_sign : GoodIn wsX7_isClear wsX7_sign := goodIn_sub (cz_c (List.mem_cons_of_mem _ (List.mem_append_left _ (List.mem_of_getElem? (i := 4) rfl))) cz_n) (by decide +kernel)
set_option maxRecDepth 20000 in
theorem gX7_isClear_X7_sign : GoodIn wsX7_isClear (va_wsS RX7 117 yX7_sign wsX7_sign) := goodIn_app (goodIn_sub (cz_c (List.mem_cons_of_mem _ (List.mem_append_left _ (List.mem_of_getElem? (i := 1) rfl))) (cz_c (List.mem_cons_of_mem _ (List.mem_append_left _ (List.mem_of_getElem? (i := 2) rfl))) (cz_c (List.mem_cons_of_mem _ (List.mem_append_left _ (List.mem_of_getElem? (i := 3) rfl))) cz_n))) (by decide +kernel)) ggX7_isClear_X7_sign
set_option maxRecDepth 20000 in
theorem ggX7_isClear_X7_has : GoodIn wsX7_isClear wsX7_has := goodIn_sub (cz_c (List.mem_cons_of_mem _ (List.mem_append_left _ (List.mem_of_getElem? (i := 7) rfl))) cz_n) (by decide +kernel)
set_option maxRecDepth 20000 in
theorem gX7_isClear_X7_has : GoodIn wsX7_isClear (va_wsS RX7 93 yX7_has wsX7_has) := goodIn_app (goodIn_sub (cz_c (List.mem_cons_of_mem _ (List.mem_append_left _ (List.mem_of_getElem? (i := 5) rfl))) (cz_c (List.mem_cons_of_mem _ (List.mem_append_left _ (List.mem_of_getElem? (i := 6) rfl))) (cz_c (List.mem_cons_of_mem _ (List.mem_append_left _ (List.mem_of_getElem? (i := 3) rfl))) cz_n))) (by decide +kernel)) ggX7_isClear_X7_has
set_option maxRecDepth 20000 in
theorem ggX7_isClear_X7_whoOn : GoodIn wsX7_isClear wsX7_whoOn := goodIn_sub (cz_c (List.mem_cons_of_mem _ (List.mem_append_left _ (List.mem_of_getElem? (i := 11) rfl))) (cz_a (cz_c (List.mem_cons_of_mem _ (List.mem_append_left _ (List.mem_of_getElem? (i := 12) rfl))) (cz_c (List.mem_cons_of_mem _ (List.mem_append_left _ (List.mem_of_getElem? (i := 13) rfl))) (cz_c (List.mem_cons_of_mem _ (List.mem_append_left _ (List.mem_of_getElem? (i := 14) rfl))) cz_n))) (fun _ h => List.mem_cons_of_mem _ (List.mem_append_right _ h)))) (by decide +kernel)
set_option maxRecDepth 20000 in
theorem gX7_isClear_X7_whoOn : GoodIn wsX7_isClear (wsV RX7 97 RX7 yX7_whoOn wsX7_whoOn) := goodIn_app (goodIn_sub (cz_c (List.mem_cons_of_mem _ (List.mem_append_left _ (List.mem_of_getElem? (i := 8) rfl))) (cz_c (List.mem_cons_of_mem _ (List.mem_append_left _ (List.mem_of_getElem? (i := 9) rfl))) (cz_c (List.mem_cons_of_mem _ (List.mem_append_left _ (List.mem_of_getElem? (i := 10) rfl))) (cz_c (List.mem_cons_of_mem _ (List.mem_append_left _ (List.mem_of_getElem? (i := 3) rfl))) cz_n)))) (by decide +kernel)) ggX7_isClear_X7_whoOn
set_option maxRecDepth 20000 in
theorem ggX7_seesNow_X7_wayTo : GoodIn wsX7_seesNow wsX7_wayTo := goodIn_sub (cz_c (List.mem_cons_of_mem _ (List.mem_append_left _ (List.mem_append_left _ (List.mem_of_getElem? (i := 7) rfl)))) (cz_c (List.mem_cons_of_mem _ (List.mem_append_left _ (List.mem_append_left _ (List.mem_of_getElem? (i := 8) rfl)))) (cz_c (List.mem_cons_of_mem _ (List.mem_append_left _ (List.mem_append_left _ (List.mem_of_getElem? (i := 9) rfl)))) (cz_c (List.mem_cons_of_mem _ (List.mem_append_left _ (List.mem_append_left _ (List.mem_of_getElem? (i := 6) rfl)))) (cz_c (List.mem_cons_of_mem _ (List.mem_append_left _ (List.mem_append_left _ (List.mem_of_getElem? (i := 10) rfl)))) (cz_c (List.mem_cons_of_mem _ (List.mem_append_left _ (List.mem_append_left _ (List.mem_of_getElem? (i := 11) rfl)))) (cz_c (List.mem_cons_of_mem _ (List.mem_append_left _ (List.mem_append_left _ (List.mem_of_getElem? (i := 12) rfl)))) (cz_c (List.mem_cons_of_mem _ (List.mem_append_left _ (List.mem_append_left _ (List.mem_of_getElem? (i := 13) rfl)))) cz_n)))))))) (by decide +kernel)
set_option maxRecDepth 20000 in
theorem gX7_seesNow_X7_wayTo : GoodIn wsX7_seesNow (va_wsS RX7 120 yX7_wayTo wsX7_wayTo) := goodIn_app (goodIn_sub (cz_c (List.mem_cons_of_mem _ (List.mem_append_left _ (List.mem_append_left _ (List.mem_of_getElem? (i := 4) rfl)))) (cz_c (List.mem_cons_of_mem _ (List.mem_append_left _ (List.mem_append_left _ (List.mem_of_getElem? (i := 5) rfl)))) (cz_c (List.mem_cons_of_mem _ (List.mem_append_left _ (List.mem_append_left _ (List.mem_of_getElem? (i := 6) rfl)))) cz_n))) (by decide +kernel)) ggX7_seesNow_X7_wayTo
set_option maxRecDepth 20000 in
theorem ggX7_seesNow_X7_far : GoodIn wsX7_seesNow wsX7_far := goodIn_sub (cz_c (List.mem_cons_of_mem _ (List.mem_append_left _ (List.mem_append_left _ (List.mem_of_getElem? (i := 16) rfl)))) (cz_c (List.mem_cons_of_mem _ (List.mem_append_left _ (List.mem_append_left _ (List.mem_of_getElem? (i := 8) rfl)))) (cz_c (List.mem_cons_of_mem _ (List.mem_append_left _ (List.mem_append_left _ (List.mem_of_getElem? (i := 9) rfl)))) (cz_c (List.mem_cons_of_mem _ (List.mem_append_left _ (List.mem_append_left _ (List.mem_of_getElem? (i := 6) rfl)))) (cz_c (List.mem_cons_of_mem _ (List.mem_append_left _ (List.mem_append_left _ (List.mem_of_getElem? (i := 10) rfl)))) cz_n))))) (by decide +kernel)
set_option maxRecDepth 20000 in
theorem gX7_seesNow_X7_far : GoodIn wsX7_seesNow (va_wsS RX7 124 yX7_far wsX7_far) := goodIn_app (goodIn_sub (cz_c (List.mem_cons_of_mem _ (List.mem_append_left _ (List.mem_append_left _ (List.mem_of_getElem? (i := 14) rfl)))) (cz_c (List.mem_cons_of_mem _ (List.mem_append_left _ (List.mem_append_left _ (List.mem_of_getElem? (i := 15) rfl)))) (cz_c (List.mem_cons_of_mem _ (List.mem_append_left _ (List.mem_append_left _ (List.mem_of_getElem? (i := 6) rfl)))) cz_n))) (by decide +kernel)) ggX7_seesNow_X7_far
set_option maxRecDepth 20000 in
theorem ggX7_seesNow_X7_isClear : GoodIn wsX7_seesNow wsX7_isClear := goodIn_sub (cz_c (List.mem_cons_of_mem _ (List.mem_append_left _ (List.mem_append_left _ (List.mem_of_getElem? (i := 20) rfl)))) (cz_a (cz_c (List.mem_cons_of_mem _ (List.mem_append_left _ (List.mem_append_left _ (List.mem_of_getElem? (i := 21) rfl)))) (cz_c (List.mem_cons_of_mem _ (List.mem_append_left _ (List.mem_append_left _ (List.mem_of_getElem? (i := 11) rfl)))) (cz_c (List.mem_cons_of_mem _ (List.mem_append_left _ (List.mem_append_left _ (List.mem_of_getElem? (i := 12) rfl)))) (cz_c (List.mem_cons_of_mem _ (List.mem_append_left _ (List.mem_append_left _ (List.mem_of_getElem? (i := 6) rfl)))) (cz_c (List.mem_cons_of_mem _ (List.mem_append_left _ (List.mem_append_left _ (List.mem_of_getElem? (i := 13) rfl)))) (cz_c (List.mem_cons_of_mem _ (List.mem_append_left _ (List.mem_append_left _ (List.mem_of_getElem? (i := 22) rfl)))) (cz_c (List.mem_cons_of_mem _ (List.mem_append_left _ (List.mem_append_left _ (List.mem_of_getElem? (i := 23) rfl)))) (cz_c (List.mem_cons_of_mem _ (List.mem_append_left _ (List.mem_append_right _ (List.mem_of_getElem? (i := 0) rfl)))) (cz_c (List.mem_cons_of_mem _ (List.mem_append_left _ (List.mem_append_right _ (List.mem_of_getElem? (i := 1) rfl)))) (cz_c (List.mem_cons_of_mem _ (List.mem_append_left _ (List.mem_append_right _ (List.mem_of_getElem? (i := 2) rfl)))) (cz_c (List.mem_cons_of_mem _ (List.mem_append_left _ (List.mem_append_right _ (List.mem_of_getElem? (i := 3) rfl)))) (cz_c (List.mem_cons_of_mem _ (List.mem_append_left _ (List.mem_append_right _ (List.mem_of_getElem? (i := 4) rfl)))) (cz_c (List.mem_cons_of_mem _ (List.mem_append_left _ (List.mem_append_left _ (List.mem_of_getElem? (i := 0) rfl)))) (cz_c (List.mem_cons_of_mem _ (List.mem_append_left _ (List.mem_append_right _ (List.mem_of_getElem? (i := 5) rfl)))) (cz_c (List.mem_cons_of_mem _ (List.mem_append_left _ (List.mem_append_left _ (List.mem_of_getElem? (i := 1) rfl)))) cz_n))))))))))))))) (fun _ h => List.mem_cons_of_mem _ (List.mem_append_right _ h)))) (by decide +kernel)
set_option maxRecDepth 20000 in
theorem gX7_seesNow_X7_isClear : GoodIn wsX7_seesNow (wsV RX7 127 RX7 yX7_isClear wsX7_isClear) := goodIn_app (goodIn_sub (cz_c (List.mem_cons_of_mem _ (List.mem_append_left _ (List.mem_append_left _ (List.mem_of_getElem? (i := 17) rfl)))) (cz_c (List.mem_cons_of_mem _ (List.mem_append_left _ (List.mem_append_left _ (List.mem_of_getElem? (i := 18) rfl)))) (cz_c (List.mem_cons_of_mem _ (List.mem_append_left _ (List.mem_append_left _ (List.mem_of_getElem? (i := 19) rfl)))) (cz_c (List.mem_cons_of_mem _ (List.mem_append_left _ (List.mem_append_left _ (List.mem_of_getElem? (i := 6) rfl)))) cz_n)))) (by decide +kernel)) ggX7_seesNow_X7_isClear
set_option maxRecDepth 20000 in
theorem cz_m_X7_isGuilty_wsX7_seesNow_r1 : ∀ w ∈ wsX7_seesNow_r1, w ∈ wsX7_isGuilty := (cz_c (List.mem_cons_of_mem _ (List.mem_append_left _ (List.mem_append_left _ (List.mem_of_getElem? (i := 6) rfl)))) (cz_c (List.mem_cons_of_mem _ (List.mem_append_left _ (List.mem_append_left _ (List.mem_of_getElem? (i := 7) rfl)))) (cz_c (List.mem_cons_of_mem _ (List.mem_append_left _ (List.mem_append_left _ (List.mem_of_getElem? (i := 0) rfl)))) (cz_c (List.mem_cons_of_mem _ (List.mem_append_left _ (List.mem_append_left _ (List.mem_of_getElem? (i := 8) rfl)))) (cz_c (List.mem_cons_of_mem _ (List.mem_append_left _ (List.mem_append_left _ (List.mem_of_getElem? (i := 9) rfl)))) (cz_c (List.mem_cons_of_mem _ (List.mem_append_left _ (List.mem_append_left _ (List.mem_of_getElem? (i := 10) rfl)))) (cz_c (List.mem_cons_of_mem _ (List.mem_append_left _ (List.mem_append_left _ (List.mem_of_getElem? (i := 4) rfl)))) (cz_c (List.mem_cons_of_mem _ (List.mem_append_left _ (List.mem_append_left _ (List.mem_of_getElem? (i := 11) rfl)))) (cz_c (List.mem_cons_of_mem _ (List.mem_append_left _ (List.mem_append_left _ (List.mem_of_getElem? (i := 12) rfl)))) (cz_c (List.mem_cons_of_mem _ (List.mem_append_left _ (List.mem_append_left _ (List.mem_of_getElem? (i := 13) rfl)))) (cz_c (List.mem_cons_of_mem _ (List.mem_append_left _ (List.mem_append_left _ (List.mem_of_getElem? (i := 14) rfl)))) (cz_c (List.mem_cons_of_mem _ (List.mem_append_left _ (List.mem_append_left _ (List.mem_of_getElem? (i := 15) rfl)))) (cz_c (List.mem_cons_of_mem _ (List.mem_append_left _ (List.mem_append_left _ (List.mem_of_getElem? (i := 16) rfl)))) (cz_c (List.mem_cons_of_mem _ (List.mem_append_left _ (List.mem_append_left _ (List.mem_of_getElem? (i := 17) rfl)))) (cz_c (List.mem_cons_of_mem _ (List.mem_append_left _ (List.mem_append_left _ (List.mem_of_getElem? (i := 18) rfl)))) (cz_c (List.mem_cons_of_mem _ (List.mem_append_left _ (List.mem_append_left _ (List.mem_of_getElem? (i := 19) rfl)))) (cz_c (List.mem_cons_of_mem _ (List.mem_append_left _ (List.mem_append_left _ (List.mem_of_getElem? (i := 20) rfl)))) (cz_c (List.mem_cons_of_mem _ (List.mem_append_left _ (List.mem_append_left _ (List.mem_of_getElem? (i := 21) rfl)))) (cz_c (List.mem_cons_of_mem _ (List.mem_append_left _ (List.mem_append_left _ (List.mem_of_getElem? (i := 22) rfl)))) (cz_c (List.mem_cons_of_mem _ (List.mem_append_left _ (List.mem_append_left _ (List.mem_of_getElem? (i := 23) rfl)))) (cz_c (List.mem_cons_of_mem _ (List.mem_append_left _ (List.mem_append_right _ (List.mem_of_getElem? (i := 0) rfl)))) (cz_c (List.mem_cons_of_mem _ (List.mem_append_left _ (List.mem_append_right _ (List.mem_of_getElem? (i := 1) rfl)))) (cz_c (List.mem_cons_of_mem _ (List.mem_append_left _ (List.mem_append_right _ (List.mem_of_getElem? (i := 2) rfl)))) (cz_c (List.mem_cons_of_mem _ (List.mem_append_left _ (List.mem_append_right _ (List.mem_of_getElem? (i := 3) rfl)))) cz_n))))))))))))))))))))))))
set_option maxRecDepth 20000 in
theorem cz_m_X7_isGuilty_wsX7_seesNow_r2 : ∀ w ∈ wsX7_seesNow_r2, w ∈ wsX7_isGuilty := (cz_c (List.mem_cons_of_mem _ (List.mem_append_left _ (List.mem_append_right _ (List.mem_of_getElem? (i := 4) rfl)))) (cz_c (List.mem_cons_of_mem _ (List.mem_append_left _ (List.mem_append_right _ (List.mem_of_getElem? (i := 5) rfl)))) (cz_c (List.mem_cons_of_mem _ (List.mem_append_left _ (List.mem_append_right _ (List.mem_of_getElem? (i := 6) rfl)))) (cz_c (List.mem_cons_of_mem _ (List.mem_append_left _ (List.mem_append_right _ (List.mem_of_getElem? (i := 7) rfl)))) (cz_c (List.mem_cons_of_mem _ (List.mem_append_left _ (List.mem_append_right _ (List.mem_of_getElem? (i := 8) rfl)))) (cz_c (List.mem_cons_of_mem _ (List.mem_append_left _ (List.mem_append_right _ (List.mem_of_getElem? (i := 9) rfl)))) cz_n))))))
set_option maxRecDepth 20000 in
theorem ggX7_isGuilty_X7_seesNow : GoodIn wsX7_isGuilty wsX7_seesNow := goodIn_sub (cz_c (List.mem_cons_of_mem _ (List.mem_append_left _ (List.mem_append_left _ (List.mem_of_getElem? (i := 5) rfl)))) (cz_a (cz_a cz_m_X7_isGuilty_wsX7_seesNow_r1 cz_m_X7_isGuilty_wsX7_seesNow_r2) (fun _ h => List.mem_cons_of_mem _ (List.mem_append_right _ h)))) (by decide +kernel)
set_option maxRecDepth 20000 in
theorem gX7_isGuilty_X7_seesNow : GoodIn wsX7_isGuilty (wsV RX7 131 RX7 yX7_seesNow wsX7_seesNow) := goodIn_app (goodIn_sub (cz_c (List.mem_cons_of_mem _ (List.mem_append_left _ (List.mem_append_left _ (List.mem_of_getElem? (i := 1) rfl)))) (cz_c (List.mem_cons_of_mem _ (List.mem_append_left _ (List.mem_append_left _ (List.mem_of_getElem? (i := 2) rfl)))) (cz_c (List.mem_cons_of_mem _ (List.mem_append_left _ (List.mem_append_left _ (List.mem_of_getElem? (i := 3) rfl)))) (cz_c (List.mem_cons_of_mem _ (List.mem_append_left _ (List.mem_append_left _ (List.mem_of_getElem? (i := 4) rfl)))) cz_n)))) (by decide +kernel)) ggX7_isGuilty_X7_seesNow
set_option maxRecDepth 20000 in
theorem cz_m_X7_guiltySet_wsX7_isGuilty_r1 : ∀ w ∈ wsX7_isGuilty_r1, w ∈ wsX7_guiltySet := (cz_c (List.mem_cons_of_mem _ (List.mem_append_left _ (List.mem_append_left _ (List.mem_of_getElem? (i := 6) rfl)))) (cz_c (List.mem_cons_of_mem _ (List.mem_append_left _ (List.mem_append_left _ (List.mem_of_getElem? (i := 7) rfl)))) (cz_c (List.mem_cons_of_mem _ (List.mem_append_left _ (List.mem_append_left _ (List.mem_of_getElem? (i := 8) rfl)))) (cz_c (List.mem_cons_of_mem _ (List.mem_append_left _ (List.mem_append_left _ (List.mem_of_getElem? (i := 9) rfl)))) (cz_c (List.mem_cons_of_mem _ (List.mem_append_left _ (List.mem_append_left _ (List.mem_of_getElem? (i := 4) rfl)))) (cz_c (List.mem_cons_of_mem _ (List.mem_append_left _ (List.mem_append_left _ (List.mem_of_getElem? (i := 10) rfl)))) (cz_c (List.mem_cons_of_mem _ (List.mem_append_left _ (List.mem_append_left _ (List.mem_of_getElem? (i := 11) rfl)))) (cz_c (List.mem_cons_of_mem _ (List.mem_append_left _ (List.mem_append_left _ (List.mem_of_getElem? (i := 12) rfl)))) (cz_c (List.mem_cons_of_mem _ (List.mem_append_left _ (List.mem_append_left _ (List.mem_of_getElem? (i := 13) rfl)))) (cz_c (List.mem_cons_of_mem _ (List.mem_append_left _ (List.mem_append_left _ (List.mem_of_getElem? (i := 14) rfl)))) (cz_c (List.mem_cons_of_mem _ (List.mem_append_left _ (List.mem_append_left _ (List.mem_of_getElem? (i := 15) rfl)))) (cz_c (List.mem_cons_of_mem _ (List.mem_append_left _ (List.mem_append_left _ (List.mem_of_getElem? (i := 16) rfl)))) (cz_c (List.mem_cons_of_mem _ (List.mem_append_left _ (List.mem_append_left _ (List.mem_of_getElem? (i := 17) rfl)))) (cz_c (List.mem_cons_of_mem _ (List.mem_append_left _ (List.mem_append_left _ (List.mem_of_getElem? (i := 18) rfl)))) (cz_c (List.mem_cons_of_mem _ (List.mem_append_left _ (List.mem_append_left _ (List.mem_of_getElem? (i := 19) rfl)))) (cz_c (List.mem_cons_of_mem _ (List.mem_append_left _ (List.mem_append_left _ (List.mem_of_getElem? (i := 20) rfl)))) (cz_c (List.mem_cons_of_mem _ (List.mem_append_left _ (List.mem_append_left _ (List.mem_of_getElem? (i := 21) rfl)))) (cz_c (List.mem_cons_of_mem _ (List.mem_append_left _ (List.mem_append_left _ (List.mem_of_getElem? (i := 22) rfl)))) (cz_c (List.mem_cons_of_mem _ (List.mem_append_left _ (List.mem_append_left _ (List.mem_of_getElem? (i := 23) rfl)))) (cz_c (List.mem_cons_of_mem _ (List.mem_append_left _ (List.mem_append_right _ (List.mem_of_getElem? (i := 0) rfl)))) (cz_c (List.mem_cons_of_mem _ (List.mem_append_left _ (List.mem_append_right _ (List.mem_of_getElem? (i := 1) rfl)))) (cz_c (List.mem_cons_of_mem _ (List.mem_append_left _ (List.mem_append_right _ (List.mem_of_getElem? (i := 2) rfl)))) (cz_c (List.mem_cons_of_mem _ (List.mem_append_left _ (List.mem_append_right _ (List.mem_of_getElem? (i := 3) rfl)))) (cz_c (List.mem_cons_of_mem _ (List.mem_append_left _ (List.mem_append_right _ (List.mem_of_getElem? (i := 4) rfl)))) cz_n))))))))))))))))))))))))
set_option maxRecDepth 20000 in
theorem cz_m_X7_guiltySet_wsX7_isGuilty_r2 : ∀ w ∈ wsX7_isGuilty_r2, w ∈ wsX7_guiltySet := (cz_c (List.mem_cons_of_mem _ (List.mem_append_left _ (List.mem_append_right _ (List.mem_of_getElem? (i := 5) rfl)))) (cz_c (List.mem_cons_of_mem _ (List.mem_append_left _ (List.mem_append_right _ (List.mem_of_getElem? (i := 6) rfl)))) (cz_c (List.mem_cons_of_mem _ (List.mem_append_left _ (List.mem_append_right _ (List.mem_of_getElem? (i := 7) rfl)))) (cz_c (List.mem_cons_of_mem _ (List.mem_append_left _ (List.mem_append_right _ (List.mem_of_getElem? (i := 8) rfl)))) (cz_c (List.mem_cons_of_mem _ (List.mem_append_left _ (List.mem_append_right _ (List.mem_of_getElem? (i := 9) rfl)))) (cz_c (List.mem_cons_of_mem _ (List.mem_append_left _ (List.mem_append_right _ (List.mem_of_getElem? (i := 10) rfl)))) (cz_c (List.mem_cons_of_mem _ (List.mem_append_left _ (List.mem_append_right _ (List.mem_of_getElem? (i := 11) rfl)))) (cz_c (List.mem_cons_of_mem _ (List.mem_append_left _ (List.mem_append_right _ (List.mem_of_getElem? (i := 12) rfl)))) (cz_c (List.mem_cons_of_mem _ (List.mem_append_left _ (List.mem_append_right _ (List.mem_of_getElem? (i := 13) rfl)))) (cz_c (List.mem_cons_of_mem _ (List.mem_append_left _ (List.mem_append_left _ (List.mem_of_getElem? (i := 0) rfl)))) cz_n))))))))))
set_option maxRecDepth 20000 in
theorem ggX7_guiltySet_X7_isGuilty : GoodIn wsX7_guiltySet wsX7_isGuilty := goodIn_sub (cz_c (List.mem_cons_of_mem _ (List.mem_append_left _ (List.mem_append_left _ (List.mem_of_getElem? (i := 5) rfl)))) (cz_a (cz_a cz_m_X7_guiltySet_wsX7_isGuilty_r1 cz_m_X7_guiltySet_wsX7_isGuilty_r2) (fun _ h => List.mem_cons_of_mem _ (List.mem_append_right _ h)))) (by decide +kernel)
set_option maxRecDepth 20000 in
theorem gX7_guiltySet_X7_isGuilty : GoodIn wsX7_guiltySet (wsV RX7 134 RX7 yX7_isGuilty wsX7_isGuilty) := goodIn_app (goodIn_sub (cz_c (List.mem_cons_of_mem _ (List.mem_append_left _ (List.mem_append_left _ (List.mem_of_getElem? (i := 1) rfl)))) (cz_c (List.mem_cons_of_mem _ (List.mem_append_left _ (List.mem_append_left _ (List.mem_of_getElem? (i := 2) rfl)))) (cz_c (List.mem_cons_of_mem _ (List.mem_append_left _ (List.mem_append_left _ (List.mem_of_getElem? (i := 3) rfl)))) (cz_c (List.mem_cons_of_mem _ (List.mem_append_left _ (List.mem_append_left _ (List.mem_of_getElem? (i := 4) rfl)))) cz_n)))) (by decide +kernel)) ggX7_guiltySet_X7_isGuilty
set_option maxRecDepth 20000 in
theorem cz_m_X7_courtierNow_wsX7_seesNow_r1 : ∀ w ∈ wsX7_seesNow_r1, w ∈ wsX7_courtierNow := (cz_c (List.mem_cons_of_mem _ (List.mem_append_left _ (List.mem_append_left _ (List.mem_of_getElem? (i := 9) rfl)))) (cz_c (List.mem_cons_of_mem _ (List.mem_append_left _ (List.mem_append_left _ (List.mem_of_getElem? (i := 1) rfl)))) (cz_c (List.mem_cons_of_mem _ (List.mem_append_left _ (List.mem_append_left _ (List.mem_of_getElem? (i := 0) rfl)))) (cz_c (List.mem_cons_of_mem _ (List.mem_append_left _ (List.mem_append_left _ (List.mem_of_getElem? (i := 10) rfl)))) (cz_c (List.mem_cons_of_mem _ (List.mem_append_left _ (List.mem_append_left _ (List.mem_of_getElem? (i := 11) rfl)))) (cz_c (List.mem_cons_of_mem _ (List.mem_append_left _ (List.mem_append_left _ (List.mem_of_getElem? (i := 12) rfl)))) (cz_c (List.mem_cons_of_mem _ (List.mem_append_left _ (List.mem_append_left _ (List.mem_of_getElem? (i := 7) rfl)))) (cz_c (List.mem_cons_of_mem _ (List.mem_append_left _ (List.mem_append_left _ (List.mem_of_getElem? (i := 13) rfl)))) (cz_c (List.mem_cons_of_mem _ (List.mem_append_left _ (List.mem_append_left _ (List.mem_of_getElem? (i := 14) rfl)))) (cz_c (List.mem_cons_of_mem _ (List.mem_append_left _ (List.mem_append_left _ (List.mem_of_getElem? (i := 15) rfl)))) (cz_c (List.mem_cons_of_mem _ (List.mem_append_left _ (List.mem_append_left _ (List.mem_of_getElem? (i := 16) rfl)))) (cz_c (List.mem_cons_of_mem _ (List.mem_append_left _ (List.mem_append_left _ (List.mem_of_getElem? (i := 17) rfl)))) (cz_c (List.mem_cons_of_mem _ (List.mem_append_left _ (List.mem_append_left _ (List.mem_of_getElem? (i := 18) rfl)))) (cz_c (List.mem_cons_of_mem _ (List.mem_append_left _ (List.mem_append_left _ (List.mem_of_getElem? (i := 19) rfl)))) (cz_c (List.mem_cons_of_mem _ (List.mem_append_left _ (List.mem_append_left _ (List.mem_of_getElem? (i := 20) rfl)))) (cz_c (List.mem_cons_of_mem _ (List.mem_append_left _ (List.mem_append_left _ (List.mem_of_getElem? (i := 21) rfl)))) (cz_c (List.mem_cons_of_mem _ (List.mem_append_left _ (List.mem_append_left _ (List.mem_of_getElem? (i := 22) rfl)))) (cz_c (List.mem_cons_of_mem _ (List.mem_append_left _ (List.mem_append_left _ (List.mem_of_getElem? (i := 23) rfl)))) (cz_c (List.mem_cons_of_mem _ (List.mem_append_left _ (List.mem_append_right _ (List.mem_of_getElem? (i := 0) rfl)))) (cz_c (List.mem_cons_of_mem _ (List.mem_append_left _ (List.mem_append_right _ (List.mem_of_getElem? (i := 1) rfl)))) (cz_c (List.mem_cons_of_mem _ (List.mem_append_left _ (List.mem_append_right _ (List.mem_of_getElem? (i := 2) rfl)))) (cz_c (List.mem_cons_of_mem _ (List.mem_append_left _ (List.mem_append_right _ (List.mem_of_getElem? (i := 3) rfl)))) (cz_c (List.mem_cons_of_mem _ (List.mem_append_left _ (List.mem_append_right _ (List.mem_of_getElem? (i := 4) rfl)))) (cz_c (List.mem_cons_of_mem _ (List.mem_append_left _ (List.mem_append_right _ (List.mem_of_getElem? (i := 5) rfl)))) cz_n))))))))))))))))))))))))
set_option maxRecDepth 20000 in
theorem cz_m_X7_courtierNow_wsX7_seesNow_r2 : ∀ w ∈ wsX7_seesNow_r2, w ∈ wsX7_courtierNow := (cz_c (List.mem_cons_of_mem _ (List.mem_append_left _ (List.mem_append_right _ (List.mem_of_getElem? (i := 6) rfl)))) (cz_c (List.mem_cons_of_mem _ (List.mem_append_left _ (List.mem_append_right _ (List.mem_of_getElem? (i := 7) rfl)))) (cz_c (List.mem_cons_of_mem _ (List.mem_append_left _ (List.mem_append_right _ (List.mem_of_getElem? (i := 8) rfl)))) (cz_c (List.mem_cons_of_mem _ (List.mem_append_left _ (List.mem_append_right _ (List.mem_of_getElem? (i := 9) rfl)))) (cz_c (List.mem_cons_of_mem _ (List.mem_append_left _ (List.mem_append_right _ (List.mem_of_getElem? (i := 10) rfl)))) (cz_c (List.mem_cons_of_mem _ (List.mem_append_left _ (List.mem_append_right _ (List.mem_of_getElem? (i := 11) rfl)))) cz_n))))))
set_option maxRecDepth 20000 in
theorem ggX7_courtierNow_X7_seesNow : GoodIn wsX7_courtierNow wsX7_seesNow := goodIn_sub (cz_c (List.mem_cons_of_mem _ (List.mem_append_left _ (List.mem_append_left _ (List.mem_of_getElem? (i := 8) rfl)))) (cz_a (cz_a cz_m_X7_courtierNow_wsX7_seesNow_r1 cz_m_X7_courtierNow_wsX7_seesNow_r2) (fun _ h => List.mem_cons_of_mem _ (List.mem_append_right _ h)))) (by decide +kernel)
set_option maxRecDepth 20000 in
theorem gX7_courtierNow_X7_seesNow : GoodIn wsX7_courtierNow (wsV RX7 131 RX7 yX7_seesNow wsX7_seesNow) := goodIn_app (goodIn_sub (cz_c (List.mem_cons_of_mem _ (List.mem_append_left _ (List.mem_append_left _ (List.mem_of_getElem? (i := 4) rfl)))) (cz_c (List.mem_cons_of_mem _ (List.mem_append_left _ (List.mem_append_left _ (List.mem_of_getElem? (i := 5) rfl)))) (cz_c (List.mem_cons_of_mem _ (List.mem_append_left _ (List.mem_append_left _ (List.mem_of_getElem? (i := 6) rfl)))) (cz_c (List.mem_cons_of_mem _ (List.mem_append_left _ (List.mem_append_left _ (List.mem_of_getElem? (i := 7) rfl)))) cz_n)))) (by decide +kernel)) ggX7_courtierNow_X7_seesNow
set_option maxRecDepth 20000 in
theorem cz_m_X7_courtierNow_wsX7_isGuilty_r1 : ∀ w ∈ wsX7_isGuilty_r1, w ∈ wsX7_courtierNow := (cz_c (List.mem_cons_of_mem _ (List.mem_append_left _ (List.mem_append_left _ (List.mem_of_getElem? (i := 0) rfl)))) (cz_c (List.mem_cons_of_mem _ (List.mem_append_left _ (List.mem_append_left _ (List.mem_of_getElem? (i := 4) rfl)))) (cz_c (List.mem_cons_of_mem _ (List.mem_append_left _ (List.mem_append_left _ (List.mem_of_getElem? (i := 5) rfl)))) (cz_c (List.mem_cons_of_mem _ (List.mem_append_left _ (List.mem_append_left _ (List.mem_of_getElem? (i := 6) rfl)))) (cz_c (List.mem_cons_of_mem _ (List.mem_append_left _ (List.mem_append_left _ (List.mem_of_getElem? (i := 7) rfl)))) (cz_c (List.mem_cons_of_mem _ (List.mem_append_left _ (List.mem_append_left _ (List.mem_of_getElem? (i := 8) rfl)))) (cz_c (List.mem_cons_of_mem _ (List.mem_append_left _ (List.mem_append_left _ (List.mem_of_getElem? (i := 9) rfl)))) (cz_c (List.mem_cons_of_mem _ (List.mem_append_left _ (List.mem_append_left _ (List.mem_of_getElem? (i := 1) rfl)))) (cz_c (List.mem_cons_of_mem _ (List.mem_append_left _ (List.mem_append_left _ (List.mem_of_getElem? (i := 10) rfl)))) (cz_c (List.mem_cons_of_mem _ (List.mem_append_left _ (List.mem_append_left _ (List.mem_of_getElem? (i := 11) rfl)))) (cz_c (List.mem_cons_of_mem _ (List.mem_append_left _ (List.mem_append_left _ (List.mem_of_getElem? (i := 12) rfl)))) (cz_c (List.mem_cons_of_mem _ (List.mem_append_left _ (List.mem_append_left _ (List.mem_of_getElem? (i := 13) rfl)))) (cz_c (List.mem_cons_of_mem _ (List.mem_append_left _ (List.mem_append_left _ (List.mem_of_getElem? (i := 14) rfl)))) (cz_c (List.mem_cons_of_mem _ (List.mem_append_left _ (List.mem_append_left _ (List.mem_of_getElem? (i := 15) rfl)))) (cz_c (List.mem_cons_of_mem _ (List.mem_append_left _ (List.mem_append_left _ (List.mem_of_getElem? (i := 16) rfl)))) (cz_c (List.mem_cons_of_mem _ (List.mem_append_left _ (List.mem_append_left _ (List.mem_of_getElem? (i := 17) rfl)))) (cz_c (List.mem_cons_of_mem _ (List.mem_append_left _ (List.mem_append_left _ (List.mem_of_getElem? (i := 18) rfl)))) (cz_c (List.mem_cons_of_mem _ (List.mem_append_left _ (List.mem_append_left _ (List.mem_of_getElem? (i := 19) rfl)))) (cz_c (List.mem_cons_of_mem _ (List.mem_append_left _ (List.mem_append_left _ (List.mem_of_getElem? (i := 20) rfl)))) (cz_c (List.mem_cons_of_mem _ (List.mem_append_left _ (List.mem_append_left _ (List.mem_of_getElem? (i := 21) rfl)))) (cz_c (List.mem_cons_of_mem _ (List.mem_append_left _ (List.mem_append_left _ (List.mem_of_getElem? (i := 22) rfl)))) (cz_c (List.mem_cons_of_mem _ (List.mem_append_left _ (List.mem_append_left _ (List.mem_of_getElem? (i := 23) rfl)))) (cz_c (List.mem_cons_of_mem _ (List.mem_append_left _ (List.mem_append_right _ (List.mem_of_getElem? (i := 0) rfl)))) (cz_c (List.mem_cons_of_mem _ (List.mem_append_left _ (List.mem_append_right _ (List.mem_of_getElem? (i := 1) rfl)))) cz_n))))))))))))))))))))))))
set_option maxRecDepth 20000 in
theorem cz_m_X7_courtierNow_wsX7_isGuilty_r2 : ∀ w ∈ wsX7_isGuilty_r2, w ∈ wsX7_courtierNow := (cz_c (List.mem_cons_of_mem _ (List.mem_append_left _ (List.mem_append_right _ (List.mem_of_getElem? (i := 2) rfl)))) (cz_c (List.mem_cons_of_mem _ (List.mem_append_left _ (List.mem_append_right _ (List.mem_of_getElem? (i := 3) rfl)))) (cz_c (List.mem_cons_of_mem _ (List.mem_append_left _ (List.mem_append_right _ (List.mem_of_getElem? (i := 4) rfl)))) (cz_c (List.mem_cons_of_mem _ (List.mem_append_left _ (List.mem_append_right _ (List.mem_of_getElem? (i := 5) rfl)))) (cz_c (List.mem_cons_of_mem _ (List.mem_append_left _ (List.mem_append_right _ (List.mem_of_getElem? (i := 6) rfl)))) (cz_c (List.mem_cons_of_mem _ (List.mem_append_left _ (List.mem_append_right _ (List.mem_of_getElem? (i := 7) rfl)))) (cz_c (List.mem_cons_of_mem _ (List.mem_append_left _ (List.mem_append_right _ (List.mem_of_getElem? (i := 8) rfl)))) (cz_c (List.mem_cons_of_mem _ (List.mem_append_left _ (List.mem_append_right _ (List.mem_of_getElem? (i := 9) rfl)))) (cz_c (List.mem_cons_of_mem _ (List.mem_append_left _ (List.mem_append_right _ (List.mem_of_getElem? (i := 10) rfl)))) (cz_c (List.mem_cons_of_mem _ (List.mem_append_left _ (List.mem_append_right _ (List.mem_of_getElem? (i := 11) rfl)))) cz_n))))))))))
set_option maxRecDepth 20000 in
theorem ggX7_courtierNow_X7_isGuilty : GoodIn wsX7_courtierNow wsX7_isGuilty := goodIn_sub (cz_c (List.mem_cons_of_mem _ (List.mem_append_left _ (List.mem_append_right _ (List.mem_of_getElem? (i := 15) rfl)))) (cz_a (cz_a cz_m_X7_courtierNow_wsX7_isGuilty_r1 cz_m_X7_courtierNow_wsX7_isGuilty_r2) (fun _ h => List.mem_cons_of_mem _ (List.mem_append_right _ h)))) (by decide +kernel)
set_option maxRecDepth 20000 in
theorem gX7_courtierNow_X7_isGuilty : GoodIn wsX7_courtierNow (wsV RX7 134 RX7 yX7_isGuilty wsX7_isGuilty) := goodIn_app (goodIn_sub (cz_c (List.mem_cons_of_mem _ (List.mem_append_left _ (List.mem_append_right _ (List.mem_of_getElem? (i := 12) rfl)))) (cz_c (List.mem_cons_of_mem _ (List.mem_append_left _ (List.mem_append_right _ (List.mem_of_getElem? (i := 13) rfl)))) (cz_c (List.mem_cons_of_mem _ (List.mem_append_left _ (List.mem_append_right _ (List.mem_of_getElem? (i := 14) rfl)))) (cz_c (List.mem_cons_of_mem _ (List.mem_append_left _ (List.mem_append_left _ (List.mem_of_getElem? (i := 7) rfl)))) cz_n)))) (by decide +kernel)) ggX7_courtierNow_X7_isGuilty
set_option maxRecDepth 20000 in
theorem ggX7_about_X7_isCourtier : GoodIn wsX7_about wsX7_isCourtier := goodIn_sub (cz_c (List.mem_cons_of_mem _ (List.mem_append_left _ (List.mem_append_left _ (List.mem_of_getElem? (i := 4) rfl)))) (cz_a (cz_c (List.mem_cons_of_mem _ (List.mem_append_left _ (List.mem_append_left _ (List.mem_of_getElem? (i := 5) rfl)))) (cz_c (List.mem_cons_of_mem _ (List.mem_append_left _ (List.mem_append_left _ (List.mem_of_getElem? (i := 6) rfl)))) (cz_c (List.mem_cons_of_mem _ (List.mem_append_left _ (List.mem_append_left _ (List.mem_of_getElem? (i := 7) rfl)))) (cz_c (List.mem_cons_of_mem _ (List.mem_append_left _ (List.mem_append_left _ (List.mem_of_getElem? (i := 3) rfl)))) (cz_c (List.mem_cons_of_mem _ (List.mem_append_left _ (List.mem_append_left _ (List.mem_of_getElem? (i := 8) rfl)))) cz_n))))) (fun _ h => List.mem_cons_of_mem _ (List.mem_append_right _ h)))) (by decide +kernel)
set_option maxRecDepth 20000 in
theorem gX7_about_X7_isCourtier : GoodIn wsX7_about (wsV RX7 137 RX7 yX7_isCourtier wsX7_isCourtier) := goodIn_app (goodIn_sub (cz_c (List.mem_cons_of_mem _ (List.mem_append_left _ (List.mem_append_left _ (List.mem_of_getElem? (i := 0) rfl)))) (cz_c (List.mem_cons_of_mem _ (List.mem_append_left _ (List.mem_append_left _ (List.mem_of_getElem? (i := 1) rfl)))) (cz_c (List.mem_cons_of_mem _ (List.mem_append_left _ (List.mem_append_left _ (List.mem_of_getElem? (i := 2) rfl)))) (cz_c (List.mem_cons_of_mem _ (List.mem_append_left _ (List.mem_append_left _ (List.mem_of_getElem? (i := 3) rfl)))) cz_n)))) (by decide +kernel)) ggX7_about_X7_isCourtier
set_option maxRecDepth 20000 in
theorem ggX7_about_X7_within : GoodIn wsX7_about wsX7_within := goodIn_sub (cz_c (List.mem_cons_of_mem _ (List.mem_append_left _ (List.mem_append_left _ (List.mem_of_getElem? (i := 8) rfl)))) cz_n) (by decide +kernel)
set_option maxRecDepth 20000 in
theorem gX7_about_X7_within : GoodIn wsX7_about (va_wsS RX7 57 yX7_within wsX7_within) := goodIn_app (goodIn_sub (cz_c (List.mem_cons_of_mem _ (List.mem_append_left _ (List.mem_append_left _ (List.mem_of_getElem? (i := 6) rfl)))) (cz_c (List.mem_cons_of_mem _ (List.mem_append_left _ (List.mem_append_left _ (List.mem_of_getElem? (i := 7) rfl)))) (cz_c (List.mem_cons_of_mem _ (List.mem_append_left _ (List.mem_append_left _ (List.mem_of_getElem? (i := 3) rfl)))) cz_n))) (by decide +kernel)) ggX7_about_X7_within
set_option maxRecDepth 20000 in
theorem cz_m_X7_about_wsX7_courtierNow_r1 : ∀ w ∈ wsX7_courtierNow_r1, w ∈ wsX7_about := (cz_c (List.mem_cons_of_mem _ (List.mem_append_left _ (List.mem_append_left _ (List.mem_of_getElem? (i := 13) rfl)))) (cz_c (List.mem_cons_of_mem _ (List.mem_append_left _ (List.mem_append_left _ (List.mem_of_getElem? (i := 14) rfl)))) (cz_c (List.mem_cons_of_mem _ (List.mem_append_left _ (List.mem_append_left _ (List.mem_of_getElem? (i := 15) rfl)))) (cz_c (List.mem_cons_of_mem _ (List.mem_append_left _ (List.mem_append_left _ (List.mem_of_getElem? (i := 16) rfl)))) (cz_c (List.mem_cons_of_mem _ (List.mem_append_left _ (List.mem_append_left _ (List.mem_of_getElem? (i := 17) rfl)))) (cz_c (List.mem_cons_of_mem _ (List.mem_append_left _ (List.mem_append_left _ (List.mem_of_getElem? (i := 18) rfl)))) (cz_c (List.mem_cons_of_mem _ (List.mem_append_left _ (List.mem_append_left _ (List.mem_of_getElem? (i := 19) rfl)))) (cz_c (List.mem_cons_of_mem _ (List.mem_append_left _ (List.mem_append_left _ (List.mem_of_getElem? (i := 3) rfl)))) (cz_c (List.mem_cons_of_mem _ (List.mem_append_left _ (List.mem_append_left _ (List.mem_of_getElem? (i := 20) rfl)))) (cz_c (List.mem_cons_of_mem _ (List.mem_append_left _ (List.mem_append_left _ (List.mem_of_getElem? (i := 21) rfl)))) (cz_c (List.mem_cons_of_mem _ (List.mem_append_left _ (List.mem_append_left _ (List.mem_of_getElem? (i := 22) rfl)))) (cz_c (List.mem_cons_of_mem _ (List.mem_append_left _ (List.mem_append_left _ (List.mem_of_getElem? (i := 23) rfl)))) (cz_c (List.mem_cons_of_mem _ (List.mem_append_left _ (List.mem_append_right _ (List.mem_append_left _ (List.mem_of_getElem? (i := 0) rfl))))) (cz_c (List.mem_cons_of_mem _ (List.mem_append_left _ (List.mem_append_right _ (List.mem_append_left _ (List.mem_of_getElem? (i := 1) rfl))))) (cz_c (List.mem_cons_of_mem _ (List.mem_append_left _ (List.mem_append_right _ (List.mem_append_left _ (List.mem_of_getElem? (i := 2) rfl))))) (cz_c (List.mem_cons_of_mem _ (List.mem_append_left _ (List.mem_append_right _ (List.mem_append_left _ (List.mem_of_getElem? (i := 3) rfl))))) (cz_c (List.mem_cons_of_mem _ (List.mem_append_left _ (List.mem_append_right _ (List.mem_append_left _ (List.mem_of_getElem? (i := 4) rfl))))) (cz_c (List.mem_cons_of_mem _ (List.mem_append_left _ (List.mem_append_right _ (List.mem_append_left _ (List.mem_of_getElem? (i := 5) rfl))))) (cz_c (List.mem_cons_of_mem _ (List.mem_append_left _ (List.mem_append_right _ (List.mem_append_left _ (List.mem_of_getElem? (i := 6) rfl))))) (cz_c (List.mem_cons_of_mem _ (List.mem_append_left _ (List.mem_append_right _ (List.mem_append_left _ (List.mem_of_getElem? (i := 7) rfl))))) (cz_c (List.mem_cons_of_mem _ (List.mem_append_left _ (List.mem_append_right _ (List.mem_append_left _ (List.mem_of_getElem? (i := 8) rfl))))) (cz_c (List.mem_cons_of_mem _ (List.mem_append_left _ (List.mem_append_right _ (List.mem_append_left _ (List.mem_of_getElem? (i := 9) rfl))))) (cz_c (List.mem_cons_of_mem _ (List.mem_append_left _ (List.mem_append_right _ (List.mem_append_left _ (List.mem_of_getElem? (i := 10) rfl))))) (cz_c (List.mem_cons_of_mem _ (List.mem_append_left _ (List.mem_append_right _ (List.mem_append_left _ (List.mem_of_getElem? (i := 11) rfl))))) cz_n))))))))))))))))))))))))
set_option maxRecDepth 20000 in
theorem cz_m_X7_about_wsX7_courtierNow_r2 : ∀ w ∈ wsX7_courtierNow_r2, w ∈ wsX7_about := (cz_c (List.mem_cons_of_mem _ (List.mem_append_left _ (List.mem_append_right _ (List.mem_append_left _ (List.mem_of_getElem? (i := 12) rfl))))) (cz_c (List.mem_cons_of_mem _ (List.mem_append_left _ (List.mem_append_right _ (List.mem_append_left _ (List.mem_of_getElem? (i := 13) rfl))))) (cz_c (List.mem_cons_of_mem _ (List.mem_append_left _ (List.mem_append_right _ (List.mem_append_left _ (List.mem_of_getElem? (i := 14) rfl))))) (cz_c (List.mem_cons_of_mem _ (List.mem_append_left _ (List.mem_append_right _ (List.mem_append_left _ (List.mem_of_getElem? (i := 15) rfl))))) (cz_c (List.mem_cons_of_mem _ (List.mem_append_left _ (List.mem_append_right _ (List.mem_append_left _ (List.mem_of_getElem? (i := 16) rfl))))) (cz_c (List.mem_cons_of_mem _ (List.mem_append_left _ (List.mem_append_right _ (List.mem_append_left _ (List.mem_of_getElem? (i := 17) rfl))))) (cz_c (List.mem_cons_of_mem _ (List.mem_append_left _ (List.mem_append_right _ (List.mem_append_left _ (List.mem_of_getElem? (i := 18) rfl))))) (cz_c (List.mem_cons_of_mem _ (List.mem_append_left _ (List.mem_append_right _ (List.mem_append_left _ (List.mem_of_getElem? (i := 19) rfl))))) (cz_c (List.mem_cons_of_mem _ (List.mem_append_left _ (List.mem_append_right _ (List.mem_append_left _ (List.mem_of_getElem? (i := 20) rfl))))) (cz_c (List.mem_cons_of_mem _ (List.mem_append_left _ (List.mem_append_right _ (List.mem_append_left _ (List.mem_of_getElem? (i := 21) rfl))))) (cz_c (List.mem_cons_of_mem _ (List.mem_append_left _ (List.mem_append_right _ (List.mem_append_left _ (List.mem_of_getElem? (i := 22) rfl))))) (cz_c (List.mem_cons_of_mem _ (List.mem_append_left _ (List.mem_append_left _ (List.mem_of_getElem? (i := 5) rfl)))) (cz_c (List.mem_cons_of_mem _ (List.mem_append_left _ (List.mem_append_right _ (List.mem_append_left _ (List.mem_of_getElem? (i := 23) rfl))))) (cz_c (List.mem_cons_of_mem _ (List.mem_append_left _ (List.mem_append_right _ (List.mem_append_right _ (List.mem_of_getElem? (i := 0) rfl))))) (cz_c (List.mem_cons_of_mem _ (List.mem_append_left _ (List.mem_append_right _ (List.mem_append_right _ (List.mem_of_getElem? (i := 1) rfl))))) (cz_c (List.mem_cons_of_mem _ (List.mem_append_left _ (List.mem_append_right _ (List.mem_append_right _ (List.mem_of_getElem? (i := 2) rfl))))) cz_n))))))))))))))))
set_option maxRecDepth 20000 in
theorem ggX7_about_X7_courtierNow : GoodIn wsX7_about wsX7_courtierNow := goodIn_sub (cz_c (List.mem_cons_of_mem _ (List.mem_append_left _ (List.mem_append_left _ (List.mem_of_getElem? (i := 12) rfl)))) (cz_a (cz_a cz_m_X7_about_wsX7_courtierNow_r1 cz_m_X7_about_wsX7_courtierNow_r2) (fun _ h => List.mem_cons_of_mem _ (List.mem_append_right _ h)))) (by decide +kernel)
set_option maxRecDepth 20000 in
theorem gX7_about_X7_courtierNow : GoodIn wsX7_about (wsV RX7 140 RX7 yX7_courtierNow wsX7_courtierNow) := goodIn_app (goodIn_sub (cz_c (List.mem_cons_of_mem _ (List.mem_append_left _ (List.mem_append_left _ (List.mem_of_getElem? (i := 9) rfl)))) (cz_c (List.mem_cons_of_mem _ (List.mem_append_left _ (List.mem_append_left _ (List.mem_of_getElem? (i := 10) rfl)))) (cz_c (List.mem_cons_of_mem _ (List.mem_append_left _ (List.mem_append_left _ (List.mem_of_getElem? (i := 11) rfl)))) (cz_c (List.mem_cons_of_mem _ (List.mem_append_left _ (List.mem_append_left _ (List.mem_of_getElem? (i := 3) rfl)))) cz_n)))) (by decide +kernel)) ggX7_about_X7_courtierNow
set_option maxRecDepth 20000 in
theorem ggX7_as_X7_isCourtier : GoodIn wsX7_as wsX7_isCourtier := goodIn_sub (cz_c (List.mem_cons_of_mem _ (List.mem_append_left _ (List.mem_of_getElem? (i := 5) rfl))) (cz_a (cz_c (List.mem_cons_of_mem _ (List.mem_append_left _ (List.mem_of_getElem? (i := 6) rfl))) (cz_c (List.mem_cons_of_mem _ (List.mem_append_left _ (List.mem_of_getElem? (i := 7) rfl))) (cz_c (List.mem_cons_of_mem _ (List.mem_append_left _ (List.mem_of_getElem? (i := 8) rfl))) (cz_c (List.mem_cons_of_mem _ (List.mem_append_left _ (List.mem_of_getElem? (i := 4) rfl))) (cz_c (List.mem_cons_of_mem _ (List.mem_append_left _ (List.mem_of_getElem? (i := 9) rfl))) cz_n))))) (fun _ h => List.mem_cons_of_mem _ (List.mem_append_right _ h)))) (by decide +kernel)
set_option maxRecDepth 20000 in
theorem gX7_as_X7_isCourtier : GoodIn wsX7_as (wsV RX7 137 RX7 yX7_isCourtier wsX7_isCourtier) := goodIn_app (goodIn_sub (cz_c (List.mem_cons_of_mem _ (List.mem_append_left _ (List.mem_of_getElem? (i := 1) rfl))) (cz_c (List.mem_cons_of_mem _ (List.mem_append_left _ (List.mem_of_getElem? (i := 2) rfl))) (cz_c (List.mem_cons_of_mem _ (List.mem_append_left _ (List.mem_of_getElem? (i := 3) rfl))) (cz_c (List.mem_cons_of_mem _ (List.mem_append_left _ (List.mem_of_getElem? (i := 4) rfl))) cz_n)))) (by decide +kernel)) ggX7_as_X7_isCourtier
set_option maxRecDepth 20000 in
theorem ggX7_as_X7_within : GoodIn wsX7_as wsX7_within := goodIn_sub (cz_c (List.mem_cons_of_mem _ (List.mem_append_left _ (List.mem_of_getElem? (i := 9) rfl))) cz_n) (by decide +kernel)
set_option maxRecDepth 20000 in
theorem gX7_as_X7_within : GoodIn wsX7_as (va_wsS RX7 57 yX7_within wsX7_within) := goodIn_app (goodIn_sub (cz_c (List.mem_cons_of_mem _ (List.mem_append_left _ (List.mem_of_getElem? (i := 7) rfl))) (cz_c (List.mem_cons_of_mem _ (List.mem_append_left _ (List.mem_of_getElem? (i := 8) rfl))) (cz_c (List.mem_cons_of_mem _ (List.mem_append_left _ (List.mem_of_getElem? (i := 4) rfl))) cz_n))) (by decide +kernel)) ggX7_as_X7_within
set_option maxRecDepth 20000 in
theorem ggX7_go_X7_isCourtier : GoodIn wsX7_go wsX7_isCourtier := goodIn_sub (cz_c (List.mem_cons_of_mem _ (List.mem_append_left _ (List.mem_append_left _ (List.mem_of_getElem? (i := 5) rfl)))) (cz_a (cz_c (List.mem_cons_of_mem _ (List.mem_append_left _ (List.mem_append_left _ (List.mem_of_getElem? (i := 6) rfl)))) (cz_c (List.mem_cons_of_mem _ (List.mem_append_left _ (List.mem_append_left _ (List.mem_of_getElem? (i := 7) rfl)))) (cz_c (List.mem_cons_of_mem _ (List.mem_append_left _ (List.mem_append_left _ (List.mem_of_getElem? (i := 8) rfl)))) (cz_c (List.mem_cons_of_mem _ (List.mem_append_left _ (List.mem_append_left _ (List.mem_of_getElem? (i := 4) rfl)))) (cz_c (List.mem_cons_of_mem _ (List.mem_append_left _ (List.mem_append_left _ (List.mem_of_getElem? (i := 9) rfl)))) cz_n))))) (fun _ h => List.mem_cons_of_mem _ (List.mem_append_right _ h)))) (by decide +kernel)
set_option maxRecDepth 20000 in
theorem gX7_go_X7_isCourtier : GoodIn wsX7_go (wsV RX7 137 RX7 yX7_isCourtier wsX7_isCourtier) := goodIn_app (goodIn_sub (cz_c (List.mem_cons_of_mem _ (List.mem_append_left _ (List.mem_append_left _ (List.mem_of_getElem? (i := 1) rfl)))) (cz_c (List.mem_cons_of_mem _ (List.mem_append_left _ (List.mem_append_left _ (List.mem_of_getElem? (i := 2) rfl)))) (cz_c (List.mem_cons_of_mem _ (List.mem_append_left _ (List.mem_append_left _ (List.mem_of_getElem? (i := 3) rfl)))) (cz_c (List.mem_cons_of_mem _ (List.mem_append_left _ (List.mem_append_left _ (List.mem_of_getElem? (i := 4) rfl)))) cz_n)))) (by decide +kernel)) ggX7_go_X7_isCourtier
set_option maxRecDepth 20000 in
theorem ggX7_go_X7_isPlace : GoodIn wsX7_go wsX7_isPlace := goodIn_sub (cz_c (List.mem_cons_of_mem _ (List.mem_append_left _ (List.mem_append_left _ (List.mem_of_getElem? (i := 12) rfl)))) (cz_c (List.mem_cons_of_mem _ (List.mem_append_left _ (List.mem_append_left _ (List.mem_of_getElem? (i := 7) rfl)))) (cz_c (List.mem_cons_of_mem _ (List.mem_append_left _ (List.mem_append_left _ (List.mem_of_getElem? (i := 8) rfl)))) (cz_c (List.mem_cons_of_mem _ (List.mem_append_left _ (List.mem_append_left _ (List.mem_of_getElem? (i := 4) rfl)))) (cz_c (List.mem_cons_of_mem _ (List.mem_append_left _ (List.mem_append_left _ (List.mem_of_getElem? (i := 9) rfl)))) cz_n))))) (by decide +kernel)
set_option maxRecDepth 20000 in
theorem gX7_go_X7_isPlace : GoodIn wsX7_go (va_wsS RX7 100 yX7_isPlace wsX7_isPlace) := goodIn_app (goodIn_sub (cz_c (List.mem_cons_of_mem _ (List.mem_append_left _ (List.mem_append_left _ (List.mem_of_getElem? (i := 10) rfl)))) (cz_c (List.mem_cons_of_mem _ (List.mem_append_left _ (List.mem_append_left _ (List.mem_of_getElem? (i := 11) rfl)))) (cz_c (List.mem_cons_of_mem _ (List.mem_append_left _ (List.mem_append_left _ (List.mem_of_getElem? (i := 4) rfl)))) cz_n))) (by decide +kernel)) ggX7_go_X7_isPlace
set_option maxRecDepth 20000 in
theorem ggX7_go_X7_isEmpty : GoodIn wsX7_go wsX7_isEmpty := goodIn_sub (cz_c (List.mem_cons_of_mem _ (List.mem_append_left _ (List.mem_append_left _ (List.mem_of_getElem? (i := 16) rfl)))) (cz_a (cz_c (List.mem_cons_of_mem _ (List.mem_append_left _ (List.mem_append_left _ (List.mem_of_getElem? (i := 17) rfl)))) (cz_c (List.mem_cons_of_mem _ (List.mem_append_left _ (List.mem_append_left _ (List.mem_of_getElem? (i := 18) rfl)))) (cz_c (List.mem_cons_of_mem _ (List.mem_append_left _ (List.mem_append_left _ (List.mem_of_getElem? (i := 19) rfl)))) (cz_c (List.mem_cons_of_mem _ (List.mem_append_left _ (List.mem_append_left _ (List.mem_of_getElem? (i := 4) rfl)))) (cz_c (List.mem_cons_of_mem _ (List.mem_append_left _ (List.mem_append_left _ (List.mem_of_getElem? (i := 20) rfl)))) (cz_c (List.mem_cons_of_mem _ (List.mem_append_left _ (List.mem_append_left _ (List.mem_of_getElem? (i := 21) rfl)))) (cz_c (List.mem_cons_of_mem _ (List.mem_append_left _ (List.mem_append_left _ (List.mem_of_getElem? (i := 22) rfl)))) (cz_c (List.mem_cons_of_mem _ (List.mem_append_left _ (List.mem_append_left _ (List.mem_of_getElem? (i := 23) rfl)))) (cz_c (List.mem_cons_of_mem _ (List.mem_append_left _ (List.mem_append_right _ (List.mem_of_getElem? (i := 0) rfl)))) (cz_c (List.mem_cons_of_mem _ (List.mem_append_left _ (List.mem_append_right _ (List.mem_of_getElem? (i := 1) rfl)))) (cz_c (List.mem_cons_of_mem _ (List.mem_append_left _ (List.mem_append_left _ (List.mem_of_getElem? (i := 6) rfl)))) (cz_c (List.mem_cons_of_mem _ (List.mem_append_left _ (List.mem_append_left _ (List.mem_of_getElem? (i := 0) rfl)))) cz_n)))))))))))) (fun _ h => List.mem_cons_of_mem _ (List.mem_append_right _ h)))) (by decide +kernel)
set_option maxRecDepth 20000 in
theorem gX7_go_X7_isEmpty : GoodIn wsX7_go (wsV RX7 107 RX7 yX7_isEmpty wsX7_isEmpty) := goodIn_app (goodIn_sub (cz_c (List.mem_cons_of_mem _ (List.mem_append_left _ (List.mem_append_left _ (List.mem_of_getElem? (i := 13) rfl)))) (cz_c (List.mem_cons_of_mem _ (List.mem_append_left _ (List.mem_append_left _ (List.mem_of_getElem? (i := 14) rfl)))) (cz_c (List.mem_cons_of_mem _ (List.mem_append_left _ (List.mem_append_left _ (List.mem_of_getElem? (i := 15) rfl)))) (cz_c (List.mem_cons_of_mem _ (List.mem_append_left _ (List.mem_append_left _ (List.mem_of_getElem? (i := 4) rfl)))) cz_n)))) (by decide +kernel)) ggX7_go_X7_isEmpty
set_option maxRecDepth 20000 in
theorem ggX7_mayAct_X7_ahead : GoodIn wsX7_mayAct wsX7_ahead := goodIn_sub (cz_c (List.mem_cons_of_mem _ (List.mem_append_left _ (List.mem_of_getElem? (i := 5) rfl))) cz_n) (by decide +kernel)
set_option maxRecDepth 20000 in
theorem gX7_mayAct_X7_ahead : GoodIn wsX7_mayAct (va_wsS RX7 143 yX7_ahead wsX7_ahead) := goodIn_app (goodIn_sub (cz_c (List.mem_cons_of_mem _ (List.mem_append_left _ (List.mem_of_getElem? (i := 2) rfl))) (cz_c (List.mem_cons_of_mem _ (List.mem_append_left _ (List.mem_of_getElem? (i := 3) rfl))) (cz_c (List.mem_cons_of_mem _ (List.mem_append_left _ (List.mem_of_getElem? (i := 4) rfl))) cz_n))) (by decide +kernel)) ggX7_mayAct_X7_ahead
set_option maxRecDepth 20000 in
theorem ggX7_mayAct_X7_isEmpty : GoodIn wsX7_mayAct wsX7_isEmpty := goodIn_sub (cz_c (List.mem_cons_of_mem _ (List.mem_append_left _ (List.mem_of_getElem? (i := 9) rfl))) (cz_a (cz_c (List.mem_cons_of_mem _ (List.mem_append_left _ (List.mem_of_getElem? (i := 10) rfl))) (cz_c (List.mem_cons_of_mem _ (List.mem_append_left _ (List.mem_of_getElem? (i := 11) rfl))) (cz_c (List.mem_cons_of_mem _ (List.mem_append_left _ (List.mem_of_getElem? (i := 12) rfl))) (cz_c (List.mem_cons_of_mem _ (List.mem_append_left _ (List.mem_of_getElem? (i := 4) rfl))) (cz_c (List.mem_cons_of_mem _ (List.mem_append_left _ (List.mem_of_getElem? (i := 13) rfl))) (cz_c (List.mem_cons_of_mem _ (List.mem_append_left _ (List.mem_of_getElem? (i := 14) rfl))) (cz_c (List.mem_cons_of_mem _ (List.mem_append_left _ (List.mem_of_getElem? (i := 15) rfl))) (cz_c (List.mem_cons_of_mem _ (List.mem_append_left _ (List.mem_of_getElem? (i := 16) rfl))) (cz_c (List.mem_cons_of_mem _ (List.mem_append_left _ (List.mem_of_getElem? (i := 17) rfl))) (cz_c (List.mem_cons_of_mem _ (List.mem_append_left _ (List.mem_of_getElem? (i := 0) rfl))) (cz_c (List.mem_cons_of_mem _ (List.mem_append_left _ (List.mem_of_getElem? (i := 18) rfl))) (cz_c (List.mem_cons_of_mem _ (List.mem_append_left _ (List.mem_of_getElem? (i := 19) rfl))) cz_n)))))))))))) (fun _ h => List.mem_cons_of_mem _ (List.mem_append_right _ h)))) (by decide +kernel)
set_option maxRecDepth 20000 in
theorem gX7_mayAct_X7_isEmpty : GoodIn wsX7_mayAct (wsV RX7 107 RX7 yX7_isEmpty wsX7_isEmpty) := goodIn_app (goodIn_sub (cz_c (List.mem_cons_of_mem _ (List.mem_append_left _ (List.mem_of_getElem? (i := 6) rfl))) (cz_c (List.mem_cons_of_mem _ (List.mem_append_left _ (List.mem_of_getElem? (i := 7) rfl))) (cz_c (List.mem_cons_of_mem _ (List.mem_append_left _ (List.mem_of_getElem? (i := 8) rfl))) (cz_c (List.mem_cons_of_mem _ (List.mem_append_left _ (List.mem_of_getElem? (i := 4) rfl))) cz_n)))) (by decide +kernel)) ggX7_mayAct_X7_isEmpty
set_option maxRecDepth 20000 in
theorem ggX7_doAct_X7_ahead : GoodIn wsX7_doAct wsX7_ahead := goodIn_sub (cz_c (List.mem_cons_of_mem _ (List.mem_append_left _ (List.mem_of_getElem? (i := 5) rfl))) cz_n) (by decide +kernel)
set_option maxRecDepth 20000 in
theorem gX7_doAct_X7_ahead : GoodIn wsX7_doAct (va_wsS RX7 143 yX7_ahead wsX7_ahead) := goodIn_app (goodIn_sub (cz_c (List.mem_cons_of_mem _ (List.mem_append_left _ (List.mem_of_getElem? (i := 2) rfl))) (cz_c (List.mem_cons_of_mem _ (List.mem_append_left _ (List.mem_of_getElem? (i := 3) rfl))) (cz_c (List.mem_cons_of_mem _ (List.mem_append_left _ (List.mem_of_getElem? (i := 4) rfl))) cz_n))) (by decide +kernel)) ggX7_doAct_X7_ahead
set_option maxRecDepth 20000 in
theorem ggX7_act_X7_within : GoodIn wsX7_act wsX7_within := goodIn_sub (cz_c (List.mem_cons_of_mem _ (List.mem_append_left _ (List.mem_append_left _ (List.mem_of_getElem? (i := 8) rfl)))) cz_n) (by decide +kernel)
set_option maxRecDepth 20000 in
theorem gX7_act_X7_within : GoodIn wsX7_act (va_wsS RX7 57 yX7_within wsX7_within) := goodIn_app (goodIn_sub (cz_c (List.mem_cons_of_mem _ (List.mem_append_left _ (List.mem_append_left _ (List.mem_of_getElem? (i := 5) rfl)))) (cz_c (List.mem_cons_of_mem _ (List.mem_append_left _ (List.mem_append_left _ (List.mem_of_getElem? (i := 6) rfl)))) (cz_c (List.mem_cons_of_mem _ (List.mem_append_left _ (List.mem_append_left _ (List.mem_of_getElem? (i := 7) rfl)))) cz_n))) (by decide +kernel)) ggX7_act_X7_within
set_option maxRecDepth 20000 in
theorem ggX7_act_X7_mayAct : GoodIn wsX7_act wsX7_mayAct := goodIn_sub (cz_c (List.mem_cons_of_mem _ (List.mem_append_left _ (List.mem_append_left _ (List.mem_of_getElem? (i := 12) rfl)))) (cz_a (cz_c (List.mem_cons_of_mem _ (List.mem_append_left _ (List.mem_append_left _ (List.mem_of_getElem? (i := 0) rfl)))) (cz_c (List.mem_cons_of_mem _ (List.mem_append_left _ (List.mem_append_left _ (List.mem_of_getElem? (i := 13) rfl)))) (cz_c (List.mem_cons_of_mem _ (List.mem_append_left _ (List.mem_append_left _ (List.mem_of_getElem? (i := 14) rfl)))) (cz_c (List.mem_cons_of_mem _ (List.mem_append_left _ (List.mem_append_left _ (List.mem_of_getElem? (i := 15) rfl)))) (cz_c (List.mem_cons_of_mem _ (List.mem_append_left _ (List.mem_append_left _ (List.mem_of_getElem? (i := 7) rfl)))) (cz_c (List.mem_cons_of_mem _ (List.mem_append_left _ (List.mem_append_left _ (List.mem_of_getElem? (i := 16) rfl)))) (cz_c (List.mem_cons_of_mem _ (List.mem_append_left _ (List.mem_append_left _ (List.mem_of_getElem? (i := 17) rfl)))) (cz_c (List.mem_cons_of_mem _ (List.mem_append_left _ (List.mem_append_left _ (List.mem_of_getElem? (i := 18) rfl)))) (cz_c (List.mem_cons_of_mem _ (List.mem_append_left _ (List.mem_append_left _ (List.mem_of_getElem? (i := 19) rfl)))) (cz_c (List.mem_cons_of_mem _ (List.mem_append_left _ (List.mem_append_left _ (List.mem_of_getElem? (i := 20) rfl)))) (cz_c (List.mem_cons_of_mem _ (List.mem_append_left _ (List.mem_append_left _ (List.mem_of_getElem? (i := 21) rfl)))) (cz_c (List.mem_cons_of_mem _ (List.mem_append_left _ (List.mem_append_left _ (List.mem_of_getElem? (i := 22) rfl)))) (cz_c (List.mem_cons_of_mem _ (List.mem_append_left _ (List.mem_append_left _ (List.mem_of_getElem? (i := 23) rfl)))) (cz_c (List.mem_cons_of_mem _ (List.mem_append_left _ (List.mem_append_right _ (List.mem_append_left _ (List.mem_of_getElem? (i := 0) rfl))))) (cz_c (List.mem_cons_of_mem _ (List.mem_append_left _ (List.mem_append_right _ (List.mem_append_left _ (List.mem_of_getElem? (i := 1) rfl))))) (cz_c (List.mem_cons_of_mem _ (List.mem_append_left _ (List.mem_append_right _ (List.mem_append_left _ (List.mem_of_getElem? (i := 2) rfl))))) (cz_c (List.mem_cons_of_mem _ (List.mem_append_left _ (List.mem_append_right _ (List.mem_append_left _ (List.mem_of_getElem? (i := 3) rfl))))) (cz_c (List.mem_cons_of_mem _ (List.mem_append_left _ (List.mem_append_right _ (List.mem_append_left _ (List.mem_of_getElem? (i := 4) rfl))))) (cz_c (List.mem_cons_of_mem _ (List.mem_append_left _ (List.mem_append_left _ (List.mem_of_getElem? (i := 2) rfl)))) (cz_c (List.mem_cons_of_mem _ (List.mem_append_left _ (List.mem_append_right _ (List.mem_append_left _ (List.mem_of_getElem? (i := 5) rfl))))) cz_n)))))))))))))))))))) (fun _ h => List.mem_cons_of_mem _ (List.mem_append_right _ h)))) (by decide +kernel)
set_option maxRecDepth 20000 in
theorem gX7_act_X7_mayAct : GoodIn wsX7_act (wsV RX7 146 RX7 yX7_mayAct wsX7_mayAct) := goodIn_app (goodIn_sub (cz_c (List.mem_cons_of_mem _ (List.mem_append_left _ (List.mem_append_left _ (List.mem_of_getElem? (i := 9) rfl)))) (cz_c (List.mem_cons_of_mem _ (List.mem_append_left _ (List.mem_append_left _ (List.mem_of_getElem? (i := 10) rfl)))) (cz_c (List.mem_cons_of_mem _ (List.mem_append_left _ (List.mem_append_left _ (List.mem_of_getElem? (i := 11) rfl)))) (cz_c (List.mem_cons_of_mem _ (List.mem_append_left _ (List.mem_append_left _ (List.mem_of_getElem? (i := 7) rfl)))) cz_n)))) (by decide +kernel)) ggX7_act_X7_mayAct
set_option maxRecDepth 20000 in
theorem ggX7_act_X7_doAct : GoodIn wsX7_act wsX7_doAct := goodIn_sub (cz_c (List.mem_cons_of_mem _ (List.mem_append_left _ (List.mem_append_right _ (List.mem_append_left _ (List.mem_of_getElem? (i := 9) rfl))))) (cz_a (cz_c (List.mem_cons_of_mem _ (List.mem_append_left _ (List.mem_append_left _ (List.mem_of_getElem? (i := 0) rfl)))) (cz_c (List.mem_cons_of_mem _ (List.mem_append_left _ (List.mem_append_left _ (List.mem_of_getElem? (i := 13) rfl)))) (cz_c (List.mem_cons_of_mem _ (List.mem_append_left _ (List.mem_append_left _ (List.mem_of_getElem? (i := 14) rfl)))) (cz_c (List.mem_cons_of_mem _ (List.mem_append_left _ (List.mem_append_left _ (List.mem_of_getElem? (i := 15) rfl)))) (cz_c (List.mem_cons_of_mem _ (List.mem_append_left _ (List.mem_append_left _ (List.mem_of_getElem? (i := 7) rfl)))) (cz_c (List.mem_cons_of_mem _ (List.mem_append_left _ (List.mem_append_left _ (List.mem_of_getElem? (i := 16) rfl)))) cz_n)))))) (fun _ h => List.mem_cons_of_mem _ (List.mem_append_right _ h)))) (by decide +kernel)
set_option maxRecDepth 20000 in
theorem gX7_act_X7_doAct : GoodIn wsX7_act (wsV RX7 149 RX7 yX7_doAct wsX7_doAct) := goodIn_app (goodIn_sub (cz_c (List.mem_cons_of_mem _ (List.mem_append_left _ (List.mem_append_right _ (List.mem_append_left _ (List.mem_of_getElem? (i := 6) rfl))))) (cz_c (List.mem_cons_of_mem _ (List.mem_append_left _ (List.mem_append_right _ (List.mem_append_left _ (List.mem_of_getElem? (i := 7) rfl))))) (cz_c (List.mem_cons_of_mem _ (List.mem_append_left _ (List.mem_append_right _ (List.mem_append_left _ (List.mem_of_getElem? (i := 8) rfl))))) (cz_c (List.mem_cons_of_mem _ (List.mem_append_left _ (List.mem_append_left _ (List.mem_of_getElem? (i := 7) rfl)))) cz_n)))) (by decide +kernel)) ggX7_act_X7_doAct
set_option maxRecDepth 20000 in
theorem cz_m_X7_act_wsX7_seesNow_r1 : ∀ w ∈ wsX7_seesNow_r1, w ∈ wsX7_act := (cz_c (List.mem_cons_of_mem _ (List.mem_append_left _ (List.mem_append_left _ (List.mem_of_getElem? (i := 0) rfl)))) (cz_c (List.mem_cons_of_mem _ (List.mem_append_left _ (List.mem_append_right _ (List.mem_append_left _ (List.mem_of_getElem? (i := 5) rfl))))) (cz_c (List.mem_cons_of_mem _ (List.mem_append_left _ (List.mem_append_right _ (List.mem_append_left _ (List.mem_of_getElem? (i := 14) rfl))))) (cz_c (List.mem_cons_of_mem _ (List.mem_append_left _ (List.mem_append_left _ (List.mem_of_getElem? (i := 13) rfl)))) (cz_c (List.mem_cons_of_mem _ (List.mem_append_left _ (List.mem_append_right _ (List.mem_append_left _ (List.mem_of_getElem? (i := 15) rfl))))) (cz_c (List.mem_cons_of_mem _ (List.mem_append_left _ (List.mem_append_right _ (List.mem_append_left _ (List.mem_of_getElem? (i := 16) rfl))))) (cz_c (List.mem_cons_of_mem _ (List.mem_append_left _ (List.mem_append_left _ (List.mem_of_getElem? (i := 7) rfl)))) (cz_c (List.mem_cons_of_mem _ (List.mem_append_left _ (List.mem_append_right _ (List.mem_append_left _ (List.mem_of_getElem? (i := 17) rfl))))) (cz_c (List.mem_cons_of_mem _ (List.mem_append_left _ (List.mem_append_right _ (List.mem_append_left _ (List.mem_of_getElem? (i := 18) rfl))))) (cz_c (List.mem_cons_of_mem _ (List.mem_append_left _ (List.mem_append_right _ (List.mem_append_left _ (List.mem_of_getElem? (i := 19) rfl))))) (cz_c (List.mem_cons_of_mem _ (List.mem_append_left _ (List.mem_append_right _ (List.mem_append_left _ (List.mem_of_getElem? (i := 20) rfl))))) (cz_c (List.mem_cons_of_mem _ (List.mem_append_left _ (List.mem_append_right _ (List.mem_append_left _ (List.mem_of_getElem? (i := 21) rfl))))) (cz_c (List.mem_cons_of_mem _ (List.mem_append_left _ (List.mem_append_right _ (List.mem_append_left _ (List.mem_of_getElem? (i := 22) rfl))))) (cz_c (List.mem_cons_of_mem _ (List.mem_append_left _ (List.mem_append_right _ (List.mem_append_left _ (List.mem_of_getElem? (i := 23) rfl))))) (cz_c (List.mem_cons_of_mem _ (List.mem_append_left _ (List.mem_append_right _ (List.mem_append_right _ (List.mem_of_getElem? (i := 0) rfl))))) (cz_c (List.mem_cons_of_mem _ (List.mem_append_left _ (List.mem_append_right _ (List.mem_append_right _ (List.mem_of_getElem? (i := 1) rfl))))) (cz_c (List.mem_cons_of_mem _ (List.mem_append_left _ (List.mem_append_right _ (List.mem_append_right _ (List.mem_of_getElem? (i := 2) rfl))))) (cz_c (List.mem_cons_of_mem _ (List.mem_append_left _ (List.mem_append_right _ (List.mem_append_right _ (List.mem_of_getElem? (i := 3) rfl))))) (cz_c (List.mem_cons_of_mem _ (List.mem_append_left _ (List.mem_append_right _ (List.mem_append_right _ (List.mem_of_getElem? (i := 4) rfl))))) (cz_c (List.mem_cons_of_mem _ (List.mem_append_left _ (List.mem_append_right _ (List.mem_append_right _ (List.mem_of_getElem? (i := 5) rfl))))) (cz_c (List.mem_cons_of_mem _ (List.mem_append_left _ (List.mem_append_right _ (List.mem_append_right _ (List.mem_of_getElem? (i := 6) rfl))))) (cz_c (List.mem_cons_of_mem _ (List.mem_append_left _ (List.mem_append_left _ (List.mem_of_getElem? (i := 21) rfl)))) (cz_c (List.mem_cons_of_mem _ (List.mem_append_left _ (List.mem_append_left _ (List.mem_of_getElem? (i := 22) rfl)))) (cz_c (List.mem_cons_of_mem _ (List.mem_append_left _ (List.mem_append_left _ (List.mem_of_getElem? (i := 23) rfl)))) cz_n))))))))))))))))))))))))
set_option maxRecDepth 20000 in
theorem cz_m_X7_act_wsX7_seesNow_r2 : ∀ w ∈ wsX7_seesNow_r2, w ∈ wsX7_act := (cz_c (List.mem_cons_of_mem _ (List.mem_append_left _ (List.mem_append_right _ (List.mem_append_left _ (List.mem_of_getElem? (i := 0) rfl))))) (cz_c (List.mem_cons_of_mem _ (List.mem_append_left _ (List.mem_append_right _ (List.mem_append_left _ (List.mem_of_getElem? (i := 1) rfl))))) (cz_c (List.mem_cons_of_mem _ (List.mem_append_left _ (List.mem_append_right _ (List.mem_append_left _ (List.mem_of_getElem? (i := 2) rfl))))) (cz_c (List.mem_cons_of_mem _ (List.mem_append_left _ (List.mem_append_right _ (List.mem_append_left _ (List.mem_of_getElem? (i := 3) rfl))))) (cz_c (List.mem_cons_of_mem _ (List.mem_append_left _ (List.mem_append_right _ (List.mem_append_left _ (List.mem_of_getElem? (i := 4) rfl))))) (cz_c (List.mem_cons_of_mem _ (List.mem_append_left _ (List.mem_append_left _ (List.mem_of_getElem? (i := 2) rfl)))) cz_n))))))
set_option maxRecDepth 20000 in
theorem ggX7_act_X7_seesNow : GoodIn wsX7_act wsX7_seesNow := goodIn_sub (cz_c (List.mem_cons_of_mem _ (List.mem_append_left _ (List.mem_append_right _ (List.mem_append_left _ (List.mem_of_getElem? (i := 13) rfl))))) (cz_a (cz_a cz_m_X7_act_wsX7_seesNow_r1 cz_m_X7_act_wsX7_seesNow_r2) (fun _ h => List.mem_cons_of_mem _ (List.mem_append_right _ h)))) (by decide +kernel)
set_option maxRecDepth 20000 in
theorem gX7_act_X7_seesNow : GoodIn wsX7_act (wsV RX7 131 RX7 yX7_seesNow wsX7_seesNow) := goodIn_app (goodIn_sub (cz_c (List.mem_cons_of_mem _ (List.mem_append_left _ (List.mem_append_right _ (List.mem_append_left _ (List.mem_of_getElem? (i := 10) rfl))))) (cz_c (List.mem_cons_of_mem _ (List.mem_append_left _ (List.mem_append_right _ (List.mem_append_left _ (List.mem_of_getElem? (i := 11) rfl))))) (cz_c (List.mem_cons_of_mem _ (List.mem_append_left _ (List.mem_append_right _ (List.mem_append_left _ (List.mem_of_getElem? (i := 12) rfl))))) (cz_c (List.mem_cons_of_mem _ (List.mem_append_left _ (List.mem_append_left _ (List.mem_of_getElem? (i := 7) rfl)))) cz_n)))) (by decide +kernel)) ggX7_act_X7_seesNow
set_option maxRecDepth 20000 in
theorem cz_m_X7_act_wsX7_guiltySet_r1 : ∀ w ∈ wsX7_guiltySet_r1, w ∈ wsX7_act := (cz_c (List.mem_cons_of_mem _ (List.mem_append_left _ (List.mem_append_left _ (List.mem_of_getElem? (i := 2) rfl)))) (cz_c (List.mem_cons_of_mem _ (List.mem_append_left _ (List.mem_append_right _ (List.mem_append_right _ (List.mem_of_getElem? (i := 11) rfl))))) (cz_c (List.mem_cons_of_mem _ (List.mem_append_left _ (List.mem_append_right _ (List.mem_append_right _ (List.mem_of_getElem? (i := 12) rfl))))) (cz_c (List.mem_cons_of_mem _ (List.mem_append_left _ (List.mem_append_right _ (List.mem_append_right _ (List.mem_of_getElem? (i := 13) rfl))))) (cz_c (List.mem_cons_of_mem _ (List.mem_append_left _ (List.mem_append_left _ (List.mem_of_getElem? (i := 7) rfl)))) (cz_c (List.mem_cons_of_mem _ (List.mem_append_left _ (List.mem_append_right _ (List.mem_append_right _ (List.mem_of_getElem? (i := 14) rfl))))) (cz_c (List.mem_cons_of_mem _ (List.mem_append_left _ (List.mem_append_right _ (List.mem_append_left _ (List.mem_of_getElem? (i := 14) rfl))))) (cz_c (List.mem_cons_of_mem _ (List.mem_append_left _ (List.mem_append_right _ (List.mem_append_left _ (List.mem_of_getElem? (i := 10) rfl))))) (cz_c (List.mem_cons_of_mem _ (List.mem_append_left _ (List.mem_append_right _ (List.mem_append_left _ (List.mem_of_getElem? (i := 11) rfl))))) (cz_c (List.mem_cons_of_mem _ (List.mem_append_left _ (List.mem_append_right _ (List.mem_append_left _ (List.mem_of_getElem? (i := 12) rfl))))) (cz_c (List.mem_cons_of_mem _ (List.mem_append_left _ (List.mem_append_right _ (List.mem_append_left _ (List.mem_of_getElem? (i := 13) rfl))))) (cz_c (List.mem_cons_of_mem _ (List.mem_append_left _ (List.mem_append_left _ (List.mem_of_getElem? (i := 0) rfl)))) (cz_c (List.mem_cons_of_mem _ (List.mem_append_left _ (List.mem_append_right _ (List.mem_append_left _ (List.mem_of_getElem? (i := 5) rfl))))) (cz_c (List.mem_cons_of_mem _ (List.mem_append_left _ (List.mem_append_left _ (List.mem_of_getElem? (i := 13) rfl)))) (cz_c (List.mem_cons_of_mem _ (List.mem_append_left _ (List.mem_append_right _ (List.mem_append_left _ (List.mem_of_getElem? (i := 15) rfl))))) (cz_c (List.mem_cons_of_mem _ (List.mem_append_left _ (List.mem_append_right _ (List.mem_append_left _ (List.mem_of_getElem? (i := 16) rfl))))) (cz_c (List.mem_cons_of_mem _ (List.mem_append_left _ (List.mem_append_right _ (List.mem_append_left _ (List.mem_of_getElem? (i := 17) rfl))))) (cz_c (List.mem_cons_of_mem _ (List.mem_append_left _ (List.mem_append_right _ (List.mem_append_left _ (List.mem_of_getElem? (i := 18) rfl))))) (cz_c (List.mem_cons_of_mem _ (List.mem_append_left _ (List.mem_append_right _ (List.mem_append_left _ (List.mem_of_getElem? (i := 19) rfl))))) (cz_c (List.mem_cons_of_mem _ (List.mem_append_left _ (List.mem_append_right _ (List.mem_append_left _ (List.mem_of_getElem? (i := 20) rfl))))) (cz_c (List.mem_cons_of_mem _ (List.mem_append_left _ (List.mem_append_right _ (List.mem_append_left _ (List.mem_of_getElem? (i := 21) rfl))))) (cz_c (List.mem_cons_of_mem _ (List.mem_append_left _ (List.mem_append_right _ (List.mem_append_left _ (List.mem_of_getElem? (i := 22) rfl))))) (cz_c (List.mem_cons_of_mem _ (List.mem_append_left _ (List.mem_append_right _ (List.mem_append_left _ (List.mem_of_getElem? (i := 23) rfl))))) (cz_c (List.mem_cons_of_mem _ (List.mem_append_left _ (List.mem_append_right _ (List.mem_append_right _ (List.mem_of_getElem? (i := 0) rfl))))) cz_n))))))))))))))))))))))))
set_option maxRecDepth 20000 in
theorem cz_m_X7_act_wsX7_guiltySet_r2 : ∀ w ∈ wsX7_guiltySet_r2, w ∈ wsX7_act := (cz_c (List.mem_cons_of_mem _ (List.mem_append_left _ (List.mem_append_right _ (List.mem_append_right _ (List.mem_of_getElem? (i := 1) rfl))))) (cz_c (List.mem_cons_of_mem _ (List.mem_append_left _ (List.mem_append_right _ (List.mem_append_right _ (List.mem_of_getElem? (i := 2) rfl))))) (cz_c (List.mem_cons_of_mem _ (List.mem_append_left _ (List.mem_append_right _ (List.mem_append_right _ (List.mem_of_getElem? (i := 3) rfl))))) (cz_c (List.mem_cons_of_mem _ (List.mem_append_left _ (List.mem_append_right _ (List.mem_append_right _ (List.mem_of_getElem? (i := 4) rfl))))) (cz_c (List.mem_cons_of_mem _ (List.mem_append_left _ (List.mem_append_right _ (List.mem_append_right _ (List.mem_of_getElem? (i := 5) rfl))))) (cz_c (List.mem_cons_of_mem _ (List.mem_append_left _ (List.mem_append_right _ (List.mem_append_right _ (List.mem_of_getElem? (i := 6) rfl))))) (cz_c (List.mem_cons_of_mem _ (List.mem_append_left _ (List.mem_append_left _ (List.mem_of_getElem? (i := 21) rfl)))) (cz_c (List.mem_cons_of_mem _ (List.mem_append_left _ (List.mem_append_left _ (List.mem_of_getElem? (i := 22) rfl)))) (cz_c (List.mem_cons_of_mem _ (List.mem_append_left _ (List.mem_append_left _ (List.mem_of_getElem? (i := 23) rfl)))) (cz_c (List.mem_cons_of_mem _ (List.mem_append_left _ (List.mem_append_right _ (List.mem_append_left _ (List.mem_of_getElem? (i := 0) rfl))))) (cz_c (List.mem_cons_of_mem _ (List.mem_append_left _ (List.mem_append_right _ (List.mem_append_left _ (List.mem_of_getElem? (i := 1) rfl))))) (cz_c (List.mem_cons_of_mem _ (List.mem_append_left _ (List.mem_append_right _ (List.mem_append_left _ (List.mem_of_getElem? (i := 2) rfl))))) (cz_c (List.mem_cons_of_mem _ (List.mem_append_left _ (List.mem_append_right _ (List.mem_append_left _ (List.mem_of_getElem? (i := 3) rfl))))) (cz_c (List.mem_cons_of_mem _ (List.mem_append_left _ (List.mem_append_right _ (List.mem_append_left _ (List.mem_of_getElem? (i := 4) rfl))))) cz_n))))))))))))))
set_option maxRecDepth 20000 in
theorem ggX7_act_X7_guiltySet : GoodIn wsX7_act wsX7_guiltySet := goodIn_sub (cz_c (List.mem_cons_of_mem _ (List.mem_append_left _ (List.mem_append_right _ (List.mem_append_right _ (List.mem_of_getElem? (i := 10) rfl))))) (cz_a (cz_a cz_m_X7_act_wsX7_guiltySet_r1 cz_m_X7_act_wsX7_guiltySet_r2) (fun _ h => List.mem_cons_of_mem _ (List.mem_append_right _ h)))) (by decide +kernel)
set_option maxRecDepth 20000 in
theorem gX7_act_X7_guiltySet : GoodIn wsX7_act (wsV RX7 153 RX7 yX7_guiltySet wsX7_guiltySet) := goodIn_app (goodIn_sub (cz_c (List.mem_cons_of_mem _ (List.mem_append_left _ (List.mem_append_right _ (List.mem_append_right _ (List.mem_of_getElem? (i := 7) rfl))))) (cz_c (List.mem_cons_of_mem _ (List.mem_append_left _ (List.mem_append_right _ (List.mem_append_right _ (List.mem_of_getElem? (i := 8) rfl))))) (cz_c (List.mem_cons_of_mem _ (List.mem_append_left _ (List.mem_append_right _ (List.mem_append_right _ (List.mem_of_getElem? (i := 9) rfl))))) (cz_c (List.mem_cons_of_mem _ (List.mem_append_left _ (List.mem_append_left _ (List.mem_of_getElem? (i := 7) rfl)))) cz_n)))) (by decide +kernel)) ggX7_act_X7_guiltySet
set_option maxRecDepth 20000 in
theorem ggX7_act_X7_size : GoodIn wsX7_act wsX7_size := goodIn_sub (cz_c (List.mem_cons_of_mem _ (List.mem_append_left _ (List.mem_append_right _ (List.mem_append_right _ (List.mem_of_getElem? (i := 17) rfl))))) cz_n) (by decide +kernel)
set_option maxRecDepth 20000 in
theorem gX7_act_X7_size : GoodIn wsX7_act (va_wsS RX7 89 yX7_size wsX7_size) := goodIn_app (goodIn_sub (cz_c (List.mem_cons_of_mem _ (List.mem_append_left _ (List.mem_append_right _ (List.mem_append_right _ (List.mem_of_getElem? (i := 15) rfl))))) (cz_c (List.mem_cons_of_mem _ (List.mem_append_left _ (List.mem_append_right _ (List.mem_append_right _ (List.mem_of_getElem? (i := 16) rfl))))) (cz_c (List.mem_cons_of_mem _ (List.mem_append_left _ (List.mem_append_left _ (List.mem_of_getElem? (i := 7) rfl)))) cz_n))) (by decide +kernel)) ggX7_act_X7_size
set_option maxRecDepth 20000 in
theorem cz_m_X7_guilty_wsX7_guiltySet_r1 : ∀ w ∈ wsX7_guiltySet_r1, w ∈ wsX7_guilty := (cz_c (List.mem_cons_of_mem _ (List.mem_append_left _ (List.mem_append_left _ (List.mem_of_getElem? (i := 5) rfl)))) (cz_c (List.mem_cons_of_mem _ (List.mem_append_left _ (List.mem_append_left _ (List.mem_of_getElem? (i := 6) rfl)))) (cz_c (List.mem_cons_of_mem _ (List.mem_append_left _ (List.mem_append_left _ (List.mem_of_getElem? (i := 7) rfl)))) (cz_c (List.mem_cons_of_mem _ (List.mem_append_left _ (List.mem_append_left _ (List.mem_of_getElem? (i := 8) rfl)))) (cz_c (List.mem_cons_of_mem _ (List.mem_append_left _ (List.mem_append_left _ (List.mem_of_getElem? (i := 3) rfl)))) (cz_c (List.mem_cons_of_mem _ (List.mem_append_left _ (List.mem_append_left _ (List.mem_of_getElem? (i := 9) rfl)))) (cz_c (List.mem_cons_of_mem _ (List.mem_append_left _ (List.mem_append_left _ (List.mem_of_getElem? (i := 10) rfl)))) (cz_c (List.mem_cons_of_mem _ (List.mem_append_left _ (List.mem_append_left _ (List.mem_of_getElem? (i := 11) rfl)))) (cz_c (List.mem_cons_of_mem _ (List.mem_append_left _ (List.mem_append_left _ (List.mem_of_getElem? (i := 12) rfl)))) (cz_c (List.mem_cons_of_mem _ (List.mem_append_left _ (List.mem_append_left _ (List.mem_of_getElem? (i := 13) rfl)))) (cz_c (List.mem_cons_of_mem _ (List.mem_append_left _ (List.mem_append_left _ (List.mem_of_getElem? (i := 14) rfl)))) (cz_c (List.mem_cons_of_mem _ (List.mem_append_left _ (List.mem_append_left _ (List.mem_of_getElem? (i := 15) rfl)))) (cz_c (List.mem_cons_of_mem _ (List.mem_append_left _ (List.mem_append_left _ (List.mem_of_getElem? (i := 16) rfl)))) (cz_c (List.mem_cons_of_mem _ (List.mem_append_left _ (List.mem_append_left _ (List.mem_of_getElem? (i := 17) rfl)))) (cz_c (List.mem_cons_of_mem _ (List.mem_append_left _ (List.mem_append_left _ (List.mem_of_getElem? (i := 18) rfl)))) (cz_c (List.mem_cons_of_mem _ (List.mem_append_left _ (List.mem_append_left _ (List.mem_of_getElem? (i := 19) rfl)))) (cz_c (List.mem_cons_of_mem _ (List.mem_append_left _ (List.mem_append_left _ (List.mem_of_getElem? (i := 20) rfl)))) (cz_c (List.mem_cons_of_mem _ (List.mem_append_left _ (List.mem_append_left _ (List.mem_of_getElem? (i := 21) rfl)))) (cz_c (List.mem_cons_of_mem _ (List.mem_append_left _ (List.mem_append_left _ (List.mem_of_getElem? (i := 22) rfl)))) (cz_c (List.mem_cons_of_mem _ (List.mem_append_left _ (List.mem_append_left _ (List.mem_of_getElem? (i := 23) rfl)))) (cz_c (List.mem_cons_of_mem _ (List.mem_append_left _ (List.mem_append_right _ (List.mem_of_getElem? (i := 0) rfl)))) (cz_c (List.mem_cons_of_mem _ (List.mem_append_left _ (List.mem_append_right _ (List.mem_of_getElem? (i := 1) rfl)))) (cz_c (List.mem_cons_of_mem _ (List.mem_append_left _ (List.mem_append_right _ (List.mem_of_getElem? (i := 2) rfl)))) (cz_c (List.mem_cons_of_mem _ (List.mem_append_left _ (List.mem_append_right _ (List.mem_of_getElem? (i := 3) rfl)))) cz_n))))))))))))))))))))))))
set_option maxRecDepth 20000 in
theorem cz_m_X7_guilty_wsX7_guiltySet_r2 : ∀ w ∈ wsX7_guiltySet_r2, w ∈ wsX7_guilty := (cz_c (List.mem_cons_of_mem _ (List.mem_append_left _ (List.mem_append_right _ (List.mem_of_getElem? (i := 4) rfl)))) (cz_c (List.mem_cons_of_mem _ (List.mem_append_left _ (List.mem_append_right _ (List.mem_of_getElem? (i := 5) rfl)))) (cz_c (List.mem_cons_of_mem _ (List.mem_append_left _ (List.mem_append_right _ (List.mem_of_getElem? (i := 6) rfl)))) (cz_c (List.mem_cons_of_mem _ (List.mem_append_left _ (List.mem_append_right _ (List.mem_of_getElem? (i := 7) rfl)))) (cz_c (List.mem_cons_of_mem _ (List.mem_append_left _ (List.mem_append_right _ (List.mem_of_getElem? (i := 8) rfl)))) (cz_c (List.mem_cons_of_mem _ (List.mem_append_left _ (List.mem_append_right _ (List.mem_of_getElem? (i := 9) rfl)))) (cz_c (List.mem_cons_of_mem _ (List.mem_append_left _ (List.mem_append_right _ (List.mem_of_getElem? (i := 10) rfl)))) (cz_c (List.mem_cons_of_mem _ (List.mem_append_left _ (List.mem_append_right _ (List.mem_of_getElem? (i := 11) rfl)))) (cz_c (List.mem_cons_of_mem _ (List.mem_append_left _ (List.mem_append_right _ (List.mem_of_getElem? (i := 12) rfl)))) (cz_c (List.mem_cons_of_mem _ (List.mem_append_left _ (List.mem_append_right _ (List.mem_of_getElem? (i := 13) rfl)))) (cz_c (List.mem_cons_of_mem _ (List.mem_append_left _ (List.mem_append_right _ (List.mem_of_getElem? (i := 14) rfl)))) (cz_c (List.mem_cons_of_mem _ (List.mem_append_left _ (List.mem_append_right _ (List.mem_of_getElem? (i := 15) rfl)))) (cz_c (List.mem_cons_of_mem _ (List.mem_append_left _ (List.mem_append_right _ (List.mem_of_getElem? (i := 16) rfl)))) (cz_c (List.mem_cons_of_mem _ (List.mem_append_left _ (List.mem_append_right _ (List.mem_of_getElem? (i := 17) rfl)))) cz_n))))))))))))))
set_option maxRecDepth 20000 in
theorem ggX7_guilty_X7_guiltySet : GoodIn wsX7_guilty wsX7_guiltySet := goodIn_sub (cz_c (List.mem_cons_of_mem _ (List.mem_append_left _ (List.mem_append_left _ (List.mem_of_getElem? (i := 4) rfl)))) (cz_a (cz_a cz_m_X7_guilty_wsX7_guiltySet_r1 cz_m_X7_guilty_wsX7_guiltySet_r2) (fun _ h => List.mem_cons_of_mem _ (List.mem_append_right _ h)))) (by decide +kernel)
set_option maxRecDepth 20000 in
theorem gX7_guilty_X7_guiltySet : GoodIn wsX7_guilty (wsV RX7 153 RX7 yX7_guiltySet wsX7_guiltySet) := goodIn_app (goodIn_sub (cz_c (List.mem_cons_of_mem _ (List.mem_append_left _ (List.mem_append_left _ (List.mem_of_getElem? (i := 0) rfl)))) (cz_c (List.mem_cons_of_mem _ (List.mem_append_left _ (List.mem_append_left _ (List.mem_of_getElem? (i := 1) rfl)))) (cz_c (List.mem_cons_of_mem _ (List.mem_append_left _ (List.mem_append_left _ (List.mem_of_getElem? (i := 2) rfl)))) (cz_c (List.mem_cons_of_mem _ (List.mem_append_left _ (List.mem_append_left _ (List.mem_of_getElem? (i := 3) rfl)))) cz_n)))) (by decide +kernel)) ggX7_guilty_X7_guiltySet
set_option maxRecDepth 20000 in
theorem cz_m_X7_isRoom_wsX7_isGuiltyAt_r1 : ∀ w ∈ wsX7_isGuiltyAt_r1, w ∈ wsX7_isRoom := (cz_c (List.mem_cons_of_mem _ (List.mem_append_left _ (List.mem_append_left _ (List.mem_of_getElem? (i := 9) rfl)))) (cz_c (List.mem_cons_of_mem _ (List.mem_append_left _ (List.mem_append_left _ (List.mem_of_getElem? (i := 10) rfl)))) (cz_c (List.mem_cons_of_mem _ (List.mem_append_left _ (List.mem_append_left _ (List.mem_of_getElem? (i := 11) rfl)))) (cz_c (List.mem_cons_of_mem _ (List.mem_append_left _ (List.mem_append_left _ (List.mem_of_getElem? (i := 12) rfl)))) (cz_c (List.mem_cons_of_mem _ (List.mem_append_left _ (List.mem_append_left _ (List.mem_of_getElem? (i := 7) rfl)))) (cz_c (List.mem_cons_of_mem _ (List.mem_append_left _ (List.mem_append_left _ (List.mem_of_getElem? (i := 13) rfl)))) (cz_c (List.mem_cons_of_mem _ (List.mem_append_left _ (List.mem_append_left _ (List.mem_of_getElem? (i := 14) rfl)))) (cz_c (List.mem_cons_of_mem _ (List.mem_append_left _ (List.mem_append_left _ (List.mem_of_getElem? (i := 15) rfl)))) (cz_c (List.mem_cons_of_mem _ (List.mem_append_left _ (List.mem_append_left _ (List.mem_of_getElem? (i := 16) rfl)))) (cz_c (List.mem_cons_of_mem _ (List.mem_append_left _ (List.mem_append_left _ (List.mem_of_getElem? (i := 17) rfl)))) (cz_c (List.mem_cons_of_mem _ (List.mem_append_left _ (List.mem_append_left _ (List.mem_of_getElem? (i := 18) rfl)))) (cz_c (List.mem_cons_of_mem _ (List.mem_append_left _ (List.mem_append_left _ (List.mem_of_getElem? (i := 19) rfl)))) (cz_c (List.mem_cons_of_mem _ (List.mem_append_left _ (List.mem_append_left _ (List.mem_of_getElem? (i := 20) rfl)))) (cz_c (List.mem_cons_of_mem _ (List.mem_append_left _ (List.mem_append_left _ (List.mem_of_getElem? (i := 21) rfl)))) (cz_c (List.mem_cons_of_mem _ (List.mem_append_left _ (List.mem_append_left _ (List.mem_of_getElem? (i := 22) rfl)))) (cz_c (List.mem_cons_of_mem _ (List.mem_append_left _ (List.mem_append_left _ (List.mem_of_getElem? (i := 23) rfl)))) (cz_c (List.mem_cons_of_mem _ (List.mem_append_left _ (List.mem_append_right _ (List.mem_of_getElem? (i := 0) rfl)))) (cz_c (List.mem_cons_of_mem _ (List.mem_append_left _ (List.mem_append_right _ (List.mem_of_getElem? (i := 1) rfl)))) (cz_c (List.mem_cons_of_mem _ (List.mem_append_left _ (List.mem_append_right _ (List.mem_of_getElem? (i := 2) rfl)))) (cz_c (List.mem_cons_of_mem _ (List.mem_append_left _ (List.mem_append_right _ (List.mem_of_getElem? (i := 3) rfl)))) (cz_c (List.mem_cons_of_mem _ (List.mem_append_left _ (List.mem_append_right _ (List.mem_of_getElem? (i := 4) rfl)))) (cz_c (List.mem_cons_of_mem _ (List.mem_append_left _ (List.mem_append_right _ (List.mem_of_getElem? (i := 5) rfl)))) (cz_c (List.mem_cons_of_mem _ (List.mem_append_left _ (List.mem_append_right _ (List.mem_of_getElem? (i := 6) rfl)))) (cz_c (List.mem_cons_of_mem _ (List.mem_append_left _ (List.mem_append_right _ (List.mem_of_getElem? (i := 7) rfl)))) cz_n))))))))))))))))))))))))
set_option maxRecDepth 20000 in
theorem cz_m_X7_isRoom_wsX7_isGuiltyAt_r2 : ∀ w ∈ wsX7_isGuiltyAt_r2, w ∈ wsX7_isRoom := (cz_c (List.mem_cons_of_mem _ (List.mem_append_left _ (List.mem_append_right _ (List.mem_of_getElem? (i := 8) rfl)))) (cz_c (List.mem_cons_of_mem _ (List.mem_append_left _ (List.mem_append_right _ (List.mem_of_getElem? (i := 9) rfl)))) (cz_c (List.mem_cons_of_mem _ (List.mem_append_left _ (List.mem_append_right _ (List.mem_of_getElem? (i := 10) rfl)))) (cz_c (List.mem_cons_of_mem _ (List.mem_append_left _ (List.mem_append_left _ (List.mem_of_getElem? (i := 0) rfl)))) (cz_c (List.mem_cons_of_mem _ (List.mem_append_left _ (List.mem_append_left _ (List.mem_of_getElem? (i := 2) rfl)))) (cz_c (List.mem_cons_of_mem _ (List.mem_append_left _ (List.mem_append_right _ (List.mem_of_getElem? (i := 11) rfl)))) (cz_c (List.mem_cons_of_mem _ (List.mem_append_left _ (List.mem_append_right _ (List.mem_of_getElem? (i := 12) rfl)))) (cz_c (List.mem_cons_of_mem _ (List.mem_append_left _ (List.mem_append_right _ (List.mem_of_getElem? (i := 13) rfl)))) (cz_c (List.mem_cons_of_mem _ (List.mem_append_left _ (List.mem_append_right _ (List.mem_of_getElem? (i := 14) rfl)))) (cz_c (List.mem_cons_of_mem _ (List.mem_append_left _ (List.mem_append_left _ (List.mem_of_getElem? (i := 3) rfl)))) cz_n))))))))))
set_option maxRecDepth 20000 in
theorem ggX7_isRoom_X7_isGuiltyAt : GoodIn wsX7_isRoom wsX7_isGuiltyAt := goodIn_sub (cz_c (List.mem_cons_of_mem _ (List.mem_append_left _ (List.mem_append_left _ (List.mem_of_getElem? (i := 8) rfl)))) (cz_a (cz_a cz_m_X7_isRoom_wsX7_isGuiltyAt_r1 cz_m_X7_isRoom_wsX7_isGuiltyAt_r2) (fun _ h => List.mem_cons_of_mem _ (List.mem_append_right _ h)))) (by decide +kernel)
set_option maxRecDepth 20000 in
theorem gX7_isRoom_X7_isGuiltyAt : GoodIn wsX7_isRoom (wsV RX7 157 RX7 yX7_isGuiltyAt wsX7_isGuiltyAt) := goodIn_app (goodIn_sub (cz_c (List.mem_cons_of_mem _ (List.mem_append_left _ (List.mem_append_left _ (List.mem_of_getElem? (i := 4) rfl)))) (cz_c (List.mem_cons_of_mem _ (List.mem_append_left _ (List.mem_append_left _ (List.mem_of_getElem? (i := 5) rfl)))) (cz_c (List.mem_cons_of_mem _ (List.mem_append_left _ (List.mem_append_left _ (List.mem_of_getElem? (i := 6) rfl)))) (cz_c (List.mem_cons_of_mem _ (List.mem_append_left _ (List.mem_append_left _ (List.mem_of_getElem? (i := 7) rfl)))) cz_n)))) (by decide +kernel)) ggX7_isRoom_X7_isGuiltyAt
set_option maxRecDepth 20000 in
theorem ggX7_isGuiltyAt_X7_wayTo : GoodIn wsX7_isGuiltyAt wsX7_wayTo := goodIn_sub (cz_c (List.mem_cons_of_mem _ (List.mem_append_left _ (List.mem_append_left _ (List.mem_of_getElem? (i := 5) rfl)))) (cz_c (List.mem_cons_of_mem _ (List.mem_append_left _ (List.mem_append_left _ (List.mem_of_getElem? (i := 6) rfl)))) (cz_c (List.mem_cons_of_mem _ (List.mem_append_left _ (List.mem_append_left _ (List.mem_of_getElem? (i := 7) rfl)))) (cz_c (List.mem_cons_of_mem _ (List.mem_append_left _ (List.mem_append_left _ (List.mem_of_getElem? (i := 4) rfl)))) (cz_c (List.mem_cons_of_mem _ (List.mem_append_left _ (List.mem_append_left _ (List.mem_of_getElem? (i := 8) rfl)))) (cz_c (List.mem_cons_of_mem _ (List.mem_append_left _ (List.mem_append_left _ (List.mem_of_getElem? (i := 9) rfl)))) (cz_c (List.mem_cons_of_mem _ (List.mem_append_left _ (List.mem_append_left _ (List.mem_of_getElem? (i := 10) rfl)))) (cz_c (List.mem_cons_of_mem _ (List.mem_append_left _ (List.mem_append_left _ (List.mem_of_getElem? (i := 11) rfl)))) cz_n)))))))) (by decide +kernel)
set_option maxRecDepth 20000 in
theorem gX7_isGuiltyAt_X7_wayTo : GoodIn wsX7_isGuiltyAt (va_wsS RX7 120 yX7_wayTo wsX7_wayTo) := goodIn_app (goodIn_sub (cz_c (List.mem_cons_of_mem _ (List.mem_append_left _ (List.mem_append_left _ (List.mem_of_getElem? (i := 2) rfl)))) (cz_c (List.mem_cons_of_mem _ (List.mem_append_left _ (List.mem_append_left _ (List.mem_of_getElem? (i := 3) rfl)))) (cz_c (List.mem_cons_of_mem _ (List.mem_append_left _ (List.mem_append_left _ (List.mem_of_getElem? (i := 4) rfl)))) cz_n))) (by decide +kernel)) ggX7_isGuiltyAt_X7_wayTo
set_option maxRecDepth 20000 in
theorem ggX7_isGuiltyAt_X7_far : GoodIn wsX7_isGuiltyAt wsX7_far := goodIn_sub (cz_c (List.mem_cons_of_mem _ (List.mem_append_left _ (List.mem_append_left _ (List.mem_of_getElem? (i := 14) rfl)))) (cz_c (List.mem_cons_of_mem _ (List.mem_append_left _ (List.mem_append_left _ (List.mem_of_getElem? (i := 6) rfl)))) (cz_c (List.mem_cons_of_mem _ (List.mem_append_left _ (List.mem_append_left _ (List.mem_of_getElem? (i := 7) rfl)))) (cz_c (List.mem_cons_of_mem _ (List.mem_append_left _ (List.mem_append_left _ (List.mem_of_getElem? (i := 4) rfl)))) (cz_c (List.mem_cons_of_mem _ (List.mem_append_left _ (List.mem_append_left _ (List.mem_of_getElem? (i := 8) rfl)))) cz_n))))) (by decide +kernel)
set_option maxRecDepth 20000 in
theorem gX7_isGuiltyAt_X7_far : GoodIn wsX7_isGuiltyAt (va_wsS RX7 124 yX7_far wsX7_far) := goodIn_app (goodIn_sub (cz_c (List.mem_cons_of_mem _ (List.mem_append_left _ (List.mem_append_left _ (List.mem_of_getElem? (i := 12) rfl)))) (cz_c (List.mem_cons_of_mem _ (List.mem_append_left _ (List.mem_append_left _ (List.mem_of_getElem? (i := 13) rfl)))) (cz_c (List.mem_cons_of_mem _ (List.mem_append_left _ (List.mem_append_left _ (List.mem_of_getElem? (i := 4) rfl)))) cz_n))) (by decide +kernel)) ggX7_isGuiltyAt_X7_far
set_option maxRecDepth 20000 in
theorem ggX7_isGuiltyAt_X7_sign : GoodIn wsX7_isGuiltyAt wsX7_sign := goodIn_sub (cz_c (List.mem_cons_of_mem _ (List.mem_append_left _ (List.mem_append_left _ (List.mem_of_getElem? (i := 11) rfl)))) cz_n) (by decide +kernel)
set_option maxRecDepth 20000 in
theorem gX7_isGuiltyAt_X7_sign : GoodIn wsX7_isGuiltyAt (va_wsS RX7 117 yX7_sign wsX7_sign) := goodIn_app (goodIn_sub (cz_c (List.mem_cons_of_mem _ (List.mem_append_left _ (List.mem_append_left _ (List.mem_of_getElem? (i := 9) rfl)))) (cz_c (List.mem_cons_of_mem _ (List.mem_append_left _ (List.mem_append_left _ (List.mem_of_getElem? (i := 10) rfl)))) (cz_c (List.mem_cons_of_mem _ (List.mem_append_left _ (List.mem_append_left _ (List.mem_of_getElem? (i := 4) rfl)))) cz_n))) (by decide +kernel)) ggX7_isGuiltyAt_X7_sign
set_option maxRecDepth 20000 in
theorem ggX7_isGuiltyAt_X7_isClear : GoodIn wsX7_isGuiltyAt wsX7_isClear := goodIn_sub (cz_c (List.mem_cons_of_mem _ (List.mem_append_left _ (List.mem_append_left _ (List.mem_of_getElem? (i := 18) rfl)))) (cz_a (cz_c (List.mem_cons_of_mem _ (List.mem_append_left _ (List.mem_append_left _ (List.mem_of_getElem? (i := 19) rfl)))) (cz_c (List.mem_cons_of_mem _ (List.mem_append_left _ (List.mem_append_left _ (List.mem_of_getElem? (i := 9) rfl)))) (cz_c (List.mem_cons_of_mem _ (List.mem_append_left _ (List.mem_append_left _ (List.mem_of_getElem? (i := 10) rfl)))) (cz_c (List.mem_cons_of_mem _ (List.mem_append_left _ (List.mem_append_left _ (List.mem_of_getElem? (i := 4) rfl)))) (cz_c (List.mem_cons_of_mem _ (List.mem_append_left _ (List.mem_append_left _ (List.mem_of_getElem? (i := 11) rfl)))) (cz_c (List.mem_cons_of_mem _ (List.mem_append_left _ (List.mem_append_left _ (List.mem_of_getElem? (i := 20) rfl)))) (cz_c (List.mem_cons_of_mem _ (List.mem_append_left _ (List.mem_append_left _ (List.mem_of_getElem? (i := 21) rfl)))) (cz_c (List.mem_cons_of_mem _ (List.mem_append_left _ (List.mem_append_left _ (List.mem_of_getElem? (i := 22) rfl)))) (cz_c (List.mem_cons_of_mem _ (List.mem_append_left _ (List.mem_append_left _ (List.mem_of_getElem? (i := 23) rfl)))) (cz_c (List.mem_cons_of_mem _ (List.mem_append_left _ (List.mem_append_right _ (List.mem_of_getElem? (i := 0) rfl)))) (cz_c (List.mem_cons_of_mem _ (List.mem_append_left _ (List.mem_append_right _ (List.mem_of_getElem? (i := 1) rfl)))) (cz_c (List.mem_cons_of_mem _ (List.mem_append_left _ (List.mem_append_right _ (List.mem_of_getElem? (i := 2) rfl)))) (cz_c (List.mem_cons_of_mem _ (List.mem_append_left _ (List.mem_append_left _ (List.mem_of_getElem? (i := 0) rfl)))) (cz_c (List.mem_cons_of_mem _ (List.mem_append_left _ (List.mem_append_right _ (List.mem_of_getElem? (i := 3) rfl)))) (cz_c (List.mem_cons_of_mem _ (List.mem_append_left _ (List.mem_append_right _ (List.mem_of_getElem? (i := 4) rfl)))) cz_n))))))))))))))) (fun _ h => List.mem_cons_of_mem _ (List.mem_append_right _ h)))) (by decide +kernel)
set_option maxRecDepth 20000 in
theorem gX7_isGuiltyAt_X7_isClear : GoodIn wsX7_isGuiltyAt (wsV RX7 127 RX7 yX7_isClear wsX7_isClear) := goodIn_app (goodIn_sub (cz_c (List.mem_cons_of_mem _ (List.mem_append_left _ (List.mem_append_left _ (List.mem_of_getElem? (i := 15) rfl)))) (cz_c (List.mem_cons_of_mem _ (List.mem_append_left _ (List.mem_append_left _ (List.mem_of_getElem? (i := 16) rfl)))) (cz_c (List.mem_cons_of_mem _ (List.mem_append_left _ (List.mem_append_left _ (List.mem_of_getElem? (i := 17) rfl)))) (cz_c (List.mem_cons_of_mem _ (List.mem_append_left _ (List.mem_append_left _ (List.mem_of_getElem? (i := 4) rfl)))) cz_n)))) (by decide +kernel)) ggX7_isGuiltyAt_X7_isClear
set_option maxRecDepth 20000 in
theorem ggX7_isGuiltyAt_X7_isMore : GoodIn wsX7_isGuiltyAt wsX7_isMore := goodIn_sub (cz_c (List.mem_cons_of_mem _ (List.mem_append_left _ (List.mem_append_right _ (List.mem_of_getElem? (i := 8) rfl)))) (cz_a (cz_c (List.mem_cons_of_mem _ (List.mem_append_left _ (List.mem_append_right _ (List.mem_of_getElem? (i := 9) rfl)))) cz_n) (fun _ h => List.mem_cons_of_mem _ (List.mem_append_right _ h)))) (by decide +kernel)
set_option maxRecDepth 20000 in
theorem gX7_isGuiltyAt_X7_isMore : GoodIn wsX7_isGuiltyAt (wsV RX7 160 RX7 yX7_isMore wsX7_isMore) := goodIn_app (goodIn_sub (cz_c (List.mem_cons_of_mem _ (List.mem_append_left _ (List.mem_append_right _ (List.mem_of_getElem? (i := 5) rfl)))) (cz_c (List.mem_cons_of_mem _ (List.mem_append_left _ (List.mem_append_right _ (List.mem_of_getElem? (i := 6) rfl)))) (cz_c (List.mem_cons_of_mem _ (List.mem_append_left _ (List.mem_append_right _ (List.mem_of_getElem? (i := 7) rfl)))) (cz_c (List.mem_cons_of_mem _ (List.mem_append_left _ (List.mem_append_left _ (List.mem_of_getElem? (i := 4) rfl)))) cz_n)))) (by decide +kernel)) ggX7_isGuiltyAt_X7_isMore
set_option maxRecDepth 20000 in
theorem ggX7_findRoom_X7_isEmpty : GoodIn wsX7_findRoom wsX7_isEmpty := goodIn_sub (cz_c (List.mem_cons_of_mem _ (List.mem_append_left _ (List.mem_append_left _ (List.mem_of_getElem? (i := 5) rfl)))) (cz_a (cz_c (List.mem_cons_of_mem _ (List.mem_append_left _ (List.mem_append_left _ (List.mem_of_getElem? (i := 6) rfl)))) (cz_c (List.mem_cons_of_mem _ (List.mem_append_left _ (List.mem_append_left _ (List.mem_of_getElem? (i := 7) rfl)))) (cz_c (List.mem_cons_of_mem _ (List.mem_append_left _ (List.mem_append_left _ (List.mem_of_getElem? (i := 8) rfl)))) (cz_c (List.mem_cons_of_mem _ (List.mem_append_left _ (List.mem_append_left _ (List.mem_of_getElem? (i := 4) rfl)))) (cz_c (List.mem_cons_of_mem _ (List.mem_append_left _ (List.mem_append_left _ (List.mem_of_getElem? (i := 9) rfl)))) (cz_c (List.mem_cons_of_mem _ (List.mem_append_left _ (List.mem_append_left _ (List.mem_of_getElem? (i := 10) rfl)))) (cz_c (List.mem_cons_of_mem _ (List.mem_append_left _ (List.mem_append_left _ (List.mem_of_getElem? (i := 11) rfl)))) (cz_c (List.mem_cons_of_mem _ (List.mem_append_left _ (List.mem_append_left _ (List.mem_of_getElem? (i := 12) rfl)))) (cz_c (List.mem_cons_of_mem _ (List.mem_append_left _ (List.mem_append_left _ (List.mem_of_getElem? (i := 13) rfl)))) (cz_c (List.mem_cons_of_mem _ (List.mem_append_left _ (List.mem_append_left _ (List.mem_of_getElem? (i := 14) rfl)))) (cz_c (List.mem_cons_of_mem _ (List.mem_append_left _ (List.mem_append_left _ (List.mem_of_getElem? (i := 15) rfl)))) (cz_c (List.mem_cons_of_mem _ (List.mem_append_left _ (List.mem_append_left _ (List.mem_of_getElem? (i := 16) rfl)))) cz_n)))))))))))) (fun _ h => List.mem_cons_of_mem _ (List.mem_append_right _ h)))) (by decide +kernel)
set_option maxRecDepth 20000 in
theorem gX7_findRoom_X7_isEmpty : GoodIn wsX7_findRoom (wsV RX7 107 RX7 yX7_isEmpty wsX7_isEmpty) := goodIn_app (goodIn_sub (cz_c (List.mem_cons_of_mem _ (List.mem_append_left _ (List.mem_append_left _ (List.mem_of_getElem? (i := 1) rfl)))) (cz_c (List.mem_cons_of_mem _ (List.mem_append_left _ (List.mem_append_left _ (List.mem_of_getElem? (i := 2) rfl)))) (cz_c (List.mem_cons_of_mem _ (List.mem_append_left _ (List.mem_append_left _ (List.mem_of_getElem? (i := 3) rfl)))) (cz_c (List.mem_cons_of_mem _ (List.mem_append_left _ (List.mem_append_left _ (List.mem_of_getElem? (i := 4) rfl)))) cz_n)))) (by decide +kernel)) ggX7_findRoom_X7_isEmpty
set_option maxRecDepth 20000 in
theorem cz_m_X7_findRoom_wsX7_isRoom_r1 : ∀ w ∈ wsX7_isRoom_r1, w ∈ wsX7_findRoom := (cz_c (List.mem_cons_of_mem _ (List.mem_append_left _ (List.mem_append_left _ (List.mem_of_getElem? (i := 15) rfl)))) (cz_c (List.mem_cons_of_mem _ (List.mem_append_left _ (List.mem_append_left _ (List.mem_of_getElem? (i := 21) rfl)))) (cz_c (List.mem_cons_of_mem _ (List.mem_append_left _ (List.mem_append_left _ (List.mem_of_getElem? (i := 16) rfl)))) (cz_c (List.mem_cons_of_mem _ (List.mem_append_left _ (List.mem_append_left _ (List.mem_of_getElem? (i := 0) rfl)))) (cz_c (List.mem_cons_of_mem _ (List.mem_append_left _ (List.mem_append_left _ (List.mem_of_getElem? (i := 22) rfl)))) (cz_c (List.mem_cons_of_mem _ (List.mem_append_left _ (List.mem_append_left _ (List.mem_of_getElem? (i := 23) rfl)))) (cz_c (List.mem_cons_of_mem _ (List.mem_append_left _ (List.mem_append_right _ (List.mem_of_getElem? (i := 0) rfl)))) (cz_c (List.mem_cons_of_mem _ (List.mem_append_left _ (List.mem_append_left _ (List.mem_of_getElem? (i := 4) rfl)))) (cz_c (List.mem_cons_of_mem _ (List.mem_append_left _ (List.mem_append_right _ (List.mem_of_getElem? (i := 1) rfl)))) (cz_c (List.mem_cons_of_mem _ (List.mem_append_left _ (List.mem_append_left _ (List.mem_of_getElem? (i := 14) rfl)))) (cz_c (List.mem_cons_of_mem _ (List.mem_append_left _ (List.mem_append_right _ (List.mem_of_getElem? (i := 2) rfl)))) (cz_c (List.mem_cons_of_mem _ (List.mem_append_left _ (List.mem_append_right _ (List.mem_of_getElem? (i := 3) rfl)))) (cz_c (List.mem_cons_of_mem _ (List.mem_append_left _ (List.mem_append_right _ (List.mem_of_getElem? (i := 4) rfl)))) (cz_c (List.mem_cons_of_mem _ (List.mem_append_left _ (List.mem_append_right _ (List.mem_of_getElem? (i := 5) rfl)))) (cz_c (List.mem_cons_of_mem _ (List.mem_append_left _ (List.mem_append_right _ (List.mem_of_getElem? (i := 6) rfl)))) (cz_c (List.mem_cons_of_mem _ (List.mem_append_left _ (List.mem_append_right _ (List.mem_of_getElem? (i := 7) rfl)))) (cz_c (List.mem_cons_of_mem _ (List.mem_append_left _ (List.mem_append_right _ (List.mem_of_getElem? (i := 8) rfl)))) (cz_c (List.mem_cons_of_mem _ (List.mem_append_left _ (List.mem_append_right _ (List.mem_of_getElem? (i := 9) rfl)))) (cz_c (List.mem_cons_of_mem _ (List.mem_append_left _ (List.mem_append_right _ (List.mem_of_getElem? (i := 10) rfl)))) (cz_c (List.mem_cons_of_mem _ (List.mem_append_left _ (List.mem_append_right _ (List.mem_of_getElem? (i := 11) rfl)))) (cz_c (List.mem_cons_of_mem _ (List.mem_append_left _ (List.mem_append_right _ (List.mem_of_getElem? (i := 12) rfl)))) (cz_c (List.mem_cons_of_mem _ (List.mem_append_left _ (List.mem_append_right _ (List.mem_of_getElem? (i := 13) rfl)))) (cz_c (List.mem_cons_of_mem _ (List.mem_append_left _ (List.mem_append_right _ (List.mem_of_getElem? (i := 14) rfl)))) (cz_c (List.mem_cons_of_mem _ (List.mem_append_left _ (List.mem_append_right _ (List.mem_of_getElem? (i := 15) rfl)))) cz_n))))))))))))))))))))))))
set_option maxRecDepth 20000 in
theorem cz_m_X7_findRoom_wsX7_isRoom_r2 : ∀ w ∈ wsX7_isRoom_r2, w ∈ wsX7_findRoom := (cz_c (List.mem_cons_of_mem _ (List.mem_append_left _ (List.mem_append_right _ (List.mem_of_getElem? (i := 16) rfl)))) (cz_c (List.mem_cons_of_mem _ (List.mem_append_left _ (List.mem_append_right _ (List.mem_of_getElem? (i := 17) rfl)))) (cz_c (List.mem_cons_of_mem _ (List.mem_append_left _ (List.mem_append_right _ (List.mem_of_getElem? (i := 18) rfl)))) (cz_c (List.mem_cons_of_mem _ (List.mem_append_left _ (List.mem_append_left _ (List.mem_of_getElem? (i := 6) rfl)))) (cz_c (List.mem_cons_of_mem _ (List.mem_append_left _ (List.mem_append_left _ (List.mem_of_getElem? (i := 7) rfl)))) (cz_c (List.mem_cons_of_mem _ (List.mem_append_left _ (List.mem_append_left _ (List.mem_of_getElem? (i := 8) rfl)))) (cz_c (List.mem_cons_of_mem _ (List.mem_append_left _ (List.mem_append_left _ (List.mem_of_getElem? (i := 9) rfl)))) (cz_c (List.mem_cons_of_mem _ (List.mem_append_left _ (List.mem_append_left _ (List.mem_of_getElem? (i := 10) rfl)))) (cz_c (List.mem_cons_of_mem _ (List.mem_append_left _ (List.mem_append_left _ (List.mem_of_getElem? (i := 11) rfl)))) (cz_c (List.mem_cons_of_mem _ (List.mem_append_left _ (List.mem_append_left _ (List.mem_of_getElem? (i := 12) rfl)))) (cz_c (List.mem_cons_of_mem _ (List.mem_append_left _ (List.mem_append_left _ (List.mem_of_getElem? (i := 13) rfl)))) (cz_c (List.mem_cons_of_mem _ (List.mem_append_left _ (List.mem_append_right _ (List.mem_of_getElem? (i := 19) rfl)))) (cz_c (List.mem_cons_of_mem _ (List.mem_append_left _ (List.mem_append_right _ (List.mem_of_getElem? (i := 20) rfl)))) (cz_c (List.mem_cons_of_mem _ (List.mem_append_left _ (List.mem_append_right _ (List.mem_of_getElem? (i := 21) rfl)))) (cz_c (List.mem_cons_of_mem _ (List.mem_append_left _ (List.mem_append_right _ (List.mem_of_getElem? (i := 22) rfl)))) cz_n)))))))))))))))
set_option maxRecDepth 20000 in
theorem ggX7_findRoom_X7_isRoom : GoodIn wsX7_findRoom wsX7_isRoom := goodIn_sub (cz_c (List.mem_cons_of_mem _ (List.mem_append_left _ (List.mem_append_left _ (List.mem_of_getElem? (i := 20) rfl)))) (cz_a (cz_a cz_m_X7_findRoom_wsX7_isRoom_r1 cz_m_X7_findRoom_wsX7_isRoom_r2) (fun _ h => List.mem_cons_of_mem _ (List.mem_append_right _ h)))) (by decide +kernel)
set_option maxRecDepth 20000 in
theorem gX7_findRoom_X7_isRoom : GoodIn wsX7_findRoom (wsV RX7 163 RX7 yX7_isRoom wsX7_isRoom) := goodIn_app (goodIn_sub (cz_c (List.mem_cons_of_mem _ (List.mem_append_left _ (List.mem_append_left _ (List.mem_of_getElem? (i := 17) rfl)))) (cz_c (List.mem_cons_of_mem _ (List.mem_append_left _ (List.mem_append_left _ (List.mem_of_getElem? (i := 18) rfl)))) (cz_c (List.mem_cons_of_mem _ (List.mem_append_left _ (List.mem_append_left _ (List.mem_of_getElem? (i := 19) rfl)))) (cz_c (List.mem_cons_of_mem _ (List.mem_append_left _ (List.mem_append_left _ (List.mem_of_getElem? (i := 4) rfl)))) cz_n)))) (by decide +kernel)) ggX7_findRoom_X7_isRoom
set_option maxRecDepth 20000 in
theorem cz_m_X7_roomNow_wsX7_findRoom_r1 : ∀ w ∈ wsX7_findRoom_r1, w ∈ wsX7_roomNow := (cz_c (List.mem_cons_of_mem _ (List.mem_append_left _ (List.mem_append_left _ (List.mem_of_getElem? (i := 0) rfl)))) (cz_c (List.mem_cons_of_mem _ (List.mem_append_left _ (List.mem_append_left _ (List.mem_of_getElem? (i := 6) rfl)))) (cz_c (List.mem_cons_of_mem _ (List.mem_append_left _ (List.mem_append_left _ (List.mem_of_getElem? (i := 7) rfl)))) (cz_c (List.mem_cons_of_mem _ (List.mem_append_left _ (List.mem_append_left _ (List.mem_of_getElem? (i := 8) rfl)))) (cz_c (List.mem_cons_of_mem _ (List.mem_append_left _ (List.mem_append_left _ (List.mem_of_getElem? (i := 4) rfl)))) (cz_c (List.mem_cons_of_mem _ (List.mem_append_left _ (List.mem_append_left _ (List.mem_of_getElem? (i := 9) rfl)))) (cz_c (List.mem_cons_of_mem _ (List.mem_append_left _ (List.mem_append_left _ (List.mem_of_getElem? (i := 10) rfl)))) (cz_c (List.mem_cons_of_mem _ (List.mem_append_left _ (List.mem_append_left _ (List.mem_of_getElem? (i := 11) rfl)))) (cz_c (List.mem_cons_of_mem _ (List.mem_append_left _ (List.mem_append_left _ (List.mem_of_getElem? (i := 12) rfl)))) (cz_c (List.mem_cons_of_mem _ (List.mem_append_left _ (List.mem_append_left _ (List.mem_of_getElem? (i := 13) rfl)))) (cz_c (List.mem_cons_of_mem _ (List.mem_append_left _ (List.mem_append_left _ (List.mem_of_getElem? (i := 14) rfl)))) (cz_c (List.mem_cons_of_mem _ (List.mem_append_left _ (List.mem_append_left _ (List.mem_of_getElem? (i := 15) rfl)))) (cz_c (List.mem_cons_of_mem _ (List.mem_append_left _ (List.mem_append_left _ (List.mem_of_getElem? (i := 16) rfl)))) (cz_c (List.mem_cons_of_mem _ (List.mem_append_left _ (List.mem_append_left _ (List.mem_of_getElem? (i := 17) rfl)))) (cz_c (List.mem_cons_of_mem _ (List.mem_append_left _ (List.mem_append_left _ (List.mem_of_getElem? (i := 18) rfl)))) (cz_c (List.mem_cons_of_mem _ (List.mem_append_left _ (List.mem_append_left _ (List.mem_of_getElem? (i := 19) rfl)))) (cz_c (List.mem_cons_of_mem _ (List.mem_append_left _ (List.mem_append_left _ (List.mem_of_getElem? (i := 20) rfl)))) (cz_c (List.mem_cons_of_mem _ (List.mem_append_left _ (List.mem_append_left _ (List.mem_of_getElem? (i := 21) rfl)))) (cz_c (List.mem_cons_of_mem _ (List.mem_append_left _ (List.mem_append_left _ (List.mem_of_getElem? (i := 22) rfl)))) (cz_c (List.mem_cons_of_mem _ (List.mem_append_left _ (List.mem_append_left _ (List.mem_of_getElem? (i := 23) rfl)))) (cz_c (List.mem_cons_of_mem _ (List.mem_append_left _ (List.mem_append_right _ (List.mem_append_left _ (List.mem_of_getElem? (i := 0) rfl))))) (cz_c (List.mem_cons_of_mem _ (List.mem_append_left _ (List.mem_append_right _ (List.mem_append_left _ (List.mem_of_getElem? (i := 1) rfl))))) (cz_c (List.mem_cons_of_mem _ (List.mem_append_left _ (List.mem_append_right _ (List.mem_append_left _ (List.mem_of_getElem? (i := 2) rfl))))) (cz_c (List.mem_cons_of_mem _ (List.mem_append_left _ (List.mem_append_right _ (List.mem_append_left _ (List.mem_of_getElem? (i := 3) rfl))))) cz_n))))))))))))))))))))))))
set_option maxRecDepth 20000 in
theorem cz_m_X7_roomNow_wsX7_findRoom_r2 : ∀ w ∈ wsX7_findRoom_r2, w ∈ wsX7_roomNow := (cz_c (List.mem_cons_of_mem _ (List.mem_append_left _ (List.mem_append_right _ (List.mem_append_left _ (List.mem_of_getElem? (i := 4) rfl))))) (cz_c (List.mem_cons_of_mem _ (List.mem_append_left _ (List.mem_append_right _ (List.mem_append_left _ (List.mem_of_getElem? (i := 5) rfl))))) (cz_c (List.mem_cons_of_mem _ (List.mem_append_left _ (List.mem_append_right _ (List.mem_append_left _ (List.mem_of_getElem? (i := 6) rfl))))) (cz_c (List.mem_cons_of_mem _ (List.mem_append_left _ (List.mem_append_right _ (List.mem_append_left _ (List.mem_of_getElem? (i := 7) rfl))))) (cz_c (List.mem_cons_of_mem _ (List.mem_append_left _ (List.mem_append_right _ (List.mem_append_left _ (List.mem_of_getElem? (i := 8) rfl))))) (cz_c (List.mem_cons_of_mem _ (List.mem_append_left _ (List.mem_append_right _ (List.mem_append_left _ (List.mem_of_getElem? (i := 9) rfl))))) (cz_c (List.mem_cons_of_mem _ (List.mem_append_left _ (List.mem_append_right _ (List.mem_append_left _ (List.mem_of_getElem? (i := 10) rfl))))) (cz_c (List.mem_cons_of_mem _ (List.mem_append_left _ (List.mem_append_right _ (List.mem_append_left _ (List.mem_of_getElem? (i := 11) rfl))))) (cz_c (List.mem_cons_of_mem _ (List.mem_append_left _ (List.mem_append_right _ (List.mem_append_left _ (List.mem_of_getElem? (i := 12) rfl))))) (cz_c (List.mem_cons_of_mem _ (List.mem_append_left _ (List.mem_append_right _ (List.mem_append_left _ (List.mem_of_getElem? (i := 13) rfl))))) (cz_c (List.mem_cons_of_mem _ (List.mem_append_left _ (List.mem_append_right _ (List.mem_append_left _ (List.mem_of_getElem? (i := 14) rfl))))) (cz_c (List.mem_cons_of_mem _ (List.mem_append_left _ (List.mem_append_right _ (List.mem_append_left _ (List.mem_of_getElem? (i := 15) rfl))))) (cz_c (List.mem_cons_of_mem _ (List.mem_append_left _ (List.mem_append_right _ (List.mem_append_left _ (List.mem_of_getElem? (i := 16) rfl))))) (cz_c (List.mem_cons_of_mem _ (List.mem_append_left _ (List.mem_append_right _ (List.mem_append_left _ (List.mem_of_getElem? (i := 17) rfl))))) (cz_c (List.mem_cons_of_mem _ (List.mem_append_left _ (List.mem_append_right _ (List.mem_append_left _ (List.mem_of_getElem? (i := 18) rfl))))) (cz_c (List.mem_cons_of_mem _ (List.mem_append_left _ (List.mem_append_right _ (List.mem_append_left _ (List.mem_of_getElem? (i := 19) rfl))))) (cz_c (List.mem_cons_of_mem _ (List.mem_append_left _ (List.mem_append_right _ (List.mem_append_left _ (List.mem_of_getElem? (i := 20) rfl))))) (cz_c (List.mem_cons_of_mem _ (List.mem_append_left _ (List.mem_append_right _ (List.mem_append_left _ (List.mem_of_getElem? (i := 21) rfl))))) (cz_c (List.mem_cons_of_mem _ (List.mem_append_left _ (List.mem_append_right _ (List.mem_append_left _ (List.mem_of_getElem? (i := 22) rfl))))) (cz_c (List.mem_cons_of_mem _ (List.mem_append_left _ (List.mem_append_right _ (List.mem_append_left _ (List.mem_of_getElem? (i := 23) rfl))))) (cz_c (List.mem_cons_of_mem _ (List.mem_append_left _ (List.mem_append_right _ (List.mem_append_right _ (List.mem_of_getElem? (i := 0) rfl))))) (cz_c (List.mem_cons_of_mem _ (List.mem_append_left _ (List.mem_append_right _ (List.mem_append_right _ (List.mem_of_getElem? (i := 1) rfl))))) (cz_c (List.mem_cons_of_mem _ (List.mem_append_left _ (List.mem_append_right _ (List.mem_append_right _ (List.mem_of_getElem? (i := 2) rfl))))) cz_n)))))))))))))))))))))))
set_option maxRecDepth 20000 in
theorem ggX7_roomNow_X7_findRoom : GoodIn wsX7_roomNow wsX7_findRoom := goodIn_sub (cz_c (List.mem_cons_of_mem _ (List.mem_append_left _ (List.mem_append_left _ (List.mem_of_getElem? (i := 5) rfl)))) (cz_a (cz_a cz_m_X7_roomNow_wsX7_findRoom_r1 cz_m_X7_roomNow_wsX7_findRoom_r2) (fun _ h => List.mem_cons_of_mem _ (List.mem_append_right _ h)))) (by decide +kernel)
set_option maxRecDepth 20000 in
theorem gX7_roomNow_X7_findRoom : GoodIn wsX7_roomNow (wsV RX7 166 RX7 yX7_findRoom wsX7_findRoom) := goodIn_app (goodIn_sub (cz_c (List.mem_cons_of_mem _ (List.mem_append_left _ (List.mem_append_left _ (List.mem_of_getElem? (i := 1) rfl)))) (cz_c (List.mem_cons_of_mem _ (List.mem_append_left _ (List.mem_append_left _ (List.mem_of_getElem? (i := 2) rfl)))) (cz_c (List.mem_cons_of_mem _ (List.mem_append_left _ (List.mem_append_left _ (List.mem_of_getElem? (i := 3) rfl)))) (cz_c (List.mem_cons_of_mem _ (List.mem_append_left _ (List.mem_append_left _ (List.mem_of_getElem? (i := 4) rfl)))) cz_n)))) (by decide +kernel)) ggX7_roomNow_X7_findRoom
set_option maxRecDepth 20000 in
theorem ggX7_room_X7_within : GoodIn wsX7_room wsX7_within := goodIn_sub (cz_c (List.mem_cons_of_mem _ (List.mem_append_left _ (List.mem_append_left _ (List.mem_of_getElem? (i := 4) rfl)))) cz_n) (by decide +kernel)
set_option maxRecDepth 20000 in
theorem gX7_room_X7_within : GoodIn wsX7_room (va_wsS RX7 57 yX7_within wsX7_within) := goodIn_app (goodIn_sub (cz_c (List.mem_cons_of_mem _ (List.mem_append_left _ (List.mem_append_left _ (List.mem_of_getElem? (i := 1) rfl)))) (cz_c (List.mem_cons_of_mem _ (List.mem_append_left _ (List.mem_append_left _ (List.mem_of_getElem? (i := 2) rfl)))) (cz_c (List.mem_cons_of_mem _ (List.mem_append_left _ (List.mem_append_left _ (List.mem_of_getElem? (i := 3) rfl)))) cz_n))) (by decide +kernel)) ggX7_room_X7_within
set_option maxRecDepth 20000 in
theorem cz_m_X7_room_wsX7_roomNow_r1 : ∀ w ∈ wsX7_roomNow_r1, w ∈ wsX7_room := (cz_c (List.mem_cons_of_mem _ (List.mem_append_left _ (List.mem_append_left _ (List.mem_of_getElem? (i := 9) rfl)))) (cz_c (List.mem_cons_of_mem _ (List.mem_append_left _ (List.mem_append_left _ (List.mem_of_getElem? (i := 10) rfl)))) (cz_c (List.mem_cons_of_mem _ (List.mem_append_left _ (List.mem_append_left _ (List.mem_of_getElem? (i := 11) rfl)))) (cz_c (List.mem_cons_of_mem _ (List.mem_append_left _ (List.mem_append_left _ (List.mem_of_getElem? (i := 12) rfl)))) (cz_c (List.mem_cons_of_mem _ (List.mem_append_left _ (List.mem_append_left _ (List.mem_of_getElem? (i := 3) rfl)))) (cz_c (List.mem_cons_of_mem _ (List.mem_append_left _ (List.mem_append_left _ (List.mem_of_getElem? (i := 13) rfl)))) (cz_c (List.mem_cons_of_mem _ (List.mem_append_left _ (List.mem_append_left _ (List.mem_of_getElem? (i := 14) rfl)))) (cz_c (List.mem_cons_of_mem _ (List.mem_append_left _ (List.mem_append_left _ (List.mem_of_getElem? (i := 15) rfl)))) (cz_c (List.mem_cons_of_mem _ (List.mem_append_left _ (List.mem_append_left _ (List.mem_of_getElem? (i := 16) rfl)))) (cz_c (List.mem_cons_of_mem _ (List.mem_append_left _ (List.mem_append_left _ (List.mem_of_getElem? (i := 17) rfl)))) (cz_c (List.mem_cons_of_mem _ (List.mem_append_left _ (List.mem_append_left _ (List.mem_of_getElem? (i := 18) rfl)))) (cz_c (List.mem_cons_of_mem _ (List.mem_append_left _ (List.mem_append_left _ (List.mem_of_getElem? (i := 19) rfl)))) (cz_c (List.mem_cons_of_mem _ (List.mem_append_left _ (List.mem_append_left _ (List.mem_of_getElem? (i := 20) rfl)))) (cz_c (List.mem_cons_of_mem _ (List.mem_append_left _ (List.mem_append_left _ (List.mem_of_getElem? (i := 21) rfl)))) (cz_c (List.mem_cons_of_mem _ (List.mem_append_left _ (List.mem_append_left _ (List.mem_of_getElem? (i := 22) rfl)))) (cz_c (List.mem_cons_of_mem _ (List.mem_append_left _ (List.mem_append_left _ (List.mem_of_getElem? (i := 23) rfl)))) (cz_c (List.mem_cons_of_mem _ (List.mem_append_left _ (List.mem_append_right _ (List.mem_append_left _ (List.mem_of_getElem? (i := 0) rfl))))) (cz_c (List.mem_cons_of_mem _ (List.mem_append_left _ (List.mem_append_right _ (List.mem_append_left _ (List.mem_of_getElem? (i := 1) rfl))))) (cz_c (List.mem_cons_of_mem _ (List.mem_append_left _ (List.mem_append_left _ (List.mem_of_getElem? (i := 0) rfl)))) (cz_c (List.mem_cons_of_mem _ (List.mem_append_left _ (List.mem_append_right _ (List.mem_append_left _ (List.mem_of_getElem? (i := 2) rfl))))) (cz_c (List.mem_cons_of_mem _ (List.mem_append_left _ (List.mem_append_right _ (List.mem_append_left _ (List.mem_of_getElem? (i := 3) rfl))))) (cz_c (List.mem_cons_of_mem _ (List.mem_append_left _ (List.mem_append_right _ (List.mem_append_left _ (List.mem_of_getElem? (i := 4) rfl))))) (cz_c (List.mem_cons_of_mem _ (List.mem_append_left _ (List.mem_append_right _ (List.mem_append_left _ (List.mem_of_getElem? (i := 5) rfl))))) (cz_c (List.mem_cons_of_mem _ (List.mem_append_left _ (List.mem_append_right _ (List.mem_append_left _ (List.mem_of_getElem? (i := 6) rfl))))) cz_n))))))))))))))))))))))))
set_option maxRecDepth 20000 in
theorem cz_m_X7_room_wsX7_roomNow_r2 : ∀ w ∈ wsX7_roomNow_r2, w ∈ wsX7_room := (cz_c (List.mem_cons_of_mem _ (List.mem_append_left _ (List.mem_append_right _ (List.mem_append_left _ (List.mem_of_getElem? (i := 7) rfl))))) (cz_c (List.mem_cons_of_mem _ (List.mem_append_left _ (List.mem_append_right _ (List.mem_append_left _ (List.mem_of_getElem? (i := 8) rfl))))) (cz_c (List.mem_cons_of_mem _ (List.mem_append_left _ (List.mem_append_right _ (List.mem_append_left _ (List.mem_of_getElem? (i := 9) rfl))))) (cz_c (List.mem_cons_of_mem _ (List.mem_append_left _ (List.mem_append_right _ (List.mem_append_left _ (List.mem_of_getElem? (i := 10) rfl))))) (cz_c (List.mem_cons_of_mem _ (List.mem_append_left _ (List.mem_append_right _ (List.mem_append_left _ (List.mem_of_getElem? (i := 11) rfl))))) (cz_c (List.mem_cons_of_mem _ (List.mem_append_left _ (List.mem_append_right _ (List.mem_append_left _ (List.mem_of_getElem? (i := 12) rfl))))) (cz_c (List.mem_cons_of_mem _ (List.mem_append_left _ (List.mem_append_right _ (List.mem_append_left _ (List.mem_of_getElem? (i := 13) rfl))))) (cz_c (List.mem_cons_of_mem _ (List.mem_append_left _ (List.mem_append_right _ (List.mem_append_left _ (List.mem_of_getElem? (i := 14) rfl))))) (cz_c (List.mem_cons_of_mem _ (List.mem_append_left _ (List.mem_append_right _ (List.mem_append_left _ (List.mem_of_getElem? (i := 15) rfl))))) (cz_c (List.mem_cons_of_mem _ (List.mem_append_left _ (List.mem_append_right _ (List.mem_append_left _ (List.mem_of_getElem? (i := 16) rfl))))) (cz_c (List.mem_cons_of_mem _ (List.mem_append_left _ (List.mem_append_right _ (List.mem_append_left _ (List.mem_of_getElem? (i := 17) rfl))))) (cz_c (List.mem_cons_of_mem _ (List.mem_append_left _ (List.mem_append_right _ (List.mem_append_left _ (List.mem_of_getElem? (i := 18) rfl))))) (cz_c (List.mem_cons_of_mem _ (List.mem_append_left _ (List.mem_append_right _ (List.mem_append_left _ (List.mem_of_getElem? (i := 19) rfl))))) (cz_c (List.mem_cons_of_mem _ (List.mem_append_left _ (List.mem_append_right _ (List.mem_append_left _ (List.mem_of_getElem? (i := 20) rfl))))) (cz_c (List.mem_cons_of_mem _ (List.mem_append_left _ (List.mem_append_right _ (List.mem_append_left _ (List.mem_of_getElem? (i := 21) rfl))))) (cz_c (List.mem_cons_of_mem _ (List.mem_append_left _ (List.mem_append_right _ (List.mem_append_left _ (List.mem_of_getElem? (i := 22) rfl))))) (cz_c (List.mem_cons_of_mem _ (List.mem_append_left _ (List.mem_append_right _ (List.mem_append_left _ (List.mem_of_getElem? (i := 23) rfl))))) (cz_c (List.mem_cons_of_mem _ (List.mem_append_left _ (List.mem_append_right _ (List.mem_append_right _ (List.mem_of_getElem? (i := 0) rfl))))) (cz_c (List.mem_cons_of_mem _ (List.mem_append_left _ (List.mem_append_right _ (List.mem_append_right _ (List.mem_of_getElem? (i := 1) rfl))))) (cz_c (List.mem_cons_of_mem _ (List.mem_append_left _ (List.mem_append_right _ (List.mem_append_right _ (List.mem_of_getElem? (i := 2) rfl))))) (cz_c (List.mem_cons_of_mem _ (List.mem_append_left _ (List.mem_append_right _ (List.mem_append_right _ (List.mem_of_getElem? (i := 3) rfl))))) (cz_c (List.mem_cons_of_mem _ (List.mem_append_left _ (List.mem_append_right _ (List.mem_append_right _ (List.mem_of_getElem? (i := 4) rfl))))) (cz_c (List.mem_cons_of_mem _ (List.mem_append_left _ (List.mem_append_right _ (List.mem_append_right _ (List.mem_of_getElem? (i := 5) rfl))))) (cz_c (List.mem_cons_of_mem _ (List.mem_append_left _ (List.mem_append_right _ (List.mem_append_right _ (List.mem_of_getElem? (i := 6) rfl))))) cz_n))))))))))))))))))))))))
set_option maxRecDepth 20000 in
theorem cz_m_X7_room_wsX7_roomNow_r3 : ∀ w ∈ wsX7_roomNow_r3, w ∈ wsX7_room := (cz_c (List.mem_cons_of_mem _ (List.mem_append_left _ (List.mem_append_right _ (List.mem_append_right _ (List.mem_of_getElem? (i := 7) rfl))))) (cz_c (List.mem_cons_of_mem _ (List.mem_append_left _ (List.mem_append_right _ (List.mem_append_right _ (List.mem_of_getElem? (i := 8) rfl))))) (cz_c (List.mem_cons_of_mem _ (List.mem_append_left _ (List.mem_append_right _ (List.mem_append_right _ (List.mem_of_getElem? (i := 9) rfl))))) cz_n)))
set_option maxRecDepth 20000 in
theorem ggX7_room_X7_roomNow : GoodIn wsX7_room wsX7_roomNow := goodIn_sub (cz_c (List.mem_cons_of_mem _ (List.mem_append_left _ (List.mem_append_left _ (List.mem_of_getElem? (i := 8) rfl)))) (cz_a (cz_a cz_m_X7_room_wsX7_roomNow_r1 (cz_a cz_m_X7_room_wsX7_roomNow_r2 cz_m_X7_room_wsX7_roomNow_r3)) (fun _ h => List.mem_cons_of_mem _ (List.mem_append_right _ h)))) (by decide +kernel)
set_option maxRecDepth 20000 in
theorem gX7_room_X7_roomNow : GoodIn wsX7_room (wsV RX7 169 RX7 yX7_roomNow wsX7_roomNow) := goodIn_app (goodIn_sub (cz_c (List.mem_cons_of_mem _ (List.mem_append_left _ (List.mem_append_left _ (List.mem_of_getElem? (i := 5) rfl)))) (cz_c (List.mem_cons_of_mem _ (List.mem_append_left _ (List.mem_append_left _ (List.mem_of_getElem? (i := 6) rfl)))) (cz_c (List.mem_cons_of_mem _ (List.mem_append_left _ (List.mem_append_left _ (List.mem_of_getElem? (i := 7) rfl)))) (cz_c (List.mem_cons_of_mem _ (List.mem_append_left _ (List.mem_append_left _ (List.mem_of_getElem? (i := 3) rfl)))) cz_n)))) (by decide +kernel)) ggX7_room_X7_roomNow
set_option maxRecDepth 20000 in
theorem ggX7_brickNow_X7_isEmpty : GoodIn wsX7_brickNow wsX7_isEmpty := goodIn_sub (cz_c (List.mem_cons_of_mem _ (List.mem_append_left _ (List.mem_append_left _ (List.mem_of_getElem? (i := 5) rfl)))) (cz_a (cz_c (List.mem_cons_of_mem _ (List.mem_append_left _ (List.mem_append_left _ (List.mem_of_getElem? (i := 0) rfl)))) (cz_c (List.mem_cons_of_mem _ (List.mem_append_left _ (List.mem_append_left _ (List.mem_of_getElem? (i := 6) rfl)))) (cz_c (List.mem_cons_of_mem _ (List.mem_append_left _ (List.mem_append_left _ (List.mem_of_getElem? (i := 7) rfl)))) (cz_c (List.mem_cons_of_mem _ (List.mem_append_left _ (List.mem_append_left _ (List.mem_of_getElem? (i := 4) rfl)))) (cz_c (List.mem_cons_of_mem _ (List.mem_append_left _ (List.mem_append_left _ (List.mem_of_getElem? (i := 8) rfl)))) (cz_c (List.mem_cons_of_mem _ (List.mem_append_left _ (List.mem_append_left _ (List.mem_of_getElem? (i := 9) rfl)))) (cz_c (List.mem_cons_of_mem _ (List.mem_append_left _ (List.mem_append_left _ (List.mem_of_getElem? (i := 10) rfl)))) (cz_c (List.mem_cons_of_mem _ (List.mem_append_left _ (List.mem_append_left _ (List.mem_of_getElem? (i := 11) rfl)))) (cz_c (List.mem_cons_of_mem _ (List.mem_append_left _ (List.mem_append_left _ (List.mem_of_getElem? (i := 12) rfl)))) (cz_c (List.mem_cons_of_mem _ (List.mem_append_left _ (List.mem_append_left _ (List.mem_of_getElem? (i := 13) rfl)))) (cz_c (List.mem_cons_of_mem _ (List.mem_append_left _ (List.mem_append_left _ (List.mem_of_getElem? (i := 14) rfl)))) (cz_c (List.mem_cons_of_mem _ (List.mem_append_left _ (List.mem_append_left _ (List.mem_of_getElem? (i := 15) rfl)))) cz_n)))))))))))) (fun _ h => List.mem_cons_of_mem _ (List.mem_append_right _ h)))) (by decide +kernel)
set_option maxRecDepth 20000 in
theorem gX7_brickNow_X7_isEmpty : GoodIn wsX7_brickNow (wsV RX7 107 RX7 yX7_isEmpty wsX7_isEmpty) := goodIn_app (goodIn_sub (cz_c (List.mem_cons_of_mem _ (List.mem_append_left _ (List.mem_append_left _ (List.mem_of_getElem? (i := 1) rfl)))) (cz_c (List.mem_cons_of_mem _ (List.mem_append_left _ (List.mem_append_left _ (List.mem_of_getElem? (i := 2) rfl)))) (cz_c (List.mem_cons_of_mem _ (List.mem_append_left _ (List.mem_append_left _ (List.mem_of_getElem? (i := 3) rfl)))) (cz_c (List.mem_cons_of_mem _ (List.mem_append_left _ (List.mem_append_left _ (List.mem_of_getElem? (i := 4) rfl)))) cz_n)))) (by decide +kernel)) ggX7_brickNow_X7_isEmpty
set_option maxRecDepth 20000 in
theorem cz_m_X7_brickNow_wsX7_guiltySet_r1 : ∀ w ∈ wsX7_guiltySet_r1, w ∈ wsX7_brickNow := (cz_c (List.mem_cons_of_mem _ (List.mem_append_left _ (List.mem_append_left _ (List.mem_of_getElem? (i := 14) rfl)))) (cz_c (List.mem_cons_of_mem _ (List.mem_append_left _ (List.mem_append_left _ (List.mem_of_getElem? (i := 20) rfl)))) (cz_c (List.mem_cons_of_mem _ (List.mem_append_left _ (List.mem_append_left _ (List.mem_of_getElem? (i := 21) rfl)))) (cz_c (List.mem_cons_of_mem _ (List.mem_append_left _ (List.mem_append_left _ (List.mem_of_getElem? (i := 22) rfl)))) (cz_c (List.mem_cons_of_mem _ (List.mem_append_left _ (List.mem_append_left _ (List.mem_of_getElem? (i := 4) rfl)))) (cz_c (List.mem_cons_of_mem _ (List.mem_append_left _ (List.mem_append_left _ (List.mem_of_getElem? (i := 23) rfl)))) (cz_c (List.mem_cons_of_mem _ (List.mem_append_left _ (List.mem_append_right _ (List.mem_append_left _ (List.mem_of_getElem? (i := 0) rfl))))) (cz_c (List.mem_cons_of_mem _ (List.mem_append_left _ (List.mem_append_right _ (List.mem_append_left _ (List.mem_of_getElem? (i := 1) rfl))))) (cz_c (List.mem_cons_of_mem _ (List.mem_append_left _ (List.mem_append_right _ (List.mem_append_left _ (List.mem_of_getElem? (i := 2) rfl))))) (cz_c (List.mem_cons_of_mem _ (List.mem_append_left _ (List.mem_append_right _ (List.mem_append_left _ (List.mem_of_getElem? (i := 3) rfl))))) (cz_c (List.mem_cons_of_mem _ (List.mem_append_left _ (List.mem_append_right _ (List.mem_append_left _ (List.mem_of_getElem? (i := 4) rfl))))) (cz_c (List.mem_cons_of_mem _ (List.mem_append_left _ (List.mem_append_left _ (List.mem_of_getElem? (i := 13) rfl)))) (cz_c (List.mem_cons_of_mem _ (List.mem_append_left _ (List.mem_append_left _ (List.mem_of_getElem? (i := 15) rfl)))) (cz_c (List.mem_cons_of_mem _ (List.mem_append_left _ (List.mem_append_right _ (List.mem_append_left _ (List.mem_of_getElem? (i := 5) rfl))))) (cz_c (List.mem_cons_of_mem _ (List.mem_append_left _ (List.mem_append_right _ (List.mem_append_left _ (List.mem_of_getElem? (i := 6) rfl))))) (cz_c (List.mem_cons_of_mem _ (List.mem_append_left _ (List.mem_append_right _ (List.mem_append_left _ (List.mem_of_getElem? (i := 7) rfl))))) (cz_c (List.mem_cons_of_mem _ (List.mem_append_left _ (List.mem_append_right _ (List.mem_append_left _ (List.mem_of_getElem? (i := 8) rfl))))) (cz_c (List.mem_cons_of_mem _ (List.mem_append_left _ (List.mem_append_right _ (List.mem_append_left _ (List.mem_of_getElem? (i := 9) rfl))))) (cz_c (List.mem_cons_of_mem _ (List.mem_append_left _ (List.mem_append_right _ (List.mem_append_left _ (List.mem_of_getElem? (i := 10) rfl))))) (cz_c (List.mem_cons_of_mem _ (List.mem_append_left _ (List.mem_append_right _ (List.mem_append_left _ (List.mem_of_getElem? (i := 11) rfl))))) (cz_c (List.mem_cons_of_mem _ (List.mem_append_left _ (List.mem_append_right _ (List.mem_append_left _ (List.mem_of_getElem? (i := 12) rfl))))) (cz_c (List.mem_cons_of_mem _ (List.mem_append_left _ (List.mem_append_right _ (List.mem_append_left _ (List.mem_of_getElem? (i := 13) rfl))))) (cz_c (List.mem_cons_of_mem _ (List.mem_append_left _ (List.mem_append_right _ (List.mem_append_left _ (List.mem_of_getElem? (i := 14) rfl))))) (cz_c (List.mem_cons_of_mem _ (List.mem_append_left _ (List.mem_append_right _ (List.mem_append_left _ (List.mem_of_getElem? (i := 15) rfl))))) cz_n))))))))))))))))))))))))
set_option maxRecDepth 20000 in
theorem cz_m_X7_brickNow_wsX7_guiltySet_r2 : ∀ w ∈ wsX7_guiltySet_r2, w ∈ wsX7_brickNow := (cz_c (List.mem_cons_of_mem _ (List.mem_append_left _ (List.mem_append_right _ (List.mem_append_left _ (List.mem_of_getElem? (i := 16) rfl))))) (cz_c (List.mem_cons_of_mem _ (List.mem_append_left _ (List.mem_append_right _ (List.mem_append_left _ (List.mem_of_getElem? (i := 17) rfl))))) (cz_c (List.mem_cons_of_mem _ (List.mem_append_left _ (List.mem_append_right _ (List.mem_append_left _ (List.mem_of_getElem? (i := 18) rfl))))) (cz_c (List.mem_cons_of_mem _ (List.mem_append_left _ (List.mem_append_right _ (List.mem_append_left _ (List.mem_of_getElem? (i := 19) rfl))))) (cz_c (List.mem_cons_of_mem _ (List.mem_append_left _ (List.mem_append_right _ (List.mem_append_left _ (List.mem_of_getElem? (i := 20) rfl))))) (cz_c (List.mem_cons_of_mem _ (List.mem_append_left _ (List.mem_append_right _ (List.mem_append_left _ (List.mem_of_getElem? (i := 21) rfl))))) (cz_c (List.mem_cons_of_mem _ (List.mem_append_left _ (List.mem_append_left _ (List.mem_of_getElem? (i := 0) rfl)))) (cz_c (List.mem_cons_of_mem _ (List.mem_append_left _ (List.mem_append_left _ (List.mem_of_getElem? (i := 6) rfl)))) (cz_c (List.mem_cons_of_mem _ (List.mem_append_left _ (List.mem_append_left _ (List.mem_of_getElem? (i := 7) rfl)))) (cz_c (List.mem_cons_of_mem _ (List.mem_append_left _ (List.mem_append_left _ (List.mem_of_getElem? (i := 8) rfl)))) (cz_c (List.mem_cons_of_mem _ (List.mem_append_left _ (List.mem_append_left _ (List.mem_of_getElem? (i := 9) rfl)))) (cz_c (List.mem_cons_of_mem _ (List.mem_append_left _ (List.mem_append_left _ (List.mem_of_getElem? (i := 10) rfl)))) (cz_c (List.mem_cons_of_mem _ (List.mem_append_left _ (List.mem_append_left _ (List.mem_of_getElem? (i := 11) rfl)))) (cz_c (List.mem_cons_of_mem _ (List.mem_append_left _ (List.mem_append_left _ (List.mem_of_getElem? (i := 12) rfl)))) cz_n))))))))))))))
set_option maxRecDepth 20000 in
theorem ggX7_brickNow_X7_guiltySet : GoodIn wsX7_brickNow wsX7_guiltySet := goodIn_sub (cz_c (List.mem_cons_of_mem _ (List.mem_append_left _ (List.mem_append_left _ (List.mem_of_getElem? (i := 19) rfl)))) (cz_a (cz_a cz_m_X7_brickNow_wsX7_guiltySet_r1 cz_m_X7_brickNow_wsX7_guiltySet_r2) (fun _ h => List.mem_cons_of_mem _ (List.mem_append_right _ h)))) (by decide +kernel)
set_option maxRecDepth 20000 in
theorem gX7_brickNow_X7_guiltySet : GoodIn wsX7_brickNow (wsV RX7 153 RX7 yX7_guiltySet wsX7_guiltySet) := goodIn_app (goodIn_sub (cz_c (List.mem_cons_of_mem _ (List.mem_append_left _ (List.mem_append_left _ (List.mem_of_getElem? (i := 16) rfl)))) (cz_c (List.mem_cons_of_mem _ (List.mem_append_left _ (List.mem_append_left _ (List.mem_of_getElem? (i := 17) rfl)))) (cz_c (List.mem_cons_of_mem _ (List.mem_append_left _ (List.mem_append_left _ (List.mem_of_getElem? (i := 18) rfl)))) (cz_c (List.mem_cons_of_mem _ (List.mem_append_left _ (List.mem_append_left _ (List.mem_of_getElem? (i := 4) rfl)))) cz_n)))) (by decide +kernel)) ggX7_brickNow_X7_guiltySet
set_option maxRecDepth 20000 in
theorem ggX7_brickNow_X7_size : GoodIn wsX7_brickNow wsX7_size := goodIn_sub (cz_c (List.mem_cons_of_mem _ (List.mem_append_left _ (List.mem_append_right _ (List.mem_append_right _ (List.mem_of_getElem? (i := 0) rfl))))) cz_n) (by decide +kernel)
set_option maxRecDepth 20000 in
theorem gX7_brickNow_X7_size : GoodIn wsX7_brickNow (va_wsS RX7 89 yX7_size wsX7_size) := goodIn_app (goodIn_sub (cz_c (List.mem_cons_of_mem _ (List.mem_append_left _ (List.mem_append_right _ (List.mem_append_left _ (List.mem_of_getElem? (i := 22) rfl))))) (cz_c (List.mem_cons_of_mem _ (List.mem_append_left _ (List.mem_append_right _ (List.mem_append_left _ (List.mem_of_getElem? (i := 23) rfl))))) (cz_c (List.mem_cons_of_mem _ (List.mem_append_left _ (List.mem_append_left _ (List.mem_of_getElem? (i := 4) rfl)))) cz_n))) (by decide +kernel)) ggX7_brickNow_X7_size
set_option maxRecDepth 20000 in
theorem ggX7_brick_X7_within : GoodIn wsX7_brick wsX7_within := goodIn_sub (cz_c (List.mem_cons_of_mem _ (List.mem_append_left _ (List.mem_append_left _ (List.mem_of_getElem? (i := 4) rfl)))) cz_n) (by decide +kernel)
set_option maxRecDepth 20000 in
theorem gX7_brick_X7_within : GoodIn wsX7_brick (va_wsS RX7 57 yX7_within wsX7_within) := goodIn_app (goodIn_sub (cz_c (List.mem_cons_of_mem _ (List.mem_append_left _ (List.mem_append_left _ (List.mem_of_getElem? (i := 1) rfl)))) (cz_c (List.mem_cons_of_mem _ (List.mem_append_left _ (List.mem_append_left _ (List.mem_of_getElem? (i := 2) rfl)))) (cz_c (List.mem_cons_of_mem _ (List.mem_append_left _ (List.mem_append_left _ (List.mem_of_getElem? (i := 3) rfl)))) cz_n))) (by decide +kernel)) ggX7_brick_X7_within
set_option maxRecDepth 20000 in
theorem cz_m_X7_brick_wsX7_brickNow_r1 : ∀ w ∈ wsX7_brickNow_r1, w ∈ wsX7_brick := (cz_c (List.mem_cons_of_mem _ (List.mem_append_left _ (List.mem_append_left _ (List.mem_of_getElem? (i := 9) rfl)))) (cz_c (List.mem_cons_of_mem _ (List.mem_append_left _ (List.mem_append_left _ (List.mem_of_getElem? (i := 10) rfl)))) (cz_c (List.mem_cons_of_mem _ (List.mem_append_left _ (List.mem_append_left _ (List.mem_of_getElem? (i := 11) rfl)))) (cz_c (List.mem_cons_of_mem _ (List.mem_append_left _ (List.mem_append_left _ (List.mem_of_getElem? (i := 12) rfl)))) (cz_c (List.mem_cons_of_mem _ (List.mem_append_left _ (List.mem_append_left _ (List.mem_of_getElem? (i := 3) rfl)))) (cz_c (List.mem_cons_of_mem _ (List.mem_append_left _ (List.mem_append_left _ (List.mem_of_getElem? (i := 13) rfl)))) (cz_c (List.mem_cons_of_mem _ (List.mem_append_left _ (List.mem_append_left _ (List.mem_of_getElem? (i := 14) rfl)))) (cz_c (List.mem_cons_of_mem _ (List.mem_append_left _ (List.mem_append_left _ (List.mem_of_getElem? (i := 15) rfl)))) (cz_c (List.mem_cons_of_mem _ (List.mem_append_left _ (List.mem_append_left _ (List.mem_of_getElem? (i := 16) rfl)))) (cz_c (List.mem_cons_of_mem _ (List.mem_append_left _ (List.mem_append_left _ (List.mem_of_getElem? (i := 17) rfl)))) (cz_c (List.mem_cons_of_mem _ (List.mem_append_left _ (List.mem_append_left _ (List.mem_of_getElem? (i := 18) rfl)))) (cz_c (List.mem_cons_of_mem _ (List.mem_append_left _ (List.mem_append_left _ (List.mem_of_getElem? (i := 19) rfl)))) (cz_c (List.mem_cons_of_mem _ (List.mem_append_left _ (List.mem_append_left _ (List.mem_of_getElem? (i := 20) rfl)))) (cz_c (List.mem_cons_of_mem _ (List.mem_append_left _ (List.mem_append_left _ (List.mem_of_getElem? (i := 0) rfl)))) (cz_c (List.mem_cons_of_mem _ (List.mem_append_left _ (List.mem_append_left _ (List.mem_of_getElem? (i := 21) rfl)))) (cz_c (List.mem_cons_of_mem _ (List.mem_append_left _ (List.mem_append_left _ (List.mem_of_getElem? (i := 22) rfl)))) (cz_c (List.mem_cons_of_mem _ (List.mem_append_left _ (List.mem_append_left _ (List.mem_of_getElem? (i := 23) rfl)))) (cz_c (List.mem_cons_of_mem _ (List.mem_append_left _ (List.mem_append_right _ (List.mem_append_left _ (List.mem_of_getElem? (i := 0) rfl))))) (cz_c (List.mem_cons_of_mem _ (List.mem_append_left _ (List.mem_append_right _ (List.mem_append_left _ (List.mem_of_getElem? (i := 1) rfl))))) (cz_c (List.mem_cons_of_mem _ (List.mem_append_left _ (List.mem_append_right _ (List.mem_append_left _ (List.mem_of_getElem? (i := 2) rfl))))) (cz_c (List.mem_cons_of_mem _ (List.mem_append_left _ (List.mem_append_right _ (List.mem_append_left _ (List.mem_of_getElem? (i := 3) rfl))))) (cz_c (List.mem_cons_of_mem _ (List.mem_append_left _ (List.mem_append_right _ (List.mem_append_left _ (List.mem_of_getElem? (i := 4) rfl))))) (cz_c (List.mem_cons_of_mem _ (List.mem_append_left _ (List.mem_append_right _ (List.mem_append_left _ (List.mem_of_getElem? (i := 5) rfl))))) (cz_c (List.mem_cons_of_mem _ (List.mem_append_left _ (List.mem_append_right _ (List.mem_append_left _ (List.mem_of_getElem? (i := 6) rfl))))) cz_n))))))))))))))))))))))))
set_option maxRecDepth 20000 in
theorem cz_m_X7_brick_wsX7_brickNow_r2 : ∀ w ∈ wsX7_brickNow_r2, w ∈ wsX7_brick := (cz_c (List.mem_cons_of_mem _ (List.mem_append_left _ (List.mem_append_right _ (List.mem_append_left _ (List.mem_of_getElem? (i := 7) rfl))))) (cz_c (List.mem_cons_of_mem _ (List.mem_append_left _ (List.mem_append_right _ (List.mem_append_left _ (List.mem_of_getElem? (i := 8) rfl))))) (cz_c (List.mem_cons_of_mem _ (List.mem_append_left _ (List.mem_append_right _ (List.mem_append_left _ (List.mem_of_getElem? (i := 9) rfl))))) (cz_c (List.mem_cons_of_mem _ (List.mem_append_left _ (List.mem_append_right _ (List.mem_append_left _ (List.mem_of_getElem? (i := 10) rfl))))) (cz_c (List.mem_cons_of_mem _ (List.mem_append_left _ (List.mem_append_right _ (List.mem_append_left _ (List.mem_of_getElem? (i := 11) rfl))))) (cz_c (List.mem_cons_of_mem _ (List.mem_append_left _ (List.mem_append_right _ (List.mem_append_left _ (List.mem_of_getElem? (i := 12) rfl))))) (cz_c (List.mem_cons_of_mem _ (List.mem_append_left _ (List.mem_append_right _ (List.mem_append_left _ (List.mem_of_getElem? (i := 13) rfl))))) (cz_c (List.mem_cons_of_mem _ (List.mem_append_left _ (List.mem_append_right _ (List.mem_append_left _ (List.mem_of_getElem? (i := 14) rfl))))) (cz_c (List.mem_cons_of_mem _ (List.mem_append_left _ (List.mem_append_right _ (List.mem_append_left _ (List.mem_of_getElem? (i := 15) rfl))))) (cz_c (List.mem_cons_of_mem _ (List.mem_append_left _ (List.mem_append_right _ (List.mem_append_left _ (List.mem_of_getElem? (i := 16) rfl))))) (cz_c (List.mem_cons_of_mem _ (List.mem_append_left _ (List.mem_append_right _ (List.mem_append_left _ (List.mem_of_getElem? (i := 17) rfl))))) (cz_c (List.mem_cons_of_mem _ (List.mem_append_left _ (List.mem_append_right _ (List.mem_append_left _ (List.mem_of_getElem? (i := 18) rfl))))) (cz_c (List.mem_cons_of_mem _ (List.mem_append_left _ (List.mem_append_right _ (List.mem_append_left _ (List.mem_of_getElem? (i := 19) rfl))))) (cz_c (List.mem_cons_of_mem _ (List.mem_append_left _ (List.mem_append_right _ (List.mem_append_left _ (List.mem_of_getElem? (i := 20) rfl))))) (cz_c (List.mem_cons_of_mem _ (List.mem_append_left _ (List.mem_append_right _ (List.mem_append_left _ (List.mem_of_getElem? (i := 21) rfl))))) (cz_c (List.mem_cons_of_mem _ (List.mem_append_left _ (List.mem_append_right _ (List.mem_append_left _ (List.mem_of_getElem? (i := 22) rfl))))) (cz_c (List.mem_cons_of_mem _ (List.mem_append_left _ (List.mem_append_right _ (List.mem_append_left _ (List.mem_of_getElem? (i := 23) rfl))))) (cz_c (List.mem_cons_of_mem _ (List.mem_append_left _ (List.mem_append_right _ (List.mem_append_right _ (List.mem_of_getElem? (i := 0) rfl))))) (cz_c (List.mem_cons_of_mem _ (List.mem_append_left _ (List.mem_append_right _ (List.mem_append_right _ (List.mem_of_getElem? (i := 1) rfl))))) (cz_c (List.mem_cons_of_mem _ (List.mem_append_left _ (List.mem_append_right _ (List.mem_append_right _ (List.mem_of_getElem? (i := 2) rfl))))) (cz_c (List.mem_cons_of_mem _ (List.mem_append_left _ (List.mem_append_right _ (List.mem_append_right _ (List.mem_of_getElem? (i := 3) rfl))))) (cz_c (List.mem_cons_of_mem _ (List.mem_append_left _ (List.mem_append_right _ (List.mem_append_right _ (List.mem_of_getElem? (i := 4) rfl))))) (cz_c (List.mem_cons_of_mem _ (List.mem_append_left _ (List.mem_append_right _ (List.mem_append_right _ (List.mem_of_getElem? (i := 5) rfl))))) (cz_c (List.mem_cons_of_mem _ (List.mem_append_left _ (List.mem_append_right _ (List.mem_append_right _ (List.mem_of_getElem? (i := 6) rfl))))) cz_n))))))))))))))))))))))))
set_option maxRecDepth 20000 in
theorem cz_m_X7_brick_wsX7_brickNow_r3 : ∀ w ∈ wsX7_brickNow_r3, w ∈ wsX7_brick := (cz_c (List.mem_cons_of_mem _ (List.mem_append_left _ (List.mem_append_right _ (List.mem_append_right _ (List.mem_of_getElem? (i := 7) rfl))))) cz_n)
set_option maxRecDepth 20000 in
theorem ggX7_brick_X7_brickNow : GoodIn wsX7_brick wsX7_brickNow := goodIn_sub (cz_c (List.mem_cons_of_mem _ (List.mem_append_left _ (List.mem_append_left _ (List.mem_of_getElem? (i := 8) rfl)))) (cz_a (cz_a cz_m_X7_brick_wsX7_brickNow_r1 (cz_a cz_m_X7_brick_wsX7_brickNow_r2 cz_m_X7_brick_wsX7_brickNow_r3)) (fun _ h => List.mem_cons_of_mem _ (List.mem_append_right _ h)))) (by decide +kernel)
set_option maxRecDepth 20000 in
theorem gX7_brick_X7_brickNow : GoodIn wsX7_brick (wsV RX7 172 RX7 yX7_brickNow wsX7_brickNow) := goodIn_app (goodIn_sub (cz_c (List.mem_cons_of_mem _ (List.mem_append_left _ (List.mem_append_left _ (List.mem_of_getElem? (i := 5) rfl)))) (cz_c (List.mem_cons_of_mem _ (List.mem_append_left _ (List.mem_append_left _ (List.mem_of_getElem? (i := 6) rfl)))) (cz_c (List.mem_cons_of_mem _ (List.mem_append_left _ (List.mem_append_left _ (List.mem_of_getElem? (i := 7) rfl)))) (cz_c (List.mem_cons_of_mem _ (List.mem_append_left _ (List.mem_append_left _ (List.mem_of_getElem? (i := 3) rfl)))) cz_n)))) (by decide +kernel)) ggX7_brick_X7_brickNow
set_option maxRecDepth 20000 in
theorem cz_m_X7_wayNow_wsX7_actsFrom_r1 : ∀ w ∈ wsX7_actsFrom_r1, w ∈ wsX7_wayNow := (cz_c (List.mem_cons_of_mem _ (List.mem_append_left _ (List.mem_append_left _ (List.mem_of_getElem? (i := 0) rfl)))) (cz_c (List.mem_cons_of_mem _ (List.mem_append_left _ (List.mem_append_left _ (List.mem_of_getElem? (i := 1) rfl)))) (cz_c (List.mem_cons_of_mem _ (List.mem_append_left _ (List.mem_append_left _ (List.mem_of_getElem? (i := 2) rfl)))) (cz_c (List.mem_cons_of_mem _ (List.mem_append_left _ (List.mem_append_left _ (List.mem_of_getElem? (i := 3) rfl)))) (cz_c (List.mem_cons_of_mem _ (List.mem_append_left _ (List.mem_append_left _ (List.mem_of_getElem? (i := 9) rfl)))) (cz_c (List.mem_cons_of_mem _ (List.mem_append_left _ (List.mem_append_left _ (List.mem_of_getElem? (i := 10) rfl)))) (cz_c (List.mem_cons_of_mem _ (List.mem_append_left _ (List.mem_append_left _ (List.mem_of_getElem? (i := 11) rfl)))) (cz_c (List.mem_cons_of_mem _ (List.mem_append_left _ (List.mem_append_left _ (List.mem_of_getElem? (i := 7) rfl)))) (cz_c (List.mem_cons_of_mem _ (List.mem_append_left _ (List.mem_append_left _ (List.mem_of_getElem? (i := 12) rfl)))) (cz_c (List.mem_cons_of_mem _ (List.mem_append_left _ (List.mem_append_left _ (List.mem_of_getElem? (i := 13) rfl)))) (cz_c (List.mem_cons_of_mem _ (List.mem_append_left _ (List.mem_append_left _ (List.mem_of_getElem? (i := 14) rfl)))) (cz_c (List.mem_cons_of_mem _ (List.mem_append_left _ (List.mem_append_left _ (List.mem_of_getElem? (i := 15) rfl)))) (cz_c (List.mem_cons_of_mem _ (List.mem_append_left _ (List.mem_append_left _ (List.mem_of_getElem? (i := 16) rfl)))) (cz_c (List.mem_cons_of_mem _ (List.mem_append_left _ (List.mem_append_left _ (List.mem_of_getElem? (i := 17) rfl)))) (cz_c (List.mem_cons_of_mem _ (List.mem_append_left _ (List.mem_append_left _ (List.mem_of_getElem? (i := 18) rfl)))) (cz_c (List.mem_cons_of_mem _ (List.mem_append_left _ (List.mem_append_left _ (List.mem_of_getElem? (i := 19) rfl)))) (cz_c (List.mem_cons_of_mem _ (List.mem_append_left _ (List.mem_append_left _ (List.mem_of_getElem? (i := 20) rfl)))) (cz_c (List.mem_cons_of_mem _ (List.mem_append_left _ (List.mem_append_left _ (List.mem_of_getElem? (i := 21) rfl)))) (cz_c (List.mem_cons_of_mem _ (List.mem_append_left _ (List.mem_append_left _ (List.mem_of_getElem? (i := 22) rfl)))) (cz_c (List.mem_cons_of_mem _ (List.mem_append_left _ (List.mem_append_left _ (List.mem_of_getElem? (i := 23) rfl)))) (cz_c (List.mem_cons_of_mem _ (List.mem_append_left _ (List.mem_append_right _ (List.mem_append_left _ (List.mem_of_getElem? (i := 0) rfl))))) (cz_c (List.mem_cons_of_mem _ (List.mem_append_left _ (List.mem_append_right _ (List.mem_append_left _ (List.mem_of_getElem? (i := 1) rfl))))) (cz_c (List.mem_cons_of_mem _ (List.mem_append_left _ (List.mem_append_right _ (List.mem_append_left _ (List.mem_of_getElem? (i := 2) rfl))))) (cz_c (List.mem_cons_of_mem _ (List.mem_append_left _ (List.mem_append_right _ (List.mem_append_left _ (List.mem_of_getElem? (i := 3) rfl))))) cz_n))))))))))))))))))))))))
set_option maxRecDepth 20000 in
theorem cz_m_X7_wayNow_wsX7_actsFrom_r2 : ∀ w ∈ wsX7_actsFrom_r2, w ∈ wsX7_wayNow := (cz_c (List.mem_cons_of_mem _ (List.mem_append_left _ (List.mem_append_right _ (List.mem_append_left _ (List.mem_of_getElem? (i := 4) rfl))))) (cz_c (List.mem_cons_of_mem _ (List.mem_append_left _ (List.mem_append_right _ (List.mem_append_left _ (List.mem_of_getElem? (i := 5) rfl))))) (cz_c (List.mem_cons_of_mem _ (List.mem_append_left _ (List.mem_append_right _ (List.mem_append_left _ (List.mem_of_getElem? (i := 6) rfl))))) (cz_c (List.mem_cons_of_mem _ (List.mem_append_left _ (List.mem_append_right _ (List.mem_append_left _ (List.mem_of_getElem? (i := 7) rfl))))) (cz_c (List.mem_cons_of_mem _ (List.mem_append_left _ (List.mem_append_right _ (List.mem_append_left _ (List.mem_of_getElem? (i := 8) rfl))))) (cz_c (List.mem_cons_of_mem _ (List.mem_append_left _ (List.mem_append_right _ (List.mem_append_left _ (List.mem_of_getElem? (i := 9) rfl))))) (cz_c (List.mem_cons_of_mem _ (List.mem_append_left _ (List.mem_append_right _ (List.mem_append_left _ (List.mem_of_getElem? (i := 10) rfl))))) (cz_c (List.mem_cons_of_mem _ (List.mem_append_left _ (List.mem_append_right _ (List.mem_append_left _ (List.mem_of_getElem? (i := 11) rfl))))) (cz_c (List.mem_cons_of_mem _ (List.mem_append_left _ (List.mem_append_right _ (List.mem_append_left _ (List.mem_of_getElem? (i := 12) rfl))))) (cz_c (List.mem_cons_of_mem _ (List.mem_append_left _ (List.mem_append_right _ (List.mem_append_left _ (List.mem_of_getElem? (i := 13) rfl))))) (cz_c (List.mem_cons_of_mem _ (List.mem_append_left _ (List.mem_append_right _ (List.mem_append_left _ (List.mem_of_getElem? (i := 14) rfl))))) (cz_c (List.mem_cons_of_mem _ (List.mem_append_left _ (List.mem_append_right _ (List.mem_append_left _ (List.mem_of_getElem? (i := 15) rfl))))) (cz_c (List.mem_cons_of_mem _ (List.mem_append_left _ (List.mem_append_right _ (List.mem_append_left _ (List.mem_of_getElem? (i := 16) rfl))))) (cz_c (List.mem_cons_of_mem _ (List.mem_append_left _ (List.mem_append_right _ (List.mem_append_left _ (List.mem_of_getElem? (i := 17) rfl))))) (cz_c (List.mem_cons_of_mem _ (List.mem_append_left _ (List.mem_append_right _ (List.mem_append_left _ (List.mem_of_getElem? (i := 18) rfl))))) (cz_c (List.mem_cons_of_mem _ (List.mem_append_left _ (List.mem_append_right _ (List.mem_append_left _ (List.mem_of_getElem? (i := 19) rfl))))) (cz_c (List.mem_cons_of_mem _ (List.mem_append_left _ (List.mem_append_right _ (List.mem_append_left _ (List.mem_of_getElem? (i := 20) rfl))))) (cz_c (List.mem_cons_of_mem _ (List.mem_append_left _ (List.mem_append_right _ (List.mem_append_left _ (List.mem_of_getElem? (i := 21) rfl))))) (cz_c (List.mem_cons_of_mem _ (List.mem_append_left _ (List.mem_append_right _ (List.mem_append_left _ (List.mem_of_getElem? (i := 22) rfl))))) (cz_c (List.mem_cons_of_mem _ (List.mem_append_left _ (List.mem_append_right _ (List.mem_append_left _ (List.mem_of_getElem? (i := 23) rfl))))) (cz_c (List.mem_cons_of_mem _ (List.mem_append_left _ (List.mem_append_right _ (List.mem_append_right _ (List.mem_of_getElem? (i := 0) rfl))))) (cz_c (List.mem_cons_of_mem _ (List.mem_append_left _ (List.mem_append_right _ (List.mem_append_right _ (List.mem_of_getElem? (i := 1) rfl))))) (cz_c (List.mem_cons_of_mem _ (List.mem_append_left _ (List.mem_append_right _ (List.mem_append_right _ (List.mem_of_getElem? (i := 2) rfl))))) (cz_c (List.mem_cons_of_mem _ (List.mem_append_left _ (List.mem_append_right _ (List.mem_append_right _ (List.mem_of_getElem? (i := 3) rfl))))) cz_n))))))))))))))))))))))))
set_option maxRecDepth 20000 in
theorem cz_m_X7_wayNow_wsX7_actsFrom_r3 : ∀ w ∈ wsX7_actsFrom_r3, w ∈ wsX7_wayNow := (cz_c (List.mem_cons_of_mem _ (List.mem_append_left _ (List.mem_append_right _ (List.mem_append_right _ (List.mem_of_getElem? (i := 4) rfl))))) (cz_c (List.mem_cons_of_mem _ (List.mem_append_left _ (List.mem_append_right _ (List.mem_append_right _ (List.mem_of_getElem? (i := 5) rfl))))) (cz_c (List.mem_cons_of_mem _ (List.mem_append_left _ (List.mem_append_right _ (List.mem_append_right _ (List.mem_of_getElem? (i := 6) rfl))))) (cz_c (List.mem_cons_of_mem _ (List.mem_append_left _ (List.mem_append_right _ (List.mem_append_right _ (List.mem_of_getElem? (i := 7) rfl))))) (cz_c (List.mem_cons_of_mem _ (List.mem_append_left _ (List.mem_append_right _ (List.mem_append_right _ (List.mem_of_getElem? (i := 8) rfl))))) (cz_c (List.mem_cons_of_mem _ (List.mem_append_left _ (List.mem_append_right _ (List.mem_append_right _ (List.mem_of_getElem? (i := 9) rfl))))) (cz_c (List.mem_cons_of_mem _ (List.mem_append_left _ (List.mem_append_right _ (List.mem_append_right _ (List.mem_of_getElem? (i := 10) rfl))))) (cz_c (List.mem_cons_of_mem _ (List.mem_append_left _ (List.mem_append_right _ (List.mem_append_right _ (List.mem_of_getElem? (i := 11) rfl))))) (cz_c (List.mem_cons_of_mem _ (List.mem_append_left _ (List.mem_append_right _ (List.mem_append_right _ (List.mem_of_getElem? (i := 12) rfl))))) (cz_c (List.mem_cons_of_mem _ (List.mem_append_left _ (List.mem_append_right _ (List.mem_append_right _ (List.mem_of_getElem? (i := 13) rfl))))) (cz_c (List.mem_cons_of_mem _ (List.mem_append_left _ (List.mem_append_right _ (List.mem_append_right _ (List.mem_of_getElem? (i := 14) rfl))))) cz_n)))))))))))
set_option maxRecDepth 20000 in
theorem ggX7_wayNow_X7_actsFrom : GoodIn wsX7_wayNow wsX7_actsFrom := goodIn_sub (cz_c (List.mem_cons_of_mem _ (List.mem_append_left _ (List.mem_append_left _ (List.mem_of_getElem? (i := 8) rfl)))) (cz_a (cz_a cz_m_X7_wayNow_wsX7_actsFrom_r1 (cz_a cz_m_X7_wayNow_wsX7_actsFrom_r2 cz_m_X7_wayNow_wsX7_actsFrom_r3)) (fun _ h => List.mem_cons_of_mem _ (List.mem_append_right _ h)))) (by decide +kernel)
set_option maxRecDepth 20000 in
theorem gX7_wayNow_X7_actsFrom : GoodIn wsX7_wayNow (wsV RX7 175 RX7 yX7_actsFrom wsX7_actsFrom) := goodIn_app (goodIn_sub (cz_c (List.mem_cons_of_mem _ (List.mem_append_left _ (List.mem_append_left _ (List.mem_of_getElem? (i := 4) rfl)))) (cz_c (List.mem_cons_of_mem _ (List.mem_append_left _ (List.mem_append_left _ (List.mem_of_getElem? (i := 5) rfl)))) (cz_c (List.mem_cons_of_mem _ (List.mem_append_left _ (List.mem_append_left _ (List.mem_of_getElem? (i := 6) rfl)))) (cz_c (List.mem_cons_of_mem _ (List.mem_append_left _ (List.mem_append_left _ (List.mem_of_getElem? (i := 7) rfl)))) cz_n)))) (by decide +kernel)) ggX7_wayNow_X7_actsFrom
set_option maxRecDepth 20000 in
theorem ggX7_actsFrom_X7_mayAct : GoodIn wsX7_actsFrom wsX7_mayAct := goodIn_sub (cz_c (List.mem_cons_of_mem _ (List.mem_append_left _ (List.mem_append_left _ (List.mem_of_getElem? (i := 8) rfl)))) (cz_a (cz_c (List.mem_cons_of_mem _ (List.mem_append_left _ (List.mem_append_left _ (List.mem_of_getElem? (i := 0) rfl)))) (cz_c (List.mem_cons_of_mem _ (List.mem_append_left _ (List.mem_append_left _ (List.mem_of_getElem? (i := 1) rfl)))) (cz_c (List.mem_cons_of_mem _ (List.mem_append_left _ (List.mem_append_left _ (List.mem_of_getElem? (i := 9) rfl)))) (cz_c (List.mem_cons_of_mem _ (List.mem_append_left _ (List.mem_append_left _ (List.mem_of_getElem? (i := 10) rfl)))) (cz_c (List.mem_cons_of_mem _ (List.mem_append_left _ (List.mem_append_left _ (List.mem_of_getElem? (i := 7) rfl)))) (cz_c (List.mem_cons_of_mem _ (List.mem_append_left _ (List.mem_append_left _ (List.mem_of_getElem? (i := 11) rfl)))) (cz_c (List.mem_cons_of_mem _ (List.mem_append_left _ (List.mem_append_left _ (List.mem_of_getElem? (i := 12) rfl)))) (cz_c (List.mem_cons_of_mem _ (List.mem_append_left _ (List.mem_append_left _ (List.mem_of_getElem? (i := 13) rfl)))) (cz_c (List.mem_cons_of_mem _ (List.mem_append_left _ (List.mem_append_left _ (List.mem_of_getElem? (i := 14) rfl)))) (cz_c (List.mem_cons_of_mem _ (List.mem_append_left _ (List.mem_append_left _ (List.mem_of_getElem? (i := 15) rfl)))) (cz_c (List.mem_cons_of_mem _ (List.mem_append_left _ (List.mem_append_left _ (List.mem_of_getElem? (i := 16) rfl)))) (cz_c (List.mem_cons_of_mem _ (List.mem_append_left _ (List.mem_append_left _ (List.mem_of_getElem? (i := 17) rfl)))) (cz_c (List.mem_cons_of_mem _ (List.mem_append_left _ (List.mem_append_left _ (List.mem_of_getElem? (i := 18) rfl)))) (cz_c (List.mem_cons_of_mem _ (List.mem_append_left _ (List.mem_append_left _ (List.mem_of_getElem? (i := 19) rfl)))) (cz_c (List.mem_cons_of_mem _ (List.mem_append_left _ (List.mem_append_left _ (List.mem_of_getElem? (i := 20) rfl)))) (cz_c (List.mem_cons_of_mem _ (List.mem_append_left _ (List.mem_append_left _ (List.mem_of_getElem? (i := 21) rfl)))) (cz_c (List.mem_cons_of_mem _ (List.mem_append_left _ (List.mem_append_left _ (List.mem_of_getElem? (i := 22) rfl)))) (cz_c (List.mem_cons_of_mem _ (List.mem_append_left _ (List.mem_append_left _ (List.mem_of_getElem? (i := 23) rfl)))) (cz_c (List.mem_cons_of_mem _ (List.mem_append_left _ (List.mem_append_right _ (List.mem_append_left _ (List.mem_of_getElem? (i := 0) rfl))))) (cz_c (List.mem_cons_of_mem _ (List.mem_append_left _ (List.mem_append_right _ (List.mem_append_left _ (List.mem_of_getElem? (i := 1) rfl))))) cz_n)))))))))))))))))))) (fun _ h => List.mem_cons_of_mem _ (List.mem_append_right _ h)))) (by decide +kernel)
set_option maxRecDepth 20000 in
theorem gX7_actsFrom_X7_mayAct : GoodIn wsX7_actsFrom (wsV RX7 146 RX7 yX7_mayAct wsX7_mayAct) := goodIn_app (goodIn_sub (cz_c (List.mem_cons_of_mem _ (List.mem_append_left _ (List.mem_append_left _ (List.mem_of_getElem? (i := 4) rfl)))) (cz_c (List.mem_cons_of_mem _ (List.mem_append_left _ (List.mem_append_left _ (List.mem_of_getElem? (i := 5) rfl)))) (cz_c (List.mem_cons_of_mem _ (List.mem_append_left _ (List.mem_append_left _ (List.mem_of_getElem? (i := 6) rfl)))) (cz_c (List.mem_cons_of_mem _ (List.mem_append_left _ (List.mem_append_left _ (List.mem_of_getElem? (i := 7) rfl)))) cz_n)))) (by decide +kernel)) ggX7_actsFrom_X7_mayAct
set_option maxRecDepth 20000 in
theorem ggX7_actsFrom_X7_doAct : GoodIn wsX7_actsFrom wsX7_doAct := goodIn_sub (cz_c (List.mem_cons_of_mem _ (List.mem_append_left _ (List.mem_append_right _ (List.mem_append_left _ (List.mem_of_getElem? (i := 5) rfl))))) (cz_a (cz_c (List.mem_cons_of_mem _ (List.mem_append_left _ (List.mem_append_left _ (List.mem_of_getElem? (i := 0) rfl)))) (cz_c (List.mem_cons_of_mem _ (List.mem_append_left _ (List.mem_append_left _ (List.mem_of_getElem? (i := 1) rfl)))) (cz_c (List.mem_cons_of_mem _ (List.mem_append_left _ (List.mem_append_left _ (List.mem_of_getElem? (i := 9) rfl)))) (cz_c (List.mem_cons_of_mem _ (List.mem_append_left _ (List.mem_append_left _ (List.mem_of_getElem? (i := 10) rfl)))) (cz_c (List.mem_cons_of_mem _ (List.mem_append_left _ (List.mem_append_left _ (List.mem_of_getElem? (i := 7) rfl)))) (cz_c (List.mem_cons_of_mem _ (List.mem_append_left _ (List.mem_append_left _ (List.mem_of_getElem? (i := 11) rfl)))) cz_n)))))) (fun _ h => List.mem_cons_of_mem _ (List.mem_append_right _ h)))) (by decide +kernel)
set_option maxRecDepth 20000 in
theorem gX7_actsFrom_X7_doAct : GoodIn wsX7_actsFrom (wsV RX7 149 RX7 yX7_doAct wsX7_doAct) := goodIn_app (goodIn_sub (cz_c (List.mem_cons_of_mem _ (List.mem_append_left _ (List.mem_append_right _ (List.mem_append_left _ (List.mem_of_getElem? (i := 2) rfl))))) (cz_c (List.mem_cons_of_mem _ (List.mem_append_left _ (List.mem_append_right _ (List.mem_append_left _ (List.mem_of_getElem? (i := 3) rfl))))) (cz_c (List.mem_cons_of_mem _ (List.mem_append_left _ (List.mem_append_right _ (List.mem_append_left _ (List.mem_of_getElem? (i := 4) rfl))))) (cz_c (List.mem_cons_of_mem _ (List.mem_append_left _ (List.mem_append_left _ (List.mem_of_getElem? (i := 7) rfl)))) cz_n)))) (by decide +kernel)) ggX7_actsFrom_X7_doAct
set_option maxRecDepth 20000 in
theorem cz_m_X7_actsFrom_wsX7_guiltySet_r1 : ∀ w ∈ wsX7_guiltySet_r1, w ∈ wsX7_actsFrom := (cz_c (List.mem_cons_of_mem _ (List.mem_append_left _ (List.mem_append_right _ (List.mem_append_left _ (List.mem_of_getElem? (i := 0) rfl))))) (cz_c (List.mem_cons_of_mem _ (List.mem_append_left _ (List.mem_append_right _ (List.mem_append_left _ (List.mem_of_getElem? (i := 10) rfl))))) (cz_c (List.mem_cons_of_mem _ (List.mem_append_left _ (List.mem_append_right _ (List.mem_append_left _ (List.mem_of_getElem? (i := 11) rfl))))) (cz_c (List.mem_cons_of_mem _ (List.mem_append_left _ (List.mem_append_right _ (List.mem_append_left _ (List.mem_of_getElem? (i := 12) rfl))))) (cz_c (List.mem_cons_of_mem _ (List.mem_append_left _ (List.mem_append_left _ (List.mem_of_getElem? (i := 7) rfl)))) (cz_c (List.mem_cons_of_mem _ (List.mem_append_left _ (List.mem_append_right _ (List.mem_append_left _ (List.mem_of_getElem? (i := 13) rfl))))) (cz_c (List.mem_cons_of_mem _ (List.mem_append_left _ (List.mem_append_right _ (List.mem_append_left _ (List.mem_of_getElem? (i := 14) rfl))))) (cz_c (List.mem_cons_of_mem _ (List.mem_append_left _ (List.mem_append_right _ (List.mem_append_left _ (List.mem_of_getElem? (i := 15) rfl))))) (cz_c (List.mem_cons_of_mem _ (List.mem_append_left _ (List.mem_append_right _ (List.mem_append_left _ (List.mem_of_getElem? (i := 16) rfl))))) (cz_c (List.mem_cons_of_mem _ (List.mem_append_left _ (List.mem_append_right _ (List.mem_append_left _ (List.mem_of_getElem? (i := 17) rfl))))) (cz_c (List.mem_cons_of_mem _ (List.mem_append_left _ (List.mem_append_right _ (List.mem_append_left _ (List.mem_of_getElem? (i := 18) rfl))))) (cz_c (List.mem_cons_of_mem _ (List.mem_append_left _ (List.mem_append_left _ (List.mem_of_getElem? (i := 0) rfl)))) (cz_c (List.mem_cons_of_mem _ (List.mem_append_left _ (List.mem_append_right _ (List.mem_append_left _ (List.mem_of_getElem? (i := 1) rfl))))) (cz_c (List.mem_cons_of_mem _ (List.mem_append_left _ (List.mem_append_left _ (List.mem_of_getElem? (i := 1) rfl)))) (cz_c (List.mem_cons_of_mem _ (List.mem_append_left _ (List.mem_append_right _ (List.mem_append_left _ (List.mem_of_getElem? (i := 19) rfl))))) (cz_c (List.mem_cons_of_mem _ (List.mem_append_left _ (List.mem_append_right _ (List.mem_append_left _ (List.mem_of_getElem? (i := 20) rfl))))) (cz_c (List.mem_cons_of_mem _ (List.mem_append_left _ (List.mem_append_right _ (List.mem_append_left _ (List.mem_of_getElem? (i := 21) rfl))))) (cz_c (List.mem_cons_of_mem _ (List.mem_append_left _ (List.mem_append_right _ (List.mem_append_left _ (List.mem_of_getElem? (i := 22) rfl))))) (cz_c (List.mem_cons_of_mem _ (List.mem_append_left _ (List.mem_append_right _ (List.mem_append_left _ (List.mem_of_getElem? (i := 23) rfl))))) (cz_c (List.mem_cons_of_mem _ (List.mem_append_left _ (List.mem_append_right _ (List.mem_append_right _ (List.mem_of_getElem? (i := 0) rfl))))) (cz_c (List.mem_cons_of_mem _ (List.mem_append_left _ (List.mem_append_right _ (List.mem_append_right _ (List.mem_of_getElem? (i := 1) rfl))))) (cz_c (List.mem_cons_of_mem _ (List.mem_append_left _ (List.mem_append_right _ (List.mem_append_right _ (List.mem_of_getElem? (i := 2) rfl))))) (cz_c (List.mem_cons_of_mem _ (List.mem_append_left _ (List.mem_append_right _ (List.mem_append_right _ (List.mem_of_getElem? (i := 3) rfl))))) (cz_c (List.mem_cons_of_mem _ (List.mem_append_left _ (List.mem_append_right _ (List.mem_append_right _ (List.mem_of_getElem? (i := 4) rfl))))) cz_n))))))))))))))))))))))))
set_option maxRecDepth 20000 in
theorem cz_m_X7_actsFrom_wsX7_guiltySet_r2 : ∀ w ∈ wsX7_guiltySet_r2, w ∈ wsX7_actsFrom := (cz_c (List.mem_cons_of_mem _ (List.mem_append_left _ (List.mem_append_right _ (List.mem_append_right _ (List.mem_of_getElem? (i := 5) rfl))))) (cz_c (List.mem_cons_of_mem _ (List.mem_append_left _ (List.mem_append_right _ (List.mem_append_right _ (List.mem_of_getElem? (i := 6) rfl))))) (cz_c (List.mem_cons_of_mem _ (List.mem_append_left _ (List.mem_append_right _ (List.mem_append_right _ (List.mem_of_getElem? (i := 7) rfl))))) (cz_c (List.mem_cons_of_mem _ (List.mem_append_left _ (List.mem_append_right _ (List.mem_append_right _ (List.mem_of_getElem? (i := 8) rfl))))) (cz_c (List.mem_cons_of_mem _ (List.mem_append_left _ (List.mem_append_right _ (List.mem_append_right _ (List.mem_of_getElem? (i := 9) rfl))))) (cz_c (List.mem_cons_of_mem _ (List.mem_append_left _ (List.mem_append_right _ (List.mem_append_right _ (List.mem_of_getElem? (i := 10) rfl))))) (cz_c (List.mem_cons_of_mem _ (List.mem_append_left _ (List.mem_append_left _ (List.mem_of_getElem? (i := 16) rfl)))) (cz_c (List.mem_cons_of_mem _ (List.mem_append_left _ (List.mem_append_left _ (List.mem_of_getElem? (i := 17) rfl)))) (cz_c (List.mem_cons_of_mem _ (List.mem_append_left _ (List.mem_append_left _ (List.mem_of_getElem? (i := 18) rfl)))) (cz_c (List.mem_cons_of_mem _ (List.mem_append_left _ (List.mem_append_left _ (List.mem_of_getElem? (i := 19) rfl)))) (cz_c (List.mem_cons_of_mem _ (List.mem_append_left _ (List.mem_append_left _ (List.mem_of_getElem? (i := 20) rfl)))) (cz_c (List.mem_cons_of_mem _ (List.mem_append_left _ (List.mem_append_left _ (List.mem_of_getElem? (i := 21) rfl)))) (cz_c (List.mem_cons_of_mem _ (List.mem_append_left _ (List.mem_append_left _ (List.mem_of_getElem? (i := 22) rfl)))) (cz_c (List.mem_cons_of_mem _ (List.mem_append_left _ (List.mem_append_left _ (List.mem_of_getElem? (i := 23) rfl)))) cz_n))))))))))))))
set_option maxRecDepth 20000 in
theorem ggX7_actsFrom_X7_guiltySet : GoodIn wsX7_actsFrom wsX7_guiltySet := goodIn_sub (cz_c (List.mem_cons_of_mem _ (List.mem_append_left _ (List.mem_append_right _ (List.mem_append_left _ (List.mem_of_getElem? (i := 9) rfl))))) (cz_a (cz_a cz_m_X7_actsFrom_wsX7_guiltySet_r1 cz_m_X7_actsFrom_wsX7_guiltySet_r2) (fun _ h => List.mem_cons_of_mem _ (List.mem_append_right _ h)))) (by decide +kernel)
set_option maxRecDepth 20000 in
theorem gX7_actsFrom_X7_guiltySet : GoodIn wsX7_actsFrom (wsV RX7 153 RX7 yX7_guiltySet wsX7_guiltySet) := goodIn_app (goodIn_sub (cz_c (List.mem_cons_of_mem _ (List.mem_append_left _ (List.mem_append_right _ (List.mem_append_left _ (List.mem_of_getElem? (i := 6) rfl))))) (cz_c (List.mem_cons_of_mem _ (List.mem_append_left _ (List.mem_append_right _ (List.mem_append_left _ (List.mem_of_getElem? (i := 7) rfl))))) (cz_c (List.mem_cons_of_mem _ (List.mem_append_left _ (List.mem_append_right _ (List.mem_append_left _ (List.mem_of_getElem? (i := 8) rfl))))) (cz_c (List.mem_cons_of_mem _ (List.mem_append_left _ (List.mem_append_left _ (List.mem_of_getElem? (i := 7) rfl)))) cz_n)))) (by decide +kernel)) ggX7_actsFrom_X7_guiltySet
set_option maxRecDepth 20000 in
theorem ggX7_way_X7_isPlace : GoodIn wsX7_way wsX7_isPlace := goodIn_sub (cz_c (List.mem_cons_of_mem _ (List.mem_append_left _ (List.mem_append_left _ (List.mem_of_getElem? (i := 4) rfl)))) (cz_c (List.mem_cons_of_mem _ (List.mem_append_left _ (List.mem_append_left _ (List.mem_of_getElem? (i := 5) rfl)))) (cz_c (List.mem_cons_of_mem _ (List.mem_append_left _ (List.mem_append_left _ (List.mem_of_getElem? (i := 6) rfl)))) (cz_c (List.mem_cons_of_mem _ (List.mem_append_left _ (List.mem_append_left _ (List.mem_of_getElem? (i := 3) rfl)))) (cz_c (List.mem_cons_of_mem _ (List.mem_append_left _ (List.mem_append_left _ (List.mem_of_getElem? (i := 7) rfl)))) cz_n))))) (by decide +kernel)
set_option maxRecDepth 20000 in
theorem gX7_way_X7_isPlace : GoodIn wsX7_way (va_wsS RX7 100 yX7_isPlace wsX7_isPlace) := goodIn_app (goodIn_sub (cz_c (List.mem_cons_of_mem _ (List.mem_append_left _ (List.mem_append_left _ (List.mem_of_getElem? (i := 1) rfl)))) (cz_c (List.mem_cons_of_mem _ (List.mem_append_left _ (List.mem_append_left _ (List.mem_of_getElem? (i := 2) rfl)))) (cz_c (List.mem_cons_of_mem _ (List.mem_append_left _ (List.mem_append_left _ (List.mem_of_getElem? (i := 3) rfl)))) cz_n))) (by decide +kernel)) ggX7_way_X7_isPlace
set_option maxRecDepth 20000 in
theorem ggX7_way_X7_within : GoodIn wsX7_way wsX7_within := goodIn_sub (cz_c (List.mem_cons_of_mem _ (List.mem_append_left _ (List.mem_append_left _ (List.mem_of_getElem? (i := 7) rfl)))) cz_n) (by decide +kernel)
set_option maxRecDepth 20000 in
theorem gX7_way_X7_within : GoodIn wsX7_way (va_wsS RX7 57 yX7_within wsX7_within) := goodIn_app (goodIn_sub (cz_c (List.mem_cons_of_mem _ (List.mem_append_left _ (List.mem_append_left _ (List.mem_of_getElem? (i := 5) rfl)))) (cz_c (List.mem_cons_of_mem _ (List.mem_append_left _ (List.mem_append_left _ (List.mem_of_getElem? (i := 6) rfl)))) (cz_c (List.mem_cons_of_mem _ (List.mem_append_left _ (List.mem_append_left _ (List.mem_of_getElem? (i := 3) rfl)))) cz_n))) (by decide +kernel)) ggX7_way_X7_within
set_option maxRecDepth 20000 in
theorem cz_m_X7_way_wsX7_wayNow_r1 : ∀ w ∈ wsX7_wayNow_r1, w ∈ wsX7_way := (cz_c (List.mem_cons_of_mem _ (List.mem_append_left _ (List.mem_append_left _ (List.mem_of_getElem? (i := 0) rfl)))) (cz_c (List.mem_cons_of_mem _ (List.mem_append_left _ (List.mem_append_left _ (List.mem_of_getElem? (i := 12) rfl)))) (cz_c (List.mem_cons_of_mem _ (List.mem_append_left _ (List.mem_append_left _ (List.mem_of_getElem? (i := 13) rfl)))) (cz_c (List.mem_cons_of_mem _ (List.mem_append_left _ (List.mem_append_left _ (List.mem_of_getElem? (i := 14) rfl)))) (cz_c (List.mem_cons_of_mem _ (List.mem_append_left _ (List.mem_append_left _ (List.mem_of_getElem? (i := 15) rfl)))) (cz_c (List.mem_cons_of_mem _ (List.mem_append_left _ (List.mem_append_left _ (List.mem_of_getElem? (i := 16) rfl)))) (cz_c (List.mem_cons_of_mem _ (List.mem_append_left _ (List.mem_append_left _ (List.mem_of_getElem? (i := 17) rfl)))) (cz_c (List.mem_cons_of_mem _ (List.mem_append_left _ (List.mem_append_left _ (List.mem_of_getElem? (i := 3) rfl)))) (cz_c (List.mem_cons_of_mem _ (List.mem_append_left _ (List.mem_append_left _ (List.mem_of_getElem? (i := 18) rfl)))) (cz_c (List.mem_cons_of_mem _ (List.mem_append_left _ (List.mem_append_left _ (List.mem_of_getElem? (i := 19) rfl)))) (cz_c (List.mem_cons_of_mem _ (List.mem_append_left _ (List.mem_append_left _ (List.mem_of_getElem? (i := 20) rfl)))) (cz_c (List.mem_cons_of_mem _ (List.mem_append_left _ (List.mem_append_left _ (List.mem_of_getElem? (i := 21) rfl)))) (cz_c (List.mem_cons_of_mem _ (List.mem_append_left _ (List.mem_append_left _ (List.mem_of_getElem? (i := 22) rfl)))) (cz_c (List.mem_cons_of_mem _ (List.mem_append_left _ (List.mem_append_left _ (List.mem_of_getElem? (i := 23) rfl)))) (cz_c (List.mem_cons_of_mem _ (List.mem_append_left _ (List.mem_append_right _ (List.mem_append_left _ (List.mem_of_getElem? (i := 0) rfl))))) (cz_c (List.mem_cons_of_mem _ (List.mem_append_left _ (List.mem_append_right _ (List.mem_append_left _ (List.mem_of_getElem? (i := 1) rfl))))) (cz_c (List.mem_cons_of_mem _ (List.mem_append_left _ (List.mem_append_right _ (List.mem_append_left _ (List.mem_of_getElem? (i := 2) rfl))))) (cz_c (List.mem_cons_of_mem _ (List.mem_append_left _ (List.mem_append_right _ (List.mem_append_left _ (List.mem_of_getElem? (i := 3) rfl))))) (cz_c (List.mem_cons_of_mem _ (List.mem_append_left _ (List.mem_append_right _ (List.mem_append_left _ (List.mem_of_getElem? (i := 4) rfl))))) (cz_c (List.mem_cons_of_mem _ (List.mem_append_left _ (List.mem_append_right _ (List.mem_append_left _ (List.mem_of_getElem? (i := 5) rfl))))) (cz_c (List.mem_cons_of_mem _ (List.mem_append_left _ (List.mem_append_right _ (List.mem_append_left _ (List.mem_of_getElem? (i := 6) rfl))))) (cz_c (List.mem_cons_of_mem _ (List.mem_append_left _ (List.mem_append_right _ (List.mem_append_left _ (List.mem_of_getElem? (i := 7) rfl))))) (cz_c (List.mem_cons_of_mem _ (List.mem_append_left _ (List.mem_append_right _ (List.mem_append_left _ (List.mem_of_getElem? (i := 8) rfl))))) (cz_c (List.mem_cons_of_mem _ (List.mem_append_left _ (List.mem_append_right _ (List.mem_append_left _ (List.mem_of_getElem? (i := 9) rfl))))) cz_n))))))))))))))))))))))))
set_option maxRecDepth 20000 in
theorem cz_m_X7_way_wsX7_wayNow_r2 : ∀ w ∈ wsX7_wayNow_r2, w ∈ wsX7_way := (cz_c (List.mem_cons_of_mem _ (List.mem_append_left _ (List.mem_append_right _ (List.mem_append_left _ (List.mem_of_getElem? (i := 10) rfl))))) (cz_c (List.mem_cons_of_mem _ (List.mem_append_left _ (List.mem_append_right _ (List.mem_append_left _ (List.mem_of_getElem? (i := 11) rfl))))) (cz_c (List.mem_cons_of_mem _ (List.mem_append_left _ (List.mem_append_right _ (List.mem_append_left _ (List.mem_of_getElem? (i := 12) rfl))))) (cz_c (List.mem_cons_of_mem _ (List.mem_append_left _ (List.mem_append_right _ (List.mem_append_left _ (List.mem_of_getElem? (i := 13) rfl))))) (cz_c (List.mem_cons_of_mem _ (List.mem_append_left _ (List.mem_append_right _ (List.mem_append_left _ (List.mem_of_getElem? (i := 14) rfl))))) (cz_c (List.mem_cons_of_mem _ (List.mem_append_left _ (List.mem_append_right _ (List.mem_append_left _ (List.mem_of_getElem? (i := 15) rfl))))) (cz_c (List.mem_cons_of_mem _ (List.mem_append_left _ (List.mem_append_right _ (List.mem_append_left _ (List.mem_of_getElem? (i := 16) rfl))))) (cz_c (List.mem_cons_of_mem _ (List.mem_append_left _ (List.mem_append_right _ (List.mem_append_left _ (List.mem_of_getElem? (i := 17) rfl))))) (cz_c (List.mem_cons_of_mem _ (List.mem_append_left _ (List.mem_append_right _ (List.mem_append_left _ (List.mem_of_getElem? (i := 18) rfl))))) (cz_c (List.mem_cons_of_mem _ (List.mem_append_left _ (List.mem_append_right _ (List.mem_append_left _ (List.mem_of_getElem? (i := 19) rfl))))) (cz_c (List.mem_cons_of_mem _ (List.mem_append_left _ (List.mem_append_right _ (List.mem_append_left _ (List.mem_of_getElem? (i := 20) rfl))))) (cz_c (List.mem_cons_of_mem _ (List.mem_append_left _ (List.mem_append_right _ (List.mem_append_left _ (List.mem_of_getElem? (i := 21) rfl))))) (cz_c (List.mem_cons_of_mem _ (List.mem_append_left _ (List.mem_append_right _ (List.mem_append_left _ (List.mem_of_getElem? (i := 22) rfl))))) (cz_c (List.mem_cons_of_mem _ (List.mem_append_left _ (List.mem_append_right _ (List.mem_append_left _ (List.mem_of_getElem? (i := 23) rfl))))) (cz_c (List.mem_cons_of_mem _ (List.mem_append_left _ (List.mem_append_right _ (List.mem_append_right _ (List.mem_append_left _ (List.mem_of_getElem? (i := 0) rfl)))))) (cz_c (List.mem_cons_of_mem _ (List.mem_append_left _ (List.mem_append_right _ (List.mem_append_right _ (List.mem_append_left _ (List.mem_of_getElem? (i := 1) rfl)))))) (cz_c (List.mem_cons_of_mem _ (List.mem_append_left _ (List.mem_append_right _ (List.mem_append_right _ (List.mem_append_left _ (List.mem_of_getElem? (i := 2) rfl)))))) (cz_c (List.mem_cons_of_mem _ (List.mem_append_left _ (List.mem_append_right _ (List.mem_append_right _ (List.mem_append_left _ (List.mem_of_getElem? (i := 3) rfl)))))) (cz_c (List.mem_cons_of_mem _ (List.mem_append_left _ (List.mem_append_right _ (List.mem_append_right _ (List.mem_append_left _ (List.mem_of_getElem? (i := 4) rfl)))))) (cz_c (List.mem_cons_of_mem _ (List.mem_append_left _ (List.mem_append_right _ (List.mem_append_right _ (List.mem_append_left _ (List.mem_of_getElem? (i := 5) rfl)))))) (cz_c (List.mem_cons_of_mem _ (List.mem_append_left _ (List.mem_append_right _ (List.mem_append_right _ (List.mem_append_left _ (List.mem_of_getElem? (i := 6) rfl)))))) (cz_c (List.mem_cons_of_mem _ (List.mem_append_left _ (List.mem_append_right _ (List.mem_append_right _ (List.mem_append_left _ (List.mem_of_getElem? (i := 7) rfl)))))) (cz_c (List.mem_cons_of_mem _ (List.mem_append_left _ (List.mem_append_right _ (List.mem_append_right _ (List.mem_append_left _ (List.mem_of_getElem? (i := 8) rfl)))))) (cz_c (List.mem_cons_of_mem _ (List.mem_append_left _ (List.mem_append_right _ (List.mem_append_right _ (List.mem_append_left _ (List.mem_of_getElem? (i := 9) rfl)))))) cz_n))))))))))))))))))))))))
set_option maxRecDepth 20000 in
theorem cz_m_X7_way_wsX7_wayNow_r3 : ∀ w ∈ wsX7_wayNow_r3, w ∈ wsX7_way := (cz_c (List.mem_cons_of_mem _ (List.mem_append_left _ (List.mem_append_right _ (List.mem_append_right _ (List.mem_append_left _ (List.mem_of_getElem? (i := 10) rfl)))))) (cz_c (List.mem_cons_of_mem _ (List.mem_append_left _ (List.mem_append_right _ (List.mem_append_right _ (List.mem_append_left _ (List.mem_of_getElem? (i := 11) rfl)))))) (cz_c (List.mem_cons_of_mem _ (List.mem_append_left _ (List.mem_append_right _ (List.mem_append_right _ (List.mem_append_left _ (List.mem_of_getElem? (i := 12) rfl)))))) (cz_c (List.mem_cons_of_mem _ (List.mem_append_left _ (List.mem_append_right _ (List.mem_append_right _ (List.mem_append_left _ (List.mem_of_getElem? (i := 13) rfl)))))) (cz_c (List.mem_cons_of_mem _ (List.mem_append_left _ (List.mem_append_right _ (List.mem_append_right _ (List.mem_append_left _ (List.mem_of_getElem? (i := 14) rfl)))))) (cz_c (List.mem_cons_of_mem _ (List.mem_append_left _ (List.mem_append_right _ (List.mem_append_right _ (List.mem_append_left _ (List.mem_of_getElem? (i := 15) rfl)))))) (cz_c (List.mem_cons_of_mem _ (List.mem_append_left _ (List.mem_append_right _ (List.mem_append_right _ (List.mem_append_left _ (List.mem_of_getElem? (i := 16) rfl)))))) (cz_c (List.mem_cons_of_mem _ (List.mem_append_left _ (List.mem_append_right _ (List.mem_append_right _ (List.mem_append_left _ (List.mem_of_getElem? (i := 17) rfl)))))) (cz_c (List.mem_cons_of_mem _ (List.mem_append_left _ (List.mem_append_right _ (List.mem_append_right _ (List.mem_append_left _ (List.mem_of_getElem? (i := 18) rfl)))))) (cz_c (List.mem_cons_of_mem _ (List.mem_append_left _ (List.mem_append_right _ (List.mem_append_right _ (List.mem_append_left _ (List.mem_of_getElem? (i := 19) rfl)))))) (cz_c (List.mem_cons_of_mem _ (List.mem_append_left _ (List.mem_append_right _ (List.mem_append_right _ (List.mem_append_left _ (List.mem_of_getElem? (i := 20) rfl)))))) (cz_c (List.mem_cons_of_mem _ (List.mem_append_left _ (List.mem_append_right _ (List.mem_append_right _ (List.mem_append_left _ (List.mem_of_getElem? (i := 21) rfl)))))) (cz_c (List.mem_cons_of_mem _ (List.mem_append_left _ (List.mem_append_right _ (List.mem_append_right _ (List.mem_append_left _ (List.mem_of_getElem? (i := 22) rfl)))))) (cz_c (List.mem_cons_of_mem _ (List.mem_append_left _ (List.mem_append_right _ (List.mem_append_right _ (List.mem_append_left _ (List.mem_of_getElem? (i := 23) rfl)))))) (cz_c (List.mem_cons_of_mem _ (List.mem_append_left _ (List.mem_append_right _ (List.mem_append_right _ (List.mem_append_right _ (List.mem_of_getElem? (i := 0) rfl)))))) cz_n)))))))))))))))
set_option maxRecDepth 20000 in
theorem ggX7_way_X7_wayNow : GoodIn wsX7_way wsX7_wayNow := goodIn_sub (cz_c (List.mem_cons_of_mem _ (List.mem_append_left _ (List.mem_append_left _ (List.mem_of_getElem? (i := 11) rfl)))) (cz_a (cz_a cz_m_X7_way_wsX7_wayNow_r1 (cz_a cz_m_X7_way_wsX7_wayNow_r2 cz_m_X7_way_wsX7_wayNow_r3)) (fun _ h => List.mem_cons_of_mem _ (List.mem_append_right _ h)))) (by decide +kernel)
set_option maxRecDepth 20000 in
theorem gX7_way_X7_wayNow : GoodIn wsX7_way (wsV RX7 178 RX7 yX7_wayNow wsX7_wayNow) := goodIn_app (goodIn_sub (cz_c (List.mem_cons_of_mem _ (List.mem_append_left _ (List.mem_append_left _ (List.mem_of_getElem? (i := 8) rfl)))) (cz_c (List.mem_cons_of_mem _ (List.mem_append_left _ (List.mem_append_left _ (List.mem_of_getElem? (i := 9) rfl)))) (cz_c (List.mem_cons_of_mem _ (List.mem_append_left _ (List.mem_append_left _ (List.mem_of_getElem? (i := 10) rfl)))) (cz_c (List.mem_cons_of_mem _ (List.mem_append_left _ (List.mem_append_left _ (List.mem_of_getElem? (i := 3) rfl)))) cz_n)))) (by decide +kernel)) ggX7_way_X7_wayNow
set_option maxRecDepth 20000 in
theorem ggX7_told_X7_isCourtier : GoodIn wsX7_told wsX7_isCourtier := goodIn_sub (cz_c (List.mem_cons_of_mem _ (List.mem_append_left _ (List.mem_of_getElem? (i := 5) rfl))) (cz_a (cz_c (List.mem_cons_of_mem _ (List.mem_append_left _ (List.mem_of_getElem? (i := 6) rfl))) (cz_c (List.mem_cons_of_mem _ (List.mem_append_left _ (List.mem_of_getElem? (i := 7) rfl))) (cz_c (List.mem_cons_of_mem _ (List.mem_append_left _ (List.mem_of_getElem? (i := 8) rfl))) (cz_c (List.mem_cons_of_mem _ (List.mem_append_left _ (List.mem_of_getElem? (i := 4) rfl))) (cz_c (List.mem_cons_of_mem _ (List.mem_append_left _ (List.mem_of_getElem? (i := 9) rfl))) cz_n))))) (fun _ h => List.mem_cons_of_mem _ (List.mem_append_right _ h)))) (by decide +kernel)
set_option maxRecDepth 20000 in
theorem gX7_told_X7_isCourtier : GoodIn wsX7_told (wsV RX7 137 RX7 yX7_isCourtier wsX7_isCourtier) := goodIn_app (goodIn_sub (cz_c (List.mem_cons_of_mem _ (List.mem_append_left _ (List.mem_of_getElem? (i := 1) rfl))) (cz_c (List.mem_cons_of_mem _ (List.mem_append_left _ (List.mem_of_getElem? (i := 2) rfl))) (cz_c (List.mem_cons_of_mem _ (List.mem_append_left _ (List.mem_of_getElem? (i := 3) rfl))) (cz_c (List.mem_cons_of_mem _ (List.mem_append_left _ (List.mem_of_getElem? (i := 4) rfl))) cz_n)))) (by decide +kernel)) ggX7_told_X7_isCourtier
set_option maxRecDepth 20000 in
theorem ggX7_told_X7_within : GoodIn wsX7_told wsX7_within := goodIn_sub (cz_c (List.mem_cons_of_mem _ (List.mem_append_left _ (List.mem_of_getElem? (i := 9) rfl))) cz_n) (by decide +kernel)
set_option maxRecDepth 20000 in
theorem gX7_told_X7_within : GoodIn wsX7_told (va_wsS RX7 57 yX7_within wsX7_within) := goodIn_app (goodIn_sub (cz_c (List.mem_cons_of_mem _ (List.mem_append_left _ (List.mem_of_getElem? (i := 7) rfl))) (cz_c (List.mem_cons_of_mem _ (List.mem_append_left _ (List.mem_of_getElem? (i := 8) rfl))) (cz_c (List.mem_cons_of_mem _ (List.mem_append_left _ (List.mem_of_getElem? (i := 4) rfl))) cz_n))) (by decide +kernel)) ggX7_told_X7_within
set_option maxRecDepth 20000 in
theorem cz_m_X7_isToldSo_wsX7_seesNow_r1 : ∀ w ∈ wsX7_seesNow_r1, w ∈ wsX7_isToldSo := (cz_c (List.mem_cons_of_mem _ (List.mem_append_left _ (List.mem_append_left _ (List.mem_of_getElem? (i := 7) rfl)))) (cz_c (List.mem_cons_of_mem _ (List.mem_append_left _ (List.mem_append_left _ (List.mem_of_getElem? (i := 8) rfl)))) (cz_c (List.mem_cons_of_mem _ (List.mem_append_left _ (List.mem_append_left _ (List.mem_of_getElem? (i := 9) rfl)))) (cz_c (List.mem_cons_of_mem _ (List.mem_append_left _ (List.mem_append_left _ (List.mem_of_getElem? (i := 10) rfl)))) (cz_c (List.mem_cons_of_mem _ (List.mem_append_left _ (List.mem_append_left _ (List.mem_of_getElem? (i := 11) rfl)))) (cz_c (List.mem_cons_of_mem _ (List.mem_append_left _ (List.mem_append_left _ (List.mem_of_getElem? (i := 12) rfl)))) (cz_c (List.mem_cons_of_mem _ (List.mem_append_left _ (List.mem_append_left _ (List.mem_of_getElem? (i := 5) rfl)))) (cz_c (List.mem_cons_of_mem _ (List.mem_append_left _ (List.mem_append_left _ (List.mem_of_getElem? (i := 13) rfl)))) (cz_c (List.mem_cons_of_mem _ (List.mem_append_left _ (List.mem_append_left _ (List.mem_of_getElem? (i := 14) rfl)))) (cz_c (List.mem_cons_of_mem _ (List.mem_append_left _ (List.mem_append_left _ (List.mem_of_getElem? (i := 15) rfl)))) (cz_c (List.mem_cons_of_mem _ (List.mem_append_left _ (List.mem_append_left _ (List.mem_of_getElem? (i := 16) rfl)))) (cz_c (List.mem_cons_of_mem _ (List.mem_append_left _ (List.mem_append_left _ (List.mem_of_getElem? (i := 17) rfl)))) (cz_c (List.mem_cons_of_mem _ (List.mem_append_left _ (List.mem_append_left _ (List.mem_of_getElem? (i := 18) rfl)))) (cz_c (List.mem_cons_of_mem _ (List.mem_append_left _ (List.mem_append_left _ (List.mem_of_getElem? (i := 19) rfl)))) (cz_c (List.mem_cons_of_mem _ (List.mem_append_left _ (List.mem_append_left _ (List.mem_of_getElem? (i := 20) rfl)))) (cz_c (List.mem_cons_of_mem _ (List.mem_append_left _ (List.mem_append_left _ (List.mem_of_getElem? (i := 21) rfl)))) (cz_c (List.mem_cons_of_mem _ (List.mem_append_left _ (List.mem_append_left _ (List.mem_of_getElem? (i := 22) rfl)))) (cz_c (List.mem_cons_of_mem _ (List.mem_append_left _ (List.mem_append_left _ (List.mem_of_getElem? (i := 23) rfl)))) (cz_c (List.mem_cons_of_mem _ (List.mem_append_left _ (List.mem_append_right _ (List.mem_of_getElem? (i := 0) rfl)))) (cz_c (List.mem_cons_of_mem _ (List.mem_append_left _ (List.mem_append_right _ (List.mem_of_getElem? (i := 1) rfl)))) (cz_c (List.mem_cons_of_mem _ (List.mem_append_left _ (List.mem_append_right _ (List.mem_of_getElem? (i := 2) rfl)))) (cz_c (List.mem_cons_of_mem _ (List.mem_append_left _ (List.mem_append_right _ (List.mem_of_getElem? (i := 3) rfl)))) (cz_c (List.mem_cons_of_mem _ (List.mem_append_left _ (List.mem_append_right _ (List.mem_of_getElem? (i := 4) rfl)))) (cz_c (List.mem_cons_of_mem _ (List.mem_append_left _ (List.mem_append_right _ (List.mem_of_getElem? (i := 5) rfl)))) cz_n))))))))))))))))))))))))
set_option maxRecDepth 20000 in
theorem cz_m_X7_isToldSo_wsX7_seesNow_r2 : ∀ w ∈ wsX7_seesNow_r2, w ∈ wsX7_isToldSo := (cz_c (List.mem_cons_of_mem _ (List.mem_append_left _ (List.mem_append_right _ (List.mem_of_getElem? (i := 6) rfl)))) (cz_c (List.mem_cons_of_mem _ (List.mem_append_left _ (List.mem_append_right _ (List.mem_of_getElem? (i := 7) rfl)))) (cz_c (List.mem_cons_of_mem _ (List.mem_append_left _ (List.mem_append_right _ (List.mem_of_getElem? (i := 8) rfl)))) (cz_c (List.mem_cons_of_mem _ (List.mem_append_left _ (List.mem_append_right _ (List.mem_of_getElem? (i := 9) rfl)))) (cz_c (List.mem_cons_of_mem _ (List.mem_append_left _ (List.mem_append_right _ (List.mem_of_getElem? (i := 10) rfl)))) (cz_c (List.mem_cons_of_mem _ (List.mem_append_left _ (List.mem_append_left _ (List.mem_of_getElem? (i := 0) rfl)))) cz_n))))))
set_option maxRecDepth 20000 in
theorem ggX7_isToldSo_X7_seesNow : GoodIn wsX7_isToldSo wsX7_seesNow := goodIn_sub (cz_c (List.mem_cons_of_mem _ (List.mem_append_left _ (List.mem_append_left _ (List.mem_of_getElem? (i := 6) rfl)))) (cz_a (cz_a cz_m_X7_isToldSo_wsX7_seesNow_r1 cz_m_X7_isToldSo_wsX7_seesNow_r2) (fun _ h => List.mem_cons_of_mem _ (List.mem_append_right _ h)))) (by decide +kernel)
set_option maxRecDepth 20000 in
theorem gX7_isToldSo_X7_seesNow : GoodIn wsX7_isToldSo (wsV RX7 131 RX7 yX7_seesNow wsX7_seesNow) := goodIn_app (goodIn_sub (cz_c (List.mem_cons_of_mem _ (List.mem_append_left _ (List.mem_append_left _ (List.mem_of_getElem? (i := 2) rfl)))) (cz_c (List.mem_cons_of_mem _ (List.mem_append_left _ (List.mem_append_left _ (List.mem_of_getElem? (i := 3) rfl)))) (cz_c (List.mem_cons_of_mem _ (List.mem_append_left _ (List.mem_append_left _ (List.mem_of_getElem? (i := 4) rfl)))) (cz_c (List.mem_cons_of_mem _ (List.mem_append_left _ (List.mem_append_left _ (List.mem_of_getElem? (i := 5) rfl)))) cz_n)))) (by decide +kernel)) ggX7_isToldSo_X7_seesNow
set_option maxRecDepth 20000 in
theorem ggX7_stoodNow_X7_isEmpty : GoodIn wsX7_stoodNow wsX7_isEmpty := goodIn_sub (cz_c (List.mem_cons_of_mem _ (List.mem_append_left _ (List.mem_append_left _ (List.mem_of_getElem? (i := 6) rfl)))) (cz_a (cz_c (List.mem_cons_of_mem _ (List.mem_append_left _ (List.mem_append_left _ (List.mem_of_getElem? (i := 7) rfl)))) (cz_c (List.mem_cons_of_mem _ (List.mem_append_left _ (List.mem_append_left _ (List.mem_of_getElem? (i := 8) rfl)))) (cz_c (List.mem_cons_of_mem _ (List.mem_append_left _ (List.mem_append_left _ (List.mem_of_getElem? (i := 9) rfl)))) (cz_c (List.mem_cons_of_mem _ (List.mem_append_left _ (List.mem_append_left _ (List.mem_of_getElem? (i := 5) rfl)))) (cz_c (List.mem_cons_of_mem _ (List.mem_append_left _ (List.mem_append_left _ (List.mem_of_getElem? (i := 10) rfl)))) (cz_c (List.mem_cons_of_mem _ (List.mem_append_left _ (List.mem_append_left _ (List.mem_of_getElem? (i := 11) rfl)))) (cz_c (List.mem_cons_of_mem _ (List.mem_append_left _ (List.mem_append_left _ (List.mem_of_getElem? (i := 12) rfl)))) (cz_c (List.mem_cons_of_mem _ (List.mem_append_left _ (List.mem_append_left _ (List.mem_of_getElem? (i := 13) rfl)))) (cz_c (List.mem_cons_of_mem _ (List.mem_append_left _ (List.mem_append_left _ (List.mem_of_getElem? (i := 14) rfl)))) (cz_c (List.mem_cons_of_mem _ (List.mem_append_left _ (List.mem_append_left _ (List.mem_of_getElem? (i := 0) rfl)))) (cz_c (List.mem_cons_of_mem _ (List.mem_append_left _ (List.mem_append_left _ (List.mem_of_getElem? (i := 15) rfl)))) (cz_c (List.mem_cons_of_mem _ (List.mem_append_left _ (List.mem_append_left _ (List.mem_of_getElem? (i := 16) rfl)))) cz_n)))))))))))) (fun _ h => List.mem_cons_of_mem _ (List.mem_append_right _ h)))) (by decide +kernel)
set_option maxRecDepth 20000 in
theorem gX7_stoodNow_X7_isEmpty : GoodIn wsX7_stoodNow (wsV RX7 107 RX7 yX7_isEmpty wsX7_isEmpty) := goodIn_app (goodIn_sub (cz_c (List.mem_cons_of_mem _ (List.mem_append_left _ (List.mem_append_left _ (List.mem_of_getElem? (i := 2) rfl)))) (cz_c (List.mem_cons_of_mem _ (List.mem_append_left _ (List.mem_append_left _ (List.mem_of_getElem? (i := 3) rfl)))) (cz_c (List.mem_cons_of_mem _ (List.mem_append_left _ (List.mem_append_left _ (List.mem_of_getElem? (i := 4) rfl)))) (cz_c (List.mem_cons_of_mem _ (List.mem_append_left _ (List.mem_append_left _ (List.mem_of_getElem? (i := 5) rfl)))) cz_n)))) (by decide +kernel)) ggX7_stoodNow_X7_isEmpty
set_option maxRecDepth 20000 in
theorem cz_m_X7_stoodNow_wsX7_isToldSo_r1 : ∀ w ∈ wsX7_isToldSo_r1, w ∈ wsX7_stoodNow := (cz_c (List.mem_cons_of_mem _ (List.mem_append_left _ (List.mem_append_left _ (List.mem_of_getElem? (i := 15) rfl)))) (cz_c (List.mem_cons_of_mem _ (List.mem_append_left _ (List.mem_append_left _ (List.mem_of_getElem? (i := 21) rfl)))) (cz_c (List.mem_cons_of_mem _ (List.mem_append_left _ (List.mem_append_left _ (List.mem_of_getElem? (i := 22) rfl)))) (cz_c (List.mem_cons_of_mem _ (List.mem_append_left _ (List.mem_append_left _ (List.mem_of_getElem? (i := 23) rfl)))) (cz_c (List.mem_cons_of_mem _ (List.mem_append_left _ (List.mem_append_right _ (List.mem_of_getElem? (i := 0) rfl)))) (cz_c (List.mem_cons_of_mem _ (List.mem_append_left _ (List.mem_append_left _ (List.mem_of_getElem? (i := 5) rfl)))) (cz_c (List.mem_cons_of_mem _ (List.mem_append_left _ (List.mem_append_right _ (List.mem_of_getElem? (i := 1) rfl)))) (cz_c (List.mem_cons_of_mem _ (List.mem_append_left _ (List.mem_append_left _ (List.mem_of_getElem? (i := 0) rfl)))) (cz_c (List.mem_cons_of_mem _ (List.mem_append_left _ (List.mem_append_left _ (List.mem_of_getElem? (i := 16) rfl)))) (cz_c (List.mem_cons_of_mem _ (List.mem_append_left _ (List.mem_append_right _ (List.mem_of_getElem? (i := 2) rfl)))) (cz_c (List.mem_cons_of_mem _ (List.mem_append_left _ (List.mem_append_left _ (List.mem_of_getElem? (i := 1) rfl)))) (cz_c (List.mem_cons_of_mem _ (List.mem_append_left _ (List.mem_append_right _ (List.mem_of_getElem? (i := 3) rfl)))) (cz_c (List.mem_cons_of_mem _ (List.mem_append_left _ (List.mem_append_right _ (List.mem_of_getElem? (i := 4) rfl)))) (cz_c (List.mem_cons_of_mem _ (List.mem_append_left _ (List.mem_append_right _ (List.mem_of_getElem? (i := 5) rfl)))) (cz_c (List.mem_cons_of_mem _ (List.mem_append_left _ (List.mem_append_right _ (List.mem_of_getElem? (i := 6) rfl)))) (cz_c (List.mem_cons_of_mem _ (List.mem_append_left _ (List.mem_append_right _ (List.mem_of_getElem? (i := 7) rfl)))) (cz_c (List.mem_cons_of_mem _ (List.mem_append_left _ (List.mem_append_right _ (List.mem_of_getElem? (i := 8) rfl)))) (cz_c (List.mem_cons_of_mem _ (List.mem_append_left _ (List.mem_append_right _ (List.mem_of_getElem? (i := 9) rfl)))) (cz_c (List.mem_cons_of_mem _ (List.mem_append_left _ (List.mem_append_right _ (List.mem_of_getElem? (i := 10) rfl)))) (cz_c (List.mem_cons_of_mem _ (List.mem_append_left _ (List.mem_append_right _ (List.mem_of_getElem? (i := 11) rfl)))) (cz_c (List.mem_cons_of_mem _ (List.mem_append_left _ (List.mem_append_right _ (List.mem_of_getElem? (i := 12) rfl)))) (cz_c (List.mem_cons_of_mem _ (List.mem_append_left _ (List.mem_append_right _ (List.mem_of_getElem? (i := 13) rfl)))) (cz_c (List.mem_cons_of_mem _ (List.mem_append_left _ (List.mem_append_right _ (List.mem_of_getElem? (i := 14) rfl)))) (cz_c (List.mem_cons_of_mem _ (List.mem_append_left _ (List.mem_append_right _ (List.mem_of_getElem? (i := 15) rfl)))) cz_n))))))))))))))))))))))))
set_option maxRecDepth 20000 in
theorem cz_m_X7_stoodNow_wsX7_isToldSo_r2 : ∀ w ∈ wsX7_isToldSo_r2, w ∈ wsX7_stoodNow := (cz_c (List.mem_cons_of_mem _ (List.mem_append_left _ (List.mem_append_right _ (List.mem_of_getElem? (i := 16) rfl)))) (cz_c (List.mem_cons_of_mem _ (List.mem_append_left _ (List.mem_append_right _ (List.mem_of_getElem? (i := 17) rfl)))) (cz_c (List.mem_cons_of_mem _ (List.mem_append_left _ (List.mem_append_right _ (List.mem_of_getElem? (i := 18) rfl)))) (cz_c (List.mem_cons_of_mem _ (List.mem_append_left _ (List.mem_append_left _ (List.mem_of_getElem? (i := 7) rfl)))) (cz_c (List.mem_cons_of_mem _ (List.mem_append_left _ (List.mem_append_left _ (List.mem_of_getElem? (i := 8) rfl)))) (cz_c (List.mem_cons_of_mem _ (List.mem_append_left _ (List.mem_append_left _ (List.mem_of_getElem? (i := 9) rfl)))) (cz_c (List.mem_cons_of_mem _ (List.mem_append_left _ (List.mem_append_left _ (List.mem_of_getElem? (i := 10) rfl)))) (cz_c (List.mem_cons_of_mem _ (List.mem_append_left _ (List.mem_append_left _ (List.mem_of_getElem? (i := 11) rfl)))) (cz_c (List.mem_cons_of_mem _ (List.mem_append_left _ (List.mem_append_left _ (List.mem_of_getElem? (i := 12) rfl)))) (cz_c (List.mem_cons_of_mem _ (List.mem_append_left _ (List.mem_append_left _ (List.mem_of_getElem? (i := 13) rfl)))) (cz_c (List.mem_cons_of_mem _ (List.mem_append_left _ (List.mem_append_left _ (List.mem_of_getElem? (i := 14) rfl)))) cz_n)))))))))))
set_option maxRecDepth 20000 in
theorem ggX7_stoodNow_X7_isToldSo : GoodIn wsX7_stoodNow wsX7_isToldSo := goodIn_sub (cz_c (List.mem_cons_of_mem _ (List.mem_append_left _ (List.mem_append_left _ (List.mem_of_getElem? (i := 20) rfl)))) (cz_a (cz_a cz_m_X7_stoodNow_wsX7_isToldSo_r1 cz_m_X7_stoodNow_wsX7_isToldSo_r2) (fun _ h => List.mem_cons_of_mem _ (List.mem_append_right _ h)))) (by decide +kernel)
set_option maxRecDepth 20000 in
theorem gX7_stoodNow_X7_isToldSo : GoodIn wsX7_stoodNow (wsV RX7 181 RX7 yX7_isToldSo wsX7_isToldSo) := goodIn_app (goodIn_sub (cz_c (List.mem_cons_of_mem _ (List.mem_append_left _ (List.mem_append_left _ (List.mem_of_getElem? (i := 17) rfl)))) (cz_c (List.mem_cons_of_mem _ (List.mem_append_left _ (List.mem_append_left _ (List.mem_of_getElem? (i := 18) rfl)))) (cz_c (List.mem_cons_of_mem _ (List.mem_append_left _ (List.mem_append_left _ (List.mem_of_getElem? (i := 19) rfl)))) (cz_c (List.mem_cons_of_mem _ (List.mem_append_left _ (List.mem_append_left _ (List.mem_of_getElem? (i := 5) rfl)))) cz_n)))) (by decide +kernel)) ggX7_stoodNow_X7_isToldSo
set_option maxRecDepth 20000 in
theorem ggX7_stoodNow_X7_only : GoodIn wsX7_stoodNow wsX7_only := goodIn_sub (cz_c (List.mem_cons_of_mem _ (List.mem_append_left _ (List.mem_append_right _ (List.mem_of_getElem? (i := 21) rfl)))) cz_n) (by decide +kernel)
set_option maxRecDepth 20000 in
theorem gX7_stoodNow_X7_only : GoodIn wsX7_stoodNow (va_wsS RX7 185 yX7_only wsX7_only) := goodIn_app (goodIn_sub (cz_c (List.mem_cons_of_mem _ (List.mem_append_left _ (List.mem_append_right _ (List.mem_of_getElem? (i := 19) rfl)))) (cz_c (List.mem_cons_of_mem _ (List.mem_append_left _ (List.mem_append_right _ (List.mem_of_getElem? (i := 20) rfl)))) (cz_c (List.mem_cons_of_mem _ (List.mem_append_left _ (List.mem_append_left _ (List.mem_of_getElem? (i := 5) rfl)))) cz_n))) (by decide +kernel)) ggX7_stoodNow_X7_only
set_option maxRecDepth 20000 in
theorem ggX7_stood_X7_within : GoodIn wsX7_stood wsX7_within := goodIn_sub (cz_c (List.mem_cons_of_mem _ (List.mem_append_left _ (List.mem_append_left _ (List.mem_of_getElem? (i := 4) rfl)))) cz_n) (by decide +kernel)
set_option maxRecDepth 20000 in
theorem gX7_stood_X7_within : GoodIn wsX7_stood (va_wsS RX7 57 yX7_within wsX7_within) := goodIn_app (goodIn_sub (cz_c (List.mem_cons_of_mem _ (List.mem_append_left _ (List.mem_append_left _ (List.mem_of_getElem? (i := 1) rfl)))) (cz_c (List.mem_cons_of_mem _ (List.mem_append_left _ (List.mem_append_left _ (List.mem_of_getElem? (i := 2) rfl)))) (cz_c (List.mem_cons_of_mem _ (List.mem_append_left _ (List.mem_append_left _ (List.mem_of_getElem? (i := 3) rfl)))) cz_n))) (by decide +kernel)) ggX7_stood_X7_within
set_option maxRecDepth 20000 in
theorem cz_m_X7_stood_wsX7_stoodNow_r1 : ∀ w ∈ wsX7_stoodNow_r1, w ∈ wsX7_stood := (cz_c (List.mem_cons_of_mem _ (List.mem_append_left _ (List.mem_append_left _ (List.mem_of_getElem? (i := 9) rfl)))) (cz_c (List.mem_cons_of_mem _ (List.mem_append_left _ (List.mem_append_left _ (List.mem_of_getElem? (i := 10) rfl)))) (cz_c (List.mem_cons_of_mem _ (List.mem_append_left _ (List.mem_append_left _ (List.mem_of_getElem? (i := 11) rfl)))) (cz_c (List.mem_cons_of_mem _ (List.mem_append_left _ (List.mem_append_left _ (List.mem_of_getElem? (i := 12) rfl)))) (cz_c (List.mem_cons_of_mem _ (List.mem_append_left _ (List.mem_append_left _ (List.mem_of_getElem? (i := 13) rfl)))) (cz_c (List.mem_cons_of_mem _ (List.mem_append_left _ (List.mem_append_left _ (List.mem_of_getElem? (i := 3) rfl)))) (cz_c (List.mem_cons_of_mem _ (List.mem_append_left _ (List.mem_append_left _ (List.mem_of_getElem? (i := 14) rfl)))) (cz_c (List.mem_cons_of_mem _ (List.mem_append_left _ (List.mem_append_left _ (List.mem_of_getElem? (i := 15) rfl)))) (cz_c (List.mem_cons_of_mem _ (List.mem_append_left _ (List.mem_append_left _ (List.mem_of_getElem? (i := 16) rfl)))) (cz_c (List.mem_cons_of_mem _ (List.mem_append_left _ (List.mem_append_left _ (List.mem_of_getElem? (i := 17) rfl)))) (cz_c (List.mem_cons_of_mem _ (List.mem_append_left _ (List.mem_append_left _ (List.mem_of_getElem? (i := 18) rfl)))) (cz_c (List.mem_cons_of_mem _ (List.mem_append_left _ (List.mem_append_left _ (List.mem_of_getElem? (i := 19) rfl)))) (cz_c (List.mem_cons_of_mem _ (List.mem_append_left _ (List.mem_append_left _ (List.mem_of_getElem? (i := 20) rfl)))) (cz_c (List.mem_cons_of_mem _ (List.mem_append_left _ (List.mem_append_left _ (List.mem_of_getElem? (i := 21) rfl)))) (cz_c (List.mem_cons_of_mem _ (List.mem_append_left _ (List.mem_append_left _ (List.mem_of_getElem? (i := 22) rfl)))) (cz_c (List.mem_cons_of_mem _ (List.mem_append_left _ (List.mem_append_left _ (List.mem_of_getElem? (i := 23) rfl)))) (cz_c (List.mem_cons_of_mem _ (List.mem_append_left _ (List.mem_append_right _ (List.mem_append_left _ (List.mem_of_getElem? (i := 0) rfl))))) (cz_c (List.mem_cons_of_mem _ (List.mem_append_left _ (List.mem_append_right _ (List.mem_append_left _ (List.mem_of_getElem? (i := 1) rfl))))) (cz_c (List.mem_cons_of_mem _ (List.mem_append_left _ (List.mem_append_right _ (List.mem_append_left _ (List.mem_of_getElem? (i := 2) rfl))))) (cz_c (List.mem_cons_of_mem _ (List.mem_append_left _ (List.mem_append_right _ (List.mem_append_left _ (List.mem_of_getElem? (i := 3) rfl))))) (cz_c (List.mem_cons_of_mem _ (List.mem_append_left _ (List.mem_append_right _ (List.mem_append_left _ (List.mem_of_getElem? (i := 4) rfl))))) (cz_c (List.mem_cons_of_mem _ (List.mem_append_left _ (List.mem_append_right _ (List.mem_append_left _ (List.mem_of_getElem? (i := 5) rfl))))) (cz_c (List.mem_cons_of_mem _ (List.mem_append_left _ (List.mem_append_right _ (List.mem_append_left _ (List.mem_of_getElem? (i := 6) rfl))))) (cz_c (List.mem_cons_of_mem _ (List.mem_append_left _ (List.mem_append_right _ (List.mem_append_left _ (List.mem_of_getElem? (i := 7) rfl))))) cz_n))))))))))))))))))))))))
set_option maxRecDepth 20000 in
theorem cz_m_X7_stood_wsX7_stoodNow_r2 : ∀ w ∈ wsX7_stoodNow_r2, w ∈ wsX7_stood := (cz_c (List.mem_cons_of_mem _ (List.mem_append_left _ (List.mem_append_right _ (List.mem_append_left _ (List.mem_of_getElem? (i := 8) rfl))))) (cz_c (List.mem_cons_of_mem _ (List.mem_append_left _ (List.mem_append_right _ (List.mem_append_left _ (List.mem_of_getElem? (i := 9) rfl))))) (cz_c (List.mem_cons_of_mem _ (List.mem_append_left _ (List.mem_append_right _ (List.mem_append_left _ (List.mem_of_getElem? (i := 10) rfl))))) (cz_c (List.mem_cons_of_mem _ (List.mem_append_left _ (List.mem_append_right _ (List.mem_append_left _ (List.mem_of_getElem? (i := 11) rfl))))) (cz_c (List.mem_cons_of_mem _ (List.mem_append_left _ (List.mem_append_right _ (List.mem_append_left _ (List.mem_of_getElem? (i := 12) rfl))))) (cz_c (List.mem_cons_of_mem _ (List.mem_append_left _ (List.mem_append_right _ (List.mem_append_left _ (List.mem_of_getElem? (i := 13) rfl))))) (cz_c (List.mem_cons_of_mem _ (List.mem_append_left _ (List.mem_append_right _ (List.mem_append_left _ (List.mem_of_getElem? (i := 14) rfl))))) (cz_c (List.mem_cons_of_mem _ (List.mem_append_left _ (List.mem_append_right _ (List.mem_append_left _ (List.mem_of_getElem? (i := 15) rfl))))) (cz_c (List.mem_cons_of_mem _ (List.mem_append_left _ (List.mem_append_right _ (List.mem_append_left _ (List.mem_of_getElem? (i := 16) rfl))))) (cz_c (List.mem_cons_of_mem _ (List.mem_append_left _ (List.mem_append_right _ (List.mem_append_left _ (List.mem_of_getElem? (i := 17) rfl))))) (cz_c (List.mem_cons_of_mem _ (List.mem_append_left _ (List.mem_append_right _ (List.mem_append_left _ (List.mem_of_getElem? (i := 18) rfl))))) (cz_c (List.mem_cons_of_mem _ (List.mem_append_left _ (List.mem_append_right _ (List.mem_append_left _ (List.mem_of_getElem? (i := 19) rfl))))) (cz_c (List.mem_cons_of_mem _ (List.mem_append_left _ (List.mem_append_right _ (List.mem_append_left _ (List.mem_of_getElem? (i := 20) rfl))))) (cz_c (List.mem_cons_of_mem _ (List.mem_append_left _ (List.mem_append_right _ (List.mem_append_left _ (List.mem_of_getElem? (i := 21) rfl))))) (cz_c (List.mem_cons_of_mem _ (List.mem_append_left _ (List.mem_append_right _ (List.mem_append_left _ (List.mem_of_getElem? (i := 22) rfl))))) (cz_c (List.mem_cons_of_mem _ (List.mem_append_left _ (List.mem_append_right _ (List.mem_append_left _ (List.mem_of_getElem? (i := 23) rfl))))) (cz_c (List.mem_cons_of_mem _ (List.mem_append_left _ (List.mem_append_right _ (List.mem_append_right _ (List.mem_of_getElem? (i := 0) rfl))))) (cz_c (List.mem_cons_of_mem _ (List.mem_append_left _ (List.mem_append_right _ (List.mem_append_right _ (List.mem_of_getElem? (i := 1) rfl))))) (cz_c (List.mem_cons_of_mem _ (List.mem_append_left _ (List.mem_append_right _ (List.mem_append_right _ (List.mem_of_getElem? (i := 2) rfl))))) (cz_c (List.mem_cons_of_mem _ (List.mem_append_left _ (List.mem_append_right _ (List.mem_append_right _ (List.mem_of_getElem? (i := 3) rfl))))) (cz_c (List.mem_cons_of_mem _ (List.mem_append_left _ (List.mem_append_right _ (List.mem_append_right _ (List.mem_of_getElem? (i := 4) rfl))))) (cz_c (List.mem_cons_of_mem _ (List.mem_append_left _ (List.mem_append_right _ (List.mem_append_right _ (List.mem_of_getElem? (i := 5) rfl))))) cz_n))))))))))))))))))))))
set_option maxRecDepth 20000 in
theorem ggX7_stood_X7_stoodNow : GoodIn wsX7_stood wsX7_stoodNow := goodIn_sub (cz_c (List.mem_cons_of_mem _ (List.mem_append_left _ (List.mem_append_left _ (List.mem_of_getElem? (i := 8) rfl)))) (cz_a (cz_a cz_m_X7_stood_wsX7_stoodNow_r1 cz_m_X7_stood_wsX7_stoodNow_r2) (fun _ h => List.mem_cons_of_mem _ (List.mem_append_right _ h)))) (by decide +kernel)
set_option maxRecDepth 20000 in
theorem gX7_stood_X7_stoodNow : GoodIn wsX7_stood (wsV RX7 188 RX7 yX7_stoodNow wsX7_stoodNow) := goodIn_app (goodIn_sub (cz_c (List.mem_cons_of_mem _ (List.mem_append_left _ (List.mem_append_left _ (List.mem_of_getElem? (i := 5) rfl)))) (cz_c (List.mem_cons_of_mem _ (List.mem_append_left _ (List.mem_append_left _ (List.mem_of_getElem? (i := 6) rfl)))) (cz_c (List.mem_cons_of_mem _ (List.mem_append_left _ (List.mem_append_left _ (List.mem_of_getElem? (i := 7) rfl)))) (cz_c (List.mem_cons_of_mem _ (List.mem_append_left _ (List.mem_append_left _ (List.mem_of_getElem? (i := 3) rfl)))) cz_n)))) (by decide +kernel)) ggX7_stood_X7_stoodNow
set_option maxRecDepth 20000 in
theorem ggX7_walkNow_X7_draw : GoodIn wsX7_walkNow wsX7_draw := goodIn_sub (cz_c (List.mem_cons_of_mem _ (List.mem_append_left _ (List.mem_append_left _ (List.mem_of_getElem? (i := 7) rfl)))) (cz_a (cz_c (List.mem_cons_of_mem _ (List.mem_append_left _ (List.mem_append_left _ (List.mem_of_getElem? (i := 8) rfl)))) (cz_c (List.mem_cons_of_mem _ (List.mem_append_left _ (List.mem_append_left _ (List.mem_of_getElem? (i := 2) rfl)))) (cz_c (List.mem_cons_of_mem _ (List.mem_append_left _ (List.mem_append_left _ (List.mem_of_getElem? (i := 9) rfl)))) (cz_c (List.mem_cons_of_mem _ (List.mem_append_left _ (List.mem_append_left _ (List.mem_of_getElem? (i := 10) rfl)))) (cz_c (List.mem_cons_of_mem _ (List.mem_append_left _ (List.mem_append_left _ (List.mem_of_getElem? (i := 11) rfl)))) cz_n))))) (fun _ h => List.mem_cons_of_mem _ (List.mem_append_right _ h)))) (by decide +kernel)
set_option maxRecDepth 20000 in
theorem gX7_walkNow_X7_draw : GoodIn wsX7_walkNow (wsV RX7 203 RX7 yX7_draw wsX7_draw) := goodIn_app (goodIn_sub (cz_c (List.mem_cons_of_mem _ (List.mem_append_left _ (List.mem_append_left _ (List.mem_of_getElem? (i := 3) rfl)))) (cz_c (List.mem_cons_of_mem _ (List.mem_append_left _ (List.mem_append_left _ (List.mem_of_getElem? (i := 4) rfl)))) (cz_c (List.mem_cons_of_mem _ (List.mem_append_left _ (List.mem_append_left _ (List.mem_of_getElem? (i := 5) rfl)))) (cz_c (List.mem_cons_of_mem _ (List.mem_append_left _ (List.mem_append_left _ (List.mem_of_getElem? (i := 6) rfl)))) cz_n)))) (by decide +kernel)) ggX7_walkNow_X7_draw
set_option maxRecDepth 20000 in
theorem ggX7_walkNow_X7_mayAct : GoodIn wsX7_walkNow wsX7_mayAct := goodIn_sub (cz_c (List.mem_cons_of_mem _ (List.mem_append_left _ (List.mem_append_left _ (List.mem_of_getElem? (i := 15) rfl)))) (cz_a (cz_c (List.mem_cons_of_mem _ (List.mem_append_left _ (List.mem_append_left _ (List.mem_of_getElem? (i := 0) rfl)))) (cz_c (List.mem_cons_of_mem _ (List.mem_append_left _ (List.mem_append_left _ (List.mem_of_getElem? (i := 1) rfl)))) (cz_c (List.mem_cons_of_mem _ (List.mem_append_left _ (List.mem_append_left _ (List.mem_of_getElem? (i := 16) rfl)))) (cz_c (List.mem_cons_of_mem _ (List.mem_append_left _ (List.mem_append_left _ (List.mem_of_getElem? (i := 17) rfl)))) (cz_c (List.mem_cons_of_mem _ (List.mem_append_left _ (List.mem_append_left _ (List.mem_of_getElem? (i := 6) rfl)))) (cz_c (List.mem_cons_of_mem _ (List.mem_append_left _ (List.mem_append_left _ (List.mem_of_getElem? (i := 18) rfl)))) (cz_c (List.mem_cons_of_mem _ (List.mem_append_left _ (List.mem_append_left _ (List.mem_of_getElem? (i := 19) rfl)))) (cz_c (List.mem_cons_of_mem _ (List.mem_append_left _ (List.mem_append_left _ (List.mem_of_getElem? (i := 20) rfl)))) (cz_c (List.mem_cons_of_mem _ (List.mem_append_left _ (List.mem_append_left _ (List.mem_of_getElem? (i := 21) rfl)))) (cz_c (List.mem_cons_of_mem _ (List.mem_append_left _ (List.mem_append_left _ (List.mem_of_getElem? (i := 22) rfl)))) (cz_c (List.mem_cons_of_mem _ (List.mem_append_left _ (List.mem_append_left _ (List.mem_of_getElem? (i := 23) rfl)))) (cz_c (List.mem_cons_of_mem _ (List.mem_append_left _ (List.mem_append_right _ (List.mem_append_left _ (List.mem_of_getElem? (i := 0) rfl))))) (cz_c (List.mem_cons_of_mem _ (List.mem_append_left _ (List.mem_append_right _ (List.mem_append_left _ (List.mem_of_getElem? (i := 1) rfl))))) (cz_c (List.mem_cons_of_mem _ (List.mem_append_left _ (List.mem_append_right _ (List.mem_append_left _ (List.mem_of_getElem? (i := 2) rfl))))) (cz_c (List.mem_cons_of_mem _ (List.mem_append_left _ (List.mem_append_right _ (List.mem_append_left _ (List.mem_of_getElem? (i := 3) rfl))))) (cz_c (List.mem_cons_of_mem _ (List.mem_append_left _ (List.mem_append_right _ (List.mem_append_left _ (List.mem_of_getElem? (i := 4) rfl))))) (cz_c (List.mem_cons_of_mem _ (List.mem_append_left _ (List.mem_append_right _ (List.mem_append_left _ (List.mem_of_getElem? (i := 5) rfl))))) (cz_c (List.mem_cons_of_mem _ (List.mem_append_left _ (List.mem_append_right _ (List.mem_append_left _ (List.mem_of_getElem? (i := 6) rfl))))) (cz_c (List.mem_cons_of_mem _ (List.mem_append_left _ (List.mem_append_right _ (List.mem_append_left _ (List.mem_of_getElem? (i := 7) rfl))))) (cz_c (List.mem_cons_of_mem _ (List.mem_append_left _ (List.mem_append_right _ (List.mem_append_left _ (List.mem_of_getElem? (i := 8) rfl))))) cz_n)))))))))))))))))))) (fun _ h => List.mem_cons_of_mem _ (List.mem_append_right _ h)))) (by decide +kernel)
set_option maxRecDepth 20000 in
theorem gX7_walkNow_X7_mayAct : GoodIn wsX7_walkNow (wsV RX7 146 RX7 yX7_mayAct wsX7_mayAct) := goodIn_app (goodIn_sub (cz_c (List.mem_cons_of_mem _ (List.mem_append_left _ (List.mem_append_left _ (List.mem_of_getElem? (i := 12) rfl)))) (cz_c (List.mem_cons_of_mem _ (List.mem_append_left _ (List.mem_append_left _ (List.mem_of_getElem? (i := 13) rfl)))) (cz_c (List.mem_cons_of_mem _ (List.mem_append_left _ (List.mem_append_left _ (List.mem_of_getElem? (i := 14) rfl)))) (cz_c (List.mem_cons_of_mem _ (List.mem_append_left _ (List.mem_append_left _ (List.mem_of_getElem? (i := 6) rfl)))) cz_n)))) (by decide +kernel)) ggX7_walkNow_X7_mayAct
set_option maxRecDepth 20000 in
theorem ggX7_walkNow_X7_doAct : GoodIn wsX7_walkNow wsX7_doAct := goodIn_sub (cz_c (List.mem_cons_of_mem _ (List.mem_append_left _ (List.mem_append_right _ (List.mem_append_left _ (List.mem_of_getElem? (i := 12) rfl))))) (cz_a (cz_c (List.mem_cons_of_mem _ (List.mem_append_left _ (List.mem_append_left _ (List.mem_of_getElem? (i := 0) rfl)))) (cz_c (List.mem_cons_of_mem _ (List.mem_append_left _ (List.mem_append_left _ (List.mem_of_getElem? (i := 1) rfl)))) (cz_c (List.mem_cons_of_mem _ (List.mem_append_left _ (List.mem_append_left _ (List.mem_of_getElem? (i := 16) rfl)))) (cz_c (List.mem_cons_of_mem _ (List.mem_append_left _ (List.mem_append_left _ (List.mem_of_getElem? (i := 17) rfl)))) (cz_c (List.mem_cons_of_mem _ (List.mem_append_left _ (List.mem_append_left _ (List.mem_of_getElem? (i := 6) rfl)))) (cz_c (List.mem_cons_of_mem _ (List.mem_append_left _ (List.mem_append_left _ (List.mem_of_getElem? (i := 18) rfl)))) cz_n)))))) (fun _ h => List.mem_cons_of_mem _ (List.mem_append_right _ h)))) (by decide +kernel)
set_option maxRecDepth 20000 in
theorem gX7_walkNow_X7_doAct : GoodIn wsX7_walkNow (wsV RX7 149 RX7 yX7_doAct wsX7_doAct) := goodIn_app (goodIn_sub (cz_c (List.mem_cons_of_mem _ (List.mem_append_left _ (List.mem_append_right _ (List.mem_append_left _ (List.mem_of_getElem? (i := 9) rfl))))) (cz_c (List.mem_cons_of_mem _ (List.mem_append_left _ (List.mem_append_right _ (List.mem_append_left _ (List.mem_of_getElem? (i := 10) rfl))))) (cz_c (List.mem_cons_of_mem _ (List.mem_append_left _ (List.mem_append_right _ (List.mem_append_left _ (List.mem_of_getElem? (i := 11) rfl))))) (cz_c (List.mem_cons_of_mem _ (List.mem_append_left _ (List.mem_append_left _ (List.mem_of_getElem? (i := 6) rfl)))) cz_n)))) (by decide +kernel)) ggX7_walkNow_X7_doAct
set_option maxRecDepth 20000 in
theorem cz_m_X7_walkNow_wsX7_guiltySet_r1 : ∀ w ∈ wsX7_guiltySet_r1, w ∈ wsX7_walkNow := (cz_c (List.mem_cons_of_mem _ (List.mem_append_left _ (List.mem_append_right _ (List.mem_append_left _ (List.mem_of_getElem? (i := 7) rfl))))) (cz_c (List.mem_cons_of_mem _ (List.mem_append_left _ (List.mem_append_right _ (List.mem_append_left _ (List.mem_of_getElem? (i := 17) rfl))))) (cz_c (List.mem_cons_of_mem _ (List.mem_append_left _ (List.mem_append_right _ (List.mem_append_left _ (List.mem_of_getElem? (i := 18) rfl))))) (cz_c (List.mem_cons_of_mem _ (List.mem_append_left _ (List.mem_append_right _ (List.mem_append_left _ (List.mem_of_getElem? (i := 19) rfl))))) (cz_c (List.mem_cons_of_mem _ (List.mem_append_left _ (List.mem_append_left _ (List.mem_of_getElem? (i := 6) rfl)))) (cz_c (List.mem_cons_of_mem _ (List.mem_append_left _ (List.mem_append_right _ (List.mem_append_left _ (List.mem_of_getElem? (i := 20) rfl))))) (cz_c (List.mem_cons_of_mem _ (List.mem_append_left _ (List.mem_append_right _ (List.mem_append_left _ (List.mem_of_getElem? (i := 21) rfl))))) (cz_c (List.mem_cons_of_mem _ (List.mem_append_left _ (List.mem_append_right _ (List.mem_append_left _ (List.mem_of_getElem? (i := 22) rfl))))) (cz_c (List.mem_cons_of_mem _ (List.mem_append_left _ (List.mem_append_right _ (List.mem_append_left _ (List.mem_of_getElem? (i := 23) rfl))))) (cz_c (List.mem_cons_of_mem _ (List.mem_append_left _ (List.mem_append_right _ (List.mem_append_right _ (List.mem_of_getElem? (i := 0) rfl))))) (cz_c (List.mem_cons_of_mem _ (List.mem_append_left _ (List.mem_append_right _ (List.mem_append_right _ (List.mem_of_getElem? (i := 1) rfl))))) (cz_c (List.mem_cons_of_mem _ (List.mem_append_left _ (List.mem_append_left _ (List.mem_of_getElem? (i := 0) rfl)))) (cz_c (List.mem_cons_of_mem _ (List.mem_append_left _ (List.mem_append_right _ (List.mem_append_left _ (List.mem_of_getElem? (i := 8) rfl))))) (cz_c (List.mem_cons_of_mem _ (List.mem_append_left _ (List.mem_append_left _ (List.mem_of_getElem? (i := 1) rfl)))) (cz_c (List.mem_cons_of_mem _ (List.mem_append_left _ (List.mem_append_right _ (List.mem_append_right _ (List.mem_of_getElem? (i := 2) rfl))))) (cz_c (List.mem_cons_of_mem _ (List.mem_append_left _ (List.mem_append_right _ (List.mem_append_right _ (List.mem_of_getElem? (i := 3) rfl))))) (cz_c (List.mem_cons_of_mem _ (List.mem_append_left _ (List.mem_append_right _ (List.mem_append_right _ (List.mem_of_getElem? (i := 4) rfl))))) (cz_c (List.mem_cons_of_mem _ (List.mem_append_left _ (List.mem_append_right _ (List.mem_append_right _ (List.mem_of_getElem? (i := 5) rfl))))) (cz_c (List.mem_cons_of_mem _ (List.mem_append_left _ (List.mem_append_right _ (List.mem_append_right _ (List.mem_of_getElem? (i := 6) rfl))))) (cz_c (List.mem_cons_of_mem _ (List.mem_append_left _ (List.mem_append_right _ (List.mem_append_right _ (List.mem_of_getElem? (i := 7) rfl))))) (cz_c (List.mem_cons_of_mem _ (List.mem_append_left _ (List.mem_append_right _ (List.mem_append_right _ (List.mem_of_getElem? (i := 8) rfl))))) (cz_c (List.mem_cons_of_mem _ (List.mem_append_left _ (List.mem_append_right _ (List.mem_append_right _ (List.mem_of_getElem? (i := 9) rfl))))) (cz_c (List.mem_cons_of_mem _ (List.mem_append_left _ (List.mem_append_right _ (List.mem_append_right _ (List.mem_of_getElem? (i := 10) rfl))))) (cz_c (List.mem_cons_of_mem _ (List.mem_append_left _ (List.mem_append_right _ (List.mem_append_right _ (List.mem_of_getElem? (i := 11) rfl))))) cz_n))))))))))))))))))))))))
set_option maxRecDepth 20000 in
theorem cz_m_X7_walkNow_wsX7_guiltySet_r2 : ∀ w ∈ wsX7_guiltySet_r2, w ∈ wsX7_walkNow := (cz_c (List.mem_cons_of_mem _ (List.mem_append_left _ (List.mem_append_right _ (List.mem_append_right _ (List.mem_of_getElem? (i := 12) rfl))))) (cz_c (List.mem_cons_of_mem _ (List.mem_append_left _ (List.mem_append_right _ (List.mem_append_right _ (List.mem_of_getElem? (i := 13) rfl))))) (cz_c (List.mem_cons_of_mem _ (List.mem_append_left _ (List.mem_append_right _ (List.mem_append_right _ (List.mem_of_getElem? (i := 14) rfl))))) (cz_c (List.mem_cons_of_mem _ (List.mem_append_left _ (List.mem_append_right _ (List.mem_append_right _ (List.mem_of_getElem? (i := 15) rfl))))) (cz_c (List.mem_cons_of_mem _ (List.mem_append_left _ (List.mem_append_right _ (List.mem_append_right _ (List.mem_of_getElem? (i := 16) rfl))))) (cz_c (List.mem_cons_of_mem _ (List.mem_append_left _ (List.mem_append_right _ (List.mem_append_right _ (List.mem_of_getElem? (i := 17) rfl))))) (cz_c (List.mem_cons_of_mem _ (List.mem_append_left _ (List.mem_append_left _ (List.mem_of_getElem? (i := 23) rfl)))) (cz_c (List.mem_cons_of_mem _ (List.mem_append_left _ (List.mem_append_right _ (List.mem_append_left _ (List.mem_of_getElem? (i := 0) rfl))))) (cz_c (List.mem_cons_of_mem _ (List.mem_append_left _ (List.mem_append_right _ (List.mem_append_left _ (List.mem_of_getElem? (i := 1) rfl))))) (cz_c (List.mem_cons_of_mem _ (List.mem_append_left _ (List.mem_append_right _ (List.mem_append_left _ (List.mem_of_getElem? (i := 2) rfl))))) (cz_c (List.mem_cons_of_mem _ (List.mem_append_left _ (List.mem_append_right _ (List.mem_append_left _ (List.mem_of_getElem? (i := 3) rfl))))) (cz_c (List.mem_cons_of_mem _ (List.mem_append_left _ (List.mem_append_right _ (List.mem_append_left _ (List.mem_of_getElem? (i := 4) rfl))))) (cz_c (List.mem_cons_of_mem _ (List.mem_append_left _ (List.mem_append_right _ (List.mem_append_left _ (List.mem_of_getElem? (i := 5) rfl))))) (cz_c (List.mem_cons_of_mem _ (List.mem_append_left _ (List.mem_append_right _ (List.mem_append_left _ (List.mem_of_getElem? (i := 6) rfl))))) cz_n))))))))))))))
set_option maxRecDepth 20000 in
theorem ggX7_walkNow_X7_guiltySet : GoodIn wsX7_walkNow wsX7_guiltySet := goodIn_sub (cz_c (List.mem_cons_of_mem _ (List.mem_append_left _ (List.mem_append_right _ (List.mem_append_left _ (List.mem_of_getElem? (i := 16) rfl))))) (cz_a (cz_a cz_m_X7_walkNow_wsX7_guiltySet_r1 cz_m_X7_walkNow_wsX7_guiltySet_r2) (fun _ h => List.mem_cons_of_mem _ (List.mem_append_right _ h)))) (by decide +kernel)
set_option maxRecDepth 20000 in
theorem gX7_walkNow_X7_guiltySet : GoodIn wsX7_walkNow (wsV RX7 153 RX7 yX7_guiltySet wsX7_guiltySet) := goodIn_app (goodIn_sub (cz_c (List.mem_cons_of_mem _ (List.mem_append_left _ (List.mem_append_right _ (List.mem_append_left _ (List.mem_of_getElem? (i := 13) rfl))))) (cz_c (List.mem_cons_of_mem _ (List.mem_append_left _ (List.mem_append_right _ (List.mem_append_left _ (List.mem_of_getElem? (i := 14) rfl))))) (cz_c (List.mem_cons_of_mem _ (List.mem_append_left _ (List.mem_append_right _ (List.mem_append_left _ (List.mem_of_getElem? (i := 15) rfl))))) (cz_c (List.mem_cons_of_mem _ (List.mem_append_left _ (List.mem_append_left _ (List.mem_of_getElem? (i := 6) rfl)))) cz_n)))) (by decide +kernel)) ggX7_walkNow_X7_guiltySet
set_option maxRecDepth 20000 in
theorem ggX7_walkNow_X7_size : GoodIn wsX7_walkNow wsX7_size := goodIn_sub (cz_c (List.mem_cons_of_mem _ (List.mem_append_left _ (List.mem_append_right _ (List.mem_append_right _ (List.mem_of_getElem? (i := 20) rfl))))) cz_n) (by decide +kernel)
set_option maxRecDepth 20000 in
theorem gX7_walkNow_X7_size : GoodIn wsX7_walkNow (va_wsS RX7 89 yX7_size wsX7_size) := goodIn_app (goodIn_sub (cz_c (List.mem_cons_of_mem _ (List.mem_append_left _ (List.mem_append_right _ (List.mem_append_right _ (List.mem_of_getElem? (i := 18) rfl))))) (cz_c (List.mem_cons_of_mem _ (List.mem_append_left _ (List.mem_append_right _ (List.mem_append_right _ (List.mem_of_getElem? (i := 19) rfl))))) (cz_c (List.mem_cons_of_mem _ (List.mem_append_left _ (List.mem_append_left _ (List.mem_of_getElem? (i := 6) rfl)))) cz_n))) (by decide +kernel)) ggX7_walkNow_X7_size
set_option maxRecDepth 20000 in
theorem ggX7_walk_X7_within : GoodIn wsX7_walk wsX7_within := goodIn_sub (cz_c (List.mem_cons_of_mem _ (List.mem_append_left _ (List.mem_append_left _ (List.mem_of_getElem? (i := 4) rfl)))) cz_n) (by decide +kernel)
set_option maxRecDepth 20000 in
theorem gX7_walk_X7_within : GoodIn wsX7_walk (va_wsS RX7 57 yX7_within wsX7_within) := goodIn_app (goodIn_sub (cz_c (List.mem_cons_of_mem _ (List.mem_append_left _ (List.mem_append_left _ (List.mem_of_getElem? (i := 1) rfl)))) (cz_c (List.mem_cons_of_mem _ (List.mem_append_left _ (List.mem_append_left _ (List.mem_of_getElem? (i := 2) rfl)))) (cz_c (List.mem_cons_of_mem _ (List.mem_append_left _ (List.mem_append_left _ (List.mem_of_getElem? (i := 3) rfl)))) cz_n))) (by decide +kernel)) ggX7_walk_X7_within
set_option maxRecDepth 20000 in
theorem cz_m_X7_walk_wsX7_walkNow_r1 : ∀ w ∈ wsX7_walkNow_r1, w ∈ wsX7_walk := (cz_c (List.mem_cons_of_mem _ (List.mem_append_left _ (List.mem_append_left _ (List.mem_of_getElem? (i := 0) rfl)))) (cz_c (List.mem_cons_of_mem _ (List.mem_append_left _ (List.mem_append_left _ (List.mem_of_getElem? (i := 9) rfl)))) (cz_c (List.mem_cons_of_mem _ (List.mem_append_left _ (List.mem_append_left _ (List.mem_of_getElem? (i := 10) rfl)))) (cz_c (List.mem_cons_of_mem _ (List.mem_append_left _ (List.mem_append_left _ (List.mem_of_getElem? (i := 11) rfl)))) (cz_c (List.mem_cons_of_mem _ (List.mem_append_left _ (List.mem_append_left _ (List.mem_of_getElem? (i := 12) rfl)))) (cz_c (List.mem_cons_of_mem _ (List.mem_append_left _ (List.mem_append_left _ (List.mem_of_getElem? (i := 13) rfl)))) (cz_c (List.mem_cons_of_mem _ (List.mem_append_left _ (List.mem_append_left _ (List.mem_of_getElem? (i := 3) rfl)))) (cz_c (List.mem_cons_of_mem _ (List.mem_append_left _ (List.mem_append_left _ (List.mem_of_getElem? (i := 14) rfl)))) (cz_c (List.mem_cons_of_mem _ (List.mem_append_left _ (List.mem_append_left _ (List.mem_of_getElem? (i := 15) rfl)))) (cz_c (List.mem_cons_of_mem _ (List.mem_append_left _ (List.mem_append_left _ (List.mem_of_getElem? (i := 16) rfl)))) (cz_c (List.mem_cons_of_mem _ (List.mem_append_left _ (List.mem_append_left _ (List.mem_of_getElem? (i := 17) rfl)))) (cz_c (List.mem_cons_of_mem _ (List.mem_append_left _ (List.mem_append_left _ (List.mem_of_getElem? (i := 18) rfl)))) (cz_c (List.mem_cons_of_mem _ (List.mem_append_left _ (List.mem_append_left _ (List.mem_of_getElem? (i := 19) rfl)))) (cz_c (List.mem_cons_of_mem _ (List.mem_append_left _ (List.mem_append_left _ (List.mem_of_getElem? (i := 20) rfl)))) (cz_c (List.mem_cons_of_mem _ (List.mem_append_left _ (List.mem_append_left _ (List.mem_of_getElem? (i := 21) rfl)))) (cz_c (List.mem_cons_of_mem _ (List.mem_append_left _ (List.mem_append_left _ (List.mem_of_getElem? (i := 22) rfl)))) (cz_c (List.mem_cons_of_mem _ (List.mem_append_left _ (List.mem_append_left _ (List.mem_of_getElem? (i := 23) rfl)))) (cz_c (List.mem_cons_of_mem _ (List.mem_append_left _ (List.mem_append_right _ (List.mem_append_left _ (List.mem_of_getElem? (i := 0) rfl))))) (cz_c (List.mem_cons_of_mem _ (List.mem_append_left _ (List.mem_append_right _ (List.mem_append_left _ (List.mem_of_getElem? (i := 1) rfl))))) (cz_c (List.mem_cons_of_mem _ (List.mem_append_left _ (List.mem_append_right _ (List.mem_append_left _ (List.mem_of_getElem? (i := 2) rfl))))) (cz_c (List.mem_cons_of_mem _ (List.mem_append_left _ (List.mem_append_right _ (List.mem_append_left _ (List.mem_of_getElem? (i := 3) rfl))))) (cz_c (List.mem_cons_of_mem _ (List.mem_append_left _ (List.mem_append_right _ (List.mem_append_left _ (List.mem_of_getElem? (i := 4) rfl))))) (cz_c (List.mem_cons_of_mem _ (List.mem_append_left _ (List.mem_append_right _ (List.mem_append_left _ (List.mem_of_getElem? (i := 5) rfl))))) (cz_c (List.mem_cons_of_mem _ (List.mem_append_left _ (List.mem_append_right _ (List.mem_append_left _ (List.mem_of_getElem? (i := 6) rfl))))) cz_n))))))))))))))))))))))))
set_option maxRecDepth 20000 in
theorem cz_m_X7_walk_wsX7_walkNow_r2 : ∀ w ∈ wsX7_walkNow_r2, w ∈ wsX7_walk := (cz_c (List.mem_cons_of_mem _ (List.mem_append_left _ (List.mem_append_right _ (List.mem_append_left _ (List.mem_of_getElem? (i := 7) rfl))))) (cz_c (List.mem_cons_of_mem _ (List.mem_append_left _ (List.mem_append_right _ (List.mem_append_left _ (List.mem_of_getElem? (i := 8) rfl))))) (cz_c (List.mem_cons_of_mem _ (List.mem_append_left _ (List.mem_append_right _ (List.mem_append_left _ (List.mem_of_getElem? (i := 9) rfl))))) (cz_c (List.mem_cons_of_mem _ (List.mem_append_left _ (List.mem_append_right _ (List.mem_append_left _ (List.mem_of_getElem? (i := 10) rfl))))) (cz_c (List.mem_cons_of_mem _ (List.mem_append_left _ (List.mem_append_right _ (List.mem_append_left _ (List.mem_of_getElem? (i := 11) rfl))))) (cz_c (List.mem_cons_of_mem _ (List.mem_append_left _ (List.mem_append_right _ (List.mem_append_left _ (List.mem_of_getElem? (i := 12) rfl))))) (cz_c (List.mem_cons_of_mem _ (List.mem_append_left _ (List.mem_append_right _ (List.mem_append_left _ (List.mem_of_getElem? (i := 13) rfl))))) (cz_c (List.mem_cons_of_mem _ (List.mem_append_left _ (List.mem_append_right _ (List.mem_append_left _ (List.mem_of_getElem? (i := 14) rfl))))) (cz_c (List.mem_cons_of_mem _ (List.mem_append_left _ (List.mem_append_right _ (List.mem_append_left _ (List.mem_of_getElem? (i := 15) rfl))))) (cz_c (List.mem_cons_of_mem _ (List.mem_append_left _ (List.mem_append_right _ (List.mem_append_left _ (List.mem_of_getElem? (i := 16) rfl))))) (cz_c (List.mem_cons_of_mem _ (List.mem_append_left _ (List.mem_append_right _ (List.mem_append_left _ (List.mem_of_getElem? (i := 17) rfl))))) (cz_c (List.mem_cons_of_mem _ (List.mem_append_left _ (List.mem_append_right _ (List.mem_append_left _ (List.mem_of_getElem? (i := 18) rfl))))) (cz_c (List.mem_cons_of_mem _ (List.mem_append_left _ (List.mem_append_right _ (List.mem_append_left _ (List.mem_of_getElem? (i := 19) rfl))))) (cz_c (List.mem_cons_of_mem _ (List.mem_append_left _ (List.mem_append_right _ (List.mem_append_left _ (List.mem_of_getElem? (i := 20) rfl))))) (cz_c (List.mem_cons_of_mem _ (List.mem_append_left _ (List.mem_append_right _ (List.mem_append_left _ (List.mem_of_getElem? (i := 21) rfl))))) (cz_c (List.mem_cons_of_mem _ (List.mem_append_left _ (List.mem_append_right _ (List.mem_append_left _ (List.mem_of_getElem? (i := 22) rfl))))) (cz_c (List.mem_cons_of_mem _ (List.mem_append_left _ (List.mem_append_right _ (List.mem_append_left _ (List.mem_of_getElem? (i := 23) rfl))))) (cz_c (List.mem_cons_of_mem _ (List.mem_append_left _ (List.mem_append_right _ (List.mem_append_right _ (List.mem_append_left _ (List.mem_of_getElem? (i := 0) rfl)))))) (cz_c (List.mem_cons_of_mem _ (List.mem_append_left _ (List.mem_append_right _ (List.mem_append_right _ (List.mem_append_left _ (List.mem_of_getElem? (i := 1) rfl)))))) (cz_c (List.mem_cons_of_mem _ (List.mem_append_left _ (List.mem_append_right _ (List.mem_append_right _ (List.mem_append_left _ (List.mem_of_getElem? (i := 2) rfl)))))) (cz_c (List.mem_cons_of_mem _ (List.mem_append_left _ (List.mem_append_right _ (List.mem_append_right _ (List.mem_append_left _ (List.mem_of_getElem? (i := 3) rfl)))))) (cz_c (List.mem_cons_of_mem _ (List.mem_append_left _ (List.mem_append_right _ (List.mem_append_right _ (List.mem_append_left _ (List.mem_of_getElem? (i := 4) rfl)))))) (cz_c (List.mem_cons_of_mem _ (List.mem_append_left _ (List.mem_append_right _ (List.mem_append_right _ (List.mem_append_left _ (List.mem_of_getElem? (i := 5) rfl)))))) (cz_c (List.mem_cons_of_mem _ (List.mem_append_left _ (List.mem_append_right _ (List.mem_append_right _ (List.mem_append_left _ (List.mem_of_getElem? (i := 6) rfl)))))) cz_n))))))))))))))))))))))))
set_option maxRecDepth 20000 in
theorem cz_m_X7_walk_wsX7_walkNow_r3 : ∀ w ∈ wsX7_walkNow_r3, w ∈ wsX7_walk := (cz_c (List.mem_cons_of_mem _ (List.mem_append_left _ (List.mem_append_right _ (List.mem_append_right _ (List.mem_append_left _ (List.mem_of_getElem? (i := 7) rfl)))))) (cz_c (List.mem_cons_of_mem _ (List.mem_append_left _ (List.mem_append_right _ (List.mem_append_right _ (List.mem_append_left _ (List.mem_of_getElem? (i := 8) rfl)))))) (cz_c (List.mem_cons_of_mem _ (List.mem_append_left _ (List.mem_append_right _ (List.mem_append_right _ (List.mem_append_left _ (List.mem_of_getElem? (i := 9) rfl)))))) (cz_c (List.mem_cons_of_mem _ (List.mem_append_left _ (List.mem_append_right _ (List.mem_append_right _ (List.mem_append_left _ (List.mem_of_getElem? (i := 10) rfl)))))) (cz_c (List.mem_cons_of_mem _ (List.mem_append_left _ (List.mem_append_right _ (List.mem_append_right _ (List.mem_append_left _ (List.mem_of_getElem? (i := 11) rfl)))))) (cz_c (List.mem_cons_of_mem _ (List.mem_append_left _ (List.mem_append_right _ (List.mem_append_right _ (List.mem_append_left _ (List.mem_of_getElem? (i := 12) rfl)))))) (cz_c (List.mem_cons_of_mem _ (List.mem_append_left _ (List.mem_append_right _ (List.mem_append_right _ (List.mem_append_left _ (List.mem_of_getElem? (i := 13) rfl)))))) (cz_c (List.mem_cons_of_mem _ (List.mem_append_left _ (List.mem_append_right _ (List.mem_append_right _ (List.mem_append_left _ (List.mem_of_getElem? (i := 14) rfl)))))) (cz_c (List.mem_cons_of_mem _ (List.mem_append_left _ (List.mem_append_right _ (List.mem_append_right _ (List.mem_append_left _ (List.mem_of_getElem? (i := 15) rfl)))))) (cz_c (List.mem_cons_of_mem _ (List.mem_append_left _ (List.mem_append_right _ (List.mem_append_right _ (List.mem_append_left _ (List.mem_of_getElem? (i := 16) rfl)))))) (cz_c (List.mem_cons_of_mem _ (List.mem_append_left _ (List.mem_append_right _ (List.mem_append_right _ (List.mem_append_left _ (List.mem_of_getElem? (i := 17) rfl)))))) (cz_c (List.mem_cons_of_mem _ (List.mem_append_left _ (List.mem_append_right _ (List.mem_append_right _ (List.mem_append_left _ (List.mem_of_getElem? (i := 18) rfl)))))) (cz_c (List.mem_cons_of_mem _ (List.mem_append_left _ (List.mem_append_right _ (List.mem_append_right _ (List.mem_append_left _ (List.mem_of_getElem? (i := 19) rfl)))))) (cz_c (List.mem_cons_of_mem _ (List.mem_append_left _ (List.mem_append_right _ (List.mem_append_right _ (List.mem_append_left _ (List.mem_of_getElem? (i := 20) rfl)))))) (cz_c (List.mem_cons_of_mem _ (List.mem_append_left _ (List.mem_append_right _ (List.mem_append_right _ (List.mem_append_left _ (List.mem_of_getElem? (i := 21) rfl)))))) (cz_c (List.mem_cons_of_mem _ (List.mem_append_left _ (List.mem_append_right _ (List.mem_append_right _ (List.mem_append_left _ (List.mem_of_getElem? (i := 22) rfl)))))) (cz_c (List.mem_cons_of_mem _ (List.mem_append_left _ (List.mem_append_right _ (List.mem_append_right _ (List.mem_append_left _ (List.mem_of_getElem? (i := 23) rfl)))))) (cz_c (List.mem_cons_of_mem _ (List.mem_append_left _ (List.mem_append_right _ (List.mem_append_right _ (List.mem_append_right _ (List.mem_of_getElem? (i := 0) rfl)))))) (cz_c (List.mem_cons_of_mem _ (List.mem_append_left _ (List.mem_append_right _ (List.mem_append_right _ (List.mem_append_right _ (List.mem_of_getElem? (i := 1) rfl)))))) (cz_c (List.mem_cons_of_mem _ (List.mem_append_left _ (List.mem_append_right _ (List.mem_append_right _ (List.mem_append_right _ (List.mem_of_getElem? (i := 2) rfl)))))) (cz_c (List.mem_cons_of_mem _ (List.mem_append_left _ (List.mem_append_right _ (List.mem_append_right _ (List.mem_append_right _ (List.mem_of_getElem? (i := 3) rfl)))))) cz_n)))))))))))))))))))))
set_option maxRecDepth 20000 in
theorem ggX7_walk_X7_walkNow : GoodIn wsX7_walk wsX7_walkNow := goodIn_sub (cz_c (List.mem_cons_of_mem _ (List.mem_append_left _ (List.mem_append_left _ (List.mem_of_getElem? (i := 8) rfl)))) (cz_a (cz_a cz_m_X7_walk_wsX7_walkNow_r1 (cz_a cz_m_X7_walk_wsX7_walkNow_r2 cz_m_X7_walk_wsX7_walkNow_r3)) (fun _ h => List.mem_cons_of_mem _ (List.mem_append_right _ h)))) (by decide +kernel)
set_option maxRecDepth 20000 in
theorem gX7_walk_X7_walkNow : GoodIn wsX7_walk (wsV RX7 206 RX7 yX7_walkNow wsX7_walkNow) := goodIn_app (goodIn_sub (cz_c (List.mem_cons_of_mem _ (List.mem_append_left _ (List.mem_append_left _ (List.mem_of_getElem? (i := 5) rfl)))) (cz_c (List.mem_cons_of_mem _ (List.mem_append_left _ (List.mem_append_left _ (List.mem_of_getElem? (i := 6) rfl)))) (cz_c (List.mem_cons_of_mem _ (List.mem_append_left _ (List.mem_append_left _ (List.mem_of_getElem? (i := 7) rfl)))) (cz_c (List.mem_cons_of_mem _ (List.mem_append_left _ (List.mem_append_left _ (List.mem_of_getElem? (i := 3) rfl)))) cz_n)))) (by decide +kernel)) ggX7_walk_X7_walkNow
set_option maxRecDepth 20000 in
theorem ggX7_howMany_X7_size : GoodIn wsX7_howMany wsX7_size := goodIn_sub (cz_c (List.mem_cons_of_mem _ (List.mem_append_left _ (List.mem_append_left _ (List.mem_of_getElem? (i := 10) rfl)))) cz_n) (by decide +kernel)
set_option maxRecDepth 20000 in
theorem gX7_howMany_X7_size : GoodIn wsX7_howMany (va_wsS RX7 89 yX7_size wsX7_size) := goodIn_app (goodIn_sub (cz_c (List.mem_cons_of_mem _ (List.mem_append_left _ (List.mem_append_left _ (List.mem_of_getElem? (i := 7) rfl)))) (cz_c (List.mem_cons_of_mem _ (List.mem_append_left _ (List.mem_append_left _ (List.mem_of_getElem? (i := 8) rfl)))) (cz_c (List.mem_cons_of_mem _ (List.mem_append_left _ (List.mem_append_left _ (List.mem_of_getElem? (i := 9) rfl)))) cz_n))) (by decide +kernel)) ggX7_howMany_X7_size
set_option maxRecDepth 20000 in
theorem cz_m_X7_howMany_wsX7_guiltySet_r1 : ∀ w ∈ wsX7_guiltySet_r1, w ∈ wsX7_howMany := (cz_c (List.mem_cons_of_mem _ (List.mem_append_left _ (List.mem_append_left _ (List.mem_of_getElem? (i := 1) rfl)))) (cz_c (List.mem_cons_of_mem _ (List.mem_append_left _ (List.mem_append_left _ (List.mem_of_getElem? (i := 15) rfl)))) (cz_c (List.mem_cons_of_mem _ (List.mem_append_left _ (List.mem_append_left _ (List.mem_of_getElem? (i := 16) rfl)))) (cz_c (List.mem_cons_of_mem _ (List.mem_append_left _ (List.mem_append_left _ (List.mem_of_getElem? (i := 17) rfl)))) (cz_c (List.mem_cons_of_mem _ (List.mem_append_left _ (List.mem_append_left _ (List.mem_of_getElem? (i := 9) rfl)))) (cz_c (List.mem_cons_of_mem _ (List.mem_append_left _ (List.mem_append_left _ (List.mem_of_getElem? (i := 18) rfl)))) (cz_c (List.mem_cons_of_mem _ (List.mem_append_left _ (List.mem_append_left _ (List.mem_of_getElem? (i := 19) rfl)))) (cz_c (List.mem_cons_of_mem _ (List.mem_append_left _ (List.mem_append_left _ (List.mem_of_getElem? (i := 20) rfl)))) (cz_c (List.mem_cons_of_mem _ (List.mem_append_left _ (List.mem_append_left _ (List.mem_of_getElem? (i := 21) rfl)))) (cz_c (List.mem_cons_of_mem _ (List.mem_append_left _ (List.mem_append_left _ (List.mem_of_getElem? (i := 22) rfl)))) (cz_c (List.mem_cons_of_mem _ (List.mem_append_left _ (List.mem_append_left _ (List.mem_of_getElem? (i := 23) rfl)))) (cz_c (List.mem_cons_of_mem _ (List.mem_append_left _ (List.mem_append_left _ (List.mem_of_getElem? (i := 2) rfl)))) (cz_c (List.mem_cons_of_mem _ (List.mem_append_left _ (List.mem_append_right _ (List.mem_append_left _ (List.mem_of_getElem? (i := 0) rfl))))) (cz_c (List.mem_cons_of_mem _ (List.mem_append_left _ (List.mem_append_left _ (List.mem_of_getElem? (i := 3) rfl)))) (cz_c (List.mem_cons_of_mem _ (List.mem_append_left _ (List.mem_append_right _ (List.mem_append_left _ (List.mem_of_getElem? (i := 1) rfl))))) (cz_c (List.mem_cons_of_mem _ (List.mem_append_left _ (List.mem_append_right _ (List.mem_append_left _ (List.mem_of_getElem? (i := 2) rfl))))) (cz_c (List.mem_cons_of_mem _ (List.mem_append_left _ (List.mem_append_right _ (List.mem_append_left _ (List.mem_of_getElem? (i := 3) rfl))))) (cz_c (List.mem_cons_of_mem _ (List.mem_append_left _ (List.mem_append_right _ (List.mem_append_left _ (List.mem_of_getElem? (i := 4) rfl))))) (cz_c (List.mem_cons_of_mem _ (List.mem_append_left _ (List.mem_append_right _ (List.mem_append_left _ (List.mem_of_getElem? (i := 5) rfl))))) (cz_c (List.mem_cons_of_mem _ (List.mem_append_left _ (List.mem_append_right _ (List.mem_append_left _ (List.mem_of_getElem? (i := 6) rfl))))) (cz_c (List.mem_cons_of_mem _ (List.mem_append_left _ (List.mem_append_right _ (List.mem_append_left _ (List.mem_of_getElem? (i := 7) rfl))))) (cz_c (List.mem_cons_of_mem _ (List.mem_append_left _ (List.mem_append_right _ (List.mem_append_left _ (List.mem_of_getElem? (i := 8) rfl))))) (cz_c (List.mem_cons_of_mem _ (List.mem_append_left _ (List.mem_append_right _ (List.mem_append_left _ (List.mem_of_getElem? (i := 9) rfl))))) (cz_c (List.mem_cons_of_mem _ (List.mem_append_left _ (List.mem_append_right _ (List.mem_append_left _ (List.mem_of_getElem? (i := 10) rfl))))) cz_n))))))))))))))))))))))))
set_option maxRecDepth 20000 in
theorem cz_m_X7_howMany_wsX7_guiltySet_r2 : ∀ w ∈ wsX7_guiltySet_r2, w ∈ wsX7_howMany := (cz_c (List.mem_cons_of_mem _ (List.mem_append_left _ (List.mem_append_right _ (List.mem_append_left _ (List.mem_of_getElem? (i := 11) rfl))))) (cz_c (List.mem_cons_of_mem _ (List.mem_append_left _ (List.mem_append_right _ (List.mem_append_left _ (List.mem_of_getElem? (i := 12) rfl))))) (cz_c (List.mem_cons_of_mem _ (List.mem_append_left _ (List.mem_append_right _ (List.mem_append_left _ (List.mem_of_getElem? (i := 13) rfl))))) (cz_c (List.mem_cons_of_mem _ (List.mem_append_left _ (List.mem_append_right _ (List.mem_append_left _ (List.mem_of_getElem? (i := 14) rfl))))) (cz_c (List.mem_cons_of_mem _ (List.mem_append_left _ (List.mem_append_right _ (List.mem_append_left _ (List.mem_of_getElem? (i := 15) rfl))))) (cz_c (List.mem_cons_of_mem _ (List.mem_append_left _ (List.mem_append_right _ (List.mem_append_left _ (List.mem_of_getElem? (i := 16) rfl))))) (cz_c (List.mem_cons_of_mem _ (List.mem_append_left _ (List.mem_append_left _ (List.mem_of_getElem? (i := 0) rfl)))) (cz_c (List.mem_cons_of_mem _ (List.mem_append_left _ (List.mem_append_right _ (List.mem_append_left _ (List.mem_of_getElem? (i := 17) rfl))))) (cz_c (List.mem_cons_of_mem _ (List.mem_append_left _ (List.mem_append_right _ (List.mem_append_left _ (List.mem_of_getElem? (i := 18) rfl))))) (cz_c (List.mem_cons_of_mem _ (List.mem_append_left _ (List.mem_append_right _ (List.mem_append_left _ (List.mem_of_getElem? (i := 19) rfl))))) (cz_c (List.mem_cons_of_mem _ (List.mem_append_left _ (List.mem_append_right _ (List.mem_append_left _ (List.mem_of_getElem? (i := 20) rfl))))) (cz_c (List.mem_cons_of_mem _ (List.mem_append_left _ (List.mem_append_right _ (List.mem_append_left _ (List.mem_of_getElem? (i := 21) rfl))))) (cz_c (List.mem_cons_of_mem _ (List.mem_append_left _ (List.mem_append_right _ (List.mem_append_left _ (List.mem_of_getElem? (i := 22) rfl))))) (cz_c (List.mem_cons_of_mem _ (List.mem_append_left _ (List.mem_append_right _ (List.mem_append_left _ (List.mem_of_getElem? (i := 23) rfl))))) cz_n))))))))))))))
set_option maxRecDepth 20000 in
theorem ggX7_howMany_X7_guiltySet : GoodIn wsX7_howMany wsX7_guiltySet := goodIn_sub (cz_c (List.mem_cons_of_mem _ (List.mem_append_left _ (List.mem_append_left _ (List.mem_of_getElem? (i := 14) rfl)))) (cz_a (cz_a cz_m_X7_howMany_wsX7_guiltySet_r1 cz_m_X7_howMany_wsX7_guiltySet_r2) (fun _ h => List.mem_cons_of_mem _ (List.mem_append_right _ h)))) (by decide +kernel)
set_option maxRecDepth 20000 in
theorem gX7_howMany_X7_guiltySet : GoodIn wsX7_howMany (wsV RX7 153 RX7 yX7_guiltySet wsX7_guiltySet) := goodIn_app (goodIn_sub (cz_c (List.mem_cons_of_mem _ (List.mem_append_left _ (List.mem_append_left _ (List.mem_of_getElem? (i := 11) rfl)))) (cz_c (List.mem_cons_of_mem _ (List.mem_append_left _ (List.mem_append_left _ (List.mem_of_getElem? (i := 12) rfl)))) (cz_c (List.mem_cons_of_mem _ (List.mem_append_left _ (List.mem_append_left _ (List.mem_of_getElem? (i := 13) rfl)))) (cz_c (List.mem_cons_of_mem _ (List.mem_append_left _ (List.mem_append_left _ (List.mem_of_getElem? (i := 9) rfl)))) cz_n)))) (by decide +kernel)) ggX7_howMany_X7_guiltySet
set_option maxRecDepth 20000 in
theorem ggX7_howMany_X7_toldMany : GoodIn wsX7_howMany wsX7_toldMany := goodIn_sub (cz_c (List.mem_cons_of_mem _ (List.mem_append_left _ (List.mem_append_right _ (List.mem_append_right _ (List.mem_of_getElem? (i := 3) rfl))))) (cz_a (cz_c (List.mem_cons_of_mem _ (List.mem_append_left _ (List.mem_append_left _ (List.mem_of_getElem? (i := 1) rfl)))) (cz_c (List.mem_cons_of_mem _ (List.mem_append_left _ (List.mem_append_right _ (List.mem_append_right _ (List.mem_of_getElem? (i := 4) rfl))))) cz_n)) (fun _ h => List.mem_cons_of_mem _ (List.mem_append_right _ h)))) (by decide +kernel)
set_option maxRecDepth 20000 in
theorem gX7_howMany_X7_toldMany : GoodIn wsX7_howMany (wsV RX7 228 RX7 yX7_toldMany wsX7_toldMany) := goodIn_app (goodIn_sub (cz_c (List.mem_cons_of_mem _ (List.mem_append_left _ (List.mem_append_right _ (List.mem_append_right _ (List.mem_of_getElem? (i := 0) rfl))))) (cz_c (List.mem_cons_of_mem _ (List.mem_append_left _ (List.mem_append_right _ (List.mem_append_right _ (List.mem_of_getElem? (i := 1) rfl))))) (cz_c (List.mem_cons_of_mem _ (List.mem_append_left _ (List.mem_append_right _ (List.mem_append_right _ (List.mem_of_getElem? (i := 2) rfl))))) (cz_c (List.mem_cons_of_mem _ (List.mem_append_left _ (List.mem_append_left _ (List.mem_of_getElem? (i := 9) rfl)))) cz_n)))) (by decide +kernel)) ggX7_howMany_X7_toldMany
set_option maxRecDepth 20000 in
theorem cz_m_X7_count_wsX7_howMany_r1 : ∀ w ∈ wsX7_howMany_r1, w ∈ wsX7_count := (cz_c (List.mem_cons_of_mem _ (List.mem_append_left _ (List.mem_append_left _ (List.mem_of_getElem? (i := 5) rfl)))) (cz_c (List.mem_cons_of_mem _ (List.mem_append_left _ (List.mem_append_left _ (List.mem_of_getElem? (i := 6) rfl)))) (cz_c (List.mem_cons_of_mem _ (List.mem_append_left _ (List.mem_append_left _ (List.mem_of_getElem? (i := 7) rfl)))) (cz_c (List.mem_cons_of_mem _ (List.mem_append_left _ (List.mem_append_left _ (List.mem_of_getElem? (i := 8) rfl)))) (cz_c (List.mem_cons_of_mem _ (List.mem_append_left _ (List.mem_append_left _ (List.mem_of_getElem? (i := 9) rfl)))) (cz_c (List.mem_cons_of_mem _ (List.mem_append_left _ (List.mem_append_left _ (List.mem_of_getElem? (i := 10) rfl)))) (cz_c (List.mem_cons_of_mem _ (List.mem_append_left _ (List.mem_append_left _ (List.mem_of_getElem? (i := 11) rfl)))) (cz_c (List.mem_cons_of_mem _ (List.mem_append_left _ (List.mem_append_left _ (List.mem_of_getElem? (i := 12) rfl)))) (cz_c (List.mem_cons_of_mem _ (List.mem_append_left _ (List.mem_append_left _ (List.mem_of_getElem? (i := 13) rfl)))) (cz_c (List.mem_cons_of_mem _ (List.mem_append_left _ (List.mem_append_left _ (List.mem_of_getElem? (i := 3) rfl)))) (cz_c (List.mem_cons_of_mem _ (List.mem_append_left _ (List.mem_append_left _ (List.mem_of_getElem? (i := 14) rfl)))) (cz_c (List.mem_cons_of_mem _ (List.mem_append_left _ (List.mem_append_left _ (List.mem_of_getElem? (i := 15) rfl)))) (cz_c (List.mem_cons_of_mem _ (List.mem_append_left _ (List.mem_append_left _ (List.mem_of_getElem? (i := 16) rfl)))) (cz_c (List.mem_cons_of_mem _ (List.mem_append_left _ (List.mem_append_left _ (List.mem_of_getElem? (i := 17) rfl)))) (cz_c (List.mem_cons_of_mem _ (List.mem_append_left _ (List.mem_append_left _ (List.mem_of_getElem? (i := 18) rfl)))) (cz_c (List.mem_cons_of_mem _ (List.mem_append_left _ (List.mem_append_left _ (List.mem_of_getElem? (i := 19) rfl)))) (cz_c (List.mem_cons_of_mem _ (List.mem_append_left _ (List.mem_append_left _ (List.mem_of_getElem? (i := 20) rfl)))) (cz_c (List.mem_cons_of_mem _ (List.mem_append_left _ (List.mem_append_left _ (List.mem_of_getElem? (i := 21) rfl)))) (cz_c (List.mem_cons_of_mem _ (List.mem_append_left _ (List.mem_append_left _ (List.mem_of_getElem? (i := 22) rfl)))) (cz_c (List.mem_cons_of_mem _ (List.mem_append_left _ (List.mem_append_left _ (List.mem_of_getElem? (i := 23) rfl)))) (cz_c (List.mem_cons_of_mem _ (List.mem_append_left _ (List.mem_append_right _ (List.mem_append_left _ (List.mem_of_getElem? (i := 0) rfl))))) (cz_c (List.mem_cons_of_mem _ (List.mem_append_left _ (List.mem_append_right _ (List.mem_append_left _ (List.mem_of_getElem? (i := 1) rfl))))) (cz_c (List.mem_cons_of_mem _ (List.mem_append_left _ (List.mem_append_right _ (List.mem_append_left _ (List.mem_of_getElem? (i := 2) rfl))))) (cz_c (List.mem_cons_of_mem _ (List.mem_append_left _ (List.mem_append_right _ (List.mem_append_left _ (List.mem_of_getElem? (i := 3) rfl))))) cz_n))))))))))))))))))))))))
set_option maxRecDepth 20000 in
theorem cz_m_X7_count_wsX7_howMany_r2 : ∀ w ∈ wsX7_howMany_r2, w ∈ wsX7_count := (cz_c (List.mem_cons_of_mem _ (List.mem_append_left _ (List.mem_append_right _ (List.mem_append_left _ (List.mem_of_getElem? (i := 4) rfl))))) (cz_c (List.mem_cons_of_mem _ (List.mem_append_left _ (List.mem_append_right _ (List.mem_append_left _ (List.mem_of_getElem? (i := 5) rfl))))) (cz_c (List.mem_cons_of_mem _ (List.mem_append_left _ (List.mem_append_right _ (List.mem_append_left _ (List.mem_of_getElem? (i := 6) rfl))))) (cz_c (List.mem_cons_of_mem _ (List.mem_append_left _ (List.mem_append_right _ (List.mem_append_left _ (List.mem_of_getElem? (i := 7) rfl))))) (cz_c (List.mem_cons_of_mem _ (List.mem_append_left _ (List.mem_append_right _ (List.mem_append_left _ (List.mem_of_getElem? (i := 8) rfl))))) (cz_c (List.mem_cons_of_mem _ (List.mem_append_left _ (List.mem_append_right _ (List.mem_append_left _ (List.mem_of_getElem? (i := 9) rfl))))) (cz_c (List.mem_cons_of_mem _ (List.mem_append_left _ (List.mem_append_right _ (List.mem_append_left _ (List.mem_of_getElem? (i := 10) rfl))))) (cz_c (List.mem_cons_of_mem _ (List.mem_append_left _ (List.mem_append_right _ (List.mem_append_left _ (List.mem_of_getElem? (i := 11) rfl))))) (cz_c (List.mem_cons_of_mem _ (List.mem_append_left _ (List.mem_append_right _ (List.mem_append_left _ (List.mem_of_getElem? (i := 12) rfl))))) (cz_c (List.mem_cons_of_mem _ (List.mem_append_left _ (List.mem_append_right _ (List.mem_append_left _ (List.mem_of_getElem? (i := 13) rfl))))) (cz_c (List.mem_cons_of_mem _ (List.mem_append_left _ (List.mem_append_right _ (List.mem_append_left _ (List.mem_of_getElem? (i := 14) rfl))))) (cz_c (List.mem_cons_of_mem _ (List.mem_append_left _ (List.mem_append_right _ (List.mem_append_left _ (List.mem_of_getElem? (i := 15) rfl))))) (cz_c (List.mem_cons_of_mem _ (List.mem_append_left _ (List.mem_append_right _ (List.mem_append_left _ (List.mem_of_getElem? (i := 16) rfl))))) (cz_c (List.mem_cons_of_mem _ (List.mem_append_left _ (List.mem_append_right _ (List.mem_append_left _ (List.mem_of_getElem? (i := 17) rfl))))) (cz_c (List.mem_cons_of_mem _ (List.mem_append_left _ (List.mem_append_right _ (List.mem_append_left _ (List.mem_of_getElem? (i := 18) rfl))))) (cz_c (List.mem_cons_of_mem _ (List.mem_append_left _ (List.mem_append_right _ (List.mem_append_left _ (List.mem_of_getElem? (i := 19) rfl))))) (cz_c (List.mem_cons_of_mem _ (List.mem_append_left _ (List.mem_append_right _ (List.mem_append_left _ (List.mem_of_getElem? (i := 20) rfl))))) (cz_c (List.mem_cons_of_mem _ (List.mem_append_left _ (List.mem_append_right _ (List.mem_append_left _ (List.mem_of_getElem? (i := 21) rfl))))) (cz_c (List.mem_cons_of_mem _ (List.mem_append_left _ (List.mem_append_right _ (List.mem_append_left _ (List.mem_of_getElem? (i := 22) rfl))))) (cz_c (List.mem_cons_of_mem _ (List.mem_append_left _ (List.mem_append_right _ (List.mem_append_left _ (List.mem_of_getElem? (i := 23) rfl))))) (cz_c (List.mem_cons_of_mem _ (List.mem_append_left _ (List.mem_append_right _ (List.mem_append_right _ (List.mem_of_getElem? (i := 0) rfl))))) (cz_c (List.mem_cons_of_mem _ (List.mem_append_left _ (List.mem_append_right _ (List.mem_append_right _ (List.mem_of_getElem? (i := 1) rfl))))) (cz_c (List.mem_cons_of_mem _ (List.mem_append_left _ (List.mem_append_right _ (List.mem_append_right _ (List.mem_of_getElem? (i := 2) rfl))))) (cz_c (List.mem_cons_of_mem _ (List.mem_append_left _ (List.mem_append_right _ (List.mem_append_right _ (List.mem_of_getElem? (i := 3) rfl))))) cz_n))))))))))))))))))))))))
set_option maxRecDepth 20000 in
theorem cz_m_X7_count_wsX7_howMany_r3 : ∀ w ∈ wsX7_howMany_r3, w ∈ wsX7_count := (cz_c (List.mem_cons_of_mem _ (List.mem_append_left _ (List.mem_append_right _ (List.mem_append_right _ (List.mem_of_getElem? (i := 4) rfl))))) (cz_c (List.mem_cons_of_mem _ (List.mem_append_left _ (List.mem_append_right _ (List.mem_append_right _ (List.mem_of_getElem? (i := 5) rfl))))) (cz_c (List.mem_cons_of_mem _ (List.mem_append_left _ (List.mem_append_right _ (List.mem_append_right _ (List.mem_of_getElem? (i := 6) rfl))))) (cz_c (List.mem_cons_of_mem _ (List.mem_append_left _ (List.mem_append_right _ (List.mem_append_right _ (List.mem_of_getElem? (i := 7) rfl))))) (cz_c (List.mem_cons_of_mem _ (List.mem_append_left _ (List.mem_append_right _ (List.mem_append_right _ (List.mem_of_getElem? (i := 8) rfl))))) cz_n)))))
set_option maxRecDepth 20000 in
theorem ggX7_count_X7_howMany : GoodIn wsX7_count wsX7_howMany := goodIn_sub (cz_c (List.mem_cons_of_mem _ (List.mem_append_left _ (List.mem_append_left _ (List.mem_of_getElem? (i := 4) rfl)))) (cz_a (cz_a cz_m_X7_count_wsX7_howMany_r1 (cz_a cz_m_X7_count_wsX7_howMany_r2 cz_m_X7_count_wsX7_howMany_r3)) (fun _ h => List.mem_cons_of_mem _ (List.mem_append_right _ h)))) (by decide +kernel)
set_option maxRecDepth 20000 in
theorem gX7_count_X7_howMany : GoodIn wsX7_count (wsV RX7 231 RX7 yX7_howMany wsX7_howMany) := goodIn_app (goodIn_sub (cz_c (List.mem_cons_of_mem _ (List.mem_append_left _ (List.mem_append_left _ (List.mem_of_getElem? (i := 0) rfl)))) (cz_c (List.mem_cons_of_mem _ (List.mem_append_left _ (List.mem_append_left _ (List.mem_of_getElem? (i := 1) rfl)))) (cz_c (List.mem_cons_of_mem _ (List.mem_append_left _ (List.mem_append_left _ (List.mem_of_getElem? (i := 2) rfl)))) (cz_c (List.mem_cons_of_mem _ (List.mem_append_left _ (List.mem_append_left _ (List.mem_of_getElem? (i := 3) rfl)))) cz_n)))) (by decide +kernel)) ggX7_count_X7_howMany
set_option maxRecDepth 20000 in
theorem ggX7_digest_X7_onNow : GoodIn wsX7_digest wsX7_onNow := goodIn_sub (cz_c (List.mem_cons_of_mem _ (List.mem_append_left _ (List.mem_append_left _ (List.mem_of_getElem? (i := 12) rfl)))) (cz_a (cz_c (List.mem_cons_of_mem _ (List.mem_append_left _ (List.mem_append_left _ (List.mem_of_getElem? (i := 13) rfl)))) (cz_c (List.mem_cons_of_mem _ (List.mem_append_left _ (List.mem_append_left _ (List.mem_of_getElem? (i := 14) rfl)))) (cz_c (List.mem_cons_of_mem _ (List.mem_append_left _ (List.mem_append_left _ (List.mem_of_getElem? (i := 15) rfl)))) (cz_c (List.mem_cons_of_mem _ (List.mem_append_left _ (List.mem_append_left _ (List.mem_of_getElem? (i := 11) rfl)))) (cz_c (List.mem_cons_of_mem _ (List.mem_append_left _ (List.mem_append_left _ (List.mem_of_getElem? (i := 16) rfl)))) (cz_c (List.mem_cons_of_mem _ (List.mem_append_left _ (List.mem_append_left _ (List.mem_of_getElem? (i := 17) rfl)))) (cz_c (List.mem_cons_of_mem _ (List.mem_append_left _ (List.mem_append_left _ (List.mem_of_getElem? (i := 18) rfl)))) (cz_c (List.mem_cons_of_mem _ (List.mem_append_left _ (List.mem_append_left _ (List.mem_of_getElem? (i := 19) rfl)))) (cz_c (List.mem_cons_of_mem _ (List.mem_append_left _ (List.mem_append_left _ (List.mem_of_getElem? (i := 20) rfl)))) (cz_c (List.mem_cons_of_mem _ (List.mem_append_left _ (List.mem_append_left _ (List.mem_of_getElem? (i := 5) rfl)))) (cz_c (List.mem_cons_of_mem _ (List.mem_append_left _ (List.mem_append_left _ (List.mem_of_getElem? (i := 3) rfl)))) (cz_c (List.mem_cons_of_mem _ (List.mem_append_left _ (List.mem_append_left _ (List.mem_of_getElem? (i := 21) rfl)))) cz_n)))))))))))) (fun _ h => List.mem_cons_of_mem _ (List.mem_append_right _ h)))) (by decide +kernel)
set_option maxRecDepth 20000 in
theorem gX7_digest_X7_onNow : GoodIn wsX7_digest (wsV RX7 104 RX7 yX7_onNow wsX7_onNow) := goodIn_app (goodIn_sub (cz_c (List.mem_cons_of_mem _ (List.mem_append_left _ (List.mem_append_left _ (List.mem_of_getElem? (i := 8) rfl)))) (cz_c (List.mem_cons_of_mem _ (List.mem_append_left _ (List.mem_append_left _ (List.mem_of_getElem? (i := 9) rfl)))) (cz_c (List.mem_cons_of_mem _ (List.mem_append_left _ (List.mem_append_left _ (List.mem_of_getElem? (i := 10) rfl)))) (cz_c (List.mem_cons_of_mem _ (List.mem_append_left _ (List.mem_append_left _ (List.mem_of_getElem? (i := 11) rfl)))) cz_n)))) (by decide +kernel)) ggX7_digest_X7_onNow
set_option maxRecDepth 20000 in
theorem ggX7_digest_X7_mix : GoodIn wsX7_digest wsX7_mix := goodIn_sub (cz_c (List.mem_cons_of_mem _ (List.mem_append_left _ (List.mem_append_right _ (List.mem_append_left _ (List.mem_of_getElem? (i := 1) rfl))))) (cz_a (cz_c (List.mem_cons_of_mem _ (List.mem_append_left _ (List.mem_append_right _ (List.mem_append_left _ (List.mem_of_getElem? (i := 2) rfl))))) (cz_c (List.mem_cons_of_mem _ (List.mem_append_left _ (List.mem_append_left _ (List.mem_of_getElem? (i := 1) rfl)))) cz_n)) (fun _ h => List.mem_cons_of_mem _ (List.mem_append_right _ h)))) (by decide +kernel)
set_option maxRecDepth 20000 in
theorem gX7_digest_X7_mix : GoodIn wsX7_digest (wsV RX7 241 RX7 yX7_mix wsX7_mix) := goodIn_app (goodIn_sub (cz_c (List.mem_cons_of_mem _ (List.mem_append_left _ (List.mem_append_left _ (List.mem_of_getElem? (i := 22) rfl)))) (cz_c (List.mem_cons_of_mem _ (List.mem_append_left _ (List.mem_append_left _ (List.mem_of_getElem? (i := 23) rfl)))) (cz_c (List.mem_cons_of_mem _ (List.mem_append_left _ (List.mem_append_right _ (List.mem_append_left _ (List.mem_of_getElem? (i := 0) rfl))))) (cz_c (List.mem_cons_of_mem _ (List.mem_append_left _ (List.mem_append_left _ (List.mem_of_getElem? (i := 11) rfl)))) cz_n)))) (by decide +kernel)) ggX7_digest_X7_mix
set_option maxRecDepth 20000 in
theorem cz_m_X7_digest_wsX7_courtierNow_r1 : ∀ w ∈ wsX7_courtierNow_r1, w ∈ wsX7_digest := (cz_c (List.mem_cons_of_mem _ (List.mem_append_left _ (List.mem_append_right _ (List.mem_append_left _ (List.mem_of_getElem? (i := 7) rfl))))) (cz_c (List.mem_cons_of_mem _ (List.mem_append_left _ (List.mem_append_left _ (List.mem_of_getElem? (i := 21) rfl)))) (cz_c (List.mem_cons_of_mem _ (List.mem_append_left _ (List.mem_append_right _ (List.mem_append_left _ (List.mem_of_getElem? (i := 8) rfl))))) (cz_c (List.mem_cons_of_mem _ (List.mem_append_left _ (List.mem_append_right _ (List.mem_append_left _ (List.mem_of_getElem? (i := 9) rfl))))) (cz_c (List.mem_cons_of_mem _ (List.mem_append_left _ (List.mem_append_right _ (List.mem_append_left _ (List.mem_of_getElem? (i := 10) rfl))))) (cz_c (List.mem_cons_of_mem _ (List.mem_append_left _ (List.mem_append_right _ (List.mem_append_left _ (List.mem_of_getElem? (i := 11) rfl))))) (cz_c (List.mem_cons_of_mem _ (List.mem_append_left _ (List.mem_append_right _ (List.mem_append_left _ (List.mem_of_getElem? (i := 12) rfl))))) (cz_c (List.mem_cons_of_mem _ (List.mem_append_left _ (List.mem_append_left _ (List.mem_of_getElem? (i := 11) rfl)))) (cz_c (List.mem_cons_of_mem _ (List.mem_append_left _ (List.mem_append_right _ (List.mem_append_left _ (List.mem_of_getElem? (i := 13) rfl))))) (cz_c (List.mem_cons_of_mem _ (List.mem_append_left _ (List.mem_append_left _ (List.mem_of_getElem? (i := 5) rfl)))) (cz_c (List.mem_cons_of_mem _ (List.mem_append_left _ (List.mem_append_right _ (List.mem_append_left _ (List.mem_of_getElem? (i := 14) rfl))))) (cz_c (List.mem_cons_of_mem _ (List.mem_append_left _ (List.mem_append_right _ (List.mem_append_left _ (List.mem_of_getElem? (i := 15) rfl))))) (cz_c (List.mem_cons_of_mem _ (List.mem_append_left _ (List.mem_append_right _ (List.mem_append_left _ (List.mem_of_getElem? (i := 16) rfl))))) (cz_c (List.mem_cons_of_mem _ (List.mem_append_left _ (List.mem_append_right _ (List.mem_append_left _ (List.mem_of_getElem? (i := 17) rfl))))) (cz_c (List.mem_cons_of_mem _ (List.mem_append_left _ (List.mem_append_right _ (List.mem_append_left _ (List.mem_of_getElem? (i := 18) rfl))))) (cz_c (List.mem_cons_of_mem _ (List.mem_append_left _ (List.mem_append_right _ (List.mem_append_left _ (List.mem_of_getElem? (i := 19) rfl))))) (cz_c (List.mem_cons_of_mem _ (List.mem_append_left _ (List.mem_append_right _ (List.mem_append_left _ (List.mem_of_getElem? (i := 20) rfl))))) (cz_c (List.mem_cons_of_mem _ (List.mem_append_left _ (List.mem_append_right _ (List.mem_append_left _ (List.mem_of_getElem? (i := 21) rfl))))) (cz_c (List.mem_cons_of_mem _ (List.mem_append_left _ (List.mem_append_right _ (List.mem_append_left _ (List.mem_of_getElem? (i := 22) rfl))))) (cz_c (List.mem_cons_of_mem _ (List.mem_append_left _ (List.mem_append_right _ (List.mem_append_left _ (List.mem_of_getElem? (i := 23) rfl))))) (cz_c (List.mem_cons_of_mem _ (List.mem_append_left _ (List.mem_append_right _ (List.mem_append_right _ (List.mem_append_left _ (List.mem_of_getElem? (i := 0) rfl)))))) (cz_c (List.mem_cons_of_mem _ (List.mem_append_left _ (List.mem_append_right _ (List.mem_append_right _ (List.mem_append_left _ (List.mem_of_getElem? (i := 1) rfl)))))) (cz_c (List.mem_cons_of_mem _ (List.mem_append_left _ (List.mem_append_right _ (List.mem_append_right _ (List.mem_append_left _ (List.mem_of_getElem? (i := 2) rfl)))))) (cz_c (List.mem_cons_of_mem _ (List.mem_append_left _ (List.mem_append_right _ (List.mem_append_right _ (List.mem_append_left _ (List.mem_of_getElem? (i := 3) rfl)))))) cz_n))))))))))))))))))))))))
set_option maxRecDepth 20000 in
theorem cz_m_X7_digest_wsX7_courtierNow_r2 : ∀ w ∈ wsX7_courtierNow_r2, w ∈ wsX7_digest := (cz_c (List.mem_cons_of_mem _ (List.mem_append_left _ (List.mem_append_right _ (List.mem_append_right _ (List.mem_append_left _ (List.mem_of_getElem? (i := 4) rfl)))))) (cz_c (List.mem_cons_of_mem _ (List.mem_append_left _ (List.mem_append_right _ (List.mem_append_right _ (List.mem_append_left _ (List.mem_of_getElem? (i := 5) rfl)))))) (cz_c (List.mem_cons_of_mem _ (List.mem_append_left _ (List.mem_append_right _ (List.mem_append_right _ (List.mem_append_left _ (List.mem_of_getElem? (i := 6) rfl)))))) (cz_c (List.mem_cons_of_mem _ (List.mem_append_left _ (List.mem_append_left _ (List.mem_of_getElem? (i := 13) rfl)))) (cz_c (List.mem_cons_of_mem _ (List.mem_append_left _ (List.mem_append_left _ (List.mem_of_getElem? (i := 14) rfl)))) (cz_c (List.mem_cons_of_mem _ (List.mem_append_left _ (List.mem_append_left _ (List.mem_of_getElem? (i := 15) rfl)))) (cz_c (List.mem_cons_of_mem _ (List.mem_append_left _ (List.mem_append_left _ (List.mem_of_getElem? (i := 16) rfl)))) (cz_c (List.mem_cons_of_mem _ (List.mem_append_left _ (List.mem_append_left _ (List.mem_of_getElem? (i := 17) rfl)))) (cz_c (List.mem_cons_of_mem _ (List.mem_append_left _ (List.mem_append_left _ (List.mem_of_getElem? (i := 18) rfl)))) (cz_c (List.mem_cons_of_mem _ (List.mem_append_left _ (List.mem_append_left _ (List.mem_of_getElem? (i := 19) rfl)))) (cz_c (List.mem_cons_of_mem _ (List.mem_append_left _ (List.mem_append_left _ (List.mem_of_getElem? (i := 20) rfl)))) (cz_c (List.mem_cons_of_mem _ (List.mem_append_left _ (List.mem_append_left _ (List.mem_of_getElem? (i := 3) rfl)))) (cz_c (List.mem_cons_of_mem _ (List.mem_append_left _ (List.mem_append_right _ (List.mem_append_right _ (List.mem_append_left _ (List.mem_of_getElem? (i := 7) rfl)))))) (cz_c (List.mem_cons_of_mem _ (List.mem_append_left _ (List.mem_append_right _ (List.mem_append_right _ (List.mem_append_left _ (List.mem_of_getElem? (i := 8) rfl)))))) (cz_c (List.mem_cons_of_mem _ (List.mem_append_left _ (List.mem_append_right _ (List.mem_append_right _ (List.mem_append_left _ (List.mem_of_getElem? (i := 9) rfl)))))) (cz_c (List.mem_cons_of_mem _ (List.mem_append_left _ (List.mem_append_right _ (List.mem_append_right _ (List.mem_append_left _ (List.mem_of_getElem? (i := 10) rfl)))))) cz_n))))))))))))))))
set_option maxRecDepth 20000 in
theorem ggX7_digest_X7_courtierNow : GoodIn wsX7_digest wsX7_courtierNow := goodIn_sub (cz_c (List.mem_cons_of_mem _ (List.mem_append_left _ (List.mem_append_right _ (List.mem_append_left _ (List.mem_of_getElem? (i := 6) rfl))))) (cz_a (cz_a cz_m_X7_digest_wsX7_courtierNow_r1 cz_m_X7_digest_wsX7_courtierNow_r2) (fun _ h => List.mem_cons_of_mem _ (List.mem_append_right _ h)))) (by decide +kernel)
set_option maxRecDepth 20000 in
theorem gX7_digest_X7_courtierNow : GoodIn wsX7_digest (wsV RX7 140 RX7 yX7_courtierNow wsX7_courtierNow) := goodIn_app (goodIn_sub (cz_c (List.mem_cons_of_mem _ (List.mem_append_left _ (List.mem_append_right _ (List.mem_append_left _ (List.mem_of_getElem? (i := 3) rfl))))) (cz_c (List.mem_cons_of_mem _ (List.mem_append_left _ (List.mem_append_right _ (List.mem_append_left _ (List.mem_of_getElem? (i := 4) rfl))))) (cz_c (List.mem_cons_of_mem _ (List.mem_append_left _ (List.mem_append_right _ (List.mem_append_left _ (List.mem_of_getElem? (i := 5) rfl))))) (cz_c (List.mem_cons_of_mem _ (List.mem_append_left _ (List.mem_append_left _ (List.mem_of_getElem? (i := 11) rfl)))) cz_n)))) (by decide +kernel)) ggX7_digest_X7_courtierNow
set_option maxRecDepth 20000 in
theorem cz_m_X7_digest_wsX7_roomNow_r1 : ∀ w ∈ wsX7_roomNow_r1, w ∈ wsX7_digest := (cz_c (List.mem_cons_of_mem _ (List.mem_append_left _ (List.mem_append_right _ (List.mem_append_right _ (List.mem_append_left _ (List.mem_of_getElem? (i := 15) rfl)))))) (cz_c (List.mem_cons_of_mem _ (List.mem_append_left _ (List.mem_append_right _ (List.mem_append_right _ (List.mem_append_left _ (List.mem_of_getElem? (i := 16) rfl)))))) (cz_c (List.mem_cons_of_mem _ (List.mem_append_left _ (List.mem_append_right _ (List.mem_append_right _ (List.mem_append_left _ (List.mem_of_getElem? (i := 17) rfl)))))) (cz_c (List.mem_cons_of_mem _ (List.mem_append_left _ (List.mem_append_right _ (List.mem_append_right _ (List.mem_append_left _ (List.mem_of_getElem? (i := 18) rfl)))))) (cz_c (List.mem_cons_of_mem _ (List.mem_append_left _ (List.mem_append_left _ (List.mem_of_getElem? (i := 11) rfl)))) (cz_c (List.mem_cons_of_mem _ (List.mem_append_left _ (List.mem_append_right _ (List.mem_append_right _ (List.mem_append_left _ (List.mem_of_getElem? (i := 19) rfl)))))) (cz_c (List.mem_cons_of_mem _ (List.mem_append_left _ (List.mem_append_right _ (List.mem_append_right _ (List.mem_append_left _ (List.mem_of_getElem? (i := 20) rfl)))))) (cz_c (List.mem_cons_of_mem _ (List.mem_append_left _ (List.mem_append_right _ (List.mem_append_right _ (List.mem_append_left _ (List.mem_of_getElem? (i := 21) rfl)))))) (cz_c (List.mem_cons_of_mem _ (List.mem_append_left _ (List.mem_append_right _ (List.mem_append_right _ (List.mem_append_left _ (List.mem_of_getElem? (i := 22) rfl)))))) (cz_c (List.mem_cons_of_mem _ (List.mem_append_left _ (List.mem_append_right _ (List.mem_append_right _ (List.mem_append_left _ (List.mem_of_getElem? (i := 23) rfl)))))) (cz_c (List.mem_cons_of_mem _ (List.mem_append_left _ (List.mem_append_left _ (List.mem_of_getElem? (i := 13) rfl)))) (cz_c (List.mem_cons_of_mem _ (List.mem_append_left _ (List.mem_append_left _ (List.mem_of_getElem? (i := 14) rfl)))) (cz_c (List.mem_cons_of_mem _ (List.mem_append_left _ (List.mem_append_left _ (List.mem_of_getElem? (i := 15) rfl)))) (cz_c (List.mem_cons_of_mem _ (List.mem_append_left _ (List.mem_append_left _ (List.mem_of_getElem? (i := 16) rfl)))) (cz_c (List.mem_cons_of_mem _ (List.mem_append_left _ (List.mem_append_left _ (List.mem_of_getElem? (i := 17) rfl)))) (cz_c (List.mem_cons_of_mem _ (List.mem_append_left _ (List.mem_append_left _ (List.mem_of_getElem? (i := 18) rfl)))) (cz_c (List.mem_cons_of_mem _ (List.mem_append_left _ (List.mem_append_left _ (List.mem_of_getElem? (i := 19) rfl)))) (cz_c (List.mem_cons_of_mem _ (List.mem_append_left _ (List.mem_append_left _ (List.mem_of_getElem? (i := 20) rfl)))) (cz_c (List.mem_cons_of_mem _ (List.mem_append_left _ (List.mem_append_left _ (List.mem_of_getElem? (i := 5) rfl)))) (cz_c (List.mem_cons_of_mem _ (List.mem_append_left _ (List.mem_append_left _ (List.mem_of_getElem? (i := 3) rfl)))) (cz_c (List.mem_cons_of_mem _ (List.mem_append_left _ (List.mem_append_left _ (List.mem_of_getElem? (i := 21) rfl)))) (cz_c (List.mem_cons_of_mem _ (List.mem_append_left _ (List.mem_append_right _ (List.mem_append_right _ (List.mem_append_right _ (List.mem_append_left _ (List.mem_of_getElem? (i := 0) rfl))))))) (cz_c (List.mem_cons_of_mem _ (List.mem_append_left _ (List.mem_append_right _ (List.mem_append_right _ (List.mem_append_right _ (List.mem_append_left _ (List.mem_of_getElem? (i := 1) rfl))))))) (cz_c (List.mem_cons_of_mem _ (List.mem_append_left _ (List.mem_append_right _ (List.mem_append_right _ (List.mem_append_right _ (List.mem_append_left _ (List.mem_of_getElem? (i := 2) rfl))))))) cz_n))))))))))))))))))))))))
set_option maxRecDepth 20000 in
theorem cz_m_X7_digest_wsX7_roomNow_r2 : ∀ w ∈ wsX7_roomNow_r2, w ∈ wsX7_digest := (cz_c (List.mem_cons_of_mem _ (List.mem_append_left _ (List.mem_append_right _ (List.mem_append_right _ (List.mem_append_right _ (List.mem_append_left _ (List.mem_of_getElem? (i := 3) rfl))))))) (cz_c (List.mem_cons_of_mem _ (List.mem_append_left _ (List.mem_append_right _ (List.mem_append_left _ (List.mem_of_getElem? (i := 7) rfl))))) (cz_c (List.mem_cons_of_mem _ (List.mem_append_left _ (List.mem_append_right _ (List.mem_append_right _ (List.mem_append_right _ (List.mem_append_left _ (List.mem_of_getElem? (i := 4) rfl))))))) (cz_c (List.mem_cons_of_mem _ (List.mem_append_left _ (List.mem_append_right _ (List.mem_append_right _ (List.mem_append_right _ (List.mem_append_left _ (List.mem_of_getElem? (i := 5) rfl))))))) (cz_c (List.mem_cons_of_mem _ (List.mem_append_left _ (List.mem_append_right _ (List.mem_append_right _ (List.mem_append_right _ (List.mem_append_left _ (List.mem_of_getElem? (i := 6) rfl))))))) (cz_c (List.mem_cons_of_mem _ (List.mem_append_left _ (List.mem_append_right _ (List.mem_append_right _ (List.mem_append_right _ (List.mem_append_left _ (List.mem_of_getElem? (i := 7) rfl))))))) (cz_c (List.mem_cons_of_mem _ (List.mem_append_left _ (List.mem_append_right _ (List.mem_append_left _ (List.mem_of_getElem? (i := 14) rfl))))) (cz_c (List.mem_cons_of_mem _ (List.mem_append_left _ (List.mem_append_right _ (List.mem_append_left _ (List.mem_of_getElem? (i := 15) rfl))))) (cz_c (List.mem_cons_of_mem _ (List.mem_append_left _ (List.mem_append_right _ (List.mem_append_left _ (List.mem_of_getElem? (i := 16) rfl))))) (cz_c (List.mem_cons_of_mem _ (List.mem_append_left _ (List.mem_append_right _ (List.mem_append_left _ (List.mem_of_getElem? (i := 17) rfl))))) (cz_c (List.mem_cons_of_mem _ (List.mem_append_left _ (List.mem_append_right _ (List.mem_append_left _ (List.mem_of_getElem? (i := 18) rfl))))) (cz_c (List.mem_cons_of_mem _ (List.mem_append_left _ (List.mem_append_right _ (List.mem_append_left _ (List.mem_of_getElem? (i := 19) rfl))))) (cz_c (List.mem_cons_of_mem _ (List.mem_append_left _ (List.mem_append_right _ (List.mem_append_left _ (List.mem_of_getElem? (i := 20) rfl))))) (cz_c (List.mem_cons_of_mem _ (List.mem_append_left _ (List.mem_append_right _ (List.mem_append_left _ (List.mem_of_getElem? (i := 21) rfl))))) (cz_c (List.mem_cons_of_mem _ (List.mem_append_left _ (List.mem_append_right _ (List.mem_append_left _ (List.mem_of_getElem? (i := 22) rfl))))) (cz_c (List.mem_cons_of_mem _ (List.mem_append_left _ (List.mem_append_right _ (List.mem_append_left _ (List.mem_of_getElem? (i := 23) rfl))))) (cz_c (List.mem_cons_of_mem _ (List.mem_append_left _ (List.mem_append_right _ (List.mem_append_right _ (List.mem_append_left _ (List.mem_of_getElem? (i := 0) rfl)))))) (cz_c (List.mem_cons_of_mem _ (List.mem_append_left _ (List.mem_append_right _ (List.mem_append_right _ (List.mem_append_left _ (List.mem_of_getElem? (i := 1) rfl)))))) (cz_c (List.mem_cons_of_mem _ (List.mem_append_left _ (List.mem_append_right _ (List.mem_append_right _ (List.mem_append_left _ (List.mem_of_getElem? (i := 2) rfl)))))) (cz_c (List.mem_cons_of_mem _ (List.mem_append_left _ (List.mem_append_right _ (List.mem_append_right _ (List.mem_append_left _ (List.mem_of_getElem? (i := 3) rfl)))))) (cz_c (List.mem_cons_of_mem _ (List.mem_append_left _ (List.mem_append_right _ (List.mem_append_right _ (List.mem_append_left _ (List.mem_of_getElem? (i := 4) rfl)))))) (cz_c (List.mem_cons_of_mem _ (List.mem_append_left _ (List.mem_append_right _ (List.mem_append_right _ (List.mem_append_left _ (List.mem_of_getElem? (i := 5) rfl)))))) (cz_c (List.mem_cons_of_mem _ (List.mem_append_left _ (List.mem_append_right _ (List.mem_append_right _ (List.mem_append_left _ (List.mem_of_getElem? (i := 6) rfl)))))) (cz_c (List.mem_cons_of_mem _ (List.mem_append_left _ (List.mem_append_right _ (List.mem_append_right _ (List.mem_append_right _ (List.mem_append_left _ (List.mem_of_getElem? (i := 8) rfl))))))) cz_n))))))))))))))))))))))))
set_option maxRecDepth 20000 in
theorem cz_m_X7_digest_wsX7_roomNow_r3 : ∀ w ∈ wsX7_roomNow_r3, w ∈ wsX7_digest := (cz_c (List.mem_cons_of_mem _ (List.mem_append_left _ (List.mem_append_right _ (List.mem_append_right _ (List.mem_append_right _ (List.mem_append_left _ (List.mem_of_getElem? (i := 9) rfl))))))) (cz_c (List.mem_cons_of_mem _ (List.mem_append_left _ (List.mem_append_right _ (List.mem_append_right _ (List.mem_append_right _ (List.mem_append_left _ (List.mem_of_getElem? (i := 10) rfl))))))) (cz_c (List.mem_cons_of_mem _ (List.mem_append_left _ (List.mem_append_right _ (List.mem_append_right _ (List.mem_append_right _ (List.mem_append_left _ (List.mem_of_getElem? (i := 11) rfl))))))) cz_n)))
set_option maxRecDepth 20000 in
theorem ggX7_digest_X7_roomNow : GoodIn wsX7_digest wsX7_roomNow := goodIn_sub (cz_c (List.mem_cons_of_mem _ (List.mem_append_left _ (List.mem_append_right _ (List.mem_append_right _ (List.mem_append_left _ (List.mem_of_getElem? (i := 14) rfl)))))) (cz_a (cz_a cz_m_X7_digest_wsX7_roomNow_r1 (cz_a cz_m_X7_digest_wsX7_roomNow_r2 cz_m_X7_digest_wsX7_roomNow_r3)) (fun _ h => List.mem_cons_of_mem _ (List.mem_append_right _ h)))) (by decide +kernel)
set_option maxRecDepth 20000 in
theorem gX7_digest_X7_roomNow : GoodIn wsX7_digest (wsV RX7 169 RX7 yX7_roomNow wsX7_roomNow) := goodIn_app (goodIn_sub (cz_c (List.mem_cons_of_mem _ (List.mem_append_left _ (List.mem_append_right _ (List.mem_append_right _ (List.mem_append_left _ (List.mem_of_getElem? (i := 11) rfl)))))) (cz_c (List.mem_cons_of_mem _ (List.mem_append_left _ (List.mem_append_right _ (List.mem_append_right _ (List.mem_append_left _ (List.mem_of_getElem? (i := 12) rfl)))))) (cz_c (List.mem_cons_of_mem _ (List.mem_append_left _ (List.mem_append_right _ (List.mem_append_right _ (List.mem_append_left _ (List.mem_of_getElem? (i := 13) rfl)))))) (cz_c (List.mem_cons_of_mem _ (List.mem_append_left _ (List.mem_append_left _ (List.mem_of_getElem? (i := 11) rfl)))) cz_n)))) (by decide +kernel)) ggX7_digest_X7_roomNow
set_option maxRecDepth 20000 in
theorem cz_m_X7_digest_wsX7_brickNow_r1 : ∀ w ∈ wsX7_brickNow_r1, w ∈ wsX7_digest := (cz_c (List.mem_cons_of_mem _ (List.mem_append_left _ (List.mem_append_left _ (List.mem_of_getElem? (i := 13) rfl)))) (cz_c (List.mem_cons_of_mem _ (List.mem_append_left _ (List.mem_append_right _ (List.mem_append_right _ (List.mem_append_left _ (List.mem_of_getElem? (i := 20) rfl)))))) (cz_c (List.mem_cons_of_mem _ (List.mem_append_left _ (List.mem_append_right _ (List.mem_append_right _ (List.mem_append_left _ (List.mem_of_getElem? (i := 21) rfl)))))) (cz_c (List.mem_cons_of_mem _ (List.mem_append_left _ (List.mem_append_right _ (List.mem_append_right _ (List.mem_append_left _ (List.mem_of_getElem? (i := 22) rfl)))))) (cz_c (List.mem_cons_of_mem _ (List.mem_append_left _ (List.mem_append_left _ (List.mem_of_getElem? (i := 11) rfl)))) (cz_c (List.mem_cons_of_mem _ (List.mem_append_left _ (List.mem_append_right _ (List.mem_append_right _ (List.mem_append_left _ (List.mem_of_getElem? (i := 23) rfl)))))) (cz_c (List.mem_cons_of_mem _ (List.mem_append_left _ (List.mem_append_left _ (List.mem_of_getElem? (i := 14) rfl)))) (cz_c (List.mem_cons_of_mem _ (List.mem_append_left _ (List.mem_append_left _ (List.mem_of_getElem? (i := 15) rfl)))) (cz_c (List.mem_cons_of_mem _ (List.mem_append_left _ (List.mem_append_left _ (List.mem_of_getElem? (i := 16) rfl)))) (cz_c (List.mem_cons_of_mem _ (List.mem_append_left _ (List.mem_append_left _ (List.mem_of_getElem? (i := 17) rfl)))) (cz_c (List.mem_cons_of_mem _ (List.mem_append_left _ (List.mem_append_left _ (List.mem_of_getElem? (i := 18) rfl)))) (cz_c (List.mem_cons_of_mem _ (List.mem_append_left _ (List.mem_append_left _ (List.mem_of_getElem? (i := 19) rfl)))) (cz_c (List.mem_cons_of_mem _ (List.mem_append_left _ (List.mem_append_left _ (List.mem_of_getElem? (i := 20) rfl)))) (cz_c (List.mem_cons_of_mem _ (List.mem_append_left _ (List.mem_append_left _ (List.mem_of_getElem? (i := 5) rfl)))) (cz_c (List.mem_cons_of_mem _ (List.mem_append_left _ (List.mem_append_left _ (List.mem_of_getElem? (i := 3) rfl)))) (cz_c (List.mem_cons_of_mem _ (List.mem_append_left _ (List.mem_append_left _ (List.mem_of_getElem? (i := 21) rfl)))) (cz_c (List.mem_cons_of_mem _ (List.mem_append_left _ (List.mem_append_right _ (List.mem_append_right _ (List.mem_append_right _ (List.mem_append_left _ (List.mem_of_getElem? (i := 16) rfl))))))) (cz_c (List.mem_cons_of_mem _ (List.mem_append_left _ (List.mem_append_right _ (List.mem_append_right _ (List.mem_append_right _ (List.mem_append_left _ (List.mem_of_getElem? (i := 17) rfl))))))) (cz_c (List.mem_cons_of_mem _ (List.mem_append_left _ (List.mem_append_right _ (List.mem_append_right _ (List.mem_append_right _ (List.mem_append_left _ (List.mem_of_getElem? (i := 18) rfl))))))) (cz_c (List.mem_cons_of_mem _ (List.mem_append_left _ (List.mem_append_right _ (List.mem_append_right _ (List.mem_append_right _ (List.mem_append_left _ (List.mem_of_getElem? (i := 19) rfl))))))) (cz_c (List.mem_cons_of_mem _ (List.mem_append_left _ (List.mem_append_right _ (List.mem_append_right _ (List.mem_append_left _ (List.mem_of_getElem? (i := 7) rfl)))))) (cz_c (List.mem_cons_of_mem _ (List.mem_append_left _ (List.mem_append_right _ (List.mem_append_right _ (List.mem_append_left _ (List.mem_of_getElem? (i := 8) rfl)))))) (cz_c (List.mem_cons_of_mem _ (List.mem_append_left _ (List.mem_append_right _ (List.mem_append_right _ (List.mem_append_left _ (List.mem_of_getElem? (i := 9) rfl)))))) (cz_c (List.mem_cons_of_mem _ (List.mem_append_left _ (List.mem_append_right _ (List.mem_append_right _ (List.mem_append_left _ (List.mem_of_getElem? (i := 10) rfl)))))) cz_n))))))))))))))))))))))))
set_option maxRecDepth 20000 in
theorem cz_m_X7_digest_wsX7_brickNow_r2 : ∀ w ∈ wsX7_brickNow_r2, w ∈ wsX7_digest := (cz_c (List.mem_cons_of_mem _ (List.mem_append_left _ (List.mem_append_right _ (List.mem_append_left _ (List.mem_of_getElem? (i := 7) rfl))))) (cz_c (List.mem_cons_of_mem _ (List.mem_append_left _ (List.mem_append_right _ (List.mem_append_left _ (List.mem_of_getElem? (i := 10) rfl))))) (cz_c (List.mem_cons_of_mem _ (List.mem_append_left _ (List.mem_append_right _ (List.mem_append_left _ (List.mem_of_getElem? (i := 11) rfl))))) (cz_c (List.mem_cons_of_mem _ (List.mem_append_left _ (List.mem_append_right _ (List.mem_append_left _ (List.mem_of_getElem? (i := 12) rfl))))) (cz_c (List.mem_cons_of_mem _ (List.mem_append_left _ (List.mem_append_right _ (List.mem_append_left _ (List.mem_of_getElem? (i := 13) rfl))))) (cz_c (List.mem_cons_of_mem _ (List.mem_append_left _ (List.mem_append_right _ (List.mem_append_left _ (List.mem_of_getElem? (i := 14) rfl))))) (cz_c (List.mem_cons_of_mem _ (List.mem_append_left _ (List.mem_append_right _ (List.mem_append_left _ (List.mem_of_getElem? (i := 15) rfl))))) (cz_c (List.mem_cons_of_mem _ (List.mem_append_left _ (List.mem_append_right _ (List.mem_append_left _ (List.mem_of_getElem? (i := 16) rfl))))) (cz_c (List.mem_cons_of_mem _ (List.mem_append_left _ (List.mem_append_right _ (List.mem_append_left _ (List.mem_of_getElem? (i := 17) rfl))))) (cz_c (List.mem_cons_of_mem _ (List.mem_append_left _ (List.mem_append_right _ (List.mem_append_left _ (List.mem_of_getElem? (i := 18) rfl))))) (cz_c (List.mem_cons_of_mem _ (List.mem_append_left _ (List.mem_append_right _ (List.mem_append_left _ (List.mem_of_getElem? (i := 19) rfl))))) (cz_c (List.mem_cons_of_mem _ (List.mem_append_left _ (List.mem_append_right _ (List.mem_append_left _ (List.mem_of_getElem? (i := 20) rfl))))) (cz_c (List.mem_cons_of_mem _ (List.mem_append_left _ (List.mem_append_right _ (List.mem_append_left _ (List.mem_of_getElem? (i := 21) rfl))))) (cz_c (List.mem_cons_of_mem _ (List.mem_append_left _ (List.mem_append_right _ (List.mem_append_left _ (List.mem_of_getElem? (i := 22) rfl))))) (cz_c (List.mem_cons_of_mem _ (List.mem_append_left _ (List.mem_append_right _ (List.mem_append_left _ (List.mem_of_getElem? (i := 23) rfl))))) (cz_c (List.mem_cons_of_mem _ (List.mem_append_left _ (List.mem_append_right _ (List.mem_append_right _ (List.mem_append_left _ (List.mem_of_getElem? (i := 0) rfl)))))) (cz_c (List.mem_cons_of_mem _ (List.mem_append_left _ (List.mem_append_right _ (List.mem_append_right _ (List.mem_append_left _ (List.mem_of_getElem? (i := 1) rfl)))))) (cz_c (List.mem_cons_of_mem _ (List.mem_append_left _ (List.mem_append_right _ (List.mem_append_right _ (List.mem_append_left _ (List.mem_of_getElem? (i := 2) rfl)))))) (cz_c (List.mem_cons_of_mem _ (List.mem_append_left _ (List.mem_append_right _ (List.mem_append_right _ (List.mem_append_left _ (List.mem_of_getElem? (i := 3) rfl)))))) (cz_c (List.mem_cons_of_mem _ (List.mem_append_left _ (List.mem_append_right _ (List.mem_append_right _ (List.mem_append_left _ (List.mem_of_getElem? (i := 4) rfl)))))) (cz_c (List.mem_cons_of_mem _ (List.mem_append_left _ (List.mem_append_right _ (List.mem_append_right _ (List.mem_append_left _ (List.mem_of_getElem? (i := 5) rfl)))))) (cz_c (List.mem_cons_of_mem _ (List.mem_append_left _ (List.mem_append_right _ (List.mem_append_right _ (List.mem_append_left _ (List.mem_of_getElem? (i := 6) rfl)))))) (cz_c (List.mem_cons_of_mem _ (List.mem_append_left _ (List.mem_append_right _ (List.mem_append_right _ (List.mem_append_right _ (List.mem_append_left _ (List.mem_of_getElem? (i := 20) rfl))))))) (cz_c (List.mem_cons_of_mem _ (List.mem_append_left _ (List.mem_append_right _ (List.mem_append_right _ (List.mem_append_right _ (List.mem_append_left _ (List.mem_of_getElem? (i := 21) rfl))))))) cz_n))))))))))))))))))))))))
set_option maxRecDepth 20000 in
theorem cz_m_X7_digest_wsX7_brickNow_r3 : ∀ w ∈ wsX7_brickNow_r3, w ∈ wsX7_digest := (cz_c (List.mem_cons_of_mem _ (List.mem_append_left _ (List.mem_append_right _ (List.mem_append_right _ (List.mem_append_right _ (List.mem_append_left _ (List.mem_of_getElem? (i := 22) rfl))))))) cz_n)
set_option maxRecDepth 20000 in
theorem ggX7_digest_X7_brickNow : GoodIn wsX7_digest wsX7_brickNow := goodIn_sub (cz_c (List.mem_cons_of_mem _ (List.mem_append_left _ (List.mem_append_right _ (List.mem_append_right _ (List.mem_append_right _ (List.mem_append_left _ (List.mem_of_getElem? (i := 15) rfl))))))) (cz_a (cz_a cz_m_X7_digest_wsX7_brickNow_r1 (cz_a cz_m_X7_digest_wsX7_brickNow_r2 cz_m_X7_digest_wsX7_brickNow_r3)) (fun _ h => List.mem_cons_of_mem _ (List.mem_append_right _ h)))) (by decide +kernel)
set_option maxRecDepth 20000 in
theorem gX7_digest_X7_brickNow : GoodIn wsX7_digest (wsV RX7 172 RX7 yX7_brickNow wsX7_brickNow) := goodIn_app (goodIn_sub (cz_c (List.mem_cons_of_mem _ (List.mem_append_left _ (List.mem_append_right _ (List.mem_append_right _ (List.mem_append_right _ (List.mem_append_left _ (List.mem_of_getElem? (i := 12) rfl))))))) (cz_c (List.mem_cons_of_mem _ (List.mem_append_left _ (List.mem_append_right _ (List.mem_append_right _ (List.mem_append_right _ (List.mem_append_left _ (List.mem_of_getElem? (i := 13) rfl))))))) (cz_c (List.mem_cons_of_mem _ (List.mem_append_left _ (List.mem_append_right _ (List.mem_append_right _ (List.mem_append_right _ (List.mem_append_left _ (List.mem_of_getElem? (i := 14) rfl))))))) (cz_c (List.mem_cons_of_mem _ (List.mem_append_left _ (List.mem_append_left _ (List.mem_of_getElem? (i := 11) rfl)))) cz_n)))) (by decide +kernel)) ggX7_digest_X7_brickNow
set_option maxRecDepth 20000 in
theorem cz_m_X7_digest_wsX7_wayNow_r1 : ∀ w ∈ wsX7_wayNow_r1, w ∈ wsX7_digest := (cz_c (List.mem_cons_of_mem _ (List.mem_append_left _ (List.mem_append_left _ (List.mem_of_getElem? (i := 5) rfl)))) (cz_c (List.mem_cons_of_mem _ (List.mem_append_left _ (List.mem_append_right _ (List.mem_append_left _ (List.mem_of_getElem? (i := 14) rfl))))) (cz_c (List.mem_cons_of_mem _ (List.mem_append_left _ (List.mem_append_right _ (List.mem_append_right _ (List.mem_append_right _ (List.mem_append_right _ (List.mem_append_left _ (List.mem_of_getElem? (i := 3) rfl)))))))) (cz_c (List.mem_cons_of_mem _ (List.mem_append_left _ (List.mem_append_right _ (List.mem_append_right _ (List.mem_append_right _ (List.mem_append_right _ (List.mem_append_left _ (List.mem_of_getElem? (i := 4) rfl)))))))) (cz_c (List.mem_cons_of_mem _ (List.mem_append_left _ (List.mem_append_right _ (List.mem_append_right _ (List.mem_append_right _ (List.mem_append_right _ (List.mem_append_left _ (List.mem_of_getElem? (i := 5) rfl)))))))) (cz_c (List.mem_cons_of_mem _ (List.mem_append_left _ (List.mem_append_right _ (List.mem_append_right _ (List.mem_append_right _ (List.mem_append_right _ (List.mem_append_left _ (List.mem_of_getElem? (i := 6) rfl)))))))) (cz_c (List.mem_cons_of_mem _ (List.mem_append_left _ (List.mem_append_right _ (List.mem_append_right _ (List.mem_append_right _ (List.mem_append_right _ (List.mem_append_left _ (List.mem_of_getElem? (i := 7) rfl)))))))) (cz_c (List.mem_cons_of_mem _ (List.mem_append_left _ (List.mem_append_left _ (List.mem_of_getElem? (i := 11) rfl)))) (cz_c (List.mem_cons_of_mem _ (List.mem_append_left _ (List.mem_append_right _ (List.mem_append_right _ (List.mem_append_right _ (List.mem_append_right _ (List.mem_append_left _ (List.mem_of_getElem? (i := 8) rfl)))))))) (cz_c (List.mem_cons_of_mem _ (List.mem_append_left _ (List.mem_append_right _ (List.mem_append_right _ (List.mem_append_right _ (List.mem_append_right _ (List.mem_append_left _ (List.mem_of_getElem? (i := 9) rfl)))))))) (cz_c (List.mem_cons_of_mem _ (List.mem_append_left _ (List.mem_append_right _ (List.mem_append_right _ (List.mem_append_right _ (List.mem_append_right _ (List.mem_append_left _ (List.mem_of_getElem? (i := 10) rfl)))))))) (cz_c (List.mem_cons_of_mem _ (List.mem_append_left _ (List.mem_append_right _ (List.mem_append_right _ (List.mem_append_right _ (List.mem_append_right _ (List.mem_append_left _ (List.mem_of_getElem? (i := 11) rfl)))))))) (cz_c (List.mem_cons_of_mem _ (List.mem_append_left _ (List.mem_append_right _ (List.mem_append_right _ (List.mem_append_right _ (List.mem_append_right _ (List.mem_append_left _ (List.mem_of_getElem? (i := 12) rfl)))))))) (cz_c (List.mem_cons_of_mem _ (List.mem_append_left _ (List.mem_append_right _ (List.mem_append_right _ (List.mem_append_right _ (List.mem_append_right _ (List.mem_append_left _ (List.mem_of_getElem? (i := 13) rfl)))))))) (cz_c (List.mem_cons_of_mem _ (List.mem_append_left _ (List.mem_append_right _ (List.mem_append_right _ (List.mem_append_right _ (List.mem_append_right _ (List.mem_append_left _ (List.mem_of_getElem? (i := 14) rfl)))))))) (cz_c (List.mem_cons_of_mem _ (List.mem_append_left _ (List.mem_append_right _ (List.mem_append_right _ (List.mem_append_right _ (List.mem_append_right _ (List.mem_append_left _ (List.mem_of_getElem? (i := 15) rfl)))))))) (cz_c (List.mem_cons_of_mem _ (List.mem_append_left _ (List.mem_append_right _ (List.mem_append_right _ (List.mem_append_left _ (List.mem_of_getElem? (i := 20) rfl)))))) (cz_c (List.mem_cons_of_mem _ (List.mem_append_left _ (List.mem_append_right _ (List.mem_append_right _ (List.mem_append_left _ (List.mem_of_getElem? (i := 21) rfl)))))) (cz_c (List.mem_cons_of_mem _ (List.mem_append_left _ (List.mem_append_right _ (List.mem_append_right _ (List.mem_append_left _ (List.mem_of_getElem? (i := 22) rfl)))))) (cz_c (List.mem_cons_of_mem _ (List.mem_append_left _ (List.mem_append_right _ (List.mem_append_right _ (List.mem_append_left _ (List.mem_of_getElem? (i := 23) rfl)))))) (cz_c (List.mem_cons_of_mem _ (List.mem_append_left _ (List.mem_append_left _ (List.mem_of_getElem? (i := 13) rfl)))) (cz_c (List.mem_cons_of_mem _ (List.mem_append_left _ (List.mem_append_left _ (List.mem_of_getElem? (i := 14) rfl)))) (cz_c (List.mem_cons_of_mem _ (List.mem_append_left _ (List.mem_append_left _ (List.mem_of_getElem? (i := 15) rfl)))) (cz_c (List.mem_cons_of_mem _ (List.mem_append_left _ (List.mem_append_left _ (List.mem_of_getElem? (i := 16) rfl)))) cz_n))))))))))))))))))))))))
set_option maxRecDepth 20000 in
theorem cz_m_X7_digest_wsX7_wayNow_r2 : ∀ w ∈ wsX7_wayNow_r2, w ∈ wsX7_digest := (cz_c (List.mem_cons_of_mem _ (List.mem_append_left _ (List.mem_append_left _ (List.mem_of_getElem? (i := 17) rfl)))) (cz_c (List.mem_cons_of_mem _ (List.mem_append_left _ (List.mem_append_left _ (List.mem_of_getElem? (i := 18) rfl)))) (cz_c (List.mem_cons_of_mem _ (List.mem_append_left _ (List.mem_append_left _ (List.mem_of_getElem? (i := 19) rfl)))) (cz_c (List.mem_cons_of_mem _ (List.mem_append_left _ (List.mem_append_left _ (List.mem_of_getElem? (i := 20) rfl)))) (cz_c (List.mem_cons_of_mem _ (List.mem_append_left _ (List.mem_append_left _ (List.mem_of_getElem? (i := 3) rfl)))) (cz_c (List.mem_cons_of_mem _ (List.mem_append_left _ (List.mem_append_left _ (List.mem_of_getElem? (i := 21) rfl)))) (cz_c (List.mem_cons_of_mem _ (List.mem_append_left _ (List.mem_append_right _ (List.mem_append_right _ (List.mem_append_right _ (List.mem_append_right _ (List.mem_append_left _ (List.mem_of_getElem? (i := 16) rfl)))))))) (cz_c (List.mem_cons_of_mem _ (List.mem_append_left _ (List.mem_append_right _ (List.mem_append_right _ (List.mem_append_right _ (List.mem_append_right _ (List.mem_append_left _ (List.mem_of_getElem? (i := 17) rfl)))))))) (cz_c (List.mem_cons_of_mem _ (List.mem_append_left _ (List.mem_append_right _ (List.mem_append_right _ (List.mem_append_right _ (List.mem_append_right _ (List.mem_append_left _ (List.mem_of_getElem? (i := 18) rfl)))))))) (cz_c (List.mem_cons_of_mem _ (List.mem_append_left _ (List.mem_append_right _ (List.mem_append_right _ (List.mem_append_right _ (List.mem_append_right _ (List.mem_append_left _ (List.mem_of_getElem? (i := 19) rfl)))))))) (cz_c (List.mem_cons_of_mem _ (List.mem_append_left _ (List.mem_append_right _ (List.mem_append_right _ (List.mem_append_right _ (List.mem_append_left _ (List.mem_of_getElem? (i := 16) rfl))))))) (cz_c (List.mem_cons_of_mem _ (List.mem_append_left _ (List.mem_append_right _ (List.mem_append_right _ (List.mem_append_right _ (List.mem_append_left _ (List.mem_of_getElem? (i := 17) rfl))))))) (cz_c (List.mem_cons_of_mem _ (List.mem_append_left _ (List.mem_append_right _ (List.mem_append_right _ (List.mem_append_right _ (List.mem_append_left _ (List.mem_of_getElem? (i := 18) rfl))))))) (cz_c (List.mem_cons_of_mem _ (List.mem_append_left _ (List.mem_append_right _ (List.mem_append_right _ (List.mem_append_right _ (List.mem_append_left _ (List.mem_of_getElem? (i := 19) rfl))))))) (cz_c (List.mem_cons_of_mem _ (List.mem_append_left _ (List.mem_append_right _ (List.mem_append_right _ (List.mem_append_left _ (List.mem_of_getElem? (i := 7) rfl)))))) (cz_c (List.mem_cons_of_mem _ (List.mem_append_left _ (List.mem_append_right _ (List.mem_append_right _ (List.mem_append_left _ (List.mem_of_getElem? (i := 8) rfl)))))) (cz_c (List.mem_cons_of_mem _ (List.mem_append_left _ (List.mem_append_right _ (List.mem_append_right _ (List.mem_append_left _ (List.mem_of_getElem? (i := 9) rfl)))))) (cz_c (List.mem_cons_of_mem _ (List.mem_append_left _ (List.mem_append_right _ (List.mem_append_right _ (List.mem_append_left _ (List.mem_of_getElem? (i := 10) rfl)))))) (cz_c (List.mem_cons_of_mem _ (List.mem_append_left _ (List.mem_append_right _ (List.mem_append_left _ (List.mem_of_getElem? (i := 7) rfl))))) (cz_c (List.mem_cons_of_mem _ (List.mem_append_left _ (List.mem_append_right _ (List.mem_append_left _ (List.mem_of_getElem? (i := 10) rfl))))) (cz_c (List.mem_cons_of_mem _ (List.mem_append_left _ (List.mem_append_right _ (List.mem_append_left _ (List.mem_of_getElem? (i := 11) rfl))))) (cz_c (List.mem_cons_of_mem _ (List.mem_append_left _ (List.mem_append_right _ (List.mem_append_left _ (List.mem_of_getElem? (i := 12) rfl))))) (cz_c (List.mem_cons_of_mem _ (List.mem_append_left _ (List.mem_append_right _ (List.mem_append_left _ (List.mem_of_getElem? (i := 13) rfl))))) (cz_c (List.mem_cons_of_mem _ (List.mem_append_left _ (List.mem_append_right _ (List.mem_append_left _ (List.mem_of_getElem? (i := 15) rfl))))) cz_n))))))))))))))))))))))))
set_option maxRecDepth 20000 in
theorem cz_m_X7_digest_wsX7_wayNow_r3 : ∀ w ∈ wsX7_wayNow_r3, w ∈ wsX7_digest := (cz_c (List.mem_cons_of_mem _ (List.mem_append_left _ (List.mem_append_right _ (List.mem_append_left _ (List.mem_of_getElem? (i := 16) rfl))))) (cz_c (List.mem_cons_of_mem _ (List.mem_append_left _ (List.mem_append_right _ (List.mem_append_left _ (List.mem_of_getElem? (i := 17) rfl))))) (cz_c (List.mem_cons_of_mem _ (List.mem_append_left _ (List.mem_append_right _ (List.mem_append_left _ (List.mem_of_getElem? (i := 18) rfl))))) (cz_c (List.mem_cons_of_mem _ (List.mem_append_left _ (List.mem_append_right _ (List.mem_append_left _ (List.mem_of_getElem? (i := 19) rfl))))) (cz_c (List.mem_cons_of_mem _ (List.mem_append_left _ (List.mem_append_right _ (List.mem_append_left _ (List.mem_of_getElem? (i := 20) rfl))))) (cz_c (List.mem_cons_of_mem _ (List.mem_append_left _ (List.mem_append_right _ (List.mem_append_left _ (List.mem_of_getElem? (i := 21) rfl))))) (cz_c (List.mem_cons_of_mem _ (List.mem_append_left _ (List.mem_append_right _ (List.mem_append_left _ (List.mem_of_getElem? (i := 22) rfl))))) (cz_c (List.mem_cons_of_mem _ (List.mem_append_left _ (List.mem_append_right _ (List.mem_append_left _ (List.mem_of_getElem? (i := 23) rfl))))) (cz_c (List.mem_cons_of_mem _ (List.mem_append_left _ (List.mem_append_right _ (List.mem_append_right _ (List.mem_append_left _ (List.mem_of_getElem? (i := 0) rfl)))))) (cz_c (List.mem_cons_of_mem _ (List.mem_append_left _ (List.mem_append_right _ (List.mem_append_right _ (List.mem_append_left _ (List.mem_of_getElem? (i := 1) rfl)))))) (cz_c (List.mem_cons_of_mem _ (List.mem_append_left _ (List.mem_append_right _ (List.mem_append_right _ (List.mem_append_left _ (List.mem_of_getElem? (i := 2) rfl)))))) (cz_c (List.mem_cons_of_mem _ (List.mem_append_left _ (List.mem_append_right _ (List.mem_append_right _ (List.mem_append_left _ (List.mem_of_getElem? (i := 3) rfl)))))) (cz_c (List.mem_cons_of_mem _ (List.mem_append_left _ (List.mem_append_right _ (List.mem_append_right _ (List.mem_append_left _ (List.mem_of_getElem? (i := 4) rfl)))))) (cz_c (List.mem_cons_of_mem _ (List.mem_append_left _ (List.mem_append_right _ (List.mem_append_right _ (List.mem_append_left _ (List.mem_of_getElem? (i := 5) rfl)))))) (cz_c (List.mem_cons_of_mem _ (List.mem_append_left _ (List.mem_append_right _ (List.mem_append_right _ (List.mem_append_left _ (List.mem_of_getElem? (i := 6) rfl)))))) cz_n)))))))))))))))
set_option maxRecDepth 20000 in
theorem ggX7_digest_X7_wayNow : GoodIn wsX7_digest wsX7_wayNow := goodIn_sub (cz_c (List.mem_cons_of_mem _ (List.mem_append_left _ (List.mem_append_right _ (List.mem_append_right _ (List.mem_append_right _ (List.mem_append_right _ (List.mem_append_left _ (List.mem_of_getElem? (i := 2) rfl)))))))) (cz_a (cz_a cz_m_X7_digest_wsX7_wayNow_r1 (cz_a cz_m_X7_digest_wsX7_wayNow_r2 cz_m_X7_digest_wsX7_wayNow_r3)) (fun _ h => List.mem_cons_of_mem _ (List.mem_append_right _ h)))) (by decide +kernel)
set_option maxRecDepth 20000 in
theorem gX7_digest_X7_wayNow : GoodIn wsX7_digest (wsV RX7 178 RX7 yX7_wayNow wsX7_wayNow) := goodIn_app (goodIn_sub (cz_c (List.mem_cons_of_mem _ (List.mem_append_left _ (List.mem_append_right _ (List.mem_append_right _ (List.mem_append_right _ (List.mem_append_left _ (List.mem_of_getElem? (i := 23) rfl))))))) (cz_c (List.mem_cons_of_mem _ (List.mem_append_left _ (List.mem_append_right _ (List.mem_append_right _ (List.mem_append_right _ (List.mem_append_right _ (List.mem_append_left _ (List.mem_of_getElem? (i := 0) rfl)))))))) (cz_c (List.mem_cons_of_mem _ (List.mem_append_left _ (List.mem_append_right _ (List.mem_append_right _ (List.mem_append_right _ (List.mem_append_right _ (List.mem_append_left _ (List.mem_of_getElem? (i := 1) rfl)))))))) (cz_c (List.mem_cons_of_mem _ (List.mem_append_left _ (List.mem_append_left _ (List.mem_of_getElem? (i := 11) rfl)))) cz_n)))) (by decide +kernel)) ggX7_digest_X7_wayNow
set_option maxRecDepth 20000 in
theorem cz_m_X7_digest_wsX7_stoodNow_r1 : ∀ w ∈ wsX7_stoodNow_r1, w ∈ wsX7_digest := (cz_c (List.mem_cons_of_mem _ (List.mem_append_left _ (List.mem_append_left _ (List.mem_of_getElem? (i := 5) rfl)))) (cz_c (List.mem_cons_of_mem _ (List.mem_append_left _ (List.mem_append_right _ (List.mem_append_left _ (List.mem_of_getElem? (i := 14) rfl))))) (cz_c (List.mem_cons_of_mem _ (List.mem_append_left _ (List.mem_append_right _ (List.mem_append_right _ (List.mem_append_left _ (List.mem_of_getElem? (i := 20) rfl)))))) (cz_c (List.mem_cons_of_mem _ (List.mem_append_left _ (List.mem_append_right _ (List.mem_append_right _ (List.mem_append_left _ (List.mem_of_getElem? (i := 21) rfl)))))) (cz_c (List.mem_cons_of_mem _ (List.mem_append_left _ (List.mem_append_right _ (List.mem_append_right _ (List.mem_append_left _ (List.mem_of_getElem? (i := 22) rfl)))))) (cz_c (List.mem_cons_of_mem _ (List.mem_append_left _ (List.mem_append_left _ (List.mem_of_getElem? (i := 11) rfl)))) (cz_c (List.mem_cons_of_mem _ (List.mem_append_left _ (List.mem_append_right _ (List.mem_append_right _ (List.mem_append_left _ (List.mem_of_getElem? (i := 23) rfl)))))) (cz_c (List.mem_cons_of_mem _ (List.mem_append_left _ (List.mem_append_left _ (List.mem_of_getElem? (i := 13) rfl)))) (cz_c (List.mem_cons_of_mem _ (List.mem_append_left _ (List.mem_append_left _ (List.mem_of_getElem? (i := 14) rfl)))) (cz_c (List.mem_cons_of_mem _ (List.mem_append_left _ (List.mem_append_left _ (List.mem_of_getElem? (i := 15) rfl)))) (cz_c (List.mem_cons_of_mem _ (List.mem_append_left _ (List.mem_append_left _ (List.mem_of_getElem? (i := 16) rfl)))) (cz_c (List.mem_cons_of_mem _ (List.mem_append_left _ (List.mem_append_left _ (List.mem_of_getElem? (i := 17) rfl)))) (cz_c (List.mem_cons_of_mem _ (List.mem_append_left _ (List.mem_append_left _ (List.mem_of_getElem? (i := 18) rfl)))) (cz_c (List.mem_cons_of_mem _ (List.mem_append_left _ (List.mem_append_left _ (List.mem_of_getElem? (i := 19) rfl)))) (cz_c (List.mem_cons_of_mem _ (List.mem_append_left _ (List.mem_append_left _ (List.mem_of_getElem? (i := 20) rfl)))) (cz_c (List.mem_cons_of_mem _ (List.mem_append_left _ (List.mem_append_left _ (List.mem_of_getElem? (i := 3) rfl)))) (cz_c (List.mem_cons_of_mem _ (List.mem_append_left _ (List.mem_append_left _ (List.mem_of_getElem? (i := 21) rfl)))) (cz_c (List.mem_cons_of_mem _ (List.mem_append_left _ (List.mem_append_right _ (List.mem_append_right _ (List.mem_append_right _ (List.mem_append_right _ (List.mem_append_right _ (List.mem_of_getElem? (i := 0) rfl)))))))) (cz_c (List.mem_cons_of_mem _ (List.mem_append_left _ (List.mem_append_right _ (List.mem_append_right _ (List.mem_append_right _ (List.mem_append_right _ (List.mem_append_right _ (List.mem_of_getElem? (i := 1) rfl)))))))) (cz_c (List.mem_cons_of_mem _ (List.mem_append_left _ (List.mem_append_right _ (List.mem_append_right _ (List.mem_append_right _ (List.mem_append_right _ (List.mem_append_right _ (List.mem_of_getElem? (i := 2) rfl)))))))) (cz_c (List.mem_cons_of_mem _ (List.mem_append_left _ (List.mem_append_right _ (List.mem_append_right _ (List.mem_append_right _ (List.mem_append_right _ (List.mem_append_right _ (List.mem_of_getElem? (i := 3) rfl)))))))) (cz_c (List.mem_cons_of_mem _ (List.mem_append_left _ (List.mem_append_left _ (List.mem_of_getElem? (i := 4) rfl)))) (cz_c (List.mem_cons_of_mem _ (List.mem_append_left _ (List.mem_append_right _ (List.mem_append_left _ (List.mem_of_getElem? (i := 10) rfl))))) (cz_c (List.mem_cons_of_mem _ (List.mem_append_left _ (List.mem_append_right _ (List.mem_append_left _ (List.mem_of_getElem? (i := 11) rfl))))) cz_n))))))))))))))))))))))))
set_option maxRecDepth 20000 in
theorem cz_m_X7_digest_wsX7_stoodNow_r2 : ∀ w ∈ wsX7_stoodNow_r2, w ∈ wsX7_digest := (cz_c (List.mem_cons_of_mem _ (List.mem_append_left _ (List.mem_append_right _ (List.mem_append_left _ (List.mem_of_getElem? (i := 12) rfl))))) (cz_c (List.mem_cons_of_mem _ (List.mem_append_left _ (List.mem_append_right _ (List.mem_append_left _ (List.mem_of_getElem? (i := 13) rfl))))) (cz_c (List.mem_cons_of_mem _ (List.mem_append_left _ (List.mem_append_right _ (List.mem_append_left _ (List.mem_of_getElem? (i := 7) rfl))))) (cz_c (List.mem_cons_of_mem _ (List.mem_append_left _ (List.mem_append_right _ (List.mem_append_left _ (List.mem_of_getElem? (i := 15) rfl))))) (cz_c (List.mem_cons_of_mem _ (List.mem_append_left _ (List.mem_append_right _ (List.mem_append_left _ (List.mem_of_getElem? (i := 16) rfl))))) (cz_c (List.mem_cons_of_mem _ (List.mem_append_left _ (List.mem_append_right _ (List.mem_append_left _ (List.mem_of_getElem? (i := 17) rfl))))) (cz_c (List.mem_cons_of_mem _ (List.mem_append_left _ (List.mem_append_right _ (List.mem_append_left _ (List.mem_of_getElem? (i := 18) rfl))))) (cz_c (List.mem_cons_of_mem _ (List.mem_append_left _ (List.mem_append_right _ (List.mem_append_left _ (List.mem_of_getElem? (i := 19) rfl))))) (cz_c (List.mem_cons_of_mem _ (List.mem_append_left _ (List.mem_append_right _ (List.mem_append_left _ (List.mem_of_getElem? (i := 20) rfl))))) (cz_c (List.mem_cons_of_mem _ (List.mem_append_left _ (List.mem_append_right _ (List.mem_append_left _ (List.mem_of_getElem? (i := 21) rfl))))) (cz_c (List.mem_cons_of_mem _ (List.mem_append_left _ (List.mem_append_right _ (List.mem_append_left _ (List.mem_of_getElem? (i := 22) rfl))))) (cz_c (List.mem_cons_of_mem _ (List.mem_append_left _ (List.mem_append_right _ (List.mem_append_left _ (List.mem_of_getElem? (i := 23) rfl))))) (cz_c (List.mem_cons_of_mem _ (List.mem_append_left _ (List.mem_append_right _ (List.mem_append_right _ (List.mem_append_left _ (List.mem_of_getElem? (i := 0) rfl)))))) (cz_c (List.mem_cons_of_mem _ (List.mem_append_left _ (List.mem_append_right _ (List.mem_append_right _ (List.mem_append_left _ (List.mem_of_getElem? (i := 1) rfl)))))) (cz_c (List.mem_cons_of_mem _ (List.mem_append_left _ (List.mem_append_right _ (List.mem_append_right _ (List.mem_append_left _ (List.mem_of_getElem? (i := 2) rfl)))))) (cz_c (List.mem_cons_of_mem _ (List.mem_append_left _ (List.mem_append_right _ (List.mem_append_right _ (List.mem_append_left _ (List.mem_of_getElem? (i := 3) rfl)))))) (cz_c (List.mem_cons_of_mem _ (List.mem_append_left _ (List.mem_append_right _ (List.mem_append_right _ (List.mem_append_left _ (List.mem_of_getElem? (i := 4) rfl)))))) (cz_c (List.mem_cons_of_mem _ (List.mem_append_left _ (List.mem_append_right _ (List.mem_append_right _ (List.mem_append_left _ (List.mem_of_getElem? (i := 5) rfl)))))) (cz_c (List.mem_cons_of_mem _ (List.mem_append_left _ (List.mem_append_right _ (List.mem_append_right _ (List.mem_append_left _ (List.mem_of_getElem? (i := 6) rfl)))))) (cz_c (List.mem_cons_of_mem _ (List.mem_append_left _ (List.mem_append_right _ (List.mem_append_right _ (List.mem_append_right _ (List.mem_append_right _ (List.mem_append_right _ (List.mem_of_getElem? (i := 4) rfl)))))))) (cz_c (List.mem_cons_of_mem _ (List.mem_append_left _ (List.mem_append_right _ (List.mem_append_right _ (List.mem_append_right _ (List.mem_append_right _ (List.mem_append_right _ (List.mem_of_getElem? (i := 5) rfl)))))))) (cz_c (List.mem_cons_of_mem _ (List.mem_append_left _ (List.mem_append_right _ (List.mem_append_right _ (List.mem_append_right _ (List.mem_append_right _ (List.mem_append_right _ (List.mem_of_getElem? (i := 6) rfl)))))))) cz_n))))))))))))))))))))))
set_option maxRecDepth 20000 in
theorem ggX7_digest_X7_stoodNow : GoodIn wsX7_digest wsX7_stoodNow := goodIn_sub (cz_c (List.mem_cons_of_mem _ (List.mem_append_left _ (List.mem_append_right _ (List.mem_append_right _ (List.mem_append_right _ (List.mem_append_right _ (List.mem_append_left _ (List.mem_of_getElem? (i := 23) rfl)))))))) (cz_a (cz_a cz_m_X7_digest_wsX7_stoodNow_r1 cz_m_X7_digest_wsX7_stoodNow_r2) (fun _ h => List.mem_cons_of_mem _ (List.mem_append_right _ h)))) (by decide +kernel)
set_option maxRecDepth 20000 in
theorem gX7_digest_X7_stoodNow : GoodIn wsX7_digest (wsV RX7 188 RX7 yX7_stoodNow wsX7_stoodNow) := goodIn_app (goodIn_sub (cz_c (List.mem_cons_of_mem _ (List.mem_append_left _ (List.mem_append_right _ (List.mem_append_right _ (List.mem_append_right _ (List.mem_append_right _ (List.mem_append_left _ (List.mem_of_getElem? (i := 20) rfl)))))))) (cz_c (List.mem_cons_of_mem _ (List.mem_append_left _ (List.mem_append_right _ (List.mem_append_right _ (List.mem_append_right _ (List.mem_append_right _ (List.mem_append_left _ (List.mem_of_getElem? (i := 21) rfl)))))))) (cz_c (List.mem_cons_of_mem _ (List.mem_append_left _ (List.mem_append_right _ (List.mem_append_right _ (List.mem_append_right _ (List.mem_append_right _ (List.mem_append_left _ (List.mem_of_getElem? (i := 22) rfl)))))))) (cz_c (List.mem_cons_of_mem _ (List.mem_append_left _ (List.mem_append_left _ (List.mem_of_getElem? (i := 11) rfl)))) cz_n)))) (by decide +kernel)) ggX7_digest_X7_stoodNow
set_option maxRecDepth 20000 in
theorem cz_m_X7_digest_wsX7_howMany_r1 : ∀ w ∈ wsX7_howMany_r1, w ∈ wsX7_digest := (cz_c (List.mem_cons_of_mem _ (List.mem_append_left _ (List.mem_append_left _ (List.mem_of_getElem? (i := 13) rfl)))) (cz_c (List.mem_cons_of_mem _ (List.mem_append_left _ (List.mem_append_left _ (List.mem_of_getElem? (i := 3) rfl)))) (cz_c (List.mem_cons_of_mem _ (List.mem_append_left _ (List.mem_append_left _ (List.mem_of_getElem? (i := 5) rfl)))) (cz_c (List.mem_cons_of_mem _ (List.mem_append_left _ (List.mem_append_right _ (List.mem_append_left _ (List.mem_of_getElem? (i := 14) rfl))))) (cz_c (List.mem_cons_of_mem _ (List.mem_append_left _ (List.mem_append_right _ (List.mem_append_right _ (List.mem_append_right _ (List.mem_append_right _ (List.mem_append_right _ (List.mem_of_getElem? (i := 11) rfl)))))))) (cz_c (List.mem_cons_of_mem _ (List.mem_append_left _ (List.mem_append_left _ (List.mem_of_getElem? (i := 6) rfl)))) (cz_c (List.mem_cons_of_mem _ (List.mem_append_left _ (List.mem_append_right _ (List.mem_append_right _ (List.mem_append_right _ (List.mem_append_right _ (List.mem_append_right _ (List.mem_of_getElem? (i := 12) rfl)))))))) (cz_c (List.mem_cons_of_mem _ (List.mem_append_left _ (List.mem_append_right _ (List.mem_append_right _ (List.mem_append_right _ (List.mem_append_left _ (List.mem_of_getElem? (i := 20) rfl))))))) (cz_c (List.mem_cons_of_mem _ (List.mem_append_left _ (List.mem_append_right _ (List.mem_append_right _ (List.mem_append_right _ (List.mem_append_left _ (List.mem_of_getElem? (i := 21) rfl))))))) (cz_c (List.mem_cons_of_mem _ (List.mem_append_left _ (List.mem_append_left _ (List.mem_of_getElem? (i := 11) rfl)))) (cz_c (List.mem_cons_of_mem _ (List.mem_append_left _ (List.mem_append_right _ (List.mem_append_right _ (List.mem_append_right _ (List.mem_append_left _ (List.mem_of_getElem? (i := 22) rfl))))))) (cz_c (List.mem_cons_of_mem _ (List.mem_append_left _ (List.mem_append_right _ (List.mem_append_right _ (List.mem_append_right _ (List.mem_append_left _ (List.mem_of_getElem? (i := 16) rfl))))))) (cz_c (List.mem_cons_of_mem _ (List.mem_append_left _ (List.mem_append_right _ (List.mem_append_right _ (List.mem_append_right _ (List.mem_append_left _ (List.mem_of_getElem? (i := 17) rfl))))))) (cz_c (List.mem_cons_of_mem _ (List.mem_append_left _ (List.mem_append_right _ (List.mem_append_right _ (List.mem_append_right _ (List.mem_append_left _ (List.mem_of_getElem? (i := 18) rfl))))))) (cz_c (List.mem_cons_of_mem _ (List.mem_append_left _ (List.mem_append_right _ (List.mem_append_right _ (List.mem_append_right _ (List.mem_append_left _ (List.mem_of_getElem? (i := 19) rfl))))))) (cz_c (List.mem_cons_of_mem _ (List.mem_append_left _ (List.mem_append_right _ (List.mem_append_right _ (List.mem_append_left _ (List.mem_of_getElem? (i := 7) rfl)))))) (cz_c (List.mem_cons_of_mem _ (List.mem_append_left _ (List.mem_append_right _ (List.mem_append_right _ (List.mem_append_left _ (List.mem_of_getElem? (i := 8) rfl)))))) (cz_c (List.mem_cons_of_mem _ (List.mem_append_left _ (List.mem_append_right _ (List.mem_append_right _ (List.mem_append_left _ (List.mem_of_getElem? (i := 9) rfl)))))) (cz_c (List.mem_cons_of_mem _ (List.mem_append_left _ (List.mem_append_right _ (List.mem_append_right _ (List.mem_append_left _ (List.mem_of_getElem? (i := 10) rfl)))))) (cz_c (List.mem_cons_of_mem _ (List.mem_append_left _ (List.mem_append_right _ (List.mem_append_left _ (List.mem_of_getElem? (i := 7) rfl))))) (cz_c (List.mem_cons_of_mem _ (List.mem_append_left _ (List.mem_append_right _ (List.mem_append_left _ (List.mem_of_getElem? (i := 10) rfl))))) (cz_c (List.mem_cons_of_mem _ (List.mem_append_left _ (List.mem_append_right _ (List.mem_append_left _ (List.mem_of_getElem? (i := 11) rfl))))) (cz_c (List.mem_cons_of_mem _ (List.mem_append_left _ (List.mem_append_right _ (List.mem_append_left _ (List.mem_of_getElem? (i := 12) rfl))))) (cz_c (List.mem_cons_of_mem _ (List.mem_append_left _ (List.mem_append_right _ (List.mem_append_left _ (List.mem_of_getElem? (i := 13) rfl))))) cz_n))))))))))))))))))))))))
set_option maxRecDepth 20000 in
theorem cz_m_X7_digest_wsX7_howMany_r2 : ∀ w ∈ wsX7_howMany_r2, w ∈ wsX7_digest := (cz_c (List.mem_cons_of_mem _ (List.mem_append_left _ (List.mem_append_left _ (List.mem_of_getElem? (i := 21) rfl)))) (cz_c (List.mem_cons_of_mem _ (List.mem_append_left _ (List.mem_append_right _ (List.mem_append_left _ (List.mem_of_getElem? (i := 15) rfl))))) (cz_c (List.mem_cons_of_mem _ (List.mem_append_left _ (List.mem_append_right _ (List.mem_append_left _ (List.mem_of_getElem? (i := 16) rfl))))) (cz_c (List.mem_cons_of_mem _ (List.mem_append_left _ (List.mem_append_right _ (List.mem_append_left _ (List.mem_of_getElem? (i := 17) rfl))))) (cz_c (List.mem_cons_of_mem _ (List.mem_append_left _ (List.mem_append_right _ (List.mem_append_left _ (List.mem_of_getElem? (i := 18) rfl))))) (cz_c (List.mem_cons_of_mem _ (List.mem_append_left _ (List.mem_append_right _ (List.mem_append_left _ (List.mem_of_getElem? (i := 19) rfl))))) (cz_c (List.mem_cons_of_mem _ (List.mem_append_left _ (List.mem_append_right _ (List.mem_append_left _ (List.mem_of_getElem? (i := 20) rfl))))) (cz_c (List.mem_cons_of_mem _ (List.mem_append_left _ (List.mem_append_right _ (List.mem_append_left _ (List.mem_of_getElem? (i := 21) rfl))))) (cz_c (List.mem_cons_of_mem _ (List.mem_append_left _ (List.mem_append_right _ (List.mem_append_left _ (List.mem_of_getElem? (i := 22) rfl))))) (cz_c (List.mem_cons_of_mem _ (List.mem_append_left _ (List.mem_append_right _ (List.mem_append_left _ (List.mem_of_getElem? (i := 23) rfl))))) (cz_c (List.mem_cons_of_mem _ (List.mem_append_left _ (List.mem_append_right _ (List.mem_append_right _ (List.mem_append_left _ (List.mem_of_getElem? (i := 0) rfl)))))) (cz_c (List.mem_cons_of_mem _ (List.mem_append_left _ (List.mem_append_right _ (List.mem_append_right _ (List.mem_append_left _ (List.mem_of_getElem? (i := 1) rfl)))))) (cz_c (List.mem_cons_of_mem _ (List.mem_append_left _ (List.mem_append_right _ (List.mem_append_right _ (List.mem_append_left _ (List.mem_of_getElem? (i := 2) rfl)))))) (cz_c (List.mem_cons_of_mem _ (List.mem_append_left _ (List.mem_append_right _ (List.mem_append_right _ (List.mem_append_left _ (List.mem_of_getElem? (i := 3) rfl)))))) (cz_c (List.mem_cons_of_mem _ (List.mem_append_left _ (List.mem_append_right _ (List.mem_append_right _ (List.mem_append_left _ (List.mem_of_getElem? (i := 4) rfl)))))) (cz_c (List.mem_cons_of_mem _ (List.mem_append_left _ (List.mem_append_right _ (List.mem_append_right _ (List.mem_append_left _ (List.mem_of_getElem? (i := 5) rfl)))))) (cz_c (List.mem_cons_of_mem _ (List.mem_append_left _ (List.mem_append_right _ (List.mem_append_right _ (List.mem_append_left _ (List.mem_of_getElem? (i := 6) rfl)))))) (cz_c (List.mem_cons_of_mem _ (List.mem_append_left _ (List.mem_append_left _ (List.mem_of_getElem? (i := 14) rfl)))) (cz_c (List.mem_cons_of_mem _ (List.mem_append_left _ (List.mem_append_left _ (List.mem_of_getElem? (i := 15) rfl)))) (cz_c (List.mem_cons_of_mem _ (List.mem_append_left _ (List.mem_append_left _ (List.mem_of_getElem? (i := 16) rfl)))) (cz_c (List.mem_cons_of_mem _ (List.mem_append_left _ (List.mem_append_left _ (List.mem_of_getElem? (i := 17) rfl)))) (cz_c (List.mem_cons_of_mem _ (List.mem_append_left _ (List.mem_append_left _ (List.mem_of_getElem? (i := 18) rfl)))) (cz_c (List.mem_cons_of_mem _ (List.mem_append_left _ (List.mem_append_left _ (List.mem_of_getElem? (i := 19) rfl)))) (cz_c (List.mem_cons_of_mem _ (List.mem_append_left _ (List.mem_append_left _ (List.mem_of_getElem? (i := 20) rfl)))) cz_n))))))))))))))))))))))))
set_option maxRecDepth 20000 in
theorem cz_m_X7_digest_wsX7_howMany_r3 : ∀ w ∈ wsX7_howMany_r3, w ∈ wsX7_digest := (cz_c (List.mem_cons_of_mem _ (List.mem_append_left _ (List.mem_append_right _ (List.mem_append_right _ (List.mem_append_right _ (List.mem_append_right _ (List.mem_append_right _ (List.mem_of_getElem? (i := 13) rfl)))))))) (cz_c (List.mem_cons_of_mem _ (List.mem_append_left _ (List.mem_append_right _ (List.mem_append_right _ (List.mem_append_right _ (List.mem_append_right _ (List.mem_append_right _ (List.mem_of_getElem? (i := 14) rfl)))))))) (cz_c (List.mem_cons_of_mem _ (List.mem_append_left _ (List.mem_append_right _ (List.mem_append_right _ (List.mem_append_right _ (List.mem_append_right _ (List.mem_append_right _ (List.mem_of_getElem? (i := 15) rfl)))))))) (cz_c (List.mem_cons_of_mem _ (List.mem_append_left _ (List.mem_append_right _ (List.mem_append_right _ (List.mem_append_right _ (List.mem_append_right _ (List.mem_append_right _ (List.mem_of_getElem? (i := 16) rfl)))))))) (cz_c (List.mem_cons_of_mem _ (List.mem_append_left _ (List.mem_append_left _ (List.mem_of_getElem? (i := 4) rfl)))) cz_n)))))
set_option maxRecDepth 20000 in
theorem ggX7_digest_X7_howMany : GoodIn wsX7_digest wsX7_howMany := goodIn_sub (cz_c (List.mem_cons_of_mem _ (List.mem_append_left _ (List.mem_append_right _ (List.mem_append_right _ (List.mem_append_right _ (List.mem_append_right _ (List.mem_append_right _ (List.mem_of_getElem? (i := 10) rfl)))))))) (cz_a (cz_a cz_m_X7_digest_wsX7_howMany_r1 (cz_a cz_m_X7_digest_wsX7_howMany_r2 cz_m_X7_digest_wsX7_howMany_r3)) (fun _ h => List.mem_cons_of_mem _ (List.mem_append_right _ h)))) (by decide +kernel)
set_option maxRecDepth 20000 in
theorem gX7_digest_X7_howMany : GoodIn wsX7_digest (wsV RX7 231 RX7 yX7_howMany wsX7_howMany) := goodIn_app (goodIn_sub (cz_c (List.mem_cons_of_mem _ (List.mem_append_left _ (List.mem_append_right _ (List.mem_append_right _ (List.mem_append_right _ (List.mem_append_right _ (List.mem_append_right _ (List.mem_of_getElem? (i := 7) rfl)))))))) (cz_c (List.mem_cons_of_mem _ (List.mem_append_left _ (List.mem_append_right _ (List.mem_append_right _ (List.mem_append_right _ (List.mem_append_right _ (List.mem_append_right _ (List.mem_of_getElem? (i := 8) rfl)))))))) (cz_c (List.mem_cons_of_mem _ (List.mem_append_left _ (List.mem_append_right _ (List.mem_append_right _ (List.mem_append_right _ (List.mem_append_right _ (List.mem_append_right _ (List.mem_of_getElem? (i := 9) rfl)))))))) (cz_c (List.mem_cons_of_mem _ (List.mem_append_left _ (List.mem_append_left _ (List.mem_of_getElem? (i := 11) rfl)))) cz_n)))) (by decide +kernel)) ggX7_digest_X7_howMany
