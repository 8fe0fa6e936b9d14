theorem dX0_init_0 : decode cX0_init 0 = .ok (.aload_n 0, 1) := by decide +kernel
theorem dX0_init_1 : decode cX0_init 1 = .ok (.invokespecial 3, 3) := by decide +kernel
theorem dX0_init_4 : decode cX0_init 4 = .ok (.aload_n 0, 1) := by decide +kernel
theorem dX0_init_5 : decode cX0_init 5 = .ok (.iconst (-1), 1) := by decide +kernel
theorem dX0_init_6 : decode cX0_init 6 = .ok (.putfield 9, 3) := by decide +kernel
theorem dX0_init_9 : decode cX0_init 9 = .ok (.aload_n 0, 1) := by decide +kernel
theorem dX0_init_10 : decode cX0_init 10 = .ok (.iconst (-1), 1) := by decide +kernel
theorem dX0_init_11 : decode cX0_init 11 = .ok (.putfield 15, 3) := by decide +kernel
theorem dX0_init_14 : decode cX0_init 14 = .ok (.return_, 1) := by decide +kernel
theorem dX0_clear_0 : decode cX0_clear 0 = .ok (.aload_n 0, 1) := by decide +kernel
theorem dX0_clear_1 : decode cX0_clear 1 = .ok (.iconst (-1), 1) := by decide +kernel
theorem dX0_clear_2 : decode cX0_clear 2 = .ok (.putfield 9, 3) := by decide +kernel
theorem dX0_clear_5 : decode cX0_clear 5 = .ok (.aload_n 0, 1) := by decide +kernel
theorem dX0_clear_6 : decode cX0_clear 6 = .ok (.iconst (-1), 1) := by decide +kernel
theorem dX0_clear_7 : decode cX0_clear 7 = .ok (.putfield 15, 3) := by decide +kernel
theorem dX0_clear_10 : decode cX0_clear 10 = .ok (.return_, 1) := by decide +kernel
theorem dX0_offer_0 : decode cX0_offer 0 = .ok (.aload_n 0, 1) := by decide +kernel
theorem dX0_offer_1 : decode cX0_offer 1 = .ok (.getfield 9, 3) := by decide +kernel
theorem dX0_offer_4 : decode cX0_offer 4 = .ok (.iconst (-1), 1) := by decide +kernel
theorem dX0_offer_5 : decode cX0_offer 5 = .ok (.if_icmp .eq 11, 3) := by decide +kernel
theorem dX0_offer_8 : decode cX0_offer 8 = .ok (.iload_n 2, 1) := by decide +kernel
theorem dX0_offer_9 : decode cX0_offer 9 = .ok (.aload_n 0, 1) := by decide +kernel
theorem dX0_offer_10 : decode cX0_offer 10 = .ok (.getfield 15, 3) := by decide +kernel
theorem dX0_offer_13 : decode cX0_offer 13 = .ok (.if_icmp .le 13, 3) := by decide +kernel
theorem dX0_offer_16 : decode cX0_offer 16 = .ok (.aload_n 0, 1) := by decide +kernel
theorem dX0_offer_17 : decode cX0_offer 17 = .ok (.iload_n 1, 1) := by decide +kernel
theorem dX0_offer_18 : decode cX0_offer 18 = .ok (.putfield 9, 3) := by decide +kernel
theorem dX0_offer_21 : decode cX0_offer 21 = .ok (.aload_n 0, 1) := by decide +kernel
theorem dX0_offer_22 : decode cX0_offer 22 = .ok (.iload_n 2, 1) := by decide +kernel
theorem dX0_offer_23 : decode cX0_offer 23 = .ok (.putfield 15, 3) := by decide +kernel
theorem dX0_offer_26 : decode cX0_offer 26 = .ok (.return_, 1) := by decide +kernel
theorem dX0_tell_0 : decode cX0_tell 0 = .ok (.iload_n 1, 1) := by decide +kernel
theorem dX0_tell_1 : decode cX0_tell 1 = .ok (.ifCond .ne 10, 3) := by decide +kernel
theorem dX0_tell_4 : decode cX0_tell 4 = .ok (.aload_n 0, 1) := by decide +kernel
theorem dX0_tell_5 : decode cX0_tell 5 = .ok (.getfield 9, 3) := by decide +kernel
theorem dX0_tell_8 : decode cX0_tell 8 = .ok (.goto 7, 3) := by decide +kernel
theorem dX0_tell_11 : decode cX0_tell 11 = .ok (.aload_n 0, 1) := by decide +kernel
theorem dX0_tell_12 : decode cX0_tell 12 = .ok (.getfield 15, 3) := by decide +kernel
theorem dX0_tell_15 : decode cX0_tell 15 = .ok (.ireturn, 1) := by decide +kernel
theorem dX1_init_0 : decode cX1_init 0 = .ok (.aload_n 0, 1) := by decide +kernel
theorem dX1_init_1 : decode cX1_init 1 = .ok (.invokespecial 3, 3) := by decide +kernel
theorem dX1_init_4 : decode cX1_init 4 = .ok (.aload_n 0, 1) := by decide +kernel
theorem dX1_init_5 : decode cX1_init 5 = .ok (.bipush 24, 2) := by decide +kernel
theorem dX1_init_7 : decode cX1_init 7 = .ok (.newarray .int, 2) := by decide +kernel
theorem dX1_init_9 : decode cX1_init 9 = .ok (.putfield 9, 3) := by decide +kernel
theorem dX1_init_12 : decode cX1_init 12 = .ok (.aload_n 0, 1) := by decide +kernel
theorem dX1_init_13 : decode cX1_init 13 = .ok (.iconst 0, 1) := by decide +kernel
theorem dX1_init_14 : decode cX1_init 14 = .ok (.putfield 15, 3) := by decide +kernel
theorem dX1_init_17 : decode cX1_init 17 = .ok (.return_, 1) := by decide +kernel
theorem dX1_add_0 : decode cX1_add 0 = .ok (.aload_n 0, 1) := by decide +kernel
theorem dX1_add_1 : decode cX1_add 1 = .ok (.getfield 15, 3) := by decide +kernel
theorem dX1_add_4 : decode cX1_add 4 = .ok (.bipush 8, 2) := by decide +kernel
theorem dX1_add_6 : decode cX1_add 6 = .ok (.if_icmp .lt 5, 3) := by decide +kernel
theorem dX1_add_9 : decode cX1_add 9 = .ok (.iconst 0, 1) := by decide +kernel
theorem dX1_add_10 : decode cX1_add 10 = .ok (.ireturn, 1) := by decide +kernel
theorem dX1_add_11 : decode cX1_add 11 = .ok (.aload_n 0, 1) := by decide +kernel
theorem dX1_add_12 : decode cX1_add 12 = .ok (.getfield 9, 3) := by decide +kernel
theorem dX1_add_15 : decode cX1_add 15 = .ok (.iconst 3, 1) := by decide +kernel
theorem dX1_add_16 : decode cX1_add 16 = .ok (.aload_n 0, 1) := by decide +kernel
theorem dX1_add_17 : decode cX1_add 17 = .ok (.getfield 15, 3) := by decide +kernel
theorem dX1_add_20 : decode cX1_add 20 = .ok (.imul, 1) := by decide +kernel
theorem dX1_add_21 : decode cX1_add 21 = .ok (.iload_n 1, 1) := by decide +kernel
theorem dX1_add_22 : decode cX1_add 22 = .ok (.iastore, 1) := by decide +kernel
theorem dX1_add_23 : decode cX1_add 23 = .ok (.aload_n 0, 1) := by decide +kernel
theorem dX1_add_24 : decode cX1_add 24 = .ok (.getfield 9, 3) := by decide +kernel
theorem dX1_add_27 : decode cX1_add 27 = .ok (.iconst 3, 1) := by decide +kernel
theorem dX1_add_28 : decode cX1_add 28 = .ok (.aload_n 0, 1) := by decide +kernel
theorem dX1_add_29 : decode cX1_add 29 = .ok (.getfield 15, 3) := by decide +kernel
theorem dX1_add_32 : decode cX1_add 32 = .ok (.imul, 1) := by decide +kernel
theorem dX1_add_33 : decode cX1_add 33 = .ok (.iconst 1, 1) := by decide +kernel
theorem dX1_add_34 : decode cX1_add 34 = .ok (.iadd, 1) := by decide +kernel
theorem dX1_add_35 : decode cX1_add 35 = .ok (.iload_n 2, 1) := by decide +kernel
theorem dX1_add_36 : decode cX1_add 36 = .ok (.iastore, 1) := by decide +kernel
theorem dX1_add_37 : decode cX1_add 37 = .ok (.aload_n 0, 1) := by decide +kernel
theorem dX1_add_38 : decode cX1_add 38 = .ok (.getfield 9, 3) := by decide +kernel
theorem dX1_add_41 : decode cX1_add 41 = .ok (.iconst 3, 1) := by decide +kernel
theorem dX1_add_42 : decode cX1_add 42 = .ok (.aload_n 0, 1) := by decide +kernel
theorem dX1_add_43 : decode cX1_add 43 = .ok (.getfield 15, 3) := by decide +kernel
theorem dX1_add_46 : decode cX1_add 46 = .ok (.imul, 1) := by decide +kernel
theorem dX1_add_47 : decode cX1_add 47 = .ok (.iconst 2, 1) := by decide +kernel
theorem dX1_add_48 : decode cX1_add 48 = .ok (.iadd, 1) := by decide +kernel
theorem dX1_add_49 : decode cX1_add 49 = .ok (.iload_n 3, 1) := by decide +kernel
theorem dX1_add_50 : decode cX1_add 50 = .ok (.iastore, 1) := by decide +kernel
theorem dX1_add_51 : decode cX1_add 51 = .ok (.aload_n 0, 1) := by decide +kernel
theorem dX1_add_52 : decode cX1_add 52 = .ok (.dup, 1) := by decide +kernel
theorem dX1_add_53 : decode cX1_add 53 = .ok (.getfield 15, 3) := by decide +kernel
theorem dX1_add_56 : decode cX1_add 56 = .ok (.iconst 1, 1) := by decide +kernel
theorem dX1_add_57 : decode cX1_add 57 = .ok (.iadd, 1) := by decide +kernel
theorem dX1_add_58 : decode cX1_add 58 = .ok (.putfield 15, 3) := by decide +kernel
theorem dX1_add_61 : decode cX1_add 61 = .ok (.iconst 1, 1) := by decide +kernel
theorem dX1_add_62 : decode cX1_add 62 = .ok (.ireturn, 1) := by decide +kernel
theorem dX1_part_0 : decode cX1_part 0 = .ok (.aload_n 0, 1) := by decide +kernel
theorem dX1_part_1 : decode cX1_part 1 = .ok (.getfield 9, 3) := by decide +kernel
theorem dX1_part_4 : decode cX1_part 4 = .ok (.iconst 3, 1) := by decide +kernel
theorem dX1_part_5 : decode cX1_part 5 = .ok (.iload_n 1, 1) := by decide +kernel
theorem dX1_part_6 : decode cX1_part 6 = .ok (.imul, 1) := by decide +kernel
theorem dX1_part_7 : decode cX1_part 7 = .ok (.iload_n 2, 1) := by decide +kernel
theorem dX1_part_8 : decode cX1_part 8 = .ok (.iadd, 1) := by decide +kernel
theorem dX1_part_9 : decode cX1_part 9 = .ok (.iaload, 1) := by decide +kernel
theorem dX1_part_10 : decode cX1_part 10 = .ok (.ireturn, 1) := by decide +kernel
theorem dX2_init_0 : decode cX2_init 0 = .ok (.aload_n 0, 1) := by decide +kernel
theorem dX2_init_1 : decode cX2_init 1 = .ok (.invokespecial 3, 3) := by decide +kernel
theorem dX2_init_4 : decode cX2_init 4 = .ok (.aload_n 0, 1) := by decide +kernel
theorem dX2_init_5 : decode cX2_init 5 = .ok (.iconst 0, 1) := by decide +kernel
theorem dX2_init_6 : decode cX2_init 6 = .ok (.putfield 9, 3) := by decide +kernel
theorem dX2_init_9 : decode cX2_init 9 = .ok (.aload_n 0, 1) := by decide +kernel
theorem dX2_init_10 : decode cX2_init 10 = .ok (.bipush 10, 2) := by decide +kernel
theorem dX2_init_12 : decode cX2_init 12 = .ok (.newarray .int, 2) := by decide +kernel
theorem dX2_init_14 : decode cX2_init 14 = .ok (.putfield 15, 3) := by decide +kernel
theorem dX2_init_17 : decode cX2_init 17 = .ok (.aload_n 0, 1) := by decide +kernel
theorem dX2_init_18 : decode cX2_init 18 = .ok (.bipush 10, 2) := by decide +kernel
theorem dX2_init_20 : decode cX2_init 20 = .ok (.newarray .int, 2) := by decide +kernel
theorem dX2_init_22 : decode cX2_init 22 = .ok (.putfield 19, 3) := by decide +kernel
theorem dX2_init_25 : decode cX2_init 25 = .ok (.aload_n 0, 1) := by decide +kernel
theorem dX2_init_26 : decode cX2_init 26 = .ok (.bipush 10, 2) := by decide +kernel
theorem dX2_init_28 : decode cX2_init 28 = .ok (.newarray .int, 2) := by decide +kernel
theorem dX2_init_30 : decode cX2_init 30 = .ok (.putfield 22, 3) := by decide +kernel
theorem dX2_init_33 : decode cX2_init 33 = .ok (.aload_n 0, 1) := by decide +kernel
theorem dX2_init_34 : decode cX2_init 34 = .ok (.iconst 0, 1) := by decide +kernel
theorem dX2_init_35 : decode cX2_init 35 = .ok (.putfield 25, 3) := by decide +kernel
theorem dX2_init_38 : decode cX2_init 38 = .ok (.aload_n 0, 1) := by decide +kernel
theorem dX2_init_39 : decode cX2_init 39 = .ok (.iconst 4, 1) := by decide +kernel
theorem dX2_init_40 : decode cX2_init 40 = .ok (.newarray .int, 2) := by decide +kernel
theorem dX2_init_42 : decode cX2_init 42 = .ok (.putfield 28, 3) := by decide +kernel
theorem dX2_init_45 : decode cX2_init 45 = .ok (.aload_n 0, 1) := by decide +kernel
theorem dX2_init_46 : decode cX2_init 46 = .ok (.iconst 4, 1) := by decide +kernel
theorem dX2_init_47 : decode cX2_init 47 = .ok (.newarray .int, 2) := by decide +kernel
theorem dX2_init_49 : decode cX2_init 49 = .ok (.putfield 31, 3) := by decide +kernel
theorem dX2_init_52 : decode cX2_init 52 = .ok (.aload_n 0, 1) := by decide +kernel
theorem dX2_init_53 : decode cX2_init 53 = .ok (.iconst 4, 1) := by decide +kernel
theorem dX2_init_54 : decode cX2_init 54 = .ok (.newarray .int, 2) := by decide +kernel
theorem dX2_init_56 : decode cX2_init 56 = .ok (.putfield 34, 3) := by decide +kernel
theorem dX2_init_59 : decode cX2_init 59 = .ok (.aload_n 0, 1) := by decide +kernel
theorem dX2_init_60 : decode cX2_init 60 = .ok (.bipush 12, 2) := by decide +kernel
theorem dX2_init_62 : decode cX2_init 62 = .ok (.newarray .int, 2) := by decide +kernel
theorem dX2_init_64 : decode cX2_init 64 = .ok (.putfield 37, 3) := by decide +kernel
theorem dX2_init_67 : decode cX2_init 67 = .ok (.aload_n 0, 1) := by decide +kernel
theorem dX2_init_68 : decode cX2_init 68 = .ok (.iconst 0, 1) := by decide +kernel
theorem dX2_init_69 : decode cX2_init 69 = .ok (.putfield 40, 3) := by decide +kernel
theorem dX2_init_72 : decode cX2_init 72 = .ok (.aload_n 0, 1) := by decide +kernel
theorem dX2_init_73 : decode cX2_init 73 = .ok (.iconst (-1), 1) := by decide +kernel
theorem dX2_init_74 : decode cX2_init 74 = .ok (.putfield 43, 3) := by decide +kernel
theorem dX2_init_77 : decode cX2_init 77 = .ok (.aload_n 0, 1) := by decide +kernel
theorem dX2_init_78 : decode cX2_init 78 = .ok (.iconst (-1), 1) := by decide +kernel
theorem dX2_init_79 : decode cX2_init 79 = .ok (.putfield 46, 3) := by decide +kernel
theorem dX2_init_82 : decode cX2_init 82 = .ok (.aload_n 0, 1) := by decide +kernel
theorem dX2_init_83 : decode cX2_init 83 = .ok (.iconst (-1), 1) := by decide +kernel
theorem dX2_init_84 : decode cX2_init 84 = .ok (.putfield 49, 3) := by decide +kernel
theorem dX2_init_87 : decode cX2_init 87 = .ok (.aload_n 0, 1) := by decide +kernel
theorem dX2_init_88 : decode cX2_init 88 = .ok (.aload_n 1, 1) := by decide +kernel
theorem dX2_init_89 : decode cX2_init 89 = .ok (.putfield 52, 3) := by decide +kernel
theorem dX2_init_92 : decode cX2_init 92 = .ok (.return_, 1) := by decide +kernel
theorem dX2_take_0 : decode cX2_take 0 = .ok (.aload_n 0, 1) := by decide +kernel
theorem dX2_take_1 : decode cX2_take 1 = .ok (.aload_n 1, 1) := by decide +kernel
theorem dX2_take_2 : decode cX2_take 2 = .ok (.invokevirtual 56, 3) := by decide +kernel
theorem dX2_take_5 : decode cX2_take 5 = .ok (.putfield 9, 3) := by decide +kernel
theorem dX2_take_8 : decode cX2_take 8 = .ok (.iconst 0, 1) := by decide +kernel
theorem dX2_take_9 : decode cX2_take 9 = .ok (.istore 4, 2) := by decide +kernel
theorem dX2_take_11 : decode cX2_take 11 = .ok (.iload 4, 2) := by decide +kernel
theorem dX2_take_13 : decode cX2_take 13 = .ok (.aload_n 0, 1) := by decide +kernel
theorem dX2_take_14 : decode cX2_take 14 = .ok (.getfield 9, 3) := by decide +kernel
theorem dX2_take_17 : decode cX2_take 17 = .ok (.if_icmp .ge 51, 3) := by decide +kernel
theorem dX2_take_20 : decode cX2_take 20 = .ok (.aload_n 0, 1) := by decide +kernel
theorem dX2_take_21 : decode cX2_take 21 = .ok (.getfield 15, 3) := by decide +kernel
theorem dX2_take_24 : decode cX2_take 24 = .ok (.iload 4, 2) := by decide +kernel
theorem dX2_take_26 : decode cX2_take 26 = .ok (.aload_n 1, 1) := by decide +kernel
theorem dX2_take_27 : decode cX2_take 27 = .ok (.iload 4, 2) := by decide +kernel
theorem dX2_take_29 : decode cX2_take 29 = .ok (.iconst 0, 1) := by decide +kernel
theorem dX2_take_30 : decode cX2_take 30 = .ok (.invokevirtual 62, 3) := by decide +kernel
theorem dX2_take_33 : decode cX2_take 33 = .ok (.iastore, 1) := by decide +kernel
theorem dX2_take_34 : decode cX2_take 34 = .ok (.aload_n 0, 1) := by decide +kernel
theorem dX2_take_35 : decode cX2_take 35 = .ok (.getfield 19, 3) := by decide +kernel
theorem dX2_take_38 : decode cX2_take 38 = .ok (.iload 4, 2) := by decide +kernel
theorem dX2_take_40 : decode cX2_take 40 = .ok (.aload_n 1, 1) := by decide +kernel
theorem dX2_take_41 : decode cX2_take 41 = .ok (.iload 4, 2) := by decide +kernel
theorem dX2_take_43 : decode cX2_take 43 = .ok (.iconst 1, 1) := by decide +kernel
theorem dX2_take_44 : decode cX2_take 44 = .ok (.invokevirtual 62, 3) := by decide +kernel
theorem dX2_take_47 : decode cX2_take 47 = .ok (.iastore, 1) := by decide +kernel
theorem dX2_take_48 : decode cX2_take 48 = .ok (.aload_n 0, 1) := by decide +kernel
theorem dX2_take_49 : decode cX2_take 49 = .ok (.getfield 22, 3) := by decide +kernel
theorem dX2_take_52 : decode cX2_take 52 = .ok (.iload 4, 2) := by decide +kernel
theorem dX2_take_54 : decode cX2_take 54 = .ok (.aload_n 1, 1) := by decide +kernel
theorem dX2_take_55 : decode cX2_take 55 = .ok (.iload 4, 2) := by decide +kernel
theorem dX2_take_57 : decode cX2_take 57 = .ok (.iconst 2, 1) := by decide +kernel
theorem dX2_take_58 : decode cX2_take 58 = .ok (.invokevirtual 62, 3) := by decide +kernel
theorem dX2_take_61 : decode cX2_take 61 = .ok (.iastore, 1) := by decide +kernel
theorem dX2_take_62 : decode cX2_take 62 = .ok (.iinc 4 1, 3) := by decide +kernel
theorem dX2_take_65 : decode cX2_take 65 = .ok (.goto (-54), 3) := by decide +kernel
theorem dX2_take_68 : decode cX2_take 68 = .ok (.aload_n 0, 1) := by decide +kernel
theorem dX2_take_69 : decode cX2_take 69 = .ok (.aload_n 2, 1) := by decide +kernel
theorem dX2_take_70 : decode cX2_take 70 = .ok (.invokevirtual 56, 3) := by decide +kernel
theorem dX2_take_73 : decode cX2_take 73 = .ok (.putfield 25, 3) := by decide +kernel
theorem dX2_take_76 : decode cX2_take 76 = .ok (.iconst 0, 1) := by decide +kernel
theorem dX2_take_77 : decode cX2_take 77 = .ok (.istore 4, 2) := by decide +kernel
theorem dX2_take_79 : decode cX2_take 79 = .ok (.iload 4, 2) := by decide +kernel
theorem dX2_take_81 : decode cX2_take 81 = .ok (.aload_n 0, 1) := by decide +kernel
theorem dX2_take_82 : decode cX2_take 82 = .ok (.getfield 25, 3) := by decide +kernel
theorem dX2_take_85 : decode cX2_take 85 = .ok (.if_icmp .ge 51, 3) := by decide +kernel
theorem dX2_take_88 : decode cX2_take 88 = .ok (.aload_n 0, 1) := by decide +kernel
theorem dX2_take_89 : decode cX2_take 89 = .ok (.getfield 28, 3) := by decide +kernel
theorem dX2_take_92 : decode cX2_take 92 = .ok (.iload 4, 2) := by decide +kernel
theorem dX2_take_94 : decode cX2_take 94 = .ok (.aload_n 2, 1) := by decide +kernel
theorem dX2_take_95 : decode cX2_take 95 = .ok (.iload 4, 2) := by decide +kernel
theorem dX2_take_97 : decode cX2_take 97 = .ok (.iconst 0, 1) := by decide +kernel
theorem dX2_take_98 : decode cX2_take 98 = .ok (.invokevirtual 62, 3) := by decide +kernel
theorem dX2_take_101 : decode cX2_take 101 = .ok (.iastore, 1) := by decide +kernel
theorem dX2_take_102 : decode cX2_take 102 = .ok (.aload_n 0, 1) := by decide +kernel
theorem dX2_take_103 : decode cX2_take 103 = .ok (.getfield 31, 3) := by decide +kernel
theorem dX2_take_106 : decode cX2_take 106 = .ok (.iload 4, 2) := by decide +kernel
theorem dX2_take_108 : decode cX2_take 108 = .ok (.aload_n 2, 1) := by decide +kernel
theorem dX2_take_109 : decode cX2_take 109 = .ok (.iload 4, 2) := by decide +kernel
theorem dX2_take_111 : decode cX2_take 111 = .ok (.iconst 1, 1) := by decide +kernel
theorem dX2_take_112 : decode cX2_take 112 = .ok (.invokevirtual 62, 3) := by decide +kernel
theorem dX2_take_115 : decode cX2_take 115 = .ok (.iastore, 1) := by decide +kernel
theorem dX2_take_116 : decode cX2_take 116 = .ok (.aload_n 0, 1) := by decide +kernel
theorem dX2_take_117 : decode cX2_take 117 = .ok (.getfield 34, 3) := by decide +kernel
theorem dX2_take_120 : decode cX2_take 120 = .ok (.iload 4, 2) := by decide +kernel
theorem dX2_take_122 : decode cX2_take 122 = .ok (.aload_n 2, 1) := by decide +kernel
theorem dX2_take_123 : decode cX2_take 123 = .ok (.iload 4, 2) := by decide +kernel
theorem dX2_take_125 : decode cX2_take 125 = .ok (.iconst 2, 1) := by decide +kernel
theorem dX2_take_126 : decode cX2_take 126 = .ok (.invokevirtual 62, 3) := by decide +kernel
theorem dX2_take_129 : decode cX2_take 129 = .ok (.iastore, 1) := by decide +kernel
theorem dX2_take_130 : decode cX2_take 130 = .ok (.iinc 4 1, 3) := by decide +kernel
theorem dX2_take_133 : decode cX2_take 133 = .ok (.goto (-54), 3) := by decide +kernel
theorem dX2_take_136 : decode cX2_take 136 = .ok (.iconst 0, 1) := by decide +kernel
theorem dX2_take_137 : decode cX2_take 137 = .ok (.istore 4, 2) := by decide +kernel
theorem dX2_take_139 : decode cX2_take 139 = .ok (.iload 4, 2) := by decide +kernel
theorem dX2_take_141 : decode cX2_take 141 = .ok (.bipush 12, 2) := by decide +kernel
theorem dX2_take_143 : decode cX2_take 143 = .ok (.if_icmp .ge 22, 3) := by decide +kernel
theorem dX2_take_146 : decode cX2_take 146 = .ok (.aload_n 0, 1) := by decide +kernel
theorem dX2_take_147 : decode cX2_take 147 = .ok (.getfield 37, 3) := by decide +kernel
theorem dX2_take_150 : decode cX2_take 150 = .ok (.iload 4, 2) := by decide +kernel
theorem dX2_take_152 : decode cX2_take 152 = .ok (.aload_n 3, 1) := by decide +kernel
theorem dX2_take_153 : decode cX2_take 153 = .ok (.iload 4, 2) := by decide +kernel
theorem dX2_take_155 : decode cX2_take 155 = .ok (.invokevirtual 66, 3) := by decide +kernel
theorem dX2_take_158 : decode cX2_take 158 = .ok (.iastore, 1) := by decide +kernel
theorem dX2_take_159 : decode cX2_take 159 = .ok (.iinc 4 1, 3) := by decide +kernel
theorem dX2_take_162 : decode cX2_take 162 = .ok (.goto (-23), 3) := by decide +kernel
theorem dX2_take_165 : decode cX2_take 165 = .ok (.aload_n 0, 1) := by decide +kernel
theorem dX2_take_166 : decode cX2_take 166 = .ok (.iconst 0, 1) := by decide +kernel
theorem dX2_take_167 : decode cX2_take 167 = .ok (.putfield 40, 3) := by decide +kernel
theorem dX2_take_170 : decode cX2_take 170 = .ok (.aload_n 0, 1) := by decide +kernel
theorem dX2_take_171 : decode cX2_take 171 = .ok (.iconst (-1), 1) := by decide +kernel
theorem dX2_take_172 : decode cX2_take 172 = .ok (.putfield 43, 3) := by decide +kernel
theorem dX2_take_175 : decode cX2_take 175 = .ok (.aload_n 0, 1) := by decide +kernel
theorem dX2_take_176 : decode cX2_take 176 = .ok (.iconst (-1), 1) := by decide +kernel
theorem dX2_take_177 : decode cX2_take 177 = .ok (.putfield 46, 3) := by decide +kernel
theorem dX2_take_180 : decode cX2_take 180 = .ok (.aload_n 0, 1) := by decide +kernel
theorem dX2_take_181 : decode cX2_take 181 = .ok (.iconst (-1), 1) := by decide +kernel
theorem dX2_take_182 : decode cX2_take 182 = .ok (.putfield 49, 3) := by decide +kernel
theorem dX2_take_185 : decode cX2_take 185 = .ok (.return_, 1) := by decide +kernel
theorem dX2_judgeIn_0 : decode cX2_judgeIn 0 = .ok (.aload_n 0, 1) := by decide +kernel
theorem dX2_judgeIn_1 : decode cX2_judgeIn 1 = .ok (.getfield 37, 3) := by decide +kernel
theorem dX2_judgeIn_4 : decode cX2_judgeIn 4 = .ok (.iload_n 1, 1) := by decide +kernel
theorem dX2_judgeIn_5 : decode cX2_judgeIn 5 = .ok (.iaload, 1) := by decide +kernel
theorem dX2_judgeIn_6 : decode cX2_judgeIn 6 = .ok (.aload_n 0, 1) := by decide +kernel
theorem dX2_judgeIn_7 : decode cX2_judgeIn 7 = .ok (.getfield 25, 3) := by decide +kernel
theorem dX2_judgeIn_10 : decode cX2_judgeIn 10 = .ok (.if_icmp .ge 12, 3) := by decide +kernel
theorem dX2_judgeIn_13 : decode cX2_judgeIn 13 = .ok (.aload_n 0, 1) := by decide +kernel
theorem dX2_judgeIn_14 : decode cX2_judgeIn 14 = .ok (.getfield 37, 3) := by decide +kernel
theorem dX2_judgeIn_17 : decode cX2_judgeIn 17 = .ok (.iload_n 1, 1) := by decide +kernel
theorem dX2_judgeIn_18 : decode cX2_judgeIn 18 = .ok (.iaload, 1) := by decide +kernel
theorem dX2_judgeIn_19 : decode cX2_judgeIn 19 = .ok (.goto 4, 3) := by decide +kernel
theorem dX2_judgeIn_22 : decode cX2_judgeIn 22 = .ok (.iconst (-1), 1) := by decide +kernel
theorem dX2_judgeIn_23 : decode cX2_judgeIn 23 = .ok (.ireturn, 1) := by decide +kernel
theorem dX3_init_0 : decode cX3_init 0 = .ok (.aload_n 0, 1) := by decide +kernel
theorem dX3_init_1 : decode cX3_init 1 = .ok (.iconst 4, 1) := by decide +kernel
theorem dX3_init_2 : decode cX3_init 2 = .ok (.iload_n 1, 1) := by decide +kernel
theorem dX3_init_3 : decode cX3_init 3 = .ok (.imul, 1) := by decide +kernel
theorem dX3_init_4 : decode cX3_init 4 = .ok (.iconst 1, 1) := by decide +kernel
theorem dX3_init_5 : decode cX3_init 5 = .ok (.isub, 1) := by decide +kernel
theorem dX3_init_6 : decode cX3_init 6 = .ok (.invokespecial 3, 3) := by decide +kernel
theorem dX3_init_9 : decode cX3_init 9 = .ok (.aload_n 0, 1) := by decide +kernel
theorem dX3_init_10 : decode cX3_init 10 = .ok (.iload_n 2, 1) := by decide +kernel
theorem dX3_init_11 : decode cX3_init 11 = .ok (.putfield 9, 3) := by decide +kernel
theorem dX3_init_14 : decode cX3_init 14 = .ok (.return_, 1) := by decide +kernel
theorem dX3_fits_0 : decode cX3_fits 0 = .ok (.iload_n 1, 1) := by decide +kernel
theorem dX3_fits_1 : decode cX3_fits 1 = .ok (.iconst 4, 1) := by decide +kernel
theorem dX3_fits_2 : decode cX3_fits 2 = .ok (.irem, 1) := by decide +kernel
theorem dX3_fits_3 : decode cX3_fits 3 = .ok (.tableswitch 57 0 2 #[25, 39, 50], 25) := by decide +kernel
theorem dX3_fits_28 : decode cX3_fits 28 = .ok (.iload_n 2, 1) := by decide +kernel
theorem dX3_fits_29 : decode cX3_fits 29 = .ok (.invokestatic 15, 3) := by decide +kernel
theorem dX3_fits_32 : decode cX3_fits 32 = .ok (.iconst (-1), 1) := by decide +kernel
theorem dX3_fits_33 : decode cX3_fits 33 = .ok (.if_icmp .eq 7, 3) := by decide +kernel
theorem dX3_fits_36 : decode cX3_fits 36 = .ok (.iconst 1, 1) := by decide +kernel
theorem dX3_fits_37 : decode cX3_fits 37 = .ok (.goto 4, 3) := by decide +kernel
theorem dX3_fits_40 : decode cX3_fits 40 = .ok (.iconst 0, 1) := by decide +kernel
theorem dX3_fits_41 : decode cX3_fits 41 = .ok (.ireturn, 1) := by decide +kernel
theorem dX3_fits_42 : decode cX3_fits 42 = .ok (.iload_n 2, 1) := by decide +kernel
theorem dX3_fits_43 : decode cX3_fits 43 = .ok (.aload_n 0, 1) := by decide +kernel
theorem dX3_fits_44 : decode cX3_fits 44 = .ok (.getfield 9, 3) := by decide +kernel
theorem dX3_fits_47 : decode cX3_fits 47 = .ok (.bipush 9, 2) := by decide +kernel
theorem dX3_fits_49 : decode cX3_fits 49 = .ok (.invokestatic 19, 3) := by decide +kernel
theorem dX3_fits_52 : decode cX3_fits 52 = .ok (.ireturn, 1) := by decide +kernel
theorem dX3_fits_53 : decode cX3_fits 53 = .ok (.iload_n 2, 1) := by decide +kernel
theorem dX3_fits_54 : decode cX3_fits 54 = .ok (.iconst 0, 1) := by decide +kernel
theorem dX3_fits_55 : decode cX3_fits 55 = .ok (.iconst 5, 1) := by decide +kernel
theorem dX3_fits_56 : decode cX3_fits 56 = .ok (.invokestatic 19, 3) := by decide +kernel
theorem dX3_fits_59 : decode cX3_fits 59 = .ok (.ireturn, 1) := by decide +kernel
theorem dX3_fits_60 : decode cX3_fits 60 = .ok (.iload_n 2, 1) := by decide +kernel
theorem dX3_fits_61 : decode cX3_fits 61 = .ok (.bipush 59, 2) := by decide +kernel
theorem dX3_fits_63 : decode cX3_fits 63 = .ok (.if_icmp .ne 7, 3) := by decide +kernel
theorem dX3_fits_66 : decode cX3_fits 66 = .ok (.iconst 1, 1) := by decide +kernel
theorem dX3_fits_67 : decode cX3_fits 67 = .ok (.goto 4, 3) := by decide +kernel
theorem dX3_fits_70 : decode cX3_fits 70 = .ok (.iconst 0, 1) := by decide +kernel
theorem dX3_fits_71 : decode cX3_fits 71 = .ok (.ireturn, 1) := by decide +kernel
theorem dX3_mayEndAt_0 : decode cX3_mayEndAt 0 = .ok (.iload_n 1, 1) := by decide +kernel
theorem dX3_mayEndAt_1 : decode cX3_mayEndAt 1 = .ok (.ifCond .eq 10, 3) := by decide +kernel
theorem dX3_mayEndAt_4 : decode cX3_mayEndAt 4 = .ok (.iload_n 1, 1) := by decide +kernel
theorem dX3_mayEndAt_5 : decode cX3_mayEndAt 5 = .ok (.iconst 4, 1) := by decide +kernel
theorem dX3_mayEndAt_6 : decode cX3_mayEndAt 6 = .ok (.irem, 1) := by decide +kernel
theorem dX3_mayEndAt_7 : decode cX3_mayEndAt 7 = .ok (.iconst 3, 1) := by decide +kernel
theorem dX3_mayEndAt_8 : decode cX3_mayEndAt 8 = .ok (.if_icmp .ne 7, 3) := by decide +kernel
theorem dX3_mayEndAt_11 : decode cX3_mayEndAt 11 = .ok (.iconst 1, 1) := by decide +kernel
theorem dX3_mayEndAt_12 : decode cX3_mayEndAt 12 = .ok (.goto 4, 3) := by decide +kernel
theorem dX3_mayEndAt_15 : decode cX3_mayEndAt 15 = .ok (.iconst 0, 1) := by decide +kernel
theorem dX3_mayEndAt_16 : decode cX3_mayEndAt 16 = .ok (.ireturn, 1) := by decide +kernel
theorem dX3_size_0 : decode cX3_size 0 = .ok (.aload_n 0, 1) := by decide +kernel
theorem dX3_size_1 : decode cX3_size 1 = .ok (.getfield 23, 3) := by decide +kernel
theorem dX3_size_4 : decode cX3_size 4 = .ok (.iconst (-1), 1) := by decide +kernel
theorem dX3_size_5 : decode cX3_size 5 = .ok (.if_icmp .ne 14, 3) := by decide +kernel
theorem dX3_size_8 : decode cX3_size 8 = .ok (.aload_n 0, 1) := by decide +kernel
theorem dX3_size_9 : decode cX3_size 9 = .ok (.getfield 26, 3) := by decide +kernel
theorem dX3_size_12 : decode cX3_size 12 = .ok (.iconst 1, 1) := by decide +kernel
theorem dX3_size_13 : decode cX3_size 13 = .ok (.iadd, 1) := by decide +kernel
theorem dX3_size_14 : decode cX3_size 14 = .ok (.iconst 4, 1) := by decide +kernel
theorem dX3_size_15 : decode cX3_size 15 = .ok (.idiv, 1) := by decide +kernel
theorem dX3_size_16 : decode cX3_size 16 = .ok (.goto 4, 3) := by decide +kernel
theorem dX3_size_19 : decode cX3_size 19 = .ok (.iconst 0, 1) := by decide +kernel
theorem dX3_size_20 : decode cX3_size 20 = .ok (.ireturn, 1) := by decide +kernel
theorem dX3_part_0 : decode cX3_part 0 = .ok (.aload_n 0, 1) := by decide +kernel
theorem dX3_part_1 : decode cX3_part 1 = .ok (.getfield 29, 3) := by decide +kernel
theorem dX3_part_4 : decode cX3_part 4 = .ok (.iconst 4, 1) := by decide +kernel
theorem dX3_part_5 : decode cX3_part 5 = .ok (.iload_n 1, 1) := by decide +kernel
theorem dX3_part_6 : decode cX3_part 6 = .ok (.imul, 1) := by decide +kernel
theorem dX3_part_7 : decode cX3_part 7 = .ok (.iload_n 2, 1) := by decide +kernel
theorem dX3_part_8 : decode cX3_part 8 = .ok (.iadd, 1) := by decide +kernel
theorem dX3_part_9 : decode cX3_part 9 = .ok (.iaload, 1) := by decide +kernel
theorem dX3_part_10 : decode cX3_part 10 = .ok (.istore_n 3, 1) := by decide +kernel
theorem dX3_part_11 : decode cX3_part 11 = .ok (.iload_n 2, 1) := by decide +kernel
theorem dX3_part_12 : decode cX3_part 12 = .ok (.ifCond .ne 10, 3) := by decide +kernel
theorem dX3_part_15 : decode cX3_part 15 = .ok (.iload_n 3, 1) := by decide +kernel
theorem dX3_part_16 : decode cX3_part 16 = .ok (.invokestatic 15, 3) := by decide +kernel
theorem dX3_part_19 : decode cX3_part 19 = .ok (.goto 7, 3) := by decide +kernel
theorem dX3_part_22 : decode cX3_part 22 = .ok (.iload_n 3, 1) := by decide +kernel
theorem dX3_part_23 : decode cX3_part 23 = .ok (.bipush 48, 2) := by decide +kernel
theorem dX3_part_25 : decode cX3_part 25 = .ok (.isub, 1) := by decide +kernel
theorem dX3_part_26 : decode cX3_part 26 = .ok (.ireturn, 1) := by decide +kernel
theorem dX3_sortOf_0 : decode cX3_sortOf 0 = .ok (.iload_n 0, 1) := by decide +kernel
theorem dX3_sortOf_1 : decode cX3_sortOf 1 = .ok (.lookupswitch 41 #[(99, 37), (115, 35), (119, 39)], 35) := by decide +kernel
theorem dX3_sortOf_36 : decode cX3_sortOf 36 = .ok (.iconst 0, 1) := by decide +kernel
theorem dX3_sortOf_37 : decode cX3_sortOf 37 = .ok (.ireturn, 1) := by decide +kernel
theorem dX3_sortOf_38 : decode cX3_sortOf 38 = .ok (.iconst 1, 1) := by decide +kernel
theorem dX3_sortOf_39 : decode cX3_sortOf 39 = .ok (.ireturn, 1) := by decide +kernel
theorem dX3_sortOf_40 : decode cX3_sortOf 40 = .ok (.iconst 2, 1) := by decide +kernel
theorem dX3_sortOf_41 : decode cX3_sortOf 41 = .ok (.ireturn, 1) := by decide +kernel
theorem dX3_sortOf_42 : decode cX3_sortOf 42 = .ok (.iconst (-1), 1) := by decide +kernel
theorem dX3_sortOf_43 : decode cX3_sortOf 43 = .ok (.ireturn, 1) := by decide +kernel
theorem dX4_init_0 : decode cX4_init 0 = .ok (.aload_n 0, 1) := by decide +kernel
theorem dX4_init_1 : decode cX4_init 1 = .ok (.invokespecial 3, 3) := by decide +kernel
theorem dX4_init_4 : decode cX4_init 4 = .ok (.aload_n 0, 1) := by decide +kernel
theorem dX4_init_5 : decode cX4_init 5 = .ok (.bipush 60, 2) := by decide +kernel
theorem dX4_init_7 : decode cX4_init 7 = .ok (.newarray .int, 2) := by decide +kernel
theorem dX4_init_9 : decode cX4_init 9 = .ok (.putfield 9, 3) := by decide +kernel
theorem dX4_init_12 : decode cX4_init 12 = .ok (.aload_n 0, 1) := by decide +kernel
theorem dX4_init_13 : decode cX4_init 13 = .ok (.iconst (-1), 1) := by decide +kernel
theorem dX4_init_14 : decode cX4_init 14 = .ok (.putfield 15, 3) := by decide +kernel
theorem dX4_init_17 : decode cX4_init 17 = .ok (.aload_n 0, 1) := by decide +kernel
theorem dX4_init_18 : decode cX4_init 18 = .ok (.iconst 0, 1) := by decide +kernel
theorem dX4_init_19 : decode cX4_init 19 = .ok (.putfield 19, 3) := by decide +kernel
theorem dX4_init_22 : decode cX4_init 22 = .ok (.return_, 1) := by decide +kernel
theorem dX4_isLost_0 : decode cX4_isLost 0 = .ok (.aload_n 0, 1) := by decide +kernel
theorem dX4_isLost_1 : decode cX4_isLost 1 = .ok (.getfield 15, 3) := by decide +kernel
theorem dX4_isLost_4 : decode cX4_isLost 4 = .ok (.iconst (-1), 1) := by decide +kernel
theorem dX4_isLost_5 : decode cX4_isLost 5 = .ok (.if_icmp .ne 7, 3) := by decide +kernel
theorem dX4_isLost_8 : decode cX4_isLost 8 = .ok (.iconst 1, 1) := by decide +kernel
theorem dX4_isLost_9 : decode cX4_isLost 9 = .ok (.goto 4, 3) := by decide +kernel
theorem dX4_isLost_12 : decode cX4_isLost 12 = .ok (.iconst 0, 1) := by decide +kernel
theorem dX4_isLost_13 : decode cX4_isLost 13 = .ok (.ireturn, 1) := by decide +kernel
theorem dX4_renew_0 : decode cX4_renew 0 = .ok (.aload_n 0, 1) := by decide +kernel
theorem dX4_renew_1 : decode cX4_renew 1 = .ok (.iload_n 1, 1) := by decide +kernel
theorem dX4_renew_2 : decode cX4_renew 2 = .ok (.putfield 15, 3) := by decide +kernel
theorem dX4_renew_5 : decode cX4_renew 5 = .ok (.aload_n 0, 1) := by decide +kernel
theorem dX4_renew_6 : decode cX4_renew 6 = .ok (.iload_n 2, 1) := by decide +kernel
theorem dX4_renew_7 : decode cX4_renew 7 = .ok (.putfield 19, 3) := by decide +kernel
theorem dX4_renew_10 : decode cX4_renew 10 = .ok (.iconst 0, 1) := by decide +kernel
theorem dX4_renew_11 : decode cX4_renew 11 = .ok (.istore_n 3, 1) := by decide +kernel
theorem dX4_renew_12 : decode cX4_renew 12 = .ok (.iload_n 3, 1) := by decide +kernel
theorem dX4_renew_13 : decode cX4_renew 13 = .ok (.bipush 60, 2) := by decide +kernel
theorem dX4_renew_15 : decode cX4_renew 15 = .ok (.if_icmp .ge 16, 3) := by decide +kernel
theorem dX4_renew_18 : decode cX4_renew 18 = .ok (.aload_n 0, 1) := by decide +kernel
theorem dX4_renew_19 : decode cX4_renew 19 = .ok (.getfield 9, 3) := by decide +kernel
theorem dX4_renew_22 : decode cX4_renew 22 = .ok (.iload_n 3, 1) := by decide +kernel
theorem dX4_renew_23 : decode cX4_renew 23 = .ok (.iconst 0, 1) := by decide +kernel
theorem dX4_renew_24 : decode cX4_renew 24 = .ok (.iastore, 1) := by decide +kernel
theorem dX4_renew_25 : decode cX4_renew 25 = .ok (.iinc 3 1, 3) := by decide +kernel
theorem dX4_renew_28 : decode cX4_renew 28 = .ok (.goto (-16), 3) := by decide +kernel
theorem dX4_renew_31 : decode cX4_renew 31 = .ok (.return_, 1) := by decide +kernel
theorem dX4_findingAt_0 : decode cX4_findingAt 0 = .ok (.aload_n 0, 1) := by decide +kernel
theorem dX4_findingAt_1 : decode cX4_findingAt 1 = .ok (.invokevirtual 22, 3) := by decide +kernel
theorem dX4_findingAt_4 : decode cX4_findingAt 4 = .ok (.ifCond .eq 5, 3) := by decide +kernel
theorem dX4_findingAt_7 : decode cX4_findingAt 7 = .ok (.iconst 1, 1) := by decide +kernel
theorem dX4_findingAt_8 : decode cX4_findingAt 8 = .ok (.ireturn, 1) := by decide +kernel
theorem dX4_findingAt_9 : decode cX4_findingAt 9 = .ok (.aload_n 0, 1) := by decide +kernel
theorem dX4_findingAt_10 : decode cX4_findingAt 10 = .ok (.getfield 15, 3) := by decide +kernel
theorem dX4_findingAt_13 : decode cX4_findingAt 13 = .ok (.iload_n 1, 1) := by decide +kernel
theorem dX4_findingAt_14 : decode cX4_findingAt 14 = .ok (.if_icmp .eq 5, 3) := by decide +kernel
theorem dX4_findingAt_17 : decode cX4_findingAt 17 = .ok (.iconst 3, 1) := by decide +kernel
theorem dX4_findingAt_18 : decode cX4_findingAt 18 = .ok (.ireturn, 1) := by decide +kernel
theorem dX4_findingAt_19 : decode cX4_findingAt 19 = .ok (.iload_n 2, 1) := by decide +kernel
theorem dX4_findingAt_20 : decode cX4_findingAt 20 = .ok (.aload_n 0, 1) := by decide +kernel
theorem dX4_findingAt_21 : decode cX4_findingAt 21 = .ok (.getfield 19, 3) := by decide +kernel
theorem dX4_findingAt_24 : decode cX4_findingAt 24 = .ok (.invokestatic 26, 3) := by decide +kernel
theorem dX4_findingAt_27 : decode cX4_findingAt 27 = .ok (.ifCond .eq 7, 3) := by decide +kernel
theorem dX4_findingAt_30 : decode cX4_findingAt 30 = .ok (.iconst 0, 1) := by decide +kernel
theorem dX4_findingAt_31 : decode cX4_findingAt 31 = .ok (.goto 4, 3) := by decide +kernel
theorem dX4_findingAt_34 : decode cX4_findingAt 34 = .ok (.iconst 2, 1) := by decide +kernel
theorem dX4_findingAt_35 : decode cX4_findingAt 35 = .ok (.ireturn, 1) := by decide +kernel
theorem dX4_hasSpan_0 : decode cX4_hasSpan 0 = .ok (.iload_n 1, 1) := by decide +kernel
theorem dX4_hasSpan_1 : decode cX4_hasSpan 1 = .ok (.ifCond .lt 29, 3) := by decide +kernel
theorem dX4_hasSpan_4 : decode cX4_hasSpan 4 = .ok (.iload_n 2, 1) := by decide +kernel
theorem dX4_hasSpan_5 : decode cX4_hasSpan 5 = .ok (.ifCond .lt 25, 3) := by decide +kernel
theorem dX4_hasSpan_8 : decode cX4_hasSpan 8 = .ok (.iload_n 1, 1) := by decide +kernel
theorem dX4_hasSpan_9 : decode cX4_hasSpan 9 = .ok (.aload_n 0, 1) := by decide +kernel
theorem dX4_hasSpan_10 : decode cX4_hasSpan 10 = .ok (.getfield 19, 3) := by decide +kernel
theorem dX4_hasSpan_13 : decode cX4_hasSpan 13 = .ok (.if_icmp .gt 17, 3) := by decide +kernel
theorem dX4_hasSpan_16 : decode cX4_hasSpan 16 = .ok (.iload_n 2, 1) := by decide +kernel
theorem dX4_hasSpan_17 : decode cX4_hasSpan 17 = .ok (.aload_n 0, 1) := by decide +kernel
theorem dX4_hasSpan_18 : decode cX4_hasSpan 18 = .ok (.getfield 19, 3) := by decide +kernel
theorem dX4_hasSpan_21 : decode cX4_hasSpan 21 = .ok (.iload_n 1, 1) := by decide +kernel
theorem dX4_hasSpan_22 : decode cX4_hasSpan 22 = .ok (.isub, 1) := by decide +kernel
theorem dX4_hasSpan_23 : decode cX4_hasSpan 23 = .ok (.if_icmp .gt 7, 3) := by decide +kernel
theorem dX4_hasSpan_26 : decode cX4_hasSpan 26 = .ok (.iconst 1, 1) := by decide +kernel
theorem dX4_hasSpan_27 : decode cX4_hasSpan 27 = .ok (.goto 4, 3) := by decide +kernel
theorem dX4_hasSpan_30 : decode cX4_hasSpan 30 = .ok (.iconst 0, 1) := by decide +kernel
theorem dX4_hasSpan_31 : decode cX4_hasSpan 31 = .ok (.ireturn, 1) := by decide +kernel
theorem dX4_put_0 : decode cX4_put 0 = .ok (.aload_n 0, 1) := by decide +kernel
theorem dX4_put_1 : decode cX4_put 1 = .ok (.getfield 15, 3) := by decide +kernel
theorem dX4_put_4 : decode cX4_put 4 = .ok (.ifCond .ne 14, 3) := by decide +kernel
theorem dX4_put_7 : decode cX4_put 7 = .ok (.aload_n 0, 1) := by decide +kernel
theorem dX4_put_8 : decode cX4_put 8 = .ok (.getfield 9, 3) := by decide +kernel
theorem dX4_put_11 : decode cX4_put 11 = .ok (.iload_n 1, 1) := by decide +kernel
theorem dX4_put_12 : decode cX4_put 12 = .ok (.iload_n 2, 1) := by decide +kernel
theorem dX4_put_13 : decode cX4_put 13 = .ok (.i2b, 1) := by decide +kernel
theorem dX4_put_14 : decode cX4_put 14 = .ok (.iastore, 1) := by decide +kernel
theorem dX4_put_15 : decode cX4_put 15 = .ok (.goto 29, 3) := by decide +kernel
theorem dX4_put_18 : decode cX4_put 18 = .ok (.aload_n 0, 1) := by decide +kernel
theorem dX4_put_19 : decode cX4_put 19 = .ok (.getfield 15, 3) := by decide +kernel
theorem dX4_put_22 : decode cX4_put 22 = .ok (.iconst 1, 1) := by decide +kernel
theorem dX4_put_23 : decode cX4_put 23 = .ok (.if_icmp .ne 14, 3) := by decide +kernel
theorem dX4_put_26 : decode cX4_put 26 = .ok (.aload_n 0, 1) := by decide +kernel
theorem dX4_put_27 : decode cX4_put 27 = .ok (.getfield 9, 3) := by decide +kernel
theorem dX4_put_30 : decode cX4_put 30 = .ok (.iload_n 1, 1) := by decide +kernel
theorem dX4_put_31 : decode cX4_put 31 = .ok (.iload_n 2, 1) := by decide +kernel
theorem dX4_put_32 : decode cX4_put 32 = .ok (.i2s, 1) := by decide +kernel
theorem dX4_put_33 : decode cX4_put 33 = .ok (.iastore, 1) := by decide +kernel
theorem dX4_put_34 : decode cX4_put 34 = .ok (.goto 10, 3) := by decide +kernel
theorem dX4_put_37 : decode cX4_put 37 = .ok (.aload_n 0, 1) := by decide +kernel
theorem dX4_put_38 : decode cX4_put 38 = .ok (.getfield 9, 3) := by decide +kernel
theorem dX4_put_41 : decode cX4_put 41 = .ok (.iload_n 1, 1) := by decide +kernel
theorem dX4_put_42 : decode cX4_put 42 = .ok (.iload_n 2, 1) := by decide +kernel
theorem dX4_put_43 : decode cX4_put 43 = .ok (.iastore, 1) := by decide +kernel
theorem dX4_put_44 : decode cX4_put 44 = .ok (.return_, 1) := by decide +kernel
theorem dX5_init_0 : decode cX5_init 0 = .ok (.aload_n 0, 1) := by decide +kernel
theorem dX5_init_1 : decode cX5_init 1 = .ok (.invokespecial 3, 3) := by decide +kernel
theorem dX5_init_4 : decode cX5_init 4 = .ok (.aload_n 0, 1) := by decide +kernel
theorem dX5_init_5 : decode cX5_init 5 = .ok (.iconst 0, 1) := by decide +kernel
theorem dX5_init_6 : decode cX5_init 6 = .ok (.putfield 9, 3) := by decide +kernel
theorem dX5_init_9 : decode cX5_init 9 = .ok (.aload_n 0, 1) := by decide +kernel
theorem dX5_init_10 : decode cX5_init 10 = .ok (.iconst (-1), 1) := by decide +kernel
theorem dX5_init_11 : decode cX5_init 11 = .ok (.putfield 15, 3) := by decide +kernel
theorem dX5_init_14 : decode cX5_init 14 = .ok (.aload_n 0, 1) := by decide +kernel
theorem dX5_init_15 : decode cX5_init 15 = .ok (.iload_n 1, 1) := by decide +kernel
theorem dX5_init_16 : decode cX5_init 16 = .ok (.newarray .int, 2) := by decide +kernel
theorem dX5_init_18 : decode cX5_init 18 = .ok (.putfield 18, 3) := by decide +kernel
theorem dX5_init_21 : decode cX5_init 21 = .ok (.return_, 1) := by decide +kernel
theorem dX5_append_0 : decode cX5_append 0 = .ok (.aload_n 0, 1) := by decide +kernel
theorem dX5_append_1 : decode cX5_append 1 = .ok (.getfield 9, 3) := by decide +kernel
theorem dX5_append_4 : decode cX5_append 4 = .ok (.aload_n 0, 1) := by decide +kernel
theorem dX5_append_5 : decode cX5_append 5 = .ok (.getfield 18, 3) := by decide +kernel
theorem dX5_append_8 : decode cX5_append 8 = .ok (.arraylength, 1) := by decide +kernel
theorem dX5_append_9 : decode cX5_append 9 = .ok (.if_icmp .lt 5, 3) := by decide +kernel
theorem dX5_append_12 : decode cX5_append 12 = .ok (.iconst 0, 1) := by decide +kernel
theorem dX5_append_13 : decode cX5_append 13 = .ok (.ireturn, 1) := by decide +kernel
theorem dX5_append_14 : decode cX5_append 14 = .ok (.aload_n 0, 1) := by decide +kernel
theorem dX5_append_15 : decode cX5_append 15 = .ok (.getfield 18, 3) := by decide +kernel
theorem dX5_append_18 : decode cX5_append 18 = .ok (.aload_n 0, 1) := by decide +kernel
theorem dX5_append_19 : decode cX5_append 19 = .ok (.getfield 9, 3) := by decide +kernel
theorem dX5_append_22 : decode cX5_append 22 = .ok (.iload_n 1, 1) := by decide +kernel
theorem dX5_append_23 : decode cX5_append 23 = .ok (.iastore, 1) := by decide +kernel
theorem dX5_append_24 : decode cX5_append 24 = .ok (.aload_n 0, 1) := by decide +kernel
theorem dX5_append_25 : decode cX5_append 25 = .ok (.dup, 1) := by decide +kernel
theorem dX5_append_26 : decode cX5_append 26 = .ok (.getfield 9, 3) := by decide +kernel
theorem dX5_append_29 : decode cX5_append 29 = .ok (.iconst 1, 1) := by decide +kernel
theorem dX5_append_30 : decode cX5_append 30 = .ok (.iadd, 1) := by decide +kernel
theorem dX5_append_31 : decode cX5_append 31 = .ok (.putfield 9, 3) := by decide +kernel
theorem dX5_append_34 : decode cX5_append 34 = .ok (.aload_n 0, 1) := by decide +kernel
theorem dX5_append_35 : decode cX5_append 35 = .ok (.aload_n 0, 1) := by decide +kernel
theorem dX5_append_36 : decode cX5_append 36 = .ok (.invokevirtual 22, 3) := by decide +kernel
theorem dX5_append_39 : decode cX5_append 39 = .ok (.putfield 15, 3) := by decide +kernel
theorem dX5_append_42 : decode cX5_append 42 = .ok (.iconst 1, 1) := by decide +kernel
theorem dX5_append_43 : decode cX5_append 43 = .ok (.ireturn, 1) := by decide +kernel
theorem dX5_shorten_0 : decode cX5_shorten 0 = .ok (.aload_n 0, 1) := by decide +kernel
theorem dX5_shorten_1 : decode cX5_shorten 1 = .ok (.iload_n 1, 1) := by decide +kernel
theorem dX5_shorten_2 : decode cX5_shorten 2 = .ok (.putfield 9, 3) := by decide +kernel
theorem dX5_shorten_5 : decode cX5_shorten 5 = .ok (.aload_n 0, 1) := by decide +kernel
theorem dX5_shorten_6 : decode cX5_shorten 6 = .ok (.aload_n 0, 1) := by decide +kernel
theorem dX5_shorten_7 : decode cX5_shorten 7 = .ok (.invokevirtual 22, 3) := by decide +kernel
theorem dX5_shorten_10 : decode cX5_shorten 10 = .ok (.putfield 15, 3) := by decide +kernel
theorem dX5_shorten_13 : decode cX5_shorten 13 = .ok (.return_, 1) := by decide +kernel
theorem dX5_firstFault_0 : decode cX5_firstFault 0 = .ok (.iconst 0, 1) := by decide +kernel
theorem dX5_firstFault_1 : decode cX5_firstFault 1 = .ok (.istore_n 1, 1) := by decide +kernel
theorem dX5_firstFault_2 : decode cX5_firstFault 2 = .ok (.iload_n 1, 1) := by decide +kernel
theorem dX5_firstFault_3 : decode cX5_firstFault 3 = .ok (.aload_n 0, 1) := by decide +kernel
theorem dX5_firstFault_4 : decode cX5_firstFault 4 = .ok (.getfield 9, 3) := by decide +kernel
theorem dX5_firstFault_7 : decode cX5_firstFault 7 = .ok (.if_icmp .ge 25, 3) := by decide +kernel
theorem dX5_firstFault_10 : decode cX5_firstFault 10 = .ok (.aload_n 0, 1) := by decide +kernel
theorem dX5_firstFault_11 : decode cX5_firstFault 11 = .ok (.iload_n 1, 1) := by decide +kernel
theorem dX5_firstFault_12 : decode cX5_firstFault 12 = .ok (.aload_n 0, 1) := by decide +kernel
theorem dX5_firstFault_13 : decode cX5_firstFault 13 = .ok (.getfield 18, 3) := by decide +kernel
theorem dX5_firstFault_16 : decode cX5_firstFault 16 = .ok (.iload_n 1, 1) := by decide +kernel
theorem dX5_firstFault_17 : decode cX5_firstFault 17 = .ok (.iaload, 1) := by decide +kernel
theorem dX5_firstFault_18 : decode cX5_firstFault 18 = .ok (.invokevirtual 26, 3) := by decide +kernel
theorem dX5_firstFault_21 : decode cX5_firstFault 21 = .ok (.ifCond .ne 5, 3) := by decide +kernel
theorem dX5_firstFault_24 : decode cX5_firstFault 24 = .ok (.iload_n 1, 1) := by decide +kernel
theorem dX5_firstFault_25 : decode cX5_firstFault 25 = .ok (.ireturn, 1) := by decide +kernel
theorem dX5_firstFault_26 : decode cX5_firstFault 26 = .ok (.iinc 1 1, 3) := by decide +kernel
theorem dX5_firstFault_29 : decode cX5_firstFault 29 = .ok (.goto (-27), 3) := by decide +kernel
theorem dX5_firstFault_32 : decode cX5_firstFault 32 = .ok (.aload_n 0, 1) := by decide +kernel
theorem dX5_firstFault_33 : decode cX5_firstFault 33 = .ok (.aload_n 0, 1) := by decide +kernel
theorem dX5_firstFault_34 : decode cX5_firstFault 34 = .ok (.getfield 9, 3) := by decide +kernel
theorem dX5_firstFault_37 : decode cX5_firstFault 37 = .ok (.invokevirtual 30, 3) := by decide +kernel
theorem dX5_firstFault_40 : decode cX5_firstFault 40 = .ok (.ifCond .eq 7, 3) := by decide +kernel
theorem dX5_firstFault_43 : decode cX5_firstFault 43 = .ok (.iconst (-1), 1) := by decide +kernel
theorem dX5_firstFault_44 : decode cX5_firstFault 44 = .ok (.goto 7, 3) := by decide +kernel
theorem dX5_firstFault_47 : decode cX5_firstFault 47 = .ok (.aload_n 0, 1) := by decide +kernel
theorem dX5_firstFault_48 : decode cX5_firstFault 48 = .ok (.getfield 9, 3) := by decide +kernel
theorem dX5_firstFault_51 : decode cX5_firstFault 51 = .ok (.ireturn, 1) := by decide +kernel
theorem dX5_isFigure_0 : decode cX5_isFigure 0 = .ok (.iload_n 0, 1) := by decide +kernel
theorem dX5_isFigure_1 : decode cX5_isFigure 1 = .ok (.bipush 48, 2) := by decide +kernel
theorem dX5_isFigure_3 : decode cX5_isFigure 3 = .ok (.iload_n 1, 1) := by decide +kernel
theorem dX5_isFigure_4 : decode cX5_isFigure 4 = .ok (.iadd, 1) := by decide +kernel
theorem dX5_isFigure_5 : decode cX5_isFigure 5 = .ok (.if_icmp .lt 15, 3) := by decide +kernel
theorem dX5_isFigure_8 : decode cX5_isFigure 8 = .ok (.iload_n 0, 1) := by decide +kernel
theorem dX5_isFigure_9 : decode cX5_isFigure 9 = .ok (.bipush 48, 2) := by decide +kernel
theorem dX5_isFigure_11 : decode cX5_isFigure 11 = .ok (.iload_n 2, 1) := by decide +kernel
theorem dX5_isFigure_12 : decode cX5_isFigure 12 = .ok (.iadd, 1) := by decide +kernel
theorem dX5_isFigure_13 : decode cX5_isFigure 13 = .ok (.if_icmp .gt 7, 3) := by decide +kernel
theorem dX5_isFigure_16 : decode cX5_isFigure 16 = .ok (.iconst 1, 1) := by decide +kernel
theorem dX5_isFigure_17 : decode cX5_isFigure 17 = .ok (.goto 4, 3) := by decide +kernel
theorem dX5_isFigure_20 : decode cX5_isFigure 20 = .ok (.iconst 0, 1) := by decide +kernel
theorem dX5_isFigure_21 : decode cX5_isFigure 21 = .ok (.ireturn, 1) := by decide +kernel
theorem dX6_init_0 : decode cX6_init 0 = .ok (.aload_n 0, 1) := by decide +kernel
theorem dX6_init_1 : decode cX6_init 1 = .ok (.bipush 12, 2) := by decide +kernel
theorem dX6_init_3 : decode cX6_init 3 = .ok (.invokespecial 3, 3) := by decide +kernel
theorem dX6_init_6 : decode cX6_init 6 = .ok (.return_, 1) := by decide +kernel
theorem dX6_fits_0 : decode cX6_fits 0 = .ok (.iload_n 2, 1) := by decide +kernel
theorem dX6_fits_1 : decode cX6_fits 1 = .ok (.iconst 0, 1) := by decide +kernel
theorem dX6_fits_2 : decode cX6_fits 2 = .ok (.iconst 3, 1) := by decide +kernel
theorem dX6_fits_3 : decode cX6_fits 3 = .ok (.invokestatic 9, 3) := by decide +kernel
theorem dX6_fits_6 : decode cX6_fits 6 = .ok (.ireturn, 1) := by decide +kernel
theorem dX6_mayEndAt_0 : decode cX6_mayEndAt 0 = .ok (.iconst 1, 1) := by decide +kernel
theorem dX6_mayEndAt_1 : decode cX6_mayEndAt 1 = .ok (.ireturn, 1) := by decide +kernel
theorem dX6_size_0 : decode cX6_size 0 = .ok (.aload_n 0, 1) := by decide +kernel
theorem dX6_size_1 : decode cX6_size 1 = .ok (.getfield 15, 3) := by decide +kernel
theorem dX6_size_4 : decode cX6_size 4 = .ok (.iconst (-1), 1) := by decide +kernel
theorem dX6_size_5 : decode cX6_size 5 = .ok (.if_icmp .ne 10, 3) := by decide +kernel
theorem dX6_size_8 : decode cX6_size 8 = .ok (.aload_n 0, 1) := by decide +kernel
theorem dX6_size_9 : decode cX6_size 9 = .ok (.getfield 19, 3) := by decide +kernel
theorem dX6_size_12 : decode cX6_size 12 = .ok (.goto 4, 3) := by decide +kernel
theorem dX6_size_15 : decode cX6_size 15 = .ok (.iconst 0, 1) := by decide +kernel
theorem dX6_size_16 : decode cX6_size 16 = .ok (.ireturn, 1) := by decide +kernel
theorem dX6_judgeAt_0 : decode cX6_judgeAt 0 = .ok (.iload_n 1, 1) := by decide +kernel
theorem dX6_judgeAt_1 : decode cX6_judgeAt 1 = .ok (.aload_n 0, 1) := by decide +kernel
theorem dX6_judgeAt_2 : decode cX6_judgeAt 2 = .ok (.invokevirtual 22, 3) := by decide +kernel
theorem dX6_judgeAt_5 : decode cX6_judgeAt 5 = .ok (.if_icmp .ge 15, 3) := by decide +kernel
theorem dX6_judgeAt_8 : decode cX6_judgeAt 8 = .ok (.aload_n 0, 1) := by decide +kernel
theorem dX6_judgeAt_9 : decode cX6_judgeAt 9 = .ok (.getfield 26, 3) := by decide +kernel
theorem dX6_judgeAt_12 : decode cX6_judgeAt 12 = .ok (.iload_n 1, 1) := by decide +kernel
theorem dX6_judgeAt_13 : decode cX6_judgeAt 13 = .ok (.iaload, 1) := by decide +kernel
theorem dX6_judgeAt_14 : decode cX6_judgeAt 14 = .ok (.bipush 48, 2) := by decide +kernel
theorem dX6_judgeAt_16 : decode cX6_judgeAt 16 = .ok (.isub, 1) := by decide +kernel
theorem dX6_judgeAt_17 : decode cX6_judgeAt 17 = .ok (.goto 4, 3) := by decide +kernel
theorem dX6_judgeAt_20 : decode cX6_judgeAt 20 = .ok (.iconst 0, 1) := by decide +kernel
theorem dX6_judgeAt_21 : decode cX6_judgeAt 21 = .ok (.ireturn, 1) := by decide +kernel
theorem dX7_init_0 : decode cX7_init 0 = .ok (.aload_n 0, 1) := by decide +kernel
theorem dX7_init_1 : decode cX7_init 1 = .ok (.invokespecial 3, 3) := by decide +kernel
theorem dX7_init_4 : decode cX7_init 4 = .ok (.aload_n 0, 1) := by decide +kernel
theorem dX7_init_5 : decode cX7_init 5 = .ok (.bipush 10, 2) := by decide +kernel
theorem dX7_init_7 : decode cX7_init 7 = .ok (.newarray .int, 2) := by decide +kernel
theorem dX7_init_9 : decode cX7_init 9 = .ok (.putfield 9, 3) := by decide +kernel
theorem dX7_init_12 : decode cX7_init 12 = .ok (.aload_n 0, 1) := by decide +kernel
theorem dX7_init_13 : decode cX7_init 13 = .ok (.bipush 10, 2) := by decide +kernel
theorem dX7_init_15 : decode cX7_init 15 = .ok (.newarray .int, 2) := by decide +kernel
theorem dX7_init_17 : decode cX7_init 17 = .ok (.putfield 15, 3) := by decide +kernel
theorem dX7_init_20 : decode cX7_init 20 = .ok (.aload_n 0, 1) := by decide +kernel
theorem dX7_init_21 : decode cX7_init 21 = .ok (.bipush 10, 2) := by decide +kernel
theorem dX7_init_23 : decode cX7_init 23 = .ok (.newarray .int, 2) := by decide +kernel
theorem dX7_init_25 : decode cX7_init 25 = .ok (.putfield 18, 3) := by decide +kernel
theorem dX7_init_28 : decode cX7_init 28 = .ok (.aload_n 0, 1) := by decide +kernel
theorem dX7_init_29 : decode cX7_init 29 = .ok (.bipush 10, 2) := by decide +kernel
theorem dX7_init_31 : decode cX7_init 31 = .ok (.newarray .int, 2) := by decide +kernel
theorem dX7_init_33 : decode cX7_init 33 = .ok (.putfield 21, 3) := by decide +kernel
theorem dX7_init_36 : decode cX7_init 36 = .ok (.aload_n 0, 1) := by decide +kernel
theorem dX7_init_37 : decode cX7_init 37 = .ok (.bipush 36, 2) := by decide +kernel
theorem dX7_init_39 : decode cX7_init 39 = .ok (.newarray .int, 2) := by decide +kernel
theorem dX7_init_41 : decode cX7_init 41 = .ok (.putfield 24, 3) := by decide +kernel
theorem dX7_init_44 : decode cX7_init 44 = .ok (.aload_n 0, 1) := by decide +kernel
theorem dX7_init_45 : decode cX7_init 45 = .ok (.iconst 0, 1) := by decide +kernel
theorem dX7_init_46 : decode cX7_init 46 = .ok (.putfield 27, 3) := by decide +kernel
theorem dX7_init_49 : decode cX7_init 49 = .ok (.aload_n 0, 1) := by decide +kernel
theorem dX7_init_50 : decode cX7_init 50 = .ok (.iconst 0, 1) := by decide +kernel
theorem dX7_init_51 : decode cX7_init 51 = .ok (.putfield 31, 3) := by decide +kernel
theorem dX7_init_54 : decode cX7_init 54 = .ok (.aload_n 0, 1) := by decide +kernel
theorem dX7_init_55 : decode cX7_init 55 = .ok (.iconst 0, 1) := by decide +kernel
theorem dX7_init_56 : decode cX7_init 56 = .ok (.putfield 34, 3) := by decide +kernel
theorem dX7_init_59 : decode cX7_init 59 = .ok (.aload_n 0, 1) := by decide +kernel
theorem dX7_init_60 : decode cX7_init 60 = .ok (.iconst 0, 1) := by decide +kernel
theorem dX7_init_61 : decode cX7_init 61 = .ok (.putfield 37, 3) := by decide +kernel
theorem dX7_init_64 : decode cX7_init 64 = .ok (.return_, 1) := by decide +kernel
theorem dX7_run_0 : decode cX7_run 0 = .ok (.aload_n 0, 1) := by decide +kernel
theorem dX7_run_1 : decode cX7_run 1 = .ok (.aload_n 1, 1) := by decide +kernel
theorem dX7_run_2 : decode cX7_run 2 = .ok (.invokevirtual 41, 3) := by decide +kernel
theorem dX7_run_5 : decode cX7_run 5 = .ok (.iconst 0, 1) := by decide +kernel
theorem dX7_run_6 : decode cX7_run 6 = .ok (.istore_n 3, 1) := by decide +kernel
theorem dX7_run_7 : decode cX7_run 7 = .ok (.iload_n 3, 1) := by decide +kernel
theorem dX7_run_8 : decode cX7_run 8 = .ok (.iload_n 2, 1) := by decide +kernel
theorem dX7_run_9 : decode cX7_run 9 = .ok (.if_icmp .ge 31, 3) := by decide +kernel
theorem dX7_run_12 : decode cX7_run 12 = .ok (.aload_n 0, 1) := by decide +kernel
theorem dX7_run_13 : decode cX7_run 13 = .ok (.aload_n 1, 1) := by decide +kernel
theorem dX7_run_14 : decode cX7_run 14 = .ok (.iload_n 3, 1) := by decide +kernel
theorem dX7_run_15 : decode cX7_run 15 = .ok (.invokevirtual 45, 3) := by decide +kernel
theorem dX7_run_18 : decode cX7_run 18 = .ok (.aload_n 0, 1) := by decide +kernel
theorem dX7_run_19 : decode cX7_run 19 = .ok (.aload_n 1, 1) := by decide +kernel
theorem dX7_run_20 : decode cX7_run 20 = .ok (.aload_n 1, 1) := by decide +kernel
theorem dX7_run_21 : decode cX7_run 21 = .ok (.iload_n 3, 1) := by decide +kernel
theorem dX7_run_22 : decode cX7_run 22 = .ok (.invokevirtual 49, 3) := by decide +kernel
theorem dX7_run_25 : decode cX7_run 25 = .ok (.invokevirtual 55, 3) := by decide +kernel
theorem dX7_run_28 : decode cX7_run 28 = .ok (.aload_n 0, 1) := by decide +kernel
theorem dX7_run_29 : decode cX7_run 29 = .ok (.aload_n 1, 1) := by decide +kernel
theorem dX7_run_30 : decode cX7_run 30 = .ok (.iload_n 3, 1) := by decide +kernel
theorem dX7_run_31 : decode cX7_run 31 = .ok (.invokevirtual 58, 3) := by decide +kernel
theorem dX7_run_34 : decode cX7_run 34 = .ok (.iinc 3 1, 3) := by decide +kernel
theorem dX7_run_37 : decode cX7_run 37 = .ok (.goto (-30), 3) := by decide +kernel
theorem dX7_run_40 : decode cX7_run 40 = .ok (.return_, 1) := by decide +kernel
theorem dX7_begin_0 : decode cX7_begin 0 = .ok (.aload_n 0, 1) := by decide +kernel
theorem dX7_begin_1 : decode cX7_begin 1 = .ok (.iconst 0, 1) := by decide +kernel
theorem dX7_begin_2 : decode cX7_begin 2 = .ok (.putfield 27, 3) := by decide +kernel
theorem dX7_begin_5 : decode cX7_begin 5 = .ok (.iconst 0, 1) := by decide +kernel
theorem dX7_begin_6 : decode cX7_begin 6 = .ok (.istore_n 2, 1) := by decide +kernel
theorem dX7_begin_7 : decode cX7_begin 7 = .ok (.iload_n 2, 1) := by decide +kernel
theorem dX7_begin_8 : decode cX7_begin 8 = .ok (.bipush 10, 2) := by decide +kernel
theorem dX7_begin_10 : decode cX7_begin 10 = .ok (.if_icmp .ge 35, 3) := by decide +kernel
theorem dX7_begin_13 : decode cX7_begin 13 = .ok (.aload_n 0, 1) := by decide +kernel
theorem dX7_begin_14 : decode cX7_begin 14 = .ok (.getfield 9, 3) := by decide +kernel
theorem dX7_begin_17 : decode cX7_begin 17 = .ok (.iload_n 2, 1) := by decide +kernel
theorem dX7_begin_18 : decode cX7_begin 18 = .ok (.aload_n 1, 1) := by decide +kernel
theorem dX7_begin_19 : decode cX7_begin 19 = .ok (.getfield 61, 3) := by decide +kernel
theorem dX7_begin_22 : decode cX7_begin 22 = .ok (.iload_n 2, 1) := by decide +kernel
theorem dX7_begin_23 : decode cX7_begin 23 = .ok (.iaload, 1) := by decide +kernel
theorem dX7_begin_24 : decode cX7_begin 24 = .ok (.iastore, 1) := by decide +kernel
theorem dX7_begin_25 : decode cX7_begin 25 = .ok (.aload_n 0, 1) := by decide +kernel
theorem dX7_begin_26 : decode cX7_begin 26 = .ok (.getfield 15, 3) := by decide +kernel
theorem dX7_begin_29 : decode cX7_begin 29 = .ok (.iload_n 2, 1) := by decide +kernel
theorem dX7_begin_30 : decode cX7_begin 30 = .ok (.iconst 0, 1) := by decide +kernel
theorem dX7_begin_31 : decode cX7_begin 31 = .ok (.iastore, 1) := by decide +kernel
theorem dX7_begin_32 : decode cX7_begin 32 = .ok (.aload_n 0, 1) := by decide +kernel
theorem dX7_begin_33 : decode cX7_begin 33 = .ok (.getfield 18, 3) := by decide +kernel
theorem dX7_begin_36 : decode cX7_begin 36 = .ok (.iload_n 2, 1) := by decide +kernel
theorem dX7_begin_37 : decode cX7_begin 37 = .ok (.iconst 0, 1) := by decide +kernel
theorem dX7_begin_38 : decode cX7_begin 38 = .ok (.iastore, 1) := by decide +kernel
theorem dX7_begin_39 : decode cX7_begin 39 = .ok (.iinc 2 1, 3) := by decide +kernel
theorem dX7_begin_42 : decode cX7_begin 42 = .ok (.goto (-35), 3) := by decide +kernel
theorem dX7_begin_45 : decode cX7_begin 45 = .ok (.return_, 1) := by decide +kernel
theorem dX7_doEvents_0 : decode cX7_doEvents 0 = .ok (.aload_n 0, 1) := by decide +kernel
theorem dX7_doEvents_1 : decode cX7_doEvents 1 = .ok (.iconst 0, 1) := by decide +kernel
theorem dX7_doEvents_2 : decode cX7_doEvents 2 = .ok (.putfield 37, 3) := by decide +kernel
theorem dX7_doEvents_5 : decode cX7_doEvents 5 = .ok (.aload_n 0, 1) := by decide +kernel
theorem dX7_doEvents_6 : decode cX7_doEvents 6 = .ok (.aload_n 1, 1) := by decide +kernel
theorem dX7_doEvents_7 : decode cX7_doEvents 7 = .ok (.getfield 62, 3) := by decide +kernel
theorem dX7_doEvents_10 : decode cX7_doEvents 10 = .ok (.iconst (-1), 1) := by decide +kernel
theorem dX7_doEvents_11 : decode cX7_doEvents 11 = .ok (.if_icmp .ne 7, 3) := by decide +kernel
theorem dX7_doEvents_14 : decode cX7_doEvents 14 = .ok (.iconst 0, 1) := by decide +kernel
theorem dX7_doEvents_15 : decode cX7_doEvents 15 = .ok (.goto 9, 3) := by decide +kernel
theorem dX7_doEvents_18 : decode cX7_doEvents 18 = .ok (.iconst 1, 1) := by decide +kernel
theorem dX7_doEvents_19 : decode cX7_doEvents 19 = .ok (.aload_n 1, 1) := by decide +kernel
theorem dX7_doEvents_20 : decode cX7_doEvents 20 = .ok (.getfield 62, 3) := by decide +kernel
theorem dX7_doEvents_23 : decode cX7_doEvents 23 = .ok (.ishl, 1) := by decide +kernel
theorem dX7_doEvents_24 : decode cX7_doEvents 24 = .ok (.putfield 34, 3) := by decide +kernel
theorem dX7_doEvents_27 : decode cX7_doEvents 27 = .ok (.aload_n 1, 1) := by decide +kernel
theorem dX7_doEvents_28 : decode cX7_doEvents 28 = .ok (.getfield 65, 3) := by decide +kernel
theorem dX7_doEvents_31 : decode cX7_doEvents 31 = .ok (.astore_n 3, 1) := by decide +kernel
theorem dX7_doEvents_32 : decode cX7_doEvents 32 = .ok (.iconst 0, 1) := by decide +kernel
theorem dX7_doEvents_33 : decode cX7_doEvents 33 = .ok (.istore 4, 2) := by decide +kernel
theorem dX7_doEvents_35 : decode cX7_doEvents 35 = .ok (.iload 4, 2) := by decide +kernel
theorem dX7_doEvents_37 : decode cX7_doEvents 37 = .ok (.aload_n 3, 1) := by decide +kernel
theorem dX7_doEvents_38 : decode cX7_doEvents 38 = .ok (.getfield 69, 3) := by decide +kernel
theorem dX7_doEvents_41 : decode cX7_doEvents 41 = .ok (.if_icmp .ge 50, 3) := by decide +kernel
theorem dX7_doEvents_44 : decode cX7_doEvents 44 = .ok (.aload_n 1, 1) := by decide +kernel
theorem dX7_doEvents_45 : decode cX7_doEvents 45 = .ok (.getfield 74, 3) := by decide +kernel
theorem dX7_doEvents_48 : decode cX7_doEvents 48 = .ok (.iload 4, 2) := by decide +kernel
theorem dX7_doEvents_50 : decode cX7_doEvents 50 = .ok (.ishr, 1) := by decide +kernel
theorem dX7_doEvents_51 : decode cX7_doEvents 51 = .ok (.iconst 1, 1) := by decide +kernel
theorem dX7_doEvents_52 : decode cX7_doEvents 52 = .ok (.iand, 1) := by decide +kernel
theorem dX7_doEvents_53 : decode cX7_doEvents 53 = .ok (.ifCond .ne 32, 3) := by decide +kernel
theorem dX7_doEvents_56 : decode cX7_doEvents 56 = .ok (.aload_n 3, 1) := by decide +kernel
theorem dX7_doEvents_57 : decode cX7_doEvents 57 = .ok (.iload 4, 2) := by decide +kernel
theorem dX7_doEvents_59 : decode cX7_doEvents 59 = .ok (.iconst 1, 1) := by decide +kernel
theorem dX7_doEvents_60 : decode cX7_doEvents 60 = .ok (.invokevirtual 77, 3) := by decide +kernel
theorem dX7_doEvents_63 : decode cX7_doEvents 63 = .ok (.iload_n 2, 1) := by decide +kernel
theorem dX7_doEvents_64 : decode cX7_doEvents 64 = .ok (.if_icmp .ne 21, 3) := by decide +kernel
theorem dX7_doEvents_67 : decode cX7_doEvents 67 = .ok (.aload_n 0, 1) := by decide +kernel
theorem dX7_doEvents_68 : decode cX7_doEvents 68 = .ok (.aload_n 3, 1) := by decide +kernel
theorem dX7_doEvents_69 : decode cX7_doEvents 69 = .ok (.iload 4, 2) := by decide +kernel
theorem dX7_doEvents_71 : decode cX7_doEvents 71 = .ok (.iconst 0, 1) := by decide +kernel
theorem dX7_doEvents_72 : decode cX7_doEvents 72 = .ok (.invokevirtual 77, 3) := by decide +kernel
theorem dX7_doEvents_75 : decode cX7_doEvents 75 = .ok (.aload_n 3, 1) := by decide +kernel
theorem dX7_doEvents_76 : decode cX7_doEvents 76 = .ok (.iload 4, 2) := by decide +kernel
theorem dX7_doEvents_78 : decode cX7_doEvents 78 = .ok (.iconst 2, 1) := by decide +kernel
theorem dX7_doEvents_79 : decode cX7_doEvents 79 = .ok (.invokevirtual 77, 3) := by decide +kernel
theorem dX7_doEvents_82 : decode cX7_doEvents 82 = .ok (.invokevirtual 81, 3) := by decide +kernel
theorem dX7_doEvents_85 : decode cX7_doEvents 85 = .ok (.iinc 4 1, 3) := by decide +kernel
theorem dX7_doEvents_88 : decode cX7_doEvents 88 = .ok (.goto (-53), 3) := by decide +kernel
theorem dX7_doEvents_91 : decode cX7_doEvents 91 = .ok (.aload_n 1, 1) := by decide +kernel
theorem dX7_doEvents_92 : decode cX7_doEvents 92 = .ok (.getfield 85, 3) := by decide +kernel
theorem dX7_doEvents_95 : decode cX7_doEvents 95 = .ok (.iload_n 2, 1) := by decide +kernel
theorem dX7_doEvents_96 : decode cX7_doEvents 96 = .ok (.if_icmp .ne 12, 3) := by decide +kernel
theorem dX7_doEvents_99 : decode cX7_doEvents 99 = .ok (.aload_n 0, 1) := by decide +kernel
theorem dX7_doEvents_100 : decode cX7_doEvents 100 = .ok (.iconst 0, 1) := by decide +kernel
theorem dX7_doEvents_101 : decode cX7_doEvents 101 = .ok (.aload_n 1, 1) := by decide +kernel
theorem dX7_doEvents_102 : decode cX7_doEvents 102 = .ok (.getfield 88, 3) := by decide +kernel
theorem dX7_doEvents_105 : decode cX7_doEvents 105 = .ok (.invokevirtual 81, 3) := by decide +kernel
theorem dX7_doEvents_108 : decode cX7_doEvents 108 = .ok (.return_, 1) := by decide +kernel
theorem dX7_happen_0 : decode cX7_happen 0 = .ok (.iload_n 1, 1) := by decide +kernel
theorem dX7_happen_1 : decode cX7_happen 1 = .ok (.ifCond .ne 25, 3) := by decide +kernel
theorem dX7_happen_4 : decode cX7_happen 4 = .ok (.aload_n 0, 1) := by decide +kernel
theorem dX7_happen_5 : decode cX7_happen 5 = .ok (.getfield 9, 3) := by decide +kernel
theorem dX7_happen_8 : decode cX7_happen 8 = .ok (.iload_n 2, 1) := by decide +kernel
theorem dX7_happen_9 : decode cX7_happen 9 = .ok (.bipush 9, 2) := by decide +kernel
theorem dX7_happen_11 : decode cX7_happen 11 = .ok (.aload_n 0, 1) := by decide +kernel
theorem dX7_happen_12 : decode cX7_happen 12 = .ok (.getfield 9, 3) := by decide +kernel
theorem dX7_happen_15 : decode cX7_happen 15 = .ok (.iload_n 2, 1) := by decide +kernel
theorem dX7_happen_16 : decode cX7_happen 16 = .ok (.iaload, 1) := by decide +kernel
theorem dX7_happen_17 : decode cX7_happen 17 = .ok (.iconst 2, 1) := by decide +kernel
theorem dX7_happen_18 : decode cX7_happen 18 = .ok (.iadd, 1) := by decide +kernel
theorem dX7_happen_19 : decode cX7_happen 19 = .ok (.invokestatic 91, 3) := by decide +kernel
theorem dX7_happen_22 : decode cX7_happen 22 = .ok (.iastore, 1) := by decide +kernel
theorem dX7_happen_23 : decode cX7_happen 23 = .ok (.goto 60, 3) := by decide +kernel
theorem dX7_happen_26 : decode cX7_happen 26 = .ok (.iload_n 1, 1) := by decide +kernel
theorem dX7_happen_27 : decode cX7_happen 27 = .ok (.iconst 1, 1) := by decide +kernel
theorem dX7_happen_28 : decode cX7_happen 28 = .ok (.if_icmp .ne 18, 3) := by decide +kernel
theorem dX7_happen_31 : decode cX7_happen 31 = .ok (.aload_n 0, 1) := by decide +kernel
theorem dX7_happen_32 : decode cX7_happen 32 = .ok (.dup, 1) := by decide +kernel
theorem dX7_happen_33 : decode cX7_happen 33 = .ok (.getfield 34, 3) := by decide +kernel
theorem dX7_happen_36 : decode cX7_happen 36 = .ok (.iconst 1, 1) := by decide +kernel
theorem dX7_happen_37 : decode cX7_happen 37 = .ok (.iload_n 2, 1) := by decide +kernel
theorem dX7_happen_38 : decode cX7_happen 38 = .ok (.ishl, 1) := by decide +kernel
theorem dX7_happen_39 : decode cX7_happen 39 = .ok (.ior, 1) := by decide +kernel
theorem dX7_happen_40 : decode cX7_happen 40 = .ok (.putfield 34, 3) := by decide +kernel
theorem dX7_happen_43 : decode cX7_happen 43 = .ok (.goto 40, 3) := by decide +kernel
theorem dX7_happen_46 : decode cX7_happen 46 = .ok (.aload_n 0, 1) := by decide +kernel
theorem dX7_happen_47 : decode cX7_happen 47 = .ok (.iconst 1, 1) := by decide +kernel
theorem dX7_happen_48 : decode cX7_happen 48 = .ok (.putfield 37, 3) := by decide +kernel
theorem dX7_happen_51 : decode cX7_happen 51 = .ok (.iconst 0, 1) := by decide +kernel
theorem dX7_happen_52 : decode cX7_happen 52 = .ok (.istore_n 3, 1) := by decide +kernel
theorem dX7_happen_53 : decode cX7_happen 53 = .ok (.iload_n 3, 1) := by decide +kernel
theorem dX7_happen_54 : decode cX7_happen 54 = .ok (.bipush 10, 2) := by decide +kernel
theorem dX7_happen_56 : decode cX7_happen 56 = .ok (.if_icmp .ge 27, 3) := by decide +kernel
theorem dX7_happen_59 : decode cX7_happen 59 = .ok (.aload_n 0, 1) := by decide +kernel
theorem dX7_happen_60 : decode cX7_happen 60 = .ok (.getfield 15, 3) := by decide +kernel
theorem dX7_happen_63 : decode cX7_happen 63 = .ok (.iload_n 3, 1) := by decide +kernel
theorem dX7_happen_64 : decode cX7_happen 64 = .ok (.iconst 0, 1) := by decide +kernel
theorem dX7_happen_65 : decode cX7_happen 65 = .ok (.aload_n 0, 1) := by decide +kernel
theorem dX7_happen_66 : decode cX7_happen 66 = .ok (.getfield 15, 3) := by decide +kernel
theorem dX7_happen_69 : decode cX7_happen 69 = .ok (.iload_n 3, 1) := by decide +kernel
theorem dX7_happen_70 : decode cX7_happen 70 = .ok (.iaload, 1) := by decide +kernel
theorem dX7_happen_71 : decode cX7_happen 71 = .ok (.iconst 1, 1) := by decide +kernel
theorem dX7_happen_72 : decode cX7_happen 72 = .ok (.isub, 1) := by decide +kernel
theorem dX7_happen_73 : decode cX7_happen 73 = .ok (.invokestatic 96, 3) := by decide +kernel
theorem dX7_happen_76 : decode cX7_happen 76 = .ok (.iastore, 1) := by decide +kernel
theorem dX7_happen_77 : decode cX7_happen 77 = .ok (.iinc 3 1, 3) := by decide +kernel
theorem dX7_happen_80 : decode cX7_happen 80 = .ok (.goto (-27), 3) := by decide +kernel
theorem dX7_happen_83 : decode cX7_happen 83 = .ok (.return_, 1) := by decide +kernel
theorem dX7_scoreAll_0 : decode cX7_scoreAll 0 = .ok (.aload_n 0, 1) := by decide +kernel
theorem dX7_scoreAll_1 : decode cX7_scoreAll 1 = .ok (.iconst 0, 1) := by decide +kernel
theorem dX7_scoreAll_2 : decode cX7_scoreAll 2 = .ok (.putfield 31, 3) := by decide +kernel
theorem dX7_scoreAll_5 : decode cX7_scoreAll 5 = .ok (.iconst 0, 1) := by decide +kernel
theorem dX7_scoreAll_6 : decode cX7_scoreAll 6 = .ok (.istore_n 3, 1) := by decide +kernel
theorem dX7_scoreAll_7 : decode cX7_scoreAll 7 = .ok (.iload_n 3, 1) := by decide +kernel
theorem dX7_scoreAll_8 : decode cX7_scoreAll 8 = .ok (.aload_n 1, 1) := by decide +kernel
theorem dX7_scoreAll_9 : decode cX7_scoreAll 9 = .ok (.getfield 99, 3) := by decide +kernel
theorem dX7_scoreAll_12 : decode cX7_scoreAll 12 = .ok (.if_icmp .ge 64, 3) := by decide +kernel
theorem dX7_scoreAll_15 : decode cX7_scoreAll 15 = .ok (.iload_n 2, 1) := by decide +kernel
theorem dX7_scoreAll_16 : decode cX7_scoreAll 16 = .ok (.iconst (-1), 1) := by decide +kernel
theorem dX7_scoreAll_17 : decode cX7_scoreAll 17 = .ok (.if_icmp .eq 20, 3) := by decide +kernel
theorem dX7_scoreAll_20 : decode cX7_scoreAll 20 = .ok (.aload_n 0, 1) := by decide +kernel
theorem dX7_scoreAll_21 : decode cX7_scoreAll 21 = .ok (.getfield 34, 3) := by decide +kernel
theorem dX7_scoreAll_24 : decode cX7_scoreAll 24 = .ok (.aload_n 0, 1) := by decide +kernel
theorem dX7_scoreAll_25 : decode cX7_scoreAll 25 = .ok (.getfield 27, 3) := by decide +kernel
theorem dX7_scoreAll_28 : decode cX7_scoreAll 28 = .ok (.ior, 1) := by decide +kernel
theorem dX7_scoreAll_29 : decode cX7_scoreAll 29 = .ok (.iload_n 3, 1) := by decide +kernel
theorem dX7_scoreAll_30 : decode cX7_scoreAll 30 = .ok (.ishr, 1) := by decide +kernel
theorem dX7_scoreAll_31 : decode cX7_scoreAll 31 = .ok (.iconst 1, 1) := by decide +kernel
theorem dX7_scoreAll_32 : decode cX7_scoreAll 32 = .ok (.iand, 1) := by decide +kernel
theorem dX7_scoreAll_33 : decode cX7_scoreAll 33 = .ok (.iconst 1, 1) := by decide +kernel
theorem dX7_scoreAll_34 : decode cX7_scoreAll 34 = .ok (.if_icmp .ne 13, 3) := by decide +kernel
theorem dX7_scoreAll_37 : decode cX7_scoreAll 37 = .ok (.aload_n 0, 1) := by decide +kernel
theorem dX7_scoreAll_38 : decode cX7_scoreAll 38 = .ok (.getfield 21, 3) := by decide +kernel
theorem dX7_scoreAll_41 : decode cX7_scoreAll 41 = .ok (.iload_n 3, 1) := by decide +kernel
theorem dX7_scoreAll_42 : decode cX7_scoreAll 42 = .ok (.iconst (-1), 1) := by decide +kernel
theorem dX7_scoreAll_43 : decode cX7_scoreAll 43 = .ok (.iastore, 1) := by decide +kernel
theorem dX7_scoreAll_44 : decode cX7_scoreAll 44 = .ok (.goto 26, 3) := by decide +kernel
theorem dX7_scoreAll_47 : decode cX7_scoreAll 47 = .ok (.aload_n 0, 1) := by decide +kernel
theorem dX7_scoreAll_48 : decode cX7_scoreAll 48 = .ok (.getfield 21, 3) := by decide +kernel
theorem dX7_scoreAll_51 : decode cX7_scoreAll 51 = .ok (.iload_n 3, 1) := by decide +kernel
theorem dX7_scoreAll_52 : decode cX7_scoreAll 52 = .ok (.aload_n 0, 1) := by decide +kernel
theorem dX7_scoreAll_53 : decode cX7_scoreAll 53 = .ok (.aload_n 1, 1) := by decide +kernel
theorem dX7_scoreAll_54 : decode cX7_scoreAll 54 = .ok (.iload_n 2, 1) := by decide +kernel
theorem dX7_scoreAll_55 : decode cX7_scoreAll 55 = .ok (.iload_n 3, 1) := by decide +kernel
theorem dX7_scoreAll_56 : decode cX7_scoreAll 56 = .ok (.invokevirtual 102, 3) := by decide +kernel
theorem dX7_scoreAll_59 : decode cX7_scoreAll 59 = .ok (.iastore, 1) := by decide +kernel
theorem dX7_scoreAll_60 : decode cX7_scoreAll 60 = .ok (.aload_n 0, 1) := by decide +kernel
theorem dX7_scoreAll_61 : decode cX7_scoreAll 61 = .ok (.dup, 1) := by decide +kernel
theorem dX7_scoreAll_62 : decode cX7_scoreAll 62 = .ok (.getfield 31, 3) := by decide +kernel
theorem dX7_scoreAll_65 : decode cX7_scoreAll 65 = .ok (.iconst 1, 1) := by decide +kernel
theorem dX7_scoreAll_66 : decode cX7_scoreAll 66 = .ok (.iadd, 1) := by decide +kernel
theorem dX7_scoreAll_67 : decode cX7_scoreAll 67 = .ok (.putfield 31, 3) := by decide +kernel
theorem dX7_scoreAll_70 : decode cX7_scoreAll 70 = .ok (.iinc 3 1, 3) := by decide +kernel
theorem dX7_scoreAll_73 : decode cX7_scoreAll 73 = .ok (.goto (-66), 3) := by decide +kernel
theorem dX7_scoreAll_76 : decode cX7_scoreAll 76 = .ok (.return_, 1) := by decide +kernel
theorem dX7_scoreBy_0 : decode cX7_scoreBy 0 = .ok (.aload_n 0, 1) := by decide +kernel
theorem dX7_scoreBy_1 : decode cX7_scoreBy 1 = .ok (.getfield 9, 3) := by decide +kernel
theorem dX7_scoreBy_4 : decode cX7_scoreBy 4 = .ok (.iload_n 3, 1) := by decide +kernel
theorem dX7_scoreBy_5 : decode cX7_scoreBy 5 = .ok (.iaload, 1) := by decide +kernel
theorem dX7_scoreBy_6 : decode cX7_scoreBy 6 = .ok (.istore 4, 2) := by decide +kernel
theorem dX7_scoreBy_8 : decode cX7_scoreBy 8 = .ok (.aload_n 1, 1) := by decide +kernel
theorem dX7_scoreBy_9 : decode cX7_scoreBy 9 = .ok (.getfield 106, 3) := by decide +kernel
theorem dX7_scoreBy_12 : decode cX7_scoreBy 12 = .ok (.iload_n 3, 1) := by decide +kernel
theorem dX7_scoreBy_13 : decode cX7_scoreBy 13 = .ok (.iaload, 1) := by decide +kernel
theorem dX7_scoreBy_14 : decode cX7_scoreBy 14 = .ok (.iconst 2, 1) := by decide +kernel
theorem dX7_scoreBy_15 : decode cX7_scoreBy 15 = .ok (.if_icmp .ne 14, 3) := by decide +kernel
theorem dX7_scoreBy_18 : decode cX7_scoreBy 18 = .ok (.iload 4, 2) := by decide +kernel
theorem dX7_scoreBy_20 : decode cX7_scoreBy 20 = .ok (.aload_n 0, 1) := by decide +kernel
theorem dX7_scoreBy_21 : decode cX7_scoreBy 21 = .ok (.getfield 18, 3) := by decide +kernel
theorem dX7_scoreBy_24 : decode cX7_scoreBy 24 = .ok (.iload_n 3, 1) := by decide +kernel
theorem dX7_scoreBy_25 : decode cX7_scoreBy 25 = .ok (.iaload, 1) := by decide +kernel
theorem dX7_scoreBy_26 : decode cX7_scoreBy 26 = .ok (.iadd, 1) := by decide +kernel
theorem dX7_scoreBy_27 : decode cX7_scoreBy 27 = .ok (.istore 4, 2) := by decide +kernel
theorem dX7_scoreBy_29 : decode cX7_scoreBy 29 = .ok (.aload_n 1, 1) := by decide +kernel
theorem dX7_scoreBy_30 : decode cX7_scoreBy 30 = .ok (.getfield 106, 3) := by decide +kernel
theorem dX7_scoreBy_33 : decode cX7_scoreBy 33 = .ok (.iload_n 3, 1) := by decide +kernel
theorem dX7_scoreBy_34 : decode cX7_scoreBy 34 = .ok (.iaload, 1) := by decide +kernel
theorem dX7_scoreBy_35 : decode cX7_scoreBy 35 = .ok (.iconst 1, 1) := by decide +kernel
theorem dX7_scoreBy_36 : decode cX7_scoreBy 36 = .ok (.if_icmp .ne 20, 3) := by decide +kernel
theorem dX7_scoreBy_39 : decode cX7_scoreBy 39 = .ok (.aload_n 0, 1) := by decide +kernel
theorem dX7_scoreBy_40 : decode cX7_scoreBy 40 = .ok (.getfield 37, 3) := by decide +kernel
theorem dX7_scoreBy_43 : decode cX7_scoreBy 43 = .ok (.ifCond .eq 13, 3) := by decide +kernel
theorem dX7_scoreBy_46 : decode cX7_scoreBy 46 = .ok (.iconst 0, 1) := by decide +kernel
theorem dX7_scoreBy_47 : decode cX7_scoreBy 47 = .ok (.iload 4, 2) := by decide +kernel
theorem dX7_scoreBy_49 : decode cX7_scoreBy 49 = .ok (.iconst 2, 1) := by decide +kernel
theorem dX7_scoreBy_50 : decode cX7_scoreBy 50 = .ok (.isub, 1) := by decide +kernel
theorem dX7_scoreBy_51 : decode cX7_scoreBy 51 = .ok (.invokestatic 96, 3) := by decide +kernel
theorem dX7_scoreBy_54 : decode cX7_scoreBy 54 = .ok (.istore 4, 2) := by decide +kernel
theorem dX7_scoreBy_56 : decode cX7_scoreBy 56 = .ok (.aload_n 1, 1) := by decide +kernel
theorem dX7_scoreBy_57 : decode cX7_scoreBy 57 = .ok (.getfield 106, 3) := by decide +kernel
theorem dX7_scoreBy_60 : decode cX7_scoreBy 60 = .ok (.iload_n 3, 1) := by decide +kernel
theorem dX7_scoreBy_61 : decode cX7_scoreBy 61 = .ok (.iaload, 1) := by decide +kernel
theorem dX7_scoreBy_62 : decode cX7_scoreBy 62 = .ok (.aload_n 1, 1) := by decide +kernel
theorem dX7_scoreBy_63 : decode cX7_scoreBy 63 = .ok (.getfield 109, 3) := by decide +kernel
theorem dX7_scoreBy_66 : decode cX7_scoreBy 66 = .ok (.iload_n 2, 1) := by decide +kernel
theorem dX7_scoreBy_67 : decode cX7_scoreBy 67 = .ok (.iaload, 1) := by decide +kernel
theorem dX7_scoreBy_68 : decode cX7_scoreBy 68 = .ok (.if_icmp .ne 14, 3) := by decide +kernel
theorem dX7_scoreBy_71 : decode cX7_scoreBy 71 = .ok (.iload 4, 2) := by decide +kernel
theorem dX7_scoreBy_73 : decode cX7_scoreBy 73 = .ok (.aload_n 1, 1) := by decide +kernel
theorem dX7_scoreBy_74 : decode cX7_scoreBy 74 = .ok (.getfield 112, 3) := by decide +kernel
theorem dX7_scoreBy_77 : decode cX7_scoreBy 77 = .ok (.iload_n 2, 1) := by decide +kernel
theorem dX7_scoreBy_78 : decode cX7_scoreBy 78 = .ok (.iaload, 1) := by decide +kernel
theorem dX7_scoreBy_79 : decode cX7_scoreBy 79 = .ok (.iadd, 1) := by decide +kernel
theorem dX7_scoreBy_80 : decode cX7_scoreBy 80 = .ok (.istore 4, 2) := by decide +kernel
theorem dX7_scoreBy_82 : decode cX7_scoreBy 82 = .ok (.aload_n 1, 1) := by decide +kernel
theorem dX7_scoreBy_83 : decode cX7_scoreBy 83 = .ok (.getfield 115, 3) := by decide +kernel
theorem dX7_scoreBy_86 : decode cX7_scoreBy 86 = .ok (.iload_n 3, 1) := by decide +kernel
theorem dX7_scoreBy_87 : decode cX7_scoreBy 87 = .ok (.iaload, 1) := by decide +kernel
theorem dX7_scoreBy_88 : decode cX7_scoreBy 88 = .ok (.aload_n 1, 1) := by decide +kernel
theorem dX7_scoreBy_89 : decode cX7_scoreBy 89 = .ok (.getfield 118, 3) := by decide +kernel
theorem dX7_scoreBy_92 : decode cX7_scoreBy 92 = .ok (.iload_n 2, 1) := by decide +kernel
theorem dX7_scoreBy_93 : decode cX7_scoreBy 93 = .ok (.iaload, 1) := by decide +kernel
theorem dX7_scoreBy_94 : decode cX7_scoreBy 94 = .ok (.if_icmp .ne 6, 3) := by decide +kernel
theorem dX7_scoreBy_97 : decode cX7_scoreBy 97 = .ok (.iinc 4 3, 3) := by decide +kernel
theorem dX7_scoreBy_100 : decode cX7_scoreBy 100 = .ok (.iload 4, 2) := by decide +kernel
theorem dX7_scoreBy_102 : decode cX7_scoreBy 102 = .ok (.ireturn, 1) := by decide +kernel
theorem dX7_placeAll_0 : decode cX7_placeAll 0 = .ok (.iconst 0, 1) := by decide +kernel
theorem dX7_placeAll_1 : decode cX7_placeAll 1 = .ok (.istore_n 3, 1) := by decide +kernel
theorem dX7_placeAll_2 : decode cX7_placeAll 2 = .ok (.iconst 0, 1) := by decide +kernel
theorem dX7_placeAll_3 : decode cX7_placeAll 3 = .ok (.istore 4, 2) := by decide +kernel
theorem dX7_placeAll_5 : decode cX7_placeAll 5 = .ok (.iload 4, 2) := by decide +kernel
theorem dX7_placeAll_7 : decode cX7_placeAll 7 = .ok (.iconst 3, 1) := by decide +kernel
theorem dX7_placeAll_8 : decode cX7_placeAll 8 = .ok (.if_icmp .ge 61, 3) := by decide +kernel
theorem dX7_placeAll_11 : decode cX7_placeAll 11 = .ok (.aload_n 0, 1) := by decide +kernel
theorem dX7_placeAll_12 : decode cX7_placeAll 12 = .ok (.iload_n 3, 1) := by decide +kernel
theorem dX7_placeAll_13 : decode cX7_placeAll 13 = .ok (.aload_n 1, 1) := by decide +kernel
theorem dX7_placeAll_14 : decode cX7_placeAll 14 = .ok (.getfield 99, 3) := by decide +kernel
theorem dX7_placeAll_17 : decode cX7_placeAll 17 = .ok (.invokevirtual 121, 3) := by decide +kernel
theorem dX7_placeAll_20 : decode cX7_placeAll 20 = .ok (.istore 5, 2) := by decide +kernel
theorem dX7_placeAll_22 : decode cX7_placeAll 22 = .ok (.aload_n 0, 1) := by decide +kernel
theorem dX7_placeAll_23 : decode cX7_placeAll 23 = .ok (.getfield 24, 3) := by decide +kernel
theorem dX7_placeAll_26 : decode cX7_placeAll 26 = .ok (.iload_n 2, 1) := by decide +kernel
theorem dX7_placeAll_27 : decode cX7_placeAll 27 = .ok (.iconst 3, 1) := by decide +kernel
theorem dX7_placeAll_28 : decode cX7_placeAll 28 = .ok (.imul, 1) := by decide +kernel
theorem dX7_placeAll_29 : decode cX7_placeAll 29 = .ok (.iload 4, 2) := by decide +kernel
theorem dX7_placeAll_31 : decode cX7_placeAll 31 = .ok (.iadd, 1) := by decide +kernel
theorem dX7_placeAll_32 : decode cX7_placeAll 32 = .ok (.iload 5, 2) := by decide +kernel
theorem dX7_placeAll_34 : decode cX7_placeAll 34 = .ok (.iastore, 1) := by decide +kernel
theorem dX7_placeAll_35 : decode cX7_placeAll 35 = .ok (.iload 5, 2) := by decide +kernel
theorem dX7_placeAll_37 : decode cX7_placeAll 37 = .ok (.iconst (-1), 1) := by decide +kernel
theorem dX7_placeAll_38 : decode cX7_placeAll 38 = .ok (.if_icmp .eq 25, 3) := by decide +kernel
theorem dX7_placeAll_41 : decode cX7_placeAll 41 = .ok (.iload_n 3, 1) := by decide +kernel
theorem dX7_placeAll_42 : decode cX7_placeAll 42 = .ok (.iconst 1, 1) := by decide +kernel
theorem dX7_placeAll_43 : decode cX7_placeAll 43 = .ok (.iload 5, 2) := by decide +kernel
theorem dX7_placeAll_45 : decode cX7_placeAll 45 = .ok (.ishl, 1) := by decide +kernel
theorem dX7_placeAll_46 : decode cX7_placeAll 46 = .ok (.ior, 1) := by decide +kernel
theorem dX7_placeAll_47 : decode cX7_placeAll 47 = .ok (.istore_n 3, 1) := by decide +kernel
theorem dX7_placeAll_48 : decode cX7_placeAll 48 = .ok (.aload_n 0, 1) := by decide +kernel
theorem dX7_placeAll_49 : decode cX7_placeAll 49 = .ok (.aload_n 1, 1) := by decide +kernel
theorem dX7_placeAll_50 : decode cX7_placeAll 50 = .ok (.getfield 106, 3) := by decide +kernel
theorem dX7_placeAll_53 : decode cX7_placeAll 53 = .ok (.iload 5, 2) := by decide +kernel
theorem dX7_placeAll_55 : decode cX7_placeAll 55 = .ok (.iaload, 1) := by decide +kernel
theorem dX7_placeAll_56 : decode cX7_placeAll 56 = .ok (.iload 5, 2) := by decide +kernel
theorem dX7_placeAll_58 : decode cX7_placeAll 58 = .ok (.iload 4, 2) := by decide +kernel
theorem dX7_placeAll_60 : decode cX7_placeAll 60 = .ok (.invokevirtual 124, 3) := by decide +kernel
theorem dX7_placeAll_63 : decode cX7_placeAll 63 = .ok (.iinc 4 1, 3) := by decide +kernel
theorem dX7_placeAll_66 : decode cX7_placeAll 66 = .ok (.goto (-61), 3) := by decide +kernel
theorem dX7_placeAll_69 : decode cX7_placeAll 69 = .ok (.return_, 1) := by decide +kernel
theorem dX7_topWithout_0 : decode cX7_topWithout 0 = .ok (.iconst (-1), 1) := by decide +kernel
theorem dX7_topWithout_1 : decode cX7_topWithout 1 = .ok (.istore_n 3, 1) := by decide +kernel
theorem dX7_topWithout_2 : decode cX7_topWithout 2 = .ok (.iconst 0, 1) := by decide +kernel
theorem dX7_topWithout_3 : decode cX7_topWithout 3 = .ok (.istore 4, 2) := by decide +kernel
theorem dX7_topWithout_5 : decode cX7_topWithout 5 = .ok (.iload 4, 2) := by decide +kernel
theorem dX7_topWithout_7 : decode cX7_topWithout 7 = .ok (.iload_n 2, 1) := by decide +kernel
theorem dX7_topWithout_8 : decode cX7_topWithout 8 = .ok (.if_icmp .ge 65, 3) := by decide +kernel
theorem dX7_topWithout_11 : decode cX7_topWithout 11 = .ok (.aload_n 0, 1) := by decide +kernel
theorem dX7_topWithout_12 : decode cX7_topWithout 12 = .ok (.getfield 21, 3) := by decide +kernel
theorem dX7_topWithout_15 : decode cX7_topWithout 15 = .ok (.iload 4, 2) := by decide +kernel
theorem dX7_topWithout_17 : decode cX7_topWithout 17 = .ok (.iaload, 1) := by decide +kernel
theorem dX7_topWithout_18 : decode cX7_topWithout 18 = .ok (.iconst (-1), 1) := by decide +kernel
theorem dX7_topWithout_19 : decode cX7_topWithout 19 = .ok (.if_icmp .eq 16, 3) := by decide +kernel
theorem dX7_topWithout_22 : decode cX7_topWithout 22 = .ok (.iload_n 1, 1) := by decide +kernel
theorem dX7_topWithout_23 : decode cX7_topWithout 23 = .ok (.iload 4, 2) := by decide +kernel
theorem dX7_topWithout_25 : decode cX7_topWithout 25 = .ok (.ishr, 1) := by decide +kernel
theorem dX7_topWithout_26 : decode cX7_topWithout 26 = .ok (.iconst 1, 1) := by decide +kernel
theorem dX7_topWithout_27 : decode cX7_topWithout 27 = .ok (.iand, 1) := by decide +kernel
theorem dX7_topWithout_28 : decode cX7_topWithout 28 = .ok (.ifCond .ne 7, 3) := by decide +kernel
theorem dX7_topWithout_31 : decode cX7_topWithout 31 = .ok (.iconst 1, 1) := by decide +kernel
theorem dX7_topWithout_32 : decode cX7_topWithout 32 = .ok (.goto 4, 3) := by decide +kernel
theorem dX7_topWithout_35 : decode cX7_topWithout 35 = .ok (.iconst 0, 1) := by decide +kernel
theorem dX7_topWithout_36 : decode cX7_topWithout 36 = .ok (.istore 5, 2) := by decide +kernel
theorem dX7_topWithout_38 : decode cX7_topWithout 38 = .ok (.iload 5, 2) := by decide +kernel
theorem dX7_topWithout_40 : decode cX7_topWithout 40 = .ok (.ifCond .eq 27, 3) := by decide +kernel
theorem dX7_topWithout_43 : decode cX7_topWithout 43 = .ok (.iload_n 3, 1) := by decide +kernel
theorem dX7_topWithout_44 : decode cX7_topWithout 44 = .ok (.iconst (-1), 1) := by decide +kernel
theorem dX7_topWithout_45 : decode cX7_topWithout 45 = .ok (.if_icmp .eq 19, 3) := by decide +kernel
theorem dX7_topWithout_48 : decode cX7_topWithout 48 = .ok (.aload_n 0, 1) := by decide +kernel
theorem dX7_topWithout_49 : decode cX7_topWithout 49 = .ok (.getfield 21, 3) := by decide +kernel
theorem dX7_topWithout_52 : decode cX7_topWithout 52 = .ok (.iload 4, 2) := by decide +kernel
theorem dX7_topWithout_54 : decode cX7_topWithout 54 = .ok (.iaload, 1) := by decide +kernel
theorem dX7_topWithout_55 : decode cX7_topWithout 55 = .ok (.aload_n 0, 1) := by decide +kernel
theorem dX7_topWithout_56 : decode cX7_topWithout 56 = .ok (.getfield 21, 3) := by decide +kernel
theorem dX7_topWithout_59 : decode cX7_topWithout 59 = .ok (.iload_n 3, 1) := by decide +kernel
theorem dX7_topWithout_60 : decode cX7_topWithout 60 = .ok (.iaload, 1) := by decide +kernel
theorem dX7_topWithout_61 : decode cX7_topWithout 61 = .ok (.if_icmp .le 6, 3) := by decide +kernel
theorem dX7_topWithout_64 : decode cX7_topWithout 64 = .ok (.iload 4, 2) := by decide +kernel
theorem dX7_topWithout_66 : decode cX7_topWithout 66 = .ok (.istore_n 3, 1) := by decide +kernel
theorem dX7_topWithout_67 : decode cX7_topWithout 67 = .ok (.iinc 4 1, 3) := by decide +kernel
theorem dX7_topWithout_70 : decode cX7_topWithout 70 = .ok (.goto (-65), 3) := by decide +kernel
theorem dX7_topWithout_73 : decode cX7_topWithout 73 = .ok (.iload_n 3, 1) := by decide +kernel
theorem dX7_topWithout_74 : decode cX7_topWithout 74 = .ok (.ireturn, 1) := by decide +kernel
theorem dX7_pin_0 : decode cX7_pin 0 = .ok (.aload_n 0, 1) := by decide +kernel
theorem dX7_pin_1 : decode cX7_pin 1 = .ok (.getfield 15, 3) := by decide +kernel
theorem dX7_pin_4 : decode cX7_pin 4 = .ok (.iload_n 2, 1) := by decide +kernel
theorem dX7_pin_5 : decode cX7_pin 5 = .ok (.dup2, 1) := by decide +kernel
theorem dX7_pin_6 : decode cX7_pin 6 = .ok (.iaload, 1) := by decide +kernel
theorem dX7_pin_7 : decode cX7_pin 7 = .ok (.iconst 3, 1) := by decide +kernel
theorem dX7_pin_8 : decode cX7_pin 8 = .ok (.iload_n 3, 1) := by decide +kernel
theorem dX7_pin_9 : decode cX7_pin 9 = .ok (.isub, 1) := by decide +kernel
theorem dX7_pin_10 : decode cX7_pin 10 = .ok (.iadd, 1) := by decide +kernel
theorem dX7_pin_11 : decode cX7_pin 11 = .ok (.iastore, 1) := by decide +kernel
theorem dX7_pin_12 : decode cX7_pin 12 = .ok (.iload_n 3, 1) := by decide +kernel
theorem dX7_pin_13 : decode cX7_pin 13 = .ok (.ifCond .ne 40, 3) := by decide +kernel
theorem dX7_pin_16 : decode cX7_pin 16 = .ok (.aload_n 0, 1) := by decide +kernel
theorem dX7_pin_17 : decode cX7_pin 17 = .ok (.getfield 18, 3) := by decide +kernel
theorem dX7_pin_20 : decode cX7_pin 20 = .ok (.iload_n 2, 1) := by decide +kernel
theorem dX7_pin_21 : decode cX7_pin 21 = .ok (.dup2, 1) := by decide +kernel
theorem dX7_pin_22 : decode cX7_pin 22 = .ok (.iaload, 1) := by decide +kernel
theorem dX7_pin_23 : decode cX7_pin 23 = .ok (.iconst 1, 1) := by decide +kernel
theorem dX7_pin_24 : decode cX7_pin 24 = .ok (.iadd, 1) := by decide +kernel
theorem dX7_pin_25 : decode cX7_pin 25 = .ok (.iastore, 1) := by decide +kernel
theorem dX7_pin_26 : decode cX7_pin 26 = .ok (.iload_n 1, 1) := by decide +kernel
theorem dX7_pin_27 : decode cX7_pin 27 = .ok (.iconst 2, 1) := by decide +kernel
theorem dX7_pin_28 : decode cX7_pin 28 = .ok (.if_icmp .ne 25, 3) := by decide +kernel
theorem dX7_pin_31 : decode cX7_pin 31 = .ok (.aload_n 0, 1) := by decide +kernel
theorem dX7_pin_32 : decode cX7_pin 32 = .ok (.getfield 18, 3) := by decide +kernel
theorem dX7_pin_35 : decode cX7_pin 35 = .ok (.iload_n 2, 1) := by decide +kernel
theorem dX7_pin_36 : decode cX7_pin 36 = .ok (.iaload, 1) := by decide +kernel
theorem dX7_pin_37 : decode cX7_pin 37 = .ok (.iconst 3, 1) := by decide +kernel
theorem dX7_pin_38 : decode cX7_pin 38 = .ok (.if_icmp .ne 15, 3) := by decide +kernel
theorem dX7_pin_41 : decode cX7_pin 41 = .ok (.aload_n 0, 1) := by decide +kernel
theorem dX7_pin_42 : decode cX7_pin 42 = .ok (.dup, 1) := by decide +kernel
theorem dX7_pin_43 : decode cX7_pin 43 = .ok (.getfield 27, 3) := by decide +kernel
theorem dX7_pin_46 : decode cX7_pin 46 = .ok (.iconst 1, 1) := by decide +kernel
theorem dX7_pin_47 : decode cX7_pin 47 = .ok (.iload_n 2, 1) := by decide +kernel
theorem dX7_pin_48 : decode cX7_pin 48 = .ok (.ishl, 1) := by decide +kernel
theorem dX7_pin_49 : decode cX7_pin 49 = .ok (.ior, 1) := by decide +kernel
theorem dX7_pin_50 : decode cX7_pin 50 = .ok (.putfield 27, 3) := by decide +kernel
theorem dX7_pin_53 : decode cX7_pin 53 = .ok (.iload_n 3, 1) := by decide +kernel
theorem dX7_pin_54 : decode cX7_pin 54 = .ok (.iconst 1, 1) := by decide +kernel
theorem dX7_pin_55 : decode cX7_pin 55 = .ok (.if_icmp .ne 26, 3) := by decide +kernel
theorem dX7_pin_58 : decode cX7_pin 58 = .ok (.iload_n 1, 1) := by decide +kernel
theorem dX7_pin_59 : decode cX7_pin 59 = .ok (.iconst 1, 1) := by decide +kernel
theorem dX7_pin_60 : decode cX7_pin 60 = .ok (.if_icmp .ne 21, 3) := by decide +kernel
theorem dX7_pin_63 : decode cX7_pin 63 = .ok (.aload_n 0, 1) := by decide +kernel
theorem dX7_pin_64 : decode cX7_pin 64 = .ok (.getfield 9, 3) := by decide +kernel
theorem dX7_pin_67 : decode cX7_pin 67 = .ok (.iload_n 2, 1) := by decide +kernel
theorem dX7_pin_68 : decode cX7_pin 68 = .ok (.iconst 0, 1) := by decide +kernel
theorem dX7_pin_69 : decode cX7_pin 69 = .ok (.aload_n 0, 1) := by decide +kernel
theorem dX7_pin_70 : decode cX7_pin 70 = .ok (.getfield 9, 3) := by decide +kernel
theorem dX7_pin_73 : decode cX7_pin 73 = .ok (.iload_n 2, 1) := by decide +kernel
theorem dX7_pin_74 : decode cX7_pin 74 = .ok (.iaload, 1) := by decide +kernel
theorem dX7_pin_75 : decode cX7_pin 75 = .ok (.iconst 1, 1) := by decide +kernel
theorem dX7_pin_76 : decode cX7_pin 76 = .ok (.isub, 1) := by decide +kernel
theorem dX7_pin_77 : decode cX7_pin 77 = .ok (.invokestatic 96, 3) := by decide +kernel
theorem dX7_pin_80 : decode cX7_pin 80 = .ok (.iastore, 1) := by decide +kernel
theorem dX7_pin_81 : decode cX7_pin 81 = .ok (.return_, 1) := by decide +kernel
theorem dX7_placedAt_0 : decode cX7_placedAt 0 = .ok (.aload_n 0, 1) := by decide +kernel
theorem dX7_placedAt_1 : decode cX7_placedAt 1 = .ok (.getfield 24, 3) := by decide +kernel
theorem dX7_placedAt_4 : decode cX7_placedAt 4 = .ok (.iload_n 1, 1) := by decide +kernel
theorem dX7_placedAt_5 : decode cX7_placedAt 5 = .ok (.iconst 3, 1) := by decide +kernel
theorem dX7_placedAt_6 : decode cX7_placedAt 6 = .ok (.imul, 1) := by decide +kernel
theorem dX7_placedAt_7 : decode cX7_placedAt 7 = .ok (.iload_n 2, 1) := by decide +kernel
theorem dX7_placedAt_8 : decode cX7_placedAt 8 = .ok (.iadd, 1) := by decide +kernel
theorem dX7_placedAt_9 : decode cX7_placedAt 9 = .ok (.iaload, 1) := by decide +kernel
theorem dX7_placedAt_10 : decode cX7_placedAt 10 = .ok (.ireturn, 1) := by decide +kernel
theorem dX7_placeOf_0 : decode cX7_placeOf 0 = .ok (.iconst 0, 1) := by decide +kernel
theorem dX7_placeOf_1 : decode cX7_placeOf 1 = .ok (.istore_n 3, 1) := by decide +kernel
theorem dX7_placeOf_2 : decode cX7_placeOf 2 = .ok (.iload_n 3, 1) := by decide +kernel
theorem dX7_placeOf_3 : decode cX7_placeOf 3 = .ok (.iconst 3, 1) := by decide +kernel
theorem dX7_placeOf_4 : decode cX7_placeOf 4 = .ok (.if_icmp .ge 21, 3) := by decide +kernel
theorem dX7_placeOf_7 : decode cX7_placeOf 7 = .ok (.aload_n 0, 1) := by decide +kernel
theorem dX7_placeOf_8 : decode cX7_placeOf 8 = .ok (.iload_n 1, 1) := by decide +kernel
theorem dX7_placeOf_9 : decode cX7_placeOf 9 = .ok (.iload_n 3, 1) := by decide +kernel
theorem dX7_placeOf_10 : decode cX7_placeOf 10 = .ok (.invokevirtual 128, 3) := by decide +kernel
theorem dX7_placeOf_13 : decode cX7_placeOf 13 = .ok (.iload_n 2, 1) := by decide +kernel
theorem dX7_placeOf_14 : decode cX7_placeOf 14 = .ok (.if_icmp .ne 5, 3) := by decide +kernel
theorem dX7_placeOf_17 : decode cX7_placeOf 17 = .ok (.iload_n 3, 1) := by decide +kernel
theorem dX7_placeOf_18 : decode cX7_placeOf 18 = .ok (.ireturn, 1) := by decide +kernel
theorem dX7_placeOf_19 : decode cX7_placeOf 19 = .ok (.iinc 3 1, 3) := by decide +kernel
theorem dX7_placeOf_22 : decode cX7_placeOf 22 = .ok (.goto (-20), 3) := by decide +kernel
theorem dX7_placeOf_25 : decode cX7_placeOf 25 = .ok (.iconst 3, 1) := by decide +kernel
theorem dX7_placeOf_26 : decode cX7_placeOf 26 = .ok (.ireturn, 1) := by decide +kernel
theorem dX7_bearsOut_0 : decode cX7_bearsOut 0 = .ok (.iconst 0, 1) := by decide +kernel
theorem dX7_bearsOut_1 : decode cX7_bearsOut 1 = .ok (.istore_n 3, 1) := by decide +kernel
theorem dX7_bearsOut_2 : decode cX7_bearsOut 2 = .ok (.iload_n 3, 1) := by decide +kernel
theorem dX7_bearsOut_3 : decode cX7_bearsOut 3 = .ok (.aload_n 1, 1) := by decide +kernel
theorem dX7_bearsOut_4 : decode cX7_bearsOut 4 = .ok (.getfield 69, 3) := by decide +kernel
theorem dX7_bearsOut_7 : decode cX7_bearsOut 7 = .ok (.if_icmp .ge 46, 3) := by decide +kernel
theorem dX7_bearsOut_10 : decode cX7_bearsOut 10 = .ok (.aload_n 1, 1) := by decide +kernel
theorem dX7_bearsOut_11 : decode cX7_bearsOut 11 = .ok (.iload_n 3, 1) := by decide +kernel
theorem dX7_bearsOut_12 : decode cX7_bearsOut 12 = .ok (.iconst 1, 1) := by decide +kernel
theorem dX7_bearsOut_13 : decode cX7_bearsOut 13 = .ok (.invokevirtual 77, 3) := by decide +kernel
theorem dX7_bearsOut_16 : decode cX7_bearsOut 16 = .ok (.istore 4, 2) := by decide +kernel
theorem dX7_bearsOut_18 : decode cX7_bearsOut 18 = .ok (.iload 4, 2) := by decide +kernel
theorem dX7_bearsOut_20 : decode cX7_bearsOut 20 = .ok (.iload_n 2, 1) := by decide +kernel
theorem dX7_bearsOut_21 : decode cX7_bearsOut 21 = .ok (.if_icmp .ge 24, 3) := by decide +kernel
theorem dX7_bearsOut_24 : decode cX7_bearsOut 24 = .ok (.aload_n 0, 1) := by decide +kernel
theorem dX7_bearsOut_25 : decode cX7_bearsOut 25 = .ok (.aload_n 1, 1) := by decide +kernel
theorem dX7_bearsOut_26 : decode cX7_bearsOut 26 = .ok (.iload_n 3, 1) := by decide +kernel
theorem dX7_bearsOut_27 : decode cX7_bearsOut 27 = .ok (.iconst 0, 1) := by decide +kernel
theorem dX7_bearsOut_28 : decode cX7_bearsOut 28 = .ok (.invokevirtual 77, 3) := by decide +kernel
theorem dX7_bearsOut_31 : decode cX7_bearsOut 31 = .ok (.iload 4, 2) := by decide +kernel
theorem dX7_bearsOut_33 : decode cX7_bearsOut 33 = .ok (.invokevirtual 131, 3) := by decide +kernel
theorem dX7_bearsOut_36 : decode cX7_bearsOut 36 = .ok (.aload_n 1, 1) := by decide +kernel
theorem dX7_bearsOut_37 : decode cX7_bearsOut 37 = .ok (.iload_n 3, 1) := by decide +kernel
theorem dX7_bearsOut_38 : decode cX7_bearsOut 38 = .ok (.iconst 2, 1) := by decide +kernel
theorem dX7_bearsOut_39 : decode cX7_bearsOut 39 = .ok (.invokevirtual 77, 3) := by decide +kernel
theorem dX7_bearsOut_42 : decode cX7_bearsOut 42 = .ok (.if_icmp .eq 5, 3) := by decide +kernel
theorem dX7_bearsOut_45 : decode cX7_bearsOut 45 = .ok (.iconst 0, 1) := by decide +kernel
theorem dX7_bearsOut_46 : decode cX7_bearsOut 46 = .ok (.ireturn, 1) := by decide +kernel
theorem dX7_bearsOut_47 : decode cX7_bearsOut 47 = .ok (.iinc 3 1, 3) := by decide +kernel
theorem dX7_bearsOut_50 : decode cX7_bearsOut 50 = .ok (.goto (-48), 3) := by decide +kernel
theorem dX7_bearsOut_53 : decode cX7_bearsOut 53 = .ok (.iconst 1, 1) := by decide +kernel
theorem dX7_bearsOut_54 : decode cX7_bearsOut 54 = .ok (.ireturn, 1) := by decide +kernel
theorem dX7_tellOf_0 : decode cX7_tellOf 0 = .ok (.iload_n 2, 1) := by decide +kernel
theorem dX7_tellOf_1 : decode cX7_tellOf 1 = .ok (.tableswitch 61 0 3 #[31, 38, 45, 52], 31) := by decide +kernel
theorem dX7_tellOf_32 : decode cX7_tellOf 32 = .ok (.aload_n 0, 1) := by decide +kernel
theorem dX7_tellOf_33 : decode cX7_tellOf 33 = .ok (.getfield 9, 3) := by decide +kernel
theorem dX7_tellOf_36 : decode cX7_tellOf 36 = .ok (.iload_n 1, 1) := by decide +kernel
theorem dX7_tellOf_37 : decode cX7_tellOf 37 = .ok (.iaload, 1) := by decide +kernel
theorem dX7_tellOf_38 : decode cX7_tellOf 38 = .ok (.ireturn, 1) := by decide +kernel
theorem dX7_tellOf_39 : decode cX7_tellOf 39 = .ok (.aload_n 0, 1) := by decide +kernel
theorem dX7_tellOf_40 : decode cX7_tellOf 40 = .ok (.getfield 15, 3) := by decide +kernel
theorem dX7_tellOf_43 : decode cX7_tellOf 43 = .ok (.iload_n 1, 1) := by decide +kernel
theorem dX7_tellOf_44 : decode cX7_tellOf 44 = .ok (.iaload, 1) := by decide +kernel
theorem dX7_tellOf_45 : decode cX7_tellOf 45 = .ok (.ireturn, 1) := by decide +kernel
theorem dX7_tellOf_46 : decode cX7_tellOf 46 = .ok (.aload_n 0, 1) := by decide +kernel
theorem dX7_tellOf_47 : decode cX7_tellOf 47 = .ok (.getfield 18, 3) := by decide +kernel
theorem dX7_tellOf_50 : decode cX7_tellOf 50 = .ok (.iload_n 1, 1) := by decide +kernel
theorem dX7_tellOf_51 : decode cX7_tellOf 51 = .ok (.iaload, 1) := by decide +kernel
theorem dX7_tellOf_52 : decode cX7_tellOf 52 = .ok (.ireturn, 1) := by decide +kernel
theorem dX7_tellOf_53 : decode cX7_tellOf 53 = .ok (.aload_n 0, 1) := by decide +kernel
theorem dX7_tellOf_54 : decode cX7_tellOf 54 = .ok (.getfield 27, 3) := by decide +kernel
theorem dX7_tellOf_57 : decode cX7_tellOf 57 = .ok (.iload_n 1, 1) := by decide +kernel
theorem dX7_tellOf_58 : decode cX7_tellOf 58 = .ok (.ishr, 1) := by decide +kernel
theorem dX7_tellOf_59 : decode cX7_tellOf 59 = .ok (.iconst 1, 1) := by decide +kernel
theorem dX7_tellOf_60 : decode cX7_tellOf 60 = .ok (.iand, 1) := by decide +kernel
theorem dX7_tellOf_61 : decode cX7_tellOf 61 = .ok (.ireturn, 1) := by decide +kernel
theorem dX7_tellOf_62 : decode cX7_tellOf 62 = .ok (.aload_n 0, 1) := by decide +kernel
theorem dX7_tellOf_63 : decode cX7_tellOf 63 = .ok (.getfield 21, 3) := by decide +kernel
theorem dX7_tellOf_66 : decode cX7_tellOf 66 = .ok (.iload_n 1, 1) := by decide +kernel
theorem dX7_tellOf_67 : decode cX7_tellOf 67 = .ok (.iaload, 1) := by decide +kernel
theorem dX7_tellOf_68 : decode cX7_tellOf 68 = .ok (.ireturn, 1) := by decide +kernel
theorem dX7_coloursOf_0 : decode cX7_coloursOf 0 = .ok (.iconst 0, 1) := by decide +kernel
theorem dX7_coloursOf_1 : decode cX7_coloursOf 1 = .ok (.istore_n 3, 1) := by decide +kernel
theorem dX7_coloursOf_2 : decode cX7_coloursOf 2 = .ok (.iconst 0, 1) := by decide +kernel
theorem dX7_coloursOf_3 : decode cX7_coloursOf 3 = .ok (.istore 4, 2) := by decide +kernel
theorem dX7_coloursOf_5 : decode cX7_coloursOf 5 = .ok (.iload 4, 2) := by decide +kernel
theorem dX7_coloursOf_7 : decode cX7_coloursOf 7 = .ok (.aload_n 1, 1) := by decide +kernel
theorem dX7_coloursOf_8 : decode cX7_coloursOf 8 = .ok (.getfield 99, 3) := by decide +kernel
theorem dX7_coloursOf_11 : decode cX7_coloursOf 11 = .ok (.if_icmp .ge 30, 3) := by decide +kernel
theorem dX7_coloursOf_14 : decode cX7_coloursOf 14 = .ok (.aload_n 1, 1) := by decide +kernel
theorem dX7_coloursOf_15 : decode cX7_coloursOf 15 = .ok (.getfield 115, 3) := by decide +kernel
theorem dX7_coloursOf_18 : decode cX7_coloursOf 18 = .ok (.iload 4, 2) := by decide +kernel
theorem dX7_coloursOf_20 : decode cX7_coloursOf 20 = .ok (.iaload, 1) := by decide +kernel
theorem dX7_coloursOf_21 : decode cX7_coloursOf 21 = .ok (.iload_n 2, 1) := by decide +kernel
theorem dX7_coloursOf_22 : decode cX7_coloursOf 22 = .ok (.if_icmp .ne 13, 3) := by decide +kernel
theorem dX7_coloursOf_25 : decode cX7_coloursOf 25 = .ok (.iload_n 3, 1) := by decide +kernel
theorem dX7_coloursOf_26 : decode cX7_coloursOf 26 = .ok (.aload_n 0, 1) := by decide +kernel
theorem dX7_coloursOf_27 : decode cX7_coloursOf 27 = .ok (.getfield 15, 3) := by decide +kernel
theorem dX7_coloursOf_30 : decode cX7_coloursOf 30 = .ok (.iload 4, 2) := by decide +kernel
theorem dX7_coloursOf_32 : decode cX7_coloursOf 32 = .ok (.iaload, 1) := by decide +kernel
theorem dX7_coloursOf_33 : decode cX7_coloursOf 33 = .ok (.iadd, 1) := by decide +kernel
theorem dX7_coloursOf_34 : decode cX7_coloursOf 34 = .ok (.istore_n 3, 1) := by decide +kernel
theorem dX7_coloursOf_35 : decode cX7_coloursOf 35 = .ok (.iinc 4 1, 3) := by decide +kernel
theorem dX7_coloursOf_38 : decode cX7_coloursOf 38 = .ok (.goto (-33), 3) := by decide +kernel
theorem dX7_coloursOf_41 : decode cX7_coloursOf 41 = .ok (.iload_n 3, 1) := by decide +kernel
theorem dX7_coloursOf_42 : decode cX7_coloursOf 42 = .ok (.ireturn, 1) := by decide +kernel
theorem dX7_mostColoured_0 : decode cX7_mostColoured 0 = .ok (.iconst (-1), 1) := by decide +kernel
theorem dX7_mostColoured_1 : decode cX7_mostColoured 1 = .ok (.istore_n 2, 1) := by decide +kernel
theorem dX7_mostColoured_2 : decode cX7_mostColoured 2 = .ok (.iconst 0, 1) := by decide +kernel
theorem dX7_mostColoured_3 : decode cX7_mostColoured 3 = .ok (.istore_n 3, 1) := by decide +kernel
theorem dX7_mostColoured_4 : decode cX7_mostColoured 4 = .ok (.iload_n 3, 1) := by decide +kernel
theorem dX7_mostColoured_5 : decode cX7_mostColoured 5 = .ok (.iload_n 1, 1) := by decide +kernel
theorem dX7_mostColoured_6 : decode cX7_mostColoured 6 = .ok (.if_icmp .ge 31, 3) := by decide +kernel
theorem dX7_mostColoured_9 : decode cX7_mostColoured 9 = .ok (.iload_n 2, 1) := by decide +kernel
theorem dX7_mostColoured_10 : decode cX7_mostColoured 10 = .ok (.iconst (-1), 1) := by decide +kernel
theorem dX7_mostColoured_11 : decode cX7_mostColoured 11 = .ok (.if_icmp .eq 18, 3) := by decide +kernel
theorem dX7_mostColoured_14 : decode cX7_mostColoured 14 = .ok (.aload_n 0, 1) := by decide +kernel
theorem dX7_mostColoured_15 : decode cX7_mostColoured 15 = .ok (.getfield 15, 3) := by decide +kernel
theorem dX7_mostColoured_18 : decode cX7_mostColoured 18 = .ok (.iload_n 3, 1) := by decide +kernel
theorem dX7_mostColoured_19 : decode cX7_mostColoured 19 = .ok (.iaload, 1) := by decide +kernel
theorem dX7_mostColoured_20 : decode cX7_mostColoured 20 = .ok (.aload_n 0, 1) := by decide +kernel
theorem dX7_mostColoured_21 : decode cX7_mostColoured 21 = .ok (.getfield 15, 3) := by decide +kernel
theorem dX7_mostColoured_24 : decode cX7_mostColoured 24 = .ok (.iload_n 2, 1) := by decide +kernel
theorem dX7_mostColoured_25 : decode cX7_mostColoured 25 = .ok (.iaload, 1) := by decide +kernel
theorem dX7_mostColoured_26 : decode cX7_mostColoured 26 = .ok (.if_icmp .le 5, 3) := by decide +kernel
theorem dX7_mostColoured_29 : decode cX7_mostColoured 29 = .ok (.iload_n 3, 1) := by decide +kernel
theorem dX7_mostColoured_30 : decode cX7_mostColoured 30 = .ok (.istore_n 2, 1) := by decide +kernel
theorem dX7_mostColoured_31 : decode cX7_mostColoured 31 = .ok (.iinc 3 1, 3) := by decide +kernel
theorem dX7_mostColoured_34 : decode cX7_mostColoured 34 = .ok (.goto (-30), 3) := by decide +kernel
theorem dX7_mostColoured_37 : decode cX7_mostColoured 37 = .ok (.iload_n 2, 1) := by decide +kernel
theorem dX7_mostColoured_38 : decode cX7_mostColoured 38 = .ok (.ireturn, 1) := by decide +kernel
theorem dX7_neverPlaced_0 : decode cX7_neverPlaced 0 = .ok (.iconst 1, 1) := by decide +kernel
theorem dX7_neverPlaced_1 : decode cX7_neverPlaced 1 = .ok (.iload_n 1, 1) := by decide +kernel
theorem dX7_neverPlaced_2 : decode cX7_neverPlaced 2 = .ok (.ishl, 1) := by decide +kernel
theorem dX7_neverPlaced_3 : decode cX7_neverPlaced 3 = .ok (.iconst 1, 1) := by decide +kernel
theorem dX7_neverPlaced_4 : decode cX7_neverPlaced 4 = .ok (.isub, 1) := by decide +kernel
theorem dX7_neverPlaced_5 : decode cX7_neverPlaced 5 = .ok (.istore_n 2, 1) := by decide +kernel
theorem dX7_neverPlaced_6 : decode cX7_neverPlaced 6 = .ok (.iconst 0, 1) := by decide +kernel
theorem dX7_neverPlaced_7 : decode cX7_neverPlaced 7 = .ok (.istore_n 3, 1) := by decide +kernel
theorem dX7_neverPlaced_8 : decode cX7_neverPlaced 8 = .ok (.iload_n 3, 1) := by decide +kernel
theorem dX7_neverPlaced_9 : decode cX7_neverPlaced 9 = .ok (.aload_n 0, 1) := by decide +kernel
theorem dX7_neverPlaced_10 : decode cX7_neverPlaced 10 = .ok (.getfield 24, 3) := by decide +kernel
theorem dX7_neverPlaced_13 : decode cX7_neverPlaced 13 = .ok (.arraylength, 1) := by decide +kernel
theorem dX7_neverPlaced_14 : decode cX7_neverPlaced 14 = .ok (.if_icmp .ge 32, 3) := by decide +kernel
theorem dX7_neverPlaced_17 : decode cX7_neverPlaced 17 = .ok (.aload_n 0, 1) := by decide +kernel
theorem dX7_neverPlaced_18 : decode cX7_neverPlaced 18 = .ok (.getfield 24, 3) := by decide +kernel
theorem dX7_neverPlaced_21 : decode cX7_neverPlaced 21 = .ok (.iload_n 3, 1) := by decide +kernel
theorem dX7_neverPlaced_22 : decode cX7_neverPlaced 22 = .ok (.iaload, 1) := by decide +kernel
theorem dX7_neverPlaced_23 : decode cX7_neverPlaced 23 = .ok (.iconst (-1), 1) := by decide +kernel
theorem dX7_neverPlaced_24 : decode cX7_neverPlaced 24 = .ok (.if_icmp .eq 16, 3) := by decide +kernel
theorem dX7_neverPlaced_27 : decode cX7_neverPlaced 27 = .ok (.iload_n 2, 1) := by decide +kernel
theorem dX7_neverPlaced_28 : decode cX7_neverPlaced 28 = .ok (.iconst 1, 1) := by decide +kernel
theorem dX7_neverPlaced_29 : decode cX7_neverPlaced 29 = .ok (.aload_n 0, 1) := by decide +kernel
theorem dX7_neverPlaced_30 : decode cX7_neverPlaced 30 = .ok (.getfield 24, 3) := by decide +kernel
theorem dX7_neverPlaced_33 : decode cX7_neverPlaced 33 = .ok (.iload_n 3, 1) := by decide +kernel
theorem dX7_neverPlaced_34 : decode cX7_neverPlaced 34 = .ok (.iaload, 1) := by decide +kernel
theorem dX7_neverPlaced_35 : decode cX7_neverPlaced 35 = .ok (.ishl, 1) := by decide +kernel
theorem dX7_neverPlaced_36 : decode cX7_neverPlaced 36 = .ok (.iconst (-1), 1) := by decide +kernel
theorem dX7_neverPlaced_37 : decode cX7_neverPlaced 37 = .ok (.ixor, 1) := by decide +kernel
theorem dX7_neverPlaced_38 : decode cX7_neverPlaced 38 = .ok (.iand, 1) := by decide +kernel
theorem dX7_neverPlaced_39 : decode cX7_neverPlaced 39 = .ok (.istore_n 2, 1) := by decide +kernel
theorem dX7_neverPlaced_40 : decode cX7_neverPlaced 40 = .ok (.iinc 3 1, 3) := by decide +kernel
theorem dX7_neverPlaced_43 : decode cX7_neverPlaced 43 = .ok (.goto (-35), 3) := by decide +kernel
theorem dX7_neverPlaced_46 : decode cX7_neverPlaced 46 = .ok (.iload_n 2, 1) := by decide +kernel
theorem dX7_neverPlaced_47 : decode cX7_neverPlaced 47 = .ok (.ireturn, 1) := by decide +kernel
theorem dX8_init_0 : decode cX8_init 0 = .ok (.aload_n 0, 1) := by decide +kernel
theorem dX8_init_1 : decode cX8_init 1 = .ok (.invokespecial 1, 3) := by decide +kernel
theorem dX8_init_4 : decode cX8_init 4 = .ok (.aload_n 0, 1) := by decide +kernel
theorem dX8_init_5 : decode cX8_init 5 = .ok (.new 7, 3) := by decide +kernel
theorem dX8_init_8 : decode cX8_init 8 = .ok (.dup, 1) := by decide +kernel
theorem dX8_init_9 : decode cX8_init 9 = .ok (.bipush 10, 2) := by decide +kernel
theorem dX8_init_11 : decode cX8_init 11 = .ok (.iconst 0, 1) := by decide +kernel
theorem dX8_init_12 : decode cX8_init 12 = .ok (.invokespecial 11, 3) := by decide +kernel
theorem dX8_init_15 : decode cX8_init 15 = .ok (.putfield 14, 3) := by decide +kernel
theorem dX8_init_18 : decode cX8_init 18 = .ok (.aload_n 0, 1) := by decide +kernel
theorem dX8_init_19 : decode cX8_init 19 = .ok (.new 7, 3) := by decide +kernel
theorem dX8_init_22 : decode cX8_init 22 = .ok (.dup, 1) := by decide +kernel
theorem dX8_init_23 : decode cX8_init 23 = .ok (.iconst 4, 1) := by decide +kernel
theorem dX8_init_24 : decode cX8_init 24 = .ok (.iconst 1, 1) := by decide +kernel
theorem dX8_init_25 : decode cX8_init 25 = .ok (.invokespecial 11, 3) := by decide +kernel
theorem dX8_init_28 : decode cX8_init 28 = .ok (.putfield 18, 3) := by decide +kernel
theorem dX8_init_31 : decode cX8_init 31 = .ok (.aload_n 0, 1) := by decide +kernel
theorem dX8_init_32 : decode cX8_init 32 = .ok (.new 21, 3) := by decide +kernel
theorem dX8_init_35 : decode cX8_init 35 = .ok (.dup, 1) := by decide +kernel
theorem dX8_init_36 : decode cX8_init 36 = .ok (.invokespecial 23, 3) := by decide +kernel
theorem dX8_init_39 : decode cX8_init 39 = .ok (.putfield 24, 3) := by decide +kernel
theorem dX8_init_42 : decode cX8_init 42 = .ok (.aload_n 0, 1) := by decide +kernel
theorem dX8_init_43 : decode cX8_init 43 = .ok (.new 28, 3) := by decide +kernel
theorem dX8_init_46 : decode cX8_init 46 = .ok (.dup, 1) := by decide +kernel
theorem dX8_init_47 : decode cX8_init 47 = .ok (.invokespecial 30, 3) := by decide +kernel
theorem dX8_init_50 : decode cX8_init 50 = .ok (.putfield 31, 3) := by decide +kernel
theorem dX8_init_53 : decode cX8_init 53 = .ok (.aload_n 0, 1) := by decide +kernel
theorem dX8_init_54 : decode cX8_init 54 = .ok (.new 28, 3) := by decide +kernel
theorem dX8_init_57 : decode cX8_init 57 = .ok (.dup, 1) := by decide +kernel
theorem dX8_init_58 : decode cX8_init 58 = .ok (.invokespecial 30, 3) := by decide +kernel
theorem dX8_init_61 : decode cX8_init 61 = .ok (.putfield 35, 3) := by decide +kernel
theorem dX8_init_64 : decode cX8_init 64 = .ok (.aload_n 0, 1) := by decide +kernel
theorem dX8_init_65 : decode cX8_init 65 = .ok (.iconst 4, 1) := by decide +kernel
theorem dX8_init_66 : decode cX8_init 66 = .ok (.anewarray 38, 3) := by decide +kernel
theorem dX8_init_69 : decode cX8_init 69 = .ok (.putfield 40, 3) := by decide +kernel
theorem dX8_init_72 : decode cX8_init 72 = .ok (.aload_n 0, 1) := by decide +kernel
theorem dX8_init_73 : decode cX8_init 73 = .ok (.iconst 0, 1) := by decide +kernel
theorem dX8_init_74 : decode cX8_init 74 = .ok (.putfield 44, 3) := by decide +kernel
theorem dX8_init_77 : decode cX8_init 77 = .ok (.aload_n 0, 1) := by decide +kernel
theorem dX8_init_78 : decode cX8_init 78 = .ok (.new 48, 3) := by decide +kernel
theorem dX8_init_81 : decode cX8_init 81 = .ok (.dup, 1) := by decide +kernel
theorem dX8_init_82 : decode cX8_init 82 = .ok (.aload_n 0, 1) := by decide +kernel
theorem dX8_init_83 : decode cX8_init 83 = .ok (.getfield 31, 3) := by decide +kernel
theorem dX8_init_86 : decode cX8_init 86 = .ok (.invokespecial 50, 3) := by decide +kernel
theorem dX8_init_89 : decode cX8_init 89 = .ok (.putfield 53, 3) := by decide +kernel
theorem dX8_init_92 : decode cX8_init 92 = .ok (.aload_n 0, 1) := by decide +kernel
theorem dX8_init_93 : decode cX8_init 93 = .ok (.new 57, 3) := by decide +kernel
theorem dX8_init_96 : decode cX8_init 96 = .ok (.dup, 1) := by decide +kernel
theorem dX8_init_97 : decode cX8_init 97 = .ok (.invokespecial 59, 3) := by decide +kernel
theorem dX8_init_100 : decode cX8_init 100 = .ok (.putfield 60, 3) := by decide +kernel
theorem dX8_init_103 : decode cX8_init 103 = .ok (.aload_n 0, 1) := by decide +kernel
theorem dX8_init_104 : decode cX8_init 104 = .ok (.new 64, 3) := by decide +kernel
theorem dX8_init_107 : decode cX8_init 107 = .ok (.dup, 1) := by decide +kernel
theorem dX8_init_108 : decode cX8_init 108 = .ok (.invokespecial 66, 3) := by decide +kernel
theorem dX8_init_111 : decode cX8_init 111 = .ok (.putfield 67, 3) := by decide +kernel
theorem dX8_init_114 : decode cX8_init 114 = .ok (.aload_n 0, 1) := by decide +kernel
theorem dX8_init_115 : decode cX8_init 115 = .ok (.bipush 10, 2) := by decide +kernel
theorem dX8_init_117 : decode cX8_init 117 = .ok (.newarray .long, 2) := by decide +kernel
theorem dX8_init_119 : decode cX8_init 119 = .ok (.putfield 71, 3) := by decide +kernel
theorem dX8_init_122 : decode cX8_init 122 = .ok (.aload_n 0, 1) := by decide +kernel
theorem dX8_init_123 : decode cX8_init 123 = .ok (.bipush 48, 2) := by decide +kernel
theorem dX8_init_125 : decode cX8_init 125 = .ok (.newarray .int, 2) := by decide +kernel
theorem dX8_init_127 : decode cX8_init 127 = .ok (.putfield 75, 3) := by decide +kernel
theorem dX8_init_130 : decode cX8_init 130 = .ok (.iconst 0, 1) := by decide +kernel
theorem dX8_init_131 : decode cX8_init 131 = .ok (.istore_n 1, 1) := by decide +kernel
theorem dX8_init_132 : decode cX8_init 132 = .ok (.iload_n 1, 1) := by decide +kernel
theorem dX8_init_133 : decode cX8_init 133 = .ok (.iconst 4, 1) := by decide +kernel
theorem dX8_init_134 : decode cX8_init 134 = .ok (.if_icmp .ge 22, 3) := by decide +kernel
theorem dX8_init_137 : decode cX8_init 137 = .ok (.aload_n 0, 1) := by decide +kernel
theorem dX8_init_138 : decode cX8_init 138 = .ok (.getfield 40, 3) := by decide +kernel
theorem dX8_init_141 : decode cX8_init 141 = .ok (.iload_n 1, 1) := by decide +kernel
theorem dX8_init_142 : decode cX8_init 142 = .ok (.new 38, 3) := by decide +kernel
theorem dX8_init_145 : decode cX8_init 145 = .ok (.dup, 1) := by decide +kernel
theorem dX8_init_146 : decode cX8_init 146 = .ok (.invokespecial 79, 3) := by decide +kernel
theorem dX8_init_149 : decode cX8_init 149 = .ok (.aastore, 1) := by decide +kernel
theorem dX8_init_150 : decode cX8_init 150 = .ok (.iinc 1 1, 3) := by decide +kernel
theorem dX8_init_153 : decode cX8_init 153 = .ok (.goto (-21), 3) := by decide +kernel
theorem dX8_init_156 : decode cX8_init 156 = .ok (.return_, 1) := by decide +kernel
theorem dX8_type_0 : decode cX8_type 0 = .ok (.aload_n 0, 1) := by decide +kernel
theorem dX8_type_1 : decode cX8_type 1 = .ok (.iload_n 1, 1) := by decide +kernel
theorem dX8_type_2 : decode cX8_type 2 = .ok (.invokevirtual 80, 3) := by decide +kernel
theorem dX8_type_5 : decode cX8_type 5 = .ok (.astore_n 3, 1) := by decide +kernel
theorem dX8_type_6 : decode cX8_type 6 = .ok (.aload_n 3, 1) := by decide +kernel
theorem dX8_type_7 : decode cX8_type 7 = .ok (.ifnull 14, 3) := by decide +kernel
theorem dX8_type_10 : decode cX8_type 10 = .ok (.iload_n 2, 1) := by decide +kernel
theorem dX8_type_11 : decode cX8_type 11 = .ok (.ifCond .lt 10, 3) := by decide +kernel
theorem dX8_type_14 : decode cX8_type 14 = .ok (.iload_n 2, 1) := by decide +kernel
theorem dX8_type_15 : decode cX8_type 15 = .ok (.sipush 255, 3) := by decide +kernel
theorem dX8_type_18 : decode cX8_type 18 = .ok (.if_icmp .le 6, 3) := by decide +kernel
theorem dX8_type_21 : decode cX8_type 21 = .ok (.bipush (-2), 2) := by decide +kernel
theorem dX8_type_23 : decode cX8_type 23 = .ok (.ireturn, 1) := by decide +kernel
theorem dX8_type_24 : decode cX8_type 24 = .ok (.aload_n 3, 1) := by decide +kernel
theorem dX8_type_25 : decode cX8_type 25 = .ok (.iload_n 2, 1) := by decide +kernel
theorem dX8_type_26 : decode cX8_type 26 = .ok (.invokevirtual 84, 3) := by decide +kernel
theorem dX8_type_29 : decode cX8_type 29 = .ok (.ifCond .eq 10, 3) := by decide +kernel
theorem dX8_type_32 : decode cX8_type 32 = .ok (.aload_n 3, 1) := by decide +kernel
theorem dX8_type_33 : decode cX8_type 33 = .ok (.getfield 90, 3) := by decide +kernel
theorem dX8_type_36 : decode cX8_type 36 = .ok (.goto 5, 3) := by decide +kernel
theorem dX8_type_39 : decode cX8_type 39 = .ok (.bipush (-4), 2) := by decide +kernel
theorem dX8_type_41 : decode cX8_type 41 = .ok (.ireturn, 1) := by decide +kernel
theorem dX8_wipe_0 : decode cX8_wipe 0 = .ok (.aload_n 0, 1) := by decide +kernel
theorem dX8_wipe_1 : decode cX8_wipe 1 = .ok (.iload_n 1, 1) := by decide +kernel
theorem dX8_wipe_2 : decode cX8_wipe 2 = .ok (.invokevirtual 80, 3) := by decide +kernel
theorem dX8_wipe_5 : decode cX8_wipe 5 = .ok (.astore_n 2, 1) := by decide +kernel
theorem dX8_wipe_6 : decode cX8_wipe 6 = .ok (.aload_n 2, 1) := by decide +kernel
theorem dX8_wipe_7 : decode cX8_wipe 7 = .ok (.ifnonnull 6, 3) := by decide +kernel
theorem dX8_wipe_10 : decode cX8_wipe 10 = .ok (.bipush (-2), 2) := by decide +kernel
theorem dX8_wipe_12 : decode cX8_wipe 12 = .ok (.ireturn, 1) := by decide +kernel
theorem dX8_wipe_13 : decode cX8_wipe 13 = .ok (.aload_n 2, 1) := by decide +kernel
theorem dX8_wipe_14 : decode cX8_wipe 14 = .ok (.getfield 90, 3) := by decide +kernel
theorem dX8_wipe_17 : decode cX8_wipe 17 = .ok (.istore_n 3, 1) := by decide +kernel
theorem dX8_wipe_18 : decode cX8_wipe 18 = .ok (.aload_n 2, 1) := by decide +kernel
theorem dX8_wipe_19 : decode cX8_wipe 19 = .ok (.iconst 0, 1) := by decide +kernel
theorem dX8_wipe_20 : decode cX8_wipe 20 = .ok (.invokevirtual 93, 3) := by decide +kernel
theorem dX8_wipe_23 : decode cX8_wipe 23 = .ok (.iload_n 3, 1) := by decide +kernel
theorem dX8_wipe_24 : decode cX8_wipe 24 = .ok (.ireturn, 1) := by decide +kernel
theorem dX8_undo_0 : decode cX8_undo 0 = .ok (.aload_n 0, 1) := by decide +kernel
theorem dX8_undo_1 : decode cX8_undo 1 = .ok (.iload_n 1, 1) := by decide +kernel
theorem dX8_undo_2 : decode cX8_undo 2 = .ok (.invokevirtual 80, 3) := by decide +kernel
theorem dX8_undo_5 : decode cX8_undo 5 = .ok (.astore_n 2, 1) := by decide +kernel
theorem dX8_undo_6 : decode cX8_undo 6 = .ok (.aload_n 2, 1) := by decide +kernel
theorem dX8_undo_7 : decode cX8_undo 7 = .ok (.ifnonnull 6, 3) := by decide +kernel
theorem dX8_undo_10 : decode cX8_undo 10 = .ok (.bipush (-2), 2) := by decide +kernel
theorem dX8_undo_12 : decode cX8_undo 12 = .ok (.ireturn, 1) := by decide +kernel
theorem dX8_undo_13 : decode cX8_undo 13 = .ok (.aload_n 2, 1) := by decide +kernel
theorem dX8_undo_14 : decode cX8_undo 14 = .ok (.getfield 90, 3) := by decide +kernel
theorem dX8_undo_17 : decode cX8_undo 17 = .ok (.ifCond .ne 6, 3) := by decide +kernel
theorem dX8_undo_20 : decode cX8_undo 20 = .ok (.bipush (-3), 2) := by decide +kernel
theorem dX8_undo_22 : decode cX8_undo 22 = .ok (.ireturn, 1) := by decide +kernel
theorem dX8_undo_23 : decode cX8_undo 23 = .ok (.aload_n 2, 1) := by decide +kernel
theorem dX8_undo_24 : decode cX8_undo 24 = .ok (.aload_n 2, 1) := by decide +kernel
theorem dX8_undo_25 : decode cX8_undo 25 = .ok (.getfield 90, 3) := by decide +kernel
theorem dX8_undo_28 : decode cX8_undo 28 = .ok (.iconst 1, 1) := by decide +kernel
theorem dX8_undo_29 : decode cX8_undo 29 = .ok (.isub, 1) := by decide +kernel
theorem dX8_undo_30 : decode cX8_undo 30 = .ok (.invokevirtual 93, 3) := by decide +kernel
theorem dX8_undo_33 : decode cX8_undo 33 = .ok (.aload_n 2, 1) := by decide +kernel
theorem dX8_undo_34 : decode cX8_undo 34 = .ok (.getfield 90, 3) := by decide +kernel
theorem dX8_undo_37 : decode cX8_undo 37 = .ok (.ireturn, 1) := by decide +kernel
theorem dX8_fault_0 : decode cX8_fault 0 = .ok (.aload_n 0, 1) := by decide +kernel
theorem dX8_fault_1 : decode cX8_fault 1 = .ok (.iload_n 1, 1) := by decide +kernel
theorem dX8_fault_2 : decode cX8_fault 2 = .ok (.invokevirtual 80, 3) := by decide +kernel
theorem dX8_fault_5 : decode cX8_fault 5 = .ok (.astore_n 2, 1) := by decide +kernel
theorem dX8_fault_6 : decode cX8_fault 6 = .ok (.aload_n 2, 1) := by decide +kernel
theorem dX8_fault_7 : decode cX8_fault 7 = .ok (.ifnonnull 8, 3) := by decide +kernel
theorem dX8_fault_10 : decode cX8_fault 10 = .ok (.bipush (-2), 2) := by decide +kernel
theorem dX8_fault_12 : decode cX8_fault 12 = .ok (.goto 7, 3) := by decide +kernel
theorem dX8_fault_15 : decode cX8_fault 15 = .ok (.aload_n 2, 1) := by decide +kernel
theorem dX8_fault_16 : decode cX8_fault 16 = .ok (.getfield 97, 3) := by decide +kernel
theorem dX8_fault_19 : decode cX8_fault 19 = .ok (.ireturn, 1) := by decide +kernel
theorem dX8_thing_0 : decode cX8_thing 0 = .ok (.iload_n 1, 1) := by decide +kernel
theorem dX8_thing_1 : decode cX8_thing 1 = .ok (.aload_n 0, 1) := by decide +kernel
theorem dX8_thing_2 : decode cX8_thing 2 = .ok (.getfield 14, 3) := by decide +kernel
theorem dX8_thing_5 : decode cX8_thing 5 = .ok (.invokevirtual 100, 3) := by decide +kernel
theorem dX8_thing_8 : decode cX8_thing 8 = .ok (.invokestatic 104, 3) := by decide +kernel
theorem dX8_thing_11 : decode cX8_thing 11 = .ok (.ifCond .eq 23, 3) := by decide +kernel
theorem dX8_thing_14 : decode cX8_thing 14 = .ok (.iload_n 2, 1) := by decide +kernel
theorem dX8_thing_15 : decode cX8_thing 15 = .ok (.iconst 3, 1) := by decide +kernel
theorem dX8_thing_16 : decode cX8_thing 16 = .ok (.invokestatic 104, 3) := by decide +kernel
theorem dX8_thing_19 : decode cX8_thing 19 = .ok (.ifCond .eq 15, 3) := by decide +kernel
theorem dX8_thing_22 : decode cX8_thing 22 = .ok (.aload_n 0, 1) := by decide +kernel
theorem dX8_thing_23 : decode cX8_thing 23 = .ok (.getfield 14, 3) := by decide +kernel
theorem dX8_thing_26 : decode cX8_thing 26 = .ok (.iload_n 1, 1) := by decide +kernel
theorem dX8_thing_27 : decode cX8_thing 27 = .ok (.iload_n 2, 1) := by decide +kernel
theorem dX8_thing_28 : decode cX8_thing 28 = .ok (.invokevirtual 108, 3) := by decide +kernel
theorem dX8_thing_31 : decode cX8_thing 31 = .ok (.goto 5, 3) := by decide +kernel
theorem dX8_thing_34 : decode cX8_thing 34 = .ok (.bipush (-2), 2) := by decide +kernel
theorem dX8_thing_36 : decode cX8_thing 36 = .ok (.ireturn, 1) := by decide +kernel
theorem dX8_judge_0 : decode cX8_judge 0 = .ok (.iload_n 1, 1) := by decide +kernel
theorem dX8_judge_1 : decode cX8_judge 1 = .ok (.aload_n 0, 1) := by decide +kernel
theorem dX8_judge_2 : decode cX8_judge 2 = .ok (.getfield 18, 3) := by decide +kernel
theorem dX8_judge_5 : decode cX8_judge 5 = .ok (.invokevirtual 100, 3) := by decide +kernel
theorem dX8_judge_8 : decode cX8_judge 8 = .ok (.invokestatic 104, 3) := by decide +kernel
theorem dX8_judge_11 : decode cX8_judge 11 = .ok (.ifCond .eq 23, 3) := by decide +kernel
theorem dX8_judge_14 : decode cX8_judge 14 = .ok (.iload_n 2, 1) := by decide +kernel
theorem dX8_judge_15 : decode cX8_judge 15 = .ok (.iconst 3, 1) := by decide +kernel
theorem dX8_judge_16 : decode cX8_judge 16 = .ok (.invokestatic 104, 3) := by decide +kernel
theorem dX8_judge_19 : decode cX8_judge 19 = .ok (.ifCond .eq 15, 3) := by decide +kernel
theorem dX8_judge_22 : decode cX8_judge 22 = .ok (.aload_n 0, 1) := by decide +kernel
theorem dX8_judge_23 : decode cX8_judge 23 = .ok (.getfield 18, 3) := by decide +kernel
theorem dX8_judge_26 : decode cX8_judge 26 = .ok (.iload_n 1, 1) := by decide +kernel
theorem dX8_judge_27 : decode cX8_judge 27 = .ok (.iload_n 2, 1) := by decide +kernel
theorem dX8_judge_28 : decode cX8_judge 28 = .ok (.invokevirtual 108, 3) := by decide +kernel
theorem dX8_judge_31 : decode cX8_judge 31 = .ok (.goto 5, 3) := by decide +kernel
theorem dX8_judge_34 : decode cX8_judge 34 = .ok (.bipush (-2), 2) := by decide +kernel
theorem dX8_judge_36 : decode cX8_judge 36 = .ok (.ireturn, 1) := by decide +kernel
theorem dX8_event_0 : decode cX8_event 0 = .ok (.iload_n 1, 1) := by decide +kernel
theorem dX8_event_1 : decode cX8_event 1 = .ok (.iload_n 2, 1) := by decide +kernel
theorem dX8_event_2 : decode cX8_event 2 = .ok (.iload_n 3, 1) := by decide +kernel
theorem dX8_event_3 : decode cX8_event 3 = .ok (.invokestatic 112, 3) := by decide +kernel
theorem dX8_event_6 : decode cX8_event 6 = .ok (.ifCond .ne 6, 3) := by decide +kernel
theorem dX8_event_9 : decode cX8_event 9 = .ok (.bipush (-2), 2) := by decide +kernel
theorem dX8_event_11 : decode cX8_event 11 = .ok (.ireturn, 1) := by decide +kernel
theorem dX8_event_12 : decode cX8_event 12 = .ok (.aload_n 0, 1) := by decide +kernel
theorem dX8_event_13 : decode cX8_event 13 = .ok (.getfield 31, 3) := by decide +kernel
theorem dX8_event_16 : decode cX8_event 16 = .ok (.iload_n 1, 1) := by decide +kernel
theorem dX8_event_17 : decode cX8_event 17 = .ok (.iload_n 2, 1) := by decide +kernel
theorem dX8_event_18 : decode cX8_event 18 = .ok (.iload_n 3, 1) := by decide +kernel
theorem dX8_event_19 : decode cX8_event 19 = .ok (.invokevirtual 116, 3) := by decide +kernel
theorem dX8_event_22 : decode cX8_event 22 = .ok (.ifCond .eq 13, 3) := by decide +kernel
theorem dX8_event_25 : decode cX8_event 25 = .ok (.aload_n 0, 1) := by decide +kernel
theorem dX8_event_26 : decode cX8_event 26 = .ok (.getfield 31, 3) := by decide +kernel
theorem dX8_event_29 : decode cX8_event 29 = .ok (.getfield 119, 3) := by decide +kernel
theorem dX8_event_32 : decode cX8_event 32 = .ok (.goto 5, 3) := by decide +kernel
theorem dX8_event_35 : decode cX8_event 35 = .ok (.bipush (-4), 2) := by decide +kernel
theorem dX8_event_37 : decode cX8_event 37 = .ok (.ireturn, 1) := by decide +kernel
theorem dX8_back_0 : decode cX8_back 0 = .ok (.aload_n 0, 1) := by decide +kernel
theorem dX8_back_1 : decode cX8_back 1 = .ok (.getfield 31, 3) := by decide +kernel
theorem dX8_back_4 : decode cX8_back 4 = .ok (.getfield 119, 3) := by decide +kernel
theorem dX8_back_7 : decode cX8_back 7 = .ok (.ifCond .ne 6, 3) := by decide +kernel
theorem dX8_back_10 : decode cX8_back 10 = .ok (.bipush (-3), 2) := by decide +kernel
theorem dX8_back_12 : decode cX8_back 12 = .ok (.ireturn, 1) := by decide +kernel
theorem dX8_back_13 : decode cX8_back 13 = .ok (.aload_n 0, 1) := by decide +kernel
theorem dX8_back_14 : decode cX8_back 14 = .ok (.getfield 31, 3) := by decide +kernel
theorem dX8_back_17 : decode cX8_back 17 = .ok (.dup, 1) := by decide +kernel
theorem dX8_back_18 : decode cX8_back 18 = .ok (.getfield 119, 3) := by decide +kernel
theorem dX8_back_21 : decode cX8_back 21 = .ok (.iconst 1, 1) := by decide +kernel
theorem dX8_back_22 : decode cX8_back 22 = .ok (.isub, 1) := by decide +kernel
theorem dX8_back_23 : decode cX8_back 23 = .ok (.putfield 119, 3) := by decide +kernel
theorem dX8_back_26 : decode cX8_back 26 = .ok (.aload_n 0, 1) := by decide +kernel
theorem dX8_back_27 : decode cX8_back 27 = .ok (.getfield 31, 3) := by decide +kernel
theorem dX8_back_30 : decode cX8_back 30 = .ok (.getfield 119, 3) := by decide +kernel
theorem dX8_back_33 : decode cX8_back 33 = .ok (.ireturn, 1) := by decide +kernel
theorem dX8_read_0 : decode cX8_read 0 = .ok (.iload_n 1, 1) := by decide +kernel
theorem dX8_read_1 : decode cX8_read 1 = .ok (.iconst 4, 1) := by decide +kernel
theorem dX8_read_2 : decode cX8_read 2 = .ok (.invokestatic 104, 3) := by decide +kernel
theorem dX8_read_5 : decode cX8_read 5 = .ok (.ifCond .ne 6, 3) := by decide +kernel
theorem dX8_read_8 : decode cX8_read 8 = .ok (.bipush (-2), 2) := by decide +kernel
theorem dX8_read_10 : decode cX8_read 10 = .ok (.ireturn, 1) := by decide +kernel
theorem dX8_read_11 : decode cX8_read 11 = .ok (.aload_n 0, 1) := by decide +kernel
theorem dX8_read_12 : decode cX8_read 12 = .ok (.getfield 40, 3) := by decide +kernel
theorem dX8_read_15 : decode cX8_read 15 = .ok (.iload_n 1, 1) := by decide +kernel
theorem dX8_read_16 : decode cX8_read 16 = .ok (.aaload, 1) := by decide +kernel
theorem dX8_read_17 : decode cX8_read 17 = .ok (.astore_n 2, 1) := by decide +kernel
theorem dX8_read_18 : decode cX8_read 18 = .ok (.aload_n 2, 1) := by decide +kernel
theorem dX8_read_19 : decode cX8_read 19 = .ok (.invokevirtual 121, 3) := by decide +kernel
theorem dX8_read_22 : decode cX8_read 22 = .ok (.ifCond .eq 9, 3) := by decide +kernel
theorem dX8_read_25 : decode cX8_read 25 = .ok (.aload_n 0, 1) := by decide +kernel
theorem dX8_read_26 : decode cX8_read 26 = .ok (.iconst 1, 1) := by decide +kernel
theorem dX8_read_27 : decode cX8_read 27 = .ok (.invokevirtual 125, 3) := by decide +kernel
theorem dX8_read_30 : decode cX8_read 30 = .ok (.ireturn, 1) := by decide +kernel
theorem dX8_read_31 : decode cX8_read 31 = .ok (.iconst 0, 1) := by decide +kernel
theorem dX8_read_32 : decode cX8_read 32 = .ok (.istore_n 3, 1) := by decide +kernel
theorem dX8_read_33 : decode cX8_read 33 = .ok (.iconst 0, 1) := by decide +kernel
theorem dX8_read_34 : decode cX8_read 34 = .ok (.istore 4, 2) := by decide +kernel
theorem dX8_read_36 : decode cX8_read 36 = .ok (.iload 4, 2) := by decide +kernel
theorem dX8_read_38 : decode cX8_read 38 = .ok (.iconst 2, 1) := by decide +kernel
theorem dX8_read_39 : decode cX8_read 39 = .ok (.iadd, 1) := by decide +kernel
theorem dX8_read_40 : decode cX8_read 40 = .ok (.aload_n 2, 1) := by decide +kernel
theorem dX8_read_41 : decode cX8_read 41 = .ok (.getfield 129, 3) := by decide +kernel
theorem dX8_read_44 : decode cX8_read 44 = .ok (.if_icmp .ge 74, 3) := by decide +kernel
theorem dX8_read_47 : decode cX8_read 47 = .ok (.aload_n 2, 1) := by decide +kernel
theorem dX8_read_48 : decode cX8_read 48 = .ok (.getfield 130, 3) := by decide +kernel
theorem dX8_read_51 : decode cX8_read 51 = .ok (.iload 4, 2) := by decide +kernel
theorem dX8_read_53 : decode cX8_read 53 = .ok (.iaload, 1) := by decide +kernel
theorem dX8_read_54 : decode cX8_read 54 = .ok (.istore 5, 2) := by decide +kernel
theorem dX8_read_56 : decode cX8_read 56 = .ok (.aload_n 2, 1) := by decide +kernel
theorem dX8_read_57 : decode cX8_read 57 = .ok (.getfield 130, 3) := by decide +kernel
theorem dX8_read_60 : decode cX8_read 60 = .ok (.iload 4, 2) := by decide +kernel
theorem dX8_read_62 : decode cX8_read 62 = .ok (.iconst 1, 1) := by decide +kernel
theorem dX8_read_63 : decode cX8_read 63 = .ok (.iadd, 1) := by decide +kernel
theorem dX8_read_64 : decode cX8_read 64 = .ok (.iaload, 1) := by decide +kernel
theorem dX8_read_65 : decode cX8_read 65 = .ok (.istore 6, 2) := by decide +kernel
theorem dX8_read_67 : decode cX8_read 67 = .ok (.aload_n 2, 1) := by decide +kernel
theorem dX8_read_68 : decode cX8_read 68 = .ok (.getfield 130, 3) := by decide +kernel
theorem dX8_read_71 : decode cX8_read 71 = .ok (.iload 4, 2) := by decide +kernel
theorem dX8_read_73 : decode cX8_read 73 = .ok (.iconst 2, 1) := by decide +kernel
theorem dX8_read_74 : decode cX8_read 74 = .ok (.iadd, 1) := by decide +kernel
theorem dX8_read_75 : decode cX8_read 75 = .ok (.iaload, 1) := by decide +kernel
theorem dX8_read_76 : decode cX8_read 76 = .ok (.istore 7, 2) := by decide +kernel
theorem dX8_read_78 : decode cX8_read 78 = .ok (.iload 5, 2) := by decide +kernel
theorem dX8_read_80 : decode cX8_read 80 = .ok (.iload 6, 2) := by decide +kernel
theorem dX8_read_82 : decode cX8_read 82 = .ok (.iload 7, 2) := by decide +kernel
theorem dX8_read_84 : decode cX8_read 84 = .ok (.invokestatic 112, 3) := by decide +kernel
theorem dX8_read_87 : decode cX8_read 87 = .ok (.ifCond .eq 31, 3) := by decide +kernel
theorem dX8_read_90 : decode cX8_read 90 = .ok (.aload_n 0, 1) := by decide +kernel
theorem dX8_read_91 : decode cX8_read 91 = .ok (.getfield 31, 3) := by decide +kernel
theorem dX8_read_94 : decode cX8_read 94 = .ok (.iload 5, 2) := by decide +kernel
theorem dX8_read_96 : decode cX8_read 96 = .ok (.iload 6, 2) := by decide +kernel
theorem dX8_read_98 : decode cX8_read 98 = .ok (.iload 7, 2) := by decide +kernel
theorem dX8_read_100 : decode cX8_read 100 = .ok (.invokevirtual 116, 3) := by decide +kernel
theorem dX8_read_103 : decode cX8_read 103 = .ok (.ifCond .ne 6, 3) := by decide +kernel
theorem dX8_read_106 : decode cX8_read 106 = .ok (.goto 12, 3) := by decide +kernel
theorem dX8_read_109 : decode cX8_read 109 = .ok (.iinc 3 1, 3) := by decide +kernel
theorem dX8_read_112 : decode cX8_read 112 = .ok (.iinc 4 3, 3) := by decide +kernel
theorem dX8_read_115 : decode cX8_read 115 = .ok (.goto (-79), 3) := by decide +kernel
theorem dX8_read_118 : decode cX8_read 118 = .ok (.iload_n 3, 1) := by decide +kernel
theorem dX8_read_119 : decode cX8_read 119 = .ok (.ireturn, 1) := by decide +kernel
theorem dX8_place_0 : decode cX8_place 0 = .ok (.iload_n 1, 1) := by decide +kernel
theorem dX8_place_1 : decode cX8_place 1 = .ok (.bipush 12, 2) := by decide +kernel
theorem dX8_place_3 : decode cX8_place 3 = .ok (.invokestatic 104, 3) := by decide +kernel
theorem dX8_place_6 : decode cX8_place 6 = .ok (.ifCond .eq 11, 3) := by decide +kernel
theorem dX8_place_9 : decode cX8_place 9 = .ok (.iload_n 2, 1) := by decide +kernel
theorem dX8_place_10 : decode cX8_place 10 = .ok (.iconst 3, 1) := by decide +kernel
theorem dX8_place_11 : decode cX8_place 11 = .ok (.invokestatic 104, 3) := by decide +kernel
theorem dX8_place_14 : decode cX8_place 14 = .ok (.ifCond .ne 6, 3) := by decide +kernel
theorem dX8_place_17 : decode cX8_place 17 = .ok (.bipush (-2), 2) := by decide +kernel
theorem dX8_place_19 : decode cX8_place 19 = .ok (.ireturn, 1) := by decide +kernel
theorem dX8_place_20 : decode cX8_place 20 = .ok (.aload_n 0, 1) := by decide +kernel
theorem dX8_place_21 : decode cX8_place 21 = .ok (.iload_n 1, 1) := by decide +kernel
theorem dX8_place_22 : decode cX8_place 22 = .ok (.iconst 1, 1) := by decide +kernel
theorem dX8_place_23 : decode cX8_place 23 = .ok (.iadd, 1) := by decide +kernel
theorem dX8_place_24 : decode cX8_place 24 = .ok (.invokevirtual 133, 3) := by decide +kernel
theorem dX8_place_27 : decode cX8_place 27 = .ok (.aload_n 0, 1) := by decide +kernel
theorem dX8_place_28 : decode cX8_place 28 = .ok (.getfield 60, 3) := by decide +kernel
theorem dX8_place_31 : decode cX8_place 31 = .ok (.iload_n 1, 1) := by decide +kernel
theorem dX8_place_32 : decode cX8_place 32 = .ok (.iload_n 2, 1) := by decide +kernel
theorem dX8_place_33 : decode cX8_place 33 = .ok (.invokevirtual 136, 3) := by decide +kernel
theorem dX8_place_36 : decode cX8_place 36 = .ok (.ireturn, 1) := by decide +kernel
theorem dX8_at_0 : decode cX8_at 0 = .ok (.iload_n 1, 1) := by decide +kernel
theorem dX8_at_1 : decode cX8_at 1 = .ok (.bipush 12, 2) := by decide +kernel
theorem dX8_at_3 : decode cX8_at 3 = .ok (.invokestatic 104, 3) := by decide +kernel
theorem dX8_at_6 : decode cX8_at 6 = .ok (.ifCond .eq 25, 3) := by decide +kernel
theorem dX8_at_9 : decode cX8_at 9 = .ok (.iload_n 2, 1) := by decide +kernel
theorem dX8_at_10 : decode cX8_at 10 = .ok (.aload_n 0, 1) := by decide +kernel
theorem dX8_at_11 : decode cX8_at 11 = .ok (.getfield 14, 3) := by decide +kernel
theorem dX8_at_14 : decode cX8_at 14 = .ok (.invokevirtual 100, 3) := by decide +kernel
theorem dX8_at_17 : decode cX8_at 17 = .ok (.invokestatic 104, 3) := by decide +kernel
theorem dX8_at_20 : decode cX8_at 20 = .ok (.ifCond .eq 11, 3) := by decide +kernel
theorem dX8_at_23 : decode cX8_at 23 = .ok (.iload_n 3, 1) := by decide +kernel
theorem dX8_at_24 : decode cX8_at 24 = .ok (.iconst 5, 1) := by decide +kernel
theorem dX8_at_25 : decode cX8_at 25 = .ok (.invokestatic 104, 3) := by decide +kernel
theorem dX8_at_28 : decode cX8_at 28 = .ok (.ifCond .ne 6, 3) := by decide +kernel
theorem dX8_at_31 : decode cX8_at 31 = .ok (.bipush (-2), 2) := by decide +kernel
theorem dX8_at_33 : decode cX8_at 33 = .ok (.ireturn, 1) := by decide +kernel
theorem dX8_at_34 : decode cX8_at 34 = .ok (.aload_n 0, 1) := by decide +kernel
theorem dX8_at_35 : decode cX8_at 35 = .ok (.iload_n 1, 1) := by decide +kernel
theorem dX8_at_36 : decode cX8_at 36 = .ok (.iconst 1, 1) := by decide +kernel
theorem dX8_at_37 : decode cX8_at 37 = .ok (.iadd, 1) := by decide +kernel
theorem dX8_at_38 : decode cX8_at 38 = .ok (.invokevirtual 133, 3) := by decide +kernel
theorem dX8_at_41 : decode cX8_at 41 = .ok (.aload_n 0, 1) := by decide +kernel
theorem dX8_at_42 : decode cX8_at 42 = .ok (.getfield 60, 3) := by decide +kernel
theorem dX8_at_45 : decode cX8_at 45 = .ok (.iload_n 2, 1) := by decide +kernel
theorem dX8_at_46 : decode cX8_at 46 = .ok (.iload_n 3, 1) := by decide +kernel
theorem dX8_at_47 : decode cX8_at 47 = .ok (.invokevirtual 139, 3) := by decide +kernel
theorem dX8_at_50 : decode cX8_at 50 = .ok (.ireturn, 1) := by decide +kernel
theorem dX8_show_0 : decode cX8_show 0 = .ok (.iload_n 1, 1) := by decide +kernel
theorem dX8_show_1 : decode cX8_show 1 = .ok (.bipush 12, 2) := by decide +kernel
theorem dX8_show_3 : decode cX8_show 3 = .ok (.invokestatic 104, 3) := by decide +kernel
theorem dX8_show_6 : decode cX8_show 6 = .ok (.ifCond .eq 11, 3) := by decide +kernel
theorem dX8_show_9 : decode cX8_show 9 = .ok (.iload_n 2, 1) := by decide +kernel
theorem dX8_show_10 : decode cX8_show 10 = .ok (.iconst 2, 1) := by decide +kernel
theorem dX8_show_11 : decode cX8_show 11 = .ok (.invokestatic 104, 3) := by decide +kernel
theorem dX8_show_14 : decode cX8_show 14 = .ok (.ifCond .ne 6, 3) := by decide +kernel
theorem dX8_show_17 : decode cX8_show 17 = .ok (.bipush (-2), 2) := by decide +kernel
theorem dX8_show_19 : decode cX8_show 19 = .ok (.ireturn, 1) := by decide +kernel
theorem dX8_show_20 : decode cX8_show 20 = .ok (.aload_n 0, 1) := by decide +kernel
theorem dX8_show_21 : decode cX8_show 21 = .ok (.iload_n 1, 1) := by decide +kernel
theorem dX8_show_22 : decode cX8_show 22 = .ok (.iconst 1, 1) := by decide +kernel
theorem dX8_show_23 : decode cX8_show 23 = .ok (.iadd, 1) := by decide +kernel
theorem dX8_show_24 : decode cX8_show 24 = .ok (.invokevirtual 133, 3) := by decide +kernel
theorem dX8_show_27 : decode cX8_show 27 = .ok (.iload_n 2, 1) := by decide +kernel
theorem dX8_show_28 : decode cX8_show 28 = .ok (.ifCond .ne 14, 3) := by decide +kernel
theorem dX8_show_31 : decode cX8_show 31 = .ok (.aload_n 0, 1) := by decide +kernel
theorem dX8_show_32 : decode cX8_show 32 = .ok (.getfield 53, 3) := by decide +kernel
theorem dX8_show_35 : decode cX8_show 35 = .ok (.iload_n 1, 1) := by decide +kernel
theorem dX8_show_36 : decode cX8_show 36 = .ok (.invokevirtual 142, 3) := by decide +kernel
theorem dX8_show_39 : decode cX8_show 39 = .ok (.goto 10, 3) := by decide +kernel
theorem dX8_show_42 : decode cX8_show 42 = .ok (.aload_n 0, 1) := by decide +kernel
theorem dX8_show_43 : decode cX8_show 43 = .ok (.getfield 60, 3) := by decide +kernel
theorem dX8_show_46 : decode cX8_show 46 = .ok (.getfield 145, 3) := by decide +kernel
theorem dX8_show_49 : decode cX8_show 49 = .ok (.ireturn, 1) := by decide +kernel
theorem dX8_owned_0 : decode cX8_owned 0 = .ok (.iload_n 1, 1) := by decide +kernel
theorem dX8_owned_1 : decode cX8_owned 1 = .ok (.bipush 6, 2) := by decide +kernel
theorem dX8_owned_3 : decode cX8_owned 3 = .ok (.invokestatic 104, 3) := by decide +kernel
theorem dX8_owned_6 : decode cX8_owned 6 = .ok (.ifCond .ne 6, 3) := by decide +kernel
theorem dX8_owned_9 : decode cX8_owned 9 = .ok (.bipush (-2), 2) := by decide +kernel
theorem dX8_owned_11 : decode cX8_owned 11 = .ok (.ireturn, 1) := by decide +kernel
theorem dX8_owned_12 : decode cX8_owned 12 = .ok (.aload_n 0, 1) := by decide +kernel
theorem dX8_owned_13 : decode cX8_owned 13 = .ok (.bipush 12, 2) := by decide +kernel
theorem dX8_owned_15 : decode cX8_owned 15 = .ok (.invokevirtual 133, 3) := by decide +kernel
theorem dX8_owned_18 : decode cX8_owned 18 = .ok (.aload_n 0, 1) := by decide +kernel
theorem dX8_owned_19 : decode cX8_owned 19 = .ok (.getfield 60, 3) := by decide +kernel
theorem dX8_owned_22 : decode cX8_owned 22 = .ok (.aload_n 0, 1) := by decide +kernel
theorem dX8_owned_23 : decode cX8_owned 23 = .ok (.getfield 53, 3) := by decide +kernel
theorem dX8_owned_26 : decode cX8_owned 26 = .ok (.iload_n 1, 1) := by decide +kernel
theorem dX8_owned_27 : decode cX8_owned 27 = .ok (.invokevirtual 148, 3) := by decide +kernel
theorem dX8_owned_30 : decode cX8_owned 30 = .ok (.ireturn, 1) := by decide +kernel
theorem dX8_champion_0 : decode cX8_champion 0 = .ok (.aload_n 0, 1) := by decide +kernel
theorem dX8_champion_1 : decode cX8_champion 1 = .ok (.bipush 12, 2) := by decide +kernel
theorem dX8_champion_3 : decode cX8_champion 3 = .ok (.invokevirtual 133, 3) := by decide +kernel
theorem dX8_champion_6 : decode cX8_champion 6 = .ok (.aload_n 0, 1) := by decide +kernel
theorem dX8_champion_7 : decode cX8_champion 7 = .ok (.getfield 67, 3) := by decide +kernel
theorem dX8_champion_10 : decode cX8_champion 10 = .ok (.invokevirtual 152, 3) := by decide +kernel
theorem dX8_champion_13 : decode cX8_champion 13 = .ok (.iconst 0, 1) := by decide +kernel
theorem dX8_champion_14 : decode cX8_champion 14 = .ok (.istore_n 1, 1) := by decide +kernel
theorem dX8_champion_15 : decode cX8_champion 15 = .ok (.iload_n 1, 1) := by decide +kernel
theorem dX8_champion_16 : decode cX8_champion 16 = .ok (.bipush 6, 2) := by decide +kernel
theorem dX8_champion_18 : decode cX8_champion 18 = .ok (.if_icmp .ge 29, 3) := by decide +kernel
theorem dX8_champion_21 : decode cX8_champion 21 = .ok (.aload_n 0, 1) := by decide +kernel
theorem dX8_champion_22 : decode cX8_champion 22 = .ok (.getfield 67, 3) := by decide +kernel
theorem dX8_champion_25 : decode cX8_champion 25 = .ok (.iload_n 1, 1) := by decide +kernel
theorem dX8_champion_26 : decode cX8_champion 26 = .ok (.aload_n 0, 1) := by decide +kernel
theorem dX8_champion_27 : decode cX8_champion 27 = .ok (.getfield 60, 3) := by decide +kernel
theorem dX8_champion_30 : decode cX8_champion 30 = .ok (.aload_n 0, 1) := by decide +kernel
theorem dX8_champion_31 : decode cX8_champion 31 = .ok (.getfield 53, 3) := by decide +kernel
theorem dX8_champion_34 : decode cX8_champion 34 = .ok (.iload_n 1, 1) := by decide +kernel
theorem dX8_champion_35 : decode cX8_champion 35 = .ok (.invokevirtual 148, 3) := by decide +kernel
theorem dX8_champion_38 : decode cX8_champion 38 = .ok (.invokevirtual 155, 3) := by decide +kernel
theorem dX8_champion_41 : decode cX8_champion 41 = .ok (.iinc 1 1, 3) := by decide +kernel
theorem dX8_champion_44 : decode cX8_champion 44 = .ok (.goto (-29), 3) := by decide +kernel
theorem dX8_champion_47 : decode cX8_champion 47 = .ok (.aload_n 0, 1) := by decide +kernel
theorem dX8_champion_48 : decode cX8_champion 48 = .ok (.getfield 67, 3) := by decide +kernel
theorem dX8_champion_51 : decode cX8_champion 51 = .ok (.getfield 158, 3) := by decide +kernel
theorem dX8_champion_54 : decode cX8_champion 54 = .ok (.ireturn, 1) := by decide +kernel
theorem dX8_best_0 : decode cX8_best 0 = .ok (.aload_n 0, 1) := by decide +kernel
theorem dX8_best_1 : decode cX8_best 1 = .ok (.bipush 12, 2) := by decide +kernel
theorem dX8_best_3 : decode cX8_best 3 = .ok (.invokevirtual 133, 3) := by decide +kernel
theorem dX8_best_6 : decode cX8_best 6 = .ok (.aload_n 0, 1) := by decide +kernel
theorem dX8_best_7 : decode cX8_best 7 = .ok (.getfield 60, 3) := by decide +kernel
theorem dX8_best_10 : decode cX8_best 10 = .ok (.aload_n 0, 1) := by decide +kernel
theorem dX8_best_11 : decode cX8_best 11 = .ok (.getfield 53, 3) := by decide +kernel
theorem dX8_best_14 : decode cX8_best 14 = .ok (.getfield 161, 3) := by decide +kernel
theorem dX8_best_17 : decode cX8_best 17 = .ok (.invokevirtual 163, 3) := by decide +kernel
theorem dX8_best_20 : decode cX8_best 20 = .ok (.ireturn, 1) := by decide +kernel
theorem dX8_left_0 : decode cX8_left 0 = .ok (.iload_n 1, 1) := by decide +kernel
theorem dX8_left_1 : decode cX8_left 1 = .ok (.iconst 2, 1) := by decide +kernel
theorem dX8_left_2 : decode cX8_left 2 = .ok (.invokestatic 104, 3) := by decide +kernel
theorem dX8_left_5 : decode cX8_left 5 = .ok (.ifCond .ne 6, 3) := by decide +kernel
theorem dX8_left_8 : decode cX8_left 8 = .ok (.bipush (-2), 2) := by decide +kernel
theorem dX8_left_10 : decode cX8_left 10 = .ok (.ireturn, 1) := by decide +kernel
theorem dX8_left_11 : decode cX8_left 11 = .ok (.aload_n 0, 1) := by decide +kernel
theorem dX8_left_12 : decode cX8_left 12 = .ok (.bipush 12, 2) := by decide +kernel
theorem dX8_left_14 : decode cX8_left 14 = .ok (.invokevirtual 133, 3) := by decide +kernel
theorem dX8_left_17 : decode cX8_left 17 = .ok (.iload_n 1, 1) := by decide +kernel
theorem dX8_left_18 : decode cX8_left 18 = .ok (.ifCond .ne 13, 3) := by decide +kernel
theorem dX8_left_21 : decode cX8_left 21 = .ok (.aload_n 0, 1) := by decide +kernel
theorem dX8_left_22 : decode cX8_left 22 = .ok (.getfield 60, 3) := by decide +kernel
theorem dX8_left_25 : decode cX8_left 25 = .ok (.getfield 166, 3) := by decide +kernel
theorem dX8_left_28 : decode cX8_left 28 = .ok (.goto 17, 3) := by decide +kernel
theorem dX8_left_31 : decode cX8_left 31 = .ok (.aload_n 0, 1) := by decide +kernel
theorem dX8_left_32 : decode cX8_left 32 = .ok (.getfield 60, 3) := by decide +kernel
theorem dX8_left_35 : decode cX8_left 35 = .ok (.aload_n 0, 1) := by decide +kernel
theorem dX8_left_36 : decode cX8_left 36 = .ok (.getfield 53, 3) := by decide +kernel
theorem dX8_left_39 : decode cX8_left 39 = .ok (.getfield 161, 3) := by decide +kernel
theorem dX8_left_42 : decode cX8_left 42 = .ok (.invokevirtual 169, 3) := by decide +kernel
theorem dX8_left_45 : decode cX8_left 45 = .ok (.ireturn, 1) := by decide +kernel
theorem dX8_brush_0 : decode cX8_brush 0 = .ok (.iload_n 1, 1) := by decide +kernel
theorem dX8_brush_1 : decode cX8_brush 1 = .ok (.aload_n 0, 1) := by decide +kernel
theorem dX8_brush_2 : decode cX8_brush 2 = .ok (.getfield 14, 3) := by decide +kernel
theorem dX8_brush_5 : decode cX8_brush 5 = .ok (.invokevirtual 100, 3) := by decide +kernel
theorem dX8_brush_8 : decode cX8_brush 8 = .ok (.invokestatic 104, 3) := by decide +kernel
theorem dX8_brush_11 : decode cX8_brush 11 = .ok (.ifCond .eq 11, 3) := by decide +kernel
theorem dX8_brush_14 : decode cX8_brush 14 = .ok (.iload_n 2, 1) := by decide +kernel
theorem dX8_brush_15 : decode cX8_brush 15 = .ok (.iconst 2, 1) := by decide +kernel
theorem dX8_brush_16 : decode cX8_brush 16 = .ok (.invokestatic 104, 3) := by decide +kernel
theorem dX8_brush_19 : decode cX8_brush 19 = .ok (.ifCond .ne 6, 3) := by decide +kernel
theorem dX8_brush_22 : decode cX8_brush 22 = .ok (.bipush (-2), 2) := by decide +kernel
theorem dX8_brush_24 : decode cX8_brush 24 = .ok (.ireturn, 1) := by decide +kernel
theorem dX8_brush_25 : decode cX8_brush 25 = .ok (.aload_n 0, 1) := by decide +kernel
theorem dX8_brush_26 : decode cX8_brush 26 = .ok (.iload_n 1, 1) := by decide +kernel
theorem dX8_brush_27 : decode cX8_brush 27 = .ok (.invokevirtual 172, 3) := by decide +kernel
theorem dX8_brush_30 : decode cX8_brush 30 = .ok (.aload_n 0, 1) := by decide +kernel
theorem dX8_brush_31 : decode cX8_brush 31 = .ok (.getfield 67, 3) := by decide +kernel
theorem dX8_brush_34 : decode cX8_brush 34 = .ok (.iload_n 2, 1) := by decide +kernel
theorem dX8_brush_35 : decode cX8_brush 35 = .ok (.invokevirtual 175, 3) := by decide +kernel
theorem dX8_brush_38 : decode cX8_brush 38 = .ok (.ireturn, 1) := by decide +kernel
theorem dX8_rival_0 : decode cX8_rival 0 = .ok (.iload_n 1, 1) := by decide +kernel
theorem dX8_rival_1 : decode cX8_rival 1 = .ok (.aload_n 0, 1) := by decide +kernel
theorem dX8_rival_2 : decode cX8_rival 2 = .ok (.getfield 14, 3) := by decide +kernel
theorem dX8_rival_5 : decode cX8_rival 5 = .ok (.invokevirtual 100, 3) := by decide +kernel
theorem dX8_rival_8 : decode cX8_rival 8 = .ok (.invokestatic 104, 3) := by decide +kernel
theorem dX8_rival_11 : decode cX8_rival 11 = .ok (.ifCond .eq 11, 3) := by decide +kernel
theorem dX8_rival_14 : decode cX8_rival 14 = .ok (.iload_n 2, 1) := by decide +kernel
theorem dX8_rival_15 : decode cX8_rival 15 = .ok (.iconst 2, 1) := by decide +kernel
theorem dX8_rival_16 : decode cX8_rival 16 = .ok (.invokestatic 104, 3) := by decide +kernel
theorem dX8_rival_19 : decode cX8_rival 19 = .ok (.ifCond .ne 6, 3) := by decide +kernel
theorem dX8_rival_22 : decode cX8_rival 22 = .ok (.bipush (-2), 2) := by decide +kernel
theorem dX8_rival_24 : decode cX8_rival 24 = .ok (.ireturn, 1) := by decide +kernel
theorem dX8_rival_25 : decode cX8_rival 25 = .ok (.aload_n 0, 1) := by decide +kernel
theorem dX8_rival_26 : decode cX8_rival 26 = .ok (.iload_n 1, 1) := by decide +kernel
theorem dX8_rival_27 : decode cX8_rival 27 = .ok (.invokevirtual 178, 3) := by decide +kernel
theorem dX8_rival_30 : decode cX8_rival 30 = .ok (.aload_n 0, 1) := by decide +kernel
theorem dX8_rival_31 : decode cX8_rival 31 = .ok (.getfield 67, 3) := by decide +kernel
theorem dX8_rival_34 : decode cX8_rival 34 = .ok (.iload_n 2, 1) := by decide +kernel
theorem dX8_rival_35 : decode cX8_rival 35 = .ok (.invokevirtual 175, 3) := by decide +kernel
theorem dX8_rival_38 : decode cX8_rival 38 = .ok (.ireturn, 1) := by decide +kernel
theorem dX8_send_0 : decode cX8_send 0 = .ok (.iload_n 1, 1) := by decide +kernel
theorem dX8_send_1 : decode cX8_send 1 = .ok (.bipush 12, 2) := by decide +kernel
theorem dX8_send_3 : decode cX8_send 3 = .ok (.invokestatic 104, 3) := by decide +kernel
theorem dX8_send_6 : decode cX8_send 6 = .ok (.ifCond .eq 20, 3) := by decide +kernel
theorem dX8_send_9 : decode cX8_send 9 = .ok (.iload_n 2, 1) := by decide +kernel
theorem dX8_send_10 : decode cX8_send 10 = .ok (.bipush 6, 2) := by decide +kernel
theorem dX8_send_12 : decode cX8_send 12 = .ok (.invokestatic 104, 3) := by decide +kernel
theorem dX8_send_15 : decode cX8_send 15 = .ok (.ifCond .eq 11, 3) := by decide +kernel
theorem dX8_send_18 : decode cX8_send 18 = .ok (.iload_n 3, 1) := by decide +kernel
theorem dX8_send_19 : decode cX8_send 19 = .ok (.iconst 2, 1) := by decide +kernel
theorem dX8_send_20 : decode cX8_send 20 = .ok (.invokestatic 104, 3) := by decide +kernel
theorem dX8_send_23 : decode cX8_send 23 = .ok (.ifCond .ne 6, 3) := by decide +kernel
theorem dX8_send_26 : decode cX8_send 26 = .ok (.bipush (-2), 2) := by decide +kernel
theorem dX8_send_28 : decode cX8_send 28 = .ok (.ireturn, 1) := by decide +kernel
theorem dX8_send_29 : decode cX8_send 29 = .ok (.aload_n 0, 1) := by decide +kernel
theorem dX8_send_30 : decode cX8_send 30 = .ok (.iload_n 1, 1) := by decide +kernel
theorem dX8_send_31 : decode cX8_send 31 = .ok (.iload_n 2, 1) := by decide +kernel
theorem dX8_send_32 : decode cX8_send 32 = .ok (.invokevirtual 181, 3) := by decide +kernel
theorem dX8_send_35 : decode cX8_send 35 = .ok (.aload_n 0, 1) := by decide +kernel
theorem dX8_send_36 : decode cX8_send 36 = .ok (.getfield 67, 3) := by decide +kernel
theorem dX8_send_39 : decode cX8_send 39 = .ok (.iload_n 3, 1) := by decide +kernel
theorem dX8_send_40 : decode cX8_send 40 = .ok (.invokevirtual 175, 3) := by decide +kernel
theorem dX8_send_43 : decode cX8_send 43 = .ok (.ireturn, 1) := by decide +kernel
theorem dX8_spare_0 : decode cX8_spare 0 = .ok (.iload_n 1, 1) := by decide +kernel
theorem dX8_spare_1 : decode cX8_spare 1 = .ok (.iconst (-1), 1) := by decide +kernel
theorem dX8_spare_2 : decode cX8_spare 2 = .ok (.if_icmp .lt 8, 3) := by decide +kernel
theorem dX8_spare_5 : decode cX8_spare 5 = .ok (.iload_n 1, 1) := by decide +kernel
theorem dX8_spare_6 : decode cX8_spare 6 = .ok (.iconst 1, 1) := by decide +kernel
theorem dX8_spare_7 : decode cX8_spare 7 = .ok (.if_icmp .le 6, 3) := by decide +kernel
theorem dX8_spare_10 : decode cX8_spare 10 = .ok (.bipush (-2), 2) := by decide +kernel
theorem dX8_spare_12 : decode cX8_spare 12 = .ok (.ireturn, 1) := by decide +kernel
theorem dX8_spare_13 : decode cX8_spare 13 = .ok (.aload_n 0, 1) := by decide +kernel
theorem dX8_spare_14 : decode cX8_spare 14 = .ok (.invokevirtual 184, 3) := by decide +kernel
theorem dX8_spare_17 : decode cX8_spare 17 = .ok (.istore_n 2, 1) := by decide +kernel
theorem dX8_spare_18 : decode cX8_spare 18 = .ok (.iload_n 2, 1) := by decide +kernel
theorem dX8_spare_19 : decode cX8_spare 19 = .ok (.iconst (-1), 1) := by decide +kernel
theorem dX8_spare_20 : decode cX8_spare 20 = .ok (.if_icmp .ne 5, 3) := by decide +kernel
theorem dX8_spare_23 : decode cX8_spare 23 = .ok (.iconst (-1), 1) := by decide +kernel
theorem dX8_spare_24 : decode cX8_spare 24 = .ok (.ireturn, 1) := by decide +kernel
theorem dX8_spare_25 : decode cX8_spare 25 = .ok (.iload_n 1, 1) := by decide +kernel
theorem dX8_spare_26 : decode cX8_spare 26 = .ok (.iconst (-1), 1) := by decide +kernel
theorem dX8_spare_27 : decode cX8_spare 27 = .ok (.if_icmp .ne 10, 3) := by decide +kernel
theorem dX8_spare_30 : decode cX8_spare 30 = .ok (.iload_n 2, 1) := by decide +kernel
theorem dX8_spare_31 : decode cX8_spare 31 = .ok (.invokestatic 187, 3) := by decide +kernel
theorem dX8_spare_34 : decode cX8_spare 34 = .ok (.goto 8, 3) := by decide +kernel
theorem dX8_spare_37 : decode cX8_spare 37 = .ok (.iload_n 2, 1) := by decide +kernel
theorem dX8_spare_38 : decode cX8_spare 38 = .ok (.iload_n 1, 1) := by decide +kernel
theorem dX8_spare_39 : decode cX8_spare 39 = .ok (.invokestatic 192, 3) := by decide +kernel
theorem dX8_spare_42 : decode cX8_spare 42 = .ok (.ireturn, 1) := by decide +kernel
theorem dX8_seen_0 : decode cX8_seen 0 = .ok (.iload_n 1, 1) := by decide +kernel
theorem dX8_seen_1 : decode cX8_seen 1 = .ok (.bipush 12, 2) := by decide +kernel
theorem dX8_seen_3 : decode cX8_seen 3 = .ok (.invokestatic 104, 3) := by decide +kernel
theorem dX8_seen_6 : decode cX8_seen 6 = .ok (.ifCond .eq 20, 3) := by decide +kernel
theorem dX8_seen_9 : decode cX8_seen 9 = .ok (.iload_n 2, 1) := by decide +kernel
theorem dX8_seen_10 : decode cX8_seen 10 = .ok (.bipush 10, 2) := by decide +kernel
theorem dX8_seen_12 : decode cX8_seen 12 = .ok (.invokestatic 104, 3) := by decide +kernel
theorem dX8_seen_15 : decode cX8_seen 15 = .ok (.ifCond .eq 11, 3) := by decide +kernel
theorem dX8_seen_18 : decode cX8_seen 18 = .ok (.iload_n 3, 1) := by decide +kernel
theorem dX8_seen_19 : decode cX8_seen 19 = .ok (.iconst 4, 1) := by decide +kernel
theorem dX8_seen_20 : decode cX8_seen 20 = .ok (.invokestatic 104, 3) := by decide +kernel
theorem dX8_seen_23 : decode cX8_seen 23 = .ok (.ifCond .ne 6, 3) := by decide +kernel
theorem dX8_seen_26 : decode cX8_seen 26 = .ok (.bipush (-2), 2) := by decide +kernel
theorem dX8_seen_28 : decode cX8_seen 28 = .ok (.ireturn, 1) := by decide +kernel
theorem dX8_seen_29 : decode cX8_seen 29 = .ok (.aload_n 0, 1) := by decide +kernel
theorem dX8_seen_30 : decode cX8_seen 30 = .ok (.getfield 35, 3) := by decide +kernel
theorem dX8_seen_33 : decode cX8_seen 33 = .ok (.iload_n 1, 1) := by decide +kernel
theorem dX8_seen_34 : decode cX8_seen 34 = .ok (.iload_n 2, 1) := by decide +kernel
theorem dX8_seen_35 : decode cX8_seen 35 = .ok (.iload_n 3, 1) := by decide +kernel
theorem dX8_seen_36 : decode cX8_seen 36 = .ok (.invokevirtual 116, 3) := by decide +kernel
theorem dX8_seen_39 : decode cX8_seen 39 = .ok (.ifCond .eq 13, 3) := by decide +kernel
theorem dX8_seen_42 : decode cX8_seen 42 = .ok (.aload_n 0, 1) := by decide +kernel
theorem dX8_seen_43 : decode cX8_seen 43 = .ok (.getfield 35, 3) := by decide +kernel
theorem dX8_seen_46 : decode cX8_seen 46 = .ok (.getfield 119, 3) := by decide +kernel
theorem dX8_seen_49 : decode cX8_seen 49 = .ok (.goto 5, 3) := by decide +kernel
theorem dX8_seen_52 : decode cX8_seen 52 = .ok (.bipush (-4), 2) := by decide +kernel
theorem dX8_seen_54 : decode cX8_seen 54 = .ok (.ireturn, 1) := by decide +kernel
theorem dX8_forget_0 : decode cX8_forget 0 = .ok (.aload_n 0, 1) := by decide +kernel
theorem dX8_forget_1 : decode cX8_forget 1 = .ok (.getfield 35, 3) := by decide +kernel
theorem dX8_forget_4 : decode cX8_forget 4 = .ok (.getfield 119, 3) := by decide +kernel
theorem dX8_forget_7 : decode cX8_forget 7 = .ok (.istore_n 1, 1) := by decide +kernel
theorem dX8_forget_8 : decode cX8_forget 8 = .ok (.aload_n 0, 1) := by decide +kernel
theorem dX8_forget_9 : decode cX8_forget 9 = .ok (.getfield 35, 3) := by decide +kernel
theorem dX8_forget_12 : decode cX8_forget 12 = .ok (.iconst 0, 1) := by decide +kernel
theorem dX8_forget_13 : decode cX8_forget 13 = .ok (.putfield 119, 3) := by decide +kernel
theorem dX8_forget_16 : decode cX8_forget 16 = .ok (.iload_n 1, 1) := by decide +kernel
theorem dX8_forget_17 : decode cX8_forget 17 = .ok (.ireturn, 1) := by decide +kernel
theorem dX8_never_0 : decode cX8_never 0 = .ok (.aload_n 0, 1) := by decide +kernel
theorem dX8_never_1 : decode cX8_never 1 = .ok (.invokevirtual 195, 3) := by decide +kernel
theorem dX8_never_4 : decode cX8_never 4 = .ok (.iconst 0, 1) := by decide +kernel
theorem dX8_never_5 : decode cX8_never 5 = .ok (.istore_n 1, 1) := by decide +kernel
theorem dX8_never_6 : decode cX8_never 6 = .ok (.iconst 0, 1) := by decide +kernel
theorem dX8_never_7 : decode cX8_never 7 = .ok (.istore_n 2, 1) := by decide +kernel
theorem dX8_never_8 : decode cX8_never 8 = .ok (.iload_n 2, 1) := by decide +kernel
theorem dX8_never_9 : decode cX8_never 9 = .ok (.aload_n 0, 1) := by decide +kernel
theorem dX8_never_10 : decode cX8_never 10 = .ok (.getfield 31, 3) := by decide +kernel
theorem dX8_never_13 : decode cX8_never 13 = .ok (.getfield 119, 3) := by decide +kernel
theorem dX8_never_16 : decode cX8_never 16 = .ok (.if_icmp .ge 59, 3) := by decide +kernel
theorem dX8_never_19 : decode cX8_never 19 = .ok (.aload_n 0, 1) := by decide +kernel
theorem dX8_never_20 : decode cX8_never 20 = .ok (.getfield 53, 3) := by decide +kernel
theorem dX8_never_23 : decode cX8_never 23 = .ok (.iconst 1, 1) := by decide +kernel
theorem dX8_never_24 : decode cX8_never 24 = .ok (.iload_n 2, 1) := by decide +kernel
theorem dX8_never_25 : decode cX8_never 25 = .ok (.ishl, 1) := by decide +kernel
theorem dX8_never_26 : decode cX8_never 26 = .ok (.putfield 198, 3) := by decide +kernel
theorem dX8_never_29 : decode cX8_never 29 = .ok (.aload_n 0, 1) := by decide +kernel
theorem dX8_never_30 : decode cX8_never 30 = .ok (.getfield 60, 3) := by decide +kernel
theorem dX8_never_33 : decode cX8_never 33 = .ok (.aload_n 0, 1) := by decide +kernel
theorem dX8_never_34 : decode cX8_never 34 = .ok (.getfield 53, 3) := by decide +kernel
theorem dX8_never_37 : decode cX8_never 37 = .ok (.bipush 12, 2) := by decide +kernel
theorem dX8_never_39 : decode cX8_never 39 = .ok (.invokevirtual 201, 3) := by decide +kernel
theorem dX8_never_42 : decode cX8_never 42 = .ok (.aload_n 0, 1) := by decide +kernel
theorem dX8_never_43 : decode cX8_never 43 = .ok (.getfield 60, 3) := by decide +kernel
theorem dX8_never_46 : decode cX8_never 46 = .ok (.aload_n 0, 1) := by decide +kernel
theorem dX8_never_47 : decode cX8_never 47 = .ok (.getfield 35, 3) := by decide +kernel
theorem dX8_never_50 : decode cX8_never 50 = .ok (.aload_n 0, 1) := by decide +kernel
theorem dX8_never_51 : decode cX8_never 51 = .ok (.getfield 53, 3) := by decide +kernel
theorem dX8_never_54 : decode cX8_never 54 = .ok (.getfield 161, 3) := by decide +kernel
theorem dX8_never_57 : decode cX8_never 57 = .ok (.invokevirtual 205, 3) := by decide +kernel
theorem dX8_never_60 : decode cX8_never 60 = .ok (.ifCond .eq 9, 3) := by decide +kernel
theorem dX8_never_63 : decode cX8_never 63 = .ok (.iload_n 1, 1) := by decide +kernel
theorem dX8_never_64 : decode cX8_never 64 = .ok (.iconst 1, 1) := by decide +kernel
theorem dX8_never_65 : decode cX8_never 65 = .ok (.iload_n 2, 1) := by decide +kernel
theorem dX8_never_66 : decode cX8_never 66 = .ok (.ishl, 1) := by decide +kernel
theorem dX8_never_67 : decode cX8_never 67 = .ok (.ior, 1) := by decide +kernel
theorem dX8_never_68 : decode cX8_never 68 = .ok (.istore_n 1, 1) := by decide +kernel
theorem dX8_never_69 : decode cX8_never 69 = .ok (.iinc 2 1, 3) := by decide +kernel
theorem dX8_never_72 : decode cX8_never 72 = .ok (.goto (-64), 3) := by decide +kernel
theorem dX8_never_75 : decode cX8_never 75 = .ok (.iload_n 1, 1) := by decide +kernel
theorem dX8_never_76 : decode cX8_never 76 = .ok (.ireturn, 1) := by decide +kernel
theorem dX8_looked_0 : decode cX8_looked 0 = .ok (.iload_n 1, 1) := by decide +kernel
theorem dX8_looked_1 : decode cX8_looked 1 = .ok (.aload_n 0, 1) := by decide +kernel
theorem dX8_looked_2 : decode cX8_looked 2 = .ok (.getfield 14, 3) := by decide +kernel
theorem dX8_looked_5 : decode cX8_looked 5 = .ok (.invokevirtual 100, 3) := by decide +kernel
theorem dX8_looked_8 : decode cX8_looked 8 = .ok (.invokestatic 104, 3) := by decide +kernel
theorem dX8_looked_11 : decode cX8_looked 11 = .ok (.ifCond .ne 6, 3) := by decide +kernel
theorem dX8_looked_14 : decode cX8_looked 14 = .ok (.bipush (-2), 2) := by decide +kernel
theorem dX8_looked_16 : decode cX8_looked 16 = .ok (.ireturn, 1) := by decide +kernel
theorem dX8_looked_17 : decode cX8_looked 17 = .ok (.aload_n 0, 1) := by decide +kernel
theorem dX8_looked_18 : decode cX8_looked 18 = .ok (.invokevirtual 195, 3) := by decide +kernel
theorem dX8_looked_21 : decode cX8_looked 21 = .ok (.iconst 0, 1) := by decide +kernel
theorem dX8_looked_22 : decode cX8_looked 22 = .ok (.istore_n 2, 1) := by decide +kernel
theorem dX8_looked_23 : decode cX8_looked 23 = .ok (.iconst 0, 1) := by decide +kernel
theorem dX8_looked_24 : decode cX8_looked 24 = .ok (.istore_n 3, 1) := by decide +kernel
theorem dX8_looked_25 : decode cX8_looked 25 = .ok (.iload_n 3, 1) := by decide +kernel
theorem dX8_looked_26 : decode cX8_looked 26 = .ok (.bipush 9, 2) := by decide +kernel
theorem dX8_looked_28 : decode cX8_looked 28 = .ok (.if_icmp .gt 59, 3) := by decide +kernel
theorem dX8_looked_31 : decode cX8_looked 31 = .ok (.aload_n 0, 1) := by decide +kernel
theorem dX8_looked_32 : decode cX8_looked 32 = .ok (.getfield 53, 3) := by decide +kernel
theorem dX8_looked_35 : decode cX8_looked 35 = .ok (.getfield 209, 3) := by decide +kernel
theorem dX8_looked_38 : decode cX8_looked 38 = .ok (.iload_n 1, 1) := by decide +kernel
theorem dX8_looked_39 : decode cX8_looked 39 = .ok (.iload_n 3, 1) := by decide +kernel
theorem dX8_looked_40 : decode cX8_looked 40 = .ok (.iastore, 1) := by decide +kernel
theorem dX8_looked_41 : decode cX8_looked 41 = .ok (.aload_n 0, 1) := by decide +kernel
theorem dX8_looked_42 : decode cX8_looked 42 = .ok (.getfield 60, 3) := by decide +kernel
theorem dX8_looked_45 : decode cX8_looked 45 = .ok (.aload_n 0, 1) := by decide +kernel
theorem dX8_looked_46 : decode cX8_looked 46 = .ok (.getfield 53, 3) := by decide +kernel
theorem dX8_looked_49 : decode cX8_looked 49 = .ok (.bipush 12, 2) := by decide +kernel
theorem dX8_looked_51 : decode cX8_looked 51 = .ok (.invokevirtual 201, 3) := by decide +kernel
theorem dX8_looked_54 : decode cX8_looked 54 = .ok (.aload_n 0, 1) := by decide +kernel
theorem dX8_looked_55 : decode cX8_looked 55 = .ok (.getfield 60, 3) := by decide +kernel
theorem dX8_looked_58 : decode cX8_looked 58 = .ok (.aload_n 0, 1) := by decide +kernel
theorem dX8_looked_59 : decode cX8_looked 59 = .ok (.getfield 35, 3) := by decide +kernel
theorem dX8_looked_62 : decode cX8_looked 62 = .ok (.aload_n 0, 1) := by decide +kernel
theorem dX8_looked_63 : decode cX8_looked 63 = .ok (.getfield 53, 3) := by decide +kernel
theorem dX8_looked_66 : decode cX8_looked 66 = .ok (.getfield 161, 3) := by decide +kernel
theorem dX8_looked_69 : decode cX8_looked 69 = .ok (.invokevirtual 205, 3) := by decide +kernel
theorem dX8_looked_72 : decode cX8_looked 72 = .ok (.ifCond .eq 9, 3) := by decide +kernel
theorem dX8_looked_75 : decode cX8_looked 75 = .ok (.iload_n 2, 1) := by decide +kernel
theorem dX8_looked_76 : decode cX8_looked 76 = .ok (.iconst 1, 1) := by decide +kernel
theorem dX8_looked_77 : decode cX8_looked 77 = .ok (.iload_n 3, 1) := by decide +kernel
theorem dX8_looked_78 : decode cX8_looked 78 = .ok (.ishl, 1) := by decide +kernel
theorem dX8_looked_79 : decode cX8_looked 79 = .ok (.ior, 1) := by decide +kernel
theorem dX8_looked_80 : decode cX8_looked 80 = .ok (.istore_n 2, 1) := by decide +kernel
theorem dX8_looked_81 : decode cX8_looked 81 = .ok (.iinc 3 1, 3) := by decide +kernel
theorem dX8_looked_84 : decode cX8_looked 84 = .ok (.goto (-59), 3) := by decide +kernel
theorem dX8_looked_87 : decode cX8_looked 87 = .ok (.iload_n 2, 1) := by decide +kernel
theorem dX8_looked_88 : decode cX8_looked 88 = .ok (.ireturn, 1) := by decide +kernel
theorem dX8_tastes_0 : decode cX8_tastes 0 = .ok (.iload_n 1, 1) := by decide +kernel
theorem dX8_tastes_1 : decode cX8_tastes 1 = .ok (.aload_n 0, 1) := by decide +kernel
theorem dX8_tastes_2 : decode cX8_tastes 2 = .ok (.getfield 18, 3) := by decide +kernel
theorem dX8_tastes_5 : decode cX8_tastes 5 = .ok (.invokevirtual 100, 3) := by decide +kernel
theorem dX8_tastes_8 : decode cX8_tastes 8 = .ok (.invokestatic 104, 3) := by decide +kernel
theorem dX8_tastes_11 : decode cX8_tastes 11 = .ok (.ifCond .ne 6, 3) := by decide +kernel
theorem dX8_tastes_14 : decode cX8_tastes 14 = .ok (.bipush (-2), 2) := by decide +kernel
theorem dX8_tastes_16 : decode cX8_tastes 16 = .ok (.ireturn, 1) := by decide +kernel
theorem dX8_tastes_17 : decode cX8_tastes 17 = .ok (.aload_n 0, 1) := by decide +kernel
theorem dX8_tastes_18 : decode cX8_tastes 18 = .ok (.invokevirtual 195, 3) := by decide +kernel
theorem dX8_tastes_21 : decode cX8_tastes 21 = .ok (.iconst 0, 1) := by decide +kernel
theorem dX8_tastes_22 : decode cX8_tastes 22 = .ok (.istore_n 2, 1) := by decide +kernel
theorem dX8_tastes_23 : decode cX8_tastes 23 = .ok (.iconst 0, 1) := by decide +kernel
theorem dX8_tastes_24 : decode cX8_tastes 24 = .ok (.istore_n 3, 1) := by decide +kernel
theorem dX8_tastes_25 : decode cX8_tastes 25 = .ok (.iload_n 3, 1) := by decide +kernel
theorem dX8_tastes_26 : decode cX8_tastes 26 = .ok (.iconst 3, 1) := by decide +kernel
theorem dX8_tastes_27 : decode cX8_tastes 27 = .ok (.if_icmp .ge 59, 3) := by decide +kernel
theorem dX8_tastes_30 : decode cX8_tastes 30 = .ok (.aload_n 0, 1) := by decide +kernel
theorem dX8_tastes_31 : decode cX8_tastes 31 = .ok (.getfield 53, 3) := by decide +kernel
theorem dX8_tastes_34 : decode cX8_tastes 34 = .ok (.getfield 212, 3) := by decide +kernel
theorem dX8_tastes_37 : decode cX8_tastes 37 = .ok (.iload_n 1, 1) := by decide +kernel
theorem dX8_tastes_38 : decode cX8_tastes 38 = .ok (.iload_n 3, 1) := by decide +kernel
theorem dX8_tastes_39 : decode cX8_tastes 39 = .ok (.iastore, 1) := by decide +kernel
theorem dX8_tastes_40 : decode cX8_tastes 40 = .ok (.aload_n 0, 1) := by decide +kernel
theorem dX8_tastes_41 : decode cX8_tastes 41 = .ok (.getfield 60, 3) := by decide +kernel
theorem dX8_tastes_44 : decode cX8_tastes 44 = .ok (.aload_n 0, 1) := by decide +kernel
theorem dX8_tastes_45 : decode cX8_tastes 45 = .ok (.getfield 53, 3) := by decide +kernel
theorem dX8_tastes_48 : decode cX8_tastes 48 = .ok (.bipush 12, 2) := by decide +kernel
theorem dX8_tastes_50 : decode cX8_tastes 50 = .ok (.invokevirtual 201, 3) := by decide +kernel
theorem dX8_tastes_53 : decode cX8_tastes 53 = .ok (.aload_n 0, 1) := by decide +kernel
theorem dX8_tastes_54 : decode cX8_tastes 54 = .ok (.getfield 60, 3) := by decide +kernel
theorem dX8_tastes_57 : decode cX8_tastes 57 = .ok (.aload_n 0, 1) := by decide +kernel
theorem dX8_tastes_58 : decode cX8_tastes 58 = .ok (.getfield 35, 3) := by decide +kernel
theorem dX8_tastes_61 : decode cX8_tastes 61 = .ok (.aload_n 0, 1) := by decide +kernel
theorem dX8_tastes_62 : decode cX8_tastes 62 = .ok (.getfield 53, 3) := by decide +kernel
theorem dX8_tastes_65 : decode cX8_tastes 65 = .ok (.getfield 161, 3) := by decide +kernel
theorem dX8_tastes_68 : decode cX8_tastes 68 = .ok (.invokevirtual 205, 3) := by decide +kernel
theorem dX8_tastes_71 : decode cX8_tastes 71 = .ok (.ifCond .eq 9, 3) := by decide +kernel
theorem dX8_tastes_74 : decode cX8_tastes 74 = .ok (.iload_n 2, 1) := by decide +kernel
theorem dX8_tastes_75 : decode cX8_tastes 75 = .ok (.iconst 1, 1) := by decide +kernel
theorem dX8_tastes_76 : decode cX8_tastes 76 = .ok (.iload_n 3, 1) := by decide +kernel
theorem dX8_tastes_77 : decode cX8_tastes 77 = .ok (.ishl, 1) := by decide +kernel
theorem dX8_tastes_78 : decode cX8_tastes 78 = .ok (.ior, 1) := by decide +kernel
theorem dX8_tastes_79 : decode cX8_tastes 79 = .ok (.istore_n 2, 1) := by decide +kernel
theorem dX8_tastes_80 : decode cX8_tastes 80 = .ok (.iinc 3 1, 3) := by decide +kernel
theorem dX8_tastes_83 : decode cX8_tastes 83 = .ok (.goto (-58), 3) := by decide +kernel
theorem dX8_tastes_86 : decode cX8_tastes 86 = .ok (.iload_n 2, 1) := by decide +kernel
theorem dX8_tastes_87 : decode cX8_tastes 87 = .ok (.ireturn, 1) := by decide +kernel
theorem dX8_ask_0 : decode cX8_ask 0 = .ok (.iload_n 1, 1) := by decide +kernel
theorem dX8_ask_1 : decode cX8_ask 1 = .ok (.aload_n 0, 1) := by decide +kernel
theorem dX8_ask_2 : decode cX8_ask 2 = .ok (.getfield 14, 3) := by decide +kernel
theorem dX8_ask_5 : decode cX8_ask 5 = .ok (.invokevirtual 100, 3) := by decide +kernel
theorem dX8_ask_8 : decode cX8_ask 8 = .ok (.invokestatic 104, 3) := by decide +kernel
theorem dX8_ask_11 : decode cX8_ask 11 = .ok (.ifCond .ne 6, 3) := by decide +kernel
theorem dX8_ask_14 : decode cX8_ask 14 = .ok (.bipush (-2), 2) := by decide +kernel
theorem dX8_ask_16 : decode cX8_ask 16 = .ok (.ireturn, 1) := by decide +kernel
theorem dX8_ask_17 : decode cX8_ask 17 = .ok (.aload_n 0, 1) := by decide +kernel
theorem dX8_ask_18 : decode cX8_ask 18 = .ok (.iload_n 1, 1) := by decide +kernel
theorem dX8_ask_19 : decode cX8_ask 19 = .ok (.invokevirtual 215, 3) := by decide +kernel
theorem dX8_ask_22 : decode cX8_ask 22 = .ok (.aload_n 0, 1) := by decide +kernel
theorem dX8_ask_23 : decode cX8_ask 23 = .ok (.getfield 67, 3) := by decide +kernel
theorem dX8_ask_26 : decode cX8_ask 26 = .ok (.invokevirtual 152, 3) := by decide +kernel
theorem dX8_ask_29 : decode cX8_ask 29 = .ok (.iconst 0, 1) := by decide +kernel
theorem dX8_ask_30 : decode cX8_ask 30 = .ok (.istore_n 2, 1) := by decide +kernel
theorem dX8_ask_31 : decode cX8_ask 31 = .ok (.iload_n 2, 1) := by decide +kernel
theorem dX8_ask_32 : decode cX8_ask 32 = .ok (.bipush 12, 2) := by decide +kernel
theorem dX8_ask_34 : decode cX8_ask 34 = .ok (.if_icmp .ge 23, 3) := by decide +kernel
theorem dX8_ask_37 : decode cX8_ask 37 = .ok (.aload_n 0, 1) := by decide +kernel
theorem dX8_ask_38 : decode cX8_ask 38 = .ok (.getfield 67, 3) := by decide +kernel
theorem dX8_ask_41 : decode cX8_ask 41 = .ok (.iload_n 2, 1) := by decide +kernel
theorem dX8_ask_42 : decode cX8_ask 42 = .ok (.aload_n 0, 1) := by decide +kernel
theorem dX8_ask_43 : decode cX8_ask 43 = .ok (.iload_n 2, 1) := by decide +kernel
theorem dX8_ask_44 : decode cX8_ask 44 = .ok (.invokevirtual 218, 3) := by decide +kernel
theorem dX8_ask_47 : decode cX8_ask 47 = .ok (.ineg, 1) := by decide +kernel
theorem dX8_ask_48 : decode cX8_ask 48 = .ok (.invokevirtual 155, 3) := by decide +kernel
theorem dX8_ask_51 : decode cX8_ask 51 = .ok (.iinc 2 1, 3) := by decide +kernel
theorem dX8_ask_54 : decode cX8_ask 54 = .ok (.goto (-23), 3) := by decide +kernel
theorem dX8_ask_57 : decode cX8_ask 57 = .ok (.aload_n 0, 1) := by decide +kernel
theorem dX8_ask_58 : decode cX8_ask 58 = .ok (.getfield 67, 3) := by decide +kernel
theorem dX8_ask_61 : decode cX8_ask 61 = .ok (.getfield 158, 3) := by decide +kernel
theorem dX8_ask_64 : decode cX8_ask 64 = .ok (.ireturn, 1) := by decide +kernel
theorem dX8_chance_0 : decode cX8_chance 0 = .ok (.iload_n 1, 1) := by decide +kernel
theorem dX8_chance_1 : decode cX8_chance 1 = .ok (.ifCond .lt 31, 3) := by decide +kernel
theorem dX8_chance_4 : decode cX8_chance 4 = .ok (.iload_n 1, 1) := by decide +kernel
theorem dX8_chance_5 : decode cX8_chance 5 = .ok (.bipush 16, 2) := by decide +kernel
theorem dX8_chance_7 : decode cX8_chance 7 = .ok (.if_icmp .gt 25, 3) := by decide +kernel
theorem dX8_chance_10 : decode cX8_chance 10 = .ok (.iload_n 2, 1) := by decide +kernel
theorem dX8_chance_11 : decode cX8_chance 11 = .ok (.aload_n 0, 1) := by decide +kernel
theorem dX8_chance_12 : decode cX8_chance 12 = .ok (.getfield 14, 3) := by decide +kernel
theorem dX8_chance_15 : decode cX8_chance 15 = .ok (.invokevirtual 100, 3) := by decide +kernel
theorem dX8_chance_18 : decode cX8_chance 18 = .ok (.invokestatic 104, 3) := by decide +kernel
theorem dX8_chance_21 : decode cX8_chance 21 = .ok (.ifCond .eq 11, 3) := by decide +kernel
theorem dX8_chance_24 : decode cX8_chance 24 = .ok (.iload_n 3, 1) := by decide +kernel
theorem dX8_chance_25 : decode cX8_chance 25 = .ok (.iconst 2, 1) := by decide +kernel
theorem dX8_chance_26 : decode cX8_chance 26 = .ok (.invokestatic 104, 3) := by decide +kernel
theorem dX8_chance_29 : decode cX8_chance 29 = .ok (.ifCond .ne 7, 3) := by decide +kernel
theorem dX8_chance_32 : decode cX8_chance 32 = .ok (.ldc2_w 223, 3) := by decide +kernel
theorem dX8_chance_35 : decode cX8_chance 35 = .ok (.lreturn, 1) := by decide +kernel
theorem dX8_chance_36 : decode cX8_chance 36 = .ok (.aload_n 0, 1) := by decide +kernel
theorem dX8_chance_37 : decode cX8_chance 37 = .ok (.iload_n 1, 1) := by decide +kernel
theorem dX8_chance_38 : decode cX8_chance 38 = .ok (.invokevirtual 225, 3) := by decide +kernel
theorem dX8_chance_41 : decode cX8_chance 41 = .ok (.aload_n 0, 1) := by decide +kernel
theorem dX8_chance_42 : decode cX8_chance 42 = .ok (.aload_n 0, 1) := by decide +kernel
theorem dX8_chance_43 : decode cX8_chance 43 = .ok (.getfield 71, 3) := by decide +kernel
theorem dX8_chance_46 : decode cX8_chance 46 = .ok (.iload_n 2, 1) := by decide +kernel
theorem dX8_chance_47 : decode cX8_chance 47 = .ok (.laload, 1) := by decide +kernel
theorem dX8_chance_48 : decode cX8_chance 48 = .ok (.iload_n 3, 1) := by decide +kernel
theorem dX8_chance_49 : decode cX8_chance 49 = .ok (.invokevirtual 228, 3) := by decide +kernel
theorem dX8_chance_52 : decode cX8_chance 52 = .ok (.lreturn, 1) := by decide +kernel
theorem dX8_years_0 : decode cX8_years 0 = .ok (.iload_n 2, 1) := by decide +kernel
theorem dX8_years_1 : decode cX8_years 1 = .ok (.bipush 13, 2) := by decide +kernel
theorem dX8_years_3 : decode cX8_years 3 = .ok (.invokestatic 104, 3) := by decide +kernel
theorem dX8_years_6 : decode cX8_years 6 = .ok (.ifCond .eq 11, 3) := by decide +kernel
theorem dX8_years_9 : decode cX8_years 9 = .ok (.iload_n 3, 1) := by decide +kernel
theorem dX8_years_10 : decode cX8_years 10 = .ok (.iconst 2, 1) := by decide +kernel
theorem dX8_years_11 : decode cX8_years 11 = .ok (.invokestatic 104, 3) := by decide +kernel
theorem dX8_years_14 : decode cX8_years 14 = .ok (.ifCond .ne 6, 3) := by decide +kernel
theorem dX8_years_17 : decode cX8_years 17 = .ok (.bipush (-2), 2) := by decide +kernel
theorem dX8_years_19 : decode cX8_years 19 = .ok (.ireturn, 1) := by decide +kernel
theorem dX8_years_20 : decode cX8_years 20 = .ok (.aload_n 0, 1) := by decide +kernel
theorem dX8_years_21 : decode cX8_years 21 = .ok (.invokevirtual 195, 3) := by decide +kernel
theorem dX8_years_24 : decode cX8_years 24 = .ok (.aload_n 0, 1) := by decide +kernel
theorem dX8_years_25 : decode cX8_years 25 = .ok (.iload_n 1, 1) := by decide +kernel
theorem dX8_years_26 : decode cX8_years 26 = .ok (.iload_n 2, 1) := by decide +kernel
theorem dX8_years_27 : decode cX8_years 27 = .ok (.invokevirtual 232, 3) := by decide +kernel
theorem dX8_years_30 : decode cX8_years 30 = .ok (.aload_n 0, 1) := by decide +kernel
theorem dX8_years_31 : decode cX8_years 31 = .ok (.getfield 60, 3) := by decide +kernel
theorem dX8_years_34 : decode cX8_years 34 = .ok (.aload_n 0, 1) := by decide +kernel
theorem dX8_years_35 : decode cX8_years 35 = .ok (.getfield 53, 3) := by decide +kernel
theorem dX8_years_38 : decode cX8_years 38 = .ok (.bipush 12, 2) := by decide +kernel
theorem dX8_years_40 : decode cX8_years 40 = .ok (.invokevirtual 201, 3) := by decide +kernel
theorem dX8_years_43 : decode cX8_years 43 = .ok (.iload_n 3, 1) := by decide +kernel
theorem dX8_years_44 : decode cX8_years 44 = .ok (.ifCond .ne 20, 3) := by decide +kernel
theorem dX8_years_47 : decode cX8_years 47 = .ok (.aload_n 0, 1) := by decide +kernel
theorem dX8_years_48 : decode cX8_years 48 = .ok (.getfield 60, 3) := by decide +kernel
theorem dX8_years_51 : decode cX8_years 51 = .ok (.aload_n 0, 1) := by decide +kernel
theorem dX8_years_52 : decode cX8_years 52 = .ok (.getfield 53, 3) := by decide +kernel
theorem dX8_years_55 : decode cX8_years 55 = .ok (.getfield 161, 3) := by decide +kernel
theorem dX8_years_58 : decode cX8_years 58 = .ok (.invokevirtual 163, 3) := by decide +kernel
theorem dX8_years_61 : decode cX8_years 61 = .ok (.goto 13, 3) := by decide +kernel
theorem dX8_years_64 : decode cX8_years 64 = .ok (.aload_n 0, 1) := by decide +kernel
theorem dX8_years_65 : decode cX8_years 65 = .ok (.getfield 60, 3) := by decide +kernel
theorem dX8_years_68 : decode cX8_years 68 = .ok (.getfield 166, 3) := by decide +kernel
theorem dX8_years_71 : decode cX8_years 71 = .ok (.invokestatic 187, 3) := by decide +kernel
theorem dX8_years_74 : decode cX8_years 74 = .ok (.ireturn, 1) := by decide +kernel
theorem dX8_sheet_0 : decode cX8_sheet 0 = .ok (.iload_n 1, 1) := by decide +kernel
theorem dX8_sheet_1 : decode cX8_sheet 1 = .ok (.iconst 4, 1) := by decide +kernel
theorem dX8_sheet_2 : decode cX8_sheet 2 = .ok (.invokestatic 104, 3) := by decide +kernel
theorem dX8_sheet_5 : decode cX8_sheet 5 = .ok (.ifCond .eq 17, 3) := by decide +kernel
theorem dX8_sheet_8 : decode cX8_sheet 8 = .ok (.iload_n 2, 1) := by decide +kernel
theorem dX8_sheet_9 : decode cX8_sheet 9 = .ok (.iconst 3, 1) := by decide +kernel
theorem dX8_sheet_10 : decode cX8_sheet 10 = .ok (.invokestatic 104, 3) := by decide +kernel
theorem dX8_sheet_13 : decode cX8_sheet 13 = .ok (.ifCond .eq 9, 3) := by decide +kernel
theorem dX8_sheet_16 : decode cX8_sheet 16 = .ok (.iload_n 3, 1) := by decide +kernel
theorem dX8_sheet_17 : decode cX8_sheet 17 = .ok (.bipush 60, 2) := by decide +kernel
theorem dX8_sheet_19 : decode cX8_sheet 19 = .ok (.if_icmp .le 6, 3) := by decide +kernel
theorem dX8_sheet_22 : decode cX8_sheet 22 = .ok (.bipush (-2), 2) := by decide +kernel
theorem dX8_sheet_24 : decode cX8_sheet 24 = .ok (.ireturn, 1) := by decide +kernel
theorem dX8_sheet_25 : decode cX8_sheet 25 = .ok (.iload_n 3, 1) := by decide +kernel
theorem dX8_sheet_26 : decode cX8_sheet 26 = .ok (.ifCond .ge 9, 3) := by decide +kernel
theorem dX8_sheet_29 : decode cX8_sheet 29 = .ok (.aload_n 0, 1) := by decide +kernel
theorem dX8_sheet_30 : decode cX8_sheet 30 = .ok (.iconst 5, 1) := by decide +kernel
theorem dX8_sheet_31 : decode cX8_sheet 31 = .ok (.invokevirtual 125, 3) := by decide +kernel
theorem dX8_sheet_34 : decode cX8_sheet 34 = .ok (.ireturn, 1) := by decide +kernel
theorem dX8_sheet_35 : decode cX8_sheet 35 = .ok (.aload_n 0, 1) := by decide +kernel
theorem dX8_sheet_36 : decode cX8_sheet 36 = .ok (.getfield 40, 3) := by decide +kernel
theorem dX8_sheet_39 : decode cX8_sheet 39 = .ok (.iload_n 1, 1) := by decide +kernel
theorem dX8_sheet_40 : decode cX8_sheet 40 = .ok (.aaload, 1) := by decide +kernel
theorem dX8_sheet_41 : decode cX8_sheet 41 = .ok (.iload_n 2, 1) := by decide +kernel
theorem dX8_sheet_42 : decode cX8_sheet 42 = .ok (.iload_n 3, 1) := by decide +kernel
theorem dX8_sheet_43 : decode cX8_sheet 43 = .ok (.invokevirtual 235, 3) := by decide +kernel
theorem dX8_sheet_46 : decode cX8_sheet 46 = .ok (.iload_n 3, 1) := by decide +kernel
theorem dX8_sheet_47 : decode cX8_sheet 47 = .ok (.ireturn, 1) := by decide +kernel
theorem dX8_lose_0 : decode cX8_lose 0 = .ok (.iload_n 1, 1) := by decide +kernel
theorem dX8_lose_1 : decode cX8_lose 1 = .ok (.iconst 4, 1) := by decide +kernel
theorem dX8_lose_2 : decode cX8_lose 2 = .ok (.invokestatic 104, 3) := by decide +kernel
theorem dX8_lose_5 : decode cX8_lose 5 = .ok (.ifCond .ne 6, 3) := by decide +kernel
theorem dX8_lose_8 : decode cX8_lose 8 = .ok (.bipush (-2), 2) := by decide +kernel
theorem dX8_lose_10 : decode cX8_lose 10 = .ok (.ireturn, 1) := by decide +kernel
theorem dX8_lose_11 : decode cX8_lose 11 = .ok (.aload_n 0, 1) := by decide +kernel
theorem dX8_lose_12 : decode cX8_lose 12 = .ok (.getfield 40, 3) := by decide +kernel
theorem dX8_lose_15 : decode cX8_lose 15 = .ok (.iload_n 1, 1) := by decide +kernel
theorem dX8_lose_16 : decode cX8_lose 16 = .ok (.aaload, 1) := by decide +kernel
theorem dX8_lose_17 : decode cX8_lose 17 = .ok (.invokevirtual 121, 3) := by decide +kernel
theorem dX8_lose_20 : decode cX8_lose 20 = .ok (.ifCond .eq 9, 3) := by decide +kernel
theorem dX8_lose_23 : decode cX8_lose 23 = .ok (.aload_n 0, 1) := by decide +kernel
theorem dX8_lose_24 : decode cX8_lose 24 = .ok (.iconst 1, 1) := by decide +kernel
theorem dX8_lose_25 : decode cX8_lose 25 = .ok (.invokevirtual 125, 3) := by decide +kernel
theorem dX8_lose_28 : decode cX8_lose 28 = .ok (.ireturn, 1) := by decide +kernel
theorem dX8_lose_29 : decode cX8_lose 29 = .ok (.aload_n 0, 1) := by decide +kernel
theorem dX8_lose_30 : decode cX8_lose 30 = .ok (.getfield 40, 3) := by decide +kernel
theorem dX8_lose_33 : decode cX8_lose 33 = .ok (.iload_n 1, 1) := by decide +kernel
theorem dX8_lose_34 : decode cX8_lose 34 = .ok (.aaload, 1) := by decide +kernel
theorem dX8_lose_35 : decode cX8_lose 35 = .ok (.iconst (-1), 1) := by decide +kernel
theorem dX8_lose_36 : decode cX8_lose 36 = .ok (.putfield 238, 3) := by decide +kernel
theorem dX8_lose_39 : decode cX8_lose 39 = .ok (.aload_n 0, 1) := by decide +kernel
theorem dX8_lose_40 : decode cX8_lose 40 = .ok (.getfield 40, 3) := by decide +kernel
theorem dX8_lose_43 : decode cX8_lose 43 = .ok (.iload_n 1, 1) := by decide +kernel
theorem dX8_lose_44 : decode cX8_lose 44 = .ok (.aaload, 1) := by decide +kernel
theorem dX8_lose_45 : decode cX8_lose 45 = .ok (.getfield 129, 3) := by decide +kernel
theorem dX8_lose_48 : decode cX8_lose 48 = .ok (.ireturn, 1) := by decide +kernel
theorem dX8_lay_0 : decode cX8_lay 0 = .ok (.iload_n 1, 1) := by decide +kernel
theorem dX8_lay_1 : decode cX8_lay 1 = .ok (.iconst 4, 1) := by decide +kernel
theorem dX8_lay_2 : decode cX8_lay 2 = .ok (.invokestatic 104, 3) := by decide +kernel
theorem dX8_lay_5 : decode cX8_lay 5 = .ok (.ifCond .eq 11, 3) := by decide +kernel
theorem dX8_lay_8 : decode cX8_lay 8 = .ok (.iload_n 2, 1) := by decide +kernel
theorem dX8_lay_9 : decode cX8_lay 9 = .ok (.iconst 3, 1) := by decide +kernel
theorem dX8_lay_10 : decode cX8_lay 10 = .ok (.invokestatic 104, 3) := by decide +kernel
theorem dX8_lay_13 : decode cX8_lay 13 = .ok (.ifCond .ne 6, 3) := by decide +kernel
theorem dX8_lay_16 : decode cX8_lay 16 = .ok (.bipush (-2), 2) := by decide +kernel
theorem dX8_lay_18 : decode cX8_lay 18 = .ok (.ireturn, 1) := by decide +kernel
theorem dX8_lay_19 : decode cX8_lay 19 = .ok (.aload_n 0, 1) := by decide +kernel
theorem dX8_lay_20 : decode cX8_lay 20 = .ok (.getfield 40, 3) := by decide +kernel
theorem dX8_lay_23 : decode cX8_lay 23 = .ok (.iload_n 1, 1) := by decide +kernel
theorem dX8_lay_24 : decode cX8_lay 24 = .ok (.aaload, 1) := by decide +kernel
theorem dX8_lay_25 : decode cX8_lay 25 = .ok (.iload_n 2, 1) := by decide +kernel
theorem dX8_lay_26 : decode cX8_lay 26 = .ok (.iload_n 3, 1) := by decide +kernel
theorem dX8_lay_27 : decode cX8_lay 27 = .ok (.invokevirtual 241, 3) := by decide +kernel
theorem dX8_lay_30 : decode cX8_lay 30 = .ok (.istore 5, 2) := by decide +kernel
theorem dX8_lay_32 : decode cX8_lay 32 = .ok (.iload 5, 2) := by decide +kernel
theorem dX8_lay_34 : decode cX8_lay 34 = .ok (.ifCond .eq 10, 3) := by decide +kernel
theorem dX8_lay_37 : decode cX8_lay 37 = .ok (.aload_n 0, 1) := by decide +kernel
theorem dX8_lay_38 : decode cX8_lay 38 = .ok (.iload 5, 2) := by decide +kernel
theorem dX8_lay_40 : decode cX8_lay 40 = .ok (.invokevirtual 125, 3) := by decide +kernel
theorem dX8_lay_43 : decode cX8_lay 43 = .ok (.ireturn, 1) := by decide +kernel
theorem dX8_lay_44 : decode cX8_lay 44 = .ok (.aload_n 0, 1) := by decide +kernel
theorem dX8_lay_45 : decode cX8_lay 45 = .ok (.getfield 40, 3) := by decide +kernel
theorem dX8_lay_48 : decode cX8_lay 48 = .ok (.iload_n 1, 1) := by decide +kernel
theorem dX8_lay_49 : decode cX8_lay 49 = .ok (.aaload, 1) := by decide +kernel
theorem dX8_lay_50 : decode cX8_lay 50 = .ok (.iload_n 3, 1) := by decide +kernel
theorem dX8_lay_51 : decode cX8_lay 51 = .ok (.iload 4, 2) := by decide +kernel
theorem dX8_lay_53 : decode cX8_lay 53 = .ok (.invokevirtual 244, 3) := by decide +kernel
theorem dX8_lay_56 : decode cX8_lay 56 = .ok (.iconst 1, 1) := by decide +kernel
theorem dX8_lay_57 : decode cX8_lay 57 = .ok (.ireturn, 1) := by decide +kernel
theorem dX8_get_0 : decode cX8_get 0 = .ok (.iload_n 1, 1) := by decide +kernel
theorem dX8_get_1 : decode cX8_get 1 = .ok (.iconst 4, 1) := by decide +kernel
theorem dX8_get_2 : decode cX8_get 2 = .ok (.invokestatic 104, 3) := by decide +kernel
theorem dX8_get_5 : decode cX8_get 5 = .ok (.ifCond .eq 11, 3) := by decide +kernel
theorem dX8_get_8 : decode cX8_get 8 = .ok (.iload_n 2, 1) := by decide +kernel
theorem dX8_get_9 : decode cX8_get 9 = .ok (.iconst 3, 1) := by decide +kernel
theorem dX8_get_10 : decode cX8_get 10 = .ok (.invokestatic 104, 3) := by decide +kernel
theorem dX8_get_13 : decode cX8_get 13 = .ok (.ifCond .ne 6, 3) := by decide +kernel
theorem dX8_get_16 : decode cX8_get 16 = .ok (.ldc 247, 2) := by decide +kernel
theorem dX8_get_18 : decode cX8_get 18 = .ok (.ireturn, 1) := by decide +kernel
theorem dX8_get_19 : decode cX8_get 19 = .ok (.aload_n 0, 1) := by decide +kernel
theorem dX8_get_20 : decode cX8_get 20 = .ok (.getfield 40, 3) := by decide +kernel
theorem dX8_get_23 : decode cX8_get 23 = .ok (.iload_n 1, 1) := by decide +kernel
theorem dX8_get_24 : decode cX8_get 24 = .ok (.aaload, 1) := by decide +kernel
theorem dX8_get_25 : decode cX8_get 25 = .ok (.iload_n 2, 1) := by decide +kernel
theorem dX8_get_26 : decode cX8_get 26 = .ok (.iload_n 3, 1) := by decide +kernel
theorem dX8_get_27 : decode cX8_get 27 = .ok (.invokevirtual 241, 3) := by decide +kernel
theorem dX8_get_30 : decode cX8_get 30 = .ok (.istore 4, 2) := by decide +kernel
theorem dX8_get_32 : decode cX8_get 32 = .ok (.iload 4, 2) := by decide +kernel
theorem dX8_get_34 : decode cX8_get 34 = .ok (.ifCond .eq 13, 3) := by decide +kernel
theorem dX8_get_37 : decode cX8_get 37 = .ok (.aload_n 0, 1) := by decide +kernel
theorem dX8_get_38 : decode cX8_get 38 = .ok (.iload 4, 2) := by decide +kernel
theorem dX8_get_40 : decode cX8_get 40 = .ok (.invokevirtual 125, 3) := by decide +kernel
theorem dX8_get_43 : decode cX8_get 43 = .ok (.pop, 1) := by decide +kernel
theorem dX8_get_44 : decode cX8_get 44 = .ok (.ldc 247, 2) := by decide +kernel
theorem dX8_get_46 : decode cX8_get 46 = .ok (.ireturn, 1) := by decide +kernel
theorem dX8_get_47 : decode cX8_get 47 = .ok (.aload_n 0, 1) := by decide +kernel
theorem dX8_get_48 : decode cX8_get 48 = .ok (.getfield 40, 3) := by decide +kernel
theorem dX8_get_51 : decode cX8_get 51 = .ok (.iload_n 1, 1) := by decide +kernel
theorem dX8_get_52 : decode cX8_get 52 = .ok (.aaload, 1) := by decide +kernel
theorem dX8_get_53 : decode cX8_get 53 = .ok (.getfield 130, 3) := by decide +kernel
theorem dX8_get_56 : decode cX8_get 56 = .ok (.iload_n 3, 1) := by decide +kernel
theorem dX8_get_57 : decode cX8_get 57 = .ok (.iaload, 1) := by decide +kernel
theorem dX8_get_58 : decode cX8_get 58 = .ok (.ireturn, 1) := by decide +kernel
theorem dX8_copy_0 : decode cX8_copy 0 = .ok (.iload_n 1, 1) := by decide +kernel
theorem dX8_copy_1 : decode cX8_copy 1 = .ok (.iconst 4, 1) := by decide +kernel
theorem dX8_copy_2 : decode cX8_copy 2 = .ok (.invokestatic 104, 3) := by decide +kernel
theorem dX8_copy_5 : decode cX8_copy 5 = .ok (.ifCond .eq 11, 3) := by decide +kernel
theorem dX8_copy_8 : decode cX8_copy 8 = .ok (.iload_n 3, 1) := by decide +kernel
theorem dX8_copy_9 : decode cX8_copy 9 = .ok (.iconst 4, 1) := by decide +kernel
theorem dX8_copy_10 : decode cX8_copy 10 = .ok (.invokestatic 104, 3) := by decide +kernel
theorem dX8_copy_13 : decode cX8_copy 13 = .ok (.ifCond .ne 6, 3) := by decide +kernel
theorem dX8_copy_16 : decode cX8_copy 16 = .ok (.bipush (-2), 2) := by decide +kernel
theorem dX8_copy_18 : decode cX8_copy 18 = .ok (.ireturn, 1) := by decide +kernel
theorem dX8_copy_19 : decode cX8_copy 19 = .ok (.aload_n 0, 1) := by decide +kernel
theorem dX8_copy_20 : decode cX8_copy 20 = .ok (.getfield 40, 3) := by decide +kernel
theorem dX8_copy_23 : decode cX8_copy 23 = .ok (.iload_n 1, 1) := by decide +kernel
theorem dX8_copy_24 : decode cX8_copy 24 = .ok (.aaload, 1) := by decide +kernel
theorem dX8_copy_25 : decode cX8_copy 25 = .ok (.astore 6, 2) := by decide +kernel
theorem dX8_copy_27 : decode cX8_copy 27 = .ok (.aload_n 0, 1) := by decide +kernel
theorem dX8_copy_28 : decode cX8_copy 28 = .ok (.getfield 40, 3) := by decide +kernel
theorem dX8_copy_31 : decode cX8_copy 31 = .ok (.iload_n 3, 1) := by decide +kernel
theorem dX8_copy_32 : decode cX8_copy 32 = .ok (.aaload, 1) := by decide +kernel
theorem dX8_copy_33 : decode cX8_copy 33 = .ok (.astore 7, 2) := by decide +kernel
theorem dX8_copy_35 : decode cX8_copy 35 = .ok (.aload 6, 2) := by decide +kernel
theorem dX8_copy_37 : decode cX8_copy 37 = .ok (.invokevirtual 121, 3) := by decide +kernel
theorem dX8_copy_40 : decode cX8_copy 40 = .ok (.ifCond .ne 11, 3) := by decide +kernel
theorem dX8_copy_43 : decode cX8_copy 43 = .ok (.aload 7, 2) := by decide +kernel
theorem dX8_copy_45 : decode cX8_copy 45 = .ok (.invokevirtual 121, 3) := by decide +kernel
theorem dX8_copy_48 : decode cX8_copy 48 = .ok (.ifCond .eq 9, 3) := by decide +kernel
theorem dX8_copy_51 : decode cX8_copy 51 = .ok (.aload_n 0, 1) := by decide +kernel
theorem dX8_copy_52 : decode cX8_copy 52 = .ok (.iconst 1, 1) := by decide +kernel
theorem dX8_copy_53 : decode cX8_copy 53 = .ok (.invokevirtual 125, 3) := by decide +kernel
theorem dX8_copy_56 : decode cX8_copy 56 = .ok (.ireturn, 1) := by decide +kernel
theorem dX8_copy_57 : decode cX8_copy 57 = .ok (.aload 6, 2) := by decide +kernel
theorem dX8_copy_59 : decode cX8_copy 59 = .ok (.getfield 238, 3) := by decide +kernel
theorem dX8_copy_62 : decode cX8_copy 62 = .ok (.aload 7, 2) := by decide +kernel
theorem dX8_copy_64 : decode cX8_copy 64 = .ok (.getfield 238, 3) := by decide +kernel
theorem dX8_copy_67 : decode cX8_copy 67 = .ok (.if_icmp .eq 9, 3) := by decide +kernel
theorem dX8_copy_70 : decode cX8_copy 70 = .ok (.aload_n 0, 1) := by decide +kernel
theorem dX8_copy_71 : decode cX8_copy 71 = .ok (.iconst 4, 1) := by decide +kernel
theorem dX8_copy_72 : decode cX8_copy 72 = .ok (.invokevirtual 125, 3) := by decide +kernel
theorem dX8_copy_75 : decode cX8_copy 75 = .ok (.ireturn, 1) := by decide +kernel
theorem dX8_copy_76 : decode cX8_copy 76 = .ok (.aload 6, 2) := by decide +kernel
theorem dX8_copy_78 : decode cX8_copy 78 = .ok (.iload_n 2, 1) := by decide +kernel
theorem dX8_copy_79 : decode cX8_copy 79 = .ok (.iload 5, 2) := by decide +kernel
theorem dX8_copy_81 : decode cX8_copy 81 = .ok (.invokevirtual 248, 3) := by decide +kernel
theorem dX8_copy_84 : decode cX8_copy 84 = .ok (.ifCond .eq 15, 3) := by decide +kernel
theorem dX8_copy_87 : decode cX8_copy 87 = .ok (.aload 7, 2) := by decide +kernel
theorem dX8_copy_89 : decode cX8_copy 89 = .ok (.iload 4, 2) := by decide +kernel
theorem dX8_copy_91 : decode cX8_copy 91 = .ok (.iload 5, 2) := by decide +kernel
theorem dX8_copy_93 : decode cX8_copy 93 = .ok (.invokevirtual 248, 3) := by decide +kernel
theorem dX8_copy_96 : decode cX8_copy 96 = .ok (.ifCond .ne 9, 3) := by decide +kernel
theorem dX8_copy_99 : decode cX8_copy 99 = .ok (.aload_n 0, 1) := by decide +kernel
theorem dX8_copy_100 : decode cX8_copy 100 = .ok (.iconst 2, 1) := by decide +kernel
theorem dX8_copy_101 : decode cX8_copy 101 = .ok (.invokevirtual 125, 3) := by decide +kernel
theorem dX8_copy_104 : decode cX8_copy 104 = .ok (.ireturn, 1) := by decide +kernel
theorem dX8_copy_105 : decode cX8_copy 105 = .ok (.aload 6, 2) := by decide +kernel
theorem dX8_copy_107 : decode cX8_copy 107 = .ok (.getfield 130, 3) := by decide +kernel
theorem dX8_copy_110 : decode cX8_copy 110 = .ok (.iload_n 2, 1) := by decide +kernel
theorem dX8_copy_111 : decode cX8_copy 111 = .ok (.aload 7, 2) := by decide +kernel
theorem dX8_copy_113 : decode cX8_copy 113 = .ok (.getfield 130, 3) := by decide +kernel
theorem dX8_copy_116 : decode cX8_copy 116 = .ok (.iload 4, 2) := by decide +kernel
theorem dX8_copy_118 : decode cX8_copy 118 = .ok (.iload 5, 2) := by decide +kernel
theorem dX8_copy_120 : decode cX8_copy 120 = .ok (.invokestatic 251, 3) := by decide +kernel
theorem dX8_copy_123 : decode cX8_copy 123 = .ok (.iconst 1, 1) := by decide +kernel
theorem dX8_copy_124 : decode cX8_copy 124 = .ok (.ireturn, 1) := by decide +kernel
theorem dX8_write_0 : decode cX8_write 0 = .ok (.iload_n 1, 1) := by decide +kernel
theorem dX8_write_1 : decode cX8_write 1 = .ok (.aload_n 0, 1) := by decide +kernel
theorem dX8_write_2 : decode cX8_write 2 = .ok (.getfield 14, 3) := by decide +kernel
theorem dX8_write_5 : decode cX8_write 5 = .ok (.invokevirtual 100, 3) := by decide +kernel
theorem dX8_write_8 : decode cX8_write 8 = .ok (.invokestatic 104, 3) := by decide +kernel
theorem dX8_write_11 : decode cX8_write 11 = .ok (.ifCond .eq 11, 3) := by decide +kernel
theorem dX8_write_14 : decode cX8_write 14 = .ok (.iload_n 2, 1) := by decide +kernel
theorem dX8_write_15 : decode cX8_write 15 = .ok (.iconst 4, 1) := by decide +kernel
theorem dX8_write_16 : decode cX8_write 16 = .ok (.invokestatic 104, 3) := by decide +kernel
theorem dX8_write_19 : decode cX8_write 19 = .ok (.ifCond .ne 6, 3) := by decide +kernel
theorem dX8_write_22 : decode cX8_write 22 = .ok (.bipush (-2), 2) := by decide +kernel
theorem dX8_write_24 : decode cX8_write 24 = .ok (.ireturn, 1) := by decide +kernel
theorem dX8_write_25 : decode cX8_write 25 = .ok (.aload_n 0, 1) := by decide +kernel
theorem dX8_write_26 : decode cX8_write 26 = .ok (.getfield 40, 3) := by decide +kernel
theorem dX8_write_29 : decode cX8_write 29 = .ok (.iload_n 2, 1) := by decide +kernel
theorem dX8_write_30 : decode cX8_write 30 = .ok (.aaload, 1) := by decide +kernel
theorem dX8_write_31 : decode cX8_write 31 = .ok (.astore_n 3, 1) := by decide +kernel
theorem dX8_write_32 : decode cX8_write 32 = .ok (.aload_n 3, 1) := by decide +kernel
theorem dX8_write_33 : decode cX8_write 33 = .ok (.invokevirtual 121, 3) := by decide +kernel
theorem dX8_write_36 : decode cX8_write 36 = .ok (.ifCond .eq 9, 3) := by decide +kernel
theorem dX8_write_39 : decode cX8_write 39 = .ok (.aload_n 0, 1) := by decide +kernel
theorem dX8_write_40 : decode cX8_write 40 = .ok (.iconst 1, 1) := by decide +kernel
theorem dX8_write_41 : decode cX8_write 41 = .ok (.invokevirtual 125, 3) := by decide +kernel
theorem dX8_write_44 : decode cX8_write 44 = .ok (.ireturn, 1) := by decide +kernel
theorem dX8_write_45 : decode cX8_write 45 = .ok (.aload_n 3, 1) := by decide +kernel
theorem dX8_write_46 : decode cX8_write 46 = .ok (.getfield 129, 3) := by decide +kernel
theorem dX8_write_49 : decode cX8_write 49 = .ok (.bipush 12, 2) := by decide +kernel
theorem dX8_write_51 : decode cX8_write 51 = .ok (.invokestatic 257, 3) := by decide +kernel
theorem dX8_write_54 : decode cX8_write 54 = .ok (.istore 4, 2) := by decide +kernel
theorem dX8_write_56 : decode cX8_write 56 = .ok (.iconst 0, 1) := by decide +kernel
theorem dX8_write_57 : decode cX8_write 57 = .ok (.istore 5, 2) := by decide +kernel
theorem dX8_write_59 : decode cX8_write 59 = .ok (.iload 5, 2) := by decide +kernel
theorem dX8_write_61 : decode cX8_write 61 = .ok (.iload 4, 2) := by decide +kernel
theorem dX8_write_63 : decode cX8_write 63 = .ok (.if_icmp .ge 32, 3) := by decide +kernel
theorem dX8_write_66 : decode cX8_write 66 = .ok (.aload_n 0, 1) := by decide +kernel
theorem dX8_write_67 : decode cX8_write 67 = .ok (.iload 5, 2) := by decide +kernel
theorem dX8_write_69 : decode cX8_write 69 = .ok (.iconst 1, 1) := by decide +kernel
theorem dX8_write_70 : decode cX8_write 70 = .ok (.iadd, 1) := by decide +kernel
theorem dX8_write_71 : decode cX8_write 71 = .ok (.invokevirtual 133, 3) := by decide +kernel
theorem dX8_write_74 : decode cX8_write 74 = .ok (.aload_n 3, 1) := by decide +kernel
theorem dX8_write_75 : decode cX8_write 75 = .ok (.iload 5, 2) := by decide +kernel
theorem dX8_write_77 : decode cX8_write 77 = .ok (.aload_n 0, 1) := by decide +kernel
theorem dX8_write_78 : decode cX8_write 78 = .ok (.getfield 60, 3) := by decide +kernel
theorem dX8_write_81 : decode cX8_write 81 = .ok (.getfield 262, 3) := by decide +kernel
theorem dX8_write_84 : decode cX8_write 84 = .ok (.iload_n 1, 1) := by decide +kernel
theorem dX8_write_85 : decode cX8_write 85 = .ok (.iaload, 1) := by decide +kernel
theorem dX8_write_86 : decode cX8_write 86 = .ok (.invokevirtual 244, 3) := by decide +kernel
theorem dX8_write_89 : decode cX8_write 89 = .ok (.iinc 5 1, 3) := by decide +kernel
theorem dX8_write_92 : decode cX8_write 92 = .ok (.goto (-33), 3) := by decide +kernel
theorem dX8_write_95 : decode cX8_write 95 = .ok (.iload 4, 2) := by decide +kernel
theorem dX8_write_97 : decode cX8_write 97 = .ok (.ireturn, 1) := by decide +kernel
theorem dX8_count_0 : decode cX8_count 0 = .ok (.iload_n 1, 1) := by decide +kernel
theorem dX8_count_1 : decode cX8_count 1 = .ok (.tableswitch 120 0 8 #[51, 59, 67, 75, 83, 91, 99, 107, 115], 51) := by decide +kernel
theorem dX8_count_52 : decode cX8_count 52 = .ok (.aload_n 0, 1) := by decide +kernel
theorem dX8_count_53 : decode cX8_count 53 = .ok (.getfield 14, 3) := by decide +kernel
theorem dX8_count_56 : decode cX8_count 56 = .ok (.invokevirtual 100, 3) := by decide +kernel
theorem dX8_count_59 : decode cX8_count 59 = .ok (.ireturn, 1) := by decide +kernel
theorem dX8_count_60 : decode cX8_count 60 = .ok (.aload_n 0, 1) := by decide +kernel
theorem dX8_count_61 : decode cX8_count 61 = .ok (.getfield 18, 3) := by decide +kernel
theorem dX8_count_64 : decode cX8_count 64 = .ok (.invokevirtual 100, 3) := by decide +kernel
theorem dX8_count_67 : decode cX8_count 67 = .ok (.ireturn, 1) := by decide +kernel
theorem dX8_count_68 : decode cX8_count 68 = .ok (.aload_n 0, 1) := by decide +kernel
theorem dX8_count_69 : decode cX8_count 69 = .ok (.getfield 24, 3) := by decide +kernel
theorem dX8_count_72 : decode cX8_count 72 = .ok (.invokevirtual 265, 3) := by decide +kernel
theorem dX8_count_75 : decode cX8_count 75 = .ok (.ireturn, 1) := by decide +kernel
theorem dX8_count_76 : decode cX8_count 76 = .ok (.aload_n 0, 1) := by decide +kernel
theorem dX8_count_77 : decode cX8_count 77 = .ok (.getfield 14, 3) := by decide +kernel
theorem dX8_count_80 : decode cX8_count 80 = .ok (.getfield 266, 3) := by decide +kernel
theorem dX8_count_83 : decode cX8_count 83 = .ok (.ireturn, 1) := by decide +kernel
theorem dX8_count_84 : decode cX8_count 84 = .ok (.aload_n 0, 1) := by decide +kernel
theorem dX8_count_85 : decode cX8_count 85 = .ok (.getfield 18, 3) := by decide +kernel
theorem dX8_count_88 : decode cX8_count 88 = .ok (.getfield 266, 3) := by decide +kernel
theorem dX8_count_91 : decode cX8_count 91 = .ok (.ireturn, 1) := by decide +kernel
theorem dX8_count_92 : decode cX8_count 92 = .ok (.aload_n 0, 1) := by decide +kernel
theorem dX8_count_93 : decode cX8_count 93 = .ok (.getfield 24, 3) := by decide +kernel
theorem dX8_count_96 : decode cX8_count 96 = .ok (.getfield 267, 3) := by decide +kernel
theorem dX8_count_99 : decode cX8_count 99 = .ok (.ireturn, 1) := by decide +kernel
theorem dX8_count_100 : decode cX8_count 100 = .ok (.aload_n 0, 1) := by decide +kernel
theorem dX8_count_101 : decode cX8_count 101 = .ok (.getfield 31, 3) := by decide +kernel
theorem dX8_count_104 : decode cX8_count 104 = .ok (.getfield 119, 3) := by decide +kernel
theorem dX8_count_107 : decode cX8_count 107 = .ok (.ireturn, 1) := by decide +kernel
theorem dX8_count_108 : decode cX8_count 108 = .ok (.aload_n 0, 1) := by decide +kernel
theorem dX8_count_109 : decode cX8_count 109 = .ok (.getfield 35, 3) := by decide +kernel
theorem dX8_count_112 : decode cX8_count 112 = .ok (.getfield 119, 3) := by decide +kernel
theorem dX8_count_115 : decode cX8_count 115 = .ok (.ireturn, 1) := by decide +kernel
theorem dX8_count_116 : decode cX8_count 116 = .ok (.aload_n 0, 1) := by decide +kernel
theorem dX8_count_117 : decode cX8_count 117 = .ok (.getfield 44, 3) := by decide +kernel
theorem dX8_count_120 : decode cX8_count 120 = .ok (.ireturn, 1) := by decide +kernel
theorem dX8_count_121 : decode cX8_count 121 = .ok (.bipush (-2), 2) := by decide +kernel
theorem dX8_count_123 : decode cX8_count 123 = .ok (.ireturn, 1) := by decide +kernel
theorem dX8_digest_0 : decode cX8_digest 0 = .ok (.ldc2_w 268, 3) := by decide +kernel
theorem dX8_digest_3 : decode cX8_digest 3 = .ok (.lstore_n 1, 1) := by decide +kernel
theorem dX8_digest_4 : decode cX8_digest 4 = .ok (.iconst 0, 1) := by decide +kernel
theorem dX8_digest_5 : decode cX8_digest 5 = .ok (.istore_n 3, 1) := by decide +kernel
theorem dX8_digest_6 : decode cX8_digest 6 = .ok (.iload_n 3, 1) := by decide +kernel
theorem dX8_digest_7 : decode cX8_digest 7 = .ok (.bipush 8, 2) := by decide +kernel
theorem dX8_digest_9 : decode cX8_digest 9 = .ok (.if_icmp .ge 20, 3) := by decide +kernel
theorem dX8_digest_12 : decode cX8_digest 12 = .ok (.lload_n 1, 1) := by decide +kernel
theorem dX8_digest_13 : decode cX8_digest 13 = .ok (.aload_n 0, 1) := by decide +kernel
theorem dX8_digest_14 : decode cX8_digest 14 = .ok (.iload_n 3, 1) := by decide +kernel
theorem dX8_digest_15 : decode cX8_digest 15 = .ok (.invokevirtual 270, 3) := by decide +kernel
theorem dX8_digest_18 : decode cX8_digest 18 = .ok (.i2l, 1) := by decide +kernel
theorem dX8_digest_19 : decode cX8_digest 19 = .ok (.invokestatic 273, 3) := by decide +kernel
theorem dX8_digest_22 : decode cX8_digest 22 = .ok (.lstore_n 1, 1) := by decide +kernel
theorem dX8_digest_23 : decode cX8_digest 23 = .ok (.iinc 3 1, 3) := by decide +kernel
theorem dX8_digest_26 : decode cX8_digest 26 = .ok (.goto (-20), 3) := by decide +kernel
theorem dX8_digest_29 : decode cX8_digest 29 = .ok (.iconst 0, 1) := by decide +kernel
theorem dX8_digest_30 : decode cX8_digest 30 = .ok (.istore_n 3, 1) := by decide +kernel
theorem dX8_digest_31 : decode cX8_digest 31 = .ok (.iload_n 3, 1) := by decide +kernel
theorem dX8_digest_32 : decode cX8_digest 32 = .ok (.iconst 3, 1) := by decide +kernel
theorem dX8_digest_33 : decode cX8_digest 33 = .ok (.if_icmp .ge 20, 3) := by decide +kernel
theorem dX8_digest_36 : decode cX8_digest 36 = .ok (.lload_n 1, 1) := by decide +kernel
theorem dX8_digest_37 : decode cX8_digest 37 = .ok (.aload_n 0, 1) := by decide +kernel
theorem dX8_digest_38 : decode cX8_digest 38 = .ok (.iload_n 3, 1) := by decide +kernel
theorem dX8_digest_39 : decode cX8_digest 39 = .ok (.invokevirtual 277, 3) := by decide +kernel
theorem dX8_digest_42 : decode cX8_digest 42 = .ok (.i2l, 1) := by decide +kernel
theorem dX8_digest_43 : decode cX8_digest 43 = .ok (.invokestatic 273, 3) := by decide +kernel
theorem dX8_digest_46 : decode cX8_digest 46 = .ok (.lstore_n 1, 1) := by decide +kernel
theorem dX8_digest_47 : decode cX8_digest 47 = .ok (.iinc 3 1, 3) := by decide +kernel
theorem dX8_digest_50 : decode cX8_digest 50 = .ok (.goto (-19), 3) := by decide +kernel
theorem dX8_digest_53 : decode cX8_digest 53 = .ok (.aload_n 0, 1) := by decide +kernel
theorem dX8_digest_54 : decode cX8_digest 54 = .ok (.lload_n 1, 1) := by decide +kernel
theorem dX8_digest_55 : decode cX8_digest 55 = .ok (.invokevirtual 280, 3) := by decide +kernel
theorem dX8_digest_58 : decode cX8_digest 58 = .ok (.lstore_n 1, 1) := by decide +kernel
theorem dX8_digest_59 : decode cX8_digest 59 = .ok (.aload_n 0, 1) := by decide +kernel
theorem dX8_digest_60 : decode cX8_digest 60 = .ok (.iconst 5, 1) := by decide +kernel
theorem dX8_digest_61 : decode cX8_digest 61 = .ok (.invokevirtual 225, 3) := by decide +kernel
theorem dX8_digest_64 : decode cX8_digest 64 = .ok (.iconst 0, 1) := by decide +kernel
theorem dX8_digest_65 : decode cX8_digest 65 = .ok (.istore_n 3, 1) := by decide +kernel
theorem dX8_digest_66 : decode cX8_digest 66 = .ok (.iload_n 3, 1) := by decide +kernel
theorem dX8_digest_67 : decode cX8_digest 67 = .ok (.aload_n 0, 1) := by decide +kernel
theorem dX8_digest_68 : decode cX8_digest 68 = .ok (.getfield 14, 3) := by decide +kernel
theorem dX8_digest_71 : decode cX8_digest 71 = .ok (.invokevirtual 100, 3) := by decide +kernel
theorem dX8_digest_74 : decode cX8_digest 74 = .ok (.if_icmp .ge 16, 3) := by decide +kernel
theorem dX8_digest_77 : decode cX8_digest 77 = .ok (.aload_n 0, 1) := by decide +kernel
theorem dX8_digest_78 : decode cX8_digest 78 = .ok (.lload_n 1, 1) := by decide +kernel
theorem dX8_digest_79 : decode cX8_digest 79 = .ok (.iload_n 3, 1) := by decide +kernel
theorem dX8_digest_80 : decode cX8_digest 80 = .ok (.invokevirtual 284, 3) := by decide +kernel
theorem dX8_digest_83 : decode cX8_digest 83 = .ok (.lstore_n 1, 1) := by decide +kernel
theorem dX8_digest_84 : decode cX8_digest 84 = .ok (.iinc 3 1, 3) := by decide +kernel
theorem dX8_digest_87 : decode cX8_digest 87 = .ok (.goto (-21), 3) := by decide +kernel
theorem dX8_digest_90 : decode cX8_digest 90 = .ok (.aload_n 0, 1) := by decide +kernel
theorem dX8_digest_91 : decode cX8_digest 91 = .ok (.lload_n 1, 1) := by decide +kernel
theorem dX8_digest_92 : decode cX8_digest 92 = .ok (.invokevirtual 287, 3) := by decide +kernel
theorem dX8_digest_95 : decode cX8_digest 95 = .ok (.lstore_n 1, 1) := by decide +kernel
theorem dX8_digest_96 : decode cX8_digest 96 = .ok (.aload_n 0, 1) := by decide +kernel
theorem dX8_digest_97 : decode cX8_digest 97 = .ok (.lload_n 1, 1) := by decide +kernel
theorem dX8_digest_98 : decode cX8_digest 98 = .ok (.invokevirtual 290, 3) := by decide +kernel
theorem dX8_digest_101 : decode cX8_digest 101 = .ok (.lstore_n 1, 1) := by decide +kernel
theorem dX8_digest_102 : decode cX8_digest 102 = .ok (.lload_n 1, 1) := by decide +kernel
theorem dX8_digest_103 : decode cX8_digest 103 = .ok (.aload_n 0, 1) := by decide +kernel
theorem dX8_digest_104 : decode cX8_digest 104 = .ok (.invokevirtual 293, 3) := by decide +kernel
theorem dX8_digest_107 : decode cX8_digest 107 = .ok (.i2l, 1) := by decide +kernel
theorem dX8_digest_108 : decode cX8_digest 108 = .ok (.invokestatic 273, 3) := by decide +kernel
theorem dX8_digest_111 : decode cX8_digest 111 = .ok (.lstore_n 1, 1) := by decide +kernel
theorem dX8_digest_112 : decode cX8_digest 112 = .ok (.lload_n 1, 1) := by decide +kernel
theorem dX8_digest_113 : decode cX8_digest 113 = .ok (.aload_n 0, 1) := by decide +kernel
theorem dX8_digest_114 : decode cX8_digest 114 = .ok (.invokevirtual 296, 3) := by decide +kernel
theorem dX8_digest_117 : decode cX8_digest 117 = .ok (.i2l, 1) := by decide +kernel
theorem dX8_digest_118 : decode cX8_digest 118 = .ok (.invokestatic 273, 3) := by decide +kernel
theorem dX8_digest_121 : decode cX8_digest 121 = .ok (.lstore_n 1, 1) := by decide +kernel
theorem dX8_digest_122 : decode cX8_digest 122 = .ok (.lload_n 1, 1) := by decide +kernel
theorem dX8_digest_123 : decode cX8_digest 123 = .ok (.aload_n 0, 1) := by decide +kernel
theorem dX8_digest_124 : decode cX8_digest 124 = .ok (.iconst 0, 1) := by decide +kernel
theorem dX8_digest_125 : decode cX8_digest 125 = .ok (.invokevirtual 299, 3) := by decide +kernel
theorem dX8_digest_128 : decode cX8_digest 128 = .ok (.i2l, 1) := by decide +kernel
theorem dX8_digest_129 : decode cX8_digest 129 = .ok (.invokestatic 273, 3) := by decide +kernel
theorem dX8_digest_132 : decode cX8_digest 132 = .ok (.lstore_n 1, 1) := by decide +kernel
theorem dX8_digest_133 : decode cX8_digest 133 = .ok (.lload_n 1, 1) := by decide +kernel
theorem dX8_digest_134 : decode cX8_digest 134 = .ok (.aload_n 0, 1) := by decide +kernel
theorem dX8_digest_135 : decode cX8_digest 135 = .ok (.iconst 1, 1) := by decide +kernel
theorem dX8_digest_136 : decode cX8_digest 136 = .ok (.invokevirtual 299, 3) := by decide +kernel
theorem dX8_digest_139 : decode cX8_digest 139 = .ok (.i2l, 1) := by decide +kernel
theorem dX8_digest_140 : decode cX8_digest 140 = .ok (.invokestatic 273, 3) := by decide +kernel
theorem dX8_digest_143 : decode cX8_digest 143 = .ok (.lstore_n 1, 1) := by decide +kernel
theorem dX8_digest_144 : decode cX8_digest 144 = .ok (.lload_n 1, 1) := by decide +kernel
theorem dX8_digest_145 : decode cX8_digest 145 = .ok (.aload_n 0, 1) := by decide +kernel
theorem dX8_digest_146 : decode cX8_digest 146 = .ok (.iconst (-1), 1) := by decide +kernel
theorem dX8_digest_147 : decode cX8_digest 147 = .ok (.invokevirtual 302, 3) := by decide +kernel
theorem dX8_digest_150 : decode cX8_digest 150 = .ok (.i2l, 1) := by decide +kernel
theorem dX8_digest_151 : decode cX8_digest 151 = .ok (.invokestatic 273, 3) := by decide +kernel
theorem dX8_digest_154 : decode cX8_digest 154 = .ok (.lstore_n 1, 1) := by decide +kernel
theorem dX8_digest_155 : decode cX8_digest 155 = .ok (.lload_n 1, 1) := by decide +kernel
theorem dX8_digest_156 : decode cX8_digest 156 = .ok (.aload_n 0, 1) := by decide +kernel
theorem dX8_digest_157 : decode cX8_digest 157 = .ok (.iconst 0, 1) := by decide +kernel
theorem dX8_digest_158 : decode cX8_digest 158 = .ok (.invokevirtual 302, 3) := by decide +kernel
theorem dX8_digest_161 : decode cX8_digest 161 = .ok (.i2l, 1) := by decide +kernel
theorem dX8_digest_162 : decode cX8_digest 162 = .ok (.invokestatic 273, 3) := by decide +kernel
theorem dX8_digest_165 : decode cX8_digest 165 = .ok (.lstore_n 1, 1) := by decide +kernel
theorem dX8_digest_166 : decode cX8_digest 166 = .ok (.lload_n 1, 1) := by decide +kernel
theorem dX8_digest_167 : decode cX8_digest 167 = .ok (.aload_n 0, 1) := by decide +kernel
theorem dX8_digest_168 : decode cX8_digest 168 = .ok (.invokevirtual 305, 3) := by decide +kernel
theorem dX8_digest_171 : decode cX8_digest 171 = .ok (.i2l, 1) := by decide +kernel
theorem dX8_digest_172 : decode cX8_digest 172 = .ok (.invokestatic 273, 3) := by decide +kernel
theorem dX8_digest_175 : decode cX8_digest 175 = .ok (.lstore_n 1, 1) := by decide +kernel
theorem dX8_digest_176 : decode cX8_digest 176 = .ok (.lload_n 1, 1) := by decide +kernel
theorem dX8_digest_177 : decode cX8_digest 177 = .ok (.aload_n 0, 1) := by decide +kernel
theorem dX8_digest_178 : decode cX8_digest 178 = .ok (.bipush 7, 2) := by decide +kernel
theorem dX8_digest_180 : decode cX8_digest 180 = .ok (.bipush 9, 2) := by decide +kernel
theorem dX8_digest_182 : decode cX8_digest 182 = .ok (.iconst 0, 1) := by decide +kernel
theorem dX8_digest_183 : decode cX8_digest 183 = .ok (.invokevirtual 308, 3) := by decide +kernel
theorem dX8_digest_186 : decode cX8_digest 186 = .ok (.i2l, 1) := by decide +kernel
theorem dX8_digest_187 : decode cX8_digest 187 = .ok (.invokestatic 273, 3) := by decide +kernel
theorem dX8_digest_190 : decode cX8_digest 190 = .ok (.lstore_n 1, 1) := by decide +kernel
theorem dX8_digest_191 : decode cX8_digest 191 = .ok (.lload_n 1, 1) := by decide +kernel
theorem dX8_digest_192 : decode cX8_digest 192 = .ok (.aload_n 0, 1) := by decide +kernel
theorem dX8_digest_193 : decode cX8_digest 193 = .ok (.bipush 7, 2) := by decide +kernel
theorem dX8_digest_195 : decode cX8_digest 195 = .ok (.bipush 9, 2) := by decide +kernel
theorem dX8_digest_197 : decode cX8_digest 197 = .ok (.iconst 1, 1) := by decide +kernel
theorem dX8_digest_198 : decode cX8_digest 198 = .ok (.invokevirtual 308, 3) := by decide +kernel
theorem dX8_digest_201 : decode cX8_digest 201 = .ok (.i2l, 1) := by decide +kernel
theorem dX8_digest_202 : decode cX8_digest 202 = .ok (.invokestatic 273, 3) := by decide +kernel
theorem dX8_digest_205 : decode cX8_digest 205 = .ok (.lreturn, 1) := by decide +kernel
theorem dX8_digestWeeks_0 : decode cX8_digestWeeks 0 = .ok (.lload_n 1, 1) := by decide +kernel
theorem dX8_digestWeeks_1 : decode cX8_digestWeeks 1 = .ok (.lstore_n 3, 1) := by decide +kernel
theorem dX8_digestWeeks_2 : decode cX8_digestWeeks 2 = .ok (.iconst 0, 1) := by decide +kernel
theorem dX8_digestWeeks_3 : decode cX8_digestWeeks 3 = .ok (.istore 5, 2) := by decide +kernel
theorem dX8_digestWeeks_5 : decode cX8_digestWeeks 5 = .ok (.iload 5, 2) := by decide +kernel
theorem dX8_digestWeeks_7 : decode cX8_digestWeeks 7 = .ok (.bipush 12, 2) := by decide +kernel
theorem dX8_digestWeeks_9 : decode cX8_digestWeeks 9 = .ok (.if_icmp .ge 77, 3) := by decide +kernel
theorem dX8_digestWeeks_12 : decode cX8_digestWeeks 12 = .ok (.aload_n 0, 1) := by decide +kernel
theorem dX8_digestWeeks_13 : decode cX8_digestWeeks 13 = .ok (.iload 5, 2) := by decide +kernel
theorem dX8_digestWeeks_15 : decode cX8_digestWeeks 15 = .ok (.iconst 1, 1) := by decide +kernel
theorem dX8_digestWeeks_16 : decode cX8_digestWeeks 16 = .ok (.iadd, 1) := by decide +kernel
theorem dX8_digestWeeks_17 : decode cX8_digestWeeks 17 = .ok (.invokevirtual 133, 3) := by decide +kernel
theorem dX8_digestWeeks_20 : decode cX8_digestWeeks 20 = .ok (.lload_n 3, 1) := by decide +kernel
theorem dX8_digestWeeks_21 : decode cX8_digestWeeks 21 = .ok (.aload_n 0, 1) := by decide +kernel
theorem dX8_digestWeeks_22 : decode cX8_digestWeeks 22 = .ok (.getfield 53, 3) := by decide +kernel
theorem dX8_digestWeeks_25 : decode cX8_digestWeeks 25 = .ok (.iload 5, 2) := by decide +kernel
theorem dX8_digestWeeks_27 : decode cX8_digestWeeks 27 = .ok (.invokevirtual 142, 3) := by decide +kernel
theorem dX8_digestWeeks_30 : decode cX8_digestWeeks 30 = .ok (.i2l, 1) := by decide +kernel
theorem dX8_digestWeeks_31 : decode cX8_digestWeeks 31 = .ok (.invokestatic 273, 3) := by decide +kernel
theorem dX8_digestWeeks_34 : decode cX8_digestWeeks 34 = .ok (.lstore_n 3, 1) := by decide +kernel
theorem dX8_digestWeeks_35 : decode cX8_digestWeeks 35 = .ok (.lload_n 3, 1) := by decide +kernel
theorem dX8_digestWeeks_36 : decode cX8_digestWeeks 36 = .ok (.aload_n 0, 1) := by decide +kernel
theorem dX8_digestWeeks_37 : decode cX8_digestWeeks 37 = .ok (.getfield 60, 3) := by decide +kernel
theorem dX8_digestWeeks_40 : decode cX8_digestWeeks 40 = .ok (.getfield 145, 3) := by decide +kernel
theorem dX8_digestWeeks_43 : decode cX8_digestWeeks 43 = .ok (.i2l, 1) := by decide +kernel
theorem dX8_digestWeeks_44 : decode cX8_digestWeeks 44 = .ok (.invokestatic 273, 3) := by decide +kernel
theorem dX8_digestWeeks_47 : decode cX8_digestWeeks 47 = .ok (.lstore_n 3, 1) := by decide +kernel
theorem dX8_digestWeeks_48 : decode cX8_digestWeeks 48 = .ok (.iconst 0, 1) := by decide +kernel
theorem dX8_digestWeeks_49 : decode cX8_digestWeeks 49 = .ok (.istore 6, 2) := by decide +kernel
theorem dX8_digestWeeks_51 : decode cX8_digestWeeks 51 = .ok (.iload 6, 2) := by decide +kernel
theorem dX8_digestWeeks_53 : decode cX8_digestWeeks 53 = .ok (.iconst 3, 1) := by decide +kernel
theorem dX8_digestWeeks_54 : decode cX8_digestWeeks 54 = .ok (.if_icmp .ge 26, 3) := by decide +kernel
theorem dX8_digestWeeks_57 : decode cX8_digestWeeks 57 = .ok (.lload_n 3, 1) := by decide +kernel
theorem dX8_digestWeeks_58 : decode cX8_digestWeeks 58 = .ok (.aload_n 0, 1) := by decide +kernel
theorem dX8_digestWeeks_59 : decode cX8_digestWeeks 59 = .ok (.getfield 60, 3) := by decide +kernel
theorem dX8_digestWeeks_62 : decode cX8_digestWeeks 62 = .ok (.iload 5, 2) := by decide +kernel
theorem dX8_digestWeeks_64 : decode cX8_digestWeeks 64 = .ok (.iload 6, 2) := by decide +kernel
theorem dX8_digestWeeks_66 : decode cX8_digestWeeks 66 = .ok (.invokevirtual 136, 3) := by decide +kernel
theorem dX8_digestWeeks_69 : decode cX8_digestWeeks 69 = .ok (.i2l, 1) := by decide +kernel
theorem dX8_digestWeeks_70 : decode cX8_digestWeeks 70 = .ok (.invokestatic 273, 3) := by decide +kernel
theorem dX8_digestWeeks_73 : decode cX8_digestWeeks 73 = .ok (.lstore_n 3, 1) := by decide +kernel
theorem dX8_digestWeeks_74 : decode cX8_digestWeeks 74 = .ok (.iinc 6 1, 3) := by decide +kernel
theorem dX8_digestWeeks_77 : decode cX8_digestWeeks 77 = .ok (.goto (-26), 3) := by decide +kernel
theorem dX8_digestWeeks_80 : decode cX8_digestWeeks 80 = .ok (.iinc 5 1, 3) := by decide +kernel
theorem dX8_digestWeeks_83 : decode cX8_digestWeeks 83 = .ok (.goto (-78), 3) := by decide +kernel
theorem dX8_digestWeeks_86 : decode cX8_digestWeeks 86 = .ok (.lload_n 3, 1) := by decide +kernel
theorem dX8_digestWeeks_87 : decode cX8_digestWeeks 87 = .ok (.lreturn, 1) := by decide +kernel
theorem dX8_digestThing_0 : decode cX8_digestThing 0 = .ok (.lload_n 1, 1) := by decide +kernel
theorem dX8_digestThing_1 : decode cX8_digestThing 1 = .ok (.lstore 4, 2) := by decide +kernel
theorem dX8_digestThing_3 : decode cX8_digestThing 3 = .ok (.iconst 0, 1) := by decide +kernel
theorem dX8_digestThing_4 : decode cX8_digestThing 4 = .ok (.istore 6, 2) := by decide +kernel
theorem dX8_digestThing_6 : decode cX8_digestThing 6 = .ok (.iload 6, 2) := by decide +kernel
theorem dX8_digestThing_8 : decode cX8_digestThing 8 = .ok (.iconst 3, 1) := by decide +kernel
theorem dX8_digestThing_9 : decode cX8_digestThing 9 = .ok (.if_icmp .ge 27, 3) := by decide +kernel
theorem dX8_digestThing_12 : decode cX8_digestThing 12 = .ok (.lload 4, 2) := by decide +kernel
theorem dX8_digestThing_14 : decode cX8_digestThing 14 = .ok (.aload_n 0, 1) := by decide +kernel
theorem dX8_digestThing_15 : decode cX8_digestThing 15 = .ok (.getfield 14, 3) := by decide +kernel
theorem dX8_digestThing_18 : decode cX8_digestThing 18 = .ok (.iload_n 3, 1) := by decide +kernel
theorem dX8_digestThing_19 : decode cX8_digestThing 19 = .ok (.iload 6, 2) := by decide +kernel
theorem dX8_digestThing_21 : decode cX8_digestThing 21 = .ok (.invokevirtual 108, 3) := by decide +kernel
theorem dX8_digestThing_24 : decode cX8_digestThing 24 = .ok (.i2l, 1) := by decide +kernel
theorem dX8_digestThing_25 : decode cX8_digestThing 25 = .ok (.invokestatic 273, 3) := by decide +kernel
theorem dX8_digestThing_28 : decode cX8_digestThing 28 = .ok (.lstore 4, 2) := by decide +kernel
theorem dX8_digestThing_30 : decode cX8_digestThing 30 = .ok (.iinc 6 1, 3) := by decide +kernel
theorem dX8_digestThing_33 : decode cX8_digestThing 33 = .ok (.goto (-27), 3) := by decide +kernel
theorem dX8_digestThing_36 : decode cX8_digestThing 36 = .ok (.getstatic 312, 3) := by decide +kernel
theorem dX8_digestThing_39 : decode cX8_digestThing 39 = .ok (.astore 6, 2) := by decide +kernel
theorem dX8_digestThing_41 : decode cX8_digestThing 41 = .ok (.aload 6, 2) := by decide +kernel
theorem dX8_digestThing_43 : decode cX8_digestThing 43 = .ok (.arraylength, 1) := by decide +kernel
theorem dX8_digestThing_44 : decode cX8_digestThing 44 = .ok (.istore 7, 2) := by decide +kernel
theorem dX8_digestThing_46 : decode cX8_digestThing 46 = .ok (.iconst 0, 1) := by decide +kernel
theorem dX8_digestThing_47 : decode cX8_digestThing 47 = .ok (.istore 8, 2) := by decide +kernel
theorem dX8_digestThing_49 : decode cX8_digestThing 49 = .ok (.iload 8, 2) := by decide +kernel
theorem dX8_digestThing_51 : decode cX8_digestThing 51 = .ok (.iload 7, 2) := by decide +kernel
theorem dX8_digestThing_53 : decode cX8_digestThing 53 = .ok (.if_icmp .ge 57, 3) := by decide +kernel
theorem dX8_digestThing_56 : decode cX8_digestThing 56 = .ok (.aload 6, 2) := by decide +kernel
theorem dX8_digestThing_58 : decode cX8_digestThing 58 = .ok (.iload 8, 2) := by decide +kernel
theorem dX8_digestThing_60 : decode cX8_digestThing 60 = .ok (.iaload, 1) := by decide +kernel
theorem dX8_digestThing_61 : decode cX8_digestThing 61 = .ok (.istore 9, 2) := by decide +kernel
theorem dX8_digestThing_63 : decode cX8_digestThing 63 = .ok (.aload_n 0, 1) := by decide +kernel
theorem dX8_digestThing_64 : decode cX8_digestThing 64 = .ok (.iload 9, 2) := by decide +kernel
theorem dX8_digestThing_66 : decode cX8_digestThing 66 = .ok (.iconst 1, 1) := by decide +kernel
theorem dX8_digestThing_67 : decode cX8_digestThing 67 = .ok (.iadd, 1) := by decide +kernel
theorem dX8_digestThing_68 : decode cX8_digestThing 68 = .ok (.invokevirtual 133, 3) := by decide +kernel
theorem dX8_digestThing_71 : decode cX8_digestThing 71 = .ok (.iconst 0, 1) := by decide +kernel
theorem dX8_digestThing_72 : decode cX8_digestThing 72 = .ok (.istore 10, 2) := by decide +kernel
theorem dX8_digestThing_74 : decode cX8_digestThing 74 = .ok (.iload 10, 2) := by decide +kernel
theorem dX8_digestThing_76 : decode cX8_digestThing 76 = .ok (.iconst 5, 1) := by decide +kernel
theorem dX8_digestThing_77 : decode cX8_digestThing 77 = .ok (.if_icmp .ge 27, 3) := by decide +kernel
theorem dX8_digestThing_80 : decode cX8_digestThing 80 = .ok (.lload 4, 2) := by decide +kernel
theorem dX8_digestThing_82 : decode cX8_digestThing 82 = .ok (.aload_n 0, 1) := by decide +kernel
theorem dX8_digestThing_83 : decode cX8_digestThing 83 = .ok (.getfield 60, 3) := by decide +kernel
theorem dX8_digestThing_86 : decode cX8_digestThing 86 = .ok (.iload_n 3, 1) := by decide +kernel
theorem dX8_digestThing_87 : decode cX8_digestThing 87 = .ok (.iload 10, 2) := by decide +kernel
theorem dX8_digestThing_89 : decode cX8_digestThing 89 = .ok (.invokevirtual 139, 3) := by decide +kernel
theorem dX8_digestThing_92 : decode cX8_digestThing 92 = .ok (.i2l, 1) := by decide +kernel
theorem dX8_digestThing_93 : decode cX8_digestThing 93 = .ok (.invokestatic 273, 3) := by decide +kernel
theorem dX8_digestThing_96 : decode cX8_digestThing 96 = .ok (.lstore 4, 2) := by decide +kernel
theorem dX8_digestThing_98 : decode cX8_digestThing 98 = .ok (.iinc 10 1, 3) := by decide +kernel
theorem dX8_digestThing_101 : decode cX8_digestThing 101 = .ok (.goto (-27), 3) := by decide +kernel
theorem dX8_digestThing_104 : decode cX8_digestThing 104 = .ok (.iinc 8 1, 3) := by decide +kernel
theorem dX8_digestThing_107 : decode cX8_digestThing 107 = .ok (.goto (-58), 3) := by decide +kernel
theorem dX8_digestThing_110 : decode cX8_digestThing 110 = .ok (.aload_n 0, 1) := by decide +kernel
theorem dX8_digestThing_111 : decode cX8_digestThing 111 = .ok (.iload_n 3, 1) := by decide +kernel
theorem dX8_digestThing_112 : decode cX8_digestThing 112 = .ok (.invokevirtual 172, 3) := by decide +kernel
theorem dX8_digestThing_115 : decode cX8_digestThing 115 = .ok (.aload_n 0, 1) := by decide +kernel
theorem dX8_digestThing_116 : decode cX8_digestThing 116 = .ok (.lload 4, 2) := by decide +kernel
theorem dX8_digestThing_118 : decode cX8_digestThing 118 = .ok (.invokevirtual 315, 3) := by decide +kernel
theorem dX8_digestThing_121 : decode cX8_digestThing 121 = .ok (.lstore 4, 2) := by decide +kernel
theorem dX8_digestThing_123 : decode cX8_digestThing 123 = .ok (.aload_n 0, 1) := by decide +kernel
theorem dX8_digestThing_124 : decode cX8_digestThing 124 = .ok (.iload_n 3, 1) := by decide +kernel
theorem dX8_digestThing_125 : decode cX8_digestThing 125 = .ok (.invokevirtual 178, 3) := by decide +kernel
theorem dX8_digestThing_128 : decode cX8_digestThing 128 = .ok (.aload_n 0, 1) := by decide +kernel
theorem dX8_digestThing_129 : decode cX8_digestThing 129 = .ok (.lload 4, 2) := by decide +kernel
theorem dX8_digestThing_131 : decode cX8_digestThing 131 = .ok (.invokevirtual 315, 3) := by decide +kernel
theorem dX8_digestThing_134 : decode cX8_digestThing 134 = .ok (.lstore 4, 2) := by decide +kernel
theorem dX8_digestThing_136 : decode cX8_digestThing 136 = .ok (.lload 4, 2) := by decide +kernel
theorem dX8_digestThing_138 : decode cX8_digestThing 138 = .ok (.aload_n 0, 1) := by decide +kernel
theorem dX8_digestThing_139 : decode cX8_digestThing 139 = .ok (.iload_n 3, 1) := by decide +kernel
theorem dX8_digestThing_140 : decode cX8_digestThing 140 = .ok (.invokevirtual 318, 3) := by decide +kernel
theorem dX8_digestThing_143 : decode cX8_digestThing 143 = .ok (.i2l, 1) := by decide +kernel
theorem dX8_digestThing_144 : decode cX8_digestThing 144 = .ok (.invokestatic 273, 3) := by decide +kernel
theorem dX8_digestThing_147 : decode cX8_digestThing 147 = .ok (.lstore 4, 2) := by decide +kernel
theorem dX8_digestThing_149 : decode cX8_digestThing 149 = .ok (.lload 4, 2) := by decide +kernel
theorem dX8_digestThing_151 : decode cX8_digestThing 151 = .ok (.aload_n 0, 1) := by decide +kernel
theorem dX8_digestThing_152 : decode cX8_digestThing 152 = .ok (.iload_n 3, 1) := by decide +kernel
theorem dX8_digestThing_153 : decode cX8_digestThing 153 = .ok (.invokevirtual 321, 3) := by decide +kernel
theorem dX8_digestThing_156 : decode cX8_digestThing 156 = .ok (.i2l, 1) := by decide +kernel
theorem dX8_digestThing_157 : decode cX8_digestThing 157 = .ok (.invokestatic 273, 3) := by decide +kernel
theorem dX8_digestThing_160 : decode cX8_digestThing 160 = .ok (.lstore 4, 2) := by decide +kernel
theorem dX8_digestThing_162 : decode cX8_digestThing 162 = .ok (.lload 4, 2) := by decide +kernel
theorem dX8_digestThing_164 : decode cX8_digestThing 164 = .ok (.aload_n 0, 1) := by decide +kernel
theorem dX8_digestThing_165 : decode cX8_digestThing 165 = .ok (.aload_n 0, 1) := by decide +kernel
theorem dX8_digestThing_166 : decode cX8_digestThing 166 = .ok (.getfield 71, 3) := by decide +kernel
theorem dX8_digestThing_169 : decode cX8_digestThing 169 = .ok (.iload_n 3, 1) := by decide +kernel
theorem dX8_digestThing_170 : decode cX8_digestThing 170 = .ok (.laload, 1) := by decide +kernel
theorem dX8_digestThing_171 : decode cX8_digestThing 171 = .ok (.iconst 0, 1) := by decide +kernel
theorem dX8_digestThing_172 : decode cX8_digestThing 172 = .ok (.invokevirtual 228, 3) := by decide +kernel
theorem dX8_digestThing_175 : decode cX8_digestThing 175 = .ok (.invokestatic 273, 3) := by decide +kernel
theorem dX8_digestThing_178 : decode cX8_digestThing 178 = .ok (.lstore 4, 2) := by decide +kernel
theorem dX8_digestThing_180 : decode cX8_digestThing 180 = .ok (.lload 4, 2) := by decide +kernel
theorem dX8_digestThing_182 : decode cX8_digestThing 182 = .ok (.aload_n 0, 1) := by decide +kernel
theorem dX8_digestThing_183 : decode cX8_digestThing 183 = .ok (.aload_n 0, 1) := by decide +kernel
theorem dX8_digestThing_184 : decode cX8_digestThing 184 = .ok (.getfield 71, 3) := by decide +kernel
theorem dX8_digestThing_187 : decode cX8_digestThing 187 = .ok (.iload_n 3, 1) := by decide +kernel
theorem dX8_digestThing_188 : decode cX8_digestThing 188 = .ok (.laload, 1) := by decide +kernel
theorem dX8_digestThing_189 : decode cX8_digestThing 189 = .ok (.iconst 1, 1) := by decide +kernel
theorem dX8_digestThing_190 : decode cX8_digestThing 190 = .ok (.invokevirtual 228, 3) := by decide +kernel
theorem dX8_digestThing_193 : decode cX8_digestThing 193 = .ok (.invokestatic 273, 3) := by decide +kernel
theorem dX8_digestThing_196 : decode cX8_digestThing 196 = .ok (.lreturn, 1) := by decide +kernel
theorem dX8_digestJudges_0 : decode cX8_digestJudges 0 = .ok (.lload_n 1, 1) := by decide +kernel
theorem dX8_digestJudges_1 : decode cX8_digestJudges 1 = .ok (.lstore_n 3, 1) := by decide +kernel
theorem dX8_digestJudges_2 : decode cX8_digestJudges 2 = .ok (.iconst 0, 1) := by decide +kernel
theorem dX8_digestJudges_3 : decode cX8_digestJudges 3 = .ok (.istore 5, 2) := by decide +kernel
theorem dX8_digestJudges_5 : decode cX8_digestJudges 5 = .ok (.iload 5, 2) := by decide +kernel
theorem dX8_digestJudges_7 : decode cX8_digestJudges 7 = .ok (.aload_n 0, 1) := by decide +kernel
theorem dX8_digestJudges_8 : decode cX8_digestJudges 8 = .ok (.getfield 18, 3) := by decide +kernel
theorem dX8_digestJudges_11 : decode cX8_digestJudges 11 = .ok (.invokevirtual 100, 3) := by decide +kernel
theorem dX8_digestJudges_14 : decode cX8_digestJudges 14 = .ok (.if_icmp .ge 53, 3) := by decide +kernel
theorem dX8_digestJudges_17 : decode cX8_digestJudges 17 = .ok (.iconst 0, 1) := by decide +kernel
theorem dX8_digestJudges_18 : decode cX8_digestJudges 18 = .ok (.istore 6, 2) := by decide +kernel
theorem dX8_digestJudges_20 : decode cX8_digestJudges 20 = .ok (.iload 6, 2) := by decide +kernel
theorem dX8_digestJudges_22 : decode cX8_digestJudges 22 = .ok (.iconst 3, 1) := by decide +kernel
theorem dX8_digestJudges_23 : decode cX8_digestJudges 23 = .ok (.if_icmp .ge 26, 3) := by decide +kernel
theorem dX8_digestJudges_26 : decode cX8_digestJudges 26 = .ok (.lload_n 3, 1) := by decide +kernel
theorem dX8_digestJudges_27 : decode cX8_digestJudges 27 = .ok (.aload_n 0, 1) := by decide +kernel
theorem dX8_digestJudges_28 : decode cX8_digestJudges 28 = .ok (.getfield 18, 3) := by decide +kernel
theorem dX8_digestJudges_31 : decode cX8_digestJudges 31 = .ok (.iload 5, 2) := by decide +kernel
theorem dX8_digestJudges_33 : decode cX8_digestJudges 33 = .ok (.iload 6, 2) := by decide +kernel
theorem dX8_digestJudges_35 : decode cX8_digestJudges 35 = .ok (.invokevirtual 108, 3) := by decide +kernel
theorem dX8_digestJudges_38 : decode cX8_digestJudges 38 = .ok (.i2l, 1) := by decide +kernel
theorem dX8_digestJudges_39 : decode cX8_digestJudges 39 = .ok (.invokestatic 273, 3) := by decide +kernel
theorem dX8_digestJudges_42 : decode cX8_digestJudges 42 = .ok (.lstore_n 3, 1) := by decide +kernel
theorem dX8_digestJudges_43 : decode cX8_digestJudges 43 = .ok (.iinc 6 1, 3) := by decide +kernel
theorem dX8_digestJudges_46 : decode cX8_digestJudges 46 = .ok (.goto (-26), 3) := by decide +kernel
theorem dX8_digestJudges_49 : decode cX8_digestJudges 49 = .ok (.lload_n 3, 1) := by decide +kernel
theorem dX8_digestJudges_50 : decode cX8_digestJudges 50 = .ok (.aload_n 0, 1) := by decide +kernel
theorem dX8_digestJudges_51 : decode cX8_digestJudges 51 = .ok (.iload 5, 2) := by decide +kernel
theorem dX8_digestJudges_53 : decode cX8_digestJudges 53 = .ok (.invokevirtual 324, 3) := by decide +kernel
theorem dX8_digestJudges_56 : decode cX8_digestJudges 56 = .ok (.i2l, 1) := by decide +kernel
theorem dX8_digestJudges_57 : decode cX8_digestJudges 57 = .ok (.invokestatic 273, 3) := by decide +kernel
theorem dX8_digestJudges_60 : decode cX8_digestJudges 60 = .ok (.lstore_n 3, 1) := by decide +kernel
theorem dX8_digestJudges_61 : decode cX8_digestJudges 61 = .ok (.iinc 5 1, 3) := by decide +kernel
theorem dX8_digestJudges_64 : decode cX8_digestJudges 64 = .ok (.goto (-59), 3) := by decide +kernel
theorem dX8_digestJudges_67 : decode cX8_digestJudges 67 = .ok (.lload_n 3, 1) := by decide +kernel
theorem dX8_digestJudges_68 : decode cX8_digestJudges 68 = .ok (.lreturn, 1) := by decide +kernel
theorem dX8_digestOwners_0 : decode cX8_digestOwners 0 = .ok (.lload_n 1, 1) := by decide +kernel
theorem dX8_digestOwners_1 : decode cX8_digestOwners 1 = .ok (.lstore_n 3, 1) := by decide +kernel
theorem dX8_digestOwners_2 : decode cX8_digestOwners 2 = .ok (.iconst 0, 1) := by decide +kernel
theorem dX8_digestOwners_3 : decode cX8_digestOwners 3 = .ok (.istore 5, 2) := by decide +kernel
theorem dX8_digestOwners_5 : decode cX8_digestOwners 5 = .ok (.iload 5, 2) := by decide +kernel
theorem dX8_digestOwners_7 : decode cX8_digestOwners 7 = .ok (.bipush 6, 2) := by decide +kernel
theorem dX8_digestOwners_9 : decode cX8_digestOwners 9 = .ok (.if_icmp .ge 35, 3) := by decide +kernel
theorem dX8_digestOwners_12 : decode cX8_digestOwners 12 = .ok (.lload_n 3, 1) := by decide +kernel
theorem dX8_digestOwners_13 : decode cX8_digestOwners 13 = .ok (.aload_n 0, 1) := by decide +kernel
theorem dX8_digestOwners_14 : decode cX8_digestOwners 14 = .ok (.iload 5, 2) := by decide +kernel
theorem dX8_digestOwners_16 : decode cX8_digestOwners 16 = .ok (.invokevirtual 326, 3) := by decide +kernel
theorem dX8_digestOwners_19 : decode cX8_digestOwners 19 = .ok (.i2l, 1) := by decide +kernel
theorem dX8_digestOwners_20 : decode cX8_digestOwners 20 = .ok (.invokestatic 273, 3) := by decide +kernel
theorem dX8_digestOwners_23 : decode cX8_digestOwners 23 = .ok (.lstore_n 3, 1) := by decide +kernel
theorem dX8_digestOwners_24 : decode cX8_digestOwners 24 = .ok (.aload_n 0, 1) := by decide +kernel
