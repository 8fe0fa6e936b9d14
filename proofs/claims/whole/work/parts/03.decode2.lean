theorem dX9_rivalOf_17 : decode cX9_rivalOf 17 = .ok (.iload 5, 2) := by decide +kernel
theorem dX9_rivalOf_19 : decode cX9_rivalOf 19 = .ok (.iload_n 1, 1) := by decide +kernel
theorem dX9_rivalOf_20 : decode cX9_rivalOf 20 = .ok (.if_icmp .eq 44, 3) := by decide +kernel
theorem dX9_rivalOf_23 : decode cX9_rivalOf 23 = .ok (.aload_n 0, 1) := by decide +kernel
theorem dX9_rivalOf_24 : decode cX9_rivalOf 24 = .ok (.iload 5, 2) := by decide +kernel
theorem dX9_rivalOf_26 : decode cX9_rivalOf 26 = .ok (.putfield 87, 3) := by decide +kernel
theorem dX9_rivalOf_29 : decode cX9_rivalOf 29 = .ok (.aload_n 0, 1) := by decide +kernel
theorem dX9_rivalOf_30 : decode cX9_rivalOf 30 = .ok (.invokevirtual 217, 3) := by decide +kernel
theorem dX9_rivalOf_33 : decode cX9_rivalOf 33 = .ok (.aload_n 0, 1) := by decide +kernel
theorem dX9_rivalOf_34 : decode cX9_rivalOf 34 = .ok (.getfield 43, 3) := by decide +kernel
theorem dX9_rivalOf_37 : decode cX9_rivalOf 37 = .ok (.iload_n 1, 1) := by decide +kernel
theorem dX9_rivalOf_38 : decode cX9_rivalOf 38 = .ok (.iaload, 1) := by decide +kernel
theorem dX9_rivalOf_39 : decode cX9_rivalOf 39 = .ok (.iload 4, 2) := by decide +kernel
theorem dX9_rivalOf_41 : decode cX9_rivalOf 41 = .ok (.if_icmp .le 8, 3) := by decide +kernel
theorem dX9_rivalOf_44 : decode cX9_rivalOf 44 = .ok (.iload 5, 2) := by decide +kernel
theorem dX9_rivalOf_46 : decode cX9_rivalOf 46 = .ok (.goto 4, 3) := by decide +kernel
theorem dX9_rivalOf_49 : decode cX9_rivalOf 49 = .ok (.iload_n 3, 1) := by decide +kernel
theorem dX9_rivalOf_50 : decode cX9_rivalOf 50 = .ok (.istore_n 3, 1) := by decide +kernel
theorem dX9_rivalOf_51 : decode cX9_rivalOf 51 = .ok (.aload_n 0, 1) := by decide +kernel
theorem dX9_rivalOf_52 : decode cX9_rivalOf 52 = .ok (.getfield 43, 3) := by decide +kernel
theorem dX9_rivalOf_55 : decode cX9_rivalOf 55 = .ok (.iload_n 1, 1) := by decide +kernel
theorem dX9_rivalOf_56 : decode cX9_rivalOf 56 = .ok (.iaload, 1) := by decide +kernel
theorem dX9_rivalOf_57 : decode cX9_rivalOf 57 = .ok (.iload 4, 2) := by decide +kernel
theorem dX9_rivalOf_59 : decode cX9_rivalOf 59 = .ok (.invokestatic 181, 3) := by decide +kernel
theorem dX9_rivalOf_62 : decode cX9_rivalOf 62 = .ok (.istore 4, 2) := by decide +kernel
theorem dX9_rivalOf_64 : decode cX9_rivalOf 64 = .ok (.iinc 5 1, 3) := by decide +kernel
theorem dX9_rivalOf_67 : decode cX9_rivalOf 67 = .ok (.goto (-59), 3) := by decide +kernel
theorem dX9_rivalOf_70 : decode cX9_rivalOf 70 = .ok (.aload_n 0, 1) := by decide +kernel
theorem dX9_rivalOf_71 : decode cX9_rivalOf 71 = .ok (.iconst (-1), 1) := by decide +kernel
theorem dX9_rivalOf_72 : decode cX9_rivalOf 72 = .ok (.putfield 87, 3) := by decide +kernel
theorem dX9_rivalOf_75 : decode cX9_rivalOf 75 = .ok (.iload_n 2, 1) := by decide +kernel
theorem dX9_rivalOf_76 : decode cX9_rivalOf 76 = .ok (.ifCond .ne 7, 3) := by decide +kernel
theorem dX9_rivalOf_79 : decode cX9_rivalOf 79 = .ok (.iload_n 3, 1) := by decide +kernel
theorem dX9_rivalOf_80 : decode cX9_rivalOf 80 = .ok (.goto 5, 3) := by decide +kernel
theorem dX9_rivalOf_83 : decode cX9_rivalOf 83 = .ok (.iload 4, 2) := by decide +kernel
theorem dX9_rivalOf_85 : decode cX9_rivalOf 85 = .ok (.ireturn, 1) := by decide +kernel
theorem dX9_rival_0 : decode cX9_rival 0 = .ok (.aload_n 0, 1) := by decide +kernel
theorem dX9_rival_1 : decode cX9_rival 1 = .ok (.invokevirtual 220, 3) := by decide +kernel
theorem dX9_rival_4 : decode cX9_rival 4 = .ok (.aload_n 0, 1) := by decide +kernel
theorem dX9_rival_5 : decode cX9_rival 5 = .ok (.iload_n 1, 1) := by decide +kernel
theorem dX9_rival_6 : decode cX9_rival 6 = .ok (.invokevirtual 158, 3) := by decide +kernel
theorem dX9_rival_9 : decode cX9_rival 9 = .ok (.ifCond .eq 19, 3) := by decide +kernel
theorem dX9_rival_12 : decode cX9_rival 12 = .ok (.iload_n 2, 1) := by decide +kernel
theorem dX9_rival_13 : decode cX9_rival 13 = .ok (.invokestatic 228, 3) := by decide +kernel
theorem dX9_rival_16 : decode cX9_rival 16 = .ok (.ifCond .eq 12, 3) := by decide +kernel
theorem dX9_rival_19 : decode cX9_rival 19 = .ok (.aload_n 0, 1) := by decide +kernel
theorem dX9_rival_20 : decode cX9_rival 20 = .ok (.iload_n 1, 1) := by decide +kernel
theorem dX9_rival_21 : decode cX9_rival 21 = .ok (.iload_n 2, 1) := by decide +kernel
theorem dX9_rival_22 : decode cX9_rival 22 = .ok (.invokevirtual 251, 3) := by decide +kernel
theorem dX9_rival_25 : decode cX9_rival 25 = .ok (.goto 5, 3) := by decide +kernel
theorem dX9_rival_28 : decode cX9_rival 28 = .ok (.bipush (-2), 2) := by decide +kernel
theorem dX9_rival_30 : decode cX9_rival 30 = .ok (.ireturn, 1) := by decide +kernel
theorem dX9_sendOf_0 : decode cX9_sendOf 0 = .ok (.aload_n 0, 1) := by decide +kernel
theorem dX9_sendOf_1 : decode cX9_sendOf 1 = .ok (.getfield 34, 3) := by decide +kernel
theorem dX9_sendOf_4 : decode cX9_sendOf 4 = .ok (.iload_n 1, 1) := by decide +kernel
theorem dX9_sendOf_5 : decode cX9_sendOf 5 = .ok (.iaload, 1) := by decide +kernel
theorem dX9_sendOf_6 : decode cX9_sendOf 6 = .ok (.istore 4, 2) := by decide +kernel
theorem dX9_sendOf_8 : decode cX9_sendOf 8 = .ok (.iconst (-1), 1) := by decide +kernel
theorem dX9_sendOf_9 : decode cX9_sendOf 9 = .ok (.istore 5, 2) := by decide +kernel
theorem dX9_sendOf_11 : decode cX9_sendOf 11 = .ok (.iconst (-1), 1) := by decide +kernel
theorem dX9_sendOf_12 : decode cX9_sendOf 12 = .ok (.istore 6, 2) := by decide +kernel
theorem dX9_sendOf_14 : decode cX9_sendOf 14 = .ok (.iconst 0, 1) := by decide +kernel
theorem dX9_sendOf_15 : decode cX9_sendOf 15 = .ok (.istore 7, 2) := by decide +kernel
theorem dX9_sendOf_17 : decode cX9_sendOf 17 = .ok (.iload 7, 2) := by decide +kernel
theorem dX9_sendOf_19 : decode cX9_sendOf 19 = .ok (.aload_n 0, 1) := by decide +kernel
theorem dX9_sendOf_20 : decode cX9_sendOf 20 = .ok (.getfield 134, 3) := by decide +kernel
theorem dX9_sendOf_23 : decode cX9_sendOf 23 = .ok (.if_icmp .ge 53, 3) := by decide +kernel
theorem dX9_sendOf_26 : decode cX9_sendOf 26 = .ok (.aload_n 0, 1) := by decide +kernel
theorem dX9_sendOf_27 : decode cX9_sendOf 27 = .ok (.getfield 34, 3) := by decide +kernel
theorem dX9_sendOf_30 : decode cX9_sendOf 30 = .ok (.iload_n 1, 1) := by decide +kernel
theorem dX9_sendOf_31 : decode cX9_sendOf 31 = .ok (.iload 7, 2) := by decide +kernel
theorem dX9_sendOf_33 : decode cX9_sendOf 33 = .ok (.iastore, 1) := by decide +kernel
theorem dX9_sendOf_34 : decode cX9_sendOf 34 = .ok (.aload_n 0, 1) := by decide +kernel
theorem dX9_sendOf_35 : decode cX9_sendOf 35 = .ok (.invokevirtual 217, 3) := by decide +kernel
theorem dX9_sendOf_38 : decode cX9_sendOf 38 = .ok (.aload_n 0, 1) := by decide +kernel
theorem dX9_sendOf_39 : decode cX9_sendOf 39 = .ok (.iload_n 2, 1) := by decide +kernel
theorem dX9_sendOf_40 : decode cX9_sendOf 40 = .ok (.invokevirtual 236, 3) := by decide +kernel
theorem dX9_sendOf_43 : decode cX9_sendOf 43 = .ok (.istore 8, 2) := by decide +kernel
theorem dX9_sendOf_45 : decode cX9_sendOf 45 = .ok (.iload 8, 2) := by decide +kernel
theorem dX9_sendOf_47 : decode cX9_sendOf 47 = .ok (.iload 6, 2) := by decide +kernel
theorem dX9_sendOf_49 : decode cX9_sendOf 49 = .ok (.if_icmp .le 8, 3) := by decide +kernel
theorem dX9_sendOf_52 : decode cX9_sendOf 52 = .ok (.iload 7, 2) := by decide +kernel
theorem dX9_sendOf_54 : decode cX9_sendOf 54 = .ok (.goto 5, 3) := by decide +kernel
theorem dX9_sendOf_57 : decode cX9_sendOf 57 = .ok (.iload 5, 2) := by decide +kernel
theorem dX9_sendOf_59 : decode cX9_sendOf 59 = .ok (.istore 5, 2) := by decide +kernel
theorem dX9_sendOf_61 : decode cX9_sendOf 61 = .ok (.iload 8, 2) := by decide +kernel
theorem dX9_sendOf_63 : decode cX9_sendOf 63 = .ok (.iload 6, 2) := by decide +kernel
theorem dX9_sendOf_65 : decode cX9_sendOf 65 = .ok (.invokestatic 181, 3) := by decide +kernel
theorem dX9_sendOf_68 : decode cX9_sendOf 68 = .ok (.istore 6, 2) := by decide +kernel
theorem dX9_sendOf_70 : decode cX9_sendOf 70 = .ok (.iinc 7 1, 3) := by decide +kernel
theorem dX9_sendOf_73 : decode cX9_sendOf 73 = .ok (.goto (-56), 3) := by decide +kernel
theorem dX9_sendOf_76 : decode cX9_sendOf 76 = .ok (.aload_n 0, 1) := by decide +kernel
theorem dX9_sendOf_77 : decode cX9_sendOf 77 = .ok (.getfield 34, 3) := by decide +kernel
theorem dX9_sendOf_80 : decode cX9_sendOf 80 = .ok (.iload_n 1, 1) := by decide +kernel
theorem dX9_sendOf_81 : decode cX9_sendOf 81 = .ok (.iload 4, 2) := by decide +kernel
theorem dX9_sendOf_83 : decode cX9_sendOf 83 = .ok (.iastore, 1) := by decide +kernel
theorem dX9_sendOf_84 : decode cX9_sendOf 84 = .ok (.iload_n 3, 1) := by decide +kernel
theorem dX9_sendOf_85 : decode cX9_sendOf 85 = .ok (.ifCond .ne 8, 3) := by decide +kernel
theorem dX9_sendOf_88 : decode cX9_sendOf 88 = .ok (.iload 5, 2) := by decide +kernel
theorem dX9_sendOf_90 : decode cX9_sendOf 90 = .ok (.goto 5, 3) := by decide +kernel
theorem dX9_sendOf_93 : decode cX9_sendOf 93 = .ok (.iload 6, 2) := by decide +kernel
theorem dX9_sendOf_95 : decode cX9_sendOf 95 = .ok (.ireturn, 1) := by decide +kernel
theorem dX9_send_0 : decode cX9_send 0 = .ok (.aload_n 0, 1) := by decide +kernel
theorem dX9_send_1 : decode cX9_send 1 = .ok (.invokevirtual 220, 3) := by decide +kernel
theorem dX9_send_4 : decode cX9_send 4 = .ok (.iload_n 1, 1) := by decide +kernel
theorem dX9_send_5 : decode cX9_send 5 = .ok (.invokestatic 164, 3) := by decide +kernel
theorem dX9_send_8 : decode cX9_send 8 = .ok (.ifCond .eq 32, 3) := by decide +kernel
theorem dX9_send_11 : decode cX9_send 11 = .ok (.iload_n 2, 1) := by decide +kernel
theorem dX9_send_12 : decode cX9_send 12 = .ok (.i2l, 1) := by decide +kernel
theorem dX9_send_13 : decode cX9_send 13 = .ok (.lconst 0, 1) := by decide +kernel
theorem dX9_send_14 : decode cX9_send 14 = .ok (.ldc2_w 234, 3) := by decide +kernel
theorem dX9_send_17 : decode cX9_send 17 = .ok (.invokestatic 92, 3) := by decide +kernel
theorem dX9_send_20 : decode cX9_send 20 = .ok (.ifCond .eq 20, 3) := by decide +kernel
theorem dX9_send_23 : decode cX9_send 23 = .ok (.iload_n 3, 1) := by decide +kernel
theorem dX9_send_24 : decode cX9_send 24 = .ok (.invokestatic 228, 3) := by decide +kernel
theorem dX9_send_27 : decode cX9_send 27 = .ok (.ifCond .eq 13, 3) := by decide +kernel
theorem dX9_send_30 : decode cX9_send 30 = .ok (.aload_n 0, 1) := by decide +kernel
theorem dX9_send_31 : decode cX9_send 31 = .ok (.iload_n 1, 1) := by decide +kernel
theorem dX9_send_32 : decode cX9_send 32 = .ok (.iload_n 2, 1) := by decide +kernel
theorem dX9_send_33 : decode cX9_send 33 = .ok (.iload_n 3, 1) := by decide +kernel
theorem dX9_send_34 : decode cX9_send 34 = .ok (.invokevirtual 254, 3) := by decide +kernel
theorem dX9_send_37 : decode cX9_send 37 = .ok (.goto 5, 3) := by decide +kernel
theorem dX9_send_40 : decode cX9_send 40 = .ok (.bipush (-2), 2) := by decide +kernel
theorem dX9_send_42 : decode cX9_send 42 = .ok (.ireturn, 1) := by decide +kernel
theorem dX9_isSpared_0 : decode cX9_isSpared 0 = .ok (.aload_n 0, 1) := by decide +kernel
theorem dX9_isSpared_1 : decode cX9_isSpared 1 = .ok (.iload_n 1, 1) := by decide +kernel
theorem dX9_isSpared_2 : decode cX9_isSpared 2 = .ok (.putfield 197, 3) := by decide +kernel
theorem dX9_isSpared_5 : decode cX9_isSpared 5 = .ok (.aload_n 0, 1) := by decide +kernel
theorem dX9_isSpared_6 : decode cX9_isSpared 6 = .ok (.invokevirtual 217, 3) := by decide +kernel
theorem dX9_isSpared_9 : decode cX9_isSpared 9 = .ok (.aload_n 0, 1) := by decide +kernel
theorem dX9_isSpared_10 : decode cX9_isSpared 10 = .ok (.iconst 0, 1) := by decide +kernel
theorem dX9_isSpared_11 : decode cX9_isSpared 11 = .ok (.putfield 197, 3) := by decide +kernel
theorem dX9_isSpared_14 : decode cX9_isSpared 14 = .ok (.aload_n 0, 1) := by decide +kernel
theorem dX9_isSpared_15 : decode cX9_isSpared 15 = .ok (.iconst 0, 1) := by decide +kernel
theorem dX9_isSpared_16 : decode cX9_isSpared 16 = .ok (.invokevirtual 245, 3) := by decide +kernel
theorem dX9_isSpared_19 : decode cX9_isSpared 19 = .ok (.ifCond .ne 7, 3) := by decide +kernel
theorem dX9_isSpared_22 : decode cX9_isSpared 22 = .ok (.iconst 1, 1) := by decide +kernel
theorem dX9_isSpared_23 : decode cX9_isSpared 23 = .ok (.goto 4, 3) := by decide +kernel
theorem dX9_isSpared_26 : decode cX9_isSpared 26 = .ok (.iconst 0, 1) := by decide +kernel
theorem dX9_isSpared_27 : decode cX9_isSpared 27 = .ok (.ireturn, 1) := by decide +kernel
theorem dX9_spareBy_0 : decode cX9_spareBy 0 = .ok (.aload_n 0, 1) := by decide +kernel
theorem dX9_spareBy_1 : decode cX9_spareBy 1 = .ok (.iconst 0, 1) := by decide +kernel
theorem dX9_spareBy_2 : decode cX9_spareBy 2 = .ok (.invokevirtual 257, 3) := by decide +kernel
theorem dX9_spareBy_5 : decode cX9_spareBy 5 = .ok (.ifCond .eq 14, 3) := by decide +kernel
theorem dX9_spareBy_8 : decode cX9_spareBy 8 = .ok (.iload_n 1, 1) := by decide +kernel
theorem dX9_spareBy_9 : decode cX9_spareBy 9 = .ok (.iconst (-1), 1) := by decide +kernel
theorem dX9_spareBy_10 : decode cX9_spareBy 10 = .ok (.if_icmp .ne 7, 3) := by decide +kernel
theorem dX9_spareBy_13 : decode cX9_spareBy 13 = .ok (.iconst 0, 1) := by decide +kernel
theorem dX9_spareBy_14 : decode cX9_spareBy 14 = .ok (.goto 4, 3) := by decide +kernel
theorem dX9_spareBy_17 : decode cX9_spareBy 17 = .ok (.iconst (-1), 1) := by decide +kernel
theorem dX9_spareBy_18 : decode cX9_spareBy 18 = .ok (.ireturn, 1) := by decide +kernel
theorem dX9_spareBy_19 : decode cX9_spareBy 19 = .ok (.iconst 0, 1) := by decide +kernel
theorem dX9_spareBy_20 : decode cX9_spareBy 20 = .ok (.istore_n 2, 1) := by decide +kernel
theorem dX9_spareBy_21 : decode cX9_spareBy 21 = .ok (.iload_n 2, 1) := by decide +kernel
theorem dX9_spareBy_22 : decode cX9_spareBy 22 = .ok (.aload_n 0, 1) := by decide +kernel
theorem dX9_spareBy_23 : decode cX9_spareBy 23 = .ok (.getfield 169, 3) := by decide +kernel
theorem dX9_spareBy_26 : decode cX9_spareBy 26 = .ok (.if_icmp .ge 38, 3) := by decide +kernel
theorem dX9_spareBy_29 : decode cX9_spareBy 29 = .ok (.aload_n 0, 1) := by decide +kernel
theorem dX9_spareBy_30 : decode cX9_spareBy 30 = .ok (.iconst 1, 1) := by decide +kernel
theorem dX9_spareBy_31 : decode cX9_spareBy 31 = .ok (.iload_n 2, 1) := by decide +kernel
theorem dX9_spareBy_32 : decode cX9_spareBy 32 = .ok (.ishl, 1) := by decide +kernel
theorem dX9_spareBy_33 : decode cX9_spareBy 33 = .ok (.invokevirtual 257, 3) := by decide +kernel
theorem dX9_spareBy_36 : decode cX9_spareBy 36 = .ok (.ifCond .eq 22, 3) := by decide +kernel
theorem dX9_spareBy_39 : decode cX9_spareBy 39 = .ok (.iload_n 1, 1) := by decide +kernel
theorem dX9_spareBy_40 : decode cX9_spareBy 40 = .ok (.iconst (-1), 1) := by decide +kernel
theorem dX9_spareBy_41 : decode cX9_spareBy 41 = .ok (.if_icmp .ne 7, 3) := by decide +kernel
theorem dX9_spareBy_44 : decode cX9_spareBy 44 = .ok (.iconst 1, 1) := by decide +kernel
theorem dX9_spareBy_45 : decode cX9_spareBy 45 = .ok (.goto 12, 3) := by decide +kernel
theorem dX9_spareBy_48 : decode cX9_spareBy 48 = .ok (.iload_n 1, 1) := by decide +kernel
theorem dX9_spareBy_49 : decode cX9_spareBy 49 = .ok (.ifCond .ne 7, 3) := by decide +kernel
theorem dX9_spareBy_52 : decode cX9_spareBy 52 = .ok (.iload_n 2, 1) := by decide +kernel
theorem dX9_spareBy_53 : decode cX9_spareBy 53 = .ok (.goto 4, 3) := by decide +kernel
theorem dX9_spareBy_56 : decode cX9_spareBy 56 = .ok (.iconst (-1), 1) := by decide +kernel
theorem dX9_spareBy_57 : decode cX9_spareBy 57 = .ok (.ireturn, 1) := by decide +kernel
theorem dX9_spareBy_58 : decode cX9_spareBy 58 = .ok (.iinc 2 1, 3) := by decide +kernel
theorem dX9_spareBy_61 : decode cX9_spareBy 61 = .ok (.goto (-40), 3) := by decide +kernel
theorem dX9_spareBy_64 : decode cX9_spareBy 64 = .ok (.iconst 0, 1) := by decide +kernel
theorem dX9_spareBy_65 : decode cX9_spareBy 65 = .ok (.istore_n 2, 1) := by decide +kernel
theorem dX9_spareBy_66 : decode cX9_spareBy 66 = .ok (.iload_n 2, 1) := by decide +kernel
theorem dX9_spareBy_67 : decode cX9_spareBy 67 = .ok (.aload_n 0, 1) := by decide +kernel
theorem dX9_spareBy_68 : decode cX9_spareBy 68 = .ok (.getfield 169, 3) := by decide +kernel
theorem dX9_spareBy_71 : decode cX9_spareBy 71 = .ok (.if_icmp .ge 60, 3) := by decide +kernel
theorem dX9_spareBy_74 : decode cX9_spareBy 74 = .ok (.iload_n 2, 1) := by decide +kernel
theorem dX9_spareBy_75 : decode cX9_spareBy 75 = .ok (.iconst 1, 1) := by decide +kernel
theorem dX9_spareBy_76 : decode cX9_spareBy 76 = .ok (.iadd, 1) := by decide +kernel
theorem dX9_spareBy_77 : decode cX9_spareBy 77 = .ok (.istore_n 3, 1) := by decide +kernel
theorem dX9_spareBy_78 : decode cX9_spareBy 78 = .ok (.iload_n 3, 1) := by decide +kernel
theorem dX9_spareBy_79 : decode cX9_spareBy 79 = .ok (.aload_n 0, 1) := by decide +kernel
theorem dX9_spareBy_80 : decode cX9_spareBy 80 = .ok (.getfield 169, 3) := by decide +kernel
theorem dX9_spareBy_83 : decode cX9_spareBy 83 = .ok (.if_icmp .ge 42, 3) := by decide +kernel
theorem dX9_spareBy_86 : decode cX9_spareBy 86 = .ok (.aload_n 0, 1) := by decide +kernel
theorem dX9_spareBy_87 : decode cX9_spareBy 87 = .ok (.iconst 1, 1) := by decide +kernel
theorem dX9_spareBy_88 : decode cX9_spareBy 88 = .ok (.iload_n 2, 1) := by decide +kernel
theorem dX9_spareBy_89 : decode cX9_spareBy 89 = .ok (.ishl, 1) := by decide +kernel
theorem dX9_spareBy_90 : decode cX9_spareBy 90 = .ok (.iconst 1, 1) := by decide +kernel
theorem dX9_spareBy_91 : decode cX9_spareBy 91 = .ok (.iload_n 3, 1) := by decide +kernel
theorem dX9_spareBy_92 : decode cX9_spareBy 92 = .ok (.ishl, 1) := by decide +kernel
theorem dX9_spareBy_93 : decode cX9_spareBy 93 = .ok (.ior, 1) := by decide +kernel
theorem dX9_spareBy_94 : decode cX9_spareBy 94 = .ok (.invokevirtual 257, 3) := by decide +kernel
theorem dX9_spareBy_97 : decode cX9_spareBy 97 = .ok (.ifCond .eq 22, 3) := by decide +kernel
theorem dX9_spareBy_100 : decode cX9_spareBy 100 = .ok (.iload_n 1, 1) := by decide +kernel
theorem dX9_spareBy_101 : decode cX9_spareBy 101 = .ok (.iconst (-1), 1) := by decide +kernel
theorem dX9_spareBy_102 : decode cX9_spareBy 102 = .ok (.if_icmp .ne 7, 3) := by decide +kernel
theorem dX9_spareBy_105 : decode cX9_spareBy 105 = .ok (.iconst 2, 1) := by decide +kernel
theorem dX9_spareBy_106 : decode cX9_spareBy 106 = .ok (.goto 12, 3) := by decide +kernel
theorem dX9_spareBy_109 : decode cX9_spareBy 109 = .ok (.iload_n 1, 1) := by decide +kernel
theorem dX9_spareBy_110 : decode cX9_spareBy 110 = .ok (.ifCond .ne 7, 3) := by decide +kernel
theorem dX9_spareBy_113 : decode cX9_spareBy 113 = .ok (.iload_n 2, 1) := by decide +kernel
theorem dX9_spareBy_114 : decode cX9_spareBy 114 = .ok (.goto 4, 3) := by decide +kernel
theorem dX9_spareBy_117 : decode cX9_spareBy 117 = .ok (.iload_n 3, 1) := by decide +kernel
theorem dX9_spareBy_118 : decode cX9_spareBy 118 = .ok (.ireturn, 1) := by decide +kernel
theorem dX9_spareBy_119 : decode cX9_spareBy 119 = .ok (.iinc 3 1, 3) := by decide +kernel
theorem dX9_spareBy_122 : decode cX9_spareBy 122 = .ok (.goto (-44), 3) := by decide +kernel
theorem dX9_spareBy_125 : decode cX9_spareBy 125 = .ok (.iinc 2 1, 3) := by decide +kernel
theorem dX9_spareBy_128 : decode cX9_spareBy 128 = .ok (.goto (-62), 3) := by decide +kernel
theorem dX9_spareBy_131 : decode cX9_spareBy 131 = .ok (.iconst (-1), 1) := by decide +kernel
theorem dX9_spareBy_132 : decode cX9_spareBy 132 = .ok (.ireturn, 1) := by decide +kernel
theorem dX9_spare_0 : decode cX9_spare 0 = .ok (.aload_n 0, 1) := by decide +kernel
theorem dX9_spare_1 : decode cX9_spare 1 = .ok (.invokevirtual 220, 3) := by decide +kernel
theorem dX9_spare_4 : decode cX9_spare 4 = .ok (.iload_n 1, 1) := by decide +kernel
theorem dX9_spare_5 : decode cX9_spare 5 = .ok (.i2l, 1) := by decide +kernel
theorem dX9_spare_6 : decode cX9_spare 6 = .ok (.ldc2_w 260, 3) := by decide +kernel
theorem dX9_spare_9 : decode cX9_spare 9 = .ok (.lconst 1, 1) := by decide +kernel
theorem dX9_spare_10 : decode cX9_spare 10 = .ok (.invokestatic 92, 3) := by decide +kernel
theorem dX9_spare_13 : decode cX9_spare 13 = .ok (.ifCond .eq 11, 3) := by decide +kernel
theorem dX9_spare_16 : decode cX9_spare 16 = .ok (.aload_n 0, 1) := by decide +kernel
theorem dX9_spare_17 : decode cX9_spare 17 = .ok (.iload_n 1, 1) := by decide +kernel
theorem dX9_spare_18 : decode cX9_spare 18 = .ok (.invokevirtual 262, 3) := by decide +kernel
theorem dX9_spare_21 : decode cX9_spare 21 = .ok (.goto 5, 3) := by decide +kernel
theorem dX9_spare_24 : decode cX9_spare 24 = .ok (.bipush (-2), 2) := by decide +kernel
theorem dX9_spare_26 : decode cX9_spare 26 = .ok (.ireturn, 1) := by decide +kernel
theorem dX9_seen_0 : decode cX9_seen 0 = .ok (.iload_n 1, 1) := by decide +kernel
theorem dX9_seen_1 : decode cX9_seen 1 = .ok (.invokestatic 164, 3) := by decide +kernel
theorem dX9_seen_4 : decode cX9_seen 4 = .ok (.ifCond .eq 27, 3) := by decide +kernel
theorem dX9_seen_7 : decode cX9_seen 7 = .ok (.iload_n 2, 1) := by decide +kernel
theorem dX9_seen_8 : decode cX9_seen 8 = .ok (.i2l, 1) := by decide +kernel
theorem dX9_seen_9 : decode cX9_seen 9 = .ok (.lconst 0, 1) := by decide +kernel
theorem dX9_seen_10 : decode cX9_seen 10 = .ok (.ldc2_w 167, 3) := by decide +kernel
theorem dX9_seen_13 : decode cX9_seen 13 = .ok (.invokestatic 92, 3) := by decide +kernel
theorem dX9_seen_16 : decode cX9_seen 16 = .ok (.ifCond .eq 15, 3) := by decide +kernel
theorem dX9_seen_19 : decode cX9_seen 19 = .ok (.iload_n 3, 1) := by decide +kernel
theorem dX9_seen_20 : decode cX9_seen 20 = .ok (.i2l, 1) := by decide +kernel
theorem dX9_seen_21 : decode cX9_seen 21 = .ok (.lconst 0, 1) := by decide +kernel
theorem dX9_seen_22 : decode cX9_seen 22 = .ok (.ldc2_w 99, 3) := by decide +kernel
theorem dX9_seen_25 : decode cX9_seen 25 = .ok (.invokestatic 92, 3) := by decide +kernel
theorem dX9_seen_28 : decode cX9_seen 28 = .ok (.ifCond .ne 6, 3) := by decide +kernel
theorem dX9_seen_31 : decode cX9_seen 31 = .ok (.bipush (-2), 2) := by decide +kernel
theorem dX9_seen_33 : decode cX9_seen 33 = .ok (.ireturn, 1) := by decide +kernel
theorem dX9_seen_34 : decode cX9_seen 34 = .ok (.aload_n 0, 1) := by decide +kernel
theorem dX9_seen_35 : decode cX9_seen 35 = .ok (.getfield 265, 3) := by decide +kernel
theorem dX9_seen_38 : decode cX9_seen 38 = .ok (.bipush 8, 2) := by decide +kernel
theorem dX9_seen_40 : decode cX9_seen 40 = .ok (.if_icmp .ne 6, 3) := by decide +kernel
theorem dX9_seen_43 : decode cX9_seen 43 = .ok (.bipush (-4), 2) := by decide +kernel
theorem dX9_seen_45 : decode cX9_seen 45 = .ok (.ireturn, 1) := by decide +kernel
theorem dX9_seen_46 : decode cX9_seen 46 = .ok (.aload_n 0, 1) := by decide +kernel
theorem dX9_seen_47 : decode cX9_seen 47 = .ok (.getfield 77, 3) := by decide +kernel
theorem dX9_seen_50 : decode cX9_seen 50 = .ok (.iconst 3, 1) := by decide +kernel
theorem dX9_seen_51 : decode cX9_seen 51 = .ok (.aload_n 0, 1) := by decide +kernel
theorem dX9_seen_52 : decode cX9_seen 52 = .ok (.getfield 265, 3) := by decide +kernel
theorem dX9_seen_55 : decode cX9_seen 55 = .ok (.imul, 1) := by decide +kernel
theorem dX9_seen_56 : decode cX9_seen 56 = .ok (.iload_n 1, 1) := by decide +kernel
theorem dX9_seen_57 : decode cX9_seen 57 = .ok (.iastore, 1) := by decide +kernel
theorem dX9_seen_58 : decode cX9_seen 58 = .ok (.aload_n 0, 1) := by decide +kernel
theorem dX9_seen_59 : decode cX9_seen 59 = .ok (.getfield 77, 3) := by decide +kernel
theorem dX9_seen_62 : decode cX9_seen 62 = .ok (.iconst 3, 1) := by decide +kernel
theorem dX9_seen_63 : decode cX9_seen 63 = .ok (.aload_n 0, 1) := by decide +kernel
theorem dX9_seen_64 : decode cX9_seen 64 = .ok (.getfield 265, 3) := by decide +kernel
theorem dX9_seen_67 : decode cX9_seen 67 = .ok (.imul, 1) := by decide +kernel
theorem dX9_seen_68 : decode cX9_seen 68 = .ok (.iconst 1, 1) := by decide +kernel
theorem dX9_seen_69 : decode cX9_seen 69 = .ok (.iadd, 1) := by decide +kernel
theorem dX9_seen_70 : decode cX9_seen 70 = .ok (.iload_n 2, 1) := by decide +kernel
theorem dX9_seen_71 : decode cX9_seen 71 = .ok (.iastore, 1) := by decide +kernel
theorem dX9_seen_72 : decode cX9_seen 72 = .ok (.aload_n 0, 1) := by decide +kernel
theorem dX9_seen_73 : decode cX9_seen 73 = .ok (.getfield 77, 3) := by decide +kernel
theorem dX9_seen_76 : decode cX9_seen 76 = .ok (.iconst 3, 1) := by decide +kernel
theorem dX9_seen_77 : decode cX9_seen 77 = .ok (.aload_n 0, 1) := by decide +kernel
theorem dX9_seen_78 : decode cX9_seen 78 = .ok (.getfield 265, 3) := by decide +kernel
theorem dX9_seen_81 : decode cX9_seen 81 = .ok (.imul, 1) := by decide +kernel
theorem dX9_seen_82 : decode cX9_seen 82 = .ok (.iconst 2, 1) := by decide +kernel
theorem dX9_seen_83 : decode cX9_seen 83 = .ok (.iadd, 1) := by decide +kernel
theorem dX9_seen_84 : decode cX9_seen 84 = .ok (.iload_n 3, 1) := by decide +kernel
theorem dX9_seen_85 : decode cX9_seen 85 = .ok (.iastore, 1) := by decide +kernel
theorem dX9_seen_86 : decode cX9_seen 86 = .ok (.aload_n 0, 1) := by decide +kernel
theorem dX9_seen_87 : decode cX9_seen 87 = .ok (.dup, 1) := by decide +kernel
theorem dX9_seen_88 : decode cX9_seen 88 = .ok (.getfield 265, 3) := by decide +kernel
theorem dX9_seen_91 : decode cX9_seen 91 = .ok (.iconst 1, 1) := by decide +kernel
theorem dX9_seen_92 : decode cX9_seen 92 = .ok (.iadd, 1) := by decide +kernel
theorem dX9_seen_93 : decode cX9_seen 93 = .ok (.putfield 265, 3) := by decide +kernel
theorem dX9_seen_96 : decode cX9_seen 96 = .ok (.aload_n 0, 1) := by decide +kernel
theorem dX9_seen_97 : decode cX9_seen 97 = .ok (.getfield 265, 3) := by decide +kernel
theorem dX9_seen_100 : decode cX9_seen 100 = .ok (.ireturn, 1) := by decide +kernel
theorem dX9_forget_0 : decode cX9_forget 0 = .ok (.aload_n 0, 1) := by decide +kernel
theorem dX9_forget_1 : decode cX9_forget 1 = .ok (.getfield 265, 3) := by decide +kernel
theorem dX9_forget_4 : decode cX9_forget 4 = .ok (.istore_n 1, 1) := by decide +kernel
theorem dX9_forget_5 : decode cX9_forget 5 = .ok (.aload_n 0, 1) := by decide +kernel
theorem dX9_forget_6 : decode cX9_forget 6 = .ok (.iconst 0, 1) := by decide +kernel
theorem dX9_forget_7 : decode cX9_forget 7 = .ok (.putfield 265, 3) := by decide +kernel
theorem dX9_forget_10 : decode cX9_forget 10 = .ok (.iload_n 1, 1) := by decide +kernel
theorem dX9_forget_11 : decode cX9_forget 11 = .ok (.ireturn, 1) := by decide +kernel
theorem dX9_placeOf_0 : decode cX9_placeOf 0 = .ok (.iconst 3, 1) := by decide +kernel
theorem dX9_placeOf_1 : decode cX9_placeOf 1 = .ok (.istore_n 3, 1) := by decide +kernel
theorem dX9_placeOf_2 : decode cX9_placeOf 2 = .ok (.iconst 0, 1) := by decide +kernel
theorem dX9_placeOf_3 : decode cX9_placeOf 3 = .ok (.istore 4, 2) := by decide +kernel
theorem dX9_placeOf_5 : decode cX9_placeOf 5 = .ok (.iload 4, 2) := by decide +kernel
theorem dX9_placeOf_7 : decode cX9_placeOf 7 = .ok (.iconst 3, 1) := by decide +kernel
theorem dX9_placeOf_8 : decode cX9_placeOf 8 = .ok (.if_icmp .ge 31, 3) := by decide +kernel
theorem dX9_placeOf_11 : decode cX9_placeOf 11 = .ok (.aload_n 0, 1) := by decide +kernel
theorem dX9_placeOf_12 : decode cX9_placeOf 12 = .ok (.getfield 74, 3) := by decide +kernel
theorem dX9_placeOf_15 : decode cX9_placeOf 15 = .ok (.iconst 3, 1) := by decide +kernel
theorem dX9_placeOf_16 : decode cX9_placeOf 16 = .ok (.iload_n 1, 1) := by decide +kernel
theorem dX9_placeOf_17 : decode cX9_placeOf 17 = .ok (.imul, 1) := by decide +kernel
theorem dX9_placeOf_18 : decode cX9_placeOf 18 = .ok (.iload 4, 2) := by decide +kernel
theorem dX9_placeOf_20 : decode cX9_placeOf 20 = .ok (.iadd, 1) := by decide +kernel
theorem dX9_placeOf_21 : decode cX9_placeOf 21 = .ok (.iaload, 1) := by decide +kernel
theorem dX9_placeOf_22 : decode cX9_placeOf 22 = .ok (.iload_n 2, 1) := by decide +kernel
theorem dX9_placeOf_23 : decode cX9_placeOf 23 = .ok (.if_icmp .ne 8, 3) := by decide +kernel
theorem dX9_placeOf_26 : decode cX9_placeOf 26 = .ok (.iload 4, 2) := by decide +kernel
theorem dX9_placeOf_28 : decode cX9_placeOf 28 = .ok (.goto 4, 3) := by decide +kernel
theorem dX9_placeOf_31 : decode cX9_placeOf 31 = .ok (.iload_n 3, 1) := by decide +kernel
theorem dX9_placeOf_32 : decode cX9_placeOf 32 = .ok (.istore_n 3, 1) := by decide +kernel
theorem dX9_placeOf_33 : decode cX9_placeOf 33 = .ok (.iinc 4 1, 3) := by decide +kernel
theorem dX9_placeOf_36 : decode cX9_placeOf 36 = .ok (.goto (-31), 3) := by decide +kernel
theorem dX9_placeOf_39 : decode cX9_placeOf 39 = .ok (.iload_n 3, 1) := by decide +kernel
theorem dX9_placeOf_40 : decode cX9_placeOf 40 = .ok (.ireturn, 1) := by decide +kernel
theorem dX9_isSeen_0 : decode cX9_isSeen 0 = .ok (.aload_n 0, 1) := by decide +kernel
theorem dX9_isSeen_1 : decode cX9_isSeen 1 = .ok (.invokevirtual 217, 3) := by decide +kernel
theorem dX9_isSeen_4 : decode cX9_isSeen 4 = .ok (.iconst 1, 1) := by decide +kernel
theorem dX9_isSeen_5 : decode cX9_isSeen 5 = .ok (.istore_n 1, 1) := by decide +kernel
theorem dX9_isSeen_6 : decode cX9_isSeen 6 = .ok (.iconst 0, 1) := by decide +kernel
theorem dX9_isSeen_7 : decode cX9_isSeen 7 = .ok (.istore_n 2, 1) := by decide +kernel
theorem dX9_isSeen_8 : decode cX9_isSeen 8 = .ok (.iload_n 2, 1) := by decide +kernel
theorem dX9_isSeen_9 : decode cX9_isSeen 9 = .ok (.aload_n 0, 1) := by decide +kernel
theorem dX9_isSeen_10 : decode cX9_isSeen 10 = .ok (.getfield 265, 3) := by decide +kernel
theorem dX9_isSeen_13 : decode cX9_isSeen 13 = .ok (.if_icmp .ge 64, 3) := by decide +kernel
theorem dX9_isSeen_16 : decode cX9_isSeen 16 = .ok (.aload_n 0, 1) := by decide +kernel
theorem dX9_isSeen_17 : decode cX9_isSeen 17 = .ok (.getfield 77, 3) := by decide +kernel
theorem dX9_isSeen_20 : decode cX9_isSeen 20 = .ok (.iconst 3, 1) := by decide +kernel
theorem dX9_isSeen_21 : decode cX9_isSeen 21 = .ok (.iload_n 2, 1) := by decide +kernel
theorem dX9_isSeen_22 : decode cX9_isSeen 22 = .ok (.imul, 1) := by decide +kernel
theorem dX9_isSeen_23 : decode cX9_isSeen 23 = .ok (.iconst 1, 1) := by decide +kernel
theorem dX9_isSeen_24 : decode cX9_isSeen 24 = .ok (.iadd, 1) := by decide +kernel
theorem dX9_isSeen_25 : decode cX9_isSeen 25 = .ok (.iaload, 1) := by decide +kernel
theorem dX9_isSeen_26 : decode cX9_isSeen 26 = .ok (.istore_n 3, 1) := by decide +kernel
theorem dX9_isSeen_27 : decode cX9_isSeen 27 = .ok (.iload_n 1, 1) := by decide +kernel
theorem dX9_isSeen_28 : decode cX9_isSeen 28 = .ok (.ifCond .eq 41, 3) := by decide +kernel
theorem dX9_isSeen_31 : decode cX9_isSeen 31 = .ok (.aload_n 0, 1) := by decide +kernel
theorem dX9_isSeen_32 : decode cX9_isSeen 32 = .ok (.iload_n 3, 1) := by decide +kernel
theorem dX9_isSeen_33 : decode cX9_isSeen 33 = .ok (.invokevirtual 158, 3) := by decide +kernel
theorem dX9_isSeen_36 : decode cX9_isSeen 36 = .ok (.ifCond .eq 33, 3) := by decide +kernel
theorem dX9_isSeen_39 : decode cX9_isSeen 39 = .ok (.aload_n 0, 1) := by decide +kernel
theorem dX9_isSeen_40 : decode cX9_isSeen 40 = .ok (.aload_n 0, 1) := by decide +kernel
theorem dX9_isSeen_41 : decode cX9_isSeen 41 = .ok (.getfield 77, 3) := by decide +kernel
theorem dX9_isSeen_44 : decode cX9_isSeen 44 = .ok (.iconst 3, 1) := by decide +kernel
theorem dX9_isSeen_45 : decode cX9_isSeen 45 = .ok (.iload_n 2, 1) := by decide +kernel
theorem dX9_isSeen_46 : decode cX9_isSeen 46 = .ok (.imul, 1) := by decide +kernel
theorem dX9_isSeen_47 : decode cX9_isSeen 47 = .ok (.iaload, 1) := by decide +kernel
theorem dX9_isSeen_48 : decode cX9_isSeen 48 = .ok (.iload_n 3, 1) := by decide +kernel
theorem dX9_isSeen_49 : decode cX9_isSeen 49 = .ok (.invokevirtual 268, 3) := by decide +kernel
theorem dX9_isSeen_52 : decode cX9_isSeen 52 = .ok (.aload_n 0, 1) := by decide +kernel
theorem dX9_isSeen_53 : decode cX9_isSeen 53 = .ok (.getfield 77, 3) := by decide +kernel
theorem dX9_isSeen_56 : decode cX9_isSeen 56 = .ok (.iconst 3, 1) := by decide +kernel
theorem dX9_isSeen_57 : decode cX9_isSeen 57 = .ok (.iload_n 2, 1) := by decide +kernel
theorem dX9_isSeen_58 : decode cX9_isSeen 58 = .ok (.imul, 1) := by decide +kernel
theorem dX9_isSeen_59 : decode cX9_isSeen 59 = .ok (.iconst 2, 1) := by decide +kernel
theorem dX9_isSeen_60 : decode cX9_isSeen 60 = .ok (.iadd, 1) := by decide +kernel
theorem dX9_isSeen_61 : decode cX9_isSeen 61 = .ok (.iaload, 1) := by decide +kernel
theorem dX9_isSeen_62 : decode cX9_isSeen 62 = .ok (.if_icmp .ne 7, 3) := by decide +kernel
theorem dX9_isSeen_65 : decode cX9_isSeen 65 = .ok (.iconst 1, 1) := by decide +kernel
theorem dX9_isSeen_66 : decode cX9_isSeen 66 = .ok (.goto 4, 3) := by decide +kernel
theorem dX9_isSeen_69 : decode cX9_isSeen 69 = .ok (.iconst 0, 1) := by decide +kernel
theorem dX9_isSeen_70 : decode cX9_isSeen 70 = .ok (.istore_n 1, 1) := by decide +kernel
theorem dX9_isSeen_71 : decode cX9_isSeen 71 = .ok (.iinc 2 1, 3) := by decide +kernel
theorem dX9_isSeen_74 : decode cX9_isSeen 74 = .ok (.goto (-66), 3) := by decide +kernel
theorem dX9_isSeen_77 : decode cX9_isSeen 77 = .ok (.iload_n 1, 1) := by decide +kernel
theorem dX9_isSeen_78 : decode cX9_isSeen 78 = .ok (.ireturn, 1) := by decide +kernel
theorem dX9_neverNow_0 : decode cX9_neverNow 0 = .ok (.iconst 0, 1) := by decide +kernel
theorem dX9_neverNow_1 : decode cX9_neverNow 1 = .ok (.istore_n 1, 1) := by decide +kernel
theorem dX9_neverNow_2 : decode cX9_neverNow 2 = .ok (.iconst 0, 1) := by decide +kernel
theorem dX9_neverNow_3 : decode cX9_neverNow 3 = .ok (.istore_n 2, 1) := by decide +kernel
theorem dX9_neverNow_4 : decode cX9_neverNow 4 = .ok (.iload_n 2, 1) := by decide +kernel
theorem dX9_neverNow_5 : decode cX9_neverNow 5 = .ok (.aload_n 0, 1) := by decide +kernel
theorem dX9_neverNow_6 : decode cX9_neverNow 6 = .ok (.getfield 169, 3) := by decide +kernel
theorem dX9_neverNow_9 : decode cX9_neverNow 9 = .ok (.if_icmp .ge 33, 3) := by decide +kernel
theorem dX9_neverNow_12 : decode cX9_neverNow 12 = .ok (.aload_n 0, 1) := by decide +kernel
theorem dX9_neverNow_13 : decode cX9_neverNow 13 = .ok (.iconst 1, 1) := by decide +kernel
theorem dX9_neverNow_14 : decode cX9_neverNow 14 = .ok (.iload_n 2, 1) := by decide +kernel
theorem dX9_neverNow_15 : decode cX9_neverNow 15 = .ok (.ishl, 1) := by decide +kernel
theorem dX9_neverNow_16 : decode cX9_neverNow 16 = .ok (.putfield 197, 3) := by decide +kernel
theorem dX9_neverNow_19 : decode cX9_neverNow 19 = .ok (.iload_n 1, 1) := by decide +kernel
theorem dX9_neverNow_20 : decode cX9_neverNow 20 = .ok (.aload_n 0, 1) := by decide +kernel
theorem dX9_neverNow_21 : decode cX9_neverNow 21 = .ok (.invokevirtual 271, 3) := by decide +kernel
theorem dX9_neverNow_24 : decode cX9_neverNow 24 = .ok (.ifCond .eq 9, 3) := by decide +kernel
theorem dX9_neverNow_27 : decode cX9_neverNow 27 = .ok (.iconst 1, 1) := by decide +kernel
theorem dX9_neverNow_28 : decode cX9_neverNow 28 = .ok (.iload_n 2, 1) := by decide +kernel
theorem dX9_neverNow_29 : decode cX9_neverNow 29 = .ok (.ishl, 1) := by decide +kernel
theorem dX9_neverNow_30 : decode cX9_neverNow 30 = .ok (.goto 4, 3) := by decide +kernel
theorem dX9_neverNow_33 : decode cX9_neverNow 33 = .ok (.iconst 0, 1) := by decide +kernel
theorem dX9_neverNow_34 : decode cX9_neverNow 34 = .ok (.ior, 1) := by decide +kernel
theorem dX9_neverNow_35 : decode cX9_neverNow 35 = .ok (.istore_n 1, 1) := by decide +kernel
theorem dX9_neverNow_36 : decode cX9_neverNow 36 = .ok (.iinc 2 1, 3) := by decide +kernel
theorem dX9_neverNow_39 : decode cX9_neverNow 39 = .ok (.goto (-35), 3) := by decide +kernel
theorem dX9_neverNow_42 : decode cX9_neverNow 42 = .ok (.aload_n 0, 1) := by decide +kernel
theorem dX9_neverNow_43 : decode cX9_neverNow 43 = .ok (.iconst 0, 1) := by decide +kernel
theorem dX9_neverNow_44 : decode cX9_neverNow 44 = .ok (.putfield 197, 3) := by decide +kernel
theorem dX9_neverNow_47 : decode cX9_neverNow 47 = .ok (.iload_n 1, 1) := by decide +kernel
theorem dX9_neverNow_48 : decode cX9_neverNow 48 = .ok (.ireturn, 1) := by decide +kernel
theorem dX9_never_0 : decode cX9_never 0 = .ok (.aload_n 0, 1) := by decide +kernel
theorem dX9_never_1 : decode cX9_never 1 = .ok (.invokevirtual 220, 3) := by decide +kernel
theorem dX9_never_4 : decode cX9_never 4 = .ok (.aload_n 0, 1) := by decide +kernel
theorem dX9_never_5 : decode cX9_never 5 = .ok (.invokevirtual 275, 3) := by decide +kernel
theorem dX9_never_8 : decode cX9_never 8 = .ok (.ireturn, 1) := by decide +kernel
theorem dX9_lookedOf_0 : decode cX9_lookedOf 0 = .ok (.aload_n 0, 1) := by decide +kernel
theorem dX9_lookedOf_1 : decode cX9_lookedOf 1 = .ok (.getfield 28, 3) := by decide +kernel
theorem dX9_lookedOf_4 : decode cX9_lookedOf 4 = .ok (.iconst 3, 1) := by decide +kernel
theorem dX9_lookedOf_5 : decode cX9_lookedOf 5 = .ok (.iload_n 1, 1) := by decide +kernel
theorem dX9_lookedOf_6 : decode cX9_lookedOf 6 = .ok (.imul, 1) := by decide +kernel
theorem dX9_lookedOf_7 : decode cX9_lookedOf 7 = .ok (.iconst 1, 1) := by decide +kernel
theorem dX9_lookedOf_8 : decode cX9_lookedOf 8 = .ok (.iadd, 1) := by decide +kernel
theorem dX9_lookedOf_9 : decode cX9_lookedOf 9 = .ok (.iaload, 1) := by decide +kernel
theorem dX9_lookedOf_10 : decode cX9_lookedOf 10 = .ok (.istore_n 2, 1) := by decide +kernel
theorem dX9_lookedOf_11 : decode cX9_lookedOf 11 = .ok (.iconst 0, 1) := by decide +kernel
theorem dX9_lookedOf_12 : decode cX9_lookedOf 12 = .ok (.istore_n 3, 1) := by decide +kernel
theorem dX9_lookedOf_13 : decode cX9_lookedOf 13 = .ok (.iconst 0, 1) := by decide +kernel
theorem dX9_lookedOf_14 : decode cX9_lookedOf 14 = .ok (.istore 4, 2) := by decide +kernel
theorem dX9_lookedOf_16 : decode cX9_lookedOf 16 = .ok (.iload 4, 2) := by decide +kernel
theorem dX9_lookedOf_18 : decode cX9_lookedOf 18 = .ok (.bipush 10, 2) := by decide +kernel
theorem dX9_lookedOf_20 : decode cX9_lookedOf 20 = .ok (.if_icmp .ge 75, 3) := by decide +kernel
theorem dX9_lookedOf_23 : decode cX9_lookedOf 23 = .ok (.aload_n 0, 1) := by decide +kernel
theorem dX9_lookedOf_24 : decode cX9_lookedOf 24 = .ok (.getfield 28, 3) := by decide +kernel
theorem dX9_lookedOf_27 : decode cX9_lookedOf 27 = .ok (.iconst 3, 1) := by decide +kernel
theorem dX9_lookedOf_28 : decode cX9_lookedOf 28 = .ok (.iload_n 1, 1) := by decide +kernel
theorem dX9_lookedOf_29 : decode cX9_lookedOf 29 = .ok (.imul, 1) := by decide +kernel
theorem dX9_lookedOf_30 : decode cX9_lookedOf 30 = .ok (.iconst 1, 1) := by decide +kernel
theorem dX9_lookedOf_31 : decode cX9_lookedOf 31 = .ok (.iadd, 1) := by decide +kernel
theorem dX9_lookedOf_32 : decode cX9_lookedOf 32 = .ok (.iload 4, 2) := by decide +kernel
theorem dX9_lookedOf_34 : decode cX9_lookedOf 34 = .ok (.iastore, 1) := by decide +kernel
theorem dX9_lookedOf_35 : decode cX9_lookedOf 35 = .ok (.iload_n 3, 1) := by decide +kernel
theorem dX9_lookedOf_36 : decode cX9_lookedOf 36 = .ok (.aload_n 0, 1) := by decide +kernel
theorem dX9_lookedOf_37 : decode cX9_lookedOf 37 = .ok (.invokevirtual 271, 3) := by decide +kernel
theorem dX9_lookedOf_40 : decode cX9_lookedOf 40 = .ok (.ifCond .eq 10, 3) := by decide +kernel
theorem dX9_lookedOf_43 : decode cX9_lookedOf 43 = .ok (.iconst 1, 1) := by decide +kernel
theorem dX9_lookedOf_44 : decode cX9_lookedOf 44 = .ok (.iload 4, 2) := by decide +kernel
theorem dX9_lookedOf_46 : decode cX9_lookedOf 46 = .ok (.ishl, 1) := by decide +kernel
theorem dX9_lookedOf_47 : decode cX9_lookedOf 47 = .ok (.goto 4, 3) := by decide +kernel
theorem dX9_lookedOf_50 : decode cX9_lookedOf 50 = .ok (.iconst 0, 1) := by decide +kernel
theorem dX9_lookedOf_51 : decode cX9_lookedOf 51 = .ok (.ior, 1) := by decide +kernel
theorem dX9_lookedOf_52 : decode cX9_lookedOf 52 = .ok (.istore_n 3, 1) := by decide +kernel
theorem dX9_lookedOf_53 : decode cX9_lookedOf 53 = .ok (.iconst 0, 1) := by decide +kernel
theorem dX9_lookedOf_54 : decode cX9_lookedOf 54 = .ok (.istore 5, 2) := by decide +kernel
theorem dX9_lookedOf_56 : decode cX9_lookedOf 56 = .ok (.iload 5, 2) := by decide +kernel
theorem dX9_lookedOf_58 : decode cX9_lookedOf 58 = .ok (.bipush 12, 2) := by decide +kernel
theorem dX9_lookedOf_60 : decode cX9_lookedOf 60 = .ok (.if_icmp .ge 29, 3) := by decide +kernel
theorem dX9_lookedOf_63 : decode cX9_lookedOf 63 = .ok (.aload_n 0, 1) := by decide +kernel
theorem dX9_lookedOf_64 : decode cX9_lookedOf 64 = .ok (.getfield 80, 3) := by decide +kernel
theorem dX9_lookedOf_67 : decode cX9_lookedOf 67 = .ok (.bipush 12, 2) := by decide +kernel
theorem dX9_lookedOf_69 : decode cX9_lookedOf 69 = .ok (.iload 4, 2) := by decide +kernel
theorem dX9_lookedOf_71 : decode cX9_lookedOf 71 = .ok (.imul, 1) := by decide +kernel
theorem dX9_lookedOf_72 : decode cX9_lookedOf 72 = .ok (.iload 5, 2) := by decide +kernel
theorem dX9_lookedOf_74 : decode cX9_lookedOf 74 = .ok (.iadd, 1) := by decide +kernel
theorem dX9_lookedOf_75 : decode cX9_lookedOf 75 = .ok (.aload_n 0, 1) := by decide +kernel
theorem dX9_lookedOf_76 : decode cX9_lookedOf 76 = .ok (.iload 5, 2) := by decide +kernel
theorem dX9_lookedOf_78 : decode cX9_lookedOf 78 = .ok (.iload_n 1, 1) := by decide +kernel
theorem dX9_lookedOf_79 : decode cX9_lookedOf 79 = .ok (.invokevirtual 268, 3) := by decide +kernel
theorem dX9_lookedOf_82 : decode cX9_lookedOf 82 = .ok (.iastore, 1) := by decide +kernel
theorem dX9_lookedOf_83 : decode cX9_lookedOf 83 = .ok (.iinc 5 1, 3) := by decide +kernel
theorem dX9_lookedOf_86 : decode cX9_lookedOf 86 = .ok (.goto (-30), 3) := by decide +kernel
theorem dX9_lookedOf_89 : decode cX9_lookedOf 89 = .ok (.iinc 4 1, 3) := by decide +kernel
theorem dX9_lookedOf_92 : decode cX9_lookedOf 92 = .ok (.goto (-76), 3) := by decide +kernel
theorem dX9_lookedOf_95 : decode cX9_lookedOf 95 = .ok (.aload_n 0, 1) := by decide +kernel
theorem dX9_lookedOf_96 : decode cX9_lookedOf 96 = .ok (.getfield 28, 3) := by decide +kernel
theorem dX9_lookedOf_99 : decode cX9_lookedOf 99 = .ok (.iconst 3, 1) := by decide +kernel
theorem dX9_lookedOf_100 : decode cX9_lookedOf 100 = .ok (.iload_n 1, 1) := by decide +kernel
theorem dX9_lookedOf_101 : decode cX9_lookedOf 101 = .ok (.imul, 1) := by decide +kernel
theorem dX9_lookedOf_102 : decode cX9_lookedOf 102 = .ok (.iconst 1, 1) := by decide +kernel
theorem dX9_lookedOf_103 : decode cX9_lookedOf 103 = .ok (.iadd, 1) := by decide +kernel
theorem dX9_lookedOf_104 : decode cX9_lookedOf 104 = .ok (.iload_n 2, 1) := by decide +kernel
theorem dX9_lookedOf_105 : decode cX9_lookedOf 105 = .ok (.iastore, 1) := by decide +kernel
theorem dX9_lookedOf_106 : decode cX9_lookedOf 106 = .ok (.iload_n 3, 1) := by decide +kernel
theorem dX9_lookedOf_107 : decode cX9_lookedOf 107 = .ok (.ireturn, 1) := by decide +kernel
theorem dX9_looked_0 : decode cX9_looked 0 = .ok (.aload_n 0, 1) := by decide +kernel
theorem dX9_looked_1 : decode cX9_looked 1 = .ok (.invokevirtual 220, 3) := by decide +kernel
theorem dX9_looked_4 : decode cX9_looked 4 = .ok (.aload_n 0, 1) := by decide +kernel
theorem dX9_looked_5 : decode cX9_looked 5 = .ok (.iload_n 1, 1) := by decide +kernel
theorem dX9_looked_6 : decode cX9_looked 6 = .ok (.invokevirtual 158, 3) := by decide +kernel
theorem dX9_looked_9 : decode cX9_looked 9 = .ok (.ifCond .eq 11, 3) := by decide +kernel
theorem dX9_looked_12 : decode cX9_looked 12 = .ok (.aload_n 0, 1) := by decide +kernel
theorem dX9_looked_13 : decode cX9_looked 13 = .ok (.iload_n 1, 1) := by decide +kernel
theorem dX9_looked_14 : decode cX9_looked 14 = .ok (.invokevirtual 278, 3) := by decide +kernel
theorem dX9_looked_17 : decode cX9_looked 17 = .ok (.goto 5, 3) := by decide +kernel
theorem dX9_looked_20 : decode cX9_looked 20 = .ok (.bipush (-2), 2) := by decide +kernel
theorem dX9_looked_22 : decode cX9_looked 22 = .ok (.ireturn, 1) := by decide +kernel
theorem dX9_tastesOf_0 : decode cX9_tastesOf 0 = .ok (.aload_n 0, 1) := by decide +kernel
theorem dX9_tastesOf_1 : decode cX9_tastesOf 1 = .ok (.getfield 31, 3) := by decide +kernel
theorem dX9_tastesOf_4 : decode cX9_tastesOf 4 = .ok (.iconst 3, 1) := by decide +kernel
theorem dX9_tastesOf_5 : decode cX9_tastesOf 5 = .ok (.iload_n 1, 1) := by decide +kernel
theorem dX9_tastesOf_6 : decode cX9_tastesOf 6 = .ok (.imul, 1) := by decide +kernel
theorem dX9_tastesOf_7 : decode cX9_tastesOf 7 = .ok (.iaload, 1) := by decide +kernel
theorem dX9_tastesOf_8 : decode cX9_tastesOf 8 = .ok (.istore_n 2, 1) := by decide +kernel
theorem dX9_tastesOf_9 : decode cX9_tastesOf 9 = .ok (.iconst 0, 1) := by decide +kernel
theorem dX9_tastesOf_10 : decode cX9_tastesOf 10 = .ok (.istore_n 3, 1) := by decide +kernel
theorem dX9_tastesOf_11 : decode cX9_tastesOf 11 = .ok (.iconst 0, 1) := by decide +kernel
theorem dX9_tastesOf_12 : decode cX9_tastesOf 12 = .ok (.istore 4, 2) := by decide +kernel
theorem dX9_tastesOf_14 : decode cX9_tastesOf 14 = .ok (.iload 4, 2) := by decide +kernel
theorem dX9_tastesOf_16 : decode cX9_tastesOf 16 = .ok (.iconst 3, 1) := by decide +kernel
theorem dX9_tastesOf_17 : decode cX9_tastesOf 17 = .ok (.if_icmp .ge 37, 3) := by decide +kernel
theorem dX9_tastesOf_20 : decode cX9_tastesOf 20 = .ok (.aload_n 0, 1) := by decide +kernel
theorem dX9_tastesOf_21 : decode cX9_tastesOf 21 = .ok (.getfield 31, 3) := by decide +kernel
theorem dX9_tastesOf_24 : decode cX9_tastesOf 24 = .ok (.iconst 3, 1) := by decide +kernel
theorem dX9_tastesOf_25 : decode cX9_tastesOf 25 = .ok (.iload_n 1, 1) := by decide +kernel
theorem dX9_tastesOf_26 : decode cX9_tastesOf 26 = .ok (.imul, 1) := by decide +kernel
theorem dX9_tastesOf_27 : decode cX9_tastesOf 27 = .ok (.iload 4, 2) := by decide +kernel
theorem dX9_tastesOf_29 : decode cX9_tastesOf 29 = .ok (.iastore, 1) := by decide +kernel
theorem dX9_tastesOf_30 : decode cX9_tastesOf 30 = .ok (.iload_n 3, 1) := by decide +kernel
theorem dX9_tastesOf_31 : decode cX9_tastesOf 31 = .ok (.aload_n 0, 1) := by decide +kernel
theorem dX9_tastesOf_32 : decode cX9_tastesOf 32 = .ok (.invokevirtual 271, 3) := by decide +kernel
theorem dX9_tastesOf_35 : decode cX9_tastesOf 35 = .ok (.ifCond .eq 10, 3) := by decide +kernel
theorem dX9_tastesOf_38 : decode cX9_tastesOf 38 = .ok (.iconst 1, 1) := by decide +kernel
theorem dX9_tastesOf_39 : decode cX9_tastesOf 39 = .ok (.iload 4, 2) := by decide +kernel
theorem dX9_tastesOf_41 : decode cX9_tastesOf 41 = .ok (.ishl, 1) := by decide +kernel
theorem dX9_tastesOf_42 : decode cX9_tastesOf 42 = .ok (.goto 4, 3) := by decide +kernel
theorem dX9_tastesOf_45 : decode cX9_tastesOf 45 = .ok (.iconst 0, 1) := by decide +kernel
theorem dX9_tastesOf_46 : decode cX9_tastesOf 46 = .ok (.ior, 1) := by decide +kernel
theorem dX9_tastesOf_47 : decode cX9_tastesOf 47 = .ok (.istore_n 3, 1) := by decide +kernel
theorem dX9_tastesOf_48 : decode cX9_tastesOf 48 = .ok (.iinc 4 1, 3) := by decide +kernel
theorem dX9_tastesOf_51 : decode cX9_tastesOf 51 = .ok (.goto (-37), 3) := by decide +kernel
theorem dX9_tastesOf_54 : decode cX9_tastesOf 54 = .ok (.aload_n 0, 1) := by decide +kernel
theorem dX9_tastesOf_55 : decode cX9_tastesOf 55 = .ok (.getfield 31, 3) := by decide +kernel
theorem dX9_tastesOf_58 : decode cX9_tastesOf 58 = .ok (.iconst 3, 1) := by decide +kernel
theorem dX9_tastesOf_59 : decode cX9_tastesOf 59 = .ok (.iload_n 1, 1) := by decide +kernel
theorem dX9_tastesOf_60 : decode cX9_tastesOf 60 = .ok (.imul, 1) := by decide +kernel
theorem dX9_tastesOf_61 : decode cX9_tastesOf 61 = .ok (.iload_n 2, 1) := by decide +kernel
theorem dX9_tastesOf_62 : decode cX9_tastesOf 62 = .ok (.iastore, 1) := by decide +kernel
theorem dX9_tastesOf_63 : decode cX9_tastesOf 63 = .ok (.iload_n 3, 1) := by decide +kernel
theorem dX9_tastesOf_64 : decode cX9_tastesOf 64 = .ok (.ireturn, 1) := by decide +kernel
theorem dX9_tastes_0 : decode cX9_tastes 0 = .ok (.aload_n 0, 1) := by decide +kernel
theorem dX9_tastes_1 : decode cX9_tastes 1 = .ok (.invokevirtual 220, 3) := by decide +kernel
theorem dX9_tastes_4 : decode cX9_tastes 4 = .ok (.aload_n 0, 1) := by decide +kernel
theorem dX9_tastes_5 : decode cX9_tastes 5 = .ok (.iload_n 1, 1) := by decide +kernel
theorem dX9_tastes_6 : decode cX9_tastes 6 = .ok (.invokevirtual 161, 3) := by decide +kernel
theorem dX9_tastes_9 : decode cX9_tastes 9 = .ok (.ifCond .eq 11, 3) := by decide +kernel
theorem dX9_tastes_12 : decode cX9_tastes 12 = .ok (.aload_n 0, 1) := by decide +kernel
theorem dX9_tastes_13 : decode cX9_tastes 13 = .ok (.iload_n 1, 1) := by decide +kernel
theorem dX9_tastes_14 : decode cX9_tastes 14 = .ok (.invokevirtual 281, 3) := by decide +kernel
theorem dX9_tastes_17 : decode cX9_tastes 17 = .ok (.goto 5, 3) := by decide +kernel
theorem dX9_tastes_20 : decode cX9_tastes 20 = .ok (.bipush (-2), 2) := by decide +kernel
theorem dX9_tastes_22 : decode cX9_tastes 22 = .ok (.ireturn, 1) := by decide +kernel
theorem dX9_alike_0 : decode cX9_alike 0 = .ok (.iconst 0, 1) := by decide +kernel
theorem dX9_alike_1 : decode cX9_alike 1 = .ok (.istore_n 3, 1) := by decide +kernel
theorem dX9_alike_2 : decode cX9_alike 2 = .ok (.iconst 0, 1) := by decide +kernel
theorem dX9_alike_3 : decode cX9_alike 3 = .ok (.istore 4, 2) := by decide +kernel
theorem dX9_alike_5 : decode cX9_alike 5 = .ok (.iload 4, 2) := by decide +kernel
theorem dX9_alike_7 : decode cX9_alike 7 = .ok (.bipush 10, 2) := by decide +kernel
theorem dX9_alike_9 : decode cX9_alike 9 = .ok (.if_icmp .ge 90, 3) := by decide +kernel
theorem dX9_alike_12 : decode cX9_alike 12 = .ok (.iconst 0, 1) := by decide +kernel
theorem dX9_alike_13 : decode cX9_alike 13 = .ok (.istore 5, 2) := by decide +kernel
theorem dX9_alike_15 : decode cX9_alike 15 = .ok (.iconst 0, 1) := by decide +kernel
theorem dX9_alike_16 : decode cX9_alike 16 = .ok (.istore 6, 2) := by decide +kernel
theorem dX9_alike_18 : decode cX9_alike 18 = .ok (.iload 6, 2) := by decide +kernel
theorem dX9_alike_20 : decode cX9_alike 20 = .ok (.bipush 10, 2) := by decide +kernel
theorem dX9_alike_22 : decode cX9_alike 22 = .ok (.if_icmp .ge 64, 3) := by decide +kernel
theorem dX9_alike_25 : decode cX9_alike 25 = .ok (.iload 5, 2) := by decide +kernel
theorem dX9_alike_27 : decode cX9_alike 27 = .ok (.iload_n 1, 1) := by decide +kernel
theorem dX9_alike_28 : decode cX9_alike 28 = .ok (.iload 4, 2) := by decide +kernel
theorem dX9_alike_30 : decode cX9_alike 30 = .ok (.invokestatic 187, 3) := by decide +kernel
theorem dX9_alike_33 : decode cX9_alike 33 = .ok (.ifCond .eq 43, 3) := by decide +kernel
theorem dX9_alike_36 : decode cX9_alike 36 = .ok (.iload_n 1, 1) := by decide +kernel
theorem dX9_alike_37 : decode cX9_alike 37 = .ok (.iload 6, 2) := by decide +kernel
theorem dX9_alike_39 : decode cX9_alike 39 = .ok (.invokestatic 187, 3) := by decide +kernel
theorem dX9_alike_42 : decode cX9_alike 42 = .ok (.ifCond .eq 34, 3) := by decide +kernel
theorem dX9_alike_45 : decode cX9_alike 45 = .ok (.aload_n 0, 1) := by decide +kernel
theorem dX9_alike_46 : decode cX9_alike 46 = .ok (.getfield 80, 3) := by decide +kernel
theorem dX9_alike_49 : decode cX9_alike 49 = .ok (.bipush 12, 2) := by decide +kernel
theorem dX9_alike_51 : decode cX9_alike 51 = .ok (.iload 4, 2) := by decide +kernel
theorem dX9_alike_53 : decode cX9_alike 53 = .ok (.imul, 1) := by decide +kernel
theorem dX9_alike_54 : decode cX9_alike 54 = .ok (.iload_n 2, 1) := by decide +kernel
theorem dX9_alike_55 : decode cX9_alike 55 = .ok (.iadd, 1) := by decide +kernel
theorem dX9_alike_56 : decode cX9_alike 56 = .ok (.iaload, 1) := by decide +kernel
theorem dX9_alike_57 : decode cX9_alike 57 = .ok (.aload_n 0, 1) := by decide +kernel
theorem dX9_alike_58 : decode cX9_alike 58 = .ok (.getfield 80, 3) := by decide +kernel
theorem dX9_alike_61 : decode cX9_alike 61 = .ok (.bipush 12, 2) := by decide +kernel
theorem dX9_alike_63 : decode cX9_alike 63 = .ok (.iload 6, 2) := by decide +kernel
theorem dX9_alike_65 : decode cX9_alike 65 = .ok (.imul, 1) := by decide +kernel
theorem dX9_alike_66 : decode cX9_alike 66 = .ok (.iload_n 2, 1) := by decide +kernel
theorem dX9_alike_67 : decode cX9_alike 67 = .ok (.iadd, 1) := by decide +kernel
theorem dX9_alike_68 : decode cX9_alike 68 = .ok (.iaload, 1) := by decide +kernel
theorem dX9_alike_69 : decode cX9_alike 69 = .ok (.if_icmp .ne 7, 3) := by decide +kernel
theorem dX9_alike_72 : decode cX9_alike 72 = .ok (.iconst 1, 1) := by decide +kernel
theorem dX9_alike_73 : decode cX9_alike 73 = .ok (.goto 4, 3) := by decide +kernel
theorem dX9_alike_76 : decode cX9_alike 76 = .ok (.iconst 0, 1) := by decide +kernel
theorem dX9_alike_77 : decode cX9_alike 77 = .ok (.iadd, 1) := by decide +kernel
theorem dX9_alike_78 : decode cX9_alike 78 = .ok (.istore 5, 2) := by decide +kernel
theorem dX9_alike_80 : decode cX9_alike 80 = .ok (.iinc 6 1, 3) := by decide +kernel
theorem dX9_alike_83 : decode cX9_alike 83 = .ok (.goto (-65), 3) := by decide +kernel
theorem dX9_alike_86 : decode cX9_alike 86 = .ok (.iload 5, 2) := by decide +kernel
theorem dX9_alike_88 : decode cX9_alike 88 = .ok (.iload_n 3, 1) := by decide +kernel
theorem dX9_alike_89 : decode cX9_alike 89 = .ok (.invokestatic 181, 3) := by decide +kernel
theorem dX9_alike_92 : decode cX9_alike 92 = .ok (.istore_n 3, 1) := by decide +kernel
theorem dX9_alike_93 : decode cX9_alike 93 = .ok (.iinc 4 1, 3) := by decide +kernel
theorem dX9_alike_96 : decode cX9_alike 96 = .ok (.goto (-91), 3) := by decide +kernel
theorem dX9_alike_99 : decode cX9_alike 99 = .ok (.iload_n 3, 1) := by decide +kernel
theorem dX9_alike_100 : decode cX9_alike 100 = .ok (.ireturn, 1) := by decide +kernel
theorem dX9_askOf_0 : decode cX9_askOf 0 = .ok (.aload_n 0, 1) := by decide +kernel
theorem dX9_askOf_1 : decode cX9_askOf 1 = .ok (.iload_n 1, 1) := by decide +kernel
theorem dX9_askOf_2 : decode cX9_askOf 2 = .ok (.invokevirtual 278, 3) := by decide +kernel
theorem dX9_askOf_5 : decode cX9_askOf 5 = .ok (.istore_n 2, 1) := by decide +kernel
theorem dX9_askOf_6 : decode cX9_askOf 6 = .ok (.iconst 0, 1) := by decide +kernel
theorem dX9_askOf_7 : decode cX9_askOf 7 = .ok (.istore_n 3, 1) := by decide +kernel
theorem dX9_askOf_8 : decode cX9_askOf 8 = .ok (.iconst 1, 1) := by decide +kernel
theorem dX9_askOf_9 : decode cX9_askOf 9 = .ok (.istore 4, 2) := by decide +kernel
theorem dX9_askOf_11 : decode cX9_askOf 11 = .ok (.iload 4, 2) := by decide +kernel
theorem dX9_askOf_13 : decode cX9_askOf 13 = .ok (.bipush 12, 2) := by decide +kernel
theorem dX9_askOf_15 : decode cX9_askOf 15 = .ok (.if_icmp .ge 32, 3) := by decide +kernel
theorem dX9_askOf_18 : decode cX9_askOf 18 = .ok (.aload_n 0, 1) := by decide +kernel
theorem dX9_askOf_19 : decode cX9_askOf 19 = .ok (.iload_n 2, 1) := by decide +kernel
theorem dX9_askOf_20 : decode cX9_askOf 20 = .ok (.iload 4, 2) := by decide +kernel
theorem dX9_askOf_22 : decode cX9_askOf 22 = .ok (.invokevirtual 284, 3) := by decide +kernel
theorem dX9_askOf_25 : decode cX9_askOf 25 = .ok (.aload_n 0, 1) := by decide +kernel
theorem dX9_askOf_26 : decode cX9_askOf 26 = .ok (.iload_n 2, 1) := by decide +kernel
theorem dX9_askOf_27 : decode cX9_askOf 27 = .ok (.iload_n 3, 1) := by decide +kernel
theorem dX9_askOf_28 : decode cX9_askOf 28 = .ok (.invokevirtual 284, 3) := by decide +kernel
theorem dX9_askOf_31 : decode cX9_askOf 31 = .ok (.if_icmp .ge 8, 3) := by decide +kernel
theorem dX9_askOf_34 : decode cX9_askOf 34 = .ok (.iload 4, 2) := by decide +kernel
theorem dX9_askOf_36 : decode cX9_askOf 36 = .ok (.goto 4, 3) := by decide +kernel
theorem dX9_askOf_39 : decode cX9_askOf 39 = .ok (.iload_n 3, 1) := by decide +kernel
theorem dX9_askOf_40 : decode cX9_askOf 40 = .ok (.istore_n 3, 1) := by decide +kernel
theorem dX9_askOf_41 : decode cX9_askOf 41 = .ok (.iinc 4 1, 3) := by decide +kernel
theorem dX9_askOf_44 : decode cX9_askOf 44 = .ok (.goto (-33), 3) := by decide +kernel
theorem dX9_askOf_47 : decode cX9_askOf 47 = .ok (.iload_n 3, 1) := by decide +kernel
theorem dX9_askOf_48 : decode cX9_askOf 48 = .ok (.ireturn, 1) := by decide +kernel
theorem dX9_ask_0 : decode cX9_ask 0 = .ok (.aload_n 0, 1) := by decide +kernel
theorem dX9_ask_1 : decode cX9_ask 1 = .ok (.invokevirtual 220, 3) := by decide +kernel
theorem dX9_ask_4 : decode cX9_ask 4 = .ok (.aload_n 0, 1) := by decide +kernel
theorem dX9_ask_5 : decode cX9_ask 5 = .ok (.iload_n 1, 1) := by decide +kernel
theorem dX9_ask_6 : decode cX9_ask 6 = .ok (.invokevirtual 158, 3) := by decide +kernel
theorem dX9_ask_9 : decode cX9_ask 9 = .ok (.ifCond .eq 11, 3) := by decide +kernel
theorem dX9_ask_12 : decode cX9_ask 12 = .ok (.aload_n 0, 1) := by decide +kernel
theorem dX9_ask_13 : decode cX9_ask 13 = .ok (.iload_n 1, 1) := by decide +kernel
theorem dX9_ask_14 : decode cX9_ask 14 = .ok (.invokevirtual 287, 3) := by decide +kernel
theorem dX9_ask_17 : decode cX9_ask 17 = .ok (.goto 5, 3) := by decide +kernel
theorem dX9_ask_20 : decode cX9_ask 20 = .ok (.bipush (-2), 2) := by decide +kernel
theorem dX9_ask_22 : decode cX9_ask 22 = .ok (.ireturn, 1) := by decide +kernel
theorem dX9_chanceOf_0 : decode cX9_chanceOf 0 = .ok (.lconst 0, 1) := by decide +kernel
theorem dX9_chanceOf_1 : decode cX9_chanceOf 1 = .ok (.lstore 4, 2) := by decide +kernel
theorem dX9_chanceOf_3 : decode cX9_chanceOf 3 = .ok (.iconst 0, 1) := by decide +kernel
theorem dX9_chanceOf_4 : decode cX9_chanceOf 4 = .ok (.istore 6, 2) := by decide +kernel
theorem dX9_chanceOf_6 : decode cX9_chanceOf 6 = .ok (.iload 6, 2) := by decide +kernel
theorem dX9_chanceOf_8 : decode cX9_chanceOf 8 = .ok (.iconst 1, 1) := by decide +kernel
theorem dX9_chanceOf_9 : decode cX9_chanceOf 9 = .ok (.aload_n 0, 1) := by decide +kernel
theorem dX9_chanceOf_10 : decode cX9_chanceOf 10 = .ok (.getfield 169, 3) := by decide +kernel
theorem dX9_chanceOf_13 : decode cX9_chanceOf 13 = .ok (.ishl, 1) := by decide +kernel
theorem dX9_chanceOf_14 : decode cX9_chanceOf 14 = .ok (.if_icmp .ge 84, 3) := by decide +kernel
theorem dX9_chanceOf_17 : decode cX9_chanceOf 17 = .ok (.aload_n 0, 1) := by decide +kernel
theorem dX9_chanceOf_18 : decode cX9_chanceOf 18 = .ok (.iload 6, 2) := by decide +kernel
theorem dX9_chanceOf_20 : decode cX9_chanceOf 20 = .ok (.putfield 197, 3) := by decide +kernel
theorem dX9_chanceOf_23 : decode cX9_chanceOf 23 = .ok (.aload_n 0, 1) := by decide +kernel
theorem dX9_chanceOf_24 : decode cX9_chanceOf 24 = .ok (.invokevirtual 217, 3) := by decide +kernel
theorem dX9_chanceOf_27 : decode cX9_chanceOf 27 = .ok (.aload_n 0, 1) := by decide +kernel
theorem dX9_chanceOf_28 : decode cX9_chanceOf 28 = .ok (.invokevirtual 242, 3) := by decide +kernel
theorem dX9_chanceOf_31 : decode cX9_chanceOf 31 = .ok (.iload_n 2, 1) := by decide +kernel
theorem dX9_chanceOf_32 : decode cX9_chanceOf 32 = .ok (.if_icmp .ne 7, 3) := by decide +kernel
theorem dX9_chanceOf_35 : decode cX9_chanceOf 35 = .ok (.lconst 1, 1) := by decide +kernel
theorem dX9_chanceOf_36 : decode cX9_chanceOf 36 = .ok (.goto 4, 3) := by decide +kernel
theorem dX9_chanceOf_39 : decode cX9_chanceOf 39 = .ok (.lconst 0, 1) := by decide +kernel
theorem dX9_chanceOf_40 : decode cX9_chanceOf 40 = .ok (.lstore 7, 2) := by decide +kernel
theorem dX9_chanceOf_42 : decode cX9_chanceOf 42 = .ok (.iconst 0, 1) := by decide +kernel
theorem dX9_chanceOf_43 : decode cX9_chanceOf 43 = .ok (.istore 9, 2) := by decide +kernel
theorem dX9_chanceOf_45 : decode cX9_chanceOf 45 = .ok (.iload 9, 2) := by decide +kernel
theorem dX9_chanceOf_47 : decode cX9_chanceOf 47 = .ok (.aload_n 0, 1) := by decide +kernel
theorem dX9_chanceOf_48 : decode cX9_chanceOf 48 = .ok (.getfield 169, 3) := by decide +kernel
theorem dX9_chanceOf_51 : decode cX9_chanceOf 51 = .ok (.if_icmp .ge 34, 3) := by decide +kernel
theorem dX9_chanceOf_54 : decode cX9_chanceOf 54 = .ok (.lload 7, 2) := by decide +kernel
theorem dX9_chanceOf_56 : decode cX9_chanceOf 56 = .ok (.iload 6, 2) := by decide +kernel
theorem dX9_chanceOf_58 : decode cX9_chanceOf 58 = .ok (.iload 9, 2) := by decide +kernel
theorem dX9_chanceOf_60 : decode cX9_chanceOf 60 = .ok (.invokestatic 187, 3) := by decide +kernel
theorem dX9_chanceOf_63 : decode cX9_chanceOf 63 = .ok (.ifCond .eq 11, 3) := by decide +kernel
theorem dX9_chanceOf_66 : decode cX9_chanceOf 66 = .ok (.bipush 16, 2) := by decide +kernel
theorem dX9_chanceOf_68 : decode cX9_chanceOf 68 = .ok (.iload_n 1, 1) := by decide +kernel
theorem dX9_chanceOf_69 : decode cX9_chanceOf 69 = .ok (.isub, 1) := by decide +kernel
theorem dX9_chanceOf_70 : decode cX9_chanceOf 70 = .ok (.i2l, 1) := by decide +kernel
theorem dX9_chanceOf_71 : decode cX9_chanceOf 71 = .ok (.goto 5, 3) := by decide +kernel
theorem dX9_chanceOf_74 : decode cX9_chanceOf 74 = .ok (.iload_n 1, 1) := by decide +kernel
theorem dX9_chanceOf_75 : decode cX9_chanceOf 75 = .ok (.i2l, 1) := by decide +kernel
theorem dX9_chanceOf_76 : decode cX9_chanceOf 76 = .ok (.lmul, 1) := by decide +kernel
theorem dX9_chanceOf_77 : decode cX9_chanceOf 77 = .ok (.lstore 7, 2) := by decide +kernel
theorem dX9_chanceOf_79 : decode cX9_chanceOf 79 = .ok (.iinc 9 1, 3) := by decide +kernel
theorem dX9_chanceOf_82 : decode cX9_chanceOf 82 = .ok (.goto (-37), 3) := by decide +kernel
theorem dX9_chanceOf_85 : decode cX9_chanceOf 85 = .ok (.lload 4, 2) := by decide +kernel
theorem dX9_chanceOf_87 : decode cX9_chanceOf 87 = .ok (.lload 7, 2) := by decide +kernel
theorem dX9_chanceOf_89 : decode cX9_chanceOf 89 = .ok (.ladd, 1) := by decide +kernel
theorem dX9_chanceOf_90 : decode cX9_chanceOf 90 = .ok (.lstore 4, 2) := by decide +kernel
theorem dX9_chanceOf_92 : decode cX9_chanceOf 92 = .ok (.iinc 6 1, 3) := by decide +kernel
theorem dX9_chanceOf_95 : decode cX9_chanceOf 95 = .ok (.goto (-89), 3) := by decide +kernel
theorem dX9_chanceOf_98 : decode cX9_chanceOf 98 = .ok (.aload_n 0, 1) := by decide +kernel
theorem dX9_chanceOf_99 : decode cX9_chanceOf 99 = .ok (.iconst 0, 1) := by decide +kernel
theorem dX9_chanceOf_100 : decode cX9_chanceOf 100 = .ok (.putfield 197, 3) := by decide +kernel
theorem dX9_chanceOf_103 : decode cX9_chanceOf 103 = .ok (.lload 4, 2) := by decide +kernel
theorem dX9_chanceOf_105 : decode cX9_chanceOf 105 = .ok (.lconst 1, 1) := by decide +kernel
theorem dX9_chanceOf_106 : decode cX9_chanceOf 106 = .ok (.iconst 4, 1) := by decide +kernel
theorem dX9_chanceOf_107 : decode cX9_chanceOf 107 = .ok (.aload_n 0, 1) := by decide +kernel
theorem dX9_chanceOf_108 : decode cX9_chanceOf 108 = .ok (.getfield 169, 3) := by decide +kernel
theorem dX9_chanceOf_111 : decode cX9_chanceOf 111 = .ok (.imul, 1) := by decide +kernel
theorem dX9_chanceOf_112 : decode cX9_chanceOf 112 = .ok (.lshl, 1) := by decide +kernel
theorem dX9_chanceOf_113 : decode cX9_chanceOf 113 = .ok (.iload_n 3, 1) := by decide +kernel
theorem dX9_chanceOf_114 : decode cX9_chanceOf 114 = .ok (.invokestatic 290, 3) := by decide +kernel
theorem dX9_chanceOf_117 : decode cX9_chanceOf 117 = .ok (.lreturn, 1) := by decide +kernel
theorem dX9_chance_0 : decode cX9_chance 0 = .ok (.aload_n 0, 1) := by decide +kernel
theorem dX9_chance_1 : decode cX9_chance 1 = .ok (.invokevirtual 220, 3) := by decide +kernel
theorem dX9_chance_4 : decode cX9_chance 4 = .ok (.iload_n 1, 1) := by decide +kernel
theorem dX9_chance_5 : decode cX9_chance 5 = .ok (.i2l, 1) := by decide +kernel
theorem dX9_chance_6 : decode cX9_chance 6 = .ok (.lconst 0, 1) := by decide +kernel
theorem dX9_chance_7 : decode cX9_chance 7 = .ok (.ldc2_w 294, 3) := by decide +kernel
theorem dX9_chance_10 : decode cX9_chance 10 = .ok (.invokestatic 92, 3) := by decide +kernel
theorem dX9_chance_13 : decode cX9_chance 13 = .ok (.ifCond .eq 28, 3) := by decide +kernel
theorem dX9_chance_16 : decode cX9_chance 16 = .ok (.aload_n 0, 1) := by decide +kernel
theorem dX9_chance_17 : decode cX9_chance 17 = .ok (.iload_n 2, 1) := by decide +kernel
theorem dX9_chance_18 : decode cX9_chance 18 = .ok (.invokevirtual 158, 3) := by decide +kernel
theorem dX9_chance_21 : decode cX9_chance 21 = .ok (.ifCond .eq 20, 3) := by decide +kernel
theorem dX9_chance_24 : decode cX9_chance 24 = .ok (.iload_n 3, 1) := by decide +kernel
theorem dX9_chance_25 : decode cX9_chance 25 = .ok (.invokestatic 228, 3) := by decide +kernel
theorem dX9_chance_28 : decode cX9_chance 28 = .ok (.ifCond .eq 13, 3) := by decide +kernel
theorem dX9_chance_31 : decode cX9_chance 31 = .ok (.aload_n 0, 1) := by decide +kernel
theorem dX9_chance_32 : decode cX9_chance 32 = .ok (.iload_n 1, 1) := by decide +kernel
theorem dX9_chance_33 : decode cX9_chance 33 = .ok (.iload_n 2, 1) := by decide +kernel
theorem dX9_chance_34 : decode cX9_chance 34 = .ok (.iload_n 3, 1) := by decide +kernel
theorem dX9_chance_35 : decode cX9_chance 35 = .ok (.invokevirtual 296, 3) := by decide +kernel
theorem dX9_chance_38 : decode cX9_chance 38 = .ok (.goto 8, 3) := by decide +kernel
theorem dX9_chance_41 : decode cX9_chance 41 = .ok (.bipush (-2), 2) := by decide +kernel
theorem dX9_chance_43 : decode cX9_chance 43 = .ok (.invokestatic 300, 3) := by decide +kernel
theorem dX9_chance_46 : decode cX9_chance 46 = .ok (.lreturn, 1) := by decide +kernel
theorem dX9_lot_0 : decode cX9_lot 0 = .ok (.aload_n 0, 1) := by decide +kernel
theorem dX9_lot_1 : decode cX9_lot 1 = .ok (.ldc_w 304, 3) := by decide +kernel
theorem dX9_lot_4 : decode cX9_lot 4 = .ok (.aload_n 0, 1) := by decide +kernel
theorem dX9_lot_5 : decode cX9_lot 5 = .ok (.getfield 305, 3) := by decide +kernel
theorem dX9_lot_8 : decode cX9_lot 8 = .ok (.imul, 1) := by decide +kernel
theorem dX9_lot_9 : decode cX9_lot 9 = .ok (.sipush 12345, 3) := by decide +kernel
theorem dX9_lot_12 : decode cX9_lot 12 = .ok (.iadd, 1) := by decide +kernel
theorem dX9_lot_13 : decode cX9_lot 13 = .ok (.putfield 305, 3) := by decide +kernel
theorem dX9_lot_16 : decode cX9_lot 16 = .ok (.aload_n 0, 1) := by decide +kernel
theorem dX9_lot_17 : decode cX9_lot 17 = .ok (.getfield 305, 3) := by decide +kernel
theorem dX9_lot_20 : decode cX9_lot 20 = .ok (.bipush 16, 2) := by decide +kernel
theorem dX9_lot_22 : decode cX9_lot 22 = .ok (.iushr, 1) := by decide +kernel
theorem dX9_lot_23 : decode cX9_lot 23 = .ok (.iload_n 1, 1) := by decide +kernel
theorem dX9_lot_24 : decode cX9_lot 24 = .ok (.irem, 1) := by decide +kernel
theorem dX9_lot_25 : decode cX9_lot 25 = .ok (.ireturn, 1) := by decide +kernel
theorem dX9_yearsOf_0 : decode cX9_yearsOf 0 = .ok (.aload_n 0, 1) := by decide +kernel
theorem dX9_yearsOf_1 : decode cX9_yearsOf 1 = .ok (.iload_n 1, 1) := by decide +kernel
theorem dX9_yearsOf_2 : decode cX9_yearsOf 2 = .ok (.putfield 305, 3) := by decide +kernel
theorem dX9_yearsOf_5 : decode cX9_yearsOf 5 = .ok (.iconst 0, 1) := by decide +kernel
theorem dX9_yearsOf_6 : decode cX9_yearsOf 6 = .ok (.istore 4, 2) := by decide +kernel
theorem dX9_yearsOf_8 : decode cX9_yearsOf 8 = .ok (.iload 4, 2) := by decide +kernel
theorem dX9_yearsOf_10 : decode cX9_yearsOf 10 = .ok (.bipush 12, 2) := by decide +kernel
theorem dX9_yearsOf_12 : decode cX9_yearsOf 12 = .ok (.if_icmp .ge 31, 3) := by decide +kernel
theorem dX9_yearsOf_15 : decode cX9_yearsOf 15 = .ok (.aload_n 0, 1) := by decide +kernel
theorem dX9_yearsOf_16 : decode cX9_yearsOf 16 = .ok (.getfield 34, 3) := by decide +kernel
theorem dX9_yearsOf_19 : decode cX9_yearsOf 19 = .ok (.iload 4, 2) := by decide +kernel
theorem dX9_yearsOf_21 : decode cX9_yearsOf 21 = .ok (.iload 4, 2) := by decide +kernel
theorem dX9_yearsOf_23 : decode cX9_yearsOf 23 = .ok (.iload_n 2, 1) := by decide +kernel
theorem dX9_yearsOf_24 : decode cX9_yearsOf 24 = .ok (.if_icmp .ge 11, 3) := by decide +kernel
theorem dX9_yearsOf_27 : decode cX9_yearsOf 27 = .ok (.aload_n 0, 1) := by decide +kernel
theorem dX9_yearsOf_28 : decode cX9_yearsOf 28 = .ok (.iconst 4, 1) := by decide +kernel
theorem dX9_yearsOf_29 : decode cX9_yearsOf 29 = .ok (.invokevirtual 308, 3) := by decide +kernel
theorem dX9_yearsOf_32 : decode cX9_yearsOf 32 = .ok (.goto 4, 3) := by decide +kernel
theorem dX9_yearsOf_35 : decode cX9_yearsOf 35 = .ok (.iconst 0, 1) := by decide +kernel
theorem dX9_yearsOf_36 : decode cX9_yearsOf 36 = .ok (.iastore, 1) := by decide +kernel
theorem dX9_yearsOf_37 : decode cX9_yearsOf 37 = .ok (.iinc 4 1, 3) := by decide +kernel
theorem dX9_yearsOf_40 : decode cX9_yearsOf 40 = .ok (.goto (-32), 3) := by decide +kernel
theorem dX9_yearsOf_43 : decode cX9_yearsOf 43 = .ok (.aload_n 0, 1) := by decide +kernel
theorem dX9_yearsOf_44 : decode cX9_yearsOf 44 = .ok (.invokevirtual 217, 3) := by decide +kernel
theorem dX9_yearsOf_47 : decode cX9_yearsOf 47 = .ok (.aload_n 0, 1) := by decide +kernel
theorem dX9_yearsOf_48 : decode cX9_yearsOf 48 = .ok (.invokevirtual 150, 3) := by decide +kernel
theorem dX9_yearsOf_51 : decode cX9_yearsOf 51 = .ok (.pop, 1) := by decide +kernel
theorem dX9_yearsOf_52 : decode cX9_yearsOf 52 = .ok (.iload_n 3, 1) := by decide +kernel
theorem dX9_yearsOf_53 : decode cX9_yearsOf 53 = .ok (.ifCond .ne 10, 3) := by decide +kernel
theorem dX9_yearsOf_56 : decode cX9_yearsOf 56 = .ok (.aload_n 0, 1) := by decide +kernel
theorem dX9_yearsOf_57 : decode cX9_yearsOf 57 = .ok (.invokevirtual 242, 3) := by decide +kernel
theorem dX9_yearsOf_60 : decode cX9_yearsOf 60 = .ok (.goto 11, 3) := by decide +kernel
theorem dX9_yearsOf_63 : decode cX9_yearsOf 63 = .ok (.aload_n 0, 1) := by decide +kernel
theorem dX9_yearsOf_64 : decode cX9_yearsOf 64 = .ok (.iconst 0, 1) := by decide +kernel
theorem dX9_yearsOf_65 : decode cX9_yearsOf 65 = .ok (.invokevirtual 245, 3) := by decide +kernel
theorem dX9_yearsOf_68 : decode cX9_yearsOf 68 = .ok (.invokestatic 311, 3) := by decide +kernel
theorem dX9_yearsOf_71 : decode cX9_yearsOf 71 = .ok (.ireturn, 1) := by decide +kernel
theorem dX9_years_0 : decode cX9_years 0 = .ok (.aload_n 0, 1) := by decide +kernel
theorem dX9_years_1 : decode cX9_years 1 = .ok (.invokevirtual 220, 3) := by decide +kernel
theorem dX9_years_4 : decode cX9_years 4 = .ok (.iload_n 2, 1) := by decide +kernel
theorem dX9_years_5 : decode cX9_years 5 = .ok (.i2l, 1) := by decide +kernel
theorem dX9_years_6 : decode cX9_years 6 = .ok (.lconst 0, 1) := by decide +kernel
theorem dX9_years_7 : decode cX9_years 7 = .ok (.ldc2_w 314, 3) := by decide +kernel
theorem dX9_years_10 : decode cX9_years 10 = .ok (.invokestatic 92, 3) := by decide +kernel
theorem dX9_years_13 : decode cX9_years 13 = .ok (.ifCond .eq 20, 3) := by decide +kernel
theorem dX9_years_16 : decode cX9_years 16 = .ok (.iload_n 3, 1) := by decide +kernel
theorem dX9_years_17 : decode cX9_years 17 = .ok (.invokestatic 228, 3) := by decide +kernel
theorem dX9_years_20 : decode cX9_years 20 = .ok (.ifCond .eq 13, 3) := by decide +kernel
theorem dX9_years_23 : decode cX9_years 23 = .ok (.aload_n 0, 1) := by decide +kernel
theorem dX9_years_24 : decode cX9_years 24 = .ok (.iload_n 1, 1) := by decide +kernel
theorem dX9_years_25 : decode cX9_years 25 = .ok (.iload_n 2, 1) := by decide +kernel
theorem dX9_years_26 : decode cX9_years 26 = .ok (.iload_n 3, 1) := by decide +kernel
theorem dX9_years_27 : decode cX9_years 27 = .ok (.invokevirtual 316, 3) := by decide +kernel
theorem dX9_years_30 : decode cX9_years 30 = .ok (.goto 5, 3) := by decide +kernel
theorem dX9_years_33 : decode cX9_years 33 = .ok (.bipush (-2), 2) := by decide +kernel
theorem dX9_years_35 : decode cX9_years 35 = .ok (.ireturn, 1) := by decide +kernel
theorem dX9_write_0 : decode cX9_write 0 = .ok (.aload_n 0, 1) := by decide +kernel
theorem dX9_write_1 : decode cX9_write 1 = .ok (.invokevirtual 220, 3) := by decide +kernel
theorem dX9_write_4 : decode cX9_write 4 = .ok (.aload_n 0, 1) := by decide +kernel
theorem dX9_write_5 : decode cX9_write 5 = .ok (.iload_n 1, 1) := by decide +kernel
theorem dX9_write_6 : decode cX9_write 6 = .ok (.invokevirtual 158, 3) := by decide +kernel
theorem dX9_write_9 : decode cX9_write 9 = .ok (.ifCond .eq 10, 3) := by decide +kernel
theorem dX9_write_12 : decode cX9_write 12 = .ok (.iload_n 2, 1) := by decide +kernel
theorem dX9_write_13 : decode cX9_write 13 = .ok (.invokestatic 101, 3) := by decide +kernel
theorem dX9_write_16 : decode cX9_write 16 = .ok (.ifCond .ne 6, 3) := by decide +kernel
theorem dX9_write_19 : decode cX9_write 19 = .ok (.bipush (-2), 2) := by decide +kernel
theorem dX9_write_21 : decode cX9_write 21 = .ok (.ireturn, 1) := by decide +kernel
theorem dX9_write_22 : decode cX9_write 22 = .ok (.aload_n 0, 1) := by decide +kernel
theorem dX9_write_23 : decode cX9_write 23 = .ok (.getfield 7, 3) := by decide +kernel
theorem dX9_write_26 : decode cX9_write 26 = .ok (.iload_n 2, 1) := by decide +kernel
theorem dX9_write_27 : decode cX9_write 27 = .ok (.iaload, 1) := by decide +kernel
theorem dX9_write_28 : decode cX9_write 28 = .ok (.ifCond .ge 9, 3) := by decide +kernel
theorem dX9_write_31 : decode cX9_write 31 = .ok (.aload_n 0, 1) := by decide +kernel
theorem dX9_write_32 : decode cX9_write 32 = .ok (.iconst 1, 1) := by decide +kernel
theorem dX9_write_33 : decode cX9_write 33 = .ok (.invokevirtual 107, 3) := by decide +kernel
theorem dX9_write_36 : decode cX9_write 36 = .ok (.ireturn, 1) := by decide +kernel
theorem dX9_write_37 : decode cX9_write 37 = .ok (.aload_n 0, 1) := by decide +kernel
theorem dX9_write_38 : decode cX9_write 38 = .ok (.getfield 13, 3) := by decide +kernel
theorem dX9_write_41 : decode cX9_write 41 = .ok (.iload_n 2, 1) := by decide +kernel
theorem dX9_write_42 : decode cX9_write 42 = .ok (.iaload, 1) := by decide +kernel
theorem dX9_write_43 : decode cX9_write 43 = .ok (.bipush 12, 2) := by decide +kernel
theorem dX9_write_45 : decode cX9_write 45 = .ok (.invokestatic 174, 3) := by decide +kernel
theorem dX9_write_48 : decode cX9_write 48 = .ok (.istore_n 3, 1) := by decide +kernel
theorem dX9_write_49 : decode cX9_write 49 = .ok (.iconst 0, 1) := by decide +kernel
theorem dX9_write_50 : decode cX9_write 50 = .ok (.istore 4, 2) := by decide +kernel
theorem dX9_write_52 : decode cX9_write 52 = .ok (.iload 4, 2) := by decide +kernel
theorem dX9_write_54 : decode cX9_write 54 = .ok (.iload_n 3, 1) := by decide +kernel
theorem dX9_write_55 : decode cX9_write 55 = .ok (.if_icmp .ge 42, 3) := by decide +kernel
theorem dX9_write_58 : decode cX9_write 58 = .ok (.aload_n 0, 1) := by decide +kernel
theorem dX9_write_59 : decode cX9_write 59 = .ok (.getfield 16, 3) := by decide +kernel
theorem dX9_write_62 : decode cX9_write 62 = .ok (.bipush 60, 2) := by decide +kernel
theorem dX9_write_64 : decode cX9_write 64 = .ok (.iload_n 2, 1) := by decide +kernel
theorem dX9_write_65 : decode cX9_write 65 = .ok (.imul, 1) := by decide +kernel
theorem dX9_write_66 : decode cX9_write 66 = .ok (.iload 4, 2) := by decide +kernel
theorem dX9_write_68 : decode cX9_write 68 = .ok (.iadd, 1) := by decide +kernel
theorem dX9_write_69 : decode cX9_write 69 = .ok (.aload_n 0, 1) := by decide +kernel
theorem dX9_write_70 : decode cX9_write 70 = .ok (.getfield 7, 3) := by decide +kernel
theorem dX9_write_73 : decode cX9_write 73 = .ok (.iload_n 2, 1) := by decide +kernel
theorem dX9_write_74 : decode cX9_write 74 = .ok (.iaload, 1) := by decide +kernel
theorem dX9_write_75 : decode cX9_write 75 = .ok (.aload_n 0, 1) := by decide +kernel
theorem dX9_write_76 : decode cX9_write 76 = .ok (.getfield 62, 3) := by decide +kernel
theorem dX9_write_79 : decode cX9_write 79 = .ok (.bipush 10, 2) := by decide +kernel
theorem dX9_write_81 : decode cX9_write 81 = .ok (.iload 4, 2) := by decide +kernel
theorem dX9_write_83 : decode cX9_write 83 = .ok (.imul, 1) := by decide +kernel
theorem dX9_write_84 : decode cX9_write 84 = .ok (.iload_n 1, 1) := by decide +kernel
theorem dX9_write_85 : decode cX9_write 85 = .ok (.iadd, 1) := by decide +kernel
theorem dX9_write_86 : decode cX9_write 86 = .ok (.iaload, 1) := by decide +kernel
theorem dX9_write_87 : decode cX9_write 87 = .ok (.invokestatic 115, 3) := by decide +kernel
theorem dX9_write_90 : decode cX9_write 90 = .ok (.iastore, 1) := by decide +kernel
theorem dX9_write_91 : decode cX9_write 91 = .ok (.iinc 4 1, 3) := by decide +kernel
theorem dX9_write_94 : decode cX9_write 94 = .ok (.goto (-42), 3) := by decide +kernel
theorem dX9_write_97 : decode cX9_write 97 = .ok (.iload_n 3, 1) := by decide +kernel
theorem dX9_write_98 : decode cX9_write 98 = .ok (.ireturn, 1) := by decide +kernel
theorem dX9_count_0 : decode cX9_count 0 = .ok (.aload_n 0, 1) := by decide +kernel
theorem dX9_count_1 : decode cX9_count 1 = .ok (.invokevirtual 220, 3) := by decide +kernel
theorem dX9_count_4 : decode cX9_count 4 = .ok (.iload_n 1, 1) := by decide +kernel
theorem dX9_count_5 : decode cX9_count 5 = .ok (.tableswitch 90 0 8 #[51, 56, 61, 66, 66, 66, 75, 80, 85], 51) := by decide +kernel
theorem dX9_count_56 : decode cX9_count 56 = .ok (.aload_n 0, 1) := by decide +kernel
theorem dX9_count_57 : decode cX9_count 57 = .ok (.getfield 128, 3) := by decide +kernel
theorem dX9_count_60 : decode cX9_count 60 = .ok (.ireturn, 1) := by decide +kernel
theorem dX9_count_61 : decode cX9_count 61 = .ok (.aload_n 0, 1) := by decide +kernel
theorem dX9_count_62 : decode cX9_count 62 = .ok (.getfield 134, 3) := by decide +kernel
theorem dX9_count_65 : decode cX9_count 65 = .ok (.ireturn, 1) := by decide +kernel
theorem dX9_count_66 : decode cX9_count 66 = .ok (.aload_n 0, 1) := by decide +kernel
theorem dX9_count_67 : decode cX9_count 67 = .ok (.getfield 137, 3) := by decide +kernel
theorem dX9_count_70 : decode cX9_count 70 = .ok (.ireturn, 1) := by decide +kernel
theorem dX9_count_71 : decode cX9_count 71 = .ok (.aload_n 0, 1) := by decide +kernel
theorem dX9_count_72 : decode cX9_count 72 = .ok (.getfield 25, 3) := by decide +kernel
theorem dX9_count_75 : decode cX9_count 75 = .ok (.iload_n 1, 1) := by decide +kernel
theorem dX9_count_76 : decode cX9_count 76 = .ok (.iconst 3, 1) := by decide +kernel
theorem dX9_count_77 : decode cX9_count 77 = .ok (.isub, 1) := by decide +kernel
theorem dX9_count_78 : decode cX9_count 78 = .ok (.iaload, 1) := by decide +kernel
theorem dX9_count_79 : decode cX9_count 79 = .ok (.ireturn, 1) := by decide +kernel
theorem dX9_count_80 : decode cX9_count 80 = .ok (.aload_n 0, 1) := by decide +kernel
theorem dX9_count_81 : decode cX9_count 81 = .ok (.getfield 169, 3) := by decide +kernel
theorem dX9_count_84 : decode cX9_count 84 = .ok (.ireturn, 1) := by decide +kernel
theorem dX9_count_85 : decode cX9_count 85 = .ok (.aload_n 0, 1) := by decide +kernel
theorem dX9_count_86 : decode cX9_count 86 = .ok (.getfield 265, 3) := by decide +kernel
theorem dX9_count_89 : decode cX9_count 89 = .ok (.ireturn, 1) := by decide +kernel
theorem dX9_count_90 : decode cX9_count 90 = .ok (.aload_n 0, 1) := by decide +kernel
theorem dX9_count_91 : decode cX9_count 91 = .ok (.getfield 96, 3) := by decide +kernel
theorem dX9_count_94 : decode cX9_count 94 = .ok (.ireturn, 1) := by decide +kernel
theorem dX9_count_95 : decode cX9_count 95 = .ok (.bipush (-2), 2) := by decide +kernel
theorem dX9_count_97 : decode cX9_count 97 = .ok (.ireturn, 1) := by decide +kernel
theorem dX9_tellsWeek_0 : decode cX9_tellsWeek 0 = .ok (.lload_n 1, 1) := by decide +kernel
theorem dX9_tellsWeek_1 : decode cX9_tellsWeek 1 = .ok (.lstore 5, 2) := by decide +kernel
theorem dX9_tellsWeek_3 : decode cX9_tellsWeek 3 = .ok (.iconst 0, 1) := by decide +kernel
theorem dX9_tellsWeek_4 : decode cX9_tellsWeek 4 = .ok (.istore 7, 2) := by decide +kernel
theorem dX9_tellsWeek_6 : decode cX9_tellsWeek 6 = .ok (.iload 7, 2) := by decide +kernel
theorem dX9_tellsWeek_8 : decode cX9_tellsWeek 8 = .ok (.iconst 5, 1) := by decide +kernel
theorem dX9_tellsWeek_9 : decode cX9_tellsWeek 9 = .ok (.if_icmp .ge 28, 3) := by decide +kernel
theorem dX9_tellsWeek_12 : decode cX9_tellsWeek 12 = .ok (.ldc2_w 319, 3) := by decide +kernel
theorem dX9_tellsWeek_15 : decode cX9_tellsWeek 15 = .ok (.lload 5, 2) := by decide +kernel
theorem dX9_tellsWeek_17 : decode cX9_tellsWeek 17 = .ok (.lmul, 1) := by decide +kernel
theorem dX9_tellsWeek_18 : decode cX9_tellsWeek 18 = .ok (.aload_n 0, 1) := by decide +kernel
theorem dX9_tellsWeek_19 : decode cX9_tellsWeek 19 = .ok (.iload_n 3, 1) := by decide +kernel
theorem dX9_tellsWeek_20 : decode cX9_tellsWeek 20 = .ok (.iload 4, 2) := by decide +kernel
theorem dX9_tellsWeek_22 : decode cX9_tellsWeek 22 = .ok (.iload 7, 2) := by decide +kernel
theorem dX9_tellsWeek_24 : decode cX9_tellsWeek 24 = .ok (.invokevirtual 225, 3) := by decide +kernel
theorem dX9_tellsWeek_27 : decode cX9_tellsWeek 27 = .ok (.i2l, 1) := by decide +kernel
theorem dX9_tellsWeek_28 : decode cX9_tellsWeek 28 = .ok (.ladd, 1) := by decide +kernel
theorem dX9_tellsWeek_29 : decode cX9_tellsWeek 29 = .ok (.lstore 5, 2) := by decide +kernel
theorem dX9_tellsWeek_31 : decode cX9_tellsWeek 31 = .ok (.iinc 7 1, 3) := by decide +kernel
theorem dX9_tellsWeek_34 : decode cX9_tellsWeek 34 = .ok (.goto (-28), 3) := by decide +kernel
theorem dX9_tellsWeek_37 : decode cX9_tellsWeek 37 = .ok (.lload 5, 2) := by decide +kernel
theorem dX9_tellsWeek_39 : decode cX9_tellsWeek 39 = .ok (.lreturn, 1) := by decide +kernel
theorem dX9_tellsThing_0 : decode cX9_tellsThing 0 = .ok (.aload_n 0, 1) := by decide +kernel
theorem dX9_tellsThing_1 : decode cX9_tellsThing 1 = .ok (.invokevirtual 217, 3) := by decide +kernel
theorem dX9_tellsThing_4 : decode cX9_tellsThing 4 = .ok (.lload_n 1, 1) := by decide +kernel
theorem dX9_tellsThing_5 : decode cX9_tellsThing 5 = .ok (.lstore 4, 2) := by decide +kernel
theorem dX9_tellsThing_7 : decode cX9_tellsThing 7 = .ok (.iconst 0, 1) := by decide +kernel
theorem dX9_tellsThing_8 : decode cX9_tellsThing 8 = .ok (.istore 6, 2) := by decide +kernel
theorem dX9_tellsThing_10 : decode cX9_tellsThing 10 = .ok (.iload 6, 2) := by decide +kernel
theorem dX9_tellsThing_12 : decode cX9_tellsThing 12 = .ok (.iconst 3, 1) := by decide +kernel
theorem dX9_tellsThing_13 : decode cX9_tellsThing 13 = .ok (.if_icmp .ge 30, 3) := by decide +kernel
theorem dX9_tellsThing_16 : decode cX9_tellsThing 16 = .ok (.ldc2_w 319, 3) := by decide +kernel
theorem dX9_tellsThing_19 : decode cX9_tellsThing 19 = .ok (.lload 4, 2) := by decide +kernel
theorem dX9_tellsThing_21 : decode cX9_tellsThing 21 = .ok (.lmul, 1) := by decide +kernel
theorem dX9_tellsThing_22 : decode cX9_tellsThing 22 = .ok (.aload_n 0, 1) := by decide +kernel
theorem dX9_tellsThing_23 : decode cX9_tellsThing 23 = .ok (.getfield 28, 3) := by decide +kernel
theorem dX9_tellsThing_26 : decode cX9_tellsThing 26 = .ok (.iconst 3, 1) := by decide +kernel
theorem dX9_tellsThing_27 : decode cX9_tellsThing 27 = .ok (.iload_n 3, 1) := by decide +kernel
theorem dX9_tellsThing_28 : decode cX9_tellsThing 28 = .ok (.imul, 1) := by decide +kernel
theorem dX9_tellsThing_29 : decode cX9_tellsThing 29 = .ok (.iload 6, 2) := by decide +kernel
theorem dX9_tellsThing_31 : decode cX9_tellsThing 31 = .ok (.iadd, 1) := by decide +kernel
theorem dX9_tellsThing_32 : decode cX9_tellsThing 32 = .ok (.iaload, 1) := by decide +kernel
theorem dX9_tellsThing_33 : decode cX9_tellsThing 33 = .ok (.i2l, 1) := by decide +kernel
theorem dX9_tellsThing_34 : decode cX9_tellsThing 34 = .ok (.ladd, 1) := by decide +kernel
theorem dX9_tellsThing_35 : decode cX9_tellsThing 35 = .ok (.lstore 4, 2) := by decide +kernel
theorem dX9_tellsThing_37 : decode cX9_tellsThing 37 = .ok (.iinc 6 1, 3) := by decide +kernel
theorem dX9_tellsThing_40 : decode cX9_tellsThing 40 = .ok (.goto (-30), 3) := by decide +kernel
theorem dX9_tellsThing_43 : decode cX9_tellsThing 43 = .ok (.aload_n 0, 1) := by decide +kernel
theorem dX9_tellsThing_44 : decode cX9_tellsThing 44 = .ok (.aload_n 0, 1) := by decide +kernel
theorem dX9_tellsThing_45 : decode cX9_tellsThing 45 = .ok (.aload_n 0, 1) := by decide +kernel
theorem dX9_tellsThing_46 : decode cX9_tellsThing 46 = .ok (.aload_n 0, 1) := by decide +kernel
theorem dX9_tellsThing_47 : decode cX9_tellsThing 47 = .ok (.lload 4, 2) := by decide +kernel
theorem dX9_tellsThing_49 : decode cX9_tellsThing 49 = .ok (.iconst 0, 1) := by decide +kernel
theorem dX9_tellsThing_50 : decode cX9_tellsThing 50 = .ok (.iload_n 3, 1) := by decide +kernel
theorem dX9_tellsThing_51 : decode cX9_tellsThing 51 = .ok (.invokevirtual 321, 3) := by decide +kernel
theorem dX9_tellsThing_54 : decode cX9_tellsThing 54 = .ok (.iconst 4, 1) := by decide +kernel
theorem dX9_tellsThing_55 : decode cX9_tellsThing 55 = .ok (.iload_n 3, 1) := by decide +kernel
theorem dX9_tellsThing_56 : decode cX9_tellsThing 56 = .ok (.invokevirtual 321, 3) := by decide +kernel
theorem dX9_tellsThing_59 : decode cX9_tellsThing 59 = .ok (.bipush 8, 2) := by decide +kernel
theorem dX9_tellsThing_61 : decode cX9_tellsThing 61 = .ok (.iload_n 3, 1) := by decide +kernel
theorem dX9_tellsThing_62 : decode cX9_tellsThing 62 = .ok (.invokevirtual 321, 3) := by decide +kernel
theorem dX9_tellsThing_65 : decode cX9_tellsThing 65 = .ok (.bipush 11, 2) := by decide +kernel
theorem dX9_tellsThing_67 : decode cX9_tellsThing 67 = .ok (.iload_n 3, 1) := by decide +kernel
theorem dX9_tellsThing_68 : decode cX9_tellsThing 68 = .ok (.invokevirtual 321, 3) := by decide +kernel
theorem dX9_tellsThing_71 : decode cX9_tellsThing 71 = .ok (.lstore 4, 2) := by decide +kernel
theorem dX9_tellsThing_73 : decode cX9_tellsThing 73 = .ok (.ldc2_w 319, 3) := by decide +kernel
theorem dX9_tellsThing_76 : decode cX9_tellsThing 76 = .ok (.lload 4, 2) := by decide +kernel
theorem dX9_tellsThing_78 : decode cX9_tellsThing 78 = .ok (.lmul, 1) := by decide +kernel
theorem dX9_tellsThing_79 : decode cX9_tellsThing 79 = .ok (.aload_n 0, 1) := by decide +kernel
theorem dX9_tellsThing_80 : decode cX9_tellsThing 80 = .ok (.iload_n 3, 1) := by decide +kernel
theorem dX9_tellsThing_81 : decode cX9_tellsThing 81 = .ok (.iconst 0, 1) := by decide +kernel
theorem dX9_tellsThing_82 : decode cX9_tellsThing 82 = .ok (.invokevirtual 248, 3) := by decide +kernel
theorem dX9_tellsThing_85 : decode cX9_tellsThing 85 = .ok (.i2l, 1) := by decide +kernel
theorem dX9_tellsThing_86 : decode cX9_tellsThing 86 = .ok (.ladd, 1) := by decide +kernel
theorem dX9_tellsThing_87 : decode cX9_tellsThing 87 = .ok (.lstore 4, 2) := by decide +kernel
theorem dX9_tellsThing_89 : decode cX9_tellsThing 89 = .ok (.ldc2_w 319, 3) := by decide +kernel
theorem dX9_tellsThing_92 : decode cX9_tellsThing 92 = .ok (.lload 4, 2) := by decide +kernel
theorem dX9_tellsThing_94 : decode cX9_tellsThing 94 = .ok (.lmul, 1) := by decide +kernel
theorem dX9_tellsThing_95 : decode cX9_tellsThing 95 = .ok (.aload_n 0, 1) := by decide +kernel
theorem dX9_tellsThing_96 : decode cX9_tellsThing 96 = .ok (.iload_n 3, 1) := by decide +kernel
theorem dX9_tellsThing_97 : decode cX9_tellsThing 97 = .ok (.iconst 1, 1) := by decide +kernel
theorem dX9_tellsThing_98 : decode cX9_tellsThing 98 = .ok (.invokevirtual 248, 3) := by decide +kernel
theorem dX9_tellsThing_101 : decode cX9_tellsThing 101 = .ok (.i2l, 1) := by decide +kernel
theorem dX9_tellsThing_102 : decode cX9_tellsThing 102 = .ok (.ladd, 1) := by decide +kernel
theorem dX9_tellsThing_103 : decode cX9_tellsThing 103 = .ok (.lstore 4, 2) := by decide +kernel
theorem dX9_tellsThing_105 : decode cX9_tellsThing 105 = .ok (.ldc2_w 319, 3) := by decide +kernel
theorem dX9_tellsThing_108 : decode cX9_tellsThing 108 = .ok (.lload 4, 2) := by decide +kernel
theorem dX9_tellsThing_110 : decode cX9_tellsThing 110 = .ok (.lmul, 1) := by decide +kernel
theorem dX9_tellsThing_111 : decode cX9_tellsThing 111 = .ok (.aload_n 0, 1) := by decide +kernel
theorem dX9_tellsThing_112 : decode cX9_tellsThing 112 = .ok (.iload_n 3, 1) := by decide +kernel
theorem dX9_tellsThing_113 : decode cX9_tellsThing 113 = .ok (.iconst 0, 1) := by decide +kernel
theorem dX9_tellsThing_114 : decode cX9_tellsThing 114 = .ok (.invokevirtual 251, 3) := by decide +kernel
theorem dX9_tellsThing_117 : decode cX9_tellsThing 117 = .ok (.i2l, 1) := by decide +kernel
theorem dX9_tellsThing_118 : decode cX9_tellsThing 118 = .ok (.ladd, 1) := by decide +kernel
theorem dX9_tellsThing_119 : decode cX9_tellsThing 119 = .ok (.lstore 4, 2) := by decide +kernel
theorem dX9_tellsThing_121 : decode cX9_tellsThing 121 = .ok (.ldc2_w 319, 3) := by decide +kernel
theorem dX9_tellsThing_124 : decode cX9_tellsThing 124 = .ok (.lload 4, 2) := by decide +kernel
theorem dX9_tellsThing_126 : decode cX9_tellsThing 126 = .ok (.lmul, 1) := by decide +kernel
theorem dX9_tellsThing_127 : decode cX9_tellsThing 127 = .ok (.aload_n 0, 1) := by decide +kernel
theorem dX9_tellsThing_128 : decode cX9_tellsThing 128 = .ok (.iload_n 3, 1) := by decide +kernel
theorem dX9_tellsThing_129 : decode cX9_tellsThing 129 = .ok (.iconst 1, 1) := by decide +kernel
theorem dX9_tellsThing_130 : decode cX9_tellsThing 130 = .ok (.invokevirtual 251, 3) := by decide +kernel
theorem dX9_tellsThing_133 : decode cX9_tellsThing 133 = .ok (.i2l, 1) := by decide +kernel
theorem dX9_tellsThing_134 : decode cX9_tellsThing 134 = .ok (.ladd, 1) := by decide +kernel
theorem dX9_tellsThing_135 : decode cX9_tellsThing 135 = .ok (.lstore 4, 2) := by decide +kernel
theorem dX9_tellsThing_137 : decode cX9_tellsThing 137 = .ok (.ldc2_w 319, 3) := by decide +kernel
theorem dX9_tellsThing_140 : decode cX9_tellsThing 140 = .ok (.lload 4, 2) := by decide +kernel
theorem dX9_tellsThing_142 : decode cX9_tellsThing 142 = .ok (.lmul, 1) := by decide +kernel
theorem dX9_tellsThing_143 : decode cX9_tellsThing 143 = .ok (.aload_n 0, 1) := by decide +kernel
theorem dX9_tellsThing_144 : decode cX9_tellsThing 144 = .ok (.iload_n 3, 1) := by decide +kernel
theorem dX9_tellsThing_145 : decode cX9_tellsThing 145 = .ok (.invokevirtual 278, 3) := by decide +kernel
theorem dX9_tellsThing_148 : decode cX9_tellsThing 148 = .ok (.i2l, 1) := by decide +kernel
theorem dX9_tellsThing_149 : decode cX9_tellsThing 149 = .ok (.ladd, 1) := by decide +kernel
theorem dX9_tellsThing_150 : decode cX9_tellsThing 150 = .ok (.lstore 4, 2) := by decide +kernel
theorem dX9_tellsThing_152 : decode cX9_tellsThing 152 = .ok (.ldc2_w 319, 3) := by decide +kernel
theorem dX9_tellsThing_155 : decode cX9_tellsThing 155 = .ok (.lload 4, 2) := by decide +kernel
theorem dX9_tellsThing_157 : decode cX9_tellsThing 157 = .ok (.lmul, 1) := by decide +kernel
theorem dX9_tellsThing_158 : decode cX9_tellsThing 158 = .ok (.aload_n 0, 1) := by decide +kernel
theorem dX9_tellsThing_159 : decode cX9_tellsThing 159 = .ok (.iload_n 3, 1) := by decide +kernel
theorem dX9_tellsThing_160 : decode cX9_tellsThing 160 = .ok (.invokevirtual 287, 3) := by decide +kernel
theorem dX9_tellsThing_163 : decode cX9_tellsThing 163 = .ok (.i2l, 1) := by decide +kernel
theorem dX9_tellsThing_164 : decode cX9_tellsThing 164 = .ok (.ladd, 1) := by decide +kernel
theorem dX9_tellsThing_165 : decode cX9_tellsThing 165 = .ok (.lstore 4, 2) := by decide +kernel
theorem dX9_tellsThing_167 : decode cX9_tellsThing 167 = .ok (.ldc2_w 319, 3) := by decide +kernel
theorem dX9_tellsThing_170 : decode cX9_tellsThing 170 = .ok (.lload 4, 2) := by decide +kernel
theorem dX9_tellsThing_172 : decode cX9_tellsThing 172 = .ok (.lmul, 1) := by decide +kernel
theorem dX9_tellsThing_173 : decode cX9_tellsThing 173 = .ok (.aload_n 0, 1) := by decide +kernel
theorem dX9_tellsThing_174 : decode cX9_tellsThing 174 = .ok (.iconst 5, 1) := by decide +kernel
theorem dX9_tellsThing_175 : decode cX9_tellsThing 175 = .ok (.iload_n 3, 1) := by decide +kernel
theorem dX9_tellsThing_176 : decode cX9_tellsThing 176 = .ok (.iconst 0, 1) := by decide +kernel
theorem dX9_tellsThing_177 : decode cX9_tellsThing 177 = .ok (.invokevirtual 296, 3) := by decide +kernel
theorem dX9_tellsThing_180 : decode cX9_tellsThing 180 = .ok (.ladd, 1) := by decide +kernel
theorem dX9_tellsThing_181 : decode cX9_tellsThing 181 = .ok (.lstore 4, 2) := by decide +kernel
theorem dX9_tellsThing_183 : decode cX9_tellsThing 183 = .ok (.ldc2_w 319, 3) := by decide +kernel
theorem dX9_tellsThing_186 : decode cX9_tellsThing 186 = .ok (.lload 4, 2) := by decide +kernel
theorem dX9_tellsThing_188 : decode cX9_tellsThing 188 = .ok (.lmul, 1) := by decide +kernel
theorem dX9_tellsThing_189 : decode cX9_tellsThing 189 = .ok (.aload_n 0, 1) := by decide +kernel
theorem dX9_tellsThing_190 : decode cX9_tellsThing 190 = .ok (.iconst 5, 1) := by decide +kernel
theorem dX9_tellsThing_191 : decode cX9_tellsThing 191 = .ok (.iload_n 3, 1) := by decide +kernel
theorem dX9_tellsThing_192 : decode cX9_tellsThing 192 = .ok (.iconst 1, 1) := by decide +kernel
theorem dX9_tellsThing_193 : decode cX9_tellsThing 193 = .ok (.invokevirtual 296, 3) := by decide +kernel
theorem dX9_tellsThing_196 : decode cX9_tellsThing 196 = .ok (.ladd, 1) := by decide +kernel
theorem dX9_tellsThing_197 : decode cX9_tellsThing 197 = .ok (.lreturn, 1) := by decide +kernel
theorem dX9_tellsOwner_0 : decode cX9_tellsOwner 0 = .ok (.aload_n 0, 1) := by decide +kernel
theorem dX9_tellsOwner_1 : decode cX9_tellsOwner 1 = .ok (.invokevirtual 217, 3) := by decide +kernel
theorem dX9_tellsOwner_4 : decode cX9_tellsOwner 4 = .ok (.ldc2_w 319, 3) := by decide +kernel
theorem dX9_tellsOwner_7 : decode cX9_tellsOwner 7 = .ok (.lload_n 1, 1) := by decide +kernel
theorem dX9_tellsOwner_8 : decode cX9_tellsOwner 8 = .ok (.lmul, 1) := by decide +kernel
theorem dX9_tellsOwner_9 : decode cX9_tellsOwner 9 = .ok (.aload_n 0, 1) := by decide +kernel
theorem dX9_tellsOwner_10 : decode cX9_tellsOwner 10 = .ok (.iload_n 3, 1) := by decide +kernel
theorem dX9_tellsOwner_11 : decode cX9_tellsOwner 11 = .ok (.invokevirtual 236, 3) := by decide +kernel
theorem dX9_tellsOwner_14 : decode cX9_tellsOwner 14 = .ok (.i2l, 1) := by decide +kernel
theorem dX9_tellsOwner_15 : decode cX9_tellsOwner 15 = .ok (.ladd, 1) := by decide +kernel
theorem dX9_tellsOwner_16 : decode cX9_tellsOwner 16 = .ok (.lstore 4, 2) := by decide +kernel
theorem dX9_tellsOwner_18 : decode cX9_tellsOwner 18 = .ok (.ldc2_w 319, 3) := by decide +kernel
theorem dX9_tellsOwner_21 : decode cX9_tellsOwner 21 = .ok (.lload 4, 2) := by decide +kernel
theorem dX9_tellsOwner_23 : decode cX9_tellsOwner 23 = .ok (.lmul, 1) := by decide +kernel
theorem dX9_tellsOwner_24 : decode cX9_tellsOwner 24 = .ok (.aload_n 0, 1) := by decide +kernel
theorem dX9_tellsOwner_25 : decode cX9_tellsOwner 25 = .ok (.bipush 6, 2) := by decide +kernel
theorem dX9_tellsOwner_27 : decode cX9_tellsOwner 27 = .ok (.iload_n 3, 1) := by decide +kernel
theorem dX9_tellsOwner_28 : decode cX9_tellsOwner 28 = .ok (.iconst 0, 1) := by decide +kernel
theorem dX9_tellsOwner_29 : decode cX9_tellsOwner 29 = .ok (.invokevirtual 254, 3) := by decide +kernel
theorem dX9_tellsOwner_32 : decode cX9_tellsOwner 32 = .ok (.i2l, 1) := by decide +kernel
theorem dX9_tellsOwner_33 : decode cX9_tellsOwner 33 = .ok (.ladd, 1) := by decide +kernel
theorem dX9_tellsOwner_34 : decode cX9_tellsOwner 34 = .ok (.lstore 4, 2) := by decide +kernel
theorem dX9_tellsOwner_36 : decode cX9_tellsOwner 36 = .ok (.ldc2_w 319, 3) := by decide +kernel
theorem dX9_tellsOwner_39 : decode cX9_tellsOwner 39 = .ok (.lload 4, 2) := by decide +kernel
theorem dX9_tellsOwner_41 : decode cX9_tellsOwner 41 = .ok (.lmul, 1) := by decide +kernel
theorem dX9_tellsOwner_42 : decode cX9_tellsOwner 42 = .ok (.aload_n 0, 1) := by decide +kernel
theorem dX9_tellsOwner_43 : decode cX9_tellsOwner 43 = .ok (.bipush 6, 2) := by decide +kernel
theorem dX9_tellsOwner_45 : decode cX9_tellsOwner 45 = .ok (.iload_n 3, 1) := by decide +kernel
theorem dX9_tellsOwner_46 : decode cX9_tellsOwner 46 = .ok (.iconst 1, 1) := by decide +kernel
theorem dX9_tellsOwner_47 : decode cX9_tellsOwner 47 = .ok (.invokevirtual 254, 3) := by decide +kernel
theorem dX9_tellsOwner_50 : decode cX9_tellsOwner 50 = .ok (.i2l, 1) := by decide +kernel
theorem dX9_tellsOwner_51 : decode cX9_tellsOwner 51 = .ok (.ladd, 1) := by decide +kernel
theorem dX9_tellsOwner_52 : decode cX9_tellsOwner 52 = .ok (.lreturn, 1) := by decide +kernel
theorem dX9_digest_0 : decode cX9_digest 0 = .ok (.ldc2_w 325, 3) := by decide +kernel
theorem dX9_digest_3 : decode cX9_digest 3 = .ok (.lstore_n 1, 1) := by decide +kernel
theorem dX9_digest_4 : decode cX9_digest 4 = .ok (.iconst 0, 1) := by decide +kernel
theorem dX9_digest_5 : decode cX9_digest 5 = .ok (.istore_n 3, 1) := by decide +kernel
theorem dX9_digest_6 : decode cX9_digest 6 = .ok (.iload_n 3, 1) := by decide +kernel
theorem dX9_digest_7 : decode cX9_digest 7 = .ok (.bipush 8, 2) := by decide +kernel
theorem dX9_digest_9 : decode cX9_digest 9 = .ok (.if_icmp .ge 22, 3) := by decide +kernel
theorem dX9_digest_12 : decode cX9_digest 12 = .ok (.ldc2_w 319, 3) := by decide +kernel
theorem dX9_digest_15 : decode cX9_digest 15 = .ok (.lload_n 1, 1) := by decide +kernel
theorem dX9_digest_16 : decode cX9_digest 16 = .ok (.lmul, 1) := by decide +kernel
theorem dX9_digest_17 : decode cX9_digest 17 = .ok (.aload_n 0, 1) := by decide +kernel
theorem dX9_digest_18 : decode cX9_digest 18 = .ok (.iload_n 3, 1) := by decide +kernel
theorem dX9_digest_19 : decode cX9_digest 19 = .ok (.invokevirtual 327, 3) := by decide +kernel
theorem dX9_digest_22 : decode cX9_digest 22 = .ok (.i2l, 1) := by decide +kernel
theorem dX9_digest_23 : decode cX9_digest 23 = .ok (.ladd, 1) := by decide +kernel
theorem dX9_digest_24 : decode cX9_digest 24 = .ok (.lstore_n 1, 1) := by decide +kernel
theorem dX9_digest_25 : decode cX9_digest 25 = .ok (.iinc 3 1, 3) := by decide +kernel
theorem dX9_digest_28 : decode cX9_digest 28 = .ok (.goto (-22), 3) := by decide +kernel
theorem dX9_digest_31 : decode cX9_digest 31 = .ok (.iconst 0, 1) := by decide +kernel
theorem dX9_digest_32 : decode cX9_digest 32 = .ok (.istore_n 3, 1) := by decide +kernel
theorem dX9_digest_33 : decode cX9_digest 33 = .ok (.iload_n 3, 1) := by decide +kernel
theorem dX9_digest_34 : decode cX9_digest 34 = .ok (.iconst 3, 1) := by decide +kernel
theorem dX9_digest_35 : decode cX9_digest 35 = .ok (.if_icmp .ge 22, 3) := by decide +kernel
theorem dX9_digest_38 : decode cX9_digest 38 = .ok (.ldc2_w 319, 3) := by decide +kernel
theorem dX9_digest_41 : decode cX9_digest 41 = .ok (.lload_n 1, 1) := by decide +kernel
theorem dX9_digest_42 : decode cX9_digest 42 = .ok (.lmul, 1) := by decide +kernel
theorem dX9_digest_43 : decode cX9_digest 43 = .ok (.aload_n 0, 1) := by decide +kernel
theorem dX9_digest_44 : decode cX9_digest 44 = .ok (.iload_n 3, 1) := by decide +kernel
theorem dX9_digest_45 : decode cX9_digest 45 = .ok (.invokevirtual 153, 3) := by decide +kernel
theorem dX9_digest_48 : decode cX9_digest 48 = .ok (.i2l, 1) := by decide +kernel
theorem dX9_digest_49 : decode cX9_digest 49 = .ok (.ladd, 1) := by decide +kernel
theorem dX9_digest_50 : decode cX9_digest 50 = .ok (.lstore_n 1, 1) := by decide +kernel
theorem dX9_digest_51 : decode cX9_digest 51 = .ok (.iinc 3 1, 3) := by decide +kernel
theorem dX9_digest_54 : decode cX9_digest 54 = .ok (.goto (-21), 3) := by decide +kernel
theorem dX9_digest_57 : decode cX9_digest 57 = .ok (.aload_n 0, 1) := by decide +kernel
theorem dX9_digest_58 : decode cX9_digest 58 = .ok (.invokevirtual 217, 3) := by decide +kernel
theorem dX9_digest_61 : decode cX9_digest 61 = .ok (.iconst 0, 1) := by decide +kernel
theorem dX9_digest_62 : decode cX9_digest 62 = .ok (.istore_n 3, 1) := by decide +kernel
theorem dX9_digest_63 : decode cX9_digest 63 = .ok (.iload_n 3, 1) := by decide +kernel
theorem dX9_digest_64 : decode cX9_digest 64 = .ok (.bipush 12, 2) := by decide +kernel
theorem dX9_digest_66 : decode cX9_digest 66 = .ok (.if_icmp .ge 71, 3) := by decide +kernel
theorem dX9_digest_69 : decode cX9_digest 69 = .ok (.ldc2_w 319, 3) := by decide +kernel
theorem dX9_digest_72 : decode cX9_digest 72 = .ok (.lload_n 1, 1) := by decide +kernel
theorem dX9_digest_73 : decode cX9_digest 73 = .ok (.lmul, 1) := by decide +kernel
theorem dX9_digest_74 : decode cX9_digest 74 = .ok (.aload_n 0, 1) := by decide +kernel
theorem dX9_digest_75 : decode cX9_digest 75 = .ok (.iload_n 3, 1) := by decide +kernel
theorem dX9_digest_76 : decode cX9_digest 76 = .ok (.iconst 0, 1) := by decide +kernel
theorem dX9_digest_77 : decode cX9_digest 77 = .ok (.invokevirtual 231, 3) := by decide +kernel
theorem dX9_digest_80 : decode cX9_digest 80 = .ok (.i2l, 1) := by decide +kernel
theorem dX9_digest_81 : decode cX9_digest 81 = .ok (.ladd, 1) := by decide +kernel
theorem dX9_digest_82 : decode cX9_digest 82 = .ok (.lstore_n 1, 1) := by decide +kernel
theorem dX9_digest_83 : decode cX9_digest 83 = .ok (.ldc2_w 319, 3) := by decide +kernel
theorem dX9_digest_86 : decode cX9_digest 86 = .ok (.lload_n 1, 1) := by decide +kernel
theorem dX9_digest_87 : decode cX9_digest 87 = .ok (.lmul, 1) := by decide +kernel
theorem dX9_digest_88 : decode cX9_digest 88 = .ok (.aload_n 0, 1) := by decide +kernel
theorem dX9_digest_89 : decode cX9_digest 89 = .ok (.iload_n 3, 1) := by decide +kernel
theorem dX9_digest_90 : decode cX9_digest 90 = .ok (.iconst 1, 1) := by decide +kernel
theorem dX9_digest_91 : decode cX9_digest 91 = .ok (.invokevirtual 231, 3) := by decide +kernel
theorem dX9_digest_94 : decode cX9_digest 94 = .ok (.i2l, 1) := by decide +kernel
theorem dX9_digest_95 : decode cX9_digest 95 = .ok (.ladd, 1) := by decide +kernel
theorem dX9_digest_96 : decode cX9_digest 96 = .ok (.lstore_n 1, 1) := by decide +kernel
theorem dX9_digest_97 : decode cX9_digest 97 = .ok (.iconst 0, 1) := by decide +kernel
theorem dX9_digest_98 : decode cX9_digest 98 = .ok (.istore 4, 2) := by decide +kernel
theorem dX9_digest_100 : decode cX9_digest 100 = .ok (.iload 4, 2) := by decide +kernel
theorem dX9_digest_102 : decode cX9_digest 102 = .ok (.iconst 3, 1) := by decide +kernel
theorem dX9_digest_103 : decode cX9_digest 103 = .ok (.if_icmp .ge 28, 3) := by decide +kernel
theorem dX9_digest_106 : decode cX9_digest 106 = .ok (.ldc2_w 319, 3) := by decide +kernel
theorem dX9_digest_109 : decode cX9_digest 109 = .ok (.lload_n 1, 1) := by decide +kernel
theorem dX9_digest_110 : decode cX9_digest 110 = .ok (.lmul, 1) := by decide +kernel
theorem dX9_digest_111 : decode cX9_digest 111 = .ok (.aload_n 0, 1) := by decide +kernel
theorem dX9_digest_112 : decode cX9_digest 112 = .ok (.getfield 74, 3) := by decide +kernel
theorem dX9_digest_115 : decode cX9_digest 115 = .ok (.iconst 3, 1) := by decide +kernel
theorem dX9_digest_116 : decode cX9_digest 116 = .ok (.iload_n 3, 1) := by decide +kernel
theorem dX9_digest_117 : decode cX9_digest 117 = .ok (.imul, 1) := by decide +kernel
theorem dX9_digest_118 : decode cX9_digest 118 = .ok (.iload 4, 2) := by decide +kernel
theorem dX9_digest_120 : decode cX9_digest 120 = .ok (.iadd, 1) := by decide +kernel
theorem dX9_digest_121 : decode cX9_digest 121 = .ok (.iaload, 1) := by decide +kernel
theorem dX9_digest_122 : decode cX9_digest 122 = .ok (.i2l, 1) := by decide +kernel
theorem dX9_digest_123 : decode cX9_digest 123 = .ok (.ladd, 1) := by decide +kernel
theorem dX9_digest_124 : decode cX9_digest 124 = .ok (.lstore_n 1, 1) := by decide +kernel
theorem dX9_digest_125 : decode cX9_digest 125 = .ok (.iinc 4 1, 3) := by decide +kernel
theorem dX9_digest_128 : decode cX9_digest 128 = .ok (.goto (-28), 3) := by decide +kernel
theorem dX9_digest_131 : decode cX9_digest 131 = .ok (.iinc 3 1, 3) := by decide +kernel
theorem dX9_digest_134 : decode cX9_digest 134 = .ok (.goto (-71), 3) := by decide +kernel
theorem dX9_digest_137 : decode cX9_digest 137 = .ok (.iconst 0, 1) := by decide +kernel
theorem dX9_digest_138 : decode cX9_digest 138 = .ok (.istore_n 3, 1) := by decide +kernel
theorem dX9_digest_139 : decode cX9_digest 139 = .ok (.iload_n 3, 1) := by decide +kernel
theorem dX9_digest_140 : decode cX9_digest 140 = .ok (.aload_n 0, 1) := by decide +kernel
theorem dX9_digest_141 : decode cX9_digest 141 = .ok (.getfield 128, 3) := by decide +kernel
theorem dX9_digest_144 : decode cX9_digest 144 = .ok (.if_icmp .ge 16, 3) := by decide +kernel
theorem dX9_digest_147 : decode cX9_digest 147 = .ok (.aload_n 0, 1) := by decide +kernel
theorem dX9_digest_148 : decode cX9_digest 148 = .ok (.lload_n 1, 1) := by decide +kernel
theorem dX9_digest_149 : decode cX9_digest 149 = .ok (.iload_n 3, 1) := by decide +kernel
theorem dX9_digest_150 : decode cX9_digest 150 = .ok (.invokevirtual 330, 3) := by decide +kernel
theorem dX9_digest_153 : decode cX9_digest 153 = .ok (.lstore_n 1, 1) := by decide +kernel
theorem dX9_digest_154 : decode cX9_digest 154 = .ok (.iinc 3 1, 3) := by decide +kernel
theorem dX9_digest_157 : decode cX9_digest 157 = .ok (.goto (-18), 3) := by decide +kernel
theorem dX9_digest_160 : decode cX9_digest 160 = .ok (.iconst 0, 1) := by decide +kernel
theorem dX9_digest_161 : decode cX9_digest 161 = .ok (.istore_n 3, 1) := by decide +kernel
theorem dX9_digest_162 : decode cX9_digest 162 = .ok (.iload_n 3, 1) := by decide +kernel
theorem dX9_digest_163 : decode cX9_digest 163 = .ok (.aload_n 0, 1) := by decide +kernel
theorem dX9_digest_164 : decode cX9_digest 164 = .ok (.getfield 134, 3) := by decide +kernel
theorem dX9_digest_167 : decode cX9_digest 167 = .ok (.if_icmp .ge 56, 3) := by decide +kernel
theorem dX9_digest_170 : decode cX9_digest 170 = .ok (.iconst 0, 1) := by decide +kernel
theorem dX9_digest_171 : decode cX9_digest 171 = .ok (.istore 4, 2) := by decide +kernel
theorem dX9_digest_173 : decode cX9_digest 173 = .ok (.iload 4, 2) := by decide +kernel
theorem dX9_digest_175 : decode cX9_digest 175 = .ok (.iconst 3, 1) := by decide +kernel
theorem dX9_digest_176 : decode cX9_digest 176 = .ok (.if_icmp .ge 28, 3) := by decide +kernel
theorem dX9_digest_179 : decode cX9_digest 179 = .ok (.ldc2_w 319, 3) := by decide +kernel
theorem dX9_digest_182 : decode cX9_digest 182 = .ok (.lload_n 1, 1) := by decide +kernel
theorem dX9_digest_183 : decode cX9_digest 183 = .ok (.lmul, 1) := by decide +kernel
theorem dX9_digest_184 : decode cX9_digest 184 = .ok (.aload_n 0, 1) := by decide +kernel
theorem dX9_digest_185 : decode cX9_digest 185 = .ok (.getfield 31, 3) := by decide +kernel
theorem dX9_digest_188 : decode cX9_digest 188 = .ok (.iconst 3, 1) := by decide +kernel
theorem dX9_digest_189 : decode cX9_digest 189 = .ok (.iload_n 3, 1) := by decide +kernel
theorem dX9_digest_190 : decode cX9_digest 190 = .ok (.imul, 1) := by decide +kernel
theorem dX9_digest_191 : decode cX9_digest 191 = .ok (.iload 4, 2) := by decide +kernel
theorem dX9_digest_193 : decode cX9_digest 193 = .ok (.iadd, 1) := by decide +kernel
theorem dX9_digest_194 : decode cX9_digest 194 = .ok (.iaload, 1) := by decide +kernel
theorem dX9_digest_195 : decode cX9_digest 195 = .ok (.i2l, 1) := by decide +kernel
theorem dX9_digest_196 : decode cX9_digest 196 = .ok (.ladd, 1) := by decide +kernel
theorem dX9_digest_197 : decode cX9_digest 197 = .ok (.lstore_n 1, 1) := by decide +kernel
theorem dX9_digest_198 : decode cX9_digest 198 = .ok (.iinc 4 1, 3) := by decide +kernel
theorem dX9_digest_201 : decode cX9_digest 201 = .ok (.goto (-28), 3) := by decide +kernel
theorem dX9_digest_204 : decode cX9_digest 204 = .ok (.ldc2_w 319, 3) := by decide +kernel
theorem dX9_digest_207 : decode cX9_digest 207 = .ok (.lload_n 1, 1) := by decide +kernel
theorem dX9_digest_208 : decode cX9_digest 208 = .ok (.lmul, 1) := by decide +kernel
theorem dX9_digest_209 : decode cX9_digest 209 = .ok (.aload_n 0, 1) := by decide +kernel
theorem dX9_digest_210 : decode cX9_digest 210 = .ok (.iload_n 3, 1) := by decide +kernel
theorem dX9_digest_211 : decode cX9_digest 211 = .ok (.invokevirtual 281, 3) := by decide +kernel
theorem dX9_digest_214 : decode cX9_digest 214 = .ok (.i2l, 1) := by decide +kernel
theorem dX9_digest_215 : decode cX9_digest 215 = .ok (.ladd, 1) := by decide +kernel
theorem dX9_digest_216 : decode cX9_digest 216 = .ok (.lstore_n 1, 1) := by decide +kernel
theorem dX9_digest_217 : decode cX9_digest 217 = .ok (.iinc 3 1, 3) := by decide +kernel
theorem dX9_digest_220 : decode cX9_digest 220 = .ok (.goto (-58), 3) := by decide +kernel
theorem dX9_digest_223 : decode cX9_digest 223 = .ok (.iconst 0, 1) := by decide +kernel
theorem dX9_digest_224 : decode cX9_digest 224 = .ok (.istore_n 3, 1) := by decide +kernel
theorem dX9_digest_225 : decode cX9_digest 225 = .ok (.iload_n 3, 1) := by decide +kernel
theorem dX9_digest_226 : decode cX9_digest 226 = .ok (.bipush 6, 2) := by decide +kernel
theorem dX9_digest_228 : decode cX9_digest 228 = .ok (.if_icmp .ge 16, 3) := by decide +kernel
theorem dX9_digest_231 : decode cX9_digest 231 = .ok (.aload_n 0, 1) := by decide +kernel
theorem dX9_digest_232 : decode cX9_digest 232 = .ok (.lload_n 1, 1) := by decide +kernel
theorem dX9_digest_233 : decode cX9_digest 233 = .ok (.iload_n 3, 1) := by decide +kernel
theorem dX9_digest_234 : decode cX9_digest 234 = .ok (.invokevirtual 334, 3) := by decide +kernel
theorem dX9_digest_237 : decode cX9_digest 237 = .ok (.lstore_n 1, 1) := by decide +kernel
theorem dX9_digest_238 : decode cX9_digest 238 = .ok (.iinc 3 1, 3) := by decide +kernel
theorem dX9_digest_241 : decode cX9_digest 241 = .ok (.goto (-16), 3) := by decide +kernel
theorem dX9_digest_244 : decode cX9_digest 244 = .ok (.aload_n 0, 1) := by decide +kernel
theorem dX9_digest_245 : decode cX9_digest 245 = .ok (.invokevirtual 217, 3) := by decide +kernel
theorem dX9_digest_248 : decode cX9_digest 248 = .ok (.ldc2_w 319, 3) := by decide +kernel
theorem dX9_digest_251 : decode cX9_digest 251 = .ok (.lload_n 1, 1) := by decide +kernel
theorem dX9_digest_252 : decode cX9_digest 252 = .ok (.lmul, 1) := by decide +kernel
theorem dX9_digest_253 : decode cX9_digest 253 = .ok (.aload_n 0, 1) := by decide +kernel
theorem dX9_digest_254 : decode cX9_digest 254 = .ok (.invokevirtual 239, 3) := by decide +kernel
theorem dX9_digest_257 : decode cX9_digest 257 = .ok (.i2l, 1) := by decide +kernel
theorem dX9_digest_258 : decode cX9_digest 258 = .ok (.ladd, 1) := by decide +kernel
theorem dX9_digest_259 : decode cX9_digest 259 = .ok (.lstore_n 1, 1) := by decide +kernel
theorem dX9_digest_260 : decode cX9_digest 260 = .ok (.ldc2_w 319, 3) := by decide +kernel
theorem dX9_digest_263 : decode cX9_digest 263 = .ok (.lload_n 1, 1) := by decide +kernel
theorem dX9_digest_264 : decode cX9_digest 264 = .ok (.lmul, 1) := by decide +kernel
theorem dX9_digest_265 : decode cX9_digest 265 = .ok (.aload_n 0, 1) := by decide +kernel
theorem dX9_digest_266 : decode cX9_digest 266 = .ok (.invokevirtual 242, 3) := by decide +kernel
theorem dX9_digest_269 : decode cX9_digest 269 = .ok (.i2l, 1) := by decide +kernel
theorem dX9_digest_270 : decode cX9_digest 270 = .ok (.ladd, 1) := by decide +kernel
theorem dX9_digest_271 : decode cX9_digest 271 = .ok (.lstore_n 1, 1) := by decide +kernel
theorem dX9_digest_272 : decode cX9_digest 272 = .ok (.ldc2_w 319, 3) := by decide +kernel
theorem dX9_digest_275 : decode cX9_digest 275 = .ok (.lload_n 1, 1) := by decide +kernel
theorem dX9_digest_276 : decode cX9_digest 276 = .ok (.lmul, 1) := by decide +kernel
theorem dX9_digest_277 : decode cX9_digest 277 = .ok (.aload_n 0, 1) := by decide +kernel
theorem dX9_digest_278 : decode cX9_digest 278 = .ok (.iconst 0, 1) := by decide +kernel
theorem dX9_digest_279 : decode cX9_digest 279 = .ok (.invokevirtual 245, 3) := by decide +kernel
theorem dX9_digest_282 : decode cX9_digest 282 = .ok (.i2l, 1) := by decide +kernel
theorem dX9_digest_283 : decode cX9_digest 283 = .ok (.ladd, 1) := by decide +kernel
theorem dX9_digest_284 : decode cX9_digest 284 = .ok (.lstore_n 1, 1) := by decide +kernel
theorem dX9_digest_285 : decode cX9_digest 285 = .ok (.ldc2_w 319, 3) := by decide +kernel
theorem dX9_digest_288 : decode cX9_digest 288 = .ok (.lload_n 1, 1) := by decide +kernel
theorem dX9_digest_289 : decode cX9_digest 289 = .ok (.lmul, 1) := by decide +kernel
theorem dX9_digest_290 : decode cX9_digest 290 = .ok (.aload_n 0, 1) := by decide +kernel
theorem dX9_digest_291 : decode cX9_digest 291 = .ok (.iconst 1, 1) := by decide +kernel
theorem dX9_digest_292 : decode cX9_digest 292 = .ok (.invokevirtual 245, 3) := by decide +kernel
theorem dX9_digest_295 : decode cX9_digest 295 = .ok (.i2l, 1) := by decide +kernel
theorem dX9_digest_296 : decode cX9_digest 296 = .ok (.ladd, 1) := by decide +kernel
theorem dX9_digest_297 : decode cX9_digest 297 = .ok (.lstore_n 1, 1) := by decide +kernel
theorem dX9_digest_298 : decode cX9_digest 298 = .ok (.ldc2_w 319, 3) := by decide +kernel
theorem dX9_digest_301 : decode cX9_digest 301 = .ok (.lload_n 1, 1) := by decide +kernel
theorem dX9_digest_302 : decode cX9_digest 302 = .ok (.lmul, 1) := by decide +kernel
theorem dX9_digest_303 : decode cX9_digest 303 = .ok (.aload_n 0, 1) := by decide +kernel
theorem dX9_digest_304 : decode cX9_digest 304 = .ok (.iconst (-1), 1) := by decide +kernel
theorem dX9_digest_305 : decode cX9_digest 305 = .ok (.invokevirtual 262, 3) := by decide +kernel
theorem dX9_digest_308 : decode cX9_digest 308 = .ok (.i2l, 1) := by decide +kernel
theorem dX9_digest_309 : decode cX9_digest 309 = .ok (.ladd, 1) := by decide +kernel
theorem dX9_digest_310 : decode cX9_digest 310 = .ok (.lstore_n 1, 1) := by decide +kernel
theorem dX9_digest_311 : decode cX9_digest 311 = .ok (.ldc2_w 319, 3) := by decide +kernel
theorem dX9_digest_314 : decode cX9_digest 314 = .ok (.lload_n 1, 1) := by decide +kernel
theorem dX9_digest_315 : decode cX9_digest 315 = .ok (.lmul, 1) := by decide +kernel
theorem dX9_digest_316 : decode cX9_digest 316 = .ok (.aload_n 0, 1) := by decide +kernel
theorem dX9_digest_317 : decode cX9_digest 317 = .ok (.iconst 0, 1) := by decide +kernel
theorem dX9_digest_318 : decode cX9_digest 318 = .ok (.invokevirtual 262, 3) := by decide +kernel
theorem dX9_digest_321 : decode cX9_digest 321 = .ok (.i2l, 1) := by decide +kernel
theorem dX9_digest_322 : decode cX9_digest 322 = .ok (.ladd, 1) := by decide +kernel
theorem dX9_digest_323 : decode cX9_digest 323 = .ok (.lstore_n 1, 1) := by decide +kernel
theorem dX9_digest_324 : decode cX9_digest 324 = .ok (.ldc2_w 319, 3) := by decide +kernel
theorem dX9_digest_327 : decode cX9_digest 327 = .ok (.lload_n 1, 1) := by decide +kernel
theorem dX9_digest_328 : decode cX9_digest 328 = .ok (.lmul, 1) := by decide +kernel
theorem dX9_digest_329 : decode cX9_digest 329 = .ok (.aload_n 0, 1) := by decide +kernel
theorem dX9_digest_330 : decode cX9_digest 330 = .ok (.invokevirtual 275, 3) := by decide +kernel
theorem dX9_digest_333 : decode cX9_digest 333 = .ok (.i2l, 1) := by decide +kernel
theorem dX9_digest_334 : decode cX9_digest 334 = .ok (.ladd, 1) := by decide +kernel
theorem dX9_digest_335 : decode cX9_digest 335 = .ok (.lstore_n 1, 1) := by decide +kernel
theorem dX9_digest_336 : decode cX9_digest 336 = .ok (.ldc2_w 319, 3) := by decide +kernel
theorem dX9_digest_339 : decode cX9_digest 339 = .ok (.lload_n 1, 1) := by decide +kernel
theorem dX9_digest_340 : decode cX9_digest 340 = .ok (.lmul, 1) := by decide +kernel
theorem dX9_digest_341 : decode cX9_digest 341 = .ok (.aload_n 0, 1) := by decide +kernel
theorem dX9_digest_342 : decode cX9_digest 342 = .ok (.bipush 7, 2) := by decide +kernel
theorem dX9_digest_344 : decode cX9_digest 344 = .ok (.bipush 9, 2) := by decide +kernel
theorem dX9_digest_346 : decode cX9_digest 346 = .ok (.iconst 0, 1) := by decide +kernel
theorem dX9_digest_347 : decode cX9_digest 347 = .ok (.invokevirtual 316, 3) := by decide +kernel
theorem dX9_digest_350 : decode cX9_digest 350 = .ok (.i2l, 1) := by decide +kernel
theorem dX9_digest_351 : decode cX9_digest 351 = .ok (.ladd, 1) := by decide +kernel
theorem dX9_digest_352 : decode cX9_digest 352 = .ok (.lstore_n 1, 1) := by decide +kernel
theorem dX9_digest_353 : decode cX9_digest 353 = .ok (.ldc2_w 319, 3) := by decide +kernel
theorem dX9_digest_356 : decode cX9_digest 356 = .ok (.lload_n 1, 1) := by decide +kernel
theorem dX9_digest_357 : decode cX9_digest 357 = .ok (.lmul, 1) := by decide +kernel
theorem dX9_digest_358 : decode cX9_digest 358 = .ok (.aload_n 0, 1) := by decide +kernel
theorem dX9_digest_359 : decode cX9_digest 359 = .ok (.bipush 7, 2) := by decide +kernel
theorem dX9_digest_361 : decode cX9_digest 361 = .ok (.bipush 9, 2) := by decide +kernel
theorem dX9_digest_363 : decode cX9_digest 363 = .ok (.iconst 1, 1) := by decide +kernel
theorem dX9_digest_364 : decode cX9_digest 364 = .ok (.invokevirtual 316, 3) := by decide +kernel
theorem dX9_digest_367 : decode cX9_digest 367 = .ok (.i2l, 1) := by decide +kernel
theorem dX9_digest_368 : decode cX9_digest 368 = .ok (.ladd, 1) := by decide +kernel
theorem dX9_digest_369 : decode cX9_digest 369 = .ok (.lreturn, 1) := by decide +kernel
theorem dJ6_bitCount_0f7a4_0 : decode cJ6_bitCount_0f7a4 0 = .ok (.iload_n 0, 1) := by decide +kernel
theorem dJ6_bitCount_0f7a4_1 : decode cJ6_bitCount_0f7a4 1 = .ok (.iload_n 0, 1) := by decide +kernel
theorem dJ6_bitCount_0f7a4_2 : decode cJ6_bitCount_0f7a4 2 = .ok (.iconst 1, 1) := by decide +kernel
theorem dJ6_bitCount_0f7a4_3 : decode cJ6_bitCount_0f7a4 3 = .ok (.iushr, 1) := by decide +kernel
theorem dJ6_bitCount_0f7a4_4 : decode cJ6_bitCount_0f7a4 4 = .ok (.ldc_w 265, 3) := by decide +kernel
theorem dJ6_bitCount_0f7a4_7 : decode cJ6_bitCount_0f7a4 7 = .ok (.iand, 1) := by decide +kernel
theorem dJ6_bitCount_0f7a4_8 : decode cJ6_bitCount_0f7a4 8 = .ok (.isub, 1) := by decide +kernel
theorem dJ6_bitCount_0f7a4_9 : decode cJ6_bitCount_0f7a4 9 = .ok (.istore_n 0, 1) := by decide +kernel
theorem dJ6_bitCount_0f7a4_10 : decode cJ6_bitCount_0f7a4 10 = .ok (.iload_n 0, 1) := by decide +kernel
theorem dJ6_bitCount_0f7a4_11 : decode cJ6_bitCount_0f7a4 11 = .ok (.ldc_w 266, 3) := by decide +kernel
theorem dJ6_bitCount_0f7a4_14 : decode cJ6_bitCount_0f7a4 14 = .ok (.iand, 1) := by decide +kernel
theorem dJ6_bitCount_0f7a4_15 : decode cJ6_bitCount_0f7a4 15 = .ok (.iload_n 0, 1) := by decide +kernel
theorem dJ6_bitCount_0f7a4_16 : decode cJ6_bitCount_0f7a4 16 = .ok (.iconst 2, 1) := by decide +kernel
theorem dJ6_bitCount_0f7a4_17 : decode cJ6_bitCount_0f7a4 17 = .ok (.iushr, 1) := by decide +kernel
theorem dJ6_bitCount_0f7a4_18 : decode cJ6_bitCount_0f7a4 18 = .ok (.ldc_w 266, 3) := by decide +kernel
theorem dJ6_bitCount_0f7a4_21 : decode cJ6_bitCount_0f7a4 21 = .ok (.iand, 1) := by decide +kernel
theorem dJ6_bitCount_0f7a4_22 : decode cJ6_bitCount_0f7a4 22 = .ok (.iadd, 1) := by decide +kernel
theorem dJ6_bitCount_0f7a4_23 : decode cJ6_bitCount_0f7a4 23 = .ok (.istore_n 0, 1) := by decide +kernel
theorem dJ6_bitCount_0f7a4_24 : decode cJ6_bitCount_0f7a4 24 = .ok (.iload_n 0, 1) := by decide +kernel
theorem dJ6_bitCount_0f7a4_25 : decode cJ6_bitCount_0f7a4 25 = .ok (.iload_n 0, 1) := by decide +kernel
theorem dJ6_bitCount_0f7a4_26 : decode cJ6_bitCount_0f7a4 26 = .ok (.iconst 4, 1) := by decide +kernel
theorem dJ6_bitCount_0f7a4_27 : decode cJ6_bitCount_0f7a4 27 = .ok (.iushr, 1) := by decide +kernel
theorem dJ6_bitCount_0f7a4_28 : decode cJ6_bitCount_0f7a4 28 = .ok (.iadd, 1) := by decide +kernel
theorem dJ6_bitCount_0f7a4_29 : decode cJ6_bitCount_0f7a4 29 = .ok (.ldc_w 267, 3) := by decide +kernel
theorem dJ6_bitCount_0f7a4_32 : decode cJ6_bitCount_0f7a4 32 = .ok (.iand, 1) := by decide +kernel
theorem dJ6_bitCount_0f7a4_33 : decode cJ6_bitCount_0f7a4 33 = .ok (.istore_n 0, 1) := by decide +kernel
theorem dJ6_bitCount_0f7a4_34 : decode cJ6_bitCount_0f7a4 34 = .ok (.iload_n 0, 1) := by decide +kernel
theorem dJ6_bitCount_0f7a4_35 : decode cJ6_bitCount_0f7a4 35 = .ok (.iload_n 0, 1) := by decide +kernel
theorem dJ6_bitCount_0f7a4_36 : decode cJ6_bitCount_0f7a4 36 = .ok (.bipush 8, 2) := by decide +kernel
theorem dJ6_bitCount_0f7a4_38 : decode cJ6_bitCount_0f7a4 38 = .ok (.iushr, 1) := by decide +kernel
theorem dJ6_bitCount_0f7a4_39 : decode cJ6_bitCount_0f7a4 39 = .ok (.iadd, 1) := by decide +kernel
theorem dJ6_bitCount_0f7a4_40 : decode cJ6_bitCount_0f7a4 40 = .ok (.istore_n 0, 1) := by decide +kernel
theorem dJ6_bitCount_0f7a4_41 : decode cJ6_bitCount_0f7a4 41 = .ok (.iload_n 0, 1) := by decide +kernel
theorem dJ6_bitCount_0f7a4_42 : decode cJ6_bitCount_0f7a4 42 = .ok (.iload_n 0, 1) := by decide +kernel
theorem dJ6_bitCount_0f7a4_43 : decode cJ6_bitCount_0f7a4 43 = .ok (.bipush 16, 2) := by decide +kernel
theorem dJ6_bitCount_0f7a4_45 : decode cJ6_bitCount_0f7a4 45 = .ok (.iushr, 1) := by decide +kernel
theorem dJ6_bitCount_0f7a4_46 : decode cJ6_bitCount_0f7a4 46 = .ok (.iadd, 1) := by decide +kernel
theorem dJ6_bitCount_0f7a4_47 : decode cJ6_bitCount_0f7a4 47 = .ok (.istore_n 0, 1) := by decide +kernel
theorem dJ6_bitCount_0f7a4_48 : decode cJ6_bitCount_0f7a4 48 = .ok (.iload_n 0, 1) := by decide +kernel
theorem dJ6_bitCount_0f7a4_49 : decode cJ6_bitCount_0f7a4 49 = .ok (.bipush 63, 2) := by decide +kernel
theorem dJ6_bitCount_0f7a4_51 : decode cJ6_bitCount_0f7a4 51 = .ok (.iand, 1) := by decide +kernel
theorem dJ6_bitCount_0f7a4_52 : decode cJ6_bitCount_0f7a4 52 = .ok (.ireturn, 1) := by decide +kernel
theorem dJ9_max_7cf53_0 : decode cJ9_max_7cf53 0 = .ok (.iload_n 0, 1) := by decide +kernel
theorem dJ9_max_7cf53_1 : decode cJ9_max_7cf53 1 = .ok (.iload_n 1, 1) := by decide +kernel
theorem dJ9_max_7cf53_2 : decode cJ9_max_7cf53 2 = .ok (.if_icmp .lt 7, 3) := by decide +kernel
theorem dJ9_max_7cf53_5 : decode cJ9_max_7cf53 5 = .ok (.iload_n 0, 1) := by decide +kernel
theorem dJ9_max_7cf53_6 : decode cJ9_max_7cf53 6 = .ok (.goto 4, 3) := by decide +kernel
theorem dJ9_max_7cf53_9 : decode cJ9_max_7cf53 9 = .ok (.iload_n 1, 1) := by decide +kernel
theorem dJ9_max_7cf53_10 : decode cJ9_max_7cf53 10 = .ok (.ireturn, 1) := by decide +kernel
theorem dJ9_min_7cf53_0 : decode cJ9_min_7cf53 0 = .ok (.iload_n 0, 1) := by decide +kernel
theorem dJ9_min_7cf53_1 : decode cJ9_min_7cf53 1 = .ok (.iload_n 1, 1) := by decide +kernel
theorem dJ9_min_7cf53_2 : decode cJ9_min_7cf53 2 = .ok (.if_icmp .gt 7, 3) := by decide +kernel
theorem dJ9_min_7cf53_5 : decode cJ9_min_7cf53 5 = .ok (.iload_n 0, 1) := by decide +kernel
theorem dJ9_min_7cf53_6 : decode cJ9_min_7cf53 6 = .ok (.goto 4, 3) := by decide +kernel
theorem dJ9_min_7cf53_9 : decode cJ9_min_7cf53 9 = .ok (.iload_n 1, 1) := by decide +kernel
theorem dJ9_min_7cf53_10 : decode cJ9_min_7cf53 10 = .ok (.ireturn, 1) := by decide +kernel
theorem dL_law_0 : decode cL_law 0 = .ok (.new 7, 3) := by decide +kernel
theorem dL_law_3 : decode cL_law 3 = .ok (.dup, 1) := by decide +kernel
theorem dL_law_4 : decode cL_law 4 = .ok (.invokespecial 9, 3) := by decide +kernel
theorem dL_law_7 : decode cL_law 7 = .ok (.astore_n 1, 1) := by decide +kernel
theorem dL_law_8 : decode cL_law 8 = .ok (.new 10, 3) := by decide +kernel
theorem dL_law_11 : decode cL_law 11 = .ok (.dup, 1) := by decide +kernel
theorem dL_law_12 : decode cL_law 12 = .ok (.invokespecial 12, 3) := by decide +kernel
theorem dL_law_15 : decode cL_law 15 = .ok (.astore_n 2, 1) := by decide +kernel
theorem dL_law_16 : decode cL_law 16 = .ok (.iconst 0, 1) := by decide +kernel
theorem dL_law_17 : decode cL_law 17 = .ok (.istore_n 3, 1) := by decide +kernel
theorem dL_law_18 : decode cL_law 18 = .ok (.iload_n 3, 1) := by decide +kernel
theorem dL_law_19 : decode cL_law 19 = .ok (.aload_n 0, 1) := by decide +kernel
theorem dL_law_20 : decode cL_law 20 = .ok (.arraylength, 1) := by decide +kernel
theorem dL_law_21 : decode cL_law 21 = .ok (.bipush 6, 2) := by decide +kernel
theorem dL_law_23 : decode cL_law 23 = .ok (.isub, 1) := by decide +kernel
theorem dL_law_24 : decode cL_law 24 = .ok (.if_icmp .gt 1254, 3) := by decide +kernel
theorem dL_law_27 : decode cL_law 27 = .ok (.aload_n 0, 1) := by decide +kernel
theorem dL_law_28 : decode cL_law 28 = .ok (.iload_n 3, 1) := by decide +kernel
theorem dL_law_29 : decode cL_law 29 = .ok (.iaload, 1) := by decide +kernel
theorem dL_law_30 : decode cL_law 30 = .ok (.bipush 63, 2) := by decide +kernel
theorem dL_law_32 : decode cL_law 32 = .ok (.iand, 1) := by decide +kernel
theorem dL_law_33 : decode cL_law 33 = .ok (.tableswitch 1239 0 35 #[159, 192, 215, 238, 261, 294, 327, 370, 383, 406, 439, 482, 515, 538, 551, 564, 587, 620, 653, 696, 719, 762, 775, 788, 811, 834, 857, 901, 944, 987, 1010, 1063, 1106, 1169, 1202, 1225], 159) := by decide +kernel
theorem dL_law_192 : decode cL_law 192 = .ok (.aload_n 1, 1) := by decide +kernel
theorem dL_law_193 : decode cL_law 193 = .ok (.aload_n 0, 1) := by decide +kernel
theorem dL_law_194 : decode cL_law 194 = .ok (.iload_n 3, 1) := by decide +kernel
theorem dL_law_195 : decode cL_law 195 = .ok (.iconst 1, 1) := by decide +kernel
theorem dL_law_196 : decode cL_law 196 = .ok (.iadd, 1) := by decide +kernel
theorem dL_law_197 : decode cL_law 197 = .ok (.iaload, 1) := by decide +kernel
theorem dL_law_198 : decode cL_law 198 = .ok (.aload_n 0, 1) := by decide +kernel
theorem dL_law_199 : decode cL_law 199 = .ok (.iload_n 3, 1) := by decide +kernel
theorem dL_law_200 : decode cL_law 200 = .ok (.iconst 2, 1) := by decide +kernel
theorem dL_law_201 : decode cL_law 201 = .ok (.iadd, 1) := by decide +kernel
theorem dL_law_202 : decode cL_law 202 = .ok (.iaload, 1) := by decide +kernel
theorem dL_law_203 : decode cL_law 203 = .ok (.invokevirtual 13, 3) := by decide +kernel
theorem dL_law_206 : decode cL_law 206 = .ok (.aload_n 2, 1) := by decide +kernel
theorem dL_law_207 : decode cL_law 207 = .ok (.aload_n 0, 1) := by decide +kernel
theorem dL_law_208 : decode cL_law 208 = .ok (.iload_n 3, 1) := by decide +kernel
theorem dL_law_209 : decode cL_law 209 = .ok (.iconst 1, 1) := by decide +kernel
theorem dL_law_210 : decode cL_law 210 = .ok (.iadd, 1) := by decide +kernel
theorem dL_law_211 : decode cL_law 211 = .ok (.iaload, 1) := by decide +kernel
theorem dL_law_212 : decode cL_law 212 = .ok (.aload_n 0, 1) := by decide +kernel
theorem dL_law_213 : decode cL_law 213 = .ok (.iload_n 3, 1) := by decide +kernel
theorem dL_law_214 : decode cL_law 214 = .ok (.iconst 2, 1) := by decide +kernel
theorem dL_law_215 : decode cL_law 215 = .ok (.iadd, 1) := by decide +kernel
theorem dL_law_216 : decode cL_law 216 = .ok (.iaload, 1) := by decide +kernel
theorem dL_law_217 : decode cL_law 217 = .ok (.invokevirtual 17, 3) := by decide +kernel
theorem dL_law_220 : decode cL_law 220 = .ok (.if_icmp .eq 1052, 3) := by decide +kernel
theorem dL_law_223 : decode cL_law 223 = .ok (.iconst 0, 1) := by decide +kernel
theorem dL_law_224 : decode cL_law 224 = .ok (.ireturn, 1) := by decide +kernel
theorem dL_law_225 : decode cL_law 225 = .ok (.aload_n 1, 1) := by decide +kernel
theorem dL_law_226 : decode cL_law 226 = .ok (.aload_n 0, 1) := by decide +kernel
theorem dL_law_227 : decode cL_law 227 = .ok (.iload_n 3, 1) := by decide +kernel
theorem dL_law_228 : decode cL_law 228 = .ok (.iconst 1, 1) := by decide +kernel
theorem dL_law_229 : decode cL_law 229 = .ok (.iadd, 1) := by decide +kernel
theorem dL_law_230 : decode cL_law 230 = .ok (.iaload, 1) := by decide +kernel
theorem dL_law_231 : decode cL_law 231 = .ok (.invokevirtual 18, 3) := by decide +kernel
theorem dL_law_234 : decode cL_law 234 = .ok (.aload_n 2, 1) := by decide +kernel
theorem dL_law_235 : decode cL_law 235 = .ok (.aload_n 0, 1) := by decide +kernel
theorem dL_law_236 : decode cL_law 236 = .ok (.iload_n 3, 1) := by decide +kernel
theorem dL_law_237 : decode cL_law 237 = .ok (.iconst 1, 1) := by decide +kernel
theorem dL_law_238 : decode cL_law 238 = .ok (.iadd, 1) := by decide +kernel
theorem dL_law_239 : decode cL_law 239 = .ok (.iaload, 1) := by decide +kernel
theorem dL_law_240 : decode cL_law 240 = .ok (.invokevirtual 22, 3) := by decide +kernel
theorem dL_law_243 : decode cL_law 243 = .ok (.if_icmp .eq 1029, 3) := by decide +kernel
theorem dL_law_246 : decode cL_law 246 = .ok (.iconst 0, 1) := by decide +kernel
theorem dL_law_247 : decode cL_law 247 = .ok (.ireturn, 1) := by decide +kernel
theorem dL_law_248 : decode cL_law 248 = .ok (.aload_n 1, 1) := by decide +kernel
theorem dL_law_249 : decode cL_law 249 = .ok (.aload_n 0, 1) := by decide +kernel
theorem dL_law_250 : decode cL_law 250 = .ok (.iload_n 3, 1) := by decide +kernel
theorem dL_law_251 : decode cL_law 251 = .ok (.iconst 1, 1) := by decide +kernel
theorem dL_law_252 : decode cL_law 252 = .ok (.iadd, 1) := by decide +kernel
theorem dL_law_253 : decode cL_law 253 = .ok (.iaload, 1) := by decide +kernel
theorem dL_law_254 : decode cL_law 254 = .ok (.invokevirtual 23, 3) := by decide +kernel
theorem dL_law_257 : decode cL_law 257 = .ok (.aload_n 2, 1) := by decide +kernel
theorem dL_law_258 : decode cL_law 258 = .ok (.aload_n 0, 1) := by decide +kernel
theorem dL_law_259 : decode cL_law 259 = .ok (.iload_n 3, 1) := by decide +kernel
theorem dL_law_260 : decode cL_law 260 = .ok (.iconst 1, 1) := by decide +kernel
theorem dL_law_261 : decode cL_law 261 = .ok (.iadd, 1) := by decide +kernel
theorem dL_law_262 : decode cL_law 262 = .ok (.iaload, 1) := by decide +kernel
theorem dL_law_263 : decode cL_law 263 = .ok (.invokevirtual 26, 3) := by decide +kernel
theorem dL_law_266 : decode cL_law 266 = .ok (.if_icmp .eq 1006, 3) := by decide +kernel
theorem dL_law_269 : decode cL_law 269 = .ok (.iconst 0, 1) := by decide +kernel
theorem dL_law_270 : decode cL_law 270 = .ok (.ireturn, 1) := by decide +kernel
theorem dL_law_271 : decode cL_law 271 = .ok (.aload_n 1, 1) := by decide +kernel
theorem dL_law_272 : decode cL_law 272 = .ok (.aload_n 0, 1) := by decide +kernel
theorem dL_law_273 : decode cL_law 273 = .ok (.iload_n 3, 1) := by decide +kernel
theorem dL_law_274 : decode cL_law 274 = .ok (.iconst 1, 1) := by decide +kernel
theorem dL_law_275 : decode cL_law 275 = .ok (.iadd, 1) := by decide +kernel
theorem dL_law_276 : decode cL_law 276 = .ok (.iaload, 1) := by decide +kernel
theorem dL_law_277 : decode cL_law 277 = .ok (.invokevirtual 27, 3) := by decide +kernel
theorem dL_law_280 : decode cL_law 280 = .ok (.aload_n 2, 1) := by decide +kernel
theorem dL_law_281 : decode cL_law 281 = .ok (.aload_n 0, 1) := by decide +kernel
theorem dL_law_282 : decode cL_law 282 = .ok (.iload_n 3, 1) := by decide +kernel
theorem dL_law_283 : decode cL_law 283 = .ok (.iconst 1, 1) := by decide +kernel
theorem dL_law_284 : decode cL_law 284 = .ok (.iadd, 1) := by decide +kernel
theorem dL_law_285 : decode cL_law 285 = .ok (.iaload, 1) := by decide +kernel
theorem dL_law_286 : decode cL_law 286 = .ok (.invokevirtual 30, 3) := by decide +kernel
theorem dL_law_289 : decode cL_law 289 = .ok (.if_icmp .eq 983, 3) := by decide +kernel
theorem dL_law_292 : decode cL_law 292 = .ok (.iconst 0, 1) := by decide +kernel
theorem dL_law_293 : decode cL_law 293 = .ok (.ireturn, 1) := by decide +kernel
theorem dL_law_294 : decode cL_law 294 = .ok (.aload_n 1, 1) := by decide +kernel
theorem dL_law_295 : decode cL_law 295 = .ok (.aload_n 0, 1) := by decide +kernel
theorem dL_law_296 : decode cL_law 296 = .ok (.iload_n 3, 1) := by decide +kernel
theorem dL_law_297 : decode cL_law 297 = .ok (.iconst 1, 1) := by decide +kernel
theorem dL_law_298 : decode cL_law 298 = .ok (.iadd, 1) := by decide +kernel
theorem dL_law_299 : decode cL_law 299 = .ok (.iaload, 1) := by decide +kernel
theorem dL_law_300 : decode cL_law 300 = .ok (.aload_n 0, 1) := by decide +kernel
theorem dL_law_301 : decode cL_law 301 = .ok (.iload_n 3, 1) := by decide +kernel
theorem dL_law_302 : decode cL_law 302 = .ok (.iconst 2, 1) := by decide +kernel
theorem dL_law_303 : decode cL_law 303 = .ok (.iadd, 1) := by decide +kernel
theorem dL_law_304 : decode cL_law 304 = .ok (.iaload, 1) := by decide +kernel
theorem dL_law_305 : decode cL_law 305 = .ok (.invokevirtual 31, 3) := by decide +kernel
theorem dL_law_308 : decode cL_law 308 = .ok (.aload_n 2, 1) := by decide +kernel
theorem dL_law_309 : decode cL_law 309 = .ok (.aload_n 0, 1) := by decide +kernel
theorem dL_law_310 : decode cL_law 310 = .ok (.iload_n 3, 1) := by decide +kernel
theorem dL_law_311 : decode cL_law 311 = .ok (.iconst 1, 1) := by decide +kernel
theorem dL_law_312 : decode cL_law 312 = .ok (.iadd, 1) := by decide +kernel
theorem dL_law_313 : decode cL_law 313 = .ok (.iaload, 1) := by decide +kernel
theorem dL_law_314 : decode cL_law 314 = .ok (.aload_n 0, 1) := by decide +kernel
theorem dL_law_315 : decode cL_law 315 = .ok (.iload_n 3, 1) := by decide +kernel
theorem dL_law_316 : decode cL_law 316 = .ok (.iconst 2, 1) := by decide +kernel
theorem dL_law_317 : decode cL_law 317 = .ok (.iadd, 1) := by decide +kernel
theorem dL_law_318 : decode cL_law 318 = .ok (.iaload, 1) := by decide +kernel
theorem dL_law_319 : decode cL_law 319 = .ok (.invokevirtual 34, 3) := by decide +kernel
theorem dL_law_322 : decode cL_law 322 = .ok (.if_icmp .eq 950, 3) := by decide +kernel
theorem dL_law_325 : decode cL_law 325 = .ok (.iconst 0, 1) := by decide +kernel
theorem dL_law_326 : decode cL_law 326 = .ok (.ireturn, 1) := by decide +kernel
theorem dL_law_327 : decode cL_law 327 = .ok (.aload_n 1, 1) := by decide +kernel
theorem dL_law_328 : decode cL_law 328 = .ok (.aload_n 0, 1) := by decide +kernel
theorem dL_law_329 : decode cL_law 329 = .ok (.iload_n 3, 1) := by decide +kernel
theorem dL_law_330 : decode cL_law 330 = .ok (.iconst 1, 1) := by decide +kernel
theorem dL_law_331 : decode cL_law 331 = .ok (.iadd, 1) := by decide +kernel
theorem dL_law_332 : decode cL_law 332 = .ok (.iaload, 1) := by decide +kernel
theorem dL_law_333 : decode cL_law 333 = .ok (.aload_n 0, 1) := by decide +kernel
theorem dL_law_334 : decode cL_law 334 = .ok (.iload_n 3, 1) := by decide +kernel
theorem dL_law_335 : decode cL_law 335 = .ok (.iconst 2, 1) := by decide +kernel
theorem dL_law_336 : decode cL_law 336 = .ok (.iadd, 1) := by decide +kernel
theorem dL_law_337 : decode cL_law 337 = .ok (.iaload, 1) := by decide +kernel
theorem dL_law_338 : decode cL_law 338 = .ok (.invokevirtual 35, 3) := by decide +kernel
theorem dL_law_341 : decode cL_law 341 = .ok (.aload_n 2, 1) := by decide +kernel
theorem dL_law_342 : decode cL_law 342 = .ok (.aload_n 0, 1) := by decide +kernel
theorem dL_law_343 : decode cL_law 343 = .ok (.iload_n 3, 1) := by decide +kernel
theorem dL_law_344 : decode cL_law 344 = .ok (.iconst 1, 1) := by decide +kernel
theorem dL_law_345 : decode cL_law 345 = .ok (.iadd, 1) := by decide +kernel
theorem dL_law_346 : decode cL_law 346 = .ok (.iaload, 1) := by decide +kernel
theorem dL_law_347 : decode cL_law 347 = .ok (.aload_n 0, 1) := by decide +kernel
theorem dL_law_348 : decode cL_law 348 = .ok (.iload_n 3, 1) := by decide +kernel
theorem dL_law_349 : decode cL_law 349 = .ok (.iconst 2, 1) := by decide +kernel
theorem dL_law_350 : decode cL_law 350 = .ok (.iadd, 1) := by decide +kernel
theorem dL_law_351 : decode cL_law 351 = .ok (.iaload, 1) := by decide +kernel
theorem dL_law_352 : decode cL_law 352 = .ok (.invokevirtual 38, 3) := by decide +kernel
theorem dL_law_355 : decode cL_law 355 = .ok (.if_icmp .eq 917, 3) := by decide +kernel
theorem dL_law_358 : decode cL_law 358 = .ok (.iconst 0, 1) := by decide +kernel
theorem dL_law_359 : decode cL_law 359 = .ok (.ireturn, 1) := by decide +kernel
theorem dL_law_360 : decode cL_law 360 = .ok (.aload_n 1, 1) := by decide +kernel
theorem dL_law_361 : decode cL_law 361 = .ok (.aload_n 0, 1) := by decide +kernel
theorem dL_law_362 : decode cL_law 362 = .ok (.iload_n 3, 1) := by decide +kernel
theorem dL_law_363 : decode cL_law 363 = .ok (.iconst 1, 1) := by decide +kernel
theorem dL_law_364 : decode cL_law 364 = .ok (.iadd, 1) := by decide +kernel
theorem dL_law_365 : decode cL_law 365 = .ok (.iaload, 1) := by decide +kernel
theorem dL_law_366 : decode cL_law 366 = .ok (.aload_n 0, 1) := by decide +kernel
theorem dL_law_367 : decode cL_law 367 = .ok (.iload_n 3, 1) := by decide +kernel
theorem dL_law_368 : decode cL_law 368 = .ok (.iconst 2, 1) := by decide +kernel
theorem dL_law_369 : decode cL_law 369 = .ok (.iadd, 1) := by decide +kernel
theorem dL_law_370 : decode cL_law 370 = .ok (.iaload, 1) := by decide +kernel
theorem dL_law_371 : decode cL_law 371 = .ok (.aload_n 0, 1) := by decide +kernel
theorem dL_law_372 : decode cL_law 372 = .ok (.iload_n 3, 1) := by decide +kernel
theorem dL_law_373 : decode cL_law 373 = .ok (.iconst 3, 1) := by decide +kernel
theorem dL_law_374 : decode cL_law 374 = .ok (.iadd, 1) := by decide +kernel
theorem dL_law_375 : decode cL_law 375 = .ok (.iaload, 1) := by decide +kernel
theorem dL_law_376 : decode cL_law 376 = .ok (.invokevirtual 39, 3) := by decide +kernel
theorem dL_law_379 : decode cL_law 379 = .ok (.aload_n 2, 1) := by decide +kernel
theorem dL_law_380 : decode cL_law 380 = .ok (.aload_n 0, 1) := by decide +kernel
theorem dL_law_381 : decode cL_law 381 = .ok (.iload_n 3, 1) := by decide +kernel
theorem dL_law_382 : decode cL_law 382 = .ok (.iconst 1, 1) := by decide +kernel
theorem dL_law_383 : decode cL_law 383 = .ok (.iadd, 1) := by decide +kernel
theorem dL_law_384 : decode cL_law 384 = .ok (.iaload, 1) := by decide +kernel
theorem dL_law_385 : decode cL_law 385 = .ok (.aload_n 0, 1) := by decide +kernel
theorem dL_law_386 : decode cL_law 386 = .ok (.iload_n 3, 1) := by decide +kernel
theorem dL_law_387 : decode cL_law 387 = .ok (.iconst 2, 1) := by decide +kernel
theorem dL_law_388 : decode cL_law 388 = .ok (.iadd, 1) := by decide +kernel
theorem dL_law_389 : decode cL_law 389 = .ok (.iaload, 1) := by decide +kernel
theorem dL_law_390 : decode cL_law 390 = .ok (.aload_n 0, 1) := by decide +kernel
theorem dL_law_391 : decode cL_law 391 = .ok (.iload_n 3, 1) := by decide +kernel
theorem dL_law_392 : decode cL_law 392 = .ok (.iconst 3, 1) := by decide +kernel
theorem dL_law_393 : decode cL_law 393 = .ok (.iadd, 1) := by decide +kernel
theorem dL_law_394 : decode cL_law 394 = .ok (.iaload, 1) := by decide +kernel
theorem dL_law_395 : decode cL_law 395 = .ok (.invokevirtual 43, 3) := by decide +kernel
theorem dL_law_398 : decode cL_law 398 = .ok (.if_icmp .eq 874, 3) := by decide +kernel
theorem dL_law_401 : decode cL_law 401 = .ok (.iconst 0, 1) := by decide +kernel
theorem dL_law_402 : decode cL_law 402 = .ok (.ireturn, 1) := by decide +kernel
theorem dL_law_403 : decode cL_law 403 = .ok (.aload_n 1, 1) := by decide +kernel
theorem dL_law_404 : decode cL_law 404 = .ok (.invokevirtual 44, 3) := by decide +kernel
theorem dL_law_407 : decode cL_law 407 = .ok (.aload_n 2, 1) := by decide +kernel
theorem dL_law_408 : decode cL_law 408 = .ok (.invokevirtual 48, 3) := by decide +kernel
theorem dL_law_411 : decode cL_law 411 = .ok (.if_icmp .eq 861, 3) := by decide +kernel
theorem dL_law_414 : decode cL_law 414 = .ok (.iconst 0, 1) := by decide +kernel
theorem dL_law_415 : decode cL_law 415 = .ok (.ireturn, 1) := by decide +kernel
theorem dL_law_416 : decode cL_law 416 = .ok (.aload_n 1, 1) := by decide +kernel
theorem dL_law_417 : decode cL_law 417 = .ok (.aload_n 0, 1) := by decide +kernel
theorem dL_law_418 : decode cL_law 418 = .ok (.iload_n 3, 1) := by decide +kernel
theorem dL_law_419 : decode cL_law 419 = .ok (.iconst 1, 1) := by decide +kernel
theorem dL_law_420 : decode cL_law 420 = .ok (.iadd, 1) := by decide +kernel
theorem dL_law_421 : decode cL_law 421 = .ok (.iaload, 1) := by decide +kernel
theorem dL_law_422 : decode cL_law 422 = .ok (.invokevirtual 49, 3) := by decide +kernel
theorem dL_law_425 : decode cL_law 425 = .ok (.aload_n 2, 1) := by decide +kernel
theorem dL_law_426 : decode cL_law 426 = .ok (.aload_n 0, 1) := by decide +kernel
theorem dL_law_427 : decode cL_law 427 = .ok (.iload_n 3, 1) := by decide +kernel
theorem dL_law_428 : decode cL_law 428 = .ok (.iconst 1, 1) := by decide +kernel
theorem dL_law_429 : decode cL_law 429 = .ok (.iadd, 1) := by decide +kernel
theorem dL_law_430 : decode cL_law 430 = .ok (.iaload, 1) := by decide +kernel
theorem dL_law_431 : decode cL_law 431 = .ok (.invokevirtual 52, 3) := by decide +kernel
theorem dL_law_434 : decode cL_law 434 = .ok (.if_icmp .eq 838, 3) := by decide +kernel
theorem dL_law_437 : decode cL_law 437 = .ok (.iconst 0, 1) := by decide +kernel
theorem dL_law_438 : decode cL_law 438 = .ok (.ireturn, 1) := by decide +kernel
theorem dL_law_439 : decode cL_law 439 = .ok (.aload_n 1, 1) := by decide +kernel
theorem dL_law_440 : decode cL_law 440 = .ok (.aload_n 0, 1) := by decide +kernel
theorem dL_law_441 : decode cL_law 441 = .ok (.iload_n 3, 1) := by decide +kernel
theorem dL_law_442 : decode cL_law 442 = .ok (.iconst 1, 1) := by decide +kernel
theorem dL_law_443 : decode cL_law 443 = .ok (.iadd, 1) := by decide +kernel
theorem dL_law_444 : decode cL_law 444 = .ok (.iaload, 1) := by decide +kernel
theorem dL_law_445 : decode cL_law 445 = .ok (.aload_n 0, 1) := by decide +kernel
theorem dL_law_446 : decode cL_law 446 = .ok (.iload_n 3, 1) := by decide +kernel
theorem dL_law_447 : decode cL_law 447 = .ok (.iconst 2, 1) := by decide +kernel
theorem dL_law_448 : decode cL_law 448 = .ok (.iadd, 1) := by decide +kernel
theorem dL_law_449 : decode cL_law 449 = .ok (.iaload, 1) := by decide +kernel
theorem dL_law_450 : decode cL_law 450 = .ok (.invokevirtual 53, 3) := by decide +kernel
theorem dL_law_453 : decode cL_law 453 = .ok (.aload_n 2, 1) := by decide +kernel
theorem dL_law_454 : decode cL_law 454 = .ok (.aload_n 0, 1) := by decide +kernel
theorem dL_law_455 : decode cL_law 455 = .ok (.iload_n 3, 1) := by decide +kernel
theorem dL_law_456 : decode cL_law 456 = .ok (.iconst 1, 1) := by decide +kernel
theorem dL_law_457 : decode cL_law 457 = .ok (.iadd, 1) := by decide +kernel
theorem dL_law_458 : decode cL_law 458 = .ok (.iaload, 1) := by decide +kernel
theorem dL_law_459 : decode cL_law 459 = .ok (.aload_n 0, 1) := by decide +kernel
theorem dL_law_460 : decode cL_law 460 = .ok (.iload_n 3, 1) := by decide +kernel
theorem dL_law_461 : decode cL_law 461 = .ok (.iconst 2, 1) := by decide +kernel
theorem dL_law_462 : decode cL_law 462 = .ok (.iadd, 1) := by decide +kernel
theorem dL_law_463 : decode cL_law 463 = .ok (.iaload, 1) := by decide +kernel
theorem dL_law_464 : decode cL_law 464 = .ok (.invokevirtual 56, 3) := by decide +kernel
theorem dL_law_467 : decode cL_law 467 = .ok (.if_icmp .eq 805, 3) := by decide +kernel
theorem dL_law_470 : decode cL_law 470 = .ok (.iconst 0, 1) := by decide +kernel
theorem dL_law_471 : decode cL_law 471 = .ok (.ireturn, 1) := by decide +kernel
theorem dL_law_472 : decode cL_law 472 = .ok (.aload_n 1, 1) := by decide +kernel
theorem dL_law_473 : decode cL_law 473 = .ok (.aload_n 0, 1) := by decide +kernel
theorem dL_law_474 : decode cL_law 474 = .ok (.iload_n 3, 1) := by decide +kernel
theorem dL_law_475 : decode cL_law 475 = .ok (.iconst 1, 1) := by decide +kernel
theorem dL_law_476 : decode cL_law 476 = .ok (.iadd, 1) := by decide +kernel
theorem dL_law_477 : decode cL_law 477 = .ok (.iaload, 1) := by decide +kernel
theorem dL_law_478 : decode cL_law 478 = .ok (.aload_n 0, 1) := by decide +kernel
theorem dL_law_479 : decode cL_law 479 = .ok (.iload_n 3, 1) := by decide +kernel
theorem dL_law_480 : decode cL_law 480 = .ok (.iconst 2, 1) := by decide +kernel
theorem dL_law_481 : decode cL_law 481 = .ok (.iadd, 1) := by decide +kernel
theorem dL_law_482 : decode cL_law 482 = .ok (.iaload, 1) := by decide +kernel
theorem dL_law_483 : decode cL_law 483 = .ok (.aload_n 0, 1) := by decide +kernel
theorem dL_law_484 : decode cL_law 484 = .ok (.iload_n 3, 1) := by decide +kernel
theorem dL_law_485 : decode cL_law 485 = .ok (.iconst 3, 1) := by decide +kernel
theorem dL_law_486 : decode cL_law 486 = .ok (.iadd, 1) := by decide +kernel
theorem dL_law_487 : decode cL_law 487 = .ok (.iaload, 1) := by decide +kernel
theorem dL_law_488 : decode cL_law 488 = .ok (.invokevirtual 57, 3) := by decide +kernel
theorem dL_law_491 : decode cL_law 491 = .ok (.aload_n 2, 1) := by decide +kernel
theorem dL_law_492 : decode cL_law 492 = .ok (.aload_n 0, 1) := by decide +kernel
theorem dL_law_493 : decode cL_law 493 = .ok (.iload_n 3, 1) := by decide +kernel
theorem dL_law_494 : decode cL_law 494 = .ok (.iconst 1, 1) := by decide +kernel
theorem dL_law_495 : decode cL_law 495 = .ok (.iadd, 1) := by decide +kernel
theorem dL_law_496 : decode cL_law 496 = .ok (.iaload, 1) := by decide +kernel
theorem dL_law_497 : decode cL_law 497 = .ok (.aload_n 0, 1) := by decide +kernel
theorem dL_law_498 : decode cL_law 498 = .ok (.iload_n 3, 1) := by decide +kernel
theorem dL_law_499 : decode cL_law 499 = .ok (.iconst 2, 1) := by decide +kernel
theorem dL_law_500 : decode cL_law 500 = .ok (.iadd, 1) := by decide +kernel
theorem dL_law_501 : decode cL_law 501 = .ok (.iaload, 1) := by decide +kernel
theorem dL_law_502 : decode cL_law 502 = .ok (.aload_n 0, 1) := by decide +kernel
theorem dL_law_503 : decode cL_law 503 = .ok (.iload_n 3, 1) := by decide +kernel
theorem dL_law_504 : decode cL_law 504 = .ok (.iconst 3, 1) := by decide +kernel
theorem dL_law_505 : decode cL_law 505 = .ok (.iadd, 1) := by decide +kernel
theorem dL_law_506 : decode cL_law 506 = .ok (.iaload, 1) := by decide +kernel
theorem dL_law_507 : decode cL_law 507 = .ok (.invokevirtual 60, 3) := by decide +kernel
theorem dL_law_510 : decode cL_law 510 = .ok (.if_icmp .eq 762, 3) := by decide +kernel
theorem dL_law_513 : decode cL_law 513 = .ok (.iconst 0, 1) := by decide +kernel
theorem dL_law_514 : decode cL_law 514 = .ok (.ireturn, 1) := by decide +kernel
theorem dL_law_515 : decode cL_law 515 = .ok (.aload_n 1, 1) := by decide +kernel
theorem dL_law_516 : decode cL_law 516 = .ok (.aload_n 0, 1) := by decide +kernel
theorem dL_law_517 : decode cL_law 517 = .ok (.iload_n 3, 1) := by decide +kernel
theorem dL_law_518 : decode cL_law 518 = .ok (.iconst 1, 1) := by decide +kernel
theorem dL_law_519 : decode cL_law 519 = .ok (.iadd, 1) := by decide +kernel
theorem dL_law_520 : decode cL_law 520 = .ok (.iaload, 1) := by decide +kernel
theorem dL_law_521 : decode cL_law 521 = .ok (.aload_n 0, 1) := by decide +kernel
theorem dL_law_522 : decode cL_law 522 = .ok (.iload_n 3, 1) := by decide +kernel
theorem dL_law_523 : decode cL_law 523 = .ok (.iconst 2, 1) := by decide +kernel
theorem dL_law_524 : decode cL_law 524 = .ok (.iadd, 1) := by decide +kernel
theorem dL_law_525 : decode cL_law 525 = .ok (.iaload, 1) := by decide +kernel
theorem dL_law_526 : decode cL_law 526 = .ok (.invokevirtual 61, 3) := by decide +kernel
theorem dL_law_529 : decode cL_law 529 = .ok (.aload_n 2, 1) := by decide +kernel
theorem dL_law_530 : decode cL_law 530 = .ok (.aload_n 0, 1) := by decide +kernel
theorem dL_law_531 : decode cL_law 531 = .ok (.iload_n 3, 1) := by decide +kernel
theorem dL_law_532 : decode cL_law 532 = .ok (.iconst 1, 1) := by decide +kernel
theorem dL_law_533 : decode cL_law 533 = .ok (.iadd, 1) := by decide +kernel
theorem dL_law_534 : decode cL_law 534 = .ok (.iaload, 1) := by decide +kernel
theorem dL_law_535 : decode cL_law 535 = .ok (.aload_n 0, 1) := by decide +kernel
theorem dL_law_536 : decode cL_law 536 = .ok (.iload_n 3, 1) := by decide +kernel
theorem dL_law_537 : decode cL_law 537 = .ok (.iconst 2, 1) := by decide +kernel
theorem dL_law_538 : decode cL_law 538 = .ok (.iadd, 1) := by decide +kernel
theorem dL_law_539 : decode cL_law 539 = .ok (.iaload, 1) := by decide +kernel
theorem dL_law_540 : decode cL_law 540 = .ok (.invokevirtual 64, 3) := by decide +kernel
theorem dL_law_543 : decode cL_law 543 = .ok (.if_icmp .eq 729, 3) := by decide +kernel
theorem dL_law_546 : decode cL_law 546 = .ok (.iconst 0, 1) := by decide +kernel
theorem dL_law_547 : decode cL_law 547 = .ok (.ireturn, 1) := by decide +kernel
theorem dL_law_548 : decode cL_law 548 = .ok (.aload_n 1, 1) := by decide +kernel
theorem dL_law_549 : decode cL_law 549 = .ok (.aload_n 0, 1) := by decide +kernel
theorem dL_law_550 : decode cL_law 550 = .ok (.iload_n 3, 1) := by decide +kernel
theorem dL_law_551 : decode cL_law 551 = .ok (.iconst 1, 1) := by decide +kernel
theorem dL_law_552 : decode cL_law 552 = .ok (.iadd, 1) := by decide +kernel
theorem dL_law_553 : decode cL_law 553 = .ok (.iaload, 1) := by decide +kernel
theorem dL_law_554 : decode cL_law 554 = .ok (.invokevirtual 65, 3) := by decide +kernel
theorem dL_law_557 : decode cL_law 557 = .ok (.aload_n 2, 1) := by decide +kernel
theorem dL_law_558 : decode cL_law 558 = .ok (.aload_n 0, 1) := by decide +kernel
theorem dL_law_559 : decode cL_law 559 = .ok (.iload_n 3, 1) := by decide +kernel
theorem dL_law_560 : decode cL_law 560 = .ok (.iconst 1, 1) := by decide +kernel
theorem dL_law_561 : decode cL_law 561 = .ok (.iadd, 1) := by decide +kernel
theorem dL_law_562 : decode cL_law 562 = .ok (.iaload, 1) := by decide +kernel
theorem dL_law_563 : decode cL_law 563 = .ok (.invokevirtual 68, 3) := by decide +kernel
theorem dL_law_566 : decode cL_law 566 = .ok (.if_icmp .eq 706, 3) := by decide +kernel
theorem dL_law_569 : decode cL_law 569 = .ok (.iconst 0, 1) := by decide +kernel
theorem dL_law_570 : decode cL_law 570 = .ok (.ireturn, 1) := by decide +kernel
theorem dL_law_571 : decode cL_law 571 = .ok (.aload_n 1, 1) := by decide +kernel
theorem dL_law_572 : decode cL_law 572 = .ok (.invokevirtual 69, 3) := by decide +kernel
theorem dL_law_575 : decode cL_law 575 = .ok (.aload_n 2, 1) := by decide +kernel
theorem dL_law_576 : decode cL_law 576 = .ok (.invokevirtual 72, 3) := by decide +kernel
theorem dL_law_579 : decode cL_law 579 = .ok (.if_icmp .eq 693, 3) := by decide +kernel
theorem dL_law_582 : decode cL_law 582 = .ok (.iconst 0, 1) := by decide +kernel
theorem dL_law_583 : decode cL_law 583 = .ok (.ireturn, 1) := by decide +kernel
theorem dL_law_584 : decode cL_law 584 = .ok (.aload_n 1, 1) := by decide +kernel
theorem dL_law_585 : decode cL_law 585 = .ok (.invokevirtual 73, 3) := by decide +kernel
theorem dL_law_588 : decode cL_law 588 = .ok (.aload_n 2, 1) := by decide +kernel
theorem dL_law_589 : decode cL_law 589 = .ok (.invokevirtual 76, 3) := by decide +kernel
theorem dL_law_592 : decode cL_law 592 = .ok (.if_icmp .eq 680, 3) := by decide +kernel
theorem dL_law_595 : decode cL_law 595 = .ok (.iconst 0, 1) := by decide +kernel
theorem dL_law_596 : decode cL_law 596 = .ok (.ireturn, 1) := by decide +kernel
theorem dL_law_597 : decode cL_law 597 = .ok (.aload_n 1, 1) := by decide +kernel
theorem dL_law_598 : decode cL_law 598 = .ok (.aload_n 0, 1) := by decide +kernel
theorem dL_law_599 : decode cL_law 599 = .ok (.iload_n 3, 1) := by decide +kernel
theorem dL_law_600 : decode cL_law 600 = .ok (.iconst 1, 1) := by decide +kernel
theorem dL_law_601 : decode cL_law 601 = .ok (.iadd, 1) := by decide +kernel
theorem dL_law_602 : decode cL_law 602 = .ok (.iaload, 1) := by decide +kernel
theorem dL_law_603 : decode cL_law 603 = .ok (.invokevirtual 77, 3) := by decide +kernel
theorem dL_law_606 : decode cL_law 606 = .ok (.aload_n 2, 1) := by decide +kernel
theorem dL_law_607 : decode cL_law 607 = .ok (.aload_n 0, 1) := by decide +kernel
theorem dL_law_608 : decode cL_law 608 = .ok (.iload_n 3, 1) := by decide +kernel
theorem dL_law_609 : decode cL_law 609 = .ok (.iconst 1, 1) := by decide +kernel
theorem dL_law_610 : decode cL_law 610 = .ok (.iadd, 1) := by decide +kernel
theorem dL_law_611 : decode cL_law 611 = .ok (.iaload, 1) := by decide +kernel
theorem dL_law_612 : decode cL_law 612 = .ok (.invokevirtual 80, 3) := by decide +kernel
theorem dL_law_615 : decode cL_law 615 = .ok (.if_icmp .eq 657, 3) := by decide +kernel
theorem dL_law_618 : decode cL_law 618 = .ok (.iconst 0, 1) := by decide +kernel
theorem dL_law_619 : decode cL_law 619 = .ok (.ireturn, 1) := by decide +kernel
theorem dL_law_620 : decode cL_law 620 = .ok (.aload_n 1, 1) := by decide +kernel
theorem dL_law_621 : decode cL_law 621 = .ok (.aload_n 0, 1) := by decide +kernel
theorem dL_law_622 : decode cL_law 622 = .ok (.iload_n 3, 1) := by decide +kernel
theorem dL_law_623 : decode cL_law 623 = .ok (.iconst 1, 1) := by decide +kernel
theorem dL_law_624 : decode cL_law 624 = .ok (.iadd, 1) := by decide +kernel
theorem dL_law_625 : decode cL_law 625 = .ok (.iaload, 1) := by decide +kernel
theorem dL_law_626 : decode cL_law 626 = .ok (.aload_n 0, 1) := by decide +kernel
theorem dL_law_627 : decode cL_law 627 = .ok (.iload_n 3, 1) := by decide +kernel
theorem dL_law_628 : decode cL_law 628 = .ok (.iconst 2, 1) := by decide +kernel
theorem dL_law_629 : decode cL_law 629 = .ok (.iadd, 1) := by decide +kernel
theorem dL_law_630 : decode cL_law 630 = .ok (.iaload, 1) := by decide +kernel
theorem dL_law_631 : decode cL_law 631 = .ok (.invokevirtual 81, 3) := by decide +kernel
theorem dL_law_634 : decode cL_law 634 = .ok (.aload_n 2, 1) := by decide +kernel
theorem dL_law_635 : decode cL_law 635 = .ok (.aload_n 0, 1) := by decide +kernel
theorem dL_law_636 : decode cL_law 636 = .ok (.iload_n 3, 1) := by decide +kernel
theorem dL_law_637 : decode cL_law 637 = .ok (.iconst 1, 1) := by decide +kernel
theorem dL_law_638 : decode cL_law 638 = .ok (.iadd, 1) := by decide +kernel
theorem dL_law_639 : decode cL_law 639 = .ok (.iaload, 1) := by decide +kernel
theorem dL_law_640 : decode cL_law 640 = .ok (.aload_n 0, 1) := by decide +kernel
theorem dL_law_641 : decode cL_law 641 = .ok (.iload_n 3, 1) := by decide +kernel
theorem dL_law_642 : decode cL_law 642 = .ok (.iconst 2, 1) := by decide +kernel
theorem dL_law_643 : decode cL_law 643 = .ok (.iadd, 1) := by decide +kernel
theorem dL_law_644 : decode cL_law 644 = .ok (.iaload, 1) := by decide +kernel
theorem dL_law_645 : decode cL_law 645 = .ok (.invokevirtual 84, 3) := by decide +kernel
theorem dL_law_648 : decode cL_law 648 = .ok (.if_icmp .eq 624, 3) := by decide +kernel
theorem dL_law_651 : decode cL_law 651 = .ok (.iconst 0, 1) := by decide +kernel
theorem dL_law_652 : decode cL_law 652 = .ok (.ireturn, 1) := by decide +kernel
theorem dL_law_653 : decode cL_law 653 = .ok (.aload_n 1, 1) := by decide +kernel
theorem dL_law_654 : decode cL_law 654 = .ok (.aload_n 0, 1) := by decide +kernel
theorem dL_law_655 : decode cL_law 655 = .ok (.iload_n 3, 1) := by decide +kernel
theorem dL_law_656 : decode cL_law 656 = .ok (.iconst 1, 1) := by decide +kernel
theorem dL_law_657 : decode cL_law 657 = .ok (.iadd, 1) := by decide +kernel
theorem dL_law_658 : decode cL_law 658 = .ok (.iaload, 1) := by decide +kernel
theorem dL_law_659 : decode cL_law 659 = .ok (.aload_n 0, 1) := by decide +kernel
theorem dL_law_660 : decode cL_law 660 = .ok (.iload_n 3, 1) := by decide +kernel
theorem dL_law_661 : decode cL_law 661 = .ok (.iconst 2, 1) := by decide +kernel
theorem dL_law_662 : decode cL_law 662 = .ok (.iadd, 1) := by decide +kernel
theorem dL_law_663 : decode cL_law 663 = .ok (.iaload, 1) := by decide +kernel
theorem dL_law_664 : decode cL_law 664 = .ok (.invokevirtual 85, 3) := by decide +kernel
theorem dL_law_667 : decode cL_law 667 = .ok (.aload_n 2, 1) := by decide +kernel
theorem dL_law_668 : decode cL_law 668 = .ok (.aload_n 0, 1) := by decide +kernel
theorem dL_law_669 : decode cL_law 669 = .ok (.iload_n 3, 1) := by decide +kernel
theorem dL_law_670 : decode cL_law 670 = .ok (.iconst 1, 1) := by decide +kernel
theorem dL_law_671 : decode cL_law 671 = .ok (.iadd, 1) := by decide +kernel
theorem dL_law_672 : decode cL_law 672 = .ok (.iaload, 1) := by decide +kernel
theorem dL_law_673 : decode cL_law 673 = .ok (.aload_n 0, 1) := by decide +kernel
theorem dL_law_674 : decode cL_law 674 = .ok (.iload_n 3, 1) := by decide +kernel
theorem dL_law_675 : decode cL_law 675 = .ok (.iconst 2, 1) := by decide +kernel
theorem dL_law_676 : decode cL_law 676 = .ok (.iadd, 1) := by decide +kernel
theorem dL_law_677 : decode cL_law 677 = .ok (.iaload, 1) := by decide +kernel
theorem dL_law_678 : decode cL_law 678 = .ok (.invokevirtual 88, 3) := by decide +kernel
theorem dL_law_681 : decode cL_law 681 = .ok (.if_icmp .eq 591, 3) := by decide +kernel
theorem dL_law_684 : decode cL_law 684 = .ok (.iconst 0, 1) := by decide +kernel
theorem dL_law_685 : decode cL_law 685 = .ok (.ireturn, 1) := by decide +kernel
theorem dL_law_686 : decode cL_law 686 = .ok (.aload_n 1, 1) := by decide +kernel
theorem dL_law_687 : decode cL_law 687 = .ok (.aload_n 0, 1) := by decide +kernel
theorem dL_law_688 : decode cL_law 688 = .ok (.iload_n 3, 1) := by decide +kernel
theorem dL_law_689 : decode cL_law 689 = .ok (.iconst 1, 1) := by decide +kernel
theorem dL_law_690 : decode cL_law 690 = .ok (.iadd, 1) := by decide +kernel
theorem dL_law_691 : decode cL_law 691 = .ok (.iaload, 1) := by decide +kernel
theorem dL_law_692 : decode cL_law 692 = .ok (.aload_n 0, 1) := by decide +kernel
theorem dL_law_693 : decode cL_law 693 = .ok (.iload_n 3, 1) := by decide +kernel
theorem dL_law_694 : decode cL_law 694 = .ok (.iconst 2, 1) := by decide +kernel
theorem dL_law_695 : decode cL_law 695 = .ok (.iadd, 1) := by decide +kernel
theorem dL_law_696 : decode cL_law 696 = .ok (.iaload, 1) := by decide +kernel
theorem dL_law_697 : decode cL_law 697 = .ok (.aload_n 0, 1) := by decide +kernel
theorem dL_law_698 : decode cL_law 698 = .ok (.iload_n 3, 1) := by decide +kernel
theorem dL_law_699 : decode cL_law 699 = .ok (.iconst 3, 1) := by decide +kernel
theorem dL_law_700 : decode cL_law 700 = .ok (.iadd, 1) := by decide +kernel
theorem dL_law_701 : decode cL_law 701 = .ok (.iaload, 1) := by decide +kernel
theorem dL_law_702 : decode cL_law 702 = .ok (.invokevirtual 89, 3) := by decide +kernel
theorem dL_law_705 : decode cL_law 705 = .ok (.aload_n 2, 1) := by decide +kernel
theorem dL_law_706 : decode cL_law 706 = .ok (.aload_n 0, 1) := by decide +kernel
theorem dL_law_707 : decode cL_law 707 = .ok (.iload_n 3, 1) := by decide +kernel
theorem dL_law_708 : decode cL_law 708 = .ok (.iconst 1, 1) := by decide +kernel
theorem dL_law_709 : decode cL_law 709 = .ok (.iadd, 1) := by decide +kernel
theorem dL_law_710 : decode cL_law 710 = .ok (.iaload, 1) := by decide +kernel
theorem dL_law_711 : decode cL_law 711 = .ok (.aload_n 0, 1) := by decide +kernel
theorem dL_law_712 : decode cL_law 712 = .ok (.iload_n 3, 1) := by decide +kernel
theorem dL_law_713 : decode cL_law 713 = .ok (.iconst 2, 1) := by decide +kernel
theorem dL_law_714 : decode cL_law 714 = .ok (.iadd, 1) := by decide +kernel
theorem dL_law_715 : decode cL_law 715 = .ok (.iaload, 1) := by decide +kernel
theorem dL_law_716 : decode cL_law 716 = .ok (.aload_n 0, 1) := by decide +kernel
theorem dL_law_717 : decode cL_law 717 = .ok (.iload_n 3, 1) := by decide +kernel
theorem dL_law_718 : decode cL_law 718 = .ok (.iconst 3, 1) := by decide +kernel
theorem dL_law_719 : decode cL_law 719 = .ok (.iadd, 1) := by decide +kernel
theorem dL_law_720 : decode cL_law 720 = .ok (.iaload, 1) := by decide +kernel
theorem dL_law_721 : decode cL_law 721 = .ok (.invokevirtual 92, 3) := by decide +kernel
theorem dL_law_724 : decode cL_law 724 = .ok (.if_icmp .eq 548, 3) := by decide +kernel
theorem dL_law_727 : decode cL_law 727 = .ok (.iconst 0, 1) := by decide +kernel
theorem dL_law_728 : decode cL_law 728 = .ok (.ireturn, 1) := by decide +kernel
theorem dL_law_729 : decode cL_law 729 = .ok (.aload_n 1, 1) := by decide +kernel
theorem dL_law_730 : decode cL_law 730 = .ok (.aload_n 0, 1) := by decide +kernel
theorem dL_law_731 : decode cL_law 731 = .ok (.iload_n 3, 1) := by decide +kernel
theorem dL_law_732 : decode cL_law 732 = .ok (.iconst 1, 1) := by decide +kernel
theorem dL_law_733 : decode cL_law 733 = .ok (.iadd, 1) := by decide +kernel
theorem dL_law_734 : decode cL_law 734 = .ok (.iaload, 1) := by decide +kernel
theorem dL_law_735 : decode cL_law 735 = .ok (.invokevirtual 93, 3) := by decide +kernel
theorem dL_law_738 : decode cL_law 738 = .ok (.aload_n 2, 1) := by decide +kernel
theorem dL_law_739 : decode cL_law 739 = .ok (.aload_n 0, 1) := by decide +kernel
theorem dL_law_740 : decode cL_law 740 = .ok (.iload_n 3, 1) := by decide +kernel
theorem dL_law_741 : decode cL_law 741 = .ok (.iconst 1, 1) := by decide +kernel
theorem dL_law_742 : decode cL_law 742 = .ok (.iadd, 1) := by decide +kernel
theorem dL_law_743 : decode cL_law 743 = .ok (.iaload, 1) := by decide +kernel
theorem dL_law_744 : decode cL_law 744 = .ok (.invokevirtual 96, 3) := by decide +kernel
theorem dL_law_747 : decode cL_law 747 = .ok (.if_icmp .eq 525, 3) := by decide +kernel
theorem dL_law_750 : decode cL_law 750 = .ok (.iconst 0, 1) := by decide +kernel
theorem dL_law_751 : decode cL_law 751 = .ok (.ireturn, 1) := by decide +kernel
theorem dL_law_752 : decode cL_law 752 = .ok (.aload_n 1, 1) := by decide +kernel
theorem dL_law_753 : decode cL_law 753 = .ok (.aload_n 0, 1) := by decide +kernel
theorem dL_law_754 : decode cL_law 754 = .ok (.iload_n 3, 1) := by decide +kernel
theorem dL_law_755 : decode cL_law 755 = .ok (.iconst 1, 1) := by decide +kernel
theorem dL_law_756 : decode cL_law 756 = .ok (.iadd, 1) := by decide +kernel
theorem dL_law_757 : decode cL_law 757 = .ok (.iaload, 1) := by decide +kernel
theorem dL_law_758 : decode cL_law 758 = .ok (.aload_n 0, 1) := by decide +kernel
theorem dL_law_759 : decode cL_law 759 = .ok (.iload_n 3, 1) := by decide +kernel
theorem dL_law_760 : decode cL_law 760 = .ok (.iconst 2, 1) := by decide +kernel
theorem dL_law_761 : decode cL_law 761 = .ok (.iadd, 1) := by decide +kernel
theorem dL_law_762 : decode cL_law 762 = .ok (.iaload, 1) := by decide +kernel
theorem dL_law_763 : decode cL_law 763 = .ok (.aload_n 0, 1) := by decide +kernel
theorem dL_law_764 : decode cL_law 764 = .ok (.iload_n 3, 1) := by decide +kernel
theorem dL_law_765 : decode cL_law 765 = .ok (.iconst 3, 1) := by decide +kernel
theorem dL_law_766 : decode cL_law 766 = .ok (.iadd, 1) := by decide +kernel
theorem dL_law_767 : decode cL_law 767 = .ok (.iaload, 1) := by decide +kernel
theorem dL_law_768 : decode cL_law 768 = .ok (.invokevirtual 97, 3) := by decide +kernel
theorem dL_law_771 : decode cL_law 771 = .ok (.aload_n 2, 1) := by decide +kernel
theorem dL_law_772 : decode cL_law 772 = .ok (.aload_n 0, 1) := by decide +kernel
theorem dL_law_773 : decode cL_law 773 = .ok (.iload_n 3, 1) := by decide +kernel
theorem dL_law_774 : decode cL_law 774 = .ok (.iconst 1, 1) := by decide +kernel
theorem dL_law_775 : decode cL_law 775 = .ok (.iadd, 1) := by decide +kernel
theorem dL_law_776 : decode cL_law 776 = .ok (.iaload, 1) := by decide +kernel
theorem dL_law_777 : decode cL_law 777 = .ok (.aload_n 0, 1) := by decide +kernel
theorem dL_law_778 : decode cL_law 778 = .ok (.iload_n 3, 1) := by decide +kernel
theorem dL_law_779 : decode cL_law 779 = .ok (.iconst 2, 1) := by decide +kernel
theorem dL_law_780 : decode cL_law 780 = .ok (.iadd, 1) := by decide +kernel
theorem dL_law_781 : decode cL_law 781 = .ok (.iaload, 1) := by decide +kernel
theorem dL_law_782 : decode cL_law 782 = .ok (.aload_n 0, 1) := by decide +kernel
theorem dL_law_783 : decode cL_law 783 = .ok (.iload_n 3, 1) := by decide +kernel
theorem dL_law_784 : decode cL_law 784 = .ok (.iconst 3, 1) := by decide +kernel
theorem dL_law_785 : decode cL_law 785 = .ok (.iadd, 1) := by decide +kernel
theorem dL_law_786 : decode cL_law 786 = .ok (.iaload, 1) := by decide +kernel
theorem dL_law_787 : decode cL_law 787 = .ok (.invokevirtual 100, 3) := by decide +kernel
theorem dL_law_790 : decode cL_law 790 = .ok (.if_icmp .eq 482, 3) := by decide +kernel
theorem dL_law_793 : decode cL_law 793 = .ok (.iconst 0, 1) := by decide +kernel
theorem dL_law_794 : decode cL_law 794 = .ok (.ireturn, 1) := by decide +kernel
theorem dL_law_795 : decode cL_law 795 = .ok (.aload_n 1, 1) := by decide +kernel
theorem dL_law_796 : decode cL_law 796 = .ok (.invokevirtual 101, 3) := by decide +kernel
theorem dL_law_799 : decode cL_law 799 = .ok (.aload_n 2, 1) := by decide +kernel
theorem dL_law_800 : decode cL_law 800 = .ok (.invokevirtual 104, 3) := by decide +kernel
theorem dL_law_803 : decode cL_law 803 = .ok (.if_icmp .eq 469, 3) := by decide +kernel
theorem dL_law_806 : decode cL_law 806 = .ok (.iconst 0, 1) := by decide +kernel
theorem dL_law_807 : decode cL_law 807 = .ok (.ireturn, 1) := by decide +kernel
theorem dL_law_808 : decode cL_law 808 = .ok (.aload_n 1, 1) := by decide +kernel
theorem dL_law_809 : decode cL_law 809 = .ok (.invokevirtual 105, 3) := by decide +kernel
theorem dL_law_812 : decode cL_law 812 = .ok (.aload_n 2, 1) := by decide +kernel
theorem dL_law_813 : decode cL_law 813 = .ok (.invokevirtual 108, 3) := by decide +kernel
theorem dL_law_816 : decode cL_law 816 = .ok (.if_icmp .eq 456, 3) := by decide +kernel
theorem dL_law_819 : decode cL_law 819 = .ok (.iconst 0, 1) := by decide +kernel
theorem dL_law_820 : decode cL_law 820 = .ok (.ireturn, 1) := by decide +kernel
theorem dL_law_821 : decode cL_law 821 = .ok (.aload_n 1, 1) := by decide +kernel
theorem dL_law_822 : decode cL_law 822 = .ok (.aload_n 0, 1) := by decide +kernel
theorem dL_law_823 : decode cL_law 823 = .ok (.iload_n 3, 1) := by decide +kernel
theorem dL_law_824 : decode cL_law 824 = .ok (.iconst 1, 1) := by decide +kernel
theorem dL_law_825 : decode cL_law 825 = .ok (.iadd, 1) := by decide +kernel
theorem dL_law_826 : decode cL_law 826 = .ok (.iaload, 1) := by decide +kernel
theorem dL_law_827 : decode cL_law 827 = .ok (.invokevirtual 109, 3) := by decide +kernel
theorem dL_law_830 : decode cL_law 830 = .ok (.aload_n 2, 1) := by decide +kernel
theorem dL_law_831 : decode cL_law 831 = .ok (.aload_n 0, 1) := by decide +kernel
theorem dL_law_832 : decode cL_law 832 = .ok (.iload_n 3, 1) := by decide +kernel
theorem dL_law_833 : decode cL_law 833 = .ok (.iconst 1, 1) := by decide +kernel
theorem dL_law_834 : decode cL_law 834 = .ok (.iadd, 1) := by decide +kernel
theorem dL_law_835 : decode cL_law 835 = .ok (.iaload, 1) := by decide +kernel
theorem dL_law_836 : decode cL_law 836 = .ok (.invokevirtual 112, 3) := by decide +kernel
theorem dL_law_839 : decode cL_law 839 = .ok (.if_icmp .eq 433, 3) := by decide +kernel
theorem dL_law_842 : decode cL_law 842 = .ok (.iconst 0, 1) := by decide +kernel
theorem dL_law_843 : decode cL_law 843 = .ok (.ireturn, 1) := by decide +kernel
theorem dL_law_844 : decode cL_law 844 = .ok (.aload_n 1, 1) := by decide +kernel
theorem dL_law_845 : decode cL_law 845 = .ok (.aload_n 0, 1) := by decide +kernel
theorem dL_law_846 : decode cL_law 846 = .ok (.iload_n 3, 1) := by decide +kernel
theorem dL_law_847 : decode cL_law 847 = .ok (.iconst 1, 1) := by decide +kernel
theorem dL_law_848 : decode cL_law 848 = .ok (.iadd, 1) := by decide +kernel
theorem dL_law_849 : decode cL_law 849 = .ok (.iaload, 1) := by decide +kernel
theorem dL_law_850 : decode cL_law 850 = .ok (.invokevirtual 113, 3) := by decide +kernel
theorem dL_law_853 : decode cL_law 853 = .ok (.aload_n 2, 1) := by decide +kernel
theorem dL_law_854 : decode cL_law 854 = .ok (.aload_n 0, 1) := by decide +kernel
theorem dL_law_855 : decode cL_law 855 = .ok (.iload_n 3, 1) := by decide +kernel
theorem dL_law_856 : decode cL_law 856 = .ok (.iconst 1, 1) := by decide +kernel
theorem dL_law_857 : decode cL_law 857 = .ok (.iadd, 1) := by decide +kernel
theorem dL_law_858 : decode cL_law 858 = .ok (.iaload, 1) := by decide +kernel
theorem dL_law_859 : decode cL_law 859 = .ok (.invokevirtual 116, 3) := by decide +kernel
theorem dL_law_862 : decode cL_law 862 = .ok (.if_icmp .eq 410, 3) := by decide +kernel
theorem dL_law_865 : decode cL_law 865 = .ok (.iconst 0, 1) := by decide +kernel
theorem dL_law_866 : decode cL_law 866 = .ok (.ireturn, 1) := by decide +kernel
theorem dL_law_867 : decode cL_law 867 = .ok (.aload_n 1, 1) := by decide +kernel
theorem dL_law_868 : decode cL_law 868 = .ok (.aload_n 0, 1) := by decide +kernel
theorem dL_law_869 : decode cL_law 869 = .ok (.iload_n 3, 1) := by decide +kernel
theorem dL_law_870 : decode cL_law 870 = .ok (.iconst 1, 1) := by decide +kernel
theorem dL_law_871 : decode cL_law 871 = .ok (.iadd, 1) := by decide +kernel
theorem dL_law_872 : decode cL_law 872 = .ok (.iaload, 1) := by decide +kernel
theorem dL_law_873 : decode cL_law 873 = .ok (.invokevirtual 117, 3) := by decide +kernel
theorem dL_law_876 : decode cL_law 876 = .ok (.aload_n 2, 1) := by decide +kernel
theorem dL_law_877 : decode cL_law 877 = .ok (.aload_n 0, 1) := by decide +kernel
theorem dL_law_878 : decode cL_law 878 = .ok (.iload_n 3, 1) := by decide +kernel
theorem dL_law_879 : decode cL_law 879 = .ok (.iconst 1, 1) := by decide +kernel
theorem dL_law_880 : decode cL_law 880 = .ok (.iadd, 1) := by decide +kernel
theorem dL_law_881 : decode cL_law 881 = .ok (.iaload, 1) := by decide +kernel
theorem dL_law_882 : decode cL_law 882 = .ok (.invokevirtual 120, 3) := by decide +kernel
theorem dL_law_885 : decode cL_law 885 = .ok (.if_icmp .eq 387, 3) := by decide +kernel
theorem dL_law_888 : decode cL_law 888 = .ok (.iconst 0, 1) := by decide +kernel
theorem dL_law_889 : decode cL_law 889 = .ok (.ireturn, 1) := by decide +kernel
theorem dL_law_890 : decode cL_law 890 = .ok (.aload_n 1, 1) := by decide +kernel
theorem dL_law_891 : decode cL_law 891 = .ok (.aload_n 0, 1) := by decide +kernel
theorem dL_law_892 : decode cL_law 892 = .ok (.iload_n 3, 1) := by decide +kernel
theorem dL_law_893 : decode cL_law 893 = .ok (.iconst 1, 1) := by decide +kernel
theorem dL_law_894 : decode cL_law 894 = .ok (.iadd, 1) := by decide +kernel
theorem dL_law_895 : decode cL_law 895 = .ok (.iaload, 1) := by decide +kernel
theorem dL_law_896 : decode cL_law 896 = .ok (.aload_n 0, 1) := by decide +kernel
theorem dL_law_897 : decode cL_law 897 = .ok (.iload_n 3, 1) := by decide +kernel
theorem dL_law_898 : decode cL_law 898 = .ok (.iconst 2, 1) := by decide +kernel
theorem dL_law_899 : decode cL_law 899 = .ok (.iadd, 1) := by decide +kernel
theorem dL_law_900 : decode cL_law 900 = .ok (.iaload, 1) := by decide +kernel
theorem dL_law_901 : decode cL_law 901 = .ok (.aload_n 0, 1) := by decide +kernel
theorem dL_law_902 : decode cL_law 902 = .ok (.iload_n 3, 1) := by decide +kernel
theorem dL_law_903 : decode cL_law 903 = .ok (.iconst 3, 1) := by decide +kernel
theorem dL_law_904 : decode cL_law 904 = .ok (.iadd, 1) := by decide +kernel
theorem dL_law_905 : decode cL_law 905 = .ok (.iaload, 1) := by decide +kernel
theorem dL_law_906 : decode cL_law 906 = .ok (.invokevirtual 121, 3) := by decide +kernel
theorem dL_law_909 : decode cL_law 909 = .ok (.aload_n 2, 1) := by decide +kernel
theorem dL_law_910 : decode cL_law 910 = .ok (.aload_n 0, 1) := by decide +kernel
theorem dL_law_911 : decode cL_law 911 = .ok (.iload_n 3, 1) := by decide +kernel
theorem dL_law_912 : decode cL_law 912 = .ok (.iconst 1, 1) := by decide +kernel
theorem dL_law_913 : decode cL_law 913 = .ok (.iadd, 1) := by decide +kernel
theorem dL_law_914 : decode cL_law 914 = .ok (.iaload, 1) := by decide +kernel
theorem dL_law_915 : decode cL_law 915 = .ok (.aload_n 0, 1) := by decide +kernel
theorem dL_law_916 : decode cL_law 916 = .ok (.iload_n 3, 1) := by decide +kernel
theorem dL_law_917 : decode cL_law 917 = .ok (.iconst 2, 1) := by decide +kernel
theorem dL_law_918 : decode cL_law 918 = .ok (.iadd, 1) := by decide +kernel
theorem dL_law_919 : decode cL_law 919 = .ok (.iaload, 1) := by decide +kernel
theorem dL_law_920 : decode cL_law 920 = .ok (.aload_n 0, 1) := by decide +kernel
theorem dL_law_921 : decode cL_law 921 = .ok (.iload_n 3, 1) := by decide +kernel
theorem dL_law_922 : decode cL_law 922 = .ok (.iconst 3, 1) := by decide +kernel
theorem dL_law_923 : decode cL_law 923 = .ok (.iadd, 1) := by decide +kernel
theorem dL_law_924 : decode cL_law 924 = .ok (.iaload, 1) := by decide +kernel
theorem dL_law_925 : decode cL_law 925 = .ok (.invokevirtual 125, 3) := by decide +kernel
theorem dL_law_928 : decode cL_law 928 = .ok (.lcmp, 1) := by decide +kernel
theorem dL_law_929 : decode cL_law 929 = .ok (.ifCond .eq 343, 3) := by decide +kernel
theorem dL_law_932 : decode cL_law 932 = .ok (.iconst 0, 1) := by decide +kernel
theorem dL_law_933 : decode cL_law 933 = .ok (.ireturn, 1) := by decide +kernel
theorem dL_law_934 : decode cL_law 934 = .ok (.aload_n 1, 1) := by decide +kernel
theorem dL_law_935 : decode cL_law 935 = .ok (.aload_n 0, 1) := by decide +kernel
theorem dL_law_936 : decode cL_law 936 = .ok (.iload_n 3, 1) := by decide +kernel
theorem dL_law_937 : decode cL_law 937 = .ok (.iconst 1, 1) := by decide +kernel
theorem dL_law_938 : decode cL_law 938 = .ok (.iadd, 1) := by decide +kernel
theorem dL_law_939 : decode cL_law 939 = .ok (.iaload, 1) := by decide +kernel
theorem dL_law_940 : decode cL_law 940 = .ok (.aload_n 0, 1) := by decide +kernel
theorem dL_law_941 : decode cL_law 941 = .ok (.iload_n 3, 1) := by decide +kernel
theorem dL_law_942 : decode cL_law 942 = .ok (.iconst 2, 1) := by decide +kernel
theorem dL_law_943 : decode cL_law 943 = .ok (.iadd, 1) := by decide +kernel
theorem dL_law_944 : decode cL_law 944 = .ok (.iaload, 1) := by decide +kernel
theorem dL_law_945 : decode cL_law 945 = .ok (.aload_n 0, 1) := by decide +kernel
theorem dL_law_946 : decode cL_law 946 = .ok (.iload_n 3, 1) := by decide +kernel
theorem dL_law_947 : decode cL_law 947 = .ok (.iconst 3, 1) := by decide +kernel
theorem dL_law_948 : decode cL_law 948 = .ok (.iadd, 1) := by decide +kernel
theorem dL_law_949 : decode cL_law 949 = .ok (.iaload, 1) := by decide +kernel
theorem dL_law_950 : decode cL_law 950 = .ok (.invokevirtual 126, 3) := by decide +kernel
theorem dL_law_953 : decode cL_law 953 = .ok (.aload_n 2, 1) := by decide +kernel
theorem dL_law_954 : decode cL_law 954 = .ok (.aload_n 0, 1) := by decide +kernel
theorem dL_law_955 : decode cL_law 955 = .ok (.iload_n 3, 1) := by decide +kernel
theorem dL_law_956 : decode cL_law 956 = .ok (.iconst 1, 1) := by decide +kernel
theorem dL_law_957 : decode cL_law 957 = .ok (.iadd, 1) := by decide +kernel
theorem dL_law_958 : decode cL_law 958 = .ok (.iaload, 1) := by decide +kernel
theorem dL_law_959 : decode cL_law 959 = .ok (.aload_n 0, 1) := by decide +kernel
theorem dL_law_960 : decode cL_law 960 = .ok (.iload_n 3, 1) := by decide +kernel
theorem dL_law_961 : decode cL_law 961 = .ok (.iconst 2, 1) := by decide +kernel
theorem dL_law_962 : decode cL_law 962 = .ok (.iadd, 1) := by decide +kernel
theorem dL_law_963 : decode cL_law 963 = .ok (.iaload, 1) := by decide +kernel
theorem dL_law_964 : decode cL_law 964 = .ok (.aload_n 0, 1) := by decide +kernel
theorem dL_law_965 : decode cL_law 965 = .ok (.iload_n 3, 1) := by decide +kernel
theorem dL_law_966 : decode cL_law 966 = .ok (.iconst 3, 1) := by decide +kernel
theorem dL_law_967 : decode cL_law 967 = .ok (.iadd, 1) := by decide +kernel
theorem dL_law_968 : decode cL_law 968 = .ok (.iaload, 1) := by decide +kernel
theorem dL_law_969 : decode cL_law 969 = .ok (.invokevirtual 129, 3) := by decide +kernel
theorem dL_law_972 : decode cL_law 972 = .ok (.if_icmp .eq 300, 3) := by decide +kernel
theorem dL_law_975 : decode cL_law 975 = .ok (.iconst 0, 1) := by decide +kernel
theorem dL_law_976 : decode cL_law 976 = .ok (.ireturn, 1) := by decide +kernel
theorem dL_law_977 : decode cL_law 977 = .ok (.aload_n 1, 1) := by decide +kernel
theorem dL_law_978 : decode cL_law 978 = .ok (.aload_n 0, 1) := by decide +kernel
theorem dL_law_979 : decode cL_law 979 = .ok (.iload_n 3, 1) := by decide +kernel
theorem dL_law_980 : decode cL_law 980 = .ok (.iconst 1, 1) := by decide +kernel
theorem dL_law_981 : decode cL_law 981 = .ok (.iadd, 1) := by decide +kernel
theorem dL_law_982 : decode cL_law 982 = .ok (.iaload, 1) := by decide +kernel
theorem dL_law_983 : decode cL_law 983 = .ok (.aload_n 0, 1) := by decide +kernel
theorem dL_law_984 : decode cL_law 984 = .ok (.iload_n 3, 1) := by decide +kernel
theorem dL_law_985 : decode cL_law 985 = .ok (.iconst 2, 1) := by decide +kernel
theorem dL_law_986 : decode cL_law 986 = .ok (.iadd, 1) := by decide +kernel
theorem dL_law_987 : decode cL_law 987 = .ok (.iaload, 1) := by decide +kernel
theorem dL_law_988 : decode cL_law 988 = .ok (.aload_n 0, 1) := by decide +kernel
theorem dL_law_989 : decode cL_law 989 = .ok (.iload_n 3, 1) := by decide +kernel
theorem dL_law_990 : decode cL_law 990 = .ok (.iconst 3, 1) := by decide +kernel
theorem dL_law_991 : decode cL_law 991 = .ok (.iadd, 1) := by decide +kernel
theorem dL_law_992 : decode cL_law 992 = .ok (.iaload, 1) := by decide +kernel
theorem dL_law_993 : decode cL_law 993 = .ok (.invokevirtual 130, 3) := by decide +kernel
theorem dL_law_996 : decode cL_law 996 = .ok (.aload_n 2, 1) := by decide +kernel
theorem dL_law_997 : decode cL_law 997 = .ok (.aload_n 0, 1) := by decide +kernel
theorem dL_law_998 : decode cL_law 998 = .ok (.iload_n 3, 1) := by decide +kernel
theorem dL_law_999 : decode cL_law 999 = .ok (.iconst 1, 1) := by decide +kernel
theorem dL_law_1000 : decode cL_law 1000 = .ok (.iadd, 1) := by decide +kernel
theorem dL_law_1001 : decode cL_law 1001 = .ok (.iaload, 1) := by decide +kernel
theorem dL_law_1002 : decode cL_law 1002 = .ok (.aload_n 0, 1) := by decide +kernel
theorem dL_law_1003 : decode cL_law 1003 = .ok (.iload_n 3, 1) := by decide +kernel
theorem dL_law_1004 : decode cL_law 1004 = .ok (.iconst 2, 1) := by decide +kernel
theorem dL_law_1005 : decode cL_law 1005 = .ok (.iadd, 1) := by decide +kernel
theorem dL_law_1006 : decode cL_law 1006 = .ok (.iaload, 1) := by decide +kernel
theorem dL_law_1007 : decode cL_law 1007 = .ok (.aload_n 0, 1) := by decide +kernel
theorem dL_law_1008 : decode cL_law 1008 = .ok (.iload_n 3, 1) := by decide +kernel
theorem dL_law_1009 : decode cL_law 1009 = .ok (.iconst 3, 1) := by decide +kernel
theorem dL_law_1010 : decode cL_law 1010 = .ok (.iadd, 1) := by decide +kernel
theorem dL_law_1011 : decode cL_law 1011 = .ok (.iaload, 1) := by decide +kernel
theorem dL_law_1012 : decode cL_law 1012 = .ok (.invokevirtual 133, 3) := by decide +kernel
theorem dL_law_1015 : decode cL_law 1015 = .ok (.if_icmp .eq 257, 3) := by decide +kernel
theorem dL_law_1018 : decode cL_law 1018 = .ok (.iconst 0, 1) := by decide +kernel
theorem dL_law_1019 : decode cL_law 1019 = .ok (.ireturn, 1) := by decide +kernel
theorem dL_law_1020 : decode cL_law 1020 = .ok (.aload_n 1, 1) := by decide +kernel
theorem dL_law_1021 : decode cL_law 1021 = .ok (.aload_n 0, 1) := by decide +kernel
theorem dL_law_1022 : decode cL_law 1022 = .ok (.iload_n 3, 1) := by decide +kernel
theorem dL_law_1023 : decode cL_law 1023 = .ok (.iconst 1, 1) := by decide +kernel
theorem dL_law_1024 : decode cL_law 1024 = .ok (.iadd, 1) := by decide +kernel
theorem dL_law_1025 : decode cL_law 1025 = .ok (.iaload, 1) := by decide +kernel
theorem dL_law_1026 : decode cL_law 1026 = .ok (.invokevirtual 134, 3) := by decide +kernel
theorem dL_law_1029 : decode cL_law 1029 = .ok (.aload_n 2, 1) := by decide +kernel
theorem dL_law_1030 : decode cL_law 1030 = .ok (.aload_n 0, 1) := by decide +kernel
theorem dL_law_1031 : decode cL_law 1031 = .ok (.iload_n 3, 1) := by decide +kernel
theorem dL_law_1032 : decode cL_law 1032 = .ok (.iconst 1, 1) := by decide +kernel
theorem dL_law_1033 : decode cL_law 1033 = .ok (.iadd, 1) := by decide +kernel
theorem dL_law_1034 : decode cL_law 1034 = .ok (.iaload, 1) := by decide +kernel
theorem dL_law_1035 : decode cL_law 1035 = .ok (.invokevirtual 137, 3) := by decide +kernel
theorem dL_law_1038 : decode cL_law 1038 = .ok (.if_icmp .eq 234, 3) := by decide +kernel
theorem dL_law_1041 : decode cL_law 1041 = .ok (.iconst 0, 1) := by decide +kernel
theorem dL_law_1042 : decode cL_law 1042 = .ok (.ireturn, 1) := by decide +kernel
theorem dL_law_1043 : decode cL_law 1043 = .ok (.aload_n 1, 1) := by decide +kernel
theorem dL_law_1044 : decode cL_law 1044 = .ok (.aload_n 0, 1) := by decide +kernel
theorem dL_law_1045 : decode cL_law 1045 = .ok (.iload_n 3, 1) := by decide +kernel
theorem dL_law_1046 : decode cL_law 1046 = .ok (.iconst 1, 1) := by decide +kernel
theorem dL_law_1047 : decode cL_law 1047 = .ok (.iadd, 1) := by decide +kernel
theorem dL_law_1048 : decode cL_law 1048 = .ok (.iaload, 1) := by decide +kernel
theorem dL_law_1049 : decode cL_law 1049 = .ok (.aload_n 0, 1) := by decide +kernel
theorem dL_law_1050 : decode cL_law 1050 = .ok (.iload_n 3, 1) := by decide +kernel
theorem dL_law_1051 : decode cL_law 1051 = .ok (.iconst 2, 1) := by decide +kernel
theorem dL_law_1052 : decode cL_law 1052 = .ok (.iadd, 1) := by decide +kernel
theorem dL_law_1053 : decode cL_law 1053 = .ok (.iaload, 1) := by decide +kernel
theorem dL_law_1054 : decode cL_law 1054 = .ok (.aload_n 0, 1) := by decide +kernel
theorem dL_law_1055 : decode cL_law 1055 = .ok (.iload_n 3, 1) := by decide +kernel
theorem dL_law_1056 : decode cL_law 1056 = .ok (.iconst 3, 1) := by decide +kernel
theorem dL_law_1057 : decode cL_law 1057 = .ok (.iadd, 1) := by decide +kernel
theorem dL_law_1058 : decode cL_law 1058 = .ok (.iaload, 1) := by decide +kernel
theorem dL_law_1059 : decode cL_law 1059 = .ok (.aload_n 0, 1) := by decide +kernel
theorem dL_law_1060 : decode cL_law 1060 = .ok (.iload_n 3, 1) := by decide +kernel
theorem dL_law_1061 : decode cL_law 1061 = .ok (.iconst 4, 1) := by decide +kernel
theorem dL_law_1062 : decode cL_law 1062 = .ok (.iadd, 1) := by decide +kernel
theorem dL_law_1063 : decode cL_law 1063 = .ok (.iaload, 1) := by decide +kernel
theorem dL_law_1064 : decode cL_law 1064 = .ok (.invokevirtual 138, 3) := by decide +kernel
theorem dL_law_1067 : decode cL_law 1067 = .ok (.aload_n 2, 1) := by decide +kernel
theorem dL_law_1068 : decode cL_law 1068 = .ok (.aload_n 0, 1) := by decide +kernel
theorem dL_law_1069 : decode cL_law 1069 = .ok (.iload_n 3, 1) := by decide +kernel
theorem dL_law_1070 : decode cL_law 1070 = .ok (.iconst 1, 1) := by decide +kernel
theorem dL_law_1071 : decode cL_law 1071 = .ok (.iadd, 1) := by decide +kernel
theorem dL_law_1072 : decode cL_law 1072 = .ok (.iaload, 1) := by decide +kernel
theorem dL_law_1073 : decode cL_law 1073 = .ok (.aload_n 0, 1) := by decide +kernel
theorem dL_law_1074 : decode cL_law 1074 = .ok (.iload_n 3, 1) := by decide +kernel
theorem dL_law_1075 : decode cL_law 1075 = .ok (.iconst 2, 1) := by decide +kernel
theorem dL_law_1076 : decode cL_law 1076 = .ok (.iadd, 1) := by decide +kernel
theorem dL_law_1077 : decode cL_law 1077 = .ok (.iaload, 1) := by decide +kernel
theorem dL_law_1078 : decode cL_law 1078 = .ok (.aload_n 0, 1) := by decide +kernel
theorem dL_law_1079 : decode cL_law 1079 = .ok (.iload_n 3, 1) := by decide +kernel
theorem dL_law_1080 : decode cL_law 1080 = .ok (.iconst 3, 1) := by decide +kernel
theorem dL_law_1081 : decode cL_law 1081 = .ok (.iadd, 1) := by decide +kernel
theorem dL_law_1082 : decode cL_law 1082 = .ok (.iaload, 1) := by decide +kernel
theorem dL_law_1083 : decode cL_law 1083 = .ok (.aload_n 0, 1) := by decide +kernel
theorem dL_law_1084 : decode cL_law 1084 = .ok (.iload_n 3, 1) := by decide +kernel
theorem dL_law_1085 : decode cL_law 1085 = .ok (.iconst 4, 1) := by decide +kernel
theorem dL_law_1086 : decode cL_law 1086 = .ok (.iadd, 1) := by decide +kernel
theorem dL_law_1087 : decode cL_law 1087 = .ok (.iaload, 1) := by decide +kernel
theorem dL_law_1088 : decode cL_law 1088 = .ok (.invokevirtual 142, 3) := by decide +kernel
theorem dL_law_1091 : decode cL_law 1091 = .ok (.if_icmp .eq 181, 3) := by decide +kernel
theorem dL_law_1094 : decode cL_law 1094 = .ok (.iconst 0, 1) := by decide +kernel
theorem dL_law_1095 : decode cL_law 1095 = .ok (.ireturn, 1) := by decide +kernel
theorem dL_law_1096 : decode cL_law 1096 = .ok (.aload_n 1, 1) := by decide +kernel
theorem dL_law_1097 : decode cL_law 1097 = .ok (.aload_n 0, 1) := by decide +kernel
theorem dL_law_1098 : decode cL_law 1098 = .ok (.iload_n 3, 1) := by decide +kernel
theorem dL_law_1099 : decode cL_law 1099 = .ok (.iconst 1, 1) := by decide +kernel
theorem dL_law_1100 : decode cL_law 1100 = .ok (.iadd, 1) := by decide +kernel
theorem dL_law_1101 : decode cL_law 1101 = .ok (.iaload, 1) := by decide +kernel
theorem dL_law_1102 : decode cL_law 1102 = .ok (.aload_n 0, 1) := by decide +kernel
theorem dL_law_1103 : decode cL_law 1103 = .ok (.iload_n 3, 1) := by decide +kernel
theorem dL_law_1104 : decode cL_law 1104 = .ok (.iconst 2, 1) := by decide +kernel
theorem dL_law_1105 : decode cL_law 1105 = .ok (.iadd, 1) := by decide +kernel
theorem dL_law_1106 : decode cL_law 1106 = .ok (.iaload, 1) := by decide +kernel
theorem dL_law_1107 : decode cL_law 1107 = .ok (.aload_n 0, 1) := by decide +kernel
theorem dL_law_1108 : decode cL_law 1108 = .ok (.iload_n 3, 1) := by decide +kernel
theorem dL_law_1109 : decode cL_law 1109 = .ok (.iconst 3, 1) := by decide +kernel
theorem dL_law_1110 : decode cL_law 1110 = .ok (.iadd, 1) := by decide +kernel
theorem dL_law_1111 : decode cL_law 1111 = .ok (.iaload, 1) := by decide +kernel
theorem dL_law_1112 : decode cL_law 1112 = .ok (.invokevirtual 143, 3) := by decide +kernel
theorem dL_law_1115 : decode cL_law 1115 = .ok (.aload_n 2, 1) := by decide +kernel
theorem dL_law_1116 : decode cL_law 1116 = .ok (.aload_n 0, 1) := by decide +kernel
theorem dL_law_1117 : decode cL_law 1117 = .ok (.iload_n 3, 1) := by decide +kernel
theorem dL_law_1118 : decode cL_law 1118 = .ok (.iconst 1, 1) := by decide +kernel
theorem dL_law_1119 : decode cL_law 1119 = .ok (.iadd, 1) := by decide +kernel
theorem dL_law_1120 : decode cL_law 1120 = .ok (.iaload, 1) := by decide +kernel
theorem dL_law_1121 : decode cL_law 1121 = .ok (.aload_n 0, 1) := by decide +kernel
theorem dL_law_1122 : decode cL_law 1122 = .ok (.iload_n 3, 1) := by decide +kernel
theorem dL_law_1123 : decode cL_law 1123 = .ok (.iconst 2, 1) := by decide +kernel
theorem dL_law_1124 : decode cL_law 1124 = .ok (.iadd, 1) := by decide +kernel
theorem dL_law_1125 : decode cL_law 1125 = .ok (.iaload, 1) := by decide +kernel
theorem dL_law_1126 : decode cL_law 1126 = .ok (.aload_n 0, 1) := by decide +kernel
theorem dL_law_1127 : decode cL_law 1127 = .ok (.iload_n 3, 1) := by decide +kernel
theorem dL_law_1128 : decode cL_law 1128 = .ok (.iconst 3, 1) := by decide +kernel
theorem dL_law_1129 : decode cL_law 1129 = .ok (.iadd, 1) := by decide +kernel
theorem dL_law_1130 : decode cL_law 1130 = .ok (.iaload, 1) := by decide +kernel
theorem dL_law_1131 : decode cL_law 1131 = .ok (.invokevirtual 146, 3) := by decide +kernel
theorem dL_law_1134 : decode cL_law 1134 = .ok (.if_icmp .eq 138, 3) := by decide +kernel
theorem dL_law_1137 : decode cL_law 1137 = .ok (.iconst 0, 1) := by decide +kernel
theorem dL_law_1138 : decode cL_law 1138 = .ok (.ireturn, 1) := by decide +kernel
theorem dL_law_1139 : decode cL_law 1139 = .ok (.aload_n 1, 1) := by decide +kernel
theorem dL_law_1140 : decode cL_law 1140 = .ok (.aload_n 0, 1) := by decide +kernel
theorem dL_law_1141 : decode cL_law 1141 = .ok (.iload_n 3, 1) := by decide +kernel
theorem dL_law_1142 : decode cL_law 1142 = .ok (.iconst 1, 1) := by decide +kernel
theorem dL_law_1143 : decode cL_law 1143 = .ok (.iadd, 1) := by decide +kernel
theorem dL_law_1144 : decode cL_law 1144 = .ok (.iaload, 1) := by decide +kernel
theorem dL_law_1145 : decode cL_law 1145 = .ok (.aload_n 0, 1) := by decide +kernel
theorem dL_law_1146 : decode cL_law 1146 = .ok (.iload_n 3, 1) := by decide +kernel
theorem dL_law_1147 : decode cL_law 1147 = .ok (.iconst 2, 1) := by decide +kernel
theorem dL_law_1148 : decode cL_law 1148 = .ok (.iadd, 1) := by decide +kernel
theorem dL_law_1149 : decode cL_law 1149 = .ok (.iaload, 1) := by decide +kernel
theorem dL_law_1150 : decode cL_law 1150 = .ok (.aload_n 0, 1) := by decide +kernel
theorem dL_law_1151 : decode cL_law 1151 = .ok (.iload_n 3, 1) := by decide +kernel
theorem dL_law_1152 : decode cL_law 1152 = .ok (.iconst 3, 1) := by decide +kernel
theorem dL_law_1153 : decode cL_law 1153 = .ok (.iadd, 1) := by decide +kernel
theorem dL_law_1154 : decode cL_law 1154 = .ok (.iaload, 1) := by decide +kernel
theorem dL_law_1155 : decode cL_law 1155 = .ok (.aload_n 0, 1) := by decide +kernel
theorem dL_law_1156 : decode cL_law 1156 = .ok (.iload_n 3, 1) := by decide +kernel
theorem dL_law_1157 : decode cL_law 1157 = .ok (.iconst 4, 1) := by decide +kernel
theorem dL_law_1158 : decode cL_law 1158 = .ok (.iadd, 1) := by decide +kernel
theorem dL_law_1159 : decode cL_law 1159 = .ok (.iaload, 1) := by decide +kernel
theorem dL_law_1160 : decode cL_law 1160 = .ok (.aload_n 0, 1) := by decide +kernel
theorem dL_law_1161 : decode cL_law 1161 = .ok (.iload_n 3, 1) := by decide +kernel
theorem dL_law_1162 : decode cL_law 1162 = .ok (.iconst 5, 1) := by decide +kernel
theorem dL_law_1163 : decode cL_law 1163 = .ok (.iadd, 1) := by decide +kernel
theorem dL_law_1164 : decode cL_law 1164 = .ok (.iaload, 1) := by decide +kernel
theorem dL_law_1165 : decode cL_law 1165 = .ok (.invokevirtual 147, 3) := by decide +kernel
theorem dL_law_1168 : decode cL_law 1168 = .ok (.aload_n 2, 1) := by decide +kernel
theorem dL_law_1169 : decode cL_law 1169 = .ok (.aload_n 0, 1) := by decide +kernel
theorem dL_law_1170 : decode cL_law 1170 = .ok (.iload_n 3, 1) := by decide +kernel
theorem dL_law_1171 : decode cL_law 1171 = .ok (.iconst 1, 1) := by decide +kernel
theorem dL_law_1172 : decode cL_law 1172 = .ok (.iadd, 1) := by decide +kernel
theorem dL_law_1173 : decode cL_law 1173 = .ok (.iaload, 1) := by decide +kernel
theorem dL_law_1174 : decode cL_law 1174 = .ok (.aload_n 0, 1) := by decide +kernel
theorem dL_law_1175 : decode cL_law 1175 = .ok (.iload_n 3, 1) := by decide +kernel
theorem dL_law_1176 : decode cL_law 1176 = .ok (.iconst 2, 1) := by decide +kernel
theorem dL_law_1177 : decode cL_law 1177 = .ok (.iadd, 1) := by decide +kernel
theorem dL_law_1178 : decode cL_law 1178 = .ok (.iaload, 1) := by decide +kernel
theorem dL_law_1179 : decode cL_law 1179 = .ok (.aload_n 0, 1) := by decide +kernel
theorem dL_law_1180 : decode cL_law 1180 = .ok (.iload_n 3, 1) := by decide +kernel
theorem dL_law_1181 : decode cL_law 1181 = .ok (.iconst 3, 1) := by decide +kernel
theorem dL_law_1182 : decode cL_law 1182 = .ok (.iadd, 1) := by decide +kernel
theorem dL_law_1183 : decode cL_law 1183 = .ok (.iaload, 1) := by decide +kernel
theorem dL_law_1184 : decode cL_law 1184 = .ok (.aload_n 0, 1) := by decide +kernel
theorem dL_law_1185 : decode cL_law 1185 = .ok (.iload_n 3, 1) := by decide +kernel
theorem dL_law_1186 : decode cL_law 1186 = .ok (.iconst 4, 1) := by decide +kernel
theorem dL_law_1187 : decode cL_law 1187 = .ok (.iadd, 1) := by decide +kernel
theorem dL_law_1188 : decode cL_law 1188 = .ok (.iaload, 1) := by decide +kernel
theorem dL_law_1189 : decode cL_law 1189 = .ok (.aload_n 0, 1) := by decide +kernel
theorem dL_law_1190 : decode cL_law 1190 = .ok (.iload_n 3, 1) := by decide +kernel
theorem dL_law_1191 : decode cL_law 1191 = .ok (.iconst 5, 1) := by decide +kernel
theorem dL_law_1192 : decode cL_law 1192 = .ok (.iadd, 1) := by decide +kernel
theorem dL_law_1193 : decode cL_law 1193 = .ok (.iaload, 1) := by decide +kernel
theorem dL_law_1194 : decode cL_law 1194 = .ok (.invokevirtual 151, 3) := by decide +kernel
theorem dL_law_1197 : decode cL_law 1197 = .ok (.if_icmp .eq 75, 3) := by decide +kernel
theorem dL_law_1200 : decode cL_law 1200 = .ok (.iconst 0, 1) := by decide +kernel
theorem dL_law_1201 : decode cL_law 1201 = .ok (.ireturn, 1) := by decide +kernel
theorem dL_law_1202 : decode cL_law 1202 = .ok (.aload_n 1, 1) := by decide +kernel
theorem dL_law_1203 : decode cL_law 1203 = .ok (.aload_n 0, 1) := by decide +kernel
theorem dL_law_1204 : decode cL_law 1204 = .ok (.iload_n 3, 1) := by decide +kernel
theorem dL_law_1205 : decode cL_law 1205 = .ok (.iconst 1, 1) := by decide +kernel
theorem dL_law_1206 : decode cL_law 1206 = .ok (.iadd, 1) := by decide +kernel
theorem dL_law_1207 : decode cL_law 1207 = .ok (.iaload, 1) := by decide +kernel
theorem dL_law_1208 : decode cL_law 1208 = .ok (.aload_n 0, 1) := by decide +kernel
theorem dL_law_1209 : decode cL_law 1209 = .ok (.iload_n 3, 1) := by decide +kernel
theorem dL_law_1210 : decode cL_law 1210 = .ok (.iconst 2, 1) := by decide +kernel
theorem dL_law_1211 : decode cL_law 1211 = .ok (.iadd, 1) := by decide +kernel
theorem dL_law_1212 : decode cL_law 1212 = .ok (.iaload, 1) := by decide +kernel
theorem dL_law_1213 : decode cL_law 1213 = .ok (.invokevirtual 152, 3) := by decide +kernel
theorem dL_law_1216 : decode cL_law 1216 = .ok (.aload_n 2, 1) := by decide +kernel
theorem dL_law_1217 : decode cL_law 1217 = .ok (.aload_n 0, 1) := by decide +kernel
theorem dL_law_1218 : decode cL_law 1218 = .ok (.iload_n 3, 1) := by decide +kernel
theorem dL_law_1219 : decode cL_law 1219 = .ok (.iconst 1, 1) := by decide +kernel
theorem dL_law_1220 : decode cL_law 1220 = .ok (.iadd, 1) := by decide +kernel
theorem dL_law_1221 : decode cL_law 1221 = .ok (.iaload, 1) := by decide +kernel
theorem dL_law_1222 : decode cL_law 1222 = .ok (.aload_n 0, 1) := by decide +kernel
theorem dL_law_1223 : decode cL_law 1223 = .ok (.iload_n 3, 1) := by decide +kernel
theorem dL_law_1224 : decode cL_law 1224 = .ok (.iconst 2, 1) := by decide +kernel
theorem dL_law_1225 : decode cL_law 1225 = .ok (.iadd, 1) := by decide +kernel
theorem dL_law_1226 : decode cL_law 1226 = .ok (.iaload, 1) := by decide +kernel
theorem dL_law_1227 : decode cL_law 1227 = .ok (.invokevirtual 155, 3) := by decide +kernel
theorem dL_law_1230 : decode cL_law 1230 = .ok (.if_icmp .eq 42, 3) := by decide +kernel
theorem dL_law_1233 : decode cL_law 1233 = .ok (.iconst 0, 1) := by decide +kernel
theorem dL_law_1234 : decode cL_law 1234 = .ok (.ireturn, 1) := by decide +kernel
theorem dL_law_1235 : decode cL_law 1235 = .ok (.aload_n 1, 1) := by decide +kernel
theorem dL_law_1236 : decode cL_law 1236 = .ok (.aload_n 0, 1) := by decide +kernel
theorem dL_law_1237 : decode cL_law 1237 = .ok (.iload_n 3, 1) := by decide +kernel
theorem dL_law_1238 : decode cL_law 1238 = .ok (.iconst 1, 1) := by decide +kernel
theorem dL_law_1239 : decode cL_law 1239 = .ok (.iadd, 1) := by decide +kernel
theorem dL_law_1240 : decode cL_law 1240 = .ok (.iaload, 1) := by decide +kernel
theorem dL_law_1241 : decode cL_law 1241 = .ok (.invokevirtual 156, 3) := by decide +kernel
theorem dL_law_1244 : decode cL_law 1244 = .ok (.aload_n 2, 1) := by decide +kernel
theorem dL_law_1245 : decode cL_law 1245 = .ok (.aload_n 0, 1) := by decide +kernel
theorem dL_law_1246 : decode cL_law 1246 = .ok (.iload_n 3, 1) := by decide +kernel
theorem dL_law_1247 : decode cL_law 1247 = .ok (.iconst 1, 1) := by decide +kernel
theorem dL_law_1248 : decode cL_law 1248 = .ok (.iadd, 1) := by decide +kernel
theorem dL_law_1249 : decode cL_law 1249 = .ok (.iaload, 1) := by decide +kernel
theorem dL_law_1250 : decode cL_law 1250 = .ok (.invokevirtual 159, 3) := by decide +kernel
theorem dL_law_1253 : decode cL_law 1253 = .ok (.if_icmp .eq 19, 3) := by decide +kernel
theorem dL_law_1256 : decode cL_law 1256 = .ok (.iconst 0, 1) := by decide +kernel
theorem dL_law_1257 : decode cL_law 1257 = .ok (.ireturn, 1) := by decide +kernel
theorem dL_law_1258 : decode cL_law 1258 = .ok (.aload_n 1, 1) := by decide +kernel
theorem dL_law_1259 : decode cL_law 1259 = .ok (.invokevirtual 160, 3) := by decide +kernel
theorem dL_law_1262 : decode cL_law 1262 = .ok (.aload_n 2, 1) := by decide +kernel
theorem dL_law_1263 : decode cL_law 1263 = .ok (.invokevirtual 164, 3) := by decide +kernel
theorem dL_law_1266 : decode cL_law 1266 = .ok (.lcmp, 1) := by decide +kernel
theorem dL_law_1267 : decode cL_law 1267 = .ok (.ifCond .eq 5, 3) := by decide +kernel
theorem dL_law_1270 : decode cL_law 1270 = .ok (.iconst 0, 1) := by decide +kernel
theorem dL_law_1271 : decode cL_law 1271 = .ok (.ireturn, 1) := by decide +kernel
theorem dL_law_1272 : decode cL_law 1272 = .ok (.iinc 3 6, 3) := by decide +kernel
theorem dL_law_1275 : decode cL_law 1275 = .ok (.goto (-1257), 3) := by decide +kernel
theorem dL_law_1278 : decode cL_law 1278 = .ok (.iconst 1, 1) := by decide +kernel
theorem dL_law_1279 : decode cL_law 1279 = .ok (.ireturn, 1) := by decide +kernel
