theorem dX8_digestOwners_25 : decode cX8_digestOwners 25 = .ok (.bipush 6, 2) := by decide +kernel
theorem dX8_digestOwners_27 : decode cX8_digestOwners 27 = .ok (.iload 5, 2) := by decide +kernel
theorem dX8_digestOwners_29 : decode cX8_digestOwners 29 = .ok (.invokevirtual 181, 3) := by decide +kernel
theorem dX8_digestOwners_32 : decode cX8_digestOwners 32 = .ok (.aload_n 0, 1) := by decide +kernel
theorem dX8_digestOwners_33 : decode cX8_digestOwners 33 = .ok (.lload_n 3, 1) := by decide +kernel
theorem dX8_digestOwners_34 : decode cX8_digestOwners 34 = .ok (.invokevirtual 315, 3) := by decide +kernel
theorem dX8_digestOwners_37 : decode cX8_digestOwners 37 = .ok (.lstore_n 3, 1) := by decide +kernel
theorem dX8_digestOwners_38 : decode cX8_digestOwners 38 = .ok (.iinc 5 1, 3) := by decide +kernel
theorem dX8_digestOwners_41 : decode cX8_digestOwners 41 = .ok (.goto (-36), 3) := by decide +kernel
theorem dX8_digestOwners_44 : decode cX8_digestOwners 44 = .ok (.lload_n 3, 1) := by decide +kernel
theorem dX8_digestOwners_45 : decode cX8_digestOwners 45 = .ok (.lreturn, 1) := by decide +kernel
theorem dX8_mixChoice_0 : decode cX8_mixChoice 0 = .ok (.lload_n 1, 1) := by decide +kernel
theorem dX8_mixChoice_1 : decode cX8_mixChoice 1 = .ok (.aload_n 0, 1) := by decide +kernel
theorem dX8_mixChoice_2 : decode cX8_mixChoice 2 = .ok (.getfield 67, 3) := by decide +kernel
theorem dX8_mixChoice_5 : decode cX8_mixChoice 5 = .ok (.iconst 0, 1) := by decide +kernel
theorem dX8_mixChoice_6 : decode cX8_mixChoice 6 = .ok (.invokevirtual 175, 3) := by decide +kernel
theorem dX8_mixChoice_9 : decode cX8_mixChoice 9 = .ok (.i2l, 1) := by decide +kernel
theorem dX8_mixChoice_10 : decode cX8_mixChoice 10 = .ok (.invokestatic 273, 3) := by decide +kernel
theorem dX8_mixChoice_13 : decode cX8_mixChoice 13 = .ok (.aload_n 0, 1) := by decide +kernel
theorem dX8_mixChoice_14 : decode cX8_mixChoice 14 = .ok (.getfield 67, 3) := by decide +kernel
theorem dX8_mixChoice_17 : decode cX8_mixChoice 17 = .ok (.iconst 1, 1) := by decide +kernel
theorem dX8_mixChoice_18 : decode cX8_mixChoice 18 = .ok (.invokevirtual 175, 3) := by decide +kernel
theorem dX8_mixChoice_21 : decode cX8_mixChoice 21 = .ok (.i2l, 1) := by decide +kernel
theorem dX8_mixChoice_22 : decode cX8_mixChoice 22 = .ok (.invokestatic 273, 3) := by decide +kernel
theorem dX8_mixChoice_25 : decode cX8_mixChoice 25 = .ok (.lreturn, 1) := by decide +kernel
theorem dX8_mix_0 : decode cX8_mix 0 = .ok (.ldc2_w 329, 3) := by decide +kernel
theorem dX8_mix_3 : decode cX8_mix 3 = .ok (.lload_n 0, 1) := by decide +kernel
theorem dX8_mix_4 : decode cX8_mix 4 = .ok (.lmul, 1) := by decide +kernel
theorem dX8_mix_5 : decode cX8_mix 5 = .ok (.lload_n 2, 1) := by decide +kernel
theorem dX8_mix_6 : decode cX8_mix 6 = .ok (.ladd, 1) := by decide +kernel
theorem dX8_mix_7 : decode cX8_mix 7 = .ok (.lreturn, 1) := by decide +kernel
theorem dX8_isIn_0 : decode cX8_isIn 0 = .ok (.iload_n 0, 1) := by decide +kernel
theorem dX8_isIn_1 : decode cX8_isIn 1 = .ok (.ifCond .lt 12, 3) := by decide +kernel
theorem dX8_isIn_4 : decode cX8_isIn 4 = .ok (.iload_n 0, 1) := by decide +kernel
theorem dX8_isIn_5 : decode cX8_isIn 5 = .ok (.iload_n 1, 1) := by decide +kernel
theorem dX8_isIn_6 : decode cX8_isIn 6 = .ok (.if_icmp .ge 7, 3) := by decide +kernel
theorem dX8_isIn_9 : decode cX8_isIn 9 = .ok (.iconst 1, 1) := by decide +kernel
theorem dX8_isIn_10 : decode cX8_isIn 10 = .ok (.goto 4, 3) := by decide +kernel
theorem dX8_isIn_13 : decode cX8_isIn 13 = .ok (.iconst 0, 1) := by decide +kernel
theorem dX8_isIn_14 : decode cX8_isIn 14 = .ok (.ireturn, 1) := by decide +kernel
theorem dX8_mayHappen_0 : decode cX8_mayHappen 0 = .ok (.iload_n 0, 1) := by decide +kernel
theorem dX8_mayHappen_1 : decode cX8_mayHappen 1 = .ok (.iconst 3, 1) := by decide +kernel
theorem dX8_mayHappen_2 : decode cX8_mayHappen 2 = .ok (.invokestatic 104, 3) := by decide +kernel
theorem dX8_mayHappen_5 : decode cX8_mayHappen 5 = .ok (.ifCond .eq 25, 3) := by decide +kernel
theorem dX8_mayHappen_8 : decode cX8_mayHappen 8 = .ok (.iload_n 1, 1) := by decide +kernel
theorem dX8_mayHappen_9 : decode cX8_mayHappen 9 = .ok (.bipush 12, 2) := by decide +kernel
theorem dX8_mayHappen_11 : decode cX8_mayHappen 11 = .ok (.invokestatic 104, 3) := by decide +kernel
theorem dX8_mayHappen_14 : decode cX8_mayHappen 14 = .ok (.ifCond .eq 16, 3) := by decide +kernel
theorem dX8_mayHappen_17 : decode cX8_mayHappen 17 = .ok (.iload_n 2, 1) := by decide +kernel
theorem dX8_mayHappen_18 : decode cX8_mayHappen 18 = .ok (.bipush 10, 2) := by decide +kernel
theorem dX8_mayHappen_20 : decode cX8_mayHappen 20 = .ok (.invokestatic 104, 3) := by decide +kernel
theorem dX8_mayHappen_23 : decode cX8_mayHappen 23 = .ok (.ifCond .eq 7, 3) := by decide +kernel
theorem dX8_mayHappen_26 : decode cX8_mayHappen 26 = .ok (.iconst 1, 1) := by decide +kernel
theorem dX8_mayHappen_27 : decode cX8_mayHappen 27 = .ok (.goto 4, 3) := by decide +kernel
theorem dX8_mayHappen_30 : decode cX8_mayHappen 30 = .ok (.iconst 0, 1) := by decide +kernel
theorem dX8_mayHappen_31 : decode cX8_mayHappen 31 = .ok (.ireturn, 1) := by decide +kernel
theorem dX8_textOf_0 : decode cX8_textOf 0 = .ok (.iload_n 1, 1) := by decide +kernel
theorem dX8_textOf_1 : decode cX8_textOf 1 = .ok (.tableswitch 42 0 2 #[27, 32, 37], 27) := by decide +kernel
theorem dX8_textOf_28 : decode cX8_textOf 28 = .ok (.aload_n 0, 1) := by decide +kernel
theorem dX8_textOf_29 : decode cX8_textOf 29 = .ok (.getfield 14, 3) := by decide +kernel
theorem dX8_textOf_32 : decode cX8_textOf 32 = .ok (.areturn, 1) := by decide +kernel
theorem dX8_textOf_33 : decode cX8_textOf 33 = .ok (.aload_n 0, 1) := by decide +kernel
theorem dX8_textOf_34 : decode cX8_textOf 34 = .ok (.getfield 18, 3) := by decide +kernel
theorem dX8_textOf_37 : decode cX8_textOf 37 = .ok (.areturn, 1) := by decide +kernel
theorem dX8_textOf_38 : decode cX8_textOf 38 = .ok (.aload_n 0, 1) := by decide +kernel
theorem dX8_textOf_39 : decode cX8_textOf 39 = .ok (.getfield 24, 3) := by decide +kernel
theorem dX8_textOf_42 : decode cX8_textOf 42 = .ok (.areturn, 1) := by decide +kernel
theorem dX8_textOf_43 : decode cX8_textOf 43 = .ok (.aconst_null, 1) := by decide +kernel
theorem dX8_textOf_44 : decode cX8_textOf 44 = .ok (.areturn, 1) := by decide +kernel
theorem dX8_found_0 : decode cX8_found 0 = .ok (.aload_n 0, 1) := by decide +kernel
theorem dX8_found_1 : decode cX8_found 1 = .ok (.iload_n 1, 1) := by decide +kernel
theorem dX8_found_2 : decode cX8_found 2 = .ok (.putfield 44, 3) := by decide +kernel
theorem dX8_found_5 : decode cX8_found 5 = .ok (.bipush (-10), 2) := by decide +kernel
theorem dX8_found_7 : decode cX8_found 7 = .ok (.iload_n 1, 1) := by decide +kernel
theorem dX8_found_8 : decode cX8_found 8 = .ok (.isub, 1) := by decide +kernel
theorem dX8_found_9 : decode cX8_found 9 = .ok (.ireturn, 1) := by decide +kernel
theorem dX8_planAsTold_0 : decode cX8_planAsTold 0 = .ok (.aload_n 0, 1) := by decide +kernel
theorem dX8_planAsTold_1 : decode cX8_planAsTold 1 = .ok (.getfield 53, 3) := by decide +kernel
theorem dX8_planAsTold_4 : decode cX8_planAsTold 4 = .ok (.aload_n 0, 1) := by decide +kernel
theorem dX8_planAsTold_5 : decode cX8_planAsTold 5 = .ok (.getfield 14, 3) := by decide +kernel
theorem dX8_planAsTold_8 : decode cX8_planAsTold 8 = .ok (.aload_n 0, 1) := by decide +kernel
theorem dX8_planAsTold_9 : decode cX8_planAsTold 9 = .ok (.getfield 18, 3) := by decide +kernel
theorem dX8_planAsTold_12 : decode cX8_planAsTold 12 = .ok (.aload_n 0, 1) := by decide +kernel
theorem dX8_planAsTold_13 : decode cX8_planAsTold 13 = .ok (.getfield 24, 3) := by decide +kernel
theorem dX8_planAsTold_16 : decode cX8_planAsTold 16 = .ok (.invokevirtual 331, 3) := by decide +kernel
theorem dX8_planAsTold_19 : decode cX8_planAsTold 19 = .ok (.return_, 1) := by decide +kernel
theorem dX8_runAsTold_0 : decode cX8_runAsTold 0 = .ok (.aload_n 0, 1) := by decide +kernel
theorem dX8_runAsTold_1 : decode cX8_runAsTold 1 = .ok (.invokevirtual 195, 3) := by decide +kernel
theorem dX8_runAsTold_4 : decode cX8_runAsTold 4 = .ok (.aload_n 0, 1) := by decide +kernel
theorem dX8_runAsTold_5 : decode cX8_runAsTold 5 = .ok (.getfield 60, 3) := by decide +kernel
theorem dX8_runAsTold_8 : decode cX8_runAsTold 8 = .ok (.aload_n 0, 1) := by decide +kernel
theorem dX8_runAsTold_9 : decode cX8_runAsTold 9 = .ok (.getfield 53, 3) := by decide +kernel
theorem dX8_runAsTold_12 : decode cX8_runAsTold 12 = .ok (.iload_n 1, 1) := by decide +kernel
theorem dX8_runAsTold_13 : decode cX8_runAsTold 13 = .ok (.invokevirtual 201, 3) := by decide +kernel
theorem dX8_runAsTold_16 : decode cX8_runAsTold 16 = .ok (.return_, 1) := by decide +kernel
theorem dX8_chooseBrush_0 : decode cX8_chooseBrush 0 = .ok (.aload_n 0, 1) := by decide +kernel
theorem dX8_chooseBrush_1 : decode cX8_chooseBrush 1 = .ok (.invokevirtual 195, 3) := by decide +kernel
theorem dX8_chooseBrush_4 : decode cX8_chooseBrush 4 = .ok (.aload_n 0, 1) := by decide +kernel
theorem dX8_chooseBrush_5 : decode cX8_chooseBrush 5 = .ok (.getfield 67, 3) := by decide +kernel
theorem dX8_chooseBrush_8 : decode cX8_chooseBrush 8 = .ok (.invokevirtual 152, 3) := by decide +kernel
theorem dX8_chooseBrush_11 : decode cX8_chooseBrush 11 = .ok (.aload_n 0, 1) := by decide +kernel
theorem dX8_chooseBrush_12 : decode cX8_chooseBrush 12 = .ok (.getfield 53, 3) := by decide +kernel
theorem dX8_chooseBrush_15 : decode cX8_chooseBrush 15 = .ok (.iload_n 1, 1) := by decide +kernel
theorem dX8_chooseBrush_16 : decode cX8_chooseBrush 16 = .ok (.putfield 335, 3) := by decide +kernel
theorem dX8_chooseBrush_19 : decode cX8_chooseBrush 19 = .ok (.iconst 0, 1) := by decide +kernel
theorem dX8_chooseBrush_20 : decode cX8_chooseBrush 20 = .ok (.istore_n 2, 1) := by decide +kernel
theorem dX8_chooseBrush_21 : decode cX8_chooseBrush 21 = .ok (.iload_n 2, 1) := by decide +kernel
theorem dX8_chooseBrush_22 : decode cX8_chooseBrush 22 = .ok (.bipush 12, 2) := by decide +kernel
theorem dX8_chooseBrush_24 : decode cX8_chooseBrush 24 = .ok (.if_icmp .ge 47, 3) := by decide +kernel
theorem dX8_chooseBrush_27 : decode cX8_chooseBrush 27 = .ok (.aload_n 0, 1) := by decide +kernel
theorem dX8_chooseBrush_28 : decode cX8_chooseBrush 28 = .ok (.getfield 53, 3) := by decide +kernel
theorem dX8_chooseBrush_31 : decode cX8_chooseBrush 31 = .ok (.iload_n 2, 1) := by decide +kernel
theorem dX8_chooseBrush_32 : decode cX8_chooseBrush 32 = .ok (.putfield 338, 3) := by decide +kernel
theorem dX8_chooseBrush_35 : decode cX8_chooseBrush 35 = .ok (.aload_n 0, 1) := by decide +kernel
theorem dX8_chooseBrush_36 : decode cX8_chooseBrush 36 = .ok (.getfield 60, 3) := by decide +kernel
theorem dX8_chooseBrush_39 : decode cX8_chooseBrush 39 = .ok (.aload_n 0, 1) := by decide +kernel
theorem dX8_chooseBrush_40 : decode cX8_chooseBrush 40 = .ok (.getfield 53, 3) := by decide +kernel
theorem dX8_chooseBrush_43 : decode cX8_chooseBrush 43 = .ok (.bipush 12, 2) := by decide +kernel
theorem dX8_chooseBrush_45 : decode cX8_chooseBrush 45 = .ok (.invokevirtual 201, 3) := by decide +kernel
theorem dX8_chooseBrush_48 : decode cX8_chooseBrush 48 = .ok (.aload_n 0, 1) := by decide +kernel
theorem dX8_chooseBrush_49 : decode cX8_chooseBrush 49 = .ok (.getfield 67, 3) := by decide +kernel
theorem dX8_chooseBrush_52 : decode cX8_chooseBrush 52 = .ok (.iload_n 2, 1) := by decide +kernel
theorem dX8_chooseBrush_53 : decode cX8_chooseBrush 53 = .ok (.aload_n 0, 1) := by decide +kernel
theorem dX8_chooseBrush_54 : decode cX8_chooseBrush 54 = .ok (.getfield 60, 3) := by decide +kernel
theorem dX8_chooseBrush_57 : decode cX8_chooseBrush 57 = .ok (.getfield 262, 3) := by decide +kernel
theorem dX8_chooseBrush_60 : decode cX8_chooseBrush 60 = .ok (.iload_n 1, 1) := by decide +kernel
theorem dX8_chooseBrush_61 : decode cX8_chooseBrush 61 = .ok (.iaload, 1) := by decide +kernel
theorem dX8_chooseBrush_62 : decode cX8_chooseBrush 62 = .ok (.invokevirtual 155, 3) := by decide +kernel
theorem dX8_chooseBrush_65 : decode cX8_chooseBrush 65 = .ok (.iinc 2 1, 3) := by decide +kernel
theorem dX8_chooseBrush_68 : decode cX8_chooseBrush 68 = .ok (.goto (-47), 3) := by decide +kernel
theorem dX8_chooseBrush_71 : decode cX8_chooseBrush 71 = .ok (.return_, 1) := by decide +kernel
theorem dX8_chooseRival_0 : decode cX8_chooseRival 0 = .ok (.aload_n 0, 1) := by decide +kernel
theorem dX8_chooseRival_1 : decode cX8_chooseRival 1 = .ok (.invokevirtual 195, 3) := by decide +kernel
theorem dX8_chooseRival_4 : decode cX8_chooseRival 4 = .ok (.aload_n 0, 1) := by decide +kernel
theorem dX8_chooseRival_5 : decode cX8_chooseRival 5 = .ok (.getfield 67, 3) := by decide +kernel
theorem dX8_chooseRival_8 : decode cX8_chooseRival 8 = .ok (.invokevirtual 152, 3) := by decide +kernel
theorem dX8_chooseRival_11 : decode cX8_chooseRival 11 = .ok (.iconst 0, 1) := by decide +kernel
theorem dX8_chooseRival_12 : decode cX8_chooseRival 12 = .ok (.istore_n 2, 1) := by decide +kernel
theorem dX8_chooseRival_13 : decode cX8_chooseRival 13 = .ok (.iload_n 2, 1) := by decide +kernel
theorem dX8_chooseRival_14 : decode cX8_chooseRival 14 = .ok (.aload_n 0, 1) := by decide +kernel
theorem dX8_chooseRival_15 : decode cX8_chooseRival 15 = .ok (.getfield 53, 3) := by decide +kernel
theorem dX8_chooseRival_18 : decode cX8_chooseRival 18 = .ok (.getfield 161, 3) := by decide +kernel
theorem dX8_chooseRival_21 : decode cX8_chooseRival 21 = .ok (.if_icmp .ge 52, 3) := by decide +kernel
theorem dX8_chooseRival_24 : decode cX8_chooseRival 24 = .ok (.iload_n 2, 1) := by decide +kernel
theorem dX8_chooseRival_25 : decode cX8_chooseRival 25 = .ok (.iload_n 1, 1) := by decide +kernel
theorem dX8_chooseRival_26 : decode cX8_chooseRival 26 = .ok (.if_icmp .eq 41, 3) := by decide +kernel
theorem dX8_chooseRival_29 : decode cX8_chooseRival 29 = .ok (.aload_n 0, 1) := by decide +kernel
theorem dX8_chooseRival_30 : decode cX8_chooseRival 30 = .ok (.getfield 53, 3) := by decide +kernel
theorem dX8_chooseRival_33 : decode cX8_chooseRival 33 = .ok (.iload_n 2, 1) := by decide +kernel
theorem dX8_chooseRival_34 : decode cX8_chooseRival 34 = .ok (.putfield 341, 3) := by decide +kernel
theorem dX8_chooseRival_37 : decode cX8_chooseRival 37 = .ok (.aload_n 0, 1) := by decide +kernel
theorem dX8_chooseRival_38 : decode cX8_chooseRival 38 = .ok (.getfield 60, 3) := by decide +kernel
theorem dX8_chooseRival_41 : decode cX8_chooseRival 41 = .ok (.aload_n 0, 1) := by decide +kernel
theorem dX8_chooseRival_42 : decode cX8_chooseRival 42 = .ok (.getfield 53, 3) := by decide +kernel
theorem dX8_chooseRival_45 : decode cX8_chooseRival 45 = .ok (.bipush 12, 2) := by decide +kernel
theorem dX8_chooseRival_47 : decode cX8_chooseRival 47 = .ok (.invokevirtual 201, 3) := by decide +kernel
theorem dX8_chooseRival_50 : decode cX8_chooseRival 50 = .ok (.aload_n 0, 1) := by decide +kernel
theorem dX8_chooseRival_51 : decode cX8_chooseRival 51 = .ok (.getfield 67, 3) := by decide +kernel
theorem dX8_chooseRival_54 : decode cX8_chooseRival 54 = .ok (.iload_n 2, 1) := by decide +kernel
theorem dX8_chooseRival_55 : decode cX8_chooseRival 55 = .ok (.aload_n 0, 1) := by decide +kernel
theorem dX8_chooseRival_56 : decode cX8_chooseRival 56 = .ok (.getfield 60, 3) := by decide +kernel
theorem dX8_chooseRival_59 : decode cX8_chooseRival 59 = .ok (.getfield 262, 3) := by decide +kernel
theorem dX8_chooseRival_62 : decode cX8_chooseRival 62 = .ok (.iload_n 1, 1) := by decide +kernel
theorem dX8_chooseRival_63 : decode cX8_chooseRival 63 = .ok (.iaload, 1) := by decide +kernel
theorem dX8_chooseRival_64 : decode cX8_chooseRival 64 = .ok (.invokevirtual 155, 3) := by decide +kernel
theorem dX8_chooseRival_67 : decode cX8_chooseRival 67 = .ok (.iinc 2 1, 3) := by decide +kernel
theorem dX8_chooseRival_70 : decode cX8_chooseRival 70 = .ok (.goto (-57), 3) := by decide +kernel
theorem dX8_chooseRival_73 : decode cX8_chooseRival 73 = .ok (.return_, 1) := by decide +kernel
theorem dX8_chooseJudge_0 : decode cX8_chooseJudge 0 = .ok (.aload_n 0, 1) := by decide +kernel
theorem dX8_chooseJudge_1 : decode cX8_chooseJudge 1 = .ok (.invokevirtual 195, 3) := by decide +kernel
theorem dX8_chooseJudge_4 : decode cX8_chooseJudge 4 = .ok (.aload_n 0, 1) := by decide +kernel
theorem dX8_chooseJudge_5 : decode cX8_chooseJudge 5 = .ok (.getfield 67, 3) := by decide +kernel
theorem dX8_chooseJudge_8 : decode cX8_chooseJudge 8 = .ok (.invokevirtual 152, 3) := by decide +kernel
theorem dX8_chooseJudge_11 : decode cX8_chooseJudge 11 = .ok (.iconst 0, 1) := by decide +kernel
theorem dX8_chooseJudge_12 : decode cX8_chooseJudge 12 = .ok (.istore_n 3, 1) := by decide +kernel
theorem dX8_chooseJudge_13 : decode cX8_chooseJudge 13 = .ok (.iload_n 3, 1) := by decide +kernel
theorem dX8_chooseJudge_14 : decode cX8_chooseJudge 14 = .ok (.aload_n 0, 1) := by decide +kernel
theorem dX8_chooseJudge_15 : decode cX8_chooseJudge 15 = .ok (.getfield 53, 3) := by decide +kernel
theorem dX8_chooseJudge_18 : decode cX8_chooseJudge 18 = .ok (.getfield 344, 3) := by decide +kernel
theorem dX8_chooseJudge_21 : decode cX8_chooseJudge 21 = .ok (.if_icmp .ge 52, 3) := by decide +kernel
theorem dX8_chooseJudge_24 : decode cX8_chooseJudge 24 = .ok (.aload_n 0, 1) := by decide +kernel
theorem dX8_chooseJudge_25 : decode cX8_chooseJudge 25 = .ok (.getfield 53, 3) := by decide +kernel
theorem dX8_chooseJudge_28 : decode cX8_chooseJudge 28 = .ok (.getfield 346, 3) := by decide +kernel
theorem dX8_chooseJudge_31 : decode cX8_chooseJudge 31 = .ok (.iload_n 1, 1) := by decide +kernel
theorem dX8_chooseJudge_32 : decode cX8_chooseJudge 32 = .ok (.iload_n 3, 1) := by decide +kernel
theorem dX8_chooseJudge_33 : decode cX8_chooseJudge 33 = .ok (.iastore, 1) := by decide +kernel
theorem dX8_chooseJudge_34 : decode cX8_chooseJudge 34 = .ok (.aload_n 0, 1) := by decide +kernel
theorem dX8_chooseJudge_35 : decode cX8_chooseJudge 35 = .ok (.getfield 60, 3) := by decide +kernel
theorem dX8_chooseJudge_38 : decode cX8_chooseJudge 38 = .ok (.aload_n 0, 1) := by decide +kernel
theorem dX8_chooseJudge_39 : decode cX8_chooseJudge 39 = .ok (.getfield 53, 3) := by decide +kernel
theorem dX8_chooseJudge_42 : decode cX8_chooseJudge 42 = .ok (.bipush 12, 2) := by decide +kernel
theorem dX8_chooseJudge_44 : decode cX8_chooseJudge 44 = .ok (.invokevirtual 201, 3) := by decide +kernel
theorem dX8_chooseJudge_47 : decode cX8_chooseJudge 47 = .ok (.aload_n 0, 1) := by decide +kernel
theorem dX8_chooseJudge_48 : decode cX8_chooseJudge 48 = .ok (.getfield 67, 3) := by decide +kernel
theorem dX8_chooseJudge_51 : decode cX8_chooseJudge 51 = .ok (.iload_n 3, 1) := by decide +kernel
theorem dX8_chooseJudge_52 : decode cX8_chooseJudge 52 = .ok (.aload_n 0, 1) := by decide +kernel
theorem dX8_chooseJudge_53 : decode cX8_chooseJudge 53 = .ok (.getfield 60, 3) := by decide +kernel
theorem dX8_chooseJudge_56 : decode cX8_chooseJudge 56 = .ok (.aload_n 0, 1) := by decide +kernel
theorem dX8_chooseJudge_57 : decode cX8_chooseJudge 57 = .ok (.getfield 53, 3) := by decide +kernel
theorem dX8_chooseJudge_60 : decode cX8_chooseJudge 60 = .ok (.iload_n 2, 1) := by decide +kernel
theorem dX8_chooseJudge_61 : decode cX8_chooseJudge 61 = .ok (.invokevirtual 148, 3) := by decide +kernel
theorem dX8_chooseJudge_64 : decode cX8_chooseJudge 64 = .ok (.invokevirtual 155, 3) := by decide +kernel
theorem dX8_chooseJudge_67 : decode cX8_chooseJudge 67 = .ok (.iinc 3 1, 3) := by decide +kernel
theorem dX8_chooseJudge_70 : decode cX8_chooseJudge 70 = .ok (.goto (-57), 3) := by decide +kernel
theorem dX8_chooseJudge_73 : decode cX8_chooseJudge 73 = .ok (.return_, 1) := by decide +kernel
theorem dX8_sparedEvents_0 : decode cX8_sparedEvents 0 = .ok (.aload_n 0, 1) := by decide +kernel
theorem dX8_sparedEvents_1 : decode cX8_sparedEvents 1 = .ok (.invokevirtual 195, 3) := by decide +kernel
theorem dX8_sparedEvents_4 : decode cX8_sparedEvents 4 = .ok (.aload_n 0, 1) := by decide +kernel
theorem dX8_sparedEvents_5 : decode cX8_sparedEvents 5 = .ok (.iconst 0, 1) := by decide +kernel
theorem dX8_sparedEvents_6 : decode cX8_sparedEvents 6 = .ok (.invokevirtual 349, 3) := by decide +kernel
theorem dX8_sparedEvents_9 : decode cX8_sparedEvents 9 = .ok (.ifCond .eq 5, 3) := by decide +kernel
theorem dX8_sparedEvents_12 : decode cX8_sparedEvents 12 = .ok (.iconst 0, 1) := by decide +kernel
theorem dX8_sparedEvents_13 : decode cX8_sparedEvents 13 = .ok (.ireturn, 1) := by decide +kernel
theorem dX8_sparedEvents_14 : decode cX8_sparedEvents 14 = .ok (.iconst 0, 1) := by decide +kernel
theorem dX8_sparedEvents_15 : decode cX8_sparedEvents 15 = .ok (.istore_n 1, 1) := by decide +kernel
theorem dX8_sparedEvents_16 : decode cX8_sparedEvents 16 = .ok (.iload_n 1, 1) := by decide +kernel
theorem dX8_sparedEvents_17 : decode cX8_sparedEvents 17 = .ok (.aload_n 0, 1) := by decide +kernel
theorem dX8_sparedEvents_18 : decode cX8_sparedEvents 18 = .ok (.getfield 31, 3) := by decide +kernel
theorem dX8_sparedEvents_21 : decode cX8_sparedEvents 21 = .ok (.getfield 119, 3) := by decide +kernel
theorem dX8_sparedEvents_24 : decode cX8_sparedEvents 24 = .ok (.if_icmp .ge 23, 3) := by decide +kernel
theorem dX8_sparedEvents_27 : decode cX8_sparedEvents 27 = .ok (.aload_n 0, 1) := by decide +kernel
theorem dX8_sparedEvents_28 : decode cX8_sparedEvents 28 = .ok (.iconst 1, 1) := by decide +kernel
theorem dX8_sparedEvents_29 : decode cX8_sparedEvents 29 = .ok (.iload_n 1, 1) := by decide +kernel
theorem dX8_sparedEvents_30 : decode cX8_sparedEvents 30 = .ok (.ishl, 1) := by decide +kernel
theorem dX8_sparedEvents_31 : decode cX8_sparedEvents 31 = .ok (.invokevirtual 349, 3) := by decide +kernel
theorem dX8_sparedEvents_34 : decode cX8_sparedEvents 34 = .ok (.ifCond .eq 7, 3) := by decide +kernel
theorem dX8_sparedEvents_37 : decode cX8_sparedEvents 37 = .ok (.iconst 1, 1) := by decide +kernel
theorem dX8_sparedEvents_38 : decode cX8_sparedEvents 38 = .ok (.iload_n 1, 1) := by decide +kernel
theorem dX8_sparedEvents_39 : decode cX8_sparedEvents 39 = .ok (.ishl, 1) := by decide +kernel
theorem dX8_sparedEvents_40 : decode cX8_sparedEvents 40 = .ok (.ireturn, 1) := by decide +kernel
theorem dX8_sparedEvents_41 : decode cX8_sparedEvents 41 = .ok (.iinc 1 1, 3) := by decide +kernel
theorem dX8_sparedEvents_44 : decode cX8_sparedEvents 44 = .ok (.goto (-28), 3) := by decide +kernel
theorem dX8_sparedEvents_47 : decode cX8_sparedEvents 47 = .ok (.iconst 0, 1) := by decide +kernel
theorem dX8_sparedEvents_48 : decode cX8_sparedEvents 48 = .ok (.istore_n 1, 1) := by decide +kernel
theorem dX8_sparedEvents_49 : decode cX8_sparedEvents 49 = .ok (.iload_n 1, 1) := by decide +kernel
theorem dX8_sparedEvents_50 : decode cX8_sparedEvents 50 = .ok (.aload_n 0, 1) := by decide +kernel
theorem dX8_sparedEvents_51 : decode cX8_sparedEvents 51 = .ok (.getfield 31, 3) := by decide +kernel
theorem dX8_sparedEvents_54 : decode cX8_sparedEvents 54 = .ok (.getfield 119, 3) := by decide +kernel
theorem dX8_sparedEvents_57 : decode cX8_sparedEvents 57 = .ok (.if_icmp .ge 52, 3) := by decide +kernel
theorem dX8_sparedEvents_60 : decode cX8_sparedEvents 60 = .ok (.iload_n 1, 1) := by decide +kernel
theorem dX8_sparedEvents_61 : decode cX8_sparedEvents 61 = .ok (.iconst 1, 1) := by decide +kernel
theorem dX8_sparedEvents_62 : decode cX8_sparedEvents 62 = .ok (.iadd, 1) := by decide +kernel
theorem dX8_sparedEvents_63 : decode cX8_sparedEvents 63 = .ok (.istore_n 2, 1) := by decide +kernel
theorem dX8_sparedEvents_64 : decode cX8_sparedEvents 64 = .ok (.iload_n 2, 1) := by decide +kernel
theorem dX8_sparedEvents_65 : decode cX8_sparedEvents 65 = .ok (.aload_n 0, 1) := by decide +kernel
theorem dX8_sparedEvents_66 : decode cX8_sparedEvents 66 = .ok (.getfield 31, 3) := by decide +kernel
theorem dX8_sparedEvents_69 : decode cX8_sparedEvents 69 = .ok (.getfield 119, 3) := by decide +kernel
theorem dX8_sparedEvents_72 : decode cX8_sparedEvents 72 = .ok (.if_icmp .ge 31, 3) := by decide +kernel
theorem dX8_sparedEvents_75 : decode cX8_sparedEvents 75 = .ok (.aload_n 0, 1) := by decide +kernel
theorem dX8_sparedEvents_76 : decode cX8_sparedEvents 76 = .ok (.iconst 1, 1) := by decide +kernel
theorem dX8_sparedEvents_77 : decode cX8_sparedEvents 77 = .ok (.iload_n 1, 1) := by decide +kernel
theorem dX8_sparedEvents_78 : decode cX8_sparedEvents 78 = .ok (.ishl, 1) := by decide +kernel
theorem dX8_sparedEvents_79 : decode cX8_sparedEvents 79 = .ok (.iconst 1, 1) := by decide +kernel
theorem dX8_sparedEvents_80 : decode cX8_sparedEvents 80 = .ok (.iload_n 2, 1) := by decide +kernel
theorem dX8_sparedEvents_81 : decode cX8_sparedEvents 81 = .ok (.ishl, 1) := by decide +kernel
theorem dX8_sparedEvents_82 : decode cX8_sparedEvents 82 = .ok (.ior, 1) := by decide +kernel
theorem dX8_sparedEvents_83 : decode cX8_sparedEvents 83 = .ok (.invokevirtual 349, 3) := by decide +kernel
theorem dX8_sparedEvents_86 : decode cX8_sparedEvents 86 = .ok (.ifCond .eq 11, 3) := by decide +kernel
theorem dX8_sparedEvents_89 : decode cX8_sparedEvents 89 = .ok (.iconst 1, 1) := by decide +kernel
theorem dX8_sparedEvents_90 : decode cX8_sparedEvents 90 = .ok (.iload_n 1, 1) := by decide +kernel
theorem dX8_sparedEvents_91 : decode cX8_sparedEvents 91 = .ok (.ishl, 1) := by decide +kernel
theorem dX8_sparedEvents_92 : decode cX8_sparedEvents 92 = .ok (.iconst 1, 1) := by decide +kernel
theorem dX8_sparedEvents_93 : decode cX8_sparedEvents 93 = .ok (.iload_n 2, 1) := by decide +kernel
theorem dX8_sparedEvents_94 : decode cX8_sparedEvents 94 = .ok (.ishl, 1) := by decide +kernel
theorem dX8_sparedEvents_95 : decode cX8_sparedEvents 95 = .ok (.ior, 1) := by decide +kernel
theorem dX8_sparedEvents_96 : decode cX8_sparedEvents 96 = .ok (.ireturn, 1) := by decide +kernel
theorem dX8_sparedEvents_97 : decode cX8_sparedEvents 97 = .ok (.iinc 2 1, 3) := by decide +kernel
theorem dX8_sparedEvents_100 : decode cX8_sparedEvents 100 = .ok (.goto (-36), 3) := by decide +kernel
theorem dX8_sparedEvents_103 : decode cX8_sparedEvents 103 = .ok (.iinc 1 1, 3) := by decide +kernel
theorem dX8_sparedEvents_106 : decode cX8_sparedEvents 106 = .ok (.goto (-57), 3) := by decide +kernel
theorem dX8_sparedEvents_109 : decode cX8_sparedEvents 109 = .ok (.iconst (-1), 1) := by decide +kernel
theorem dX8_sparedEvents_110 : decode cX8_sparedEvents 110 = .ok (.ireturn, 1) := by decide +kernel
theorem dX8_numberOfBit_0 : decode cX8_numberOfBit 0 = .ok (.iconst 0, 1) := by decide +kernel
theorem dX8_numberOfBit_1 : decode cX8_numberOfBit 1 = .ok (.istore_n 2, 1) := by decide +kernel
theorem dX8_numberOfBit_2 : decode cX8_numberOfBit 2 = .ok (.iconst 0, 1) := by decide +kernel
theorem dX8_numberOfBit_3 : decode cX8_numberOfBit 3 = .ok (.istore_n 3, 1) := by decide +kernel
theorem dX8_numberOfBit_4 : decode cX8_numberOfBit 4 = .ok (.iload_n 3, 1) := by decide +kernel
theorem dX8_numberOfBit_5 : decode cX8_numberOfBit 5 = .ok (.bipush 8, 2) := by decide +kernel
theorem dX8_numberOfBit_7 : decode cX8_numberOfBit 7 = .ok (.if_icmp .ge 28, 3) := by decide +kernel
theorem dX8_numberOfBit_10 : decode cX8_numberOfBit 10 = .ok (.iload_n 0, 1) := by decide +kernel
theorem dX8_numberOfBit_11 : decode cX8_numberOfBit 11 = .ok (.iload_n 3, 1) := by decide +kernel
theorem dX8_numberOfBit_12 : decode cX8_numberOfBit 12 = .ok (.ishr, 1) := by decide +kernel
theorem dX8_numberOfBit_13 : decode cX8_numberOfBit 13 = .ok (.iconst 1, 1) := by decide +kernel
theorem dX8_numberOfBit_14 : decode cX8_numberOfBit 14 = .ok (.iand, 1) := by decide +kernel
theorem dX8_numberOfBit_15 : decode cX8_numberOfBit 15 = .ok (.iconst 1, 1) := by decide +kernel
theorem dX8_numberOfBit_16 : decode cX8_numberOfBit 16 = .ok (.if_icmp .ne 13, 3) := by decide +kernel
theorem dX8_numberOfBit_19 : decode cX8_numberOfBit 19 = .ok (.iload_n 2, 1) := by decide +kernel
theorem dX8_numberOfBit_20 : decode cX8_numberOfBit 20 = .ok (.iload_n 1, 1) := by decide +kernel
theorem dX8_numberOfBit_21 : decode cX8_numberOfBit 21 = .ok (.if_icmp .ne 5, 3) := by decide +kernel
theorem dX8_numberOfBit_24 : decode cX8_numberOfBit 24 = .ok (.iload_n 3, 1) := by decide +kernel
theorem dX8_numberOfBit_25 : decode cX8_numberOfBit 25 = .ok (.ireturn, 1) := by decide +kernel
theorem dX8_numberOfBit_26 : decode cX8_numberOfBit 26 = .ok (.iinc 2 1, 3) := by decide +kernel
theorem dX8_numberOfBit_29 : decode cX8_numberOfBit 29 = .ok (.iinc 3 1, 3) := by decide +kernel
theorem dX8_numberOfBit_32 : decode cX8_numberOfBit 32 = .ok (.goto (-28), 3) := by decide +kernel
theorem dX8_numberOfBit_35 : decode cX8_numberOfBit 35 = .ok (.iconst (-1), 1) := by decide +kernel
theorem dX8_numberOfBit_36 : decode cX8_numberOfBit 36 = .ok (.ireturn, 1) := by decide +kernel
theorem dX8_standsWithout_0 : decode cX8_standsWithout 0 = .ok (.aload_n 0, 1) := by decide +kernel
theorem dX8_standsWithout_1 : decode cX8_standsWithout 1 = .ok (.getfield 53, 3) := by decide +kernel
theorem dX8_standsWithout_4 : decode cX8_standsWithout 4 = .ok (.iload_n 1, 1) := by decide +kernel
theorem dX8_standsWithout_5 : decode cX8_standsWithout 5 = .ok (.putfield 198, 3) := by decide +kernel
theorem dX8_standsWithout_8 : decode cX8_standsWithout 8 = .ok (.aload_n 0, 1) := by decide +kernel
theorem dX8_standsWithout_9 : decode cX8_standsWithout 9 = .ok (.getfield 60, 3) := by decide +kernel
theorem dX8_standsWithout_12 : decode cX8_standsWithout 12 = .ok (.aload_n 0, 1) := by decide +kernel
theorem dX8_standsWithout_13 : decode cX8_standsWithout 13 = .ok (.getfield 53, 3) := by decide +kernel
theorem dX8_standsWithout_16 : decode cX8_standsWithout 16 = .ok (.bipush 12, 2) := by decide +kernel
theorem dX8_standsWithout_18 : decode cX8_standsWithout 18 = .ok (.invokevirtual 201, 3) := by decide +kernel
theorem dX8_standsWithout_21 : decode cX8_standsWithout 21 = .ok (.aload_n 0, 1) := by decide +kernel
theorem dX8_standsWithout_22 : decode cX8_standsWithout 22 = .ok (.getfield 60, 3) := by decide +kernel
theorem dX8_standsWithout_25 : decode cX8_standsWithout 25 = .ok (.getfield 166, 3) := by decide +kernel
theorem dX8_standsWithout_28 : decode cX8_standsWithout 28 = .ok (.ifCond .ne 7, 3) := by decide +kernel
theorem dX8_standsWithout_31 : decode cX8_standsWithout 31 = .ok (.iconst 1, 1) := by decide +kernel
theorem dX8_standsWithout_32 : decode cX8_standsWithout 32 = .ok (.goto 4, 3) := by decide +kernel
theorem dX8_standsWithout_35 : decode cX8_standsWithout 35 = .ok (.iconst 0, 1) := by decide +kernel
theorem dX8_standsWithout_36 : decode cX8_standsWithout 36 = .ok (.ireturn, 1) := by decide +kernel
theorem dX8_tallyPlaces_0 : decode cX8_tallyPlaces 0 = .ok (.aload_n 0, 1) := by decide +kernel
theorem dX8_tallyPlaces_1 : decode cX8_tallyPlaces 1 = .ok (.invokevirtual 195, 3) := by decide +kernel
theorem dX8_tallyPlaces_4 : decode cX8_tallyPlaces 4 = .ok (.iconst 0, 1) := by decide +kernel
theorem dX8_tallyPlaces_5 : decode cX8_tallyPlaces 5 = .ok (.istore_n 2, 1) := by decide +kernel
theorem dX8_tallyPlaces_6 : decode cX8_tallyPlaces 6 = .ok (.iload_n 2, 1) := by decide +kernel
theorem dX8_tallyPlaces_7 : decode cX8_tallyPlaces 7 = .ok (.aload_n 0, 1) := by decide +kernel
theorem dX8_tallyPlaces_8 : decode cX8_tallyPlaces 8 = .ok (.getfield 75, 3) := by decide +kernel
theorem dX8_tallyPlaces_11 : decode cX8_tallyPlaces 11 = .ok (.arraylength, 1) := by decide +kernel
theorem dX8_tallyPlaces_12 : decode cX8_tallyPlaces 12 = .ok (.if_icmp .ge 16, 3) := by decide +kernel
theorem dX8_tallyPlaces_15 : decode cX8_tallyPlaces 15 = .ok (.aload_n 0, 1) := by decide +kernel
theorem dX8_tallyPlaces_16 : decode cX8_tallyPlaces 16 = .ok (.getfield 75, 3) := by decide +kernel
theorem dX8_tallyPlaces_19 : decode cX8_tallyPlaces 19 = .ok (.iload_n 2, 1) := by decide +kernel
theorem dX8_tallyPlaces_20 : decode cX8_tallyPlaces 20 = .ok (.iconst 0, 1) := by decide +kernel
theorem dX8_tallyPlaces_21 : decode cX8_tallyPlaces 21 = .ok (.iastore, 1) := by decide +kernel
theorem dX8_tallyPlaces_22 : decode cX8_tallyPlaces 22 = .ok (.iinc 2 1, 3) := by decide +kernel
theorem dX8_tallyPlaces_25 : decode cX8_tallyPlaces 25 = .ok (.goto (-19), 3) := by decide +kernel
theorem dX8_tallyPlaces_28 : decode cX8_tallyPlaces 28 = .ok (.iconst 0, 1) := by decide +kernel
theorem dX8_tallyPlaces_29 : decode cX8_tallyPlaces 29 = .ok (.istore_n 2, 1) := by decide +kernel
theorem dX8_tallyPlaces_30 : decode cX8_tallyPlaces 30 = .ok (.iload_n 2, 1) := by decide +kernel
theorem dX8_tallyPlaces_31 : decode cX8_tallyPlaces 31 = .ok (.bipush 9, 2) := by decide +kernel
theorem dX8_tallyPlaces_33 : decode cX8_tallyPlaces 33 = .ok (.if_icmp .gt 89, 3) := by decide +kernel
theorem dX8_tallyPlaces_36 : decode cX8_tallyPlaces 36 = .ok (.aload_n 0, 1) := by decide +kernel
theorem dX8_tallyPlaces_37 : decode cX8_tallyPlaces 37 = .ok (.getfield 53, 3) := by decide +kernel
theorem dX8_tallyPlaces_40 : decode cX8_tallyPlaces 40 = .ok (.getfield 209, 3) := by decide +kernel
theorem dX8_tallyPlaces_43 : decode cX8_tallyPlaces 43 = .ok (.iload_n 1, 1) := by decide +kernel
theorem dX8_tallyPlaces_44 : decode cX8_tallyPlaces 44 = .ok (.iload_n 2, 1) := by decide +kernel
theorem dX8_tallyPlaces_45 : decode cX8_tallyPlaces 45 = .ok (.iastore, 1) := by decide +kernel
theorem dX8_tallyPlaces_46 : decode cX8_tallyPlaces 46 = .ok (.aload_n 0, 1) := by decide +kernel
theorem dX8_tallyPlaces_47 : decode cX8_tallyPlaces 47 = .ok (.getfield 60, 3) := by decide +kernel
theorem dX8_tallyPlaces_50 : decode cX8_tallyPlaces 50 = .ok (.aload_n 0, 1) := by decide +kernel
theorem dX8_tallyPlaces_51 : decode cX8_tallyPlaces 51 = .ok (.getfield 53, 3) := by decide +kernel
theorem dX8_tallyPlaces_54 : decode cX8_tallyPlaces 54 = .ok (.bipush 12, 2) := by decide +kernel
theorem dX8_tallyPlaces_56 : decode cX8_tallyPlaces 56 = .ok (.invokevirtual 201, 3) := by decide +kernel
theorem dX8_tallyPlaces_59 : decode cX8_tallyPlaces 59 = .ok (.aload_n 0, 1) := by decide +kernel
theorem dX8_tallyPlaces_60 : decode cX8_tallyPlaces 60 = .ok (.getfield 60, 3) := by decide +kernel
theorem dX8_tallyPlaces_63 : decode cX8_tallyPlaces 63 = .ok (.aload_n 0, 1) := by decide +kernel
theorem dX8_tallyPlaces_64 : decode cX8_tallyPlaces 64 = .ok (.getfield 35, 3) := by decide +kernel
theorem dX8_tallyPlaces_67 : decode cX8_tallyPlaces 67 = .ok (.aload_n 0, 1) := by decide +kernel
theorem dX8_tallyPlaces_68 : decode cX8_tallyPlaces 68 = .ok (.getfield 53, 3) := by decide +kernel
theorem dX8_tallyPlaces_71 : decode cX8_tallyPlaces 71 = .ok (.getfield 161, 3) := by decide +kernel
theorem dX8_tallyPlaces_74 : decode cX8_tallyPlaces 74 = .ok (.invokevirtual 205, 3) := by decide +kernel
theorem dX8_tallyPlaces_77 : decode cX8_tallyPlaces 77 = .ok (.ifCond .eq 39, 3) := by decide +kernel
theorem dX8_tallyPlaces_80 : decode cX8_tallyPlaces 80 = .ok (.iconst 0, 1) := by decide +kernel
theorem dX8_tallyPlaces_81 : decode cX8_tallyPlaces 81 = .ok (.istore_n 3, 1) := by decide +kernel
theorem dX8_tallyPlaces_82 : decode cX8_tallyPlaces 82 = .ok (.iload_n 3, 1) := by decide +kernel
theorem dX8_tallyPlaces_83 : decode cX8_tallyPlaces 83 = .ok (.bipush 12, 2) := by decide +kernel
theorem dX8_tallyPlaces_85 : decode cX8_tallyPlaces 85 = .ok (.if_icmp .ge 31, 3) := by decide +kernel
theorem dX8_tallyPlaces_88 : decode cX8_tallyPlaces 88 = .ok (.aload_n 0, 1) := by decide +kernel
theorem dX8_tallyPlaces_89 : decode cX8_tallyPlaces 89 = .ok (.getfield 75, 3) := by decide +kernel
theorem dX8_tallyPlaces_92 : decode cX8_tallyPlaces 92 = .ok (.iload_n 3, 1) := by decide +kernel
theorem dX8_tallyPlaces_93 : decode cX8_tallyPlaces 93 = .ok (.iconst 4, 1) := by decide +kernel
theorem dX8_tallyPlaces_94 : decode cX8_tallyPlaces 94 = .ok (.imul, 1) := by decide +kernel
theorem dX8_tallyPlaces_95 : decode cX8_tallyPlaces 95 = .ok (.aload_n 0, 1) := by decide +kernel
theorem dX8_tallyPlaces_96 : decode cX8_tallyPlaces 96 = .ok (.getfield 60, 3) := by decide +kernel
theorem dX8_tallyPlaces_99 : decode cX8_tallyPlaces 99 = .ok (.iload_n 3, 1) := by decide +kernel
theorem dX8_tallyPlaces_100 : decode cX8_tallyPlaces 100 = .ok (.iload_n 1, 1) := by decide +kernel
theorem dX8_tallyPlaces_101 : decode cX8_tallyPlaces 101 = .ok (.invokevirtual 352, 3) := by decide +kernel
theorem dX8_tallyPlaces_104 : decode cX8_tallyPlaces 104 = .ok (.iadd, 1) := by decide +kernel
theorem dX8_tallyPlaces_105 : decode cX8_tallyPlaces 105 = .ok (.dup2, 1) := by decide +kernel
theorem dX8_tallyPlaces_106 : decode cX8_tallyPlaces 106 = .ok (.iaload, 1) := by decide +kernel
theorem dX8_tallyPlaces_107 : decode cX8_tallyPlaces 107 = .ok (.iconst 1, 1) := by decide +kernel
theorem dX8_tallyPlaces_108 : decode cX8_tallyPlaces 108 = .ok (.iadd, 1) := by decide +kernel
theorem dX8_tallyPlaces_109 : decode cX8_tallyPlaces 109 = .ok (.iastore, 1) := by decide +kernel
theorem dX8_tallyPlaces_110 : decode cX8_tallyPlaces 110 = .ok (.iinc 3 1, 3) := by decide +kernel
theorem dX8_tallyPlaces_113 : decode cX8_tallyPlaces 113 = .ok (.goto (-31), 3) := by decide +kernel
theorem dX8_tallyPlaces_116 : decode cX8_tallyPlaces 116 = .ok (.iinc 2 1, 3) := by decide +kernel
theorem dX8_tallyPlaces_119 : decode cX8_tallyPlaces 119 = .ok (.goto (-89), 3) := by decide +kernel
theorem dX8_tallyPlaces_122 : decode cX8_tallyPlaces 122 = .ok (.return_, 1) := by decide +kernel
theorem dX8_greatestTally_0 : decode cX8_greatestTally 0 = .ok (.iconst 0, 1) := by decide +kernel
theorem dX8_greatestTally_1 : decode cX8_greatestTally 1 = .ok (.istore_n 2, 1) := by decide +kernel
theorem dX8_greatestTally_2 : decode cX8_greatestTally 2 = .ok (.iconst 0, 1) := by decide +kernel
theorem dX8_greatestTally_3 : decode cX8_greatestTally 3 = .ok (.istore_n 3, 1) := by decide +kernel
theorem dX8_greatestTally_4 : decode cX8_greatestTally 4 = .ok (.iload_n 3, 1) := by decide +kernel
theorem dX8_greatestTally_5 : decode cX8_greatestTally 5 = .ok (.iconst 3, 1) := by decide +kernel
theorem dX8_greatestTally_6 : decode cX8_greatestTally 6 = .ok (.if_icmp .gt 24, 3) := by decide +kernel
theorem dX8_greatestTally_9 : decode cX8_greatestTally 9 = .ok (.iload_n 2, 1) := by decide +kernel
theorem dX8_greatestTally_10 : decode cX8_greatestTally 10 = .ok (.aload_n 0, 1) := by decide +kernel
theorem dX8_greatestTally_11 : decode cX8_greatestTally 11 = .ok (.getfield 75, 3) := by decide +kernel
theorem dX8_greatestTally_14 : decode cX8_greatestTally 14 = .ok (.iload_n 1, 1) := by decide +kernel
theorem dX8_greatestTally_15 : decode cX8_greatestTally 15 = .ok (.iconst 4, 1) := by decide +kernel
theorem dX8_greatestTally_16 : decode cX8_greatestTally 16 = .ok (.imul, 1) := by decide +kernel
theorem dX8_greatestTally_17 : decode cX8_greatestTally 17 = .ok (.iload_n 3, 1) := by decide +kernel
theorem dX8_greatestTally_18 : decode cX8_greatestTally 18 = .ok (.iadd, 1) := by decide +kernel
theorem dX8_greatestTally_19 : decode cX8_greatestTally 19 = .ok (.iaload, 1) := by decide +kernel
theorem dX8_greatestTally_20 : decode cX8_greatestTally 20 = .ok (.invokestatic 355, 3) := by decide +kernel
theorem dX8_greatestTally_23 : decode cX8_greatestTally 23 = .ok (.istore_n 2, 1) := by decide +kernel
theorem dX8_greatestTally_24 : decode cX8_greatestTally 24 = .ok (.iinc 3 1, 3) := by decide +kernel
theorem dX8_greatestTally_27 : decode cX8_greatestTally 27 = .ok (.goto (-23), 3) := by decide +kernel
theorem dX8_greatestTally_30 : decode cX8_greatestTally 30 = .ok (.iload_n 2, 1) := by decide +kernel
theorem dX8_greatestTally_31 : decode cX8_greatestTally 31 = .ok (.ireturn, 1) := by decide +kernel
theorem dX8_weighBests_0 : decode cX8_weighBests 0 = .ok (.aload_n 0, 1) := by decide +kernel
theorem dX8_weighBests_1 : decode cX8_weighBests 1 = .ok (.invokevirtual 195, 3) := by decide +kernel
theorem dX8_weighBests_4 : decode cX8_weighBests 4 = .ok (.iconst 0, 1) := by decide +kernel
theorem dX8_weighBests_5 : decode cX8_weighBests 5 = .ok (.istore_n 2, 1) := by decide +kernel
theorem dX8_weighBests_6 : decode cX8_weighBests 6 = .ok (.iload_n 2, 1) := by decide +kernel
theorem dX8_weighBests_7 : decode cX8_weighBests 7 = .ok (.bipush 10, 2) := by decide +kernel
theorem dX8_weighBests_9 : decode cX8_weighBests 9 = .ok (.if_icmp .ge 16, 3) := by decide +kernel
theorem dX8_weighBests_12 : decode cX8_weighBests 12 = .ok (.aload_n 0, 1) := by decide +kernel
theorem dX8_weighBests_13 : decode cX8_weighBests 13 = .ok (.getfield 71, 3) := by decide +kernel
theorem dX8_weighBests_16 : decode cX8_weighBests 16 = .ok (.iload_n 2, 1) := by decide +kernel
theorem dX8_weighBests_17 : decode cX8_weighBests 17 = .ok (.lconst 0, 1) := by decide +kernel
theorem dX8_weighBests_18 : decode cX8_weighBests 18 = .ok (.lastore, 1) := by decide +kernel
theorem dX8_weighBests_19 : decode cX8_weighBests 19 = .ok (.iinc 2 1, 3) := by decide +kernel
theorem dX8_weighBests_22 : decode cX8_weighBests 22 = .ok (.goto (-16), 3) := by decide +kernel
theorem dX8_weighBests_25 : decode cX8_weighBests 25 = .ok (.iconst 0, 1) := by decide +kernel
theorem dX8_weighBests_26 : decode cX8_weighBests 26 = .ok (.istore_n 2, 1) := by decide +kernel
theorem dX8_weighBests_27 : decode cX8_weighBests 27 = .ok (.iload_n 2, 1) := by decide +kernel
theorem dX8_weighBests_28 : decode cX8_weighBests 28 = .ok (.iconst 1, 1) := by decide +kernel
theorem dX8_weighBests_29 : decode cX8_weighBests 29 = .ok (.aload_n 0, 1) := by decide +kernel
theorem dX8_weighBests_30 : decode cX8_weighBests 30 = .ok (.getfield 31, 3) := by decide +kernel
theorem dX8_weighBests_33 : decode cX8_weighBests 33 = .ok (.getfield 119, 3) := by decide +kernel
theorem dX8_weighBests_36 : decode cX8_weighBests 36 = .ok (.ishl, 1) := by decide +kernel
theorem dX8_weighBests_37 : decode cX8_weighBests 37 = .ok (.if_icmp .ge 79, 3) := by decide +kernel
theorem dX8_weighBests_40 : decode cX8_weighBests 40 = .ok (.aload_n 0, 1) := by decide +kernel
theorem dX8_weighBests_41 : decode cX8_weighBests 41 = .ok (.iload_n 2, 1) := by decide +kernel
theorem dX8_weighBests_42 : decode cX8_weighBests 42 = .ok (.iload_n 1, 1) := by decide +kernel
theorem dX8_weighBests_43 : decode cX8_weighBests 43 = .ok (.invokevirtual 358, 3) := by decide +kernel
theorem dX8_weighBests_46 : decode cX8_weighBests 46 = .ok (.lstore_n 3, 1) := by decide +kernel
theorem dX8_weighBests_47 : decode cX8_weighBests 47 = .ok (.lload_n 3, 1) := by decide +kernel
theorem dX8_weighBests_48 : decode cX8_weighBests 48 = .ok (.lconst 0, 1) := by decide +kernel
theorem dX8_weighBests_49 : decode cX8_weighBests 49 = .ok (.lcmp, 1) := by decide +kernel
theorem dX8_weighBests_50 : decode cX8_weighBests 50 = .ok (.ifCond .ne 6, 3) := by decide +kernel
theorem dX8_weighBests_53 : decode cX8_weighBests 53 = .ok (.goto 57, 3) := by decide +kernel
theorem dX8_weighBests_56 : decode cX8_weighBests 56 = .ok (.aload_n 0, 1) := by decide +kernel
theorem dX8_weighBests_57 : decode cX8_weighBests 57 = .ok (.getfield 53, 3) := by decide +kernel
theorem dX8_weighBests_60 : decode cX8_weighBests 60 = .ok (.iload_n 2, 1) := by decide +kernel
theorem dX8_weighBests_61 : decode cX8_weighBests 61 = .ok (.putfield 198, 3) := by decide +kernel
theorem dX8_weighBests_64 : decode cX8_weighBests 64 = .ok (.aload_n 0, 1) := by decide +kernel
theorem dX8_weighBests_65 : decode cX8_weighBests 65 = .ok (.getfield 60, 3) := by decide +kernel
theorem dX8_weighBests_68 : decode cX8_weighBests 68 = .ok (.aload_n 0, 1) := by decide +kernel
theorem dX8_weighBests_69 : decode cX8_weighBests 69 = .ok (.getfield 53, 3) := by decide +kernel
theorem dX8_weighBests_72 : decode cX8_weighBests 72 = .ok (.bipush 12, 2) := by decide +kernel
theorem dX8_weighBests_74 : decode cX8_weighBests 74 = .ok (.invokevirtual 201, 3) := by decide +kernel
theorem dX8_weighBests_77 : decode cX8_weighBests 77 = .ok (.aload_n 0, 1) := by decide +kernel
theorem dX8_weighBests_78 : decode cX8_weighBests 78 = .ok (.getfield 60, 3) := by decide +kernel
theorem dX8_weighBests_81 : decode cX8_weighBests 81 = .ok (.aload_n 0, 1) := by decide +kernel
theorem dX8_weighBests_82 : decode cX8_weighBests 82 = .ok (.getfield 53, 3) := by decide +kernel
theorem dX8_weighBests_85 : decode cX8_weighBests 85 = .ok (.getfield 161, 3) := by decide +kernel
theorem dX8_weighBests_88 : decode cX8_weighBests 88 = .ok (.invokevirtual 163, 3) := by decide +kernel
theorem dX8_weighBests_91 : decode cX8_weighBests 91 = .ok (.istore 5, 2) := by decide +kernel
theorem dX8_weighBests_93 : decode cX8_weighBests 93 = .ok (.iload 5, 2) := by decide +kernel
theorem dX8_weighBests_95 : decode cX8_weighBests 95 = .ok (.iconst (-1), 1) := by decide +kernel
theorem dX8_weighBests_96 : decode cX8_weighBests 96 = .ok (.if_icmp .eq 14, 3) := by decide +kernel
theorem dX8_weighBests_99 : decode cX8_weighBests 99 = .ok (.aload_n 0, 1) := by decide +kernel
theorem dX8_weighBests_100 : decode cX8_weighBests 100 = .ok (.getfield 71, 3) := by decide +kernel
theorem dX8_weighBests_103 : decode cX8_weighBests 103 = .ok (.iload 5, 2) := by decide +kernel
theorem dX8_weighBests_105 : decode cX8_weighBests 105 = .ok (.dup2, 1) := by decide +kernel
theorem dX8_weighBests_106 : decode cX8_weighBests 106 = .ok (.laload, 1) := by decide +kernel
theorem dX8_weighBests_107 : decode cX8_weighBests 107 = .ok (.lload_n 3, 1) := by decide +kernel
theorem dX8_weighBests_108 : decode cX8_weighBests 108 = .ok (.ladd, 1) := by decide +kernel
theorem dX8_weighBests_109 : decode cX8_weighBests 109 = .ok (.lastore, 1) := by decide +kernel
theorem dX8_weighBests_110 : decode cX8_weighBests 110 = .ok (.iinc 2 1, 3) := by decide +kernel
theorem dX8_weighBests_113 : decode cX8_weighBests 113 = .ok (.goto (-86), 3) := by decide +kernel
theorem dX8_weighBests_116 : decode cX8_weighBests 116 = .ok (.return_, 1) := by decide +kernel
theorem dX8_weightWithout_0 : decode cX8_weightWithout 0 = .ok (.lconst 1, 1) := by decide +kernel
theorem dX8_weightWithout_1 : decode cX8_weightWithout 1 = .ok (.lstore_n 3, 1) := by decide +kernel
theorem dX8_weightWithout_2 : decode cX8_weightWithout 2 = .ok (.iconst 0, 1) := by decide +kernel
theorem dX8_weightWithout_3 : decode cX8_weightWithout 3 = .ok (.istore 5, 2) := by decide +kernel
theorem dX8_weightWithout_5 : decode cX8_weightWithout 5 = .ok (.iload 5, 2) := by decide +kernel
theorem dX8_weightWithout_7 : decode cX8_weightWithout 7 = .ok (.aload_n 0, 1) := by decide +kernel
theorem dX8_weightWithout_8 : decode cX8_weightWithout 8 = .ok (.getfield 31, 3) := by decide +kernel
theorem dX8_weightWithout_11 : decode cX8_weightWithout 11 = .ok (.getfield 119, 3) := by decide +kernel
theorem dX8_weightWithout_14 : decode cX8_weightWithout 14 = .ok (.if_icmp .ge 31, 3) := by decide +kernel
theorem dX8_weightWithout_17 : decode cX8_weightWithout 17 = .ok (.lload_n 3, 1) := by decide +kernel
theorem dX8_weightWithout_18 : decode cX8_weightWithout 18 = .ok (.iload_n 1, 1) := by decide +kernel
theorem dX8_weightWithout_19 : decode cX8_weightWithout 19 = .ok (.iload 5, 2) := by decide +kernel
theorem dX8_weightWithout_21 : decode cX8_weightWithout 21 = .ok (.ishr, 1) := by decide +kernel
theorem dX8_weightWithout_22 : decode cX8_weightWithout 22 = .ok (.iconst 1, 1) := by decide +kernel
theorem dX8_weightWithout_23 : decode cX8_weightWithout 23 = .ok (.iand, 1) := by decide +kernel
theorem dX8_weightWithout_24 : decode cX8_weightWithout 24 = .ok (.ifCond .ne 8, 3) := by decide +kernel
theorem dX8_weightWithout_27 : decode cX8_weightWithout 27 = .ok (.iload_n 2, 1) := by decide +kernel
theorem dX8_weightWithout_28 : decode cX8_weightWithout 28 = .ok (.i2l, 1) := by decide +kernel
theorem dX8_weightWithout_29 : decode cX8_weightWithout 29 = .ok (.goto 8, 3) := by decide +kernel
theorem dX8_weightWithout_32 : decode cX8_weightWithout 32 = .ok (.bipush 16, 2) := by decide +kernel
theorem dX8_weightWithout_34 : decode cX8_weightWithout 34 = .ok (.iload_n 2, 1) := by decide +kernel
theorem dX8_weightWithout_35 : decode cX8_weightWithout 35 = .ok (.isub, 1) := by decide +kernel
theorem dX8_weightWithout_36 : decode cX8_weightWithout 36 = .ok (.i2l, 1) := by decide +kernel
theorem dX8_weightWithout_37 : decode cX8_weightWithout 37 = .ok (.lmul, 1) := by decide +kernel
theorem dX8_weightWithout_38 : decode cX8_weightWithout 38 = .ok (.lstore_n 3, 1) := by decide +kernel
theorem dX8_weightWithout_39 : decode cX8_weightWithout 39 = .ok (.iinc 5 1, 3) := by decide +kernel
theorem dX8_weightWithout_42 : decode cX8_weightWithout 42 = .ok (.goto (-37), 3) := by decide +kernel
theorem dX8_weightWithout_45 : decode cX8_weightWithout 45 = .ok (.lload_n 3, 1) := by decide +kernel
theorem dX8_weightWithout_46 : decode cX8_weightWithout 46 = .ok (.lreturn, 1) := by decide +kernel
theorem dX8_partOfFraction_0 : decode cX8_partOfFraction 0 = .ok (.iconst 4, 1) := by decide +kernel
theorem dX8_partOfFraction_1 : decode cX8_partOfFraction 1 = .ok (.aload_n 0, 1) := by decide +kernel
theorem dX8_partOfFraction_2 : decode cX8_partOfFraction 2 = .ok (.getfield 31, 3) := by decide +kernel
theorem dX8_partOfFraction_5 : decode cX8_partOfFraction 5 = .ok (.getfield 119, 3) := by decide +kernel
theorem dX8_partOfFraction_8 : decode cX8_partOfFraction 8 = .ok (.imul, 1) := by decide +kernel
theorem dX8_partOfFraction_9 : decode cX8_partOfFraction 9 = .ok (.istore 4, 2) := by decide +kernel
theorem dX8_partOfFraction_11 : decode cX8_partOfFraction 11 = .ok (.lload_n 1, 1) := by decide +kernel
theorem dX8_partOfFraction_12 : decode cX8_partOfFraction 12 = .ok (.lstore 5, 2) := by decide +kernel
theorem dX8_partOfFraction_14 : decode cX8_partOfFraction 14 = .ok (.lconst 1, 1) := by decide +kernel
theorem dX8_partOfFraction_15 : decode cX8_partOfFraction 15 = .ok (.iload 4, 2) := by decide +kernel
theorem dX8_partOfFraction_17 : decode cX8_partOfFraction 17 = .ok (.lshl, 1) := by decide +kernel
theorem dX8_partOfFraction_18 : decode cX8_partOfFraction 18 = .ok (.lstore 7, 2) := by decide +kernel
theorem dX8_partOfFraction_20 : decode cX8_partOfFraction 20 = .ok (.iconst 0, 1) := by decide +kernel
theorem dX8_partOfFraction_21 : decode cX8_partOfFraction 21 = .ok (.istore 9, 2) := by decide +kernel
theorem dX8_partOfFraction_23 : decode cX8_partOfFraction 23 = .ok (.iload 9, 2) := by decide +kernel
theorem dX8_partOfFraction_25 : decode cX8_partOfFraction 25 = .ok (.iload 4, 2) := by decide +kernel
theorem dX8_partOfFraction_27 : decode cX8_partOfFraction 27 = .ok (.if_icmp .ge 30, 3) := by decide +kernel
theorem dX8_partOfFraction_30 : decode cX8_partOfFraction 30 = .ok (.lload 5, 2) := by decide +kernel
theorem dX8_partOfFraction_32 : decode cX8_partOfFraction 32 = .ok (.lconst 1, 1) := by decide +kernel
theorem dX8_partOfFraction_33 : decode cX8_partOfFraction 33 = .ok (.land, 1) := by decide +kernel
theorem dX8_partOfFraction_34 : decode cX8_partOfFraction 34 = .ok (.lconst 0, 1) := by decide +kernel
theorem dX8_partOfFraction_35 : decode cX8_partOfFraction 35 = .ok (.lcmp, 1) := by decide +kernel
theorem dX8_partOfFraction_36 : decode cX8_partOfFraction 36 = .ok (.ifCond .ne 21, 3) := by decide +kernel
theorem dX8_partOfFraction_39 : decode cX8_partOfFraction 39 = .ok (.lload 5, 2) := by decide +kernel
theorem dX8_partOfFraction_41 : decode cX8_partOfFraction 41 = .ok (.iconst 1, 1) := by decide +kernel
theorem dX8_partOfFraction_42 : decode cX8_partOfFraction 42 = .ok (.lshr, 1) := by decide +kernel
theorem dX8_partOfFraction_43 : decode cX8_partOfFraction 43 = .ok (.lstore 5, 2) := by decide +kernel
theorem dX8_partOfFraction_45 : decode cX8_partOfFraction 45 = .ok (.lload 7, 2) := by decide +kernel
theorem dX8_partOfFraction_47 : decode cX8_partOfFraction 47 = .ok (.iconst 1, 1) := by decide +kernel
theorem dX8_partOfFraction_48 : decode cX8_partOfFraction 48 = .ok (.lshr, 1) := by decide +kernel
theorem dX8_partOfFraction_49 : decode cX8_partOfFraction 49 = .ok (.lstore 7, 2) := by decide +kernel
theorem dX8_partOfFraction_51 : decode cX8_partOfFraction 51 = .ok (.iinc 9 1, 3) := by decide +kernel
theorem dX8_partOfFraction_54 : decode cX8_partOfFraction 54 = .ok (.goto (-31), 3) := by decide +kernel
theorem dX8_partOfFraction_57 : decode cX8_partOfFraction 57 = .ok (.iload_n 3, 1) := by decide +kernel
theorem dX8_partOfFraction_58 : decode cX8_partOfFraction 58 = .ok (.ifCond .ne 8, 3) := by decide +kernel
theorem dX8_partOfFraction_61 : decode cX8_partOfFraction 61 = .ok (.lload 5, 2) := by decide +kernel
theorem dX8_partOfFraction_63 : decode cX8_partOfFraction 63 = .ok (.goto 5, 3) := by decide +kernel
theorem dX8_partOfFraction_66 : decode cX8_partOfFraction 66 = .ok (.lload 7, 2) := by decide +kernel
theorem dX8_partOfFraction_68 : decode cX8_partOfFraction 68 = .ok (.lreturn, 1) := by decide +kernel
theorem dX8_drawBox_0 : decode cX8_drawBox 0 = .ok (.iload_n 1, 1) := by decide +kernel
theorem dX8_drawBox_1 : decode cX8_drawBox 1 = .ok (.istore_n 3, 1) := by decide +kernel
theorem dX8_drawBox_2 : decode cX8_drawBox 2 = .ok (.iconst 0, 1) := by decide +kernel
theorem dX8_drawBox_3 : decode cX8_drawBox 3 = .ok (.istore 4, 2) := by decide +kernel
theorem dX8_drawBox_5 : decode cX8_drawBox 5 = .ok (.iload 4, 2) := by decide +kernel
theorem dX8_drawBox_7 : decode cX8_drawBox 7 = .ok (.bipush 12, 2) := by decide +kernel
theorem dX8_drawBox_9 : decode cX8_drawBox 9 = .ok (.if_icmp .ge 55, 3) := by decide +kernel
theorem dX8_drawBox_12 : decode cX8_drawBox 12 = .ok (.iload 4, 2) := by decide +kernel
theorem dX8_drawBox_14 : decode cX8_drawBox 14 = .ok (.iload_n 2, 1) := by decide +kernel
theorem dX8_drawBox_15 : decode cX8_drawBox 15 = .ok (.if_icmp .ge 32, 3) := by decide +kernel
theorem dX8_drawBox_18 : decode cX8_drawBox 18 = .ok (.ldc_w 362, 3) := by decide +kernel
theorem dX8_drawBox_21 : decode cX8_drawBox 21 = .ok (.iload_n 3, 1) := by decide +kernel
theorem dX8_drawBox_22 : decode cX8_drawBox 22 = .ok (.imul, 1) := by decide +kernel
theorem dX8_drawBox_23 : decode cX8_drawBox 23 = .ok (.sipush 12345, 3) := by decide +kernel
theorem dX8_drawBox_26 : decode cX8_drawBox 26 = .ok (.iadd, 1) := by decide +kernel
theorem dX8_drawBox_27 : decode cX8_drawBox 27 = .ok (.istore_n 3, 1) := by decide +kernel
theorem dX8_drawBox_28 : decode cX8_drawBox 28 = .ok (.aload_n 0, 1) := by decide +kernel
theorem dX8_drawBox_29 : decode cX8_drawBox 29 = .ok (.getfield 53, 3) := by decide +kernel
theorem dX8_drawBox_32 : decode cX8_drawBox 32 = .ok (.getfield 346, 3) := by decide +kernel
theorem dX8_drawBox_35 : decode cX8_drawBox 35 = .ok (.iload 4, 2) := by decide +kernel
theorem dX8_drawBox_37 : decode cX8_drawBox 37 = .ok (.iload_n 3, 1) := by decide +kernel
theorem dX8_drawBox_38 : decode cX8_drawBox 38 = .ok (.bipush 16, 2) := by decide +kernel
theorem dX8_drawBox_40 : decode cX8_drawBox 40 = .ok (.iushr, 1) := by decide +kernel
theorem dX8_drawBox_41 : decode cX8_drawBox 41 = .ok (.iconst 4, 1) := by decide +kernel
theorem dX8_drawBox_42 : decode cX8_drawBox 42 = .ok (.irem, 1) := by decide +kernel
theorem dX8_drawBox_43 : decode cX8_drawBox 43 = .ok (.iastore, 1) := by decide +kernel
theorem dX8_drawBox_44 : decode cX8_drawBox 44 = .ok (.goto 14, 3) := by decide +kernel
theorem dX8_drawBox_47 : decode cX8_drawBox 47 = .ok (.aload_n 0, 1) := by decide +kernel
theorem dX8_drawBox_48 : decode cX8_drawBox 48 = .ok (.getfield 53, 3) := by decide +kernel
theorem dX8_drawBox_51 : decode cX8_drawBox 51 = .ok (.getfield 346, 3) := by decide +kernel
theorem dX8_drawBox_54 : decode cX8_drawBox 54 = .ok (.iload 4, 2) := by decide +kernel
theorem dX8_drawBox_56 : decode cX8_drawBox 56 = .ok (.iconst 0, 1) := by decide +kernel
theorem dX8_drawBox_57 : decode cX8_drawBox 57 = .ok (.iastore, 1) := by decide +kernel
theorem dX8_drawBox_58 : decode cX8_drawBox 58 = .ok (.iinc 4 1, 3) := by decide +kernel
theorem dX8_drawBox_61 : decode cX8_drawBox 61 = .ok (.goto (-56), 3) := by decide +kernel
theorem dX8_drawBox_64 : decode cX8_drawBox 64 = .ok (.return_, 1) := by decide +kernel
theorem dX9_init_0 : decode cX9_init 0 = .ok (.aload_n 0, 1) := by decide +kernel
theorem dX9_init_1 : decode cX9_init 1 = .ok (.invokespecial 1, 3) := by decide +kernel
theorem dX9_init_4 : decode cX9_init 4 = .ok (.aload_n 0, 1) := by decide +kernel
theorem dX9_init_5 : decode cX9_init 5 = .ok (.iconst 4, 1) := by decide +kernel
theorem dX9_init_6 : decode cX9_init 6 = .ok (.newarray .int, 2) := by decide +kernel
theorem dX9_init_8 : decode cX9_init 8 = .ok (.putfield 7, 3) := by decide +kernel
theorem dX9_init_11 : decode cX9_init 11 = .ok (.aload_n 0, 1) := by decide +kernel
theorem dX9_init_12 : decode cX9_init 12 = .ok (.iconst 4, 1) := by decide +kernel
theorem dX9_init_13 : decode cX9_init 13 = .ok (.newarray .int, 2) := by decide +kernel
theorem dX9_init_15 : decode cX9_init 15 = .ok (.putfield 13, 3) := by decide +kernel
theorem dX9_init_18 : decode cX9_init 18 = .ok (.aload_n 0, 1) := by decide +kernel
theorem dX9_init_19 : decode cX9_init 19 = .ok (.sipush 240, 3) := by decide +kernel
theorem dX9_init_22 : decode cX9_init 22 = .ok (.newarray .int, 2) := by decide +kernel
theorem dX9_init_24 : decode cX9_init 24 = .ok (.putfield 16, 3) := by decide +kernel
theorem dX9_init_27 : decode cX9_init 27 = .ok (.aload_n 0, 1) := by decide +kernel
theorem dX9_init_28 : decode cX9_init 28 = .ok (.bipush 60, 2) := by decide +kernel
theorem dX9_init_30 : decode cX9_init 30 = .ok (.newarray .int, 2) := by decide +kernel
theorem dX9_init_32 : decode cX9_init 32 = .ok (.putfield 19, 3) := by decide +kernel
theorem dX9_init_35 : decode cX9_init 35 = .ok (.aload_n 0, 1) := by decide +kernel
theorem dX9_init_36 : decode cX9_init 36 = .ok (.bipush 120, 2) := by decide +kernel
theorem dX9_init_38 : decode cX9_init 38 = .ok (.newarray .int, 2) := by decide +kernel
theorem dX9_init_40 : decode cX9_init 40 = .ok (.putfield 22, 3) := by decide +kernel
theorem dX9_init_43 : decode cX9_init 43 = .ok (.aload_n 0, 1) := by decide +kernel
theorem dX9_init_44 : decode cX9_init 44 = .ok (.iconst 3, 1) := by decide +kernel
theorem dX9_init_45 : decode cX9_init 45 = .ok (.newarray .int, 2) := by decide +kernel
theorem dX9_init_47 : decode cX9_init 47 = .ok (.putfield 25, 3) := by decide +kernel
theorem dX9_init_50 : decode cX9_init 50 = .ok (.aload_n 0, 1) := by decide +kernel
theorem dX9_init_51 : decode cX9_init 51 = .ok (.bipush 30, 2) := by decide +kernel
theorem dX9_init_53 : decode cX9_init 53 = .ok (.newarray .int, 2) := by decide +kernel
theorem dX9_init_55 : decode cX9_init 55 = .ok (.putfield 28, 3) := by decide +kernel
theorem dX9_init_58 : decode cX9_init 58 = .ok (.aload_n 0, 1) := by decide +kernel
theorem dX9_init_59 : decode cX9_init 59 = .ok (.bipush 12, 2) := by decide +kernel
theorem dX9_init_61 : decode cX9_init 61 = .ok (.newarray .int, 2) := by decide +kernel
theorem dX9_init_63 : decode cX9_init 63 = .ok (.putfield 31, 3) := by decide +kernel
theorem dX9_init_66 : decode cX9_init 66 = .ok (.aload_n 0, 1) := by decide +kernel
theorem dX9_init_67 : decode cX9_init 67 = .ok (.bipush 12, 2) := by decide +kernel
theorem dX9_init_69 : decode cX9_init 69 = .ok (.newarray .int, 2) := by decide +kernel
theorem dX9_init_71 : decode cX9_init 71 = .ok (.putfield 34, 3) := by decide +kernel
theorem dX9_init_74 : decode cX9_init 74 = .ok (.aload_n 0, 1) := by decide +kernel
theorem dX9_init_75 : decode cX9_init 75 = .ok (.bipush 24, 2) := by decide +kernel
theorem dX9_init_77 : decode cX9_init 77 = .ok (.newarray .int, 2) := by decide +kernel
theorem dX9_init_79 : decode cX9_init 79 = .ok (.putfield 37, 3) := by decide +kernel
theorem dX9_init_82 : decode cX9_init 82 = .ok (.aload_n 0, 1) := by decide +kernel
theorem dX9_init_83 : decode cX9_init 83 = .ok (.bipush 10, 2) := by decide +kernel
theorem dX9_init_85 : decode cX9_init 85 = .ok (.newarray .int, 2) := by decide +kernel
theorem dX9_init_87 : decode cX9_init 87 = .ok (.putfield 40, 3) := by decide +kernel
theorem dX9_init_90 : decode cX9_init 90 = .ok (.aload_n 0, 1) := by decide +kernel
theorem dX9_init_91 : decode cX9_init 91 = .ok (.bipush 10, 2) := by decide +kernel
theorem dX9_init_93 : decode cX9_init 93 = .ok (.newarray .int, 2) := by decide +kernel
theorem dX9_init_95 : decode cX9_init 95 = .ok (.putfield 43, 3) := by decide +kernel
theorem dX9_init_98 : decode cX9_init 98 = .ok (.aload_n 0, 1) := by decide +kernel
theorem dX9_init_99 : decode cX9_init 99 = .ok (.bipush 10, 2) := by decide +kernel
theorem dX9_init_101 : decode cX9_init 101 = .ok (.newarray .int, 2) := by decide +kernel
theorem dX9_init_103 : decode cX9_init 103 = .ok (.putfield 46, 3) := by decide +kernel
theorem dX9_init_106 : decode cX9_init 106 = .ok (.aload_n 0, 1) := by decide +kernel
theorem dX9_init_107 : decode cX9_init 107 = .ok (.bipush 10, 2) := by decide +kernel
theorem dX9_init_109 : decode cX9_init 109 = .ok (.newarray .boolean, 2) := by decide +kernel
theorem dX9_init_111 : decode cX9_init 111 = .ok (.putfield 49, 3) := by decide +kernel
theorem dX9_init_114 : decode cX9_init 114 = .ok (.aload_n 0, 1) := by decide +kernel
theorem dX9_init_115 : decode cX9_init 115 = .ok (.bipush 10, 2) := by decide +kernel
theorem dX9_init_117 : decode cX9_init 117 = .ok (.newarray .int, 2) := by decide +kernel
theorem dX9_init_119 : decode cX9_init 119 = .ok (.putfield 53, 3) := by decide +kernel
theorem dX9_init_122 : decode cX9_init 122 = .ok (.aload_n 0, 1) := by decide +kernel
theorem dX9_init_123 : decode cX9_init 123 = .ok (.bipush 10, 2) := by decide +kernel
theorem dX9_init_125 : decode cX9_init 125 = .ok (.newarray .boolean, 2) := by decide +kernel
theorem dX9_init_127 : decode cX9_init 127 = .ok (.putfield 56, 3) := by decide +kernel
theorem dX9_init_130 : decode cX9_init 130 = .ok (.aload_n 0, 1) := by decide +kernel
theorem dX9_init_131 : decode cX9_init 131 = .ok (.bipush 120, 2) := by decide +kernel
theorem dX9_init_133 : decode cX9_init 133 = .ok (.newarray .int, 2) := by decide +kernel
theorem dX9_init_135 : decode cX9_init 135 = .ok (.putfield 59, 3) := by decide +kernel
theorem dX9_init_138 : decode cX9_init 138 = .ok (.aload_n 0, 1) := by decide +kernel
theorem dX9_init_139 : decode cX9_init 139 = .ok (.bipush 120, 2) := by decide +kernel
theorem dX9_init_141 : decode cX9_init 141 = .ok (.newarray .int, 2) := by decide +kernel
theorem dX9_init_143 : decode cX9_init 143 = .ok (.putfield 62, 3) := by decide +kernel
theorem dX9_init_146 : decode cX9_init 146 = .ok (.aload_n 0, 1) := by decide +kernel
theorem dX9_init_147 : decode cX9_init 147 = .ok (.bipush 120, 2) := by decide +kernel
theorem dX9_init_149 : decode cX9_init 149 = .ok (.newarray .int, 2) := by decide +kernel
theorem dX9_init_151 : decode cX9_init 151 = .ok (.putfield 65, 3) := by decide +kernel
theorem dX9_init_154 : decode cX9_init 154 = .ok (.aload_n 0, 1) := by decide +kernel
theorem dX9_init_155 : decode cX9_init 155 = .ok (.bipush 120, 2) := by decide +kernel
theorem dX9_init_157 : decode cX9_init 157 = .ok (.newarray .int, 2) := by decide +kernel
theorem dX9_init_159 : decode cX9_init 159 = .ok (.putfield 68, 3) := by decide +kernel
theorem dX9_init_162 : decode cX9_init 162 = .ok (.aload_n 0, 1) := by decide +kernel
theorem dX9_init_163 : decode cX9_init 163 = .ok (.bipush 120, 2) := by decide +kernel
theorem dX9_init_165 : decode cX9_init 165 = .ok (.newarray .int, 2) := by decide +kernel
theorem dX9_init_167 : decode cX9_init 167 = .ok (.putfield 71, 3) := by decide +kernel
theorem dX9_init_170 : decode cX9_init 170 = .ok (.aload_n 0, 1) := by decide +kernel
theorem dX9_init_171 : decode cX9_init 171 = .ok (.bipush 36, 2) := by decide +kernel
theorem dX9_init_173 : decode cX9_init 173 = .ok (.newarray .int, 2) := by decide +kernel
theorem dX9_init_175 : decode cX9_init 175 = .ok (.putfield 74, 3) := by decide +kernel
theorem dX9_init_178 : decode cX9_init 178 = .ok (.aload_n 0, 1) := by decide +kernel
theorem dX9_init_179 : decode cX9_init 179 = .ok (.bipush 24, 2) := by decide +kernel
theorem dX9_init_181 : decode cX9_init 181 = .ok (.newarray .int, 2) := by decide +kernel
theorem dX9_init_183 : decode cX9_init 183 = .ok (.putfield 77, 3) := by decide +kernel
theorem dX9_init_186 : decode cX9_init 186 = .ok (.aload_n 0, 1) := by decide +kernel
theorem dX9_init_187 : decode cX9_init 187 = .ok (.bipush 120, 2) := by decide +kernel
theorem dX9_init_189 : decode cX9_init 189 = .ok (.newarray .int, 2) := by decide +kernel
theorem dX9_init_191 : decode cX9_init 191 = .ok (.putfield 80, 3) := by decide +kernel
theorem dX9_init_194 : decode cX9_init 194 = .ok (.iconst 0, 1) := by decide +kernel
theorem dX9_init_195 : decode cX9_init 195 = .ok (.istore_n 1, 1) := by decide +kernel
theorem dX9_init_196 : decode cX9_init 196 = .ok (.iload_n 1, 1) := by decide +kernel
theorem dX9_init_197 : decode cX9_init 197 = .ok (.iconst 4, 1) := by decide +kernel
theorem dX9_init_198 : decode cX9_init 198 = .ok (.if_icmp .ge 16, 3) := by decide +kernel
theorem dX9_init_201 : decode cX9_init 201 = .ok (.aload_n 0, 1) := by decide +kernel
theorem dX9_init_202 : decode cX9_init 202 = .ok (.getfield 7, 3) := by decide +kernel
theorem dX9_init_205 : decode cX9_init 205 = .ok (.iload_n 1, 1) := by decide +kernel
theorem dX9_init_206 : decode cX9_init 206 = .ok (.iconst (-1), 1) := by decide +kernel
theorem dX9_init_207 : decode cX9_init 207 = .ok (.iastore, 1) := by decide +kernel
theorem dX9_init_208 : decode cX9_init 208 = .ok (.iinc 1 1, 3) := by decide +kernel
theorem dX9_init_211 : decode cX9_init 211 = .ok (.goto (-15), 3) := by decide +kernel
theorem dX9_init_214 : decode cX9_init 214 = .ok (.aload_n 0, 1) := by decide +kernel
theorem dX9_init_215 : decode cX9_init 215 = .ok (.iconst (-1), 1) := by decide +kernel
theorem dX9_init_216 : decode cX9_init 216 = .ok (.putfield 83, 3) := by decide +kernel
theorem dX9_init_219 : decode cX9_init 219 = .ok (.aload_n 0, 1) := by decide +kernel
theorem dX9_init_220 : decode cX9_init 220 = .ok (.iconst (-1), 1) := by decide +kernel
theorem dX9_init_221 : decode cX9_init 221 = .ok (.putfield 87, 3) := by decide +kernel
theorem dX9_init_224 : decode cX9_init 224 = .ok (.return_, 1) := by decide +kernel
theorem dX9_in_0 : decode cX9_in 0 = .ok (.lload_n 0, 1) := by decide +kernel
theorem dX9_in_1 : decode cX9_in 1 = .ok (.lload_n 2, 1) := by decide +kernel
theorem dX9_in_2 : decode cX9_in 2 = .ok (.lcmp, 1) := by decide +kernel
theorem dX9_in_3 : decode cX9_in 3 = .ok (.ifCond .lt 14, 3) := by decide +kernel
theorem dX9_in_6 : decode cX9_in 6 = .ok (.lload_n 0, 1) := by decide +kernel
theorem dX9_in_7 : decode cX9_in 7 = .ok (.lload 4, 2) := by decide +kernel
theorem dX9_in_9 : decode cX9_in 9 = .ok (.lcmp, 1) := by decide +kernel
theorem dX9_in_10 : decode cX9_in 10 = .ok (.ifCond .gt 7, 3) := by decide +kernel
theorem dX9_in_13 : decode cX9_in 13 = .ok (.iconst 1, 1) := by decide +kernel
theorem dX9_in_14 : decode cX9_in 14 = .ok (.goto 4, 3) := by decide +kernel
theorem dX9_in_17 : decode cX9_in 17 = .ok (.iconst 0, 1) := by decide +kernel
theorem dX9_in_18 : decode cX9_in 18 = .ok (.ireturn, 1) := by decide +kernel
theorem dX9_no_0 : decode cX9_no 0 = .ok (.ldc2_w 90, 3) := by decide +kernel
theorem dX9_no_3 : decode cX9_no 3 = .ok (.iload_n 0, 1) := by decide +kernel
theorem dX9_no_4 : decode cX9_no 4 = .ok (.i2l, 1) := by decide +kernel
theorem dX9_no_5 : decode cX9_no 5 = .ok (.lsub, 1) := by decide +kernel
theorem dX9_no_6 : decode cX9_no 6 = .ok (.lreturn, 1) := by decide +kernel
theorem dX9_isTwo_0 : decode cX9_isTwo 0 = .ok (.iload_n 0, 1) := by decide +kernel
theorem dX9_isTwo_1 : decode cX9_isTwo 1 = .ok (.i2l, 1) := by decide +kernel
theorem dX9_isTwo_2 : decode cX9_isTwo 2 = .ok (.lconst 0, 1) := by decide +kernel
theorem dX9_isTwo_3 : decode cX9_isTwo 3 = .ok (.lconst 1, 1) := by decide +kernel
theorem dX9_isTwo_4 : decode cX9_isTwo 4 = .ok (.invokestatic 92, 3) := by decide +kernel
theorem dX9_isTwo_7 : decode cX9_isTwo 7 = .ok (.ireturn, 1) := by decide +kernel
theorem dX9_isIn_0 : decode cX9_isIn 0 = .ok (.iload_n 0, 1) := by decide +kernel
theorem dX9_isIn_1 : decode cX9_isIn 1 = .ok (.iload_n 1, 1) := by decide +kernel
theorem dX9_isIn_2 : decode cX9_isIn 2 = .ok (.ishr, 1) := by decide +kernel
theorem dX9_isIn_3 : decode cX9_isIn 3 = .ok (.iconst 1, 1) := by decide +kernel
theorem dX9_isIn_4 : decode cX9_isIn 4 = .ok (.iand, 1) := by decide +kernel
theorem dX9_isIn_5 : decode cX9_isIn 5 = .ok (.iconst 1, 1) := by decide +kernel
theorem dX9_isIn_6 : decode cX9_isIn 6 = .ok (.if_icmp .ne 7, 3) := by decide +kernel
theorem dX9_isIn_9 : decode cX9_isIn 9 = .ok (.iconst 1, 1) := by decide +kernel
theorem dX9_isIn_10 : decode cX9_isIn 10 = .ok (.goto 4, 3) := by decide +kernel
theorem dX9_isIn_13 : decode cX9_isIn 13 = .ok (.iconst 0, 1) := by decide +kernel
theorem dX9_isIn_14 : decode cX9_isIn 14 = .ok (.ireturn, 1) := by decide +kernel
theorem dX9_ones_0 : decode cX9_ones 0 = .ok (.iconst 0, 1) := by decide +kernel
theorem dX9_ones_1 : decode cX9_ones 1 = .ok (.istore_n 1, 1) := by decide +kernel
theorem dX9_ones_2 : decode cX9_ones 2 = .ok (.iload_n 0, 1) := by decide +kernel
theorem dX9_ones_3 : decode cX9_ones 3 = .ok (.istore_n 2, 1) := by decide +kernel
theorem dX9_ones_4 : decode cX9_ones 4 = .ok (.iload_n 2, 1) := by decide +kernel
theorem dX9_ones_5 : decode cX9_ones 5 = .ok (.ifCond .eq 15, 3) := by decide +kernel
theorem dX9_ones_8 : decode cX9_ones 8 = .ok (.iinc 1 1, 3) := by decide +kernel
theorem dX9_ones_11 : decode cX9_ones 11 = .ok (.iload_n 2, 1) := by decide +kernel
theorem dX9_ones_12 : decode cX9_ones 12 = .ok (.iload_n 2, 1) := by decide +kernel
theorem dX9_ones_13 : decode cX9_ones 13 = .ok (.iconst 1, 1) := by decide +kernel
theorem dX9_ones_14 : decode cX9_ones 14 = .ok (.isub, 1) := by decide +kernel
theorem dX9_ones_15 : decode cX9_ones 15 = .ok (.iand, 1) := by decide +kernel
theorem dX9_ones_16 : decode cX9_ones 16 = .ok (.istore_n 2, 1) := by decide +kernel
theorem dX9_ones_17 : decode cX9_ones 17 = .ok (.goto (-13), 3) := by decide +kernel
theorem dX9_ones_20 : decode cX9_ones 20 = .ok (.iload_n 1, 1) := by decide +kernel
theorem dX9_ones_21 : decode cX9_ones 21 = .ok (.ireturn, 1) := by decide +kernel
theorem dX9_lesser_0 : decode cX9_lesser 0 = .ok (.iload_n 0, 1) := by decide +kernel
theorem dX9_lesser_1 : decode cX9_lesser 1 = .ok (.iload_n 1, 1) := by decide +kernel
theorem dX9_lesser_2 : decode cX9_lesser 2 = .ok (.if_icmp .ge 7, 3) := by decide +kernel
theorem dX9_lesser_5 : decode cX9_lesser 5 = .ok (.iload_n 0, 1) := by decide +kernel
theorem dX9_lesser_6 : decode cX9_lesser 6 = .ok (.goto 4, 3) := by decide +kernel
theorem dX9_lesser_9 : decode cX9_lesser 9 = .ok (.iload_n 1, 1) := by decide +kernel
theorem dX9_lesser_10 : decode cX9_lesser 10 = .ok (.ireturn, 1) := by decide +kernel
theorem dX9_greater_0 : decode cX9_greater 0 = .ok (.iload_n 0, 1) := by decide +kernel
theorem dX9_greater_1 : decode cX9_greater 1 = .ok (.iload_n 1, 1) := by decide +kernel
theorem dX9_greater_2 : decode cX9_greater 2 = .ok (.if_icmp .le 7, 3) := by decide +kernel
theorem dX9_greater_5 : decode cX9_greater 5 = .ok (.iload_n 0, 1) := by decide +kernel
theorem dX9_greater_6 : decode cX9_greater 6 = .ok (.goto 4, 3) := by decide +kernel
theorem dX9_greater_9 : decode cX9_greater 9 = .ok (.iload_n 1, 1) := by decide +kernel
theorem dX9_greater_10 : decode cX9_greater 10 = .ok (.ireturn, 1) := by decide +kernel
theorem dX9_part_0 : decode cX9_part 0 = .ok (.lload_n 0, 1) := by decide +kernel
theorem dX9_part_1 : decode cX9_part 1 = .ok (.lstore 5, 2) := by decide +kernel
theorem dX9_part_3 : decode cX9_part 3 = .ok (.lload_n 2, 1) := by decide +kernel
theorem dX9_part_4 : decode cX9_part 4 = .ok (.lstore 7, 2) := by decide +kernel
theorem dX9_part_6 : decode cX9_part 6 = .ok (.lload 7, 2) := by decide +kernel
theorem dX9_part_8 : decode cX9_part 8 = .ok (.lconst 0, 1) := by decide +kernel
theorem dX9_part_9 : decode cX9_part 9 = .ok (.lcmp, 1) := by decide +kernel
theorem dX9_part_10 : decode cX9_part 10 = .ok (.ifCond .eq 21, 3) := by decide +kernel
theorem dX9_part_13 : decode cX9_part 13 = .ok (.lload 5, 2) := by decide +kernel
theorem dX9_part_15 : decode cX9_part 15 = .ok (.lload 7, 2) := by decide +kernel
theorem dX9_part_17 : decode cX9_part 17 = .ok (.lrem, 1) := by decide +kernel
theorem dX9_part_18 : decode cX9_part 18 = .ok (.lstore 9, 2) := by decide +kernel
theorem dX9_part_20 : decode cX9_part 20 = .ok (.lload 7, 2) := by decide +kernel
theorem dX9_part_22 : decode cX9_part 22 = .ok (.lstore 5, 2) := by decide +kernel
theorem dX9_part_24 : decode cX9_part 24 = .ok (.lload 9, 2) := by decide +kernel
theorem dX9_part_26 : decode cX9_part 26 = .ok (.lstore 7, 2) := by decide +kernel
theorem dX9_part_28 : decode cX9_part 28 = .ok (.goto (-22), 3) := by decide +kernel
theorem dX9_part_31 : decode cX9_part 31 = .ok (.iload 4, 2) := by decide +kernel
theorem dX9_part_33 : decode cX9_part 33 = .ok (.ifCond .ne 7, 3) := by decide +kernel
theorem dX9_part_36 : decode cX9_part 36 = .ok (.lload_n 0, 1) := by decide +kernel
theorem dX9_part_37 : decode cX9_part 37 = .ok (.goto 4, 3) := by decide +kernel
theorem dX9_part_40 : decode cX9_part 40 = .ok (.lload_n 2, 1) := by decide +kernel
theorem dX9_part_41 : decode cX9_part 41 = .ok (.lload 5, 2) := by decide +kernel
theorem dX9_part_43 : decode cX9_part 43 = .ok (.ldiv, 1) := by decide +kernel
theorem dX9_part_44 : decode cX9_part 44 = .ok (.lreturn, 1) := by decide +kernel
theorem dX9_finds_0 : decode cX9_finds 0 = .ok (.aload_n 0, 1) := by decide +kernel
theorem dX9_finds_1 : decode cX9_finds 1 = .ok (.iload_n 1, 1) := by decide +kernel
theorem dX9_finds_2 : decode cX9_finds 2 = .ok (.putfield 96, 3) := by decide +kernel
theorem dX9_finds_5 : decode cX9_finds 5 = .ok (.bipush (-10), 2) := by decide +kernel
theorem dX9_finds_7 : decode cX9_finds 7 = .ok (.iload_n 1, 1) := by decide +kernel
theorem dX9_finds_8 : decode cX9_finds 8 = .ok (.isub, 1) := by decide +kernel
theorem dX9_finds_9 : decode cX9_finds 9 = .ok (.ireturn, 1) := by decide +kernel
theorem dX9_isSheet_0 : decode cX9_isSheet 0 = .ok (.iload_n 0, 1) := by decide +kernel
theorem dX9_isSheet_1 : decode cX9_isSheet 1 = .ok (.i2l, 1) := by decide +kernel
theorem dX9_isSheet_2 : decode cX9_isSheet 2 = .ok (.lconst 0, 1) := by decide +kernel
theorem dX9_isSheet_3 : decode cX9_isSheet 3 = .ok (.ldc2_w 99, 3) := by decide +kernel
theorem dX9_isSheet_6 : decode cX9_isSheet 6 = .ok (.invokestatic 92, 3) := by decide +kernel
theorem dX9_isSheet_9 : decode cX9_isSheet 9 = .ok (.ireturn, 1) := by decide +kernel
theorem dX9_sheet_0 : decode cX9_sheet 0 = .ok (.iload_n 1, 1) := by decide +kernel
theorem dX9_sheet_1 : decode cX9_sheet 1 = .ok (.invokestatic 101, 3) := by decide +kernel
theorem dX9_sheet_4 : decode cX9_sheet 4 = .ok (.ifCond .eq 21, 3) := by decide +kernel
theorem dX9_sheet_7 : decode cX9_sheet 7 = .ok (.iload_n 2, 1) := by decide +kernel
theorem dX9_sheet_8 : decode cX9_sheet 8 = .ok (.i2l, 1) := by decide +kernel
theorem dX9_sheet_9 : decode cX9_sheet 9 = .ok (.lconst 0, 1) := by decide +kernel
theorem dX9_sheet_10 : decode cX9_sheet 10 = .ok (.ldc2_w 105, 3) := by decide +kernel
theorem dX9_sheet_13 : decode cX9_sheet 13 = .ok (.invokestatic 92, 3) := by decide +kernel
theorem dX9_sheet_16 : decode cX9_sheet 16 = .ok (.ifCond .eq 9, 3) := by decide +kernel
theorem dX9_sheet_19 : decode cX9_sheet 19 = .ok (.iload_n 3, 1) := by decide +kernel
theorem dX9_sheet_20 : decode cX9_sheet 20 = .ok (.bipush 60, 2) := by decide +kernel
theorem dX9_sheet_22 : decode cX9_sheet 22 = .ok (.if_icmp .le 6, 3) := by decide +kernel
theorem dX9_sheet_25 : decode cX9_sheet 25 = .ok (.bipush (-2), 2) := by decide +kernel
theorem dX9_sheet_27 : decode cX9_sheet 27 = .ok (.ireturn, 1) := by decide +kernel
theorem dX9_sheet_28 : decode cX9_sheet 28 = .ok (.iload_n 3, 1) := by decide +kernel
theorem dX9_sheet_29 : decode cX9_sheet 29 = .ok (.ifCond .ge 9, 3) := by decide +kernel
theorem dX9_sheet_32 : decode cX9_sheet 32 = .ok (.aload_n 0, 1) := by decide +kernel
theorem dX9_sheet_33 : decode cX9_sheet 33 = .ok (.iconst 5, 1) := by decide +kernel
theorem dX9_sheet_34 : decode cX9_sheet 34 = .ok (.invokevirtual 107, 3) := by decide +kernel
theorem dX9_sheet_37 : decode cX9_sheet 37 = .ok (.ireturn, 1) := by decide +kernel
theorem dX9_sheet_38 : decode cX9_sheet 38 = .ok (.aload_n 0, 1) := by decide +kernel
theorem dX9_sheet_39 : decode cX9_sheet 39 = .ok (.getfield 7, 3) := by decide +kernel
theorem dX9_sheet_42 : decode cX9_sheet 42 = .ok (.iload_n 1, 1) := by decide +kernel
theorem dX9_sheet_43 : decode cX9_sheet 43 = .ok (.iload_n 2, 1) := by decide +kernel
theorem dX9_sheet_44 : decode cX9_sheet 44 = .ok (.iastore, 1) := by decide +kernel
theorem dX9_sheet_45 : decode cX9_sheet 45 = .ok (.aload_n 0, 1) := by decide +kernel
theorem dX9_sheet_46 : decode cX9_sheet 46 = .ok (.getfield 13, 3) := by decide +kernel
theorem dX9_sheet_49 : decode cX9_sheet 49 = .ok (.iload_n 1, 1) := by decide +kernel
theorem dX9_sheet_50 : decode cX9_sheet 50 = .ok (.iload_n 3, 1) := by decide +kernel
theorem dX9_sheet_51 : decode cX9_sheet 51 = .ok (.iastore, 1) := by decide +kernel
theorem dX9_sheet_52 : decode cX9_sheet 52 = .ok (.iconst 0, 1) := by decide +kernel
theorem dX9_sheet_53 : decode cX9_sheet 53 = .ok (.istore 4, 2) := by decide +kernel
theorem dX9_sheet_55 : decode cX9_sheet 55 = .ok (.iload 4, 2) := by decide +kernel
theorem dX9_sheet_57 : decode cX9_sheet 57 = .ok (.iload_n 3, 1) := by decide +kernel
theorem dX9_sheet_58 : decode cX9_sheet 58 = .ok (.if_icmp .ge 22, 3) := by decide +kernel
theorem dX9_sheet_61 : decode cX9_sheet 61 = .ok (.aload_n 0, 1) := by decide +kernel
theorem dX9_sheet_62 : decode cX9_sheet 62 = .ok (.getfield 16, 3) := by decide +kernel
theorem dX9_sheet_65 : decode cX9_sheet 65 = .ok (.bipush 60, 2) := by decide +kernel
theorem dX9_sheet_67 : decode cX9_sheet 67 = .ok (.iload_n 1, 1) := by decide +kernel
theorem dX9_sheet_68 : decode cX9_sheet 68 = .ok (.imul, 1) := by decide +kernel
theorem dX9_sheet_69 : decode cX9_sheet 69 = .ok (.iload 4, 2) := by decide +kernel
theorem dX9_sheet_71 : decode cX9_sheet 71 = .ok (.iadd, 1) := by decide +kernel
theorem dX9_sheet_72 : decode cX9_sheet 72 = .ok (.iconst 0, 1) := by decide +kernel
theorem dX9_sheet_73 : decode cX9_sheet 73 = .ok (.iastore, 1) := by decide +kernel
theorem dX9_sheet_74 : decode cX9_sheet 74 = .ok (.iinc 4 1, 3) := by decide +kernel
theorem dX9_sheet_77 : decode cX9_sheet 77 = .ok (.goto (-22), 3) := by decide +kernel
theorem dX9_sheet_80 : decode cX9_sheet 80 = .ok (.iload_n 3, 1) := by decide +kernel
theorem dX9_sheet_81 : decode cX9_sheet 81 = .ok (.ireturn, 1) := by decide +kernel
theorem dX9_lose_0 : decode cX9_lose 0 = .ok (.iload_n 1, 1) := by decide +kernel
theorem dX9_lose_1 : decode cX9_lose 1 = .ok (.invokestatic 101, 3) := by decide +kernel
theorem dX9_lose_4 : decode cX9_lose 4 = .ok (.ifCond .ne 6, 3) := by decide +kernel
theorem dX9_lose_7 : decode cX9_lose 7 = .ok (.bipush (-2), 2) := by decide +kernel
theorem dX9_lose_9 : decode cX9_lose 9 = .ok (.ireturn, 1) := by decide +kernel
theorem dX9_lose_10 : decode cX9_lose 10 = .ok (.aload_n 0, 1) := by decide +kernel
theorem dX9_lose_11 : decode cX9_lose 11 = .ok (.getfield 7, 3) := by decide +kernel
theorem dX9_lose_14 : decode cX9_lose 14 = .ok (.iload_n 1, 1) := by decide +kernel
theorem dX9_lose_15 : decode cX9_lose 15 = .ok (.iaload, 1) := by decide +kernel
theorem dX9_lose_16 : decode cX9_lose 16 = .ok (.ifCond .ge 9, 3) := by decide +kernel
theorem dX9_lose_19 : decode cX9_lose 19 = .ok (.aload_n 0, 1) := by decide +kernel
theorem dX9_lose_20 : decode cX9_lose 20 = .ok (.iconst 1, 1) := by decide +kernel
theorem dX9_lose_21 : decode cX9_lose 21 = .ok (.invokevirtual 107, 3) := by decide +kernel
theorem dX9_lose_24 : decode cX9_lose 24 = .ok (.ireturn, 1) := by decide +kernel
theorem dX9_lose_25 : decode cX9_lose 25 = .ok (.aload_n 0, 1) := by decide +kernel
theorem dX9_lose_26 : decode cX9_lose 26 = .ok (.getfield 7, 3) := by decide +kernel
theorem dX9_lose_29 : decode cX9_lose 29 = .ok (.iload_n 1, 1) := by decide +kernel
theorem dX9_lose_30 : decode cX9_lose 30 = .ok (.iconst (-1), 1) := by decide +kernel
theorem dX9_lose_31 : decode cX9_lose 31 = .ok (.iastore, 1) := by decide +kernel
theorem dX9_lose_32 : decode cX9_lose 32 = .ok (.aload_n 0, 1) := by decide +kernel
theorem dX9_lose_33 : decode cX9_lose 33 = .ok (.getfield 13, 3) := by decide +kernel
theorem dX9_lose_36 : decode cX9_lose 36 = .ok (.iload_n 1, 1) := by decide +kernel
theorem dX9_lose_37 : decode cX9_lose 37 = .ok (.iaload, 1) := by decide +kernel
theorem dX9_lose_38 : decode cX9_lose 38 = .ok (.ireturn, 1) := by decide +kernel
theorem dX9_lacks_0 : decode cX9_lacks 0 = .ok (.aload_n 0, 1) := by decide +kernel
theorem dX9_lacks_1 : decode cX9_lacks 1 = .ok (.getfield 7, 3) := by decide +kernel
theorem dX9_lacks_4 : decode cX9_lacks 4 = .ok (.iload_n 1, 1) := by decide +kernel
theorem dX9_lacks_5 : decode cX9_lacks 5 = .ok (.iaload, 1) := by decide +kernel
theorem dX9_lacks_6 : decode cX9_lacks 6 = .ok (.ifCond .ge 9, 3) := by decide +kernel
theorem dX9_lacks_9 : decode cX9_lacks 9 = .ok (.aload_n 0, 1) := by decide +kernel
theorem dX9_lacks_10 : decode cX9_lacks 10 = .ok (.iconst 1, 1) := by decide +kernel
theorem dX9_lacks_11 : decode cX9_lacks 11 = .ok (.invokevirtual 107, 3) := by decide +kernel
theorem dX9_lacks_14 : decode cX9_lacks 14 = .ok (.ireturn, 1) := by decide +kernel
theorem dX9_lacks_15 : decode cX9_lacks 15 = .ok (.aload_n 0, 1) := by decide +kernel
theorem dX9_lacks_16 : decode cX9_lacks 16 = .ok (.getfield 7, 3) := by decide +kernel
theorem dX9_lacks_19 : decode cX9_lacks 19 = .ok (.iload_n 1, 1) := by decide +kernel
theorem dX9_lacks_20 : decode cX9_lacks 20 = .ok (.iaload, 1) := by decide +kernel
theorem dX9_lacks_21 : decode cX9_lacks 21 = .ok (.iload_n 2, 1) := by decide +kernel
theorem dX9_lacks_22 : decode cX9_lacks 22 = .ok (.if_icmp .eq 9, 3) := by decide +kernel
theorem dX9_lacks_25 : decode cX9_lacks 25 = .ok (.aload_n 0, 1) := by decide +kernel
theorem dX9_lacks_26 : decode cX9_lacks 26 = .ok (.iconst 3, 1) := by decide +kernel
theorem dX9_lacks_27 : decode cX9_lacks 27 = .ok (.invokevirtual 107, 3) := by decide +kernel
theorem dX9_lacks_30 : decode cX9_lacks 30 = .ok (.ireturn, 1) := by decide +kernel
theorem dX9_lacks_31 : decode cX9_lacks 31 = .ok (.iload_n 3, 1) := by decide +kernel
theorem dX9_lacks_32 : decode cX9_lacks 32 = .ok (.i2l, 1) := by decide +kernel
theorem dX9_lacks_33 : decode cX9_lacks 33 = .ok (.lconst 0, 1) := by decide +kernel
theorem dX9_lacks_34 : decode cX9_lacks 34 = .ok (.aload_n 0, 1) := by decide +kernel
theorem dX9_lacks_35 : decode cX9_lacks 35 = .ok (.getfield 13, 3) := by decide +kernel
theorem dX9_lacks_38 : decode cX9_lacks 38 = .ok (.iload_n 1, 1) := by decide +kernel
theorem dX9_lacks_39 : decode cX9_lacks 39 = .ok (.iaload, 1) := by decide +kernel
theorem dX9_lacks_40 : decode cX9_lacks 40 = .ok (.iconst 1, 1) := by decide +kernel
theorem dX9_lacks_41 : decode cX9_lacks 41 = .ok (.isub, 1) := by decide +kernel
theorem dX9_lacks_42 : decode cX9_lacks 42 = .ok (.i2l, 1) := by decide +kernel
theorem dX9_lacks_43 : decode cX9_lacks 43 = .ok (.invokestatic 92, 3) := by decide +kernel
theorem dX9_lacks_46 : decode cX9_lacks 46 = .ok (.ifCond .eq 7, 3) := by decide +kernel
theorem dX9_lacks_49 : decode cX9_lacks 49 = .ok (.iconst 0, 1) := by decide +kernel
theorem dX9_lacks_50 : decode cX9_lacks 50 = .ok (.goto 8, 3) := by decide +kernel
theorem dX9_lacks_53 : decode cX9_lacks 53 = .ok (.aload_n 0, 1) := by decide +kernel
theorem dX9_lacks_54 : decode cX9_lacks 54 = .ok (.iconst 2, 1) := by decide +kernel
theorem dX9_lacks_55 : decode cX9_lacks 55 = .ok (.invokevirtual 107, 3) := by decide +kernel
theorem dX9_lacks_58 : decode cX9_lacks 58 = .ok (.ireturn, 1) := by decide +kernel
theorem dX9_cut_0 : decode cX9_cut 0 = .ok (.iload_n 0, 1) := by decide +kernel
theorem dX9_cut_1 : decode cX9_cut 1 = .ok (.ifCond .ne 8, 3) := by decide +kernel
theorem dX9_cut_4 : decode cX9_cut 4 = .ok (.iload_n 1, 1) := by decide +kernel
theorem dX9_cut_5 : decode cX9_cut 5 = .ok (.i2b, 1) := by decide +kernel
theorem dX9_cut_6 : decode cX9_cut 6 = .ok (.goto 14, 3) := by decide +kernel
theorem dX9_cut_9 : decode cX9_cut 9 = .ok (.iload_n 0, 1) := by decide +kernel
theorem dX9_cut_10 : decode cX9_cut 10 = .ok (.iconst 1, 1) := by decide +kernel
theorem dX9_cut_11 : decode cX9_cut 11 = .ok (.if_icmp .ne 8, 3) := by decide +kernel
theorem dX9_cut_14 : decode cX9_cut 14 = .ok (.iload_n 1, 1) := by decide +kernel
theorem dX9_cut_15 : decode cX9_cut 15 = .ok (.i2s, 1) := by decide +kernel
theorem dX9_cut_16 : decode cX9_cut 16 = .ok (.goto 4, 3) := by decide +kernel
theorem dX9_cut_19 : decode cX9_cut 19 = .ok (.iload_n 1, 1) := by decide +kernel
theorem dX9_cut_20 : decode cX9_cut 20 = .ok (.ireturn, 1) := by decide +kernel
theorem dX9_lay_0 : decode cX9_lay 0 = .ok (.iload_n 1, 1) := by decide +kernel
theorem dX9_lay_1 : decode cX9_lay 1 = .ok (.invokestatic 101, 3) := by decide +kernel
theorem dX9_lay_4 : decode cX9_lay 4 = .ok (.ifCond .eq 15, 3) := by decide +kernel
theorem dX9_lay_7 : decode cX9_lay 7 = .ok (.iload_n 2, 1) := by decide +kernel
theorem dX9_lay_8 : decode cX9_lay 8 = .ok (.i2l, 1) := by decide +kernel
theorem dX9_lay_9 : decode cX9_lay 9 = .ok (.lconst 0, 1) := by decide +kernel
theorem dX9_lay_10 : decode cX9_lay 10 = .ok (.ldc2_w 105, 3) := by decide +kernel
theorem dX9_lay_13 : decode cX9_lay 13 = .ok (.invokestatic 92, 3) := by decide +kernel
theorem dX9_lay_16 : decode cX9_lay 16 = .ok (.ifCond .ne 6, 3) := by decide +kernel
theorem dX9_lay_19 : decode cX9_lay 19 = .ok (.bipush (-2), 2) := by decide +kernel
theorem dX9_lay_21 : decode cX9_lay 21 = .ok (.ireturn, 1) := by decide +kernel
theorem dX9_lay_22 : decode cX9_lay 22 = .ok (.aload_n 0, 1) := by decide +kernel
theorem dX9_lay_23 : decode cX9_lay 23 = .ok (.iload_n 1, 1) := by decide +kernel
theorem dX9_lay_24 : decode cX9_lay 24 = .ok (.iload_n 2, 1) := by decide +kernel
theorem dX9_lay_25 : decode cX9_lay 25 = .ok (.iload_n 3, 1) := by decide +kernel
theorem dX9_lay_26 : decode cX9_lay 26 = .ok (.invokevirtual 111, 3) := by decide +kernel
theorem dX9_lay_29 : decode cX9_lay 29 = .ok (.istore 5, 2) := by decide +kernel
theorem dX9_lay_31 : decode cX9_lay 31 = .ok (.iload 5, 2) := by decide +kernel
theorem dX9_lay_33 : decode cX9_lay 33 = .ok (.ifCond .eq 6, 3) := by decide +kernel
theorem dX9_lay_36 : decode cX9_lay 36 = .ok (.iload 5, 2) := by decide +kernel
theorem dX9_lay_38 : decode cX9_lay 38 = .ok (.ireturn, 1) := by decide +kernel
theorem dX9_lay_39 : decode cX9_lay 39 = .ok (.aload_n 0, 1) := by decide +kernel
theorem dX9_lay_40 : decode cX9_lay 40 = .ok (.getfield 16, 3) := by decide +kernel
theorem dX9_lay_43 : decode cX9_lay 43 = .ok (.bipush 60, 2) := by decide +kernel
theorem dX9_lay_45 : decode cX9_lay 45 = .ok (.iload_n 1, 1) := by decide +kernel
theorem dX9_lay_46 : decode cX9_lay 46 = .ok (.imul, 1) := by decide +kernel
theorem dX9_lay_47 : decode cX9_lay 47 = .ok (.iload_n 3, 1) := by decide +kernel
theorem dX9_lay_48 : decode cX9_lay 48 = .ok (.iadd, 1) := by decide +kernel
theorem dX9_lay_49 : decode cX9_lay 49 = .ok (.iload_n 2, 1) := by decide +kernel
theorem dX9_lay_50 : decode cX9_lay 50 = .ok (.iload 4, 2) := by decide +kernel
theorem dX9_lay_52 : decode cX9_lay 52 = .ok (.invokestatic 115, 3) := by decide +kernel
theorem dX9_lay_55 : decode cX9_lay 55 = .ok (.iastore, 1) := by decide +kernel
theorem dX9_lay_56 : decode cX9_lay 56 = .ok (.iconst 1, 1) := by decide +kernel
theorem dX9_lay_57 : decode cX9_lay 57 = .ok (.ireturn, 1) := by decide +kernel
theorem dX9_get_0 : decode cX9_get 0 = .ok (.iload_n 1, 1) := by decide +kernel
theorem dX9_get_1 : decode cX9_get 1 = .ok (.invokestatic 101, 3) := by decide +kernel
theorem dX9_get_4 : decode cX9_get 4 = .ok (.ifCond .eq 25, 3) := by decide +kernel
theorem dX9_get_7 : decode cX9_get 7 = .ok (.iload_n 2, 1) := by decide +kernel
theorem dX9_get_8 : decode cX9_get 8 = .ok (.i2l, 1) := by decide +kernel
theorem dX9_get_9 : decode cX9_get 9 = .ok (.lconst 0, 1) := by decide +kernel
theorem dX9_get_10 : decode cX9_get 10 = .ok (.ldc2_w 105, 3) := by decide +kernel
theorem dX9_get_13 : decode cX9_get 13 = .ok (.invokestatic 92, 3) := by decide +kernel
theorem dX9_get_16 : decode cX9_get 16 = .ok (.ifCond .eq 13, 3) := by decide +kernel
theorem dX9_get_19 : decode cX9_get 19 = .ok (.aload_n 0, 1) := by decide +kernel
theorem dX9_get_20 : decode cX9_get 20 = .ok (.iload_n 1, 1) := by decide +kernel
theorem dX9_get_21 : decode cX9_get 21 = .ok (.iload_n 2, 1) := by decide +kernel
theorem dX9_get_22 : decode cX9_get 22 = .ok (.iload_n 3, 1) := by decide +kernel
theorem dX9_get_23 : decode cX9_get 23 = .ok (.invokevirtual 111, 3) := by decide +kernel
theorem dX9_get_26 : decode cX9_get 26 = .ok (.ifCond .eq 6, 3) := by decide +kernel
theorem dX9_get_29 : decode cX9_get 29 = .ok (.ldc 119, 2) := by decide +kernel
theorem dX9_get_31 : decode cX9_get 31 = .ok (.ireturn, 1) := by decide +kernel
theorem dX9_get_32 : decode cX9_get 32 = .ok (.aload_n 0, 1) := by decide +kernel
theorem dX9_get_33 : decode cX9_get 33 = .ok (.getfield 16, 3) := by decide +kernel
theorem dX9_get_36 : decode cX9_get 36 = .ok (.bipush 60, 2) := by decide +kernel
theorem dX9_get_38 : decode cX9_get 38 = .ok (.iload_n 1, 1) := by decide +kernel
theorem dX9_get_39 : decode cX9_get 39 = .ok (.imul, 1) := by decide +kernel
theorem dX9_get_40 : decode cX9_get 40 = .ok (.iload_n 3, 1) := by decide +kernel
theorem dX9_get_41 : decode cX9_get 41 = .ok (.iadd, 1) := by decide +kernel
theorem dX9_get_42 : decode cX9_get 42 = .ok (.iaload, 1) := by decide +kernel
theorem dX9_get_43 : decode cX9_get 43 = .ok (.ireturn, 1) := by decide +kernel
theorem dX9_copy_0 : decode cX9_copy 0 = .ok (.iload_n 1, 1) := by decide +kernel
theorem dX9_copy_1 : decode cX9_copy 1 = .ok (.invokestatic 101, 3) := by decide +kernel
theorem dX9_copy_4 : decode cX9_copy 4 = .ok (.ifCond .eq 10, 3) := by decide +kernel
theorem dX9_copy_7 : decode cX9_copy 7 = .ok (.iload_n 3, 1) := by decide +kernel
theorem dX9_copy_8 : decode cX9_copy 8 = .ok (.invokestatic 101, 3) := by decide +kernel
theorem dX9_copy_11 : decode cX9_copy 11 = .ok (.ifCond .ne 6, 3) := by decide +kernel
theorem dX9_copy_14 : decode cX9_copy 14 = .ok (.bipush (-2), 2) := by decide +kernel
theorem dX9_copy_16 : decode cX9_copy 16 = .ok (.ireturn, 1) := by decide +kernel
theorem dX9_copy_17 : decode cX9_copy 17 = .ok (.aload_n 0, 1) := by decide +kernel
theorem dX9_copy_18 : decode cX9_copy 18 = .ok (.getfield 7, 3) := by decide +kernel
theorem dX9_copy_21 : decode cX9_copy 21 = .ok (.iload_n 1, 1) := by decide +kernel
theorem dX9_copy_22 : decode cX9_copy 22 = .ok (.iaload, 1) := by decide +kernel
theorem dX9_copy_23 : decode cX9_copy 23 = .ok (.ifCond .lt 12, 3) := by decide +kernel
theorem dX9_copy_26 : decode cX9_copy 26 = .ok (.aload_n 0, 1) := by decide +kernel
theorem dX9_copy_27 : decode cX9_copy 27 = .ok (.getfield 7, 3) := by decide +kernel
theorem dX9_copy_30 : decode cX9_copy 30 = .ok (.iload_n 3, 1) := by decide +kernel
theorem dX9_copy_31 : decode cX9_copy 31 = .ok (.iaload, 1) := by decide +kernel
theorem dX9_copy_32 : decode cX9_copy 32 = .ok (.ifCond .ge 9, 3) := by decide +kernel
theorem dX9_copy_35 : decode cX9_copy 35 = .ok (.aload_n 0, 1) := by decide +kernel
theorem dX9_copy_36 : decode cX9_copy 36 = .ok (.iconst 1, 1) := by decide +kernel
theorem dX9_copy_37 : decode cX9_copy 37 = .ok (.invokevirtual 107, 3) := by decide +kernel
theorem dX9_copy_40 : decode cX9_copy 40 = .ok (.ireturn, 1) := by decide +kernel
theorem dX9_copy_41 : decode cX9_copy 41 = .ok (.aload_n 0, 1) := by decide +kernel
theorem dX9_copy_42 : decode cX9_copy 42 = .ok (.getfield 7, 3) := by decide +kernel
theorem dX9_copy_45 : decode cX9_copy 45 = .ok (.iload_n 1, 1) := by decide +kernel
theorem dX9_copy_46 : decode cX9_copy 46 = .ok (.iaload, 1) := by decide +kernel
theorem dX9_copy_47 : decode cX9_copy 47 = .ok (.aload_n 0, 1) := by decide +kernel
theorem dX9_copy_48 : decode cX9_copy 48 = .ok (.getfield 7, 3) := by decide +kernel
theorem dX9_copy_51 : decode cX9_copy 51 = .ok (.iload_n 3, 1) := by decide +kernel
theorem dX9_copy_52 : decode cX9_copy 52 = .ok (.iaload, 1) := by decide +kernel
theorem dX9_copy_53 : decode cX9_copy 53 = .ok (.if_icmp .eq 9, 3) := by decide +kernel
theorem dX9_copy_56 : decode cX9_copy 56 = .ok (.aload_n 0, 1) := by decide +kernel
theorem dX9_copy_57 : decode cX9_copy 57 = .ok (.iconst 4, 1) := by decide +kernel
theorem dX9_copy_58 : decode cX9_copy 58 = .ok (.invokevirtual 107, 3) := by decide +kernel
theorem dX9_copy_61 : decode cX9_copy 61 = .ok (.ireturn, 1) := by decide +kernel
theorem dX9_copy_62 : decode cX9_copy 62 = .ok (.iload_n 2, 1) := by decide +kernel
theorem dX9_copy_63 : decode cX9_copy 63 = .ok (.ifCond .lt 48, 3) := by decide +kernel
theorem dX9_copy_66 : decode cX9_copy 66 = .ok (.iload 4, 2) := by decide +kernel
theorem dX9_copy_68 : decode cX9_copy 68 = .ok (.ifCond .lt 43, 3) := by decide +kernel
theorem dX9_copy_71 : decode cX9_copy 71 = .ok (.iload 5, 2) := by decide +kernel
theorem dX9_copy_73 : decode cX9_copy 73 = .ok (.ifCond .lt 38, 3) := by decide +kernel
theorem dX9_copy_76 : decode cX9_copy 76 = .ok (.iload_n 2, 1) := by decide +kernel
theorem dX9_copy_77 : decode cX9_copy 77 = .ok (.i2l, 1) := by decide +kernel
theorem dX9_copy_78 : decode cX9_copy 78 = .ok (.iload 5, 2) := by decide +kernel
theorem dX9_copy_80 : decode cX9_copy 80 = .ok (.i2l, 1) := by decide +kernel
theorem dX9_copy_81 : decode cX9_copy 81 = .ok (.ladd, 1) := by decide +kernel
theorem dX9_copy_82 : decode cX9_copy 82 = .ok (.aload_n 0, 1) := by decide +kernel
theorem dX9_copy_83 : decode cX9_copy 83 = .ok (.getfield 13, 3) := by decide +kernel
theorem dX9_copy_86 : decode cX9_copy 86 = .ok (.iload_n 1, 1) := by decide +kernel
theorem dX9_copy_87 : decode cX9_copy 87 = .ok (.iaload, 1) := by decide +kernel
theorem dX9_copy_88 : decode cX9_copy 88 = .ok (.i2l, 1) := by decide +kernel
theorem dX9_copy_89 : decode cX9_copy 89 = .ok (.lcmp, 1) := by decide +kernel
theorem dX9_copy_90 : decode cX9_copy 90 = .ok (.ifCond .gt 21, 3) := by decide +kernel
theorem dX9_copy_93 : decode cX9_copy 93 = .ok (.iload 4, 2) := by decide +kernel
theorem dX9_copy_95 : decode cX9_copy 95 = .ok (.i2l, 1) := by decide +kernel
theorem dX9_copy_96 : decode cX9_copy 96 = .ok (.iload 5, 2) := by decide +kernel
theorem dX9_copy_98 : decode cX9_copy 98 = .ok (.i2l, 1) := by decide +kernel
theorem dX9_copy_99 : decode cX9_copy 99 = .ok (.ladd, 1) := by decide +kernel
theorem dX9_copy_100 : decode cX9_copy 100 = .ok (.aload_n 0, 1) := by decide +kernel
theorem dX9_copy_101 : decode cX9_copy 101 = .ok (.getfield 13, 3) := by decide +kernel
theorem dX9_copy_104 : decode cX9_copy 104 = .ok (.iload_n 3, 1) := by decide +kernel
theorem dX9_copy_105 : decode cX9_copy 105 = .ok (.iaload, 1) := by decide +kernel
theorem dX9_copy_106 : decode cX9_copy 106 = .ok (.i2l, 1) := by decide +kernel
theorem dX9_copy_107 : decode cX9_copy 107 = .ok (.lcmp, 1) := by decide +kernel
theorem dX9_copy_108 : decode cX9_copy 108 = .ok (.ifCond .le 9, 3) := by decide +kernel
theorem dX9_copy_111 : decode cX9_copy 111 = .ok (.aload_n 0, 1) := by decide +kernel
theorem dX9_copy_112 : decode cX9_copy 112 = .ok (.iconst 2, 1) := by decide +kernel
theorem dX9_copy_113 : decode cX9_copy 113 = .ok (.invokevirtual 107, 3) := by decide +kernel
theorem dX9_copy_116 : decode cX9_copy 116 = .ok (.ireturn, 1) := by decide +kernel
theorem dX9_copy_117 : decode cX9_copy 117 = .ok (.iconst 0, 1) := by decide +kernel
theorem dX9_copy_118 : decode cX9_copy 118 = .ok (.istore 6, 2) := by decide +kernel
theorem dX9_copy_120 : decode cX9_copy 120 = .ok (.iload 6, 2) := by decide +kernel
theorem dX9_copy_122 : decode cX9_copy 122 = .ok (.iload 5, 2) := by decide +kernel
theorem dX9_copy_124 : decode cX9_copy 124 = .ok (.if_icmp .ge 30, 3) := by decide +kernel
theorem dX9_copy_127 : decode cX9_copy 127 = .ok (.aload_n 0, 1) := by decide +kernel
theorem dX9_copy_128 : decode cX9_copy 128 = .ok (.getfield 19, 3) := by decide +kernel
theorem dX9_copy_131 : decode cX9_copy 131 = .ok (.iload 6, 2) := by decide +kernel
theorem dX9_copy_133 : decode cX9_copy 133 = .ok (.aload_n 0, 1) := by decide +kernel
theorem dX9_copy_134 : decode cX9_copy 134 = .ok (.getfield 16, 3) := by decide +kernel
theorem dX9_copy_137 : decode cX9_copy 137 = .ok (.bipush 60, 2) := by decide +kernel
theorem dX9_copy_139 : decode cX9_copy 139 = .ok (.iload_n 1, 1) := by decide +kernel
theorem dX9_copy_140 : decode cX9_copy 140 = .ok (.imul, 1) := by decide +kernel
theorem dX9_copy_141 : decode cX9_copy 141 = .ok (.iload_n 2, 1) := by decide +kernel
theorem dX9_copy_142 : decode cX9_copy 142 = .ok (.iadd, 1) := by decide +kernel
theorem dX9_copy_143 : decode cX9_copy 143 = .ok (.iload 6, 2) := by decide +kernel
theorem dX9_copy_145 : decode cX9_copy 145 = .ok (.iadd, 1) := by decide +kernel
theorem dX9_copy_146 : decode cX9_copy 146 = .ok (.iaload, 1) := by decide +kernel
theorem dX9_copy_147 : decode cX9_copy 147 = .ok (.iastore, 1) := by decide +kernel
theorem dX9_copy_148 : decode cX9_copy 148 = .ok (.iinc 6 1, 3) := by decide +kernel
theorem dX9_copy_151 : decode cX9_copy 151 = .ok (.goto (-31), 3) := by decide +kernel
theorem dX9_copy_154 : decode cX9_copy 154 = .ok (.iconst 0, 1) := by decide +kernel
theorem dX9_copy_155 : decode cX9_copy 155 = .ok (.istore 6, 2) := by decide +kernel
theorem dX9_copy_157 : decode cX9_copy 157 = .ok (.iload 6, 2) := by decide +kernel
theorem dX9_copy_159 : decode cX9_copy 159 = .ok (.iload 5, 2) := by decide +kernel
theorem dX9_copy_161 : decode cX9_copy 161 = .ok (.if_icmp .ge 31, 3) := by decide +kernel
theorem dX9_copy_164 : decode cX9_copy 164 = .ok (.aload_n 0, 1) := by decide +kernel
theorem dX9_copy_165 : decode cX9_copy 165 = .ok (.getfield 16, 3) := by decide +kernel
theorem dX9_copy_168 : decode cX9_copy 168 = .ok (.bipush 60, 2) := by decide +kernel
theorem dX9_copy_170 : decode cX9_copy 170 = .ok (.iload_n 3, 1) := by decide +kernel
theorem dX9_copy_171 : decode cX9_copy 171 = .ok (.imul, 1) := by decide +kernel
theorem dX9_copy_172 : decode cX9_copy 172 = .ok (.iload 4, 2) := by decide +kernel
theorem dX9_copy_174 : decode cX9_copy 174 = .ok (.iadd, 1) := by decide +kernel
theorem dX9_copy_175 : decode cX9_copy 175 = .ok (.iload 6, 2) := by decide +kernel
theorem dX9_copy_177 : decode cX9_copy 177 = .ok (.iadd, 1) := by decide +kernel
theorem dX9_copy_178 : decode cX9_copy 178 = .ok (.aload_n 0, 1) := by decide +kernel
theorem dX9_copy_179 : decode cX9_copy 179 = .ok (.getfield 19, 3) := by decide +kernel
theorem dX9_copy_182 : decode cX9_copy 182 = .ok (.iload 6, 2) := by decide +kernel
theorem dX9_copy_184 : decode cX9_copy 184 = .ok (.iaload, 1) := by decide +kernel
theorem dX9_copy_185 : decode cX9_copy 185 = .ok (.iastore, 1) := by decide +kernel
theorem dX9_copy_186 : decode cX9_copy 186 = .ok (.iinc 6 1, 3) := by decide +kernel
theorem dX9_copy_189 : decode cX9_copy 189 = .ok (.goto (-32), 3) := by decide +kernel
theorem dX9_copy_192 : decode cX9_copy 192 = .ok (.iconst 1, 1) := by decide +kernel
theorem dX9_copy_193 : decode cX9_copy 193 = .ok (.ireturn, 1) := by decide +kernel
theorem dX9_isText_0 : decode cX9_isText 0 = .ok (.iload_n 0, 1) := by decide +kernel
theorem dX9_isText_1 : decode cX9_isText 1 = .ok (.i2l, 1) := by decide +kernel
theorem dX9_isText_2 : decode cX9_isText 2 = .ok (.lconst 0, 1) := by decide +kernel
theorem dX9_isText_3 : decode cX9_isText 3 = .ok (.ldc2_w 105, 3) := by decide +kernel
theorem dX9_isText_6 : decode cX9_isText 6 = .ok (.invokestatic 92, 3) := by decide +kernel
theorem dX9_isText_9 : decode cX9_isText 9 = .ok (.ireturn, 1) := by decide +kernel
theorem dX9_type_0 : decode cX9_type 0 = .ok (.iload_n 1, 1) := by decide +kernel
theorem dX9_type_1 : decode cX9_type 1 = .ok (.invokestatic 120, 3) := by decide +kernel
theorem dX9_type_4 : decode cX9_type 4 = .ok (.ifCond .eq 15, 3) := by decide +kernel
theorem dX9_type_7 : decode cX9_type 7 = .ok (.iload_n 2, 1) := by decide +kernel
theorem dX9_type_8 : decode cX9_type 8 = .ok (.i2l, 1) := by decide +kernel
theorem dX9_type_9 : decode cX9_type 9 = .ok (.lconst 0, 1) := by decide +kernel
theorem dX9_type_10 : decode cX9_type 10 = .ok (.ldc2_w 123, 3) := by decide +kernel
theorem dX9_type_13 : decode cX9_type 13 = .ok (.invokestatic 92, 3) := by decide +kernel
theorem dX9_type_16 : decode cX9_type 16 = .ok (.ifCond .ne 6, 3) := by decide +kernel
theorem dX9_type_19 : decode cX9_type 19 = .ok (.bipush (-2), 2) := by decide +kernel
theorem dX9_type_21 : decode cX9_type 21 = .ok (.ireturn, 1) := by decide +kernel
theorem dX9_type_22 : decode cX9_type 22 = .ok (.aload_n 0, 1) := by decide +kernel
theorem dX9_type_23 : decode cX9_type 23 = .ok (.getfield 25, 3) := by decide +kernel
theorem dX9_type_26 : decode cX9_type 26 = .ok (.iload_n 1, 1) := by decide +kernel
theorem dX9_type_27 : decode cX9_type 27 = .ok (.iaload, 1) := by decide +kernel
theorem dX9_type_28 : decode cX9_type 28 = .ok (.iload_n 1, 1) := by decide +kernel
theorem dX9_type_29 : decode cX9_type 29 = .ok (.ifCond .ne 8, 3) := by decide +kernel
theorem dX9_type_32 : decode cX9_type 32 = .ok (.bipush 39, 2) := by decide +kernel
theorem dX9_type_34 : decode cX9_type 34 = .ok (.goto 15, 3) := by decide +kernel
theorem dX9_type_37 : decode cX9_type 37 = .ok (.iload_n 1, 1) := by decide +kernel
theorem dX9_type_38 : decode cX9_type 38 = .ok (.iconst 1, 1) := by decide +kernel
theorem dX9_type_39 : decode cX9_type 39 = .ok (.if_icmp .ne 8, 3) := by decide +kernel
theorem dX9_type_42 : decode cX9_type 42 = .ok (.bipush 15, 2) := by decide +kernel
theorem dX9_type_44 : decode cX9_type 44 = .ok (.goto 5, 3) := by decide +kernel
theorem dX9_type_47 : decode cX9_type 47 = .ok (.bipush 12, 2) := by decide +kernel
theorem dX9_type_49 : decode cX9_type 49 = .ok (.if_icmp .ne 6, 3) := by decide +kernel
theorem dX9_type_52 : decode cX9_type 52 = .ok (.bipush (-4), 2) := by decide +kernel
theorem dX9_type_54 : decode cX9_type 54 = .ok (.ireturn, 1) := by decide +kernel
theorem dX9_type_55 : decode cX9_type 55 = .ok (.aload_n 0, 1) := by decide +kernel
theorem dX9_type_56 : decode cX9_type 56 = .ok (.getfield 22, 3) := by decide +kernel
theorem dX9_type_59 : decode cX9_type 59 = .ok (.bipush 40, 2) := by decide +kernel
theorem dX9_type_61 : decode cX9_type 61 = .ok (.iload_n 1, 1) := by decide +kernel
theorem dX9_type_62 : decode cX9_type 62 = .ok (.imul, 1) := by decide +kernel
theorem dX9_type_63 : decode cX9_type 63 = .ok (.aload_n 0, 1) := by decide +kernel
theorem dX9_type_64 : decode cX9_type 64 = .ok (.getfield 25, 3) := by decide +kernel
theorem dX9_type_67 : decode cX9_type 67 = .ok (.iload_n 1, 1) := by decide +kernel
theorem dX9_type_68 : decode cX9_type 68 = .ok (.iaload, 1) := by decide +kernel
theorem dX9_type_69 : decode cX9_type 69 = .ok (.iadd, 1) := by decide +kernel
theorem dX9_type_70 : decode cX9_type 70 = .ok (.iload_n 2, 1) := by decide +kernel
theorem dX9_type_71 : decode cX9_type 71 = .ok (.iastore, 1) := by decide +kernel
theorem dX9_type_72 : decode cX9_type 72 = .ok (.aload_n 0, 1) := by decide +kernel
theorem dX9_type_73 : decode cX9_type 73 = .ok (.getfield 25, 3) := by decide +kernel
theorem dX9_type_76 : decode cX9_type 76 = .ok (.iload_n 1, 1) := by decide +kernel
theorem dX9_type_77 : decode cX9_type 77 = .ok (.dup2, 1) := by decide +kernel
theorem dX9_type_78 : decode cX9_type 78 = .ok (.iaload, 1) := by decide +kernel
theorem dX9_type_79 : decode cX9_type 79 = .ok (.iconst 1, 1) := by decide +kernel
theorem dX9_type_80 : decode cX9_type 80 = .ok (.iadd, 1) := by decide +kernel
theorem dX9_type_81 : decode cX9_type 81 = .ok (.iastore, 1) := by decide +kernel
theorem dX9_type_82 : decode cX9_type 82 = .ok (.aload_n 0, 1) := by decide +kernel
theorem dX9_type_83 : decode cX9_type 83 = .ok (.getfield 25, 3) := by decide +kernel
theorem dX9_type_86 : decode cX9_type 86 = .ok (.iload_n 1, 1) := by decide +kernel
theorem dX9_type_87 : decode cX9_type 87 = .ok (.iaload, 1) := by decide +kernel
theorem dX9_type_88 : decode cX9_type 88 = .ok (.ireturn, 1) := by decide +kernel
theorem dX9_wipe_0 : decode cX9_wipe 0 = .ok (.iload_n 1, 1) := by decide +kernel
theorem dX9_wipe_1 : decode cX9_wipe 1 = .ok (.invokestatic 120, 3) := by decide +kernel
theorem dX9_wipe_4 : decode cX9_wipe 4 = .ok (.ifCond .ne 6, 3) := by decide +kernel
theorem dX9_wipe_7 : decode cX9_wipe 7 = .ok (.bipush (-2), 2) := by decide +kernel
theorem dX9_wipe_9 : decode cX9_wipe 9 = .ok (.ireturn, 1) := by decide +kernel
theorem dX9_wipe_10 : decode cX9_wipe 10 = .ok (.aload_n 0, 1) := by decide +kernel
theorem dX9_wipe_11 : decode cX9_wipe 11 = .ok (.getfield 25, 3) := by decide +kernel
theorem dX9_wipe_14 : decode cX9_wipe 14 = .ok (.iload_n 1, 1) := by decide +kernel
theorem dX9_wipe_15 : decode cX9_wipe 15 = .ok (.iaload, 1) := by decide +kernel
theorem dX9_wipe_16 : decode cX9_wipe 16 = .ok (.istore_n 2, 1) := by decide +kernel
theorem dX9_wipe_17 : decode cX9_wipe 17 = .ok (.aload_n 0, 1) := by decide +kernel
theorem dX9_wipe_18 : decode cX9_wipe 18 = .ok (.getfield 25, 3) := by decide +kernel
theorem dX9_wipe_21 : decode cX9_wipe 21 = .ok (.iload_n 1, 1) := by decide +kernel
theorem dX9_wipe_22 : decode cX9_wipe 22 = .ok (.iconst 0, 1) := by decide +kernel
theorem dX9_wipe_23 : decode cX9_wipe 23 = .ok (.iastore, 1) := by decide +kernel
theorem dX9_wipe_24 : decode cX9_wipe 24 = .ok (.iload_n 2, 1) := by decide +kernel
theorem dX9_wipe_25 : decode cX9_wipe 25 = .ok (.ireturn, 1) := by decide +kernel
theorem dX9_undo_0 : decode cX9_undo 0 = .ok (.iload_n 1, 1) := by decide +kernel
theorem dX9_undo_1 : decode cX9_undo 1 = .ok (.invokestatic 120, 3) := by decide +kernel
theorem dX9_undo_4 : decode cX9_undo 4 = .ok (.ifCond .ne 6, 3) := by decide +kernel
theorem dX9_undo_7 : decode cX9_undo 7 = .ok (.bipush (-2), 2) := by decide +kernel
theorem dX9_undo_9 : decode cX9_undo 9 = .ok (.ireturn, 1) := by decide +kernel
theorem dX9_undo_10 : decode cX9_undo 10 = .ok (.aload_n 0, 1) := by decide +kernel
theorem dX9_undo_11 : decode cX9_undo 11 = .ok (.getfield 25, 3) := by decide +kernel
theorem dX9_undo_14 : decode cX9_undo 14 = .ok (.iload_n 1, 1) := by decide +kernel
theorem dX9_undo_15 : decode cX9_undo 15 = .ok (.iaload, 1) := by decide +kernel
theorem dX9_undo_16 : decode cX9_undo 16 = .ok (.ifCond .ne 6, 3) := by decide +kernel
theorem dX9_undo_19 : decode cX9_undo 19 = .ok (.bipush (-3), 2) := by decide +kernel
theorem dX9_undo_21 : decode cX9_undo 21 = .ok (.ireturn, 1) := by decide +kernel
theorem dX9_undo_22 : decode cX9_undo 22 = .ok (.aload_n 0, 1) := by decide +kernel
theorem dX9_undo_23 : decode cX9_undo 23 = .ok (.getfield 25, 3) := by decide +kernel
theorem dX9_undo_26 : decode cX9_undo 26 = .ok (.iload_n 1, 1) := by decide +kernel
theorem dX9_undo_27 : decode cX9_undo 27 = .ok (.dup2, 1) := by decide +kernel
theorem dX9_undo_28 : decode cX9_undo 28 = .ok (.iaload, 1) := by decide +kernel
theorem dX9_undo_29 : decode cX9_undo 29 = .ok (.iconst 1, 1) := by decide +kernel
theorem dX9_undo_30 : decode cX9_undo 30 = .ok (.isub, 1) := by decide +kernel
theorem dX9_undo_31 : decode cX9_undo 31 = .ok (.iastore, 1) := by decide +kernel
theorem dX9_undo_32 : decode cX9_undo 32 = .ok (.aload_n 0, 1) := by decide +kernel
theorem dX9_undo_33 : decode cX9_undo 33 = .ok (.getfield 25, 3) := by decide +kernel
theorem dX9_undo_36 : decode cX9_undo 36 = .ok (.iload_n 1, 1) := by decide +kernel
theorem dX9_undo_37 : decode cX9_undo 37 = .ok (.iaload, 1) := by decide +kernel
theorem dX9_undo_38 : decode cX9_undo 38 = .ok (.ireturn, 1) := by decide +kernel
theorem dX9_figureOf_0 : decode cX9_figureOf 0 = .ok (.iload_n 0, 1) := by decide +kernel
theorem dX9_figureOf_1 : decode cX9_figureOf 1 = .ok (.i2l, 1) := by decide +kernel
theorem dX9_figureOf_2 : decode cX9_figureOf 2 = .ok (.bipush 48, 2) := by decide +kernel
theorem dX9_figureOf_4 : decode cX9_figureOf 4 = .ok (.iload_n 1, 1) := by decide +kernel
theorem dX9_figureOf_5 : decode cX9_figureOf 5 = .ok (.iadd, 1) := by decide +kernel
theorem dX9_figureOf_6 : decode cX9_figureOf 6 = .ok (.i2l, 1) := by decide +kernel
theorem dX9_figureOf_7 : decode cX9_figureOf 7 = .ok (.bipush 48, 2) := by decide +kernel
theorem dX9_figureOf_9 : decode cX9_figureOf 9 = .ok (.iload_n 2, 1) := by decide +kernel
theorem dX9_figureOf_10 : decode cX9_figureOf 10 = .ok (.iadd, 1) := by decide +kernel
theorem dX9_figureOf_11 : decode cX9_figureOf 11 = .ok (.i2l, 1) := by decide +kernel
theorem dX9_figureOf_12 : decode cX9_figureOf 12 = .ok (.invokestatic 92, 3) := by decide +kernel
theorem dX9_figureOf_15 : decode cX9_figureOf 15 = .ok (.ifCond .eq 10, 3) := by decide +kernel
theorem dX9_figureOf_18 : decode cX9_figureOf 18 = .ok (.iload_n 0, 1) := by decide +kernel
theorem dX9_figureOf_19 : decode cX9_figureOf 19 = .ok (.bipush 48, 2) := by decide +kernel
theorem dX9_figureOf_21 : decode cX9_figureOf 21 = .ok (.isub, 1) := by decide +kernel
theorem dX9_figureOf_22 : decode cX9_figureOf 22 = .ok (.goto 5, 3) := by decide +kernel
theorem dX9_figureOf_25 : decode cX9_figureOf 25 = .ok (.bipush (-9), 2) := by decide +kernel
theorem dX9_figureOf_27 : decode cX9_figureOf 27 = .ok (.ireturn, 1) := by decide +kernel
theorem dX9_byteOf_0 : decode cX9_byteOf 0 = .ok (.iload_n 0, 1) := by decide +kernel
theorem dX9_byteOf_1 : decode cX9_byteOf 1 = .ok (.tableswitch 75 0 2 #[27, 60, 68], 27) := by decide +kernel
theorem dX9_byteOf_28 : decode cX9_byteOf 28 = .ok (.iload_n 1, 1) := by decide +kernel
theorem dX9_byteOf_29 : decode cX9_byteOf 29 = .ok (.bipush 115, 2) := by decide +kernel
theorem dX9_byteOf_31 : decode cX9_byteOf 31 = .ok (.if_icmp .ne 7, 3) := by decide +kernel
theorem dX9_byteOf_34 : decode cX9_byteOf 34 = .ok (.iconst 0, 1) := by decide +kernel
theorem dX9_byteOf_35 : decode cX9_byteOf 35 = .ok (.goto 25, 3) := by decide +kernel
theorem dX9_byteOf_38 : decode cX9_byteOf 38 = .ok (.iload_n 1, 1) := by decide +kernel
theorem dX9_byteOf_39 : decode cX9_byteOf 39 = .ok (.bipush 99, 2) := by decide +kernel
theorem dX9_byteOf_41 : decode cX9_byteOf 41 = .ok (.if_icmp .ne 7, 3) := by decide +kernel
theorem dX9_byteOf_44 : decode cX9_byteOf 44 = .ok (.iconst 1, 1) := by decide +kernel
theorem dX9_byteOf_45 : decode cX9_byteOf 45 = .ok (.goto 15, 3) := by decide +kernel
theorem dX9_byteOf_48 : decode cX9_byteOf 48 = .ok (.iload_n 1, 1) := by decide +kernel
theorem dX9_byteOf_49 : decode cX9_byteOf 49 = .ok (.bipush 119, 2) := by decide +kernel
theorem dX9_byteOf_51 : decode cX9_byteOf 51 = .ok (.if_icmp .ne 7, 3) := by decide +kernel
theorem dX9_byteOf_54 : decode cX9_byteOf 54 = .ok (.iconst 2, 1) := by decide +kernel
theorem dX9_byteOf_55 : decode cX9_byteOf 55 = .ok (.goto 5, 3) := by decide +kernel
theorem dX9_byteOf_58 : decode cX9_byteOf 58 = .ok (.bipush (-9), 2) := by decide +kernel
theorem dX9_byteOf_60 : decode cX9_byteOf 60 = .ok (.ireturn, 1) := by decide +kernel
theorem dX9_byteOf_61 : decode cX9_byteOf 61 = .ok (.iload_n 1, 1) := by decide +kernel
theorem dX9_byteOf_62 : decode cX9_byteOf 62 = .ok (.iload_n 2, 1) := by decide +kernel
theorem dX9_byteOf_63 : decode cX9_byteOf 63 = .ok (.bipush 9, 2) := by decide +kernel
theorem dX9_byteOf_65 : decode cX9_byteOf 65 = .ok (.invokestatic 125, 3) := by decide +kernel
theorem dX9_byteOf_68 : decode cX9_byteOf 68 = .ok (.ireturn, 1) := by decide +kernel
theorem dX9_byteOf_69 : decode cX9_byteOf 69 = .ok (.iload_n 1, 1) := by decide +kernel
theorem dX9_byteOf_70 : decode cX9_byteOf 70 = .ok (.iconst 0, 1) := by decide +kernel
theorem dX9_byteOf_71 : decode cX9_byteOf 71 = .ok (.iconst 5, 1) := by decide +kernel
theorem dX9_byteOf_72 : decode cX9_byteOf 72 = .ok (.invokestatic 125, 3) := by decide +kernel
theorem dX9_byteOf_75 : decode cX9_byteOf 75 = .ok (.ireturn, 1) := by decide +kernel
theorem dX9_byteOf_76 : decode cX9_byteOf 76 = .ok (.iload_n 1, 1) := by decide +kernel
theorem dX9_byteOf_77 : decode cX9_byteOf 77 = .ok (.bipush 59, 2) := by decide +kernel
theorem dX9_byteOf_79 : decode cX9_byteOf 79 = .ok (.if_icmp .ne 7, 3) := by decide +kernel
theorem dX9_byteOf_82 : decode cX9_byteOf 82 = .ok (.iconst 0, 1) := by decide +kernel
theorem dX9_byteOf_83 : decode cX9_byteOf 83 = .ok (.goto 5, 3) := by decide +kernel
theorem dX9_byteOf_86 : decode cX9_byteOf 86 = .ok (.bipush (-9), 2) := by decide +kernel
theorem dX9_byteOf_88 : decode cX9_byteOf 88 = .ok (.ireturn, 1) := by decide +kernel
theorem dX9_readsThings_0 : decode cX9_readsThings 0 = .ok (.aload_n 0, 1) := by decide +kernel
theorem dX9_readsThings_1 : decode cX9_readsThings 1 = .ok (.iconst 0, 1) := by decide +kernel
theorem dX9_readsThings_2 : decode cX9_readsThings 2 = .ok (.putfield 128, 3) := by decide +kernel
theorem dX9_readsThings_5 : decode cX9_readsThings 5 = .ok (.aload_n 0, 1) := by decide +kernel
theorem dX9_readsThings_6 : decode cX9_readsThings 6 = .ok (.getfield 25, 3) := by decide +kernel
theorem dX9_readsThings_9 : decode cX9_readsThings 9 = .ok (.iconst 0, 1) := by decide +kernel
theorem dX9_readsThings_10 : decode cX9_readsThings 10 = .ok (.iaload, 1) := by decide +kernel
theorem dX9_readsThings_11 : decode cX9_readsThings 11 = .ok (.istore_n 1, 1) := by decide +kernel
theorem dX9_readsThings_12 : decode cX9_readsThings 12 = .ok (.iconst 0, 1) := by decide +kernel
theorem dX9_readsThings_13 : decode cX9_readsThings 13 = .ok (.istore_n 2, 1) := by decide +kernel
theorem dX9_readsThings_14 : decode cX9_readsThings 14 = .ok (.iload_n 2, 1) := by decide +kernel
theorem dX9_readsThings_15 : decode cX9_readsThings 15 = .ok (.iload_n 1, 1) := by decide +kernel
theorem dX9_readsThings_16 : decode cX9_readsThings 16 = .ok (.if_icmp .ge 78, 3) := by decide +kernel
theorem dX9_readsThings_19 : decode cX9_readsThings 19 = .ok (.iload_n 2, 1) := by decide +kernel
theorem dX9_readsThings_20 : decode cX9_readsThings 20 = .ok (.iconst 4, 1) := by decide +kernel
theorem dX9_readsThings_21 : decode cX9_readsThings 21 = .ok (.irem, 1) := by decide +kernel
theorem dX9_readsThings_22 : decode cX9_readsThings 22 = .ok (.istore_n 3, 1) := by decide +kernel
theorem dX9_readsThings_23 : decode cX9_readsThings 23 = .ok (.iload_n 3, 1) := by decide +kernel
theorem dX9_readsThings_24 : decode cX9_readsThings 24 = .ok (.aload_n 0, 1) := by decide +kernel
theorem dX9_readsThings_25 : decode cX9_readsThings 25 = .ok (.getfield 22, 3) := by decide +kernel
theorem dX9_readsThings_28 : decode cX9_readsThings 28 = .ok (.iload_n 2, 1) := by decide +kernel
theorem dX9_readsThings_29 : decode cX9_readsThings 29 = .ok (.iaload, 1) := by decide +kernel
theorem dX9_readsThings_30 : decode cX9_readsThings 30 = .ok (.iconst 0, 1) := by decide +kernel
theorem dX9_readsThings_31 : decode cX9_readsThings 31 = .ok (.invokestatic 131, 3) := by decide +kernel
theorem dX9_readsThings_34 : decode cX9_readsThings 34 = .ok (.istore 4, 2) := by decide +kernel
theorem dX9_readsThings_36 : decode cX9_readsThings 36 = .ok (.iload 4, 2) := by decide +kernel
theorem dX9_readsThings_38 : decode cX9_readsThings 38 = .ok (.bipush (-9), 2) := by decide +kernel
theorem dX9_readsThings_40 : decode cX9_readsThings 40 = .ok (.if_icmp .ne 10, 3) := by decide +kernel
theorem dX9_readsThings_43 : decode cX9_readsThings 43 = .ok (.aload_n 0, 1) := by decide +kernel
theorem dX9_readsThings_44 : decode cX9_readsThings 44 = .ok (.iconst 0, 1) := by decide +kernel
theorem dX9_readsThings_45 : decode cX9_readsThings 45 = .ok (.putfield 128, 3) := by decide +kernel
theorem dX9_readsThings_48 : decode cX9_readsThings 48 = .ok (.iload_n 2, 1) := by decide +kernel
theorem dX9_readsThings_49 : decode cX9_readsThings 49 = .ok (.ireturn, 1) := by decide +kernel
theorem dX9_readsThings_50 : decode cX9_readsThings 50 = .ok (.iload_n 3, 1) := by decide +kernel
theorem dX9_readsThings_51 : decode cX9_readsThings 51 = .ok (.iconst 3, 1) := by decide +kernel
theorem dX9_readsThings_52 : decode cX9_readsThings 52 = .ok (.if_icmp .ge 17, 3) := by decide +kernel
theorem dX9_readsThings_55 : decode cX9_readsThings 55 = .ok (.aload_n 0, 1) := by decide +kernel
theorem dX9_readsThings_56 : decode cX9_readsThings 56 = .ok (.getfield 28, 3) := by decide +kernel
theorem dX9_readsThings_59 : decode cX9_readsThings 59 = .ok (.iconst 3, 1) := by decide +kernel
theorem dX9_readsThings_60 : decode cX9_readsThings 60 = .ok (.iload_n 2, 1) := by decide +kernel
theorem dX9_readsThings_61 : decode cX9_readsThings 61 = .ok (.iconst 4, 1) := by decide +kernel
theorem dX9_readsThings_62 : decode cX9_readsThings 62 = .ok (.idiv, 1) := by decide +kernel
theorem dX9_readsThings_63 : decode cX9_readsThings 63 = .ok (.imul, 1) := by decide +kernel
theorem dX9_readsThings_64 : decode cX9_readsThings 64 = .ok (.iload_n 3, 1) := by decide +kernel
theorem dX9_readsThings_65 : decode cX9_readsThings 65 = .ok (.iadd, 1) := by decide +kernel
theorem dX9_readsThings_66 : decode cX9_readsThings 66 = .ok (.iload 4, 2) := by decide +kernel
theorem dX9_readsThings_68 : decode cX9_readsThings 68 = .ok (.iastore, 1) := by decide +kernel
theorem dX9_readsThings_69 : decode cX9_readsThings 69 = .ok (.aload_n 0, 1) := by decide +kernel
theorem dX9_readsThings_70 : decode cX9_readsThings 70 = .ok (.dup, 1) := by decide +kernel
theorem dX9_readsThings_71 : decode cX9_readsThings 71 = .ok (.getfield 128, 3) := by decide +kernel
theorem dX9_readsThings_74 : decode cX9_readsThings 74 = .ok (.iload_n 3, 1) := by decide +kernel
theorem dX9_readsThings_75 : decode cX9_readsThings 75 = .ok (.iconst 2, 1) := by decide +kernel
theorem dX9_readsThings_76 : decode cX9_readsThings 76 = .ok (.if_icmp .ne 7, 3) := by decide +kernel
theorem dX9_readsThings_79 : decode cX9_readsThings 79 = .ok (.iconst 1, 1) := by decide +kernel
theorem dX9_readsThings_80 : decode cX9_readsThings 80 = .ok (.goto 4, 3) := by decide +kernel
theorem dX9_readsThings_83 : decode cX9_readsThings 83 = .ok (.iconst 0, 1) := by decide +kernel
theorem dX9_readsThings_84 : decode cX9_readsThings 84 = .ok (.iadd, 1) := by decide +kernel
theorem dX9_readsThings_85 : decode cX9_readsThings 85 = .ok (.putfield 128, 3) := by decide +kernel
theorem dX9_readsThings_88 : decode cX9_readsThings 88 = .ok (.iinc 2 1, 3) := by decide +kernel
theorem dX9_readsThings_91 : decode cX9_readsThings 91 = .ok (.goto (-77), 3) := by decide +kernel
theorem dX9_readsThings_94 : decode cX9_readsThings 94 = .ok (.iload_n 1, 1) := by decide +kernel
theorem dX9_readsThings_95 : decode cX9_readsThings 95 = .ok (.ifCond .le 17, 3) := by decide +kernel
theorem dX9_readsThings_98 : decode cX9_readsThings 98 = .ok (.iload_n 1, 1) := by decide +kernel
theorem dX9_readsThings_99 : decode cX9_readsThings 99 = .ok (.iconst 4, 1) := by decide +kernel
theorem dX9_readsThings_100 : decode cX9_readsThings 100 = .ok (.irem, 1) := by decide +kernel
theorem dX9_readsThings_101 : decode cX9_readsThings 101 = .ok (.iconst 3, 1) := by decide +kernel
theorem dX9_readsThings_102 : decode cX9_readsThings 102 = .ok (.if_icmp .eq 10, 3) := by decide +kernel
theorem dX9_readsThings_105 : decode cX9_readsThings 105 = .ok (.aload_n 0, 1) := by decide +kernel
theorem dX9_readsThings_106 : decode cX9_readsThings 106 = .ok (.iconst 0, 1) := by decide +kernel
theorem dX9_readsThings_107 : decode cX9_readsThings 107 = .ok (.putfield 128, 3) := by decide +kernel
theorem dX9_readsThings_110 : decode cX9_readsThings 110 = .ok (.iload_n 1, 1) := by decide +kernel
theorem dX9_readsThings_111 : decode cX9_readsThings 111 = .ok (.ireturn, 1) := by decide +kernel
theorem dX9_readsThings_112 : decode cX9_readsThings 112 = .ok (.iconst (-1), 1) := by decide +kernel
theorem dX9_readsThings_113 : decode cX9_readsThings 113 = .ok (.ireturn, 1) := by decide +kernel
theorem dX9_readsJudges_0 : decode cX9_readsJudges 0 = .ok (.aload_n 0, 1) := by decide +kernel
theorem dX9_readsJudges_1 : decode cX9_readsJudges 1 = .ok (.iconst 0, 1) := by decide +kernel
theorem dX9_readsJudges_2 : decode cX9_readsJudges 2 = .ok (.putfield 134, 3) := by decide +kernel
theorem dX9_readsJudges_5 : decode cX9_readsJudges 5 = .ok (.aload_n 0, 1) := by decide +kernel
theorem dX9_readsJudges_6 : decode cX9_readsJudges 6 = .ok (.getfield 25, 3) := by decide +kernel
theorem dX9_readsJudges_9 : decode cX9_readsJudges 9 = .ok (.iconst 1, 1) := by decide +kernel
theorem dX9_readsJudges_10 : decode cX9_readsJudges 10 = .ok (.iaload, 1) := by decide +kernel
theorem dX9_readsJudges_11 : decode cX9_readsJudges 11 = .ok (.istore_n 1, 1) := by decide +kernel
theorem dX9_readsJudges_12 : decode cX9_readsJudges 12 = .ok (.iconst 0, 1) := by decide +kernel
theorem dX9_readsJudges_13 : decode cX9_readsJudges 13 = .ok (.istore_n 2, 1) := by decide +kernel
theorem dX9_readsJudges_14 : decode cX9_readsJudges 14 = .ok (.iload_n 2, 1) := by decide +kernel
theorem dX9_readsJudges_15 : decode cX9_readsJudges 15 = .ok (.iload_n 1, 1) := by decide +kernel
theorem dX9_readsJudges_16 : decode cX9_readsJudges 16 = .ok (.if_icmp .ge 81, 3) := by decide +kernel
theorem dX9_readsJudges_19 : decode cX9_readsJudges 19 = .ok (.iload_n 2, 1) := by decide +kernel
theorem dX9_readsJudges_20 : decode cX9_readsJudges 20 = .ok (.iconst 4, 1) := by decide +kernel
theorem dX9_readsJudges_21 : decode cX9_readsJudges 21 = .ok (.irem, 1) := by decide +kernel
theorem dX9_readsJudges_22 : decode cX9_readsJudges 22 = .ok (.istore_n 3, 1) := by decide +kernel
theorem dX9_readsJudges_23 : decode cX9_readsJudges 23 = .ok (.iload_n 3, 1) := by decide +kernel
theorem dX9_readsJudges_24 : decode cX9_readsJudges 24 = .ok (.aload_n 0, 1) := by decide +kernel
theorem dX9_readsJudges_25 : decode cX9_readsJudges 25 = .ok (.getfield 22, 3) := by decide +kernel
theorem dX9_readsJudges_28 : decode cX9_readsJudges 28 = .ok (.bipush 40, 2) := by decide +kernel
theorem dX9_readsJudges_30 : decode cX9_readsJudges 30 = .ok (.iload_n 2, 1) := by decide +kernel
theorem dX9_readsJudges_31 : decode cX9_readsJudges 31 = .ok (.iadd, 1) := by decide +kernel
theorem dX9_readsJudges_32 : decode cX9_readsJudges 32 = .ok (.iaload, 1) := by decide +kernel
theorem dX9_readsJudges_33 : decode cX9_readsJudges 33 = .ok (.iconst 1, 1) := by decide +kernel
theorem dX9_readsJudges_34 : decode cX9_readsJudges 34 = .ok (.invokestatic 131, 3) := by decide +kernel
theorem dX9_readsJudges_37 : decode cX9_readsJudges 37 = .ok (.istore 4, 2) := by decide +kernel
theorem dX9_readsJudges_39 : decode cX9_readsJudges 39 = .ok (.iload 4, 2) := by decide +kernel
theorem dX9_readsJudges_41 : decode cX9_readsJudges 41 = .ok (.bipush (-9), 2) := by decide +kernel
theorem dX9_readsJudges_43 : decode cX9_readsJudges 43 = .ok (.if_icmp .ne 10, 3) := by decide +kernel
theorem dX9_readsJudges_46 : decode cX9_readsJudges 46 = .ok (.aload_n 0, 1) := by decide +kernel
theorem dX9_readsJudges_47 : decode cX9_readsJudges 47 = .ok (.iconst 0, 1) := by decide +kernel
theorem dX9_readsJudges_48 : decode cX9_readsJudges 48 = .ok (.putfield 134, 3) := by decide +kernel
theorem dX9_readsJudges_51 : decode cX9_readsJudges 51 = .ok (.iload_n 2, 1) := by decide +kernel
theorem dX9_readsJudges_52 : decode cX9_readsJudges 52 = .ok (.ireturn, 1) := by decide +kernel
theorem dX9_readsJudges_53 : decode cX9_readsJudges 53 = .ok (.iload_n 3, 1) := by decide +kernel
theorem dX9_readsJudges_54 : decode cX9_readsJudges 54 = .ok (.iconst 3, 1) := by decide +kernel
theorem dX9_readsJudges_55 : decode cX9_readsJudges 55 = .ok (.if_icmp .ge 17, 3) := by decide +kernel
theorem dX9_readsJudges_58 : decode cX9_readsJudges 58 = .ok (.aload_n 0, 1) := by decide +kernel
theorem dX9_readsJudges_59 : decode cX9_readsJudges 59 = .ok (.getfield 31, 3) := by decide +kernel
theorem dX9_readsJudges_62 : decode cX9_readsJudges 62 = .ok (.iconst 3, 1) := by decide +kernel
theorem dX9_readsJudges_63 : decode cX9_readsJudges 63 = .ok (.iload_n 2, 1) := by decide +kernel
theorem dX9_readsJudges_64 : decode cX9_readsJudges 64 = .ok (.iconst 4, 1) := by decide +kernel
theorem dX9_readsJudges_65 : decode cX9_readsJudges 65 = .ok (.idiv, 1) := by decide +kernel
theorem dX9_readsJudges_66 : decode cX9_readsJudges 66 = .ok (.imul, 1) := by decide +kernel
theorem dX9_readsJudges_67 : decode cX9_readsJudges 67 = .ok (.iload_n 3, 1) := by decide +kernel
theorem dX9_readsJudges_68 : decode cX9_readsJudges 68 = .ok (.iadd, 1) := by decide +kernel
theorem dX9_readsJudges_69 : decode cX9_readsJudges 69 = .ok (.iload 4, 2) := by decide +kernel
theorem dX9_readsJudges_71 : decode cX9_readsJudges 71 = .ok (.iastore, 1) := by decide +kernel
theorem dX9_readsJudges_72 : decode cX9_readsJudges 72 = .ok (.aload_n 0, 1) := by decide +kernel
theorem dX9_readsJudges_73 : decode cX9_readsJudges 73 = .ok (.dup, 1) := by decide +kernel
theorem dX9_readsJudges_74 : decode cX9_readsJudges 74 = .ok (.getfield 134, 3) := by decide +kernel
theorem dX9_readsJudges_77 : decode cX9_readsJudges 77 = .ok (.iload_n 3, 1) := by decide +kernel
theorem dX9_readsJudges_78 : decode cX9_readsJudges 78 = .ok (.iconst 2, 1) := by decide +kernel
theorem dX9_readsJudges_79 : decode cX9_readsJudges 79 = .ok (.if_icmp .ne 7, 3) := by decide +kernel
theorem dX9_readsJudges_82 : decode cX9_readsJudges 82 = .ok (.iconst 1, 1) := by decide +kernel
theorem dX9_readsJudges_83 : decode cX9_readsJudges 83 = .ok (.goto 4, 3) := by decide +kernel
theorem dX9_readsJudges_86 : decode cX9_readsJudges 86 = .ok (.iconst 0, 1) := by decide +kernel
theorem dX9_readsJudges_87 : decode cX9_readsJudges 87 = .ok (.iadd, 1) := by decide +kernel
theorem dX9_readsJudges_88 : decode cX9_readsJudges 88 = .ok (.putfield 134, 3) := by decide +kernel
theorem dX9_readsJudges_91 : decode cX9_readsJudges 91 = .ok (.iinc 2 1, 3) := by decide +kernel
theorem dX9_readsJudges_94 : decode cX9_readsJudges 94 = .ok (.goto (-80), 3) := by decide +kernel
theorem dX9_readsJudges_97 : decode cX9_readsJudges 97 = .ok (.iload_n 1, 1) := by decide +kernel
theorem dX9_readsJudges_98 : decode cX9_readsJudges 98 = .ok (.ifCond .le 17, 3) := by decide +kernel
theorem dX9_readsJudges_101 : decode cX9_readsJudges 101 = .ok (.iload_n 1, 1) := by decide +kernel
theorem dX9_readsJudges_102 : decode cX9_readsJudges 102 = .ok (.iconst 4, 1) := by decide +kernel
theorem dX9_readsJudges_103 : decode cX9_readsJudges 103 = .ok (.irem, 1) := by decide +kernel
theorem dX9_readsJudges_104 : decode cX9_readsJudges 104 = .ok (.iconst 3, 1) := by decide +kernel
theorem dX9_readsJudges_105 : decode cX9_readsJudges 105 = .ok (.if_icmp .eq 10, 3) := by decide +kernel
theorem dX9_readsJudges_108 : decode cX9_readsJudges 108 = .ok (.aload_n 0, 1) := by decide +kernel
theorem dX9_readsJudges_109 : decode cX9_readsJudges 109 = .ok (.iconst 0, 1) := by decide +kernel
theorem dX9_readsJudges_110 : decode cX9_readsJudges 110 = .ok (.putfield 134, 3) := by decide +kernel
theorem dX9_readsJudges_113 : decode cX9_readsJudges 113 = .ok (.iload_n 1, 1) := by decide +kernel
theorem dX9_readsJudges_114 : decode cX9_readsJudges 114 = .ok (.ireturn, 1) := by decide +kernel
theorem dX9_readsJudges_115 : decode cX9_readsJudges 115 = .ok (.iconst (-1), 1) := by decide +kernel
theorem dX9_readsJudges_116 : decode cX9_readsJudges 116 = .ok (.ireturn, 1) := by decide +kernel
theorem dX9_clears_0 : decode cX9_clears 0 = .ok (.iconst 0, 1) := by decide +kernel
theorem dX9_clears_1 : decode cX9_clears 1 = .ok (.istore_n 2, 1) := by decide +kernel
theorem dX9_clears_2 : decode cX9_clears 2 = .ok (.iload_n 2, 1) := by decide +kernel
theorem dX9_clears_3 : decode cX9_clears 3 = .ok (.bipush 12, 2) := by decide +kernel
theorem dX9_clears_5 : decode cX9_clears 5 = .ok (.if_icmp .ge 16, 3) := by decide +kernel
theorem dX9_clears_8 : decode cX9_clears 8 = .ok (.aload_n 0, 1) := by decide +kernel
theorem dX9_clears_9 : decode cX9_clears 9 = .ok (.getfield 34, 3) := by decide +kernel
theorem dX9_clears_12 : decode cX9_clears 12 = .ok (.iload_n 2, 1) := by decide +kernel
theorem dX9_clears_13 : decode cX9_clears 13 = .ok (.iconst 0, 1) := by decide +kernel
theorem dX9_clears_14 : decode cX9_clears 14 = .ok (.iastore, 1) := by decide +kernel
theorem dX9_clears_15 : decode cX9_clears 15 = .ok (.iinc 2 1, 3) := by decide +kernel
theorem dX9_clears_18 : decode cX9_clears 18 = .ok (.goto (-16), 3) := by decide +kernel
theorem dX9_clears_21 : decode cX9_clears 21 = .ok (.aload_n 0, 1) := by decide +kernel
theorem dX9_clears_22 : decode cX9_clears 22 = .ok (.iconst 0, 1) := by decide +kernel
theorem dX9_clears_23 : decode cX9_clears 23 = .ok (.putfield 137, 3) := by decide +kernel
theorem dX9_clears_26 : decode cX9_clears 26 = .ok (.iload_n 1, 1) := by decide +kernel
theorem dX9_clears_27 : decode cX9_clears 27 = .ok (.ireturn, 1) := by decide +kernel
theorem dX9_readsBox_0 : decode cX9_readsBox 0 = .ok (.aload_n 0, 1) := by decide +kernel
theorem dX9_readsBox_1 : decode cX9_readsBox 1 = .ok (.iconst (-1), 1) := by decide +kernel
theorem dX9_readsBox_2 : decode cX9_readsBox 2 = .ok (.invokevirtual 140, 3) := by decide +kernel
theorem dX9_readsBox_5 : decode cX9_readsBox 5 = .ok (.pop, 1) := by decide +kernel
theorem dX9_readsBox_6 : decode cX9_readsBox 6 = .ok (.iconst 0, 1) := by decide +kernel
theorem dX9_readsBox_7 : decode cX9_readsBox 7 = .ok (.istore_n 1, 1) := by decide +kernel
theorem dX9_readsBox_8 : decode cX9_readsBox 8 = .ok (.iload_n 1, 1) := by decide +kernel
theorem dX9_readsBox_9 : decode cX9_readsBox 9 = .ok (.aload_n 0, 1) := by decide +kernel
theorem dX9_readsBox_10 : decode cX9_readsBox 10 = .ok (.getfield 25, 3) := by decide +kernel
theorem dX9_readsBox_13 : decode cX9_readsBox 13 = .ok (.iconst 2, 1) := by decide +kernel
theorem dX9_readsBox_14 : decode cX9_readsBox 14 = .ok (.iaload, 1) := by decide +kernel
theorem dX9_readsBox_15 : decode cX9_readsBox 15 = .ok (.if_icmp .ge 53, 3) := by decide +kernel
theorem dX9_readsBox_18 : decode cX9_readsBox 18 = .ok (.aload_n 0, 1) := by decide +kernel
theorem dX9_readsBox_19 : decode cX9_readsBox 19 = .ok (.getfield 22, 3) := by decide +kernel
theorem dX9_readsBox_22 : decode cX9_readsBox 22 = .ok (.bipush 80, 2) := by decide +kernel
theorem dX9_readsBox_24 : decode cX9_readsBox 24 = .ok (.iload_n 1, 1) := by decide +kernel
theorem dX9_readsBox_25 : decode cX9_readsBox 25 = .ok (.iadd, 1) := by decide +kernel
theorem dX9_readsBox_26 : decode cX9_readsBox 26 = .ok (.iaload, 1) := by decide +kernel
theorem dX9_readsBox_27 : decode cX9_readsBox 27 = .ok (.iconst 0, 1) := by decide +kernel
theorem dX9_readsBox_28 : decode cX9_readsBox 28 = .ok (.iconst 3, 1) := by decide +kernel
theorem dX9_readsBox_29 : decode cX9_readsBox 29 = .ok (.invokestatic 125, 3) := by decide +kernel
theorem dX9_readsBox_32 : decode cX9_readsBox 32 = .ok (.istore_n 2, 1) := by decide +kernel
theorem dX9_readsBox_33 : decode cX9_readsBox 33 = .ok (.iload_n 2, 1) := by decide +kernel
theorem dX9_readsBox_34 : decode cX9_readsBox 34 = .ok (.bipush (-9), 2) := by decide +kernel
theorem dX9_readsBox_36 : decode cX9_readsBox 36 = .ok (.if_icmp .ne 9, 3) := by decide +kernel
theorem dX9_readsBox_39 : decode cX9_readsBox 39 = .ok (.aload_n 0, 1) := by decide +kernel
theorem dX9_readsBox_40 : decode cX9_readsBox 40 = .ok (.iload_n 1, 1) := by decide +kernel
theorem dX9_readsBox_41 : decode cX9_readsBox 41 = .ok (.invokevirtual 140, 3) := by decide +kernel
theorem dX9_readsBox_44 : decode cX9_readsBox 44 = .ok (.ireturn, 1) := by decide +kernel
theorem dX9_readsBox_45 : decode cX9_readsBox 45 = .ok (.aload_n 0, 1) := by decide +kernel
theorem dX9_readsBox_46 : decode cX9_readsBox 46 = .ok (.getfield 34, 3) := by decide +kernel
theorem dX9_readsBox_49 : decode cX9_readsBox 49 = .ok (.iload_n 1, 1) := by decide +kernel
theorem dX9_readsBox_50 : decode cX9_readsBox 50 = .ok (.iload_n 2, 1) := by decide +kernel
theorem dX9_readsBox_51 : decode cX9_readsBox 51 = .ok (.iastore, 1) := by decide +kernel
theorem dX9_readsBox_52 : decode cX9_readsBox 52 = .ok (.aload_n 0, 1) := by decide +kernel
theorem dX9_readsBox_53 : decode cX9_readsBox 53 = .ok (.dup, 1) := by decide +kernel
theorem dX9_readsBox_54 : decode cX9_readsBox 54 = .ok (.getfield 137, 3) := by decide +kernel
theorem dX9_readsBox_57 : decode cX9_readsBox 57 = .ok (.iconst 1, 1) := by decide +kernel
theorem dX9_readsBox_58 : decode cX9_readsBox 58 = .ok (.iadd, 1) := by decide +kernel
theorem dX9_readsBox_59 : decode cX9_readsBox 59 = .ok (.putfield 137, 3) := by decide +kernel
theorem dX9_readsBox_62 : decode cX9_readsBox 62 = .ok (.iinc 1 1, 3) := by decide +kernel
theorem dX9_readsBox_65 : decode cX9_readsBox 65 = .ok (.goto (-57), 3) := by decide +kernel
theorem dX9_readsBox_68 : decode cX9_readsBox 68 = .ok (.iconst (-1), 1) := by decide +kernel
theorem dX9_readsBox_69 : decode cX9_readsBox 69 = .ok (.ireturn, 1) := by decide +kernel
theorem dX9_readsText_0 : decode cX9_readsText 0 = .ok (.iload_n 1, 1) := by decide +kernel
theorem dX9_readsText_1 : decode cX9_readsText 1 = .ok (.ifCond .ne 10, 3) := by decide +kernel
theorem dX9_readsText_4 : decode cX9_readsText 4 = .ok (.aload_n 0, 1) := by decide +kernel
theorem dX9_readsText_5 : decode cX9_readsText 5 = .ok (.invokevirtual 143, 3) := by decide +kernel
theorem dX9_readsText_8 : decode cX9_readsText 8 = .ok (.goto 19, 3) := by decide +kernel
theorem dX9_readsText_11 : decode cX9_readsText 11 = .ok (.iload_n 1, 1) := by decide +kernel
theorem dX9_readsText_12 : decode cX9_readsText 12 = .ok (.iconst 1, 1) := by decide +kernel
theorem dX9_readsText_13 : decode cX9_readsText 13 = .ok (.if_icmp .ne 10, 3) := by decide +kernel
theorem dX9_readsText_16 : decode cX9_readsText 16 = .ok (.aload_n 0, 1) := by decide +kernel
theorem dX9_readsText_17 : decode cX9_readsText 17 = .ok (.invokevirtual 147, 3) := by decide +kernel
theorem dX9_readsText_20 : decode cX9_readsText 20 = .ok (.goto 7, 3) := by decide +kernel
theorem dX9_readsText_23 : decode cX9_readsText 23 = .ok (.aload_n 0, 1) := by decide +kernel
theorem dX9_readsText_24 : decode cX9_readsText 24 = .ok (.invokevirtual 150, 3) := by decide +kernel
theorem dX9_readsText_27 : decode cX9_readsText 27 = .ok (.ireturn, 1) := by decide +kernel
theorem dX9_fault_0 : decode cX9_fault 0 = .ok (.iload_n 1, 1) := by decide +kernel
theorem dX9_fault_1 : decode cX9_fault 1 = .ok (.invokestatic 120, 3) := by decide +kernel
theorem dX9_fault_4 : decode cX9_fault 4 = .ok (.ifCond .eq 11, 3) := by decide +kernel
theorem dX9_fault_7 : decode cX9_fault 7 = .ok (.aload_n 0, 1) := by decide +kernel
theorem dX9_fault_8 : decode cX9_fault 8 = .ok (.iload_n 1, 1) := by decide +kernel
theorem dX9_fault_9 : decode cX9_fault 9 = .ok (.invokevirtual 153, 3) := by decide +kernel
theorem dX9_fault_12 : decode cX9_fault 12 = .ok (.goto 5, 3) := by decide +kernel
theorem dX9_fault_15 : decode cX9_fault 15 = .ok (.bipush (-2), 2) := by decide +kernel
theorem dX9_fault_17 : decode cX9_fault 17 = .ok (.ireturn, 1) := by decide +kernel
theorem dX9_isThing_0 : decode cX9_isThing 0 = .ok (.iload_n 1, 1) := by decide +kernel
theorem dX9_isThing_1 : decode cX9_isThing 1 = .ok (.i2l, 1) := by decide +kernel
theorem dX9_isThing_2 : decode cX9_isThing 2 = .ok (.lconst 0, 1) := by decide +kernel
theorem dX9_isThing_3 : decode cX9_isThing 3 = .ok (.aload_n 0, 1) := by decide +kernel
theorem dX9_isThing_4 : decode cX9_isThing 4 = .ok (.getfield 128, 3) := by decide +kernel
theorem dX9_isThing_7 : decode cX9_isThing 7 = .ok (.iconst 1, 1) := by decide +kernel
theorem dX9_isThing_8 : decode cX9_isThing 8 = .ok (.isub, 1) := by decide +kernel
theorem dX9_isThing_9 : decode cX9_isThing 9 = .ok (.i2l, 1) := by decide +kernel
theorem dX9_isThing_10 : decode cX9_isThing 10 = .ok (.invokestatic 92, 3) := by decide +kernel
theorem dX9_isThing_13 : decode cX9_isThing 13 = .ok (.ireturn, 1) := by decide +kernel
theorem dX9_isJudge_0 : decode cX9_isJudge 0 = .ok (.iload_n 1, 1) := by decide +kernel
theorem dX9_isJudge_1 : decode cX9_isJudge 1 = .ok (.i2l, 1) := by decide +kernel
theorem dX9_isJudge_2 : decode cX9_isJudge 2 = .ok (.lconst 0, 1) := by decide +kernel
theorem dX9_isJudge_3 : decode cX9_isJudge 3 = .ok (.aload_n 0, 1) := by decide +kernel
theorem dX9_isJudge_4 : decode cX9_isJudge 4 = .ok (.getfield 134, 3) := by decide +kernel
theorem dX9_isJudge_7 : decode cX9_isJudge 7 = .ok (.iconst 1, 1) := by decide +kernel
theorem dX9_isJudge_8 : decode cX9_isJudge 8 = .ok (.isub, 1) := by decide +kernel
theorem dX9_isJudge_9 : decode cX9_isJudge 9 = .ok (.i2l, 1) := by decide +kernel
theorem dX9_isJudge_10 : decode cX9_isJudge 10 = .ok (.invokestatic 92, 3) := by decide +kernel
theorem dX9_isJudge_13 : decode cX9_isJudge 13 = .ok (.ireturn, 1) := by decide +kernel
theorem dX9_isWeek_0 : decode cX9_isWeek 0 = .ok (.iload_n 0, 1) := by decide +kernel
theorem dX9_isWeek_1 : decode cX9_isWeek 1 = .ok (.i2l, 1) := by decide +kernel
theorem dX9_isWeek_2 : decode cX9_isWeek 2 = .ok (.lconst 0, 1) := by decide +kernel
theorem dX9_isWeek_3 : decode cX9_isWeek 3 = .ok (.ldc2_w 156, 3) := by decide +kernel
theorem dX9_isWeek_6 : decode cX9_isWeek 6 = .ok (.invokestatic 92, 3) := by decide +kernel
theorem dX9_isWeek_9 : decode cX9_isWeek 9 = .ok (.ireturn, 1) := by decide +kernel
theorem dX9_thing_0 : decode cX9_thing 0 = .ok (.aload_n 0, 1) := by decide +kernel
theorem dX9_thing_1 : decode cX9_thing 1 = .ok (.invokevirtual 143, 3) := by decide +kernel
theorem dX9_thing_4 : decode cX9_thing 4 = .ok (.pop, 1) := by decide +kernel
theorem dX9_thing_5 : decode cX9_thing 5 = .ok (.aload_n 0, 1) := by decide +kernel
theorem dX9_thing_6 : decode cX9_thing 6 = .ok (.iload_n 1, 1) := by decide +kernel
theorem dX9_thing_7 : decode cX9_thing 7 = .ok (.invokevirtual 158, 3) := by decide +kernel
theorem dX9_thing_10 : decode cX9_thing 10 = .ok (.ifCond .eq 28, 3) := by decide +kernel
theorem dX9_thing_13 : decode cX9_thing 13 = .ok (.iload_n 2, 1) := by decide +kernel
theorem dX9_thing_14 : decode cX9_thing 14 = .ok (.i2l, 1) := by decide +kernel
theorem dX9_thing_15 : decode cX9_thing 15 = .ok (.lconst 0, 1) := by decide +kernel
theorem dX9_thing_16 : decode cX9_thing 16 = .ok (.ldc2_w 105, 3) := by decide +kernel
theorem dX9_thing_19 : decode cX9_thing 19 = .ok (.invokestatic 92, 3) := by decide +kernel
theorem dX9_thing_22 : decode cX9_thing 22 = .ok (.ifCond .eq 16, 3) := by decide +kernel
theorem dX9_thing_25 : decode cX9_thing 25 = .ok (.aload_n 0, 1) := by decide +kernel
theorem dX9_thing_26 : decode cX9_thing 26 = .ok (.getfield 28, 3) := by decide +kernel
theorem dX9_thing_29 : decode cX9_thing 29 = .ok (.iconst 3, 1) := by decide +kernel
theorem dX9_thing_30 : decode cX9_thing 30 = .ok (.iload_n 1, 1) := by decide +kernel
theorem dX9_thing_31 : decode cX9_thing 31 = .ok (.imul, 1) := by decide +kernel
theorem dX9_thing_32 : decode cX9_thing 32 = .ok (.iload_n 2, 1) := by decide +kernel
theorem dX9_thing_33 : decode cX9_thing 33 = .ok (.iadd, 1) := by decide +kernel
theorem dX9_thing_34 : decode cX9_thing 34 = .ok (.iaload, 1) := by decide +kernel
theorem dX9_thing_35 : decode cX9_thing 35 = .ok (.goto 5, 3) := by decide +kernel
theorem dX9_thing_38 : decode cX9_thing 38 = .ok (.bipush (-2), 2) := by decide +kernel
theorem dX9_thing_40 : decode cX9_thing 40 = .ok (.ireturn, 1) := by decide +kernel
theorem dX9_judge_0 : decode cX9_judge 0 = .ok (.aload_n 0, 1) := by decide +kernel
theorem dX9_judge_1 : decode cX9_judge 1 = .ok (.invokevirtual 147, 3) := by decide +kernel
theorem dX9_judge_4 : decode cX9_judge 4 = .ok (.pop, 1) := by decide +kernel
theorem dX9_judge_5 : decode cX9_judge 5 = .ok (.aload_n 0, 1) := by decide +kernel
theorem dX9_judge_6 : decode cX9_judge 6 = .ok (.iload_n 1, 1) := by decide +kernel
theorem dX9_judge_7 : decode cX9_judge 7 = .ok (.invokevirtual 161, 3) := by decide +kernel
theorem dX9_judge_10 : decode cX9_judge 10 = .ok (.ifCond .eq 28, 3) := by decide +kernel
theorem dX9_judge_13 : decode cX9_judge 13 = .ok (.iload_n 2, 1) := by decide +kernel
theorem dX9_judge_14 : decode cX9_judge 14 = .ok (.i2l, 1) := by decide +kernel
theorem dX9_judge_15 : decode cX9_judge 15 = .ok (.lconst 0, 1) := by decide +kernel
theorem dX9_judge_16 : decode cX9_judge 16 = .ok (.ldc2_w 105, 3) := by decide +kernel
theorem dX9_judge_19 : decode cX9_judge 19 = .ok (.invokestatic 92, 3) := by decide +kernel
theorem dX9_judge_22 : decode cX9_judge 22 = .ok (.ifCond .eq 16, 3) := by decide +kernel
theorem dX9_judge_25 : decode cX9_judge 25 = .ok (.aload_n 0, 1) := by decide +kernel
theorem dX9_judge_26 : decode cX9_judge 26 = .ok (.getfield 31, 3) := by decide +kernel
theorem dX9_judge_29 : decode cX9_judge 29 = .ok (.iconst 3, 1) := by decide +kernel
theorem dX9_judge_30 : decode cX9_judge 30 = .ok (.iload_n 1, 1) := by decide +kernel
theorem dX9_judge_31 : decode cX9_judge 31 = .ok (.imul, 1) := by decide +kernel
theorem dX9_judge_32 : decode cX9_judge 32 = .ok (.iload_n 2, 1) := by decide +kernel
theorem dX9_judge_33 : decode cX9_judge 33 = .ok (.iadd, 1) := by decide +kernel
theorem dX9_judge_34 : decode cX9_judge 34 = .ok (.iaload, 1) := by decide +kernel
theorem dX9_judge_35 : decode cX9_judge 35 = .ok (.goto 5, 3) := by decide +kernel
theorem dX9_judge_38 : decode cX9_judge 38 = .ok (.bipush (-2), 2) := by decide +kernel
theorem dX9_judge_40 : decode cX9_judge 40 = .ok (.ireturn, 1) := by decide +kernel
theorem dX9_event_0 : decode cX9_event 0 = .ok (.iload_n 1, 1) := by decide +kernel
theorem dX9_event_1 : decode cX9_event 1 = .ok (.i2l, 1) := by decide +kernel
theorem dX9_event_2 : decode cX9_event 2 = .ok (.lconst 0, 1) := by decide +kernel
theorem dX9_event_3 : decode cX9_event 3 = .ok (.ldc2_w 105, 3) := by decide +kernel
theorem dX9_event_6 : decode cX9_event 6 = .ok (.invokestatic 92, 3) := by decide +kernel
theorem dX9_event_9 : decode cX9_event 9 = .ok (.ifCond .eq 22, 3) := by decide +kernel
theorem dX9_event_12 : decode cX9_event 12 = .ok (.iload_n 2, 1) := by decide +kernel
theorem dX9_event_13 : decode cX9_event 13 = .ok (.invokestatic 164, 3) := by decide +kernel
theorem dX9_event_16 : decode cX9_event 16 = .ok (.ifCond .eq 15, 3) := by decide +kernel
theorem dX9_event_19 : decode cX9_event 19 = .ok (.iload_n 3, 1) := by decide +kernel
theorem dX9_event_20 : decode cX9_event 20 = .ok (.i2l, 1) := by decide +kernel
theorem dX9_event_21 : decode cX9_event 21 = .ok (.lconst 0, 1) := by decide +kernel
theorem dX9_event_22 : decode cX9_event 22 = .ok (.ldc2_w 167, 3) := by decide +kernel
theorem dX9_event_25 : decode cX9_event 25 = .ok (.invokestatic 92, 3) := by decide +kernel
theorem dX9_event_28 : decode cX9_event 28 = .ok (.ifCond .ne 6, 3) := by decide +kernel
theorem dX9_event_31 : decode cX9_event 31 = .ok (.bipush (-2), 2) := by decide +kernel
theorem dX9_event_33 : decode cX9_event 33 = .ok (.ireturn, 1) := by decide +kernel
theorem dX9_event_34 : decode cX9_event 34 = .ok (.aload_n 0, 1) := by decide +kernel
theorem dX9_event_35 : decode cX9_event 35 = .ok (.getfield 169, 3) := by decide +kernel
theorem dX9_event_38 : decode cX9_event 38 = .ok (.bipush 8, 2) := by decide +kernel
theorem dX9_event_40 : decode cX9_event 40 = .ok (.if_icmp .ne 6, 3) := by decide +kernel
theorem dX9_event_43 : decode cX9_event 43 = .ok (.bipush (-4), 2) := by decide +kernel
theorem dX9_event_45 : decode cX9_event 45 = .ok (.ireturn, 1) := by decide +kernel
theorem dX9_event_46 : decode cX9_event 46 = .ok (.aload_n 0, 1) := by decide +kernel
theorem dX9_event_47 : decode cX9_event 47 = .ok (.getfield 37, 3) := by decide +kernel
theorem dX9_event_50 : decode cX9_event 50 = .ok (.iconst 3, 1) := by decide +kernel
theorem dX9_event_51 : decode cX9_event 51 = .ok (.aload_n 0, 1) := by decide +kernel
theorem dX9_event_52 : decode cX9_event 52 = .ok (.getfield 169, 3) := by decide +kernel
theorem dX9_event_55 : decode cX9_event 55 = .ok (.imul, 1) := by decide +kernel
theorem dX9_event_56 : decode cX9_event 56 = .ok (.iload_n 1, 1) := by decide +kernel
theorem dX9_event_57 : decode cX9_event 57 = .ok (.iastore, 1) := by decide +kernel
theorem dX9_event_58 : decode cX9_event 58 = .ok (.aload_n 0, 1) := by decide +kernel
theorem dX9_event_59 : decode cX9_event 59 = .ok (.getfield 37, 3) := by decide +kernel
theorem dX9_event_62 : decode cX9_event 62 = .ok (.iconst 3, 1) := by decide +kernel
theorem dX9_event_63 : decode cX9_event 63 = .ok (.aload_n 0, 1) := by decide +kernel
theorem dX9_event_64 : decode cX9_event 64 = .ok (.getfield 169, 3) := by decide +kernel
theorem dX9_event_67 : decode cX9_event 67 = .ok (.imul, 1) := by decide +kernel
theorem dX9_event_68 : decode cX9_event 68 = .ok (.iconst 1, 1) := by decide +kernel
theorem dX9_event_69 : decode cX9_event 69 = .ok (.iadd, 1) := by decide +kernel
theorem dX9_event_70 : decode cX9_event 70 = .ok (.iload_n 2, 1) := by decide +kernel
theorem dX9_event_71 : decode cX9_event 71 = .ok (.iastore, 1) := by decide +kernel
theorem dX9_event_72 : decode cX9_event 72 = .ok (.aload_n 0, 1) := by decide +kernel
theorem dX9_event_73 : decode cX9_event 73 = .ok (.getfield 37, 3) := by decide +kernel
theorem dX9_event_76 : decode cX9_event 76 = .ok (.iconst 3, 1) := by decide +kernel
theorem dX9_event_77 : decode cX9_event 77 = .ok (.aload_n 0, 1) := by decide +kernel
theorem dX9_event_78 : decode cX9_event 78 = .ok (.getfield 169, 3) := by decide +kernel
theorem dX9_event_81 : decode cX9_event 81 = .ok (.imul, 1) := by decide +kernel
theorem dX9_event_82 : decode cX9_event 82 = .ok (.iconst 2, 1) := by decide +kernel
theorem dX9_event_83 : decode cX9_event 83 = .ok (.iadd, 1) := by decide +kernel
theorem dX9_event_84 : decode cX9_event 84 = .ok (.iload_n 3, 1) := by decide +kernel
theorem dX9_event_85 : decode cX9_event 85 = .ok (.iastore, 1) := by decide +kernel
theorem dX9_event_86 : decode cX9_event 86 = .ok (.aload_n 0, 1) := by decide +kernel
theorem dX9_event_87 : decode cX9_event 87 = .ok (.dup, 1) := by decide +kernel
theorem dX9_event_88 : decode cX9_event 88 = .ok (.getfield 169, 3) := by decide +kernel
theorem dX9_event_91 : decode cX9_event 91 = .ok (.iconst 1, 1) := by decide +kernel
theorem dX9_event_92 : decode cX9_event 92 = .ok (.iadd, 1) := by decide +kernel
theorem dX9_event_93 : decode cX9_event 93 = .ok (.putfield 169, 3) := by decide +kernel
theorem dX9_event_96 : decode cX9_event 96 = .ok (.aload_n 0, 1) := by decide +kernel
theorem dX9_event_97 : decode cX9_event 97 = .ok (.getfield 169, 3) := by decide +kernel
theorem dX9_event_100 : decode cX9_event 100 = .ok (.ireturn, 1) := by decide +kernel
theorem dX9_back_0 : decode cX9_back 0 = .ok (.aload_n 0, 1) := by decide +kernel
theorem dX9_back_1 : decode cX9_back 1 = .ok (.getfield 169, 3) := by decide +kernel
theorem dX9_back_4 : decode cX9_back 4 = .ok (.ifCond .ne 6, 3) := by decide +kernel
theorem dX9_back_7 : decode cX9_back 7 = .ok (.bipush (-3), 2) := by decide +kernel
theorem dX9_back_9 : decode cX9_back 9 = .ok (.ireturn, 1) := by decide +kernel
theorem dX9_back_10 : decode cX9_back 10 = .ok (.aload_n 0, 1) := by decide +kernel
theorem dX9_back_11 : decode cX9_back 11 = .ok (.dup, 1) := by decide +kernel
theorem dX9_back_12 : decode cX9_back 12 = .ok (.getfield 169, 3) := by decide +kernel
theorem dX9_back_15 : decode cX9_back 15 = .ok (.iconst 1, 1) := by decide +kernel
theorem dX9_back_16 : decode cX9_back 16 = .ok (.isub, 1) := by decide +kernel
theorem dX9_back_17 : decode cX9_back 17 = .ok (.putfield 169, 3) := by decide +kernel
theorem dX9_back_20 : decode cX9_back 20 = .ok (.aload_n 0, 1) := by decide +kernel
theorem dX9_back_21 : decode cX9_back 21 = .ok (.getfield 169, 3) := by decide +kernel
theorem dX9_back_24 : decode cX9_back 24 = .ok (.ireturn, 1) := by decide +kernel
theorem dX9_read_0 : decode cX9_read 0 = .ok (.iload_n 1, 1) := by decide +kernel
theorem dX9_read_1 : decode cX9_read 1 = .ok (.invokestatic 101, 3) := by decide +kernel
theorem dX9_read_4 : decode cX9_read 4 = .ok (.ifCond .ne 6, 3) := by decide +kernel
theorem dX9_read_7 : decode cX9_read 7 = .ok (.bipush (-2), 2) := by decide +kernel
theorem dX9_read_9 : decode cX9_read 9 = .ok (.ireturn, 1) := by decide +kernel
theorem dX9_read_10 : decode cX9_read 10 = .ok (.aload_n 0, 1) := by decide +kernel
theorem dX9_read_11 : decode cX9_read 11 = .ok (.getfield 7, 3) := by decide +kernel
theorem dX9_read_14 : decode cX9_read 14 = .ok (.iload_n 1, 1) := by decide +kernel
theorem dX9_read_15 : decode cX9_read 15 = .ok (.iaload, 1) := by decide +kernel
theorem dX9_read_16 : decode cX9_read 16 = .ok (.ifCond .ge 9, 3) := by decide +kernel
theorem dX9_read_19 : decode cX9_read 19 = .ok (.aload_n 0, 1) := by decide +kernel
theorem dX9_read_20 : decode cX9_read 20 = .ok (.iconst 1, 1) := by decide +kernel
theorem dX9_read_21 : decode cX9_read 21 = .ok (.invokevirtual 107, 3) := by decide +kernel
theorem dX9_read_24 : decode cX9_read 24 = .ok (.ireturn, 1) := by decide +kernel
theorem dX9_read_25 : decode cX9_read 25 = .ok (.iconst 0, 1) := by decide +kernel
theorem dX9_read_26 : decode cX9_read 26 = .ok (.istore_n 2, 1) := by decide +kernel
theorem dX9_read_27 : decode cX9_read 27 = .ok (.iconst 1, 1) := by decide +kernel
theorem dX9_read_28 : decode cX9_read 28 = .ok (.istore_n 3, 1) := by decide +kernel
theorem dX9_read_29 : decode cX9_read 29 = .ok (.iload_n 3, 1) := by decide +kernel
theorem dX9_read_30 : decode cX9_read 30 = .ok (.ifCond .eq 80, 3) := by decide +kernel
theorem dX9_read_33 : decode cX9_read 33 = .ok (.iconst 3, 1) := by decide +kernel
theorem dX9_read_34 : decode cX9_read 34 = .ok (.iload_n 2, 1) := by decide +kernel
theorem dX9_read_35 : decode cX9_read 35 = .ok (.imul, 1) := by decide +kernel
theorem dX9_read_36 : decode cX9_read 36 = .ok (.iconst 3, 1) := by decide +kernel
theorem dX9_read_37 : decode cX9_read 37 = .ok (.iadd, 1) := by decide +kernel
theorem dX9_read_38 : decode cX9_read 38 = .ok (.aload_n 0, 1) := by decide +kernel
theorem dX9_read_39 : decode cX9_read 39 = .ok (.getfield 13, 3) := by decide +kernel
theorem dX9_read_42 : decode cX9_read 42 = .ok (.iload_n 1, 1) := by decide +kernel
theorem dX9_read_43 : decode cX9_read 43 = .ok (.iaload, 1) := by decide +kernel
theorem dX9_read_44 : decode cX9_read 44 = .ok (.if_icmp .gt 66, 3) := by decide +kernel
theorem dX9_read_47 : decode cX9_read 47 = .ok (.bipush 60, 2) := by decide +kernel
theorem dX9_read_49 : decode cX9_read 49 = .ok (.iload_n 1, 1) := by decide +kernel
theorem dX9_read_50 : decode cX9_read 50 = .ok (.imul, 1) := by decide +kernel
theorem dX9_read_51 : decode cX9_read 51 = .ok (.iconst 3, 1) := by decide +kernel
theorem dX9_read_52 : decode cX9_read 52 = .ok (.iload_n 2, 1) := by decide +kernel
theorem dX9_read_53 : decode cX9_read 53 = .ok (.imul, 1) := by decide +kernel
theorem dX9_read_54 : decode cX9_read 54 = .ok (.iadd, 1) := by decide +kernel
theorem dX9_read_55 : decode cX9_read 55 = .ok (.istore 4, 2) := by decide +kernel
theorem dX9_read_57 : decode cX9_read 57 = .ok (.aload_n 0, 1) := by decide +kernel
theorem dX9_read_58 : decode cX9_read 58 = .ok (.aload_n 0, 1) := by decide +kernel
theorem dX9_read_59 : decode cX9_read 59 = .ok (.getfield 16, 3) := by decide +kernel
theorem dX9_read_62 : decode cX9_read 62 = .ok (.iload 4, 2) := by decide +kernel
theorem dX9_read_64 : decode cX9_read 64 = .ok (.iaload, 1) := by decide +kernel
theorem dX9_read_65 : decode cX9_read 65 = .ok (.aload_n 0, 1) := by decide +kernel
theorem dX9_read_66 : decode cX9_read 66 = .ok (.getfield 16, 3) := by decide +kernel
theorem dX9_read_69 : decode cX9_read 69 = .ok (.iload 4, 2) := by decide +kernel
theorem dX9_read_71 : decode cX9_read 71 = .ok (.iconst 1, 1) := by decide +kernel
theorem dX9_read_72 : decode cX9_read 72 = .ok (.iadd, 1) := by decide +kernel
theorem dX9_read_73 : decode cX9_read 73 = .ok (.iaload, 1) := by decide +kernel
theorem dX9_read_74 : decode cX9_read 74 = .ok (.aload_n 0, 1) := by decide +kernel
theorem dX9_read_75 : decode cX9_read 75 = .ok (.getfield 16, 3) := by decide +kernel
theorem dX9_read_78 : decode cX9_read 78 = .ok (.iload 4, 2) := by decide +kernel
theorem dX9_read_80 : decode cX9_read 80 = .ok (.iconst 2, 1) := by decide +kernel
theorem dX9_read_81 : decode cX9_read 81 = .ok (.iadd, 1) := by decide +kernel
theorem dX9_read_82 : decode cX9_read 82 = .ok (.iaload, 1) := by decide +kernel
theorem dX9_read_83 : decode cX9_read 83 = .ok (.invokevirtual 172, 3) := by decide +kernel
theorem dX9_read_86 : decode cX9_read 86 = .ok (.ifCond .lt 7, 3) := by decide +kernel
theorem dX9_read_89 : decode cX9_read 89 = .ok (.iconst 1, 1) := by decide +kernel
theorem dX9_read_90 : decode cX9_read 90 = .ok (.goto 4, 3) := by decide +kernel
theorem dX9_read_93 : decode cX9_read 93 = .ok (.iconst 0, 1) := by decide +kernel
theorem dX9_read_94 : decode cX9_read 94 = .ok (.istore_n 3, 1) := by decide +kernel
theorem dX9_read_95 : decode cX9_read 95 = .ok (.iload_n 2, 1) := by decide +kernel
theorem dX9_read_96 : decode cX9_read 96 = .ok (.iload_n 3, 1) := by decide +kernel
theorem dX9_read_97 : decode cX9_read 97 = .ok (.ifCond .eq 7, 3) := by decide +kernel
theorem dX9_read_100 : decode cX9_read 100 = .ok (.iconst 1, 1) := by decide +kernel
theorem dX9_read_101 : decode cX9_read 101 = .ok (.goto 4, 3) := by decide +kernel
theorem dX9_read_104 : decode cX9_read 104 = .ok (.iconst 0, 1) := by decide +kernel
theorem dX9_read_105 : decode cX9_read 105 = .ok (.iadd, 1) := by decide +kernel
theorem dX9_read_106 : decode cX9_read 106 = .ok (.istore_n 2, 1) := by decide +kernel
theorem dX9_read_107 : decode cX9_read 107 = .ok (.goto (-78), 3) := by decide +kernel
theorem dX9_read_110 : decode cX9_read 110 = .ok (.iload_n 2, 1) := by decide +kernel
theorem dX9_read_111 : decode cX9_read 111 = .ok (.ireturn, 1) := by decide +kernel
theorem dX9_happens_0 : decode cX9_happens 0 = .ok (.iload_n 1, 1) := by decide +kernel
theorem dX9_happens_1 : decode cX9_happens 1 = .ok (.ifCond .ne 25, 3) := by decide +kernel
theorem dX9_happens_4 : decode cX9_happens 4 = .ok (.aload_n 0, 1) := by decide +kernel
theorem dX9_happens_5 : decode cX9_happens 5 = .ok (.getfield 40, 3) := by decide +kernel
theorem dX9_happens_8 : decode cX9_happens 8 = .ok (.iload_n 2, 1) := by decide +kernel
theorem dX9_happens_9 : decode cX9_happens 9 = .ok (.aload_n 0, 1) := by decide +kernel
theorem dX9_happens_10 : decode cX9_happens 10 = .ok (.getfield 40, 3) := by decide +kernel
theorem dX9_happens_13 : decode cX9_happens 13 = .ok (.iload_n 2, 1) := by decide +kernel
theorem dX9_happens_14 : decode cX9_happens 14 = .ok (.iaload, 1) := by decide +kernel
theorem dX9_happens_15 : decode cX9_happens 15 = .ok (.iconst 2, 1) := by decide +kernel
theorem dX9_happens_16 : decode cX9_happens 16 = .ok (.iadd, 1) := by decide +kernel
theorem dX9_happens_17 : decode cX9_happens 17 = .ok (.bipush 9, 2) := by decide +kernel
theorem dX9_happens_19 : decode cX9_happens 19 = .ok (.invokestatic 174, 3) := by decide +kernel
theorem dX9_happens_22 : decode cX9_happens 22 = .ok (.iastore, 1) := by decide +kernel
theorem dX9_happens_23 : decode cX9_happens 23 = .ok (.goto 55, 3) := by decide +kernel
theorem dX9_happens_26 : decode cX9_happens 26 = .ok (.iload_n 1, 1) := by decide +kernel
theorem dX9_happens_27 : decode cX9_happens 27 = .ok (.iconst 1, 1) := by decide +kernel
theorem dX9_happens_28 : decode cX9_happens 28 = .ok (.if_icmp .ne 13, 3) := by decide +kernel
theorem dX9_happens_31 : decode cX9_happens 31 = .ok (.aload_n 0, 1) := by decide +kernel
theorem dX9_happens_32 : decode cX9_happens 32 = .ok (.getfield 56, 3) := by decide +kernel
theorem dX9_happens_35 : decode cX9_happens 35 = .ok (.iload_n 2, 1) := by decide +kernel
theorem dX9_happens_36 : decode cX9_happens 36 = .ok (.iconst 1, 1) := by decide +kernel
theorem dX9_happens_37 : decode cX9_happens 37 = .ok (.bastore, 1) := by decide +kernel
theorem dX9_happens_38 : decode cX9_happens 38 = .ok (.goto 40, 3) := by decide +kernel
theorem dX9_happens_41 : decode cX9_happens 41 = .ok (.aload_n 0, 1) := by decide +kernel
theorem dX9_happens_42 : decode cX9_happens 42 = .ok (.iconst 1, 1) := by decide +kernel
theorem dX9_happens_43 : decode cX9_happens 43 = .ok (.putfield 177, 3) := by decide +kernel
theorem dX9_happens_46 : decode cX9_happens 46 = .ok (.iconst 0, 1) := by decide +kernel
theorem dX9_happens_47 : decode cX9_happens 47 = .ok (.istore_n 3, 1) := by decide +kernel
theorem dX9_happens_48 : decode cX9_happens 48 = .ok (.iload_n 3, 1) := by decide +kernel
theorem dX9_happens_49 : decode cX9_happens 49 = .ok (.bipush 10, 2) := by decide +kernel
theorem dX9_happens_51 : decode cX9_happens 51 = .ok (.if_icmp .ge 27, 3) := by decide +kernel
theorem dX9_happens_54 : decode cX9_happens 54 = .ok (.aload_n 0, 1) := by decide +kernel
theorem dX9_happens_55 : decode cX9_happens 55 = .ok (.getfield 43, 3) := by decide +kernel
theorem dX9_happens_58 : decode cX9_happens 58 = .ok (.iload_n 3, 1) := by decide +kernel
theorem dX9_happens_59 : decode cX9_happens 59 = .ok (.aload_n 0, 1) := by decide +kernel
theorem dX9_happens_60 : decode cX9_happens 60 = .ok (.getfield 43, 3) := by decide +kernel
theorem dX9_happens_63 : decode cX9_happens 63 = .ok (.iload_n 3, 1) := by decide +kernel
theorem dX9_happens_64 : decode cX9_happens 64 = .ok (.iaload, 1) := by decide +kernel
theorem dX9_happens_65 : decode cX9_happens 65 = .ok (.iconst 1, 1) := by decide +kernel
theorem dX9_happens_66 : decode cX9_happens 66 = .ok (.isub, 1) := by decide +kernel
theorem dX9_happens_67 : decode cX9_happens 67 = .ok (.iconst 0, 1) := by decide +kernel
theorem dX9_happens_68 : decode cX9_happens 68 = .ok (.invokestatic 181, 3) := by decide +kernel
theorem dX9_happens_71 : decode cX9_happens 71 = .ok (.iastore, 1) := by decide +kernel
theorem dX9_happens_72 : decode cX9_happens 72 = .ok (.iinc 3 1, 3) := by decide +kernel
theorem dX9_happens_75 : decode cX9_happens 75 = .ok (.goto (-27), 3) := by decide +kernel
theorem dX9_happens_78 : decode cX9_happens 78 = .ok (.return_, 1) := by decide +kernel
theorem dX9_scoreOf_0 : decode cX9_scoreOf 0 = .ok (.aload_n 0, 1) := by decide +kernel
theorem dX9_scoreOf_1 : decode cX9_scoreOf 1 = .ok (.getfield 28, 3) := by decide +kernel
theorem dX9_scoreOf_4 : decode cX9_scoreOf 4 = .ok (.iconst 3, 1) := by decide +kernel
theorem dX9_scoreOf_5 : decode cX9_scoreOf 5 = .ok (.iload_n 1, 1) := by decide +kernel
theorem dX9_scoreOf_6 : decode cX9_scoreOf 6 = .ok (.imul, 1) := by decide +kernel
theorem dX9_scoreOf_7 : decode cX9_scoreOf 7 = .ok (.iaload, 1) := by decide +kernel
theorem dX9_scoreOf_8 : decode cX9_scoreOf 8 = .ok (.istore_n 3, 1) := by decide +kernel
theorem dX9_scoreOf_9 : decode cX9_scoreOf 9 = .ok (.aload_n 0, 1) := by decide +kernel
theorem dX9_scoreOf_10 : decode cX9_scoreOf 10 = .ok (.getfield 40, 3) := by decide +kernel
theorem dX9_scoreOf_13 : decode cX9_scoreOf 13 = .ok (.iload_n 1, 1) := by decide +kernel
theorem dX9_scoreOf_14 : decode cX9_scoreOf 14 = .ok (.iaload, 1) := by decide +kernel
theorem dX9_scoreOf_15 : decode cX9_scoreOf 15 = .ok (.istore 4, 2) := by decide +kernel
theorem dX9_scoreOf_17 : decode cX9_scoreOf 17 = .ok (.iload_n 3, 1) := by decide +kernel
theorem dX9_scoreOf_18 : decode cX9_scoreOf 18 = .ok (.iconst 2, 1) := by decide +kernel
theorem dX9_scoreOf_19 : decode cX9_scoreOf 19 = .ok (.if_icmp .ne 15, 3) := by decide +kernel
theorem dX9_scoreOf_22 : decode cX9_scoreOf 22 = .ok (.iload 4, 2) := by decide +kernel
theorem dX9_scoreOf_24 : decode cX9_scoreOf 24 = .ok (.aload_n 0, 1) := by decide +kernel
theorem dX9_scoreOf_25 : decode cX9_scoreOf 25 = .ok (.getfield 46, 3) := by decide +kernel
theorem dX9_scoreOf_28 : decode cX9_scoreOf 28 = .ok (.iload_n 1, 1) := by decide +kernel
theorem dX9_scoreOf_29 : decode cX9_scoreOf 29 = .ok (.iaload, 1) := by decide +kernel
theorem dX9_scoreOf_30 : decode cX9_scoreOf 30 = .ok (.iadd, 1) := by decide +kernel
theorem dX9_scoreOf_31 : decode cX9_scoreOf 31 = .ok (.goto 28, 3) := by decide +kernel
theorem dX9_scoreOf_34 : decode cX9_scoreOf 34 = .ok (.iload_n 3, 1) := by decide +kernel
theorem dX9_scoreOf_35 : decode cX9_scoreOf 35 = .ok (.iconst 1, 1) := by decide +kernel
theorem dX9_scoreOf_36 : decode cX9_scoreOf 36 = .ok (.if_icmp .ne 21, 3) := by decide +kernel
theorem dX9_scoreOf_39 : decode cX9_scoreOf 39 = .ok (.aload_n 0, 1) := by decide +kernel
theorem dX9_scoreOf_40 : decode cX9_scoreOf 40 = .ok (.getfield 177, 3) := by decide +kernel
theorem dX9_scoreOf_43 : decode cX9_scoreOf 43 = .ok (.ifCond .eq 14, 3) := by decide +kernel
theorem dX9_scoreOf_46 : decode cX9_scoreOf 46 = .ok (.iload 4, 2) := by decide +kernel
theorem dX9_scoreOf_48 : decode cX9_scoreOf 48 = .ok (.iconst 2, 1) := by decide +kernel
theorem dX9_scoreOf_49 : decode cX9_scoreOf 49 = .ok (.isub, 1) := by decide +kernel
theorem dX9_scoreOf_50 : decode cX9_scoreOf 50 = .ok (.iconst 0, 1) := by decide +kernel
theorem dX9_scoreOf_51 : decode cX9_scoreOf 51 = .ok (.invokestatic 181, 3) := by decide +kernel
theorem dX9_scoreOf_54 : decode cX9_scoreOf 54 = .ok (.goto 5, 3) := by decide +kernel
theorem dX9_scoreOf_57 : decode cX9_scoreOf 57 = .ok (.iload 4, 2) := by decide +kernel
theorem dX9_scoreOf_59 : decode cX9_scoreOf 59 = .ok (.istore 4, 2) := by decide +kernel
theorem dX9_scoreOf_61 : decode cX9_scoreOf 61 = .ok (.iload 4, 2) := by decide +kernel
theorem dX9_scoreOf_63 : decode cX9_scoreOf 63 = .ok (.aload_n 0, 1) := by decide +kernel
theorem dX9_scoreOf_64 : decode cX9_scoreOf 64 = .ok (.getfield 31, 3) := by decide +kernel
theorem dX9_scoreOf_67 : decode cX9_scoreOf 67 = .ok (.iconst 3, 1) := by decide +kernel
theorem dX9_scoreOf_68 : decode cX9_scoreOf 68 = .ok (.iload_n 2, 1) := by decide +kernel
theorem dX9_scoreOf_69 : decode cX9_scoreOf 69 = .ok (.imul, 1) := by decide +kernel
theorem dX9_scoreOf_70 : decode cX9_scoreOf 70 = .ok (.iaload, 1) := by decide +kernel
theorem dX9_scoreOf_71 : decode cX9_scoreOf 71 = .ok (.iload_n 3, 1) := by decide +kernel
theorem dX9_scoreOf_72 : decode cX9_scoreOf 72 = .ok (.if_icmp .ne 16, 3) := by decide +kernel
theorem dX9_scoreOf_75 : decode cX9_scoreOf 75 = .ok (.aload_n 0, 1) := by decide +kernel
theorem dX9_scoreOf_76 : decode cX9_scoreOf 76 = .ok (.getfield 31, 3) := by decide +kernel
theorem dX9_scoreOf_79 : decode cX9_scoreOf 79 = .ok (.iconst 3, 1) := by decide +kernel
theorem dX9_scoreOf_80 : decode cX9_scoreOf 80 = .ok (.iload_n 2, 1) := by decide +kernel
theorem dX9_scoreOf_81 : decode cX9_scoreOf 81 = .ok (.imul, 1) := by decide +kernel
theorem dX9_scoreOf_82 : decode cX9_scoreOf 82 = .ok (.iconst 1, 1) := by decide +kernel
theorem dX9_scoreOf_83 : decode cX9_scoreOf 83 = .ok (.iadd, 1) := by decide +kernel
theorem dX9_scoreOf_84 : decode cX9_scoreOf 84 = .ok (.iaload, 1) := by decide +kernel
theorem dX9_scoreOf_85 : decode cX9_scoreOf 85 = .ok (.goto 4, 3) := by decide +kernel
theorem dX9_scoreOf_88 : decode cX9_scoreOf 88 = .ok (.iconst 0, 1) := by decide +kernel
theorem dX9_scoreOf_89 : decode cX9_scoreOf 89 = .ok (.iadd, 1) := by decide +kernel
theorem dX9_scoreOf_90 : decode cX9_scoreOf 90 = .ok (.istore 4, 2) := by decide +kernel
theorem dX9_scoreOf_92 : decode cX9_scoreOf 92 = .ok (.iload 4, 2) := by decide +kernel
theorem dX9_scoreOf_94 : decode cX9_scoreOf 94 = .ok (.aload_n 0, 1) := by decide +kernel
theorem dX9_scoreOf_95 : decode cX9_scoreOf 95 = .ok (.getfield 28, 3) := by decide +kernel
theorem dX9_scoreOf_98 : decode cX9_scoreOf 98 = .ok (.iconst 3, 1) := by decide +kernel
theorem dX9_scoreOf_99 : decode cX9_scoreOf 99 = .ok (.iload_n 1, 1) := by decide +kernel
theorem dX9_scoreOf_100 : decode cX9_scoreOf 100 = .ok (.imul, 1) := by decide +kernel
theorem dX9_scoreOf_101 : decode cX9_scoreOf 101 = .ok (.iconst 2, 1) := by decide +kernel
theorem dX9_scoreOf_102 : decode cX9_scoreOf 102 = .ok (.iadd, 1) := by decide +kernel
theorem dX9_scoreOf_103 : decode cX9_scoreOf 103 = .ok (.iaload, 1) := by decide +kernel
theorem dX9_scoreOf_104 : decode cX9_scoreOf 104 = .ok (.aload_n 0, 1) := by decide +kernel
theorem dX9_scoreOf_105 : decode cX9_scoreOf 105 = .ok (.getfield 31, 3) := by decide +kernel
theorem dX9_scoreOf_108 : decode cX9_scoreOf 108 = .ok (.iconst 3, 1) := by decide +kernel
theorem dX9_scoreOf_109 : decode cX9_scoreOf 109 = .ok (.iload_n 2, 1) := by decide +kernel
theorem dX9_scoreOf_110 : decode cX9_scoreOf 110 = .ok (.imul, 1) := by decide +kernel
theorem dX9_scoreOf_111 : decode cX9_scoreOf 111 = .ok (.iconst 2, 1) := by decide +kernel
theorem dX9_scoreOf_112 : decode cX9_scoreOf 112 = .ok (.iadd, 1) := by decide +kernel
theorem dX9_scoreOf_113 : decode cX9_scoreOf 113 = .ok (.iaload, 1) := by decide +kernel
theorem dX9_scoreOf_114 : decode cX9_scoreOf 114 = .ok (.if_icmp .ne 7, 3) := by decide +kernel
theorem dX9_scoreOf_117 : decode cX9_scoreOf 117 = .ok (.iconst 3, 1) := by decide +kernel
theorem dX9_scoreOf_118 : decode cX9_scoreOf 118 = .ok (.goto 4, 3) := by decide +kernel
theorem dX9_scoreOf_121 : decode cX9_scoreOf 121 = .ok (.iconst 0, 1) := by decide +kernel
theorem dX9_scoreOf_122 : decode cX9_scoreOf 122 = .ok (.iadd, 1) := by decide +kernel
theorem dX9_scoreOf_123 : decode cX9_scoreOf 123 = .ok (.ireturn, 1) := by decide +kernel
theorem dX9_scores_0 : decode cX9_scores 0 = .ok (.aload_n 0, 1) := by decide +kernel
theorem dX9_scores_1 : decode cX9_scores 1 = .ok (.getfield 34, 3) := by decide +kernel
theorem dX9_scores_4 : decode cX9_scores 4 = .ok (.iload_n 1, 1) := by decide +kernel
theorem dX9_scores_5 : decode cX9_scores 5 = .ok (.iaload, 1) := by decide +kernel
theorem dX9_scores_6 : decode cX9_scores 6 = .ok (.istore_n 2, 1) := by decide +kernel
theorem dX9_scores_7 : decode cX9_scores 7 = .ok (.iconst 0, 1) := by decide +kernel
theorem dX9_scores_8 : decode cX9_scores 8 = .ok (.istore_n 3, 1) := by decide +kernel
theorem dX9_scores_9 : decode cX9_scores 9 = .ok (.iload_n 3, 1) := by decide +kernel
theorem dX9_scores_10 : decode cX9_scores 10 = .ok (.bipush 10, 2) := by decide +kernel
theorem dX9_scores_12 : decode cX9_scores 12 = .ok (.if_icmp .ge 79, 3) := by decide +kernel
theorem dX9_scores_15 : decode cX9_scores 15 = .ok (.aload_n 0, 1) := by decide +kernel
theorem dX9_scores_16 : decode cX9_scores 16 = .ok (.iload_n 2, 1) := by decide +kernel
theorem dX9_scores_17 : decode cX9_scores 17 = .ok (.invokevirtual 161, 3) := by decide +kernel
theorem dX9_scores_20 : decode cX9_scores 20 = .ok (.ifCond .eq 41, 3) := by decide +kernel
theorem dX9_scores_23 : decode cX9_scores 23 = .ok (.aload_n 0, 1) := by decide +kernel
theorem dX9_scores_24 : decode cX9_scores 24 = .ok (.iload_n 3, 1) := by decide +kernel
theorem dX9_scores_25 : decode cX9_scores 25 = .ok (.invokevirtual 158, 3) := by decide +kernel
theorem dX9_scores_28 : decode cX9_scores 28 = .ok (.ifCond .eq 33, 3) := by decide +kernel
theorem dX9_scores_31 : decode cX9_scores 31 = .ok (.aload_n 0, 1) := by decide +kernel
theorem dX9_scores_32 : decode cX9_scores 32 = .ok (.getfield 56, 3) := by decide +kernel
theorem dX9_scores_35 : decode cX9_scores 35 = .ok (.iload_n 3, 1) := by decide +kernel
theorem dX9_scores_36 : decode cX9_scores 36 = .ok (.baload, 1) := by decide +kernel
theorem dX9_scores_37 : decode cX9_scores 37 = .ok (.ifCond .ne 24, 3) := by decide +kernel
theorem dX9_scores_40 : decode cX9_scores 40 = .ok (.aload_n 0, 1) := by decide +kernel
theorem dX9_scores_41 : decode cX9_scores 41 = .ok (.getfield 49, 3) := by decide +kernel
theorem dX9_scores_44 : decode cX9_scores 44 = .ok (.iload_n 3, 1) := by decide +kernel
theorem dX9_scores_45 : decode cX9_scores 45 = .ok (.baload, 1) := by decide +kernel
theorem dX9_scores_46 : decode cX9_scores 46 = .ok (.ifCond .ne 15, 3) := by decide +kernel
theorem dX9_scores_49 : decode cX9_scores 49 = .ok (.aload_n 0, 1) := by decide +kernel
theorem dX9_scores_50 : decode cX9_scores 50 = .ok (.getfield 87, 3) := by decide +kernel
theorem dX9_scores_53 : decode cX9_scores 53 = .ok (.iload_n 3, 1) := by decide +kernel
theorem dX9_scores_54 : decode cX9_scores 54 = .ok (.if_icmp .eq 7, 3) := by decide +kernel
theorem dX9_scores_57 : decode cX9_scores 57 = .ok (.iconst 1, 1) := by decide +kernel
theorem dX9_scores_58 : decode cX9_scores 58 = .ok (.goto 4, 3) := by decide +kernel
theorem dX9_scores_61 : decode cX9_scores 61 = .ok (.iconst 0, 1) := by decide +kernel
theorem dX9_scores_62 : decode cX9_scores 62 = .ok (.istore 4, 2) := by decide +kernel
theorem dX9_scores_64 : decode cX9_scores 64 = .ok (.aload_n 0, 1) := by decide +kernel
theorem dX9_scores_65 : decode cX9_scores 65 = .ok (.getfield 53, 3) := by decide +kernel
theorem dX9_scores_68 : decode cX9_scores 68 = .ok (.iload_n 3, 1) := by decide +kernel
theorem dX9_scores_69 : decode cX9_scores 69 = .ok (.iload 4, 2) := by decide +kernel
theorem dX9_scores_71 : decode cX9_scores 71 = .ok (.ifCond .eq 12, 3) := by decide +kernel
theorem dX9_scores_74 : decode cX9_scores 74 = .ok (.aload_n 0, 1) := by decide +kernel
theorem dX9_scores_75 : decode cX9_scores 75 = .ok (.iload_n 3, 1) := by decide +kernel
theorem dX9_scores_76 : decode cX9_scores 76 = .ok (.iload_n 2, 1) := by decide +kernel
theorem dX9_scores_77 : decode cX9_scores 77 = .ok (.invokevirtual 184, 3) := by decide +kernel
theorem dX9_scores_80 : decode cX9_scores 80 = .ok (.goto 4, 3) := by decide +kernel
theorem dX9_scores_83 : decode cX9_scores 83 = .ok (.iconst (-1), 1) := by decide +kernel
theorem dX9_scores_84 : decode cX9_scores 84 = .ok (.iastore, 1) := by decide +kernel
theorem dX9_scores_85 : decode cX9_scores 85 = .ok (.iinc 3 1, 3) := by decide +kernel
theorem dX9_scores_88 : decode cX9_scores 88 = .ok (.goto (-79), 3) := by decide +kernel
theorem dX9_scores_91 : decode cX9_scores 91 = .ok (.return_, 1) := by decide +kernel
theorem dX9_bestBut_0 : decode cX9_bestBut 0 = .ok (.iconst (-1), 1) := by decide +kernel
theorem dX9_bestBut_1 : decode cX9_bestBut 1 = .ok (.istore_n 2, 1) := by decide +kernel
theorem dX9_bestBut_2 : decode cX9_bestBut 2 = .ok (.iconst 0, 1) := by decide +kernel
theorem dX9_bestBut_3 : decode cX9_bestBut 3 = .ok (.istore_n 3, 1) := by decide +kernel
theorem dX9_bestBut_4 : decode cX9_bestBut 4 = .ok (.iload_n 3, 1) := by decide +kernel
theorem dX9_bestBut_5 : decode cX9_bestBut 5 = .ok (.aload_n 0, 1) := by decide +kernel
theorem dX9_bestBut_6 : decode cX9_bestBut 6 = .ok (.getfield 128, 3) := by decide +kernel
theorem dX9_bestBut_9 : decode cX9_bestBut 9 = .ok (.if_icmp .ge 65, 3) := by decide +kernel
theorem dX9_bestBut_12 : decode cX9_bestBut 12 = .ok (.aload_n 0, 1) := by decide +kernel
theorem dX9_bestBut_13 : decode cX9_bestBut 13 = .ok (.getfield 53, 3) := by decide +kernel
theorem dX9_bestBut_16 : decode cX9_bestBut 16 = .ok (.iload_n 3, 1) := by decide +kernel
theorem dX9_bestBut_17 : decode cX9_bestBut 17 = .ok (.iaload, 1) := by decide +kernel
theorem dX9_bestBut_18 : decode cX9_bestBut 18 = .ok (.iconst (-1), 1) := by decide +kernel
theorem dX9_bestBut_19 : decode cX9_bestBut 19 = .ok (.if_icmp .eq 15, 3) := by decide +kernel
theorem dX9_bestBut_22 : decode cX9_bestBut 22 = .ok (.iload_n 1, 1) := by decide +kernel
theorem dX9_bestBut_23 : decode cX9_bestBut 23 = .ok (.iload_n 3, 1) := by decide +kernel
theorem dX9_bestBut_24 : decode cX9_bestBut 24 = .ok (.invokestatic 187, 3) := by decide +kernel
theorem dX9_bestBut_27 : decode cX9_bestBut 27 = .ok (.ifCond .ne 7, 3) := by decide +kernel
theorem dX9_bestBut_30 : decode cX9_bestBut 30 = .ok (.iconst 1, 1) := by decide +kernel
theorem dX9_bestBut_31 : decode cX9_bestBut 31 = .ok (.goto 4, 3) := by decide +kernel
theorem dX9_bestBut_34 : decode cX9_bestBut 34 = .ok (.iconst 0, 1) := by decide +kernel
theorem dX9_bestBut_35 : decode cX9_bestBut 35 = .ok (.istore 4, 2) := by decide +kernel
theorem dX9_bestBut_37 : decode cX9_bestBut 37 = .ok (.iload 4, 2) := by decide +kernel
theorem dX9_bestBut_39 : decode cX9_bestBut 39 = .ok (.ifCond .eq 27, 3) := by decide +kernel
theorem dX9_bestBut_42 : decode cX9_bestBut 42 = .ok (.iload_n 2, 1) := by decide +kernel
theorem dX9_bestBut_43 : decode cX9_bestBut 43 = .ok (.iconst (-1), 1) := by decide +kernel
theorem dX9_bestBut_44 : decode cX9_bestBut 44 = .ok (.if_icmp .eq 18, 3) := by decide +kernel
theorem dX9_bestBut_47 : decode cX9_bestBut 47 = .ok (.aload_n 0, 1) := by decide +kernel
theorem dX9_bestBut_48 : decode cX9_bestBut 48 = .ok (.getfield 53, 3) := by decide +kernel
theorem dX9_bestBut_51 : decode cX9_bestBut 51 = .ok (.iload_n 3, 1) := by decide +kernel
theorem dX9_bestBut_52 : decode cX9_bestBut 52 = .ok (.iaload, 1) := by decide +kernel
theorem dX9_bestBut_53 : decode cX9_bestBut 53 = .ok (.aload_n 0, 1) := by decide +kernel
theorem dX9_bestBut_54 : decode cX9_bestBut 54 = .ok (.getfield 53, 3) := by decide +kernel
theorem dX9_bestBut_57 : decode cX9_bestBut 57 = .ok (.iload_n 2, 1) := by decide +kernel
theorem dX9_bestBut_58 : decode cX9_bestBut 58 = .ok (.iaload, 1) := by decide +kernel
theorem dX9_bestBut_59 : decode cX9_bestBut 59 = .ok (.if_icmp .le 7, 3) := by decide +kernel
theorem dX9_bestBut_62 : decode cX9_bestBut 62 = .ok (.iload_n 3, 1) := by decide +kernel
theorem dX9_bestBut_63 : decode cX9_bestBut 63 = .ok (.goto 4, 3) := by decide +kernel
theorem dX9_bestBut_66 : decode cX9_bestBut 66 = .ok (.iload_n 2, 1) := by decide +kernel
theorem dX9_bestBut_67 : decode cX9_bestBut 67 = .ok (.istore_n 2, 1) := by decide +kernel
theorem dX9_bestBut_68 : decode cX9_bestBut 68 = .ok (.iinc 3 1, 3) := by decide +kernel
theorem dX9_bestBut_71 : decode cX9_bestBut 71 = .ok (.goto (-67), 3) := by decide +kernel
theorem dX9_bestBut_74 : decode cX9_bestBut 74 = .ok (.iload_n 2, 1) := by decide +kernel
theorem dX9_bestBut_75 : decode cX9_bestBut 75 = .ok (.ireturn, 1) := by decide +kernel
theorem dX9_places_0 : decode cX9_places 0 = .ok (.iconst 0, 1) := by decide +kernel
theorem dX9_places_1 : decode cX9_places 1 = .ok (.istore_n 2, 1) := by decide +kernel
theorem dX9_places_2 : decode cX9_places 2 = .ok (.iconst 0, 1) := by decide +kernel
theorem dX9_places_3 : decode cX9_places 3 = .ok (.istore_n 3, 1) := by decide +kernel
theorem dX9_places_4 : decode cX9_places 4 = .ok (.iload_n 3, 1) := by decide +kernel
theorem dX9_places_5 : decode cX9_places 5 = .ok (.iconst 3, 1) := by decide +kernel
theorem dX9_places_6 : decode cX9_places 6 = .ok (.if_icmp .ge 54, 3) := by decide +kernel
theorem dX9_places_9 : decode cX9_places 9 = .ok (.aload_n 0, 1) := by decide +kernel
theorem dX9_places_10 : decode cX9_places 10 = .ok (.iload_n 2, 1) := by decide +kernel
theorem dX9_places_11 : decode cX9_places 11 = .ok (.invokevirtual 191, 3) := by decide +kernel
theorem dX9_places_14 : decode cX9_places 14 = .ok (.istore 4, 2) := by decide +kernel
theorem dX9_places_16 : decode cX9_places 16 = .ok (.aload_n 0, 1) := by decide +kernel
theorem dX9_places_17 : decode cX9_places 17 = .ok (.getfield 74, 3) := by decide +kernel
theorem dX9_places_20 : decode cX9_places 20 = .ok (.iconst 3, 1) := by decide +kernel
theorem dX9_places_21 : decode cX9_places 21 = .ok (.iload_n 1, 1) := by decide +kernel
theorem dX9_places_22 : decode cX9_places 22 = .ok (.imul, 1) := by decide +kernel
theorem dX9_places_23 : decode cX9_places 23 = .ok (.iload_n 3, 1) := by decide +kernel
theorem dX9_places_24 : decode cX9_places 24 = .ok (.iadd, 1) := by decide +kernel
theorem dX9_places_25 : decode cX9_places 25 = .ok (.iload 4, 2) := by decide +kernel
theorem dX9_places_27 : decode cX9_places 27 = .ok (.iastore, 1) := by decide +kernel
theorem dX9_places_28 : decode cX9_places 28 = .ok (.iload 4, 2) := by decide +kernel
theorem dX9_places_30 : decode cX9_places 30 = .ok (.iconst (-1), 1) := by decide +kernel
theorem dX9_places_31 : decode cX9_places 31 = .ok (.if_icmp .eq 23, 3) := by decide +kernel
theorem dX9_places_34 : decode cX9_places 34 = .ok (.iload_n 2, 1) := by decide +kernel
theorem dX9_places_35 : decode cX9_places 35 = .ok (.iconst 1, 1) := by decide +kernel
theorem dX9_places_36 : decode cX9_places 36 = .ok (.iload 4, 2) := by decide +kernel
theorem dX9_places_38 : decode cX9_places 38 = .ok (.ishl, 1) := by decide +kernel
theorem dX9_places_39 : decode cX9_places 39 = .ok (.ior, 1) := by decide +kernel
theorem dX9_places_40 : decode cX9_places 40 = .ok (.istore_n 2, 1) := by decide +kernel
theorem dX9_places_41 : decode cX9_places 41 = .ok (.aload_n 0, 1) := by decide +kernel
theorem dX9_places_42 : decode cX9_places 42 = .ok (.getfield 43, 3) := by decide +kernel
theorem dX9_places_45 : decode cX9_places 45 = .ok (.iload 4, 2) := by decide +kernel
theorem dX9_places_47 : decode cX9_places 47 = .ok (.dup2, 1) := by decide +kernel
theorem dX9_places_48 : decode cX9_places 48 = .ok (.iaload, 1) := by decide +kernel
theorem dX9_places_49 : decode cX9_places 49 = .ok (.iconst 3, 1) := by decide +kernel
theorem dX9_places_50 : decode cX9_places 50 = .ok (.iload_n 3, 1) := by decide +kernel
theorem dX9_places_51 : decode cX9_places 51 = .ok (.isub, 1) := by decide +kernel
theorem dX9_places_52 : decode cX9_places 52 = .ok (.iadd, 1) := by decide +kernel
theorem dX9_places_53 : decode cX9_places 53 = .ok (.iastore, 1) := by decide +kernel
theorem dX9_places_54 : decode cX9_places 54 = .ok (.iinc 3 1, 3) := by decide +kernel
theorem dX9_places_57 : decode cX9_places 57 = .ok (.goto (-53), 3) := by decide +kernel
theorem dX9_places_60 : decode cX9_places 60 = .ok (.aload_n 0, 1) := by decide +kernel
theorem dX9_places_61 : decode cX9_places 61 = .ok (.dup, 1) := by decide +kernel
theorem dX9_places_62 : decode cX9_places 62 = .ok (.getfield 194, 3) := by decide +kernel
theorem dX9_places_65 : decode cX9_places 65 = .ok (.iload_n 2, 1) := by decide +kernel
theorem dX9_places_66 : decode cX9_places 66 = .ok (.ior, 1) := by decide +kernel
theorem dX9_places_67 : decode cX9_places 67 = .ok (.putfield 194, 3) := by decide +kernel
theorem dX9_places_70 : decode cX9_places 70 = .ok (.aload_n 0, 1) := by decide +kernel
theorem dX9_places_71 : decode cX9_places 71 = .ok (.getfield 74, 3) := by decide +kernel
theorem dX9_places_74 : decode cX9_places 74 = .ok (.iconst 3, 1) := by decide +kernel
theorem dX9_places_75 : decode cX9_places 75 = .ok (.iload_n 1, 1) := by decide +kernel
theorem dX9_places_76 : decode cX9_places 76 = .ok (.imul, 1) := by decide +kernel
theorem dX9_places_77 : decode cX9_places 77 = .ok (.iaload, 1) := by decide +kernel
theorem dX9_places_78 : decode cX9_places 78 = .ok (.istore_n 3, 1) := by decide +kernel
theorem dX9_places_79 : decode cX9_places 79 = .ok (.iload_n 3, 1) := by decide +kernel
theorem dX9_places_80 : decode cX9_places 80 = .ok (.iconst (-1), 1) := by decide +kernel
theorem dX9_places_81 : decode cX9_places 81 = .ok (.if_icmp .eq 46, 3) := by decide +kernel
theorem dX9_places_84 : decode cX9_places 84 = .ok (.aload_n 0, 1) := by decide +kernel
theorem dX9_places_85 : decode cX9_places 85 = .ok (.getfield 46, 3) := by decide +kernel
theorem dX9_places_88 : decode cX9_places 88 = .ok (.iload_n 3, 1) := by decide +kernel
theorem dX9_places_89 : decode cX9_places 89 = .ok (.dup2, 1) := by decide +kernel
theorem dX9_places_90 : decode cX9_places 90 = .ok (.iaload, 1) := by decide +kernel
theorem dX9_places_91 : decode cX9_places 91 = .ok (.iconst 1, 1) := by decide +kernel
theorem dX9_places_92 : decode cX9_places 92 = .ok (.iadd, 1) := by decide +kernel
theorem dX9_places_93 : decode cX9_places 93 = .ok (.iastore, 1) := by decide +kernel
theorem dX9_places_94 : decode cX9_places 94 = .ok (.aload_n 0, 1) := by decide +kernel
theorem dX9_places_95 : decode cX9_places 95 = .ok (.getfield 49, 3) := by decide +kernel
theorem dX9_places_98 : decode cX9_places 98 = .ok (.iload_n 3, 1) := by decide +kernel
theorem dX9_places_99 : decode cX9_places 99 = .ok (.aload_n 0, 1) := by decide +kernel
theorem dX9_places_100 : decode cX9_places 100 = .ok (.getfield 28, 3) := by decide +kernel
theorem dX9_places_103 : decode cX9_places 103 = .ok (.iconst 3, 1) := by decide +kernel
theorem dX9_places_104 : decode cX9_places 104 = .ok (.iload_n 3, 1) := by decide +kernel
theorem dX9_places_105 : decode cX9_places 105 = .ok (.imul, 1) := by decide +kernel
theorem dX9_places_106 : decode cX9_places 106 = .ok (.iaload, 1) := by decide +kernel
theorem dX9_places_107 : decode cX9_places 107 = .ok (.iconst 2, 1) := by decide +kernel
theorem dX9_places_108 : decode cX9_places 108 = .ok (.if_icmp .ne 17, 3) := by decide +kernel
theorem dX9_places_111 : decode cX9_places 111 = .ok (.aload_n 0, 1) := by decide +kernel
theorem dX9_places_112 : decode cX9_places 112 = .ok (.getfield 46, 3) := by decide +kernel
theorem dX9_places_115 : decode cX9_places 115 = .ok (.iload_n 3, 1) := by decide +kernel
theorem dX9_places_116 : decode cX9_places 116 = .ok (.iaload, 1) := by decide +kernel
theorem dX9_places_117 : decode cX9_places 117 = .ok (.iconst 3, 1) := by decide +kernel
theorem dX9_places_118 : decode cX9_places 118 = .ok (.if_icmp .ne 7, 3) := by decide +kernel
theorem dX9_places_121 : decode cX9_places 121 = .ok (.iconst 1, 1) := by decide +kernel
theorem dX9_places_122 : decode cX9_places 122 = .ok (.goto 4, 3) := by decide +kernel
theorem dX9_places_125 : decode cX9_places 125 = .ok (.iconst 0, 1) := by decide +kernel
theorem dX9_places_126 : decode cX9_places 126 = .ok (.bastore, 1) := by decide +kernel
theorem dX9_places_127 : decode cX9_places 127 = .ok (.aload_n 0, 1) := by decide +kernel
theorem dX9_places_128 : decode cX9_places 128 = .ok (.getfield 74, 3) := by decide +kernel
theorem dX9_places_131 : decode cX9_places 131 = .ok (.iconst 3, 1) := by decide +kernel
theorem dX9_places_132 : decode cX9_places 132 = .ok (.iload_n 1, 1) := by decide +kernel
theorem dX9_places_133 : decode cX9_places 133 = .ok (.imul, 1) := by decide +kernel
theorem dX9_places_134 : decode cX9_places 134 = .ok (.iconst 1, 1) := by decide +kernel
theorem dX9_places_135 : decode cX9_places 135 = .ok (.iadd, 1) := by decide +kernel
theorem dX9_places_136 : decode cX9_places 136 = .ok (.iaload, 1) := by decide +kernel
theorem dX9_places_137 : decode cX9_places 137 = .ok (.istore 4, 2) := by decide +kernel
theorem dX9_places_139 : decode cX9_places 139 = .ok (.iload 4, 2) := by decide +kernel
theorem dX9_places_141 : decode cX9_places 141 = .ok (.iconst (-1), 1) := by decide +kernel
theorem dX9_places_142 : decode cX9_places 142 = .ok (.if_icmp .eq 36, 3) := by decide +kernel
theorem dX9_places_145 : decode cX9_places 145 = .ok (.aload_n 0, 1) := by decide +kernel
theorem dX9_places_146 : decode cX9_places 146 = .ok (.getfield 28, 3) := by decide +kernel
theorem dX9_places_149 : decode cX9_places 149 = .ok (.iconst 3, 1) := by decide +kernel
theorem dX9_places_150 : decode cX9_places 150 = .ok (.iload 4, 2) := by decide +kernel
theorem dX9_places_152 : decode cX9_places 152 = .ok (.imul, 1) := by decide +kernel
theorem dX9_places_153 : decode cX9_places 153 = .ok (.iaload, 1) := by decide +kernel
theorem dX9_places_154 : decode cX9_places 154 = .ok (.iconst 1, 1) := by decide +kernel
theorem dX9_places_155 : decode cX9_places 155 = .ok (.if_icmp .ne 23, 3) := by decide +kernel
theorem dX9_places_158 : decode cX9_places 158 = .ok (.aload_n 0, 1) := by decide +kernel
theorem dX9_places_159 : decode cX9_places 159 = .ok (.getfield 40, 3) := by decide +kernel
theorem dX9_places_162 : decode cX9_places 162 = .ok (.iload 4, 2) := by decide +kernel
theorem dX9_places_164 : decode cX9_places 164 = .ok (.aload_n 0, 1) := by decide +kernel
theorem dX9_places_165 : decode cX9_places 165 = .ok (.getfield 40, 3) := by decide +kernel
theorem dX9_places_168 : decode cX9_places 168 = .ok (.iload 4, 2) := by decide +kernel
theorem dX9_places_170 : decode cX9_places 170 = .ok (.iaload, 1) := by decide +kernel
theorem dX9_places_171 : decode cX9_places 171 = .ok (.iconst 1, 1) := by decide +kernel
theorem dX9_places_172 : decode cX9_places 172 = .ok (.isub, 1) := by decide +kernel
theorem dX9_places_173 : decode cX9_places 173 = .ok (.iconst 0, 1) := by decide +kernel
theorem dX9_places_174 : decode cX9_places 174 = .ok (.invokestatic 181, 3) := by decide +kernel
theorem dX9_places_177 : decode cX9_places 177 = .ok (.iastore, 1) := by decide +kernel
theorem dX9_places_178 : decode cX9_places 178 = .ok (.return_, 1) := by decide +kernel
theorem dX9_passes_0 : decode cX9_passes 0 = .ok (.aload_n 0, 1) := by decide +kernel
theorem dX9_passes_1 : decode cX9_passes 1 = .ok (.iconst 0, 1) := by decide +kernel
theorem dX9_passes_2 : decode cX9_passes 2 = .ok (.putfield 177, 3) := by decide +kernel
theorem dX9_passes_5 : decode cX9_passes 5 = .ok (.iconst 0, 1) := by decide +kernel
theorem dX9_passes_6 : decode cX9_passes 6 = .ok (.istore_n 2, 1) := by decide +kernel
theorem dX9_passes_7 : decode cX9_passes 7 = .ok (.iload_n 2, 1) := by decide +kernel
theorem dX9_passes_8 : decode cX9_passes 8 = .ok (.bipush 10, 2) := by decide +kernel
theorem dX9_passes_10 : decode cX9_passes 10 = .ok (.if_icmp .ge 16, 3) := by decide +kernel
theorem dX9_passes_13 : decode cX9_passes 13 = .ok (.aload_n 0, 1) := by decide +kernel
theorem dX9_passes_14 : decode cX9_passes 14 = .ok (.getfield 56, 3) := by decide +kernel
theorem dX9_passes_17 : decode cX9_passes 17 = .ok (.iload_n 2, 1) := by decide +kernel
theorem dX9_passes_18 : decode cX9_passes 18 = .ok (.iconst 0, 1) := by decide +kernel
theorem dX9_passes_19 : decode cX9_passes 19 = .ok (.bastore, 1) := by decide +kernel
theorem dX9_passes_20 : decode cX9_passes 20 = .ok (.iinc 2 1, 3) := by decide +kernel
theorem dX9_passes_23 : decode cX9_passes 23 = .ok (.goto (-16), 3) := by decide +kernel
theorem dX9_passes_26 : decode cX9_passes 26 = .ok (.iconst 0, 1) := by decide +kernel
theorem dX9_passes_27 : decode cX9_passes 27 = .ok (.istore_n 2, 1) := by decide +kernel
theorem dX9_passes_28 : decode cX9_passes 28 = .ok (.iload_n 2, 1) := by decide +kernel
theorem dX9_passes_29 : decode cX9_passes 29 = .ok (.aload_n 0, 1) := by decide +kernel
theorem dX9_passes_30 : decode cX9_passes 30 = .ok (.getfield 169, 3) := by decide +kernel
theorem dX9_passes_33 : decode cX9_passes 33 = .ok (.if_icmp .ge 56, 3) := by decide +kernel
theorem dX9_passes_36 : decode cX9_passes 36 = .ok (.aload_n 0, 1) := by decide +kernel
theorem dX9_passes_37 : decode cX9_passes 37 = .ok (.getfield 37, 3) := by decide +kernel
theorem dX9_passes_40 : decode cX9_passes 40 = .ok (.iconst 3, 1) := by decide +kernel
theorem dX9_passes_41 : decode cX9_passes 41 = .ok (.iload_n 2, 1) := by decide +kernel
theorem dX9_passes_42 : decode cX9_passes 42 = .ok (.imul, 1) := by decide +kernel
theorem dX9_passes_43 : decode cX9_passes 43 = .ok (.iconst 1, 1) := by decide +kernel
theorem dX9_passes_44 : decode cX9_passes 44 = .ok (.iadd, 1) := by decide +kernel
theorem dX9_passes_45 : decode cX9_passes 45 = .ok (.iaload, 1) := by decide +kernel
theorem dX9_passes_46 : decode cX9_passes 46 = .ok (.iload_n 1, 1) := by decide +kernel
theorem dX9_passes_47 : decode cX9_passes 47 = .ok (.if_icmp .ne 36, 3) := by decide +kernel
theorem dX9_passes_50 : decode cX9_passes 50 = .ok (.aload_n 0, 1) := by decide +kernel
theorem dX9_passes_51 : decode cX9_passes 51 = .ok (.getfield 197, 3) := by decide +kernel
theorem dX9_passes_54 : decode cX9_passes 54 = .ok (.iload_n 2, 1) := by decide +kernel
theorem dX9_passes_55 : decode cX9_passes 55 = .ok (.invokestatic 187, 3) := by decide +kernel
theorem dX9_passes_58 : decode cX9_passes 58 = .ok (.ifCond .ne 25, 3) := by decide +kernel
theorem dX9_passes_61 : decode cX9_passes 61 = .ok (.aload_n 0, 1) := by decide +kernel
theorem dX9_passes_62 : decode cX9_passes 62 = .ok (.aload_n 0, 1) := by decide +kernel
theorem dX9_passes_63 : decode cX9_passes 63 = .ok (.getfield 37, 3) := by decide +kernel
theorem dX9_passes_66 : decode cX9_passes 66 = .ok (.iconst 3, 1) := by decide +kernel
theorem dX9_passes_67 : decode cX9_passes 67 = .ok (.iload_n 2, 1) := by decide +kernel
theorem dX9_passes_68 : decode cX9_passes 68 = .ok (.imul, 1) := by decide +kernel
theorem dX9_passes_69 : decode cX9_passes 69 = .ok (.iaload, 1) := by decide +kernel
theorem dX9_passes_70 : decode cX9_passes 70 = .ok (.aload_n 0, 1) := by decide +kernel
theorem dX9_passes_71 : decode cX9_passes 71 = .ok (.getfield 37, 3) := by decide +kernel
theorem dX9_passes_74 : decode cX9_passes 74 = .ok (.iconst 3, 1) := by decide +kernel
theorem dX9_passes_75 : decode cX9_passes 75 = .ok (.iload_n 2, 1) := by decide +kernel
theorem dX9_passes_76 : decode cX9_passes 76 = .ok (.imul, 1) := by decide +kernel
theorem dX9_passes_77 : decode cX9_passes 77 = .ok (.iconst 2, 1) := by decide +kernel
theorem dX9_passes_78 : decode cX9_passes 78 = .ok (.iadd, 1) := by decide +kernel
theorem dX9_passes_79 : decode cX9_passes 79 = .ok (.iaload, 1) := by decide +kernel
theorem dX9_passes_80 : decode cX9_passes 80 = .ok (.invokevirtual 200, 3) := by decide +kernel
theorem dX9_passes_83 : decode cX9_passes 83 = .ok (.iinc 2 1, 3) := by decide +kernel
theorem dX9_passes_86 : decode cX9_passes 86 = .ok (.goto (-58), 3) := by decide +kernel
theorem dX9_passes_89 : decode cX9_passes 89 = .ok (.aload_n 0, 1) := by decide +kernel
theorem dX9_passes_90 : decode cX9_passes 90 = .ok (.getfield 83, 3) := by decide +kernel
theorem dX9_passes_93 : decode cX9_passes 93 = .ok (.iload_n 1, 1) := by decide +kernel
theorem dX9_passes_94 : decode cX9_passes 94 = .ok (.if_icmp .ne 12, 3) := by decide +kernel
theorem dX9_passes_97 : decode cX9_passes 97 = .ok (.aload_n 0, 1) := by decide +kernel
theorem dX9_passes_98 : decode cX9_passes 98 = .ok (.iconst 0, 1) := by decide +kernel
theorem dX9_passes_99 : decode cX9_passes 99 = .ok (.aload_n 0, 1) := by decide +kernel
theorem dX9_passes_100 : decode cX9_passes 100 = .ok (.getfield 204, 3) := by decide +kernel
theorem dX9_passes_103 : decode cX9_passes 103 = .ok (.invokevirtual 200, 3) := by decide +kernel
theorem dX9_passes_106 : decode cX9_passes 106 = .ok (.aload_n 0, 1) := by decide +kernel
theorem dX9_passes_107 : decode cX9_passes 107 = .ok (.iload_n 1, 1) := by decide +kernel
theorem dX9_passes_108 : decode cX9_passes 108 = .ok (.invokevirtual 207, 3) := by decide +kernel
theorem dX9_passes_111 : decode cX9_passes 111 = .ok (.aload_n 0, 1) := by decide +kernel
theorem dX9_passes_112 : decode cX9_passes 112 = .ok (.iload_n 1, 1) := by decide +kernel
theorem dX9_passes_113 : decode cX9_passes 113 = .ok (.invokevirtual 211, 3) := by decide +kernel
theorem dX9_passes_116 : decode cX9_passes 116 = .ok (.iconst 0, 1) := by decide +kernel
theorem dX9_passes_117 : decode cX9_passes 117 = .ok (.istore_n 2, 1) := by decide +kernel
theorem dX9_passes_118 : decode cX9_passes 118 = .ok (.iload_n 2, 1) := by decide +kernel
theorem dX9_passes_119 : decode cX9_passes 119 = .ok (.bipush 10, 2) := by decide +kernel
theorem dX9_passes_121 : decode cX9_passes 121 = .ok (.if_icmp .ge 102, 3) := by decide +kernel
theorem dX9_passes_124 : decode cX9_passes 124 = .ok (.aload_n 0, 1) := by decide +kernel
theorem dX9_passes_125 : decode cX9_passes 125 = .ok (.getfield 59, 3) := by decide +kernel
theorem dX9_passes_128 : decode cX9_passes 128 = .ok (.bipush 10, 2) := by decide +kernel
theorem dX9_passes_130 : decode cX9_passes 130 = .ok (.iload_n 1, 1) := by decide +kernel
theorem dX9_passes_131 : decode cX9_passes 131 = .ok (.imul, 1) := by decide +kernel
theorem dX9_passes_132 : decode cX9_passes 132 = .ok (.iload_n 2, 1) := by decide +kernel
theorem dX9_passes_133 : decode cX9_passes 133 = .ok (.iadd, 1) := by decide +kernel
theorem dX9_passes_134 : decode cX9_passes 134 = .ok (.aload_n 0, 1) := by decide +kernel
theorem dX9_passes_135 : decode cX9_passes 135 = .ok (.getfield 40, 3) := by decide +kernel
theorem dX9_passes_138 : decode cX9_passes 138 = .ok (.iload_n 2, 1) := by decide +kernel
theorem dX9_passes_139 : decode cX9_passes 139 = .ok (.iaload, 1) := by decide +kernel
theorem dX9_passes_140 : decode cX9_passes 140 = .ok (.iastore, 1) := by decide +kernel
theorem dX9_passes_141 : decode cX9_passes 141 = .ok (.aload_n 0, 1) := by decide +kernel
theorem dX9_passes_142 : decode cX9_passes 142 = .ok (.getfield 62, 3) := by decide +kernel
theorem dX9_passes_145 : decode cX9_passes 145 = .ok (.bipush 10, 2) := by decide +kernel
theorem dX9_passes_147 : decode cX9_passes 147 = .ok (.iload_n 1, 1) := by decide +kernel
theorem dX9_passes_148 : decode cX9_passes 148 = .ok (.imul, 1) := by decide +kernel
theorem dX9_passes_149 : decode cX9_passes 149 = .ok (.iload_n 2, 1) := by decide +kernel
theorem dX9_passes_150 : decode cX9_passes 150 = .ok (.iadd, 1) := by decide +kernel
theorem dX9_passes_151 : decode cX9_passes 151 = .ok (.aload_n 0, 1) := by decide +kernel
theorem dX9_passes_152 : decode cX9_passes 152 = .ok (.getfield 43, 3) := by decide +kernel
theorem dX9_passes_155 : decode cX9_passes 155 = .ok (.iload_n 2, 1) := by decide +kernel
theorem dX9_passes_156 : decode cX9_passes 156 = .ok (.iaload, 1) := by decide +kernel
theorem dX9_passes_157 : decode cX9_passes 157 = .ok (.iastore, 1) := by decide +kernel
theorem dX9_passes_158 : decode cX9_passes 158 = .ok (.aload_n 0, 1) := by decide +kernel
theorem dX9_passes_159 : decode cX9_passes 159 = .ok (.getfield 65, 3) := by decide +kernel
theorem dX9_passes_162 : decode cX9_passes 162 = .ok (.bipush 10, 2) := by decide +kernel
theorem dX9_passes_164 : decode cX9_passes 164 = .ok (.iload_n 1, 1) := by decide +kernel
theorem dX9_passes_165 : decode cX9_passes 165 = .ok (.imul, 1) := by decide +kernel
theorem dX9_passes_166 : decode cX9_passes 166 = .ok (.iload_n 2, 1) := by decide +kernel
theorem dX9_passes_167 : decode cX9_passes 167 = .ok (.iadd, 1) := by decide +kernel
theorem dX9_passes_168 : decode cX9_passes 168 = .ok (.aload_n 0, 1) := by decide +kernel
theorem dX9_passes_169 : decode cX9_passes 169 = .ok (.getfield 46, 3) := by decide +kernel
theorem dX9_passes_172 : decode cX9_passes 172 = .ok (.iload_n 2, 1) := by decide +kernel
theorem dX9_passes_173 : decode cX9_passes 173 = .ok (.iaload, 1) := by decide +kernel
theorem dX9_passes_174 : decode cX9_passes 174 = .ok (.iastore, 1) := by decide +kernel
theorem dX9_passes_175 : decode cX9_passes 175 = .ok (.aload_n 0, 1) := by decide +kernel
theorem dX9_passes_176 : decode cX9_passes 176 = .ok (.getfield 68, 3) := by decide +kernel
theorem dX9_passes_179 : decode cX9_passes 179 = .ok (.bipush 10, 2) := by decide +kernel
theorem dX9_passes_181 : decode cX9_passes 181 = .ok (.iload_n 1, 1) := by decide +kernel
theorem dX9_passes_182 : decode cX9_passes 182 = .ok (.imul, 1) := by decide +kernel
theorem dX9_passes_183 : decode cX9_passes 183 = .ok (.iload_n 2, 1) := by decide +kernel
theorem dX9_passes_184 : decode cX9_passes 184 = .ok (.iadd, 1) := by decide +kernel
theorem dX9_passes_185 : decode cX9_passes 185 = .ok (.aload_n 0, 1) := by decide +kernel
theorem dX9_passes_186 : decode cX9_passes 186 = .ok (.getfield 49, 3) := by decide +kernel
theorem dX9_passes_189 : decode cX9_passes 189 = .ok (.iload_n 2, 1) := by decide +kernel
theorem dX9_passes_190 : decode cX9_passes 190 = .ok (.baload, 1) := by decide +kernel
theorem dX9_passes_191 : decode cX9_passes 191 = .ok (.ifCond .eq 7, 3) := by decide +kernel
theorem dX9_passes_194 : decode cX9_passes 194 = .ok (.iconst 1, 1) := by decide +kernel
theorem dX9_passes_195 : decode cX9_passes 195 = .ok (.goto 4, 3) := by decide +kernel
theorem dX9_passes_198 : decode cX9_passes 198 = .ok (.iconst 0, 1) := by decide +kernel
theorem dX9_passes_199 : decode cX9_passes 199 = .ok (.iastore, 1) := by decide +kernel
theorem dX9_passes_200 : decode cX9_passes 200 = .ok (.aload_n 0, 1) := by decide +kernel
theorem dX9_passes_201 : decode cX9_passes 201 = .ok (.getfield 71, 3) := by decide +kernel
theorem dX9_passes_204 : decode cX9_passes 204 = .ok (.bipush 10, 2) := by decide +kernel
theorem dX9_passes_206 : decode cX9_passes 206 = .ok (.iload_n 1, 1) := by decide +kernel
theorem dX9_passes_207 : decode cX9_passes 207 = .ok (.imul, 1) := by decide +kernel
theorem dX9_passes_208 : decode cX9_passes 208 = .ok (.iload_n 2, 1) := by decide +kernel
theorem dX9_passes_209 : decode cX9_passes 209 = .ok (.iadd, 1) := by decide +kernel
theorem dX9_passes_210 : decode cX9_passes 210 = .ok (.aload_n 0, 1) := by decide +kernel
theorem dX9_passes_211 : decode cX9_passes 211 = .ok (.getfield 53, 3) := by decide +kernel
theorem dX9_passes_214 : decode cX9_passes 214 = .ok (.iload_n 2, 1) := by decide +kernel
theorem dX9_passes_215 : decode cX9_passes 215 = .ok (.iaload, 1) := by decide +kernel
theorem dX9_passes_216 : decode cX9_passes 216 = .ok (.iastore, 1) := by decide +kernel
theorem dX9_passes_217 : decode cX9_passes 217 = .ok (.iinc 2 1, 3) := by decide +kernel
theorem dX9_passes_220 : decode cX9_passes 220 = .ok (.goto (-102), 3) := by decide +kernel
theorem dX9_passes_223 : decode cX9_passes 223 = .ok (.return_, 1) := by decide +kernel
theorem dX9_lives_0 : decode cX9_lives 0 = .ok (.iconst 0, 1) := by decide +kernel
theorem dX9_lives_1 : decode cX9_lives 1 = .ok (.istore_n 1, 1) := by decide +kernel
theorem dX9_lives_2 : decode cX9_lives 2 = .ok (.iload_n 1, 1) := by decide +kernel
theorem dX9_lives_3 : decode cX9_lives 3 = .ok (.bipush 10, 2) := by decide +kernel
theorem dX9_lives_5 : decode cX9_lives 5 = .ok (.if_icmp .ge 46, 3) := by decide +kernel
theorem dX9_lives_8 : decode cX9_lives 8 = .ok (.aload_n 0, 1) := by decide +kernel
theorem dX9_lives_9 : decode cX9_lives 9 = .ok (.getfield 40, 3) := by decide +kernel
theorem dX9_lives_12 : decode cX9_lives 12 = .ok (.iload_n 1, 1) := by decide +kernel
theorem dX9_lives_13 : decode cX9_lives 13 = .ok (.aload_n 0, 1) := by decide +kernel
theorem dX9_lives_14 : decode cX9_lives 14 = .ok (.getfield 28, 3) := by decide +kernel
theorem dX9_lives_17 : decode cX9_lives 17 = .ok (.iconst 3, 1) := by decide +kernel
theorem dX9_lives_18 : decode cX9_lives 18 = .ok (.iload_n 1, 1) := by decide +kernel
theorem dX9_lives_19 : decode cX9_lives 19 = .ok (.imul, 1) := by decide +kernel
theorem dX9_lives_20 : decode cX9_lives 20 = .ok (.iconst 1, 1) := by decide +kernel
theorem dX9_lives_21 : decode cX9_lives 21 = .ok (.iadd, 1) := by decide +kernel
theorem dX9_lives_22 : decode cX9_lives 22 = .ok (.iaload, 1) := by decide +kernel
theorem dX9_lives_23 : decode cX9_lives 23 = .ok (.iastore, 1) := by decide +kernel
theorem dX9_lives_24 : decode cX9_lives 24 = .ok (.aload_n 0, 1) := by decide +kernel
theorem dX9_lives_25 : decode cX9_lives 25 = .ok (.getfield 43, 3) := by decide +kernel
theorem dX9_lives_28 : decode cX9_lives 28 = .ok (.iload_n 1, 1) := by decide +kernel
theorem dX9_lives_29 : decode cX9_lives 29 = .ok (.iconst 0, 1) := by decide +kernel
theorem dX9_lives_30 : decode cX9_lives 30 = .ok (.iastore, 1) := by decide +kernel
theorem dX9_lives_31 : decode cX9_lives 31 = .ok (.aload_n 0, 1) := by decide +kernel
theorem dX9_lives_32 : decode cX9_lives 32 = .ok (.getfield 46, 3) := by decide +kernel
theorem dX9_lives_35 : decode cX9_lives 35 = .ok (.iload_n 1, 1) := by decide +kernel
theorem dX9_lives_36 : decode cX9_lives 36 = .ok (.iconst 0, 1) := by decide +kernel
theorem dX9_lives_37 : decode cX9_lives 37 = .ok (.iastore, 1) := by decide +kernel
theorem dX9_lives_38 : decode cX9_lives 38 = .ok (.aload_n 0, 1) := by decide +kernel
theorem dX9_lives_39 : decode cX9_lives 39 = .ok (.getfield 49, 3) := by decide +kernel
theorem dX9_lives_42 : decode cX9_lives 42 = .ok (.iload_n 1, 1) := by decide +kernel
theorem dX9_lives_43 : decode cX9_lives 43 = .ok (.iconst 0, 1) := by decide +kernel
theorem dX9_lives_44 : decode cX9_lives 44 = .ok (.bastore, 1) := by decide +kernel
theorem dX9_lives_45 : decode cX9_lives 45 = .ok (.iinc 1 1, 3) := by decide +kernel
theorem dX9_lives_48 : decode cX9_lives 48 = .ok (.goto (-46), 3) := by decide +kernel
theorem dX9_lives_51 : decode cX9_lives 51 = .ok (.aload_n 0, 1) := by decide +kernel
theorem dX9_lives_52 : decode cX9_lives 52 = .ok (.iconst 0, 1) := by decide +kernel
theorem dX9_lives_53 : decode cX9_lives 53 = .ok (.putfield 194, 3) := by decide +kernel
theorem dX9_lives_56 : decode cX9_lives 56 = .ok (.iconst 0, 1) := by decide +kernel
theorem dX9_lives_57 : decode cX9_lives 57 = .ok (.istore_n 1, 1) := by decide +kernel
theorem dX9_lives_58 : decode cX9_lives 58 = .ok (.iload_n 1, 1) := by decide +kernel
theorem dX9_lives_59 : decode cX9_lives 59 = .ok (.bipush 12, 2) := by decide +kernel
theorem dX9_lives_61 : decode cX9_lives 61 = .ok (.if_icmp .ge 14, 3) := by decide +kernel
theorem dX9_lives_64 : decode cX9_lives 64 = .ok (.aload_n 0, 1) := by decide +kernel
theorem dX9_lives_65 : decode cX9_lives 65 = .ok (.iload_n 1, 1) := by decide +kernel
theorem dX9_lives_66 : decode cX9_lives 66 = .ok (.invokevirtual 214, 3) := by decide +kernel
theorem dX9_lives_69 : decode cX9_lives 69 = .ok (.iinc 1 1, 3) := by decide +kernel
theorem dX9_lives_72 : decode cX9_lives 72 = .ok (.goto (-14), 3) := by decide +kernel
theorem dX9_lives_75 : decode cX9_lives 75 = .ok (.return_, 1) := by decide +kernel
theorem dX9_find_0 : decode cX9_find 0 = .ok (.aload_n 0, 1) := by decide +kernel
theorem dX9_find_1 : decode cX9_find 1 = .ok (.invokevirtual 143, 3) := by decide +kernel
theorem dX9_find_4 : decode cX9_find 4 = .ok (.pop, 1) := by decide +kernel
theorem dX9_find_5 : decode cX9_find 5 = .ok (.aload_n 0, 1) := by decide +kernel
theorem dX9_find_6 : decode cX9_find 6 = .ok (.invokevirtual 147, 3) := by decide +kernel
theorem dX9_find_9 : decode cX9_find 9 = .ok (.pop, 1) := by decide +kernel
theorem dX9_find_10 : decode cX9_find 10 = .ok (.aload_n 0, 1) := by decide +kernel
theorem dX9_find_11 : decode cX9_find 11 = .ok (.invokevirtual 150, 3) := by decide +kernel
theorem dX9_find_14 : decode cX9_find 14 = .ok (.pop, 1) := by decide +kernel
theorem dX9_find_15 : decode cX9_find 15 = .ok (.aload_n 0, 1) := by decide +kernel
theorem dX9_find_16 : decode cX9_find 16 = .ok (.invokevirtual 217, 3) := by decide +kernel
theorem dX9_find_19 : decode cX9_find 19 = .ok (.return_, 1) := by decide +kernel
theorem dX9_place_0 : decode cX9_place 0 = .ok (.aload_n 0, 1) := by decide +kernel
theorem dX9_place_1 : decode cX9_place 1 = .ok (.invokevirtual 220, 3) := by decide +kernel
theorem dX9_place_4 : decode cX9_place 4 = .ok (.iload_n 1, 1) := by decide +kernel
theorem dX9_place_5 : decode cX9_place 5 = .ok (.invokestatic 164, 3) := by decide +kernel
theorem dX9_place_8 : decode cX9_place 8 = .ok (.ifCond .eq 28, 3) := by decide +kernel
theorem dX9_place_11 : decode cX9_place 11 = .ok (.iload_n 2, 1) := by decide +kernel
theorem dX9_place_12 : decode cX9_place 12 = .ok (.i2l, 1) := by decide +kernel
theorem dX9_place_13 : decode cX9_place 13 = .ok (.lconst 0, 1) := by decide +kernel
theorem dX9_place_14 : decode cX9_place 14 = .ok (.ldc2_w 105, 3) := by decide +kernel
theorem dX9_place_17 : decode cX9_place 17 = .ok (.invokestatic 92, 3) := by decide +kernel
theorem dX9_place_20 : decode cX9_place 20 = .ok (.ifCond .eq 16, 3) := by decide +kernel
theorem dX9_place_23 : decode cX9_place 23 = .ok (.aload_n 0, 1) := by decide +kernel
theorem dX9_place_24 : decode cX9_place 24 = .ok (.getfield 74, 3) := by decide +kernel
theorem dX9_place_27 : decode cX9_place 27 = .ok (.iconst 3, 1) := by decide +kernel
theorem dX9_place_28 : decode cX9_place 28 = .ok (.iload_n 1, 1) := by decide +kernel
theorem dX9_place_29 : decode cX9_place 29 = .ok (.imul, 1) := by decide +kernel
theorem dX9_place_30 : decode cX9_place 30 = .ok (.iload_n 2, 1) := by decide +kernel
theorem dX9_place_31 : decode cX9_place 31 = .ok (.iadd, 1) := by decide +kernel
theorem dX9_place_32 : decode cX9_place 32 = .ok (.iaload, 1) := by decide +kernel
theorem dX9_place_33 : decode cX9_place 33 = .ok (.goto 5, 3) := by decide +kernel
theorem dX9_place_36 : decode cX9_place 36 = .ok (.bipush (-2), 2) := by decide +kernel
theorem dX9_place_38 : decode cX9_place 38 = .ok (.ireturn, 1) := by decide +kernel
theorem dX9_atBy_0 : decode cX9_atBy 0 = .ok (.bipush 10, 2) := by decide +kernel
theorem dX9_atBy_2 : decode cX9_atBy 2 = .ok (.iload_n 1, 1) := by decide +kernel
theorem dX9_atBy_3 : decode cX9_atBy 3 = .ok (.imul, 1) := by decide +kernel
theorem dX9_atBy_4 : decode cX9_atBy 4 = .ok (.iload_n 2, 1) := by decide +kernel
theorem dX9_atBy_5 : decode cX9_atBy 5 = .ok (.iadd, 1) := by decide +kernel
theorem dX9_atBy_6 : decode cX9_atBy 6 = .ok (.istore 4, 2) := by decide +kernel
theorem dX9_atBy_8 : decode cX9_atBy 8 = .ok (.iload_n 3, 1) := by decide +kernel
theorem dX9_atBy_9 : decode cX9_atBy 9 = .ok (.tableswitch 63 0 3 #[31, 39, 47, 55], 31) := by decide +kernel
theorem dX9_atBy_40 : decode cX9_atBy 40 = .ok (.aload_n 0, 1) := by decide +kernel
theorem dX9_atBy_41 : decode cX9_atBy 41 = .ok (.getfield 59, 3) := by decide +kernel
theorem dX9_atBy_44 : decode cX9_atBy 44 = .ok (.iload 4, 2) := by decide +kernel
theorem dX9_atBy_46 : decode cX9_atBy 46 = .ok (.iaload, 1) := by decide +kernel
theorem dX9_atBy_47 : decode cX9_atBy 47 = .ok (.ireturn, 1) := by decide +kernel
theorem dX9_atBy_48 : decode cX9_atBy 48 = .ok (.aload_n 0, 1) := by decide +kernel
theorem dX9_atBy_49 : decode cX9_atBy 49 = .ok (.getfield 62, 3) := by decide +kernel
theorem dX9_atBy_52 : decode cX9_atBy 52 = .ok (.iload 4, 2) := by decide +kernel
theorem dX9_atBy_54 : decode cX9_atBy 54 = .ok (.iaload, 1) := by decide +kernel
theorem dX9_atBy_55 : decode cX9_atBy 55 = .ok (.ireturn, 1) := by decide +kernel
theorem dX9_atBy_56 : decode cX9_atBy 56 = .ok (.aload_n 0, 1) := by decide +kernel
theorem dX9_atBy_57 : decode cX9_atBy 57 = .ok (.getfield 65, 3) := by decide +kernel
theorem dX9_atBy_60 : decode cX9_atBy 60 = .ok (.iload 4, 2) := by decide +kernel
theorem dX9_atBy_62 : decode cX9_atBy 62 = .ok (.iaload, 1) := by decide +kernel
theorem dX9_atBy_63 : decode cX9_atBy 63 = .ok (.ireturn, 1) := by decide +kernel
theorem dX9_atBy_64 : decode cX9_atBy 64 = .ok (.aload_n 0, 1) := by decide +kernel
theorem dX9_atBy_65 : decode cX9_atBy 65 = .ok (.getfield 68, 3) := by decide +kernel
theorem dX9_atBy_68 : decode cX9_atBy 68 = .ok (.iload 4, 2) := by decide +kernel
theorem dX9_atBy_70 : decode cX9_atBy 70 = .ok (.iaload, 1) := by decide +kernel
theorem dX9_atBy_71 : decode cX9_atBy 71 = .ok (.ireturn, 1) := by decide +kernel
theorem dX9_atBy_72 : decode cX9_atBy 72 = .ok (.aload_n 0, 1) := by decide +kernel
theorem dX9_atBy_73 : decode cX9_atBy 73 = .ok (.getfield 71, 3) := by decide +kernel
theorem dX9_atBy_76 : decode cX9_atBy 76 = .ok (.iload 4, 2) := by decide +kernel
theorem dX9_atBy_78 : decode cX9_atBy 78 = .ok (.iaload, 1) := by decide +kernel
theorem dX9_atBy_79 : decode cX9_atBy 79 = .ok (.ireturn, 1) := by decide +kernel
theorem dX9_at_0 : decode cX9_at 0 = .ok (.aload_n 0, 1) := by decide +kernel
theorem dX9_at_1 : decode cX9_at 1 = .ok (.invokevirtual 220, 3) := by decide +kernel
theorem dX9_at_4 : decode cX9_at 4 = .ok (.iload_n 1, 1) := by decide +kernel
theorem dX9_at_5 : decode cX9_at 5 = .ok (.invokestatic 164, 3) := by decide +kernel
theorem dX9_at_8 : decode cX9_at 8 = .ok (.ifCond .eq 33, 3) := by decide +kernel
theorem dX9_at_11 : decode cX9_at 11 = .ok (.aload_n 0, 1) := by decide +kernel
theorem dX9_at_12 : decode cX9_at 12 = .ok (.iload_n 2, 1) := by decide +kernel
theorem dX9_at_13 : decode cX9_at 13 = .ok (.invokevirtual 158, 3) := by decide +kernel
theorem dX9_at_16 : decode cX9_at 16 = .ok (.ifCond .eq 25, 3) := by decide +kernel
theorem dX9_at_19 : decode cX9_at 19 = .ok (.iload_n 3, 1) := by decide +kernel
theorem dX9_at_20 : decode cX9_at 20 = .ok (.i2l, 1) := by decide +kernel
theorem dX9_at_21 : decode cX9_at 21 = .ok (.lconst 0, 1) := by decide +kernel
theorem dX9_at_22 : decode cX9_at 22 = .ok (.ldc2_w 223, 3) := by decide +kernel
theorem dX9_at_25 : decode cX9_at 25 = .ok (.invokestatic 92, 3) := by decide +kernel
theorem dX9_at_28 : decode cX9_at 28 = .ok (.ifCond .eq 13, 3) := by decide +kernel
theorem dX9_at_31 : decode cX9_at 31 = .ok (.aload_n 0, 1) := by decide +kernel
theorem dX9_at_32 : decode cX9_at 32 = .ok (.iload_n 1, 1) := by decide +kernel
theorem dX9_at_33 : decode cX9_at 33 = .ok (.iload_n 2, 1) := by decide +kernel
theorem dX9_at_34 : decode cX9_at 34 = .ok (.iload_n 3, 1) := by decide +kernel
theorem dX9_at_35 : decode cX9_at 35 = .ok (.invokevirtual 225, 3) := by decide +kernel
theorem dX9_at_38 : decode cX9_at 38 = .ok (.goto 5, 3) := by decide +kernel
theorem dX9_at_41 : decode cX9_at 41 = .ok (.bipush (-2), 2) := by decide +kernel
theorem dX9_at_43 : decode cX9_at 43 = .ok (.ireturn, 1) := by decide +kernel
theorem dX9_showOf_0 : decode cX9_showOf 0 = .ok (.iconst 0, 1) := by decide +kernel
theorem dX9_showOf_1 : decode cX9_showOf 1 = .ok (.istore_n 3, 1) := by decide +kernel
theorem dX9_showOf_2 : decode cX9_showOf 2 = .ok (.iconst 0, 1) := by decide +kernel
theorem dX9_showOf_3 : decode cX9_showOf 3 = .ok (.istore 4, 2) := by decide +kernel
theorem dX9_showOf_5 : decode cX9_showOf 5 = .ok (.iload 4, 2) := by decide +kernel
theorem dX9_showOf_7 : decode cX9_showOf 7 = .ok (.aload_n 0, 1) := by decide +kernel
theorem dX9_showOf_8 : decode cX9_showOf 8 = .ok (.getfield 128, 3) := by decide +kernel
theorem dX9_showOf_11 : decode cX9_showOf 11 = .ok (.if_icmp .ge 33, 3) := by decide +kernel
theorem dX9_showOf_14 : decode cX9_showOf 14 = .ok (.iload_n 3, 1) := by decide +kernel
theorem dX9_showOf_15 : decode cX9_showOf 15 = .ok (.aload_n 0, 1) := by decide +kernel
theorem dX9_showOf_16 : decode cX9_showOf 16 = .ok (.getfield 71, 3) := by decide +kernel
theorem dX9_showOf_19 : decode cX9_showOf 19 = .ok (.bipush 10, 2) := by decide +kernel
theorem dX9_showOf_21 : decode cX9_showOf 21 = .ok (.iload_n 1, 1) := by decide +kernel
theorem dX9_showOf_22 : decode cX9_showOf 22 = .ok (.imul, 1) := by decide +kernel
theorem dX9_showOf_23 : decode cX9_showOf 23 = .ok (.iload 4, 2) := by decide +kernel
theorem dX9_showOf_25 : decode cX9_showOf 25 = .ok (.iadd, 1) := by decide +kernel
theorem dX9_showOf_26 : decode cX9_showOf 26 = .ok (.iaload, 1) := by decide +kernel
theorem dX9_showOf_27 : decode cX9_showOf 27 = .ok (.iconst (-1), 1) := by decide +kernel
theorem dX9_showOf_28 : decode cX9_showOf 28 = .ok (.if_icmp .ne 7, 3) := by decide +kernel
theorem dX9_showOf_31 : decode cX9_showOf 31 = .ok (.iconst 0, 1) := by decide +kernel
theorem dX9_showOf_32 : decode cX9_showOf 32 = .ok (.goto 4, 3) := by decide +kernel
theorem dX9_showOf_35 : decode cX9_showOf 35 = .ok (.iconst 1, 1) := by decide +kernel
theorem dX9_showOf_36 : decode cX9_showOf 36 = .ok (.iadd, 1) := by decide +kernel
theorem dX9_showOf_37 : decode cX9_showOf 37 = .ok (.istore_n 3, 1) := by decide +kernel
theorem dX9_showOf_38 : decode cX9_showOf 38 = .ok (.iinc 4 1, 3) := by decide +kernel
theorem dX9_showOf_41 : decode cX9_showOf 41 = .ok (.goto (-36), 3) := by decide +kernel
theorem dX9_showOf_44 : decode cX9_showOf 44 = .ok (.iload_n 2, 1) := by decide +kernel
theorem dX9_showOf_45 : decode cX9_showOf 45 = .ok (.iconst 1, 1) := by decide +kernel
theorem dX9_showOf_46 : decode cX9_showOf 46 = .ok (.if_icmp .ne 7, 3) := by decide +kernel
theorem dX9_showOf_49 : decode cX9_showOf 49 = .ok (.iload_n 3, 1) := by decide +kernel
theorem dX9_showOf_50 : decode cX9_showOf 50 = .ok (.goto 26, 3) := by decide +kernel
theorem dX9_showOf_53 : decode cX9_showOf 53 = .ok (.aload_n 0, 1) := by decide +kernel
theorem dX9_showOf_54 : decode cX9_showOf 54 = .ok (.aload_n 0, 1) := by decide +kernel
theorem dX9_showOf_55 : decode cX9_showOf 55 = .ok (.getfield 34, 3) := by decide +kernel
theorem dX9_showOf_58 : decode cX9_showOf 58 = .ok (.iload_n 1, 1) := by decide +kernel
theorem dX9_showOf_59 : decode cX9_showOf 59 = .ok (.iaload, 1) := by decide +kernel
theorem dX9_showOf_60 : decode cX9_showOf 60 = .ok (.invokevirtual 161, 3) := by decide +kernel
theorem dX9_showOf_63 : decode cX9_showOf 63 = .ok (.ifCond .eq 12, 3) := by decide +kernel
theorem dX9_showOf_66 : decode cX9_showOf 66 = .ok (.aload_n 0, 1) := by decide +kernel
theorem dX9_showOf_67 : decode cX9_showOf 67 = .ok (.getfield 34, 3) := by decide +kernel
theorem dX9_showOf_70 : decode cX9_showOf 70 = .ok (.iload_n 1, 1) := by decide +kernel
theorem dX9_showOf_71 : decode cX9_showOf 71 = .ok (.iaload, 1) := by decide +kernel
theorem dX9_showOf_72 : decode cX9_showOf 72 = .ok (.goto 4, 3) := by decide +kernel
theorem dX9_showOf_75 : decode cX9_showOf 75 = .ok (.iconst (-1), 1) := by decide +kernel
theorem dX9_showOf_76 : decode cX9_showOf 76 = .ok (.ireturn, 1) := by decide +kernel
theorem dX9_show_0 : decode cX9_show 0 = .ok (.aload_n 0, 1) := by decide +kernel
theorem dX9_show_1 : decode cX9_show 1 = .ok (.invokevirtual 220, 3) := by decide +kernel
theorem dX9_show_4 : decode cX9_show 4 = .ok (.iload_n 1, 1) := by decide +kernel
theorem dX9_show_5 : decode cX9_show 5 = .ok (.invokestatic 164, 3) := by decide +kernel
theorem dX9_show_8 : decode cX9_show 8 = .ok (.ifCond .eq 19, 3) := by decide +kernel
theorem dX9_show_11 : decode cX9_show 11 = .ok (.iload_n 2, 1) := by decide +kernel
theorem dX9_show_12 : decode cX9_show 12 = .ok (.invokestatic 228, 3) := by decide +kernel
theorem dX9_show_15 : decode cX9_show 15 = .ok (.ifCond .eq 12, 3) := by decide +kernel
theorem dX9_show_18 : decode cX9_show 18 = .ok (.aload_n 0, 1) := by decide +kernel
theorem dX9_show_19 : decode cX9_show 19 = .ok (.iload_n 1, 1) := by decide +kernel
theorem dX9_show_20 : decode cX9_show 20 = .ok (.iload_n 2, 1) := by decide +kernel
theorem dX9_show_21 : decode cX9_show 21 = .ok (.invokevirtual 231, 3) := by decide +kernel
theorem dX9_show_24 : decode cX9_show 24 = .ok (.goto 5, 3) := by decide +kernel
theorem dX9_show_27 : decode cX9_show 27 = .ok (.bipush (-2), 2) := by decide +kernel
theorem dX9_show_29 : decode cX9_show 29 = .ok (.ireturn, 1) := by decide +kernel
theorem dX9_ownedBy_0 : decode cX9_ownedBy 0 = .ok (.iconst 0, 1) := by decide +kernel
theorem dX9_ownedBy_1 : decode cX9_ownedBy 1 = .ok (.istore_n 2, 1) := by decide +kernel
theorem dX9_ownedBy_2 : decode cX9_ownedBy 2 = .ok (.iconst 0, 1) := by decide +kernel
theorem dX9_ownedBy_3 : decode cX9_ownedBy 3 = .ok (.istore_n 3, 1) := by decide +kernel
theorem dX9_ownedBy_4 : decode cX9_ownedBy 4 = .ok (.iload_n 3, 1) := by decide +kernel
theorem dX9_ownedBy_5 : decode cX9_ownedBy 5 = .ok (.aload_n 0, 1) := by decide +kernel
theorem dX9_ownedBy_6 : decode cX9_ownedBy 6 = .ok (.getfield 128, 3) := by decide +kernel
theorem dX9_ownedBy_9 : decode cX9_ownedBy 9 = .ok (.if_icmp .ge 36, 3) := by decide +kernel
theorem dX9_ownedBy_12 : decode cX9_ownedBy 12 = .ok (.iload_n 2, 1) := by decide +kernel
theorem dX9_ownedBy_13 : decode cX9_ownedBy 13 = .ok (.aload_n 0, 1) := by decide +kernel
theorem dX9_ownedBy_14 : decode cX9_ownedBy 14 = .ok (.getfield 28, 3) := by decide +kernel
theorem dX9_ownedBy_17 : decode cX9_ownedBy 17 = .ok (.iconst 3, 1) := by decide +kernel
theorem dX9_ownedBy_18 : decode cX9_ownedBy 18 = .ok (.iload_n 3, 1) := by decide +kernel
theorem dX9_ownedBy_19 : decode cX9_ownedBy 19 = .ok (.imul, 1) := by decide +kernel
theorem dX9_ownedBy_20 : decode cX9_ownedBy 20 = .ok (.iconst 2, 1) := by decide +kernel
theorem dX9_ownedBy_21 : decode cX9_ownedBy 21 = .ok (.iadd, 1) := by decide +kernel
theorem dX9_ownedBy_22 : decode cX9_ownedBy 22 = .ok (.iaload, 1) := by decide +kernel
theorem dX9_ownedBy_23 : decode cX9_ownedBy 23 = .ok (.iload_n 1, 1) := by decide +kernel
theorem dX9_ownedBy_24 : decode cX9_ownedBy 24 = .ok (.if_icmp .ne 12, 3) := by decide +kernel
theorem dX9_ownedBy_27 : decode cX9_ownedBy 27 = .ok (.aload_n 0, 1) := by decide +kernel
theorem dX9_ownedBy_28 : decode cX9_ownedBy 28 = .ok (.getfield 43, 3) := by decide +kernel
theorem dX9_ownedBy_31 : decode cX9_ownedBy 31 = .ok (.iload_n 3, 1) := by decide +kernel
theorem dX9_ownedBy_32 : decode cX9_ownedBy 32 = .ok (.iaload, 1) := by decide +kernel
theorem dX9_ownedBy_33 : decode cX9_ownedBy 33 = .ok (.goto 4, 3) := by decide +kernel
theorem dX9_ownedBy_36 : decode cX9_ownedBy 36 = .ok (.iconst 0, 1) := by decide +kernel
theorem dX9_ownedBy_37 : decode cX9_ownedBy 37 = .ok (.iadd, 1) := by decide +kernel
theorem dX9_ownedBy_38 : decode cX9_ownedBy 38 = .ok (.istore_n 2, 1) := by decide +kernel
theorem dX9_ownedBy_39 : decode cX9_ownedBy 39 = .ok (.iinc 3 1, 3) := by decide +kernel
theorem dX9_ownedBy_42 : decode cX9_ownedBy 42 = .ok (.goto (-38), 3) := by decide +kernel
theorem dX9_ownedBy_45 : decode cX9_ownedBy 45 = .ok (.iload_n 2, 1) := by decide +kernel
theorem dX9_ownedBy_46 : decode cX9_ownedBy 46 = .ok (.ireturn, 1) := by decide +kernel
theorem dX9_owned_0 : decode cX9_owned 0 = .ok (.aload_n 0, 1) := by decide +kernel
theorem dX9_owned_1 : decode cX9_owned 1 = .ok (.invokevirtual 220, 3) := by decide +kernel
theorem dX9_owned_4 : decode cX9_owned 4 = .ok (.iload_n 1, 1) := by decide +kernel
theorem dX9_owned_5 : decode cX9_owned 5 = .ok (.i2l, 1) := by decide +kernel
theorem dX9_owned_6 : decode cX9_owned 6 = .ok (.lconst 0, 1) := by decide +kernel
theorem dX9_owned_7 : decode cX9_owned 7 = .ok (.ldc2_w 234, 3) := by decide +kernel
theorem dX9_owned_10 : decode cX9_owned 10 = .ok (.invokestatic 92, 3) := by decide +kernel
theorem dX9_owned_13 : decode cX9_owned 13 = .ok (.ifCond .eq 11, 3) := by decide +kernel
theorem dX9_owned_16 : decode cX9_owned 16 = .ok (.aload_n 0, 1) := by decide +kernel
theorem dX9_owned_17 : decode cX9_owned 17 = .ok (.iload_n 1, 1) := by decide +kernel
theorem dX9_owned_18 : decode cX9_owned 18 = .ok (.invokevirtual 236, 3) := by decide +kernel
theorem dX9_owned_21 : decode cX9_owned 21 = .ok (.goto 5, 3) := by decide +kernel
theorem dX9_owned_24 : decode cX9_owned 24 = .ok (.bipush (-2), 2) := by decide +kernel
theorem dX9_owned_26 : decode cX9_owned 26 = .ok (.ireturn, 1) := by decide +kernel
theorem dX9_championNow_0 : decode cX9_championNow 0 = .ok (.iconst 0, 1) := by decide +kernel
theorem dX9_championNow_1 : decode cX9_championNow 1 = .ok (.istore_n 1, 1) := by decide +kernel
theorem dX9_championNow_2 : decode cX9_championNow 2 = .ok (.iconst 1, 1) := by decide +kernel
theorem dX9_championNow_3 : decode cX9_championNow 3 = .ok (.istore_n 2, 1) := by decide +kernel
theorem dX9_championNow_4 : decode cX9_championNow 4 = .ok (.iload_n 2, 1) := by decide +kernel
theorem dX9_championNow_5 : decode cX9_championNow 5 = .ok (.bipush 6, 2) := by decide +kernel
theorem dX9_championNow_7 : decode cX9_championNow 7 = .ok (.if_icmp .ge 28, 3) := by decide +kernel
theorem dX9_championNow_10 : decode cX9_championNow 10 = .ok (.aload_n 0, 1) := by decide +kernel
theorem dX9_championNow_11 : decode cX9_championNow 11 = .ok (.iload_n 2, 1) := by decide +kernel
theorem dX9_championNow_12 : decode cX9_championNow 12 = .ok (.invokevirtual 236, 3) := by decide +kernel
theorem dX9_championNow_15 : decode cX9_championNow 15 = .ok (.aload_n 0, 1) := by decide +kernel
theorem dX9_championNow_16 : decode cX9_championNow 16 = .ok (.iload_n 1, 1) := by decide +kernel
theorem dX9_championNow_17 : decode cX9_championNow 17 = .ok (.invokevirtual 236, 3) := by decide +kernel
theorem dX9_championNow_20 : decode cX9_championNow 20 = .ok (.if_icmp .le 7, 3) := by decide +kernel
theorem dX9_championNow_23 : decode cX9_championNow 23 = .ok (.iload_n 2, 1) := by decide +kernel
theorem dX9_championNow_24 : decode cX9_championNow 24 = .ok (.goto 4, 3) := by decide +kernel
theorem dX9_championNow_27 : decode cX9_championNow 27 = .ok (.iload_n 1, 1) := by decide +kernel
theorem dX9_championNow_28 : decode cX9_championNow 28 = .ok (.istore_n 1, 1) := by decide +kernel
theorem dX9_championNow_29 : decode cX9_championNow 29 = .ok (.iinc 2 1, 3) := by decide +kernel
theorem dX9_championNow_32 : decode cX9_championNow 32 = .ok (.goto (-28), 3) := by decide +kernel
theorem dX9_championNow_35 : decode cX9_championNow 35 = .ok (.iload_n 1, 1) := by decide +kernel
theorem dX9_championNow_36 : decode cX9_championNow 36 = .ok (.ireturn, 1) := by decide +kernel
theorem dX9_champion_0 : decode cX9_champion 0 = .ok (.aload_n 0, 1) := by decide +kernel
theorem dX9_champion_1 : decode cX9_champion 1 = .ok (.invokevirtual 220, 3) := by decide +kernel
theorem dX9_champion_4 : decode cX9_champion 4 = .ok (.aload_n 0, 1) := by decide +kernel
theorem dX9_champion_5 : decode cX9_champion 5 = .ok (.invokevirtual 239, 3) := by decide +kernel
theorem dX9_champion_8 : decode cX9_champion 8 = .ok (.ireturn, 1) := by decide +kernel
theorem dX9_bestNow_0 : decode cX9_bestNow 0 = .ok (.iconst (-1), 1) := by decide +kernel
theorem dX9_bestNow_1 : decode cX9_bestNow 1 = .ok (.istore_n 1, 1) := by decide +kernel
theorem dX9_bestNow_2 : decode cX9_bestNow 2 = .ok (.iconst 0, 1) := by decide +kernel
theorem dX9_bestNow_3 : decode cX9_bestNow 3 = .ok (.istore_n 2, 1) := by decide +kernel
theorem dX9_bestNow_4 : decode cX9_bestNow 4 = .ok (.iload_n 2, 1) := by decide +kernel
theorem dX9_bestNow_5 : decode cX9_bestNow 5 = .ok (.aload_n 0, 1) := by decide +kernel
theorem dX9_bestNow_6 : decode cX9_bestNow 6 = .ok (.getfield 128, 3) := by decide +kernel
theorem dX9_bestNow_9 : decode cX9_bestNow 9 = .ok (.if_icmp .ge 35, 3) := by decide +kernel
theorem dX9_bestNow_12 : decode cX9_bestNow 12 = .ok (.iload_n 1, 1) := by decide +kernel
theorem dX9_bestNow_13 : decode cX9_bestNow 13 = .ok (.iconst (-1), 1) := by decide +kernel
theorem dX9_bestNow_14 : decode cX9_bestNow 14 = .ok (.if_icmp .eq 18, 3) := by decide +kernel
theorem dX9_bestNow_17 : decode cX9_bestNow 17 = .ok (.aload_n 0, 1) := by decide +kernel
theorem dX9_bestNow_18 : decode cX9_bestNow 18 = .ok (.getfield 43, 3) := by decide +kernel
theorem dX9_bestNow_21 : decode cX9_bestNow 21 = .ok (.iload_n 2, 1) := by decide +kernel
theorem dX9_bestNow_22 : decode cX9_bestNow 22 = .ok (.iaload, 1) := by decide +kernel
theorem dX9_bestNow_23 : decode cX9_bestNow 23 = .ok (.aload_n 0, 1) := by decide +kernel
theorem dX9_bestNow_24 : decode cX9_bestNow 24 = .ok (.getfield 43, 3) := by decide +kernel
theorem dX9_bestNow_27 : decode cX9_bestNow 27 = .ok (.iload_n 1, 1) := by decide +kernel
theorem dX9_bestNow_28 : decode cX9_bestNow 28 = .ok (.iaload, 1) := by decide +kernel
theorem dX9_bestNow_29 : decode cX9_bestNow 29 = .ok (.if_icmp .le 7, 3) := by decide +kernel
theorem dX9_bestNow_32 : decode cX9_bestNow 32 = .ok (.iload_n 2, 1) := by decide +kernel
theorem dX9_bestNow_33 : decode cX9_bestNow 33 = .ok (.goto 4, 3) := by decide +kernel
theorem dX9_bestNow_36 : decode cX9_bestNow 36 = .ok (.iload_n 1, 1) := by decide +kernel
theorem dX9_bestNow_37 : decode cX9_bestNow 37 = .ok (.istore_n 1, 1) := by decide +kernel
theorem dX9_bestNow_38 : decode cX9_bestNow 38 = .ok (.iinc 2 1, 3) := by decide +kernel
theorem dX9_bestNow_41 : decode cX9_bestNow 41 = .ok (.goto (-37), 3) := by decide +kernel
theorem dX9_bestNow_44 : decode cX9_bestNow 44 = .ok (.iload_n 1, 1) := by decide +kernel
theorem dX9_bestNow_45 : decode cX9_bestNow 45 = .ok (.ireturn, 1) := by decide +kernel
theorem dX9_best_0 : decode cX9_best 0 = .ok (.aload_n 0, 1) := by decide +kernel
theorem dX9_best_1 : decode cX9_best 1 = .ok (.invokevirtual 220, 3) := by decide +kernel
theorem dX9_best_4 : decode cX9_best 4 = .ok (.aload_n 0, 1) := by decide +kernel
theorem dX9_best_5 : decode cX9_best 5 = .ok (.invokevirtual 242, 3) := by decide +kernel
theorem dX9_best_8 : decode cX9_best 8 = .ok (.ireturn, 1) := by decide +kernel
theorem dX9_leftBy_0 : decode cX9_leftBy 0 = .ok (.iconst 0, 1) := by decide +kernel
theorem dX9_leftBy_1 : decode cX9_leftBy 1 = .ok (.istore_n 2, 1) := by decide +kernel
theorem dX9_leftBy_2 : decode cX9_leftBy 2 = .ok (.iconst 0, 1) := by decide +kernel
theorem dX9_leftBy_3 : decode cX9_leftBy 3 = .ok (.istore_n 3, 1) := by decide +kernel
theorem dX9_leftBy_4 : decode cX9_leftBy 4 = .ok (.iload_n 3, 1) := by decide +kernel
theorem dX9_leftBy_5 : decode cX9_leftBy 5 = .ok (.aload_n 0, 1) := by decide +kernel
theorem dX9_leftBy_6 : decode cX9_leftBy 6 = .ok (.getfield 128, 3) := by decide +kernel
theorem dX9_leftBy_9 : decode cX9_leftBy 9 = .ok (.if_icmp .ge 55, 3) := by decide +kernel
theorem dX9_leftBy_12 : decode cX9_leftBy 12 = .ok (.iload_n 1, 1) := by decide +kernel
theorem dX9_leftBy_13 : decode cX9_leftBy 13 = .ok (.ifCond .ne 12, 3) := by decide +kernel
theorem dX9_leftBy_16 : decode cX9_leftBy 16 = .ok (.aload_n 0, 1) := by decide +kernel
theorem dX9_leftBy_17 : decode cX9_leftBy 17 = .ok (.getfield 49, 3) := by decide +kernel
theorem dX9_leftBy_20 : decode cX9_leftBy 20 = .ok (.iload_n 3, 1) := by decide +kernel
theorem dX9_leftBy_21 : decode cX9_leftBy 21 = .ok (.baload, 1) := by decide +kernel
theorem dX9_leftBy_22 : decode cX9_leftBy 22 = .ok (.goto 19, 3) := by decide +kernel
theorem dX9_leftBy_25 : decode cX9_leftBy 25 = .ok (.aload_n 0, 1) := by decide +kernel
theorem dX9_leftBy_26 : decode cX9_leftBy 26 = .ok (.getfield 194, 3) := by decide +kernel
theorem dX9_leftBy_29 : decode cX9_leftBy 29 = .ok (.iload_n 3, 1) := by decide +kernel
theorem dX9_leftBy_30 : decode cX9_leftBy 30 = .ok (.invokestatic 187, 3) := by decide +kernel
theorem dX9_leftBy_33 : decode cX9_leftBy 33 = .ok (.ifCond .ne 7, 3) := by decide +kernel
theorem dX9_leftBy_36 : decode cX9_leftBy 36 = .ok (.iconst 1, 1) := by decide +kernel
theorem dX9_leftBy_37 : decode cX9_leftBy 37 = .ok (.goto 4, 3) := by decide +kernel
theorem dX9_leftBy_40 : decode cX9_leftBy 40 = .ok (.iconst 0, 1) := by decide +kernel
theorem dX9_leftBy_41 : decode cX9_leftBy 41 = .ok (.istore 4, 2) := by decide +kernel
theorem dX9_leftBy_43 : decode cX9_leftBy 43 = .ok (.iload_n 2, 1) := by decide +kernel
theorem dX9_leftBy_44 : decode cX9_leftBy 44 = .ok (.iload 4, 2) := by decide +kernel
theorem dX9_leftBy_46 : decode cX9_leftBy 46 = .ok (.ifCond .eq 9, 3) := by decide +kernel
theorem dX9_leftBy_49 : decode cX9_leftBy 49 = .ok (.iconst 1, 1) := by decide +kernel
theorem dX9_leftBy_50 : decode cX9_leftBy 50 = .ok (.iload_n 3, 1) := by decide +kernel
theorem dX9_leftBy_51 : decode cX9_leftBy 51 = .ok (.ishl, 1) := by decide +kernel
theorem dX9_leftBy_52 : decode cX9_leftBy 52 = .ok (.goto 4, 3) := by decide +kernel
theorem dX9_leftBy_55 : decode cX9_leftBy 55 = .ok (.iconst 0, 1) := by decide +kernel
theorem dX9_leftBy_56 : decode cX9_leftBy 56 = .ok (.ior, 1) := by decide +kernel
theorem dX9_leftBy_57 : decode cX9_leftBy 57 = .ok (.istore_n 2, 1) := by decide +kernel
theorem dX9_leftBy_58 : decode cX9_leftBy 58 = .ok (.iinc 3 1, 3) := by decide +kernel
theorem dX9_leftBy_61 : decode cX9_leftBy 61 = .ok (.goto (-57), 3) := by decide +kernel
theorem dX9_leftBy_64 : decode cX9_leftBy 64 = .ok (.iload_n 2, 1) := by decide +kernel
theorem dX9_leftBy_65 : decode cX9_leftBy 65 = .ok (.ireturn, 1) := by decide +kernel
theorem dX9_left_0 : decode cX9_left 0 = .ok (.aload_n 0, 1) := by decide +kernel
theorem dX9_left_1 : decode cX9_left 1 = .ok (.invokevirtual 220, 3) := by decide +kernel
theorem dX9_left_4 : decode cX9_left 4 = .ok (.iload_n 1, 1) := by decide +kernel
theorem dX9_left_5 : decode cX9_left 5 = .ok (.invokestatic 228, 3) := by decide +kernel
theorem dX9_left_8 : decode cX9_left 8 = .ok (.ifCond .eq 11, 3) := by decide +kernel
theorem dX9_left_11 : decode cX9_left 11 = .ok (.aload_n 0, 1) := by decide +kernel
theorem dX9_left_12 : decode cX9_left 12 = .ok (.iload_n 1, 1) := by decide +kernel
theorem dX9_left_13 : decode cX9_left 13 = .ok (.invokevirtual 245, 3) := by decide +kernel
theorem dX9_left_16 : decode cX9_left 16 = .ok (.goto 5, 3) := by decide +kernel
theorem dX9_left_19 : decode cX9_left 19 = .ok (.bipush (-2), 2) := by decide +kernel
theorem dX9_left_21 : decode cX9_left 21 = .ok (.ireturn, 1) := by decide +kernel
theorem dX9_brushOf_0 : decode cX9_brushOf 0 = .ok (.iconst (-1), 1) := by decide +kernel
theorem dX9_brushOf_1 : decode cX9_brushOf 1 = .ok (.istore_n 3, 1) := by decide +kernel
theorem dX9_brushOf_2 : decode cX9_brushOf 2 = .ok (.iconst (-1), 1) := by decide +kernel
theorem dX9_brushOf_3 : decode cX9_brushOf 3 = .ok (.istore 4, 2) := by decide +kernel
theorem dX9_brushOf_5 : decode cX9_brushOf 5 = .ok (.aload_n 0, 1) := by decide +kernel
theorem dX9_brushOf_6 : decode cX9_brushOf 6 = .ok (.iload_n 1, 1) := by decide +kernel
theorem dX9_brushOf_7 : decode cX9_brushOf 7 = .ok (.putfield 204, 3) := by decide +kernel
theorem dX9_brushOf_10 : decode cX9_brushOf 10 = .ok (.iconst 0, 1) := by decide +kernel
theorem dX9_brushOf_11 : decode cX9_brushOf 11 = .ok (.istore 5, 2) := by decide +kernel
theorem dX9_brushOf_13 : decode cX9_brushOf 13 = .ok (.iload 5, 2) := by decide +kernel
theorem dX9_brushOf_15 : decode cX9_brushOf 15 = .ok (.bipush 12, 2) := by decide +kernel
theorem dX9_brushOf_17 : decode cX9_brushOf 17 = .ok (.if_icmp .ge 50, 3) := by decide +kernel
theorem dX9_brushOf_20 : decode cX9_brushOf 20 = .ok (.aload_n 0, 1) := by decide +kernel
theorem dX9_brushOf_21 : decode cX9_brushOf 21 = .ok (.iload 5, 2) := by decide +kernel
theorem dX9_brushOf_23 : decode cX9_brushOf 23 = .ok (.putfield 83, 3) := by decide +kernel
theorem dX9_brushOf_26 : decode cX9_brushOf 26 = .ok (.aload_n 0, 1) := by decide +kernel
theorem dX9_brushOf_27 : decode cX9_brushOf 27 = .ok (.invokevirtual 217, 3) := by decide +kernel
theorem dX9_brushOf_30 : decode cX9_brushOf 30 = .ok (.aload_n 0, 1) := by decide +kernel
theorem dX9_brushOf_31 : decode cX9_brushOf 31 = .ok (.getfield 43, 3) := by decide +kernel
theorem dX9_brushOf_34 : decode cX9_brushOf 34 = .ok (.iload_n 1, 1) := by decide +kernel
theorem dX9_brushOf_35 : decode cX9_brushOf 35 = .ok (.iaload, 1) := by decide +kernel
theorem dX9_brushOf_36 : decode cX9_brushOf 36 = .ok (.iload 4, 2) := by decide +kernel
theorem dX9_brushOf_38 : decode cX9_brushOf 38 = .ok (.if_icmp .le 8, 3) := by decide +kernel
theorem dX9_brushOf_41 : decode cX9_brushOf 41 = .ok (.iload 5, 2) := by decide +kernel
theorem dX9_brushOf_43 : decode cX9_brushOf 43 = .ok (.goto 4, 3) := by decide +kernel
theorem dX9_brushOf_46 : decode cX9_brushOf 46 = .ok (.iload_n 3, 1) := by decide +kernel
theorem dX9_brushOf_47 : decode cX9_brushOf 47 = .ok (.istore_n 3, 1) := by decide +kernel
theorem dX9_brushOf_48 : decode cX9_brushOf 48 = .ok (.aload_n 0, 1) := by decide +kernel
theorem dX9_brushOf_49 : decode cX9_brushOf 49 = .ok (.getfield 43, 3) := by decide +kernel
theorem dX9_brushOf_52 : decode cX9_brushOf 52 = .ok (.iload_n 1, 1) := by decide +kernel
theorem dX9_brushOf_53 : decode cX9_brushOf 53 = .ok (.iaload, 1) := by decide +kernel
theorem dX9_brushOf_54 : decode cX9_brushOf 54 = .ok (.iload 4, 2) := by decide +kernel
theorem dX9_brushOf_56 : decode cX9_brushOf 56 = .ok (.invokestatic 181, 3) := by decide +kernel
theorem dX9_brushOf_59 : decode cX9_brushOf 59 = .ok (.istore 4, 2) := by decide +kernel
theorem dX9_brushOf_61 : decode cX9_brushOf 61 = .ok (.iinc 5 1, 3) := by decide +kernel
theorem dX9_brushOf_64 : decode cX9_brushOf 64 = .ok (.goto (-51), 3) := by decide +kernel
theorem dX9_brushOf_67 : decode cX9_brushOf 67 = .ok (.aload_n 0, 1) := by decide +kernel
theorem dX9_brushOf_68 : decode cX9_brushOf 68 = .ok (.iconst (-1), 1) := by decide +kernel
theorem dX9_brushOf_69 : decode cX9_brushOf 69 = .ok (.putfield 83, 3) := by decide +kernel
theorem dX9_brushOf_72 : decode cX9_brushOf 72 = .ok (.iload_n 2, 1) := by decide +kernel
theorem dX9_brushOf_73 : decode cX9_brushOf 73 = .ok (.ifCond .ne 7, 3) := by decide +kernel
theorem dX9_brushOf_76 : decode cX9_brushOf 76 = .ok (.iload_n 3, 1) := by decide +kernel
theorem dX9_brushOf_77 : decode cX9_brushOf 77 = .ok (.goto 5, 3) := by decide +kernel
theorem dX9_brushOf_80 : decode cX9_brushOf 80 = .ok (.iload 4, 2) := by decide +kernel
theorem dX9_brushOf_82 : decode cX9_brushOf 82 = .ok (.ireturn, 1) := by decide +kernel
theorem dX9_brush_0 : decode cX9_brush 0 = .ok (.aload_n 0, 1) := by decide +kernel
theorem dX9_brush_1 : decode cX9_brush 1 = .ok (.invokevirtual 220, 3) := by decide +kernel
theorem dX9_brush_4 : decode cX9_brush 4 = .ok (.aload_n 0, 1) := by decide +kernel
theorem dX9_brush_5 : decode cX9_brush 5 = .ok (.iload_n 1, 1) := by decide +kernel
theorem dX9_brush_6 : decode cX9_brush 6 = .ok (.invokevirtual 158, 3) := by decide +kernel
theorem dX9_brush_9 : decode cX9_brush 9 = .ok (.ifCond .eq 19, 3) := by decide +kernel
theorem dX9_brush_12 : decode cX9_brush 12 = .ok (.iload_n 2, 1) := by decide +kernel
theorem dX9_brush_13 : decode cX9_brush 13 = .ok (.invokestatic 228, 3) := by decide +kernel
theorem dX9_brush_16 : decode cX9_brush 16 = .ok (.ifCond .eq 12, 3) := by decide +kernel
theorem dX9_brush_19 : decode cX9_brush 19 = .ok (.aload_n 0, 1) := by decide +kernel
theorem dX9_brush_20 : decode cX9_brush 20 = .ok (.iload_n 1, 1) := by decide +kernel
theorem dX9_brush_21 : decode cX9_brush 21 = .ok (.iload_n 2, 1) := by decide +kernel
theorem dX9_brush_22 : decode cX9_brush 22 = .ok (.invokevirtual 248, 3) := by decide +kernel
theorem dX9_brush_25 : decode cX9_brush 25 = .ok (.goto 5, 3) := by decide +kernel
theorem dX9_brush_28 : decode cX9_brush 28 = .ok (.bipush (-2), 2) := by decide +kernel
theorem dX9_brush_30 : decode cX9_brush 30 = .ok (.ireturn, 1) := by decide +kernel
theorem dX9_rivalOf_0 : decode cX9_rivalOf 0 = .ok (.iconst (-1), 1) := by decide +kernel
theorem dX9_rivalOf_1 : decode cX9_rivalOf 1 = .ok (.istore_n 3, 1) := by decide +kernel
theorem dX9_rivalOf_2 : decode cX9_rivalOf 2 = .ok (.iconst (-1), 1) := by decide +kernel
theorem dX9_rivalOf_3 : decode cX9_rivalOf 3 = .ok (.istore 4, 2) := by decide +kernel
theorem dX9_rivalOf_5 : decode cX9_rivalOf 5 = .ok (.iconst 0, 1) := by decide +kernel
theorem dX9_rivalOf_6 : decode cX9_rivalOf 6 = .ok (.istore 5, 2) := by decide +kernel
theorem dX9_rivalOf_8 : decode cX9_rivalOf 8 = .ok (.iload 5, 2) := by decide +kernel
theorem dX9_rivalOf_10 : decode cX9_rivalOf 10 = .ok (.aload_n 0, 1) := by decide +kernel
theorem dX9_rivalOf_11 : decode cX9_rivalOf 11 = .ok (.getfield 128, 3) := by decide +kernel
theorem dX9_rivalOf_14 : decode cX9_rivalOf 14 = .ok (.if_icmp .ge 56, 3) := by decide +kernel
