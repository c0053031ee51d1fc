theorem dX7_begins_21 : decode cX7_begins 21 = .ok (.aload_n 0, 1) := by decide +kernel
theorem dX7_begins_22 : decode cX7_begins 22 = .ok (.iload_n 1, 1) := by decide +kernel
theorem dX7_begins_23 : decode cX7_begins 23 = .ok (.iconst 0, 1) := by decide +kernel
theorem dX7_begins_24 : decode cX7_begins 24 = .ok (.lconst 1, 1) := by decide +kernel
theorem dX7_begins_25 : decode cX7_begins 25 = .ok (.invokevirtual 66, 3) := by decide +kernel
theorem dX7_begins_28 : decode cX7_begins 28 = .ok (.aload_n 0, 1) := by decide +kernel
theorem dX7_begins_29 : decode cX7_begins 29 = .ok (.iload_n 1, 1) := by decide +kernel
theorem dX7_begins_30 : decode cX7_begins 30 = .ok (.iconst 2, 1) := by decide +kernel
theorem dX7_begins_31 : decode cX7_begins 31 = .ok (.iload_n 2, 1) := by decide +kernel
theorem dX7_begins_32 : decode cX7_begins 32 = .ok (.i2l, 1) := by decide +kernel
theorem dX7_begins_33 : decode cX7_begins 33 = .ok (.invokevirtual 66, 3) := by decide +kernel
theorem dX7_begins_36 : decode cX7_begins 36 = .ok (.aload_n 0, 1) := by decide +kernel
theorem dX7_begins_37 : decode cX7_begins 37 = .ok (.iload_n 1, 1) := by decide +kernel
theorem dX7_begins_38 : decode cX7_begins 38 = .ok (.iconst 4, 1) := by decide +kernel
theorem dX7_begins_39 : decode cX7_begins 39 = .ok (.ldc2_w 74, 3) := by decide +kernel
theorem dX7_begins_42 : decode cX7_begins 42 = .ok (.invokevirtual 66, 3) := by decide +kernel
theorem dX7_begins_45 : decode cX7_begins 45 = .ok (.aload_n 0, 1) := by decide +kernel
theorem dX7_begins_46 : decode cX7_begins 46 = .ok (.iload_n 1, 1) := by decide +kernel
theorem dX7_begins_47 : decode cX7_begins 47 = .ok (.iconst 5, 1) := by decide +kernel
theorem dX7_begins_48 : decode cX7_begins 48 = .ok (.ldc2_w 76, 3) := by decide +kernel
theorem dX7_begins_51 : decode cX7_begins 51 = .ok (.invokevirtual 66, 3) := by decide +kernel
theorem dX7_begins_54 : decode cX7_begins 54 = .ok (.aload_n 0, 1) := by decide +kernel
theorem dX7_begins_55 : decode cX7_begins 55 = .ok (.iload_n 1, 1) := by decide +kernel
theorem dX7_begins_56 : decode cX7_begins 56 = .ok (.bipush 7, 2) := by decide +kernel
theorem dX7_begins_58 : decode cX7_begins 58 = .ok (.lconst 1, 1) := by decide +kernel
theorem dX7_begins_59 : decode cX7_begins 59 = .ok (.invokevirtual 66, 3) := by decide +kernel
theorem dX7_begins_62 : decode cX7_begins 62 = .ok (.aload_n 0, 1) := by decide +kernel
theorem dX7_begins_63 : decode cX7_begins 63 = .ok (.iload_n 1, 1) := by decide +kernel
theorem dX7_begins_64 : decode cX7_begins 64 = .ok (.bipush 14, 2) := by decide +kernel
theorem dX7_begins_66 : decode cX7_begins 66 = .ok (.ldc2_w 38, 3) := by decide +kernel
theorem dX7_begins_69 : decode cX7_begins 69 = .ok (.invokevirtual 66, 3) := by decide +kernel
theorem dX7_begins_72 : decode cX7_begins 72 = .ok (.aload_n 0, 1) := by decide +kernel
theorem dX7_begins_73 : decode cX7_begins 73 = .ok (.iload_n 1, 1) := by decide +kernel
theorem dX7_begins_74 : decode cX7_begins 74 = .ok (.iconst 1, 1) := by decide +kernel
theorem dX7_begins_75 : decode cX7_begins 75 = .ok (.iload_n 1, 1) := by decide +kernel
theorem dX7_begins_76 : decode cX7_begins 76 = .ok (.i2l, 1) := by decide +kernel
theorem dX7_begins_77 : decode cX7_begins 77 = .ok (.invokevirtual 66, 3) := by decide +kernel
theorem dX7_begins_80 : decode cX7_begins 80 = .ok (.return_, 1) := by decide +kernel
theorem dX7_comes_0 : decode cX7_comes 0 = .ok (.iload_n 1, 1) := by decide +kernel
theorem dX7_comes_1 : decode cX7_comes 1 = .ok (.i2l, 1) := by decide +kernel
theorem dX7_comes_2 : decode cX7_comes 2 = .ok (.lconst 1, 1) := by decide +kernel
theorem dX7_comes_3 : decode cX7_comes 3 = .ok (.ldc2_w 44, 3) := by decide +kernel
theorem dX7_comes_6 : decode cX7_comes 6 = .ok (.invokestatic 46, 3) := by decide +kernel
theorem dX7_comes_9 : decode cX7_comes 9 = .ok (.ifCond .eq 34, 3) := by decide +kernel
theorem dX7_comes_12 : decode cX7_comes 12 = .ok (.aload_n 0, 1) := by decide +kernel
theorem dX7_comes_13 : decode cX7_comes 13 = .ok (.iload_n 2, 1) := by decide +kernel
theorem dX7_comes_14 : decode cX7_comes 14 = .ok (.invokevirtual 78, 3) := by decide +kernel
theorem dX7_comes_17 : decode cX7_comes 17 = .ok (.ifCond .eq 26, 3) := by decide +kernel
theorem dX7_comes_20 : decode cX7_comes 20 = .ok (.iload_n 3, 1) := by decide +kernel
theorem dX7_comes_21 : decode cX7_comes 21 = .ok (.i2l, 1) := by decide +kernel
theorem dX7_comes_22 : decode cX7_comes 22 = .ok (.lconst 1, 1) := by decide +kernel
theorem dX7_comes_23 : decode cX7_comes 23 = .ok (.ldc2_w 81, 3) := by decide +kernel
theorem dX7_comes_26 : decode cX7_comes 26 = .ok (.invokestatic 46, 3) := by decide +kernel
theorem dX7_comes_29 : decode cX7_comes 29 = .ok (.ifCond .eq 14, 3) := by decide +kernel
theorem dX7_comes_32 : decode cX7_comes 32 = .ok (.iload 4, 2) := by decide +kernel
theorem dX7_comes_34 : decode cX7_comes 34 = .ok (.i2l, 1) := by decide +kernel
theorem dX7_comes_35 : decode cX7_comes 35 = .ok (.lconst 0, 1) := by decide +kernel
theorem dX7_comes_36 : decode cX7_comes 36 = .ok (.lconst 1, 1) := by decide +kernel
theorem dX7_comes_37 : decode cX7_comes 37 = .ok (.invokestatic 46, 3) := by decide +kernel
theorem dX7_comes_40 : decode cX7_comes 40 = .ok (.ifCond .ne 10, 3) := by decide +kernel
theorem dX7_comes_43 : decode cX7_comes 43 = .ok (.aload_n 0, 1) := by decide +kernel
theorem dX7_comes_44 : decode cX7_comes 44 = .ok (.bipush (-2), 2) := by decide +kernel
theorem dX7_comes_46 : decode cX7_comes 46 = .ok (.invokevirtual 83, 3) := by decide +kernel
theorem dX7_comes_49 : decode cX7_comes 49 = .ok (.ireturn, 1) := by decide +kernel
theorem dX7_comes_50 : decode cX7_comes 50 = .ok (.aload_n 0, 1) := by decide +kernel
theorem dX7_comes_51 : decode cX7_comes 51 = .ok (.iload_n 1, 1) := by decide +kernel
theorem dX7_comes_52 : decode cX7_comes 52 = .ok (.invokevirtual 54, 3) := by decide +kernel
theorem dX7_comes_55 : decode cX7_comes 55 = .ok (.ifCond .eq 10, 3) := by decide +kernel
theorem dX7_comes_58 : decode cX7_comes 58 = .ok (.aload_n 0, 1) := by decide +kernel
theorem dX7_comes_59 : decode cX7_comes 59 = .ok (.bipush (-3), 2) := by decide +kernel
theorem dX7_comes_61 : decode cX7_comes 61 = .ok (.invokevirtual 83, 3) := by decide +kernel
theorem dX7_comes_64 : decode cX7_comes 64 = .ok (.ireturn, 1) := by decide +kernel
theorem dX7_comes_65 : decode cX7_comes 65 = .ok (.aload_n 0, 1) := by decide +kernel
theorem dX7_comes_66 : decode cX7_comes 66 = .ok (.invokevirtual 86, 3) := by decide +kernel
theorem dX7_comes_69 : decode cX7_comes 69 = .ok (.aload_n 0, 1) := by decide +kernel
theorem dX7_comes_70 : decode cX7_comes 70 = .ok (.iload_n 1, 1) := by decide +kernel
theorem dX7_comes_71 : decode cX7_comes 71 = .ok (.iload_n 3, 1) := by decide +kernel
theorem dX7_comes_72 : decode cX7_comes 72 = .ok (.invokevirtual 89, 3) := by decide +kernel
theorem dX7_comes_75 : decode cX7_comes 75 = .ok (.aload_n 0, 1) := by decide +kernel
theorem dX7_comes_76 : decode cX7_comes 76 = .ok (.iload_n 1, 1) := by decide +kernel
theorem dX7_comes_77 : decode cX7_comes 77 = .ok (.iload_n 2, 1) := by decide +kernel
theorem dX7_comes_78 : decode cX7_comes 78 = .ok (.iload 4, 2) := by decide +kernel
theorem dX7_comes_80 : decode cX7_comes 80 = .ok (.iconst 1, 1) := by decide +kernel
theorem dX7_comes_81 : decode cX7_comes 81 = .ok (.if_icmp .ne 7, 3) := by decide +kernel
theorem dX7_comes_84 : decode cX7_comes 84 = .ok (.iconst 1, 1) := by decide +kernel
theorem dX7_comes_85 : decode cX7_comes 85 = .ok (.goto 4, 3) := by decide +kernel
theorem dX7_comes_88 : decode cX7_comes 88 = .ok (.iconst 0, 1) := by decide +kernel
theorem dX7_comes_89 : decode cX7_comes 89 = .ok (.invokevirtual 92, 3) := by decide +kernel
theorem dX7_comes_92 : decode cX7_comes 92 = .ok (.aload_n 0, 1) := by decide +kernel
theorem dX7_comes_93 : decode cX7_comes 93 = .ok (.iload_n 1, 1) := by decide +kernel
theorem dX7_comes_94 : decode cX7_comes 94 = .ok (.invokevirtual 96, 3) := by decide +kernel
theorem dX7_comes_97 : decode cX7_comes 97 = .ok (.ireturn, 1) := by decide +kernel
theorem dX7_moves_0 : decode cX7_moves 0 = .ok (.aload_n 0, 1) := by decide +kernel
theorem dX7_moves_1 : decode cX7_moves 1 = .ok (.iload_n 1, 1) := by decide +kernel
theorem dX7_moves_2 : decode cX7_moves 2 = .ok (.invokevirtual 54, 3) := by decide +kernel
theorem dX7_moves_5 : decode cX7_moves 5 = .ok (.ifCond .eq 39, 3) := by decide +kernel
theorem dX7_moves_8 : decode cX7_moves 8 = .ok (.aload_n 0, 1) := by decide +kernel
theorem dX7_moves_9 : decode cX7_moves 9 = .ok (.iload_n 2, 1) := by decide +kernel
theorem dX7_moves_10 : decode cX7_moves 10 = .ok (.invokevirtual 78, 3) := by decide +kernel
theorem dX7_moves_13 : decode cX7_moves 13 = .ok (.ifCond .eq 31, 3) := by decide +kernel
theorem dX7_moves_16 : decode cX7_moves 16 = .ok (.iload_n 2, 1) := by decide +kernel
theorem dX7_moves_17 : decode cX7_moves 17 = .ok (.iload_n 1, 1) := by decide +kernel
theorem dX7_moves_18 : decode cX7_moves 18 = .ok (.if_icmp .eq 26, 3) := by decide +kernel
theorem dX7_moves_21 : decode cX7_moves 21 = .ok (.iload_n 3, 1) := by decide +kernel
theorem dX7_moves_22 : decode cX7_moves 22 = .ok (.i2l, 1) := by decide +kernel
theorem dX7_moves_23 : decode cX7_moves 23 = .ok (.lconst 1, 1) := by decide +kernel
theorem dX7_moves_24 : decode cX7_moves 24 = .ok (.ldc2_w 81, 3) := by decide +kernel
theorem dX7_moves_27 : decode cX7_moves 27 = .ok (.invokestatic 46, 3) := by decide +kernel
theorem dX7_moves_30 : decode cX7_moves 30 = .ok (.ifCond .eq 14, 3) := by decide +kernel
theorem dX7_moves_33 : decode cX7_moves 33 = .ok (.iload 4, 2) := by decide +kernel
theorem dX7_moves_35 : decode cX7_moves 35 = .ok (.i2l, 1) := by decide +kernel
theorem dX7_moves_36 : decode cX7_moves 36 = .ok (.lconst 0, 1) := by decide +kernel
theorem dX7_moves_37 : decode cX7_moves 37 = .ok (.lconst 1, 1) := by decide +kernel
theorem dX7_moves_38 : decode cX7_moves 38 = .ok (.invokestatic 46, 3) := by decide +kernel
theorem dX7_moves_41 : decode cX7_moves 41 = .ok (.ifCond .ne 10, 3) := by decide +kernel
theorem dX7_moves_44 : decode cX7_moves 44 = .ok (.aload_n 0, 1) := by decide +kernel
theorem dX7_moves_45 : decode cX7_moves 45 = .ok (.bipush (-2), 2) := by decide +kernel
theorem dX7_moves_47 : decode cX7_moves 47 = .ok (.invokevirtual 83, 3) := by decide +kernel
theorem dX7_moves_50 : decode cX7_moves 50 = .ok (.ireturn, 1) := by decide +kernel
theorem dX7_moves_51 : decode cX7_moves 51 = .ok (.aload_n 0, 1) := by decide +kernel
theorem dX7_moves_52 : decode cX7_moves 52 = .ok (.invokevirtual 86, 3) := by decide +kernel
theorem dX7_moves_55 : decode cX7_moves 55 = .ok (.aload_n 0, 1) := by decide +kernel
theorem dX7_moves_56 : decode cX7_moves 56 = .ok (.iload_n 1, 1) := by decide +kernel
theorem dX7_moves_57 : decode cX7_moves 57 = .ok (.iconst 2, 1) := by decide +kernel
theorem dX7_moves_58 : decode cX7_moves 58 = .ok (.iload_n 3, 1) := by decide +kernel
theorem dX7_moves_59 : decode cX7_moves 59 = .ok (.i2l, 1) := by decide +kernel
theorem dX7_moves_60 : decode cX7_moves 60 = .ok (.invokevirtual 66, 3) := by decide +kernel
theorem dX7_moves_63 : decode cX7_moves 63 = .ok (.iload_n 2, 1) := by decide +kernel
theorem dX7_moves_64 : decode cX7_moves 64 = .ok (.ifCond .eq 22, 3) := by decide +kernel
theorem dX7_moves_67 : decode cX7_moves 67 = .ok (.aload_n 0, 1) := by decide +kernel
theorem dX7_moves_68 : decode cX7_moves 68 = .ok (.iload_n 2, 1) := by decide +kernel
theorem dX7_moves_69 : decode cX7_moves 69 = .ok (.iload_n 1, 1) := by decide +kernel
theorem dX7_moves_70 : decode cX7_moves 70 = .ok (.invokevirtual 99, 3) := by decide +kernel
theorem dX7_moves_73 : decode cX7_moves 73 = .ok (.ifCond .eq 13, 3) := by decide +kernel
theorem dX7_moves_76 : decode cX7_moves 76 = .ok (.aload_n 0, 1) := by decide +kernel
theorem dX7_moves_77 : decode cX7_moves 77 = .ok (.iload_n 2, 1) := by decide +kernel
theorem dX7_moves_78 : decode cX7_moves 78 = .ok (.aload_n 0, 1) := by decide +kernel
theorem dX7_moves_79 : decode cX7_moves 79 = .ok (.iload_n 1, 1) := by decide +kernel
theorem dX7_moves_80 : decode cX7_moves 80 = .ok (.invokevirtual 58, 3) := by decide +kernel
theorem dX7_moves_83 : decode cX7_moves 83 = .ok (.invokevirtual 70, 3) := by decide +kernel
theorem dX7_moves_86 : decode cX7_moves 86 = .ok (.aload_n 0, 1) := by decide +kernel
theorem dX7_moves_87 : decode cX7_moves 87 = .ok (.iload_n 1, 1) := by decide +kernel
theorem dX7_moves_88 : decode cX7_moves 88 = .ok (.iload_n 2, 1) := by decide +kernel
theorem dX7_moves_89 : decode cX7_moves 89 = .ok (.iload 4, 2) := by decide +kernel
theorem dX7_moves_91 : decode cX7_moves 91 = .ok (.iconst 1, 1) := by decide +kernel
theorem dX7_moves_92 : decode cX7_moves 92 = .ok (.if_icmp .ne 7, 3) := by decide +kernel
theorem dX7_moves_95 : decode cX7_moves 95 = .ok (.iconst 1, 1) := by decide +kernel
theorem dX7_moves_96 : decode cX7_moves 96 = .ok (.goto 4, 3) := by decide +kernel
theorem dX7_moves_99 : decode cX7_moves 99 = .ok (.iconst 0, 1) := by decide +kernel
theorem dX7_moves_100 : decode cX7_moves 100 = .ok (.invokevirtual 92, 3) := by decide +kernel
theorem dX7_moves_103 : decode cX7_moves 103 = .ok (.aload_n 0, 1) := by decide +kernel
theorem dX7_moves_104 : decode cX7_moves 104 = .ok (.iload_n 1, 1) := by decide +kernel
theorem dX7_moves_105 : decode cX7_moves 105 = .ok (.invokevirtual 96, 3) := by decide +kernel
theorem dX7_moves_108 : decode cX7_moves 108 = .ok (.ireturn, 1) := by decide +kernel
theorem dX7_isSetting_0 : decode cX7_isSetting 0 = .ok (.iload_n 0, 1) := by decide +kernel
theorem dX7_isSetting_1 : decode cX7_isSetting 1 = .ok (.ifCond .ne 15, 3) := by decide +kernel
theorem dX7_isSetting_4 : decode cX7_isSetting 4 = .ok (.iload_n 1, 1) := by decide +kernel
theorem dX7_isSetting_5 : decode cX7_isSetting 5 = .ok (.i2l, 1) := by decide +kernel
theorem dX7_isSetting_6 : decode cX7_isSetting 6 = .ok (.lconst 1, 1) := by decide +kernel
theorem dX7_isSetting_7 : decode cX7_isSetting 7 = .ok (.ldc2_w 81, 3) := by decide +kernel
theorem dX7_isSetting_10 : decode cX7_isSetting 10 = .ok (.invokestatic 46, 3) := by decide +kernel
theorem dX7_isSetting_13 : decode cX7_isSetting 13 = .ok (.goto 40, 3) := by decide +kernel
theorem dX7_isSetting_16 : decode cX7_isSetting 16 = .ok (.iload_n 0, 1) := by decide +kernel
theorem dX7_isSetting_17 : decode cX7_isSetting 17 = .ok (.iconst 1, 1) := by decide +kernel
theorem dX7_isSetting_18 : decode cX7_isSetting 18 = .ok (.if_icmp .ne 15, 3) := by decide +kernel
theorem dX7_isSetting_21 : decode cX7_isSetting 21 = .ok (.iload_n 1, 1) := by decide +kernel
theorem dX7_isSetting_22 : decode cX7_isSetting 22 = .ok (.i2l, 1) := by decide +kernel
theorem dX7_isSetting_23 : decode cX7_isSetting 23 = .ok (.lconst 0, 1) := by decide +kernel
theorem dX7_isSetting_24 : decode cX7_isSetting 24 = .ok (.ldc2_w 102, 3) := by decide +kernel
theorem dX7_isSetting_27 : decode cX7_isSetting 27 = .ok (.invokestatic 46, 3) := by decide +kernel
theorem dX7_isSetting_30 : decode cX7_isSetting 30 = .ok (.goto 23, 3) := by decide +kernel
theorem dX7_isSetting_33 : decode cX7_isSetting 33 = .ok (.iload_n 0, 1) := by decide +kernel
theorem dX7_isSetting_34 : decode cX7_isSetting 34 = .ok (.iconst 2, 1) := by decide +kernel
theorem dX7_isSetting_35 : decode cX7_isSetting 35 = .ok (.if_icmp .ne 17, 3) := by decide +kernel
theorem dX7_isSetting_38 : decode cX7_isSetting 38 = .ok (.iload_n 1, 1) := by decide +kernel
theorem dX7_isSetting_39 : decode cX7_isSetting 39 = .ok (.i2l, 1) := by decide +kernel
theorem dX7_isSetting_40 : decode cX7_isSetting 40 = .ok (.lconst 0, 1) := by decide +kernel
theorem dX7_isSetting_41 : decode cX7_isSetting 41 = .ok (.lconst 1, 1) := by decide +kernel
theorem dX7_isSetting_42 : decode cX7_isSetting 42 = .ok (.invokestatic 46, 3) := by decide +kernel
theorem dX7_isSetting_45 : decode cX7_isSetting 45 = .ok (.ifCond .eq 7, 3) := by decide +kernel
theorem dX7_isSetting_48 : decode cX7_isSetting 48 = .ok (.iconst 1, 1) := by decide +kernel
theorem dX7_isSetting_49 : decode cX7_isSetting 49 = .ok (.goto 4, 3) := by decide +kernel
theorem dX7_isSetting_52 : decode cX7_isSetting 52 = .ok (.iconst 0, 1) := by decide +kernel
theorem dX7_isSetting_53 : decode cX7_isSetting 53 = .ok (.ireturn, 1) := by decide +kernel
theorem dX7_placeOf_0 : decode cX7_placeOf 0 = .ok (.iload_n 0, 1) := by decide +kernel
theorem dX7_placeOf_1 : decode cX7_placeOf 1 = .ok (.ifCond .ne 7, 3) := by decide +kernel
theorem dX7_placeOf_4 : decode cX7_placeOf 4 = .ok (.iconst 2, 1) := by decide +kernel
theorem dX7_placeOf_5 : decode cX7_placeOf 5 = .ok (.goto 14, 3) := by decide +kernel
theorem dX7_placeOf_8 : decode cX7_placeOf 8 = .ok (.iload_n 0, 1) := by decide +kernel
theorem dX7_placeOf_9 : decode cX7_placeOf 9 = .ok (.iconst 1, 1) := by decide +kernel
theorem dX7_placeOf_10 : decode cX7_placeOf 10 = .ok (.if_icmp .ne 7, 3) := by decide +kernel
theorem dX7_placeOf_13 : decode cX7_placeOf 13 = .ok (.iconst 5, 1) := by decide +kernel
theorem dX7_placeOf_14 : decode cX7_placeOf 14 = .ok (.goto 5, 3) := by decide +kernel
theorem dX7_placeOf_17 : decode cX7_placeOf 17 = .ok (.bipush 6, 2) := by decide +kernel
theorem dX7_placeOf_19 : decode cX7_placeOf 19 = .ok (.ireturn, 1) := by decide +kernel
theorem dX7_sets_0 : decode cX7_sets 0 = .ok (.aload_n 0, 1) := by decide +kernel
theorem dX7_sets_1 : decode cX7_sets 1 = .ok (.iload_n 1, 1) := by decide +kernel
theorem dX7_sets_2 : decode cX7_sets 2 = .ok (.invokevirtual 54, 3) := by decide +kernel
theorem dX7_sets_5 : decode cX7_sets 5 = .ok (.ifCond .eq 11, 3) := by decide +kernel
theorem dX7_sets_8 : decode cX7_sets 8 = .ok (.iload_n 2, 1) := by decide +kernel
theorem dX7_sets_9 : decode cX7_sets 9 = .ok (.iload_n 3, 1) := by decide +kernel
theorem dX7_sets_10 : decode cX7_sets 10 = .ok (.invokestatic 104, 3) := by decide +kernel
theorem dX7_sets_13 : decode cX7_sets 13 = .ok (.ifCond .ne 10, 3) := by decide +kernel
theorem dX7_sets_16 : decode cX7_sets 16 = .ok (.aload_n 0, 1) := by decide +kernel
theorem dX7_sets_17 : decode cX7_sets 17 = .ok (.bipush (-2), 2) := by decide +kernel
theorem dX7_sets_19 : decode cX7_sets 19 = .ok (.invokevirtual 83, 3) := by decide +kernel
theorem dX7_sets_22 : decode cX7_sets 22 = .ok (.ireturn, 1) := by decide +kernel
theorem dX7_sets_23 : decode cX7_sets 23 = .ok (.aload_n 0, 1) := by decide +kernel
theorem dX7_sets_24 : decode cX7_sets 24 = .ok (.invokevirtual 86, 3) := by decide +kernel
theorem dX7_sets_27 : decode cX7_sets 27 = .ok (.aload_n 0, 1) := by decide +kernel
theorem dX7_sets_28 : decode cX7_sets 28 = .ok (.iload_n 1, 1) := by decide +kernel
theorem dX7_sets_29 : decode cX7_sets 29 = .ok (.iload_n 2, 1) := by decide +kernel
theorem dX7_sets_30 : decode cX7_sets 30 = .ok (.invokestatic 107, 3) := by decide +kernel
theorem dX7_sets_33 : decode cX7_sets 33 = .ok (.invokevirtual 50, 3) := by decide +kernel
theorem dX7_sets_36 : decode cX7_sets 36 = .ok (.l2i, 1) := by decide +kernel
theorem dX7_sets_37 : decode cX7_sets 37 = .ok (.istore 4, 2) := by decide +kernel
theorem dX7_sets_39 : decode cX7_sets 39 = .ok (.aload_n 0, 1) := by decide +kernel
theorem dX7_sets_40 : decode cX7_sets 40 = .ok (.iload_n 1, 1) := by decide +kernel
theorem dX7_sets_41 : decode cX7_sets 41 = .ok (.iload_n 2, 1) := by decide +kernel
theorem dX7_sets_42 : decode cX7_sets 42 = .ok (.invokestatic 107, 3) := by decide +kernel
theorem dX7_sets_45 : decode cX7_sets 45 = .ok (.iload_n 3, 1) := by decide +kernel
theorem dX7_sets_46 : decode cX7_sets 46 = .ok (.i2l, 1) := by decide +kernel
theorem dX7_sets_47 : decode cX7_sets 47 = .ok (.invokevirtual 66, 3) := by decide +kernel
theorem dX7_sets_50 : decode cX7_sets 50 = .ok (.iload 4, 2) := by decide +kernel
theorem dX7_sets_52 : decode cX7_sets 52 = .ok (.ireturn, 1) := by decide +kernel
theorem dX7_there_0 : decode cX7_there 0 = .ok (.iconst 0, 1) := by decide +kernel
theorem dX7_there_1 : decode cX7_there 1 = .ok (.istore_n 1, 1) := by decide +kernel
theorem dX7_there_2 : decode cX7_there 2 = .ok (.iconst 1, 1) := by decide +kernel
theorem dX7_there_3 : decode cX7_there 3 = .ok (.istore_n 2, 1) := by decide +kernel
theorem dX7_there_4 : decode cX7_there 4 = .ok (.iload_n 2, 1) := by decide +kernel
theorem dX7_there_5 : decode cX7_there 5 = .ok (.bipush 12, 2) := by decide +kernel
theorem dX7_there_7 : decode cX7_there 7 = .ok (.if_icmp .gt 27, 3) := by decide +kernel
theorem dX7_there_10 : decode cX7_there 10 = .ok (.iload_n 1, 1) := by decide +kernel
theorem dX7_there_11 : decode cX7_there 11 = .ok (.aload_n 0, 1) := by decide +kernel
theorem dX7_there_12 : decode cX7_there 12 = .ok (.iload_n 2, 1) := by decide +kernel
theorem dX7_there_13 : decode cX7_there 13 = .ok (.invokevirtual 54, 3) := by decide +kernel
theorem dX7_there_16 : decode cX7_there 16 = .ok (.ifCond .eq 9, 3) := by decide +kernel
theorem dX7_there_19 : decode cX7_there 19 = .ok (.iconst 1, 1) := by decide +kernel
theorem dX7_there_20 : decode cX7_there 20 = .ok (.iload_n 2, 1) := by decide +kernel
theorem dX7_there_21 : decode cX7_there 21 = .ok (.ishl, 1) := by decide +kernel
theorem dX7_there_22 : decode cX7_there 22 = .ok (.goto 4, 3) := by decide +kernel
theorem dX7_there_25 : decode cX7_there 25 = .ok (.iconst 0, 1) := by decide +kernel
theorem dX7_there_26 : decode cX7_there 26 = .ok (.ior, 1) := by decide +kernel
theorem dX7_there_27 : decode cX7_there 27 = .ok (.istore_n 1, 1) := by decide +kernel
theorem dX7_there_28 : decode cX7_there 28 = .ok (.iinc 2 1, 3) := by decide +kernel
theorem dX7_there_31 : decode cX7_there 31 = .ok (.goto (-27), 3) := by decide +kernel
theorem dX7_there_34 : decode cX7_there 34 = .ok (.iload_n 1, 1) := by decide +kernel
theorem dX7_there_35 : decode cX7_there 35 = .ok (.ireturn, 1) := by decide +kernel
theorem dX7_size_0 : decode cX7_size 0 = .ok (.iconst 0, 1) := by decide +kernel
theorem dX7_size_1 : decode cX7_size 1 = .ok (.istore_n 1, 1) := by decide +kernel
theorem dX7_size_2 : decode cX7_size 2 = .ok (.iconst 0, 1) := by decide +kernel
theorem dX7_size_3 : decode cX7_size 3 = .ok (.istore_n 2, 1) := by decide +kernel
theorem dX7_size_4 : decode cX7_size 4 = .ok (.iload_n 2, 1) := by decide +kernel
theorem dX7_size_5 : decode cX7_size 5 = .ok (.bipush 12, 2) := by decide +kernel
theorem dX7_size_7 : decode cX7_size 7 = .ok (.if_icmp .gt 17, 3) := by decide +kernel
theorem dX7_size_10 : decode cX7_size 10 = .ok (.iload_n 1, 1) := by decide +kernel
theorem dX7_size_11 : decode cX7_size 11 = .ok (.iload_n 0, 1) := by decide +kernel
theorem dX7_size_12 : decode cX7_size 12 = .ok (.iload_n 2, 1) := by decide +kernel
theorem dX7_size_13 : decode cX7_size 13 = .ok (.ishr, 1) := by decide +kernel
theorem dX7_size_14 : decode cX7_size 14 = .ok (.iconst 1, 1) := by decide +kernel
theorem dX7_size_15 : decode cX7_size 15 = .ok (.iand, 1) := by decide +kernel
theorem dX7_size_16 : decode cX7_size 16 = .ok (.iadd, 1) := by decide +kernel
theorem dX7_size_17 : decode cX7_size 17 = .ok (.istore_n 1, 1) := by decide +kernel
theorem dX7_size_18 : decode cX7_size 18 = .ok (.iinc 2 1, 3) := by decide +kernel
theorem dX7_size_21 : decode cX7_size 21 = .ok (.goto (-17), 3) := by decide +kernel
theorem dX7_size_24 : decode cX7_size 24 = .ok (.iload_n 1, 1) := by decide +kernel
theorem dX7_size_25 : decode cX7_size 25 = .ok (.ireturn, 1) := by decide +kernel
theorem dX7_goes_0 : decode cX7_goes 0 = .ok (.lconst 0, 1) := by decide +kernel
theorem dX7_goes_1 : decode cX7_goes 1 = .ok (.lstore_n 2, 1) := by decide +kernel
theorem dX7_goes_2 : decode cX7_goes 2 = .ok (.iconst 1, 1) := by decide +kernel
theorem dX7_goes_3 : decode cX7_goes 3 = .ok (.istore 4, 2) := by decide +kernel
theorem dX7_goes_5 : decode cX7_goes 5 = .ok (.iload 4, 2) := by decide +kernel
theorem dX7_goes_7 : decode cX7_goes 7 = .ok (.bipush 12, 2) := by decide +kernel
theorem dX7_goes_9 : decode cX7_goes 9 = .ok (.if_icmp .gt 33, 3) := by decide +kernel
theorem dX7_goes_12 : decode cX7_goes 12 = .ok (.lload_n 2, 1) := by decide +kernel
theorem dX7_goes_13 : decode cX7_goes 13 = .ok (.aload_n 0, 1) := by decide +kernel
theorem dX7_goes_14 : decode cX7_goes 14 = .ok (.iload 4, 2) := by decide +kernel
theorem dX7_goes_16 : decode cX7_goes 16 = .ok (.iload_n 1, 1) := by decide +kernel
theorem dX7_goes_17 : decode cX7_goes 17 = .ok (.invokevirtual 62, 3) := by decide +kernel
theorem dX7_goes_20 : decode cX7_goes 20 = .ok (.ifCond .eq 13, 3) := by decide +kernel
theorem dX7_goes_23 : decode cX7_goes 23 = .ok (.aload_n 0, 1) := by decide +kernel
theorem dX7_goes_24 : decode cX7_goes 24 = .ok (.iload 4, 2) := by decide +kernel
theorem dX7_goes_26 : decode cX7_goes 26 = .ok (.iconst 2, 1) := by decide +kernel
theorem dX7_goes_27 : decode cX7_goes 27 = .ok (.invokevirtual 50, 3) := by decide +kernel
theorem dX7_goes_30 : decode cX7_goes 30 = .ok (.goto 4, 3) := by decide +kernel
theorem dX7_goes_33 : decode cX7_goes 33 = .ok (.lconst 0, 1) := by decide +kernel
theorem dX7_goes_34 : decode cX7_goes 34 = .ok (.ladd, 1) := by decide +kernel
theorem dX7_goes_35 : decode cX7_goes 35 = .ok (.lstore_n 2, 1) := by decide +kernel
theorem dX7_goes_36 : decode cX7_goes 36 = .ok (.iinc 4 1, 3) := by decide +kernel
theorem dX7_goes_39 : decode cX7_goes 39 = .ok (.goto (-34), 3) := by decide +kernel
theorem dX7_goes_42 : decode cX7_goes 42 = .ok (.iconst 1, 1) := by decide +kernel
theorem dX7_goes_43 : decode cX7_goes 43 = .ok (.istore 4, 2) := by decide +kernel
theorem dX7_goes_45 : decode cX7_goes 45 = .ok (.iload 4, 2) := by decide +kernel
theorem dX7_goes_47 : decode cX7_goes 47 = .ok (.bipush 12, 2) := by decide +kernel
theorem dX7_goes_49 : decode cX7_goes 49 = .ok (.if_icmp .gt 68, 3) := by decide +kernel
theorem dX7_goes_52 : decode cX7_goes 52 = .ok (.aload_n 0, 1) := by decide +kernel
theorem dX7_goes_53 : decode cX7_goes 53 = .ok (.iload 4, 2) := by decide +kernel
theorem dX7_goes_55 : decode cX7_goes 55 = .ok (.iload_n 1, 1) := by decide +kernel
theorem dX7_goes_56 : decode cX7_goes 56 = .ok (.invokevirtual 62, 3) := by decide +kernel
theorem dX7_goes_59 : decode cX7_goes 59 = .ok (.ifCond .eq 52, 3) := by decide +kernel
theorem dX7_goes_62 : decode cX7_goes 62 = .ok (.aload_n 0, 1) := by decide +kernel
theorem dX7_goes_63 : decode cX7_goes 63 = .ok (.iload 4, 2) := by decide +kernel
theorem dX7_goes_65 : decode cX7_goes 65 = .ok (.iconst 2, 1) := by decide +kernel
theorem dX7_goes_66 : decode cX7_goes 66 = .ok (.invokevirtual 50, 3) := by decide +kernel
theorem dX7_goes_69 : decode cX7_goes 69 = .ok (.aload_n 0, 1) := by decide +kernel
theorem dX7_goes_70 : decode cX7_goes 70 = .ok (.iload_n 1, 1) := by decide +kernel
theorem dX7_goes_71 : decode cX7_goes 71 = .ok (.iconst 2, 1) := by decide +kernel
theorem dX7_goes_72 : decode cX7_goes 72 = .ok (.invokevirtual 50, 3) := by decide +kernel
theorem dX7_goes_75 : decode cX7_goes 75 = .ok (.lmul, 1) := by decide +kernel
theorem dX7_goes_76 : decode cX7_goes 76 = .ok (.lload_n 2, 1) := by decide +kernel
theorem dX7_goes_77 : decode cX7_goes 77 = .ok (.ldiv, 1) := by decide +kernel
theorem dX7_goes_78 : decode cX7_goes 78 = .ok (.lstore 5, 2) := by decide +kernel
theorem dX7_goes_80 : decode cX7_goes 80 = .ok (.aload_n 0, 1) := by decide +kernel
theorem dX7_goes_81 : decode cX7_goes 81 = .ok (.iload 4, 2) := by decide +kernel
theorem dX7_goes_83 : decode cX7_goes 83 = .ok (.iconst 2, 1) := by decide +kernel
theorem dX7_goes_84 : decode cX7_goes 84 = .ok (.lload 5, 2) := by decide +kernel
theorem dX7_goes_86 : decode cX7_goes 86 = .ok (.lconst 1, 1) := by decide +kernel
theorem dX7_goes_87 : decode cX7_goes 87 = .ok (.lcmp, 1) := by decide +kernel
theorem dX7_goes_88 : decode cX7_goes 88 = .ok (.ifCond .ge 7, 3) := by decide +kernel
theorem dX7_goes_91 : decode cX7_goes 91 = .ok (.lconst 1, 1) := by decide +kernel
theorem dX7_goes_92 : decode cX7_goes 92 = .ok (.goto 5, 3) := by decide +kernel
theorem dX7_goes_95 : decode cX7_goes 95 = .ok (.lload 5, 2) := by decide +kernel
theorem dX7_goes_97 : decode cX7_goes 97 = .ok (.invokevirtual 66, 3) := by decide +kernel
theorem dX7_goes_100 : decode cX7_goes 100 = .ok (.aload_n 0, 1) := by decide +kernel
theorem dX7_goes_101 : decode cX7_goes 101 = .ok (.iload 4, 2) := by decide +kernel
theorem dX7_goes_103 : decode cX7_goes 103 = .ok (.aload_n 0, 1) := by decide +kernel
theorem dX7_goes_104 : decode cX7_goes 104 = .ok (.iload_n 1, 1) := by decide +kernel
theorem dX7_goes_105 : decode cX7_goes 105 = .ok (.invokevirtual 58, 3) := by decide +kernel
theorem dX7_goes_108 : decode cX7_goes 108 = .ok (.invokevirtual 70, 3) := by decide +kernel
theorem dX7_goes_111 : decode cX7_goes 111 = .ok (.iinc 4 1, 3) := by decide +kernel
theorem dX7_goes_114 : decode cX7_goes 114 = .ok (.goto (-69), 3) := by decide +kernel
theorem dX7_goes_117 : decode cX7_goes 117 = .ok (.aload_n 0, 1) := by decide +kernel
theorem dX7_goes_118 : decode cX7_goes 118 = .ok (.iload_n 1, 1) := by decide +kernel
theorem dX7_goes_119 : decode cX7_goes 119 = .ok (.iconst 0, 1) := by decide +kernel
theorem dX7_goes_120 : decode cX7_goes 120 = .ok (.lconst 0, 1) := by decide +kernel
theorem dX7_goes_121 : decode cX7_goes 121 = .ok (.invokevirtual 66, 3) := by decide +kernel
theorem dX7_goes_124 : decode cX7_goes 124 = .ok (.return_, 1) := by decide +kernel
theorem dX7_goesAll_0 : decode cX7_goesAll 0 = .ok (.iconst 1, 1) := by decide +kernel
theorem dX7_goesAll_1 : decode cX7_goesAll 1 = .ok (.istore_n 1, 1) := by decide +kernel
theorem dX7_goesAll_2 : decode cX7_goesAll 2 = .ok (.iload_n 1, 1) := by decide +kernel
theorem dX7_goesAll_3 : decode cX7_goesAll 3 = .ok (.bipush 12, 2) := by decide +kernel
theorem dX7_goesAll_5 : decode cX7_goesAll 5 = .ok (.if_icmp .gt 53, 3) := by decide +kernel
theorem dX7_goesAll_8 : decode cX7_goesAll 8 = .ok (.aload_n 0, 1) := by decide +kernel
theorem dX7_goesAll_9 : decode cX7_goesAll 9 = .ok (.iload_n 1, 1) := by decide +kernel
theorem dX7_goesAll_10 : decode cX7_goesAll 10 = .ok (.invokevirtual 54, 3) := by decide +kernel
theorem dX7_goesAll_13 : decode cX7_goesAll 13 = .ok (.ifCond .eq 39, 3) := by decide +kernel
theorem dX7_goesAll_16 : decode cX7_goesAll 16 = .ok (.aload_n 0, 1) := by decide +kernel
theorem dX7_goesAll_17 : decode cX7_goesAll 17 = .ok (.iload_n 1, 1) := by decide +kernel
theorem dX7_goesAll_18 : decode cX7_goesAll 18 = .ok (.bipush 7, 2) := by decide +kernel
theorem dX7_goesAll_20 : decode cX7_goesAll 20 = .ok (.invokevirtual 50, 3) := by decide +kernel
theorem dX7_goesAll_23 : decode cX7_goesAll 23 = .ok (.lconst 0, 1) := by decide +kernel
theorem dX7_goesAll_24 : decode cX7_goesAll 24 = .ok (.lcmp, 1) := by decide +kernel
theorem dX7_goesAll_25 : decode cX7_goesAll 25 = .ok (.ifCond .ne 27, 3) := by decide +kernel
theorem dX7_goesAll_28 : decode cX7_goesAll 28 = .ok (.aload_n 0, 1) := by decide +kernel
theorem dX7_goesAll_29 : decode cX7_goesAll 29 = .ok (.iload_n 1, 1) := by decide +kernel
theorem dX7_goesAll_30 : decode cX7_goesAll 30 = .ok (.bipush 8, 2) := by decide +kernel
theorem dX7_goesAll_32 : decode cX7_goesAll 32 = .ok (.invokevirtual 50, 3) := by decide +kernel
theorem dX7_goesAll_35 : decode cX7_goesAll 35 = .ok (.aload_n 0, 1) := by decide +kernel
theorem dX7_goesAll_36 : decode cX7_goesAll 36 = .ok (.getfield 7, 3) := by decide +kernel
theorem dX7_goesAll_39 : decode cX7_goesAll 39 = .ok (.sipush 210, 3) := by decide +kernel
theorem dX7_goesAll_42 : decode cX7_goesAll 42 = .ok (.laload, 1) := by decide +kernel
theorem dX7_goesAll_43 : decode cX7_goesAll 43 = .ok (.lcmp, 1) := by decide +kernel
theorem dX7_goesAll_44 : decode cX7_goesAll 44 = .ok (.ifCond .lt 8, 3) := by decide +kernel
theorem dX7_goesAll_47 : decode cX7_goesAll 47 = .ok (.aload_n 0, 1) := by decide +kernel
theorem dX7_goesAll_48 : decode cX7_goesAll 48 = .ok (.iload_n 1, 1) := by decide +kernel
theorem dX7_goesAll_49 : decode cX7_goesAll 49 = .ok (.invokevirtual 110, 3) := by decide +kernel
theorem dX7_goesAll_52 : decode cX7_goesAll 52 = .ok (.iinc 1 1, 3) := by decide +kernel
theorem dX7_goesAll_55 : decode cX7_goesAll 55 = .ok (.goto (-53), 3) := by decide +kernel
theorem dX7_goesAll_58 : decode cX7_goesAll 58 = .ok (.return_, 1) := by decide +kernel
theorem dX7_closes_0 : decode cX7_closes 0 = .ok (.aload_n 0, 1) := by decide +kernel
theorem dX7_closes_1 : decode cX7_closes 1 = .ok (.iload_n 1, 1) := by decide +kernel
theorem dX7_closes_2 : decode cX7_closes 2 = .ok (.invokevirtual 54, 3) := by decide +kernel
theorem dX7_closes_5 : decode cX7_closes 5 = .ok (.ifCond .ne 10, 3) := by decide +kernel
theorem dX7_closes_8 : decode cX7_closes 8 = .ok (.aload_n 0, 1) := by decide +kernel
theorem dX7_closes_9 : decode cX7_closes 9 = .ok (.bipush (-2), 2) := by decide +kernel
theorem dX7_closes_11 : decode cX7_closes 11 = .ok (.invokevirtual 83, 3) := by decide +kernel
theorem dX7_closes_14 : decode cX7_closes 14 = .ok (.ireturn, 1) := by decide +kernel
theorem dX7_closes_15 : decode cX7_closes 15 = .ok (.aload_n 0, 1) := by decide +kernel
theorem dX7_closes_16 : decode cX7_closes 16 = .ok (.iload_n 1, 1) := by decide +kernel
theorem dX7_closes_17 : decode cX7_closes 17 = .ok (.bipush 7, 2) := by decide +kernel
theorem dX7_closes_19 : decode cX7_closes 19 = .ok (.invokevirtual 50, 3) := by decide +kernel
theorem dX7_closes_22 : decode cX7_closes 22 = .ok (.lconst 0, 1) := by decide +kernel
theorem dX7_closes_23 : decode cX7_closes 23 = .ok (.lcmp, 1) := by decide +kernel
theorem dX7_closes_24 : decode cX7_closes 24 = .ok (.ifCond .ne 10, 3) := by decide +kernel
theorem dX7_closes_27 : decode cX7_closes 27 = .ok (.aload_n 0, 1) := by decide +kernel
theorem dX7_closes_28 : decode cX7_closes 28 = .ok (.bipush (-3), 2) := by decide +kernel
theorem dX7_closes_30 : decode cX7_closes 30 = .ok (.invokevirtual 83, 3) := by decide +kernel
theorem dX7_closes_33 : decode cX7_closes 33 = .ok (.ireturn, 1) := by decide +kernel
theorem dX7_closes_34 : decode cX7_closes 34 = .ok (.aload_n 0, 1) := by decide +kernel
theorem dX7_closes_35 : decode cX7_closes 35 = .ok (.invokevirtual 86, 3) := by decide +kernel
theorem dX7_closes_38 : decode cX7_closes 38 = .ok (.aload_n 0, 1) := by decide +kernel
theorem dX7_closes_39 : decode cX7_closes 39 = .ok (.iload_n 1, 1) := by decide +kernel
theorem dX7_closes_40 : decode cX7_closes 40 = .ok (.bipush 7, 2) := by decide +kernel
theorem dX7_closes_42 : decode cX7_closes 42 = .ok (.lconst 0, 1) := by decide +kernel
theorem dX7_closes_43 : decode cX7_closes 43 = .ok (.invokevirtual 66, 3) := by decide +kernel
theorem dX7_closes_46 : decode cX7_closes 46 = .ok (.aload_n 0, 1) := by decide +kernel
theorem dX7_closes_47 : decode cX7_closes 47 = .ok (.iload_n 1, 1) := by decide +kernel
theorem dX7_closes_48 : decode cX7_closes 48 = .ok (.iconst 3, 1) := by decide +kernel
theorem dX7_closes_49 : decode cX7_closes 49 = .ok (.lconst 0, 1) := by decide +kernel
theorem dX7_closes_50 : decode cX7_closes 50 = .ok (.invokevirtual 66, 3) := by decide +kernel
theorem dX7_closes_53 : decode cX7_closes 53 = .ok (.aload_n 0, 1) := by decide +kernel
theorem dX7_closes_54 : decode cX7_closes 54 = .ok (.invokevirtual 114, 3) := by decide +kernel
theorem dX7_closes_57 : decode cX7_closes 57 = .ok (.aload_n 0, 1) := by decide +kernel
theorem dX7_closes_58 : decode cX7_closes 58 = .ok (.invokevirtual 117, 3) := by decide +kernel
theorem dX7_closes_61 : decode cX7_closes 61 = .ok (.invokestatic 121, 3) := by decide +kernel
theorem dX7_closes_64 : decode cX7_closes 64 = .ok (.ireturn, 1) := by decide +kernel
theorem dX7_can_0 : decode cX7_can 0 = .ok (.aload_n 0, 1) := by decide +kernel
theorem dX7_can_1 : decode cX7_can 1 = .ok (.iload_n 1, 1) := by decide +kernel
theorem dX7_can_2 : decode cX7_can 2 = .ok (.invokevirtual 54, 3) := by decide +kernel
theorem dX7_can_5 : decode cX7_can 5 = .ok (.ifCond .eq 41, 3) := by decide +kernel
theorem dX7_can_8 : decode cX7_can 8 = .ok (.aload_n 0, 1) := by decide +kernel
theorem dX7_can_9 : decode cX7_can 9 = .ok (.iload_n 1, 1) := by decide +kernel
theorem dX7_can_10 : decode cX7_can 10 = .ok (.bipush 7, 2) := by decide +kernel
theorem dX7_can_12 : decode cX7_can 12 = .ok (.invokevirtual 50, 3) := by decide +kernel
theorem dX7_can_15 : decode cX7_can 15 = .ok (.lconst 1, 1) := by decide +kernel
theorem dX7_can_16 : decode cX7_can 16 = .ok (.lcmp, 1) := by decide +kernel
theorem dX7_can_17 : decode cX7_can 17 = .ok (.ifCond .ne 29, 3) := by decide +kernel
theorem dX7_can_20 : decode cX7_can 20 = .ok (.aload_n 0, 1) := by decide +kernel
theorem dX7_can_21 : decode cX7_can 21 = .ok (.iload_n 1, 1) := by decide +kernel
theorem dX7_can_22 : decode cX7_can 22 = .ok (.iconst 3, 1) := by decide +kernel
theorem dX7_can_23 : decode cX7_can 23 = .ok (.invokevirtual 50, 3) := by decide +kernel
theorem dX7_can_26 : decode cX7_can 26 = .ok (.lconst 0, 1) := by decide +kernel
theorem dX7_can_27 : decode cX7_can 27 = .ok (.lcmp, 1) := by decide +kernel
theorem dX7_can_28 : decode cX7_can 28 = .ok (.ifCond .le 18, 3) := by decide +kernel
theorem dX7_can_31 : decode cX7_can 31 = .ok (.aload_n 0, 1) := by decide +kernel
theorem dX7_can_32 : decode cX7_can 32 = .ok (.iload_n 1, 1) := by decide +kernel
theorem dX7_can_33 : decode cX7_can 33 = .ok (.iconst 4, 1) := by decide +kernel
theorem dX7_can_34 : decode cX7_can 34 = .ok (.invokevirtual 50, 3) := by decide +kernel
theorem dX7_can_37 : decode cX7_can 37 = .ok (.lconst 0, 1) := by decide +kernel
theorem dX7_can_38 : decode cX7_can 38 = .ok (.lcmp, 1) := by decide +kernel
theorem dX7_can_39 : decode cX7_can 39 = .ok (.ifCond .le 7, 3) := by decide +kernel
theorem dX7_can_42 : decode cX7_can 42 = .ok (.iconst 1, 1) := by decide +kernel
theorem dX7_can_43 : decode cX7_can 43 = .ok (.goto 4, 3) := by decide +kernel
theorem dX7_can_46 : decode cX7_can 46 = .ok (.iconst 0, 1) := by decide +kernel
theorem dX7_can_47 : decode cX7_can 47 = .ok (.ireturn, 1) := by decide +kernel
theorem dX7_canSet_0 : decode cX7_canSet 0 = .ok (.iconst 0, 1) := by decide +kernel
theorem dX7_canSet_1 : decode cX7_canSet 1 = .ok (.istore_n 1, 1) := by decide +kernel
theorem dX7_canSet_2 : decode cX7_canSet 2 = .ok (.iconst 1, 1) := by decide +kernel
theorem dX7_canSet_3 : decode cX7_canSet 3 = .ok (.istore_n 2, 1) := by decide +kernel
theorem dX7_canSet_4 : decode cX7_canSet 4 = .ok (.iload_n 2, 1) := by decide +kernel
theorem dX7_canSet_5 : decode cX7_canSet 5 = .ok (.bipush 12, 2) := by decide +kernel
theorem dX7_canSet_7 : decode cX7_canSet 7 = .ok (.if_icmp .gt 27, 3) := by decide +kernel
theorem dX7_canSet_10 : decode cX7_canSet 10 = .ok (.iload_n 1, 1) := by decide +kernel
theorem dX7_canSet_11 : decode cX7_canSet 11 = .ok (.aload_n 0, 1) := by decide +kernel
theorem dX7_canSet_12 : decode cX7_canSet 12 = .ok (.iload_n 2, 1) := by decide +kernel
theorem dX7_canSet_13 : decode cX7_canSet 13 = .ok (.invokevirtual 124, 3) := by decide +kernel
theorem dX7_canSet_16 : decode cX7_canSet 16 = .ok (.ifCond .eq 9, 3) := by decide +kernel
theorem dX7_canSet_19 : decode cX7_canSet 19 = .ok (.iconst 1, 1) := by decide +kernel
theorem dX7_canSet_20 : decode cX7_canSet 20 = .ok (.iload_n 2, 1) := by decide +kernel
theorem dX7_canSet_21 : decode cX7_canSet 21 = .ok (.ishl, 1) := by decide +kernel
theorem dX7_canSet_22 : decode cX7_canSet 22 = .ok (.goto 4, 3) := by decide +kernel
theorem dX7_canSet_25 : decode cX7_canSet 25 = .ok (.iconst 0, 1) := by decide +kernel
theorem dX7_canSet_26 : decode cX7_canSet 26 = .ok (.ior, 1) := by decide +kernel
theorem dX7_canSet_27 : decode cX7_canSet 27 = .ok (.istore_n 1, 1) := by decide +kernel
theorem dX7_canSet_28 : decode cX7_canSet 28 = .ok (.iinc 2 1, 3) := by decide +kernel
theorem dX7_canSet_31 : decode cX7_canSet 31 = .ok (.goto (-27), 3) := by decide +kernel
theorem dX7_canSet_34 : decode cX7_canSet 34 = .ok (.iload_n 1, 1) := by decide +kernel
theorem dX7_canSet_35 : decode cX7_canSet 35 = .ok (.ireturn, 1) := by decide +kernel
theorem dX7_isLive_0 : decode cX7_isLive 0 = .ok (.aload_n 0, 1) := by decide +kernel
theorem dX7_isLive_1 : decode cX7_isLive 1 = .ok (.iload_n 1, 1) := by decide +kernel
theorem dX7_isLive_2 : decode cX7_isLive 2 = .ok (.invokevirtual 124, 3) := by decide +kernel
theorem dX7_isLive_5 : decode cX7_isLive 5 = .ok (.istore_n 2, 1) := by decide +kernel
theorem dX7_isLive_6 : decode cX7_isLive 6 = .ok (.iconst 1, 1) := by decide +kernel
theorem dX7_isLive_7 : decode cX7_isLive 7 = .ok (.istore_n 3, 1) := by decide +kernel
theorem dX7_isLive_8 : decode cX7_isLive 8 = .ok (.iload_n 3, 1) := by decide +kernel
theorem dX7_isLive_9 : decode cX7_isLive 9 = .ok (.bipush 12, 2) := by decide +kernel
theorem dX7_isLive_11 : decode cX7_isLive 11 = .ok (.if_icmp .gt 36, 3) := by decide +kernel
theorem dX7_isLive_14 : decode cX7_isLive 14 = .ok (.iload_n 2, 1) := by decide +kernel
theorem dX7_isLive_15 : decode cX7_isLive 15 = .ok (.ifCond .ne 32, 3) := by decide +kernel
theorem dX7_isLive_18 : decode cX7_isLive 18 = .ok (.aload_n 0, 1) := by decide +kernel
theorem dX7_isLive_19 : decode cX7_isLive 19 = .ok (.iload_n 3, 1) := by decide +kernel
theorem dX7_isLive_20 : decode cX7_isLive 20 = .ok (.invokevirtual 124, 3) := by decide +kernel
theorem dX7_isLive_23 : decode cX7_isLive 23 = .ok (.ifCond .eq 16, 3) := by decide +kernel
theorem dX7_isLive_26 : decode cX7_isLive 26 = .ok (.aload_n 0, 1) := by decide +kernel
theorem dX7_isLive_27 : decode cX7_isLive 27 = .ok (.iload_n 3, 1) := by decide +kernel
theorem dX7_isLive_28 : decode cX7_isLive 28 = .ok (.iload_n 1, 1) := by decide +kernel
theorem dX7_isLive_29 : decode cX7_isLive 29 = .ok (.invokevirtual 99, 3) := by decide +kernel
theorem dX7_isLive_32 : decode cX7_isLive 32 = .ok (.ifCond .eq 7, 3) := by decide +kernel
theorem dX7_isLive_35 : decode cX7_isLive 35 = .ok (.iconst 1, 1) := by decide +kernel
theorem dX7_isLive_36 : decode cX7_isLive 36 = .ok (.goto 4, 3) := by decide +kernel
theorem dX7_isLive_39 : decode cX7_isLive 39 = .ok (.iconst 0, 1) := by decide +kernel
theorem dX7_isLive_40 : decode cX7_isLive 40 = .ok (.istore_n 2, 1) := by decide +kernel
theorem dX7_isLive_41 : decode cX7_isLive 41 = .ok (.iinc 3 1, 3) := by decide +kernel
theorem dX7_isLive_44 : decode cX7_isLive 44 = .ok (.goto (-36), 3) := by decide +kernel
theorem dX7_isLive_47 : decode cX7_isLive 47 = .ok (.iload_n 2, 1) := by decide +kernel
theorem dX7_isLive_48 : decode cX7_isLive 48 = .ok (.ifCond .eq 15, 3) := by decide +kernel
theorem dX7_isLive_51 : decode cX7_isLive 51 = .ok (.aload_n 0, 1) := by decide +kernel
theorem dX7_isLive_52 : decode cX7_isLive 52 = .ok (.iload_n 1, 1) := by decide +kernel
theorem dX7_isLive_53 : decode cX7_isLive 53 = .ok (.invokevirtual 54, 3) := by decide +kernel
theorem dX7_isLive_56 : decode cX7_isLive 56 = .ok (.ifCond .eq 7, 3) := by decide +kernel
theorem dX7_isLive_59 : decode cX7_isLive 59 = .ok (.iconst 1, 1) := by decide +kernel
theorem dX7_isLive_60 : decode cX7_isLive 60 = .ok (.goto 4, 3) := by decide +kernel
theorem dX7_isLive_63 : decode cX7_isLive 63 = .ok (.iconst 0, 1) := by decide +kernel
theorem dX7_isLive_64 : decode cX7_isLive 64 = .ok (.ireturn, 1) := by decide +kernel
theorem dX7_liveSet_0 : decode cX7_liveSet 0 = .ok (.iconst 0, 1) := by decide +kernel
theorem dX7_liveSet_1 : decode cX7_liveSet 1 = .ok (.istore_n 1, 1) := by decide +kernel
theorem dX7_liveSet_2 : decode cX7_liveSet 2 = .ok (.iconst 1, 1) := by decide +kernel
theorem dX7_liveSet_3 : decode cX7_liveSet 3 = .ok (.istore_n 2, 1) := by decide +kernel
theorem dX7_liveSet_4 : decode cX7_liveSet 4 = .ok (.iload_n 2, 1) := by decide +kernel
theorem dX7_liveSet_5 : decode cX7_liveSet 5 = .ok (.bipush 12, 2) := by decide +kernel
theorem dX7_liveSet_7 : decode cX7_liveSet 7 = .ok (.if_icmp .gt 27, 3) := by decide +kernel
theorem dX7_liveSet_10 : decode cX7_liveSet 10 = .ok (.iload_n 1, 1) := by decide +kernel
theorem dX7_liveSet_11 : decode cX7_liveSet 11 = .ok (.aload_n 0, 1) := by decide +kernel
theorem dX7_liveSet_12 : decode cX7_liveSet 12 = .ok (.iload_n 2, 1) := by decide +kernel
theorem dX7_liveSet_13 : decode cX7_liveSet 13 = .ok (.invokevirtual 127, 3) := by decide +kernel
theorem dX7_liveSet_16 : decode cX7_liveSet 16 = .ok (.ifCond .eq 9, 3) := by decide +kernel
theorem dX7_liveSet_19 : decode cX7_liveSet 19 = .ok (.iconst 1, 1) := by decide +kernel
theorem dX7_liveSet_20 : decode cX7_liveSet 20 = .ok (.iload_n 2, 1) := by decide +kernel
theorem dX7_liveSet_21 : decode cX7_liveSet 21 = .ok (.ishl, 1) := by decide +kernel
theorem dX7_liveSet_22 : decode cX7_liveSet 22 = .ok (.goto 4, 3) := by decide +kernel
theorem dX7_liveSet_25 : decode cX7_liveSet 25 = .ok (.iconst 0, 1) := by decide +kernel
theorem dX7_liveSet_26 : decode cX7_liveSet 26 = .ok (.ior, 1) := by decide +kernel
theorem dX7_liveSet_27 : decode cX7_liveSet 27 = .ok (.istore_n 1, 1) := by decide +kernel
theorem dX7_liveSet_28 : decode cX7_liveSet 28 = .ok (.iinc 2 1, 3) := by decide +kernel
theorem dX7_liveSet_31 : decode cX7_liveSet 31 = .ok (.goto (-27), 3) := by decide +kernel
theorem dX7_liveSet_34 : decode cX7_liveSet 34 = .ok (.iload_n 1, 1) := by decide +kernel
theorem dX7_liveSet_35 : decode cX7_liveSet 35 = .ok (.ireturn, 1) := by decide +kernel
theorem dX7_below_0 : decode cX7_below 0 = .ok (.iconst 0, 1) := by decide +kernel
theorem dX7_below_1 : decode cX7_below 1 = .ok (.istore_n 2, 1) := by decide +kernel
theorem dX7_below_2 : decode cX7_below 2 = .ok (.iconst 1, 1) := by decide +kernel
theorem dX7_below_3 : decode cX7_below 3 = .ok (.istore_n 3, 1) := by decide +kernel
theorem dX7_below_4 : decode cX7_below 4 = .ok (.iload_n 3, 1) := by decide +kernel
theorem dX7_below_5 : decode cX7_below 5 = .ok (.bipush 12, 2) := by decide +kernel
theorem dX7_below_7 : decode cX7_below 7 = .ok (.if_icmp .gt 34, 3) := by decide +kernel
theorem dX7_below_10 : decode cX7_below 10 = .ok (.iload_n 2, 1) := by decide +kernel
theorem dX7_below_11 : decode cX7_below 11 = .ok (.aload_n 0, 1) := by decide +kernel
theorem dX7_below_12 : decode cX7_below 12 = .ok (.iload_n 3, 1) := by decide +kernel
theorem dX7_below_13 : decode cX7_below 13 = .ok (.invokevirtual 54, 3) := by decide +kernel
theorem dX7_below_16 : decode cX7_below 16 = .ok (.ifCond .eq 16, 3) := by decide +kernel
theorem dX7_below_19 : decode cX7_below 19 = .ok (.aload_n 0, 1) := by decide +kernel
theorem dX7_below_20 : decode cX7_below 20 = .ok (.iload_n 3, 1) := by decide +kernel
theorem dX7_below_21 : decode cX7_below 21 = .ok (.iload_n 1, 1) := by decide +kernel
theorem dX7_below_22 : decode cX7_below 22 = .ok (.invokevirtual 99, 3) := by decide +kernel
theorem dX7_below_25 : decode cX7_below 25 = .ok (.ifCond .eq 7, 3) := by decide +kernel
theorem dX7_below_28 : decode cX7_below 28 = .ok (.iconst 1, 1) := by decide +kernel
theorem dX7_below_29 : decode cX7_below 29 = .ok (.goto 4, 3) := by decide +kernel
theorem dX7_below_32 : decode cX7_below 32 = .ok (.iconst 0, 1) := by decide +kernel
theorem dX7_below_33 : decode cX7_below 33 = .ok (.iadd, 1) := by decide +kernel
theorem dX7_below_34 : decode cX7_below 34 = .ok (.istore_n 2, 1) := by decide +kernel
theorem dX7_below_35 : decode cX7_below 35 = .ok (.iinc 3 1, 3) := by decide +kernel
theorem dX7_below_38 : decode cX7_below 38 = .ok (.goto (-34), 3) := by decide +kernel
theorem dX7_below_41 : decode cX7_below 41 = .ok (.iload_n 2, 1) := by decide +kernel
theorem dX7_below_42 : decode cX7_below 42 = .ok (.ireturn, 1) := by decide +kernel
theorem dX7_ofNow_0 : decode cX7_ofNow 0 = .ok (.iload_n 2, 1) := by decide +kernel
theorem dX7_ofNow_1 : decode cX7_ofNow 1 = .ok (.tableswitch 71 12 15 #[31, 37, 43, 57], 31) := by decide +kernel
theorem dX7_ofNow_32 : decode cX7_ofNow 32 = .ok (.aload_n 0, 1) := by decide +kernel
theorem dX7_ofNow_33 : decode cX7_ofNow 33 = .ok (.iload_n 1, 1) := by decide +kernel
theorem dX7_ofNow_34 : decode cX7_ofNow 34 = .ok (.invokevirtual 96, 3) := by decide +kernel
theorem dX7_ofNow_37 : decode cX7_ofNow 37 = .ok (.ireturn, 1) := by decide +kernel
theorem dX7_ofNow_38 : decode cX7_ofNow 38 = .ok (.aload_n 0, 1) := by decide +kernel
theorem dX7_ofNow_39 : decode cX7_ofNow 39 = .ok (.iload_n 1, 1) := by decide +kernel
theorem dX7_ofNow_40 : decode cX7_ofNow 40 = .ok (.invokevirtual 130, 3) := by decide +kernel
theorem dX7_ofNow_43 : decode cX7_ofNow 43 = .ok (.ireturn, 1) := by decide +kernel
theorem dX7_ofNow_44 : decode cX7_ofNow 44 = .ok (.aload_n 0, 1) := by decide +kernel
theorem dX7_ofNow_45 : decode cX7_ofNow 45 = .ok (.iload_n 1, 1) := by decide +kernel
theorem dX7_ofNow_46 : decode cX7_ofNow 46 = .ok (.invokevirtual 124, 3) := by decide +kernel
theorem dX7_ofNow_49 : decode cX7_ofNow 49 = .ok (.ifCond .eq 7, 3) := by decide +kernel
theorem dX7_ofNow_52 : decode cX7_ofNow 52 = .ok (.iconst 1, 1) := by decide +kernel
theorem dX7_ofNow_53 : decode cX7_ofNow 53 = .ok (.goto 4, 3) := by decide +kernel
theorem dX7_ofNow_56 : decode cX7_ofNow 56 = .ok (.iconst 0, 1) := by decide +kernel
theorem dX7_ofNow_57 : decode cX7_ofNow 57 = .ok (.ireturn, 1) := by decide +kernel
theorem dX7_ofNow_58 : decode cX7_ofNow 58 = .ok (.aload_n 0, 1) := by decide +kernel
theorem dX7_ofNow_59 : decode cX7_ofNow 59 = .ok (.iload_n 1, 1) := by decide +kernel
theorem dX7_ofNow_60 : decode cX7_ofNow 60 = .ok (.invokevirtual 127, 3) := by decide +kernel
theorem dX7_ofNow_63 : decode cX7_ofNow 63 = .ok (.ifCond .eq 7, 3) := by decide +kernel
theorem dX7_ofNow_66 : decode cX7_ofNow 66 = .ok (.iconst 1, 1) := by decide +kernel
theorem dX7_ofNow_67 : decode cX7_ofNow 67 = .ok (.goto 4, 3) := by decide +kernel
theorem dX7_ofNow_70 : decode cX7_ofNow 70 = .ok (.iconst 0, 1) := by decide +kernel
theorem dX7_ofNow_71 : decode cX7_ofNow 71 = .ok (.ireturn, 1) := by decide +kernel
theorem dX7_ofNow_72 : decode cX7_ofNow 72 = .ok (.aload_n 0, 1) := by decide +kernel
theorem dX7_ofNow_73 : decode cX7_ofNow 73 = .ok (.iload_n 1, 1) := by decide +kernel
theorem dX7_ofNow_74 : decode cX7_ofNow 74 = .ok (.iload_n 2, 1) := by decide +kernel
theorem dX7_ofNow_75 : decode cX7_ofNow 75 = .ok (.bipush 8, 2) := by decide +kernel
theorem dX7_ofNow_77 : decode cX7_ofNow 77 = .ok (.if_icmp .ge 9, 3) := by decide +kernel
theorem dX7_ofNow_80 : decode cX7_ofNow 80 = .ok (.iload_n 2, 1) := by decide +kernel
theorem dX7_ofNow_81 : decode cX7_ofNow 81 = .ok (.iconst 1, 1) := by decide +kernel
theorem dX7_ofNow_82 : decode cX7_ofNow 82 = .ok (.iadd, 1) := by decide +kernel
theorem dX7_ofNow_83 : decode cX7_ofNow 83 = .ok (.goto 38, 3) := by decide +kernel
theorem dX7_ofNow_86 : decode cX7_ofNow 86 = .ok (.iload_n 2, 1) := by decide +kernel
theorem dX7_ofNow_87 : decode cX7_ofNow 87 = .ok (.bipush 8, 2) := by decide +kernel
theorem dX7_ofNow_89 : decode cX7_ofNow 89 = .ok (.if_icmp .ne 8, 3) := by decide +kernel
theorem dX7_ofNow_92 : decode cX7_ofNow 92 = .ok (.bipush 11, 2) := by decide +kernel
theorem dX7_ofNow_94 : decode cX7_ofNow 94 = .ok (.goto 27, 3) := by decide +kernel
theorem dX7_ofNow_97 : decode cX7_ofNow 97 = .ok (.iload_n 2, 1) := by decide +kernel
theorem dX7_ofNow_98 : decode cX7_ofNow 98 = .ok (.bipush 9, 2) := by decide +kernel
theorem dX7_ofNow_100 : decode cX7_ofNow 100 = .ok (.if_icmp .ne 8, 3) := by decide +kernel
theorem dX7_ofNow_103 : decode cX7_ofNow 103 = .ok (.bipush 12, 2) := by decide +kernel
theorem dX7_ofNow_105 : decode cX7_ofNow 105 = .ok (.goto 16, 3) := by decide +kernel
theorem dX7_ofNow_108 : decode cX7_ofNow 108 = .ok (.iload_n 2, 1) := by decide +kernel
theorem dX7_ofNow_109 : decode cX7_ofNow 109 = .ok (.bipush 10, 2) := by decide +kernel
theorem dX7_ofNow_111 : decode cX7_ofNow 111 = .ok (.if_icmp .ne 8, 3) := by decide +kernel
theorem dX7_ofNow_114 : decode cX7_ofNow 114 = .ok (.bipush 13, 2) := by decide +kernel
theorem dX7_ofNow_116 : decode cX7_ofNow 116 = .ok (.goto 5, 3) := by decide +kernel
theorem dX7_ofNow_119 : decode cX7_ofNow 119 = .ok (.bipush 14, 2) := by decide +kernel
theorem dX7_ofNow_121 : decode cX7_ofNow 121 = .ok (.invokevirtual 50, 3) := by decide +kernel
theorem dX7_ofNow_124 : decode cX7_ofNow 124 = .ok (.l2i, 1) := by decide +kernel
theorem dX7_ofNow_125 : decode cX7_ofNow 125 = .ok (.ireturn, 1) := by decide +kernel
theorem dX7_of_0 : decode cX7_of 0 = .ok (.aload_n 0, 1) := by decide +kernel
theorem dX7_of_1 : decode cX7_of 1 = .ok (.iload_n 1, 1) := by decide +kernel
theorem dX7_of_2 : decode cX7_of 2 = .ok (.invokevirtual 54, 3) := by decide +kernel
theorem dX7_of_5 : decode cX7_of 5 = .ok (.ifCond .eq 24, 3) := by decide +kernel
theorem dX7_of_8 : decode cX7_of 8 = .ok (.iload_n 2, 1) := by decide +kernel
theorem dX7_of_9 : decode cX7_of 9 = .ok (.i2l, 1) := by decide +kernel
theorem dX7_of_10 : decode cX7_of 10 = .ok (.lconst 0, 1) := by decide +kernel
theorem dX7_of_11 : decode cX7_of 11 = .ok (.ldc2_w 133, 3) := by decide +kernel
theorem dX7_of_14 : decode cX7_of 14 = .ok (.invokestatic 46, 3) := by decide +kernel
theorem dX7_of_17 : decode cX7_of 17 = .ok (.ifCond .eq 12, 3) := by decide +kernel
theorem dX7_of_20 : decode cX7_of 20 = .ok (.aload_n 0, 1) := by decide +kernel
theorem dX7_of_21 : decode cX7_of 21 = .ok (.iload_n 1, 1) := by decide +kernel
theorem dX7_of_22 : decode cX7_of 22 = .ok (.iload_n 2, 1) := by decide +kernel
theorem dX7_of_23 : decode cX7_of 23 = .ok (.invokevirtual 135, 3) := by decide +kernel
theorem dX7_of_26 : decode cX7_of 26 = .ok (.goto 9, 3) := by decide +kernel
theorem dX7_of_29 : decode cX7_of 29 = .ok (.aload_n 0, 1) := by decide +kernel
theorem dX7_of_30 : decode cX7_of 30 = .ok (.bipush (-2), 2) := by decide +kernel
theorem dX7_of_32 : decode cX7_of 32 = .ok (.invokevirtual 83, 3) := by decide +kernel
theorem dX7_of_35 : decode cX7_of 35 = .ok (.ireturn, 1) := by decide +kernel
theorem dX7_turn_0 : decode cX7_turn 0 = .ok (.aload_n 0, 1) := by decide +kernel
theorem dX7_turn_1 : decode cX7_turn 1 = .ok (.iload_n 1, 1) := by decide +kernel
theorem dX7_turn_2 : decode cX7_turn 2 = .ok (.invokevirtual 54, 3) := by decide +kernel
theorem dX7_turn_5 : decode cX7_turn 5 = .ok (.ifCond .eq 13, 3) := by decide +kernel
theorem dX7_turn_8 : decode cX7_turn 8 = .ok (.iload_n 2, 1) := by decide +kernel
theorem dX7_turn_9 : decode cX7_turn 9 = .ok (.i2l, 1) := by decide +kernel
theorem dX7_turn_10 : decode cX7_turn 10 = .ok (.lconst 0, 1) := by decide +kernel
theorem dX7_turn_11 : decode cX7_turn 11 = .ok (.lconst 1, 1) := by decide +kernel
theorem dX7_turn_12 : decode cX7_turn 12 = .ok (.invokestatic 46, 3) := by decide +kernel
theorem dX7_turn_15 : decode cX7_turn 15 = .ok (.ifCond .ne 12, 3) := by decide +kernel
theorem dX7_turn_18 : decode cX7_turn 18 = .ok (.iload_n 1, 1) := by decide +kernel
theorem dX7_turn_19 : decode cX7_turn 19 = .ok (.ifCond .ne 12, 3) := by decide +kernel
theorem dX7_turn_22 : decode cX7_turn 22 = .ok (.iload_n 2, 1) := by decide +kernel
theorem dX7_turn_23 : decode cX7_turn 23 = .ok (.iconst 1, 1) := by decide +kernel
theorem dX7_turn_24 : decode cX7_turn 24 = .ok (.if_icmp .ne 7, 3) := by decide +kernel
theorem dX7_turn_27 : decode cX7_turn 27 = .ok (.iconst 1, 1) := by decide +kernel
theorem dX7_turn_28 : decode cX7_turn 28 = .ok (.goto 4, 3) := by decide +kernel
theorem dX7_turn_31 : decode cX7_turn 31 = .ok (.iconst 0, 1) := by decide +kernel
theorem dX7_turn_32 : decode cX7_turn 32 = .ok (.istore_n 3, 1) := by decide +kernel
theorem dX7_turn_33 : decode cX7_turn 33 = .ok (.iload_n 3, 1) := by decide +kernel
theorem dX7_turn_34 : decode cX7_turn 34 = .ok (.ifCond .eq 22, 3) := by decide +kernel
theorem dX7_turn_37 : decode cX7_turn 37 = .ok (.aload_n 0, 1) := by decide +kernel
theorem dX7_turn_38 : decode cX7_turn 38 = .ok (.iload_n 1, 1) := by decide +kernel
theorem dX7_turn_39 : decode cX7_turn 39 = .ok (.iload_n 2, 1) := by decide +kernel
theorem dX7_turn_40 : decode cX7_turn 40 = .ok (.ifCond .ne 8, 3) := by decide +kernel
theorem dX7_turn_43 : decode cX7_turn 43 = .ok (.bipush 9, 2) := by decide +kernel
theorem dX7_turn_45 : decode cX7_turn 45 = .ok (.goto 5, 3) := by decide +kernel
theorem dX7_turn_48 : decode cX7_turn 48 = .ok (.bipush 10, 2) := by decide +kernel
theorem dX7_turn_50 : decode cX7_turn 50 = .ok (.invokevirtual 50, 3) := by decide +kernel
theorem dX7_turn_53 : decode cX7_turn 53 = .ok (.goto 10, 3) := by decide +kernel
theorem dX7_turn_56 : decode cX7_turn 56 = .ok (.aload_n 0, 1) := by decide +kernel
theorem dX7_turn_57 : decode cX7_turn 57 = .ok (.bipush (-2), 2) := by decide +kernel
theorem dX7_turn_59 : decode cX7_turn 59 = .ok (.invokevirtual 83, 3) := by decide +kernel
theorem dX7_turn_62 : decode cX7_turn 62 = .ok (.i2l, 1) := by decide +kernel
theorem dX7_turn_63 : decode cX7_turn 63 = .ok (.lreturn, 1) := by decide +kernel
theorem dX7_child_0 : decode cX7_child 0 = .ok (.aload_n 0, 1) := by decide +kernel
theorem dX7_child_1 : decode cX7_child 1 = .ok (.iload_n 1, 1) := by decide +kernel
theorem dX7_child_2 : decode cX7_child 2 = .ok (.invokevirtual 78, 3) := by decide +kernel
theorem dX7_child_5 : decode cX7_child 5 = .ok (.ifCond .eq 7, 3) := by decide +kernel
theorem dX7_child_8 : decode cX7_child 8 = .ok (.iload_n 2, 1) := by decide +kernel
theorem dX7_child_9 : decode cX7_child 9 = .ok (.ifCond .ge 10, 3) := by decide +kernel
theorem dX7_child_12 : decode cX7_child 12 = .ok (.aload_n 0, 1) := by decide +kernel
theorem dX7_child_13 : decode cX7_child 13 = .ok (.bipush (-2), 2) := by decide +kernel
theorem dX7_child_15 : decode cX7_child 15 = .ok (.invokevirtual 83, 3) := by decide +kernel
theorem dX7_child_18 : decode cX7_child 18 = .ok (.ireturn, 1) := by decide +kernel
theorem dX7_child_19 : decode cX7_child 19 = .ok (.iload_n 2, 1) := by decide +kernel
theorem dX7_child_20 : decode cX7_child 20 = .ok (.istore_n 3, 1) := by decide +kernel
theorem dX7_child_21 : decode cX7_child 21 = .ok (.iconst 1, 1) := by decide +kernel
theorem dX7_child_22 : decode cX7_child 22 = .ok (.istore 4, 2) := by decide +kernel
theorem dX7_child_24 : decode cX7_child 24 = .ok (.iload 4, 2) := by decide +kernel
theorem dX7_child_26 : decode cX7_child 26 = .ok (.bipush 12, 2) := by decide +kernel
theorem dX7_child_28 : decode cX7_child 28 = .ok (.if_icmp .gt 29, 3) := by decide +kernel
theorem dX7_child_31 : decode cX7_child 31 = .ok (.aload_n 0, 1) := by decide +kernel
theorem dX7_child_32 : decode cX7_child 32 = .ok (.iload 4, 2) := by decide +kernel
theorem dX7_child_34 : decode cX7_child 34 = .ok (.iload_n 1, 1) := by decide +kernel
theorem dX7_child_35 : decode cX7_child 35 = .ok (.invokevirtual 62, 3) := by decide +kernel
theorem dX7_child_38 : decode cX7_child 38 = .ok (.ifCond .eq 13, 3) := by decide +kernel
theorem dX7_child_41 : decode cX7_child 41 = .ok (.iload_n 3, 1) := by decide +kernel
theorem dX7_child_42 : decode cX7_child 42 = .ok (.ifCond .ne 6, 3) := by decide +kernel
theorem dX7_child_45 : decode cX7_child 45 = .ok (.iload 4, 2) := by decide +kernel
theorem dX7_child_47 : decode cX7_child 47 = .ok (.ireturn, 1) := by decide +kernel
theorem dX7_child_48 : decode cX7_child 48 = .ok (.iinc 3 (-1), 3) := by decide +kernel
theorem dX7_child_51 : decode cX7_child 51 = .ok (.iinc 4 1, 3) := by decide +kernel
theorem dX7_child_54 : decode cX7_child 54 = .ok (.goto (-30), 3) := by decide +kernel
theorem dX7_child_57 : decode cX7_child 57 = .ok (.iconst (-1), 1) := by decide +kernel
theorem dX7_child_58 : decode cX7_child 58 = .ok (.ireturn, 1) := by decide +kernel
theorem dX7_common_0 : decode cX7_common 0 = .ok (.aload_n 0, 1) := by decide +kernel
theorem dX7_common_1 : decode cX7_common 1 = .ok (.iload_n 1, 1) := by decide +kernel
theorem dX7_common_2 : decode cX7_common 2 = .ok (.invokevirtual 54, 3) := by decide +kernel
theorem dX7_common_5 : decode cX7_common 5 = .ok (.ifCond .eq 11, 3) := by decide +kernel
theorem dX7_common_8 : decode cX7_common 8 = .ok (.aload_n 0, 1) := by decide +kernel
theorem dX7_common_9 : decode cX7_common 9 = .ok (.iload_n 2, 1) := by decide +kernel
theorem dX7_common_10 : decode cX7_common 10 = .ok (.invokevirtual 54, 3) := by decide +kernel
theorem dX7_common_13 : decode cX7_common 13 = .ok (.ifCond .ne 10, 3) := by decide +kernel
theorem dX7_common_16 : decode cX7_common 16 = .ok (.aload_n 0, 1) := by decide +kernel
theorem dX7_common_17 : decode cX7_common 17 = .ok (.bipush (-2), 2) := by decide +kernel
theorem dX7_common_19 : decode cX7_common 19 = .ok (.invokevirtual 83, 3) := by decide +kernel
theorem dX7_common_22 : decode cX7_common 22 = .ok (.ireturn, 1) := by decide +kernel
theorem dX7_common_23 : decode cX7_common 23 = .ok (.iload_n 1, 1) := by decide +kernel
theorem dX7_common_24 : decode cX7_common 24 = .ok (.istore_n 3, 1) := by decide +kernel
theorem dX7_common_25 : decode cX7_common 25 = .ok (.iload_n 3, 1) := by decide +kernel
theorem dX7_common_26 : decode cX7_common 26 = .ok (.ifCond .eq 26, 3) := by decide +kernel
theorem dX7_common_29 : decode cX7_common 29 = .ok (.iload_n 3, 1) := by decide +kernel
theorem dX7_common_30 : decode cX7_common 30 = .ok (.iload_n 2, 1) := by decide +kernel
theorem dX7_common_31 : decode cX7_common 31 = .ok (.if_icmp .eq 21, 3) := by decide +kernel
theorem dX7_common_34 : decode cX7_common 34 = .ok (.aload_n 0, 1) := by decide +kernel
theorem dX7_common_35 : decode cX7_common 35 = .ok (.iload_n 2, 1) := by decide +kernel
theorem dX7_common_36 : decode cX7_common 36 = .ok (.iload_n 3, 1) := by decide +kernel
theorem dX7_common_37 : decode cX7_common 37 = .ok (.invokevirtual 99, 3) := by decide +kernel
theorem dX7_common_40 : decode cX7_common 40 = .ok (.ifCond .ne 12, 3) := by decide +kernel
theorem dX7_common_43 : decode cX7_common 43 = .ok (.aload_n 0, 1) := by decide +kernel
theorem dX7_common_44 : decode cX7_common 44 = .ok (.iload_n 3, 1) := by decide +kernel
theorem dX7_common_45 : decode cX7_common 45 = .ok (.invokevirtual 58, 3) := by decide +kernel
theorem dX7_common_48 : decode cX7_common 48 = .ok (.istore_n 3, 1) := by decide +kernel
theorem dX7_common_49 : decode cX7_common 49 = .ok (.goto (-24), 3) := by decide +kernel
theorem dX7_common_52 : decode cX7_common 52 = .ok (.iload_n 3, 1) := by decide +kernel
theorem dX7_common_53 : decode cX7_common 53 = .ok (.ireturn, 1) := by decide +kernel
theorem dX7_readies_0 : decode cX7_readies 0 = .ok (.aload_n 0, 1) := by decide +kernel
theorem dX7_readies_1 : decode cX7_readies 1 = .ok (.iload_n 1, 1) := by decide +kernel
theorem dX7_readies_2 : decode cX7_readies 2 = .ok (.invokevirtual 54, 3) := by decide +kernel
theorem dX7_readies_5 : decode cX7_readies 5 = .ok (.ifCond .eq 15, 3) := by decide +kernel
theorem dX7_readies_8 : decode cX7_readies 8 = .ok (.iload_n 2, 1) := by decide +kernel
theorem dX7_readies_9 : decode cX7_readies 9 = .ok (.i2l, 1) := by decide +kernel
theorem dX7_readies_10 : decode cX7_readies 10 = .ok (.lconst 1, 1) := by decide +kernel
theorem dX7_readies_11 : decode cX7_readies 11 = .ok (.ldc2_w 139, 3) := by decide +kernel
theorem dX7_readies_14 : decode cX7_readies 14 = .ok (.invokestatic 46, 3) := by decide +kernel
theorem dX7_readies_17 : decode cX7_readies 17 = .ok (.ifCond .ne 10, 3) := by decide +kernel
theorem dX7_readies_20 : decode cX7_readies 20 = .ok (.aload_n 0, 1) := by decide +kernel
theorem dX7_readies_21 : decode cX7_readies 21 = .ok (.bipush (-2), 2) := by decide +kernel
theorem dX7_readies_23 : decode cX7_readies 23 = .ok (.invokevirtual 83, 3) := by decide +kernel
theorem dX7_readies_26 : decode cX7_readies 26 = .ok (.ireturn, 1) := by decide +kernel
theorem dX7_readies_27 : decode cX7_readies 27 = .ok (.aload_n 0, 1) := by decide +kernel
theorem dX7_readies_28 : decode cX7_readies 28 = .ok (.iload_n 1, 1) := by decide +kernel
theorem dX7_readies_29 : decode cX7_readies 29 = .ok (.bipush 7, 2) := by decide +kernel
theorem dX7_readies_31 : decode cX7_readies 31 = .ok (.invokevirtual 50, 3) := by decide +kernel
theorem dX7_readies_34 : decode cX7_readies 34 = .ok (.lconst 0, 1) := by decide +kernel
theorem dX7_readies_35 : decode cX7_readies 35 = .ok (.lcmp, 1) := by decide +kernel
theorem dX7_readies_36 : decode cX7_readies 36 = .ok (.ifCond .eq 19, 3) := by decide +kernel
theorem dX7_readies_39 : decode cX7_readies 39 = .ok (.aload_n 0, 1) := by decide +kernel
theorem dX7_readies_40 : decode cX7_readies 40 = .ok (.iload_n 1, 1) := by decide +kernel
theorem dX7_readies_41 : decode cX7_readies 41 = .ok (.iconst 3, 1) := by decide +kernel
theorem dX7_readies_42 : decode cX7_readies 42 = .ok (.invokevirtual 50, 3) := by decide +kernel
theorem dX7_readies_45 : decode cX7_readies 45 = .ok (.iload_n 2, 1) := by decide +kernel
theorem dX7_readies_46 : decode cX7_readies 46 = .ok (.i2l, 1) := by decide +kernel
theorem dX7_readies_47 : decode cX7_readies 47 = .ok (.ladd, 1) := by decide +kernel
theorem dX7_readies_48 : decode cX7_readies 48 = .ok (.ldc2_w 139, 3) := by decide +kernel
theorem dX7_readies_51 : decode cX7_readies 51 = .ok (.lcmp, 1) := by decide +kernel
theorem dX7_readies_52 : decode cX7_readies 52 = .ok (.ifCond .le 10, 3) := by decide +kernel
theorem dX7_readies_55 : decode cX7_readies 55 = .ok (.aload_n 0, 1) := by decide +kernel
theorem dX7_readies_56 : decode cX7_readies 56 = .ok (.bipush (-3), 2) := by decide +kernel
theorem dX7_readies_58 : decode cX7_readies 58 = .ok (.invokevirtual 83, 3) := by decide +kernel
theorem dX7_readies_61 : decode cX7_readies 61 = .ok (.ireturn, 1) := by decide +kernel
theorem dX7_readies_62 : decode cX7_readies 62 = .ok (.aload_n 0, 1) := by decide +kernel
theorem dX7_readies_63 : decode cX7_readies 63 = .ok (.invokevirtual 86, 3) := by decide +kernel
theorem dX7_readies_66 : decode cX7_readies 66 = .ok (.aload_n 0, 1) := by decide +kernel
theorem dX7_readies_67 : decode cX7_readies 67 = .ok (.iload_n 1, 1) := by decide +kernel
theorem dX7_readies_68 : decode cX7_readies 68 = .ok (.iconst 3, 1) := by decide +kernel
theorem dX7_readies_69 : decode cX7_readies 69 = .ok (.aload_n 0, 1) := by decide +kernel
theorem dX7_readies_70 : decode cX7_readies 70 = .ok (.iload_n 1, 1) := by decide +kernel
theorem dX7_readies_71 : decode cX7_readies 71 = .ok (.iconst 3, 1) := by decide +kernel
theorem dX7_readies_72 : decode cX7_readies 72 = .ok (.invokevirtual 50, 3) := by decide +kernel
theorem dX7_readies_75 : decode cX7_readies 75 = .ok (.iload_n 2, 1) := by decide +kernel
theorem dX7_readies_76 : decode cX7_readies 76 = .ok (.i2l, 1) := by decide +kernel
theorem dX7_readies_77 : decode cX7_readies 77 = .ok (.ladd, 1) := by decide +kernel
theorem dX7_readies_78 : decode cX7_readies 78 = .ok (.invokevirtual 66, 3) := by decide +kernel
theorem dX7_readies_81 : decode cX7_readies 81 = .ok (.aload_n 0, 1) := by decide +kernel
theorem dX7_readies_82 : decode cX7_readies 82 = .ok (.iload_n 1, 1) := by decide +kernel
theorem dX7_readies_83 : decode cX7_readies 83 = .ok (.iconst 3, 1) := by decide +kernel
theorem dX7_readies_84 : decode cX7_readies 84 = .ok (.invokevirtual 50, 3) := by decide +kernel
theorem dX7_readies_87 : decode cX7_readies 87 = .ok (.l2i, 1) := by decide +kernel
theorem dX7_readies_88 : decode cX7_readies 88 = .ok (.ireturn, 1) := by decide +kernel
theorem dX7_window_0 : decode cX7_window 0 = .ok (.aload_n 0, 1) := by decide +kernel
theorem dX7_window_1 : decode cX7_window 1 = .ok (.iload_n 1, 1) := by decide +kernel
theorem dX7_window_2 : decode cX7_window 2 = .ok (.invokevirtual 54, 3) := by decide +kernel
theorem dX7_window_5 : decode cX7_window 5 = .ok (.ifCond .eq 15, 3) := by decide +kernel
theorem dX7_window_8 : decode cX7_window 8 = .ok (.iload_n 2, 1) := by decide +kernel
theorem dX7_window_9 : decode cX7_window 9 = .ok (.i2l, 1) := by decide +kernel
theorem dX7_window_10 : decode cX7_window 10 = .ok (.lconst 0, 1) := by decide +kernel
theorem dX7_window_11 : decode cX7_window 11 = .ok (.ldc2_w 139, 3) := by decide +kernel
theorem dX7_window_14 : decode cX7_window 14 = .ok (.invokestatic 46, 3) := by decide +kernel
theorem dX7_window_17 : decode cX7_window 17 = .ok (.ifCond .ne 10, 3) := by decide +kernel
theorem dX7_window_20 : decode cX7_window 20 = .ok (.aload_n 0, 1) := by decide +kernel
theorem dX7_window_21 : decode cX7_window 21 = .ok (.bipush (-2), 2) := by decide +kernel
theorem dX7_window_23 : decode cX7_window 23 = .ok (.invokevirtual 83, 3) := by decide +kernel
theorem dX7_window_26 : decode cX7_window 26 = .ok (.ireturn, 1) := by decide +kernel
theorem dX7_window_27 : decode cX7_window 27 = .ok (.aload_n 0, 1) := by decide +kernel
theorem dX7_window_28 : decode cX7_window 28 = .ok (.invokevirtual 86, 3) := by decide +kernel
theorem dX7_window_31 : decode cX7_window 31 = .ok (.aload_n 0, 1) := by decide +kernel
theorem dX7_window_32 : decode cX7_window 32 = .ok (.iload_n 1, 1) := by decide +kernel
theorem dX7_window_33 : decode cX7_window 33 = .ok (.iconst 4, 1) := by decide +kernel
theorem dX7_window_34 : decode cX7_window 34 = .ok (.invokevirtual 50, 3) := by decide +kernel
theorem dX7_window_37 : decode cX7_window 37 = .ok (.l2i, 1) := by decide +kernel
theorem dX7_window_38 : decode cX7_window 38 = .ok (.istore_n 3, 1) := by decide +kernel
theorem dX7_window_39 : decode cX7_window 39 = .ok (.aload_n 0, 1) := by decide +kernel
theorem dX7_window_40 : decode cX7_window 40 = .ok (.iload_n 1, 1) := by decide +kernel
theorem dX7_window_41 : decode cX7_window 41 = .ok (.iconst 4, 1) := by decide +kernel
theorem dX7_window_42 : decode cX7_window 42 = .ok (.iload_n 2, 1) := by decide +kernel
theorem dX7_window_43 : decode cX7_window 43 = .ok (.i2l, 1) := by decide +kernel
theorem dX7_window_44 : decode cX7_window 44 = .ok (.invokevirtual 66, 3) := by decide +kernel
theorem dX7_window_47 : decode cX7_window 47 = .ok (.iload_n 3, 1) := by decide +kernel
theorem dX7_window_48 : decode cX7_window 48 = .ok (.ireturn, 1) := by decide +kernel
theorem dX7_settings_0 : decode cX7_settings 0 = .ok (.iload_n 1, 1) := by decide +kernel
theorem dX7_settings_1 : decode cX7_settings 1 = .ok (.ifCond .ne 15, 3) := by decide +kernel
theorem dX7_settings_4 : decode cX7_settings 4 = .ok (.iload_n 2, 1) := by decide +kernel
theorem dX7_settings_5 : decode cX7_settings 5 = .ok (.i2l, 1) := by decide +kernel
theorem dX7_settings_6 : decode cX7_settings 6 = .ok (.lconst 0, 1) := by decide +kernel
theorem dX7_settings_7 : decode cX7_settings 7 = .ok (.ldc2_w 141, 3) := by decide +kernel
theorem dX7_settings_10 : decode cX7_settings 10 = .ok (.invokestatic 46, 3) := by decide +kernel
theorem dX7_settings_13 : decode cX7_settings 13 = .ok (.goto 57, 3) := by decide +kernel
theorem dX7_settings_16 : decode cX7_settings 16 = .ok (.iload_n 1, 1) := by decide +kernel
theorem dX7_settings_17 : decode cX7_settings 17 = .ok (.iconst 1, 1) := by decide +kernel
theorem dX7_settings_18 : decode cX7_settings 18 = .ok (.if_icmp .ne 15, 3) := by decide +kernel
theorem dX7_settings_21 : decode cX7_settings 21 = .ok (.iload_n 2, 1) := by decide +kernel
theorem dX7_settings_22 : decode cX7_settings 22 = .ok (.i2l, 1) := by decide +kernel
theorem dX7_settings_23 : decode cX7_settings 23 = .ok (.lconst 1, 1) := by decide +kernel
theorem dX7_settings_24 : decode cX7_settings 24 = .ok (.ldc2_w 143, 3) := by decide +kernel
theorem dX7_settings_27 : decode cX7_settings 27 = .ok (.invokestatic 46, 3) := by decide +kernel
theorem dX7_settings_30 : decode cX7_settings 30 = .ok (.goto 40, 3) := by decide +kernel
theorem dX7_settings_33 : decode cX7_settings 33 = .ok (.iload_n 1, 1) := by decide +kernel
theorem dX7_settings_34 : decode cX7_settings 34 = .ok (.iconst 2, 1) := by decide +kernel
theorem dX7_settings_35 : decode cX7_settings 35 = .ok (.if_icmp .ne 15, 3) := by decide +kernel
theorem dX7_settings_38 : decode cX7_settings 38 = .ok (.iload_n 2, 1) := by decide +kernel
theorem dX7_settings_39 : decode cX7_settings 39 = .ok (.i2l, 1) := by decide +kernel
theorem dX7_settings_40 : decode cX7_settings 40 = .ok (.lconst 0, 1) := by decide +kernel
theorem dX7_settings_41 : decode cX7_settings 41 = .ok (.ldc2_w 145, 3) := by decide +kernel
theorem dX7_settings_44 : decode cX7_settings 44 = .ok (.invokestatic 46, 3) := by decide +kernel
theorem dX7_settings_47 : decode cX7_settings 47 = .ok (.goto 23, 3) := by decide +kernel
theorem dX7_settings_50 : decode cX7_settings 50 = .ok (.iload_n 1, 1) := by decide +kernel
theorem dX7_settings_51 : decode cX7_settings 51 = .ok (.iconst 3, 1) := by decide +kernel
theorem dX7_settings_52 : decode cX7_settings 52 = .ok (.if_icmp .ne 17, 3) := by decide +kernel
theorem dX7_settings_55 : decode cX7_settings 55 = .ok (.iload_n 2, 1) := by decide +kernel
theorem dX7_settings_56 : decode cX7_settings 56 = .ok (.i2l, 1) := by decide +kernel
theorem dX7_settings_57 : decode cX7_settings 57 = .ok (.lconst 0, 1) := by decide +kernel
theorem dX7_settings_58 : decode cX7_settings 58 = .ok (.lconst 1, 1) := by decide +kernel
theorem dX7_settings_59 : decode cX7_settings 59 = .ok (.invokestatic 46, 3) := by decide +kernel
theorem dX7_settings_62 : decode cX7_settings 62 = .ok (.ifCond .eq 7, 3) := by decide +kernel
theorem dX7_settings_65 : decode cX7_settings 65 = .ok (.iconst 1, 1) := by decide +kernel
theorem dX7_settings_66 : decode cX7_settings 66 = .ok (.goto 4, 3) := by decide +kernel
theorem dX7_settings_69 : decode cX7_settings 69 = .ok (.iconst 0, 1) := by decide +kernel
theorem dX7_settings_70 : decode cX7_settings 70 = .ok (.istore_n 3, 1) := by decide +kernel
theorem dX7_settings_71 : decode cX7_settings 71 = .ok (.iload_n 3, 1) := by decide +kernel
theorem dX7_settings_72 : decode cX7_settings 72 = .ok (.ifCond .ne 10, 3) := by decide +kernel
theorem dX7_settings_75 : decode cX7_settings 75 = .ok (.aload_n 0, 1) := by decide +kernel
theorem dX7_settings_76 : decode cX7_settings 76 = .ok (.bipush (-2), 2) := by decide +kernel
theorem dX7_settings_78 : decode cX7_settings 78 = .ok (.invokevirtual 83, 3) := by decide +kernel
theorem dX7_settings_81 : decode cX7_settings 81 = .ok (.ireturn, 1) := by decide +kernel
theorem dX7_settings_82 : decode cX7_settings 82 = .ok (.aload_n 0, 1) := by decide +kernel
theorem dX7_settings_83 : decode cX7_settings 83 = .ok (.invokevirtual 86, 3) := by decide +kernel
theorem dX7_settings_86 : decode cX7_settings 86 = .ok (.aload_n 0, 1) := by decide +kernel
theorem dX7_settings_87 : decode cX7_settings 87 = .ok (.getfield 7, 3) := by decide +kernel
theorem dX7_settings_90 : decode cX7_settings 90 = .ok (.sipush 208, 3) := by decide +kernel
theorem dX7_settings_93 : decode cX7_settings 93 = .ok (.iload_n 1, 1) := by decide +kernel
theorem dX7_settings_94 : decode cX7_settings 94 = .ok (.iadd, 1) := by decide +kernel
theorem dX7_settings_95 : decode cX7_settings 95 = .ok (.laload, 1) := by decide +kernel
theorem dX7_settings_96 : decode cX7_settings 96 = .ok (.l2i, 1) := by decide +kernel
theorem dX7_settings_97 : decode cX7_settings 97 = .ok (.istore 4, 2) := by decide +kernel
theorem dX7_settings_99 : decode cX7_settings 99 = .ok (.aload_n 0, 1) := by decide +kernel
theorem dX7_settings_100 : decode cX7_settings 100 = .ok (.getfield 7, 3) := by decide +kernel
theorem dX7_settings_103 : decode cX7_settings 103 = .ok (.sipush 208, 3) := by decide +kernel
theorem dX7_settings_106 : decode cX7_settings 106 = .ok (.iload_n 1, 1) := by decide +kernel
theorem dX7_settings_107 : decode cX7_settings 107 = .ok (.iadd, 1) := by decide +kernel
theorem dX7_settings_108 : decode cX7_settings 108 = .ok (.iload_n 2, 1) := by decide +kernel
theorem dX7_settings_109 : decode cX7_settings 109 = .ok (.i2l, 1) := by decide +kernel
theorem dX7_settings_110 : decode cX7_settings 110 = .ok (.lastore, 1) := by decide +kernel
theorem dX7_settings_111 : decode cX7_settings 111 = .ok (.iload_n 1, 1) := by decide +kernel
theorem dX7_settings_112 : decode cX7_settings 112 = .ok (.iconst 2, 1) := by decide +kernel
theorem dX7_settings_113 : decode cX7_settings 113 = .ok (.if_icmp .ne 7, 3) := by decide +kernel
theorem dX7_settings_116 : decode cX7_settings 116 = .ok (.aload_n 0, 1) := by decide +kernel
theorem dX7_settings_117 : decode cX7_settings 117 = .ok (.invokevirtual 114, 3) := by decide +kernel
theorem dX7_settings_120 : decode cX7_settings 120 = .ok (.iload 4, 2) := by decide +kernel
theorem dX7_settings_122 : decode cX7_settings 122 = .ok (.ireturn, 1) := by decide +kernel
theorem dX7_turnThen_0 : decode cX7_turnThen 0 = .ok (.iload_n 2, 1) := by decide +kernel
theorem dX7_turnThen_1 : decode cX7_turnThen 1 = .ok (.iload_n 1, 1) := by decide +kernel
theorem dX7_turnThen_2 : decode cX7_turnThen 2 = .ok (.ishr, 1) := by decide +kernel
theorem dX7_turnThen_3 : decode cX7_turnThen 3 = .ok (.iconst 1, 1) := by decide +kernel
theorem dX7_turnThen_4 : decode cX7_turnThen 4 = .ok (.iand, 1) := by decide +kernel
theorem dX7_turnThen_5 : decode cX7_turnThen 5 = .ok (.iconst 1, 1) := by decide +kernel
theorem dX7_turnThen_6 : decode cX7_turnThen 6 = .ok (.if_icmp .ne 19, 3) := by decide +kernel
theorem dX7_turnThen_9 : decode cX7_turnThen 9 = .ok (.aload_n 0, 1) := by decide +kernel
theorem dX7_turnThen_10 : decode cX7_turnThen 10 = .ok (.iload_n 1, 1) := by decide +kernel
theorem dX7_turnThen_11 : decode cX7_turnThen 11 = .ok (.bipush 15, 2) := by decide +kernel
theorem dX7_turnThen_13 : decode cX7_turnThen 13 = .ok (.invokevirtual 50, 3) := by decide +kernel
theorem dX7_turnThen_16 : decode cX7_turnThen 16 = .ok (.lconst 0, 1) := by decide +kernel
theorem dX7_turnThen_17 : decode cX7_turnThen 17 = .ok (.lcmp, 1) := by decide +kernel
theorem dX7_turnThen_18 : decode cX7_turnThen 18 = .ok (.ifCond .ne 7, 3) := by decide +kernel
theorem dX7_turnThen_21 : decode cX7_turnThen 21 = .ok (.iconst 1, 1) := by decide +kernel
theorem dX7_turnThen_22 : decode cX7_turnThen 22 = .ok (.goto 4, 3) := by decide +kernel
theorem dX7_turnThen_25 : decode cX7_turnThen 25 = .ok (.iconst 0, 1) := by decide +kernel
theorem dX7_turnThen_26 : decode cX7_turnThen 26 = .ok (.istore_n 3, 1) := by decide +kernel
theorem dX7_turnThen_27 : decode cX7_turnThen 27 = .ok (.aload_n 0, 1) := by decide +kernel
theorem dX7_turnThen_28 : decode cX7_turnThen 28 = .ok (.aload_n 0, 1) := by decide +kernel
theorem dX7_turnThen_29 : decode cX7_turnThen 29 = .ok (.iload_n 1, 1) := by decide +kernel
theorem dX7_turnThen_30 : decode cX7_turnThen 30 = .ok (.invokevirtual 58, 3) := by decide +kernel
theorem dX7_turnThen_33 : decode cX7_turnThen 33 = .ok (.bipush 10, 2) := by decide +kernel
theorem dX7_turnThen_35 : decode cX7_turnThen 35 = .ok (.invokevirtual 50, 3) := by decide +kernel
theorem dX7_turnThen_38 : decode cX7_turnThen 38 = .ok (.lstore 4, 2) := by decide +kernel
theorem dX7_turnThen_40 : decode cX7_turnThen 40 = .ok (.iload_n 3, 1) := by decide +kernel
theorem dX7_turnThen_41 : decode cX7_turnThen 41 = .ok (.ifCond .eq 21, 3) := by decide +kernel
theorem dX7_turnThen_44 : decode cX7_turnThen 44 = .ok (.lload 4, 2) := by decide +kernel
theorem dX7_turnThen_46 : decode cX7_turnThen 46 = .ok (.aload_n 0, 1) := by decide +kernel
theorem dX7_turnThen_47 : decode cX7_turnThen 47 = .ok (.iload_n 1, 1) := by decide +kernel
theorem dX7_turnThen_48 : decode cX7_turnThen 48 = .ok (.bipush 9, 2) := by decide +kernel
theorem dX7_turnThen_50 : decode cX7_turnThen 50 = .ok (.invokevirtual 50, 3) := by decide +kernel
theorem dX7_turnThen_53 : decode cX7_turnThen 53 = .ok (.lcmp, 1) := by decide +kernel
theorem dX7_turnThen_54 : decode cX7_turnThen 54 = .ok (.ifCond .le 8, 3) := by decide +kernel
theorem dX7_turnThen_57 : decode cX7_turnThen 57 = .ok (.lload 4, 2) := by decide +kernel
theorem dX7_turnThen_59 : decode cX7_turnThen 59 = .ok (.goto 10, 3) := by decide +kernel
theorem dX7_turnThen_62 : decode cX7_turnThen 62 = .ok (.aload_n 0, 1) := by decide +kernel
theorem dX7_turnThen_63 : decode cX7_turnThen 63 = .ok (.iload_n 1, 1) := by decide +kernel
theorem dX7_turnThen_64 : decode cX7_turnThen 64 = .ok (.bipush 9, 2) := by decide +kernel
theorem dX7_turnThen_66 : decode cX7_turnThen 66 = .ok (.invokevirtual 50, 3) := by decide +kernel
theorem dX7_turnThen_69 : decode cX7_turnThen 69 = .ok (.lreturn, 1) := by decide +kernel
theorem dX7_first_0 : decode cX7_first 0 = .ok (.iconst (-1), 1) := by decide +kernel
theorem dX7_first_1 : decode cX7_first 1 = .ok (.istore_n 3, 1) := by decide +kernel
theorem dX7_first_2 : decode cX7_first 2 = .ok (.iconst 1, 1) := by decide +kernel
theorem dX7_first_3 : decode cX7_first 3 = .ok (.istore 4, 2) := by decide +kernel
theorem dX7_first_5 : decode cX7_first 5 = .ok (.iload 4, 2) := by decide +kernel
theorem dX7_first_7 : decode cX7_first 7 = .ok (.bipush 12, 2) := by decide +kernel
theorem dX7_first_9 : decode cX7_first 9 = .ok (.if_icmp .gt 54, 3) := by decide +kernel
theorem dX7_first_12 : decode cX7_first 12 = .ok (.aload_n 0, 1) := by decide +kernel
theorem dX7_first_13 : decode cX7_first 13 = .ok (.iload 4, 2) := by decide +kernel
theorem dX7_first_15 : decode cX7_first 15 = .ok (.iload_n 1, 1) := by decide +kernel
theorem dX7_first_16 : decode cX7_first 16 = .ok (.invokevirtual 62, 3) := by decide +kernel
theorem dX7_first_19 : decode cX7_first 19 = .ok (.ifCond .eq 38, 3) := by decide +kernel
theorem dX7_first_22 : decode cX7_first 22 = .ok (.iload_n 2, 1) := by decide +kernel
theorem dX7_first_23 : decode cX7_first 23 = .ok (.iload 4, 2) := by decide +kernel
theorem dX7_first_25 : decode cX7_first 25 = .ok (.ishr, 1) := by decide +kernel
theorem dX7_first_26 : decode cX7_first 26 = .ok (.iconst 1, 1) := by decide +kernel
theorem dX7_first_27 : decode cX7_first 27 = .ok (.iand, 1) := by decide +kernel
theorem dX7_first_28 : decode cX7_first 28 = .ok (.iconst 1, 1) := by decide +kernel
theorem dX7_first_29 : decode cX7_first 29 = .ok (.if_icmp .ne 28, 3) := by decide +kernel
theorem dX7_first_32 : decode cX7_first 32 = .ok (.iload_n 3, 1) := by decide +kernel
theorem dX7_first_33 : decode cX7_first 33 = .ok (.iconst (-1), 1) := by decide +kernel
theorem dX7_first_34 : decode cX7_first 34 = .ok (.if_icmp .eq 20, 3) := by decide +kernel
theorem dX7_first_37 : decode cX7_first 37 = .ok (.aload_n 0, 1) := by decide +kernel
theorem dX7_first_38 : decode cX7_first 38 = .ok (.iload 4, 2) := by decide +kernel
theorem dX7_first_40 : decode cX7_first 40 = .ok (.iload_n 2, 1) := by decide +kernel
theorem dX7_first_41 : decode cX7_first 41 = .ok (.invokevirtual 147, 3) := by decide +kernel
theorem dX7_first_44 : decode cX7_first 44 = .ok (.aload_n 0, 1) := by decide +kernel
theorem dX7_first_45 : decode cX7_first 45 = .ok (.iload_n 3, 1) := by decide +kernel
theorem dX7_first_46 : decode cX7_first 46 = .ok (.iload_n 2, 1) := by decide +kernel
theorem dX7_first_47 : decode cX7_first 47 = .ok (.invokevirtual 147, 3) := by decide +kernel
theorem dX7_first_50 : decode cX7_first 50 = .ok (.lcmp, 1) := by decide +kernel
theorem dX7_first_51 : decode cX7_first 51 = .ok (.ifCond .ge 6, 3) := by decide +kernel
theorem dX7_first_54 : decode cX7_first 54 = .ok (.iload 4, 2) := by decide +kernel
theorem dX7_first_56 : decode cX7_first 56 = .ok (.istore_n 3, 1) := by decide +kernel
theorem dX7_first_57 : decode cX7_first 57 = .ok (.iinc 4 1, 3) := by decide +kernel
theorem dX7_first_60 : decode cX7_first 60 = .ok (.goto (-55), 3) := by decide +kernel
theorem dX7_first_63 : decode cX7_first 63 = .ok (.iload_n 3, 1) := by decide +kernel
theorem dX7_first_64 : decode cX7_first 64 = .ok (.ireturn, 1) := by decide +kernel
theorem dX7_byTree_0 : decode cX7_byTree 0 = .ok (.aload_n 0, 1) := by decide +kernel
theorem dX7_byTree_1 : decode cX7_byTree 1 = .ok (.invokevirtual 150, 3) := by decide +kernel
theorem dX7_byTree_4 : decode cX7_byTree 4 = .ok (.istore_n 1, 1) := by decide +kernel
theorem dX7_byTree_5 : decode cX7_byTree 5 = .ok (.aload_n 0, 1) := by decide +kernel
theorem dX7_byTree_6 : decode cX7_byTree 6 = .ok (.iconst 0, 1) := by decide +kernel
theorem dX7_byTree_7 : decode cX7_byTree 7 = .ok (.iload_n 1, 1) := by decide +kernel
theorem dX7_byTree_8 : decode cX7_byTree 8 = .ok (.invokevirtual 153, 3) := by decide +kernel
theorem dX7_byTree_11 : decode cX7_byTree 11 = .ok (.istore_n 2, 1) := by decide +kernel
theorem dX7_byTree_12 : decode cX7_byTree 12 = .ok (.iload_n 2, 1) := by decide +kernel
theorem dX7_byTree_13 : decode cX7_byTree 13 = .ok (.iconst (-1), 1) := by decide +kernel
theorem dX7_byTree_14 : decode cX7_byTree 14 = .ok (.if_icmp .eq 21, 3) := by decide +kernel
theorem dX7_byTree_17 : decode cX7_byTree 17 = .ok (.aload_n 0, 1) := by decide +kernel
theorem dX7_byTree_18 : decode cX7_byTree 18 = .ok (.iload_n 2, 1) := by decide +kernel
theorem dX7_byTree_19 : decode cX7_byTree 19 = .ok (.invokevirtual 124, 3) := by decide +kernel
theorem dX7_byTree_22 : decode cX7_byTree 22 = .ok (.ifCond .ne 13, 3) := by decide +kernel
theorem dX7_byTree_25 : decode cX7_byTree 25 = .ok (.aload_n 0, 1) := by decide +kernel
theorem dX7_byTree_26 : decode cX7_byTree 26 = .ok (.iload_n 2, 1) := by decide +kernel
theorem dX7_byTree_27 : decode cX7_byTree 27 = .ok (.iload_n 1, 1) := by decide +kernel
theorem dX7_byTree_28 : decode cX7_byTree 28 = .ok (.invokevirtual 153, 3) := by decide +kernel
theorem dX7_byTree_31 : decode cX7_byTree 31 = .ok (.istore_n 2, 1) := by decide +kernel
theorem dX7_byTree_32 : decode cX7_byTree 32 = .ok (.goto (-20), 3) := by decide +kernel
theorem dX7_byTree_35 : decode cX7_byTree 35 = .ok (.iload_n 2, 1) := by decide +kernel
theorem dX7_byTree_36 : decode cX7_byTree 36 = .ok (.ireturn, 1) := by decide +kernel
theorem dX7_isAhead_0 : decode cX7_isAhead 0 = .ok (.aload_n 0, 1) := by decide +kernel
theorem dX7_isAhead_1 : decode cX7_isAhead 1 = .ok (.iload_n 1, 1) := by decide +kernel
theorem dX7_isAhead_2 : decode cX7_isAhead 2 = .ok (.iconst 5, 1) := by decide +kernel
theorem dX7_isAhead_3 : decode cX7_isAhead 3 = .ok (.invokevirtual 50, 3) := by decide +kernel
theorem dX7_isAhead_6 : decode cX7_isAhead 6 = .ok (.aload_n 0, 1) := by decide +kernel
theorem dX7_isAhead_7 : decode cX7_isAhead 7 = .ok (.iload_n 2, 1) := by decide +kernel
theorem dX7_isAhead_8 : decode cX7_isAhead 8 = .ok (.iconst 5, 1) := by decide +kernel
theorem dX7_isAhead_9 : decode cX7_isAhead 9 = .ok (.invokevirtual 50, 3) := by decide +kernel
theorem dX7_isAhead_12 : decode cX7_isAhead 12 = .ok (.lcmp, 1) := by decide +kernel
theorem dX7_isAhead_13 : decode cX7_isAhead 13 = .ok (.ifCond .eq 25, 3) := by decide +kernel
theorem dX7_isAhead_16 : decode cX7_isAhead 16 = .ok (.aload_n 0, 1) := by decide +kernel
theorem dX7_isAhead_17 : decode cX7_isAhead 17 = .ok (.iload_n 1, 1) := by decide +kernel
theorem dX7_isAhead_18 : decode cX7_isAhead 18 = .ok (.iconst 5, 1) := by decide +kernel
theorem dX7_isAhead_19 : decode cX7_isAhead 19 = .ok (.invokevirtual 50, 3) := by decide +kernel
theorem dX7_isAhead_22 : decode cX7_isAhead 22 = .ok (.aload_n 0, 1) := by decide +kernel
theorem dX7_isAhead_23 : decode cX7_isAhead 23 = .ok (.iload_n 2, 1) := by decide +kernel
theorem dX7_isAhead_24 : decode cX7_isAhead 24 = .ok (.iconst 5, 1) := by decide +kernel
theorem dX7_isAhead_25 : decode cX7_isAhead 25 = .ok (.invokevirtual 50, 3) := by decide +kernel
theorem dX7_isAhead_28 : decode cX7_isAhead 28 = .ok (.lcmp, 1) := by decide +kernel
theorem dX7_isAhead_29 : decode cX7_isAhead 29 = .ok (.ifCond .ge 7, 3) := by decide +kernel
theorem dX7_isAhead_32 : decode cX7_isAhead 32 = .ok (.iconst 1, 1) := by decide +kernel
theorem dX7_isAhead_33 : decode cX7_isAhead 33 = .ok (.goto 4, 3) := by decide +kernel
theorem dX7_isAhead_36 : decode cX7_isAhead 36 = .ok (.iconst 0, 1) := by decide +kernel
theorem dX7_isAhead_37 : decode cX7_isAhead 37 = .ok (.ireturn, 1) := by decide +kernel
theorem dX7_isAhead_38 : decode cX7_isAhead 38 = .ok (.aload_n 0, 1) := by decide +kernel
theorem dX7_isAhead_39 : decode cX7_isAhead 39 = .ok (.iload_n 1, 1) := by decide +kernel
theorem dX7_isAhead_40 : decode cX7_isAhead 40 = .ok (.bipush 6, 2) := by decide +kernel
theorem dX7_isAhead_42 : decode cX7_isAhead 42 = .ok (.invokevirtual 50, 3) := by decide +kernel
theorem dX7_isAhead_45 : decode cX7_isAhead 45 = .ok (.aload_n 0, 1) := by decide +kernel
theorem dX7_isAhead_46 : decode cX7_isAhead 46 = .ok (.iload_n 2, 1) := by decide +kernel
theorem dX7_isAhead_47 : decode cX7_isAhead 47 = .ok (.bipush 6, 2) := by decide +kernel
theorem dX7_isAhead_49 : decode cX7_isAhead 49 = .ok (.invokevirtual 50, 3) := by decide +kernel
theorem dX7_isAhead_52 : decode cX7_isAhead 52 = .ok (.lcmp, 1) := by decide +kernel
theorem dX7_isAhead_53 : decode cX7_isAhead 53 = .ok (.ifCond .eq 21, 3) := by decide +kernel
theorem dX7_isAhead_56 : decode cX7_isAhead 56 = .ok (.aload_n 0, 1) := by decide +kernel
theorem dX7_isAhead_57 : decode cX7_isAhead 57 = .ok (.iload_n 1, 1) := by decide +kernel
theorem dX7_isAhead_58 : decode cX7_isAhead 58 = .ok (.bipush 6, 2) := by decide +kernel
theorem dX7_isAhead_60 : decode cX7_isAhead 60 = .ok (.invokevirtual 50, 3) := by decide +kernel
theorem dX7_isAhead_63 : decode cX7_isAhead 63 = .ok (.lconst 0, 1) := by decide +kernel
theorem dX7_isAhead_64 : decode cX7_isAhead 64 = .ok (.lcmp, 1) := by decide +kernel
theorem dX7_isAhead_65 : decode cX7_isAhead 65 = .ok (.ifCond .ne 7, 3) := by decide +kernel
theorem dX7_isAhead_68 : decode cX7_isAhead 68 = .ok (.iconst 1, 1) := by decide +kernel
theorem dX7_isAhead_69 : decode cX7_isAhead 69 = .ok (.goto 4, 3) := by decide +kernel
theorem dX7_isAhead_72 : decode cX7_isAhead 72 = .ok (.iconst 0, 1) := by decide +kernel
theorem dX7_isAhead_73 : decode cX7_isAhead 73 = .ok (.ireturn, 1) := by decide +kernel
theorem dX7_isAhead_74 : decode cX7_isAhead 74 = .ok (.aload_n 0, 1) := by decide +kernel
theorem dX7_isAhead_75 : decode cX7_isAhead 75 = .ok (.iload_n 1, 1) := by decide +kernel
theorem dX7_isAhead_76 : decode cX7_isAhead 76 = .ok (.bipush 6, 2) := by decide +kernel
theorem dX7_isAhead_78 : decode cX7_isAhead 78 = .ok (.invokevirtual 50, 3) := by decide +kernel
theorem dX7_isAhead_81 : decode cX7_isAhead 81 = .ok (.lconst 1, 1) := by decide +kernel
theorem dX7_isAhead_82 : decode cX7_isAhead 82 = .ok (.lcmp, 1) := by decide +kernel
theorem dX7_isAhead_83 : decode cX7_isAhead 83 = .ok (.ifCond .ne 25, 3) := by decide +kernel
theorem dX7_isAhead_86 : decode cX7_isAhead 86 = .ok (.aload_n 0, 1) := by decide +kernel
theorem dX7_isAhead_87 : decode cX7_isAhead 87 = .ok (.iload_n 1, 1) := by decide +kernel
theorem dX7_isAhead_88 : decode cX7_isAhead 88 = .ok (.bipush 14, 2) := by decide +kernel
theorem dX7_isAhead_90 : decode cX7_isAhead 90 = .ok (.invokevirtual 50, 3) := by decide +kernel
theorem dX7_isAhead_93 : decode cX7_isAhead 93 = .ok (.aload_n 0, 1) := by decide +kernel
theorem dX7_isAhead_94 : decode cX7_isAhead 94 = .ok (.iload_n 2, 1) := by decide +kernel
theorem dX7_isAhead_95 : decode cX7_isAhead 95 = .ok (.bipush 14, 2) := by decide +kernel
theorem dX7_isAhead_97 : decode cX7_isAhead 97 = .ok (.invokevirtual 50, 3) := by decide +kernel
theorem dX7_isAhead_100 : decode cX7_isAhead 100 = .ok (.lcmp, 1) := by decide +kernel
theorem dX7_isAhead_101 : decode cX7_isAhead 101 = .ok (.ifCond .ge 7, 3) := by decide +kernel
theorem dX7_isAhead_104 : decode cX7_isAhead 104 = .ok (.iconst 1, 1) := by decide +kernel
theorem dX7_isAhead_105 : decode cX7_isAhead 105 = .ok (.goto 4, 3) := by decide +kernel
theorem dX7_isAhead_108 : decode cX7_isAhead 108 = .ok (.iconst 0, 1) := by decide +kernel
theorem dX7_isAhead_109 : decode cX7_isAhead 109 = .ok (.ireturn, 1) := by decide +kernel
theorem dX7_byUrgency_0 : decode cX7_byUrgency 0 = .ok (.iconst (-1), 1) := by decide +kernel
theorem dX7_byUrgency_1 : decode cX7_byUrgency 1 = .ok (.istore_n 1, 1) := by decide +kernel
theorem dX7_byUrgency_2 : decode cX7_byUrgency 2 = .ok (.iconst 1, 1) := by decide +kernel
theorem dX7_byUrgency_3 : decode cX7_byUrgency 3 = .ok (.istore_n 2, 1) := by decide +kernel
theorem dX7_byUrgency_4 : decode cX7_byUrgency 4 = .ok (.iload_n 2, 1) := by decide +kernel
theorem dX7_byUrgency_5 : decode cX7_byUrgency 5 = .ok (.bipush 12, 2) := by decide +kernel
theorem dX7_byUrgency_7 : decode cX7_byUrgency 7 = .ok (.if_icmp .gt 33, 3) := by decide +kernel
theorem dX7_byUrgency_10 : decode cX7_byUrgency 10 = .ok (.aload_n 0, 1) := by decide +kernel
theorem dX7_byUrgency_11 : decode cX7_byUrgency 11 = .ok (.iload_n 2, 1) := by decide +kernel
theorem dX7_byUrgency_12 : decode cX7_byUrgency 12 = .ok (.invokevirtual 124, 3) := by decide +kernel
theorem dX7_byUrgency_15 : decode cX7_byUrgency 15 = .ok (.ifCond .eq 19, 3) := by decide +kernel
theorem dX7_byUrgency_18 : decode cX7_byUrgency 18 = .ok (.iload_n 1, 1) := by decide +kernel
theorem dX7_byUrgency_19 : decode cX7_byUrgency 19 = .ok (.iconst (-1), 1) := by decide +kernel
theorem dX7_byUrgency_20 : decode cX7_byUrgency 20 = .ok (.if_icmp .eq 12, 3) := by decide +kernel
theorem dX7_byUrgency_23 : decode cX7_byUrgency 23 = .ok (.aload_n 0, 1) := by decide +kernel
theorem dX7_byUrgency_24 : decode cX7_byUrgency 24 = .ok (.iload_n 2, 1) := by decide +kernel
theorem dX7_byUrgency_25 : decode cX7_byUrgency 25 = .ok (.iload_n 1, 1) := by decide +kernel
theorem dX7_byUrgency_26 : decode cX7_byUrgency 26 = .ok (.invokevirtual 156, 3) := by decide +kernel
theorem dX7_byUrgency_29 : decode cX7_byUrgency 29 = .ok (.ifCond .eq 5, 3) := by decide +kernel
theorem dX7_byUrgency_32 : decode cX7_byUrgency 32 = .ok (.iload_n 2, 1) := by decide +kernel
theorem dX7_byUrgency_33 : decode cX7_byUrgency 33 = .ok (.istore_n 1, 1) := by decide +kernel
theorem dX7_byUrgency_34 : decode cX7_byUrgency 34 = .ok (.iinc 2 1, 3) := by decide +kernel
theorem dX7_byUrgency_37 : decode cX7_byUrgency 37 = .ok (.goto (-33), 3) := by decide +kernel
theorem dX7_byUrgency_40 : decode cX7_byUrgency 40 = .ok (.iload_n 1, 1) := by decide +kernel
theorem dX7_byUrgency_41 : decode cX7_byUrgency 41 = .ok (.ireturn, 1) := by decide +kernel
theorem dX7_nextNow_0 : decode cX7_nextNow 0 = .ok (.aload_n 0, 1) := by decide +kernel
theorem dX7_nextNow_1 : decode cX7_nextNow 1 = .ok (.getfield 7, 3) := by decide +kernel
theorem dX7_nextNow_4 : decode cX7_nextNow 4 = .ok (.sipush 208, 3) := by decide +kernel
theorem dX7_nextNow_7 : decode cX7_nextNow 7 = .ok (.laload, 1) := by decide +kernel
theorem dX7_nextNow_8 : decode cX7_nextNow 8 = .ok (.lconst 0, 1) := by decide +kernel
theorem dX7_nextNow_9 : decode cX7_nextNow 9 = .ok (.lcmp, 1) := by decide +kernel
theorem dX7_nextNow_10 : decode cX7_nextNow 10 = .ok (.ifCond .ne 7, 3) := by decide +kernel
theorem dX7_nextNow_13 : decode cX7_nextNow 13 = .ok (.iconst (-1), 1) := by decide +kernel
theorem dX7_nextNow_14 : decode cX7_nextNow 14 = .ok (.goto 27, 3) := by decide +kernel
theorem dX7_nextNow_17 : decode cX7_nextNow 17 = .ok (.aload_n 0, 1) := by decide +kernel
theorem dX7_nextNow_18 : decode cX7_nextNow 18 = .ok (.getfield 7, 3) := by decide +kernel
theorem dX7_nextNow_21 : decode cX7_nextNow 21 = .ok (.sipush 211, 3) := by decide +kernel
theorem dX7_nextNow_24 : decode cX7_nextNow 24 = .ok (.laload, 1) := by decide +kernel
theorem dX7_nextNow_25 : decode cX7_nextNow 25 = .ok (.lconst 0, 1) := by decide +kernel
theorem dX7_nextNow_26 : decode cX7_nextNow 26 = .ok (.lcmp, 1) := by decide +kernel
theorem dX7_nextNow_27 : decode cX7_nextNow 27 = .ok (.ifCond .ne 10, 3) := by decide +kernel
theorem dX7_nextNow_30 : decode cX7_nextNow 30 = .ok (.aload_n 0, 1) := by decide +kernel
theorem dX7_nextNow_31 : decode cX7_nextNow 31 = .ok (.invokevirtual 159, 3) := by decide +kernel
theorem dX7_nextNow_34 : decode cX7_nextNow 34 = .ok (.goto 7, 3) := by decide +kernel
theorem dX7_nextNow_37 : decode cX7_nextNow 37 = .ok (.aload_n 0, 1) := by decide +kernel
theorem dX7_nextNow_38 : decode cX7_nextNow 38 = .ok (.invokevirtual 162, 3) := by decide +kernel
theorem dX7_nextNow_41 : decode cX7_nextNow 41 = .ok (.ireturn, 1) := by decide +kernel
theorem dX7_next_0 : decode cX7_next 0 = .ok (.aload_n 0, 1) := by decide +kernel
theorem dX7_next_1 : decode cX7_next 1 = .ok (.invokevirtual 165, 3) := by decide +kernel
theorem dX7_next_4 : decode cX7_next 4 = .ok (.ireturn, 1) := by decide +kernel
theorem dX7_looks_0 : decode cX7_looks 0 = .ok (.aload_n 0, 1) := by decide +kernel
theorem dX7_looks_1 : decode cX7_looks 1 = .ok (.invokevirtual 150, 3) := by decide +kernel
theorem dX7_looks_4 : decode cX7_looks 4 = .ok (.istore_n 1, 1) := by decide +kernel
theorem dX7_looks_5 : decode cX7_looks 5 = .ok (.iconst 1, 1) := by decide +kernel
theorem dX7_looks_6 : decode cX7_looks 6 = .ok (.istore_n 2, 1) := by decide +kernel
theorem dX7_looks_7 : decode cX7_looks 7 = .ok (.iload_n 2, 1) := by decide +kernel
theorem dX7_looks_8 : decode cX7_looks 8 = .ok (.bipush 12, 2) := by decide +kernel
theorem dX7_looks_10 : decode cX7_looks 10 = .ok (.if_icmp .gt 30, 3) := by decide +kernel
theorem dX7_looks_13 : decode cX7_looks 13 = .ok (.aload_n 0, 1) := by decide +kernel
theorem dX7_looks_14 : decode cX7_looks 14 = .ok (.iload_n 2, 1) := by decide +kernel
theorem dX7_looks_15 : decode cX7_looks 15 = .ok (.invokevirtual 54, 3) := by decide +kernel
theorem dX7_looks_18 : decode cX7_looks 18 = .ok (.ifCond .eq 16, 3) := by decide +kernel
theorem dX7_looks_21 : decode cX7_looks 21 = .ok (.aload_n 0, 1) := by decide +kernel
theorem dX7_looks_22 : decode cX7_looks 22 = .ok (.iload_n 2, 1) := by decide +kernel
theorem dX7_looks_23 : decode cX7_looks 23 = .ok (.bipush 9, 2) := by decide +kernel
theorem dX7_looks_25 : decode cX7_looks 25 = .ok (.aload_n 0, 1) := by decide +kernel
theorem dX7_looks_26 : decode cX7_looks 26 = .ok (.iload_n 2, 1) := by decide +kernel
theorem dX7_looks_27 : decode cX7_looks 27 = .ok (.iload_n 1, 1) := by decide +kernel
theorem dX7_looks_28 : decode cX7_looks 28 = .ok (.invokevirtual 147, 3) := by decide +kernel
theorem dX7_looks_31 : decode cX7_looks 31 = .ok (.invokevirtual 66, 3) := by decide +kernel
theorem dX7_looks_34 : decode cX7_looks 34 = .ok (.iinc 2 1, 3) := by decide +kernel
theorem dX7_looks_37 : decode cX7_looks 37 = .ok (.goto (-30), 3) := by decide +kernel
theorem dX7_looks_40 : decode cX7_looks 40 = .ok (.iconst 1, 1) := by decide +kernel
theorem dX7_looks_41 : decode cX7_looks 41 = .ok (.istore_n 2, 1) := by decide +kernel
theorem dX7_looks_42 : decode cX7_looks 42 = .ok (.iload_n 2, 1) := by decide +kernel
theorem dX7_looks_43 : decode cX7_looks 43 = .ok (.bipush 12, 2) := by decide +kernel
theorem dX7_looks_45 : decode cX7_looks 45 = .ok (.if_icmp .gt 22, 3) := by decide +kernel
theorem dX7_looks_48 : decode cX7_looks 48 = .ok (.aload_n 0, 1) := by decide +kernel
theorem dX7_looks_49 : decode cX7_looks 49 = .ok (.iload_n 2, 1) := by decide +kernel
theorem dX7_looks_50 : decode cX7_looks 50 = .ok (.bipush 15, 2) := by decide +kernel
theorem dX7_looks_52 : decode cX7_looks 52 = .ok (.iload_n 1, 1) := by decide +kernel
theorem dX7_looks_53 : decode cX7_looks 53 = .ok (.iload_n 2, 1) := by decide +kernel
theorem dX7_looks_54 : decode cX7_looks 54 = .ok (.ishr, 1) := by decide +kernel
theorem dX7_looks_55 : decode cX7_looks 55 = .ok (.iconst 1, 1) := by decide +kernel
theorem dX7_looks_56 : decode cX7_looks 56 = .ok (.iand, 1) := by decide +kernel
theorem dX7_looks_57 : decode cX7_looks 57 = .ok (.i2l, 1) := by decide +kernel
theorem dX7_looks_58 : decode cX7_looks 58 = .ok (.invokevirtual 66, 3) := by decide +kernel
theorem dX7_looks_61 : decode cX7_looks 61 = .ok (.iinc 2 1, 3) := by decide +kernel
theorem dX7_looks_64 : decode cX7_looks 64 = .ok (.goto (-22), 3) := by decide +kernel
theorem dX7_looks_67 : decode cX7_looks 67 = .ok (.return_, 1) := by decide +kernel
theorem dX7_bytesOf_0 : decode cX7_bytesOf 0 = .ok (.aload_n 0, 1) := by decide +kernel
theorem dX7_bytesOf_1 : decode cX7_bytesOf 1 = .ok (.getfield 7, 3) := by decide +kernel
theorem dX7_bytesOf_4 : decode cX7_bytesOf 4 = .ok (.sipush 209, 3) := by decide +kernel
theorem dX7_bytesOf_7 : decode cX7_bytesOf 7 = .ok (.laload, 1) := by decide +kernel
theorem dX7_bytesOf_8 : decode cX7_bytesOf 8 = .ok (.lstore_n 2, 1) := by decide +kernel
theorem dX7_bytesOf_9 : decode cX7_bytesOf 9 = .ok (.aload_n 0, 1) := by decide +kernel
theorem dX7_bytesOf_10 : decode cX7_bytesOf 10 = .ok (.getfield 7, 3) := by decide +kernel
theorem dX7_bytesOf_13 : decode cX7_bytesOf 13 = .ok (.sipush 208, 3) := by decide +kernel
theorem dX7_bytesOf_16 : decode cX7_bytesOf 16 = .ok (.laload, 1) := by decide +kernel
theorem dX7_bytesOf_17 : decode cX7_bytesOf 17 = .ok (.lload_n 2, 1) := by decide +kernel
theorem dX7_bytesOf_18 : decode cX7_bytesOf 18 = .ok (.lcmp, 1) := by decide +kernel
theorem dX7_bytesOf_19 : decode cX7_bytesOf 19 = .ok (.ifCond .ge 14, 3) := by decide +kernel
theorem dX7_bytesOf_22 : decode cX7_bytesOf 22 = .ok (.aload_n 0, 1) := by decide +kernel
theorem dX7_bytesOf_23 : decode cX7_bytesOf 23 = .ok (.getfield 7, 3) := by decide +kernel
theorem dX7_bytesOf_26 : decode cX7_bytesOf 26 = .ok (.sipush 208, 3) := by decide +kernel
theorem dX7_bytesOf_29 : decode cX7_bytesOf 29 = .ok (.laload, 1) := by decide +kernel
theorem dX7_bytesOf_30 : decode cX7_bytesOf 30 = .ok (.goto 4, 3) := by decide +kernel
theorem dX7_bytesOf_33 : decode cX7_bytesOf 33 = .ok (.lload_n 2, 1) := by decide +kernel
theorem dX7_bytesOf_34 : decode cX7_bytesOf 34 = .ok (.lstore_n 2, 1) := by decide +kernel
theorem dX7_bytesOf_35 : decode cX7_bytesOf 35 = .ok (.aload_n 0, 1) := by decide +kernel
theorem dX7_bytesOf_36 : decode cX7_bytesOf 36 = .ok (.iload_n 1, 1) := by decide +kernel
theorem dX7_bytesOf_37 : decode cX7_bytesOf 37 = .ok (.iconst 3, 1) := by decide +kernel
theorem dX7_bytesOf_38 : decode cX7_bytesOf 38 = .ok (.invokevirtual 50, 3) := by decide +kernel
theorem dX7_bytesOf_41 : decode cX7_bytesOf 41 = .ok (.lload_n 2, 1) := by decide +kernel
theorem dX7_bytesOf_42 : decode cX7_bytesOf 42 = .ok (.lcmp, 1) := by decide +kernel
theorem dX7_bytesOf_43 : decode cX7_bytesOf 43 = .ok (.ifCond .ge 12, 3) := by decide +kernel
theorem dX7_bytesOf_46 : decode cX7_bytesOf 46 = .ok (.aload_n 0, 1) := by decide +kernel
theorem dX7_bytesOf_47 : decode cX7_bytesOf 47 = .ok (.iload_n 1, 1) := by decide +kernel
theorem dX7_bytesOf_48 : decode cX7_bytesOf 48 = .ok (.iconst 3, 1) := by decide +kernel
theorem dX7_bytesOf_49 : decode cX7_bytesOf 49 = .ok (.invokevirtual 50, 3) := by decide +kernel
theorem dX7_bytesOf_52 : decode cX7_bytesOf 52 = .ok (.goto 4, 3) := by decide +kernel
theorem dX7_bytesOf_55 : decode cX7_bytesOf 55 = .ok (.lload_n 2, 1) := by decide +kernel
theorem dX7_bytesOf_56 : decode cX7_bytesOf 56 = .ok (.lstore_n 2, 1) := by decide +kernel
theorem dX7_bytesOf_57 : decode cX7_bytesOf 57 = .ok (.aload_n 0, 1) := by decide +kernel
theorem dX7_bytesOf_58 : decode cX7_bytesOf 58 = .ok (.iload_n 1, 1) := by decide +kernel
theorem dX7_bytesOf_59 : decode cX7_bytesOf 59 = .ok (.iconst 4, 1) := by decide +kernel
theorem dX7_bytesOf_60 : decode cX7_bytesOf 60 = .ok (.invokevirtual 50, 3) := by decide +kernel
theorem dX7_bytesOf_63 : decode cX7_bytesOf 63 = .ok (.lload_n 2, 1) := by decide +kernel
theorem dX7_bytesOf_64 : decode cX7_bytesOf 64 = .ok (.lcmp, 1) := by decide +kernel
theorem dX7_bytesOf_65 : decode cX7_bytesOf 65 = .ok (.ifCond .ge 12, 3) := by decide +kernel
theorem dX7_bytesOf_68 : decode cX7_bytesOf 68 = .ok (.aload_n 0, 1) := by decide +kernel
theorem dX7_bytesOf_69 : decode cX7_bytesOf 69 = .ok (.iload_n 1, 1) := by decide +kernel
theorem dX7_bytesOf_70 : decode cX7_bytesOf 70 = .ok (.iconst 4, 1) := by decide +kernel
theorem dX7_bytesOf_71 : decode cX7_bytesOf 71 = .ok (.invokevirtual 50, 3) := by decide +kernel
theorem dX7_bytesOf_74 : decode cX7_bytesOf 74 = .ok (.goto 4, 3) := by decide +kernel
theorem dX7_bytesOf_77 : decode cX7_bytesOf 77 = .ok (.lload_n 2, 1) := by decide +kernel
theorem dX7_bytesOf_78 : decode cX7_bytesOf 78 = .ok (.lreturn, 1) := by decide +kernel
theorem dX7_turns_0 : decode cX7_turns 0 = .ok (.iload_n 1, 1) := by decide +kernel
theorem dX7_turns_1 : decode cX7_turns 1 = .ok (.istore 4, 2) := by decide +kernel
theorem dX7_turns_3 : decode cX7_turns 3 = .ok (.iload 4, 2) := by decide +kernel
theorem dX7_turns_5 : decode cX7_turns 5 = .ok (.ifCond .eq 64, 3) := by decide +kernel
theorem dX7_turns_8 : decode cX7_turns 8 = .ok (.aload_n 0, 1) := by decide +kernel
theorem dX7_turns_9 : decode cX7_turns 9 = .ok (.aload_n 0, 1) := by decide +kernel
theorem dX7_turns_10 : decode cX7_turns 10 = .ok (.iload 4, 2) := by decide +kernel
theorem dX7_turns_12 : decode cX7_turns 12 = .ok (.invokevirtual 58, 3) := by decide +kernel
theorem dX7_turns_15 : decode cX7_turns 15 = .ok (.bipush 10, 2) := by decide +kernel
theorem dX7_turns_17 : decode cX7_turns 17 = .ok (.aload_n 0, 1) := by decide +kernel
theorem dX7_turns_18 : decode cX7_turns 18 = .ok (.iload 4, 2) := by decide +kernel
theorem dX7_turns_20 : decode cX7_turns 20 = .ok (.bipush 9, 2) := by decide +kernel
theorem dX7_turns_22 : decode cX7_turns 22 = .ok (.invokevirtual 50, 3) := by decide +kernel
theorem dX7_turns_25 : decode cX7_turns 25 = .ok (.invokevirtual 66, 3) := by decide +kernel
theorem dX7_turns_28 : decode cX7_turns 28 = .ok (.aload_n 0, 1) := by decide +kernel
theorem dX7_turns_29 : decode cX7_turns 29 = .ok (.iload 4, 2) := by decide +kernel
theorem dX7_turns_31 : decode cX7_turns 31 = .ok (.bipush 9, 2) := by decide +kernel
theorem dX7_turns_33 : decode cX7_turns 33 = .ok (.aload_n 0, 1) := by decide +kernel
theorem dX7_turns_34 : decode cX7_turns 34 = .ok (.iload 4, 2) := by decide +kernel
theorem dX7_turns_36 : decode cX7_turns 36 = .ok (.bipush 9, 2) := by decide +kernel
theorem dX7_turns_38 : decode cX7_turns 38 = .ok (.invokevirtual 50, 3) := by decide +kernel
theorem dX7_turns_41 : decode cX7_turns 41 = .ok (.lload_n 2, 1) := by decide +kernel
theorem dX7_turns_42 : decode cX7_turns 42 = .ok (.ldc2_w 168, 3) := by decide +kernel
theorem dX7_turns_45 : decode cX7_turns 45 = .ok (.lmul, 1) := by decide +kernel
theorem dX7_turns_46 : decode cX7_turns 46 = .ok (.aload_n 0, 1) := by decide +kernel
theorem dX7_turns_47 : decode cX7_turns 47 = .ok (.iload 4, 2) := by decide +kernel
theorem dX7_turns_49 : decode cX7_turns 49 = .ok (.iconst 2, 1) := by decide +kernel
theorem dX7_turns_50 : decode cX7_turns 50 = .ok (.invokevirtual 50, 3) := by decide +kernel
theorem dX7_turns_53 : decode cX7_turns 53 = .ok (.ldiv, 1) := by decide +kernel
theorem dX7_turns_54 : decode cX7_turns 54 = .ok (.ladd, 1) := by decide +kernel
theorem dX7_turns_55 : decode cX7_turns 55 = .ok (.invokevirtual 66, 3) := by decide +kernel
theorem dX7_turns_58 : decode cX7_turns 58 = .ok (.aload_n 0, 1) := by decide +kernel
theorem dX7_turns_59 : decode cX7_turns 59 = .ok (.iload 4, 2) := by decide +kernel
theorem dX7_turns_61 : decode cX7_turns 61 = .ok (.invokevirtual 58, 3) := by decide +kernel
theorem dX7_turns_64 : decode cX7_turns 64 = .ok (.istore 4, 2) := by decide +kernel
theorem dX7_turns_66 : decode cX7_turns 66 = .ok (.goto (-63), 3) := by decide +kernel
theorem dX7_turns_69 : decode cX7_turns 69 = .ok (.return_, 1) := by decide +kernel
theorem dX7_isSent_0 : decode cX7_isSent 0 = .ok (.aload_n 0, 1) := by decide +kernel
theorem dX7_isSent_1 : decode cX7_isSent 1 = .ok (.invokevirtual 170, 3) := by decide +kernel
theorem dX7_isSent_4 : decode cX7_isSent 4 = .ok (.aload_n 0, 1) := by decide +kernel
theorem dX7_isSent_5 : decode cX7_isSent 5 = .ok (.invokevirtual 165, 3) := by decide +kernel
theorem dX7_isSent_8 : decode cX7_isSent 8 = .ok (.istore_n 1, 1) := by decide +kernel
theorem dX7_isSent_9 : decode cX7_isSent 9 = .ok (.iload_n 1, 1) := by decide +kernel
theorem dX7_isSent_10 : decode cX7_isSent 10 = .ok (.iconst (-1), 1) := by decide +kernel
theorem dX7_isSent_11 : decode cX7_isSent 11 = .ok (.if_icmp .ne 5, 3) := by decide +kernel
theorem dX7_isSent_14 : decode cX7_isSent 14 = .ok (.iconst 0, 1) := by decide +kernel
theorem dX7_isSent_15 : decode cX7_isSent 15 = .ok (.ireturn, 1) := by decide +kernel
theorem dX7_isSent_16 : decode cX7_isSent 16 = .ok (.aload_n 0, 1) := by decide +kernel
theorem dX7_isSent_17 : decode cX7_isSent 17 = .ok (.invokevirtual 173, 3) := by decide +kernel
theorem dX7_isSent_20 : decode cX7_isSent 20 = .ok (.istore_n 2, 1) := by decide +kernel
theorem dX7_isSent_21 : decode cX7_isSent 21 = .ok (.aload_n 0, 1) := by decide +kernel
theorem dX7_isSent_22 : decode cX7_isSent 22 = .ok (.iload_n 1, 1) := by decide +kernel
theorem dX7_isSent_23 : decode cX7_isSent 23 = .ok (.invokevirtual 176, 3) := by decide +kernel
theorem dX7_isSent_26 : decode cX7_isSent 26 = .ok (.lstore_n 3, 1) := by decide +kernel
theorem dX7_isSent_27 : decode cX7_isSent 27 = .ok (.aload_n 0, 1) := by decide +kernel
theorem dX7_isSent_28 : decode cX7_isSent 28 = .ok (.getfield 7, 3) := by decide +kernel
theorem dX7_isSent_31 : decode cX7_isSent 31 = .ok (.sipush 211, 3) := by decide +kernel
theorem dX7_isSent_34 : decode cX7_isSent 34 = .ok (.laload, 1) := by decide +kernel
theorem dX7_isSent_35 : decode cX7_isSent 35 = .ok (.lconst 0, 1) := by decide +kernel
theorem dX7_isSent_36 : decode cX7_isSent 36 = .ok (.lcmp, 1) := by decide +kernel
theorem dX7_isSent_37 : decode cX7_isSent 37 = .ok (.ifCond .ne 9, 3) := by decide +kernel
theorem dX7_isSent_40 : decode cX7_isSent 40 = .ok (.aload_n 0, 1) := by decide +kernel
theorem dX7_isSent_41 : decode cX7_isSent 41 = .ok (.iload_n 1, 1) := by decide +kernel
theorem dX7_isSent_42 : decode cX7_isSent 42 = .ok (.lload_n 3, 1) := by decide +kernel
theorem dX7_isSent_43 : decode cX7_isSent 43 = .ok (.invokevirtual 180, 3) := by decide +kernel
theorem dX7_isSent_46 : decode cX7_isSent 46 = .ok (.aload_n 0, 1) := by decide +kernel
theorem dX7_isSent_47 : decode cX7_isSent 47 = .ok (.getfield 7, 3) := by decide +kernel
theorem dX7_isSent_50 : decode cX7_isSent 50 = .ok (.sipush 208, 3) := by decide +kernel
theorem dX7_isSent_53 : decode cX7_isSent 53 = .ok (.dup2, 1) := by decide +kernel
theorem dX7_isSent_54 : decode cX7_isSent 54 = .ok (.laload, 1) := by decide +kernel
theorem dX7_isSent_55 : decode cX7_isSent 55 = .ok (.lload_n 3, 1) := by decide +kernel
theorem dX7_isSent_56 : decode cX7_isSent 56 = .ok (.lsub, 1) := by decide +kernel
theorem dX7_isSent_57 : decode cX7_isSent 57 = .ok (.lastore, 1) := by decide +kernel
theorem dX7_isSent_58 : decode cX7_isSent 58 = .ok (.aload_n 0, 1) := by decide +kernel
theorem dX7_isSent_59 : decode cX7_isSent 59 = .ok (.iload_n 1, 1) := by decide +kernel
theorem dX7_isSent_60 : decode cX7_isSent 60 = .ok (.iconst 3, 1) := by decide +kernel
theorem dX7_isSent_61 : decode cX7_isSent 61 = .ok (.aload_n 0, 1) := by decide +kernel
theorem dX7_isSent_62 : decode cX7_isSent 62 = .ok (.iload_n 1, 1) := by decide +kernel
theorem dX7_isSent_63 : decode cX7_isSent 63 = .ok (.iconst 3, 1) := by decide +kernel
theorem dX7_isSent_64 : decode cX7_isSent 64 = .ok (.invokevirtual 50, 3) := by decide +kernel
theorem dX7_isSent_67 : decode cX7_isSent 67 = .ok (.lload_n 3, 1) := by decide +kernel
theorem dX7_isSent_68 : decode cX7_isSent 68 = .ok (.lsub, 1) := by decide +kernel
theorem dX7_isSent_69 : decode cX7_isSent 69 = .ok (.invokevirtual 66, 3) := by decide +kernel
theorem dX7_isSent_72 : decode cX7_isSent 72 = .ok (.aload_n 0, 1) := by decide +kernel
theorem dX7_isSent_73 : decode cX7_isSent 73 = .ok (.iload_n 1, 1) := by decide +kernel
theorem dX7_isSent_74 : decode cX7_isSent 74 = .ok (.iconst 4, 1) := by decide +kernel
theorem dX7_isSent_75 : decode cX7_isSent 75 = .ok (.aload_n 0, 1) := by decide +kernel
theorem dX7_isSent_76 : decode cX7_isSent 76 = .ok (.iload_n 1, 1) := by decide +kernel
theorem dX7_isSent_77 : decode cX7_isSent 77 = .ok (.iconst 4, 1) := by decide +kernel
theorem dX7_isSent_78 : decode cX7_isSent 78 = .ok (.invokevirtual 50, 3) := by decide +kernel
theorem dX7_isSent_81 : decode cX7_isSent 81 = .ok (.lload_n 3, 1) := by decide +kernel
theorem dX7_isSent_82 : decode cX7_isSent 82 = .ok (.lsub, 1) := by decide +kernel
theorem dX7_isSent_83 : decode cX7_isSent 83 = .ok (.invokevirtual 66, 3) := by decide +kernel
theorem dX7_isSent_86 : decode cX7_isSent 86 = .ok (.aload_n 0, 1) := by decide +kernel
theorem dX7_isSent_87 : decode cX7_isSent 87 = .ok (.iload_n 1, 1) := by decide +kernel
theorem dX7_isSent_88 : decode cX7_isSent 88 = .ok (.bipush 11, 2) := by decide +kernel
theorem dX7_isSent_90 : decode cX7_isSent 90 = .ok (.aload_n 0, 1) := by decide +kernel
theorem dX7_isSent_91 : decode cX7_isSent 91 = .ok (.iload_n 1, 1) := by decide +kernel
theorem dX7_isSent_92 : decode cX7_isSent 92 = .ok (.bipush 11, 2) := by decide +kernel
theorem dX7_isSent_94 : decode cX7_isSent 94 = .ok (.invokevirtual 50, 3) := by decide +kernel
theorem dX7_isSent_97 : decode cX7_isSent 97 = .ok (.lload_n 3, 1) := by decide +kernel
theorem dX7_isSent_98 : decode cX7_isSent 98 = .ok (.ladd, 1) := by decide +kernel
theorem dX7_isSent_99 : decode cX7_isSent 99 = .ok (.invokevirtual 66, 3) := by decide +kernel
theorem dX7_isSent_102 : decode cX7_isSent 102 = .ok (.aload_n 0, 1) := by decide +kernel
theorem dX7_isSent_103 : decode cX7_isSent 103 = .ok (.getfield 7, 3) := by decide +kernel
theorem dX7_isSent_106 : decode cX7_isSent 106 = .ok (.sipush 212, 3) := by decide +kernel
theorem dX7_isSent_109 : decode cX7_isSent 109 = .ok (.dup2, 1) := by decide +kernel
theorem dX7_isSent_110 : decode cX7_isSent 110 = .ok (.laload, 1) := by decide +kernel
theorem dX7_isSent_111 : decode cX7_isSent 111 = .ok (.lconst 1, 1) := by decide +kernel
theorem dX7_isSent_112 : decode cX7_isSent 112 = .ok (.ladd, 1) := by decide +kernel
theorem dX7_isSent_113 : decode cX7_isSent 113 = .ok (.lastore, 1) := by decide +kernel
theorem dX7_isSent_114 : decode cX7_isSent 114 = .ok (.aload_n 0, 1) := by decide +kernel
theorem dX7_isSent_115 : decode cX7_isSent 115 = .ok (.iload_n 1, 1) := by decide +kernel
theorem dX7_isSent_116 : decode cX7_isSent 116 = .ok (.bipush 14, 2) := by decide +kernel
theorem dX7_isSent_118 : decode cX7_isSent 118 = .ok (.aload_n 0, 1) := by decide +kernel
theorem dX7_isSent_119 : decode cX7_isSent 119 = .ok (.getfield 7, 3) := by decide +kernel
theorem dX7_isSent_122 : decode cX7_isSent 122 = .ok (.sipush 212, 3) := by decide +kernel
theorem dX7_isSent_125 : decode cX7_isSent 125 = .ok (.laload, 1) := by decide +kernel
theorem dX7_isSent_126 : decode cX7_isSent 126 = .ok (.invokevirtual 66, 3) := by decide +kernel
theorem dX7_isSent_129 : decode cX7_isSent 129 = .ok (.aload_n 0, 1) := by decide +kernel
theorem dX7_isSent_130 : decode cX7_isSent 130 = .ok (.getfield 7, 3) := by decide +kernel
theorem dX7_isSent_133 : decode cX7_isSent 133 = .ok (.sipush 213, 3) := by decide +kernel
theorem dX7_isSent_136 : decode cX7_isSent 136 = .ok (.lload_n 3, 1) := by decide +kernel
theorem dX7_isSent_137 : decode cX7_isSent 137 = .ok (.lastore, 1) := by decide +kernel
theorem dX7_isSent_138 : decode cX7_isSent 138 = .ok (.aload_n 0, 1) := by decide +kernel
theorem dX7_isSent_139 : decode cX7_isSent 139 = .ok (.getfield 7, 3) := by decide +kernel
theorem dX7_isSent_142 : decode cX7_isSent 142 = .ok (.sipush 214, 3) := by decide +kernel
theorem dX7_isSent_145 : decode cX7_isSent 145 = .ok (.iload_n 1, 1) := by decide +kernel
theorem dX7_isSent_146 : decode cX7_isSent 146 = .ok (.i2l, 1) := by decide +kernel
theorem dX7_isSent_147 : decode cX7_isSent 147 = .ok (.lastore, 1) := by decide +kernel
theorem dX7_isSent_148 : decode cX7_isSent 148 = .ok (.iconst 1, 1) := by decide +kernel
theorem dX7_isSent_149 : decode cX7_isSent 149 = .ok (.istore 5, 2) := by decide +kernel
theorem dX7_isSent_151 : decode cX7_isSent 151 = .ok (.iload 5, 2) := by decide +kernel
theorem dX7_isSent_153 : decode cX7_isSent 153 = .ok (.bipush 12, 2) := by decide +kernel
theorem dX7_isSent_155 : decode cX7_isSent 155 = .ok (.if_icmp .gt 86, 3) := by decide +kernel
theorem dX7_isSent_158 : decode cX7_isSent 158 = .ok (.iload_n 2, 1) := by decide +kernel
theorem dX7_isSent_159 : decode cX7_isSent 159 = .ok (.iload 5, 2) := by decide +kernel
theorem dX7_isSent_161 : decode cX7_isSent 161 = .ok (.ishr, 1) := by decide +kernel
theorem dX7_isSent_162 : decode cX7_isSent 162 = .ok (.iconst 1, 1) := by decide +kernel
theorem dX7_isSent_163 : decode cX7_isSent 163 = .ok (.iand, 1) := by decide +kernel
theorem dX7_isSent_164 : decode cX7_isSent 164 = .ok (.iconst 1, 1) := by decide +kernel
theorem dX7_isSent_165 : decode cX7_isSent 165 = .ok (.if_icmp .ne 70, 3) := by decide +kernel
theorem dX7_isSent_168 : decode cX7_isSent 168 = .ok (.iload 5, 2) := by decide +kernel
theorem dX7_isSent_170 : decode cX7_isSent 170 = .ok (.iload_n 1, 1) := by decide +kernel
theorem dX7_isSent_171 : decode cX7_isSent 171 = .ok (.if_icmp .ne 7, 3) := by decide +kernel
theorem dX7_isSent_174 : decode cX7_isSent 174 = .ok (.lconst 0, 1) := by decide +kernel
theorem dX7_isSent_175 : decode cX7_isSent 175 = .ok (.goto 13, 3) := by decide +kernel
theorem dX7_isSent_178 : decode cX7_isSent 178 = .ok (.aload_n 0, 1) := by decide +kernel
theorem dX7_isSent_179 : decode cX7_isSent 179 = .ok (.iload 5, 2) := by decide +kernel
theorem dX7_isSent_181 : decode cX7_isSent 181 = .ok (.bipush 12, 2) := by decide +kernel
theorem dX7_isSent_183 : decode cX7_isSent 183 = .ok (.invokevirtual 50, 3) := by decide +kernel
theorem dX7_isSent_186 : decode cX7_isSent 186 = .ok (.lconst 1, 1) := by decide +kernel
theorem dX7_isSent_187 : decode cX7_isSent 187 = .ok (.ladd, 1) := by decide +kernel
theorem dX7_isSent_188 : decode cX7_isSent 188 = .ok (.lstore 6, 2) := by decide +kernel
theorem dX7_isSent_190 : decode cX7_isSent 190 = .ok (.aload_n 0, 1) := by decide +kernel
theorem dX7_isSent_191 : decode cX7_isSent 191 = .ok (.iload 5, 2) := by decide +kernel
theorem dX7_isSent_193 : decode cX7_isSent 193 = .ok (.bipush 12, 2) := by decide +kernel
theorem dX7_isSent_195 : decode cX7_isSent 195 = .ok (.lload 6, 2) := by decide +kernel
theorem dX7_isSent_197 : decode cX7_isSent 197 = .ok (.invokevirtual 66, 3) := by decide +kernel
theorem dX7_isSent_200 : decode cX7_isSent 200 = .ok (.aload_n 0, 1) := by decide +kernel
theorem dX7_isSent_201 : decode cX7_isSent 201 = .ok (.iload 5, 2) := by decide +kernel
theorem dX7_isSent_203 : decode cX7_isSent 203 = .ok (.bipush 13, 2) := by decide +kernel
theorem dX7_isSent_205 : decode cX7_isSent 205 = .ok (.lload 6, 2) := by decide +kernel
theorem dX7_isSent_207 : decode cX7_isSent 207 = .ok (.aload_n 0, 1) := by decide +kernel
theorem dX7_isSent_208 : decode cX7_isSent 208 = .ok (.iload 5, 2) := by decide +kernel
theorem dX7_isSent_210 : decode cX7_isSent 210 = .ok (.bipush 13, 2) := by decide +kernel
theorem dX7_isSent_212 : decode cX7_isSent 212 = .ok (.invokevirtual 50, 3) := by decide +kernel
theorem dX7_isSent_215 : decode cX7_isSent 215 = .ok (.lcmp, 1) := by decide +kernel
theorem dX7_isSent_216 : decode cX7_isSent 216 = .ok (.ifCond .le 8, 3) := by decide +kernel
theorem dX7_isSent_219 : decode cX7_isSent 219 = .ok (.lload 6, 2) := by decide +kernel
theorem dX7_isSent_221 : decode cX7_isSent 221 = .ok (.goto 11, 3) := by decide +kernel
theorem dX7_isSent_224 : decode cX7_isSent 224 = .ok (.aload_n 0, 1) := by decide +kernel
theorem dX7_isSent_225 : decode cX7_isSent 225 = .ok (.iload 5, 2) := by decide +kernel
theorem dX7_isSent_227 : decode cX7_isSent 227 = .ok (.bipush 13, 2) := by decide +kernel
theorem dX7_isSent_229 : decode cX7_isSent 229 = .ok (.invokevirtual 50, 3) := by decide +kernel
theorem dX7_isSent_232 : decode cX7_isSent 232 = .ok (.invokevirtual 66, 3) := by decide +kernel
theorem dX7_isSent_235 : decode cX7_isSent 235 = .ok (.iinc 5 1, 3) := by decide +kernel
theorem dX7_isSent_238 : decode cX7_isSent 238 = .ok (.goto (-87), 3) := by decide +kernel
theorem dX7_isSent_241 : decode cX7_isSent 241 = .ok (.iconst 1, 1) := by decide +kernel
theorem dX7_isSent_242 : decode cX7_isSent 242 = .ok (.istore 5, 2) := by decide +kernel
theorem dX7_isSent_244 : decode cX7_isSent 244 = .ok (.iload 5, 2) := by decide +kernel
theorem dX7_isSent_246 : decode cX7_isSent 246 = .ok (.bipush 12, 2) := by decide +kernel
theorem dX7_isSent_248 : decode cX7_isSent 248 = .ok (.if_icmp .gt 49, 3) := by decide +kernel
theorem dX7_isSent_251 : decode cX7_isSent 251 = .ok (.aload_n 0, 1) := by decide +kernel
theorem dX7_isSent_252 : decode cX7_isSent 252 = .ok (.iload 5, 2) := by decide +kernel
theorem dX7_isSent_254 : decode cX7_isSent 254 = .ok (.invokevirtual 54, 3) := by decide +kernel
theorem dX7_isSent_257 : decode cX7_isSent 257 = .ok (.ifCond .eq 34, 3) := by decide +kernel
theorem dX7_isSent_260 : decode cX7_isSent 260 = .ok (.aload_n 0, 1) := by decide +kernel
theorem dX7_isSent_261 : decode cX7_isSent 261 = .ok (.iload 5, 2) := by decide +kernel
theorem dX7_isSent_263 : decode cX7_isSent 263 = .ok (.bipush 7, 2) := by decide +kernel
theorem dX7_isSent_265 : decode cX7_isSent 265 = .ok (.invokevirtual 50, 3) := by decide +kernel
theorem dX7_isSent_268 : decode cX7_isSent 268 = .ok (.lconst 0, 1) := by decide +kernel
theorem dX7_isSent_269 : decode cX7_isSent 269 = .ok (.lcmp, 1) := by decide +kernel
theorem dX7_isSent_270 : decode cX7_isSent 270 = .ok (.ifCond .ne 21, 3) := by decide +kernel
theorem dX7_isSent_273 : decode cX7_isSent 273 = .ok (.aload_n 0, 1) := by decide +kernel
theorem dX7_isSent_274 : decode cX7_isSent 274 = .ok (.iload 5, 2) := by decide +kernel
theorem dX7_isSent_276 : decode cX7_isSent 276 = .ok (.bipush 8, 2) := by decide +kernel
theorem dX7_isSent_278 : decode cX7_isSent 278 = .ok (.aload_n 0, 1) := by decide +kernel
theorem dX7_isSent_279 : decode cX7_isSent 279 = .ok (.iload 5, 2) := by decide +kernel
theorem dX7_isSent_281 : decode cX7_isSent 281 = .ok (.bipush 8, 2) := by decide +kernel
theorem dX7_isSent_283 : decode cX7_isSent 283 = .ok (.invokevirtual 50, 3) := by decide +kernel
theorem dX7_isSent_286 : decode cX7_isSent 286 = .ok (.lconst 1, 1) := by decide +kernel
theorem dX7_isSent_287 : decode cX7_isSent 287 = .ok (.ladd, 1) := by decide +kernel
theorem dX7_isSent_288 : decode cX7_isSent 288 = .ok (.invokevirtual 66, 3) := by decide +kernel
theorem dX7_isSent_291 : decode cX7_isSent 291 = .ok (.iinc 5 1, 3) := by decide +kernel
theorem dX7_isSent_294 : decode cX7_isSent 294 = .ok (.goto (-50), 3) := by decide +kernel
theorem dX7_isSent_297 : decode cX7_isSent 297 = .ok (.aload_n 0, 1) := by decide +kernel
theorem dX7_isSent_298 : decode cX7_isSent 298 = .ok (.invokevirtual 114, 3) := by decide +kernel
theorem dX7_isSent_301 : decode cX7_isSent 301 = .ok (.iconst 1, 1) := by decide +kernel
theorem dX7_isSent_302 : decode cX7_isSent 302 = .ok (.ireturn, 1) := by decide +kernel
theorem dX7_sends_0 : decode cX7_sends 0 = .ok (.iload_n 1, 1) := by decide +kernel
theorem dX7_sends_1 : decode cX7_sends 1 = .ok (.i2l, 1) := by decide +kernel
theorem dX7_sends_2 : decode cX7_sends 2 = .ok (.lconst 1, 1) := by decide +kernel
theorem dX7_sends_3 : decode cX7_sends 3 = .ok (.ldc2_w 34, 3) := by decide +kernel
theorem dX7_sends_6 : decode cX7_sends 6 = .ok (.invokestatic 46, 3) := by decide +kernel
theorem dX7_sends_9 : decode cX7_sends 9 = .ok (.ifCond .ne 10, 3) := by decide +kernel
theorem dX7_sends_12 : decode cX7_sends 12 = .ok (.aload_n 0, 1) := by decide +kernel
theorem dX7_sends_13 : decode cX7_sends 13 = .ok (.bipush (-2), 2) := by decide +kernel
theorem dX7_sends_15 : decode cX7_sends 15 = .ok (.invokevirtual 83, 3) := by decide +kernel
theorem dX7_sends_18 : decode cX7_sends 18 = .ok (.ireturn, 1) := by decide +kernel
theorem dX7_sends_19 : decode cX7_sends 19 = .ok (.aload_n 0, 1) := by decide +kernel
theorem dX7_sends_20 : decode cX7_sends 20 = .ok (.invokevirtual 86, 3) := by decide +kernel
theorem dX7_sends_23 : decode cX7_sends 23 = .ok (.iconst 0, 1) := by decide +kernel
theorem dX7_sends_24 : decode cX7_sends 24 = .ok (.istore_n 2, 1) := by decide +kernel
theorem dX7_sends_25 : decode cX7_sends 25 = .ok (.iload_n 2, 1) := by decide +kernel
theorem dX7_sends_26 : decode cX7_sends 26 = .ok (.iload_n 1, 1) := by decide +kernel
theorem dX7_sends_27 : decode cX7_sends 27 = .ok (.if_icmp .ge 16, 3) := by decide +kernel
theorem dX7_sends_30 : decode cX7_sends 30 = .ok (.aload_n 0, 1) := by decide +kernel
theorem dX7_sends_31 : decode cX7_sends 31 = .ok (.invokevirtual 184, 3) := by decide +kernel
theorem dX7_sends_34 : decode cX7_sends 34 = .ok (.ifCond .eq 9, 3) := by decide +kernel
theorem dX7_sends_37 : decode cX7_sends 37 = .ok (.iinc 2 1, 3) := by decide +kernel
theorem dX7_sends_40 : decode cX7_sends 40 = .ok (.goto (-15), 3) := by decide +kernel
theorem dX7_sends_43 : decode cX7_sends 43 = .ok (.iload_n 2, 1) := by decide +kernel
theorem dX7_sends_44 : decode cX7_sends 44 = .ok (.ireturn, 1) := by decide +kernel
theorem dX7_divisor_0 : decode cX7_divisor 0 = .ok (.lload_n 0, 1) := by decide +kernel
theorem dX7_divisor_1 : decode cX7_divisor 1 = .ok (.lstore 4, 2) := by decide +kernel
theorem dX7_divisor_3 : decode cX7_divisor 3 = .ok (.lload_n 2, 1) := by decide +kernel
theorem dX7_divisor_4 : decode cX7_divisor 4 = .ok (.lstore 6, 2) := by decide +kernel
theorem dX7_divisor_6 : decode cX7_divisor 6 = .ok (.lload 6, 2) := by decide +kernel
theorem dX7_divisor_8 : decode cX7_divisor 8 = .ok (.lconst 0, 1) := by decide +kernel
theorem dX7_divisor_9 : decode cX7_divisor 9 = .ok (.lcmp, 1) := by decide +kernel
theorem dX7_divisor_10 : decode cX7_divisor 10 = .ok (.ifCond .eq 21, 3) := by decide +kernel
theorem dX7_divisor_13 : decode cX7_divisor 13 = .ok (.lload 4, 2) := by decide +kernel
theorem dX7_divisor_15 : decode cX7_divisor 15 = .ok (.lload 6, 2) := by decide +kernel
theorem dX7_divisor_17 : decode cX7_divisor 17 = .ok (.lrem, 1) := by decide +kernel
theorem dX7_divisor_18 : decode cX7_divisor 18 = .ok (.lstore 8, 2) := by decide +kernel
theorem dX7_divisor_20 : decode cX7_divisor 20 = .ok (.lload 6, 2) := by decide +kernel
theorem dX7_divisor_22 : decode cX7_divisor 22 = .ok (.lstore 4, 2) := by decide +kernel
theorem dX7_divisor_24 : decode cX7_divisor 24 = .ok (.lload 8, 2) := by decide +kernel
theorem dX7_divisor_26 : decode cX7_divisor 26 = .ok (.lstore 6, 2) := by decide +kernel
theorem dX7_divisor_28 : decode cX7_divisor 28 = .ok (.goto (-22), 3) := by decide +kernel
theorem dX7_divisor_31 : decode cX7_divisor 31 = .ok (.lload 4, 2) := by decide +kernel
theorem dX7_divisor_33 : decode cX7_divisor 33 = .ok (.lreturn, 1) := by decide +kernel
theorem dX7_shares_0 : decode cX7_shares 0 = .ok (.aload_n 0, 1) := by decide +kernel
theorem dX7_shares_1 : decode cX7_shares 1 = .ok (.invokevirtual 150, 3) := by decide +kernel
theorem dX7_shares_4 : decode cX7_shares 4 = .ok (.istore_n 2, 1) := by decide +kernel
theorem dX7_shares_5 : decode cX7_shares 5 = .ok (.aload_n 0, 1) := by decide +kernel
theorem dX7_shares_6 : decode cX7_shares 6 = .ok (.iload_n 2, 1) := by decide +kernel
theorem dX7_shares_7 : decode cX7_shares 7 = .ok (.iload_n 1, 1) := by decide +kernel
theorem dX7_shares_8 : decode cX7_shares 8 = .ok (.ishr, 1) := by decide +kernel
theorem dX7_shares_9 : decode cX7_shares 9 = .ok (.iconst 1, 1) := by decide +kernel
theorem dX7_shares_10 : decode cX7_shares 10 = .ok (.iand, 1) := by decide +kernel
theorem dX7_shares_11 : decode cX7_shares 11 = .ok (.i2l, 1) := by decide +kernel
theorem dX7_shares_12 : decode cX7_shares 12 = .ok (.putfield 188, 3) := by decide +kernel
theorem dX7_shares_15 : decode cX7_shares 15 = .ok (.aload_n 0, 1) := by decide +kernel
theorem dX7_shares_16 : decode cX7_shares 16 = .ok (.lconst 1, 1) := by decide +kernel
theorem dX7_shares_17 : decode cX7_shares 17 = .ok (.putfield 192, 3) := by decide +kernel
theorem dX7_shares_20 : decode cX7_shares 20 = .ok (.iload_n 1, 1) := by decide +kernel
theorem dX7_shares_21 : decode cX7_shares 21 = .ok (.istore_n 3, 1) := by decide +kernel
theorem dX7_shares_22 : decode cX7_shares 22 = .ok (.iload_n 3, 1) := by decide +kernel
theorem dX7_shares_23 : decode cX7_shares 23 = .ok (.ifCond .eq 160, 3) := by decide +kernel
theorem dX7_shares_26 : decode cX7_shares 26 = .ok (.lconst 0, 1) := by decide +kernel
theorem dX7_shares_27 : decode cX7_shares 27 = .ok (.lstore 4, 2) := by decide +kernel
theorem dX7_shares_29 : decode cX7_shares 29 = .ok (.iconst 1, 1) := by decide +kernel
theorem dX7_shares_30 : decode cX7_shares 30 = .ok (.istore 6, 2) := by decide +kernel
theorem dX7_shares_32 : decode cX7_shares 32 = .ok (.iload 6, 2) := by decide +kernel
theorem dX7_shares_34 : decode cX7_shares 34 = .ok (.bipush 12, 2) := by decide +kernel
theorem dX7_shares_36 : decode cX7_shares 36 = .ok (.if_icmp .gt 49, 3) := by decide +kernel
theorem dX7_shares_39 : decode cX7_shares 39 = .ok (.lload 4, 2) := by decide +kernel
theorem dX7_shares_41 : decode cX7_shares 41 = .ok (.aload_n 0, 1) := by decide +kernel
theorem dX7_shares_42 : decode cX7_shares 42 = .ok (.iload 6, 2) := by decide +kernel
theorem dX7_shares_44 : decode cX7_shares 44 = .ok (.aload_n 0, 1) := by decide +kernel
theorem dX7_shares_45 : decode cX7_shares 45 = .ok (.iload_n 3, 1) := by decide +kernel
theorem dX7_shares_46 : decode cX7_shares 46 = .ok (.invokevirtual 58, 3) := by decide +kernel
theorem dX7_shares_49 : decode cX7_shares 49 = .ok (.invokevirtual 62, 3) := by decide +kernel
theorem dX7_shares_52 : decode cX7_shares 52 = .ok (.ifCond .eq 23, 3) := by decide +kernel
theorem dX7_shares_55 : decode cX7_shares 55 = .ok (.iload_n 2, 1) := by decide +kernel
theorem dX7_shares_56 : decode cX7_shares 56 = .ok (.iload 6, 2) := by decide +kernel
theorem dX7_shares_58 : decode cX7_shares 58 = .ok (.ishr, 1) := by decide +kernel
theorem dX7_shares_59 : decode cX7_shares 59 = .ok (.iconst 1, 1) := by decide +kernel
theorem dX7_shares_60 : decode cX7_shares 60 = .ok (.iand, 1) := by decide +kernel
theorem dX7_shares_61 : decode cX7_shares 61 = .ok (.iconst 1, 1) := by decide +kernel
theorem dX7_shares_62 : decode cX7_shares 62 = .ok (.if_icmp .ne 13, 3) := by decide +kernel
theorem dX7_shares_65 : decode cX7_shares 65 = .ok (.aload_n 0, 1) := by decide +kernel
theorem dX7_shares_66 : decode cX7_shares 66 = .ok (.iload 6, 2) := by decide +kernel
theorem dX7_shares_68 : decode cX7_shares 68 = .ok (.iconst 2, 1) := by decide +kernel
theorem dX7_shares_69 : decode cX7_shares 69 = .ok (.invokevirtual 50, 3) := by decide +kernel
theorem dX7_shares_72 : decode cX7_shares 72 = .ok (.goto 4, 3) := by decide +kernel
theorem dX7_shares_75 : decode cX7_shares 75 = .ok (.lconst 0, 1) := by decide +kernel
theorem dX7_shares_76 : decode cX7_shares 76 = .ok (.ladd, 1) := by decide +kernel
theorem dX7_shares_77 : decode cX7_shares 77 = .ok (.lstore 4, 2) := by decide +kernel
theorem dX7_shares_79 : decode cX7_shares 79 = .ok (.iinc 6 1, 3) := by decide +kernel
theorem dX7_shares_82 : decode cX7_shares 82 = .ok (.goto (-50), 3) := by decide +kernel
theorem dX7_shares_85 : decode cX7_shares 85 = .ok (.aload_n 0, 1) := by decide +kernel
theorem dX7_shares_86 : decode cX7_shares 86 = .ok (.iload_n 3, 1) := by decide +kernel
theorem dX7_shares_87 : decode cX7_shares 87 = .ok (.iload_n 1, 1) := by decide +kernel
theorem dX7_shares_88 : decode cX7_shares 88 = .ok (.if_icmp .eq 15, 3) := by decide +kernel
theorem dX7_shares_91 : decode cX7_shares 91 = .ok (.aload_n 0, 1) := by decide +kernel
theorem dX7_shares_92 : decode cX7_shares 92 = .ok (.iload_n 3, 1) := by decide +kernel
theorem dX7_shares_93 : decode cX7_shares 93 = .ok (.invokevirtual 124, 3) := by decide +kernel
theorem dX7_shares_96 : decode cX7_shares 96 = .ok (.ifCond .eq 7, 3) := by decide +kernel
theorem dX7_shares_99 : decode cX7_shares 99 = .ok (.lconst 0, 1) := by decide +kernel
theorem dX7_shares_100 : decode cX7_shares 100 = .ok (.goto 14, 3) := by decide +kernel
theorem dX7_shares_103 : decode cX7_shares 103 = .ok (.aload_n 0, 1) := by decide +kernel
theorem dX7_shares_104 : decode cX7_shares 104 = .ok (.getfield 188, 3) := by decide +kernel
theorem dX7_shares_107 : decode cX7_shares 107 = .ok (.aload_n 0, 1) := by decide +kernel
theorem dX7_shares_108 : decode cX7_shares 108 = .ok (.iload_n 3, 1) := by decide +kernel
theorem dX7_shares_109 : decode cX7_shares 109 = .ok (.iconst 2, 1) := by decide +kernel
theorem dX7_shares_110 : decode cX7_shares 110 = .ok (.invokevirtual 50, 3) := by decide +kernel
theorem dX7_shares_113 : decode cX7_shares 113 = .ok (.lmul, 1) := by decide +kernel
theorem dX7_shares_114 : decode cX7_shares 114 = .ok (.putfield 188, 3) := by decide +kernel
theorem dX7_shares_117 : decode cX7_shares 117 = .ok (.aload_n 0, 1) := by decide +kernel
theorem dX7_shares_118 : decode cX7_shares 118 = .ok (.dup, 1) := by decide +kernel
theorem dX7_shares_119 : decode cX7_shares 119 = .ok (.getfield 192, 3) := by decide +kernel
theorem dX7_shares_122 : decode cX7_shares 122 = .ok (.lload 4, 2) := by decide +kernel
theorem dX7_shares_124 : decode cX7_shares 124 = .ok (.lconst 0, 1) := by decide +kernel
theorem dX7_shares_125 : decode cX7_shares 125 = .ok (.lcmp, 1) := by decide +kernel
theorem dX7_shares_126 : decode cX7_shares 126 = .ok (.ifCond .le 8, 3) := by decide +kernel
