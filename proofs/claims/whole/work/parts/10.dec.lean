theorem dX0_init_0 : decode cX0_init 0 = .ok (.aload_n 0, 1) := by decide +kernel
theorem dX0_init_1 : decode cX0_init 1 = .ok (.invokespecial 3, 3) := by decide +kernel
theorem dX0_init_4 : decode cX0_init 4 = .ok (.aload_n 0, 1) := by decide +kernel
theorem dX0_init_5 : decode cX0_init 5 = .ok (.bipush 40, 2) := by decide +kernel
theorem dX0_init_7 : decode cX0_init 7 = .ok (.newarray .long, 2) := by decide +kernel
theorem dX0_init_9 : decode cX0_init 9 = .ok (.putfield 9, 3) := by decide +kernel
theorem dX0_init_12 : decode cX0_init 12 = .ok (.aload_n 0, 1) := by decide +kernel
theorem dX0_init_13 : decode cX0_init 13 = .ok (.bipush 44, 2) := by decide +kernel
theorem dX0_init_15 : decode cX0_init 15 = .ok (.newarray .long, 2) := by decide +kernel
theorem dX0_init_17 : decode cX0_init 17 = .ok (.putfield 13, 3) := by decide +kernel
theorem dX0_init_20 : decode cX0_init 20 = .ok (.return_, 1) := by decide +kernel
theorem dX0_lay_0 : decode cX0_lay 0 = .ok (.aload_n 0, 1) := by decide +kernel
theorem dX0_lay_1 : decode cX0_lay 1 = .ok (.iload_n 3, 1) := by decide +kernel
theorem dX0_lay_2 : decode cX0_lay 2 = .ok (.putfield 16, 3) := by decide +kernel
theorem dX0_lay_5 : decode cX0_lay 5 = .ok (.aload_n 1, 1) := by decide +kernel
theorem dX0_lay_6 : decode cX0_lay 6 = .ok (.ifnonnull 4, 3) := by decide +kernel
theorem dX0_lay_9 : decode cX0_lay 9 = .ok (.return_, 1) := by decide +kernel
theorem dX0_lay_10 : decode cX0_lay 10 = .ok (.iconst 0, 1) := by decide +kernel
theorem dX0_lay_11 : decode cX0_lay 11 = .ok (.istore 4, 2) := by decide +kernel
theorem dX0_lay_13 : decode cX0_lay 13 = .ok (.iload 4, 2) := by decide +kernel
theorem dX0_lay_15 : decode cX0_lay 15 = .ok (.iconst 3, 1) := by decide +kernel
theorem dX0_lay_16 : decode cX0_lay 16 = .ok (.if_icmp .gt 61, 3) := by decide +kernel
theorem dX0_lay_19 : decode cX0_lay 19 = .ok (.aload_n 1, 1) := by decide +kernel
theorem dX0_lay_20 : decode cX0_lay 20 = .ok (.iload 4, 2) := by decide +kernel
theorem dX0_lay_22 : decode cX0_lay 22 = .ok (.iconst 0, 1) := by decide +kernel
theorem dX0_lay_23 : decode cX0_lay 23 = .ok (.iconst 0, 1) := by decide +kernel
theorem dX0_lay_24 : decode cX0_lay 24 = .ok (.invokevirtual 20, 3) := by decide +kernel
theorem dX0_lay_27 : decode cX0_lay 27 = .ok (.iconst 0, 1) := by decide +kernel
theorem dX0_lay_28 : decode cX0_lay 28 = .ok (.istore 5, 2) := by decide +kernel
theorem dX0_lay_30 : decode cX0_lay 30 = .ok (.iload 5, 2) := by decide +kernel
theorem dX0_lay_32 : decode cX0_lay 32 = .ok (.iload_n 3, 1) := by decide +kernel
theorem dX0_lay_33 : decode cX0_lay 33 = .ok (.if_icmp .ge 38, 3) := by decide +kernel
theorem dX0_lay_36 : decode cX0_lay 36 = .ok (.aload_n 1, 1) := by decide +kernel
theorem dX0_lay_37 : decode cX0_lay 37 = .ok (.iload 5, 2) := by decide +kernel
theorem dX0_lay_39 : decode cX0_lay 39 = .ok (.putfield 26, 3) := by decide +kernel
theorem dX0_lay_42 : decode cX0_lay 42 = .ok (.aload_n 1, 1) := by decide +kernel
theorem dX0_lay_43 : decode cX0_lay 43 = .ok (.aload_n 2, 1) := by decide +kernel
theorem dX0_lay_44 : decode cX0_lay 44 = .ok (.invokevirtual 29, 3) := by decide +kernel
theorem dX0_lay_47 : decode cX0_lay 47 = .ok (.aload_n 0, 1) := by decide +kernel
theorem dX0_lay_48 : decode cX0_lay 48 = .ok (.getfield 9, 3) := by decide +kernel
theorem dX0_lay_51 : decode cX0_lay 51 = .ok (.iload 5, 2) := by decide +kernel
theorem dX0_lay_53 : decode cX0_lay 53 = .ok (.iconst 4, 1) := by decide +kernel
theorem dX0_lay_54 : decode cX0_lay 54 = .ok (.imul, 1) := by decide +kernel
theorem dX0_lay_55 : decode cX0_lay 55 = .ok (.iload 4, 2) := by decide +kernel
theorem dX0_lay_57 : decode cX0_lay 57 = .ok (.iadd, 1) := by decide +kernel
theorem dX0_lay_58 : decode cX0_lay 58 = .ok (.aload_n 1, 1) := by decide +kernel
theorem dX0_lay_59 : decode cX0_lay 59 = .ok (.getfield 33, 3) := by decide +kernel
theorem dX0_lay_62 : decode cX0_lay 62 = .ok (.invokestatic 37, 3) := by decide +kernel
theorem dX0_lay_65 : decode cX0_lay 65 = .ok (.iinc 5 1, 3) := by decide +kernel
theorem dX0_lay_68 : decode cX0_lay 68 = .ok (.goto (-38), 3) := by decide +kernel
theorem dX0_lay_71 : decode cX0_lay 71 = .ok (.iinc 4 1, 3) := by decide +kernel
theorem dX0_lay_74 : decode cX0_lay 74 = .ok (.goto (-61), 3) := by decide +kernel
theorem dX0_lay_77 : decode cX0_lay 77 = .ok (.return_, 1) := by decide +kernel
theorem dX0_sumUp_0 : decode cX0_sumUp 0 = .ok (.iconst 0, 1) := by decide +kernel
theorem dX0_sumUp_1 : decode cX0_sumUp 1 = .ok (.istore_n 2, 1) := by decide +kernel
theorem dX0_sumUp_2 : decode cX0_sumUp 2 = .ok (.iload_n 2, 1) := by decide +kernel
theorem dX0_sumUp_3 : decode cX0_sumUp 3 = .ok (.iconst 3, 1) := by decide +kernel
theorem dX0_sumUp_4 : decode cX0_sumUp 4 = .ok (.if_icmp .gt 33, 3) := by decide +kernel
theorem dX0_sumUp_7 : decode cX0_sumUp 7 = .ok (.aload_n 0, 1) := by decide +kernel
theorem dX0_sumUp_8 : decode cX0_sumUp 8 = .ok (.getfield 13, 3) := by decide +kernel
theorem dX0_sumUp_11 : decode cX0_sumUp 11 = .ok (.aload_n 0, 1) := by decide +kernel
theorem dX0_sumUp_12 : decode cX0_sumUp 12 = .ok (.getfield 16, 3) := by decide +kernel
theorem dX0_sumUp_15 : decode cX0_sumUp 15 = .ok (.iconst 4, 1) := by decide +kernel
theorem dX0_sumUp_16 : decode cX0_sumUp 16 = .ok (.imul, 1) := by decide +kernel
theorem dX0_sumUp_17 : decode cX0_sumUp 17 = .ok (.iload_n 2, 1) := by decide +kernel
theorem dX0_sumUp_18 : decode cX0_sumUp 18 = .ok (.iadd, 1) := by decide +kernel
theorem dX0_sumUp_19 : decode cX0_sumUp 19 = .ok (.ldc2_w 43, 3) := by decide +kernel
theorem dX0_sumUp_22 : decode cX0_sumUp 22 = .ok (.iload_n 1, 1) := by decide +kernel
theorem dX0_sumUp_23 : decode cX0_sumUp 23 = .ok (.i2l, 1) := by decide +kernel
theorem dX0_sumUp_24 : decode cX0_sumUp 24 = .ok (.lmul, 1) := by decide +kernel
theorem dX0_sumUp_25 : decode cX0_sumUp 25 = .ok (.iload_n 2, 1) := by decide +kernel
theorem dX0_sumUp_26 : decode cX0_sumUp 26 = .ok (.i2l, 1) := by decide +kernel
theorem dX0_sumUp_27 : decode cX0_sumUp 27 = .ok (.lmul, 1) := by decide +kernel
theorem dX0_sumUp_28 : decode cX0_sumUp 28 = .ok (.invokestatic 37, 3) := by decide +kernel
theorem dX0_sumUp_31 : decode cX0_sumUp 31 = .ok (.iinc 2 1, 3) := by decide +kernel
theorem dX0_sumUp_34 : decode cX0_sumUp 34 = .ok (.goto (-32), 3) := by decide +kernel
theorem dX0_sumUp_37 : decode cX0_sumUp 37 = .ok (.aload_n 0, 1) := by decide +kernel
theorem dX0_sumUp_38 : decode cX0_sumUp 38 = .ok (.getfield 16, 3) := by decide +kernel
theorem dX0_sumUp_41 : decode cX0_sumUp 41 = .ok (.iconst 1, 1) := by decide +kernel
theorem dX0_sumUp_42 : decode cX0_sumUp 42 = .ok (.isub, 1) := by decide +kernel
theorem dX0_sumUp_43 : decode cX0_sumUp 43 = .ok (.istore_n 2, 1) := by decide +kernel
theorem dX0_sumUp_44 : decode cX0_sumUp 44 = .ok (.iload_n 2, 1) := by decide +kernel
theorem dX0_sumUp_45 : decode cX0_sumUp 45 = .ok (.ifCond .lt 66, 3) := by decide +kernel
theorem dX0_sumUp_48 : decode cX0_sumUp 48 = .ok (.iconst 0, 1) := by decide +kernel
theorem dX0_sumUp_49 : decode cX0_sumUp 49 = .ok (.istore_n 3, 1) := by decide +kernel
theorem dX0_sumUp_50 : decode cX0_sumUp 50 = .ok (.iload_n 3, 1) := by decide +kernel
theorem dX0_sumUp_51 : decode cX0_sumUp 51 = .ok (.iconst 3, 1) := by decide +kernel
theorem dX0_sumUp_52 : decode cX0_sumUp 52 = .ok (.if_icmp .gt 53, 3) := by decide +kernel
theorem dX0_sumUp_55 : decode cX0_sumUp 55 = .ok (.aload_n 0, 1) := by decide +kernel
theorem dX0_sumUp_56 : decode cX0_sumUp 56 = .ok (.iload_n 2, 1) := by decide +kernel
theorem dX0_sumUp_57 : decode cX0_sumUp 57 = .ok (.iload_n 3, 1) := by decide +kernel
theorem dX0_sumUp_58 : decode cX0_sumUp 58 = .ok (.invokevirtual 45, 3) := by decide +kernel
theorem dX0_sumUp_61 : decode cX0_sumUp 61 = .ok (.aload_n 0, 1) := by decide +kernel
theorem dX0_sumUp_62 : decode cX0_sumUp 62 = .ok (.iload_n 2, 1) := by decide +kernel
theorem dX0_sumUp_63 : decode cX0_sumUp 63 = .ok (.iload_n 3, 1) := by decide +kernel
theorem dX0_sumUp_64 : decode cX0_sumUp 64 = .ok (.invokevirtual 49, 3) := by decide +kernel
theorem dX0_sumUp_67 : decode cX0_sumUp 67 = .ok (.invokestatic 52, 3) := by decide +kernel
theorem dX0_sumUp_70 : decode cX0_sumUp 70 = .ok (.lstore 4, 2) := by decide +kernel
theorem dX0_sumUp_72 : decode cX0_sumUp 72 = .ok (.aload_n 0, 1) := by decide +kernel
theorem dX0_sumUp_73 : decode cX0_sumUp 73 = .ok (.getfield 13, 3) := by decide +kernel
theorem dX0_sumUp_76 : decode cX0_sumUp 76 = .ok (.iload_n 2, 1) := by decide +kernel
theorem dX0_sumUp_77 : decode cX0_sumUp 77 = .ok (.iconst 4, 1) := by decide +kernel
theorem dX0_sumUp_78 : decode cX0_sumUp 78 = .ok (.imul, 1) := by decide +kernel
theorem dX0_sumUp_79 : decode cX0_sumUp 79 = .ok (.iload_n 3, 1) := by decide +kernel
theorem dX0_sumUp_80 : decode cX0_sumUp 80 = .ok (.iadd, 1) := by decide +kernel
theorem dX0_sumUp_81 : decode cX0_sumUp 81 = .ok (.aload_n 0, 1) := by decide +kernel
theorem dX0_sumUp_82 : decode cX0_sumUp 82 = .ok (.getfield 9, 3) := by decide +kernel
theorem dX0_sumUp_85 : decode cX0_sumUp 85 = .ok (.iload_n 2, 1) := by decide +kernel
theorem dX0_sumUp_86 : decode cX0_sumUp 86 = .ok (.iconst 4, 1) := by decide +kernel
theorem dX0_sumUp_87 : decode cX0_sumUp 87 = .ok (.imul, 1) := by decide +kernel
theorem dX0_sumUp_88 : decode cX0_sumUp 88 = .ok (.iload_n 3, 1) := by decide +kernel
theorem dX0_sumUp_89 : decode cX0_sumUp 89 = .ok (.iadd, 1) := by decide +kernel
theorem dX0_sumUp_90 : decode cX0_sumUp 90 = .ok (.invokestatic 58, 3) := by decide +kernel
theorem dX0_sumUp_93 : decode cX0_sumUp 93 = .ok (.lload 4, 2) := by decide +kernel
theorem dX0_sumUp_95 : decode cX0_sumUp 95 = .ok (.ladd, 1) := by decide +kernel
theorem dX0_sumUp_96 : decode cX0_sumUp 96 = .ok (.invokestatic 37, 3) := by decide +kernel
theorem dX0_sumUp_99 : decode cX0_sumUp 99 = .ok (.iinc 3 1, 3) := by decide +kernel
theorem dX0_sumUp_102 : decode cX0_sumUp 102 = .ok (.goto (-52), 3) := by decide +kernel
theorem dX0_sumUp_105 : decode cX0_sumUp 105 = .ok (.iinc 2 (-1), 3) := by decide +kernel
theorem dX0_sumUp_108 : decode cX0_sumUp 108 = .ok (.goto (-64), 3) := by decide +kernel
theorem dX0_sumUp_111 : decode cX0_sumUp 111 = .ok (.return_, 1) := by decide +kernel
theorem dX0_sumOf_0 : decode cX0_sumOf 0 = .ok (.aload_n 0, 1) := by decide +kernel
theorem dX0_sumOf_1 : decode cX0_sumOf 1 = .ok (.getfield 13, 3) := by decide +kernel
theorem dX0_sumOf_4 : decode cX0_sumOf 4 = .ok (.iload_n 1, 1) := by decide +kernel
theorem dX0_sumOf_5 : decode cX0_sumOf 5 = .ok (.iconst 4, 1) := by decide +kernel
theorem dX0_sumOf_6 : decode cX0_sumOf 6 = .ok (.imul, 1) := by decide +kernel
theorem dX0_sumOf_7 : decode cX0_sumOf 7 = .ok (.iload_n 2, 1) := by decide +kernel
theorem dX0_sumOf_8 : decode cX0_sumOf 8 = .ok (.iadd, 1) := by decide +kernel
theorem dX0_sumOf_9 : decode cX0_sumOf 9 = .ok (.invokestatic 58, 3) := by decide +kernel
theorem dX0_sumOf_12 : decode cX0_sumOf 12 = .ok (.lreturn, 1) := by decide +kernel
theorem dX0_sumWithout_0 : decode cX0_sumWithout 0 = .ok (.aload_n 0, 1) := by decide +kernel
theorem dX0_sumWithout_1 : decode cX0_sumWithout 1 = .ok (.iload_n 1, 1) := by decide +kernel
theorem dX0_sumWithout_2 : decode cX0_sumWithout 2 = .ok (.iconst 1, 1) := by decide +kernel
theorem dX0_sumWithout_3 : decode cX0_sumWithout 3 = .ok (.iadd, 1) := by decide +kernel
theorem dX0_sumWithout_4 : decode cX0_sumWithout 4 = .ok (.iload_n 2, 1) := by decide +kernel
theorem dX0_sumWithout_5 : decode cX0_sumWithout 5 = .ok (.iconst 1, 1) := by decide +kernel
theorem dX0_sumWithout_6 : decode cX0_sumWithout 6 = .ok (.isub, 1) := by decide +kernel
theorem dX0_sumWithout_7 : decode cX0_sumWithout 7 = .ok (.iconst 0, 1) := by decide +kernel
theorem dX0_sumWithout_8 : decode cX0_sumWithout 8 = .ok (.invokestatic 62, 3) := by decide +kernel
theorem dX0_sumWithout_11 : decode cX0_sumWithout 11 = .ok (.invokevirtual 65, 3) := by decide +kernel
theorem dX0_sumWithout_14 : decode cX0_sumWithout 14 = .ok (.lreturn, 1) := by decide +kernel
theorem dX0_sumWith_0 : decode cX0_sumWith 0 = .ok (.aload_n 0, 1) := by decide +kernel
theorem dX0_sumWith_1 : decode cX0_sumWith 1 = .ok (.iload_n 1, 1) := by decide +kernel
theorem dX0_sumWith_2 : decode cX0_sumWith 2 = .ok (.iconst 1, 1) := by decide +kernel
theorem dX0_sumWith_3 : decode cX0_sumWith 3 = .ok (.iadd, 1) := by decide +kernel
theorem dX0_sumWith_4 : decode cX0_sumWith 4 = .ok (.iload_n 2, 1) := by decide +kernel
theorem dX0_sumWith_5 : decode cX0_sumWith 5 = .ok (.iconst 1, 1) := by decide +kernel
theorem dX0_sumWith_6 : decode cX0_sumWith 6 = .ok (.iadd, 1) := by decide +kernel
theorem dX0_sumWith_7 : decode cX0_sumWith 7 = .ok (.iconst 3, 1) := by decide +kernel
theorem dX0_sumWith_8 : decode cX0_sumWith 8 = .ok (.invokestatic 68, 3) := by decide +kernel
theorem dX0_sumWith_11 : decode cX0_sumWith 11 = .ok (.invokevirtual 65, 3) := by decide +kernel
theorem dX0_sumWith_14 : decode cX0_sumWith 14 = .ok (.ldc2_w 71, 3) := by decide +kernel
theorem dX0_sumWith_17 : decode cX0_sumWith 17 = .ok (.lsub, 1) := by decide +kernel
theorem dX0_sumWith_18 : decode cX0_sumWith 18 = .ok (.lreturn, 1) := by decide +kernel
theorem dX0_yearsWithDung_0 : decode cX0_yearsWithDung 0 = .ok (.lconst 0, 1) := by decide +kernel
theorem dX0_yearsWithDung_1 : decode cX0_yearsWithDung 1 = .ok (.lstore_n 2, 1) := by decide +kernel
theorem dX0_yearsWithDung_2 : decode cX0_yearsWithDung 2 = .ok (.iload_n 1, 1) := by decide +kernel
theorem dX0_yearsWithDung_3 : decode cX0_yearsWithDung 3 = .ok (.istore 4, 2) := by decide +kernel
theorem dX0_yearsWithDung_5 : decode cX0_yearsWithDung 5 = .ok (.iconst 0, 1) := by decide +kernel
theorem dX0_yearsWithDung_6 : decode cX0_yearsWithDung 6 = .ok (.istore 5, 2) := by decide +kernel
theorem dX0_yearsWithDung_8 : decode cX0_yearsWithDung 8 = .ok (.iload 5, 2) := by decide +kernel
theorem dX0_yearsWithDung_10 : decode cX0_yearsWithDung 10 = .ok (.aload_n 0, 1) := by decide +kernel
theorem dX0_yearsWithDung_11 : decode cX0_yearsWithDung 11 = .ok (.getfield 16, 3) := by decide +kernel
theorem dX0_yearsWithDung_14 : decode cX0_yearsWithDung 14 = .ok (.if_icmp .ge 59, 3) := by decide +kernel
theorem dX0_yearsWithDung_17 : decode cX0_yearsWithDung 17 = .ok (.aload_n 0, 1) := by decide +kernel
theorem dX0_yearsWithDung_18 : decode cX0_yearsWithDung 18 = .ok (.iload 5, 2) := by decide +kernel
theorem dX0_yearsWithDung_20 : decode cX0_yearsWithDung 20 = .ok (.iload 4, 2) := by decide +kernel
theorem dX0_yearsWithDung_22 : decode cX0_yearsWithDung 22 = .ok (.invokevirtual 49, 3) := by decide +kernel
theorem dX0_yearsWithDung_25 : decode cX0_yearsWithDung 25 = .ok (.aload_n 0, 1) := by decide +kernel
theorem dX0_yearsWithDung_26 : decode cX0_yearsWithDung 26 = .ok (.iload 5, 2) := by decide +kernel
theorem dX0_yearsWithDung_28 : decode cX0_yearsWithDung 28 = .ok (.iload 4, 2) := by decide +kernel
theorem dX0_yearsWithDung_30 : decode cX0_yearsWithDung 30 = .ok (.invokevirtual 45, 3) := by decide +kernel
theorem dX0_yearsWithDung_33 : decode cX0_yearsWithDung 33 = .ok (.lcmp, 1) := by decide +kernel
theorem dX0_yearsWithDung_34 : decode cX0_yearsWithDung 34 = .ok (.ifCond .le 23, 3) := by decide +kernel
theorem dX0_yearsWithDung_37 : decode cX0_yearsWithDung 37 = .ok (.lload_n 2, 1) := by decide +kernel
theorem dX0_yearsWithDung_38 : decode cX0_yearsWithDung 38 = .ok (.lconst 1, 1) := by decide +kernel
theorem dX0_yearsWithDung_39 : decode cX0_yearsWithDung 39 = .ok (.iload 5, 2) := by decide +kernel
theorem dX0_yearsWithDung_41 : decode cX0_yearsWithDung 41 = .ok (.lshl, 1) := by decide +kernel
theorem dX0_yearsWithDung_42 : decode cX0_yearsWithDung 42 = .ok (.lor, 1) := by decide +kernel
theorem dX0_yearsWithDung_43 : decode cX0_yearsWithDung 43 = .ok (.lstore_n 2, 1) := by decide +kernel
theorem dX0_yearsWithDung_44 : decode cX0_yearsWithDung 44 = .ok (.iload 4, 2) := by decide +kernel
theorem dX0_yearsWithDung_46 : decode cX0_yearsWithDung 46 = .ok (.iconst 1, 1) := by decide +kernel
theorem dX0_yearsWithDung_47 : decode cX0_yearsWithDung 47 = .ok (.iadd, 1) := by decide +kernel
theorem dX0_yearsWithDung_48 : decode cX0_yearsWithDung 48 = .ok (.iconst 3, 1) := by decide +kernel
theorem dX0_yearsWithDung_49 : decode cX0_yearsWithDung 49 = .ok (.invokestatic 68, 3) := by decide +kernel
theorem dX0_yearsWithDung_52 : decode cX0_yearsWithDung 52 = .ok (.istore 4, 2) := by decide +kernel
theorem dX0_yearsWithDung_54 : decode cX0_yearsWithDung 54 = .ok (.goto 13, 3) := by decide +kernel
theorem dX0_yearsWithDung_57 : decode cX0_yearsWithDung 57 = .ok (.iload 4, 2) := by decide +kernel
theorem dX0_yearsWithDung_59 : decode cX0_yearsWithDung 59 = .ok (.iconst 1, 1) := by decide +kernel
theorem dX0_yearsWithDung_60 : decode cX0_yearsWithDung 60 = .ok (.isub, 1) := by decide +kernel
theorem dX0_yearsWithDung_61 : decode cX0_yearsWithDung 61 = .ok (.iconst 0, 1) := by decide +kernel
theorem dX0_yearsWithDung_62 : decode cX0_yearsWithDung 62 = .ok (.invokestatic 62, 3) := by decide +kernel
theorem dX0_yearsWithDung_65 : decode cX0_yearsWithDung 65 = .ok (.istore 4, 2) := by decide +kernel
theorem dX0_yearsWithDung_67 : decode cX0_yearsWithDung 67 = .ok (.iinc 5 1, 3) := by decide +kernel
theorem dX0_yearsWithDung_70 : decode cX0_yearsWithDung 70 = .ok (.goto (-62), 3) := by decide +kernel
theorem dX0_yearsWithDung_73 : decode cX0_yearsWithDung 73 = .ok (.lload_n 2, 1) := by decide +kernel
theorem dX0_yearsWithDung_74 : decode cX0_yearsWithDung 74 = .ok (.lreturn, 1) := by decide +kernel
theorem dX1_init_0 : decode cX1_init 0 = .ok (.aload_n 0, 1) := by decide +kernel
theorem dX1_init_1 : decode cX1_init 1 = .ok (.invokespecial 3, 3) := by decide +kernel
theorem dX1_init_4 : decode cX1_init 4 = .ok (.aload_n 0, 1) := by decide +kernel
theorem dX1_init_5 : decode cX1_init 5 = .ok (.bipush 8, 2) := by decide +kernel
theorem dX1_init_7 : decode cX1_init 7 = .ok (.newarray .int, 2) := by decide +kernel
theorem dX1_init_9 : decode cX1_init 9 = .ok (.dup, 1) := by decide +kernel
theorem dX1_init_10 : decode cX1_init 10 = .ok (.iconst 0, 1) := by decide +kernel
theorem dX1_init_11 : decode cX1_init 11 = .ok (.bipush 10, 2) := by decide +kernel
theorem dX1_init_13 : decode cX1_init 13 = .ok (.iastore, 1) := by decide +kernel
theorem dX1_init_14 : decode cX1_init 14 = .ok (.dup, 1) := by decide +kernel
theorem dX1_init_15 : decode cX1_init 15 = .ok (.iconst 1, 1) := by decide +kernel
theorem dX1_init_16 : decode cX1_init 16 = .ok (.iconst 0, 1) := by decide +kernel
theorem dX1_init_17 : decode cX1_init 17 = .ok (.iastore, 1) := by decide +kernel
theorem dX1_init_18 : decode cX1_init 18 = .ok (.dup, 1) := by decide +kernel
theorem dX1_init_19 : decode cX1_init 19 = .ok (.iconst 2, 1) := by decide +kernel
theorem dX1_init_20 : decode cX1_init 20 = .ok (.iconst 0, 1) := by decide +kernel
theorem dX1_init_21 : decode cX1_init 21 = .ok (.iastore, 1) := by decide +kernel
theorem dX1_init_22 : decode cX1_init 22 = .ok (.dup, 1) := by decide +kernel
theorem dX1_init_23 : decode cX1_init 23 = .ok (.iconst 3, 1) := by decide +kernel
theorem dX1_init_24 : decode cX1_init 24 = .ok (.iconst 0, 1) := by decide +kernel
theorem dX1_init_25 : decode cX1_init 25 = .ok (.iastore, 1) := by decide +kernel
theorem dX1_init_26 : decode cX1_init 26 = .ok (.dup, 1) := by decide +kernel
theorem dX1_init_27 : decode cX1_init 27 = .ok (.iconst 4, 1) := by decide +kernel
theorem dX1_init_28 : decode cX1_init 28 = .ok (.bipush 99, 2) := by decide +kernel
theorem dX1_init_30 : decode cX1_init 30 = .ok (.iastore, 1) := by decide +kernel
theorem dX1_init_31 : decode cX1_init 31 = .ok (.dup, 1) := by decide +kernel
theorem dX1_init_32 : decode cX1_init 32 = .ok (.iconst 5, 1) := by decide +kernel
theorem dX1_init_33 : decode cX1_init 33 = .ok (.bipush 10, 2) := by decide +kernel
theorem dX1_init_35 : decode cX1_init 35 = .ok (.iastore, 1) := by decide +kernel
theorem dX1_init_36 : decode cX1_init 36 = .ok (.dup, 1) := by decide +kernel
theorem dX1_init_37 : decode cX1_init 37 = .ok (.bipush 6, 2) := by decide +kernel
theorem dX1_init_39 : decode cX1_init 39 = .ok (.bipush 99, 2) := by decide +kernel
theorem dX1_init_41 : decode cX1_init 41 = .ok (.iastore, 1) := by decide +kernel
theorem dX1_init_42 : decode cX1_init 42 = .ok (.dup, 1) := by decide +kernel
theorem dX1_init_43 : decode cX1_init 43 = .ok (.bipush 7, 2) := by decide +kernel
theorem dX1_init_45 : decode cX1_init 45 = .ok (.bipush 10, 2) := by decide +kernel
theorem dX1_init_47 : decode cX1_init 47 = .ok (.iastore, 1) := by decide +kernel
theorem dX1_init_48 : decode cX1_init 48 = .ok (.putfield 9, 3) := by decide +kernel
theorem dX1_init_51 : decode cX1_init 51 = .ok (.aload_n 0, 1) := by decide +kernel
theorem dX1_init_52 : decode cX1_init 52 = .ok (.bipush 8, 2) := by decide +kernel
theorem dX1_init_54 : decode cX1_init 54 = .ok (.newarray .int, 2) := by decide +kernel
theorem dX1_init_56 : decode cX1_init 56 = .ok (.putfield 15, 3) := by decide +kernel
theorem dX1_init_59 : decode cX1_init 59 = .ok (.aload_n 0, 1) := by decide +kernel
theorem dX1_init_60 : decode cX1_init 60 = .ok (.bipush 8, 2) := by decide +kernel
theorem dX1_init_62 : decode cX1_init 62 = .ok (.newarray .int, 2) := by decide +kernel
theorem dX1_init_64 : decode cX1_init 64 = .ok (.putfield 18, 3) := by decide +kernel
theorem dX1_init_67 : decode cX1_init 67 = .ok (.aload_n 0, 1) := by decide +kernel
theorem dX1_init_68 : decode cX1_init 68 = .ok (.bipush 6, 2) := by decide +kernel
theorem dX1_init_70 : decode cX1_init 70 = .ok (.newarray .int, 2) := by decide +kernel
theorem dX1_init_72 : decode cX1_init 72 = .ok (.putfield 21, 3) := by decide +kernel
theorem dX1_init_75 : decode cX1_init 75 = .ok (.aload_n 0, 1) := by decide +kernel
theorem dX1_init_76 : decode cX1_init 76 = .ok (.bipush 6, 2) := by decide +kernel
theorem dX1_init_78 : decode cX1_init 78 = .ok (.newarray .int, 2) := by decide +kernel
theorem dX1_init_80 : decode cX1_init 80 = .ok (.putfield 24, 3) := by decide +kernel
theorem dX1_init_83 : decode cX1_init 83 = .ok (.aload_n 0, 1) := by decide +kernel
theorem dX1_init_84 : decode cX1_init 84 = .ok (.bipush 8, 2) := by decide +kernel
theorem dX1_init_86 : decode cX1_init 86 = .ok (.anewarray 27, 3) := by decide +kernel
theorem dX1_init_89 : decode cX1_init 89 = .ok (.putfield 29, 3) := by decide +kernel
theorem dX1_init_92 : decode cX1_init 92 = .ok (.iconst 0, 1) := by decide +kernel
theorem dX1_init_93 : decode cX1_init 93 = .ok (.istore_n 1, 1) := by decide +kernel
theorem dX1_init_94 : decode cX1_init 94 = .ok (.iload_n 1, 1) := by decide +kernel
theorem dX1_init_95 : decode cX1_init 95 = .ok (.aload_n 0, 1) := by decide +kernel
theorem dX1_init_96 : decode cX1_init 96 = .ok (.getfield 29, 3) := by decide +kernel
theorem dX1_init_99 : decode cX1_init 99 = .ok (.arraylength, 1) := by decide +kernel
theorem dX1_init_100 : decode cX1_init 100 = .ok (.if_icmp .ge 22, 3) := by decide +kernel
theorem dX1_init_103 : decode cX1_init 103 = .ok (.aload_n 0, 1) := by decide +kernel
theorem dX1_init_104 : decode cX1_init 104 = .ok (.getfield 29, 3) := by decide +kernel
theorem dX1_init_107 : decode cX1_init 107 = .ok (.iload_n 1, 1) := by decide +kernel
theorem dX1_init_108 : decode cX1_init 108 = .ok (.new 27, 3) := by decide +kernel
theorem dX1_init_111 : decode cX1_init 111 = .ok (.dup, 1) := by decide +kernel
theorem dX1_init_112 : decode cX1_init 112 = .ok (.invokespecial 33, 3) := by decide +kernel
theorem dX1_init_115 : decode cX1_init 115 = .ok (.aastore, 1) := by decide +kernel
theorem dX1_init_116 : decode cX1_init 116 = .ok (.iinc 1 1, 3) := by decide +kernel
theorem dX1_init_119 : decode cX1_init 119 = .ok (.goto (-25), 3) := by decide +kernel
theorem dX1_init_122 : decode cX1_init 122 = .ok (.return_, 1) := by decide +kernel
theorem dX1_copyFrom_0 : decode cX1_copyFrom 0 = .ok (.aload_n 1, 1) := by decide +kernel
theorem dX1_copyFrom_1 : decode cX1_copyFrom 1 = .ok (.ifnonnull 4, 3) := by decide +kernel
theorem dX1_copyFrom_4 : decode cX1_copyFrom 4 = .ok (.return_, 1) := by decide +kernel
theorem dX1_copyFrom_5 : decode cX1_copyFrom 5 = .ok (.aload_n 1, 1) := by decide +kernel
theorem dX1_copyFrom_6 : decode cX1_copyFrom 6 = .ok (.getfield 9, 3) := by decide +kernel
theorem dX1_copyFrom_9 : decode cX1_copyFrom 9 = .ok (.aload_n 0, 1) := by decide +kernel
theorem dX1_copyFrom_10 : decode cX1_copyFrom 10 = .ok (.getfield 9, 3) := by decide +kernel
theorem dX1_copyFrom_13 : decode cX1_copyFrom 13 = .ok (.invokestatic 34, 3) := by decide +kernel
theorem dX1_copyFrom_16 : decode cX1_copyFrom 16 = .ok (.aload_n 1, 1) := by decide +kernel
theorem dX1_copyFrom_17 : decode cX1_copyFrom 17 = .ok (.getfield 15, 3) := by decide +kernel
theorem dX1_copyFrom_20 : decode cX1_copyFrom 20 = .ok (.aload_n 0, 1) := by decide +kernel
theorem dX1_copyFrom_21 : decode cX1_copyFrom 21 = .ok (.getfield 15, 3) := by decide +kernel
theorem dX1_copyFrom_24 : decode cX1_copyFrom 24 = .ok (.invokestatic 34, 3) := by decide +kernel
theorem dX1_copyFrom_27 : decode cX1_copyFrom 27 = .ok (.aload_n 1, 1) := by decide +kernel
theorem dX1_copyFrom_28 : decode cX1_copyFrom 28 = .ok (.getfield 18, 3) := by decide +kernel
theorem dX1_copyFrom_31 : decode cX1_copyFrom 31 = .ok (.aload_n 0, 1) := by decide +kernel
theorem dX1_copyFrom_32 : decode cX1_copyFrom 32 = .ok (.getfield 18, 3) := by decide +kernel
theorem dX1_copyFrom_35 : decode cX1_copyFrom 35 = .ok (.invokestatic 34, 3) := by decide +kernel
theorem dX1_copyFrom_38 : decode cX1_copyFrom 38 = .ok (.aload_n 1, 1) := by decide +kernel
theorem dX1_copyFrom_39 : decode cX1_copyFrom 39 = .ok (.getfield 21, 3) := by decide +kernel
theorem dX1_copyFrom_42 : decode cX1_copyFrom 42 = .ok (.aload_n 0, 1) := by decide +kernel
theorem dX1_copyFrom_43 : decode cX1_copyFrom 43 = .ok (.getfield 21, 3) := by decide +kernel
theorem dX1_copyFrom_46 : decode cX1_copyFrom 46 = .ok (.invokestatic 34, 3) := by decide +kernel
theorem dX1_copyFrom_49 : decode cX1_copyFrom 49 = .ok (.aload_n 1, 1) := by decide +kernel
theorem dX1_copyFrom_50 : decode cX1_copyFrom 50 = .ok (.getfield 24, 3) := by decide +kernel
theorem dX1_copyFrom_53 : decode cX1_copyFrom 53 = .ok (.aload_n 0, 1) := by decide +kernel
theorem dX1_copyFrom_54 : decode cX1_copyFrom 54 = .ok (.getfield 24, 3) := by decide +kernel
theorem dX1_copyFrom_57 : decode cX1_copyFrom 57 = .ok (.invokestatic 34, 3) := by decide +kernel
theorem dX1_copyFrom_60 : decode cX1_copyFrom 60 = .ok (.iconst 0, 1) := by decide +kernel
theorem dX1_copyFrom_61 : decode cX1_copyFrom 61 = .ok (.istore_n 2, 1) := by decide +kernel
theorem dX1_copyFrom_62 : decode cX1_copyFrom 62 = .ok (.iload_n 2, 1) := by decide +kernel
theorem dX1_copyFrom_63 : decode cX1_copyFrom 63 = .ok (.aload_n 0, 1) := by decide +kernel
theorem dX1_copyFrom_64 : decode cX1_copyFrom 64 = .ok (.getfield 29, 3) := by decide +kernel
theorem dX1_copyFrom_67 : decode cX1_copyFrom 67 = .ok (.arraylength, 1) := by decide +kernel
theorem dX1_copyFrom_68 : decode cX1_copyFrom 68 = .ok (.if_icmp .ge 42, 3) := by decide +kernel
theorem dX1_copyFrom_71 : decode cX1_copyFrom 71 = .ok (.iload_n 2, 1) := by decide +kernel
theorem dX1_copyFrom_72 : decode cX1_copyFrom 72 = .ok (.aload_n 1, 1) := by decide +kernel
theorem dX1_copyFrom_73 : decode cX1_copyFrom 73 = .ok (.getfield 29, 3) := by decide +kernel
theorem dX1_copyFrom_76 : decode cX1_copyFrom 76 = .ok (.arraylength, 1) := by decide +kernel
theorem dX1_copyFrom_77 : decode cX1_copyFrom 77 = .ok (.if_icmp .ge 33, 3) := by decide +kernel
theorem dX1_copyFrom_80 : decode cX1_copyFrom 80 = .ok (.aload_n 0, 1) := by decide +kernel
theorem dX1_copyFrom_81 : decode cX1_copyFrom 81 = .ok (.getfield 29, 3) := by decide +kernel
theorem dX1_copyFrom_84 : decode cX1_copyFrom 84 = .ok (.iload_n 2, 1) := by decide +kernel
theorem dX1_copyFrom_85 : decode cX1_copyFrom 85 = .ok (.aaload, 1) := by decide +kernel
theorem dX1_copyFrom_86 : decode cX1_copyFrom 86 = .ok (.ifnull 18, 3) := by decide +kernel
theorem dX1_copyFrom_89 : decode cX1_copyFrom 89 = .ok (.aload_n 0, 1) := by decide +kernel
theorem dX1_copyFrom_90 : decode cX1_copyFrom 90 = .ok (.getfield 29, 3) := by decide +kernel
theorem dX1_copyFrom_93 : decode cX1_copyFrom 93 = .ok (.iload_n 2, 1) := by decide +kernel
theorem dX1_copyFrom_94 : decode cX1_copyFrom 94 = .ok (.aaload, 1) := by decide +kernel
theorem dX1_copyFrom_95 : decode cX1_copyFrom 95 = .ok (.aload_n 1, 1) := by decide +kernel
theorem dX1_copyFrom_96 : decode cX1_copyFrom 96 = .ok (.getfield 29, 3) := by decide +kernel
theorem dX1_copyFrom_99 : decode cX1_copyFrom 99 = .ok (.iload_n 2, 1) := by decide +kernel
theorem dX1_copyFrom_100 : decode cX1_copyFrom 100 = .ok (.aaload, 1) := by decide +kernel
theorem dX1_copyFrom_101 : decode cX1_copyFrom 101 = .ok (.invokevirtual 40, 3) := by decide +kernel
theorem dX1_copyFrom_104 : decode cX1_copyFrom 104 = .ok (.iinc 2 1, 3) := by decide +kernel
theorem dX1_copyFrom_107 : decode cX1_copyFrom 107 = .ok (.goto (-45), 3) := by decide +kernel
theorem dX1_copyFrom_110 : decode cX1_copyFrom 110 = .ok (.aload_n 0, 1) := by decide +kernel
theorem dX1_copyFrom_111 : decode cX1_copyFrom 111 = .ok (.aload_n 1, 1) := by decide +kernel
theorem dX1_copyFrom_112 : decode cX1_copyFrom 112 = .ok (.getfield 44, 3) := by decide +kernel
theorem dX1_copyFrom_115 : decode cX1_copyFrom 115 = .ok (.putfield 44, 3) := by decide +kernel
theorem dX1_copyFrom_118 : decode cX1_copyFrom 118 = .ok (.aload_n 0, 1) := by decide +kernel
theorem dX1_copyFrom_119 : decode cX1_copyFrom 119 = .ok (.aload_n 1, 1) := by decide +kernel
theorem dX1_copyFrom_120 : decode cX1_copyFrom 120 = .ok (.getfield 48, 3) := by decide +kernel
theorem dX1_copyFrom_123 : decode cX1_copyFrom 123 = .ok (.putfield 48, 3) := by decide +kernel
theorem dX1_copyFrom_126 : decode cX1_copyFrom 126 = .ok (.aload_n 0, 1) := by decide +kernel
theorem dX1_copyFrom_127 : decode cX1_copyFrom 127 = .ok (.aload_n 1, 1) := by decide +kernel
theorem dX1_copyFrom_128 : decode cX1_copyFrom 128 = .ok (.getfield 51, 3) := by decide +kernel
theorem dX1_copyFrom_131 : decode cX1_copyFrom 131 = .ok (.putfield 51, 3) := by decide +kernel
theorem dX1_copyFrom_134 : decode cX1_copyFrom 134 = .ok (.return_, 1) := by decide +kernel
theorem dX1_isSetting_0 : decode cX1_isSetting 0 = .ok (.iload_n 0, 1) := by decide +kernel
theorem dX1_isSetting_1 : decode cX1_isSetting 1 = .ok (.ifCond .lt 15, 3) := by decide +kernel
theorem dX1_isSetting_4 : decode cX1_isSetting 4 = .ok (.iload_n 0, 1) := by decide +kernel
theorem dX1_isSetting_5 : decode cX1_isSetting 5 = .ok (.getstatic 54, 3) := by decide +kernel
theorem dX1_isSetting_8 : decode cX1_isSetting 8 = .ok (.arraylength, 1) := by decide +kernel
theorem dX1_isSetting_9 : decode cX1_isSetting 9 = .ok (.if_icmp .ge 7, 3) := by decide +kernel
theorem dX1_isSetting_12 : decode cX1_isSetting 12 = .ok (.iconst 1, 1) := by decide +kernel
theorem dX1_isSetting_13 : decode cX1_isSetting 13 = .ok (.goto 4, 3) := by decide +kernel
theorem dX1_isSetting_16 : decode cX1_isSetting 16 = .ok (.iconst 0, 1) := by decide +kernel
theorem dX1_isSetting_17 : decode cX1_isSetting 17 = .ok (.ireturn, 1) := by decide +kernel
theorem dX1_mostOf_0 : decode cX1_mostOf 0 = .ok (.iload_n 0, 1) := by decide +kernel
theorem dX1_mostOf_1 : decode cX1_mostOf 1 = .ok (.ifCond .lt 19, 3) := by decide +kernel
theorem dX1_mostOf_4 : decode cX1_mostOf 4 = .ok (.iload_n 0, 1) := by decide +kernel
theorem dX1_mostOf_5 : decode cX1_mostOf 5 = .ok (.getstatic 54, 3) := by decide +kernel
theorem dX1_mostOf_8 : decode cX1_mostOf 8 = .ok (.arraylength, 1) := by decide +kernel
theorem dX1_mostOf_9 : decode cX1_mostOf 9 = .ok (.if_icmp .ge 11, 3) := by decide +kernel
theorem dX1_mostOf_12 : decode cX1_mostOf 12 = .ok (.getstatic 54, 3) := by decide +kernel
theorem dX1_mostOf_15 : decode cX1_mostOf 15 = .ok (.iload_n 0, 1) := by decide +kernel
theorem dX1_mostOf_16 : decode cX1_mostOf 16 = .ok (.iaload, 1) := by decide +kernel
theorem dX1_mostOf_17 : decode cX1_mostOf 17 = .ok (.goto 4, 3) := by decide +kernel
theorem dX1_mostOf_20 : decode cX1_mostOf 20 = .ok (.iconst 0, 1) := by decide +kernel
theorem dX1_mostOf_21 : decode cX1_mostOf 21 = .ok (.ireturn, 1) := by decide +kernel
theorem dX1_setting_0 : decode cX1_setting 0 = .ok (.iload_n 1, 1) := by decide +kernel
theorem dX1_setting_1 : decode cX1_setting 1 = .ok (.ifCond .lt 21, 3) := by decide +kernel
theorem dX1_setting_4 : decode cX1_setting 4 = .ok (.iload_n 1, 1) := by decide +kernel
theorem dX1_setting_5 : decode cX1_setting 5 = .ok (.aload_n 0, 1) := by decide +kernel
theorem dX1_setting_6 : decode cX1_setting 6 = .ok (.getfield 9, 3) := by decide +kernel
theorem dX1_setting_9 : decode cX1_setting 9 = .ok (.arraylength, 1) := by decide +kernel
theorem dX1_setting_10 : decode cX1_setting 10 = .ok (.if_icmp .ge 12, 3) := by decide +kernel
theorem dX1_setting_13 : decode cX1_setting 13 = .ok (.aload_n 0, 1) := by decide +kernel
theorem dX1_setting_14 : decode cX1_setting 14 = .ok (.getfield 9, 3) := by decide +kernel
theorem dX1_setting_17 : decode cX1_setting 17 = .ok (.iload_n 1, 1) := by decide +kernel
theorem dX1_setting_18 : decode cX1_setting 18 = .ok (.iaload, 1) := by decide +kernel
theorem dX1_setting_19 : decode cX1_setting 19 = .ok (.goto 4, 3) := by decide +kernel
theorem dX1_setting_22 : decode cX1_setting 22 = .ok (.iconst 0, 1) := by decide +kernel
theorem dX1_setting_23 : decode cX1_setting 23 = .ok (.ireturn, 1) := by decide +kernel
theorem dX1_putSetting_0 : decode cX1_putSetting 0 = .ok (.iload_n 1, 1) := by decide +kernel
theorem dX1_putSetting_1 : decode cX1_putSetting 1 = .ok (.ifCond .lt 19, 3) := by decide +kernel
theorem dX1_putSetting_4 : decode cX1_putSetting 4 = .ok (.iload_n 1, 1) := by decide +kernel
theorem dX1_putSetting_5 : decode cX1_putSetting 5 = .ok (.aload_n 0, 1) := by decide +kernel
theorem dX1_putSetting_6 : decode cX1_putSetting 6 = .ok (.getfield 9, 3) := by decide +kernel
theorem dX1_putSetting_9 : decode cX1_putSetting 9 = .ok (.arraylength, 1) := by decide +kernel
theorem dX1_putSetting_10 : decode cX1_putSetting 10 = .ok (.if_icmp .ge 10, 3) := by decide +kernel
theorem dX1_putSetting_13 : decode cX1_putSetting 13 = .ok (.aload_n 0, 1) := by decide +kernel
theorem dX1_putSetting_14 : decode cX1_putSetting 14 = .ok (.getfield 9, 3) := by decide +kernel
theorem dX1_putSetting_17 : decode cX1_putSetting 17 = .ok (.iload_n 1, 1) := by decide +kernel
theorem dX1_putSetting_18 : decode cX1_putSetting 18 = .ok (.iload_n 2, 1) := by decide +kernel
theorem dX1_putSetting_19 : decode cX1_putSetting 19 = .ok (.iastore, 1) := by decide +kernel
theorem dX1_putSetting_20 : decode cX1_putSetting 20 = .ok (.return_, 1) := by decide +kernel
theorem dX1_termAt_0 : decode cX1_termAt 0 = .ok (.iload_n 1, 1) := by decide +kernel
theorem dX1_termAt_1 : decode cX1_termAt 1 = .ok (.ifCond .lt 29, 3) := by decide +kernel
theorem dX1_termAt_4 : decode cX1_termAt 4 = .ok (.iload_n 1, 1) := by decide +kernel
theorem dX1_termAt_5 : decode cX1_termAt 5 = .ok (.aload_n 0, 1) := by decide +kernel
theorem dX1_termAt_6 : decode cX1_termAt 6 = .ok (.getfield 51, 3) := by decide +kernel
theorem dX1_termAt_9 : decode cX1_termAt 9 = .ok (.if_icmp .ge 21, 3) := by decide +kernel
theorem dX1_termAt_12 : decode cX1_termAt 12 = .ok (.iload_n 1, 1) := by decide +kernel
theorem dX1_termAt_13 : decode cX1_termAt 13 = .ok (.aload_n 0, 1) := by decide +kernel
theorem dX1_termAt_14 : decode cX1_termAt 14 = .ok (.getfield 29, 3) := by decide +kernel
theorem dX1_termAt_17 : decode cX1_termAt 17 = .ok (.arraylength, 1) := by decide +kernel
theorem dX1_termAt_18 : decode cX1_termAt 18 = .ok (.if_icmp .ge 12, 3) := by decide +kernel
theorem dX1_termAt_21 : decode cX1_termAt 21 = .ok (.aload_n 0, 1) := by decide +kernel
theorem dX1_termAt_22 : decode cX1_termAt 22 = .ok (.getfield 29, 3) := by decide +kernel
theorem dX1_termAt_25 : decode cX1_termAt 25 = .ok (.iload_n 1, 1) := by decide +kernel
theorem dX1_termAt_26 : decode cX1_termAt 26 = .ok (.aaload, 1) := by decide +kernel
theorem dX1_termAt_27 : decode cX1_termAt 27 = .ok (.goto 4, 3) := by decide +kernel
theorem dX1_termAt_30 : decode cX1_termAt 30 = .ok (.aconst_null, 1) := by decide +kernel
theorem dX1_termAt_31 : decode cX1_termAt 31 = .ok (.areturn, 1) := by decide +kernel
theorem dX1_addTerm_0 : decode cX1_addTerm 0 = .ok (.aload_n 0, 1) := by decide +kernel
theorem dX1_addTerm_1 : decode cX1_addTerm 1 = .ok (.getfield 51, 3) := by decide +kernel
theorem dX1_addTerm_4 : decode cX1_addTerm 4 = .ok (.istore_n 2, 1) := by decide +kernel
theorem dX1_addTerm_5 : decode cX1_addTerm 5 = .ok (.iload_n 2, 1) := by decide +kernel
theorem dX1_addTerm_6 : decode cX1_addTerm 6 = .ok (.ifCond .lt 41, 3) := by decide +kernel
theorem dX1_addTerm_9 : decode cX1_addTerm 9 = .ok (.iload_n 2, 1) := by decide +kernel
theorem dX1_addTerm_10 : decode cX1_addTerm 10 = .ok (.aload_n 0, 1) := by decide +kernel
theorem dX1_addTerm_11 : decode cX1_addTerm 11 = .ok (.getfield 29, 3) := by decide +kernel
theorem dX1_addTerm_14 : decode cX1_addTerm 14 = .ok (.arraylength, 1) := by decide +kernel
theorem dX1_addTerm_15 : decode cX1_addTerm 15 = .ok (.if_icmp .ge 32, 3) := by decide +kernel
theorem dX1_addTerm_18 : decode cX1_addTerm 18 = .ok (.aload_n 0, 1) := by decide +kernel
theorem dX1_addTerm_19 : decode cX1_addTerm 19 = .ok (.getfield 29, 3) := by decide +kernel
theorem dX1_addTerm_22 : decode cX1_addTerm 22 = .ok (.iload_n 2, 1) := by decide +kernel
theorem dX1_addTerm_23 : decode cX1_addTerm 23 = .ok (.aaload, 1) := by decide +kernel
theorem dX1_addTerm_24 : decode cX1_addTerm 24 = .ok (.ifnull 23, 3) := by decide +kernel
theorem dX1_addTerm_27 : decode cX1_addTerm 27 = .ok (.aload_n 0, 1) := by decide +kernel
theorem dX1_addTerm_28 : decode cX1_addTerm 28 = .ok (.getfield 29, 3) := by decide +kernel
theorem dX1_addTerm_31 : decode cX1_addTerm 31 = .ok (.iload_n 2, 1) := by decide +kernel
theorem dX1_addTerm_32 : decode cX1_addTerm 32 = .ok (.aaload, 1) := by decide +kernel
theorem dX1_addTerm_33 : decode cX1_addTerm 33 = .ok (.aload_n 1, 1) := by decide +kernel
theorem dX1_addTerm_34 : decode cX1_addTerm 34 = .ok (.invokevirtual 40, 3) := by decide +kernel
theorem dX1_addTerm_37 : decode cX1_addTerm 37 = .ok (.aload_n 0, 1) := by decide +kernel
theorem dX1_addTerm_38 : decode cX1_addTerm 38 = .ok (.dup, 1) := by decide +kernel
theorem dX1_addTerm_39 : decode cX1_addTerm 39 = .ok (.getfield 51, 3) := by decide +kernel
theorem dX1_addTerm_42 : decode cX1_addTerm 42 = .ok (.iconst 1, 1) := by decide +kernel
theorem dX1_addTerm_43 : decode cX1_addTerm 43 = .ok (.iadd, 1) := by decide +kernel
theorem dX1_addTerm_44 : decode cX1_addTerm 44 = .ok (.putfield 51, 3) := by decide +kernel
theorem dX1_addTerm_47 : decode cX1_addTerm 47 = .ok (.iload_n 2, 1) := by decide +kernel
theorem dX1_addTerm_48 : decode cX1_addTerm 48 = .ok (.ireturn, 1) := by decide +kernel
theorem dX1_hasPains_0 : decode cX1_hasPains 0 = .ok (.iload_n 1, 1) := by decide +kernel
theorem dX1_hasPains_1 : decode cX1_hasPains 1 = .ok (.ifCond .lt 15, 3) := by decide +kernel
theorem dX1_hasPains_4 : decode cX1_hasPains 4 = .ok (.iload_n 1, 1) := by decide +kernel
theorem dX1_hasPains_5 : decode cX1_hasPains 5 = .ok (.aload_n 0, 1) := by decide +kernel
theorem dX1_hasPains_6 : decode cX1_hasPains 6 = .ok (.getfield 44, 3) := by decide +kernel
theorem dX1_hasPains_9 : decode cX1_hasPains 9 = .ok (.if_icmp .gt 7, 3) := by decide +kernel
theorem dX1_hasPains_12 : decode cX1_hasPains 12 = .ok (.iconst 1, 1) := by decide +kernel
theorem dX1_hasPains_13 : decode cX1_hasPains 13 = .ok (.goto 4, 3) := by decide +kernel
theorem dX1_hasPains_16 : decode cX1_hasPains 16 = .ok (.iconst 0, 1) := by decide +kernel
theorem dX1_hasPains_17 : decode cX1_hasPains 17 = .ok (.ireturn, 1) := by decide +kernel
theorem dX1_addStep_0 : decode cX1_addStep 0 = .ok (.aload_n 0, 1) := by decide +kernel
theorem dX1_addStep_1 : decode cX1_addStep 1 = .ok (.getfield 44, 3) := by decide +kernel
theorem dX1_addStep_4 : decode cX1_addStep 4 = .ok (.bipush 8, 2) := by decide +kernel
theorem dX1_addStep_6 : decode cX1_addStep 6 = .ok (.if_icmp .ge 15, 3) := by decide +kernel
theorem dX1_addStep_9 : decode cX1_addStep 9 = .ok (.iload_n 1, 1) := by decide +kernel
theorem dX1_addStep_10 : decode cX1_addStep 10 = .ok (.bipush 99, 2) := by decide +kernel
theorem dX1_addStep_12 : decode cX1_addStep 12 = .ok (.if_icmp .gt 9, 3) := by decide +kernel
theorem dX1_addStep_15 : decode cX1_addStep 15 = .ok (.iload_n 2, 1) := by decide +kernel
theorem dX1_addStep_16 : decode cX1_addStep 16 = .ok (.bipush 99, 2) := by decide +kernel
theorem dX1_addStep_18 : decode cX1_addStep 18 = .ok (.if_icmp .le 5, 3) := by decide +kernel
theorem dX1_addStep_21 : decode cX1_addStep 21 = .ok (.iconst 0, 1) := by decide +kernel
theorem dX1_addStep_22 : decode cX1_addStep 22 = .ok (.ireturn, 1) := by decide +kernel
theorem dX1_addStep_23 : decode cX1_addStep 23 = .ok (.aload_n 0, 1) := by decide +kernel
theorem dX1_addStep_24 : decode cX1_addStep 24 = .ok (.getfield 15, 3) := by decide +kernel
theorem dX1_addStep_27 : decode cX1_addStep 27 = .ok (.aload_n 0, 1) := by decide +kernel
theorem dX1_addStep_28 : decode cX1_addStep 28 = .ok (.getfield 44, 3) := by decide +kernel
theorem dX1_addStep_31 : decode cX1_addStep 31 = .ok (.iload_n 1, 1) := by decide +kernel
theorem dX1_addStep_32 : decode cX1_addStep 32 = .ok (.invokestatic 57, 3) := by decide +kernel
theorem dX1_addStep_35 : decode cX1_addStep 35 = .ok (.aload_n 0, 1) := by decide +kernel
theorem dX1_addStep_36 : decode cX1_addStep 36 = .ok (.getfield 18, 3) := by decide +kernel
theorem dX1_addStep_39 : decode cX1_addStep 39 = .ok (.aload_n 0, 1) := by decide +kernel
theorem dX1_addStep_40 : decode cX1_addStep 40 = .ok (.getfield 44, 3) := by decide +kernel
theorem dX1_addStep_43 : decode cX1_addStep 43 = .ok (.iload_n 2, 1) := by decide +kernel
theorem dX1_addStep_44 : decode cX1_addStep 44 = .ok (.invokestatic 57, 3) := by decide +kernel
theorem dX1_addStep_47 : decode cX1_addStep 47 = .ok (.aload_n 0, 1) := by decide +kernel
theorem dX1_addStep_48 : decode cX1_addStep 48 = .ok (.dup, 1) := by decide +kernel
theorem dX1_addStep_49 : decode cX1_addStep 49 = .ok (.getfield 44, 3) := by decide +kernel
theorem dX1_addStep_52 : decode cX1_addStep 52 = .ok (.iconst 1, 1) := by decide +kernel
theorem dX1_addStep_53 : decode cX1_addStep 53 = .ok (.iadd, 1) := by decide +kernel
theorem dX1_addStep_54 : decode cX1_addStep 54 = .ok (.putfield 44, 3) := by decide +kernel
theorem dX1_addStep_57 : decode cX1_addStep 57 = .ok (.iconst 1, 1) := by decide +kernel
theorem dX1_addStep_58 : decode cX1_addStep 58 = .ok (.ireturn, 1) := by decide +kernel
theorem dX1_addWeather_0 : decode cX1_addWeather 0 = .ok (.aload_n 0, 1) := by decide +kernel
theorem dX1_addWeather_1 : decode cX1_addWeather 1 = .ok (.getfield 48, 3) := by decide +kernel
theorem dX1_addWeather_4 : decode cX1_addWeather 4 = .ok (.bipush 6, 2) := by decide +kernel
theorem dX1_addWeather_6 : decode cX1_addWeather 6 = .ok (.if_icmp .ge 15, 3) := by decide +kernel
theorem dX1_addWeather_9 : decode cX1_addWeather 9 = .ok (.iload_n 1, 1) := by decide +kernel
theorem dX1_addWeather_10 : decode cX1_addWeather 10 = .ok (.iconst 1, 1) := by decide +kernel
theorem dX1_addWeather_11 : decode cX1_addWeather 11 = .ok (.if_icmp .lt 10, 3) := by decide +kernel
theorem dX1_addWeather_14 : decode cX1_addWeather 14 = .ok (.iload_n 2, 1) := by decide +kernel
theorem dX1_addWeather_15 : decode cX1_addWeather 15 = .ok (.sipush 300, 3) := by decide +kernel
theorem dX1_addWeather_18 : decode cX1_addWeather 18 = .ok (.if_icmp .le 5, 3) := by decide +kernel
theorem dX1_addWeather_21 : decode cX1_addWeather 21 = .ok (.iconst 0, 1) := by decide +kernel
theorem dX1_addWeather_22 : decode cX1_addWeather 22 = .ok (.ireturn, 1) := by decide +kernel
theorem dX1_addWeather_23 : decode cX1_addWeather 23 = .ok (.aload_n 0, 1) := by decide +kernel
theorem dX1_addWeather_24 : decode cX1_addWeather 24 = .ok (.getfield 21, 3) := by decide +kernel
theorem dX1_addWeather_27 : decode cX1_addWeather 27 = .ok (.aload_n 0, 1) := by decide +kernel
theorem dX1_addWeather_28 : decode cX1_addWeather 28 = .ok (.getfield 48, 3) := by decide +kernel
theorem dX1_addWeather_31 : decode cX1_addWeather 31 = .ok (.invokestatic 61, 3) := by decide +kernel
theorem dX1_addWeather_34 : decode cX1_addWeather 34 = .ok (.iload_n 1, 1) := by decide +kernel
theorem dX1_addWeather_35 : decode cX1_addWeather 35 = .ok (.iadd, 1) := by decide +kernel
theorem dX1_addWeather_36 : decode cX1_addWeather 36 = .ok (.bipush 100, 2) := by decide +kernel
theorem dX1_addWeather_38 : decode cX1_addWeather 38 = .ok (.if_icmp .le 5, 3) := by decide +kernel
theorem dX1_addWeather_41 : decode cX1_addWeather 41 = .ok (.iconst 0, 1) := by decide +kernel
theorem dX1_addWeather_42 : decode cX1_addWeather 42 = .ok (.ireturn, 1) := by decide +kernel
theorem dX1_addWeather_43 : decode cX1_addWeather 43 = .ok (.aload_n 0, 1) := by decide +kernel
theorem dX1_addWeather_44 : decode cX1_addWeather 44 = .ok (.getfield 21, 3) := by decide +kernel
theorem dX1_addWeather_47 : decode cX1_addWeather 47 = .ok (.aload_n 0, 1) := by decide +kernel
theorem dX1_addWeather_48 : decode cX1_addWeather 48 = .ok (.getfield 48, 3) := by decide +kernel
theorem dX1_addWeather_51 : decode cX1_addWeather 51 = .ok (.iload_n 1, 1) := by decide +kernel
theorem dX1_addWeather_52 : decode cX1_addWeather 52 = .ok (.invokestatic 57, 3) := by decide +kernel
theorem dX1_addWeather_55 : decode cX1_addWeather 55 = .ok (.aload_n 0, 1) := by decide +kernel
theorem dX1_addWeather_56 : decode cX1_addWeather 56 = .ok (.getfield 24, 3) := by decide +kernel
theorem dX1_addWeather_59 : decode cX1_addWeather 59 = .ok (.aload_n 0, 1) := by decide +kernel
theorem dX1_addWeather_60 : decode cX1_addWeather 60 = .ok (.getfield 48, 3) := by decide +kernel
theorem dX1_addWeather_63 : decode cX1_addWeather 63 = .ok (.iload_n 2, 1) := by decide +kernel
theorem dX1_addWeather_64 : decode cX1_addWeather 64 = .ok (.invokestatic 57, 3) := by decide +kernel
theorem dX1_addWeather_67 : decode cX1_addWeather 67 = .ok (.aload_n 0, 1) := by decide +kernel
theorem dX1_addWeather_68 : decode cX1_addWeather 68 = .ok (.dup, 1) := by decide +kernel
theorem dX1_addWeather_69 : decode cX1_addWeather 69 = .ok (.getfield 48, 3) := by decide +kernel
theorem dX1_addWeather_72 : decode cX1_addWeather 72 = .ok (.iconst 1, 1) := by decide +kernel
theorem dX1_addWeather_73 : decode cX1_addWeather 73 = .ok (.iadd, 1) := by decide +kernel
theorem dX1_addWeather_74 : decode cX1_addWeather 74 = .ok (.putfield 48, 3) := by decide +kernel
theorem dX1_addWeather_77 : decode cX1_addWeather 77 = .ok (.iconst 1, 1) := by decide +kernel
theorem dX1_addWeather_78 : decode cX1_addWeather 78 = .ok (.ireturn, 1) := by decide +kernel
theorem dX1_tellSetting_0 : decode cX1_tellSetting 0 = .ok (.iload_n 2, 1) := by decide +kernel
theorem dX1_tellSetting_1 : decode cX1_tellSetting 1 = .ok (.iload_n 1, 1) := by decide +kernel
theorem dX1_tellSetting_2 : decode cX1_tellSetting 2 = .ok (.invokestatic 65, 3) := by decide +kernel
theorem dX1_tellSetting_5 : decode cX1_tellSetting 5 = .ok (.if_icmp .le 5, 3) := by decide +kernel
theorem dX1_tellSetting_8 : decode cX1_tellSetting 8 = .ok (.iconst 0, 1) := by decide +kernel
theorem dX1_tellSetting_9 : decode cX1_tellSetting 9 = .ok (.ireturn, 1) := by decide +kernel
theorem dX1_tellSetting_10 : decode cX1_tellSetting 10 = .ok (.aload_n 0, 1) := by decide +kernel
theorem dX1_tellSetting_11 : decode cX1_tellSetting 11 = .ok (.iload_n 1, 1) := by decide +kernel
theorem dX1_tellSetting_12 : decode cX1_tellSetting 12 = .ok (.iload_n 2, 1) := by decide +kernel
theorem dX1_tellSetting_13 : decode cX1_tellSetting 13 = .ok (.invokevirtual 69, 3) := by decide +kernel
theorem dX1_tellSetting_16 : decode cX1_tellSetting 16 = .ok (.iconst 1, 1) := by decide +kernel
theorem dX1_tellSetting_17 : decode cX1_tellSetting 17 = .ok (.ireturn, 1) := by decide +kernel
theorem dX1_tellPair_0 : decode cX1_tellPair 0 = .ok (.aload_n 0, 1) := by decide +kernel
theorem dX1_tellPair_1 : decode cX1_tellPair 1 = .ok (.iload_n 1, 1) := by decide +kernel
theorem dX1_tellPair_2 : decode cX1_tellPair 2 = .ok (.iload_n 2, 1) := by decide +kernel
theorem dX1_tellPair_3 : decode cX1_tellPair 3 = .ok (.invokevirtual 73, 3) := by decide +kernel
theorem dX1_tellPair_6 : decode cX1_tellPair 6 = .ok (.ifCond .eq 18, 3) := by decide +kernel
theorem dX1_tellPair_9 : decode cX1_tellPair 9 = .ok (.aload_n 0, 1) := by decide +kernel
theorem dX1_tellPair_10 : decode cX1_tellPair 10 = .ok (.iload_n 1, 1) := by decide +kernel
theorem dX1_tellPair_11 : decode cX1_tellPair 11 = .ok (.iconst 1, 1) := by decide +kernel
theorem dX1_tellPair_12 : decode cX1_tellPair 12 = .ok (.iadd, 1) := by decide +kernel
theorem dX1_tellPair_13 : decode cX1_tellPair 13 = .ok (.iload_n 3, 1) := by decide +kernel
theorem dX1_tellPair_14 : decode cX1_tellPair 14 = .ok (.invokevirtual 73, 3) := by decide +kernel
theorem dX1_tellPair_17 : decode cX1_tellPair 17 = .ok (.ifCond .eq 7, 3) := by decide +kernel
theorem dX1_tellPair_20 : decode cX1_tellPair 20 = .ok (.iconst 1, 1) := by decide +kernel
theorem dX1_tellPair_21 : decode cX1_tellPair 21 = .ok (.goto 4, 3) := by decide +kernel
theorem dX1_tellPair_24 : decode cX1_tellPair 24 = .ok (.iconst 0, 1) := by decide +kernel
theorem dX1_tellPair_25 : decode cX1_tellPair 25 = .ok (.ireturn, 1) := by decide +kernel
theorem dX1_otherWorth_0 : decode cX1_otherWorth 0 = .ok (.ldc2_w 77, 3) := by decide +kernel
theorem dX1_otherWorth_3 : decode cX1_otherWorth 3 = .ok (.aload_n 0, 1) := by decide +kernel
theorem dX1_otherWorth_4 : decode cX1_otherWorth 4 = .ok (.iconst 1, 1) := by decide +kernel
theorem dX1_otherWorth_5 : decode cX1_otherWorth 5 = .ok (.invokevirtual 79, 3) := by decide +kernel
theorem dX1_otherWorth_8 : decode cX1_otherWorth 8 = .ok (.i2l, 1) := by decide +kernel
theorem dX1_otherWorth_9 : decode cX1_otherWorth 9 = .ok (.lmul, 1) := by decide +kernel
theorem dX1_otherWorth_10 : decode cX1_otherWorth 10 = .ok (.lreturn, 1) := by decide +kernel
theorem dX1_seedOf_0 : decode cX1_seedOf 0 = .ok (.aload_n 0, 1) := by decide +kernel
theorem dX1_seedOf_1 : decode cX1_seedOf 1 = .ok (.iconst 3, 1) := by decide +kernel
theorem dX1_seedOf_2 : decode cX1_seedOf 2 = .ok (.invokevirtual 79, 3) := by decide +kernel
theorem dX1_seedOf_5 : decode cX1_seedOf 5 = .ok (.iload_n 1, 1) := by decide +kernel
theorem dX1_seedOf_6 : decode cX1_seedOf 6 = .ok (.if_icmp .ne 11, 3) := by decide +kernel
theorem dX1_seedOf_9 : decode cX1_seedOf 9 = .ok (.aload_n 0, 1) := by decide +kernel
theorem dX1_seedOf_10 : decode cX1_seedOf 10 = .ok (.iconst 2, 1) := by decide +kernel
theorem dX1_seedOf_11 : decode cX1_seedOf 11 = .ok (.invokevirtual 79, 3) := by decide +kernel
theorem dX1_seedOf_14 : decode cX1_seedOf 14 = .ok (.goto 4, 3) := by decide +kernel
theorem dX1_seedOf_17 : decode cX1_seedOf 17 = .ok (.iconst 0, 1) := by decide +kernel
theorem dX1_seedOf_18 : decode cX1_seedOf 18 = .ok (.ireturn, 1) := by decide +kernel
theorem dX1_mindOf_0 : decode cX1_mindOf 0 = .ok (.iload_n 1, 1) := by decide +kernel
theorem dX1_mindOf_1 : decode cX1_mindOf 1 = .ok (.ifCond .ne 7, 3) := by decide +kernel
theorem dX1_mindOf_4 : decode cX1_mindOf 4 = .ok (.iconst 4, 1) := by decide +kernel
theorem dX1_mindOf_5 : decode cX1_mindOf 5 = .ok (.goto 5, 3) := by decide +kernel
theorem dX1_mindOf_8 : decode cX1_mindOf 8 = .ok (.bipush 6, 2) := by decide +kernel
theorem dX1_mindOf_10 : decode cX1_mindOf 10 = .ok (.istore_n 3, 1) := by decide +kernel
theorem dX1_mindOf_11 : decode cX1_mindOf 11 = .ok (.aload_n 0, 1) := by decide +kernel
theorem dX1_mindOf_12 : decode cX1_mindOf 12 = .ok (.iload_n 3, 1) := by decide +kernel
theorem dX1_mindOf_13 : decode cX1_mindOf 13 = .ok (.invokevirtual 79, 3) := by decide +kernel
theorem dX1_mindOf_16 : decode cX1_mindOf 16 = .ok (.istore 4, 2) := by decide +kernel
theorem dX1_mindOf_18 : decode cX1_mindOf 18 = .ok (.iload_n 2, 1) := by decide +kernel
theorem dX1_mindOf_19 : decode cX1_mindOf 19 = .ok (.ifCond .ge 8, 3) := by decide +kernel
theorem dX1_mindOf_22 : decode cX1_mindOf 22 = .ok (.bipush 20, 2) := by decide +kernel
theorem dX1_mindOf_24 : decode cX1_mindOf 24 = .ok (.iload_n 2, 1) := by decide +kernel
theorem dX1_mindOf_25 : decode cX1_mindOf 25 = .ok (.imul, 1) := by decide +kernel
theorem dX1_mindOf_26 : decode cX1_mindOf 26 = .ok (.ireturn, 1) := by decide +kernel
theorem dX1_mindOf_27 : decode cX1_mindOf 27 = .ok (.iload_n 2, 1) := by decide +kernel
theorem dX1_mindOf_28 : decode cX1_mindOf 28 = .ok (.iload 4, 2) := by decide +kernel
theorem dX1_mindOf_30 : decode cX1_mindOf 30 = .ok (.if_icmp .gt 10, 3) := by decide +kernel
theorem dX1_mindOf_33 : decode cX1_mindOf 33 = .ok (.bipush 10, 2) := by decide +kernel
theorem dX1_mindOf_35 : decode cX1_mindOf 35 = .ok (.iload_n 2, 1) := by decide +kernel
theorem dX1_mindOf_36 : decode cX1_mindOf 36 = .ok (.imul, 1) := by decide +kernel
theorem dX1_mindOf_37 : decode cX1_mindOf 37 = .ok (.goto 21, 3) := by decide +kernel
theorem dX1_mindOf_40 : decode cX1_mindOf 40 = .ok (.bipush 10, 2) := by decide +kernel
theorem dX1_mindOf_42 : decode cX1_mindOf 42 = .ok (.iload 4, 2) := by decide +kernel
theorem dX1_mindOf_44 : decode cX1_mindOf 44 = .ok (.imul, 1) := by decide +kernel
theorem dX1_mindOf_45 : decode cX1_mindOf 45 = .ok (.aload_n 0, 1) := by decide +kernel
theorem dX1_mindOf_46 : decode cX1_mindOf 46 = .ok (.iload_n 3, 1) := by decide +kernel
theorem dX1_mindOf_47 : decode cX1_mindOf 47 = .ok (.iconst 1, 1) := by decide +kernel
theorem dX1_mindOf_48 : decode cX1_mindOf 48 = .ok (.iadd, 1) := by decide +kernel
theorem dX1_mindOf_49 : decode cX1_mindOf 49 = .ok (.invokevirtual 79, 3) := by decide +kernel
theorem dX1_mindOf_52 : decode cX1_mindOf 52 = .ok (.iload_n 2, 1) := by decide +kernel
theorem dX1_mindOf_53 : decode cX1_mindOf 53 = .ok (.iload 4, 2) := by decide +kernel
theorem dX1_mindOf_55 : decode cX1_mindOf 55 = .ok (.isub, 1) := by decide +kernel
theorem dX1_mindOf_56 : decode cX1_mindOf 56 = .ok (.imul, 1) := by decide +kernel
theorem dX1_mindOf_57 : decode cX1_mindOf 57 = .ok (.iadd, 1) := by decide +kernel
theorem dX1_mindOf_58 : decode cX1_mindOf 58 = .ok (.ireturn, 1) := by decide +kernel
theorem dX1_bushelsOf_0 : decode cX1_bushelsOf 0 = .ok (.aload_n 1, 1) := by decide +kernel
theorem dX1_bushelsOf_1 : decode cX1_bushelsOf 1 = .ok (.ifnonnull 5, 3) := by decide +kernel
theorem dX1_bushelsOf_4 : decode cX1_bushelsOf 4 = .ok (.iconst 0, 1) := by decide +kernel
theorem dX1_bushelsOf_5 : decode cX1_bushelsOf 5 = .ok (.ireturn, 1) := by decide +kernel
theorem dX1_bushelsOf_6 : decode cX1_bushelsOf 6 = .ok (.aload_n 1, 1) := by decide +kernel
theorem dX1_bushelsOf_7 : decode cX1_bushelsOf 7 = .ok (.iload_n 2, 1) := by decide +kernel
theorem dX1_bushelsOf_8 : decode cX1_bushelsOf 8 = .ok (.iload_n 3, 1) := by decide +kernel
theorem dX1_bushelsOf_9 : decode cX1_bushelsOf 9 = .ok (.invokevirtual 82, 3) := by decide +kernel
theorem dX1_bushelsOf_12 : decode cX1_bushelsOf 12 = .ok (.istore 5, 2) := by decide +kernel
theorem dX1_bushelsOf_14 : decode cX1_bushelsOf 14 = .ok (.iload 4, 2) := by decide +kernel
theorem dX1_bushelsOf_16 : decode cX1_bushelsOf 16 = .ok (.ifCond .ne 8, 3) := by decide +kernel
theorem dX1_bushelsOf_19 : decode cX1_bushelsOf 19 = .ok (.iload 5, 2) := by decide +kernel
theorem dX1_bushelsOf_21 : decode cX1_bushelsOf 21 = .ok (.goto 7, 3) := by decide +kernel
theorem dX1_bushelsOf_24 : decode cX1_bushelsOf 24 = .ok (.iload_n 2, 1) := by decide +kernel
theorem dX1_bushelsOf_25 : decode cX1_bushelsOf 25 = .ok (.iload 5, 2) := by decide +kernel
theorem dX1_bushelsOf_27 : decode cX1_bushelsOf 27 = .ok (.isub, 1) := by decide +kernel
theorem dX1_bushelsOf_28 : decode cX1_bushelsOf 28 = .ok (.aload_n 0, 1) := by decide +kernel
theorem dX1_bushelsOf_29 : decode cX1_bushelsOf 29 = .ok (.iload 4, 2) := by decide +kernel
theorem dX1_bushelsOf_31 : decode cX1_bushelsOf 31 = .ok (.invokevirtual 86, 3) := by decide +kernel
theorem dX1_bushelsOf_34 : decode cX1_bushelsOf 34 = .ok (.isub, 1) := by decide +kernel
theorem dX1_bushelsOf_35 : decode cX1_bushelsOf 35 = .ok (.ireturn, 1) := by decide +kernel
theorem dX2_at_0 : decode cX2_at 0 = .ok (.aload_n 0, 1) := by decide +kernel
theorem dX2_at_1 : decode cX2_at 1 = .ok (.ifnull 19, 3) := by decide +kernel
theorem dX2_at_4 : decode cX2_at 4 = .ok (.iload_n 1, 1) := by decide +kernel
theorem dX2_at_5 : decode cX2_at 5 = .ok (.ifCond .lt 15, 3) := by decide +kernel
theorem dX2_at_8 : decode cX2_at 8 = .ok (.iload_n 1, 1) := by decide +kernel
theorem dX2_at_9 : decode cX2_at 9 = .ok (.aload_n 0, 1) := by decide +kernel
theorem dX2_at_10 : decode cX2_at 10 = .ok (.arraylength, 1) := by decide +kernel
theorem dX2_at_11 : decode cX2_at 11 = .ok (.if_icmp .ge 9, 3) := by decide +kernel
theorem dX2_at_14 : decode cX2_at 14 = .ok (.aload_n 0, 1) := by decide +kernel
theorem dX2_at_15 : decode cX2_at 15 = .ok (.iload_n 1, 1) := by decide +kernel
theorem dX2_at_16 : decode cX2_at 16 = .ok (.iaload, 1) := by decide +kernel
theorem dX2_at_17 : decode cX2_at 17 = .ok (.goto 4, 3) := by decide +kernel
theorem dX2_at_20 : decode cX2_at 20 = .ok (.iconst 0, 1) := by decide +kernel
theorem dX2_at_21 : decode cX2_at 21 = .ok (.ireturn, 1) := by decide +kernel
theorem dX2_at__0 : decode cX2_at_ 0 = .ok (.aload_n 0, 1) := by decide +kernel
theorem dX2_at__1 : decode cX2_at_ 1 = .ok (.ifnull 19, 3) := by decide +kernel
theorem dX2_at__4 : decode cX2_at_ 4 = .ok (.iload_n 1, 1) := by decide +kernel
theorem dX2_at__5 : decode cX2_at_ 5 = .ok (.ifCond .lt 15, 3) := by decide +kernel
theorem dX2_at__8 : decode cX2_at_ 8 = .ok (.iload_n 1, 1) := by decide +kernel
theorem dX2_at__9 : decode cX2_at_ 9 = .ok (.aload_n 0, 1) := by decide +kernel
theorem dX2_at__10 : decode cX2_at_ 10 = .ok (.arraylength, 1) := by decide +kernel
theorem dX2_at__11 : decode cX2_at_ 11 = .ok (.if_icmp .ge 9, 3) := by decide +kernel
theorem dX2_at__14 : decode cX2_at_ 14 = .ok (.aload_n 0, 1) := by decide +kernel
theorem dX2_at__15 : decode cX2_at_ 15 = .ok (.iload_n 1, 1) := by decide +kernel
theorem dX2_at__16 : decode cX2_at_ 16 = .ok (.laload, 1) := by decide +kernel
theorem dX2_at__17 : decode cX2_at_ 17 = .ok (.goto 4, 3) := by decide +kernel
theorem dX2_at__20 : decode cX2_at_ 20 = .ok (.lconst 0, 1) := by decide +kernel
theorem dX2_at__21 : decode cX2_at_ 21 = .ok (.lreturn, 1) := by decide +kernel
theorem dX2_put_0 : decode cX2_put 0 = .ok (.aload_n 0, 1) := by decide +kernel
theorem dX2_put_1 : decode cX2_put 1 = .ok (.ifnull 17, 3) := by decide +kernel
theorem dX2_put_4 : decode cX2_put 4 = .ok (.iload_n 1, 1) := by decide +kernel
theorem dX2_put_5 : decode cX2_put 5 = .ok (.ifCond .lt 13, 3) := by decide +kernel
theorem dX2_put_8 : decode cX2_put 8 = .ok (.iload_n 1, 1) := by decide +kernel
theorem dX2_put_9 : decode cX2_put 9 = .ok (.aload_n 0, 1) := by decide +kernel
theorem dX2_put_10 : decode cX2_put 10 = .ok (.arraylength, 1) := by decide +kernel
theorem dX2_put_11 : decode cX2_put 11 = .ok (.if_icmp .ge 7, 3) := by decide +kernel
theorem dX2_put_14 : decode cX2_put 14 = .ok (.aload_n 0, 1) := by decide +kernel
theorem dX2_put_15 : decode cX2_put 15 = .ok (.iload_n 1, 1) := by decide +kernel
theorem dX2_put_16 : decode cX2_put 16 = .ok (.iload_n 2, 1) := by decide +kernel
theorem dX2_put_17 : decode cX2_put 17 = .ok (.iastore, 1) := by decide +kernel
theorem dX2_put_18 : decode cX2_put 18 = .ok (.return_, 1) := by decide +kernel
theorem dX2_put__0 : decode cX2_put_ 0 = .ok (.aload_n 0, 1) := by decide +kernel
theorem dX2_put__1 : decode cX2_put_ 1 = .ok (.ifnull 17, 3) := by decide +kernel
theorem dX2_put__4 : decode cX2_put_ 4 = .ok (.iload_n 1, 1) := by decide +kernel
theorem dX2_put__5 : decode cX2_put_ 5 = .ok (.ifCond .lt 13, 3) := by decide +kernel
theorem dX2_put__8 : decode cX2_put_ 8 = .ok (.iload_n 1, 1) := by decide +kernel
theorem dX2_put__9 : decode cX2_put_ 9 = .ok (.aload_n 0, 1) := by decide +kernel
theorem dX2_put__10 : decode cX2_put_ 10 = .ok (.arraylength, 1) := by decide +kernel
theorem dX2_put__11 : decode cX2_put_ 11 = .ok (.if_icmp .ge 7, 3) := by decide +kernel
theorem dX2_put__14 : decode cX2_put_ 14 = .ok (.aload_n 0, 1) := by decide +kernel
theorem dX2_put__15 : decode cX2_put_ 15 = .ok (.iload_n 1, 1) := by decide +kernel
theorem dX2_put__16 : decode cX2_put_ 16 = .ok (.lload_n 2, 1) := by decide +kernel
theorem dX2_put__17 : decode cX2_put_ 17 = .ok (.lastore, 1) := by decide +kernel
theorem dX2_put__18 : decode cX2_put_ 18 = .ok (.return_, 1) := by decide +kernel
theorem dX2_copy_0 : decode cX2_copy 0 = .ok (.aload_n 0, 1) := by decide +kernel
theorem dX2_copy_1 : decode cX2_copy 1 = .ok (.ifnull 7, 3) := by decide +kernel
theorem dX2_copy_4 : decode cX2_copy 4 = .ok (.aload_n 1, 1) := by decide +kernel
theorem dX2_copy_5 : decode cX2_copy 5 = .ok (.ifnonnull 4, 3) := by decide +kernel
theorem dX2_copy_8 : decode cX2_copy 8 = .ok (.return_, 1) := by decide +kernel
theorem dX2_copy_9 : decode cX2_copy 9 = .ok (.iconst 0, 1) := by decide +kernel
theorem dX2_copy_10 : decode cX2_copy 10 = .ok (.istore_n 2, 1) := by decide +kernel
theorem dX2_copy_11 : decode cX2_copy 11 = .ok (.iload_n 2, 1) := by decide +kernel
theorem dX2_copy_12 : decode cX2_copy 12 = .ok (.aload_n 0, 1) := by decide +kernel
theorem dX2_copy_13 : decode cX2_copy 13 = .ok (.arraylength, 1) := by decide +kernel
theorem dX2_copy_14 : decode cX2_copy 14 = .ok (.if_icmp .ge 21, 3) := by decide +kernel
theorem dX2_copy_17 : decode cX2_copy 17 = .ok (.iload_n 2, 1) := by decide +kernel
theorem dX2_copy_18 : decode cX2_copy 18 = .ok (.aload_n 1, 1) := by decide +kernel
theorem dX2_copy_19 : decode cX2_copy 19 = .ok (.arraylength, 1) := by decide +kernel
theorem dX2_copy_20 : decode cX2_copy 20 = .ok (.if_icmp .ge 15, 3) := by decide +kernel
theorem dX2_copy_23 : decode cX2_copy 23 = .ok (.aload_n 1, 1) := by decide +kernel
theorem dX2_copy_24 : decode cX2_copy 24 = .ok (.iload_n 2, 1) := by decide +kernel
theorem dX2_copy_25 : decode cX2_copy 25 = .ok (.aload_n 0, 1) := by decide +kernel
theorem dX2_copy_26 : decode cX2_copy 26 = .ok (.iload_n 2, 1) := by decide +kernel
theorem dX2_copy_27 : decode cX2_copy 27 = .ok (.iaload, 1) := by decide +kernel
theorem dX2_copy_28 : decode cX2_copy 28 = .ok (.iastore, 1) := by decide +kernel
theorem dX2_copy_29 : decode cX2_copy 29 = .ok (.iinc 2 1, 3) := by decide +kernel
theorem dX2_copy_32 : decode cX2_copy 32 = .ok (.goto (-21), 3) := by decide +kernel
theorem dX2_copy_35 : decode cX2_copy 35 = .ok (.return_, 1) := by decide +kernel
theorem dX2_sum_0 : decode cX2_sum 0 = .ok (.iconst 0, 1) := by decide +kernel
theorem dX2_sum_1 : decode cX2_sum 1 = .ok (.istore_n 2, 1) := by decide +kernel
theorem dX2_sum_2 : decode cX2_sum 2 = .ok (.iconst 0, 1) := by decide +kernel
theorem dX2_sum_3 : decode cX2_sum 3 = .ok (.istore_n 3, 1) := by decide +kernel
theorem dX2_sum_4 : decode cX2_sum 4 = .ok (.iload_n 3, 1) := by decide +kernel
theorem dX2_sum_5 : decode cX2_sum 5 = .ok (.iload_n 1, 1) := by decide +kernel
theorem dX2_sum_6 : decode cX2_sum 6 = .ok (.if_icmp .ge 17, 3) := by decide +kernel
theorem dX2_sum_9 : decode cX2_sum 9 = .ok (.iload_n 2, 1) := by decide +kernel
theorem dX2_sum_10 : decode cX2_sum 10 = .ok (.aload_n 0, 1) := by decide +kernel
theorem dX2_sum_11 : decode cX2_sum 11 = .ok (.iload_n 3, 1) := by decide +kernel
theorem dX2_sum_12 : decode cX2_sum 12 = .ok (.invokestatic 7, 3) := by decide +kernel
theorem dX2_sum_15 : decode cX2_sum 15 = .ok (.iadd, 1) := by decide +kernel
theorem dX2_sum_16 : decode cX2_sum 16 = .ok (.istore_n 2, 1) := by decide +kernel
theorem dX2_sum_17 : decode cX2_sum 17 = .ok (.iinc 3 1, 3) := by decide +kernel
theorem dX2_sum_20 : decode cX2_sum 20 = .ok (.goto (-16), 3) := by decide +kernel
theorem dX2_sum_23 : decode cX2_sum 23 = .ok (.iload_n 2, 1) := by decide +kernel
theorem dX2_sum_24 : decode cX2_sum 24 = .ok (.ireturn, 1) := by decide +kernel
theorem dX2_cut_0 : decode cX2_cut 0 = .ok (.iload_n 1, 1) := by decide +kernel
theorem dX2_cut_1 : decode cX2_cut 1 = .ok (.ifCond .le 9, 3) := by decide +kernel
theorem dX2_cut_4 : decode cX2_cut 4 = .ok (.iload_n 0, 1) := by decide +kernel
theorem dX2_cut_5 : decode cX2_cut 5 = .ok (.iload_n 1, 1) := by decide +kernel
theorem dX2_cut_6 : decode cX2_cut 6 = .ok (.idiv, 1) := by decide +kernel
theorem dX2_cut_7 : decode cX2_cut 7 = .ok (.goto 4, 3) := by decide +kernel
theorem dX2_cut_10 : decode cX2_cut 10 = .ok (.iconst 0, 1) := by decide +kernel
theorem dX2_cut_11 : decode cX2_cut 11 = .ok (.ireturn, 1) := by decide +kernel
theorem dX3_init_0 : decode cX3_init 0 = .ok (.aload_n 0, 1) := by decide +kernel
theorem dX3_init_1 : decode cX3_init 1 = .ok (.invokespecial 3, 3) := by decide +kernel
theorem dX3_init_4 : decode cX3_init 4 = .ok (.aload_n 0, 1) := by decide +kernel
theorem dX3_init_5 : decode cX3_init 5 = .ok (.bipush 21, 2) := by decide +kernel
theorem dX3_init_7 : decode cX3_init 7 = .ok (.newarray .long, 2) := by decide +kernel
theorem dX3_init_9 : decode cX3_init 9 = .ok (.putfield 11, 3) := by decide +kernel
theorem dX3_init_12 : decode cX3_init 12 = .ok (.aload_n 0, 1) := by decide +kernel
theorem dX3_init_13 : decode cX3_init 13 = .ok (.bipush 21, 2) := by decide +kernel
theorem dX3_init_15 : decode cX3_init 15 = .ok (.newarray .long, 2) := by decide +kernel
theorem dX3_init_17 : decode cX3_init 17 = .ok (.putfield 15, 3) := by decide +kernel
theorem dX3_init_20 : decode cX3_init 20 = .ok (.return_, 1) := by decide +kernel
theorem dX3_lay_0 : decode cX3_lay 0 = .ok (.iconst 0, 1) := by decide +kernel
theorem dX3_lay_1 : decode cX3_lay 1 = .ok (.istore 5, 2) := by decide +kernel
theorem dX3_lay_3 : decode cX3_lay 3 = .ok (.iload 5, 2) := by decide +kernel
theorem dX3_lay_5 : decode cX3_lay 5 = .ok (.bipush 20, 2) := by decide +kernel
theorem dX3_lay_7 : decode cX3_lay 7 = .ok (.if_icmp .gt 64, 3) := by decide +kernel
theorem dX3_lay_10 : decode cX3_lay 10 = .ok (.aload_n 0, 1) := by decide +kernel
theorem dX3_lay_11 : decode cX3_lay 11 = .ok (.getfield 11, 3) := by decide +kernel
theorem dX3_lay_14 : decode cX3_lay 14 = .ok (.iload 5, 2) := by decide +kernel
theorem dX3_lay_16 : decode cX3_lay 16 = .ok (.lconst 0, 1) := by decide +kernel
theorem dX3_lay_17 : decode cX3_lay 17 = .ok (.invokestatic 18, 3) := by decide +kernel
theorem dX3_lay_20 : decode cX3_lay 20 = .ok (.aload_n 0, 1) := by decide +kernel
theorem dX3_lay_21 : decode cX3_lay 21 = .ok (.getfield 15, 3) := by decide +kernel
theorem dX3_lay_24 : decode cX3_lay 24 = .ok (.iload 5, 2) := by decide +kernel
theorem dX3_lay_26 : decode cX3_lay 26 = .ok (.lconst 0, 1) := by decide +kernel
theorem dX3_lay_27 : decode cX3_lay 27 = .ok (.invokestatic 18, 3) := by decide +kernel
theorem dX3_lay_30 : decode cX3_lay 30 = .ok (.aload_n 1, 1) := by decide +kernel
theorem dX3_lay_31 : decode cX3_lay 31 = .ok (.ifnull 34, 3) := by decide +kernel
theorem dX3_lay_34 : decode cX3_lay 34 = .ok (.iconst 0, 1) := by decide +kernel
theorem dX3_lay_35 : decode cX3_lay 35 = .ok (.istore 6, 2) := by decide +kernel
theorem dX3_lay_37 : decode cX3_lay 37 = .ok (.iload 6, 2) := by decide +kernel
theorem dX3_lay_39 : decode cX3_lay 39 = .ok (.aload_n 1, 1) := by decide +kernel
theorem dX3_lay_40 : decode cX3_lay 40 = .ok (.getfield 24, 3) := by decide +kernel
theorem dX3_lay_43 : decode cX3_lay 43 = .ok (.if_icmp .ge 22, 3) := by decide +kernel
theorem dX3_lay_46 : decode cX3_lay 46 = .ok (.aload_n 0, 1) := by decide +kernel
theorem dX3_lay_47 : decode cX3_lay 47 = .ok (.aload_n 1, 1) := by decide +kernel
theorem dX3_lay_48 : decode cX3_lay 48 = .ok (.aload_n 2, 1) := by decide +kernel
theorem dX3_lay_49 : decode cX3_lay 49 = .ok (.iload_n 3, 1) := by decide +kernel
theorem dX3_lay_50 : decode cX3_lay 50 = .ok (.iload 4, 2) := by decide +kernel
theorem dX3_lay_52 : decode cX3_lay 52 = .ok (.iload 5, 2) := by decide +kernel
theorem dX3_lay_54 : decode cX3_lay 54 = .ok (.iload 6, 2) := by decide +kernel
theorem dX3_lay_56 : decode cX3_lay 56 = .ok (.invokevirtual 30, 3) := by decide +kernel
theorem dX3_lay_59 : decode cX3_lay 59 = .ok (.iinc 6 1, 3) := by decide +kernel
theorem dX3_lay_62 : decode cX3_lay 62 = .ok (.goto (-25), 3) := by decide +kernel
theorem dX3_lay_65 : decode cX3_lay 65 = .ok (.iinc 5 1, 3) := by decide +kernel
theorem dX3_lay_68 : decode cX3_lay 68 = .ok (.goto (-65), 3) := by decide +kernel
theorem dX3_lay_71 : decode cX3_lay 71 = .ok (.return_, 1) := by decide +kernel
theorem dX3_addWeather_0 : decode cX3_addWeather 0 = .ok (.aload_n 1, 1) := by decide +kernel
theorem dX3_addWeather_1 : decode cX3_addWeather 1 = .ok (.getfield 34, 3) := by decide +kernel
theorem dX3_addWeather_4 : decode cX3_addWeather 4 = .ok (.astore 7, 2) := by decide +kernel
theorem dX3_addWeather_6 : decode cX3_addWeather 6 = .ok (.aload_n 1, 1) := by decide +kernel
theorem dX3_addWeather_7 : decode cX3_addWeather 7 = .ok (.iload_n 3, 1) := by decide +kernel
theorem dX3_addWeather_8 : decode cX3_addWeather 8 = .ok (.iload 6, 2) := by decide +kernel
theorem dX3_addWeather_10 : decode cX3_addWeather 10 = .ok (.invokevirtual 38, 3) := by decide +kernel
theorem dX3_addWeather_13 : decode cX3_addWeather 13 = .ok (.istore 8, 2) := by decide +kernel
theorem dX3_addWeather_15 : decode cX3_addWeather 15 = .ok (.iload 5, 2) := by decide +kernel
theorem dX3_addWeather_17 : decode cX3_addWeather 17 = .ok (.iload 8, 2) := by decide +kernel
theorem dX3_addWeather_19 : decode cX3_addWeather 19 = .ok (.invokestatic 42, 3) := by decide +kernel
theorem dX3_addWeather_22 : decode cX3_addWeather 22 = .ok (.istore 9, 2) := by decide +kernel
theorem dX3_addWeather_24 : decode cX3_addWeather 24 = .ok (.aload 7, 2) := by decide +kernel
theorem dX3_addWeather_26 : decode cX3_addWeather 26 = .ok (.iconst 0, 1) := by decide +kernel
theorem dX3_addWeather_27 : decode cX3_addWeather 27 = .ok (.aload 7, 2) := by decide +kernel
theorem dX3_addWeather_29 : decode cX3_addWeather 29 = .ok (.aload_n 2, 1) := by decide +kernel
theorem dX3_addWeather_30 : decode cX3_addWeather 30 = .ok (.iload 8, 2) := by decide +kernel
theorem dX3_addWeather_32 : decode cX3_addWeather 32 = .ok (.iload 9, 2) := by decide +kernel
theorem dX3_addWeather_34 : decode cX3_addWeather 34 = .ok (.isub, 1) := by decide +kernel
theorem dX3_addWeather_35 : decode cX3_addWeather 35 = .ok (.iconst 0, 1) := by decide +kernel
theorem dX3_addWeather_36 : decode cX3_addWeather 36 = .ok (.iconst 0, 1) := by decide +kernel
theorem dX3_addWeather_37 : decode cX3_addWeather 37 = .ok (.invokevirtual 47, 3) := by decide +kernel
theorem dX3_addWeather_40 : decode cX3_addWeather 40 = .ok (.iload 9, 2) := by decide +kernel
theorem dX3_addWeather_42 : decode cX3_addWeather 42 = .ok (.iadd, 1) := by decide +kernel
theorem dX3_addWeather_43 : decode cX3_addWeather 43 = .ok (.invokevirtual 53, 3) := by decide +kernel
theorem dX3_addWeather_46 : decode cX3_addWeather 46 = .ok (.istore 10, 2) := by decide +kernel
theorem dX3_addWeather_48 : decode cX3_addWeather 48 = .ok (.iload 9, 2) := by decide +kernel
theorem dX3_addWeather_50 : decode cX3_addWeather 50 = .ok (.ifCond .le 22, 3) := by decide +kernel
theorem dX3_addWeather_53 : decode cX3_addWeather 53 = .ok (.aload 7, 2) := by decide +kernel
theorem dX3_addWeather_55 : decode cX3_addWeather 55 = .ok (.iconst 0, 1) := by decide +kernel
theorem dX3_addWeather_56 : decode cX3_addWeather 56 = .ok (.iload 4, 2) := by decide +kernel
theorem dX3_addWeather_58 : decode cX3_addWeather 58 = .ok (.ineg, 1) := by decide +kernel
theorem dX3_addWeather_59 : decode cX3_addWeather 59 = .ok (.aload 7, 2) := by decide +kernel
theorem dX3_addWeather_61 : decode cX3_addWeather 61 = .ok (.iconst 0, 1) := by decide +kernel
theorem dX3_addWeather_62 : decode cX3_addWeather 62 = .ok (.invokevirtual 56, 3) := by decide +kernel
theorem dX3_addWeather_65 : decode cX3_addWeather 65 = .ok (.isub, 1) := by decide +kernel
theorem dX3_addWeather_66 : decode cX3_addWeather 66 = .ok (.invokevirtual 53, 3) := by decide +kernel
theorem dX3_addWeather_69 : decode cX3_addWeather 69 = .ok (.goto 5, 3) := by decide +kernel
theorem dX3_addWeather_72 : decode cX3_addWeather 72 = .ok (.iload 10, 2) := by decide +kernel
theorem dX3_addWeather_74 : decode cX3_addWeather 74 = .ok (.istore 11, 2) := by decide +kernel
theorem dX3_addWeather_76 : decode cX3_addWeather 76 = .ok (.aload_n 1, 1) := by decide +kernel
theorem dX3_addWeather_77 : decode cX3_addWeather 77 = .ok (.iload 6, 2) := by decide +kernel
theorem dX3_addWeather_79 : decode cX3_addWeather 79 = .ok (.invokevirtual 60, 3) := by decide +kernel
theorem dX3_addWeather_82 : decode cX3_addWeather 82 = .ok (.i2l, 1) := by decide +kernel
theorem dX3_addWeather_83 : decode cX3_addWeather 83 = .ok (.lstore 12, 2) := by decide +kernel
theorem dX3_addWeather_85 : decode cX3_addWeather 85 = .ok (.aload_n 0, 1) := by decide +kernel
theorem dX3_addWeather_86 : decode cX3_addWeather 86 = .ok (.getfield 15, 3) := by decide +kernel
theorem dX3_addWeather_89 : decode cX3_addWeather 89 = .ok (.iload 5, 2) := by decide +kernel
theorem dX3_addWeather_91 : decode cX3_addWeather 91 = .ok (.aload_n 0, 1) := by decide +kernel
theorem dX3_addWeather_92 : decode cX3_addWeather 92 = .ok (.getfield 15, 3) := by decide +kernel
theorem dX3_addWeather_95 : decode cX3_addWeather 95 = .ok (.iload 5, 2) := by decide +kernel
theorem dX3_addWeather_97 : decode cX3_addWeather 97 = .ok (.invokestatic 63, 3) := by decide +kernel
theorem dX3_addWeather_100 : decode cX3_addWeather 100 = .ok (.lload 12, 2) := by decide +kernel
theorem dX3_addWeather_102 : decode cX3_addWeather 102 = .ok (.iload 10, 2) := by decide +kernel
theorem dX3_addWeather_104 : decode cX3_addWeather 104 = .ok (.i2l, 1) := by decide +kernel
theorem dX3_addWeather_105 : decode cX3_addWeather 105 = .ok (.lmul, 1) := by decide +kernel
theorem dX3_addWeather_106 : decode cX3_addWeather 106 = .ok (.ladd, 1) := by decide +kernel
theorem dX3_addWeather_107 : decode cX3_addWeather 107 = .ok (.invokestatic 18, 3) := by decide +kernel
theorem dX3_addWeather_110 : decode cX3_addWeather 110 = .ok (.aload_n 0, 1) := by decide +kernel
theorem dX3_addWeather_111 : decode cX3_addWeather 111 = .ok (.getfield 11, 3) := by decide +kernel
theorem dX3_addWeather_114 : decode cX3_addWeather 114 = .ok (.iload 5, 2) := by decide +kernel
theorem dX3_addWeather_116 : decode cX3_addWeather 116 = .ok (.aload_n 0, 1) := by decide +kernel
theorem dX3_addWeather_117 : decode cX3_addWeather 117 = .ok (.getfield 11, 3) := by decide +kernel
theorem dX3_addWeather_120 : decode cX3_addWeather 120 = .ok (.iload 5, 2) := by decide +kernel
theorem dX3_addWeather_122 : decode cX3_addWeather 122 = .ok (.invokestatic 63, 3) := by decide +kernel
theorem dX3_addWeather_125 : decode cX3_addWeather 125 = .ok (.lload 12, 2) := by decide +kernel
theorem dX3_addWeather_127 : decode cX3_addWeather 127 = .ok (.iload 11, 2) := by decide +kernel
theorem dX3_addWeather_129 : decode cX3_addWeather 129 = .ok (.i2l, 1) := by decide +kernel
theorem dX3_addWeather_130 : decode cX3_addWeather 130 = .ok (.lmul, 1) := by decide +kernel
theorem dX3_addWeather_131 : decode cX3_addWeather 131 = .ok (.ladd, 1) := by decide +kernel
theorem dX3_addWeather_132 : decode cX3_addWeather 132 = .ok (.invokestatic 18, 3) := by decide +kernel
theorem dX3_addWeather_135 : decode cX3_addWeather 135 = .ok (.return_, 1) := by decide +kernel
theorem dX3_bestLess_0 : decode cX3_bestLess 0 = .ok (.iconst 0, 1) := by decide +kernel
theorem dX3_bestLess_1 : decode cX3_bestLess 1 = .ok (.istore_n 2, 1) := by decide +kernel
theorem dX3_bestLess_2 : decode cX3_bestLess 2 = .ok (.aload_n 0, 1) := by decide +kernel
theorem dX3_bestLess_3 : decode cX3_bestLess 3 = .ok (.iconst 0, 1) := by decide +kernel
theorem dX3_bestLess_4 : decode cX3_bestLess 4 = .ok (.iload_n 1, 1) := by decide +kernel
theorem dX3_bestLess_5 : decode cX3_bestLess 5 = .ok (.invokevirtual 67, 3) := by decide +kernel
theorem dX3_bestLess_8 : decode cX3_bestLess 8 = .ok (.lstore_n 3, 1) := by decide +kernel
theorem dX3_bestLess_9 : decode cX3_bestLess 9 = .ok (.iconst 1, 1) := by decide +kernel
theorem dX3_bestLess_10 : decode cX3_bestLess 10 = .ok (.istore 5, 2) := by decide +kernel
theorem dX3_bestLess_12 : decode cX3_bestLess 12 = .ok (.iload 5, 2) := by decide +kernel
theorem dX3_bestLess_14 : decode cX3_bestLess 14 = .ok (.bipush 20, 2) := by decide +kernel
theorem dX3_bestLess_16 : decode cX3_bestLess 16 = .ok (.if_icmp .gt 31, 3) := by decide +kernel
theorem dX3_bestLess_19 : decode cX3_bestLess 19 = .ok (.aload_n 0, 1) := by decide +kernel
theorem dX3_bestLess_20 : decode cX3_bestLess 20 = .ok (.iload 5, 2) := by decide +kernel
theorem dX3_bestLess_22 : decode cX3_bestLess 22 = .ok (.iload_n 1, 1) := by decide +kernel
theorem dX3_bestLess_23 : decode cX3_bestLess 23 = .ok (.invokevirtual 67, 3) := by decide +kernel
theorem dX3_bestLess_26 : decode cX3_bestLess 26 = .ok (.lstore 6, 2) := by decide +kernel
theorem dX3_bestLess_28 : decode cX3_bestLess 28 = .ok (.lload 6, 2) := by decide +kernel
theorem dX3_bestLess_30 : decode cX3_bestLess 30 = .ok (.lload_n 3, 1) := by decide +kernel
theorem dX3_bestLess_31 : decode cX3_bestLess 31 = .ok (.lcmp, 1) := by decide +kernel
theorem dX3_bestLess_32 : decode cX3_bestLess 32 = .ok (.ifCond .le 9, 3) := by decide +kernel
theorem dX3_bestLess_35 : decode cX3_bestLess 35 = .ok (.iload 5, 2) := by decide +kernel
theorem dX3_bestLess_37 : decode cX3_bestLess 37 = .ok (.istore_n 2, 1) := by decide +kernel
theorem dX3_bestLess_38 : decode cX3_bestLess 38 = .ok (.lload 6, 2) := by decide +kernel
theorem dX3_bestLess_40 : decode cX3_bestLess 40 = .ok (.lstore_n 3, 1) := by decide +kernel
theorem dX3_bestLess_41 : decode cX3_bestLess 41 = .ok (.iinc 5 1, 3) := by decide +kernel
theorem dX3_bestLess_44 : decode cX3_bestLess 44 = .ok (.goto (-32), 3) := by decide +kernel
theorem dX3_bestLess_47 : decode cX3_bestLess 47 = .ok (.iload_n 2, 1) := by decide +kernel
theorem dX3_bestLess_48 : decode cX3_bestLess 48 = .ok (.ireturn, 1) := by decide +kernel
theorem dX3_worthOf_0 : decode cX3_worthOf 0 = .ok (.iload_n 2, 1) := by decide +kernel
theorem dX3_worthOf_1 : decode cX3_worthOf 1 = .ok (.i2l, 1) := by decide +kernel
theorem dX3_worthOf_2 : decode cX3_worthOf 2 = .ok (.aload_n 0, 1) := by decide +kernel
theorem dX3_worthOf_3 : decode cX3_worthOf 3 = .ok (.getfield 11, 3) := by decide +kernel
theorem dX3_worthOf_6 : decode cX3_worthOf 6 = .ok (.iload_n 1, 1) := by decide +kernel
theorem dX3_worthOf_7 : decode cX3_worthOf 7 = .ok (.invokestatic 63, 3) := by decide +kernel
theorem dX3_worthOf_10 : decode cX3_worthOf 10 = .ok (.lmul, 1) := by decide +kernel
theorem dX3_worthOf_11 : decode cX3_worthOf 11 = .ok (.bipush 100, 2) := by decide +kernel
theorem dX3_worthOf_13 : decode cX3_worthOf 13 = .ok (.iload_n 2, 1) := by decide +kernel
theorem dX3_worthOf_14 : decode cX3_worthOf 14 = .ok (.isub, 1) := by decide +kernel
theorem dX3_worthOf_15 : decode cX3_worthOf 15 = .ok (.i2l, 1) := by decide +kernel
theorem dX3_worthOf_16 : decode cX3_worthOf 16 = .ok (.aload_n 0, 1) := by decide +kernel
theorem dX3_worthOf_17 : decode cX3_worthOf 17 = .ok (.getfield 15, 3) := by decide +kernel
theorem dX3_worthOf_20 : decode cX3_worthOf 20 = .ok (.iload_n 1, 1) := by decide +kernel
theorem dX3_worthOf_21 : decode cX3_worthOf 21 = .ok (.invokestatic 63, 3) := by decide +kernel
theorem dX3_worthOf_24 : decode cX3_worthOf 24 = .ok (.lmul, 1) := by decide +kernel
theorem dX3_worthOf_25 : decode cX3_worthOf 25 = .ok (.ladd, 1) := by decide +kernel
theorem dX3_worthOf_26 : decode cX3_worthOf 26 = .ok (.lreturn, 1) := by decide +kernel
theorem dX4_init_0 : decode cX4_init 0 = .ok (.aload_n 0, 1) := by decide +kernel
theorem dX4_init_1 : decode cX4_init 1 = .ok (.invokespecial 5, 3) := by decide +kernel
theorem dX4_init_4 : decode cX4_init 4 = .ok (.aload_n 0, 1) := by decide +kernel
theorem dX4_init_5 : decode cX4_init 5 = .ok (.bipush 9, 2) := by decide +kernel
theorem dX4_init_7 : decode cX4_init 7 = .ok (.newarray .int, 2) := by decide +kernel
theorem dX4_init_9 : decode cX4_init 9 = .ok (.putfield 13, 3) := by decide +kernel
theorem dX4_init_12 : decode cX4_init 12 = .ok (.aload_n 0, 1) := by decide +kernel
theorem dX4_init_13 : decode cX4_init 13 = .ok (.bipush 8, 2) := by decide +kernel
theorem dX4_init_15 : decode cX4_init 15 = .ok (.newarray .int, 2) := by decide +kernel
theorem dX4_init_17 : decode cX4_init 17 = .ok (.putfield 17, 3) := by decide +kernel
theorem dX4_init_20 : decode cX4_init 20 = .ok (.aload_n 0, 1) := by decide +kernel
theorem dX4_init_21 : decode cX4_init 21 = .ok (.bipush 8, 2) := by decide +kernel
theorem dX4_init_23 : decode cX4_init 23 = .ok (.newarray .int, 2) := by decide +kernel
theorem dX4_init_25 : decode cX4_init 25 = .ok (.putfield 20, 3) := by decide +kernel
theorem dX4_init_28 : decode cX4_init 28 = .ok (.aload_n 0, 1) := by decide +kernel
theorem dX4_init_29 : decode cX4_init 29 = .ok (.bipush 72, 2) := by decide +kernel
theorem dX4_init_31 : decode cX4_init 31 = .ok (.newarray .int, 2) := by decide +kernel
theorem dX4_init_33 : decode cX4_init 33 = .ok (.putfield 23, 3) := by decide +kernel
theorem dX4_init_36 : decode cX4_init 36 = .ok (.aload_n 0, 1) := by decide +kernel
theorem dX4_init_37 : decode cX4_init 37 = .ok (.aload_n 1, 1) := by decide +kernel
theorem dX4_init_38 : decode cX4_init 38 = .ok (.putfield 26, 3) := by decide +kernel
theorem dX4_init_41 : decode cX4_init 41 = .ok (.return_, 1) := by decide +kernel
theorem dX4_lay_0 : decode cX4_lay 0 = .ok (.aload_n 0, 1) := by decide +kernel
theorem dX4_lay_1 : decode cX4_lay 1 = .ok (.iconst 0, 1) := by decide +kernel
theorem dX4_lay_2 : decode cX4_lay 2 = .ok (.putfield 30, 3) := by decide +kernel
theorem dX4_lay_5 : decode cX4_lay 5 = .ok (.aload_n 0, 1) := by decide +kernel
theorem dX4_lay_6 : decode cX4_lay 6 = .ok (.aload_n 0, 1) := by decide +kernel
theorem dX4_lay_7 : decode cX4_lay 7 = .ok (.getfield 26, 3) := by decide +kernel
theorem dX4_lay_10 : decode cX4_lay 10 = .ok (.getfield 34, 3) := by decide +kernel
theorem dX4_lay_13 : decode cX4_lay 13 = .ok (.bipush 8, 2) := by decide +kernel
theorem dX4_lay_15 : decode cX4_lay 15 = .ok (.invokestatic 37, 3) := by decide +kernel
theorem dX4_lay_18 : decode cX4_lay 18 = .ok (.putfield 43, 3) := by decide +kernel
theorem dX4_lay_21 : decode cX4_lay 21 = .ok (.aload_n 0, 1) := by decide +kernel
theorem dX4_lay_22 : decode cX4_lay 22 = .ok (.iload_n 3, 1) := by decide +kernel
theorem dX4_lay_23 : decode cX4_lay 23 = .ok (.invokevirtual 46, 3) := by decide +kernel
theorem dX4_lay_26 : decode cX4_lay 26 = .ok (.aload_n 0, 1) := by decide +kernel
theorem dX4_lay_27 : decode cX4_lay 27 = .ok (.getfield 26, 3) := by decide +kernel
theorem dX4_lay_30 : decode cX4_lay 30 = .ok (.iconst 0, 1) := by decide +kernel
theorem dX4_lay_31 : decode cX4_lay 31 = .ok (.invokevirtual 50, 3) := by decide +kernel
theorem dX4_lay_34 : decode cX4_lay 34 = .ok (.iconst 5, 1) := by decide +kernel
theorem dX4_lay_35 : decode cX4_lay 35 = .ok (.iload_n 1, 1) := by decide +kernel
theorem dX4_lay_36 : decode cX4_lay 36 = .ok (.imul, 1) := by decide +kernel
theorem dX4_lay_37 : decode cX4_lay 37 = .ok (.iadd, 1) := by decide +kernel
theorem dX4_lay_38 : decode cX4_lay 38 = .ok (.istore 4, 2) := by decide +kernel
theorem dX4_lay_40 : decode cX4_lay 40 = .ok (.iconst 0, 1) := by decide +kernel
theorem dX4_lay_41 : decode cX4_lay 41 = .ok (.istore 5, 2) := by decide +kernel
theorem dX4_lay_43 : decode cX4_lay 43 = .ok (.aload_n 0, 1) := by decide +kernel
theorem dX4_lay_44 : decode cX4_lay 44 = .ok (.iconst 0, 1) := by decide +kernel
theorem dX4_lay_45 : decode cX4_lay 45 = .ok (.iload 4, 2) := by decide +kernel
theorem dX4_lay_47 : decode cX4_lay 47 = .ok (.invokevirtual 54, 3) := by decide +kernel
theorem dX4_lay_50 : decode cX4_lay 50 = .ok (.iconst 0, 1) := by decide +kernel
theorem dX4_lay_51 : decode cX4_lay 51 = .ok (.istore 6, 2) := by decide +kernel
theorem dX4_lay_53 : decode cX4_lay 53 = .ok (.iload 6, 2) := by decide +kernel
theorem dX4_lay_55 : decode cX4_lay 55 = .ok (.aload_n 0, 1) := by decide +kernel
theorem dX4_lay_56 : decode cX4_lay 56 = .ok (.getfield 43, 3) := by decide +kernel
theorem dX4_lay_59 : decode cX4_lay 59 = .ok (.if_icmp .ge 74, 3) := by decide +kernel
theorem dX4_lay_62 : decode cX4_lay 62 = .ok (.iload 4, 2) := by decide +kernel
theorem dX4_lay_64 : decode cX4_lay 64 = .ok (.aload_n 0, 1) := by decide +kernel
theorem dX4_lay_65 : decode cX4_lay 65 = .ok (.getfield 26, 3) := by decide +kernel
theorem dX4_lay_68 : decode cX4_lay 68 = .ok (.getfield 58, 3) := by decide +kernel
theorem dX4_lay_71 : decode cX4_lay 71 = .ok (.iload 6, 2) := by decide +kernel
theorem dX4_lay_73 : decode cX4_lay 73 = .ok (.invokestatic 61, 3) := by decide +kernel
theorem dX4_lay_76 : decode cX4_lay 76 = .ok (.bipush 10, 2) := by decide +kernel
theorem dX4_lay_78 : decode cX4_lay 78 = .ok (.iload_n 2, 1) := by decide +kernel
theorem dX4_lay_79 : decode cX4_lay 79 = .ok (.iadd, 1) := by decide +kernel
theorem dX4_lay_80 : decode cX4_lay 80 = .ok (.imul, 1) := by decide +kernel
theorem dX4_lay_81 : decode cX4_lay 81 = .ok (.bipush 10, 2) := by decide +kernel
theorem dX4_lay_83 : decode cX4_lay 83 = .ok (.idiv, 1) := by decide +kernel
theorem dX4_lay_84 : decode cX4_lay 84 = .ok (.iadd, 1) := by decide +kernel
theorem dX4_lay_85 : decode cX4_lay 85 = .ok (.istore 4, 2) := by decide +kernel
theorem dX4_lay_87 : decode cX4_lay 87 = .ok (.iload 5, 2) := by decide +kernel
theorem dX4_lay_89 : decode cX4_lay 89 = .ok (.aload_n 0, 1) := by decide +kernel
theorem dX4_lay_90 : decode cX4_lay 90 = .ok (.getfield 26, 3) := by decide +kernel
theorem dX4_lay_93 : decode cX4_lay 93 = .ok (.getfield 67, 3) := by decide +kernel
theorem dX4_lay_96 : decode cX4_lay 96 = .ok (.iload 6, 2) := by decide +kernel
theorem dX4_lay_98 : decode cX4_lay 98 = .ok (.invokestatic 61, 3) := by decide +kernel
theorem dX4_lay_101 : decode cX4_lay 101 = .ok (.iadd, 1) := by decide +kernel
theorem dX4_lay_102 : decode cX4_lay 102 = .ok (.istore 5, 2) := by decide +kernel
theorem dX4_lay_104 : decode cX4_lay 104 = .ok (.aload_n 0, 1) := by decide +kernel
theorem dX4_lay_105 : decode cX4_lay 105 = .ok (.getfield 13, 3) := by decide +kernel
theorem dX4_lay_108 : decode cX4_lay 108 = .ok (.iload 6, 2) := by decide +kernel
theorem dX4_lay_110 : decode cX4_lay 110 = .ok (.iconst 1, 1) := by decide +kernel
theorem dX4_lay_111 : decode cX4_lay 111 = .ok (.iadd, 1) := by decide +kernel
theorem dX4_lay_112 : decode cX4_lay 112 = .ok (.iload 5, 2) := by decide +kernel
theorem dX4_lay_114 : decode cX4_lay 114 = .ok (.invokestatic 68, 3) := by decide +kernel
theorem dX4_lay_117 : decode cX4_lay 117 = .ok (.aload_n 0, 1) := by decide +kernel
theorem dX4_lay_118 : decode cX4_lay 118 = .ok (.iload 6, 2) := by decide +kernel
theorem dX4_lay_120 : decode cX4_lay 120 = .ok (.iconst 1, 1) := by decide +kernel
theorem dX4_lay_121 : decode cX4_lay 121 = .ok (.iadd, 1) := by decide +kernel
theorem dX4_lay_122 : decode cX4_lay 122 = .ok (.iload 4, 2) := by decide +kernel
theorem dX4_lay_124 : decode cX4_lay 124 = .ok (.invokevirtual 54, 3) := by decide +kernel
theorem dX4_lay_127 : decode cX4_lay 127 = .ok (.iinc 6 1, 3) := by decide +kernel
theorem dX4_lay_130 : decode cX4_lay 130 = .ok (.goto (-77), 3) := by decide +kernel
theorem dX4_lay_133 : decode cX4_lay 133 = .ok (.return_, 1) := by decide +kernel
theorem dX4_layWeathers_0 : decode cX4_layWeathers 0 = .ok (.aload_n 0, 1) := by decide +kernel
theorem dX4_layWeathers_1 : decode cX4_layWeathers 1 = .ok (.iconst 0, 1) := by decide +kernel
theorem dX4_layWeathers_2 : decode cX4_layWeathers 2 = .ok (.putfield 72, 3) := by decide +kernel
theorem dX4_layWeathers_5 : decode cX4_layWeathers 5 = .ok (.bipush 100, 2) := by decide +kernel
theorem dX4_layWeathers_7 : decode cX4_layWeathers 7 = .ok (.istore_n 2, 1) := by decide +kernel
theorem dX4_layWeathers_8 : decode cX4_layWeathers 8 = .ok (.iload_n 1, 1) := by decide +kernel
theorem dX4_layWeathers_9 : decode cX4_layWeathers 9 = .ok (.ifCond .le 12, 3) := by decide +kernel
theorem dX4_layWeathers_12 : decode cX4_layWeathers 12 = .ok (.iload_n 2, 1) := by decide +kernel
theorem dX4_layWeathers_13 : decode cX4_layWeathers 13 = .ok (.aload_n 0, 1) := by decide +kernel
theorem dX4_layWeathers_14 : decode cX4_layWeathers 14 = .ok (.iload_n 1, 1) := by decide +kernel
theorem dX4_layWeathers_15 : decode cX4_layWeathers 15 = .ok (.iconst 0, 1) := by decide +kernel
theorem dX4_layWeathers_16 : decode cX4_layWeathers 16 = .ok (.invokevirtual 75, 3) := by decide +kernel
theorem dX4_layWeathers_19 : decode cX4_layWeathers 19 = .ok (.isub, 1) := by decide +kernel
theorem dX4_layWeathers_20 : decode cX4_layWeathers 20 = .ok (.istore_n 2, 1) := by decide +kernel
theorem dX4_layWeathers_21 : decode cX4_layWeathers 21 = .ok (.iconst 0, 1) := by decide +kernel
theorem dX4_layWeathers_22 : decode cX4_layWeathers 22 = .ok (.istore_n 3, 1) := by decide +kernel
theorem dX4_layWeathers_23 : decode cX4_layWeathers 23 = .ok (.iload_n 3, 1) := by decide +kernel
theorem dX4_layWeathers_24 : decode cX4_layWeathers 24 = .ok (.aload_n 0, 1) := by decide +kernel
theorem dX4_layWeathers_25 : decode cX4_layWeathers 25 = .ok (.getfield 26, 3) := by decide +kernel
theorem dX4_layWeathers_28 : decode cX4_layWeathers 28 = .ok (.getfield 78, 3) := by decide +kernel
theorem dX4_layWeathers_31 : decode cX4_layWeathers 31 = .ok (.if_icmp .ge 46, 3) := by decide +kernel
theorem dX4_layWeathers_34 : decode cX4_layWeathers 34 = .ok (.iload_n 2, 1) := by decide +kernel
theorem dX4_layWeathers_35 : decode cX4_layWeathers 35 = .ok (.aload_n 0, 1) := by decide +kernel
theorem dX4_layWeathers_36 : decode cX4_layWeathers 36 = .ok (.aload_n 0, 1) := by decide +kernel
theorem dX4_layWeathers_37 : decode cX4_layWeathers 37 = .ok (.getfield 26, 3) := by decide +kernel
theorem dX4_layWeathers_40 : decode cX4_layWeathers 40 = .ok (.getfield 79, 3) := by decide +kernel
theorem dX4_layWeathers_43 : decode cX4_layWeathers 43 = .ok (.iload_n 3, 1) := by decide +kernel
theorem dX4_layWeathers_44 : decode cX4_layWeathers 44 = .ok (.invokestatic 61, 3) := by decide +kernel
theorem dX4_layWeathers_47 : decode cX4_layWeathers 47 = .ok (.bipush 100, 2) := by decide +kernel
theorem dX4_layWeathers_49 : decode cX4_layWeathers 49 = .ok (.iload_n 1, 1) := by decide +kernel
theorem dX4_layWeathers_50 : decode cX4_layWeathers 50 = .ok (.isub, 1) := by decide +kernel
theorem dX4_layWeathers_51 : decode cX4_layWeathers 51 = .ok (.imul, 1) := by decide +kernel
theorem dX4_layWeathers_52 : decode cX4_layWeathers 52 = .ok (.bipush 100, 2) := by decide +kernel
theorem dX4_layWeathers_54 : decode cX4_layWeathers 54 = .ok (.idiv, 1) := by decide +kernel
theorem dX4_layWeathers_55 : decode cX4_layWeathers 55 = .ok (.aload_n 0, 1) := by decide +kernel
theorem dX4_layWeathers_56 : decode cX4_layWeathers 56 = .ok (.getfield 26, 3) := by decide +kernel
theorem dX4_layWeathers_59 : decode cX4_layWeathers 59 = .ok (.getfield 80, 3) := by decide +kernel
theorem dX4_layWeathers_62 : decode cX4_layWeathers 62 = .ok (.iload_n 3, 1) := by decide +kernel
theorem dX4_layWeathers_63 : decode cX4_layWeathers 63 = .ok (.invokestatic 61, 3) := by decide +kernel
theorem dX4_layWeathers_66 : decode cX4_layWeathers 66 = .ok (.invokevirtual 75, 3) := by decide +kernel
theorem dX4_layWeathers_69 : decode cX4_layWeathers 69 = .ok (.isub, 1) := by decide +kernel
theorem dX4_layWeathers_70 : decode cX4_layWeathers 70 = .ok (.istore_n 2, 1) := by decide +kernel
theorem dX4_layWeathers_71 : decode cX4_layWeathers 71 = .ok (.iinc 3 1, 3) := by decide +kernel
theorem dX4_layWeathers_74 : decode cX4_layWeathers 74 = .ok (.goto (-51), 3) := by decide +kernel
theorem dX4_layWeathers_77 : decode cX4_layWeathers 77 = .ok (.iload_n 2, 1) := by decide +kernel
theorem dX4_layWeathers_78 : decode cX4_layWeathers 78 = .ok (.ifCond .le 11, 3) := by decide +kernel
theorem dX4_layWeathers_81 : decode cX4_layWeathers 81 = .ok (.aload_n 0, 1) := by decide +kernel
theorem dX4_layWeathers_82 : decode cX4_layWeathers 82 = .ok (.iload_n 2, 1) := by decide +kernel
theorem dX4_layWeathers_83 : decode cX4_layWeathers 83 = .ok (.bipush 100, 2) := by decide +kernel
theorem dX4_layWeathers_85 : decode cX4_layWeathers 85 = .ok (.invokevirtual 75, 3) := by decide +kernel
theorem dX4_layWeathers_88 : decode cX4_layWeathers 88 = .ok (.pop, 1) := by decide +kernel
theorem dX4_layWeathers_89 : decode cX4_layWeathers 89 = .ok (.return_, 1) := by decide +kernel
theorem dX4_layWeather_0 : decode cX4_layWeather 0 = .ok (.aload_n 0, 1) := by decide +kernel
theorem dX4_layWeather_1 : decode cX4_layWeather 1 = .ok (.getfield 17, 3) := by decide +kernel
theorem dX4_layWeather_4 : decode cX4_layWeather 4 = .ok (.aload_n 0, 1) := by decide +kernel
theorem dX4_layWeather_5 : decode cX4_layWeather 5 = .ok (.getfield 72, 3) := by decide +kernel
theorem dX4_layWeather_8 : decode cX4_layWeather 8 = .ok (.iload_n 1, 1) := by decide +kernel
theorem dX4_layWeather_9 : decode cX4_layWeather 9 = .ok (.invokestatic 68, 3) := by decide +kernel
theorem dX4_layWeather_12 : decode cX4_layWeather 12 = .ok (.aload_n 0, 1) := by decide +kernel
theorem dX4_layWeather_13 : decode cX4_layWeather 13 = .ok (.getfield 20, 3) := by decide +kernel
theorem dX4_layWeather_16 : decode cX4_layWeather 16 = .ok (.aload_n 0, 1) := by decide +kernel
theorem dX4_layWeather_17 : decode cX4_layWeather 17 = .ok (.getfield 72, 3) := by decide +kernel
theorem dX4_layWeather_20 : decode cX4_layWeather 20 = .ok (.iload_n 2, 1) := by decide +kernel
theorem dX4_layWeather_21 : decode cX4_layWeather 21 = .ok (.invokestatic 68, 3) := by decide +kernel
theorem dX4_layWeather_24 : decode cX4_layWeather 24 = .ok (.aload_n 0, 1) := by decide +kernel
theorem dX4_layWeather_25 : decode cX4_layWeather 25 = .ok (.dup, 1) := by decide +kernel
theorem dX4_layWeather_26 : decode cX4_layWeather 26 = .ok (.getfield 72, 3) := by decide +kernel
theorem dX4_layWeather_29 : decode cX4_layWeather 29 = .ok (.iconst 1, 1) := by decide +kernel
theorem dX4_layWeather_30 : decode cX4_layWeather 30 = .ok (.iadd, 1) := by decide +kernel
theorem dX4_layWeather_31 : decode cX4_layWeather 31 = .ok (.putfield 72, 3) := by decide +kernel
theorem dX4_layWeather_34 : decode cX4_layWeather 34 = .ok (.iload_n 1, 1) := by decide +kernel
theorem dX4_layWeather_35 : decode cX4_layWeather 35 = .ok (.ireturn, 1) := by decide +kernel
theorem dX4_layHarvests_0 : decode cX4_layHarvests 0 = .ok (.iconst 0, 1) := by decide +kernel
theorem dX4_layHarvests_1 : decode cX4_layHarvests 1 = .ok (.istore_n 3, 1) := by decide +kernel
theorem dX4_layHarvests_2 : decode cX4_layHarvests 2 = .ok (.iload_n 3, 1) := by decide +kernel
theorem dX4_layHarvests_3 : decode cX4_layHarvests 3 = .ok (.aload_n 0, 1) := by decide +kernel
theorem dX4_layHarvests_4 : decode cX4_layHarvests 4 = .ok (.getfield 72, 3) := by decide +kernel
theorem dX4_layHarvests_7 : decode cX4_layHarvests 7 = .ok (.if_icmp .ge 32, 3) := by decide +kernel
theorem dX4_layHarvests_10 : decode cX4_layHarvests 10 = .ok (.aload_n 0, 1) := by decide +kernel
theorem dX4_layHarvests_11 : decode cX4_layHarvests 11 = .ok (.getfield 23, 3) := by decide +kernel
theorem dX4_layHarvests_14 : decode cX4_layHarvests 14 = .ok (.iload_n 1, 1) := by decide +kernel
theorem dX4_layHarvests_15 : decode cX4_layHarvests 15 = .ok (.bipush 8, 2) := by decide +kernel
theorem dX4_layHarvests_17 : decode cX4_layHarvests 17 = .ok (.imul, 1) := by decide +kernel
theorem dX4_layHarvests_18 : decode cX4_layHarvests 18 = .ok (.iload_n 3, 1) := by decide +kernel
theorem dX4_layHarvests_19 : decode cX4_layHarvests 19 = .ok (.iadd, 1) := by decide +kernel
theorem dX4_layHarvests_20 : decode cX4_layHarvests 20 = .ok (.iload_n 2, 1) := by decide +kernel
theorem dX4_layHarvests_21 : decode cX4_layHarvests 21 = .ok (.aload_n 0, 1) := by decide +kernel
theorem dX4_layHarvests_22 : decode cX4_layHarvests 22 = .ok (.iload_n 3, 1) := by decide +kernel
theorem dX4_layHarvests_23 : decode cX4_layHarvests 23 = .ok (.invokevirtual 81, 3) := by decide +kernel
theorem dX4_layHarvests_26 : decode cX4_layHarvests 26 = .ok (.imul, 1) := by decide +kernel
theorem dX4_layHarvests_27 : decode cX4_layHarvests 27 = .ok (.bipush 100, 2) := by decide +kernel
theorem dX4_layHarvests_29 : decode cX4_layHarvests 29 = .ok (.idiv, 1) := by decide +kernel
theorem dX4_layHarvests_30 : decode cX4_layHarvests 30 = .ok (.invokestatic 68, 3) := by decide +kernel
theorem dX4_layHarvests_33 : decode cX4_layHarvests 33 = .ok (.iinc 3 1, 3) := by decide +kernel
theorem dX4_layHarvests_36 : decode cX4_layHarvests 36 = .ok (.goto (-34), 3) := by decide +kernel
theorem dX4_layHarvests_39 : decode cX4_layHarvests 39 = .ok (.return_, 1) := by decide +kernel
theorem dX4_hasWeather_0 : decode cX4_hasWeather 0 = .ok (.iload_n 1, 1) := by decide +kernel
theorem dX4_hasWeather_1 : decode cX4_hasWeather 1 = .ok (.ifCond .lt 15, 3) := by decide +kernel
theorem dX4_hasWeather_4 : decode cX4_hasWeather 4 = .ok (.iload_n 1, 1) := by decide +kernel
theorem dX4_hasWeather_5 : decode cX4_hasWeather 5 = .ok (.aload_n 0, 1) := by decide +kernel
theorem dX4_hasWeather_6 : decode cX4_hasWeather 6 = .ok (.getfield 72, 3) := by decide +kernel
theorem dX4_hasWeather_9 : decode cX4_hasWeather 9 = .ok (.if_icmp .ge 7, 3) := by decide +kernel
theorem dX4_hasWeather_12 : decode cX4_hasWeather 12 = .ok (.iconst 1, 1) := by decide +kernel
theorem dX4_hasWeather_13 : decode cX4_hasWeather 13 = .ok (.goto 4, 3) := by decide +kernel
theorem dX4_hasWeather_16 : decode cX4_hasWeather 16 = .ok (.iconst 0, 1) := by decide +kernel
theorem dX4_hasWeather_17 : decode cX4_hasWeather 17 = .ok (.ireturn, 1) := by decide +kernel
theorem dX4_chanceOf_0 : decode cX4_chanceOf 0 = .ok (.aload_n 0, 1) := by decide +kernel
theorem dX4_chanceOf_1 : decode cX4_chanceOf 1 = .ok (.getfield 17, 3) := by decide +kernel
theorem dX4_chanceOf_4 : decode cX4_chanceOf 4 = .ok (.iload_n 1, 1) := by decide +kernel
theorem dX4_chanceOf_5 : decode cX4_chanceOf 5 = .ok (.invokestatic 61, 3) := by decide +kernel
theorem dX4_chanceOf_8 : decode cX4_chanceOf 8 = .ok (.ireturn, 1) := by decide +kernel
theorem dX4_timesOf_0 : decode cX4_timesOf 0 = .ok (.aload_n 0, 1) := by decide +kernel
theorem dX4_timesOf_1 : decode cX4_timesOf 1 = .ok (.getfield 20, 3) := by decide +kernel
theorem dX4_timesOf_4 : decode cX4_timesOf 4 = .ok (.iload_n 1, 1) := by decide +kernel
theorem dX4_timesOf_5 : decode cX4_timesOf 5 = .ok (.invokestatic 61, 3) := by decide +kernel
theorem dX4_timesOf_8 : decode cX4_timesOf 8 = .ok (.ireturn, 1) := by decide +kernel
theorem dX4_harvestOf_0 : decode cX4_harvestOf 0 = .ok (.aload_n 0, 1) := by decide +kernel
theorem dX4_harvestOf_1 : decode cX4_harvestOf 1 = .ok (.getfield 23, 3) := by decide +kernel
theorem dX4_harvestOf_4 : decode cX4_harvestOf 4 = .ok (.iload_n 1, 1) := by decide +kernel
theorem dX4_harvestOf_5 : decode cX4_harvestOf 5 = .ok (.bipush 8, 2) := by decide +kernel
theorem dX4_harvestOf_7 : decode cX4_harvestOf 7 = .ok (.imul, 1) := by decide +kernel
theorem dX4_harvestOf_8 : decode cX4_harvestOf 8 = .ok (.iload_n 2, 1) := by decide +kernel
theorem dX4_harvestOf_9 : decode cX4_harvestOf 9 = .ok (.iadd, 1) := by decide +kernel
theorem dX4_harvestOf_10 : decode cX4_harvestOf 10 = .ok (.invokestatic 61, 3) := by decide +kernel
theorem dX4_harvestOf_13 : decode cX4_harvestOf 13 = .ok (.ireturn, 1) := by decide +kernel
theorem dX4_costWorth_0 : decode cX4_costWorth 0 = .ok (.ldc2_w 84, 3) := by decide +kernel
theorem dX4_costWorth_3 : decode cX4_costWorth 3 = .ok (.aload_n 0, 1) := by decide +kernel
theorem dX4_costWorth_4 : decode cX4_costWorth 4 = .ok (.getfield 13, 3) := by decide +kernel
theorem dX4_costWorth_7 : decode cX4_costWorth 7 = .ok (.iload_n 1, 1) := by decide +kernel
theorem dX4_costWorth_8 : decode cX4_costWorth 8 = .ok (.invokestatic 61, 3) := by decide +kernel
theorem dX4_costWorth_11 : decode cX4_costWorth 11 = .ok (.i2l, 1) := by decide +kernel
theorem dX4_costWorth_12 : decode cX4_costWorth 12 = .ok (.lmul, 1) := by decide +kernel
theorem dX4_costWorth_13 : decode cX4_costWorth 13 = .ok (.lreturn, 1) := by decide +kernel
theorem dX4_worthOf_0 : decode cX4_worthOf 0 = .ok (.iload_n 3, 1) := by decide +kernel
theorem dX4_worthOf_1 : decode cX4_worthOf 1 = .ok (.ifCond .ne 12, 3) := by decide +kernel
theorem dX4_worthOf_4 : decode cX4_worthOf 4 = .ok (.aload_n 0, 1) := by decide +kernel
theorem dX4_worthOf_5 : decode cX4_worthOf 5 = .ok (.iload_n 2, 1) := by decide +kernel
theorem dX4_worthOf_6 : decode cX4_worthOf 6 = .ok (.invokevirtual 86, 3) := by decide +kernel
theorem dX4_worthOf_9 : decode cX4_worthOf 9 = .ok (.lneg, 1) := by decide +kernel
theorem dX4_worthOf_10 : decode cX4_worthOf 10 = .ok (.goto 4, 3) := by decide +kernel
theorem dX4_worthOf_13 : decode cX4_worthOf 13 = .ok (.lconst 0, 1) := by decide +kernel
theorem dX4_worthOf_14 : decode cX4_worthOf 14 = .ok (.lstore 4, 2) := by decide +kernel
theorem dX4_worthOf_16 : decode cX4_worthOf 16 = .ok (.iconst 0, 1) := by decide +kernel
theorem dX4_worthOf_17 : decode cX4_worthOf 17 = .ok (.istore 6, 2) := by decide +kernel
theorem dX4_worthOf_19 : decode cX4_worthOf 19 = .ok (.iload 6, 2) := by decide +kernel
theorem dX4_worthOf_21 : decode cX4_worthOf 21 = .ok (.aload_n 0, 1) := by decide +kernel
theorem dX4_worthOf_22 : decode cX4_worthOf 22 = .ok (.getfield 72, 3) := by decide +kernel
theorem dX4_worthOf_25 : decode cX4_worthOf 25 = .ok (.if_icmp .ge 55, 3) := by decide +kernel
theorem dX4_worthOf_28 : decode cX4_worthOf 28 = .ok (.aload_n 0, 1) := by decide +kernel
theorem dX4_worthOf_29 : decode cX4_worthOf 29 = .ok (.getfield 26, 3) := by decide +kernel
theorem dX4_worthOf_32 : decode cX4_worthOf 32 = .ok (.aload_n 1, 1) := by decide +kernel
theorem dX4_worthOf_33 : decode cX4_worthOf 33 = .ok (.aload_n 0, 1) := by decide +kernel
theorem dX4_worthOf_34 : decode cX4_worthOf 34 = .ok (.iload_n 2, 1) := by decide +kernel
theorem dX4_worthOf_35 : decode cX4_worthOf 35 = .ok (.iload 6, 2) := by decide +kernel
theorem dX4_worthOf_37 : decode cX4_worthOf 37 = .ok (.invokevirtual 90, 3) := by decide +kernel
theorem dX4_worthOf_40 : decode cX4_worthOf 40 = .ok (.aload_n 0, 1) := by decide +kernel
theorem dX4_worthOf_41 : decode cX4_worthOf 41 = .ok (.getfield 30, 3) := by decide +kernel
theorem dX4_worthOf_44 : decode cX4_worthOf 44 = .ok (.iload_n 3, 1) := by decide +kernel
theorem dX4_worthOf_45 : decode cX4_worthOf 45 = .ok (.invokevirtual 93, 3) := by decide +kernel
theorem dX4_worthOf_48 : decode cX4_worthOf 48 = .ok (.istore 7, 2) := by decide +kernel
theorem dX4_worthOf_50 : decode cX4_worthOf 50 = .ok (.lload 4, 2) := by decide +kernel
theorem dX4_worthOf_52 : decode cX4_worthOf 52 = .ok (.aload_n 0, 1) := by decide +kernel
theorem dX4_worthOf_53 : decode cX4_worthOf 53 = .ok (.iload 6, 2) := by decide +kernel
theorem dX4_worthOf_55 : decode cX4_worthOf 55 = .ok (.invokevirtual 97, 3) := by decide +kernel
theorem dX4_worthOf_58 : decode cX4_worthOf 58 = .ok (.i2l, 1) := by decide +kernel
theorem dX4_worthOf_59 : decode cX4_worthOf 59 = .ok (.aload_n 0, 1) := by decide +kernel
theorem dX4_worthOf_60 : decode cX4_worthOf 60 = .ok (.getfield 26, 3) := by decide +kernel
theorem dX4_worthOf_63 : decode cX4_worthOf 63 = .ok (.iload_n 3, 1) := by decide +kernel
theorem dX4_worthOf_64 : decode cX4_worthOf 64 = .ok (.iload 7, 2) := by decide +kernel
theorem dX4_worthOf_66 : decode cX4_worthOf 66 = .ok (.invokevirtual 100, 3) := by decide +kernel
theorem dX4_worthOf_69 : decode cX4_worthOf 69 = .ok (.i2l, 1) := by decide +kernel
theorem dX4_worthOf_70 : decode cX4_worthOf 70 = .ok (.lmul, 1) := by decide +kernel
theorem dX4_worthOf_71 : decode cX4_worthOf 71 = .ok (.ladd, 1) := by decide +kernel
theorem dX4_worthOf_72 : decode cX4_worthOf 72 = .ok (.lstore 4, 2) := by decide +kernel
theorem dX4_worthOf_74 : decode cX4_worthOf 74 = .ok (.iinc 6 1, 3) := by decide +kernel
theorem dX4_worthOf_77 : decode cX4_worthOf 77 = .ok (.goto (-58), 3) := by decide +kernel
theorem dX4_worthOf_80 : decode cX4_worthOf 80 = .ok (.lload 4, 2) := by decide +kernel
theorem dX4_worthOf_82 : decode cX4_worthOf 82 = .ok (.lreturn, 1) := by decide +kernel
theorem dX4_findBest_0 : decode cX4_findBest 0 = .ok (.aload_n 0, 1) := by decide +kernel
theorem dX4_findBest_1 : decode cX4_findBest 1 = .ok (.iconst 0, 1) := by decide +kernel
theorem dX4_findBest_2 : decode cX4_findBest 2 = .ok (.putfield 103, 3) := by decide +kernel
theorem dX4_findBest_5 : decode cX4_findBest 5 = .ok (.aload_n 0, 1) := by decide +kernel
theorem dX4_findBest_6 : decode cX4_findBest 6 = .ok (.aload_n 0, 1) := by decide +kernel
theorem dX4_findBest_7 : decode cX4_findBest 7 = .ok (.aload_n 1, 1) := by decide +kernel
theorem dX4_findBest_8 : decode cX4_findBest 8 = .ok (.iconst 0, 1) := by decide +kernel
theorem dX4_findBest_9 : decode cX4_findBest 9 = .ok (.iconst 0, 1) := by decide +kernel
theorem dX4_findBest_10 : decode cX4_findBest 10 = .ok (.invokevirtual 106, 3) := by decide +kernel
theorem dX4_findBest_13 : decode cX4_findBest 13 = .ok (.putfield 110, 3) := by decide +kernel
theorem dX4_findBest_16 : decode cX4_findBest 16 = .ok (.iconst 1, 1) := by decide +kernel
theorem dX4_findBest_17 : decode cX4_findBest 17 = .ok (.istore_n 2, 1) := by decide +kernel
theorem dX4_findBest_18 : decode cX4_findBest 18 = .ok (.iload_n 2, 1) := by decide +kernel
theorem dX4_findBest_19 : decode cX4_findBest 19 = .ok (.aload_n 0, 1) := by decide +kernel
theorem dX4_findBest_20 : decode cX4_findBest 20 = .ok (.getfield 43, 3) := by decide +kernel
theorem dX4_findBest_23 : decode cX4_findBest 23 = .ok (.if_icmp .gt 36, 3) := by decide +kernel
theorem dX4_findBest_26 : decode cX4_findBest 26 = .ok (.aload_n 0, 1) := by decide +kernel
theorem dX4_findBest_27 : decode cX4_findBest 27 = .ok (.aload_n 1, 1) := by decide +kernel
theorem dX4_findBest_28 : decode cX4_findBest 28 = .ok (.iload_n 2, 1) := by decide +kernel
theorem dX4_findBest_29 : decode cX4_findBest 29 = .ok (.iconst 0, 1) := by decide +kernel
theorem dX4_findBest_30 : decode cX4_findBest 30 = .ok (.invokevirtual 106, 3) := by decide +kernel
theorem dX4_findBest_33 : decode cX4_findBest 33 = .ok (.lstore_n 3, 1) := by decide +kernel
theorem dX4_findBest_34 : decode cX4_findBest 34 = .ok (.lload_n 3, 1) := by decide +kernel
theorem dX4_findBest_35 : decode cX4_findBest 35 = .ok (.aload_n 0, 1) := by decide +kernel
theorem dX4_findBest_36 : decode cX4_findBest 36 = .ok (.getfield 110, 3) := by decide +kernel
theorem dX4_findBest_39 : decode cX4_findBest 39 = .ok (.lcmp, 1) := by decide +kernel
theorem dX4_findBest_40 : decode cX4_findBest 40 = .ok (.ifCond .le 13, 3) := by decide +kernel
theorem dX4_findBest_43 : decode cX4_findBest 43 = .ok (.aload_n 0, 1) := by decide +kernel
theorem dX4_findBest_44 : decode cX4_findBest 44 = .ok (.iload_n 2, 1) := by decide +kernel
theorem dX4_findBest_45 : decode cX4_findBest 45 = .ok (.putfield 103, 3) := by decide +kernel
theorem dX4_findBest_48 : decode cX4_findBest 48 = .ok (.aload_n 0, 1) := by decide +kernel
theorem dX4_findBest_49 : decode cX4_findBest 49 = .ok (.lload_n 3, 1) := by decide +kernel
theorem dX4_findBest_50 : decode cX4_findBest 50 = .ok (.putfield 110, 3) := by decide +kernel
theorem dX4_findBest_53 : decode cX4_findBest 53 = .ok (.iinc 2 1, 3) := by decide +kernel
theorem dX4_findBest_56 : decode cX4_findBest 56 = .ok (.goto (-38), 3) := by decide +kernel
theorem dX4_findBest_59 : decode cX4_findBest 59 = .ok (.return_, 1) := by decide +kernel
theorem dX4_hundredBushels_0 : decode cX4_hundredBushels 0 = .ok (.iconst 0, 1) := by decide +kernel
theorem dX4_hundredBushels_1 : decode cX4_hundredBushels 1 = .ok (.istore 4, 2) := by decide +kernel
theorem dX4_hundredBushels_3 : decode cX4_hundredBushels 3 = .ok (.iconst 0, 1) := by decide +kernel
theorem dX4_hundredBushels_4 : decode cX4_hundredBushels 4 = .ok (.istore 5, 2) := by decide +kernel
theorem dX4_hundredBushels_6 : decode cX4_hundredBushels 6 = .ok (.iload 5, 2) := by decide +kernel
theorem dX4_hundredBushels_8 : decode cX4_hundredBushels 8 = .ok (.aload_n 0, 1) := by decide +kernel
theorem dX4_hundredBushels_9 : decode cX4_hundredBushels 9 = .ok (.getfield 72, 3) := by decide +kernel
theorem dX4_hundredBushels_12 : decode cX4_hundredBushels 12 = .ok (.if_icmp .ge 41, 3) := by decide +kernel
theorem dX4_hundredBushels_15 : decode cX4_hundredBushels 15 = .ok (.iload 4, 2) := by decide +kernel
theorem dX4_hundredBushels_17 : decode cX4_hundredBushels 17 = .ok (.aload_n 0, 1) := by decide +kernel
theorem dX4_hundredBushels_18 : decode cX4_hundredBushels 18 = .ok (.iload 5, 2) := by decide +kernel
theorem dX4_hundredBushels_20 : decode cX4_hundredBushels 20 = .ok (.invokevirtual 97, 3) := by decide +kernel
theorem dX4_hundredBushels_23 : decode cX4_hundredBushels 23 = .ok (.aload_n 0, 1) := by decide +kernel
theorem dX4_hundredBushels_24 : decode cX4_hundredBushels 24 = .ok (.getfield 26, 3) := by decide +kernel
theorem dX4_hundredBushels_27 : decode cX4_hundredBushels 27 = .ok (.aload_n 1, 1) := by decide +kernel
theorem dX4_hundredBushels_28 : decode cX4_hundredBushels 28 = .ok (.aload_n 0, 1) := by decide +kernel
theorem dX4_hundredBushels_29 : decode cX4_hundredBushels 29 = .ok (.iload_n 2, 1) := by decide +kernel
theorem dX4_hundredBushels_30 : decode cX4_hundredBushels 30 = .ok (.iload 5, 2) := by decide +kernel
theorem dX4_hundredBushels_32 : decode cX4_hundredBushels 32 = .ok (.invokevirtual 90, 3) := by decide +kernel
theorem dX4_hundredBushels_35 : decode cX4_hundredBushels 35 = .ok (.aload_n 0, 1) := by decide +kernel
theorem dX4_hundredBushels_36 : decode cX4_hundredBushels 36 = .ok (.getfield 30, 3) := by decide +kernel
theorem dX4_hundredBushels_39 : decode cX4_hundredBushels 39 = .ok (.iload_n 3, 1) := by decide +kernel
theorem dX4_hundredBushels_40 : decode cX4_hundredBushels 40 = .ok (.invokevirtual 93, 3) := by decide +kernel
theorem dX4_hundredBushels_43 : decode cX4_hundredBushels 43 = .ok (.imul, 1) := by decide +kernel
theorem dX4_hundredBushels_44 : decode cX4_hundredBushels 44 = .ok (.iadd, 1) := by decide +kernel
theorem dX4_hundredBushels_45 : decode cX4_hundredBushels 45 = .ok (.istore 4, 2) := by decide +kernel
theorem dX4_hundredBushels_47 : decode cX4_hundredBushels 47 = .ok (.iinc 5 1, 3) := by decide +kernel
theorem dX4_hundredBushels_50 : decode cX4_hundredBushels 50 = .ok (.goto (-44), 3) := by decide +kernel
theorem dX4_hundredBushels_53 : decode cX4_hundredBushels 53 = .ok (.iload 4, 2) := by decide +kernel
theorem dX4_hundredBushels_55 : decode cX4_hundredBushels 55 = .ok (.ireturn, 1) := by decide +kernel
theorem dX4_worthWithOwn_0 : decode cX4_worthWithOwn 0 = .ok (.aload_n 0, 1) := by decide +kernel
theorem dX4_worthWithOwn_1 : decode cX4_worthWithOwn 1 = .ok (.iload_n 2, 1) := by decide +kernel
theorem dX4_worthWithOwn_2 : decode cX4_worthWithOwn 2 = .ok (.iload_n 3, 1) := by decide +kernel
theorem dX4_worthWithOwn_3 : decode cX4_worthWithOwn 3 = .ok (.iadd, 1) := by decide +kernel
theorem dX4_worthWithOwn_4 : decode cX4_worthWithOwn 4 = .ok (.invokevirtual 86, 3) := by decide +kernel
theorem dX4_worthWithOwn_7 : decode cX4_worthWithOwn 7 = .ok (.lneg, 1) := by decide +kernel
theorem dX4_worthWithOwn_8 : decode cX4_worthWithOwn 8 = .ok (.lstore 5, 2) := by decide +kernel
theorem dX4_worthWithOwn_10 : decode cX4_worthWithOwn 10 = .ok (.iconst 0, 1) := by decide +kernel
theorem dX4_worthWithOwn_11 : decode cX4_worthWithOwn 11 = .ok (.istore 7, 2) := by decide +kernel
theorem dX4_worthWithOwn_13 : decode cX4_worthWithOwn 13 = .ok (.iload 7, 2) := by decide +kernel
theorem dX4_worthWithOwn_15 : decode cX4_worthWithOwn 15 = .ok (.aload_n 0, 1) := by decide +kernel
theorem dX4_worthWithOwn_16 : decode cX4_worthWithOwn 16 = .ok (.getfield 72, 3) := by decide +kernel
theorem dX4_worthWithOwn_19 : decode cX4_worthWithOwn 19 = .ok (.if_icmp .ge 60, 3) := by decide +kernel
theorem dX4_worthWithOwn_22 : decode cX4_worthWithOwn 22 = .ok (.aload_n 0, 1) := by decide +kernel
theorem dX4_worthWithOwn_23 : decode cX4_worthWithOwn 23 = .ok (.getfield 26, 3) := by decide +kernel
theorem dX4_worthWithOwn_26 : decode cX4_worthWithOwn 26 = .ok (.aload_n 1, 1) := by decide +kernel
theorem dX4_worthWithOwn_27 : decode cX4_worthWithOwn 27 = .ok (.aload_n 0, 1) := by decide +kernel
theorem dX4_worthWithOwn_28 : decode cX4_worthWithOwn 28 = .ok (.iload_n 2, 1) := by decide +kernel
theorem dX4_worthWithOwn_29 : decode cX4_worthWithOwn 29 = .ok (.iload 7, 2) := by decide +kernel
theorem dX4_worthWithOwn_31 : decode cX4_worthWithOwn 31 = .ok (.invokevirtual 90, 3) := by decide +kernel
theorem dX4_worthWithOwn_34 : decode cX4_worthWithOwn 34 = .ok (.aload_n 0, 1) := by decide +kernel
theorem dX4_worthWithOwn_35 : decode cX4_worthWithOwn 35 = .ok (.getfield 30, 3) := by decide +kernel
theorem dX4_worthWithOwn_38 : decode cX4_worthWithOwn 38 = .ok (.iconst 0, 1) := by decide +kernel
theorem dX4_worthWithOwn_39 : decode cX4_worthWithOwn 39 = .ok (.invokevirtual 93, 3) := by decide +kernel
theorem dX4_worthWithOwn_42 : decode cX4_worthWithOwn 42 = .ok (.iload 4, 2) := by decide +kernel
theorem dX4_worthWithOwn_44 : decode cX4_worthWithOwn 44 = .ok (.iload_n 3, 1) := by decide +kernel
theorem dX4_worthWithOwn_45 : decode cX4_worthWithOwn 45 = .ok (.imul, 1) := by decide +kernel
theorem dX4_worthWithOwn_46 : decode cX4_worthWithOwn 46 = .ok (.iadd, 1) := by decide +kernel
theorem dX4_worthWithOwn_47 : decode cX4_worthWithOwn 47 = .ok (.istore 8, 2) := by decide +kernel
theorem dX4_worthWithOwn_49 : decode cX4_worthWithOwn 49 = .ok (.lload 5, 2) := by decide +kernel
theorem dX4_worthWithOwn_51 : decode cX4_worthWithOwn 51 = .ok (.aload_n 0, 1) := by decide +kernel
theorem dX4_worthWithOwn_52 : decode cX4_worthWithOwn 52 = .ok (.iload 7, 2) := by decide +kernel
theorem dX4_worthWithOwn_54 : decode cX4_worthWithOwn 54 = .ok (.invokevirtual 97, 3) := by decide +kernel
theorem dX4_worthWithOwn_57 : decode cX4_worthWithOwn 57 = .ok (.i2l, 1) := by decide +kernel
theorem dX4_worthWithOwn_58 : decode cX4_worthWithOwn 58 = .ok (.aload_n 0, 1) := by decide +kernel
theorem dX4_worthWithOwn_59 : decode cX4_worthWithOwn 59 = .ok (.getfield 26, 3) := by decide +kernel
theorem dX4_worthWithOwn_62 : decode cX4_worthWithOwn 62 = .ok (.iconst 0, 1) := by decide +kernel
theorem dX4_worthWithOwn_63 : decode cX4_worthWithOwn 63 = .ok (.iload 8, 2) := by decide +kernel
theorem dX4_worthWithOwn_65 : decode cX4_worthWithOwn 65 = .ok (.invokevirtual 100, 3) := by decide +kernel
theorem dX4_worthWithOwn_68 : decode cX4_worthWithOwn 68 = .ok (.i2l, 1) := by decide +kernel
theorem dX4_worthWithOwn_69 : decode cX4_worthWithOwn 69 = .ok (.lmul, 1) := by decide +kernel
theorem dX4_worthWithOwn_70 : decode cX4_worthWithOwn 70 = .ok (.ladd, 1) := by decide +kernel
theorem dX4_worthWithOwn_71 : decode cX4_worthWithOwn 71 = .ok (.lstore 5, 2) := by decide +kernel
theorem dX4_worthWithOwn_73 : decode cX4_worthWithOwn 73 = .ok (.iinc 7 1, 3) := by decide +kernel
theorem dX4_worthWithOwn_76 : decode cX4_worthWithOwn 76 = .ok (.goto (-63), 3) := by decide +kernel
theorem dX4_worthWithOwn_79 : decode cX4_worthWithOwn 79 = .ok (.lload 5, 2) := by decide +kernel
theorem dX4_worthWithOwn_81 : decode cX4_worthWithOwn 81 = .ok (.lreturn, 1) := by decide +kernel
theorem dX4_bestWithOwn_0 : decode cX4_bestWithOwn 0 = .ok (.iconst 0, 1) := by decide +kernel
theorem dX4_bestWithOwn_1 : decode cX4_bestWithOwn 1 = .ok (.istore_n 3, 1) := by decide +kernel
theorem dX4_bestWithOwn_2 : decode cX4_bestWithOwn 2 = .ok (.aload_n 0, 1) := by decide +kernel
theorem dX4_bestWithOwn_3 : decode cX4_bestWithOwn 3 = .ok (.aload_n 1, 1) := by decide +kernel
theorem dX4_bestWithOwn_4 : decode cX4_bestWithOwn 4 = .ok (.iconst 0, 1) := by decide +kernel
theorem dX4_bestWithOwn_5 : decode cX4_bestWithOwn 5 = .ok (.iconst 0, 1) := by decide +kernel
theorem dX4_bestWithOwn_6 : decode cX4_bestWithOwn 6 = .ok (.iload_n 2, 1) := by decide +kernel
theorem dX4_bestWithOwn_7 : decode cX4_bestWithOwn 7 = .ok (.invokevirtual 114, 3) := by decide +kernel
theorem dX4_bestWithOwn_10 : decode cX4_bestWithOwn 10 = .ok (.lstore 4, 2) := by decide +kernel
theorem dX4_bestWithOwn_12 : decode cX4_bestWithOwn 12 = .ok (.iconst 0, 1) := by decide +kernel
theorem dX4_bestWithOwn_13 : decode cX4_bestWithOwn 13 = .ok (.istore 6, 2) := by decide +kernel
theorem dX4_bestWithOwn_15 : decode cX4_bestWithOwn 15 = .ok (.iload 6, 2) := by decide +kernel
theorem dX4_bestWithOwn_17 : decode cX4_bestWithOwn 17 = .ok (.aload_n 0, 1) := by decide +kernel
theorem dX4_bestWithOwn_18 : decode cX4_bestWithOwn 18 = .ok (.getfield 43, 3) := by decide +kernel
theorem dX4_bestWithOwn_21 : decode cX4_bestWithOwn 21 = .ok (.if_icmp .gt 63, 3) := by decide +kernel
theorem dX4_bestWithOwn_24 : decode cX4_bestWithOwn 24 = .ok (.iconst 0, 1) := by decide +kernel
theorem dX4_bestWithOwn_25 : decode cX4_bestWithOwn 25 = .ok (.istore 7, 2) := by decide +kernel
theorem dX4_bestWithOwn_27 : decode cX4_bestWithOwn 27 = .ok (.iload 6, 2) := by decide +kernel
theorem dX4_bestWithOwn_29 : decode cX4_bestWithOwn 29 = .ok (.iload 7, 2) := by decide +kernel
theorem dX4_bestWithOwn_31 : decode cX4_bestWithOwn 31 = .ok (.iadd, 1) := by decide +kernel
theorem dX4_bestWithOwn_32 : decode cX4_bestWithOwn 32 = .ok (.aload_n 0, 1) := by decide +kernel
theorem dX4_bestWithOwn_33 : decode cX4_bestWithOwn 33 = .ok (.getfield 43, 3) := by decide +kernel
theorem dX4_bestWithOwn_36 : decode cX4_bestWithOwn 36 = .ok (.if_icmp .gt 42, 3) := by decide +kernel
theorem dX4_bestWithOwn_39 : decode cX4_bestWithOwn 39 = .ok (.aload_n 0, 1) := by decide +kernel
theorem dX4_bestWithOwn_40 : decode cX4_bestWithOwn 40 = .ok (.aload_n 1, 1) := by decide +kernel
theorem dX4_bestWithOwn_41 : decode cX4_bestWithOwn 41 = .ok (.iload 6, 2) := by decide +kernel
theorem dX4_bestWithOwn_43 : decode cX4_bestWithOwn 43 = .ok (.iload 7, 2) := by decide +kernel
theorem dX4_bestWithOwn_45 : decode cX4_bestWithOwn 45 = .ok (.iload_n 2, 1) := by decide +kernel
theorem dX4_bestWithOwn_46 : decode cX4_bestWithOwn 46 = .ok (.invokevirtual 114, 3) := by decide +kernel
theorem dX4_bestWithOwn_49 : decode cX4_bestWithOwn 49 = .ok (.lstore 8, 2) := by decide +kernel
theorem dX4_bestWithOwn_51 : decode cX4_bestWithOwn 51 = .ok (.lload 8, 2) := by decide +kernel
theorem dX4_bestWithOwn_53 : decode cX4_bestWithOwn 53 = .ok (.lload 4, 2) := by decide +kernel
theorem dX4_bestWithOwn_55 : decode cX4_bestWithOwn 55 = .ok (.lcmp, 1) := by decide +kernel
theorem dX4_bestWithOwn_56 : decode cX4_bestWithOwn 56 = .ok (.ifCond .le 16, 3) := by decide +kernel
theorem dX4_bestWithOwn_59 : decode cX4_bestWithOwn 59 = .ok (.bipush 10, 2) := by decide +kernel
theorem dX4_bestWithOwn_61 : decode cX4_bestWithOwn 61 = .ok (.iload 6, 2) := by decide +kernel
theorem dX4_bestWithOwn_63 : decode cX4_bestWithOwn 63 = .ok (.imul, 1) := by decide +kernel
theorem dX4_bestWithOwn_64 : decode cX4_bestWithOwn 64 = .ok (.iload 7, 2) := by decide +kernel
theorem dX4_bestWithOwn_66 : decode cX4_bestWithOwn 66 = .ok (.iadd, 1) := by decide +kernel
theorem dX4_bestWithOwn_67 : decode cX4_bestWithOwn 67 = .ok (.istore_n 3, 1) := by decide +kernel
theorem dX4_bestWithOwn_68 : decode cX4_bestWithOwn 68 = .ok (.lload 8, 2) := by decide +kernel
theorem dX4_bestWithOwn_70 : decode cX4_bestWithOwn 70 = .ok (.lstore 4, 2) := by decide +kernel
theorem dX4_bestWithOwn_72 : decode cX4_bestWithOwn 72 = .ok (.iinc 7 1, 3) := by decide +kernel
theorem dX4_bestWithOwn_75 : decode cX4_bestWithOwn 75 = .ok (.goto (-48), 3) := by decide +kernel
theorem dX4_bestWithOwn_78 : decode cX4_bestWithOwn 78 = .ok (.iinc 6 1, 3) := by decide +kernel
theorem dX4_bestWithOwn_81 : decode cX4_bestWithOwn 81 = .ok (.goto (-66), 3) := by decide +kernel
theorem dX4_bestWithOwn_84 : decode cX4_bestWithOwn 84 = .ok (.iload_n 3, 1) := by decide +kernel
theorem dX4_bestWithOwn_85 : decode cX4_bestWithOwn 85 = .ok (.ireturn, 1) := by decide +kernel
theorem dX4_weatherBy_0 : decode cX4_weatherBy 0 = .ok (.iload_n 1, 1) := by decide +kernel
theorem dX4_weatherBy_1 : decode cX4_weatherBy 1 = .ok (.ldc 118, 2) := by decide +kernel
theorem dX4_weatherBy_3 : decode cX4_weatherBy 3 = .ok (.iand, 1) := by decide +kernel
theorem dX4_weatherBy_4 : decode cX4_weatherBy 4 = .ok (.ldc 119, 2) := by decide +kernel
theorem dX4_weatherBy_6 : decode cX4_weatherBy 6 = .ok (.idiv, 1) := by decide +kernel
theorem dX4_weatherBy_7 : decode cX4_weatherBy 7 = .ok (.bipush 100, 2) := by decide +kernel
theorem dX4_weatherBy_9 : decode cX4_weatherBy 9 = .ok (.irem, 1) := by decide +kernel
theorem dX4_weatherBy_10 : decode cX4_weatherBy 10 = .ok (.istore_n 2, 1) := by decide +kernel
theorem dX4_weatherBy_11 : decode cX4_weatherBy 11 = .ok (.iconst 0, 1) := by decide +kernel
theorem dX4_weatherBy_12 : decode cX4_weatherBy 12 = .ok (.istore_n 3, 1) := by decide +kernel
theorem dX4_weatherBy_13 : decode cX4_weatherBy 13 = .ok (.iconst 0, 1) := by decide +kernel
theorem dX4_weatherBy_14 : decode cX4_weatherBy 14 = .ok (.istore 4, 2) := by decide +kernel
theorem dX4_weatherBy_16 : decode cX4_weatherBy 16 = .ok (.iload 4, 2) := by decide +kernel
theorem dX4_weatherBy_18 : decode cX4_weatherBy 18 = .ok (.aload_n 0, 1) := by decide +kernel
theorem dX4_weatherBy_19 : decode cX4_weatherBy 19 = .ok (.getfield 72, 3) := by decide +kernel
theorem dX4_weatherBy_22 : decode cX4_weatherBy 22 = .ok (.if_icmp .ge 26, 3) := by decide +kernel
theorem dX4_weatherBy_25 : decode cX4_weatherBy 25 = .ok (.iload_n 3, 1) := by decide +kernel
theorem dX4_weatherBy_26 : decode cX4_weatherBy 26 = .ok (.aload_n 0, 1) := by decide +kernel
theorem dX4_weatherBy_27 : decode cX4_weatherBy 27 = .ok (.iload 4, 2) := by decide +kernel
theorem dX4_weatherBy_29 : decode cX4_weatherBy 29 = .ok (.invokevirtual 97, 3) := by decide +kernel
theorem dX4_weatherBy_32 : decode cX4_weatherBy 32 = .ok (.iadd, 1) := by decide +kernel
theorem dX4_weatherBy_33 : decode cX4_weatherBy 33 = .ok (.istore_n 3, 1) := by decide +kernel
theorem dX4_weatherBy_34 : decode cX4_weatherBy 34 = .ok (.iload_n 2, 1) := by decide +kernel
theorem dX4_weatherBy_35 : decode cX4_weatherBy 35 = .ok (.iload_n 3, 1) := by decide +kernel
theorem dX4_weatherBy_36 : decode cX4_weatherBy 36 = .ok (.if_icmp .ge 6, 3) := by decide +kernel
theorem dX4_weatherBy_39 : decode cX4_weatherBy 39 = .ok (.iload 4, 2) := by decide +kernel
theorem dX4_weatherBy_41 : decode cX4_weatherBy 41 = .ok (.ireturn, 1) := by decide +kernel
theorem dX4_weatherBy_42 : decode cX4_weatherBy 42 = .ok (.iinc 4 1, 3) := by decide +kernel
theorem dX4_weatherBy_45 : decode cX4_weatherBy 45 = .ok (.goto (-29), 3) := by decide +kernel
theorem dX4_weatherBy_48 : decode cX4_weatherBy 48 = .ok (.iconst 0, 1) := by decide +kernel
theorem dX4_weatherBy_49 : decode cX4_weatherBy 49 = .ok (.ireturn, 1) := by decide +kernel
theorem dX4_drawnBushels_0 : decode cX4_drawnBushels 0 = .ok (.aload_n 0, 1) := by decide +kernel
theorem dX4_drawnBushels_1 : decode cX4_drawnBushels 1 = .ok (.iload_n 2, 1) := by decide +kernel
theorem dX4_drawnBushels_2 : decode cX4_drawnBushels 2 = .ok (.aload_n 0, 1) := by decide +kernel
theorem dX4_drawnBushels_3 : decode cX4_drawnBushels 3 = .ok (.iload_n 3, 1) := by decide +kernel
theorem dX4_drawnBushels_4 : decode cX4_drawnBushels 4 = .ok (.invokevirtual 120, 3) := by decide +kernel
theorem dX4_drawnBushels_7 : decode cX4_drawnBushels 7 = .ok (.invokevirtual 90, 3) := by decide +kernel
theorem dX4_drawnBushels_10 : decode cX4_drawnBushels 10 = .ok (.istore 5, 2) := by decide +kernel
theorem dX4_drawnBushels_12 : decode cX4_drawnBushels 12 = .ok (.aload_n 0, 1) := by decide +kernel
theorem dX4_drawnBushels_13 : decode cX4_drawnBushels 13 = .ok (.getfield 26, 3) := by decide +kernel
theorem dX4_drawnBushels_16 : decode cX4_drawnBushels 16 = .ok (.aload_n 1, 1) := by decide +kernel
theorem dX4_drawnBushels_17 : decode cX4_drawnBushels 17 = .ok (.iload 5, 2) := by decide +kernel
theorem dX4_drawnBushels_19 : decode cX4_drawnBushels 19 = .ok (.iload 4, 2) := by decide +kernel
theorem dX4_drawnBushels_21 : decode cX4_drawnBushels 21 = .ok (.bipush 9, 2) := by decide +kernel
theorem dX4_drawnBushels_23 : decode cX4_drawnBushels 23 = .ok (.invokestatic 37, 3) := by decide +kernel
theorem dX4_drawnBushels_26 : decode cX4_drawnBushels 26 = .ok (.iconst 0, 1) := by decide +kernel
theorem dX4_drawnBushels_27 : decode cX4_drawnBushels 27 = .ok (.invokevirtual 93, 3) := by decide +kernel
theorem dX4_drawnBushels_30 : decode cX4_drawnBushels 30 = .ok (.ireturn, 1) := by decide +kernel
theorem dX5_init_0 : decode cX5_init 0 = .ok (.aload_n 0, 1) := by decide +kernel
theorem dX5_init_1 : decode cX5_init 1 = .ok (.invokespecial 1, 3) := by decide +kernel
theorem dX5_init_4 : decode cX5_init 4 = .ok (.return_, 1) := by decide +kernel
theorem dX5_become_0 : decode cX5_become 0 = .ok (.aload_n 0, 1) := by decide +kernel
theorem dX5_become_1 : decode cX5_become 1 = .ok (.iload_n 1, 1) := by decide +kernel
theorem dX5_become_2 : decode cX5_become 2 = .ok (.putfield 7, 3) := by decide +kernel
theorem dX5_become_5 : decode cX5_become 5 = .ok (.aload_n 0, 1) := by decide +kernel
theorem dX5_become_6 : decode cX5_become 6 = .ok (.iload_n 2, 1) := by decide +kernel
theorem dX5_become_7 : decode cX5_become 7 = .ok (.putfield 13, 3) := by decide +kernel
theorem dX5_become_10 : decode cX5_become 10 = .ok (.aload_n 0, 1) := by decide +kernel
theorem dX5_become_11 : decode cX5_become 11 = .ok (.iload_n 3, 1) := by decide +kernel
theorem dX5_become_12 : decode cX5_become 12 = .ok (.putfield 16, 3) := by decide +kernel
theorem dX5_become_15 : decode cX5_become 15 = .ok (.aload_n 0, 1) := by decide +kernel
theorem dX5_become_16 : decode cX5_become 16 = .ok (.iload 4, 2) := by decide +kernel
theorem dX5_become_18 : decode cX5_become 18 = .ok (.putfield 19, 3) := by decide +kernel
theorem dX5_become_21 : decode cX5_become 21 = .ok (.return_, 1) := by decide +kernel
theorem dX5_copyFrom_0 : decode cX5_copyFrom 0 = .ok (.aload_n 1, 1) := by decide +kernel
theorem dX5_copyFrom_1 : decode cX5_copyFrom 1 = .ok (.ifnull 23, 3) := by decide +kernel
theorem dX5_copyFrom_4 : decode cX5_copyFrom 4 = .ok (.aload_n 0, 1) := by decide +kernel
theorem dX5_copyFrom_5 : decode cX5_copyFrom 5 = .ok (.aload_n 1, 1) := by decide +kernel
theorem dX5_copyFrom_6 : decode cX5_copyFrom 6 = .ok (.getfield 7, 3) := by decide +kernel
theorem dX5_copyFrom_9 : decode cX5_copyFrom 9 = .ok (.aload_n 1, 1) := by decide +kernel
theorem dX5_copyFrom_10 : decode cX5_copyFrom 10 = .ok (.getfield 13, 3) := by decide +kernel
theorem dX5_copyFrom_13 : decode cX5_copyFrom 13 = .ok (.aload_n 1, 1) := by decide +kernel
theorem dX5_copyFrom_14 : decode cX5_copyFrom 14 = .ok (.getfield 16, 3) := by decide +kernel
theorem dX5_copyFrom_17 : decode cX5_copyFrom 17 = .ok (.aload_n 1, 1) := by decide +kernel
theorem dX5_copyFrom_18 : decode cX5_copyFrom 18 = .ok (.getfield 19, 3) := by decide +kernel
theorem dX5_copyFrom_21 : decode cX5_copyFrom 21 = .ok (.invokevirtual 22, 3) := by decide +kernel
theorem dX5_copyFrom_24 : decode cX5_copyFrom 24 = .ok (.return_, 1) := by decide +kernel
theorem dX5_shareOf_0 : decode cX5_shareOf 0 = .ok (.aload_n 0, 1) := by decide +kernel
theorem dX5_shareOf_1 : decode cX5_shareOf 1 = .ok (.getfield 7, 3) := by decide +kernel
theorem dX5_shareOf_4 : decode cX5_shareOf 4 = .ok (.tableswitch 109 0 4 #[36, 50, 57, 62, 81], 36) := by decide +kernel
theorem dX5_shareOf_40 : decode cX5_shareOf 40 = .ok (.iload_n 1, 1) := by decide +kernel
theorem dX5_shareOf_41 : decode cX5_shareOf 41 = .ok (.aload_n 0, 1) := by decide +kernel
theorem dX5_shareOf_42 : decode cX5_shareOf 42 = .ok (.getfield 13, 3) := by decide +kernel
theorem dX5_shareOf_45 : decode cX5_shareOf 45 = .ok (.imul, 1) := by decide +kernel
theorem dX5_shareOf_46 : decode cX5_shareOf 46 = .ok (.aload_n 0, 1) := by decide +kernel
theorem dX5_shareOf_47 : decode cX5_shareOf 47 = .ok (.getfield 16, 3) := by decide +kernel
theorem dX5_shareOf_50 : decode cX5_shareOf 50 = .ok (.invokestatic 26, 3) := by decide +kernel
theorem dX5_shareOf_53 : decode cX5_shareOf 53 = .ok (.ireturn, 1) := by decide +kernel
theorem dX5_shareOf_54 : decode cX5_shareOf 54 = .ok (.iload_n 1, 1) := by decide +kernel
theorem dX5_shareOf_55 : decode cX5_shareOf 55 = .ok (.aload_n 0, 1) := by decide +kernel
theorem dX5_shareOf_56 : decode cX5_shareOf 56 = .ok (.getfield 13, 3) := by decide +kernel
theorem dX5_shareOf_59 : decode cX5_shareOf 59 = .ok (.isub, 1) := by decide +kernel
theorem dX5_shareOf_60 : decode cX5_shareOf 60 = .ok (.ireturn, 1) := by decide +kernel
theorem dX5_shareOf_61 : decode cX5_shareOf 61 = .ok (.aload_n 0, 1) := by decide +kernel
theorem dX5_shareOf_62 : decode cX5_shareOf 62 = .ok (.getfield 13, 3) := by decide +kernel
theorem dX5_shareOf_65 : decode cX5_shareOf 65 = .ok (.ireturn, 1) := by decide +kernel
theorem dX5_shareOf_66 : decode cX5_shareOf 66 = .ok (.iload_n 1, 1) := by decide +kernel
theorem dX5_shareOf_67 : decode cX5_shareOf 67 = .ok (.aload_n 0, 1) := by decide +kernel
theorem dX5_shareOf_68 : decode cX5_shareOf 68 = .ok (.getfield 13, 3) := by decide +kernel
theorem dX5_shareOf_71 : decode cX5_shareOf 71 = .ok (.imul, 1) := by decide +kernel
theorem dX5_shareOf_72 : decode cX5_shareOf 72 = .ok (.aload_n 0, 1) := by decide +kernel
theorem dX5_shareOf_73 : decode cX5_shareOf 73 = .ok (.getfield 16, 3) := by decide +kernel
theorem dX5_shareOf_76 : decode cX5_shareOf 76 = .ok (.invokestatic 26, 3) := by decide +kernel
theorem dX5_shareOf_79 : decode cX5_shareOf 79 = .ok (.aload_n 0, 1) := by decide +kernel
theorem dX5_shareOf_80 : decode cX5_shareOf 80 = .ok (.getfield 19, 3) := by decide +kernel
theorem dX5_shareOf_83 : decode cX5_shareOf 83 = .ok (.isub, 1) := by decide +kernel
theorem dX5_shareOf_84 : decode cX5_shareOf 84 = .ok (.ireturn, 1) := by decide +kernel
theorem dX5_shareOf_85 : decode cX5_shareOf 85 = .ok (.iload_n 1, 1) := by decide +kernel
theorem dX5_shareOf_86 : decode cX5_shareOf 86 = .ok (.aload_n 0, 1) := by decide +kernel
theorem dX5_shareOf_87 : decode cX5_shareOf 87 = .ok (.getfield 13, 3) := by decide +kernel
theorem dX5_shareOf_90 : decode cX5_shareOf 90 = .ok (.aload_n 0, 1) := by decide +kernel
theorem dX5_shareOf_91 : decode cX5_shareOf 91 = .ok (.getfield 19, 3) := by decide +kernel
theorem dX5_shareOf_94 : decode cX5_shareOf 94 = .ok (.iload_n 2, 1) := by decide +kernel
theorem dX5_shareOf_95 : decode cX5_shareOf 95 = .ok (.imul, 1) := by decide +kernel
theorem dX5_shareOf_96 : decode cX5_shareOf 96 = .ok (.iadd, 1) := by decide +kernel
theorem dX5_shareOf_97 : decode cX5_shareOf 97 = .ok (.aload_n 0, 1) := by decide +kernel
theorem dX5_shareOf_98 : decode cX5_shareOf 98 = .ok (.getfield 16, 3) := by decide +kernel
theorem dX5_shareOf_101 : decode cX5_shareOf 101 = .ok (.invokestatic 32, 3) := by decide +kernel
theorem dX5_shareOf_104 : decode cX5_shareOf 104 = .ok (.imul, 1) := by decide +kernel
theorem dX5_shareOf_105 : decode cX5_shareOf 105 = .ok (.aload_n 0, 1) := by decide +kernel
theorem dX5_shareOf_106 : decode cX5_shareOf 106 = .ok (.getfield 16, 3) := by decide +kernel
theorem dX5_shareOf_109 : decode cX5_shareOf 109 = .ok (.invokestatic 26, 3) := by decide +kernel
theorem dX5_shareOf_112 : decode cX5_shareOf 112 = .ok (.ireturn, 1) := by decide +kernel
theorem dX5_shareOf_113 : decode cX5_shareOf 113 = .ok (.iload_n 1, 1) := by decide +kernel
theorem dX5_shareOf_114 : decode cX5_shareOf 114 = .ok (.iconst 2, 1) := by decide +kernel
theorem dX5_shareOf_115 : decode cX5_shareOf 115 = .ok (.aload_n 0, 1) := by decide +kernel
theorem dX5_shareOf_116 : decode cX5_shareOf 116 = .ok (.getfield 13, 3) := by decide +kernel
theorem dX5_shareOf_119 : decode cX5_shareOf 119 = .ok (.imul, 1) := by decide +kernel
theorem dX5_shareOf_120 : decode cX5_shareOf 120 = .ok (.if_icmp .lt 17, 3) := by decide +kernel
theorem dX5_shareOf_123 : decode cX5_shareOf 123 = .ok (.iload_n 1, 1) := by decide +kernel
theorem dX5_shareOf_124 : decode cX5_shareOf 124 = .ok (.aload_n 0, 1) := by decide +kernel
theorem dX5_shareOf_125 : decode cX5_shareOf 125 = .ok (.getfield 13, 3) := by decide +kernel
theorem dX5_shareOf_128 : decode cX5_shareOf 128 = .ok (.isub, 1) := by decide +kernel
theorem dX5_shareOf_129 : decode cX5_shareOf 129 = .ok (.aload_n 0, 1) := by decide +kernel
theorem dX5_shareOf_130 : decode cX5_shareOf 130 = .ok (.getfield 19, 3) := by decide +kernel
theorem dX5_shareOf_133 : decode cX5_shareOf 133 = .ok (.isub, 1) := by decide +kernel
theorem dX5_shareOf_134 : decode cX5_shareOf 134 = .ok (.goto 9, 3) := by decide +kernel
theorem dX5_shareOf_137 : decode cX5_shareOf 137 = .ok (.iload_n 1, 1) := by decide +kernel
theorem dX5_shareOf_138 : decode cX5_shareOf 138 = .ok (.aload_n 0, 1) := by decide +kernel
theorem dX5_shareOf_139 : decode cX5_shareOf 139 = .ok (.getfield 13, 3) := by decide +kernel
theorem dX5_shareOf_142 : decode cX5_shareOf 142 = .ok (.isub, 1) := by decide +kernel
theorem dX5_shareOf_143 : decode cX5_shareOf 143 = .ok (.ireturn, 1) := by decide +kernel
theorem dX6_init_0 : decode cX6_init 0 = .ok (.aload_n 0, 1) := by decide +kernel
theorem dX6_init_1 : decode cX6_init 1 = .ok (.invokespecial 1, 3) := by decide +kernel
theorem dX6_init_4 : decode cX6_init 4 = .ok (.aload_n 0, 1) := by decide +kernel
theorem dX6_init_5 : decode cX6_init 5 = .ok (.bipush 64, 2) := by decide +kernel
theorem dX6_init_7 : decode cX6_init 7 = .ok (.newarray .int, 2) := by decide +kernel
theorem dX6_init_9 : decode cX6_init 9 = .ok (.putfield 9, 3) := by decide +kernel
theorem dX6_init_12 : decode cX6_init 12 = .ok (.return_, 1) := by decide +kernel
theorem dX6_hasRoom_0 : decode cX6_hasRoom 0 = .ok (.aload_n 0, 1) := by decide +kernel
theorem dX6_hasRoom_1 : decode cX6_hasRoom 1 = .ok (.getfield 13, 3) := by decide +kernel
theorem dX6_hasRoom_4 : decode cX6_hasRoom 4 = .ok (.iload_n 1, 1) := by decide +kernel
theorem dX6_hasRoom_5 : decode cX6_hasRoom 5 = .ok (.iadd, 1) := by decide +kernel
theorem dX6_hasRoom_6 : decode cX6_hasRoom 6 = .ok (.bipush 64, 2) := by decide +kernel
theorem dX6_hasRoom_8 : decode cX6_hasRoom 8 = .ok (.if_icmp .gt 7, 3) := by decide +kernel
theorem dX6_hasRoom_11 : decode cX6_hasRoom 11 = .ok (.iconst 1, 1) := by decide +kernel
theorem dX6_hasRoom_12 : decode cX6_hasRoom 12 = .ok (.goto 4, 3) := by decide +kernel
theorem dX6_hasRoom_15 : decode cX6_hasRoom 15 = .ok (.iconst 0, 1) := by decide +kernel
theorem dX6_hasRoom_16 : decode cX6_hasRoom 16 = .ok (.ireturn, 1) := by decide +kernel
theorem dX6_append_0 : decode cX6_append 0 = .ok (.iconst 0, 1) := by decide +kernel
theorem dX6_append_1 : decode cX6_append 1 = .ok (.istore 4, 2) := by decide +kernel
theorem dX6_append_3 : decode cX6_append 3 = .ok (.iload 4, 2) := by decide +kernel
theorem dX6_append_5 : decode cX6_append 5 = .ok (.iload_n 1, 1) := by decide +kernel
theorem dX6_append_6 : decode cX6_append 6 = .ok (.if_icmp .ge 42, 3) := by decide +kernel
theorem dX6_append_9 : decode cX6_append 9 = .ok (.aload_n 0, 1) := by decide +kernel
theorem dX6_append_10 : decode cX6_append 10 = .ok (.getfield 9, 3) := by decide +kernel
theorem dX6_append_13 : decode cX6_append 13 = .ok (.aload_n 0, 1) := by decide +kernel
theorem dX6_append_14 : decode cX6_append 14 = .ok (.getfield 13, 3) := by decide +kernel
theorem dX6_append_17 : decode cX6_append 17 = .ok (.lload_n 2, 1) := by decide +kernel
theorem dX6_append_18 : decode cX6_append 18 = .ok (.bipush 8, 2) := by decide +kernel
theorem dX6_append_20 : decode cX6_append 20 = .ok (.iload 4, 2) := by decide +kernel
theorem dX6_append_22 : decode cX6_append 22 = .ok (.imul, 1) := by decide +kernel
theorem dX6_append_23 : decode cX6_append 23 = .ok (.lushr, 1) := by decide +kernel
theorem dX6_append_24 : decode cX6_append 24 = .ok (.ldc2_w 17, 3) := by decide +kernel
theorem dX6_append_27 : decode cX6_append 27 = .ok (.land, 1) := by decide +kernel
theorem dX6_append_28 : decode cX6_append 28 = .ok (.l2i, 1) := by decide +kernel
theorem dX6_append_29 : decode cX6_append 29 = .ok (.invokestatic 19, 3) := by decide +kernel
theorem dX6_append_32 : decode cX6_append 32 = .ok (.aload_n 0, 1) := by decide +kernel
theorem dX6_append_33 : decode cX6_append 33 = .ok (.dup, 1) := by decide +kernel
theorem dX6_append_34 : decode cX6_append 34 = .ok (.getfield 13, 3) := by decide +kernel
theorem dX6_append_37 : decode cX6_append 37 = .ok (.iconst 1, 1) := by decide +kernel
theorem dX6_append_38 : decode cX6_append 38 = .ok (.iadd, 1) := by decide +kernel
theorem dX6_append_39 : decode cX6_append 39 = .ok (.putfield 13, 3) := by decide +kernel
theorem dX6_append_42 : decode cX6_append 42 = .ok (.iinc 4 1, 3) := by decide +kernel
theorem dX6_append_45 : decode cX6_append 45 = .ok (.goto (-42), 3) := by decide +kernel
theorem dX6_append_48 : decode cX6_append 48 = .ok (.return_, 1) := by decide +kernel
theorem dX6_empty_0 : decode cX6_empty 0 = .ok (.aload_n 0, 1) := by decide +kernel
theorem dX6_empty_1 : decode cX6_empty 1 = .ok (.iconst 0, 1) := by decide +kernel
theorem dX6_empty_2 : decode cX6_empty 2 = .ok (.putfield 13, 3) := by decide +kernel
theorem dX6_empty_5 : decode cX6_empty 5 = .ok (.return_, 1) := by decide +kernel
theorem dX6_here_0 : decode cX6_here 0 = .ok (.aload_n 0, 1) := by decide +kernel
theorem dX6_here_1 : decode cX6_here 1 = .ok (.getfield 25, 3) := by decide +kernel
theorem dX6_here_4 : decode cX6_here 4 = .ok (.aload_n 0, 1) := by decide +kernel
theorem dX6_here_5 : decode cX6_here 5 = .ok (.getfield 13, 3) := by decide +kernel
theorem dX6_here_8 : decode cX6_here 8 = .ok (.if_icmp .ge 17, 3) := by decide +kernel
theorem dX6_here_11 : decode cX6_here 11 = .ok (.aload_n 0, 1) := by decide +kernel
theorem dX6_here_12 : decode cX6_here 12 = .ok (.getfield 9, 3) := by decide +kernel
theorem dX6_here_15 : decode cX6_here 15 = .ok (.aload_n 0, 1) := by decide +kernel
theorem dX6_here_16 : decode cX6_here 16 = .ok (.getfield 25, 3) := by decide +kernel
theorem dX6_here_19 : decode cX6_here 19 = .ok (.invokestatic 28, 3) := by decide +kernel
theorem dX6_here_22 : decode cX6_here 22 = .ok (.goto 4, 3) := by decide +kernel
theorem dX6_here_25 : decode cX6_here 25 = .ok (.iconst (-1), 1) := by decide +kernel
theorem dX6_here_26 : decode cX6_here 26 = .ok (.ireturn, 1) := by decide +kernel
theorem dX6_skip_0 : decode cX6_skip 0 = .ok (.aload_n 0, 1) := by decide +kernel
theorem dX6_skip_1 : decode cX6_skip 1 = .ok (.invokevirtual 32, 3) := by decide +kernel
theorem dX6_skip_4 : decode cX6_skip 4 = .ok (.iload_n 1, 1) := by decide +kernel
theorem dX6_skip_5 : decode cX6_skip 5 = .ok (.if_icmp .eq 5, 3) := by decide +kernel
theorem dX6_skip_8 : decode cX6_skip 8 = .ok (.iconst 0, 1) := by decide +kernel
theorem dX6_skip_9 : decode cX6_skip 9 = .ok (.ireturn, 1) := by decide +kernel
theorem dX6_skip_10 : decode cX6_skip 10 = .ok (.aload_n 0, 1) := by decide +kernel
theorem dX6_skip_11 : decode cX6_skip 11 = .ok (.dup, 1) := by decide +kernel
theorem dX6_skip_12 : decode cX6_skip 12 = .ok (.getfield 25, 3) := by decide +kernel
theorem dX6_skip_15 : decode cX6_skip 15 = .ok (.iconst 1, 1) := by decide +kernel
theorem dX6_skip_16 : decode cX6_skip 16 = .ok (.iadd, 1) := by decide +kernel
theorem dX6_skip_17 : decode cX6_skip 17 = .ok (.putfield 25, 3) := by decide +kernel
theorem dX6_skip_20 : decode cX6_skip 20 = .ok (.iconst 1, 1) := by decide +kernel
theorem dX6_skip_21 : decode cX6_skip 21 = .ok (.ireturn, 1) := by decide +kernel
theorem dX6_number_0 : decode cX6_number 0 = .ok (.iconst (-1), 1) := by decide +kernel
theorem dX6_number_1 : decode cX6_number 1 = .ok (.istore_n 1, 1) := by decide +kernel
theorem dX6_number_2 : decode cX6_number 2 = .ok (.iconst 0, 1) := by decide +kernel
theorem dX6_number_3 : decode cX6_number 3 = .ok (.istore_n 2, 1) := by decide +kernel
theorem dX6_number_4 : decode cX6_number 4 = .ok (.iload_n 2, 1) := by decide +kernel
theorem dX6_number_5 : decode cX6_number 5 = .ok (.iconst 3, 1) := by decide +kernel
theorem dX6_number_6 : decode cX6_number 6 = .ok (.if_icmp .ge 58, 3) := by decide +kernel
theorem dX6_number_9 : decode cX6_number 9 = .ok (.iload_n 1, 1) := by decide +kernel
theorem dX6_number_10 : decode cX6_number 10 = .ok (.ifCond .eq 54, 3) := by decide +kernel
theorem dX6_number_13 : decode cX6_number 13 = .ok (.aload_n 0, 1) := by decide +kernel
theorem dX6_number_14 : decode cX6_number 14 = .ok (.invokevirtual 32, 3) := by decide +kernel
theorem dX6_number_17 : decode cX6_number 17 = .ok (.bipush 48, 2) := by decide +kernel
theorem dX6_number_19 : decode cX6_number 19 = .ok (.if_icmp .lt 45, 3) := by decide +kernel
theorem dX6_number_22 : decode cX6_number 22 = .ok (.aload_n 0, 1) := by decide +kernel
theorem dX6_number_23 : decode cX6_number 23 = .ok (.invokevirtual 32, 3) := by decide +kernel
theorem dX6_number_26 : decode cX6_number 26 = .ok (.bipush 57, 2) := by decide +kernel
theorem dX6_number_28 : decode cX6_number 28 = .ok (.if_icmp .gt 36, 3) := by decide +kernel
theorem dX6_number_31 : decode cX6_number 31 = .ok (.bipush 10, 2) := by decide +kernel
theorem dX6_number_33 : decode cX6_number 33 = .ok (.iload_n 1, 1) := by decide +kernel
theorem dX6_number_34 : decode cX6_number 34 = .ok (.iconst 0, 1) := by decide +kernel
theorem dX6_number_35 : decode cX6_number 35 = .ok (.invokestatic 36, 3) := by decide +kernel
theorem dX6_number_38 : decode cX6_number 38 = .ok (.imul, 1) := by decide +kernel
theorem dX6_number_39 : decode cX6_number 39 = .ok (.aload_n 0, 1) := by decide +kernel
theorem dX6_number_40 : decode cX6_number 40 = .ok (.invokevirtual 32, 3) := by decide +kernel
theorem dX6_number_43 : decode cX6_number 43 = .ok (.iadd, 1) := by decide +kernel
theorem dX6_number_44 : decode cX6_number 44 = .ok (.bipush 48, 2) := by decide +kernel
theorem dX6_number_46 : decode cX6_number 46 = .ok (.isub, 1) := by decide +kernel
theorem dX6_number_47 : decode cX6_number 47 = .ok (.istore_n 1, 1) := by decide +kernel
theorem dX6_number_48 : decode cX6_number 48 = .ok (.aload_n 0, 1) := by decide +kernel
theorem dX6_number_49 : decode cX6_number 49 = .ok (.dup, 1) := by decide +kernel
theorem dX6_number_50 : decode cX6_number 50 = .ok (.getfield 25, 3) := by decide +kernel
theorem dX6_number_53 : decode cX6_number 53 = .ok (.iconst 1, 1) := by decide +kernel
theorem dX6_number_54 : decode cX6_number 54 = .ok (.iadd, 1) := by decide +kernel
theorem dX6_number_55 : decode cX6_number 55 = .ok (.putfield 25, 3) := by decide +kernel
theorem dX6_number_58 : decode cX6_number 58 = .ok (.iinc 2 1, 3) := by decide +kernel
theorem dX6_number_61 : decode cX6_number 61 = .ok (.goto (-57), 3) := by decide +kernel
theorem dX6_number_64 : decode cX6_number 64 = .ok (.iload_n 1, 1) := by decide +kernel
theorem dX6_number_65 : decode cX6_number 65 = .ok (.ireturn, 1) := by decide +kernel
theorem dX6_numberOf_0 : decode cX6_numberOf 0 = .ok (.aload_n 0, 1) := by decide +kernel
theorem dX6_numberOf_1 : decode cX6_numberOf 1 = .ok (.getfield 25, 3) := by decide +kernel
theorem dX6_numberOf_4 : decode cX6_numberOf 4 = .ok (.istore_n 3, 1) := by decide +kernel
theorem dX6_numberOf_5 : decode cX6_numberOf 5 = .ok (.aload_n 0, 1) := by decide +kernel
theorem dX6_numberOf_6 : decode cX6_numberOf 6 = .ok (.invokevirtual 42, 3) := by decide +kernel
theorem dX6_numberOf_9 : decode cX6_numberOf 9 = .ok (.istore 4, 2) := by decide +kernel
theorem dX6_numberOf_11 : decode cX6_numberOf 11 = .ok (.iload 4, 2) := by decide +kernel
theorem dX6_numberOf_13 : decode cX6_numberOf 13 = .ok (.iload_n 1, 1) := by decide +kernel
theorem dX6_numberOf_14 : decode cX6_numberOf 14 = .ok (.if_icmp .lt 9, 3) := by decide +kernel
theorem dX6_numberOf_17 : decode cX6_numberOf 17 = .ok (.iload 4, 2) := by decide +kernel
theorem dX6_numberOf_19 : decode cX6_numberOf 19 = .ok (.iload_n 2, 1) := by decide +kernel
theorem dX6_numberOf_20 : decode cX6_numberOf 20 = .ok (.if_icmp .le 10, 3) := by decide +kernel
theorem dX6_numberOf_23 : decode cX6_numberOf 23 = .ok (.aload_n 0, 1) := by decide +kernel
theorem dX6_numberOf_24 : decode cX6_numberOf 24 = .ok (.iload_n 3, 1) := by decide +kernel
theorem dX6_numberOf_25 : decode cX6_numberOf 25 = .ok (.putfield 25, 3) := by decide +kernel
theorem dX6_numberOf_28 : decode cX6_numberOf 28 = .ok (.iconst (-1), 1) := by decide +kernel
theorem dX6_numberOf_29 : decode cX6_numberOf 29 = .ok (.ireturn, 1) := by decide +kernel
theorem dX6_numberOf_30 : decode cX6_numberOf 30 = .ok (.iload 4, 2) := by decide +kernel
theorem dX6_numberOf_32 : decode cX6_numberOf 32 = .ok (.ireturn, 1) := by decide +kernel
theorem dX6_readField_0 : decode cX6_readField 0 = .ok (.aload_n 0, 1) := by decide +kernel
theorem dX6_readField_1 : decode cX6_readField 1 = .ok (.invokevirtual 45, 3) := by decide +kernel
theorem dX6_readField_4 : decode cX6_readField 4 = .ok (.istore_n 2, 1) := by decide +kernel
theorem dX6_readField_5 : decode cX6_readField 5 = .ok (.iload_n 2, 1) := by decide +kernel
theorem dX6_readField_6 : decode cX6_readField 6 = .ok (.iconst (-1), 1) := by decide +kernel
theorem dX6_readField_7 : decode cX6_readField 7 = .ok (.if_icmp .eq 9, 3) := by decide +kernel
theorem dX6_readField_10 : decode cX6_readField 10 = .ok (.sipush (-1000), 3) := by decide +kernel
theorem dX6_readField_13 : decode cX6_readField 13 = .ok (.iload_n 2, 1) := by decide +kernel
theorem dX6_readField_14 : decode cX6_readField 14 = .ok (.isub, 1) := by decide +kernel
theorem dX6_readField_15 : decode cX6_readField 15 = .ok (.ireturn, 1) := by decide +kernel
theorem dX6_readField_16 : decode cX6_readField 16 = .ok (.iconst 0, 1) := by decide +kernel
theorem dX6_readField_17 : decode cX6_readField 17 = .ok (.istore_n 3, 1) := by decide +kernel
theorem dX6_readField_18 : decode cX6_readField 18 = .ok (.aload_n 0, 1) := by decide +kernel
theorem dX6_readField_19 : decode cX6_readField 19 = .ok (.iconst 0, 1) := by decide +kernel
theorem dX6_readField_20 : decode cX6_readField 20 = .ok (.putfield 25, 3) := by decide +kernel
theorem dX6_readField_23 : decode cX6_readField 23 = .ok (.iconst 0, 1) := by decide +kernel
theorem dX6_readField_24 : decode cX6_readField 24 = .ok (.istore 4, 2) := by decide +kernel
theorem dX6_readField_26 : decode cX6_readField 26 = .ok (.iload 4, 2) := by decide +kernel
theorem dX6_readField_28 : decode cX6_readField 28 = .ok (.bipush 64, 2) := by decide +kernel
theorem dX6_readField_30 : decode cX6_readField 30 = .ok (.if_icmp .ge 44, 3) := by decide +kernel
theorem dX6_readField_33 : decode cX6_readField 33 = .ok (.aload_n 0, 1) := by decide +kernel
theorem dX6_readField_34 : decode cX6_readField 34 = .ok (.getfield 25, 3) := by decide +kernel
theorem dX6_readField_37 : decode cX6_readField 37 = .ok (.aload_n 0, 1) := by decide +kernel
theorem dX6_readField_38 : decode cX6_readField 38 = .ok (.getfield 13, 3) := by decide +kernel
theorem dX6_readField_41 : decode cX6_readField 41 = .ok (.if_icmp .ge 33, 3) := by decide +kernel
theorem dX6_readField_44 : decode cX6_readField 44 = .ok (.aload_n 0, 1) := by decide +kernel
theorem dX6_readField_45 : decode cX6_readField 45 = .ok (.getfield 25, 3) := by decide +kernel
theorem dX6_readField_48 : decode cX6_readField 48 = .ok (.istore 5, 2) := by decide +kernel
theorem dX6_readField_50 : decode cX6_readField 50 = .ok (.aload_n 0, 1) := by decide +kernel
theorem dX6_readField_51 : decode cX6_readField 51 = .ok (.aload_n 1, 1) := by decide +kernel
theorem dX6_readField_52 : decode cX6_readField 52 = .ok (.invokevirtual 48, 3) := by decide +kernel
theorem dX6_readField_55 : decode cX6_readField 55 = .ok (.ifCond .ne 10, 3) := by decide +kernel
theorem dX6_readField_58 : decode cX6_readField 58 = .ok (.sipush (-2000), 3) := by decide +kernel
theorem dX6_readField_61 : decode cX6_readField 61 = .ok (.iload 5, 2) := by decide +kernel
theorem dX6_readField_63 : decode cX6_readField 63 = .ok (.isub, 1) := by decide +kernel
theorem dX6_readField_64 : decode cX6_readField 64 = .ok (.ireturn, 1) := by decide +kernel
theorem dX6_readField_65 : decode cX6_readField 65 = .ok (.iinc 3 1, 3) := by decide +kernel
theorem dX6_readField_68 : decode cX6_readField 68 = .ok (.iinc 4 1, 3) := by decide +kernel
theorem dX6_readField_71 : decode cX6_readField 71 = .ok (.goto (-45), 3) := by decide +kernel
theorem dX6_readField_74 : decode cX6_readField 74 = .ok (.iload_n 3, 1) := by decide +kernel
theorem dX6_readField_75 : decode cX6_readField 75 = .ok (.ireturn, 1) := by decide +kernel
theorem dX6_fieldFault_0 : decode cX6_fieldFault 0 = .ok (.aload_n 0, 1) := by decide +kernel
theorem dX6_fieldFault_1 : decode cX6_fieldFault 1 = .ok (.iconst 0, 1) := by decide +kernel
theorem dX6_fieldFault_2 : decode cX6_fieldFault 2 = .ok (.putfield 25, 3) := by decide +kernel
theorem dX6_fieldFault_5 : decode cX6_fieldFault 5 = .ok (.aload_n 0, 1) := by decide +kernel
theorem dX6_fieldFault_6 : decode cX6_fieldFault 6 = .ok (.getfield 13, 3) := by decide +kernel
theorem dX6_fieldFault_9 : decode cX6_fieldFault 9 = .ok (.ifCond .ne 5, 3) := by decide +kernel
theorem dX6_fieldFault_12 : decode cX6_fieldFault 12 = .ok (.iconst 0, 1) := by decide +kernel
theorem dX6_fieldFault_13 : decode cX6_fieldFault 13 = .ok (.ireturn, 1) := by decide +kernel
theorem dX6_fieldFault_14 : decode cX6_fieldFault 14 = .ok (.iconst 0, 1) := by decide +kernel
theorem dX6_fieldFault_15 : decode cX6_fieldFault 15 = .ok (.istore_n 1, 1) := by decide +kernel
theorem dX6_fieldFault_16 : decode cX6_fieldFault 16 = .ok (.iload_n 1, 1) := by decide +kernel
theorem dX6_fieldFault_17 : decode cX6_fieldFault 17 = .ok (.bipush 64, 2) := by decide +kernel
theorem dX6_fieldFault_19 : decode cX6_fieldFault 19 = .ok (.if_icmp .ge 32, 3) := by decide +kernel
theorem dX6_fieldFault_22 : decode cX6_fieldFault 22 = .ok (.aload_n 0, 1) := by decide +kernel
theorem dX6_fieldFault_23 : decode cX6_fieldFault 23 = .ok (.getfield 25, 3) := by decide +kernel
theorem dX6_fieldFault_26 : decode cX6_fieldFault 26 = .ok (.aload_n 0, 1) := by decide +kernel
theorem dX6_fieldFault_27 : decode cX6_fieldFault 27 = .ok (.getfield 13, 3) := by decide +kernel
theorem dX6_fieldFault_30 : decode cX6_fieldFault 30 = .ok (.if_icmp .ge 21, 3) := by decide +kernel
theorem dX6_fieldFault_33 : decode cX6_fieldFault 33 = .ok (.aload_n 0, 1) := by decide +kernel
theorem dX6_fieldFault_34 : decode cX6_fieldFault 34 = .ok (.invokevirtual 52, 3) := by decide +kernel
theorem dX6_fieldFault_37 : decode cX6_fieldFault 37 = .ok (.ifCond .ne 8, 3) := by decide +kernel
theorem dX6_fieldFault_40 : decode cX6_fieldFault 40 = .ok (.aload_n 0, 1) := by decide +kernel
theorem dX6_fieldFault_41 : decode cX6_fieldFault 41 = .ok (.getfield 25, 3) := by decide +kernel
theorem dX6_fieldFault_44 : decode cX6_fieldFault 44 = .ok (.ireturn, 1) := by decide +kernel
theorem dX6_fieldFault_45 : decode cX6_fieldFault 45 = .ok (.iinc 1 1, 3) := by decide +kernel
theorem dX6_fieldFault_48 : decode cX6_fieldFault 48 = .ok (.goto (-32), 3) := by decide +kernel
theorem dX6_fieldFault_51 : decode cX6_fieldFault 51 = .ok (.iconst (-1), 1) := by decide +kernel
theorem dX6_fieldFault_52 : decode cX6_fieldFault 52 = .ok (.ireturn, 1) := by decide +kernel
theorem dX6_passStatement_0 : decode cX6_passStatement 0 = .ok (.aload_n 0, 1) := by decide +kernel
theorem dX6_passStatement_1 : decode cX6_passStatement 1 = .ok (.invokevirtual 32, 3) := by decide +kernel
theorem dX6_passStatement_4 : decode cX6_passStatement 4 = .ok (.invokestatic 56, 3) := by decide +kernel
theorem dX6_passStatement_7 : decode cX6_passStatement 7 = .ok (.istore_n 1, 1) := by decide +kernel
theorem dX6_passStatement_8 : decode cX6_passStatement 8 = .ok (.iload_n 1, 1) := by decide +kernel
theorem dX6_passStatement_9 : decode cX6_passStatement 9 = .ok (.ifCond .ne 5, 3) := by decide +kernel
theorem dX6_passStatement_12 : decode cX6_passStatement 12 = .ok (.iconst 0, 1) := by decide +kernel
theorem dX6_passStatement_13 : decode cX6_passStatement 13 = .ok (.ireturn, 1) := by decide +kernel
theorem dX6_passStatement_14 : decode cX6_passStatement 14 = .ok (.aload_n 0, 1) := by decide +kernel
theorem dX6_passStatement_15 : decode cX6_passStatement 15 = .ok (.dup, 1) := by decide +kernel
theorem dX6_passStatement_16 : decode cX6_passStatement 16 = .ok (.getfield 25, 3) := by decide +kernel
theorem dX6_passStatement_19 : decode cX6_passStatement 19 = .ok (.iconst 1, 1) := by decide +kernel
theorem dX6_passStatement_20 : decode cX6_passStatement 20 = .ok (.iadd, 1) := by decide +kernel
theorem dX6_passStatement_21 : decode cX6_passStatement 21 = .ok (.putfield 25, 3) := by decide +kernel
theorem dX6_passStatement_24 : decode cX6_passStatement 24 = .ok (.iload_n 1, 1) := by decide +kernel
theorem dX6_passStatement_25 : decode cX6_passStatement 25 = .ok (.iconst 2, 1) := by decide +kernel
theorem dX6_passStatement_26 : decode cX6_passStatement 26 = .ok (.if_icmp .ne 21, 3) := by decide +kernel
theorem dX6_passStatement_29 : decode cX6_passStatement 29 = .ok (.aload_n 0, 1) := by decide +kernel
theorem dX6_passStatement_30 : decode cX6_passStatement 30 = .ok (.invokevirtual 42, 3) := by decide +kernel
theorem dX6_passStatement_33 : decode cX6_passStatement 33 = .ok (.ifCond .lt 12, 3) := by decide +kernel
theorem dX6_passStatement_36 : decode cX6_passStatement 36 = .ok (.aload_n 0, 1) := by decide +kernel
theorem dX6_passStatement_37 : decode cX6_passStatement 37 = .ok (.bipush 44, 2) := by decide +kernel
theorem dX6_passStatement_39 : decode cX6_passStatement 39 = .ok (.invokevirtual 60, 3) := by decide +kernel
theorem dX6_passStatement_42 : decode cX6_passStatement 42 = .ok (.ifCond .ne 5, 3) := by decide +kernel
theorem dX6_passStatement_45 : decode cX6_passStatement 45 = .ok (.iconst 0, 1) := by decide +kernel
theorem dX6_passStatement_46 : decode cX6_passStatement 46 = .ok (.ireturn, 1) := by decide +kernel
theorem dX6_passStatement_47 : decode cX6_passStatement 47 = .ok (.aload_n 0, 1) := by decide +kernel
theorem dX6_passStatement_48 : decode cX6_passStatement 48 = .ok (.invokevirtual 42, 3) := by decide +kernel
theorem dX6_passStatement_51 : decode cX6_passStatement 51 = .ok (.ifCond .lt 16, 3) := by decide +kernel
theorem dX6_passStatement_54 : decode cX6_passStatement 54 = .ok (.aload_n 0, 1) := by decide +kernel
theorem dX6_passStatement_55 : decode cX6_passStatement 55 = .ok (.bipush 59, 2) := by decide +kernel
theorem dX6_passStatement_57 : decode cX6_passStatement 57 = .ok (.invokevirtual 60, 3) := by decide +kernel
theorem dX6_passStatement_60 : decode cX6_passStatement 60 = .ok (.ifCond .eq 7, 3) := by decide +kernel
theorem dX6_passStatement_63 : decode cX6_passStatement 63 = .ok (.iconst 1, 1) := by decide +kernel
theorem dX6_passStatement_64 : decode cX6_passStatement 64 = .ok (.goto 4, 3) := by decide +kernel
theorem dX6_passStatement_67 : decode cX6_passStatement 67 = .ok (.iconst 0, 1) := by decide +kernel
theorem dX6_passStatement_68 : decode cX6_passStatement 68 = .ok (.ireturn, 1) := by decide +kernel
theorem dX6_numbersBehind_0 : decode cX6_numbersBehind 0 = .ok (.iload_n 0, 1) := by decide +kernel
theorem dX6_numbersBehind_1 : decode cX6_numbersBehind 1 = .ok (.tableswitch 95 101 119 #[93, 95, 91, 95, 95, 95, 95, 95, 93, 95, 91, 93, 95, 95, 93, 95, 95, 95, 93], 91) := by decide +kernel
theorem dX6_numbersBehind_92 : decode cX6_numbersBehind 92 = .ok (.iconst 1, 1) := by decide +kernel
theorem dX6_numbersBehind_93 : decode cX6_numbersBehind 93 = .ok (.ireturn, 1) := by decide +kernel
theorem dX6_numbersBehind_94 : decode cX6_numbersBehind 94 = .ok (.iconst 2, 1) := by decide +kernel
theorem dX6_numbersBehind_95 : decode cX6_numbersBehind 95 = .ok (.ireturn, 1) := by decide +kernel
theorem dX6_numbersBehind_96 : decode cX6_numbersBehind 96 = .ok (.iconst 0, 1) := by decide +kernel
theorem dX6_numbersBehind_97 : decode cX6_numbersBehind 97 = .ok (.ireturn, 1) := by decide +kernel
theorem dX6_readStatement_0 : decode cX6_readStatement 0 = .ok (.aload_n 0, 1) := by decide +kernel
theorem dX6_readStatement_1 : decode cX6_readStatement 1 = .ok (.invokevirtual 32, 3) := by decide +kernel
theorem dX6_readStatement_4 : decode cX6_readStatement 4 = .ok (.istore_n 2, 1) := by decide +kernel
theorem dX6_readStatement_5 : decode cX6_readStatement 5 = .ok (.aload_n 0, 1) := by decide +kernel
theorem dX6_readStatement_6 : decode cX6_readStatement 6 = .ok (.dup, 1) := by decide +kernel
theorem dX6_readStatement_7 : decode cX6_readStatement 7 = .ok (.getfield 25, 3) := by decide +kernel
theorem dX6_readStatement_10 : decode cX6_readStatement 10 = .ok (.iconst 1, 1) := by decide +kernel
theorem dX6_readStatement_11 : decode cX6_readStatement 11 = .ok (.iadd, 1) := by decide +kernel
theorem dX6_readStatement_12 : decode cX6_readStatement 12 = .ok (.putfield 25, 3) := by decide +kernel
theorem dX6_readStatement_15 : decode cX6_readStatement 15 = .ok (.aload_n 0, 1) := by decide +kernel
theorem dX6_readStatement_16 : decode cX6_readStatement 16 = .ok (.invokevirtual 42, 3) := by decide +kernel
theorem dX6_readStatement_19 : decode cX6_readStatement 19 = .ok (.istore_n 3, 1) := by decide +kernel
theorem dX6_readStatement_20 : decode cX6_readStatement 20 = .ok (.iconst 0, 1) := by decide +kernel
theorem dX6_readStatement_21 : decode cX6_readStatement 21 = .ok (.istore 4, 2) := by decide +kernel
theorem dX6_readStatement_23 : decode cX6_readStatement 23 = .ok (.aload_n 0, 1) := by decide +kernel
theorem dX6_readStatement_24 : decode cX6_readStatement 24 = .ok (.bipush 44, 2) := by decide +kernel
theorem dX6_readStatement_26 : decode cX6_readStatement 26 = .ok (.invokevirtual 60, 3) := by decide +kernel
theorem dX6_readStatement_29 : decode cX6_readStatement 29 = .ok (.ifCond .eq 9, 3) := by decide +kernel
theorem dX6_readStatement_32 : decode cX6_readStatement 32 = .ok (.aload_n 0, 1) := by decide +kernel
theorem dX6_readStatement_33 : decode cX6_readStatement 33 = .ok (.invokevirtual 42, 3) := by decide +kernel
theorem dX6_readStatement_36 : decode cX6_readStatement 36 = .ok (.istore 4, 2) := by decide +kernel
theorem dX6_readStatement_38 : decode cX6_readStatement 38 = .ok (.aload_n 0, 1) := by decide +kernel
theorem dX6_readStatement_39 : decode cX6_readStatement 39 = .ok (.dup, 1) := by decide +kernel
theorem dX6_readStatement_40 : decode cX6_readStatement 40 = .ok (.getfield 25, 3) := by decide +kernel
theorem dX6_readStatement_43 : decode cX6_readStatement 43 = .ok (.iconst 1, 1) := by decide +kernel
theorem dX6_readStatement_44 : decode cX6_readStatement 44 = .ok (.iadd, 1) := by decide +kernel
theorem dX6_readStatement_45 : decode cX6_readStatement 45 = .ok (.putfield 25, 3) := by decide +kernel
theorem dX6_readStatement_48 : decode cX6_readStatement 48 = .ok (.aload_n 1, 1) := by decide +kernel
theorem dX6_readStatement_49 : decode cX6_readStatement 49 = .ok (.ifnull 18, 3) := by decide +kernel
theorem dX6_readStatement_52 : decode cX6_readStatement 52 = .ok (.aload_n 1, 1) := by decide +kernel
theorem dX6_readStatement_53 : decode cX6_readStatement 53 = .ok (.iload_n 2, 1) := by decide +kernel
theorem dX6_readStatement_54 : decode cX6_readStatement 54 = .ok (.iload_n 3, 1) := by decide +kernel
theorem dX6_readStatement_55 : decode cX6_readStatement 55 = .ok (.iload 4, 2) := by decide +kernel
theorem dX6_readStatement_57 : decode cX6_readStatement 57 = .ok (.invokestatic 64, 3) := by decide +kernel
theorem dX6_readStatement_60 : decode cX6_readStatement 60 = .ok (.ifCond .eq 7, 3) := by decide +kernel
theorem dX6_readStatement_63 : decode cX6_readStatement 63 = .ok (.iconst 1, 1) := by decide +kernel
theorem dX6_readStatement_64 : decode cX6_readStatement 64 = .ok (.goto 4, 3) := by decide +kernel
theorem dX6_readStatement_67 : decode cX6_readStatement 67 = .ok (.iconst 0, 1) := by decide +kernel
theorem dX6_readStatement_68 : decode cX6_readStatement 68 = .ok (.ireturn, 1) := by decide +kernel
theorem dX6_tell_0 : decode cX6_tell 0 = .ok (.iload_n 1, 1) := by decide +kernel
theorem dX6_tell_1 : decode cX6_tell 1 = .ok (.tableswitch 136 101 119 #[127, 136, 91, 136, 136, 136, 136, 136, 119, 136, 98, 105, 136, 136, 136, 136, 136, 136, 112], 91) := by decide +kernel
theorem dX6_tell_92 : decode cX6_tell 92 = .ok (.aload_n 0, 1) := by decide +kernel
theorem dX6_tell_93 : decode cX6_tell 93 = .ok (.iconst 0, 1) := by decide +kernel
theorem dX6_tell_94 : decode cX6_tell 94 = .ok (.iload_n 2, 1) := by decide +kernel
theorem dX6_tell_95 : decode cX6_tell 95 = .ok (.invokevirtual 70, 3) := by decide +kernel
theorem dX6_tell_98 : decode cX6_tell 98 = .ok (.ireturn, 1) := by decide +kernel
theorem dX6_tell_99 : decode cX6_tell 99 = .ok (.aload_n 0, 1) := by decide +kernel
theorem dX6_tell_100 : decode cX6_tell 100 = .ok (.iconst 1, 1) := by decide +kernel
theorem dX6_tell_101 : decode cX6_tell 101 = .ok (.iload_n 2, 1) := by decide +kernel
theorem dX6_tell_102 : decode cX6_tell 102 = .ok (.invokevirtual 70, 3) := by decide +kernel
theorem dX6_tell_105 : decode cX6_tell 105 = .ok (.ireturn, 1) := by decide +kernel
theorem dX6_tell_106 : decode cX6_tell 106 = .ok (.aload_n 0, 1) := by decide +kernel
theorem dX6_tell_107 : decode cX6_tell 107 = .ok (.iload_n 2, 1) := by decide +kernel
theorem dX6_tell_108 : decode cX6_tell 108 = .ok (.iload_n 3, 1) := by decide +kernel
theorem dX6_tell_109 : decode cX6_tell 109 = .ok (.invokevirtual 74, 3) := by decide +kernel
theorem dX6_tell_112 : decode cX6_tell 112 = .ok (.ireturn, 1) := by decide +kernel
theorem dX6_tell_113 : decode cX6_tell 113 = .ok (.aload_n 0, 1) := by decide +kernel
theorem dX6_tell_114 : decode cX6_tell 114 = .ok (.iload_n 2, 1) := by decide +kernel
theorem dX6_tell_115 : decode cX6_tell 115 = .ok (.iload_n 3, 1) := by decide +kernel
theorem dX6_tell_116 : decode cX6_tell 116 = .ok (.invokevirtual 77, 3) := by decide +kernel
theorem dX6_tell_119 : decode cX6_tell 119 = .ok (.ireturn, 1) := by decide +kernel
theorem dX6_tell_120 : decode cX6_tell 120 = .ok (.aload_n 0, 1) := by decide +kernel
theorem dX6_tell_121 : decode cX6_tell 121 = .ok (.iconst 4, 1) := by decide +kernel
theorem dX6_tell_122 : decode cX6_tell 122 = .ok (.iload_n 2, 1) := by decide +kernel
theorem dX6_tell_123 : decode cX6_tell 123 = .ok (.iload_n 3, 1) := by decide +kernel
theorem dX6_tell_124 : decode cX6_tell 124 = .ok (.invokevirtual 80, 3) := by decide +kernel
theorem dX6_tell_127 : decode cX6_tell 127 = .ok (.ireturn, 1) := by decide +kernel
theorem dX6_tell_128 : decode cX6_tell 128 = .ok (.aload_n 0, 1) := by decide +kernel
theorem dX6_tell_129 : decode cX6_tell 129 = .ok (.bipush 6, 2) := by decide +kernel
theorem dX6_tell_131 : decode cX6_tell 131 = .ok (.iload_n 2, 1) := by decide +kernel
theorem dX6_tell_132 : decode cX6_tell 132 = .ok (.iload_n 3, 1) := by decide +kernel
theorem dX6_tell_133 : decode cX6_tell 133 = .ok (.invokevirtual 80, 3) := by decide +kernel
theorem dX6_tell_136 : decode cX6_tell 136 = .ok (.ireturn, 1) := by decide +kernel
theorem dX6_tell_137 : decode cX6_tell 137 = .ok (.aload_n 0, 1) := by decide +kernel
theorem dX6_tell_138 : decode cX6_tell 138 = .ok (.iconst 2, 1) := by decide +kernel
theorem dX6_tell_139 : decode cX6_tell 139 = .ok (.iload_n 2, 1) := by decide +kernel
theorem dX6_tell_140 : decode cX6_tell 140 = .ok (.iload_n 3, 1) := by decide +kernel
theorem dX6_tell_141 : decode cX6_tell 141 = .ok (.invokevirtual 80, 3) := by decide +kernel
theorem dX6_tell_144 : decode cX6_tell 144 = .ok (.ireturn, 1) := by decide +kernel
theorem dX6_readTerm_0 : decode cX6_readTerm 0 = .ok (.aload_n 0, 1) := by decide +kernel
theorem dX6_readTerm_1 : decode cX6_readTerm 1 = .ok (.iconst 0, 1) := by decide +kernel
theorem dX6_readTerm_2 : decode cX6_readTerm 2 = .ok (.putfield 25, 3) := by decide +kernel
theorem dX6_readTerm_5 : decode cX6_readTerm 5 = .ok (.aload_n 0, 1) := by decide +kernel
theorem dX6_readTerm_6 : decode cX6_readTerm 6 = .ok (.invokevirtual 32, 3) := by decide +kernel
theorem dX6_readTerm_9 : decode cX6_readTerm 9 = .ok (.invokestatic 84, 3) := by decide +kernel
theorem dX6_readTerm_12 : decode cX6_readTerm 12 = .ok (.istore_n 2, 1) := by decide +kernel
theorem dX6_readTerm_13 : decode cX6_readTerm 13 = .ok (.iload_n 2, 1) := by decide +kernel
theorem dX6_readTerm_14 : decode cX6_readTerm 14 = .ok (.ifCond .lt 7, 3) := by decide +kernel
theorem dX6_readTerm_17 : decode cX6_readTerm 17 = .ok (.aload_n 1, 1) := by decide +kernel
theorem dX6_readTerm_18 : decode cX6_readTerm 18 = .ok (.ifnonnull 5, 3) := by decide +kernel
theorem dX6_readTerm_21 : decode cX6_readTerm 21 = .ok (.iconst 0, 1) := by decide +kernel
theorem dX6_readTerm_22 : decode cX6_readTerm 22 = .ok (.ireturn, 1) := by decide +kernel
theorem dX6_readTerm_23 : decode cX6_readTerm 23 = .ok (.aload_n 0, 1) := by decide +kernel
theorem dX6_readTerm_24 : decode cX6_readTerm 24 = .ok (.dup, 1) := by decide +kernel
theorem dX6_readTerm_25 : decode cX6_readTerm 25 = .ok (.getfield 25, 3) := by decide +kernel
theorem dX6_readTerm_28 : decode cX6_readTerm 28 = .ok (.iconst 1, 1) := by decide +kernel
theorem dX6_readTerm_29 : decode cX6_readTerm 29 = .ok (.iadd, 1) := by decide +kernel
theorem dX6_readTerm_30 : decode cX6_readTerm 30 = .ok (.putfield 25, 3) := by decide +kernel
theorem dX6_readTerm_33 : decode cX6_readTerm 33 = .ok (.iload_n 2, 1) := by decide +kernel
theorem dX6_readTerm_34 : decode cX6_readTerm 34 = .ok (.ifCond .eq 13, 3) := by decide +kernel
theorem dX6_readTerm_37 : decode cX6_readTerm 37 = .ok (.iload_n 2, 1) := by decide +kernel
theorem dX6_readTerm_38 : decode cX6_readTerm 38 = .ok (.iconst 3, 1) := by decide +kernel
theorem dX6_readTerm_39 : decode cX6_readTerm 39 = .ok (.if_icmp .eq 8, 3) := by decide +kernel
theorem dX6_readTerm_42 : decode cX6_readTerm 42 = .ok (.iload_n 2, 1) := by decide +kernel
theorem dX6_readTerm_43 : decode cX6_readTerm 43 = .ok (.iconst 4, 1) := by decide +kernel
theorem dX6_readTerm_44 : decode cX6_readTerm 44 = .ok (.if_icmp .ne 7, 3) := by decide +kernel
theorem dX6_readTerm_47 : decode cX6_readTerm 47 = .ok (.iconst 1, 1) := by decide +kernel
theorem dX6_readTerm_48 : decode cX6_readTerm 48 = .ok (.goto 4, 3) := by decide +kernel
theorem dX6_readTerm_51 : decode cX6_readTerm 51 = .ok (.iconst 0, 1) := by decide +kernel
theorem dX6_readTerm_52 : decode cX6_readTerm 52 = .ok (.istore_n 3, 1) := by decide +kernel
theorem dX6_readTerm_53 : decode cX6_readTerm 53 = .ok (.aload_n 0, 1) := by decide +kernel
theorem dX6_readTerm_54 : decode cX6_readTerm 54 = .ok (.iload_n 3, 1) := by decide +kernel
theorem dX6_readTerm_55 : decode cX6_readTerm 55 = .ok (.ifCond .eq 7, 3) := by decide +kernel
theorem dX6_readTerm_58 : decode cX6_readTerm 58 = .ok (.iconst 1, 1) := by decide +kernel
theorem dX6_readTerm_59 : decode cX6_readTerm 59 = .ok (.goto 4, 3) := by decide +kernel
theorem dX6_readTerm_62 : decode cX6_readTerm 62 = .ok (.iconst 0, 1) := by decide +kernel
theorem dX6_readTerm_63 : decode cX6_readTerm 63 = .ok (.bipush 99, 2) := by decide +kernel
theorem dX6_readTerm_65 : decode cX6_readTerm 65 = .ok (.invokevirtual 89, 3) := by decide +kernel
theorem dX6_readTerm_68 : decode cX6_readTerm 68 = .ok (.istore 4, 2) := by decide +kernel
theorem dX6_readTerm_70 : decode cX6_readTerm 70 = .ok (.iload 4, 2) := by decide +kernel
theorem dX6_readTerm_72 : decode cX6_readTerm 72 = .ok (.ifCond .ge 8, 3) := by decide +kernel
theorem dX6_readTerm_75 : decode cX6_readTerm 75 = .ok (.aload_n 0, 1) := by decide +kernel
theorem dX6_readTerm_76 : decode cX6_readTerm 76 = .ok (.getfield 25, 3) := by decide +kernel
theorem dX6_readTerm_79 : decode cX6_readTerm 79 = .ok (.ireturn, 1) := by decide +kernel
theorem dX6_readTerm_80 : decode cX6_readTerm 80 = .ok (.iconst 0, 1) := by decide +kernel
theorem dX6_readTerm_81 : decode cX6_readTerm 81 = .ok (.istore 5, 2) := by decide +kernel
theorem dX6_readTerm_83 : decode cX6_readTerm 83 = .ok (.iload_n 3, 1) := by decide +kernel
theorem dX6_readTerm_84 : decode cX6_readTerm 84 = .ok (.ifCond .eq 26, 3) := by decide +kernel
theorem dX6_readTerm_87 : decode cX6_readTerm 87 = .ok (.aload_n 0, 1) := by decide +kernel
theorem dX6_readTerm_88 : decode cX6_readTerm 88 = .ok (.bipush 47, 2) := by decide +kernel
theorem dX6_readTerm_90 : decode cX6_readTerm 90 = .ok (.invokevirtual 60, 3) := by decide +kernel
theorem dX6_readTerm_93 : decode cX6_readTerm 93 = .ok (.ifCond .eq 14, 3) := by decide +kernel
theorem dX6_readTerm_96 : decode cX6_readTerm 96 = .ok (.aload_n 0, 1) := by decide +kernel
theorem dX6_readTerm_97 : decode cX6_readTerm 97 = .ok (.iload 4, 2) := by decide +kernel
theorem dX6_readTerm_99 : decode cX6_readTerm 99 = .ok (.bipush 99, 2) := by decide +kernel
theorem dX6_readTerm_101 : decode cX6_readTerm 101 = .ok (.invokevirtual 89, 3) := by decide +kernel
theorem dX6_readTerm_104 : decode cX6_readTerm 104 = .ok (.goto 4, 3) := by decide +kernel
theorem dX6_readTerm_107 : decode cX6_readTerm 107 = .ok (.iconst (-1), 1) := by decide +kernel
theorem dX6_readTerm_108 : decode cX6_readTerm 108 = .ok (.istore 5, 2) := by decide +kernel
theorem dX6_readTerm_110 : decode cX6_readTerm 110 = .ok (.iload 5, 2) := by decide +kernel
theorem dX6_readTerm_112 : decode cX6_readTerm 112 = .ok (.ifCond .ge 8, 3) := by decide +kernel
theorem dX6_readTerm_115 : decode cX6_readTerm 115 = .ok (.aload_n 0, 1) := by decide +kernel
theorem dX6_readTerm_116 : decode cX6_readTerm 116 = .ok (.getfield 25, 3) := by decide +kernel
theorem dX6_readTerm_119 : decode cX6_readTerm 119 = .ok (.ireturn, 1) := by decide +kernel
theorem dX6_readTerm_120 : decode cX6_readTerm 120 = .ok (.iconst 0, 1) := by decide +kernel
theorem dX6_readTerm_121 : decode cX6_readTerm 121 = .ok (.istore 6, 2) := by decide +kernel
theorem dX6_readTerm_123 : decode cX6_readTerm 123 = .ok (.iload_n 2, 1) := by decide +kernel
theorem dX6_readTerm_124 : decode cX6_readTerm 124 = .ok (.iconst 3, 1) := by decide +kernel
theorem dX6_readTerm_125 : decode cX6_readTerm 125 = .ok (.if_icmp .lt 25, 3) := by decide +kernel
theorem dX6_readTerm_128 : decode cX6_readTerm 128 = .ok (.aload_n 0, 1) := by decide +kernel
theorem dX6_readTerm_129 : decode cX6_readTerm 129 = .ok (.bipush 43, 2) := by decide +kernel
theorem dX6_readTerm_131 : decode cX6_readTerm 131 = .ok (.invokevirtual 60, 3) := by decide +kernel
theorem dX6_readTerm_134 : decode cX6_readTerm 134 = .ok (.ifCond .eq 13, 3) := by decide +kernel
theorem dX6_readTerm_137 : decode cX6_readTerm 137 = .ok (.aload_n 0, 1) := by decide +kernel
theorem dX6_readTerm_138 : decode cX6_readTerm 138 = .ok (.iconst 0, 1) := by decide +kernel
theorem dX6_readTerm_139 : decode cX6_readTerm 139 = .ok (.bipush 99, 2) := by decide +kernel
theorem dX6_readTerm_141 : decode cX6_readTerm 141 = .ok (.invokevirtual 89, 3) := by decide +kernel
theorem dX6_readTerm_144 : decode cX6_readTerm 144 = .ok (.goto 4, 3) := by decide +kernel
theorem dX6_readTerm_147 : decode cX6_readTerm 147 = .ok (.iconst (-1), 1) := by decide +kernel
theorem dX6_readTerm_148 : decode cX6_readTerm 148 = .ok (.istore 6, 2) := by decide +kernel
theorem dX6_readTerm_150 : decode cX6_readTerm 150 = .ok (.iload 6, 2) := by decide +kernel
theorem dX6_readTerm_152 : decode cX6_readTerm 152 = .ok (.ifCond .lt 14, 3) := by decide +kernel
theorem dX6_readTerm_155 : decode cX6_readTerm 155 = .ok (.aload_n 0, 1) := by decide +kernel
theorem dX6_readTerm_156 : decode cX6_readTerm 156 = .ok (.getfield 25, 3) := by decide +kernel
theorem dX6_readTerm_159 : decode cX6_readTerm 159 = .ok (.aload_n 0, 1) := by decide +kernel
theorem dX6_readTerm_160 : decode cX6_readTerm 160 = .ok (.getfield 13, 3) := by decide +kernel
theorem dX6_readTerm_163 : decode cX6_readTerm 163 = .ok (.if_icmp .ge 8, 3) := by decide +kernel
theorem dX6_readTerm_166 : decode cX6_readTerm 166 = .ok (.aload_n 0, 1) := by decide +kernel
theorem dX6_readTerm_167 : decode cX6_readTerm 167 = .ok (.getfield 25, 3) := by decide +kernel
theorem dX6_readTerm_170 : decode cX6_readTerm 170 = .ok (.ireturn, 1) := by decide +kernel
theorem dX6_readTerm_171 : decode cX6_readTerm 171 = .ok (.aload_n 1, 1) := by decide +kernel
theorem dX6_readTerm_172 : decode cX6_readTerm 172 = .ok (.iload_n 2, 1) := by decide +kernel
theorem dX6_readTerm_173 : decode cX6_readTerm 173 = .ok (.iload 4, 2) := by decide +kernel
theorem dX6_readTerm_175 : decode cX6_readTerm 175 = .ok (.iload 5, 2) := by decide +kernel
theorem dX6_readTerm_177 : decode cX6_readTerm 177 = .ok (.iload 6, 2) := by decide +kernel
theorem dX6_readTerm_179 : decode cX6_readTerm 179 = .ok (.invokevirtual 92, 3) := by decide +kernel
theorem dX6_readTerm_182 : decode cX6_readTerm 182 = .ok (.iconst (-1), 1) := by decide +kernel
theorem dX6_readTerm_183 : decode cX6_readTerm 183 = .ok (.ireturn, 1) := by decide +kernel
theorem dX6_kindOf_0 : decode cX6_kindOf 0 = .ok (.iload_n 0, 1) := by decide +kernel
theorem dX6_kindOf_1 : decode cX6_kindOf 1 = .ok (.tableswitch 107 102 121 #[97, 107, 107, 107, 107, 107, 107, 107, 107, 107, 95, 107, 107, 107, 105, 107, 107, 99, 101, 103], 95) := by decide +kernel
theorem dX6_kindOf_96 : decode cX6_kindOf 96 = .ok (.iconst 0, 1) := by decide +kernel
theorem dX6_kindOf_97 : decode cX6_kindOf 97 = .ok (.ireturn, 1) := by decide +kernel
theorem dX6_kindOf_98 : decode cX6_kindOf 98 = .ok (.iconst 1, 1) := by decide +kernel
theorem dX6_kindOf_99 : decode cX6_kindOf 99 = .ok (.ireturn, 1) := by decide +kernel
theorem dX6_kindOf_100 : decode cX6_kindOf 100 = .ok (.iconst 2, 1) := by decide +kernel
theorem dX6_kindOf_101 : decode cX6_kindOf 101 = .ok (.ireturn, 1) := by decide +kernel
theorem dX6_kindOf_102 : decode cX6_kindOf 102 = .ok (.iconst 3, 1) := by decide +kernel
theorem dX6_kindOf_103 : decode cX6_kindOf 103 = .ok (.ireturn, 1) := by decide +kernel
theorem dX6_kindOf_104 : decode cX6_kindOf 104 = .ok (.iconst 4, 1) := by decide +kernel
theorem dX6_kindOf_105 : decode cX6_kindOf 105 = .ok (.ireturn, 1) := by decide +kernel
theorem dX6_kindOf_106 : decode cX6_kindOf 106 = .ok (.iconst 5, 1) := by decide +kernel
theorem dX6_kindOf_107 : decode cX6_kindOf 107 = .ok (.ireturn, 1) := by decide +kernel
theorem dX6_kindOf_108 : decode cX6_kindOf 108 = .ok (.iconst (-1), 1) := by decide +kernel
theorem dX6_kindOf_109 : decode cX6_kindOf 109 = .ok (.ireturn, 1) := by decide +kernel
