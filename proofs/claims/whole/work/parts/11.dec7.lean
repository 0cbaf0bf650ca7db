theorem dX7_init_0 : decode cX7_init 0 = .ok (.aload_n 0, 1) := by decide +kernel
theorem dX7_init_1 : decode cX7_init 1 = .ok (.invokespecial 1, 3) := by decide +kernel
theorem dX7_init_4 : decode cX7_init 4 = .ok (.aload_n 0, 1) := by decide +kernel
theorem dX7_init_5 : decode cX7_init 5 = .ok (.new 7, 3) := by decide +kernel
theorem dX7_init_8 : decode cX7_init 8 = .ok (.dup, 1) := by decide +kernel
theorem dX7_init_9 : decode cX7_init 9 = .ok (.invokespecial 9, 3) := by decide +kernel
theorem dX7_init_12 : decode cX7_init 12 = .ok (.putfield 10, 3) := by decide +kernel
theorem dX7_init_15 : decode cX7_init 15 = .ok (.aload_n 0, 1) := by decide +kernel
theorem dX7_init_16 : decode cX7_init 16 = .ok (.new 7, 3) := by decide +kernel
theorem dX7_init_19 : decode cX7_init 19 = .ok (.dup, 1) := by decide +kernel
theorem dX7_init_20 : decode cX7_init 20 = .ok (.invokespecial 9, 3) := by decide +kernel
theorem dX7_init_23 : decode cX7_init 23 = .ok (.putfield 16, 3) := by decide +kernel
theorem dX7_init_26 : decode cX7_init 26 = .ok (.aload_n 0, 1) := by decide +kernel
theorem dX7_init_27 : decode cX7_init 27 = .ok (.new 7, 3) := by decide +kernel
theorem dX7_init_30 : decode cX7_init 30 = .ok (.dup, 1) := by decide +kernel
theorem dX7_init_31 : decode cX7_init 31 = .ok (.invokespecial 9, 3) := by decide +kernel
theorem dX7_init_34 : decode cX7_init 34 = .ok (.putfield 19, 3) := by decide +kernel
theorem dX7_init_37 : decode cX7_init 37 = .ok (.aload_n 0, 1) := by decide +kernel
theorem dX7_init_38 : decode cX7_init 38 = .ok (.new 22, 3) := by decide +kernel
theorem dX7_init_41 : decode cX7_init 41 = .ok (.dup, 1) := by decide +kernel
theorem dX7_init_42 : decode cX7_init 42 = .ok (.invokespecial 24, 3) := by decide +kernel
theorem dX7_init_45 : decode cX7_init 45 = .ok (.putfield 25, 3) := by decide +kernel
theorem dX7_init_48 : decode cX7_init 48 = .ok (.aload_n 0, 1) := by decide +kernel
theorem dX7_init_49 : decode cX7_init 49 = .ok (.new 29, 3) := by decide +kernel
theorem dX7_init_52 : decode cX7_init 52 = .ok (.dup, 1) := by decide +kernel
theorem dX7_init_53 : decode cX7_init 53 = .ok (.aload_n 0, 1) := by decide +kernel
theorem dX7_init_54 : decode cX7_init 54 = .ok (.getfield 10, 3) := by decide +kernel
theorem dX7_init_57 : decode cX7_init 57 = .ok (.invokespecial 31, 3) := by decide +kernel
theorem dX7_init_60 : decode cX7_init 60 = .ok (.putfield 34, 3) := by decide +kernel
theorem dX7_init_63 : decode cX7_init 63 = .ok (.aload_n 0, 1) := by decide +kernel
theorem dX7_init_64 : decode cX7_init 64 = .ok (.new 38, 3) := by decide +kernel
theorem dX7_init_67 : decode cX7_init 67 = .ok (.dup, 1) := by decide +kernel
theorem dX7_init_68 : decode cX7_init 68 = .ok (.invokespecial 40, 3) := by decide +kernel
theorem dX7_init_71 : decode cX7_init 71 = .ok (.putfield 41, 3) := by decide +kernel
theorem dX7_init_74 : decode cX7_init 74 = .ok (.aload_n 0, 1) := by decide +kernel
theorem dX7_init_75 : decode cX7_init 75 = .ok (.new 45, 3) := by decide +kernel
theorem dX7_init_78 : decode cX7_init 78 = .ok (.dup, 1) := by decide +kernel
theorem dX7_init_79 : decode cX7_init 79 = .ok (.invokespecial 47, 3) := by decide +kernel
theorem dX7_init_82 : decode cX7_init 82 = .ok (.putfield 48, 3) := by decide +kernel
theorem dX7_init_85 : decode cX7_init 85 = .ok (.aload_n 0, 1) := by decide +kernel
theorem dX7_init_86 : decode cX7_init 86 = .ok (.new 52, 3) := by decide +kernel
theorem dX7_init_89 : decode cX7_init 89 = .ok (.dup, 1) := by decide +kernel
theorem dX7_init_90 : decode cX7_init 90 = .ok (.invokespecial 54, 3) := by decide +kernel
theorem dX7_init_93 : decode cX7_init 93 = .ok (.putfield 55, 3) := by decide +kernel
theorem dX7_init_96 : decode cX7_init 96 = .ok (.aload_n 0, 1) := by decide +kernel
theorem dX7_init_97 : decode cX7_init 97 = .ok (.bipush 16, 2) := by decide +kernel
theorem dX7_init_99 : decode cX7_init 99 = .ok (.newarray .int, 2) := by decide +kernel
theorem dX7_init_101 : decode cX7_init 101 = .ok (.putfield 59, 3) := by decide +kernel
theorem dX7_init_104 : decode cX7_init 104 = .ok (.aload_n 0, 1) := by decide +kernel
theorem dX7_init_105 : decode cX7_init 105 = .ok (.bipush 6, 2) := by decide +kernel
theorem dX7_init_107 : decode cX7_init 107 = .ok (.newarray .int, 2) := by decide +kernel
theorem dX7_init_109 : decode cX7_init 109 = .ok (.putfield 63, 3) := by decide +kernel
theorem dX7_init_112 : decode cX7_init 112 = .ok (.return_, 1) := by decide +kernel
theorem dX7_feed_0 : decode cX7_feed 0 = .ok (.iload_n 1, 1) := by decide +kernel
theorem dX7_feed_1 : decode cX7_feed 1 = .ok (.iconst 1, 1) := by decide +kernel
theorem dX7_feed_2 : decode cX7_feed 2 = .ok (.bipush 8, 2) := by decide +kernel
theorem dX7_feed_4 : decode cX7_feed 4 = .ok (.invokestatic 66, 3) := by decide +kernel
theorem dX7_feed_7 : decode cX7_feed 7 = .ok (.istore 4, 2) := by decide +kernel
theorem dX7_feed_9 : decode cX7_feed 9 = .ok (.iload 4, 2) := by decide +kernel
theorem dX7_feed_11 : decode cX7_feed 11 = .ok (.ifCond .ne 18, 3) := by decide +kernel
theorem dX7_feed_14 : decode cX7_feed 14 = .ok (.aload_n 0, 1) := by decide +kernel
theorem dX7_feed_15 : decode cX7_feed 15 = .ok (.getfield 25, 3) := by decide +kernel
theorem dX7_feed_18 : decode cX7_feed 18 = .ok (.iload_n 1, 1) := by decide +kernel
theorem dX7_feed_19 : decode cX7_feed 19 = .ok (.invokevirtual 70, 3) := by decide +kernel
theorem dX7_feed_22 : decode cX7_feed 22 = .ok (.ifCond .ne 7, 3) := by decide +kernel
theorem dX7_feed_25 : decode cX7_feed 25 = .ok (.bipush (-6), 2) := by decide +kernel
theorem dX7_feed_27 : decode cX7_feed 27 = .ok (.istore 4, 2) := by decide +kernel
theorem dX7_feed_29 : decode cX7_feed 29 = .ok (.iload 4, 2) := by decide +kernel
theorem dX7_feed_31 : decode cX7_feed 31 = .ok (.ifCond .eq 10, 3) := by decide +kernel
theorem dX7_feed_34 : decode cX7_feed 34 = .ok (.aload_n 0, 1) := by decide +kernel
theorem dX7_feed_35 : decode cX7_feed 35 = .ok (.iload 4, 2) := by decide +kernel
theorem dX7_feed_37 : decode cX7_feed 37 = .ok (.invokevirtual 74, 3) := by decide +kernel
theorem dX7_feed_40 : decode cX7_feed 40 = .ok (.ireturn, 1) := by decide +kernel
theorem dX7_feed_41 : decode cX7_feed 41 = .ok (.aload_n 0, 1) := by decide +kernel
theorem dX7_feed_42 : decode cX7_feed 42 = .ok (.getfield 25, 3) := by decide +kernel
theorem dX7_feed_45 : decode cX7_feed 45 = .ok (.iload_n 1, 1) := by decide +kernel
theorem dX7_feed_46 : decode cX7_feed 46 = .ok (.lload_n 2, 1) := by decide +kernel
theorem dX7_feed_47 : decode cX7_feed 47 = .ok (.invokevirtual 78, 3) := by decide +kernel
theorem dX7_feed_50 : decode cX7_feed 50 = .ok (.aload_n 0, 1) := by decide +kernel
theorem dX7_feed_51 : decode cX7_feed 51 = .ok (.getfield 25, 3) := by decide +kernel
theorem dX7_feed_54 : decode cX7_feed 54 = .ok (.getfield 82, 3) := by decide +kernel
theorem dX7_feed_57 : decode cX7_feed 57 = .ok (.ireturn, 1) := by decide +kernel
theorem dX7_field_0 : decode cX7_field 0 = .ok (.aload_n 0, 1) := by decide +kernel
theorem dX7_field_1 : decode cX7_field 1 = .ok (.getfield 19, 3) := by decide +kernel
theorem dX7_field_4 : decode cX7_field 4 = .ok (.aload_n 0, 1) := by decide +kernel
theorem dX7_field_5 : decode cX7_field 5 = .ok (.getfield 10, 3) := by decide +kernel
theorem dX7_field_8 : decode cX7_field 8 = .ok (.invokevirtual 86, 3) := by decide +kernel
theorem dX7_field_11 : decode cX7_field 11 = .ok (.aload_n 0, 1) := by decide +kernel
theorem dX7_field_12 : decode cX7_field 12 = .ok (.getfield 25, 3) := by decide +kernel
theorem dX7_field_15 : decode cX7_field 15 = .ok (.aload_n 0, 1) := by decide +kernel
theorem dX7_field_16 : decode cX7_field 16 = .ok (.getfield 19, 3) := by decide +kernel
theorem dX7_field_19 : decode cX7_field 19 = .ok (.invokevirtual 89, 3) := by decide +kernel
theorem dX7_field_22 : decode cX7_field 22 = .ok (.istore_n 1, 1) := by decide +kernel
theorem dX7_field_23 : decode cX7_field 23 = .ok (.iload_n 1, 1) := by decide +kernel
theorem dX7_field_24 : decode cX7_field 24 = .ok (.ifCond .lt 14, 3) := by decide +kernel
theorem dX7_field_27 : decode cX7_field 27 = .ok (.aload_n 0, 1) := by decide +kernel
theorem dX7_field_28 : decode cX7_field 28 = .ok (.getfield 10, 3) := by decide +kernel
theorem dX7_field_31 : decode cX7_field 31 = .ok (.aload_n 0, 1) := by decide +kernel
theorem dX7_field_32 : decode cX7_field 32 = .ok (.getfield 19, 3) := by decide +kernel
theorem dX7_field_35 : decode cX7_field 35 = .ok (.invokevirtual 86, 3) := by decide +kernel
theorem dX7_field_38 : decode cX7_field 38 = .ok (.aload_n 0, 1) := by decide +kernel
theorem dX7_field_39 : decode cX7_field 39 = .ok (.getfield 25, 3) := by decide +kernel
theorem dX7_field_42 : decode cX7_field 42 = .ok (.invokevirtual 93, 3) := by decide +kernel
theorem dX7_field_45 : decode cX7_field 45 = .ok (.iload_n 1, 1) := by decide +kernel
theorem dX7_field_46 : decode cX7_field 46 = .ok (.ireturn, 1) := by decide +kernel
theorem dX7_term_0 : decode cX7_term 0 = .ok (.aload_n 0, 1) := by decide +kernel
theorem dX7_term_1 : decode cX7_term 1 = .ok (.getfield 10, 3) := by decide +kernel
theorem dX7_term_4 : decode cX7_term 4 = .ok (.getfield 96, 3) := by decide +kernel
theorem dX7_term_7 : decode cX7_term 7 = .ok (.bipush 8, 2) := by decide +kernel
theorem dX7_term_9 : decode cX7_term 9 = .ok (.if_icmp .lt 10, 3) := by decide +kernel
theorem dX7_term_12 : decode cX7_term 12 = .ok (.aload_n 0, 1) := by decide +kernel
theorem dX7_term_13 : decode cX7_term 13 = .ok (.bipush (-6), 2) := by decide +kernel
theorem dX7_term_15 : decode cX7_term 15 = .ok (.invokevirtual 74, 3) := by decide +kernel
theorem dX7_term_18 : decode cX7_term 18 = .ok (.ireturn, 1) := by decide +kernel
theorem dX7_term_19 : decode cX7_term 19 = .ok (.aload_n 0, 1) := by decide +kernel
theorem dX7_term_20 : decode cX7_term 20 = .ok (.getfield 25, 3) := by decide +kernel
theorem dX7_term_23 : decode cX7_term 23 = .ok (.aload_n 0, 1) := by decide +kernel
theorem dX7_term_24 : decode cX7_term 24 = .ok (.getfield 55, 3) := by decide +kernel
theorem dX7_term_27 : decode cX7_term 27 = .ok (.invokevirtual 99, 3) := by decide +kernel
theorem dX7_term_30 : decode cX7_term 30 = .ok (.istore_n 1, 1) := by decide +kernel
theorem dX7_term_31 : decode cX7_term 31 = .ok (.aload_n 0, 1) := by decide +kernel
theorem dX7_term_32 : decode cX7_term 32 = .ok (.getfield 25, 3) := by decide +kernel
theorem dX7_term_35 : decode cX7_term 35 = .ok (.invokevirtual 93, 3) := by decide +kernel
theorem dX7_term_38 : decode cX7_term 38 = .ok (.iload_n 1, 1) := by decide +kernel
theorem dX7_term_39 : decode cX7_term 39 = .ok (.ifCond .lt 8, 3) := by decide +kernel
theorem dX7_term_42 : decode cX7_term 42 = .ok (.bipush (-20), 2) := by decide +kernel
theorem dX7_term_44 : decode cX7_term 44 = .ok (.iload_n 1, 1) := by decide +kernel
theorem dX7_term_45 : decode cX7_term 45 = .ok (.isub, 1) := by decide +kernel
theorem dX7_term_46 : decode cX7_term 46 = .ok (.ireturn, 1) := by decide +kernel
theorem dX7_term_47 : decode cX7_term 47 = .ok (.aload_n 0, 1) := by decide +kernel
theorem dX7_term_48 : decode cX7_term 48 = .ok (.getfield 10, 3) := by decide +kernel
theorem dX7_term_51 : decode cX7_term 51 = .ok (.aload_n 0, 1) := by decide +kernel
theorem dX7_term_52 : decode cX7_term 52 = .ok (.getfield 55, 3) := by decide +kernel
theorem dX7_term_55 : decode cX7_term 55 = .ok (.invokevirtual 103, 3) := by decide +kernel
theorem dX7_term_58 : decode cX7_term 58 = .ok (.ireturn, 1) := by decide +kernel
theorem dX7_termOf_0 : decode cX7_termOf 0 = .ok (.aload_n 0, 1) := by decide +kernel
theorem dX7_termOf_1 : decode cX7_termOf 1 = .ok (.getfield 10, 3) := by decide +kernel
theorem dX7_termOf_4 : decode cX7_termOf 4 = .ok (.iload_n 1, 1) := by decide +kernel
theorem dX7_termOf_5 : decode cX7_termOf 5 = .ok (.invokevirtual 106, 3) := by decide +kernel
theorem dX7_termOf_8 : decode cX7_termOf 8 = .ok (.astore_n 3, 1) := by decide +kernel
theorem dX7_termOf_9 : decode cX7_termOf 9 = .ok (.aload_n 3, 1) := by decide +kernel
theorem dX7_termOf_10 : decode cX7_termOf 10 = .ok (.ifnonnull 9, 3) := by decide +kernel
theorem dX7_termOf_13 : decode cX7_termOf 13 = .ok (.aload_n 0, 1) := by decide +kernel
theorem dX7_termOf_14 : decode cX7_termOf 14 = .ok (.iconst (-1), 1) := by decide +kernel
theorem dX7_termOf_15 : decode cX7_termOf 15 = .ok (.invokevirtual 74, 3) := by decide +kernel
theorem dX7_termOf_18 : decode cX7_termOf 18 = .ok (.ireturn, 1) := by decide +kernel
theorem dX7_termOf_19 : decode cX7_termOf 19 = .ok (.iload_n 2, 1) := by decide +kernel
theorem dX7_termOf_20 : decode cX7_termOf 20 = .ok (.tableswitch 52 0 3 #[32, 37, 42, 47], 32) := by decide +kernel
theorem dX7_termOf_52 : decode cX7_termOf 52 = .ok (.aload_n 3, 1) := by decide +kernel
theorem dX7_termOf_53 : decode cX7_termOf 53 = .ok (.getfield 110, 3) := by decide +kernel
theorem dX7_termOf_56 : decode cX7_termOf 56 = .ok (.ireturn, 1) := by decide +kernel
theorem dX7_termOf_57 : decode cX7_termOf 57 = .ok (.aload_n 3, 1) := by decide +kernel
theorem dX7_termOf_58 : decode cX7_termOf 58 = .ok (.getfield 113, 3) := by decide +kernel
theorem dX7_termOf_61 : decode cX7_termOf 61 = .ok (.ireturn, 1) := by decide +kernel
theorem dX7_termOf_62 : decode cX7_termOf 62 = .ok (.aload_n 3, 1) := by decide +kernel
theorem dX7_termOf_63 : decode cX7_termOf 63 = .ok (.getfield 116, 3) := by decide +kernel
theorem dX7_termOf_66 : decode cX7_termOf 66 = .ok (.ireturn, 1) := by decide +kernel
theorem dX7_termOf_67 : decode cX7_termOf 67 = .ok (.aload_n 3, 1) := by decide +kernel
theorem dX7_termOf_68 : decode cX7_termOf 68 = .ok (.getfield 119, 3) := by decide +kernel
theorem dX7_termOf_71 : decode cX7_termOf 71 = .ok (.ireturn, 1) := by decide +kernel
theorem dX7_termOf_72 : decode cX7_termOf 72 = .ok (.aload_n 0, 1) := by decide +kernel
theorem dX7_termOf_73 : decode cX7_termOf 73 = .ok (.bipush (-2), 2) := by decide +kernel
theorem dX7_termOf_75 : decode cX7_termOf 75 = .ok (.invokevirtual 74, 3) := by decide +kernel
theorem dX7_termOf_78 : decode cX7_termOf 78 = .ok (.ireturn, 1) := by decide +kernel
theorem dX7_set_0 : decode cX7_set 0 = .ok (.iload_n 1, 1) := by decide +kernel
theorem dX7_set_1 : decode cX7_set 1 = .ok (.invokestatic 122, 3) := by decide +kernel
theorem dX7_set_4 : decode cX7_set 4 = .ok (.ifCond .ne 10, 3) := by decide +kernel
theorem dX7_set_7 : decode cX7_set 7 = .ok (.aload_n 0, 1) := by decide +kernel
theorem dX7_set_8 : decode cX7_set 8 = .ok (.bipush (-2), 2) := by decide +kernel
theorem dX7_set_10 : decode cX7_set 10 = .ok (.invokevirtual 74, 3) := by decide +kernel
theorem dX7_set_13 : decode cX7_set 13 = .ok (.ireturn, 1) := by decide +kernel
theorem dX7_set_14 : decode cX7_set 14 = .ok (.iload_n 2, 1) := by decide +kernel
theorem dX7_set_15 : decode cX7_set 15 = .ok (.iconst 0, 1) := by decide +kernel
theorem dX7_set_16 : decode cX7_set 16 = .ok (.iload_n 1, 1) := by decide +kernel
theorem dX7_set_17 : decode cX7_set 17 = .ok (.invokestatic 125, 3) := by decide +kernel
theorem dX7_set_20 : decode cX7_set 20 = .ok (.invokestatic 66, 3) := by decide +kernel
theorem dX7_set_23 : decode cX7_set 23 = .ok (.istore_n 3, 1) := by decide +kernel
theorem dX7_set_24 : decode cX7_set 24 = .ok (.iload_n 3, 1) := by decide +kernel
theorem dX7_set_25 : decode cX7_set 25 = .ok (.ifCond .eq 9, 3) := by decide +kernel
theorem dX7_set_28 : decode cX7_set 28 = .ok (.aload_n 0, 1) := by decide +kernel
theorem dX7_set_29 : decode cX7_set 29 = .ok (.iload_n 3, 1) := by decide +kernel
theorem dX7_set_30 : decode cX7_set 30 = .ok (.invokevirtual 74, 3) := by decide +kernel
theorem dX7_set_33 : decode cX7_set 33 = .ok (.ireturn, 1) := by decide +kernel
theorem dX7_set_34 : decode cX7_set 34 = .ok (.aload_n 0, 1) := by decide +kernel
theorem dX7_set_35 : decode cX7_set 35 = .ok (.getfield 10, 3) := by decide +kernel
theorem dX7_set_38 : decode cX7_set 38 = .ok (.iload_n 1, 1) := by decide +kernel
theorem dX7_set_39 : decode cX7_set 39 = .ok (.invokevirtual 128, 3) := by decide +kernel
theorem dX7_set_42 : decode cX7_set 42 = .ok (.istore 4, 2) := by decide +kernel
theorem dX7_set_44 : decode cX7_set 44 = .ok (.aload_n 0, 1) := by decide +kernel
theorem dX7_set_45 : decode cX7_set 45 = .ok (.getfield 10, 3) := by decide +kernel
theorem dX7_set_48 : decode cX7_set 48 = .ok (.iload_n 1, 1) := by decide +kernel
theorem dX7_set_49 : decode cX7_set 49 = .ok (.iload_n 2, 1) := by decide +kernel
theorem dX7_set_50 : decode cX7_set 50 = .ok (.invokevirtual 131, 3) := by decide +kernel
theorem dX7_set_53 : decode cX7_set 53 = .ok (.iload 4, 2) := by decide +kernel
theorem dX7_set_55 : decode cX7_set 55 = .ok (.ireturn, 1) := by decide +kernel
theorem dX7_weather_0 : decode cX7_weather 0 = .ok (.aload_n 0, 1) := by decide +kernel
theorem dX7_weather_1 : decode cX7_weather 1 = .ok (.getfield 34, 3) := by decide +kernel
theorem dX7_weather_4 : decode cX7_weather 4 = .ok (.iconst 0, 1) := by decide +kernel
theorem dX7_weather_5 : decode cX7_weather 5 = .ok (.iconst 0, 1) := by decide +kernel
theorem dX7_weather_6 : decode cX7_weather 6 = .ok (.iconst 0, 1) := by decide +kernel
theorem dX7_weather_7 : decode cX7_weather 7 = .ok (.invokevirtual 135, 3) := by decide +kernel
theorem dX7_weather_10 : decode cX7_weather 10 = .ok (.aload_n 0, 1) := by decide +kernel
theorem dX7_weather_11 : decode cX7_weather 11 = .ok (.getfield 34, 3) := by decide +kernel
theorem dX7_weather_14 : decode cX7_weather 14 = .ok (.iload_n 1, 1) := by decide +kernel
theorem dX7_weather_15 : decode cX7_weather 15 = .ok (.invokevirtual 139, 3) := by decide +kernel
theorem dX7_weather_18 : decode cX7_weather 18 = .ok (.ifCond .ne 9, 3) := by decide +kernel
theorem dX7_weather_21 : decode cX7_weather 21 = .ok (.aload_n 0, 1) := by decide +kernel
theorem dX7_weather_22 : decode cX7_weather 22 = .ok (.iconst (-1), 1) := by decide +kernel
theorem dX7_weather_23 : decode cX7_weather 23 = .ok (.invokevirtual 74, 3) := by decide +kernel
theorem dX7_weather_26 : decode cX7_weather 26 = .ok (.ireturn, 1) := by decide +kernel
theorem dX7_weather_27 : decode cX7_weather 27 = .ok (.iload_n 2, 1) := by decide +kernel
theorem dX7_weather_28 : decode cX7_weather 28 = .ok (.lookupswitch 46 #[(0, 28), (1, 37)], 28) := by decide +kernel
theorem dX7_weather_56 : decode cX7_weather 56 = .ok (.aload_n 0, 1) := by decide +kernel
theorem dX7_weather_57 : decode cX7_weather 57 = .ok (.getfield 34, 3) := by decide +kernel
theorem dX7_weather_60 : decode cX7_weather 60 = .ok (.iload_n 1, 1) := by decide +kernel
theorem dX7_weather_61 : decode cX7_weather 61 = .ok (.invokevirtual 142, 3) := by decide +kernel
theorem dX7_weather_64 : decode cX7_weather 64 = .ok (.ireturn, 1) := by decide +kernel
theorem dX7_weather_65 : decode cX7_weather 65 = .ok (.aload_n 0, 1) := by decide +kernel
theorem dX7_weather_66 : decode cX7_weather 66 = .ok (.getfield 34, 3) := by decide +kernel
theorem dX7_weather_69 : decode cX7_weather 69 = .ok (.iload_n 1, 1) := by decide +kernel
theorem dX7_weather_70 : decode cX7_weather 70 = .ok (.invokevirtual 145, 3) := by decide +kernel
theorem dX7_weather_73 : decode cX7_weather 73 = .ok (.ireturn, 1) := by decide +kernel
theorem dX7_weather_74 : decode cX7_weather 74 = .ok (.aload_n 0, 1) := by decide +kernel
theorem dX7_weather_75 : decode cX7_weather 75 = .ok (.bipush (-2), 2) := by decide +kernel
theorem dX7_weather_77 : decode cX7_weather 77 = .ok (.invokevirtual 74, 3) := by decide +kernel
theorem dX7_weather_80 : decode cX7_weather 80 = .ok (.ireturn, 1) := by decide +kernel
theorem dX7_harvest_0 : decode cX7_harvest 0 = .ok (.aload_n 0, 1) := by decide +kernel
theorem dX7_harvest_1 : decode cX7_harvest 1 = .ok (.getfield 34, 3) := by decide +kernel
theorem dX7_harvest_4 : decode cX7_harvest 4 = .ok (.iconst 0, 1) := by decide +kernel
theorem dX7_harvest_5 : decode cX7_harvest 5 = .ok (.iconst 0, 1) := by decide +kernel
theorem dX7_harvest_6 : decode cX7_harvest 6 = .ok (.iconst 0, 1) := by decide +kernel
theorem dX7_harvest_7 : decode cX7_harvest 7 = .ok (.invokevirtual 135, 3) := by decide +kernel
theorem dX7_harvest_10 : decode cX7_harvest 10 = .ok (.aload_n 0, 1) := by decide +kernel
theorem dX7_harvest_11 : decode cX7_harvest 11 = .ok (.getfield 10, 3) := by decide +kernel
theorem dX7_harvest_14 : decode cX7_harvest 14 = .ok (.iload_n 1, 1) := by decide +kernel
theorem dX7_harvest_15 : decode cX7_harvest 15 = .ok (.invokevirtual 148, 3) := by decide +kernel
theorem dX7_harvest_18 : decode cX7_harvest 18 = .ok (.ifCond .eq 14, 3) := by decide +kernel
theorem dX7_harvest_21 : decode cX7_harvest 21 = .ok (.aload_n 0, 1) := by decide +kernel
theorem dX7_harvest_22 : decode cX7_harvest 22 = .ok (.getfield 34, 3) := by decide +kernel
theorem dX7_harvest_25 : decode cX7_harvest 25 = .ok (.iload_n 2, 1) := by decide +kernel
theorem dX7_harvest_26 : decode cX7_harvest 26 = .ok (.invokevirtual 139, 3) := by decide +kernel
theorem dX7_harvest_29 : decode cX7_harvest 29 = .ok (.ifCond .ne 9, 3) := by decide +kernel
theorem dX7_harvest_32 : decode cX7_harvest 32 = .ok (.aload_n 0, 1) := by decide +kernel
theorem dX7_harvest_33 : decode cX7_harvest 33 = .ok (.iconst (-1), 1) := by decide +kernel
theorem dX7_harvest_34 : decode cX7_harvest 34 = .ok (.invokevirtual 74, 3) := by decide +kernel
theorem dX7_harvest_37 : decode cX7_harvest 37 = .ok (.ireturn, 1) := by decide +kernel
theorem dX7_harvest_38 : decode cX7_harvest 38 = .ok (.aload_n 0, 1) := by decide +kernel
theorem dX7_harvest_39 : decode cX7_harvest 39 = .ok (.getfield 34, 3) := by decide +kernel
theorem dX7_harvest_42 : decode cX7_harvest 42 = .ok (.iload_n 1, 1) := by decide +kernel
theorem dX7_harvest_43 : decode cX7_harvest 43 = .ok (.iload_n 2, 1) := by decide +kernel
theorem dX7_harvest_44 : decode cX7_harvest 44 = .ok (.invokevirtual 151, 3) := by decide +kernel
theorem dX7_harvest_47 : decode cX7_harvest 47 = .ok (.ireturn, 1) := by decide +kernel
theorem dX7_whose_0 : decode cX7_whose 0 = .ok (.aload_n 0, 1) := by decide +kernel
theorem dX7_whose_1 : decode cX7_whose 1 = .ok (.getfield 10, 3) := by decide +kernel
theorem dX7_whose_4 : decode cX7_whose 4 = .ok (.iload_n 1, 1) := by decide +kernel
theorem dX7_whose_5 : decode cX7_whose 5 = .ok (.invokevirtual 106, 3) := by decide +kernel
theorem dX7_whose_8 : decode cX7_whose 8 = .ok (.astore 5, 2) := by decide +kernel
theorem dX7_whose_10 : decode cX7_whose 10 = .ok (.aload 5, 2) := by decide +kernel
theorem dX7_whose_12 : decode cX7_whose 12 = .ok (.ifnull 11, 3) := by decide +kernel
theorem dX7_whose_15 : decode cX7_whose 15 = .ok (.iload 4, 2) := by decide +kernel
theorem dX7_whose_17 : decode cX7_whose 17 = .ok (.invokestatic 155, 3) := by decide +kernel
theorem dX7_whose_20 : decode cX7_whose 20 = .ok (.ifCond .ne 9, 3) := by decide +kernel
theorem dX7_whose_23 : decode cX7_whose 23 = .ok (.aload_n 0, 1) := by decide +kernel
theorem dX7_whose_24 : decode cX7_whose 24 = .ok (.iconst (-1), 1) := by decide +kernel
theorem dX7_whose_25 : decode cX7_whose 25 = .ok (.invokevirtual 158, 3) := by decide +kernel
theorem dX7_whose_28 : decode cX7_whose 28 = .ok (.ireturn, 1) := by decide +kernel
theorem dX7_whose_29 : decode cX7_whose 29 = .ok (.iload_n 2, 1) := by decide +kernel
theorem dX7_whose_30 : decode cX7_whose 30 = .ok (.iconst 0, 1) := by decide +kernel
theorem dX7_whose_31 : decode cX7_whose 31 = .ok (.sipush 999, 3) := by decide +kernel
theorem dX7_whose_34 : decode cX7_whose 34 = .ok (.invokestatic 66, 3) := by decide +kernel
theorem dX7_whose_37 : decode cX7_whose 37 = .ok (.iload_n 3, 1) := by decide +kernel
theorem dX7_whose_38 : decode cX7_whose 38 = .ok (.iconst 0, 1) := by decide +kernel
theorem dX7_whose_39 : decode cX7_whose 39 = .ok (.bipush 9, 2) := by decide +kernel
theorem dX7_whose_41 : decode cX7_whose 41 = .ok (.invokestatic 66, 3) := by decide +kernel
theorem dX7_whose_44 : decode cX7_whose 44 = .ok (.invokestatic 161, 3) := by decide +kernel
theorem dX7_whose_47 : decode cX7_whose 47 = .ok (.istore 6, 2) := by decide +kernel
theorem dX7_whose_49 : decode cX7_whose 49 = .ok (.iload 6, 2) := by decide +kernel
theorem dX7_whose_51 : decode cX7_whose 51 = .ok (.ifCond .eq 10, 3) := by decide +kernel
theorem dX7_whose_54 : decode cX7_whose 54 = .ok (.aload_n 0, 1) := by decide +kernel
theorem dX7_whose_55 : decode cX7_whose 55 = .ok (.iload 6, 2) := by decide +kernel
theorem dX7_whose_57 : decode cX7_whose 57 = .ok (.invokevirtual 158, 3) := by decide +kernel
theorem dX7_whose_60 : decode cX7_whose 60 = .ok (.ireturn, 1) := by decide +kernel
theorem dX7_whose_61 : decode cX7_whose 61 = .ok (.aload_n 0, 1) := by decide +kernel
theorem dX7_whose_62 : decode cX7_whose 62 = .ok (.getfield 10, 3) := by decide +kernel
theorem dX7_whose_65 : decode cX7_whose 65 = .ok (.aload 5, 2) := by decide +kernel
theorem dX7_whose_67 : decode cX7_whose 67 = .ok (.iload_n 2, 1) := by decide +kernel
theorem dX7_whose_68 : decode cX7_whose 68 = .ok (.iload_n 3, 1) := by decide +kernel
theorem dX7_whose_69 : decode cX7_whose 69 = .ok (.iload 4, 2) := by decide +kernel
theorem dX7_whose_71 : decode cX7_whose 71 = .ok (.invokevirtual 164, 3) := by decide +kernel
theorem dX7_whose_74 : decode cX7_whose 74 = .ok (.ireturn, 1) := by decide +kernel
theorem dX7_mind_0 : decode cX7_mind 0 = .ok (.iload_n 1, 1) := by decide +kernel
theorem dX7_mind_1 : decode cX7_mind 1 = .ok (.invokestatic 155, 3) := by decide +kernel
theorem dX7_mind_4 : decode cX7_mind 4 = .ok (.ifCond .ne 9, 3) := by decide +kernel
theorem dX7_mind_7 : decode cX7_mind 7 = .ok (.aload_n 0, 1) := by decide +kernel
theorem dX7_mind_8 : decode cX7_mind 8 = .ok (.iconst (-1), 1) := by decide +kernel
theorem dX7_mind_9 : decode cX7_mind 9 = .ok (.invokevirtual 158, 3) := by decide +kernel
theorem dX7_mind_12 : decode cX7_mind 12 = .ok (.ireturn, 1) := by decide +kernel
theorem dX7_mind_13 : decode cX7_mind 13 = .ok (.iload_n 2, 1) := by decide +kernel
theorem dX7_mind_14 : decode cX7_mind 14 = .ok (.sipush (-999), 3) := by decide +kernel
theorem dX7_mind_17 : decode cX7_mind 17 = .ok (.sipush 999, 3) := by decide +kernel
theorem dX7_mind_20 : decode cX7_mind 20 = .ok (.invokestatic 66, 3) := by decide +kernel
theorem dX7_mind_23 : decode cX7_mind 23 = .ok (.istore_n 3, 1) := by decide +kernel
theorem dX7_mind_24 : decode cX7_mind 24 = .ok (.iload_n 3, 1) := by decide +kernel
theorem dX7_mind_25 : decode cX7_mind 25 = .ok (.ifCond .eq 9, 3) := by decide +kernel
theorem dX7_mind_28 : decode cX7_mind 28 = .ok (.aload_n 0, 1) := by decide +kernel
theorem dX7_mind_29 : decode cX7_mind 29 = .ok (.iload_n 3, 1) := by decide +kernel
theorem dX7_mind_30 : decode cX7_mind 30 = .ok (.invokevirtual 158, 3) := by decide +kernel
theorem dX7_mind_33 : decode cX7_mind 33 = .ok (.ireturn, 1) := by decide +kernel
theorem dX7_mind_34 : decode cX7_mind 34 = .ok (.aload_n 0, 1) := by decide +kernel
theorem dX7_mind_35 : decode cX7_mind 35 = .ok (.getfield 10, 3) := by decide +kernel
theorem dX7_mind_38 : decode cX7_mind 38 = .ok (.iload_n 1, 1) := by decide +kernel
theorem dX7_mind_39 : decode cX7_mind 39 = .ok (.iload_n 2, 1) := by decide +kernel
theorem dX7_mind_40 : decode cX7_mind 40 = .ok (.invokevirtual 168, 3) := by decide +kernel
theorem dX7_mind_43 : decode cX7_mind 43 = .ok (.ireturn, 1) := by decide +kernel
theorem dX7_worth_0 : decode cX7_worth 0 = .ok (.aload_n 0, 1) := by decide +kernel
theorem dX7_worth_1 : decode cX7_worth 1 = .ok (.getfield 10, 3) := by decide +kernel
theorem dX7_worth_4 : decode cX7_worth 4 = .ok (.iload_n 1, 1) := by decide +kernel
theorem dX7_worth_5 : decode cX7_worth 5 = .ok (.invokevirtual 106, 3) := by decide +kernel
theorem dX7_worth_8 : decode cX7_worth 8 = .ok (.astore 4, 2) := by decide +kernel
theorem dX7_worth_10 : decode cX7_worth 10 = .ok (.aload 4, 2) := by decide +kernel
theorem dX7_worth_12 : decode cX7_worth 12 = .ok (.ifnull 21, 3) := by decide +kernel
theorem dX7_worth_15 : decode cX7_worth 15 = .ok (.aload_n 0, 1) := by decide +kernel
theorem dX7_worth_16 : decode cX7_worth 16 = .ok (.getfield 10, 3) := by decide +kernel
theorem dX7_worth_19 : decode cX7_worth 19 = .ok (.iload_n 2, 1) := by decide +kernel
theorem dX7_worth_20 : decode cX7_worth 20 = .ok (.invokevirtual 148, 3) := by decide +kernel
theorem dX7_worth_23 : decode cX7_worth 23 = .ok (.ifCond .eq 10, 3) := by decide +kernel
theorem dX7_worth_26 : decode cX7_worth 26 = .ok (.iload_n 3, 1) := by decide +kernel
theorem dX7_worth_27 : decode cX7_worth 27 = .ok (.invokestatic 155, 3) := by decide +kernel
theorem dX7_worth_30 : decode cX7_worth 30 = .ok (.ifCond .ne 9, 3) := by decide +kernel
theorem dX7_worth_33 : decode cX7_worth 33 = .ok (.aload_n 0, 1) := by decide +kernel
theorem dX7_worth_34 : decode cX7_worth 34 = .ok (.iconst (-1), 1) := by decide +kernel
theorem dX7_worth_35 : decode cX7_worth 35 = .ok (.invokevirtual 171, 3) := by decide +kernel
theorem dX7_worth_38 : decode cX7_worth 38 = .ok (.lreturn, 1) := by decide +kernel
theorem dX7_worth_39 : decode cX7_worth 39 = .ok (.aload_n 0, 1) := by decide +kernel
theorem dX7_worth_40 : decode cX7_worth 40 = .ok (.getfield 34, 3) := by decide +kernel
theorem dX7_worth_43 : decode cX7_worth 43 = .ok (.iconst 0, 1) := by decide +kernel
theorem dX7_worth_44 : decode cX7_worth 44 = .ok (.iconst 0, 1) := by decide +kernel
theorem dX7_worth_45 : decode cX7_worth 45 = .ok (.iconst 0, 1) := by decide +kernel
theorem dX7_worth_46 : decode cX7_worth 46 = .ok (.invokevirtual 135, 3) := by decide +kernel
theorem dX7_worth_49 : decode cX7_worth 49 = .ok (.aload_n 0, 1) := by decide +kernel
theorem dX7_worth_50 : decode cX7_worth 50 = .ok (.getfield 34, 3) := by decide +kernel
theorem dX7_worth_53 : decode cX7_worth 53 = .ok (.aload 4, 2) := by decide +kernel
theorem dX7_worth_55 : decode cX7_worth 55 = .ok (.iload_n 2, 1) := by decide +kernel
theorem dX7_worth_56 : decode cX7_worth 56 = .ok (.iload_n 3, 1) := by decide +kernel
theorem dX7_worth_57 : decode cX7_worth 57 = .ok (.invokevirtual 175, 3) := by decide +kernel
theorem dX7_worth_60 : decode cX7_worth 60 = .ok (.lreturn, 1) := by decide +kernel
theorem dX7_pains_0 : decode cX7_pains 0 = .ok (.aload_n 0, 1) := by decide +kernel
theorem dX7_pains_1 : decode cX7_pains 1 = .ok (.getfield 10, 3) := by decide +kernel
theorem dX7_pains_4 : decode cX7_pains 4 = .ok (.iload_n 1, 1) := by decide +kernel
theorem dX7_pains_5 : decode cX7_pains 5 = .ok (.invokevirtual 106, 3) := by decide +kernel
theorem dX7_pains_8 : decode cX7_pains 8 = .ok (.astore_n 2, 1) := by decide +kernel
theorem dX7_pains_9 : decode cX7_pains 9 = .ok (.aload_n 2, 1) := by decide +kernel
theorem dX7_pains_10 : decode cX7_pains 10 = .ok (.ifnonnull 9, 3) := by decide +kernel
theorem dX7_pains_13 : decode cX7_pains 13 = .ok (.aload_n 0, 1) := by decide +kernel
theorem dX7_pains_14 : decode cX7_pains 14 = .ok (.iconst (-1), 1) := by decide +kernel
theorem dX7_pains_15 : decode cX7_pains 15 = .ok (.invokevirtual 74, 3) := by decide +kernel
theorem dX7_pains_18 : decode cX7_pains 18 = .ok (.ireturn, 1) := by decide +kernel
theorem dX7_pains_19 : decode cX7_pains 19 = .ok (.aload_n 0, 1) := by decide +kernel
theorem dX7_pains_20 : decode cX7_pains 20 = .ok (.getfield 34, 3) := by decide +kernel
theorem dX7_pains_23 : decode cX7_pains 23 = .ok (.iconst 0, 1) := by decide +kernel
theorem dX7_pains_24 : decode cX7_pains 24 = .ok (.iconst 0, 1) := by decide +kernel
theorem dX7_pains_25 : decode cX7_pains 25 = .ok (.iconst 0, 1) := by decide +kernel
theorem dX7_pains_26 : decode cX7_pains 26 = .ok (.invokevirtual 135, 3) := by decide +kernel
theorem dX7_pains_29 : decode cX7_pains 29 = .ok (.aload_n 0, 1) := by decide +kernel
theorem dX7_pains_30 : decode cX7_pains 30 = .ok (.getfield 34, 3) := by decide +kernel
theorem dX7_pains_33 : decode cX7_pains 33 = .ok (.aload_n 2, 1) := by decide +kernel
theorem dX7_pains_34 : decode cX7_pains 34 = .ok (.invokevirtual 179, 3) := by decide +kernel
theorem dX7_pains_37 : decode cX7_pains 37 = .ok (.aload_n 0, 1) := by decide +kernel
theorem dX7_pains_38 : decode cX7_pains 38 = .ok (.getfield 34, 3) := by decide +kernel
theorem dX7_pains_41 : decode cX7_pains 41 = .ok (.getfield 183, 3) := by decide +kernel
theorem dX7_pains_44 : decode cX7_pains 44 = .ok (.ireturn, 1) := by decide +kernel
theorem dX7_takes_0 : decode cX7_takes 0 = .ok (.aload_n 0, 1) := by decide +kernel
theorem dX7_takes_1 : decode cX7_takes 1 = .ok (.getfield 10, 3) := by decide +kernel
theorem dX7_takes_4 : decode cX7_takes 4 = .ok (.iload_n 1, 1) := by decide +kernel
theorem dX7_takes_5 : decode cX7_takes 5 = .ok (.invokevirtual 106, 3) := by decide +kernel
theorem dX7_takes_8 : decode cX7_takes 8 = .ok (.astore_n 2, 1) := by decide +kernel
theorem dX7_takes_9 : decode cX7_takes 9 = .ok (.aload_n 2, 1) := by decide +kernel
theorem dX7_takes_10 : decode cX7_takes 10 = .ok (.ifnonnull 9, 3) := by decide +kernel
theorem dX7_takes_13 : decode cX7_takes 13 = .ok (.aload_n 0, 1) := by decide +kernel
theorem dX7_takes_14 : decode cX7_takes 14 = .ok (.iconst (-1), 1) := by decide +kernel
theorem dX7_takes_15 : decode cX7_takes 15 = .ok (.invokevirtual 74, 3) := by decide +kernel
theorem dX7_takes_18 : decode cX7_takes 18 = .ok (.ireturn, 1) := by decide +kernel
theorem dX7_takes_19 : decode cX7_takes 19 = .ok (.aload_n 0, 1) := by decide +kernel
theorem dX7_takes_20 : decode cX7_takes 20 = .ok (.getfield 34, 3) := by decide +kernel
theorem dX7_takes_23 : decode cX7_takes 23 = .ok (.iconst 0, 1) := by decide +kernel
theorem dX7_takes_24 : decode cX7_takes 24 = .ok (.iconst 0, 1) := by decide +kernel
theorem dX7_takes_25 : decode cX7_takes 25 = .ok (.iconst 0, 1) := by decide +kernel
theorem dX7_takes_26 : decode cX7_takes 26 = .ok (.invokevirtual 135, 3) := by decide +kernel
theorem dX7_takes_29 : decode cX7_takes 29 = .ok (.aload_n 0, 1) := by decide +kernel
theorem dX7_takes_30 : decode cX7_takes 30 = .ok (.aload_n 2, 1) := by decide +kernel
theorem dX7_takes_31 : decode cX7_takes 31 = .ok (.invokevirtual 186, 3) := by decide +kernel
theorem dX7_takes_34 : decode cX7_takes 34 = .ok (.ifCond .eq 7, 3) := by decide +kernel
theorem dX7_takes_37 : decode cX7_takes 37 = .ok (.iconst 1, 1) := by decide +kernel
theorem dX7_takes_38 : decode cX7_takes 38 = .ok (.goto 4, 3) := by decide +kernel
theorem dX7_takes_41 : decode cX7_takes 41 = .ok (.iconst 0, 1) := by decide +kernel
theorem dX7_takes_42 : decode cX7_takes 42 = .ok (.ireturn, 1) := by decide +kernel
theorem dX7_mean_0 : decode cX7_mean 0 = .ok (.aload_n 0, 1) := by decide +kernel
theorem dX7_mean_1 : decode cX7_mean 1 = .ok (.getfield 10, 3) := by decide +kernel
theorem dX7_mean_4 : decode cX7_mean 4 = .ok (.iload_n 1, 1) := by decide +kernel
theorem dX7_mean_5 : decode cX7_mean 5 = .ok (.invokevirtual 106, 3) := by decide +kernel
theorem dX7_mean_8 : decode cX7_mean 8 = .ok (.astore 4, 2) := by decide +kernel
theorem dX7_mean_10 : decode cX7_mean 10 = .ok (.aload 4, 2) := by decide +kernel
theorem dX7_mean_12 : decode cX7_mean 12 = .ok (.ifnull 10, 3) := by decide +kernel
theorem dX7_mean_15 : decode cX7_mean 15 = .ok (.iload_n 2, 1) := by decide +kernel
theorem dX7_mean_16 : decode cX7_mean 16 = .ok (.invokestatic 155, 3) := by decide +kernel
theorem dX7_mean_19 : decode cX7_mean 19 = .ok (.ifCond .ne 9, 3) := by decide +kernel
theorem dX7_mean_22 : decode cX7_mean 22 = .ok (.aload_n 0, 1) := by decide +kernel
theorem dX7_mean_23 : decode cX7_mean 23 = .ok (.iconst (-1), 1) := by decide +kernel
theorem dX7_mean_24 : decode cX7_mean 24 = .ok (.invokevirtual 158, 3) := by decide +kernel
theorem dX7_mean_27 : decode cX7_mean 27 = .ok (.ireturn, 1) := by decide +kernel
theorem dX7_mean_28 : decode cX7_mean 28 = .ok (.iload_n 3, 1) := by decide +kernel
theorem dX7_mean_29 : decode cX7_mean 29 = .ok (.ifCond .eq 15, 3) := by decide +kernel
theorem dX7_mean_32 : decode cX7_mean 32 = .ok (.iload_n 3, 1) := by decide +kernel
theorem dX7_mean_33 : decode cX7_mean 33 = .ok (.iconst 1, 1) := by decide +kernel
theorem dX7_mean_34 : decode cX7_mean 34 = .ok (.if_icmp .eq 10, 3) := by decide +kernel
theorem dX7_mean_37 : decode cX7_mean 37 = .ok (.aload_n 0, 1) := by decide +kernel
theorem dX7_mean_38 : decode cX7_mean 38 = .ok (.bipush (-2), 2) := by decide +kernel
theorem dX7_mean_40 : decode cX7_mean 40 = .ok (.invokevirtual 158, 3) := by decide +kernel
theorem dX7_mean_43 : decode cX7_mean 43 = .ok (.ireturn, 1) := by decide +kernel
theorem dX7_mean_44 : decode cX7_mean 44 = .ok (.aload_n 0, 1) := by decide +kernel
theorem dX7_mean_45 : decode cX7_mean 45 = .ok (.getfield 34, 3) := by decide +kernel
theorem dX7_mean_48 : decode cX7_mean 48 = .ok (.iconst 0, 1) := by decide +kernel
theorem dX7_mean_49 : decode cX7_mean 49 = .ok (.iconst 0, 1) := by decide +kernel
theorem dX7_mean_50 : decode cX7_mean 50 = .ok (.iconst 0, 1) := by decide +kernel
theorem dX7_mean_51 : decode cX7_mean 51 = .ok (.invokevirtual 135, 3) := by decide +kernel
theorem dX7_mean_54 : decode cX7_mean 54 = .ok (.aload_n 0, 1) := by decide +kernel
theorem dX7_mean_55 : decode cX7_mean 55 = .ok (.getfield 34, 3) := by decide +kernel
theorem dX7_mean_58 : decode cX7_mean 58 = .ok (.aload 4, 2) := by decide +kernel
theorem dX7_mean_60 : decode cX7_mean 60 = .ok (.invokevirtual 179, 3) := by decide +kernel
theorem dX7_mean_63 : decode cX7_mean 63 = .ok (.aload_n 0, 1) := by decide +kernel
theorem dX7_mean_64 : decode cX7_mean 64 = .ok (.getfield 34, 3) := by decide +kernel
theorem dX7_mean_67 : decode cX7_mean 67 = .ok (.aload 4, 2) := by decide +kernel
theorem dX7_mean_69 : decode cX7_mean 69 = .ok (.aload_n 0, 1) := by decide +kernel
theorem dX7_mean_70 : decode cX7_mean 70 = .ok (.getfield 34, 3) := by decide +kernel
theorem dX7_mean_73 : decode cX7_mean 73 = .ok (.getfield 183, 3) := by decide +kernel
theorem dX7_mean_76 : decode cX7_mean 76 = .ok (.iload_n 2, 1) := by decide +kernel
theorem dX7_mean_77 : decode cX7_mean 77 = .ok (.invokevirtual 190, 3) := by decide +kernel
theorem dX7_mean_80 : decode cX7_mean 80 = .ok (.istore 5, 2) := by decide +kernel
theorem dX7_mean_82 : decode cX7_mean 82 = .ok (.iload 5, 2) := by decide +kernel
theorem dX7_mean_84 : decode cX7_mean 84 = .ok (.invokestatic 194, 3) := by decide +kernel
theorem dX7_mean_87 : decode cX7_mean 87 = .ok (.istore 6, 2) := by decide +kernel
theorem dX7_mean_89 : decode cX7_mean 89 = .ok (.iload_n 3, 1) := by decide +kernel
theorem dX7_mean_90 : decode cX7_mean 90 = .ok (.ifCond .ne 8, 3) := by decide +kernel
theorem dX7_mean_93 : decode cX7_mean 93 = .ok (.iload 5, 2) := by decide +kernel
theorem dX7_mean_95 : decode cX7_mean 95 = .ok (.goto 5, 3) := by decide +kernel
theorem dX7_mean_98 : decode cX7_mean 98 = .ok (.bipush 100, 2) := by decide +kernel
theorem dX7_mean_100 : decode cX7_mean 100 = .ok (.iload 6, 2) := by decide +kernel
theorem dX7_mean_102 : decode cX7_mean 102 = .ok (.invokestatic 197, 3) := by decide +kernel
theorem dX7_mean_105 : decode cX7_mean 105 = .ok (.ireturn, 1) := by decide +kernel
theorem dX7_proof_0 : decode cX7_proof 0 = .ok (.aload_n 0, 1) := by decide +kernel
theorem dX7_proof_1 : decode cX7_proof 1 = .ok (.getfield 34, 3) := by decide +kernel
theorem dX7_proof_4 : decode cX7_proof 4 = .ok (.iconst 0, 1) := by decide +kernel
theorem dX7_proof_5 : decode cX7_proof 5 = .ok (.iconst 0, 1) := by decide +kernel
theorem dX7_proof_6 : decode cX7_proof 6 = .ok (.iconst 0, 1) := by decide +kernel
theorem dX7_proof_7 : decode cX7_proof 7 = .ok (.invokevirtual 135, 3) := by decide +kernel
theorem dX7_proof_10 : decode cX7_proof 10 = .ok (.aload_n 0, 1) := by decide +kernel
theorem dX7_proof_11 : decode cX7_proof 11 = .ok (.invokevirtual 202, 3) := by decide +kernel
theorem dX7_proof_14 : decode cX7_proof 14 = .ok (.ireturn, 1) := by decide +kernel
theorem dX7_gap_0 : decode cX7_gap 0 = .ok (.aload_n 0, 1) := by decide +kernel
theorem dX7_gap_1 : decode cX7_gap 1 = .ok (.getfield 34, 3) := by decide +kernel
theorem dX7_gap_4 : decode cX7_gap 4 = .ok (.iconst 0, 1) := by decide +kernel
theorem dX7_gap_5 : decode cX7_gap 5 = .ok (.iconst 0, 1) := by decide +kernel
theorem dX7_gap_6 : decode cX7_gap 6 = .ok (.iconst 0, 1) := by decide +kernel
theorem dX7_gap_7 : decode cX7_gap 7 = .ok (.invokevirtual 135, 3) := by decide +kernel
theorem dX7_gap_10 : decode cX7_gap 10 = .ok (.aload_n 0, 1) := by decide +kernel
theorem dX7_gap_11 : decode cX7_gap 11 = .ok (.invokevirtual 202, 3) := by decide +kernel
theorem dX7_gap_14 : decode cX7_gap 14 = .ok (.istore_n 1, 1) := by decide +kernel
theorem dX7_gap_15 : decode cX7_gap 15 = .ok (.iload_n 1, 1) := by decide +kernel
theorem dX7_gap_16 : decode cX7_gap 16 = .ok (.bipush (-9), 2) := by decide +kernel
theorem dX7_gap_18 : decode cX7_gap 18 = .ok (.if_icmp .ne 7, 3) := by decide +kernel
theorem dX7_gap_21 : decode cX7_gap 21 = .ok (.ldc2_w 206, 3) := by decide +kernel
theorem dX7_gap_24 : decode cX7_gap 24 = .ok (.lreturn, 1) := by decide +kernel
theorem dX7_gap_25 : decode cX7_gap 25 = .ok (.aload_n 0, 1) := by decide +kernel
theorem dX7_gap_26 : decode cX7_gap 26 = .ok (.iload_n 1, 1) := by decide +kernel
theorem dX7_gap_27 : decode cX7_gap 27 = .ok (.invokevirtual 208, 3) := by decide +kernel
theorem dX7_gap_30 : decode cX7_gap 30 = .ok (.aload_n 0, 1) := by decide +kernel
theorem dX7_gap_31 : decode cX7_gap 31 = .ok (.aload_n 0, 1) := by decide +kernel
theorem dX7_gap_32 : decode cX7_gap 32 = .ok (.getfield 55, 3) := by decide +kernel
theorem dX7_gap_35 : decode cX7_gap 35 = .ok (.invokevirtual 212, 3) := by decide +kernel
theorem dX7_gap_38 : decode cX7_gap 38 = .ok (.lstore_n 2, 1) := by decide +kernel
theorem dX7_gap_39 : decode cX7_gap 39 = .ok (.iconst 0, 1) := by decide +kernel
theorem dX7_gap_40 : decode cX7_gap 40 = .ok (.istore 4, 2) := by decide +kernel
theorem dX7_gap_42 : decode cX7_gap 42 = .ok (.lconst 0, 1) := by decide +kernel
theorem dX7_gap_43 : decode cX7_gap 43 = .ok (.lstore 5, 2) := by decide +kernel
theorem dX7_gap_45 : decode cX7_gap 45 = .ok (.iconst 0, 1) := by decide +kernel
theorem dX7_gap_46 : decode cX7_gap 46 = .ok (.istore 7, 2) := by decide +kernel
theorem dX7_gap_48 : decode cX7_gap 48 = .ok (.iload 7, 2) := by decide +kernel
theorem dX7_gap_50 : decode cX7_gap 50 = .ok (.aload_n 0, 1) := by decide +kernel
theorem dX7_gap_51 : decode cX7_gap 51 = .ok (.getfield 34, 3) := by decide +kernel
theorem dX7_gap_54 : decode cX7_gap 54 = .ok (.getfield 216, 3) := by decide +kernel
theorem dX7_gap_57 : decode cX7_gap 57 = .ok (.if_icmp .gt 74, 3) := by decide +kernel
theorem dX7_gap_60 : decode cX7_gap 60 = .ok (.aload_n 0, 1) := by decide +kernel
theorem dX7_gap_61 : decode cX7_gap 61 = .ok (.iload 7, 2) := by decide +kernel
theorem dX7_gap_63 : decode cX7_gap 63 = .ok (.invokevirtual 219, 3) := by decide +kernel
theorem dX7_gap_66 : decode cX7_gap 66 = .ok (.istore 8, 2) := by decide +kernel
theorem dX7_gap_68 : decode cX7_gap 68 = .ok (.iload 8, 2) := by decide +kernel
theorem dX7_gap_70 : decode cX7_gap 70 = .ok (.bipush (-9), 2) := by decide +kernel
theorem dX7_gap_72 : decode cX7_gap 72 = .ok (.if_icmp .eq 53, 3) := by decide +kernel
theorem dX7_gap_75 : decode cX7_gap 75 = .ok (.aload_n 0, 1) := by decide +kernel
theorem dX7_gap_76 : decode cX7_gap 76 = .ok (.getfield 55, 3) := by decide +kernel
theorem dX7_gap_79 : decode cX7_gap 79 = .ok (.iconst 2, 1) := by decide +kernel
theorem dX7_gap_80 : decode cX7_gap 80 = .ok (.iload 8, 2) := by decide +kernel
theorem dX7_gap_82 : decode cX7_gap 82 = .ok (.iconst 0, 1) := by decide +kernel
theorem dX7_gap_83 : decode cX7_gap 83 = .ok (.iconst 0, 1) := by decide +kernel
theorem dX7_gap_84 : decode cX7_gap 84 = .ok (.invokevirtual 222, 3) := by decide +kernel
theorem dX7_gap_87 : decode cX7_gap 87 = .ok (.aload_n 0, 1) := by decide +kernel
theorem dX7_gap_88 : decode cX7_gap 88 = .ok (.getfield 34, 3) := by decide +kernel
theorem dX7_gap_91 : decode cX7_gap 91 = .ok (.aload_n 0, 1) := by decide +kernel
theorem dX7_gap_92 : decode cX7_gap 92 = .ok (.getfield 55, 3) := by decide +kernel
theorem dX7_gap_95 : decode cX7_gap 95 = .ok (.iload 7, 2) := by decide +kernel
theorem dX7_gap_97 : decode cX7_gap 97 = .ok (.iconst 1, 1) := by decide +kernel
theorem dX7_gap_98 : decode cX7_gap 98 = .ok (.invokevirtual 175, 3) := by decide +kernel
theorem dX7_gap_101 : decode cX7_gap 101 = .ok (.lstore 9, 2) := by decide +kernel
theorem dX7_gap_103 : decode cX7_gap 103 = .ok (.iload 4, 2) := by decide +kernel
theorem dX7_gap_105 : decode cX7_gap 105 = .ok (.ifCond .eq 13, 3) := by decide +kernel
theorem dX7_gap_108 : decode cX7_gap 108 = .ok (.lload 5, 2) := by decide +kernel
theorem dX7_gap_110 : decode cX7_gap 110 = .ok (.lload 9, 2) := by decide +kernel
theorem dX7_gap_112 : decode cX7_gap 112 = .ok (.invokestatic 226, 3) := by decide +kernel
theorem dX7_gap_115 : decode cX7_gap 115 = .ok (.goto 5, 3) := by decide +kernel
theorem dX7_gap_118 : decode cX7_gap 118 = .ok (.lload 9, 2) := by decide +kernel
theorem dX7_gap_120 : decode cX7_gap 120 = .ok (.lstore 5, 2) := by decide +kernel
theorem dX7_gap_122 : decode cX7_gap 122 = .ok (.iconst 1, 1) := by decide +kernel
theorem dX7_gap_123 : decode cX7_gap 123 = .ok (.istore 4, 2) := by decide +kernel
theorem dX7_gap_125 : decode cX7_gap 125 = .ok (.iinc 7 1, 3) := by decide +kernel
theorem dX7_gap_128 : decode cX7_gap 128 = .ok (.goto (-80), 3) := by decide +kernel
theorem dX7_gap_131 : decode cX7_gap 131 = .ok (.iload 4, 2) := by decide +kernel
theorem dX7_gap_133 : decode cX7_gap 133 = .ok (.ifCond .eq 14, 3) := by decide +kernel
theorem dX7_gap_136 : decode cX7_gap 136 = .ok (.lconst 0, 1) := by decide +kernel
theorem dX7_gap_137 : decode cX7_gap 137 = .ok (.lload 5, 2) := by decide +kernel
theorem dX7_gap_139 : decode cX7_gap 139 = .ok (.lload_n 2, 1) := by decide +kernel
theorem dX7_gap_140 : decode cX7_gap 140 = .ok (.lsub, 1) := by decide +kernel
theorem dX7_gap_141 : decode cX7_gap 141 = .ok (.invokestatic 226, 3) := by decide +kernel
theorem dX7_gap_144 : decode cX7_gap 144 = .ok (.goto 6, 3) := by decide +kernel
theorem dX7_gap_147 : decode cX7_gap 147 = .ok (.ldc2_w 206, 3) := by decide +kernel
theorem dX7_gap_150 : decode cX7_gap 150 = .ok (.lreturn, 1) := by decide +kernel
theorem dX7_half_0 : decode cX7_half 0 = .ok (.aload_n 0, 1) := by decide +kernel
theorem dX7_half_1 : decode cX7_half 1 = .ok (.getfield 34, 3) := by decide +kernel
theorem dX7_half_4 : decode cX7_half 4 = .ok (.iconst 0, 1) := by decide +kernel
theorem dX7_half_5 : decode cX7_half 5 = .ok (.iconst 0, 1) := by decide +kernel
theorem dX7_half_6 : decode cX7_half 6 = .ok (.iconst 0, 1) := by decide +kernel
theorem dX7_half_7 : decode cX7_half 7 = .ok (.invokevirtual 135, 3) := by decide +kernel
theorem dX7_half_10 : decode cX7_half 10 = .ok (.aload_n 0, 1) := by decide +kernel
theorem dX7_half_11 : decode cX7_half 11 = .ok (.invokevirtual 202, 3) := by decide +kernel
theorem dX7_half_14 : decode cX7_half 14 = .ok (.istore_n 1, 1) := by decide +kernel
theorem dX7_half_15 : decode cX7_half 15 = .ok (.iload_n 1, 1) := by decide +kernel
theorem dX7_half_16 : decode cX7_half 16 = .ok (.bipush (-9), 2) := by decide +kernel
theorem dX7_half_18 : decode cX7_half 18 = .ok (.if_icmp .ne 7, 3) := by decide +kernel
theorem dX7_half_21 : decode cX7_half 21 = .ok (.ldc2_w 206, 3) := by decide +kernel
theorem dX7_half_24 : decode cX7_half 24 = .ok (.lreturn, 1) := by decide +kernel
theorem dX7_half_25 : decode cX7_half 25 = .ok (.aload_n 0, 1) := by decide +kernel
theorem dX7_half_26 : decode cX7_half 26 = .ok (.iload_n 1, 1) := by decide +kernel
theorem dX7_half_27 : decode cX7_half 27 = .ok (.invokevirtual 208, 3) := by decide +kernel
theorem dX7_half_30 : decode cX7_half 30 = .ok (.aload_n 0, 1) := by decide +kernel
theorem dX7_half_31 : decode cX7_half 31 = .ok (.aload_n 0, 1) := by decide +kernel
theorem dX7_half_32 : decode cX7_half 32 = .ok (.getfield 55, 3) := by decide +kernel
theorem dX7_half_35 : decode cX7_half 35 = .ok (.invokevirtual 212, 3) := by decide +kernel
theorem dX7_half_38 : decode cX7_half 38 = .ok (.lstore_n 2, 1) := by decide +kernel
theorem dX7_half_39 : decode cX7_half 39 = .ok (.aload_n 0, 1) := by decide +kernel
theorem dX7_half_40 : decode cX7_half 40 = .ok (.getfield 55, 3) := by decide +kernel
theorem dX7_half_43 : decode cX7_half 43 = .ok (.iconst 0, 1) := by decide +kernel
theorem dX7_half_44 : decode cX7_half 44 = .ok (.iconst 1, 1) := by decide +kernel
theorem dX7_half_45 : decode cX7_half 45 = .ok (.iconst 2, 1) := by decide +kernel
theorem dX7_half_46 : decode cX7_half 46 = .ok (.iconst 0, 1) := by decide +kernel
theorem dX7_half_47 : decode cX7_half 47 = .ok (.invokevirtual 222, 3) := by decide +kernel
theorem dX7_half_50 : decode cX7_half 50 = .ok (.aload_n 0, 1) := by decide +kernel
theorem dX7_half_51 : decode cX7_half 51 = .ok (.aload_n 0, 1) := by decide +kernel
theorem dX7_half_52 : decode cX7_half 52 = .ok (.getfield 55, 3) := by decide +kernel
theorem dX7_half_55 : decode cX7_half 55 = .ok (.invokevirtual 186, 3) := by decide +kernel
theorem dX7_half_58 : decode cX7_half 58 = .ok (.ifCond .eq 16, 3) := by decide +kernel
theorem dX7_half_61 : decode cX7_half 61 = .ok (.lload_n 2, 1) := by decide +kernel
theorem dX7_half_62 : decode cX7_half 62 = .ok (.aload_n 0, 1) := by decide +kernel
theorem dX7_half_63 : decode cX7_half 63 = .ok (.aload_n 0, 1) := by decide +kernel
theorem dX7_half_64 : decode cX7_half 64 = .ok (.getfield 55, 3) := by decide +kernel
theorem dX7_half_67 : decode cX7_half 67 = .ok (.invokevirtual 212, 3) := by decide +kernel
theorem dX7_half_70 : decode cX7_half 70 = .ok (.lsub, 1) := by decide +kernel
theorem dX7_half_71 : decode cX7_half 71 = .ok (.goto 6, 3) := by decide +kernel
theorem dX7_half_74 : decode cX7_half 74 = .ok (.ldc2_w 206, 3) := by decide +kernel
theorem dX7_half_77 : decode cX7_half 77 = .ok (.lreturn, 1) := by decide +kernel
theorem dX7_less_0 : decode cX7_less 0 = .ok (.aload_n 0, 1) := by decide +kernel
theorem dX7_less_1 : decode cX7_less 1 = .ok (.getfield 10, 3) := by decide +kernel
theorem dX7_less_4 : decode cX7_less 4 = .ok (.iload_n 1, 1) := by decide +kernel
theorem dX7_less_5 : decode cX7_less 5 = .ok (.invokevirtual 106, 3) := by decide +kernel
theorem dX7_less_8 : decode cX7_less 8 = .ok (.astore 5, 2) := by decide +kernel
theorem dX7_less_10 : decode cX7_less 10 = .ok (.aload 5, 2) := by decide +kernel
theorem dX7_less_12 : decode cX7_less 12 = .ok (.ifnull 14, 3) := by decide +kernel
theorem dX7_less_15 : decode cX7_less 15 = .ok (.aload_n 0, 1) := by decide +kernel
theorem dX7_less_16 : decode cX7_less 16 = .ok (.getfield 10, 3) := by decide +kernel
theorem dX7_less_19 : decode cX7_less 19 = .ok (.iload_n 2, 1) := by decide +kernel
theorem dX7_less_20 : decode cX7_less 20 = .ok (.invokevirtual 148, 3) := by decide +kernel
theorem dX7_less_23 : decode cX7_less 23 = .ok (.ifCond .ne 9, 3) := by decide +kernel
theorem dX7_less_26 : decode cX7_less 26 = .ok (.aload_n 0, 1) := by decide +kernel
theorem dX7_less_27 : decode cX7_less 27 = .ok (.iconst (-1), 1) := by decide +kernel
theorem dX7_less_28 : decode cX7_less 28 = .ok (.invokevirtual 74, 3) := by decide +kernel
theorem dX7_less_31 : decode cX7_less 31 = .ok (.ireturn, 1) := by decide +kernel
theorem dX7_less_32 : decode cX7_less 32 = .ok (.iload_n 3, 1) := by decide +kernel
theorem dX7_less_33 : decode cX7_less 33 = .ok (.iconst 0, 1) := by decide +kernel
theorem dX7_less_34 : decode cX7_less 34 = .ok (.bipush 100, 2) := by decide +kernel
theorem dX7_less_36 : decode cX7_less 36 = .ok (.invokestatic 66, 3) := by decide +kernel
theorem dX7_less_39 : decode cX7_less 39 = .ok (.iload 4, 2) := by decide +kernel
theorem dX7_less_41 : decode cX7_less 41 = .ok (.iconst 0, 1) := by decide +kernel
theorem dX7_less_42 : decode cX7_less 42 = .ok (.bipush 99, 2) := by decide +kernel
theorem dX7_less_44 : decode cX7_less 44 = .ok (.invokestatic 66, 3) := by decide +kernel
theorem dX7_less_47 : decode cX7_less 47 = .ok (.invokestatic 161, 3) := by decide +kernel
theorem dX7_less_50 : decode cX7_less 50 = .ok (.istore 6, 2) := by decide +kernel
theorem dX7_less_52 : decode cX7_less 52 = .ok (.iload 6, 2) := by decide +kernel
theorem dX7_less_54 : decode cX7_less 54 = .ok (.ifCond .eq 10, 3) := by decide +kernel
theorem dX7_less_57 : decode cX7_less 57 = .ok (.aload_n 0, 1) := by decide +kernel
theorem dX7_less_58 : decode cX7_less 58 = .ok (.iload 6, 2) := by decide +kernel
theorem dX7_less_60 : decode cX7_less 60 = .ok (.invokevirtual 74, 3) := by decide +kernel
theorem dX7_less_63 : decode cX7_less 63 = .ok (.ireturn, 1) := by decide +kernel
theorem dX7_less_64 : decode cX7_less 64 = .ok (.aload_n 0, 1) := by decide +kernel
theorem dX7_less_65 : decode cX7_less 65 = .ok (.getfield 34, 3) := by decide +kernel
theorem dX7_less_68 : decode cX7_less 68 = .ok (.iconst 0, 1) := by decide +kernel
theorem dX7_less_69 : decode cX7_less 69 = .ok (.iconst 0, 1) := by decide +kernel
theorem dX7_less_70 : decode cX7_less 70 = .ok (.iconst 0, 1) := by decide +kernel
theorem dX7_less_71 : decode cX7_less 71 = .ok (.invokevirtual 135, 3) := by decide +kernel
theorem dX7_less_74 : decode cX7_less 74 = .ok (.aload_n 0, 1) := by decide +kernel
theorem dX7_less_75 : decode cX7_less 75 = .ok (.getfield 41, 3) := by decide +kernel
theorem dX7_less_78 : decode cX7_less 78 = .ok (.aload_n 0, 1) := by decide +kernel
theorem dX7_less_79 : decode cX7_less 79 = .ok (.getfield 34, 3) := by decide +kernel
theorem dX7_less_82 : decode cX7_less 82 = .ok (.aload 5, 2) := by decide +kernel
theorem dX7_less_84 : decode cX7_less 84 = .ok (.iload_n 2, 1) := by decide +kernel
theorem dX7_less_85 : decode cX7_less 85 = .ok (.iload 4, 2) := by decide +kernel
theorem dX7_less_87 : decode cX7_less 87 = .ok (.invokevirtual 232, 3) := by decide +kernel
theorem dX7_less_90 : decode cX7_less 90 = .ok (.aload_n 0, 1) := by decide +kernel
theorem dX7_less_91 : decode cX7_less 91 = .ok (.getfield 41, 3) := by decide +kernel
theorem dX7_less_94 : decode cX7_less 94 = .ok (.iload_n 3, 1) := by decide +kernel
theorem dX7_less_95 : decode cX7_less 95 = .ok (.invokevirtual 235, 3) := by decide +kernel
theorem dX7_less_98 : decode cX7_less 98 = .ok (.ireturn, 1) := by decide +kernel
theorem dX7_looks_0 : decode cX7_looks 0 = .ok (.aload_n 0, 1) := by decide +kernel
theorem dX7_looks_1 : decode cX7_looks 1 = .ok (.getfield 10, 3) := by decide +kernel
theorem dX7_looks_4 : decode cX7_looks 4 = .ok (.iload_n 1, 1) := by decide +kernel
theorem dX7_looks_5 : decode cX7_looks 5 = .ok (.invokevirtual 106, 3) := by decide +kernel
theorem dX7_looks_8 : decode cX7_looks 8 = .ok (.astore 4, 2) := by decide +kernel
theorem dX7_looks_10 : decode cX7_looks 10 = .ok (.aload 4, 2) := by decide +kernel
theorem dX7_looks_12 : decode cX7_looks 12 = .ok (.ifnull 14, 3) := by decide +kernel
theorem dX7_looks_15 : decode cX7_looks 15 = .ok (.aload_n 0, 1) := by decide +kernel
theorem dX7_looks_16 : decode cX7_looks 16 = .ok (.getfield 10, 3) := by decide +kernel
theorem dX7_looks_19 : decode cX7_looks 19 = .ok (.iload_n 2, 1) := by decide +kernel
theorem dX7_looks_20 : decode cX7_looks 20 = .ok (.invokevirtual 148, 3) := by decide +kernel
theorem dX7_looks_23 : decode cX7_looks 23 = .ok (.ifCond .ne 9, 3) := by decide +kernel
theorem dX7_looks_26 : decode cX7_looks 26 = .ok (.aload_n 0, 1) := by decide +kernel
theorem dX7_looks_27 : decode cX7_looks 27 = .ok (.iconst (-1), 1) := by decide +kernel
theorem dX7_looks_28 : decode cX7_looks 28 = .ok (.invokevirtual 74, 3) := by decide +kernel
theorem dX7_looks_31 : decode cX7_looks 31 = .ok (.ireturn, 1) := by decide +kernel
theorem dX7_looks_32 : decode cX7_looks 32 = .ok (.iload_n 3, 1) := by decide +kernel
theorem dX7_looks_33 : decode cX7_looks 33 = .ok (.iconst 0, 1) := by decide +kernel
theorem dX7_looks_34 : decode cX7_looks 34 = .ok (.bipush 99, 2) := by decide +kernel
theorem dX7_looks_36 : decode cX7_looks 36 = .ok (.invokestatic 66, 3) := by decide +kernel
theorem dX7_looks_39 : decode cX7_looks 39 = .ok (.istore 5, 2) := by decide +kernel
theorem dX7_looks_41 : decode cX7_looks 41 = .ok (.iload 5, 2) := by decide +kernel
theorem dX7_looks_43 : decode cX7_looks 43 = .ok (.ifCond .eq 10, 3) := by decide +kernel
theorem dX7_looks_46 : decode cX7_looks 46 = .ok (.aload_n 0, 1) := by decide +kernel
theorem dX7_looks_47 : decode cX7_looks 47 = .ok (.iload 5, 2) := by decide +kernel
theorem dX7_looks_49 : decode cX7_looks 49 = .ok (.invokevirtual 74, 3) := by decide +kernel
theorem dX7_looks_52 : decode cX7_looks 52 = .ok (.ireturn, 1) := by decide +kernel
theorem dX7_looks_53 : decode cX7_looks 53 = .ok (.aload_n 0, 1) := by decide +kernel
theorem dX7_looks_54 : decode cX7_looks 54 = .ok (.getfield 34, 3) := by decide +kernel
theorem dX7_looks_57 : decode cX7_looks 57 = .ok (.iconst 0, 1) := by decide +kernel
theorem dX7_looks_58 : decode cX7_looks 58 = .ok (.iconst 0, 1) := by decide +kernel
theorem dX7_looks_59 : decode cX7_looks 59 = .ok (.iconst 0, 1) := by decide +kernel
theorem dX7_looks_60 : decode cX7_looks 60 = .ok (.invokevirtual 135, 3) := by decide +kernel
theorem dX7_looks_63 : decode cX7_looks 63 = .ok (.aload_n 0, 1) := by decide +kernel
theorem dX7_looks_64 : decode cX7_looks 64 = .ok (.getfield 41, 3) := by decide +kernel
theorem dX7_looks_67 : decode cX7_looks 67 = .ok (.aload_n 0, 1) := by decide +kernel
theorem dX7_looks_68 : decode cX7_looks 68 = .ok (.getfield 34, 3) := by decide +kernel
theorem dX7_looks_71 : decode cX7_looks 71 = .ok (.aload 4, 2) := by decide +kernel
theorem dX7_looks_73 : decode cX7_looks 73 = .ok (.iload_n 2, 1) := by decide +kernel
theorem dX7_looks_74 : decode cX7_looks 74 = .ok (.iload_n 3, 1) := by decide +kernel
theorem dX7_looks_75 : decode cX7_looks 75 = .ok (.invokevirtual 232, 3) := by decide +kernel
theorem dX7_looks_78 : decode cX7_looks 78 = .ok (.iconst 0, 1) := by decide +kernel
theorem dX7_looks_79 : decode cX7_looks 79 = .ok (.istore 6, 2) := by decide +kernel
theorem dX7_looks_81 : decode cX7_looks 81 = .ok (.iload 6, 2) := by decide +kernel
theorem dX7_looks_83 : decode cX7_looks 83 = .ok (.bipush 100, 2) := by decide +kernel
theorem dX7_looks_85 : decode cX7_looks 85 = .ok (.if_icmp .gt 24, 3) := by decide +kernel
theorem dX7_looks_88 : decode cX7_looks 88 = .ok (.aload_n 0, 1) := by decide +kernel
theorem dX7_looks_89 : decode cX7_looks 89 = .ok (.getfield 41, 3) := by decide +kernel
theorem dX7_looks_92 : decode cX7_looks 92 = .ok (.iload 6, 2) := by decide +kernel
theorem dX7_looks_94 : decode cX7_looks 94 = .ok (.invokevirtual 235, 3) := by decide +kernel
theorem dX7_looks_97 : decode cX7_looks 97 = .ok (.ifCond .ne 6, 3) := by decide +kernel
theorem dX7_looks_100 : decode cX7_looks 100 = .ok (.iload 6, 2) := by decide +kernel
theorem dX7_looks_102 : decode cX7_looks 102 = .ok (.ireturn, 1) := by decide +kernel
theorem dX7_looks_103 : decode cX7_looks 103 = .ok (.iinc 6 1, 3) := by decide +kernel
theorem dX7_looks_106 : decode cX7_looks 106 = .ok (.goto (-25), 3) := by decide +kernel
theorem dX7_looks_109 : decode cX7_looks 109 = .ok (.bipush (-9), 2) := by decide +kernel
theorem dX7_looks_111 : decode cX7_looks 111 = .ok (.ireturn, 1) := by decide +kernel
theorem dX7_years_0 : decode cX7_years 0 = .ok (.aload_n 0, 1) := by decide +kernel
theorem dX7_years_1 : decode cX7_years 1 = .ok (.getfield 10, 3) := by decide +kernel
theorem dX7_years_4 : decode cX7_years 4 = .ok (.iload_n 1, 1) := by decide +kernel
theorem dX7_years_5 : decode cX7_years 5 = .ok (.invokevirtual 106, 3) := by decide +kernel
theorem dX7_years_8 : decode cX7_years 8 = .ok (.astore 5, 2) := by decide +kernel
theorem dX7_years_10 : decode cX7_years 10 = .ok (.aload 5, 2) := by decide +kernel
theorem dX7_years_12 : decode cX7_years 12 = .ok (.ifnonnull 9, 3) := by decide +kernel
theorem dX7_years_15 : decode cX7_years 15 = .ok (.aload_n 0, 1) := by decide +kernel
theorem dX7_years_16 : decode cX7_years 16 = .ok (.iconst (-1), 1) := by decide +kernel
theorem dX7_years_17 : decode cX7_years 17 = .ok (.invokevirtual 171, 3) := by decide +kernel
theorem dX7_years_20 : decode cX7_years 20 = .ok (.lreturn, 1) := by decide +kernel
theorem dX7_years_21 : decode cX7_years 21 = .ok (.iload 4, 2) := by decide +kernel
theorem dX7_years_23 : decode cX7_years 23 = .ok (.ifCond .eq 16, 3) := by decide +kernel
theorem dX7_years_26 : decode cX7_years 26 = .ok (.iload 4, 2) := by decide +kernel
theorem dX7_years_28 : decode cX7_years 28 = .ok (.iconst 1, 1) := by decide +kernel
theorem dX7_years_29 : decode cX7_years 29 = .ok (.if_icmp .eq 10, 3) := by decide +kernel
theorem dX7_years_32 : decode cX7_years 32 = .ok (.aload_n 0, 1) := by decide +kernel
theorem dX7_years_33 : decode cX7_years 33 = .ok (.bipush (-2), 2) := by decide +kernel
theorem dX7_years_35 : decode cX7_years 35 = .ok (.invokevirtual 171, 3) := by decide +kernel
theorem dX7_years_38 : decode cX7_years 38 = .ok (.lreturn, 1) := by decide +kernel
theorem dX7_years_39 : decode cX7_years 39 = .ok (.iload_n 2, 1) := by decide +kernel
theorem dX7_years_40 : decode cX7_years 40 = .ok (.iconst 0, 1) := by decide +kernel
theorem dX7_years_41 : decode cX7_years 41 = .ok (.iconst 3, 1) := by decide +kernel
theorem dX7_years_42 : decode cX7_years 42 = .ok (.invokestatic 66, 3) := by decide +kernel
theorem dX7_years_45 : decode cX7_years 45 = .ok (.iload_n 3, 1) := by decide +kernel
theorem dX7_years_46 : decode cX7_years 46 = .ok (.iconst 1, 1) := by decide +kernel
theorem dX7_years_47 : decode cX7_years 47 = .ok (.bipush 10, 2) := by decide +kernel
theorem dX7_years_49 : decode cX7_years 49 = .ok (.invokestatic 66, 3) := by decide +kernel
theorem dX7_years_52 : decode cX7_years 52 = .ok (.invokestatic 161, 3) := by decide +kernel
theorem dX7_years_55 : decode cX7_years 55 = .ok (.istore 6, 2) := by decide +kernel
theorem dX7_years_57 : decode cX7_years 57 = .ok (.iload 6, 2) := by decide +kernel
theorem dX7_years_59 : decode cX7_years 59 = .ok (.ifCond .eq 10, 3) := by decide +kernel
theorem dX7_years_62 : decode cX7_years 62 = .ok (.aload_n 0, 1) := by decide +kernel
theorem dX7_years_63 : decode cX7_years 63 = .ok (.iload 6, 2) := by decide +kernel
theorem dX7_years_65 : decode cX7_years 65 = .ok (.invokevirtual 171, 3) := by decide +kernel
theorem dX7_years_68 : decode cX7_years 68 = .ok (.lreturn, 1) := by decide +kernel
theorem dX7_years_69 : decode cX7_years 69 = .ok (.aload_n 0, 1) := by decide +kernel
theorem dX7_years_70 : decode cX7_years 70 = .ok (.getfield 48, 3) := by decide +kernel
theorem dX7_years_73 : decode cX7_years 73 = .ok (.aload_n 0, 1) := by decide +kernel
theorem dX7_years_74 : decode cX7_years 74 = .ok (.getfield 34, 3) := by decide +kernel
theorem dX7_years_77 : decode cX7_years 77 = .ok (.aload 5, 2) := by decide +kernel
theorem dX7_years_79 : decode cX7_years 79 = .ok (.iload_n 3, 1) := by decide +kernel
theorem dX7_years_80 : decode cX7_years 80 = .ok (.invokevirtual 238, 3) := by decide +kernel
theorem dX7_years_83 : decode cX7_years 83 = .ok (.aload_n 0, 1) := by decide +kernel
theorem dX7_years_84 : decode cX7_years 84 = .ok (.getfield 48, 3) := by decide +kernel
theorem dX7_years_87 : decode cX7_years 87 = .ok (.iconst 0, 1) := by decide +kernel
theorem dX7_years_88 : decode cX7_years 88 = .ok (.invokevirtual 241, 3) := by decide +kernel
theorem dX7_years_91 : decode cX7_years 91 = .ok (.iload 4, 2) := by decide +kernel
theorem dX7_years_93 : decode cX7_years 93 = .ok (.ifCond .ne 14, 3) := by decide +kernel
theorem dX7_years_96 : decode cX7_years 96 = .ok (.aload_n 0, 1) := by decide +kernel
theorem dX7_years_97 : decode cX7_years 97 = .ok (.getfield 48, 3) := by decide +kernel
theorem dX7_years_100 : decode cX7_years 100 = .ok (.iload_n 2, 1) := by decide +kernel
theorem dX7_years_101 : decode cX7_years 101 = .ok (.invokevirtual 244, 3) := by decide +kernel
theorem dX7_years_104 : decode cX7_years 104 = .ok (.goto 12, 3) := by decide +kernel
theorem dX7_years_107 : decode cX7_years 107 = .ok (.aload_n 0, 1) := by decide +kernel
theorem dX7_years_108 : decode cX7_years 108 = .ok (.getfield 48, 3) := by decide +kernel
theorem dX7_years_111 : decode cX7_years 111 = .ok (.iconst 0, 1) := by decide +kernel
theorem dX7_years_112 : decode cX7_years 112 = .ok (.iload_n 2, 1) := by decide +kernel
theorem dX7_years_113 : decode cX7_years 113 = .ok (.invokevirtual 247, 3) := by decide +kernel
theorem dX7_years_116 : decode cX7_years 116 = .ok (.lreturn, 1) := by decide +kernel
theorem dX7_leaving_0 : decode cX7_leaving 0 = .ok (.aload_n 0, 1) := by decide +kernel
theorem dX7_leaving_1 : decode cX7_leaving 1 = .ok (.getfield 10, 3) := by decide +kernel
theorem dX7_leaving_4 : decode cX7_leaving 4 = .ok (.iload_n 1, 1) := by decide +kernel
theorem dX7_leaving_5 : decode cX7_leaving 5 = .ok (.invokevirtual 106, 3) := by decide +kernel
theorem dX7_leaving_8 : decode cX7_leaving 8 = .ok (.astore_n 3, 1) := by decide +kernel
theorem dX7_leaving_9 : decode cX7_leaving 9 = .ok (.aload_n 3, 1) := by decide +kernel
theorem dX7_leaving_10 : decode cX7_leaving 10 = .ok (.ifnonnull 9, 3) := by decide +kernel
theorem dX7_leaving_13 : decode cX7_leaving 13 = .ok (.aload_n 0, 1) := by decide +kernel
theorem dX7_leaving_14 : decode cX7_leaving 14 = .ok (.iconst (-1), 1) := by decide +kernel
theorem dX7_leaving_15 : decode cX7_leaving 15 = .ok (.invokevirtual 74, 3) := by decide +kernel
theorem dX7_leaving_18 : decode cX7_leaving 18 = .ok (.ireturn, 1) := by decide +kernel
theorem dX7_leaving_19 : decode cX7_leaving 19 = .ok (.iload_n 2, 1) := by decide +kernel
theorem dX7_leaving_20 : decode cX7_leaving 20 = .ok (.iconst 1, 1) := by decide +kernel
theorem dX7_leaving_21 : decode cX7_leaving 21 = .ok (.bipush 10, 2) := by decide +kernel
theorem dX7_leaving_23 : decode cX7_leaving 23 = .ok (.invokestatic 66, 3) := by decide +kernel
theorem dX7_leaving_26 : decode cX7_leaving 26 = .ok (.istore 4, 2) := by decide +kernel
theorem dX7_leaving_28 : decode cX7_leaving 28 = .ok (.iload 4, 2) := by decide +kernel
theorem dX7_leaving_30 : decode cX7_leaving 30 = .ok (.ifCond .eq 10, 3) := by decide +kernel
theorem dX7_leaving_33 : decode cX7_leaving 33 = .ok (.aload_n 0, 1) := by decide +kernel
theorem dX7_leaving_34 : decode cX7_leaving 34 = .ok (.iload 4, 2) := by decide +kernel
theorem dX7_leaving_36 : decode cX7_leaving 36 = .ok (.invokevirtual 74, 3) := by decide +kernel
theorem dX7_leaving_39 : decode cX7_leaving 39 = .ok (.ireturn, 1) := by decide +kernel
theorem dX7_leaving_40 : decode cX7_leaving 40 = .ok (.aload_n 0, 1) := by decide +kernel
theorem dX7_leaving_41 : decode cX7_leaving 41 = .ok (.getfield 48, 3) := by decide +kernel
theorem dX7_leaving_44 : decode cX7_leaving 44 = .ok (.aload_n 0, 1) := by decide +kernel
theorem dX7_leaving_45 : decode cX7_leaving 45 = .ok (.getfield 34, 3) := by decide +kernel
theorem dX7_leaving_48 : decode cX7_leaving 48 = .ok (.aload_n 3, 1) := by decide +kernel
theorem dX7_leaving_49 : decode cX7_leaving 49 = .ok (.iload_n 2, 1) := by decide +kernel
theorem dX7_leaving_50 : decode cX7_leaving 50 = .ok (.invokevirtual 238, 3) := by decide +kernel
theorem dX7_leaving_53 : decode cX7_leaving 53 = .ok (.iconst 0, 1) := by decide +kernel
theorem dX7_leaving_54 : decode cX7_leaving 54 = .ok (.istore 5, 2) := by decide +kernel
theorem dX7_leaving_56 : decode cX7_leaving 56 = .ok (.iload 5, 2) := by decide +kernel
theorem dX7_leaving_58 : decode cX7_leaving 58 = .ok (.bipush 99, 2) := by decide +kernel
theorem dX7_leaving_60 : decode cX7_leaving 60 = .ok (.if_icmp .gt 40, 3) := by decide +kernel
theorem dX7_leaving_63 : decode cX7_leaving 63 = .ok (.aload_n 0, 1) := by decide +kernel
theorem dX7_leaving_64 : decode cX7_leaving 64 = .ok (.getfield 48, 3) := by decide +kernel
theorem dX7_leaving_67 : decode cX7_leaving 67 = .ok (.iload 5, 2) := by decide +kernel
theorem dX7_leaving_69 : decode cX7_leaving 69 = .ok (.invokevirtual 241, 3) := by decide +kernel
theorem dX7_leaving_72 : decode cX7_leaving 72 = .ok (.aload_n 0, 1) := by decide +kernel
theorem dX7_leaving_73 : decode cX7_leaving 73 = .ok (.getfield 48, 3) := by decide +kernel
theorem dX7_leaving_76 : decode cX7_leaving 76 = .ok (.iconst 0, 1) := by decide +kernel
theorem dX7_leaving_77 : decode cX7_leaving 77 = .ok (.invokevirtual 244, 3) := by decide +kernel
theorem dX7_leaving_80 : decode cX7_leaving 80 = .ok (.iload_n 2, 1) := by decide +kernel
theorem dX7_leaving_81 : decode cX7_leaving 81 = .ok (.iconst 1, 1) := by decide +kernel
theorem dX7_leaving_82 : decode cX7_leaving 82 = .ok (.isub, 1) := by decide +kernel
theorem dX7_leaving_83 : decode cX7_leaving 83 = .ok (.lshr, 1) := by decide +kernel
theorem dX7_leaving_84 : decode cX7_leaving 84 = .ok (.lconst 1, 1) := by decide +kernel
theorem dX7_leaving_85 : decode cX7_leaving 85 = .ok (.land, 1) := by decide +kernel
theorem dX7_leaving_86 : decode cX7_leaving 86 = .ok (.lconst 1, 1) := by decide +kernel
theorem dX7_leaving_87 : decode cX7_leaving 87 = .ok (.lcmp, 1) := by decide +kernel
theorem dX7_leaving_88 : decode cX7_leaving 88 = .ok (.ifCond .ne 6, 3) := by decide +kernel
theorem dX7_leaving_91 : decode cX7_leaving 91 = .ok (.iload 5, 2) := by decide +kernel
theorem dX7_leaving_93 : decode cX7_leaving 93 = .ok (.ireturn, 1) := by decide +kernel
theorem dX7_leaving_94 : decode cX7_leaving 94 = .ok (.iinc 5 1, 3) := by decide +kernel
theorem dX7_leaving_97 : decode cX7_leaving 97 = .ok (.goto (-41), 3) := by decide +kernel
theorem dX7_leaving_100 : decode cX7_leaving 100 = .ok (.bipush (-9), 2) := by decide +kernel
theorem dX7_leaving_102 : decode cX7_leaving 102 = .ok (.ireturn, 1) := by decide +kernel
theorem dX7_offer_0 : decode cX7_offer 0 = .ok (.aload_n 0, 1) := by decide +kernel
theorem dX7_offer_1 : decode cX7_offer 1 = .ok (.getfield 10, 3) := by decide +kernel
theorem dX7_offer_4 : decode cX7_offer 4 = .ok (.iload_n 1, 1) := by decide +kernel
theorem dX7_offer_5 : decode cX7_offer 5 = .ok (.invokevirtual 106, 3) := by decide +kernel
theorem dX7_offer_8 : decode cX7_offer 8 = .ok (.astore 4, 2) := by decide +kernel
theorem dX7_offer_10 : decode cX7_offer 10 = .ok (.aload_n 0, 1) := by decide +kernel
theorem dX7_offer_11 : decode cX7_offer 11 = .ok (.getfield 10, 3) := by decide +kernel
theorem dX7_offer_14 : decode cX7_offer 14 = .ok (.iload_n 2, 1) := by decide +kernel
theorem dX7_offer_15 : decode cX7_offer 15 = .ok (.invokevirtual 106, 3) := by decide +kernel
theorem dX7_offer_18 : decode cX7_offer 18 = .ok (.astore 5, 2) := by decide +kernel
theorem dX7_offer_20 : decode cX7_offer 20 = .ok (.aload 4, 2) := by decide +kernel
theorem dX7_offer_22 : decode cX7_offer 22 = .ok (.ifnull 18, 3) := by decide +kernel
theorem dX7_offer_25 : decode cX7_offer 25 = .ok (.aload 5, 2) := by decide +kernel
theorem dX7_offer_27 : decode cX7_offer 27 = .ok (.ifnull 13, 3) := by decide +kernel
theorem dX7_offer_30 : decode cX7_offer 30 = .ok (.iload_n 3, 1) := by decide +kernel
theorem dX7_offer_31 : decode cX7_offer 31 = .ok (.ifCond .lt 9, 3) := by decide +kernel
theorem dX7_offer_34 : decode cX7_offer 34 = .ok (.iload_n 3, 1) := by decide +kernel
theorem dX7_offer_35 : decode cX7_offer 35 = .ok (.bipush 9, 2) := by decide +kernel
theorem dX7_offer_37 : decode cX7_offer 37 = .ok (.if_icmp .le 9, 3) := by decide +kernel
theorem dX7_offer_40 : decode cX7_offer 40 = .ok (.aload_n 0, 1) := by decide +kernel
theorem dX7_offer_41 : decode cX7_offer 41 = .ok (.iconst (-1), 1) := by decide +kernel
theorem dX7_offer_42 : decode cX7_offer 42 = .ok (.invokevirtual 74, 3) := by decide +kernel
theorem dX7_offer_45 : decode cX7_offer 45 = .ok (.ireturn, 1) := by decide +kernel
theorem dX7_offer_46 : decode cX7_offer 46 = .ok (.aload_n 0, 1) := by decide +kernel
theorem dX7_offer_47 : decode cX7_offer 47 = .ok (.aload 4, 2) := by decide +kernel
theorem dX7_offer_49 : decode cX7_offer 49 = .ok (.aload 5, 2) := by decide +kernel
theorem dX7_offer_51 : decode cX7_offer 51 = .ok (.iload_n 3, 1) := by decide +kernel
theorem dX7_offer_52 : decode cX7_offer 52 = .ok (.invokevirtual 251, 3) := by decide +kernel
theorem dX7_offer_55 : decode cX7_offer 55 = .ok (.ireturn, 1) := by decide +kernel
theorem dX7_parts_0 : decode cX7_parts 0 = .ok (.aload_n 0, 1) := by decide +kernel
theorem dX7_parts_1 : decode cX7_parts 1 = .ok (.getfield 10, 3) := by decide +kernel
theorem dX7_parts_4 : decode cX7_parts 4 = .ok (.iload_n 1, 1) := by decide +kernel
theorem dX7_parts_5 : decode cX7_parts 5 = .ok (.invokevirtual 106, 3) := by decide +kernel
theorem dX7_parts_8 : decode cX7_parts 8 = .ok (.astore 4, 2) := by decide +kernel
theorem dX7_parts_10 : decode cX7_parts 10 = .ok (.aload_n 0, 1) := by decide +kernel
theorem dX7_parts_11 : decode cX7_parts 11 = .ok (.getfield 10, 3) := by decide +kernel
theorem dX7_parts_14 : decode cX7_parts 14 = .ok (.iload_n 2, 1) := by decide +kernel
theorem dX7_parts_15 : decode cX7_parts 15 = .ok (.invokevirtual 106, 3) := by decide +kernel
theorem dX7_parts_18 : decode cX7_parts 18 = .ok (.astore 5, 2) := by decide +kernel
theorem dX7_parts_20 : decode cX7_parts 20 = .ok (.aload 4, 2) := by decide +kernel
theorem dX7_parts_22 : decode cX7_parts 22 = .ok (.ifnull 19, 3) := by decide +kernel
theorem dX7_parts_25 : decode cX7_parts 25 = .ok (.aload 5, 2) := by decide +kernel
theorem dX7_parts_27 : decode cX7_parts 27 = .ok (.ifnull 14, 3) := by decide +kernel
theorem dX7_parts_30 : decode cX7_parts 30 = .ok (.iload_n 3, 1) := by decide +kernel
theorem dX7_parts_31 : decode cX7_parts 31 = .ok (.iconst 1, 1) := by decide +kernel
theorem dX7_parts_32 : decode cX7_parts 32 = .ok (.if_icmp .lt 9, 3) := by decide +kernel
theorem dX7_parts_35 : decode cX7_parts 35 = .ok (.iload_n 3, 1) := by decide +kernel
theorem dX7_parts_36 : decode cX7_parts 36 = .ok (.bipush 9, 2) := by decide +kernel
theorem dX7_parts_38 : decode cX7_parts 38 = .ok (.if_icmp .le 9, 3) := by decide +kernel
theorem dX7_parts_41 : decode cX7_parts 41 = .ok (.aload_n 0, 1) := by decide +kernel
theorem dX7_parts_42 : decode cX7_parts 42 = .ok (.iconst (-1), 1) := by decide +kernel
theorem dX7_parts_43 : decode cX7_parts 43 = .ok (.invokevirtual 74, 3) := by decide +kernel
theorem dX7_parts_46 : decode cX7_parts 46 = .ok (.ireturn, 1) := by decide +kernel
theorem dX7_parts_47 : decode cX7_parts 47 = .ok (.aload_n 0, 1) := by decide +kernel
theorem dX7_parts_48 : decode cX7_parts 48 = .ok (.aload 4, 2) := by decide +kernel
theorem dX7_parts_50 : decode cX7_parts 50 = .ok (.aload 5, 2) := by decide +kernel
theorem dX7_parts_52 : decode cX7_parts 52 = .ok (.iconst 0, 1) := by decide +kernel
theorem dX7_parts_53 : decode cX7_parts 53 = .ok (.invokevirtual 251, 3) := by decide +kernel
theorem dX7_parts_56 : decode cX7_parts 56 = .ok (.aload_n 0, 1) := by decide +kernel
theorem dX7_parts_57 : decode cX7_parts 57 = .ok (.aload 4, 2) := by decide +kernel
theorem dX7_parts_59 : decode cX7_parts 59 = .ok (.aload 5, 2) := by decide +kernel
theorem dX7_parts_61 : decode cX7_parts 61 = .ok (.iload_n 3, 1) := by decide +kernel
theorem dX7_parts_62 : decode cX7_parts 62 = .ok (.invokevirtual 251, 3) := by decide +kernel
theorem dX7_parts_65 : decode cX7_parts 65 = .ok (.if_icmp .eq 7, 3) := by decide +kernel
theorem dX7_parts_68 : decode cX7_parts 68 = .ok (.iconst 1, 1) := by decide +kernel
theorem dX7_parts_69 : decode cX7_parts 69 = .ok (.goto 4, 3) := by decide +kernel
theorem dX7_parts_72 : decode cX7_parts 72 = .ok (.iconst 0, 1) := by decide +kernel
theorem dX7_parts_73 : decode cX7_parts 73 = .ok (.ireturn, 1) := by decide +kernel
theorem dX7_own_0 : decode cX7_own 0 = .ok (.aload_n 0, 1) := by decide +kernel
theorem dX7_own_1 : decode cX7_own 1 = .ok (.getfield 10, 3) := by decide +kernel
theorem dX7_own_4 : decode cX7_own 4 = .ok (.iload_n 1, 1) := by decide +kernel
theorem dX7_own_5 : decode cX7_own 5 = .ok (.invokevirtual 106, 3) := by decide +kernel
theorem dX7_own_8 : decode cX7_own 8 = .ok (.astore_n 3, 1) := by decide +kernel
theorem dX7_own_9 : decode cX7_own 9 = .ok (.aload_n 3, 1) := by decide +kernel
theorem dX7_own_10 : decode cX7_own 10 = .ok (.ifnonnull 9, 3) := by decide +kernel
theorem dX7_own_13 : decode cX7_own 13 = .ok (.aload_n 0, 1) := by decide +kernel
theorem dX7_own_14 : decode cX7_own 14 = .ok (.iconst (-1), 1) := by decide +kernel
theorem dX7_own_15 : decode cX7_own 15 = .ok (.invokevirtual 74, 3) := by decide +kernel
theorem dX7_own_18 : decode cX7_own 18 = .ok (.ireturn, 1) := by decide +kernel
theorem dX7_own_19 : decode cX7_own 19 = .ok (.iload_n 2, 1) := by decide +kernel
theorem dX7_own_20 : decode cX7_own 20 = .ok (.iconst 0, 1) := by decide +kernel
theorem dX7_own_21 : decode cX7_own 21 = .ok (.bipush 99, 2) := by decide +kernel
theorem dX7_own_23 : decode cX7_own 23 = .ok (.invokestatic 66, 3) := by decide +kernel
theorem dX7_own_26 : decode cX7_own 26 = .ok (.istore 4, 2) := by decide +kernel
theorem dX7_own_28 : decode cX7_own 28 = .ok (.iload 4, 2) := by decide +kernel
theorem dX7_own_30 : decode cX7_own 30 = .ok (.ifCond .eq 10, 3) := by decide +kernel
theorem dX7_own_33 : decode cX7_own 33 = .ok (.aload_n 0, 1) := by decide +kernel
theorem dX7_own_34 : decode cX7_own 34 = .ok (.iload 4, 2) := by decide +kernel
theorem dX7_own_36 : decode cX7_own 36 = .ok (.invokevirtual 74, 3) := by decide +kernel
theorem dX7_own_39 : decode cX7_own 39 = .ok (.ireturn, 1) := by decide +kernel
theorem dX7_own_40 : decode cX7_own 40 = .ok (.aload_n 0, 1) := by decide +kernel
theorem dX7_own_41 : decode cX7_own 41 = .ok (.getfield 34, 3) := by decide +kernel
theorem dX7_own_44 : decode cX7_own 44 = .ok (.iconst 0, 1) := by decide +kernel
theorem dX7_own_45 : decode cX7_own 45 = .ok (.iconst 0, 1) := by decide +kernel
theorem dX7_own_46 : decode cX7_own 46 = .ok (.iconst 0, 1) := by decide +kernel
theorem dX7_own_47 : decode cX7_own 47 = .ok (.invokevirtual 135, 3) := by decide +kernel
theorem dX7_own_50 : decode cX7_own 50 = .ok (.aload_n 0, 1) := by decide +kernel
theorem dX7_own_51 : decode cX7_own 51 = .ok (.getfield 34, 3) := by decide +kernel
theorem dX7_own_54 : decode cX7_own 54 = .ok (.aload_n 3, 1) := by decide +kernel
theorem dX7_own_55 : decode cX7_own 55 = .ok (.iload_n 2, 1) := by decide +kernel
theorem dX7_own_56 : decode cX7_own 56 = .ok (.invokevirtual 255, 3) := by decide +kernel
theorem dX7_own_59 : decode cX7_own 59 = .ok (.ireturn, 1) := by decide +kernel
theorem dX7_bears_0 : decode cX7_bears 0 = .ok (.aload_n 0, 1) := by decide +kernel
theorem dX7_bears_1 : decode cX7_bears 1 = .ok (.getfield 10, 3) := by decide +kernel
theorem dX7_bears_4 : decode cX7_bears 4 = .ok (.iload_n 1, 1) := by decide +kernel
theorem dX7_bears_5 : decode cX7_bears 5 = .ok (.invokevirtual 106, 3) := by decide +kernel
theorem dX7_bears_8 : decode cX7_bears 8 = .ok (.astore_n 3, 1) := by decide +kernel
theorem dX7_bears_9 : decode cX7_bears 9 = .ok (.aload_n 3, 1) := by decide +kernel
theorem dX7_bears_10 : decode cX7_bears 10 = .ok (.ifnonnull 9, 3) := by decide +kernel
theorem dX7_bears_13 : decode cX7_bears 13 = .ok (.aload_n 0, 1) := by decide +kernel
theorem dX7_bears_14 : decode cX7_bears 14 = .ok (.iconst (-1), 1) := by decide +kernel
theorem dX7_bears_15 : decode cX7_bears 15 = .ok (.invokevirtual 171, 3) := by decide +kernel
theorem dX7_bears_18 : decode cX7_bears 18 = .ok (.lreturn, 1) := by decide +kernel
theorem dX7_bears_19 : decode cX7_bears 19 = .ok (.iload_n 2, 1) := by decide +kernel
theorem dX7_bears_20 : decode cX7_bears 20 = .ok (.iconst 0, 1) := by decide +kernel
theorem dX7_bears_21 : decode cX7_bears 21 = .ok (.bipush 50, 2) := by decide +kernel
theorem dX7_bears_23 : decode cX7_bears 23 = .ok (.invokestatic 66, 3) := by decide +kernel
theorem dX7_bears_26 : decode cX7_bears 26 = .ok (.istore 4, 2) := by decide +kernel
theorem dX7_bears_28 : decode cX7_bears 28 = .ok (.iload 4, 2) := by decide +kernel
theorem dX7_bears_30 : decode cX7_bears 30 = .ok (.ifCond .eq 10, 3) := by decide +kernel
theorem dX7_bears_33 : decode cX7_bears 33 = .ok (.aload_n 0, 1) := by decide +kernel
theorem dX7_bears_34 : decode cX7_bears 34 = .ok (.iload 4, 2) := by decide +kernel
theorem dX7_bears_36 : decode cX7_bears 36 = .ok (.invokevirtual 171, 3) := by decide +kernel
theorem dX7_bears_39 : decode cX7_bears 39 = .ok (.lreturn, 1) := by decide +kernel
theorem dX7_bears_40 : decode cX7_bears 40 = .ok (.aload_n 0, 1) := by decide +kernel
theorem dX7_bears_41 : decode cX7_bears 41 = .ok (.getfield 34, 3) := by decide +kernel
theorem dX7_bears_44 : decode cX7_bears 44 = .ok (.iconst 0, 1) := by decide +kernel
theorem dX7_bears_45 : decode cX7_bears 45 = .ok (.iconst 0, 1) := by decide +kernel
theorem dX7_bears_46 : decode cX7_bears 46 = .ok (.iconst 0, 1) := by decide +kernel
theorem dX7_bears_47 : decode cX7_bears 47 = .ok (.invokevirtual 135, 3) := by decide +kernel
theorem dX7_bears_50 : decode cX7_bears 50 = .ok (.aload_n 0, 1) := by decide +kernel
theorem dX7_bears_51 : decode cX7_bears 51 = .ok (.aload_n 3, 1) := by decide +kernel
theorem dX7_bears_52 : decode cX7_bears 52 = .ok (.invokevirtual 212, 3) := by decide +kernel
theorem dX7_bears_55 : decode cX7_bears 55 = .ok (.lstore 5, 2) := by decide +kernel
theorem dX7_bears_57 : decode cX7_bears 57 = .ok (.aload_n 0, 1) := by decide +kernel
theorem dX7_bears_58 : decode cX7_bears 58 = .ok (.getfield 34, 3) := by decide +kernel
theorem dX7_bears_61 : decode cX7_bears 61 = .ok (.iconst 0, 1) := by decide +kernel
theorem dX7_bears_62 : decode cX7_bears 62 = .ok (.iconst 0, 1) := by decide +kernel
theorem dX7_bears_63 : decode cX7_bears 63 = .ok (.iload_n 2, 1) := by decide +kernel
theorem dX7_bears_64 : decode cX7_bears 64 = .ok (.invokevirtual 135, 3) := by decide +kernel
theorem dX7_bears_67 : decode cX7_bears 67 = .ok (.lload 5, 2) := by decide +kernel
theorem dX7_bears_69 : decode cX7_bears 69 = .ok (.aload_n 0, 1) := by decide +kernel
theorem dX7_bears_70 : decode cX7_bears 70 = .ok (.aload_n 3, 1) := by decide +kernel
theorem dX7_bears_71 : decode cX7_bears 71 = .ok (.invokevirtual 212, 3) := by decide +kernel
theorem dX7_bears_74 : decode cX7_bears 74 = .ok (.lsub, 1) := by decide +kernel
theorem dX7_bears_75 : decode cX7_bears 75 = .ok (.lreturn, 1) := by decide +kernel
theorem dX7_ruin_0 : decode cX7_ruin 0 = .ok (.aload_n 0, 1) := by decide +kernel
theorem dX7_ruin_1 : decode cX7_ruin 1 = .ok (.getfield 10, 3) := by decide +kernel
theorem dX7_ruin_4 : decode cX7_ruin 4 = .ok (.iload_n 1, 1) := by decide +kernel
theorem dX7_ruin_5 : decode cX7_ruin 5 = .ok (.invokevirtual 106, 3) := by decide +kernel
theorem dX7_ruin_8 : decode cX7_ruin 8 = .ok (.astore 7, 2) := by decide +kernel
theorem dX7_ruin_10 : decode cX7_ruin 10 = .ok (.aload 7, 2) := by decide +kernel
theorem dX7_ruin_12 : decode cX7_ruin 12 = .ok (.ifnull 14, 3) := by decide +kernel
theorem dX7_ruin_15 : decode cX7_ruin 15 = .ok (.aload_n 0, 1) := by decide +kernel
theorem dX7_ruin_16 : decode cX7_ruin 16 = .ok (.getfield 10, 3) := by decide +kernel
theorem dX7_ruin_19 : decode cX7_ruin 19 = .ok (.iload_n 2, 1) := by decide +kernel
theorem dX7_ruin_20 : decode cX7_ruin 20 = .ok (.invokevirtual 148, 3) := by decide +kernel
theorem dX7_ruin_23 : decode cX7_ruin 23 = .ok (.ifCond .ne 9, 3) := by decide +kernel
theorem dX7_ruin_26 : decode cX7_ruin 26 = .ok (.aload_n 0, 1) := by decide +kernel
theorem dX7_ruin_27 : decode cX7_ruin 27 = .ok (.iconst (-1), 1) := by decide +kernel
theorem dX7_ruin_28 : decode cX7_ruin 28 = .ok (.invokevirtual 74, 3) := by decide +kernel
theorem dX7_ruin_31 : decode cX7_ruin 31 = .ok (.ireturn, 1) := by decide +kernel
theorem dX7_ruin_32 : decode cX7_ruin 32 = .ok (.iload 4, 2) := by decide +kernel
theorem dX7_ruin_34 : decode cX7_ruin 34 = .ok (.iload 6, 2) := by decide +kernel
theorem dX7_ruin_36 : decode cX7_ruin 36 = .ok (.invokestatic 259, 3) := by decide +kernel
theorem dX7_ruin_39 : decode cX7_ruin 39 = .ok (.iload 5, 2) := by decide +kernel
theorem dX7_ruin_41 : decode cX7_ruin 41 = .ok (.iconst 0, 1) := by decide +kernel
theorem dX7_ruin_42 : decode cX7_ruin 42 = .ok (.sipush 999, 3) := by decide +kernel
theorem dX7_ruin_45 : decode cX7_ruin 45 = .ok (.invokestatic 66, 3) := by decide +kernel
theorem dX7_ruin_48 : decode cX7_ruin 48 = .ok (.invokestatic 161, 3) := by decide +kernel
theorem dX7_ruin_51 : decode cX7_ruin 51 = .ok (.istore 8, 2) := by decide +kernel
theorem dX7_ruin_53 : decode cX7_ruin 53 = .ok (.iload 8, 2) := by decide +kernel
theorem dX7_ruin_55 : decode cX7_ruin 55 = .ok (.ifCond .eq 10, 3) := by decide +kernel
theorem dX7_ruin_58 : decode cX7_ruin 58 = .ok (.aload_n 0, 1) := by decide +kernel
theorem dX7_ruin_59 : decode cX7_ruin 59 = .ok (.iload 8, 2) := by decide +kernel
theorem dX7_ruin_61 : decode cX7_ruin 61 = .ok (.invokevirtual 74, 3) := by decide +kernel
theorem dX7_ruin_64 : decode cX7_ruin 64 = .ok (.ireturn, 1) := by decide +kernel
theorem dX7_ruin_65 : decode cX7_ruin 65 = .ok (.aload_n 0, 1) := by decide +kernel
theorem dX7_ruin_66 : decode cX7_ruin 66 = .ok (.getfield 34, 3) := by decide +kernel
theorem dX7_ruin_69 : decode cX7_ruin 69 = .ok (.iconst 0, 1) := by decide +kernel
theorem dX7_ruin_70 : decode cX7_ruin 70 = .ok (.iconst 0, 1) := by decide +kernel
theorem dX7_ruin_71 : decode cX7_ruin 71 = .ok (.iconst 0, 1) := by decide +kernel
theorem dX7_ruin_72 : decode cX7_ruin 72 = .ok (.invokevirtual 135, 3) := by decide +kernel
theorem dX7_ruin_75 : decode cX7_ruin 75 = .ok (.aload_n 0, 1) := by decide +kernel
theorem dX7_ruin_76 : decode cX7_ruin 76 = .ok (.aload 7, 2) := by decide +kernel
theorem dX7_ruin_78 : decode cX7_ruin 78 = .ok (.iload_n 2, 1) := by decide +kernel
theorem dX7_ruin_79 : decode cX7_ruin 79 = .ok (.iload_n 3, 1) := by decide +kernel
theorem dX7_ruin_80 : decode cX7_ruin 80 = .ok (.iload 4, 2) := by decide +kernel
theorem dX7_ruin_82 : decode cX7_ruin 82 = .ok (.iload 5, 2) := by decide +kernel
theorem dX7_ruin_84 : decode cX7_ruin 84 = .ok (.iload 6, 2) := by decide +kernel
theorem dX7_ruin_86 : decode cX7_ruin 86 = .ok (.invokevirtual 262, 3) := by decide +kernel
theorem dX7_ruin_89 : decode cX7_ruin 89 = .ok (.ireturn, 1) := by decide +kernel
theorem dX7_owes_0 : decode cX7_owes 0 = .ok (.aload_n 0, 1) := by decide +kernel
theorem dX7_owes_1 : decode cX7_owes 1 = .ok (.getfield 10, 3) := by decide +kernel
theorem dX7_owes_4 : decode cX7_owes 4 = .ok (.iload_n 1, 1) := by decide +kernel
theorem dX7_owes_5 : decode cX7_owes 5 = .ok (.invokevirtual 106, 3) := by decide +kernel
theorem dX7_owes_8 : decode cX7_owes 8 = .ok (.astore 6, 2) := by decide +kernel
theorem dX7_owes_10 : decode cX7_owes 10 = .ok (.aload 6, 2) := by decide +kernel
theorem dX7_owes_12 : decode cX7_owes 12 = .ok (.ifnull 14, 3) := by decide +kernel
theorem dX7_owes_15 : decode cX7_owes 15 = .ok (.aload_n 0, 1) := by decide +kernel
theorem dX7_owes_16 : decode cX7_owes 16 = .ok (.getfield 10, 3) := by decide +kernel
theorem dX7_owes_19 : decode cX7_owes 19 = .ok (.iload_n 2, 1) := by decide +kernel
theorem dX7_owes_20 : decode cX7_owes 20 = .ok (.invokevirtual 148, 3) := by decide +kernel
theorem dX7_owes_23 : decode cX7_owes 23 = .ok (.ifCond .ne 9, 3) := by decide +kernel
theorem dX7_owes_26 : decode cX7_owes 26 = .ok (.aload_n 0, 1) := by decide +kernel
theorem dX7_owes_27 : decode cX7_owes 27 = .ok (.iconst (-1), 1) := by decide +kernel
theorem dX7_owes_28 : decode cX7_owes 28 = .ok (.invokevirtual 158, 3) := by decide +kernel
theorem dX7_owes_31 : decode cX7_owes 31 = .ok (.ireturn, 1) := by decide +kernel
theorem dX7_owes_32 : decode cX7_owes 32 = .ok (.iload 4, 2) := by decide +kernel
theorem dX7_owes_34 : decode cX7_owes 34 = .ok (.iload 5, 2) := by decide +kernel
theorem dX7_owes_36 : decode cX7_owes 36 = .ok (.invokestatic 259, 3) := by decide +kernel
theorem dX7_owes_39 : decode cX7_owes 39 = .ok (.istore 7, 2) := by decide +kernel
theorem dX7_owes_41 : decode cX7_owes 41 = .ok (.iload 7, 2) := by decide +kernel
theorem dX7_owes_43 : decode cX7_owes 43 = .ok (.ifCond .eq 10, 3) := by decide +kernel
theorem dX7_owes_46 : decode cX7_owes 46 = .ok (.aload_n 0, 1) := by decide +kernel
theorem dX7_owes_47 : decode cX7_owes 47 = .ok (.iload 7, 2) := by decide +kernel
theorem dX7_owes_49 : decode cX7_owes 49 = .ok (.invokevirtual 158, 3) := by decide +kernel
theorem dX7_owes_52 : decode cX7_owes 52 = .ok (.ireturn, 1) := by decide +kernel
theorem dX7_owes_53 : decode cX7_owes 53 = .ok (.aload_n 0, 1) := by decide +kernel
theorem dX7_owes_54 : decode cX7_owes 54 = .ok (.getfield 34, 3) := by decide +kernel
theorem dX7_owes_57 : decode cX7_owes 57 = .ok (.iconst 0, 1) := by decide +kernel
theorem dX7_owes_58 : decode cX7_owes 58 = .ok (.iconst 0, 1) := by decide +kernel
theorem dX7_owes_59 : decode cX7_owes 59 = .ok (.iconst 0, 1) := by decide +kernel
theorem dX7_owes_60 : decode cX7_owes 60 = .ok (.invokevirtual 135, 3) := by decide +kernel
theorem dX7_owes_63 : decode cX7_owes 63 = .ok (.iconst 0, 1) := by decide +kernel
theorem dX7_owes_64 : decode cX7_owes 64 = .ok (.istore 8, 2) := by decide +kernel
theorem dX7_owes_66 : decode cX7_owes 66 = .ok (.iload_n 3, 1) := by decide +kernel
theorem dX7_owes_67 : decode cX7_owes 67 = .ok (.istore 9, 2) := by decide +kernel
theorem dX7_owes_69 : decode cX7_owes 69 = .ok (.iconst 0, 1) := by decide +kernel
theorem dX7_owes_70 : decode cX7_owes 70 = .ok (.istore 10, 2) := by decide +kernel
theorem dX7_owes_72 : decode cX7_owes 72 = .ok (.iload 10, 2) := by decide +kernel
theorem dX7_owes_74 : decode cX7_owes 74 = .ok (.iload 5, 2) := by decide +kernel
theorem dX7_owes_76 : decode cX7_owes 76 = .ok (.if_icmp .ge 38, 3) := by decide +kernel
theorem dX7_owes_79 : decode cX7_owes 79 = .ok (.iload 9, 2) := by decide +kernel
theorem dX7_owes_81 : decode cX7_owes 81 = .ok (.invokestatic 266, 3) := by decide +kernel
theorem dX7_owes_84 : decode cX7_owes 84 = .ok (.istore 9, 2) := by decide +kernel
theorem dX7_owes_86 : decode cX7_owes 86 = .ok (.iload 8, 2) := by decide +kernel
theorem dX7_owes_88 : decode cX7_owes 88 = .ok (.aload_n 0, 1) := by decide +kernel
theorem dX7_owes_89 : decode cX7_owes 89 = .ok (.getfield 34, 3) := by decide +kernel
theorem dX7_owes_92 : decode cX7_owes 92 = .ok (.aload 6, 2) := by decide +kernel
theorem dX7_owes_94 : decode cX7_owes 94 = .ok (.iload_n 2, 1) := by decide +kernel
theorem dX7_owes_95 : decode cX7_owes 95 = .ok (.iload 9, 2) := by decide +kernel
theorem dX7_owes_97 : decode cX7_owes 97 = .ok (.iload 10, 2) := by decide +kernel
theorem dX7_owes_99 : decode cX7_owes 99 = .ok (.invokevirtual 269, 3) := by decide +kernel
theorem dX7_owes_102 : decode cX7_owes 102 = .ok (.iload 4, 2) := by decide +kernel
theorem dX7_owes_104 : decode cX7_owes 104 = .ok (.isub, 1) := by decide +kernel
theorem dX7_owes_105 : decode cX7_owes 105 = .ok (.iadd, 1) := by decide +kernel
theorem dX7_owes_106 : decode cX7_owes 106 = .ok (.istore 8, 2) := by decide +kernel
theorem dX7_owes_108 : decode cX7_owes 108 = .ok (.iinc 10 1, 3) := by decide +kernel
theorem dX7_owes_111 : decode cX7_owes 111 = .ok (.goto (-39), 3) := by decide +kernel
theorem dX7_owes_114 : decode cX7_owes 114 = .ok (.iload 8, 2) := by decide +kernel
theorem dX7_owes_116 : decode cX7_owes 116 = .ok (.ireturn, 1) := by decide +kernel
theorem dX7_ruins_0 : decode cX7_ruins 0 = .ok (.aload_n 0, 1) := by decide +kernel
theorem dX7_ruins_1 : decode cX7_ruins 1 = .ok (.getfield 10, 3) := by decide +kernel
theorem dX7_ruins_4 : decode cX7_ruins 4 = .ok (.iload_n 1, 1) := by decide +kernel
theorem dX7_ruins_5 : decode cX7_ruins 5 = .ok (.invokevirtual 106, 3) := by decide +kernel
theorem dX7_ruins_8 : decode cX7_ruins 8 = .ok (.astore 8, 2) := by decide +kernel
theorem dX7_ruins_10 : decode cX7_ruins 10 = .ok (.aload 8, 2) := by decide +kernel
theorem dX7_ruins_12 : decode cX7_ruins 12 = .ok (.ifnull 14, 3) := by decide +kernel
theorem dX7_ruins_15 : decode cX7_ruins 15 = .ok (.aload_n 0, 1) := by decide +kernel
theorem dX7_ruins_16 : decode cX7_ruins 16 = .ok (.getfield 10, 3) := by decide +kernel
theorem dX7_ruins_19 : decode cX7_ruins 19 = .ok (.iload_n 2, 1) := by decide +kernel
theorem dX7_ruins_20 : decode cX7_ruins 20 = .ok (.invokevirtual 148, 3) := by decide +kernel
theorem dX7_ruins_23 : decode cX7_ruins 23 = .ok (.ifCond .ne 9, 3) := by decide +kernel
theorem dX7_ruins_26 : decode cX7_ruins 26 = .ok (.aload_n 0, 1) := by decide +kernel
theorem dX7_ruins_27 : decode cX7_ruins 27 = .ok (.iconst (-1), 1) := by decide +kernel
theorem dX7_ruins_28 : decode cX7_ruins 28 = .ok (.invokevirtual 74, 3) := by decide +kernel
theorem dX7_ruins_31 : decode cX7_ruins 31 = .ok (.ireturn, 1) := by decide +kernel
theorem dX7_ruins_32 : decode cX7_ruins 32 = .ok (.iload 4, 2) := by decide +kernel
theorem dX7_ruins_34 : decode cX7_ruins 34 = .ok (.iload 6, 2) := by decide +kernel
theorem dX7_ruins_36 : decode cX7_ruins 36 = .ok (.invokestatic 259, 3) := by decide +kernel
theorem dX7_ruins_39 : decode cX7_ruins 39 = .ok (.iload 5, 2) := by decide +kernel
theorem dX7_ruins_41 : decode cX7_ruins 41 = .ok (.iconst 0, 1) := by decide +kernel
theorem dX7_ruins_42 : decode cX7_ruins 42 = .ok (.sipush 999, 3) := by decide +kernel
theorem dX7_ruins_45 : decode cX7_ruins 45 = .ok (.invokestatic 66, 3) := by decide +kernel
theorem dX7_ruins_48 : decode cX7_ruins 48 = .ok (.iload 7, 2) := by decide +kernel
theorem dX7_ruins_50 : decode cX7_ruins 50 = .ok (.iconst 1, 1) := by decide +kernel
theorem dX7_ruins_51 : decode cX7_ruins 51 = .ok (.bipush 50, 2) := by decide +kernel
theorem dX7_ruins_53 : decode cX7_ruins 53 = .ok (.invokestatic 66, 3) := by decide +kernel
theorem dX7_ruins_56 : decode cX7_ruins 56 = .ok (.invokestatic 161, 3) := by decide +kernel
theorem dX7_ruins_59 : decode cX7_ruins 59 = .ok (.invokestatic 161, 3) := by decide +kernel
theorem dX7_ruins_62 : decode cX7_ruins 62 = .ok (.istore 9, 2) := by decide +kernel
theorem dX7_ruins_64 : decode cX7_ruins 64 = .ok (.iload 9, 2) := by decide +kernel
theorem dX7_ruins_66 : decode cX7_ruins 66 = .ok (.ifCond .eq 10, 3) := by decide +kernel
theorem dX7_ruins_69 : decode cX7_ruins 69 = .ok (.aload_n 0, 1) := by decide +kernel
theorem dX7_ruins_70 : decode cX7_ruins 70 = .ok (.iload 9, 2) := by decide +kernel
theorem dX7_ruins_72 : decode cX7_ruins 72 = .ok (.invokevirtual 74, 3) := by decide +kernel
theorem dX7_ruins_75 : decode cX7_ruins 75 = .ok (.ireturn, 1) := by decide +kernel
theorem dX7_ruins_76 : decode cX7_ruins 76 = .ok (.aload_n 0, 1) := by decide +kernel
theorem dX7_ruins_77 : decode cX7_ruins 77 = .ok (.getfield 34, 3) := by decide +kernel
theorem dX7_ruins_80 : decode cX7_ruins 80 = .ok (.iconst 0, 1) := by decide +kernel
theorem dX7_ruins_81 : decode cX7_ruins 81 = .ok (.iconst 0, 1) := by decide +kernel
theorem dX7_ruins_82 : decode cX7_ruins 82 = .ok (.iconst 0, 1) := by decide +kernel
theorem dX7_ruins_83 : decode cX7_ruins 83 = .ok (.invokevirtual 135, 3) := by decide +kernel
theorem dX7_ruins_86 : decode cX7_ruins 86 = .ok (.iconst 0, 1) := by decide +kernel
theorem dX7_ruins_87 : decode cX7_ruins 87 = .ok (.istore 10, 2) := by decide +kernel
theorem dX7_ruins_89 : decode cX7_ruins 89 = .ok (.iconst 0, 1) := by decide +kernel
theorem dX7_ruins_90 : decode cX7_ruins 90 = .ok (.istore 11, 2) := by decide +kernel
theorem dX7_ruins_92 : decode cX7_ruins 92 = .ok (.iload 11, 2) := by decide +kernel
theorem dX7_ruins_94 : decode cX7_ruins 94 = .ok (.iload 7, 2) := by decide +kernel
theorem dX7_ruins_96 : decode cX7_ruins 96 = .ok (.if_icmp .ge 34, 3) := by decide +kernel
theorem dX7_ruins_99 : decode cX7_ruins 99 = .ok (.aload_n 0, 1) := by decide +kernel
theorem dX7_ruins_100 : decode cX7_ruins 100 = .ok (.aload 8, 2) := by decide +kernel
theorem dX7_ruins_102 : decode cX7_ruins 102 = .ok (.iload_n 2, 1) := by decide +kernel
theorem dX7_ruins_103 : decode cX7_ruins 103 = .ok (.iload_n 3, 1) := by decide +kernel
theorem dX7_ruins_104 : decode cX7_ruins 104 = .ok (.iload 11, 2) := by decide +kernel
theorem dX7_ruins_106 : decode cX7_ruins 106 = .ok (.iadd, 1) := by decide +kernel
theorem dX7_ruins_107 : decode cX7_ruins 107 = .ok (.iload 4, 2) := by decide +kernel
theorem dX7_ruins_109 : decode cX7_ruins 109 = .ok (.iload 5, 2) := by decide +kernel
theorem dX7_ruins_111 : decode cX7_ruins 111 = .ok (.iload 6, 2) := by decide +kernel
theorem dX7_ruins_113 : decode cX7_ruins 113 = .ok (.invokevirtual 262, 3) := by decide +kernel
theorem dX7_ruins_116 : decode cX7_ruins 116 = .ok (.bipush (-9), 2) := by decide +kernel
theorem dX7_ruins_118 : decode cX7_ruins 118 = .ok (.if_icmp .eq 6, 3) := by decide +kernel
theorem dX7_ruins_121 : decode cX7_ruins 121 = .ok (.iinc 10 1, 3) := by decide +kernel
theorem dX7_ruins_124 : decode cX7_ruins 124 = .ok (.iinc 11 1, 3) := by decide +kernel
theorem dX7_ruins_127 : decode cX7_ruins 127 = .ok (.goto (-35), 3) := by decide +kernel
theorem dX7_ruins_130 : decode cX7_ruins 130 = .ok (.iload 10, 2) := by decide +kernel
theorem dX7_ruins_132 : decode cX7_ruins 132 = .ok (.ireturn, 1) := by decide +kernel
theorem dX7_row_0 : decode cX7_row 0 = .ok (.iload_n 1, 1) := by decide +kernel
theorem dX7_row_1 : decode cX7_row 1 = .ok (.iconst 0, 1) := by decide +kernel
theorem dX7_row_2 : decode cX7_row 2 = .ok (.sipush 999, 3) := by decide +kernel
theorem dX7_row_5 : decode cX7_row 5 = .ok (.invokestatic 66, 3) := by decide +kernel
theorem dX7_row_8 : decode cX7_row 8 = .ok (.istore_n 2, 1) := by decide +kernel
theorem dX7_row_9 : decode cX7_row 9 = .ok (.iload_n 2, 1) := by decide +kernel
theorem dX7_row_10 : decode cX7_row 10 = .ok (.ifCond .ne 15, 3) := by decide +kernel
theorem dX7_row_13 : decode cX7_row 13 = .ok (.aload_n 0, 1) := by decide +kernel
theorem dX7_row_14 : decode cX7_row 14 = .ok (.getfield 272, 3) := by decide +kernel
theorem dX7_row_17 : decode cX7_row 17 = .ok (.bipush 16, 2) := by decide +kernel
theorem dX7_row_19 : decode cX7_row 19 = .ok (.if_icmp .lt 6, 3) := by decide +kernel
theorem dX7_row_22 : decode cX7_row 22 = .ok (.bipush (-6), 2) := by decide +kernel
theorem dX7_row_24 : decode cX7_row 24 = .ok (.istore_n 2, 1) := by decide +kernel
theorem dX7_row_25 : decode cX7_row 25 = .ok (.iload_n 2, 1) := by decide +kernel
theorem dX7_row_26 : decode cX7_row 26 = .ok (.ifCond .eq 9, 3) := by decide +kernel
theorem dX7_row_29 : decode cX7_row 29 = .ok (.aload_n 0, 1) := by decide +kernel
theorem dX7_row_30 : decode cX7_row 30 = .ok (.iload_n 2, 1) := by decide +kernel
theorem dX7_row_31 : decode cX7_row 31 = .ok (.invokevirtual 74, 3) := by decide +kernel
theorem dX7_row_34 : decode cX7_row 34 = .ok (.ireturn, 1) := by decide +kernel
theorem dX7_row_35 : decode cX7_row 35 = .ok (.aload_n 0, 1) := by decide +kernel
theorem dX7_row_36 : decode cX7_row 36 = .ok (.getfield 59, 3) := by decide +kernel
theorem dX7_row_39 : decode cX7_row 39 = .ok (.aload_n 0, 1) := by decide +kernel
theorem dX7_row_40 : decode cX7_row 40 = .ok (.getfield 272, 3) := by decide +kernel
theorem dX7_row_43 : decode cX7_row 43 = .ok (.iload_n 1, 1) := by decide +kernel
theorem dX7_row_44 : decode cX7_row 44 = .ok (.invokestatic 275, 3) := by decide +kernel
theorem dX7_row_47 : decode cX7_row 47 = .ok (.aload_n 0, 1) := by decide +kernel
theorem dX7_row_48 : decode cX7_row 48 = .ok (.dup, 1) := by decide +kernel
theorem dX7_row_49 : decode cX7_row 49 = .ok (.getfield 272, 3) := by decide +kernel
theorem dX7_row_52 : decode cX7_row 52 = .ok (.iconst 1, 1) := by decide +kernel
theorem dX7_row_53 : decode cX7_row 53 = .ok (.iadd, 1) := by decide +kernel
theorem dX7_row_54 : decode cX7_row 54 = .ok (.putfield 272, 3) := by decide +kernel
theorem dX7_row_57 : decode cX7_row 57 = .ok (.aload_n 0, 1) := by decide +kernel
theorem dX7_row_58 : decode cX7_row 58 = .ok (.getfield 272, 3) := by decide +kernel
theorem dX7_row_61 : decode cX7_row 61 = .ok (.ireturn, 1) := by decide +kernel
theorem dX7_judge_0 : decode cX7_judge 0 = .ok (.aload_n 0, 1) := by decide +kernel
theorem dX7_judge_1 : decode cX7_judge 1 = .ok (.getfield 10, 3) := by decide +kernel
theorem dX7_judge_4 : decode cX7_judge 4 = .ok (.iload_n 1, 1) := by decide +kernel
theorem dX7_judge_5 : decode cX7_judge 5 = .ok (.invokevirtual 148, 3) := by decide +kernel
theorem dX7_judge_8 : decode cX7_judge 8 = .ok (.ifCond .ne 9, 3) := by decide +kernel
theorem dX7_judge_11 : decode cX7_judge 11 = .ok (.aload_n 0, 1) := by decide +kernel
theorem dX7_judge_12 : decode cX7_judge 12 = .ok (.iconst (-1), 1) := by decide +kernel
theorem dX7_judge_13 : decode cX7_judge 13 = .ok (.invokevirtual 74, 3) := by decide +kernel
theorem dX7_judge_16 : decode cX7_judge 16 = .ok (.ireturn, 1) := by decide +kernel
theorem dX7_judge_17 : decode cX7_judge 17 = .ok (.aload_n 0, 1) := by decide +kernel
theorem dX7_judge_18 : decode cX7_judge 18 = .ok (.getfield 34, 3) := by decide +kernel
theorem dX7_judge_21 : decode cX7_judge 21 = .ok (.iconst 0, 1) := by decide +kernel
theorem dX7_judge_22 : decode cX7_judge 22 = .ok (.iconst 0, 1) := by decide +kernel
theorem dX7_judge_23 : decode cX7_judge 23 = .ok (.iconst 0, 1) := by decide +kernel
theorem dX7_judge_24 : decode cX7_judge 24 = .ok (.invokevirtual 135, 3) := by decide +kernel
theorem dX7_judge_27 : decode cX7_judge 27 = .ok (.bipush (-9), 2) := by decide +kernel
theorem dX7_judge_29 : decode cX7_judge 29 = .ok (.istore_n 3, 1) := by decide +kernel
theorem dX7_judge_30 : decode cX7_judge 30 = .ok (.iload_n 2, 1) := by decide +kernel
theorem dX7_judge_31 : decode cX7_judge 31 = .ok (.istore 4, 2) := by decide +kernel
theorem dX7_judge_33 : decode cX7_judge 33 = .ok (.iconst 0, 1) := by decide +kernel
theorem dX7_judge_34 : decode cX7_judge 34 = .ok (.istore 5, 2) := by decide +kernel
theorem dX7_judge_36 : decode cX7_judge 36 = .ok (.iload 5, 2) := by decide +kernel
theorem dX7_judge_38 : decode cX7_judge 38 = .ok (.aload_n 0, 1) := by decide +kernel
theorem dX7_judge_39 : decode cX7_judge 39 = .ok (.getfield 272, 3) := by decide +kernel
theorem dX7_judge_42 : decode cX7_judge 42 = .ok (.if_icmp .ge 54, 3) := by decide +kernel
theorem dX7_judge_45 : decode cX7_judge 45 = .ok (.iload_n 3, 1) := by decide +kernel
theorem dX7_judge_46 : decode cX7_judge 46 = .ok (.bipush (-9), 2) := by decide +kernel
theorem dX7_judge_48 : decode cX7_judge 48 = .ok (.if_icmp .ne 48, 3) := by decide +kernel
theorem dX7_judge_51 : decode cX7_judge 51 = .ok (.iload 4, 2) := by decide +kernel
theorem dX7_judge_53 : decode cX7_judge 53 = .ok (.invokestatic 266, 3) := by decide +kernel
theorem dX7_judge_56 : decode cX7_judge 56 = .ok (.istore 4, 2) := by decide +kernel
theorem dX7_judge_58 : decode cX7_judge 58 = .ok (.aload_n 0, 1) := by decide +kernel
theorem dX7_judge_59 : decode cX7_judge 59 = .ok (.getfield 34, 3) := by decide +kernel
theorem dX7_judge_62 : decode cX7_judge 62 = .ok (.iload_n 1, 1) := by decide +kernel
theorem dX7_judge_63 : decode cX7_judge 63 = .ok (.aload_n 0, 1) := by decide +kernel
theorem dX7_judge_64 : decode cX7_judge 64 = .ok (.getfield 34, 3) := by decide +kernel
theorem dX7_judge_67 : decode cX7_judge 67 = .ok (.iload 4, 2) := by decide +kernel
theorem dX7_judge_69 : decode cX7_judge 69 = .ok (.invokevirtual 279, 3) := by decide +kernel
theorem dX7_judge_72 : decode cX7_judge 72 = .ok (.invokevirtual 151, 3) := by decide +kernel
theorem dX7_judge_75 : decode cX7_judge 75 = .ok (.aload_n 0, 1) := by decide +kernel
theorem dX7_judge_76 : decode cX7_judge 76 = .ok (.getfield 59, 3) := by decide +kernel
theorem dX7_judge_79 : decode cX7_judge 79 = .ok (.iload 5, 2) := by decide +kernel
theorem dX7_judge_81 : decode cX7_judge 81 = .ok (.invokestatic 282, 3) := by decide +kernel
theorem dX7_judge_84 : decode cX7_judge 84 = .ok (.if_icmp .eq 6, 3) := by decide +kernel
theorem dX7_judge_87 : decode cX7_judge 87 = .ok (.iload 5, 2) := by decide +kernel
theorem dX7_judge_89 : decode cX7_judge 89 = .ok (.istore_n 3, 1) := by decide +kernel
theorem dX7_judge_90 : decode cX7_judge 90 = .ok (.iinc 5 1, 3) := by decide +kernel
theorem dX7_judge_93 : decode cX7_judge 93 = .ok (.goto (-57), 3) := by decide +kernel
theorem dX7_judge_96 : decode cX7_judge 96 = .ok (.aload_n 0, 1) := by decide +kernel
theorem dX7_judge_97 : decode cX7_judge 97 = .ok (.iconst 0, 1) := by decide +kernel
theorem dX7_judge_98 : decode cX7_judge 98 = .ok (.putfield 272, 3) := by decide +kernel
theorem dX7_judge_101 : decode cX7_judge 101 = .ok (.iload_n 3, 1) := by decide +kernel
theorem dX7_judge_102 : decode cX7_judge 102 = .ok (.ireturn, 1) := by decide +kernel
theorem dX7_image_0 : decode cX7_image 0 = .ok (.aload_n 0, 1) := by decide +kernel
theorem dX7_image_1 : decode cX7_image 1 = .ok (.getfield 16, 3) := by decide +kernel
theorem dX7_image_4 : decode cX7_image 4 = .ok (.aload_n 0, 1) := by decide +kernel
theorem dX7_image_5 : decode cX7_image 5 = .ok (.getfield 10, 3) := by decide +kernel
theorem dX7_image_8 : decode cX7_image 8 = .ok (.invokevirtual 86, 3) := by decide +kernel
theorem dX7_image_11 : decode cX7_image 11 = .ok (.aload_n 0, 1) := by decide +kernel
theorem dX7_image_12 : decode cX7_image 12 = .ok (.iconst 1, 1) := by decide +kernel
theorem dX7_image_13 : decode cX7_image 13 = .ok (.putfield 286, 3) := by decide +kernel
theorem dX7_image_16 : decode cX7_image 16 = .ok (.aload_n 0, 1) := by decide +kernel
theorem dX7_image_17 : decode cX7_image 17 = .ok (.getfield 10, 3) := by decide +kernel
theorem dX7_image_20 : decode cX7_image 20 = .ok (.getfield 96, 3) := by decide +kernel
theorem dX7_image_23 : decode cX7_image 23 = .ok (.ireturn, 1) := by decide +kernel
theorem dX7_restore_0 : decode cX7_restore 0 = .ok (.aload_n 0, 1) := by decide +kernel
theorem dX7_restore_1 : decode cX7_restore 1 = .ok (.getfield 286, 3) := by decide +kernel
theorem dX7_restore_4 : decode cX7_restore 4 = .ok (.ifCond .ne 10, 3) := by decide +kernel
theorem dX7_restore_7 : decode cX7_restore 7 = .ok (.aload_n 0, 1) := by decide +kernel
theorem dX7_restore_8 : decode cX7_restore 8 = .ok (.bipush (-3), 2) := by decide +kernel
theorem dX7_restore_10 : decode cX7_restore 10 = .ok (.invokevirtual 74, 3) := by decide +kernel
theorem dX7_restore_13 : decode cX7_restore 13 = .ok (.ireturn, 1) := by decide +kernel
theorem dX7_restore_14 : decode cX7_restore 14 = .ok (.aload_n 0, 1) := by decide +kernel
theorem dX7_restore_15 : decode cX7_restore 15 = .ok (.getfield 10, 3) := by decide +kernel
theorem dX7_restore_18 : decode cX7_restore 18 = .ok (.aload_n 0, 1) := by decide +kernel
theorem dX7_restore_19 : decode cX7_restore 19 = .ok (.getfield 16, 3) := by decide +kernel
theorem dX7_restore_22 : decode cX7_restore 22 = .ok (.invokevirtual 86, 3) := by decide +kernel
theorem dX7_restore_25 : decode cX7_restore 25 = .ok (.aload_n 0, 1) := by decide +kernel
theorem dX7_restore_26 : decode cX7_restore 26 = .ok (.getfield 10, 3) := by decide +kernel
theorem dX7_restore_29 : decode cX7_restore 29 = .ok (.getfield 96, 3) := by decide +kernel
theorem dX7_restore_32 : decode cX7_restore 32 = .ok (.ireturn, 1) := by decide +kernel
theorem dX7_count_0 : decode cX7_count 0 = .ok (.iload_n 1, 1) := by decide +kernel
theorem dX7_count_1 : decode cX7_count 1 = .ok (.tableswitch 113 0 6 #[43, 51, 59, 64, 82, 100, 105], 43) := by decide +kernel
theorem dX7_count_44 : decode cX7_count 44 = .ok (.aload_n 0, 1) := by decide +kernel
theorem dX7_count_45 : decode cX7_count 45 = .ok (.getfield 10, 3) := by decide +kernel
theorem dX7_count_48 : decode cX7_count 48 = .ok (.getfield 96, 3) := by decide +kernel
theorem dX7_count_51 : decode cX7_count 51 = .ok (.ireturn, 1) := by decide +kernel
theorem dX7_count_52 : decode cX7_count 52 = .ok (.aload_n 0, 1) := by decide +kernel
theorem dX7_count_53 : decode cX7_count 53 = .ok (.getfield 10, 3) := by decide +kernel
theorem dX7_count_56 : decode cX7_count 56 = .ok (.getfield 290, 3) := by decide +kernel
theorem dX7_count_59 : decode cX7_count 59 = .ok (.ireturn, 1) := by decide +kernel
theorem dX7_count_60 : decode cX7_count 60 = .ok (.aload_n 0, 1) := by decide +kernel
theorem dX7_count_61 : decode cX7_count 61 = .ok (.invokevirtual 293, 3) := by decide +kernel
theorem dX7_count_64 : decode cX7_count 64 = .ok (.ireturn, 1) := by decide +kernel
theorem dX7_count_65 : decode cX7_count 65 = .ok (.aload_n 0, 1) := by decide +kernel
theorem dX7_count_66 : decode cX7_count 66 = .ok (.getfield 10, 3) := by decide +kernel
theorem dX7_count_69 : decode cX7_count 69 = .ok (.getfield 296, 3) := by decide +kernel
theorem dX7_count_72 : decode cX7_count 72 = .ok (.aload_n 0, 1) := by decide +kernel
theorem dX7_count_73 : decode cX7_count 73 = .ok (.getfield 10, 3) := by decide +kernel
theorem dX7_count_76 : decode cX7_count 76 = .ok (.getfield 290, 3) := by decide +kernel
theorem dX7_count_79 : decode cX7_count 79 = .ok (.invokestatic 299, 3) := by decide +kernel
theorem dX7_count_82 : decode cX7_count 82 = .ok (.ireturn, 1) := by decide +kernel
theorem dX7_count_83 : decode cX7_count 83 = .ok (.aload_n 0, 1) := by decide +kernel
theorem dX7_count_84 : decode cX7_count 84 = .ok (.getfield 10, 3) := by decide +kernel
theorem dX7_count_87 : decode cX7_count 87 = .ok (.getfield 302, 3) := by decide +kernel
theorem dX7_count_90 : decode cX7_count 90 = .ok (.aload_n 0, 1) := by decide +kernel
theorem dX7_count_91 : decode cX7_count 91 = .ok (.getfield 10, 3) := by decide +kernel
theorem dX7_count_94 : decode cX7_count 94 = .ok (.getfield 290, 3) := by decide +kernel
theorem dX7_count_97 : decode cX7_count 97 = .ok (.invokestatic 299, 3) := by decide +kernel
theorem dX7_count_100 : decode cX7_count 100 = .ok (.ireturn, 1) := by decide +kernel
theorem dX7_count_101 : decode cX7_count 101 = .ok (.aload_n 0, 1) := by decide +kernel
theorem dX7_count_102 : decode cX7_count 102 = .ok (.getfield 272, 3) := by decide +kernel
theorem dX7_count_105 : decode cX7_count 105 = .ok (.ireturn, 1) := by decide +kernel
theorem dX7_count_106 : decode cX7_count 106 = .ok (.aload_n 0, 1) := by decide +kernel
theorem dX7_count_107 : decode cX7_count 107 = .ok (.getfield 25, 3) := by decide +kernel
theorem dX7_count_110 : decode cX7_count 110 = .ok (.getfield 82, 3) := by decide +kernel
theorem dX7_count_113 : decode cX7_count 113 = .ok (.ireturn, 1) := by decide +kernel
theorem dX7_count_114 : decode cX7_count 114 = .ok (.iload_n 1, 1) := by decide +kernel
theorem dX7_count_115 : decode cX7_count 115 = .ok (.bipush 11, 2) := by decide +kernel
theorem dX7_count_117 : decode cX7_count 117 = .ok (.if_icmp .lt 23, 3) := by decide +kernel
theorem dX7_count_120 : decode cX7_count 120 = .ok (.iload_n 1, 1) := by decide +kernel
theorem dX7_count_121 : decode cX7_count 121 = .ok (.bipush 16, 2) := by decide +kernel
theorem dX7_count_123 : decode cX7_count 123 = .ok (.if_icmp .gt 17, 3) := by decide +kernel
theorem dX7_count_126 : decode cX7_count 126 = .ok (.aload_n 0, 1) := by decide +kernel
theorem dX7_count_127 : decode cX7_count 127 = .ok (.getfield 63, 3) := by decide +kernel
theorem dX7_count_130 : decode cX7_count 130 = .ok (.iload_n 1, 1) := by decide +kernel
theorem dX7_count_131 : decode cX7_count 131 = .ok (.bipush 11, 2) := by decide +kernel
theorem dX7_count_133 : decode cX7_count 133 = .ok (.isub, 1) := by decide +kernel
theorem dX7_count_134 : decode cX7_count 134 = .ok (.invokestatic 282, 3) := by decide +kernel
theorem dX7_count_137 : decode cX7_count 137 = .ok (.goto 5, 3) := by decide +kernel
theorem dX7_count_140 : decode cX7_count 140 = .ok (.bipush (-9), 2) := by decide +kernel
theorem dX7_count_142 : decode cX7_count 142 = .ok (.ireturn, 1) := by decide +kernel
theorem dX7_countWeathers_0 : decode cX7_countWeathers 0 = .ok (.aload_n 0, 1) := by decide +kernel
theorem dX7_countWeathers_1 : decode cX7_countWeathers 1 = .ok (.getfield 34, 3) := by decide +kernel
theorem dX7_countWeathers_4 : decode cX7_countWeathers 4 = .ok (.iconst 0, 1) := by decide +kernel
theorem dX7_countWeathers_5 : decode cX7_countWeathers 5 = .ok (.iconst 0, 1) := by decide +kernel
theorem dX7_countWeathers_6 : decode cX7_countWeathers 6 = .ok (.iconst 0, 1) := by decide +kernel
theorem dX7_countWeathers_7 : decode cX7_countWeathers 7 = .ok (.invokevirtual 135, 3) := by decide +kernel
theorem dX7_countWeathers_10 : decode cX7_countWeathers 10 = .ok (.aload_n 0, 1) := by decide +kernel
theorem dX7_countWeathers_11 : decode cX7_countWeathers 11 = .ok (.getfield 34, 3) := by decide +kernel
theorem dX7_countWeathers_14 : decode cX7_countWeathers 14 = .ok (.getfield 305, 3) := by decide +kernel
theorem dX7_countWeathers_17 : decode cX7_countWeathers 17 = .ok (.ireturn, 1) := by decide +kernel
theorem dX7_refuse_0 : decode cX7_refuse 0 = .ok (.iload_n 1, 1) := by decide +kernel
theorem dX7_refuse_1 : decode cX7_refuse 1 = .ok (.ineg, 1) := by decide +kernel
theorem dX7_refuse_2 : decode cX7_refuse 2 = .ok (.iconst 1, 1) := by decide +kernel
theorem dX7_refuse_3 : decode cX7_refuse 3 = .ok (.isub, 1) := by decide +kernel
theorem dX7_refuse_4 : decode cX7_refuse 4 = .ok (.istore_n 2, 1) := by decide +kernel
theorem dX7_refuse_5 : decode cX7_refuse 5 = .ok (.aload_n 0, 1) := by decide +kernel
theorem dX7_refuse_6 : decode cX7_refuse 6 = .ok (.getfield 63, 3) := by decide +kernel
theorem dX7_refuse_9 : decode cX7_refuse 9 = .ok (.iload_n 2, 1) := by decide +kernel
theorem dX7_refuse_10 : decode cX7_refuse 10 = .ok (.aload_n 0, 1) := by decide +kernel
theorem dX7_refuse_11 : decode cX7_refuse 11 = .ok (.getfield 63, 3) := by decide +kernel
theorem dX7_refuse_14 : decode cX7_refuse 14 = .ok (.iload_n 2, 1) := by decide +kernel
theorem dX7_refuse_15 : decode cX7_refuse 15 = .ok (.invokestatic 282, 3) := by decide +kernel
theorem dX7_refuse_18 : decode cX7_refuse 18 = .ok (.iconst 1, 1) := by decide +kernel
theorem dX7_refuse_19 : decode cX7_refuse 19 = .ok (.iadd, 1) := by decide +kernel
theorem dX7_refuse_20 : decode cX7_refuse 20 = .ok (.invokestatic 275, 3) := by decide +kernel
theorem dX7_refuse_23 : decode cX7_refuse 23 = .ok (.iload_n 1, 1) := by decide +kernel
theorem dX7_refuse_24 : decode cX7_refuse 24 = .ok (.ireturn, 1) := by decide +kernel
theorem dX7_refuseAsTold_0 : decode cX7_refuseAsTold 0 = .ok (.ldc_w 308, 3) := by decide +kernel
theorem dX7_refuseAsTold_3 : decode cX7_refuseAsTold 3 = .ok (.aload_n 0, 1) := by decide +kernel
theorem dX7_refuseAsTold_4 : decode cX7_refuseAsTold 4 = .ok (.iload_n 1, 1) := by decide +kernel
theorem dX7_refuseAsTold_5 : decode cX7_refuseAsTold 5 = .ok (.invokevirtual 74, 3) := by decide +kernel
theorem dX7_refuseAsTold_8 : decode cX7_refuseAsTold 8 = .ok (.isub, 1) := by decide +kernel
theorem dX7_refuseAsTold_9 : decode cX7_refuseAsTold 9 = .ok (.ireturn, 1) := by decide +kernel
theorem dX7_refuseAsToldLong_0 : decode cX7_refuseAsToldLong 0 = .ok (.ldc2_w 309, 3) := by decide +kernel
theorem dX7_refuseAsToldLong_3 : decode cX7_refuseAsToldLong 3 = .ok (.aload_n 0, 1) := by decide +kernel
theorem dX7_refuseAsToldLong_4 : decode cX7_refuseAsToldLong 4 = .ok (.iload_n 1, 1) := by decide +kernel
theorem dX7_refuseAsToldLong_5 : decode cX7_refuseAsToldLong 5 = .ok (.invokevirtual 74, 3) := by decide +kernel
theorem dX7_refuseAsToldLong_8 : decode cX7_refuseAsToldLong 8 = .ok (.i2l, 1) := by decide +kernel
theorem dX7_refuseAsToldLong_9 : decode cX7_refuseAsToldLong 9 = .ok (.lsub, 1) := by decide +kernel
theorem dX7_refuseAsToldLong_10 : decode cX7_refuseAsToldLong 10 = .ok (.lreturn, 1) := by decide +kernel
theorem dX7_isWho_0 : decode cX7_isWho 0 = .ok (.iload_n 0, 1) := by decide +kernel
theorem dX7_isWho_1 : decode cX7_isWho 1 = .ok (.ifCond .eq 8, 3) := by decide +kernel
theorem dX7_isWho_4 : decode cX7_isWho 4 = .ok (.iload_n 0, 1) := by decide +kernel
theorem dX7_isWho_5 : decode cX7_isWho 5 = .ok (.iconst 1, 1) := by decide +kernel
theorem dX7_isWho_6 : decode cX7_isWho 6 = .ok (.if_icmp .ne 7, 3) := by decide +kernel
theorem dX7_isWho_9 : decode cX7_isWho 9 = .ok (.iconst 1, 1) := by decide +kernel
theorem dX7_isWho_10 : decode cX7_isWho 10 = .ok (.goto 4, 3) := by decide +kernel
theorem dX7_isWho_13 : decode cX7_isWho 13 = .ok (.iconst 0, 1) := by decide +kernel
theorem dX7_isWho_14 : decode cX7_isWho 14 = .ok (.ireturn, 1) := by decide +kernel
theorem dX7_inRange_0 : decode cX7_inRange 0 = .ok (.iload_n 0, 1) := by decide +kernel
theorem dX7_inRange_1 : decode cX7_inRange 1 = .ok (.iload_n 1, 1) := by decide +kernel
theorem dX7_inRange_2 : decode cX7_inRange 2 = .ok (.if_icmp .ge 6, 3) := by decide +kernel
theorem dX7_inRange_5 : decode cX7_inRange 5 = .ok (.bipush (-4), 2) := by decide +kernel
theorem dX7_inRange_7 : decode cX7_inRange 7 = .ok (.ireturn, 1) := by decide +kernel
theorem dX7_inRange_8 : decode cX7_inRange 8 = .ok (.iload_n 0, 1) := by decide +kernel
theorem dX7_inRange_9 : decode cX7_inRange 9 = .ok (.iload_n 2, 1) := by decide +kernel
theorem dX7_inRange_10 : decode cX7_inRange 10 = .ok (.if_icmp .le 8, 3) := by decide +kernel
theorem dX7_inRange_13 : decode cX7_inRange 13 = .ok (.bipush (-6), 2) := by decide +kernel
theorem dX7_inRange_15 : decode cX7_inRange 15 = .ok (.goto 4, 3) := by decide +kernel
theorem dX7_inRange_18 : decode cX7_inRange 18 = .ok (.iconst 0, 1) := by decide +kernel
theorem dX7_inRange_19 : decode cX7_inRange 19 = .ok (.ireturn, 1) := by decide +kernel
theorem dX7_first_0 : decode cX7_first 0 = .ok (.iload_n 0, 1) := by decide +kernel
theorem dX7_first_1 : decode cX7_first 1 = .ok (.bipush (-4), 2) := by decide +kernel
theorem dX7_first_3 : decode cX7_first 3 = .ok (.if_icmp .eq 9, 3) := by decide +kernel
theorem dX7_first_6 : decode cX7_first 6 = .ok (.iload_n 1, 1) := by decide +kernel
theorem dX7_first_7 : decode cX7_first 7 = .ok (.bipush (-4), 2) := by decide +kernel
theorem dX7_first_9 : decode cX7_first 9 = .ok (.if_icmp .ne 6, 3) := by decide +kernel
theorem dX7_first_12 : decode cX7_first 12 = .ok (.bipush (-4), 2) := by decide +kernel
theorem dX7_first_14 : decode cX7_first 14 = .ok (.ireturn, 1) := by decide +kernel
theorem dX7_first_15 : decode cX7_first 15 = .ok (.iload_n 0, 1) := by decide +kernel
theorem dX7_first_16 : decode cX7_first 16 = .ok (.iload_n 1, 1) := by decide +kernel
theorem dX7_first_17 : decode cX7_first 17 = .ok (.invokestatic 311, 3) := by decide +kernel
theorem dX7_first_20 : decode cX7_first 20 = .ok (.ireturn, 1) := by decide +kernel
theorem dX7_refusalOfDebts_0 : decode cX7_refusalOfDebts 0 = .ok (.iload_n 0, 1) := by decide +kernel
theorem dX7_refusalOfDebts_1 : decode cX7_refusalOfDebts 1 = .ok (.iconst 0, 1) := by decide +kernel
theorem dX7_refusalOfDebts_2 : decode cX7_refusalOfDebts 2 = .ok (.bipush 99, 2) := by decide +kernel
theorem dX7_refusalOfDebts_4 : decode cX7_refusalOfDebts 4 = .ok (.invokestatic 66, 3) := by decide +kernel
theorem dX7_refusalOfDebts_7 : decode cX7_refusalOfDebts 7 = .ok (.iload_n 1, 1) := by decide +kernel
theorem dX7_refusalOfDebts_8 : decode cX7_refusalOfDebts 8 = .ok (.iconst 1, 1) := by decide +kernel
theorem dX7_refusalOfDebts_9 : decode cX7_refusalOfDebts 9 = .ok (.bipush 30, 2) := by decide +kernel
theorem dX7_refusalOfDebts_11 : decode cX7_refusalOfDebts 11 = .ok (.invokestatic 66, 3) := by decide +kernel
theorem dX7_refusalOfDebts_14 : decode cX7_refusalOfDebts 14 = .ok (.invokestatic 161, 3) := by decide +kernel
theorem dX7_refusalOfDebts_17 : decode cX7_refusalOfDebts 17 = .ok (.ireturn, 1) := by decide +kernel
theorem dX7_draw_0 : decode cX7_draw 0 = .ok (.iload_n 0, 1) := by decide +kernel
theorem dX7_draw_1 : decode cX7_draw 1 = .ok (.ldc_w 314, 3) := by decide +kernel
theorem dX7_draw_4 : decode cX7_draw 4 = .ok (.imul, 1) := by decide +kernel
theorem dX7_draw_5 : decode cX7_draw 5 = .ok (.sipush 12345, 3) := by decide +kernel
theorem dX7_draw_8 : decode cX7_draw 8 = .ok (.iadd, 1) := by decide +kernel
theorem dX7_draw_9 : decode cX7_draw 9 = .ok (.ireturn, 1) := by decide +kernel
theorem dX7_commonWithHundred_0 : decode cX7_commonWithHundred 0 = .ok (.bipush 100, 2) := by decide +kernel
theorem dX7_commonWithHundred_2 : decode cX7_commonWithHundred 2 = .ok (.istore_n 1, 1) := by decide +kernel
theorem dX7_commonWithHundred_3 : decode cX7_commonWithHundred 3 = .ok (.iload_n 1, 1) := by decide +kernel
theorem dX7_commonWithHundred_4 : decode cX7_commonWithHundred 4 = .ok (.iconst 1, 1) := by decide +kernel
theorem dX7_commonWithHundred_5 : decode cX7_commonWithHundred 5 = .ok (.if_icmp .le 24, 3) := by decide +kernel
theorem dX7_commonWithHundred_8 : decode cX7_commonWithHundred 8 = .ok (.bipush 100, 2) := by decide +kernel
theorem dX7_commonWithHundred_10 : decode cX7_commonWithHundred 10 = .ok (.iload_n 1, 1) := by decide +kernel
theorem dX7_commonWithHundred_11 : decode cX7_commonWithHundred 11 = .ok (.irem, 1) := by decide +kernel
theorem dX7_commonWithHundred_12 : decode cX7_commonWithHundred 12 = .ok (.ifCond .ne 11, 3) := by decide +kernel
theorem dX7_commonWithHundred_15 : decode cX7_commonWithHundred 15 = .ok (.iload_n 0, 1) := by decide +kernel
theorem dX7_commonWithHundred_16 : decode cX7_commonWithHundred 16 = .ok (.iload_n 1, 1) := by decide +kernel
theorem dX7_commonWithHundred_17 : decode cX7_commonWithHundred 17 = .ok (.irem, 1) := by decide +kernel
theorem dX7_commonWithHundred_18 : decode cX7_commonWithHundred 18 = .ok (.ifCond .ne 5, 3) := by decide +kernel
theorem dX7_commonWithHundred_21 : decode cX7_commonWithHundred 21 = .ok (.iload_n 1, 1) := by decide +kernel
theorem dX7_commonWithHundred_22 : decode cX7_commonWithHundred 22 = .ok (.ireturn, 1) := by decide +kernel
theorem dX7_commonWithHundred_23 : decode cX7_commonWithHundred 23 = .ok (.iinc 1 (-1), 3) := by decide +kernel
theorem dX7_commonWithHundred_26 : decode cX7_commonWithHundred 26 = .ok (.goto (-23), 3) := by decide +kernel
theorem dX7_commonWithHundred_29 : decode cX7_commonWithHundred 29 = .ok (.iconst 1, 1) := by decide +kernel
theorem dX7_commonWithHundred_30 : decode cX7_commonWithHundred 30 = .ok (.ireturn, 1) := by decide +kernel
theorem dX7_isTaken_0 : decode cX7_isTaken 0 = .ok (.aload_n 0, 1) := by decide +kernel
theorem dX7_isTaken_1 : decode cX7_isTaken 1 = .ok (.getfield 34, 3) := by decide +kernel
theorem dX7_isTaken_4 : decode cX7_isTaken 4 = .ok (.aload_n 1, 1) := by decide +kernel
theorem dX7_isTaken_5 : decode cX7_isTaken 5 = .ok (.invokevirtual 179, 3) := by decide +kernel
theorem dX7_isTaken_8 : decode cX7_isTaken 8 = .ok (.aload_n 0, 1) := by decide +kernel
theorem dX7_isTaken_9 : decode cX7_isTaken 9 = .ok (.getfield 34, 3) := by decide +kernel
theorem dX7_isTaken_12 : decode cX7_isTaken 12 = .ok (.getfield 315, 3) := by decide +kernel
theorem dX7_isTaken_15 : decode cX7_isTaken 15 = .ok (.aload_n 0, 1) := by decide +kernel
theorem dX7_isTaken_16 : decode cX7_isTaken 16 = .ok (.getfield 10, 3) := by decide +kernel
theorem dX7_isTaken_19 : decode cX7_isTaken 19 = .ok (.invokevirtual 319, 3) := by decide +kernel
theorem dX7_isTaken_22 : decode cX7_isTaken 22 = .ok (.lcmp, 1) := by decide +kernel
theorem dX7_isTaken_23 : decode cX7_isTaken 23 = .ok (.ifCond .lt 7, 3) := by decide +kernel
theorem dX7_isTaken_26 : decode cX7_isTaken 26 = .ok (.iconst 1, 1) := by decide +kernel
theorem dX7_isTaken_27 : decode cX7_isTaken 27 = .ok (.goto 4, 3) := by decide +kernel
theorem dX7_isTaken_30 : decode cX7_isTaken 30 = .ok (.iconst 0, 1) := by decide +kernel
theorem dX7_isTaken_31 : decode cX7_isTaken 31 = .ok (.ireturn, 1) := by decide +kernel
theorem dX7_ownerWorth_0 : decode cX7_ownerWorth 0 = .ok (.aload_n 0, 1) := by decide +kernel
theorem dX7_ownerWorth_1 : decode cX7_ownerWorth 1 = .ok (.getfield 34, 3) := by decide +kernel
theorem dX7_ownerWorth_4 : decode cX7_ownerWorth 4 = .ok (.aload_n 1, 1) := by decide +kernel
theorem dX7_ownerWorth_5 : decode cX7_ownerWorth 5 = .ok (.invokevirtual 179, 3) := by decide +kernel
theorem dX7_ownerWorth_8 : decode cX7_ownerWorth 8 = .ok (.aload_n 0, 1) := by decide +kernel
theorem dX7_ownerWorth_9 : decode cX7_ownerWorth 9 = .ok (.getfield 34, 3) := by decide +kernel
theorem dX7_ownerWorth_12 : decode cX7_ownerWorth 12 = .ok (.aload_n 1, 1) := by decide +kernel
theorem dX7_ownerWorth_13 : decode cX7_ownerWorth 13 = .ok (.aload_n 0, 1) := by decide +kernel
theorem dX7_ownerWorth_14 : decode cX7_ownerWorth 14 = .ok (.getfield 34, 3) := by decide +kernel
theorem dX7_ownerWorth_17 : decode cX7_ownerWorth 17 = .ok (.getfield 183, 3) := by decide +kernel
theorem dX7_ownerWorth_20 : decode cX7_ownerWorth 20 = .ok (.iconst 1, 1) := by decide +kernel
theorem dX7_ownerWorth_21 : decode cX7_ownerWorth 21 = .ok (.invokevirtual 175, 3) := by decide +kernel
theorem dX7_ownerWorth_24 : decode cX7_ownerWorth 24 = .ok (.lreturn, 1) := by decide +kernel
theorem dX7_layProof_0 : decode cX7_layProof 0 = .ok (.iload_n 1, 1) := by decide +kernel
theorem dX7_layProof_1 : decode cX7_layProof 1 = .ok (.bipush 100, 2) := by decide +kernel
theorem dX7_layProof_3 : decode cX7_layProof 3 = .ok (.if_icmp .ge 18, 3) := by decide +kernel
theorem dX7_layProof_6 : decode cX7_layProof 6 = .ok (.aload_n 0, 1) := by decide +kernel
theorem dX7_layProof_7 : decode cX7_layProof 7 = .ok (.getfield 55, 3) := by decide +kernel
theorem dX7_layProof_10 : decode cX7_layProof 10 = .ok (.iconst 0, 1) := by decide +kernel
theorem dX7_layProof_11 : decode cX7_layProof 11 = .ok (.iload_n 1, 1) := by decide +kernel
theorem dX7_layProof_12 : decode cX7_layProof 12 = .ok (.bipush 12, 2) := by decide +kernel
theorem dX7_layProof_14 : decode cX7_layProof 14 = .ok (.iconst 0, 1) := by decide +kernel
theorem dX7_layProof_15 : decode cX7_layProof 15 = .ok (.invokevirtual 222, 3) := by decide +kernel
theorem dX7_layProof_18 : decode cX7_layProof 18 = .ok (.goto 17, 3) := by decide +kernel
theorem dX7_layProof_21 : decode cX7_layProof 21 = .ok (.aload_n 0, 1) := by decide +kernel
theorem dX7_layProof_22 : decode cX7_layProof 22 = .ok (.getfield 55, 3) := by decide +kernel
theorem dX7_layProof_25 : decode cX7_layProof 25 = .ok (.iconst 1, 1) := by decide +kernel
theorem dX7_layProof_26 : decode cX7_layProof 26 = .ok (.iload_n 1, 1) := by decide +kernel
theorem dX7_layProof_27 : decode cX7_layProof 27 = .ok (.bipush 100, 2) := by decide +kernel
theorem dX7_layProof_29 : decode cX7_layProof 29 = .ok (.isub, 1) := by decide +kernel
theorem dX7_layProof_30 : decode cX7_layProof 30 = .ok (.iconst 0, 1) := by decide +kernel
theorem dX7_layProof_31 : decode cX7_layProof 31 = .ok (.iconst 0, 1) := by decide +kernel
theorem dX7_layProof_32 : decode cX7_layProof 32 = .ok (.invokevirtual 222, 3) := by decide +kernel
theorem dX7_layProof_35 : decode cX7_layProof 35 = .ok (.return_, 1) := by decide +kernel
theorem dX7_findProof_0 : decode cX7_findProof 0 = .ok (.bipush (-9), 2) := by decide +kernel
theorem dX7_findProof_2 : decode cX7_findProof 2 = .ok (.istore_n 1, 1) := by decide +kernel
theorem dX7_findProof_3 : decode cX7_findProof 3 = .ok (.lconst 0, 1) := by decide +kernel
theorem dX7_findProof_4 : decode cX7_findProof 4 = .ok (.lstore_n 2, 1) := by decide +kernel
theorem dX7_findProof_5 : decode cX7_findProof 5 = .ok (.iconst 0, 1) := by decide +kernel
theorem dX7_findProof_6 : decode cX7_findProof 6 = .ok (.istore 4, 2) := by decide +kernel
theorem dX7_findProof_8 : decode cX7_findProof 8 = .ok (.iload 4, 2) := by decide +kernel
theorem dX7_findProof_10 : decode cX7_findProof 10 = .ok (.bipush 74, 2) := by decide +kernel
theorem dX7_findProof_12 : decode cX7_findProof 12 = .ok (.if_icmp .ge 88, 3) := by decide +kernel
theorem dX7_findProof_15 : decode cX7_findProof 15 = .ok (.iload 4, 2) := by decide +kernel
theorem dX7_findProof_17 : decode cX7_findProof 17 = .ok (.bipush 12, 2) := by decide +kernel
theorem dX7_findProof_19 : decode cX7_findProof 19 = .ok (.if_icmp .gt 8, 3) := by decide +kernel
theorem dX7_findProof_22 : decode cX7_findProof 22 = .ok (.iload 4, 2) := by decide +kernel
theorem dX7_findProof_24 : decode cX7_findProof 24 = .ok (.goto 11, 3) := by decide +kernel
theorem dX7_findProof_27 : decode cX7_findProof 27 = .ok (.bipush 100, 2) := by decide +kernel
theorem dX7_findProof_29 : decode cX7_findProof 29 = .ok (.iload 4, 2) := by decide +kernel
theorem dX7_findProof_31 : decode cX7_findProof 31 = .ok (.iadd, 1) := by decide +kernel
theorem dX7_findProof_32 : decode cX7_findProof 32 = .ok (.bipush 13, 2) := by decide +kernel
theorem dX7_findProof_34 : decode cX7_findProof 34 = .ok (.isub, 1) := by decide +kernel
theorem dX7_findProof_35 : decode cX7_findProof 35 = .ok (.istore 5, 2) := by decide +kernel
theorem dX7_findProof_37 : decode cX7_findProof 37 = .ok (.aload_n 0, 1) := by decide +kernel
theorem dX7_findProof_38 : decode cX7_findProof 38 = .ok (.iload 5, 2) := by decide +kernel
theorem dX7_findProof_40 : decode cX7_findProof 40 = .ok (.invokevirtual 208, 3) := by decide +kernel
theorem dX7_findProof_43 : decode cX7_findProof 43 = .ok (.aload_n 0, 1) := by decide +kernel
theorem dX7_findProof_44 : decode cX7_findProof 44 = .ok (.aload_n 0, 1) := by decide +kernel
theorem dX7_findProof_45 : decode cX7_findProof 45 = .ok (.getfield 55, 3) := by decide +kernel
theorem dX7_findProof_48 : decode cX7_findProof 48 = .ok (.invokevirtual 186, 3) := by decide +kernel
theorem dX7_findProof_51 : decode cX7_findProof 51 = .ok (.ifCond .eq 43, 3) := by decide +kernel
theorem dX7_findProof_54 : decode cX7_findProof 54 = .ok (.aload_n 0, 1) := by decide +kernel
theorem dX7_findProof_55 : decode cX7_findProof 55 = .ok (.getfield 34, 3) := by decide +kernel
theorem dX7_findProof_58 : decode cX7_findProof 58 = .ok (.aload_n 0, 1) := by decide +kernel
theorem dX7_findProof_59 : decode cX7_findProof 59 = .ok (.getfield 55, 3) := by decide +kernel
theorem dX7_findProof_62 : decode cX7_findProof 62 = .ok (.aload_n 0, 1) := by decide +kernel
theorem dX7_findProof_63 : decode cX7_findProof 63 = .ok (.getfield 34, 3) := by decide +kernel
theorem dX7_findProof_66 : decode cX7_findProof 66 = .ok (.getfield 183, 3) := by decide +kernel
theorem dX7_findProof_69 : decode cX7_findProof 69 = .ok (.iconst 1, 1) := by decide +kernel
theorem dX7_findProof_70 : decode cX7_findProof 70 = .ok (.invokevirtual 175, 3) := by decide +kernel
theorem dX7_findProof_73 : decode cX7_findProof 73 = .ok (.lstore 6, 2) := by decide +kernel
theorem dX7_findProof_75 : decode cX7_findProof 75 = .ok (.iload_n 1, 1) := by decide +kernel
theorem dX7_findProof_76 : decode cX7_findProof 76 = .ok (.bipush (-9), 2) := by decide +kernel
theorem dX7_findProof_78 : decode cX7_findProof 78 = .ok (.if_icmp .eq 10, 3) := by decide +kernel
theorem dX7_findProof_81 : decode cX7_findProof 81 = .ok (.lload 6, 2) := by decide +kernel
theorem dX7_findProof_83 : decode cX7_findProof 83 = .ok (.lload_n 2, 1) := by decide +kernel
theorem dX7_findProof_84 : decode cX7_findProof 84 = .ok (.lcmp, 1) := by decide +kernel
theorem dX7_findProof_85 : decode cX7_findProof 85 = .ok (.ifCond .le 9, 3) := by decide +kernel
theorem dX7_findProof_88 : decode cX7_findProof 88 = .ok (.iload 5, 2) := by decide +kernel
theorem dX7_findProof_90 : decode cX7_findProof 90 = .ok (.istore_n 1, 1) := by decide +kernel
theorem dX7_findProof_91 : decode cX7_findProof 91 = .ok (.lload 6, 2) := by decide +kernel
theorem dX7_findProof_93 : decode cX7_findProof 93 = .ok (.lstore_n 2, 1) := by decide +kernel
theorem dX7_findProof_94 : decode cX7_findProof 94 = .ok (.iinc 4 1, 3) := by decide +kernel
theorem dX7_findProof_97 : decode cX7_findProof 97 = .ok (.goto (-89), 3) := by decide +kernel
theorem dX7_findProof_100 : decode cX7_findProof 100 = .ok (.iload_n 1, 1) := by decide +kernel
theorem dX7_findProof_101 : decode cX7_findProof 101 = .ok (.ireturn, 1) := by decide +kernel
theorem dX7_leastWage_0 : decode cX7_leastWage 0 = .ok (.iconst 0, 1) := by decide +kernel
theorem dX7_leastWage_1 : decode cX7_leastWage 1 = .ok (.istore_n 2, 1) := by decide +kernel
theorem dX7_leastWage_2 : decode cX7_leastWage 2 = .ok (.iload_n 2, 1) := by decide +kernel
theorem dX7_leastWage_3 : decode cX7_leastWage 3 = .ok (.bipush 99, 2) := by decide +kernel
theorem dX7_leastWage_5 : decode cX7_leastWage 5 = .ok (.if_icmp .gt 56, 3) := by decide +kernel
theorem dX7_leastWage_8 : decode cX7_leastWage 8 = .ok (.aload_n 0, 1) := by decide +kernel
theorem dX7_leastWage_9 : decode cX7_leastWage 9 = .ok (.getfield 10, 3) := by decide +kernel
theorem dX7_leastWage_12 : decode cX7_leastWage 12 = .ok (.iconst 0, 1) := by decide +kernel
theorem dX7_leastWage_13 : decode cX7_leastWage 13 = .ok (.iload_n 2, 1) := by decide +kernel
theorem dX7_leastWage_14 : decode cX7_leastWage 14 = .ok (.aload_n 0, 1) := by decide +kernel
theorem dX7_leastWage_15 : decode cX7_leastWage 15 = .ok (.getfield 10, 3) := by decide +kernel
theorem dX7_leastWage_18 : decode cX7_leastWage 18 = .ok (.iconst 0, 1) := by decide +kernel
theorem dX7_leastWage_19 : decode cX7_leastWage 19 = .ok (.invokevirtual 323, 3) := by decide +kernel
theorem dX7_leastWage_22 : decode cX7_leastWage 22 = .ok (.isub, 1) := by decide +kernel
theorem dX7_leastWage_23 : decode cX7_leastWage 23 = .ok (.invokevirtual 168, 3) := by decide +kernel
theorem dX7_leastWage_26 : decode cX7_leastWage 26 = .ok (.istore_n 3, 1) := by decide +kernel
theorem dX7_leastWage_27 : decode cX7_leastWage 27 = .ok (.ldc2_w 326, 3) := by decide +kernel
theorem dX7_leastWage_30 : decode cX7_leastWage 30 = .ok (.iload_n 3, 1) := by decide +kernel
theorem dX7_leastWage_31 : decode cX7_leastWage 31 = .ok (.i2l, 1) := by decide +kernel
theorem dX7_leastWage_32 : decode cX7_leastWage 32 = .ok (.lmul, 1) := by decide +kernel
theorem dX7_leastWage_33 : decode cX7_leastWage 33 = .ok (.aload_n 0, 1) := by decide +kernel
theorem dX7_leastWage_34 : decode cX7_leastWage 34 = .ok (.getfield 34, 3) := by decide +kernel
theorem dX7_leastWage_37 : decode cX7_leastWage 37 = .ok (.iload_n 1, 1) := by decide +kernel
theorem dX7_leastWage_38 : decode cX7_leastWage 38 = .ok (.invokevirtual 328, 3) := by decide +kernel
theorem dX7_leastWage_41 : decode cX7_leastWage 41 = .ok (.lsub, 1) := by decide +kernel
theorem dX7_leastWage_42 : decode cX7_leastWage 42 = .ok (.aload_n 0, 1) := by decide +kernel
theorem dX7_leastWage_43 : decode cX7_leastWage 43 = .ok (.getfield 10, 3) := by decide +kernel
theorem dX7_leastWage_46 : decode cX7_leastWage 46 = .ok (.invokevirtual 319, 3) := by decide +kernel
theorem dX7_leastWage_49 : decode cX7_leastWage 49 = .ok (.lcmp, 1) := by decide +kernel
theorem dX7_leastWage_50 : decode cX7_leastWage 50 = .ok (.ifCond .lt 5, 3) := by decide +kernel
theorem dX7_leastWage_53 : decode cX7_leastWage 53 = .ok (.iload_n 2, 1) := by decide +kernel
theorem dX7_leastWage_54 : decode cX7_leastWage 54 = .ok (.ireturn, 1) := by decide +kernel
theorem dX7_leastWage_55 : decode cX7_leastWage 55 = .ok (.iinc 2 1, 3) := by decide +kernel
theorem dX7_leastWage_58 : decode cX7_leastWage 58 = .ok (.goto (-56), 3) := by decide +kernel
theorem dX7_leastWage_61 : decode cX7_leastWage 61 = .ok (.bipush (-9), 2) := by decide +kernel
theorem dX7_leastWage_63 : decode cX7_leastWage 63 = .ok (.ireturn, 1) := by decide +kernel
theorem dX7_chosenOf_0 : decode cX7_chosenOf 0 = .ok (.aload_n 0, 1) := by decide +kernel
theorem dX7_chosenOf_1 : decode cX7_chosenOf 1 = .ok (.getfield 34, 3) := by decide +kernel
theorem dX7_chosenOf_4 : decode cX7_chosenOf 4 = .ok (.iconst 0, 1) := by decide +kernel
theorem dX7_chosenOf_5 : decode cX7_chosenOf 5 = .ok (.iload_n 3, 1) := by decide +kernel
theorem dX7_chosenOf_6 : decode cX7_chosenOf 6 = .ok (.iconst 0, 1) := by decide +kernel
theorem dX7_chosenOf_7 : decode cX7_chosenOf 7 = .ok (.invokevirtual 135, 3) := by decide +kernel
theorem dX7_chosenOf_10 : decode cX7_chosenOf 10 = .ok (.aload_n 0, 1) := by decide +kernel
theorem dX7_chosenOf_11 : decode cX7_chosenOf 11 = .ok (.getfield 34, 3) := by decide +kernel
theorem dX7_chosenOf_14 : decode cX7_chosenOf 14 = .ok (.aload_n 1, 1) := by decide +kernel
theorem dX7_chosenOf_15 : decode cX7_chosenOf 15 = .ok (.invokevirtual 179, 3) := by decide +kernel
theorem dX7_chosenOf_18 : decode cX7_chosenOf 18 = .ok (.aload_n 0, 1) := by decide +kernel
theorem dX7_chosenOf_19 : decode cX7_chosenOf 19 = .ok (.getfield 34, 3) := by decide +kernel
theorem dX7_chosenOf_22 : decode cX7_chosenOf 22 = .ok (.getfield 315, 3) := by decide +kernel
theorem dX7_chosenOf_25 : decode cX7_chosenOf 25 = .ok (.lstore 4, 2) := by decide +kernel
theorem dX7_chosenOf_27 : decode cX7_chosenOf 27 = .ok (.aload_n 0, 1) := by decide +kernel
theorem dX7_chosenOf_28 : decode cX7_chosenOf 28 = .ok (.getfield 34, 3) := by decide +kernel
theorem dX7_chosenOf_31 : decode cX7_chosenOf 31 = .ok (.aload_n 2, 1) := by decide +kernel
theorem dX7_chosenOf_32 : decode cX7_chosenOf 32 = .ok (.invokevirtual 179, 3) := by decide +kernel
theorem dX7_chosenOf_35 : decode cX7_chosenOf 35 = .ok (.aload_n 0, 1) := by decide +kernel
theorem dX7_chosenOf_36 : decode cX7_chosenOf 36 = .ok (.getfield 34, 3) := by decide +kernel
theorem dX7_chosenOf_39 : decode cX7_chosenOf 39 = .ok (.getfield 315, 3) := by decide +kernel
theorem dX7_chosenOf_42 : decode cX7_chosenOf 42 = .ok (.lstore 6, 2) := by decide +kernel
theorem dX7_chosenOf_44 : decode cX7_chosenOf 44 = .ok (.lload 4, 2) := by decide +kernel
theorem dX7_chosenOf_46 : decode cX7_chosenOf 46 = .ok (.lload 6, 2) := by decide +kernel
theorem dX7_chosenOf_48 : decode cX7_chosenOf 48 = .ok (.invokestatic 226, 3) := by decide +kernel
theorem dX7_chosenOf_51 : decode cX7_chosenOf 51 = .ok (.aload_n 0, 1) := by decide +kernel
theorem dX7_chosenOf_52 : decode cX7_chosenOf 52 = .ok (.getfield 10, 3) := by decide +kernel
theorem dX7_chosenOf_55 : decode cX7_chosenOf 55 = .ok (.invokevirtual 319, 3) := by decide +kernel
theorem dX7_chosenOf_58 : decode cX7_chosenOf 58 = .ok (.lcmp, 1) := by decide +kernel
theorem dX7_chosenOf_59 : decode cX7_chosenOf 59 = .ok (.ifCond .ge 6, 3) := by decide +kernel
theorem dX7_chosenOf_62 : decode cX7_chosenOf 62 = .ok (.bipush (-9), 2) := by decide +kernel
theorem dX7_chosenOf_64 : decode cX7_chosenOf 64 = .ok (.ireturn, 1) := by decide +kernel
theorem dX7_chosenOf_65 : decode cX7_chosenOf 65 = .ok (.lload 6, 2) := by decide +kernel
theorem dX7_chosenOf_67 : decode cX7_chosenOf 67 = .ok (.lload 4, 2) := by decide +kernel
theorem dX7_chosenOf_69 : decode cX7_chosenOf 69 = .ok (.lcmp, 1) := by decide +kernel
theorem dX7_chosenOf_70 : decode cX7_chosenOf 70 = .ok (.ifCond .le 7, 3) := by decide +kernel
theorem dX7_chosenOf_73 : decode cX7_chosenOf 73 = .ok (.iconst 1, 1) := by decide +kernel
theorem dX7_chosenOf_74 : decode cX7_chosenOf 74 = .ok (.goto 4, 3) := by decide +kernel
theorem dX7_chosenOf_77 : decode cX7_chosenOf 77 = .ok (.iconst 0, 1) := by decide +kernel
theorem dX7_chosenOf_78 : decode cX7_chosenOf 78 = .ok (.ireturn, 1) := by decide +kernel
theorem dX7_ruinYear_0 : decode cX7_ruinYear 0 = .ok (.iconst 0, 1) := by decide +kernel
theorem dX7_ruinYear_1 : decode cX7_ruinYear 1 = .ok (.istore 7, 2) := by decide +kernel
theorem dX7_ruinYear_3 : decode cX7_ruinYear 3 = .ok (.iload_n 3, 1) := by decide +kernel
theorem dX7_ruinYear_4 : decode cX7_ruinYear 4 = .ok (.istore 8, 2) := by decide +kernel
theorem dX7_ruinYear_6 : decode cX7_ruinYear 6 = .ok (.iconst 0, 1) := by decide +kernel
theorem dX7_ruinYear_7 : decode cX7_ruinYear 7 = .ok (.istore 9, 2) := by decide +kernel
theorem dX7_ruinYear_9 : decode cX7_ruinYear 9 = .ok (.iload 9, 2) := by decide +kernel
theorem dX7_ruinYear_11 : decode cX7_ruinYear 11 = .ok (.iload 6, 2) := by decide +kernel
theorem dX7_ruinYear_13 : decode cX7_ruinYear 13 = .ok (.if_icmp .ge 48, 3) := by decide +kernel
theorem dX7_ruinYear_16 : decode cX7_ruinYear 16 = .ok (.iload 8, 2) := by decide +kernel
theorem dX7_ruinYear_18 : decode cX7_ruinYear 18 = .ok (.invokestatic 266, 3) := by decide +kernel
theorem dX7_ruinYear_21 : decode cX7_ruinYear 21 = .ok (.istore 8, 2) := by decide +kernel
theorem dX7_ruinYear_23 : decode cX7_ruinYear 23 = .ok (.iload 7, 2) := by decide +kernel
theorem dX7_ruinYear_25 : decode cX7_ruinYear 25 = .ok (.aload_n 0, 1) := by decide +kernel
theorem dX7_ruinYear_26 : decode cX7_ruinYear 26 = .ok (.getfield 34, 3) := by decide +kernel
theorem dX7_ruinYear_29 : decode cX7_ruinYear 29 = .ok (.aload_n 1, 1) := by decide +kernel
theorem dX7_ruinYear_30 : decode cX7_ruinYear 30 = .ok (.iload_n 2, 1) := by decide +kernel
theorem dX7_ruinYear_31 : decode cX7_ruinYear 31 = .ok (.iload 8, 2) := by decide +kernel
theorem dX7_ruinYear_33 : decode cX7_ruinYear 33 = .ok (.iload 9, 2) := by decide +kernel
theorem dX7_ruinYear_35 : decode cX7_ruinYear 35 = .ok (.invokevirtual 269, 3) := by decide +kernel
theorem dX7_ruinYear_38 : decode cX7_ruinYear 38 = .ok (.iload 4, 2) := by decide +kernel
theorem dX7_ruinYear_40 : decode cX7_ruinYear 40 = .ok (.isub, 1) := by decide +kernel
theorem dX7_ruinYear_41 : decode cX7_ruinYear 41 = .ok (.iadd, 1) := by decide +kernel
theorem dX7_ruinYear_42 : decode cX7_ruinYear 42 = .ok (.istore 7, 2) := by decide +kernel
theorem dX7_ruinYear_44 : decode cX7_ruinYear 44 = .ok (.iload 7, 2) := by decide +kernel
theorem dX7_ruinYear_46 : decode cX7_ruinYear 46 = .ok (.iload 5, 2) := by decide +kernel
theorem dX7_ruinYear_48 : decode cX7_ruinYear 48 = .ok (.ineg, 1) := by decide +kernel
theorem dX7_ruinYear_49 : decode cX7_ruinYear 49 = .ok (.if_icmp .ge 6, 3) := by decide +kernel
theorem dX7_ruinYear_52 : decode cX7_ruinYear 52 = .ok (.iload 9, 2) := by decide +kernel
theorem dX7_ruinYear_54 : decode cX7_ruinYear 54 = .ok (.ireturn, 1) := by decide +kernel
theorem dX7_ruinYear_55 : decode cX7_ruinYear 55 = .ok (.iinc 9 1, 3) := by decide +kernel
theorem dX7_ruinYear_58 : decode cX7_ruinYear 58 = .ok (.goto (-49), 3) := by decide +kernel
theorem dX7_ruinYear_61 : decode cX7_ruinYear 61 = .ok (.bipush (-9), 2) := by decide +kernel
theorem dX7_ruinYear_63 : decode cX7_ruinYear 63 = .ok (.ireturn, 1) := by decide +kernel