theorem dX8_init_0 : decode cX8_init 0 = .ok (.aload_n 0, 1) := by decide +kernel
theorem dX8_init_1 : decode cX8_init 1 = .ok (.invokespecial 1, 3) := by decide +kernel
theorem dX8_init_4 : decode cX8_init 4 = .ok (.aload_n 0, 1) := by decide +kernel
theorem dX8_init_5 : decode cX8_init 5 = .ok (.bipush 7, 2) := by decide +kernel
theorem dX8_init_7 : decode cX8_init 7 = .ok (.newarray .int, 2) := by decide +kernel
theorem dX8_init_9 : decode cX8_init 9 = .ok (.putfield 7, 3) := by decide +kernel
theorem dX8_init_12 : decode cX8_init 12 = .ok (.aload_n 0, 1) := by decide +kernel
theorem dX8_init_13 : decode cX8_init 13 = .ok (.bipush 8, 2) := by decide +kernel
theorem dX8_init_15 : decode cX8_init 15 = .ok (.newarray .int, 2) := by decide +kernel
theorem dX8_init_17 : decode cX8_init 17 = .ok (.dup, 1) := by decide +kernel
theorem dX8_init_18 : decode cX8_init 18 = .ok (.iconst 0, 1) := by decide +kernel
theorem dX8_init_19 : decode cX8_init 19 = .ok (.bipush 10, 2) := by decide +kernel
theorem dX8_init_21 : decode cX8_init 21 = .ok (.iastore, 1) := by decide +kernel
theorem dX8_init_22 : decode cX8_init 22 = .ok (.dup, 1) := by decide +kernel
theorem dX8_init_23 : decode cX8_init 23 = .ok (.iconst 1, 1) := by decide +kernel
theorem dX8_init_24 : decode cX8_init 24 = .ok (.iconst 0, 1) := by decide +kernel
theorem dX8_init_25 : decode cX8_init 25 = .ok (.iastore, 1) := by decide +kernel
theorem dX8_init_26 : decode cX8_init 26 = .ok (.dup, 1) := by decide +kernel
theorem dX8_init_27 : decode cX8_init 27 = .ok (.iconst 2, 1) := by decide +kernel
theorem dX8_init_28 : decode cX8_init 28 = .ok (.iconst 0, 1) := by decide +kernel
theorem dX8_init_29 : decode cX8_init 29 = .ok (.iastore, 1) := by decide +kernel
theorem dX8_init_30 : decode cX8_init 30 = .ok (.dup, 1) := by decide +kernel
theorem dX8_init_31 : decode cX8_init 31 = .ok (.iconst 3, 1) := by decide +kernel
theorem dX8_init_32 : decode cX8_init 32 = .ok (.iconst 0, 1) := by decide +kernel
theorem dX8_init_33 : decode cX8_init 33 = .ok (.iastore, 1) := by decide +kernel
theorem dX8_init_34 : decode cX8_init 34 = .ok (.dup, 1) := by decide +kernel
theorem dX8_init_35 : decode cX8_init 35 = .ok (.iconst 4, 1) := by decide +kernel
theorem dX8_init_36 : decode cX8_init 36 = .ok (.bipush 99, 2) := by decide +kernel
theorem dX8_init_38 : decode cX8_init 38 = .ok (.iastore, 1) := by decide +kernel
theorem dX8_init_39 : decode cX8_init 39 = .ok (.dup, 1) := by decide +kernel
theorem dX8_init_40 : decode cX8_init 40 = .ok (.iconst 5, 1) := by decide +kernel
theorem dX8_init_41 : decode cX8_init 41 = .ok (.bipush 10, 2) := by decide +kernel
theorem dX8_init_43 : decode cX8_init 43 = .ok (.iastore, 1) := by decide +kernel
theorem dX8_init_44 : decode cX8_init 44 = .ok (.dup, 1) := by decide +kernel
theorem dX8_init_45 : decode cX8_init 45 = .ok (.bipush 6, 2) := by decide +kernel
theorem dX8_init_47 : decode cX8_init 47 = .ok (.bipush 99, 2) := by decide +kernel
theorem dX8_init_49 : decode cX8_init 49 = .ok (.iastore, 1) := by decide +kernel
theorem dX8_init_50 : decode cX8_init 50 = .ok (.dup, 1) := by decide +kernel
theorem dX8_init_51 : decode cX8_init 51 = .ok (.bipush 7, 2) := by decide +kernel
theorem dX8_init_53 : decode cX8_init 53 = .ok (.bipush 10, 2) := by decide +kernel
theorem dX8_init_55 : decode cX8_init 55 = .ok (.iastore, 1) := by decide +kernel
theorem dX8_init_56 : decode cX8_init 56 = .ok (.putfield 13, 3) := by decide +kernel
theorem dX8_init_59 : decode cX8_init 59 = .ok (.aload_n 0, 1) := by decide +kernel
theorem dX8_init_60 : decode cX8_init 60 = .ok (.bipush 8, 2) := by decide +kernel
theorem dX8_init_62 : decode cX8_init 62 = .ok (.newarray .int, 2) := by decide +kernel
theorem dX8_init_64 : decode cX8_init 64 = .ok (.dup, 1) := by decide +kernel
theorem dX8_init_65 : decode cX8_init 65 = .ok (.iconst 0, 1) := by decide +kernel
theorem dX8_init_66 : decode cX8_init 66 = .ok (.bipush 99, 2) := by decide +kernel
theorem dX8_init_68 : decode cX8_init 68 = .ok (.iastore, 1) := by decide +kernel
theorem dX8_init_69 : decode cX8_init 69 = .ok (.dup, 1) := by decide +kernel
theorem dX8_init_70 : decode cX8_init 70 = .ok (.iconst 1, 1) := by decide +kernel
theorem dX8_init_71 : decode cX8_init 71 = .ok (.sipush 999, 3) := by decide +kernel
theorem dX8_init_74 : decode cX8_init 74 = .ok (.iastore, 1) := by decide +kernel
theorem dX8_init_75 : decode cX8_init 75 = .ok (.dup, 1) := by decide +kernel
theorem dX8_init_76 : decode cX8_init 76 = .ok (.iconst 2, 1) := by decide +kernel
theorem dX8_init_77 : decode cX8_init 77 = .ok (.bipush 99, 2) := by decide +kernel
theorem dX8_init_79 : decode cX8_init 79 = .ok (.iastore, 1) := by decide +kernel
theorem dX8_init_80 : decode cX8_init 80 = .ok (.dup, 1) := by decide +kernel
theorem dX8_init_81 : decode cX8_init 81 = .ok (.iconst 3, 1) := by decide +kernel
theorem dX8_init_82 : decode cX8_init 82 = .ok (.iconst 1, 1) := by decide +kernel
theorem dX8_init_83 : decode cX8_init 83 = .ok (.iastore, 1) := by decide +kernel
theorem dX8_init_84 : decode cX8_init 84 = .ok (.dup, 1) := by decide +kernel
theorem dX8_init_85 : decode cX8_init 85 = .ok (.iconst 4, 1) := by decide +kernel
theorem dX8_init_86 : decode cX8_init 86 = .ok (.bipush 99, 2) := by decide +kernel
theorem dX8_init_88 : decode cX8_init 88 = .ok (.iastore, 1) := by decide +kernel
theorem dX8_init_89 : decode cX8_init 89 = .ok (.dup, 1) := by decide +kernel
theorem dX8_init_90 : decode cX8_init 90 = .ok (.iconst 5, 1) := by decide +kernel
theorem dX8_init_91 : decode cX8_init 91 = .ok (.bipush 10, 2) := by decide +kernel
theorem dX8_init_93 : decode cX8_init 93 = .ok (.iastore, 1) := by decide +kernel
theorem dX8_init_94 : decode cX8_init 94 = .ok (.dup, 1) := by decide +kernel
theorem dX8_init_95 : decode cX8_init 95 = .ok (.bipush 6, 2) := by decide +kernel
theorem dX8_init_97 : decode cX8_init 97 = .ok (.bipush 99, 2) := by decide +kernel
theorem dX8_init_99 : decode cX8_init 99 = .ok (.iastore, 1) := by decide +kernel
theorem dX8_init_100 : decode cX8_init 100 = .ok (.dup, 1) := by decide +kernel
theorem dX8_init_101 : decode cX8_init 101 = .ok (.bipush 7, 2) := by decide +kernel
theorem dX8_init_103 : decode cX8_init 103 = .ok (.bipush 10, 2) := by decide +kernel
theorem dX8_init_105 : decode cX8_init 105 = .ok (.iastore, 1) := by decide +kernel
theorem dX8_init_106 : decode cX8_init 106 = .ok (.putfield 16, 3) := by decide +kernel
theorem dX8_init_109 : decode cX8_init 109 = .ok (.aload_n 0, 1) := by decide +kernel
theorem dX8_init_110 : decode cX8_init 110 = .ok (.bipush 8, 2) := by decide +kernel
theorem dX8_init_112 : decode cX8_init 112 = .ok (.newarray .int, 2) := by decide +kernel
theorem dX8_init_114 : decode cX8_init 114 = .ok (.putfield 19, 3) := by decide +kernel
theorem dX8_init_117 : decode cX8_init 117 = .ok (.aload_n 0, 1) := by decide +kernel
theorem dX8_init_118 : decode cX8_init 118 = .ok (.bipush 8, 2) := by decide +kernel
theorem dX8_init_120 : decode cX8_init 120 = .ok (.newarray .int, 2) := by decide +kernel
theorem dX8_init_122 : decode cX8_init 122 = .ok (.putfield 22, 3) := by decide +kernel
theorem dX8_init_125 : decode cX8_init 125 = .ok (.aload_n 0, 1) := by decide +kernel
theorem dX8_init_126 : decode cX8_init 126 = .ok (.bipush 8, 2) := by decide +kernel
theorem dX8_init_128 : decode cX8_init 128 = .ok (.newarray .int, 2) := by decide +kernel
theorem dX8_init_130 : decode cX8_init 130 = .ok (.putfield 25, 3) := by decide +kernel
theorem dX8_init_133 : decode cX8_init 133 = .ok (.aload_n 0, 1) := by decide +kernel
theorem dX8_init_134 : decode cX8_init 134 = .ok (.bipush 8, 2) := by decide +kernel
theorem dX8_init_136 : decode cX8_init 136 = .ok (.newarray .int, 2) := by decide +kernel
theorem dX8_init_138 : decode cX8_init 138 = .ok (.putfield 28, 3) := by decide +kernel
theorem dX8_init_141 : decode cX8_init 141 = .ok (.aload_n 0, 1) := by decide +kernel
theorem dX8_init_142 : decode cX8_init 142 = .ok (.bipush 64, 2) := by decide +kernel
theorem dX8_init_144 : decode cX8_init 144 = .ok (.newarray .int, 2) := by decide +kernel
theorem dX8_init_146 : decode cX8_init 146 = .ok (.putfield 31, 3) := by decide +kernel
theorem dX8_init_149 : decode cX8_init 149 = .ok (.aload_n 0, 1) := by decide +kernel
theorem dX8_init_150 : decode cX8_init 150 = .ok (.bipush 32, 2) := by decide +kernel
theorem dX8_init_152 : decode cX8_init 152 = .ok (.newarray .int, 2) := by decide +kernel
theorem dX8_init_154 : decode cX8_init 154 = .ok (.putfield 34, 3) := by decide +kernel
theorem dX8_init_157 : decode cX8_init 157 = .ok (.aload_n 0, 1) := by decide +kernel
theorem dX8_init_158 : decode cX8_init 158 = .ok (.bipush 32, 2) := by decide +kernel
theorem dX8_init_160 : decode cX8_init 160 = .ok (.newarray .int, 2) := by decide +kernel
theorem dX8_init_162 : decode cX8_init 162 = .ok (.putfield 37, 3) := by decide +kernel
theorem dX8_init_165 : decode cX8_init 165 = .ok (.aload_n 0, 1) := by decide +kernel
theorem dX8_init_166 : decode cX8_init 166 = .ok (.bipush 32, 2) := by decide +kernel
theorem dX8_init_168 : decode cX8_init 168 = .ok (.newarray .int, 2) := by decide +kernel
theorem dX8_init_170 : decode cX8_init 170 = .ok (.putfield 40, 3) := by decide +kernel
theorem dX8_init_173 : decode cX8_init 173 = .ok (.aload_n 0, 1) := by decide +kernel
theorem dX8_init_174 : decode cX8_init 174 = .ok (.bipush 32, 2) := by decide +kernel
theorem dX8_init_176 : decode cX8_init 176 = .ok (.newarray .int, 2) := by decide +kernel
theorem dX8_init_178 : decode cX8_init 178 = .ok (.putfield 43, 3) := by decide +kernel
theorem dX8_init_181 : decode cX8_init 181 = .ok (.aload_n 0, 1) := by decide +kernel
theorem dX8_init_182 : decode cX8_init 182 = .ok (.bipush 8, 2) := by decide +kernel
theorem dX8_init_184 : decode cX8_init 184 = .ok (.newarray .int, 2) := by decide +kernel
theorem dX8_init_186 : decode cX8_init 186 = .ok (.putfield 46, 3) := by decide +kernel
theorem dX8_init_189 : decode cX8_init 189 = .ok (.aload_n 0, 1) := by decide +kernel
theorem dX8_init_190 : decode cX8_init 190 = .ok (.bipush 8, 2) := by decide +kernel
theorem dX8_init_192 : decode cX8_init 192 = .ok (.newarray .int, 2) := by decide +kernel
theorem dX8_init_194 : decode cX8_init 194 = .ok (.putfield 49, 3) := by decide +kernel
theorem dX8_init_197 : decode cX8_init 197 = .ok (.aload_n 0, 1) := by decide +kernel
theorem dX8_init_198 : decode cX8_init 198 = .ok (.bipush 8, 2) := by decide +kernel
theorem dX8_init_200 : decode cX8_init 200 = .ok (.newarray .int, 2) := by decide +kernel
theorem dX8_init_202 : decode cX8_init 202 = .ok (.putfield 52, 3) := by decide +kernel
theorem dX8_init_205 : decode cX8_init 205 = .ok (.aload_n 0, 1) := by decide +kernel
theorem dX8_init_206 : decode cX8_init 206 = .ok (.bipush 8, 2) := by decide +kernel
theorem dX8_init_208 : decode cX8_init 208 = .ok (.newarray .int, 2) := by decide +kernel
theorem dX8_init_210 : decode cX8_init 210 = .ok (.putfield 55, 3) := by decide +kernel
theorem dX8_init_213 : decode cX8_init 213 = .ok (.aload_n 0, 1) := by decide +kernel
theorem dX8_init_214 : decode cX8_init 214 = .ok (.bipush 44, 2) := by decide +kernel
theorem dX8_init_216 : decode cX8_init 216 = .ok (.newarray .long, 2) := by decide +kernel
theorem dX8_init_218 : decode cX8_init 218 = .ok (.putfield 58, 3) := by decide +kernel
theorem dX8_init_221 : decode cX8_init 221 = .ok (.aload_n 0, 1) := by decide +kernel
theorem dX8_init_222 : decode cX8_init 222 = .ok (.bipush 44, 2) := by decide +kernel
theorem dX8_init_224 : decode cX8_init 224 = .ok (.newarray .int, 2) := by decide +kernel
theorem dX8_init_226 : decode cX8_init 226 = .ok (.putfield 62, 3) := by decide +kernel
theorem dX8_init_229 : decode cX8_init 229 = .ok (.aload_n 0, 1) := by decide +kernel
theorem dX8_init_230 : decode cX8_init 230 = .ok (.bipush 8, 2) := by decide +kernel
theorem dX8_init_232 : decode cX8_init 232 = .ok (.newarray .int, 2) := by decide +kernel
theorem dX8_init_234 : decode cX8_init 234 = .ok (.putfield 65, 3) := by decide +kernel
theorem dX8_init_237 : decode cX8_init 237 = .ok (.aload_n 0, 1) := by decide +kernel
theorem dX8_init_238 : decode cX8_init 238 = .ok (.bipush 16, 2) := by decide +kernel
theorem dX8_init_240 : decode cX8_init 240 = .ok (.newarray .int, 2) := by decide +kernel
theorem dX8_init_242 : decode cX8_init 242 = .ok (.putfield 68, 3) := by decide +kernel
theorem dX8_init_245 : decode cX8_init 245 = .ok (.aload_n 0, 1) := by decide +kernel
theorem dX8_init_246 : decode cX8_init 246 = .ok (.sipush 200, 3) := by decide +kernel
theorem dX8_init_249 : decode cX8_init 249 = .ok (.newarray .int, 2) := by decide +kernel
theorem dX8_init_251 : decode cX8_init 251 = .ok (.putfield 71, 3) := by decide +kernel
theorem dX8_init_254 : decode cX8_init 254 = .ok (.return_, 1) := by decide +kernel
theorem dX8_no_0 : decode cX8_no 0 = .ok (.aload_n 0, 1) := by decide +kernel
theorem dX8_no_1 : decode cX8_no 1 = .ok (.getfield 7, 3) := by decide +kernel
theorem dX8_no_4 : decode cX8_no 4 = .ok (.iload_n 1, 1) := by decide +kernel
theorem dX8_no_5 : decode cX8_no 5 = .ok (.ineg, 1) := by decide +kernel
theorem dX8_no_6 : decode cX8_no 6 = .ok (.dup2, 1) := by decide +kernel
theorem dX8_no_7 : decode cX8_no 7 = .ok (.iaload, 1) := by decide +kernel
theorem dX8_no_8 : decode cX8_no 8 = .ok (.iconst 1, 1) := by decide +kernel
theorem dX8_no_9 : decode cX8_no 9 = .ok (.iadd, 1) := by decide +kernel
theorem dX8_no_10 : decode cX8_no 10 = .ok (.iastore, 1) := by decide +kernel
theorem dX8_no_11 : decode cX8_no 11 = .ok (.iload_n 1, 1) := by decide +kernel
theorem dX8_no_12 : decode cX8_no 12 = .ok (.ireturn, 1) := by decide +kernel
theorem dX8_lower_0 : decode cX8_lower 0 = .ok (.aload_n 0, 1) := by decide +kernel
theorem dX8_lower_1 : decode cX8_lower 1 = .ok (.getfield 7, 3) := by decide +kernel
theorem dX8_lower_4 : decode cX8_lower 4 = .ok (.iload_n 1, 1) := by decide +kernel
theorem dX8_lower_5 : decode cX8_lower 5 = .ok (.ineg, 1) := by decide +kernel
theorem dX8_lower_6 : decode cX8_lower 6 = .ok (.dup2, 1) := by decide +kernel
theorem dX8_lower_7 : decode cX8_lower 7 = .ok (.iaload, 1) := by decide +kernel
theorem dX8_lower_8 : decode cX8_lower 8 = .ok (.iconst 1, 1) := by decide +kernel
theorem dX8_lower_9 : decode cX8_lower 9 = .ok (.iadd, 1) := by decide +kernel
theorem dX8_lower_10 : decode cX8_lower 10 = .ok (.iastore, 1) := by decide +kernel
theorem dX8_lower_11 : decode cX8_lower 11 = .ok (.ldc 74, 2) := by decide +kernel
theorem dX8_lower_13 : decode cX8_lower 13 = .ok (.iload_n 1, 1) := by decide +kernel
theorem dX8_lower_14 : decode cX8_lower 14 = .ok (.isub, 1) := by decide +kernel
theorem dX8_lower_15 : decode cX8_lower 15 = .ok (.ireturn, 1) := by decide +kernel
theorem dX8_noLong_0 : decode cX8_noLong 0 = .ok (.aload_n 0, 1) := by decide +kernel
theorem dX8_noLong_1 : decode cX8_noLong 1 = .ok (.getfield 7, 3) := by decide +kernel
theorem dX8_noLong_4 : decode cX8_noLong 4 = .ok (.iload_n 1, 1) := by decide +kernel
theorem dX8_noLong_5 : decode cX8_noLong 5 = .ok (.ineg, 1) := by decide +kernel
theorem dX8_noLong_6 : decode cX8_noLong 6 = .ok (.dup2, 1) := by decide +kernel
theorem dX8_noLong_7 : decode cX8_noLong 7 = .ok (.iaload, 1) := by decide +kernel
theorem dX8_noLong_8 : decode cX8_noLong 8 = .ok (.iconst 1, 1) := by decide +kernel
theorem dX8_noLong_9 : decode cX8_noLong 9 = .ok (.iadd, 1) := by decide +kernel
theorem dX8_noLong_10 : decode cX8_noLong 10 = .ok (.iastore, 1) := by decide +kernel
theorem dX8_noLong_11 : decode cX8_noLong 11 = .ok (.ldc2_w 75, 3) := by decide +kernel
theorem dX8_noLong_14 : decode cX8_noLong 14 = .ok (.iload_n 1, 1) := by decide +kernel
theorem dX8_noLong_15 : decode cX8_noLong 15 = .ok (.i2l, 1) := by decide +kernel
theorem dX8_noLong_16 : decode cX8_noLong 16 = .ok (.lsub, 1) := by decide +kernel
theorem dX8_noLong_17 : decode cX8_noLong 17 = .ok (.lreturn, 1) := by decide +kernel
theorem dX8_isIn_0 : decode cX8_isIn 0 = .ok (.iload_n 0, 1) := by decide +kernel
theorem dX8_isIn_1 : decode cX8_isIn 1 = .ok (.iload_n 1, 1) := by decide +kernel
theorem dX8_isIn_2 : decode cX8_isIn 2 = .ok (.if_icmp .lt 12, 3) := by decide +kernel
theorem dX8_isIn_5 : decode cX8_isIn 5 = .ok (.iload_n 0, 1) := by decide +kernel
theorem dX8_isIn_6 : decode cX8_isIn 6 = .ok (.iload_n 2, 1) := by decide +kernel
theorem dX8_isIn_7 : decode cX8_isIn 7 = .ok (.if_icmp .gt 7, 3) := by decide +kernel
theorem dX8_isIn_10 : decode cX8_isIn 10 = .ok (.iconst 1, 1) := by decide +kernel
theorem dX8_isIn_11 : decode cX8_isIn 11 = .ok (.goto 4, 3) := by decide +kernel
theorem dX8_isIn_14 : decode cX8_isIn 14 = .ok (.iconst 0, 1) := by decide +kernel
theorem dX8_isIn_15 : decode cX8_isIn 15 = .ok (.ireturn, 1) := by decide +kernel
theorem dX8_bound_0 : decode cX8_bound 0 = .ok (.iload_n 0, 1) := by decide +kernel
theorem dX8_bound_1 : decode cX8_bound 1 = .ok (.iload_n 1, 1) := by decide +kernel
theorem dX8_bound_2 : decode cX8_bound 2 = .ok (.if_icmp .ge 8, 3) := by decide +kernel
theorem dX8_bound_5 : decode cX8_bound 5 = .ok (.bipush (-4), 2) := by decide +kernel
theorem dX8_bound_7 : decode cX8_bound 7 = .ok (.goto 14, 3) := by decide +kernel
theorem dX8_bound_10 : decode cX8_bound 10 = .ok (.iload_n 0, 1) := by decide +kernel
theorem dX8_bound_11 : decode cX8_bound 11 = .ok (.iload_n 2, 1) := by decide +kernel
theorem dX8_bound_12 : decode cX8_bound 12 = .ok (.if_icmp .le 8, 3) := by decide +kernel
theorem dX8_bound_15 : decode cX8_bound 15 = .ok (.bipush (-6), 2) := by decide +kernel
theorem dX8_bound_17 : decode cX8_bound 17 = .ok (.goto 4, 3) := by decide +kernel
theorem dX8_bound_20 : decode cX8_bound 20 = .ok (.iconst 0, 1) := by decide +kernel
theorem dX8_bound_21 : decode cX8_bound 21 = .ok (.ireturn, 1) := by decide +kernel
theorem dX8_allChances_0 : decode cX8_allChances 0 = .ok (.iconst 0, 1) := by decide +kernel
theorem dX8_allChances_1 : decode cX8_allChances 1 = .ok (.istore_n 1, 1) := by decide +kernel
theorem dX8_allChances_2 : decode cX8_allChances 2 = .ok (.iconst 0, 1) := by decide +kernel
theorem dX8_allChances_3 : decode cX8_allChances 3 = .ok (.istore_n 2, 1) := by decide +kernel
theorem dX8_allChances_4 : decode cX8_allChances 4 = .ok (.iload_n 2, 1) := by decide +kernel
theorem dX8_allChances_5 : decode cX8_allChances 5 = .ok (.aload_n 0, 1) := by decide +kernel
theorem dX8_allChances_6 : decode cX8_allChances 6 = .ok (.getfield 77, 3) := by decide +kernel
theorem dX8_allChances_9 : decode cX8_allChances 9 = .ok (.if_icmp .ge 18, 3) := by decide +kernel
theorem dX8_allChances_12 : decode cX8_allChances 12 = .ok (.iload_n 1, 1) := by decide +kernel
theorem dX8_allChances_13 : decode cX8_allChances 13 = .ok (.aload_n 0, 1) := by decide +kernel
theorem dX8_allChances_14 : decode cX8_allChances 14 = .ok (.getfield 25, 3) := by decide +kernel
theorem dX8_allChances_17 : decode cX8_allChances 17 = .ok (.iload_n 2, 1) := by decide +kernel
theorem dX8_allChances_18 : decode cX8_allChances 18 = .ok (.iaload, 1) := by decide +kernel
theorem dX8_allChances_19 : decode cX8_allChances 19 = .ok (.iadd, 1) := by decide +kernel
theorem dX8_allChances_20 : decode cX8_allChances 20 = .ok (.istore_n 1, 1) := by decide +kernel
theorem dX8_allChances_21 : decode cX8_allChances 21 = .ok (.iinc 2 1, 3) := by decide +kernel
theorem dX8_allChances_24 : decode cX8_allChances 24 = .ok (.goto (-20), 3) := by decide +kernel
theorem dX8_allChances_27 : decode cX8_allChances 27 = .ok (.iload_n 1, 1) := by decide +kernel
theorem dX8_allChances_28 : decode cX8_allChances 28 = .ok (.ireturn, 1) := by decide +kernel
theorem dX8_allWeathers_0 : decode cX8_allWeathers 0 = .ok (.aload_n 0, 1) := by decide +kernel
theorem dX8_allWeathers_1 : decode cX8_allWeathers 1 = .ok (.getfield 77, 3) := by decide +kernel
theorem dX8_allWeathers_4 : decode cX8_allWeathers 4 = .ok (.aload_n 0, 1) := by decide +kernel
theorem dX8_allWeathers_5 : decode cX8_allWeathers 5 = .ok (.invokevirtual 81, 3) := by decide +kernel
theorem dX8_allWeathers_8 : decode cX8_allWeathers 8 = .ok (.bipush 100, 2) := by decide +kernel
theorem dX8_allWeathers_10 : decode cX8_allWeathers 10 = .ok (.if_icmp .ge 7, 3) := by decide +kernel
theorem dX8_allWeathers_13 : decode cX8_allWeathers 13 = .ok (.iconst 1, 1) := by decide +kernel
theorem dX8_allWeathers_14 : decode cX8_allWeathers 14 = .ok (.goto 4, 3) := by decide +kernel
theorem dX8_allWeathers_17 : decode cX8_allWeathers 17 = .ok (.iconst 0, 1) := by decide +kernel
theorem dX8_allWeathers_18 : decode cX8_allWeathers 18 = .ok (.iadd, 1) := by decide +kernel
theorem dX8_allWeathers_19 : decode cX8_allWeathers 19 = .ok (.ireturn, 1) := by decide +kernel
theorem dX8_chanceOf_0 : decode cX8_chanceOf 0 = .ok (.iload_n 1, 1) := by decide +kernel
theorem dX8_chanceOf_1 : decode cX8_chanceOf 1 = .ok (.aload_n 0, 1) := by decide +kernel
theorem dX8_chanceOf_2 : decode cX8_chanceOf 2 = .ok (.getfield 77, 3) := by decide +kernel
theorem dX8_chanceOf_5 : decode cX8_chanceOf 5 = .ok (.if_icmp .ge 12, 3) := by decide +kernel
theorem dX8_chanceOf_8 : decode cX8_chanceOf 8 = .ok (.aload_n 0, 1) := by decide +kernel
theorem dX8_chanceOf_9 : decode cX8_chanceOf 9 = .ok (.getfield 25, 3) := by decide +kernel
theorem dX8_chanceOf_12 : decode cX8_chanceOf 12 = .ok (.iload_n 1, 1) := by decide +kernel
theorem dX8_chanceOf_13 : decode cX8_chanceOf 13 = .ok (.iaload, 1) := by decide +kernel
theorem dX8_chanceOf_14 : decode cX8_chanceOf 14 = .ok (.goto 10, 3) := by decide +kernel
theorem dX8_chanceOf_17 : decode cX8_chanceOf 17 = .ok (.bipush 100, 2) := by decide +kernel
theorem dX8_chanceOf_19 : decode cX8_chanceOf 19 = .ok (.aload_n 0, 1) := by decide +kernel
theorem dX8_chanceOf_20 : decode cX8_chanceOf 20 = .ok (.invokevirtual 81, 3) := by decide +kernel
theorem dX8_chanceOf_23 : decode cX8_chanceOf 23 = .ok (.isub, 1) := by decide +kernel
theorem dX8_chanceOf_24 : decode cX8_chanceOf 24 = .ok (.ireturn, 1) := by decide +kernel
theorem dX8_timesOf_0 : decode cX8_timesOf 0 = .ok (.iload_n 1, 1) := by decide +kernel
theorem dX8_timesOf_1 : decode cX8_timesOf 1 = .ok (.aload_n 0, 1) := by decide +kernel
theorem dX8_timesOf_2 : decode cX8_timesOf 2 = .ok (.getfield 77, 3) := by decide +kernel
theorem dX8_timesOf_5 : decode cX8_timesOf 5 = .ok (.if_icmp .ge 12, 3) := by decide +kernel
theorem dX8_timesOf_8 : decode cX8_timesOf 8 = .ok (.aload_n 0, 1) := by decide +kernel
theorem dX8_timesOf_9 : decode cX8_timesOf 9 = .ok (.getfield 28, 3) := by decide +kernel
theorem dX8_timesOf_12 : decode cX8_timesOf 12 = .ok (.iload_n 1, 1) := by decide +kernel
theorem dX8_timesOf_13 : decode cX8_timesOf 13 = .ok (.iaload, 1) := by decide +kernel
theorem dX8_timesOf_14 : decode cX8_timesOf 14 = .ok (.goto 5, 3) := by decide +kernel
theorem dX8_timesOf_17 : decode cX8_timesOf 17 = .ok (.bipush 100, 2) := by decide +kernel
theorem dX8_timesOf_19 : decode cX8_timesOf 19 = .ok (.ireturn, 1) := by decide +kernel
theorem dX8_feed_0 : decode cX8_feed 0 = .ok (.iload_n 1, 1) := by decide +kernel
theorem dX8_feed_1 : decode cX8_feed 1 = .ok (.iconst 1, 1) := by decide +kernel
theorem dX8_feed_2 : decode cX8_feed 2 = .ok (.bipush 8, 2) := by decide +kernel
theorem dX8_feed_4 : decode cX8_feed 4 = .ok (.invokestatic 85, 3) := by decide +kernel
theorem dX8_feed_7 : decode cX8_feed 7 = .ok (.istore 4, 2) := by decide +kernel
theorem dX8_feed_9 : decode cX8_feed 9 = .ok (.iload 4, 2) := by decide +kernel
theorem dX8_feed_11 : decode cX8_feed 11 = .ok (.ifCond .ne 18, 3) := by decide +kernel
theorem dX8_feed_14 : decode cX8_feed 14 = .ok (.aload_n 0, 1) := by decide +kernel
theorem dX8_feed_15 : decode cX8_feed 15 = .ok (.getfield 89, 3) := by decide +kernel
theorem dX8_feed_18 : decode cX8_feed 18 = .ok (.iload_n 1, 1) := by decide +kernel
theorem dX8_feed_19 : decode cX8_feed 19 = .ok (.iadd, 1) := by decide +kernel
theorem dX8_feed_20 : decode cX8_feed 20 = .ok (.bipush 64, 2) := by decide +kernel
theorem dX8_feed_22 : decode cX8_feed 22 = .ok (.if_icmp .le 7, 3) := by decide +kernel
theorem dX8_feed_25 : decode cX8_feed 25 = .ok (.bipush (-6), 2) := by decide +kernel
theorem dX8_feed_27 : decode cX8_feed 27 = .ok (.istore 4, 2) := by decide +kernel
theorem dX8_feed_29 : decode cX8_feed 29 = .ok (.iload 4, 2) := by decide +kernel
theorem dX8_feed_31 : decode cX8_feed 31 = .ok (.ifCond .eq 10, 3) := by decide +kernel
theorem dX8_feed_34 : decode cX8_feed 34 = .ok (.aload_n 0, 1) := by decide +kernel
theorem dX8_feed_35 : decode cX8_feed 35 = .ok (.iload 4, 2) := by decide +kernel
theorem dX8_feed_37 : decode cX8_feed 37 = .ok (.invokevirtual 92, 3) := by decide +kernel
theorem dX8_feed_40 : decode cX8_feed 40 = .ok (.ireturn, 1) := by decide +kernel
theorem dX8_feed_41 : decode cX8_feed 41 = .ok (.iconst 0, 1) := by decide +kernel
theorem dX8_feed_42 : decode cX8_feed 42 = .ok (.istore 5, 2) := by decide +kernel
theorem dX8_feed_44 : decode cX8_feed 44 = .ok (.iload 5, 2) := by decide +kernel
theorem dX8_feed_46 : decode cX8_feed 46 = .ok (.iload_n 1, 1) := by decide +kernel
theorem dX8_feed_47 : decode cX8_feed 47 = .ok (.if_icmp .ge 40, 3) := by decide +kernel
theorem dX8_feed_50 : decode cX8_feed 50 = .ok (.aload_n 0, 1) := by decide +kernel
theorem dX8_feed_51 : decode cX8_feed 51 = .ok (.getfield 31, 3) := by decide +kernel
theorem dX8_feed_54 : decode cX8_feed 54 = .ok (.aload_n 0, 1) := by decide +kernel
theorem dX8_feed_55 : decode cX8_feed 55 = .ok (.getfield 89, 3) := by decide +kernel
theorem dX8_feed_58 : decode cX8_feed 58 = .ok (.lload_n 2, 1) := by decide +kernel
theorem dX8_feed_59 : decode cX8_feed 59 = .ok (.bipush 8, 2) := by decide +kernel
theorem dX8_feed_61 : decode cX8_feed 61 = .ok (.iload 5, 2) := by decide +kernel
theorem dX8_feed_63 : decode cX8_feed 63 = .ok (.imul, 1) := by decide +kernel
theorem dX8_feed_64 : decode cX8_feed 64 = .ok (.lshr, 1) := by decide +kernel
theorem dX8_feed_65 : decode cX8_feed 65 = .ok (.ldc2_w 96, 3) := by decide +kernel
theorem dX8_feed_68 : decode cX8_feed 68 = .ok (.land, 1) := by decide +kernel
theorem dX8_feed_69 : decode cX8_feed 69 = .ok (.l2i, 1) := by decide +kernel
theorem dX8_feed_70 : decode cX8_feed 70 = .ok (.iastore, 1) := by decide +kernel
theorem dX8_feed_71 : decode cX8_feed 71 = .ok (.aload_n 0, 1) := by decide +kernel
theorem dX8_feed_72 : decode cX8_feed 72 = .ok (.dup, 1) := by decide +kernel
theorem dX8_feed_73 : decode cX8_feed 73 = .ok (.getfield 89, 3) := by decide +kernel
theorem dX8_feed_76 : decode cX8_feed 76 = .ok (.iconst 1, 1) := by decide +kernel
theorem dX8_feed_77 : decode cX8_feed 77 = .ok (.iadd, 1) := by decide +kernel
theorem dX8_feed_78 : decode cX8_feed 78 = .ok (.putfield 89, 3) := by decide +kernel
theorem dX8_feed_81 : decode cX8_feed 81 = .ok (.iinc 5 1, 3) := by decide +kernel
theorem dX8_feed_84 : decode cX8_feed 84 = .ok (.goto (-40), 3) := by decide +kernel
theorem dX8_feed_87 : decode cX8_feed 87 = .ok (.aload_n 0, 1) := by decide +kernel
theorem dX8_feed_88 : decode cX8_feed 88 = .ok (.getfield 89, 3) := by decide +kernel
theorem dX8_feed_91 : decode cX8_feed 91 = .ok (.ireturn, 1) := by decide +kernel
theorem dX8_nextByte_0 : decode cX8_nextByte 0 = .ok (.aload_n 0, 1) := by decide +kernel
theorem dX8_nextByte_1 : decode cX8_nextByte 1 = .ok (.getfield 98, 3) := by decide +kernel
theorem dX8_nextByte_4 : decode cX8_nextByte 4 = .ok (.aload_n 0, 1) := by decide +kernel
theorem dX8_nextByte_5 : decode cX8_nextByte 5 = .ok (.getfield 89, 3) := by decide +kernel
theorem dX8_nextByte_8 : decode cX8_nextByte 8 = .ok (.if_icmp .ge 15, 3) := by decide +kernel
theorem dX8_nextByte_11 : decode cX8_nextByte 11 = .ok (.aload_n 0, 1) := by decide +kernel
theorem dX8_nextByte_12 : decode cX8_nextByte 12 = .ok (.getfield 31, 3) := by decide +kernel
theorem dX8_nextByte_15 : decode cX8_nextByte 15 = .ok (.aload_n 0, 1) := by decide +kernel
theorem dX8_nextByte_16 : decode cX8_nextByte 16 = .ok (.getfield 98, 3) := by decide +kernel
theorem dX8_nextByte_19 : decode cX8_nextByte 19 = .ok (.iaload, 1) := by decide +kernel
theorem dX8_nextByte_20 : decode cX8_nextByte 20 = .ok (.goto 4, 3) := by decide +kernel
theorem dX8_nextByte_23 : decode cX8_nextByte 23 = .ok (.iconst (-1), 1) := by decide +kernel
theorem dX8_nextByte_24 : decode cX8_nextByte 24 = .ok (.ireturn, 1) := by decide +kernel
theorem dX8_isNext_0 : decode cX8_isNext 0 = .ok (.aload_n 0, 1) := by decide +kernel
theorem dX8_isNext_1 : decode cX8_isNext 1 = .ok (.invokevirtual 101, 3) := by decide +kernel
theorem dX8_isNext_4 : decode cX8_isNext 4 = .ok (.iload_n 1, 1) := by decide +kernel
theorem dX8_isNext_5 : decode cX8_isNext 5 = .ok (.if_icmp .eq 5, 3) := by decide +kernel
theorem dX8_isNext_8 : decode cX8_isNext 8 = .ok (.iconst 0, 1) := by decide +kernel
theorem dX8_isNext_9 : decode cX8_isNext 9 = .ok (.ireturn, 1) := by decide +kernel
theorem dX8_isNext_10 : decode cX8_isNext 10 = .ok (.aload_n 0, 1) := by decide +kernel
theorem dX8_isNext_11 : decode cX8_isNext 11 = .ok (.dup, 1) := by decide +kernel
theorem dX8_isNext_12 : decode cX8_isNext 12 = .ok (.getfield 98, 3) := by decide +kernel
theorem dX8_isNext_15 : decode cX8_isNext 15 = .ok (.iconst 1, 1) := by decide +kernel
theorem dX8_isNext_16 : decode cX8_isNext 16 = .ok (.iadd, 1) := by decide +kernel
theorem dX8_isNext_17 : decode cX8_isNext 17 = .ok (.putfield 98, 3) := by decide +kernel
theorem dX8_isNext_20 : decode cX8_isNext 20 = .ok (.iconst 1, 1) := by decide +kernel
theorem dX8_isNext_21 : decode cX8_isNext 21 = .ok (.ireturn, 1) := by decide +kernel
theorem dX8_number_0 : decode cX8_number 0 = .ok (.aload_n 0, 1) := by decide +kernel
theorem dX8_number_1 : decode cX8_number 1 = .ok (.invokevirtual 101, 3) := by decide +kernel
theorem dX8_number_4 : decode cX8_number 4 = .ok (.bipush 48, 2) := by decide +kernel
theorem dX8_number_6 : decode cX8_number 6 = .ok (.bipush 57, 2) := by decide +kernel
theorem dX8_number_8 : decode cX8_number 8 = .ok (.invokestatic 104, 3) := by decide +kernel
theorem dX8_number_11 : decode cX8_number 11 = .ok (.ifCond .ne 5, 3) := by decide +kernel
theorem dX8_number_14 : decode cX8_number 14 = .ok (.iconst (-1), 1) := by decide +kernel
theorem dX8_number_15 : decode cX8_number 15 = .ok (.ireturn, 1) := by decide +kernel
theorem dX8_number_16 : decode cX8_number 16 = .ok (.aload_n 0, 1) := by decide +kernel
theorem dX8_number_17 : decode cX8_number 17 = .ok (.invokevirtual 101, 3) := by decide +kernel
theorem dX8_number_20 : decode cX8_number 20 = .ok (.bipush 48, 2) := by decide +kernel
theorem dX8_number_22 : decode cX8_number 22 = .ok (.isub, 1) := by decide +kernel
theorem dX8_number_23 : decode cX8_number 23 = .ok (.istore_n 1, 1) := by decide +kernel
theorem dX8_number_24 : decode cX8_number 24 = .ok (.aload_n 0, 1) := by decide +kernel
theorem dX8_number_25 : decode cX8_number 25 = .ok (.dup, 1) := by decide +kernel
theorem dX8_number_26 : decode cX8_number 26 = .ok (.getfield 98, 3) := by decide +kernel
theorem dX8_number_29 : decode cX8_number 29 = .ok (.iconst 1, 1) := by decide +kernel
theorem dX8_number_30 : decode cX8_number 30 = .ok (.iadd, 1) := by decide +kernel
theorem dX8_number_31 : decode cX8_number 31 = .ok (.putfield 98, 3) := by decide +kernel
theorem dX8_number_34 : decode cX8_number 34 = .ok (.iconst 1, 1) := by decide +kernel
theorem dX8_number_35 : decode cX8_number 35 = .ok (.istore_n 2, 1) := by decide +kernel
theorem dX8_number_36 : decode cX8_number 36 = .ok (.iload_n 2, 1) := by decide +kernel
theorem dX8_number_37 : decode cX8_number 37 = .ok (.iconst 3, 1) := by decide +kernel
theorem dX8_number_38 : decode cX8_number 38 = .ok (.if_icmp .ge 50, 3) := by decide +kernel
theorem dX8_number_41 : decode cX8_number 41 = .ok (.iload_n 1, 1) := by decide +kernel
theorem dX8_number_42 : decode cX8_number 42 = .ok (.ifCond .le 46, 3) := by decide +kernel
theorem dX8_number_45 : decode cX8_number 45 = .ok (.aload_n 0, 1) := by decide +kernel
theorem dX8_number_46 : decode cX8_number 46 = .ok (.invokevirtual 101, 3) := by decide +kernel
theorem dX8_number_49 : decode cX8_number 49 = .ok (.bipush 48, 2) := by decide +kernel
theorem dX8_number_51 : decode cX8_number 51 = .ok (.bipush 57, 2) := by decide +kernel
theorem dX8_number_53 : decode cX8_number 53 = .ok (.invokestatic 104, 3) := by decide +kernel
theorem dX8_number_56 : decode cX8_number 56 = .ok (.ifCond .eq 32, 3) := by decide +kernel
theorem dX8_number_59 : decode cX8_number 59 = .ok (.bipush 10, 2) := by decide +kernel
theorem dX8_number_61 : decode cX8_number 61 = .ok (.iload_n 1, 1) := by decide +kernel
theorem dX8_number_62 : decode cX8_number 62 = .ok (.imul, 1) := by decide +kernel
theorem dX8_number_63 : decode cX8_number 63 = .ok (.aload_n 0, 1) := by decide +kernel
theorem dX8_number_64 : decode cX8_number 64 = .ok (.invokevirtual 101, 3) := by decide +kernel
theorem dX8_number_67 : decode cX8_number 67 = .ok (.iadd, 1) := by decide +kernel
theorem dX8_number_68 : decode cX8_number 68 = .ok (.bipush 48, 2) := by decide +kernel
theorem dX8_number_70 : decode cX8_number 70 = .ok (.isub, 1) := by decide +kernel
theorem dX8_number_71 : decode cX8_number 71 = .ok (.istore_n 1, 1) := by decide +kernel
theorem dX8_number_72 : decode cX8_number 72 = .ok (.aload_n 0, 1) := by decide +kernel
theorem dX8_number_73 : decode cX8_number 73 = .ok (.dup, 1) := by decide +kernel
theorem dX8_number_74 : decode cX8_number 74 = .ok (.getfield 98, 3) := by decide +kernel
theorem dX8_number_77 : decode cX8_number 77 = .ok (.iconst 1, 1) := by decide +kernel
theorem dX8_number_78 : decode cX8_number 78 = .ok (.iadd, 1) := by decide +kernel
theorem dX8_number_79 : decode cX8_number 79 = .ok (.putfield 98, 3) := by decide +kernel
theorem dX8_number_82 : decode cX8_number 82 = .ok (.iinc 2 1, 3) := by decide +kernel
theorem dX8_number_85 : decode cX8_number 85 = .ok (.goto (-49), 3) := by decide +kernel
theorem dX8_number_88 : decode cX8_number 88 = .ok (.iload_n 1, 1) := by decide +kernel
theorem dX8_number_89 : decode cX8_number 89 = .ok (.ireturn, 1) := by decide +kernel
theorem dX8_hasTwo_0 : decode cX8_hasTwo 0 = .ok (.iload_n 0, 1) := by decide +kernel
theorem dX8_hasTwo_1 : decode cX8_hasTwo 1 = .ok (.bipush 112, 2) := by decide +kernel
theorem dX8_hasTwo_3 : decode cX8_hasTwo 3 = .ok (.if_icmp .eq 27, 3) := by decide +kernel
theorem dX8_hasTwo_6 : decode cX8_hasTwo 6 = .ok (.iload_n 0, 1) := by decide +kernel
theorem dX8_hasTwo_7 : decode cX8_hasTwo 7 = .ok (.bipush 119, 2) := by decide +kernel
theorem dX8_hasTwo_9 : decode cX8_hasTwo 9 = .ok (.if_icmp .eq 21, 3) := by decide +kernel
theorem dX8_hasTwo_12 : decode cX8_hasTwo 12 = .ok (.iload_n 0, 1) := by decide +kernel
theorem dX8_hasTwo_13 : decode cX8_hasTwo 13 = .ok (.bipush 109, 2) := by decide +kernel
theorem dX8_hasTwo_15 : decode cX8_hasTwo 15 = .ok (.if_icmp .eq 15, 3) := by decide +kernel
theorem dX8_hasTwo_18 : decode cX8_hasTwo 18 = .ok (.iload_n 0, 1) := by decide +kernel
theorem dX8_hasTwo_19 : decode cX8_hasTwo 19 = .ok (.bipush 101, 2) := by decide +kernel
theorem dX8_hasTwo_21 : decode cX8_hasTwo 21 = .ok (.if_icmp .eq 9, 3) := by decide +kernel
theorem dX8_hasTwo_24 : decode cX8_hasTwo 24 = .ok (.iload_n 0, 1) := by decide +kernel
theorem dX8_hasTwo_25 : decode cX8_hasTwo 25 = .ok (.bipush 115, 2) := by decide +kernel
theorem dX8_hasTwo_27 : decode cX8_hasTwo 27 = .ok (.if_icmp .ne 7, 3) := by decide +kernel
theorem dX8_hasTwo_30 : decode cX8_hasTwo 30 = .ok (.iconst 1, 1) := by decide +kernel
theorem dX8_hasTwo_31 : decode cX8_hasTwo 31 = .ok (.goto 4, 3) := by decide +kernel
theorem dX8_hasTwo_34 : decode cX8_hasTwo 34 = .ok (.iconst 0, 1) := by decide +kernel
theorem dX8_hasTwo_35 : decode cX8_hasTwo 35 = .ok (.ireturn, 1) := by decide +kernel
theorem dX8_statement_0 : decode cX8_statement 0 = .ok (.aload_n 0, 1) := by decide +kernel
theorem dX8_statement_1 : decode cX8_statement 1 = .ok (.invokevirtual 101, 3) := by decide +kernel
theorem dX8_statement_4 : decode cX8_statement 4 = .ok (.istore_n 1, 1) := by decide +kernel
theorem dX8_statement_5 : decode cX8_statement 5 = .ok (.iload_n 1, 1) := by decide +kernel
theorem dX8_statement_6 : decode cX8_statement 6 = .ok (.bipush 103, 2) := by decide +kernel
theorem dX8_statement_8 : decode cX8_statement 8 = .ok (.if_icmp .eq 18, 3) := by decide +kernel
theorem dX8_statement_11 : decode cX8_statement 11 = .ok (.iload_n 1, 1) := by decide +kernel
theorem dX8_statement_12 : decode cX8_statement 12 = .ok (.bipush 111, 2) := by decide +kernel
theorem dX8_statement_14 : decode cX8_statement 14 = .ok (.if_icmp .eq 12, 3) := by decide +kernel
theorem dX8_statement_17 : decode cX8_statement 17 = .ok (.iload_n 1, 1) := by decide +kernel
theorem dX8_statement_18 : decode cX8_statement 18 = .ok (.invokestatic 108, 3) := by decide +kernel
theorem dX8_statement_21 : decode cX8_statement 21 = .ok (.ifCond .ne 5, 3) := by decide +kernel
theorem dX8_statement_24 : decode cX8_statement 24 = .ok (.iconst 0, 1) := by decide +kernel
theorem dX8_statement_25 : decode cX8_statement 25 = .ok (.ireturn, 1) := by decide +kernel
theorem dX8_statement_26 : decode cX8_statement 26 = .ok (.aload_n 0, 1) := by decide +kernel
theorem dX8_statement_27 : decode cX8_statement 27 = .ok (.getfield 112, 3) := by decide +kernel
theorem dX8_statement_30 : decode cX8_statement 30 = .ok (.istore_n 2, 1) := by decide +kernel
theorem dX8_statement_31 : decode cX8_statement 31 = .ok (.aload_n 0, 1) := by decide +kernel
theorem dX8_statement_32 : decode cX8_statement 32 = .ok (.getfield 34, 3) := by decide +kernel
theorem dX8_statement_35 : decode cX8_statement 35 = .ok (.iload_n 2, 1) := by decide +kernel
theorem dX8_statement_36 : decode cX8_statement 36 = .ok (.iload_n 1, 1) := by decide +kernel
theorem dX8_statement_37 : decode cX8_statement 37 = .ok (.iastore, 1) := by decide +kernel
theorem dX8_statement_38 : decode cX8_statement 38 = .ok (.aload_n 0, 1) := by decide +kernel
theorem dX8_statement_39 : decode cX8_statement 39 = .ok (.getfield 37, 3) := by decide +kernel
theorem dX8_statement_42 : decode cX8_statement 42 = .ok (.iload_n 2, 1) := by decide +kernel
theorem dX8_statement_43 : decode cX8_statement 43 = .ok (.aload_n 0, 1) := by decide +kernel
theorem dX8_statement_44 : decode cX8_statement 44 = .ok (.getfield 98, 3) := by decide +kernel
theorem dX8_statement_47 : decode cX8_statement 47 = .ok (.iastore, 1) := by decide +kernel
theorem dX8_statement_48 : decode cX8_statement 48 = .ok (.aload_n 0, 1) := by decide +kernel
theorem dX8_statement_49 : decode cX8_statement 49 = .ok (.dup, 1) := by decide +kernel
theorem dX8_statement_50 : decode cX8_statement 50 = .ok (.getfield 98, 3) := by decide +kernel
theorem dX8_statement_53 : decode cX8_statement 53 = .ok (.iconst 1, 1) := by decide +kernel
theorem dX8_statement_54 : decode cX8_statement 54 = .ok (.iadd, 1) := by decide +kernel
theorem dX8_statement_55 : decode cX8_statement 55 = .ok (.putfield 98, 3) := by decide +kernel
theorem dX8_statement_58 : decode cX8_statement 58 = .ok (.aload_n 0, 1) := by decide +kernel
theorem dX8_statement_59 : decode cX8_statement 59 = .ok (.getfield 40, 3) := by decide +kernel
theorem dX8_statement_62 : decode cX8_statement 62 = .ok (.iload_n 2, 1) := by decide +kernel
theorem dX8_statement_63 : decode cX8_statement 63 = .ok (.aload_n 0, 1) := by decide +kernel
theorem dX8_statement_64 : decode cX8_statement 64 = .ok (.invokevirtual 115, 3) := by decide +kernel
theorem dX8_statement_67 : decode cX8_statement 67 = .ok (.iastore, 1) := by decide +kernel
theorem dX8_statement_68 : decode cX8_statement 68 = .ok (.aload_n 0, 1) := by decide +kernel
theorem dX8_statement_69 : decode cX8_statement 69 = .ok (.getfield 40, 3) := by decide +kernel
theorem dX8_statement_72 : decode cX8_statement 72 = .ok (.iload_n 2, 1) := by decide +kernel
theorem dX8_statement_73 : decode cX8_statement 73 = .ok (.iaload, 1) := by decide +kernel
theorem dX8_statement_74 : decode cX8_statement 74 = .ok (.ifCond .ge 5, 3) := by decide +kernel
theorem dX8_statement_77 : decode cX8_statement 77 = .ok (.iconst 0, 1) := by decide +kernel
theorem dX8_statement_78 : decode cX8_statement 78 = .ok (.ireturn, 1) := by decide +kernel
theorem dX8_statement_79 : decode cX8_statement 79 = .ok (.iload_n 1, 1) := by decide +kernel
theorem dX8_statement_80 : decode cX8_statement 80 = .ok (.invokestatic 108, 3) := by decide +kernel
theorem dX8_statement_83 : decode cX8_statement 83 = .ok (.ifCond .eq 35, 3) := by decide +kernel
theorem dX8_statement_86 : decode cX8_statement 86 = .ok (.aload_n 0, 1) := by decide +kernel
theorem dX8_statement_87 : decode cX8_statement 87 = .ok (.bipush 44, 2) := by decide +kernel
theorem dX8_statement_89 : decode cX8_statement 89 = .ok (.invokevirtual 118, 3) := by decide +kernel
theorem dX8_statement_92 : decode cX8_statement 92 = .ok (.ifCond .ne 5, 3) := by decide +kernel
theorem dX8_statement_95 : decode cX8_statement 95 = .ok (.iconst 0, 1) := by decide +kernel
theorem dX8_statement_96 : decode cX8_statement 96 = .ok (.ireturn, 1) := by decide +kernel
theorem dX8_statement_97 : decode cX8_statement 97 = .ok (.aload_n 0, 1) := by decide +kernel
theorem dX8_statement_98 : decode cX8_statement 98 = .ok (.getfield 43, 3) := by decide +kernel
theorem dX8_statement_101 : decode cX8_statement 101 = .ok (.iload_n 2, 1) := by decide +kernel
theorem dX8_statement_102 : decode cX8_statement 102 = .ok (.aload_n 0, 1) := by decide +kernel
theorem dX8_statement_103 : decode cX8_statement 103 = .ok (.invokevirtual 115, 3) := by decide +kernel
theorem dX8_statement_106 : decode cX8_statement 106 = .ok (.iastore, 1) := by decide +kernel
theorem dX8_statement_107 : decode cX8_statement 107 = .ok (.aload_n 0, 1) := by decide +kernel
theorem dX8_statement_108 : decode cX8_statement 108 = .ok (.getfield 43, 3) := by decide +kernel
theorem dX8_statement_111 : decode cX8_statement 111 = .ok (.iload_n 2, 1) := by decide +kernel
theorem dX8_statement_112 : decode cX8_statement 112 = .ok (.iaload, 1) := by decide +kernel
theorem dX8_statement_113 : decode cX8_statement 113 = .ok (.ifCond .ge 5, 3) := by decide +kernel
theorem dX8_statement_116 : decode cX8_statement 116 = .ok (.iconst 0, 1) := by decide +kernel
theorem dX8_statement_117 : decode cX8_statement 117 = .ok (.ireturn, 1) := by decide +kernel
theorem dX8_statement_118 : decode cX8_statement 118 = .ok (.aload_n 0, 1) := by decide +kernel
theorem dX8_statement_119 : decode cX8_statement 119 = .ok (.bipush 59, 2) := by decide +kernel
theorem dX8_statement_121 : decode cX8_statement 121 = .ok (.invokevirtual 118, 3) := by decide +kernel
theorem dX8_statement_124 : decode cX8_statement 124 = .ok (.ireturn, 1) := by decide +kernel
theorem dX8_sets_0 : decode cX8_sets 0 = .ok (.iload_n 2, 1) := by decide +kernel
theorem dX8_sets_1 : decode cX8_sets 1 = .ok (.iconst 0, 1) := by decide +kernel
theorem dX8_sets_2 : decode cX8_sets 2 = .ok (.aload_n 0, 1) := by decide +kernel
theorem dX8_sets_3 : decode cX8_sets 3 = .ok (.getfield 16, 3) := by decide +kernel
theorem dX8_sets_6 : decode cX8_sets 6 = .ok (.iload_n 1, 1) := by decide +kernel
theorem dX8_sets_7 : decode cX8_sets 7 = .ok (.iaload, 1) := by decide +kernel
theorem dX8_sets_8 : decode cX8_sets 8 = .ok (.invokestatic 104, 3) := by decide +kernel
theorem dX8_sets_11 : decode cX8_sets 11 = .ok (.ifCond .ne 5, 3) := by decide +kernel
theorem dX8_sets_14 : decode cX8_sets 14 = .ok (.iconst 0, 1) := by decide +kernel
theorem dX8_sets_15 : decode cX8_sets 15 = .ok (.ireturn, 1) := by decide +kernel
theorem dX8_sets_16 : decode cX8_sets 16 = .ok (.aload_n 0, 1) := by decide +kernel
theorem dX8_sets_17 : decode cX8_sets 17 = .ok (.getfield 13, 3) := by decide +kernel
theorem dX8_sets_20 : decode cX8_sets 20 = .ok (.iload_n 1, 1) := by decide +kernel
theorem dX8_sets_21 : decode cX8_sets 21 = .ok (.iload_n 2, 1) := by decide +kernel
theorem dX8_sets_22 : decode cX8_sets 22 = .ok (.iastore, 1) := by decide +kernel
theorem dX8_sets_23 : decode cX8_sets 23 = .ok (.iconst 1, 1) := by decide +kernel
theorem dX8_sets_24 : decode cX8_sets 24 = .ok (.ireturn, 1) := by decide +kernel
theorem dX8_comes_0 : decode cX8_comes 0 = .ok (.aload_n 0, 1) := by decide +kernel
theorem dX8_comes_1 : decode cX8_comes 1 = .ok (.getfield 40, 3) := by decide +kernel
theorem dX8_comes_4 : decode cX8_comes 4 = .ok (.iload_n 1, 1) := by decide +kernel
theorem dX8_comes_5 : decode cX8_comes 5 = .ok (.iaload, 1) := by decide +kernel
theorem dX8_comes_6 : decode cX8_comes 6 = .ok (.istore_n 2, 1) := by decide +kernel
theorem dX8_comes_7 : decode cX8_comes 7 = .ok (.aload_n 0, 1) := by decide +kernel
theorem dX8_comes_8 : decode cX8_comes 8 = .ok (.getfield 43, 3) := by decide +kernel
theorem dX8_comes_11 : decode cX8_comes 11 = .ok (.iload_n 1, 1) := by decide +kernel
theorem dX8_comes_12 : decode cX8_comes 12 = .ok (.iaload, 1) := by decide +kernel
theorem dX8_comes_13 : decode cX8_comes 13 = .ok (.istore_n 3, 1) := by decide +kernel
theorem dX8_comes_14 : decode cX8_comes 14 = .ok (.aload_n 0, 1) := by decide +kernel
theorem dX8_comes_15 : decode cX8_comes 15 = .ok (.getfield 34, 3) := by decide +kernel
theorem dX8_comes_18 : decode cX8_comes 18 = .ok (.iload_n 1, 1) := by decide +kernel
theorem dX8_comes_19 : decode cX8_comes 19 = .ok (.iaload, 1) := by decide +kernel
theorem dX8_comes_20 : decode cX8_comes 20 = .ok (.tableswitch 219 101 115 #[138, 219, 76, 219, 219, 219, 219, 219, 114, 219, 83, 164, 219, 219, 90], 76) := by decide +kernel
theorem dX8_comes_96 : decode cX8_comes 96 = .ok (.aload_n 0, 1) := by decide +kernel
theorem dX8_comes_97 : decode cX8_comes 97 = .ok (.iconst 0, 1) := by decide +kernel
theorem dX8_comes_98 : decode cX8_comes 98 = .ok (.iload_n 2, 1) := by decide +kernel
theorem dX8_comes_99 : decode cX8_comes 99 = .ok (.invokevirtual 121, 3) := by decide +kernel
theorem dX8_comes_102 : decode cX8_comes 102 = .ok (.ireturn, 1) := by decide +kernel
theorem dX8_comes_103 : decode cX8_comes 103 = .ok (.aload_n 0, 1) := by decide +kernel
theorem dX8_comes_104 : decode cX8_comes 104 = .ok (.iconst 1, 1) := by decide +kernel
theorem dX8_comes_105 : decode cX8_comes 105 = .ok (.iload_n 2, 1) := by decide +kernel
theorem dX8_comes_106 : decode cX8_comes 106 = .ok (.invokevirtual 121, 3) := by decide +kernel
theorem dX8_comes_109 : decode cX8_comes 109 = .ok (.ireturn, 1) := by decide +kernel
theorem dX8_comes_110 : decode cX8_comes 110 = .ok (.aload_n 0, 1) := by decide +kernel
theorem dX8_comes_111 : decode cX8_comes 111 = .ok (.iconst 2, 1) := by decide +kernel
theorem dX8_comes_112 : decode cX8_comes 112 = .ok (.iload_n 2, 1) := by decide +kernel
theorem dX8_comes_113 : decode cX8_comes 113 = .ok (.invokevirtual 121, 3) := by decide +kernel
theorem dX8_comes_116 : decode cX8_comes 116 = .ok (.ifCond .eq 16, 3) := by decide +kernel
theorem dX8_comes_119 : decode cX8_comes 119 = .ok (.aload_n 0, 1) := by decide +kernel
theorem dX8_comes_120 : decode cX8_comes 120 = .ok (.iconst 3, 1) := by decide +kernel
theorem dX8_comes_121 : decode cX8_comes 121 = .ok (.iload_n 3, 1) := by decide +kernel
theorem dX8_comes_122 : decode cX8_comes 122 = .ok (.invokevirtual 121, 3) := by decide +kernel
theorem dX8_comes_125 : decode cX8_comes 125 = .ok (.ifCond .eq 7, 3) := by decide +kernel
theorem dX8_comes_128 : decode cX8_comes 128 = .ok (.iconst 1, 1) := by decide +kernel
theorem dX8_comes_129 : decode cX8_comes 129 = .ok (.goto 4, 3) := by decide +kernel
theorem dX8_comes_132 : decode cX8_comes 132 = .ok (.iconst 0, 1) := by decide +kernel
theorem dX8_comes_133 : decode cX8_comes 133 = .ok (.ireturn, 1) := by decide +kernel
theorem dX8_comes_134 : decode cX8_comes 134 = .ok (.aload_n 0, 1) := by decide +kernel
theorem dX8_comes_135 : decode cX8_comes 135 = .ok (.iconst 4, 1) := by decide +kernel
theorem dX8_comes_136 : decode cX8_comes 136 = .ok (.iload_n 2, 1) := by decide +kernel
theorem dX8_comes_137 : decode cX8_comes 137 = .ok (.invokevirtual 121, 3) := by decide +kernel
theorem dX8_comes_140 : decode cX8_comes 140 = .ok (.ifCond .eq 16, 3) := by decide +kernel
theorem dX8_comes_143 : decode cX8_comes 143 = .ok (.aload_n 0, 1) := by decide +kernel
theorem dX8_comes_144 : decode cX8_comes 144 = .ok (.iconst 5, 1) := by decide +kernel
theorem dX8_comes_145 : decode cX8_comes 145 = .ok (.iload_n 3, 1) := by decide +kernel
theorem dX8_comes_146 : decode cX8_comes 146 = .ok (.invokevirtual 121, 3) := by decide +kernel
theorem dX8_comes_149 : decode cX8_comes 149 = .ok (.ifCond .eq 7, 3) := by decide +kernel
theorem dX8_comes_152 : decode cX8_comes 152 = .ok (.iconst 1, 1) := by decide +kernel
theorem dX8_comes_153 : decode cX8_comes 153 = .ok (.goto 4, 3) := by decide +kernel
theorem dX8_comes_156 : decode cX8_comes 156 = .ok (.iconst 0, 1) := by decide +kernel
theorem dX8_comes_157 : decode cX8_comes 157 = .ok (.ireturn, 1) := by decide +kernel
theorem dX8_comes_158 : decode cX8_comes 158 = .ok (.aload_n 0, 1) := by decide +kernel
theorem dX8_comes_159 : decode cX8_comes 159 = .ok (.bipush 6, 2) := by decide +kernel
theorem dX8_comes_161 : decode cX8_comes 161 = .ok (.iload_n 2, 1) := by decide +kernel
theorem dX8_comes_162 : decode cX8_comes 162 = .ok (.invokevirtual 121, 3) := by decide +kernel
theorem dX8_comes_165 : decode cX8_comes 165 = .ok (.ifCond .eq 17, 3) := by decide +kernel
theorem dX8_comes_168 : decode cX8_comes 168 = .ok (.aload_n 0, 1) := by decide +kernel
theorem dX8_comes_169 : decode cX8_comes 169 = .ok (.bipush 7, 2) := by decide +kernel
theorem dX8_comes_171 : decode cX8_comes 171 = .ok (.iload_n 3, 1) := by decide +kernel
theorem dX8_comes_172 : decode cX8_comes 172 = .ok (.invokevirtual 121, 3) := by decide +kernel
theorem dX8_comes_175 : decode cX8_comes 175 = .ok (.ifCond .eq 7, 3) := by decide +kernel
theorem dX8_comes_178 : decode cX8_comes 178 = .ok (.iconst 1, 1) := by decide +kernel
theorem dX8_comes_179 : decode cX8_comes 179 = .ok (.goto 4, 3) := by decide +kernel
theorem dX8_comes_182 : decode cX8_comes 182 = .ok (.iconst 0, 1) := by decide +kernel
theorem dX8_comes_183 : decode cX8_comes 183 = .ok (.ireturn, 1) := by decide +kernel
theorem dX8_comes_184 : decode cX8_comes 184 = .ok (.iload_n 2, 1) := by decide +kernel
theorem dX8_comes_185 : decode cX8_comes 185 = .ok (.bipush 99, 2) := by decide +kernel
theorem dX8_comes_187 : decode cX8_comes 187 = .ok (.if_icmp .gt 18, 3) := by decide +kernel
theorem dX8_comes_190 : decode cX8_comes 190 = .ok (.iload_n 3, 1) := by decide +kernel
theorem dX8_comes_191 : decode cX8_comes 191 = .ok (.bipush 99, 2) := by decide +kernel
theorem dX8_comes_193 : decode cX8_comes 193 = .ok (.if_icmp .gt 12, 3) := by decide +kernel
theorem dX8_comes_196 : decode cX8_comes 196 = .ok (.aload_n 0, 1) := by decide +kernel
theorem dX8_comes_197 : decode cX8_comes 197 = .ok (.getfield 125, 3) := by decide +kernel
theorem dX8_comes_200 : decode cX8_comes 200 = .ok (.bipush 8, 2) := by decide +kernel
theorem dX8_comes_202 : decode cX8_comes 202 = .ok (.if_icmp .ne 5, 3) := by decide +kernel
theorem dX8_comes_205 : decode cX8_comes 205 = .ok (.iconst 0, 1) := by decide +kernel
theorem dX8_comes_206 : decode cX8_comes 206 = .ok (.ireturn, 1) := by decide +kernel
theorem dX8_comes_207 : decode cX8_comes 207 = .ok (.aload_n 0, 1) := by decide +kernel
theorem dX8_comes_208 : decode cX8_comes 208 = .ok (.getfield 19, 3) := by decide +kernel
theorem dX8_comes_211 : decode cX8_comes 211 = .ok (.aload_n 0, 1) := by decide +kernel
theorem dX8_comes_212 : decode cX8_comes 212 = .ok (.getfield 125, 3) := by decide +kernel
theorem dX8_comes_215 : decode cX8_comes 215 = .ok (.iload_n 2, 1) := by decide +kernel
theorem dX8_comes_216 : decode cX8_comes 216 = .ok (.iastore, 1) := by decide +kernel
theorem dX8_comes_217 : decode cX8_comes 217 = .ok (.aload_n 0, 1) := by decide +kernel
theorem dX8_comes_218 : decode cX8_comes 218 = .ok (.getfield 22, 3) := by decide +kernel
theorem dX8_comes_221 : decode cX8_comes 221 = .ok (.aload_n 0, 1) := by decide +kernel
theorem dX8_comes_222 : decode cX8_comes 222 = .ok (.getfield 125, 3) := by decide +kernel
theorem dX8_comes_225 : decode cX8_comes 225 = .ok (.iload_n 3, 1) := by decide +kernel
theorem dX8_comes_226 : decode cX8_comes 226 = .ok (.iastore, 1) := by decide +kernel
theorem dX8_comes_227 : decode cX8_comes 227 = .ok (.aload_n 0, 1) := by decide +kernel
theorem dX8_comes_228 : decode cX8_comes 228 = .ok (.dup, 1) := by decide +kernel
theorem dX8_comes_229 : decode cX8_comes 229 = .ok (.getfield 125, 3) := by decide +kernel
theorem dX8_comes_232 : decode cX8_comes 232 = .ok (.iconst 1, 1) := by decide +kernel
theorem dX8_comes_233 : decode cX8_comes 233 = .ok (.iadd, 1) := by decide +kernel
theorem dX8_comes_234 : decode cX8_comes 234 = .ok (.putfield 125, 3) := by decide +kernel
theorem dX8_comes_237 : decode cX8_comes 237 = .ok (.iconst 1, 1) := by decide +kernel
theorem dX8_comes_238 : decode cX8_comes 238 = .ok (.ireturn, 1) := by decide +kernel
theorem dX8_comes_239 : decode cX8_comes 239 = .ok (.iload_n 2, 1) := by decide +kernel
theorem dX8_comes_240 : decode cX8_comes 240 = .ok (.iconst 1, 1) := by decide +kernel
theorem dX8_comes_241 : decode cX8_comes 241 = .ok (.bipush 100, 2) := by decide +kernel
theorem dX8_comes_243 : decode cX8_comes 243 = .ok (.invokestatic 104, 3) := by decide +kernel
theorem dX8_comes_246 : decode cX8_comes 246 = .ok (.ifCond .eq 30, 3) := by decide +kernel
theorem dX8_comes_249 : decode cX8_comes 249 = .ok (.iload_n 3, 1) := by decide +kernel
theorem dX8_comes_250 : decode cX8_comes 250 = .ok (.sipush 300, 3) := by decide +kernel
theorem dX8_comes_253 : decode cX8_comes 253 = .ok (.if_icmp .gt 23, 3) := by decide +kernel
theorem dX8_comes_256 : decode cX8_comes 256 = .ok (.aload_n 0, 1) := by decide +kernel
theorem dX8_comes_257 : decode cX8_comes 257 = .ok (.getfield 77, 3) := by decide +kernel
theorem dX8_comes_260 : decode cX8_comes 260 = .ok (.bipush 6, 2) := by decide +kernel
theorem dX8_comes_262 : decode cX8_comes 262 = .ok (.if_icmp .eq 14, 3) := by decide +kernel
theorem dX8_comes_265 : decode cX8_comes 265 = .ok (.aload_n 0, 1) := by decide +kernel
theorem dX8_comes_266 : decode cX8_comes 266 = .ok (.invokevirtual 81, 3) := by decide +kernel
theorem dX8_comes_269 : decode cX8_comes 269 = .ok (.iload_n 2, 1) := by decide +kernel
theorem dX8_comes_270 : decode cX8_comes 270 = .ok (.iadd, 1) := by decide +kernel
theorem dX8_comes_271 : decode cX8_comes 271 = .ok (.bipush 100, 2) := by decide +kernel
theorem dX8_comes_273 : decode cX8_comes 273 = .ok (.if_icmp .le 5, 3) := by decide +kernel
theorem dX8_comes_276 : decode cX8_comes 276 = .ok (.iconst 0, 1) := by decide +kernel
theorem dX8_comes_277 : decode cX8_comes 277 = .ok (.ireturn, 1) := by decide +kernel
theorem dX8_comes_278 : decode cX8_comes 278 = .ok (.aload_n 0, 1) := by decide +kernel
theorem dX8_comes_279 : decode cX8_comes 279 = .ok (.getfield 25, 3) := by decide +kernel
theorem dX8_comes_282 : decode cX8_comes 282 = .ok (.aload_n 0, 1) := by decide +kernel
theorem dX8_comes_283 : decode cX8_comes 283 = .ok (.getfield 77, 3) := by decide +kernel
theorem dX8_comes_286 : decode cX8_comes 286 = .ok (.iload_n 2, 1) := by decide +kernel
theorem dX8_comes_287 : decode cX8_comes 287 = .ok (.iastore, 1) := by decide +kernel
theorem dX8_comes_288 : decode cX8_comes 288 = .ok (.aload_n 0, 1) := by decide +kernel
theorem dX8_comes_289 : decode cX8_comes 289 = .ok (.getfield 28, 3) := by decide +kernel
theorem dX8_comes_292 : decode cX8_comes 292 = .ok (.aload_n 0, 1) := by decide +kernel
theorem dX8_comes_293 : decode cX8_comes 293 = .ok (.getfield 77, 3) := by decide +kernel
theorem dX8_comes_296 : decode cX8_comes 296 = .ok (.iload_n 3, 1) := by decide +kernel
theorem dX8_comes_297 : decode cX8_comes 297 = .ok (.iastore, 1) := by decide +kernel
theorem dX8_comes_298 : decode cX8_comes 298 = .ok (.aload_n 0, 1) := by decide +kernel
theorem dX8_comes_299 : decode cX8_comes 299 = .ok (.dup, 1) := by decide +kernel
theorem dX8_comes_300 : decode cX8_comes 300 = .ok (.getfield 77, 3) := by decide +kernel
theorem dX8_comes_303 : decode cX8_comes 303 = .ok (.iconst 1, 1) := by decide +kernel
theorem dX8_comes_304 : decode cX8_comes 304 = .ok (.iadd, 1) := by decide +kernel
theorem dX8_comes_305 : decode cX8_comes 305 = .ok (.putfield 77, 3) := by decide +kernel
theorem dX8_comes_308 : decode cX8_comes 308 = .ok (.iconst 1, 1) := by decide +kernel
theorem dX8_comes_309 : decode cX8_comes 309 = .ok (.ireturn, 1) := by decide +kernel
theorem dX8_field_0 : decode cX8_field 0 = .ok (.aload_n 0, 1) := by decide +kernel
theorem dX8_field_1 : decode cX8_field 1 = .ok (.iconst 0, 1) := by decide +kernel
theorem dX8_field_2 : decode cX8_field 2 = .ok (.putfield 98, 3) := by decide +kernel
theorem dX8_field_5 : decode cX8_field 5 = .ok (.aload_n 0, 1) := by decide +kernel
theorem dX8_field_6 : decode cX8_field 6 = .ok (.iconst 0, 1) := by decide +kernel
theorem dX8_field_7 : decode cX8_field 7 = .ok (.putfield 112, 3) := by decide +kernel
theorem dX8_field_10 : decode cX8_field 10 = .ok (.iconst 1, 1) := by decide +kernel
theorem dX8_field_11 : decode cX8_field 11 = .ok (.istore_n 1, 1) := by decide +kernel
theorem dX8_field_12 : decode cX8_field 12 = .ok (.iload_n 1, 1) := by decide +kernel
theorem dX8_field_13 : decode cX8_field 13 = .ok (.ifCond .eq 47, 3) := by decide +kernel
theorem dX8_field_16 : decode cX8_field 16 = .ok (.aload_n 0, 1) := by decide +kernel
theorem dX8_field_17 : decode cX8_field 17 = .ok (.getfield 98, 3) := by decide +kernel
theorem dX8_field_20 : decode cX8_field 20 = .ok (.aload_n 0, 1) := by decide +kernel
theorem dX8_field_21 : decode cX8_field 21 = .ok (.getfield 89, 3) := by decide +kernel
theorem dX8_field_24 : decode cX8_field 24 = .ok (.if_icmp .lt 10, 3) := by decide +kernel
theorem dX8_field_27 : decode cX8_field 27 = .ok (.aload_n 0, 1) := by decide +kernel
theorem dX8_field_28 : decode cX8_field 28 = .ok (.getfield 112, 3) := by decide +kernel
theorem dX8_field_31 : decode cX8_field 31 = .ok (.ifCond .ne 29, 3) := by decide +kernel
theorem dX8_field_34 : decode cX8_field 34 = .ok (.aload_n 0, 1) := by decide +kernel
theorem dX8_field_35 : decode cX8_field 35 = .ok (.invokevirtual 128, 3) := by decide +kernel
theorem dX8_field_38 : decode cX8_field 38 = .ok (.istore_n 1, 1) := by decide +kernel
theorem dX8_field_39 : decode cX8_field 39 = .ok (.aload_n 0, 1) := by decide +kernel
theorem dX8_field_40 : decode cX8_field 40 = .ok (.dup, 1) := by decide +kernel
theorem dX8_field_41 : decode cX8_field 41 = .ok (.getfield 112, 3) := by decide +kernel
theorem dX8_field_44 : decode cX8_field 44 = .ok (.iload_n 1, 1) := by decide +kernel
theorem dX8_field_45 : decode cX8_field 45 = .ok (.ifCond .eq 7, 3) := by decide +kernel
theorem dX8_field_48 : decode cX8_field 48 = .ok (.iconst 1, 1) := by decide +kernel
theorem dX8_field_49 : decode cX8_field 49 = .ok (.goto 4, 3) := by decide +kernel
theorem dX8_field_52 : decode cX8_field 52 = .ok (.iconst 0, 1) := by decide +kernel
theorem dX8_field_53 : decode cX8_field 53 = .ok (.iadd, 1) := by decide +kernel
theorem dX8_field_54 : decode cX8_field 54 = .ok (.putfield 112, 3) := by decide +kernel
theorem dX8_field_57 : decode cX8_field 57 = .ok (.goto (-45), 3) := by decide +kernel
theorem dX8_field_60 : decode cX8_field 60 = .ok (.aload_n 0, 1) := by decide +kernel
theorem dX8_field_61 : decode cX8_field 61 = .ok (.iconst 0, 1) := by decide +kernel
theorem dX8_field_62 : decode cX8_field 62 = .ok (.putfield 89, 3) := by decide +kernel
theorem dX8_field_65 : decode cX8_field 65 = .ok (.iload_n 1, 1) := by decide +kernel
theorem dX8_field_66 : decode cX8_field 66 = .ok (.ifCond .ne 12, 3) := by decide +kernel
theorem dX8_field_69 : decode cX8_field 69 = .ok (.sipush (-1000), 3) := by decide +kernel
theorem dX8_field_72 : decode cX8_field 72 = .ok (.aload_n 0, 1) := by decide +kernel
theorem dX8_field_73 : decode cX8_field 73 = .ok (.getfield 98, 3) := by decide +kernel
theorem dX8_field_76 : decode cX8_field 76 = .ok (.isub, 1) := by decide +kernel
theorem dX8_field_77 : decode cX8_field 77 = .ok (.ireturn, 1) := by decide +kernel
theorem dX8_field_78 : decode cX8_field 78 = .ok (.aload_n 0, 1) := by decide +kernel
theorem dX8_field_79 : decode cX8_field 79 = .ok (.iconst 1, 1) := by decide +kernel
theorem dX8_field_80 : decode cX8_field 80 = .ok (.iconst 1, 1) := by decide +kernel
theorem dX8_field_81 : decode cX8_field 81 = .ok (.invokevirtual 132, 3) := by decide +kernel
theorem dX8_field_84 : decode cX8_field 84 = .ok (.iconst 0, 1) := by decide +kernel
theorem dX8_field_85 : decode cX8_field 85 = .ok (.istore_n 2, 1) := by decide +kernel
theorem dX8_field_86 : decode cX8_field 86 = .ok (.iload_n 2, 1) := by decide +kernel
theorem dX8_field_87 : decode cX8_field 87 = .ok (.aload_n 0, 1) := by decide +kernel
theorem dX8_field_88 : decode cX8_field 88 = .ok (.getfield 112, 3) := by decide +kernel
theorem dX8_field_91 : decode cX8_field 91 = .ok (.if_icmp .ge 37, 3) := by decide +kernel
theorem dX8_field_94 : decode cX8_field 94 = .ok (.aload_n 0, 1) := by decide +kernel
theorem dX8_field_95 : decode cX8_field 95 = .ok (.iload_n 2, 1) := by decide +kernel
theorem dX8_field_96 : decode cX8_field 96 = .ok (.invokevirtual 136, 3) := by decide +kernel
theorem dX8_field_99 : decode cX8_field 99 = .ok (.ifCond .eq 6, 3) := by decide +kernel
theorem dX8_field_102 : decode cX8_field 102 = .ok (.goto 20, 3) := by decide +kernel
theorem dX8_field_105 : decode cX8_field 105 = .ok (.aload_n 0, 1) := by decide +kernel
theorem dX8_field_106 : decode cX8_field 106 = .ok (.iconst 1, 1) := by decide +kernel
theorem dX8_field_107 : decode cX8_field 107 = .ok (.iconst 0, 1) := by decide +kernel
theorem dX8_field_108 : decode cX8_field 108 = .ok (.invokevirtual 132, 3) := by decide +kernel
theorem dX8_field_111 : decode cX8_field 111 = .ok (.sipush (-2000), 3) := by decide +kernel
theorem dX8_field_114 : decode cX8_field 114 = .ok (.aload_n 0, 1) := by decide +kernel
theorem dX8_field_115 : decode cX8_field 115 = .ok (.getfield 37, 3) := by decide +kernel
theorem dX8_field_118 : decode cX8_field 118 = .ok (.iload_n 2, 1) := by decide +kernel
theorem dX8_field_119 : decode cX8_field 119 = .ok (.iaload, 1) := by decide +kernel
theorem dX8_field_120 : decode cX8_field 120 = .ok (.isub, 1) := by decide +kernel
theorem dX8_field_121 : decode cX8_field 121 = .ok (.ireturn, 1) := by decide +kernel
theorem dX8_field_122 : decode cX8_field 122 = .ok (.iinc 2 1, 3) := by decide +kernel
theorem dX8_field_125 : decode cX8_field 125 = .ok (.goto (-39), 3) := by decide +kernel
theorem dX8_field_128 : decode cX8_field 128 = .ok (.aload_n 0, 1) := by decide +kernel
theorem dX8_field_129 : decode cX8_field 129 = .ok (.getfield 112, 3) := by decide +kernel
theorem dX8_field_132 : decode cX8_field 132 = .ok (.ireturn, 1) := by decide +kernel
theorem dX8_numberIn_0 : decode cX8_numberIn 0 = .ok (.aload_n 0, 1) := by decide +kernel
theorem dX8_numberIn_1 : decode cX8_numberIn 1 = .ok (.getfield 98, 3) := by decide +kernel
theorem dX8_numberIn_4 : decode cX8_numberIn 4 = .ok (.istore_n 3, 1) := by decide +kernel
theorem dX8_numberIn_5 : decode cX8_numberIn 5 = .ok (.aload_n 0, 1) := by decide +kernel
theorem dX8_numberIn_6 : decode cX8_numberIn 6 = .ok (.invokevirtual 115, 3) := by decide +kernel
theorem dX8_numberIn_9 : decode cX8_numberIn 9 = .ok (.istore 4, 2) := by decide +kernel
theorem dX8_numberIn_11 : decode cX8_numberIn 11 = .ok (.iload 4, 2) := by decide +kernel
theorem dX8_numberIn_13 : decode cX8_numberIn 13 = .ok (.ifCond .lt 20, 3) := by decide +kernel
theorem dX8_numberIn_16 : decode cX8_numberIn 16 = .ok (.iload 4, 2) := by decide +kernel
theorem dX8_numberIn_18 : decode cX8_numberIn 18 = .ok (.iload_n 1, 1) := by decide +kernel
theorem dX8_numberIn_19 : decode cX8_numberIn 19 = .ok (.iload_n 2, 1) := by decide +kernel
theorem dX8_numberIn_20 : decode cX8_numberIn 20 = .ok (.invokestatic 104, 3) := by decide +kernel
theorem dX8_numberIn_23 : decode cX8_numberIn 23 = .ok (.ifCond .ne 10, 3) := by decide +kernel
theorem dX8_numberIn_26 : decode cX8_numberIn 26 = .ok (.aload_n 0, 1) := by decide +kernel
theorem dX8_numberIn_27 : decode cX8_numberIn 27 = .ok (.iload_n 3, 1) := by decide +kernel
theorem dX8_numberIn_28 : decode cX8_numberIn 28 = .ok (.putfield 98, 3) := by decide +kernel
theorem dX8_numberIn_31 : decode cX8_numberIn 31 = .ok (.iconst (-1), 1) := by decide +kernel
theorem dX8_numberIn_32 : decode cX8_numberIn 32 = .ok (.ireturn, 1) := by decide +kernel
theorem dX8_numberIn_33 : decode cX8_numberIn 33 = .ok (.iload 4, 2) := by decide +kernel
theorem dX8_numberIn_35 : decode cX8_numberIn 35 = .ok (.ireturn, 1) := by decide +kernel
theorem dX8_kindOf_0 : decode cX8_kindOf 0 = .ok (.iload_n 0, 1) := by decide +kernel
theorem dX8_kindOf_1 : decode cX8_kindOf 1 = .ok (.tableswitch 107 102 121 #[97, 107, 107, 107, 107, 107, 107, 107, 107, 107, 95, 107, 107, 107, 105, 107, 107, 99, 101, 103], 95) := by decide +kernel
theorem dX8_kindOf_96 : decode cX8_kindOf 96 = .ok (.iconst 0, 1) := by decide +kernel
theorem dX8_kindOf_97 : decode cX8_kindOf 97 = .ok (.ireturn, 1) := by decide +kernel
theorem dX8_kindOf_98 : decode cX8_kindOf 98 = .ok (.iconst 1, 1) := by decide +kernel
theorem dX8_kindOf_99 : decode cX8_kindOf 99 = .ok (.ireturn, 1) := by decide +kernel
theorem dX8_kindOf_100 : decode cX8_kindOf 100 = .ok (.iconst 2, 1) := by decide +kernel
theorem dX8_kindOf_101 : decode cX8_kindOf 101 = .ok (.ireturn, 1) := by decide +kernel
theorem dX8_kindOf_102 : decode cX8_kindOf 102 = .ok (.iconst 3, 1) := by decide +kernel
theorem dX8_kindOf_103 : decode cX8_kindOf 103 = .ok (.ireturn, 1) := by decide +kernel
theorem dX8_kindOf_104 : decode cX8_kindOf 104 = .ok (.iconst 4, 1) := by decide +kernel
theorem dX8_kindOf_105 : decode cX8_kindOf 105 = .ok (.ireturn, 1) := by decide +kernel
theorem dX8_kindOf_106 : decode cX8_kindOf 106 = .ok (.iconst 5, 1) := by decide +kernel
theorem dX8_kindOf_107 : decode cX8_kindOf 107 = .ok (.ireturn, 1) := by decide +kernel
theorem dX8_kindOf_108 : decode cX8_kindOf 108 = .ok (.iconst (-1), 1) := by decide +kernel
theorem dX8_kindOf_109 : decode cX8_kindOf 109 = .ok (.ireturn, 1) := by decide +kernel
theorem dX8_isParted_0 : decode cX8_isParted 0 = .ok (.iload_n 1, 1) := by decide +kernel
theorem dX8_isParted_1 : decode cX8_isParted 1 = .ok (.ifCond .eq 13, 3) := by decide +kernel
theorem dX8_isParted_4 : decode cX8_isParted 4 = .ok (.iload_n 1, 1) := by decide +kernel
theorem dX8_isParted_5 : decode cX8_isParted 5 = .ok (.iconst 3, 1) := by decide +kernel
theorem dX8_isParted_6 : decode cX8_isParted 6 = .ok (.if_icmp .eq 8, 3) := by decide +kernel
theorem dX8_isParted_9 : decode cX8_isParted 9 = .ok (.iload_n 1, 1) := by decide +kernel
theorem dX8_isParted_10 : decode cX8_isParted 10 = .ok (.iconst 4, 1) := by decide +kernel
theorem dX8_isParted_11 : decode cX8_isParted 11 = .ok (.if_icmp .ne 7, 3) := by decide +kernel
theorem dX8_isParted_14 : decode cX8_isParted 14 = .ok (.iconst 1, 1) := by decide +kernel
theorem dX8_isParted_15 : decode cX8_isParted 15 = .ok (.goto 4, 3) := by decide +kernel
theorem dX8_isParted_18 : decode cX8_isParted 18 = .ok (.iconst 0, 1) := by decide +kernel
theorem dX8_isParted_19 : decode cX8_isParted 19 = .ok (.ireturn, 1) := by decide +kernel
theorem dX8_readsTerm_0 : decode cX8_readsTerm 0 = .ok (.aload_n 0, 1) := by decide +kernel
theorem dX8_readsTerm_1 : decode cX8_readsTerm 1 = .ok (.iconst 0, 1) := by decide +kernel
theorem dX8_readsTerm_2 : decode cX8_readsTerm 2 = .ok (.putfield 98, 3) := by decide +kernel
theorem dX8_readsTerm_5 : decode cX8_readsTerm 5 = .ok (.aload_n 0, 1) := by decide +kernel
theorem dX8_readsTerm_6 : decode cX8_readsTerm 6 = .ok (.invokevirtual 101, 3) := by decide +kernel
theorem dX8_readsTerm_9 : decode cX8_readsTerm 9 = .ok (.invokestatic 139, 3) := by decide +kernel
theorem dX8_readsTerm_12 : decode cX8_readsTerm 12 = .ok (.istore_n 1, 1) := by decide +kernel
theorem dX8_readsTerm_13 : decode cX8_readsTerm 13 = .ok (.iload_n 1, 1) := by decide +kernel
theorem dX8_readsTerm_14 : decode cX8_readsTerm 14 = .ok (.ifCond .ge 5, 3) := by decide +kernel
theorem dX8_readsTerm_17 : decode cX8_readsTerm 17 = .ok (.iconst 0, 1) := by decide +kernel
theorem dX8_readsTerm_18 : decode cX8_readsTerm 18 = .ok (.ireturn, 1) := by decide +kernel
theorem dX8_readsTerm_19 : decode cX8_readsTerm 19 = .ok (.aload_n 0, 1) := by decide +kernel
theorem dX8_readsTerm_20 : decode cX8_readsTerm 20 = .ok (.dup, 1) := by decide +kernel
theorem dX8_readsTerm_21 : decode cX8_readsTerm 21 = .ok (.getfield 98, 3) := by decide +kernel
theorem dX8_readsTerm_24 : decode cX8_readsTerm 24 = .ok (.iconst 1, 1) := by decide +kernel
theorem dX8_readsTerm_25 : decode cX8_readsTerm 25 = .ok (.iadd, 1) := by decide +kernel
theorem dX8_readsTerm_26 : decode cX8_readsTerm 26 = .ok (.putfield 98, 3) := by decide +kernel
theorem dX8_readsTerm_29 : decode cX8_readsTerm 29 = .ok (.aload_n 0, 1) := by decide +kernel
theorem dX8_readsTerm_30 : decode cX8_readsTerm 30 = .ok (.iload_n 1, 1) := by decide +kernel
theorem dX8_readsTerm_31 : decode cX8_readsTerm 31 = .ok (.invokevirtual 142, 3) := by decide +kernel
theorem dX8_readsTerm_34 : decode cX8_readsTerm 34 = .ok (.istore_n 2, 1) := by decide +kernel
theorem dX8_readsTerm_35 : decode cX8_readsTerm 35 = .ok (.aload_n 0, 1) := by decide +kernel
theorem dX8_readsTerm_36 : decode cX8_readsTerm 36 = .ok (.iload_n 2, 1) := by decide +kernel
theorem dX8_readsTerm_37 : decode cX8_readsTerm 37 = .ok (.ifCond .eq 7, 3) := by decide +kernel
theorem dX8_readsTerm_40 : decode cX8_readsTerm 40 = .ok (.iconst 1, 1) := by decide +kernel
theorem dX8_readsTerm_41 : decode cX8_readsTerm 41 = .ok (.goto 4, 3) := by decide +kernel
theorem dX8_readsTerm_44 : decode cX8_readsTerm 44 = .ok (.iconst 0, 1) := by decide +kernel
theorem dX8_readsTerm_45 : decode cX8_readsTerm 45 = .ok (.bipush 99, 2) := by decide +kernel
theorem dX8_readsTerm_47 : decode cX8_readsTerm 47 = .ok (.invokevirtual 145, 3) := by decide +kernel
theorem dX8_readsTerm_50 : decode cX8_readsTerm 50 = .ok (.istore_n 3, 1) := by decide +kernel
theorem dX8_readsTerm_51 : decode cX8_readsTerm 51 = .ok (.iload_n 3, 1) := by decide +kernel
theorem dX8_readsTerm_52 : decode cX8_readsTerm 52 = .ok (.ifCond .ge 5, 3) := by decide +kernel
theorem dX8_readsTerm_55 : decode cX8_readsTerm 55 = .ok (.iconst 0, 1) := by decide +kernel
theorem dX8_readsTerm_56 : decode cX8_readsTerm 56 = .ok (.ireturn, 1) := by decide +kernel
theorem dX8_readsTerm_57 : decode cX8_readsTerm 57 = .ok (.iconst 0, 1) := by decide +kernel
theorem dX8_readsTerm_58 : decode cX8_readsTerm 58 = .ok (.istore 4, 2) := by decide +kernel
theorem dX8_readsTerm_60 : decode cX8_readsTerm 60 = .ok (.iload_n 2, 1) := by decide +kernel
theorem dX8_readsTerm_61 : decode cX8_readsTerm 61 = .ok (.ifCond .eq 30, 3) := by decide +kernel
theorem dX8_readsTerm_64 : decode cX8_readsTerm 64 = .ok (.aload_n 0, 1) := by decide +kernel
theorem dX8_readsTerm_65 : decode cX8_readsTerm 65 = .ok (.bipush 47, 2) := by decide +kernel
theorem dX8_readsTerm_67 : decode cX8_readsTerm 67 = .ok (.invokevirtual 118, 3) := by decide +kernel
theorem dX8_readsTerm_70 : decode cX8_readsTerm 70 = .ok (.ifCond .ne 5, 3) := by decide +kernel
theorem dX8_readsTerm_73 : decode cX8_readsTerm 73 = .ok (.iconst 0, 1) := by decide +kernel
theorem dX8_readsTerm_74 : decode cX8_readsTerm 74 = .ok (.ireturn, 1) := by decide +kernel
theorem dX8_readsTerm_75 : decode cX8_readsTerm 75 = .ok (.aload_n 0, 1) := by decide +kernel
theorem dX8_readsTerm_76 : decode cX8_readsTerm 76 = .ok (.iload_n 3, 1) := by decide +kernel
theorem dX8_readsTerm_77 : decode cX8_readsTerm 77 = .ok (.bipush 99, 2) := by decide +kernel
theorem dX8_readsTerm_79 : decode cX8_readsTerm 79 = .ok (.invokevirtual 145, 3) := by decide +kernel
theorem dX8_readsTerm_82 : decode cX8_readsTerm 82 = .ok (.istore 4, 2) := by decide +kernel
theorem dX8_readsTerm_84 : decode cX8_readsTerm 84 = .ok (.iload 4, 2) := by decide +kernel
theorem dX8_readsTerm_86 : decode cX8_readsTerm 86 = .ok (.ifCond .ge 5, 3) := by decide +kernel
theorem dX8_readsTerm_89 : decode cX8_readsTerm 89 = .ok (.iconst 0, 1) := by decide +kernel
theorem dX8_readsTerm_90 : decode cX8_readsTerm 90 = .ok (.ireturn, 1) := by decide +kernel
theorem dX8_readsTerm_91 : decode cX8_readsTerm 91 = .ok (.iconst 0, 1) := by decide +kernel
theorem dX8_readsTerm_92 : decode cX8_readsTerm 92 = .ok (.istore 5, 2) := by decide +kernel
theorem dX8_readsTerm_94 : decode cX8_readsTerm 94 = .ok (.iload_n 1, 1) := by decide +kernel
theorem dX8_readsTerm_95 : decode cX8_readsTerm 95 = .ok (.iconst 3, 1) := by decide +kernel
theorem dX8_readsTerm_96 : decode cX8_readsTerm 96 = .ok (.if_icmp .lt 30, 3) := by decide +kernel
theorem dX8_readsTerm_99 : decode cX8_readsTerm 99 = .ok (.aload_n 0, 1) := by decide +kernel
theorem dX8_readsTerm_100 : decode cX8_readsTerm 100 = .ok (.bipush 43, 2) := by decide +kernel
theorem dX8_readsTerm_102 : decode cX8_readsTerm 102 = .ok (.invokevirtual 118, 3) := by decide +kernel
theorem dX8_readsTerm_105 : decode cX8_readsTerm 105 = .ok (.ifCond .ne 5, 3) := by decide +kernel
theorem dX8_readsTerm_108 : decode cX8_readsTerm 108 = .ok (.iconst 0, 1) := by decide +kernel
theorem dX8_readsTerm_109 : decode cX8_readsTerm 109 = .ok (.ireturn, 1) := by decide +kernel
theorem dX8_readsTerm_110 : decode cX8_readsTerm 110 = .ok (.aload_n 0, 1) := by decide +kernel
theorem dX8_readsTerm_111 : decode cX8_readsTerm 111 = .ok (.iconst 0, 1) := by decide +kernel
theorem dX8_readsTerm_112 : decode cX8_readsTerm 112 = .ok (.bipush 99, 2) := by decide +kernel
theorem dX8_readsTerm_114 : decode cX8_readsTerm 114 = .ok (.invokevirtual 145, 3) := by decide +kernel
theorem dX8_readsTerm_117 : decode cX8_readsTerm 117 = .ok (.istore 5, 2) := by decide +kernel
theorem dX8_readsTerm_119 : decode cX8_readsTerm 119 = .ok (.iload 5, 2) := by decide +kernel
theorem dX8_readsTerm_121 : decode cX8_readsTerm 121 = .ok (.ifCond .ge 5, 3) := by decide +kernel
theorem dX8_readsTerm_124 : decode cX8_readsTerm 124 = .ok (.iconst 0, 1) := by decide +kernel
theorem dX8_readsTerm_125 : decode cX8_readsTerm 125 = .ok (.ireturn, 1) := by decide +kernel
theorem dX8_readsTerm_126 : decode cX8_readsTerm 126 = .ok (.aload_n 0, 1) := by decide +kernel
theorem dX8_readsTerm_127 : decode cX8_readsTerm 127 = .ok (.getfield 98, 3) := by decide +kernel
theorem dX8_readsTerm_130 : decode cX8_readsTerm 130 = .ok (.aload_n 0, 1) := by decide +kernel
theorem dX8_readsTerm_131 : decode cX8_readsTerm 131 = .ok (.getfield 89, 3) := by decide +kernel
theorem dX8_readsTerm_134 : decode cX8_readsTerm 134 = .ok (.if_icmp .ge 5, 3) := by decide +kernel
theorem dX8_readsTerm_137 : decode cX8_readsTerm 137 = .ok (.iconst 0, 1) := by decide +kernel
theorem dX8_readsTerm_138 : decode cX8_readsTerm 138 = .ok (.ireturn, 1) := by decide +kernel
theorem dX8_readsTerm_139 : decode cX8_readsTerm 139 = .ok (.aload_n 0, 1) := by decide +kernel
theorem dX8_readsTerm_140 : decode cX8_readsTerm 140 = .ok (.getfield 46, 3) := by decide +kernel
theorem dX8_readsTerm_143 : decode cX8_readsTerm 143 = .ok (.aload_n 0, 1) := by decide +kernel
theorem dX8_readsTerm_144 : decode cX8_readsTerm 144 = .ok (.getfield 149, 3) := by decide +kernel
theorem dX8_readsTerm_147 : decode cX8_readsTerm 147 = .ok (.iload_n 1, 1) := by decide +kernel
theorem dX8_readsTerm_148 : decode cX8_readsTerm 148 = .ok (.iastore, 1) := by decide +kernel
theorem dX8_readsTerm_149 : decode cX8_readsTerm 149 = .ok (.aload_n 0, 1) := by decide +kernel
theorem dX8_readsTerm_150 : decode cX8_readsTerm 150 = .ok (.getfield 49, 3) := by decide +kernel
theorem dX8_readsTerm_153 : decode cX8_readsTerm 153 = .ok (.aload_n 0, 1) := by decide +kernel
theorem dX8_readsTerm_154 : decode cX8_readsTerm 154 = .ok (.getfield 149, 3) := by decide +kernel
theorem dX8_readsTerm_157 : decode cX8_readsTerm 157 = .ok (.iload_n 3, 1) := by decide +kernel
theorem dX8_readsTerm_158 : decode cX8_readsTerm 158 = .ok (.iastore, 1) := by decide +kernel
theorem dX8_readsTerm_159 : decode cX8_readsTerm 159 = .ok (.aload_n 0, 1) := by decide +kernel
theorem dX8_readsTerm_160 : decode cX8_readsTerm 160 = .ok (.getfield 52, 3) := by decide +kernel
theorem dX8_readsTerm_163 : decode cX8_readsTerm 163 = .ok (.aload_n 0, 1) := by decide +kernel
theorem dX8_readsTerm_164 : decode cX8_readsTerm 164 = .ok (.getfield 149, 3) := by decide +kernel
theorem dX8_readsTerm_167 : decode cX8_readsTerm 167 = .ok (.iload 4, 2) := by decide +kernel
theorem dX8_readsTerm_169 : decode cX8_readsTerm 169 = .ok (.iastore, 1) := by decide +kernel
theorem dX8_readsTerm_170 : decode cX8_readsTerm 170 = .ok (.aload_n 0, 1) := by decide +kernel
theorem dX8_readsTerm_171 : decode cX8_readsTerm 171 = .ok (.getfield 55, 3) := by decide +kernel
theorem dX8_readsTerm_174 : decode cX8_readsTerm 174 = .ok (.aload_n 0, 1) := by decide +kernel
theorem dX8_readsTerm_175 : decode cX8_readsTerm 175 = .ok (.getfield 149, 3) := by decide +kernel
theorem dX8_readsTerm_178 : decode cX8_readsTerm 178 = .ok (.iload 5, 2) := by decide +kernel
theorem dX8_readsTerm_180 : decode cX8_readsTerm 180 = .ok (.iastore, 1) := by decide +kernel
theorem dX8_readsTerm_181 : decode cX8_readsTerm 181 = .ok (.iconst 1, 1) := by decide +kernel
theorem dX8_readsTerm_182 : decode cX8_readsTerm 182 = .ok (.ireturn, 1) := by decide +kernel
theorem dX8_term_0 : decode cX8_term 0 = .ok (.aload_n 0, 1) := by decide +kernel
theorem dX8_term_1 : decode cX8_term 1 = .ok (.getfield 149, 3) := by decide +kernel
theorem dX8_term_4 : decode cX8_term 4 = .ok (.bipush 8, 2) := by decide +kernel
theorem dX8_term_6 : decode cX8_term 6 = .ok (.if_icmp .ne 10, 3) := by decide +kernel
theorem dX8_term_9 : decode cX8_term 9 = .ok (.aload_n 0, 1) := by decide +kernel
theorem dX8_term_10 : decode cX8_term 10 = .ok (.bipush (-6), 2) := by decide +kernel
theorem dX8_term_12 : decode cX8_term 12 = .ok (.invokevirtual 92, 3) := by decide +kernel
theorem dX8_term_15 : decode cX8_term 15 = .ok (.ireturn, 1) := by decide +kernel
theorem dX8_term_16 : decode cX8_term 16 = .ok (.aload_n 0, 1) := by decide +kernel
theorem dX8_term_17 : decode cX8_term 17 = .ok (.invokevirtual 152, 3) := by decide +kernel
theorem dX8_term_20 : decode cX8_term 20 = .ok (.istore_n 1, 1) := by decide +kernel
theorem dX8_term_21 : decode cX8_term 21 = .ok (.aload_n 0, 1) := by decide +kernel
theorem dX8_term_22 : decode cX8_term 22 = .ok (.iconst 0, 1) := by decide +kernel
theorem dX8_term_23 : decode cX8_term 23 = .ok (.putfield 89, 3) := by decide +kernel
theorem dX8_term_26 : decode cX8_term 26 = .ok (.iload_n 1, 1) := by decide +kernel
theorem dX8_term_27 : decode cX8_term 27 = .ok (.ifCond .ne 11, 3) := by decide +kernel
theorem dX8_term_30 : decode cX8_term 30 = .ok (.bipush (-20), 2) := by decide +kernel
theorem dX8_term_32 : decode cX8_term 32 = .ok (.aload_n 0, 1) := by decide +kernel
theorem dX8_term_33 : decode cX8_term 33 = .ok (.getfield 98, 3) := by decide +kernel
theorem dX8_term_36 : decode cX8_term 36 = .ok (.isub, 1) := by decide +kernel
theorem dX8_term_37 : decode cX8_term 37 = .ok (.ireturn, 1) := by decide +kernel
theorem dX8_term_38 : decode cX8_term 38 = .ok (.aload_n 0, 1) := by decide +kernel
theorem dX8_term_39 : decode cX8_term 39 = .ok (.dup, 1) := by decide +kernel
theorem dX8_term_40 : decode cX8_term 40 = .ok (.getfield 149, 3) := by decide +kernel
theorem dX8_term_43 : decode cX8_term 43 = .ok (.iconst 1, 1) := by decide +kernel
theorem dX8_term_44 : decode cX8_term 44 = .ok (.iadd, 1) := by decide +kernel
theorem dX8_term_45 : decode cX8_term 45 = .ok (.putfield 149, 3) := by decide +kernel
theorem dX8_term_48 : decode cX8_term 48 = .ok (.aload_n 0, 1) := by decide +kernel
theorem dX8_term_49 : decode cX8_term 49 = .ok (.getfield 149, 3) := by decide +kernel
theorem dX8_term_52 : decode cX8_term 52 = .ok (.iconst 1, 1) := by decide +kernel
theorem dX8_term_53 : decode cX8_term 53 = .ok (.isub, 1) := by decide +kernel
theorem dX8_term_54 : decode cX8_term 54 = .ok (.ireturn, 1) := by decide +kernel
theorem dX8_isTerm_0 : decode cX8_isTerm 0 = .ok (.iload_n 1, 1) := by decide +kernel
theorem dX8_isTerm_1 : decode cX8_isTerm 1 = .ok (.ifCond .lt 15, 3) := by decide +kernel
theorem dX8_isTerm_4 : decode cX8_isTerm 4 = .ok (.iload_n 1, 1) := by decide +kernel
theorem dX8_isTerm_5 : decode cX8_isTerm 5 = .ok (.aload_n 0, 1) := by decide +kernel
theorem dX8_isTerm_6 : decode cX8_isTerm 6 = .ok (.getfield 149, 3) := by decide +kernel
theorem dX8_isTerm_9 : decode cX8_isTerm 9 = .ok (.if_icmp .ge 7, 3) := by decide +kernel
theorem dX8_isTerm_12 : decode cX8_isTerm 12 = .ok (.iconst 1, 1) := by decide +kernel
theorem dX8_isTerm_13 : decode cX8_isTerm 13 = .ok (.goto 4, 3) := by decide +kernel
theorem dX8_isTerm_16 : decode cX8_isTerm 16 = .ok (.iconst 0, 1) := by decide +kernel
theorem dX8_isTerm_17 : decode cX8_isTerm 17 = .ok (.ireturn, 1) := by decide +kernel
theorem dX8_termOf_0 : decode cX8_termOf 0 = .ok (.aload_n 0, 1) := by decide +kernel
theorem dX8_termOf_1 : decode cX8_termOf 1 = .ok (.iload_n 1, 1) := by decide +kernel
theorem dX8_termOf_2 : decode cX8_termOf 2 = .ok (.invokevirtual 155, 3) := by decide +kernel
theorem dX8_termOf_5 : decode cX8_termOf 5 = .ok (.ifCond .ne 9, 3) := by decide +kernel
theorem dX8_termOf_8 : decode cX8_termOf 8 = .ok (.aload_n 0, 1) := by decide +kernel
theorem dX8_termOf_9 : decode cX8_termOf 9 = .ok (.iconst (-1), 1) := by decide +kernel
theorem dX8_termOf_10 : decode cX8_termOf 10 = .ok (.invokevirtual 92, 3) := by decide +kernel
theorem dX8_termOf_13 : decode cX8_termOf 13 = .ok (.ireturn, 1) := by decide +kernel
theorem dX8_termOf_14 : decode cX8_termOf 14 = .ok (.iload_n 2, 1) := by decide +kernel
theorem dX8_termOf_15 : decode cX8_termOf 15 = .ok (.tableswitch 57 0 3 #[29, 36, 43, 50], 29) := by decide +kernel
theorem dX8_termOf_44 : decode cX8_termOf 44 = .ok (.aload_n 0, 1) := by decide +kernel
theorem dX8_termOf_45 : decode cX8_termOf 45 = .ok (.getfield 46, 3) := by decide +kernel
theorem dX8_termOf_48 : decode cX8_termOf 48 = .ok (.iload_n 1, 1) := by decide +kernel
theorem dX8_termOf_49 : decode cX8_termOf 49 = .ok (.iaload, 1) := by decide +kernel
theorem dX8_termOf_50 : decode cX8_termOf 50 = .ok (.ireturn, 1) := by decide +kernel
theorem dX8_termOf_51 : decode cX8_termOf 51 = .ok (.aload_n 0, 1) := by decide +kernel
theorem dX8_termOf_52 : decode cX8_termOf 52 = .ok (.getfield 49, 3) := by decide +kernel
theorem dX8_termOf_55 : decode cX8_termOf 55 = .ok (.iload_n 1, 1) := by decide +kernel
theorem dX8_termOf_56 : decode cX8_termOf 56 = .ok (.iaload, 1) := by decide +kernel
theorem dX8_termOf_57 : decode cX8_termOf 57 = .ok (.ireturn, 1) := by decide +kernel
theorem dX8_termOf_58 : decode cX8_termOf 58 = .ok (.aload_n 0, 1) := by decide +kernel
theorem dX8_termOf_59 : decode cX8_termOf 59 = .ok (.getfield 52, 3) := by decide +kernel
theorem dX8_termOf_62 : decode cX8_termOf 62 = .ok (.iload_n 1, 1) := by decide +kernel
theorem dX8_termOf_63 : decode cX8_termOf 63 = .ok (.iaload, 1) := by decide +kernel
theorem dX8_termOf_64 : decode cX8_termOf 64 = .ok (.ireturn, 1) := by decide +kernel
theorem dX8_termOf_65 : decode cX8_termOf 65 = .ok (.aload_n 0, 1) := by decide +kernel
theorem dX8_termOf_66 : decode cX8_termOf 66 = .ok (.getfield 55, 3) := by decide +kernel
theorem dX8_termOf_69 : decode cX8_termOf 69 = .ok (.iload_n 1, 1) := by decide +kernel
theorem dX8_termOf_70 : decode cX8_termOf 70 = .ok (.iaload, 1) := by decide +kernel
theorem dX8_termOf_71 : decode cX8_termOf 71 = .ok (.ireturn, 1) := by decide +kernel
theorem dX8_termOf_72 : decode cX8_termOf 72 = .ok (.aload_n 0, 1) := by decide +kernel
theorem dX8_termOf_73 : decode cX8_termOf 73 = .ok (.bipush (-2), 2) := by decide +kernel
theorem dX8_termOf_75 : decode cX8_termOf 75 = .ok (.invokevirtual 92, 3) := by decide +kernel
theorem dX8_termOf_78 : decode cX8_termOf 78 = .ok (.ireturn, 1) := by decide +kernel
theorem dX8_set_0 : decode cX8_set 0 = .ok (.iload_n 1, 1) := by decide +kernel
theorem dX8_set_1 : decode cX8_set 1 = .ok (.iconst 0, 1) := by decide +kernel
theorem dX8_set_2 : decode cX8_set 2 = .ok (.bipush 7, 2) := by decide +kernel
theorem dX8_set_4 : decode cX8_set 4 = .ok (.invokestatic 104, 3) := by decide +kernel
theorem dX8_set_7 : decode cX8_set 7 = .ok (.ifCond .ne 10, 3) := by decide +kernel
theorem dX8_set_10 : decode cX8_set 10 = .ok (.aload_n 0, 1) := by decide +kernel
theorem dX8_set_11 : decode cX8_set 11 = .ok (.bipush (-2), 2) := by decide +kernel
theorem dX8_set_13 : decode cX8_set 13 = .ok (.invokevirtual 92, 3) := by decide +kernel
theorem dX8_set_16 : decode cX8_set 16 = .ok (.ireturn, 1) := by decide +kernel
theorem dX8_set_17 : decode cX8_set 17 = .ok (.iload_n 2, 1) := by decide +kernel
theorem dX8_set_18 : decode cX8_set 18 = .ok (.iconst 0, 1) := by decide +kernel
theorem dX8_set_19 : decode cX8_set 19 = .ok (.aload_n 0, 1) := by decide +kernel
theorem dX8_set_20 : decode cX8_set 20 = .ok (.getfield 16, 3) := by decide +kernel
theorem dX8_set_23 : decode cX8_set 23 = .ok (.iload_n 1, 1) := by decide +kernel
theorem dX8_set_24 : decode cX8_set 24 = .ok (.iaload, 1) := by decide +kernel
theorem dX8_set_25 : decode cX8_set 25 = .ok (.invokestatic 85, 3) := by decide +kernel
theorem dX8_set_28 : decode cX8_set 28 = .ok (.istore_n 3, 1) := by decide +kernel
theorem dX8_set_29 : decode cX8_set 29 = .ok (.iload_n 3, 1) := by decide +kernel
theorem dX8_set_30 : decode cX8_set 30 = .ok (.ifCond .eq 9, 3) := by decide +kernel
theorem dX8_set_33 : decode cX8_set 33 = .ok (.aload_n 0, 1) := by decide +kernel
theorem dX8_set_34 : decode cX8_set 34 = .ok (.iload_n 3, 1) := by decide +kernel
theorem dX8_set_35 : decode cX8_set 35 = .ok (.invokevirtual 92, 3) := by decide +kernel
theorem dX8_set_38 : decode cX8_set 38 = .ok (.ireturn, 1) := by decide +kernel
theorem dX8_set_39 : decode cX8_set 39 = .ok (.aload_n 0, 1) := by decide +kernel
theorem dX8_set_40 : decode cX8_set 40 = .ok (.getfield 13, 3) := by decide +kernel
theorem dX8_set_43 : decode cX8_set 43 = .ok (.iload_n 1, 1) := by decide +kernel
theorem dX8_set_44 : decode cX8_set 44 = .ok (.iaload, 1) := by decide +kernel
theorem dX8_set_45 : decode cX8_set 45 = .ok (.istore 4, 2) := by decide +kernel
theorem dX8_set_47 : decode cX8_set 47 = .ok (.aload_n 0, 1) := by decide +kernel
theorem dX8_set_48 : decode cX8_set 48 = .ok (.getfield 13, 3) := by decide +kernel
theorem dX8_set_51 : decode cX8_set 51 = .ok (.iload_n 1, 1) := by decide +kernel
theorem dX8_set_52 : decode cX8_set 52 = .ok (.iload_n 2, 1) := by decide +kernel
theorem dX8_set_53 : decode cX8_set 53 = .ok (.iastore, 1) := by decide +kernel
theorem dX8_set_54 : decode cX8_set 54 = .ok (.iload 4, 2) := by decide +kernel
theorem dX8_set_56 : decode cX8_set 56 = .ok (.ireturn, 1) := by decide +kernel
theorem dX8_weather_0 : decode cX8_weather 0 = .ok (.iload_n 1, 1) := by decide +kernel
theorem dX8_weather_1 : decode cX8_weather 1 = .ok (.iconst 0, 1) := by decide +kernel
theorem dX8_weather_2 : decode cX8_weather 2 = .ok (.aload_n 0, 1) := by decide +kernel
theorem dX8_weather_3 : decode cX8_weather 3 = .ok (.invokevirtual 158, 3) := by decide +kernel
theorem dX8_weather_6 : decode cX8_weather 6 = .ok (.iconst 1, 1) := by decide +kernel
theorem dX8_weather_7 : decode cX8_weather 7 = .ok (.isub, 1) := by decide +kernel
theorem dX8_weather_8 : decode cX8_weather 8 = .ok (.invokestatic 104, 3) := by decide +kernel
theorem dX8_weather_11 : decode cX8_weather 11 = .ok (.ifCond .ne 9, 3) := by decide +kernel
theorem dX8_weather_14 : decode cX8_weather 14 = .ok (.aload_n 0, 1) := by decide +kernel
theorem dX8_weather_15 : decode cX8_weather 15 = .ok (.iconst (-1), 1) := by decide +kernel
theorem dX8_weather_16 : decode cX8_weather 16 = .ok (.invokevirtual 92, 3) := by decide +kernel
theorem dX8_weather_19 : decode cX8_weather 19 = .ok (.ireturn, 1) := by decide +kernel
theorem dX8_weather_20 : decode cX8_weather 20 = .ok (.iload_n 2, 1) := by decide +kernel
theorem dX8_weather_21 : decode cX8_weather 21 = .ok (.iconst 0, 1) := by decide +kernel
theorem dX8_weather_22 : decode cX8_weather 22 = .ok (.iconst 1, 1) := by decide +kernel
theorem dX8_weather_23 : decode cX8_weather 23 = .ok (.invokestatic 104, 3) := by decide +kernel
theorem dX8_weather_26 : decode cX8_weather 26 = .ok (.ifCond .ne 10, 3) := by decide +kernel
theorem dX8_weather_29 : decode cX8_weather 29 = .ok (.aload_n 0, 1) := by decide +kernel
theorem dX8_weather_30 : decode cX8_weather 30 = .ok (.bipush (-2), 2) := by decide +kernel
theorem dX8_weather_32 : decode cX8_weather 32 = .ok (.invokevirtual 92, 3) := by decide +kernel
theorem dX8_weather_35 : decode cX8_weather 35 = .ok (.ireturn, 1) := by decide +kernel
theorem dX8_weather_36 : decode cX8_weather 36 = .ok (.iload_n 2, 1) := by decide +kernel
theorem dX8_weather_37 : decode cX8_weather 37 = .ok (.ifCond .ne 11, 3) := by decide +kernel
theorem dX8_weather_40 : decode cX8_weather 40 = .ok (.aload_n 0, 1) := by decide +kernel
theorem dX8_weather_41 : decode cX8_weather 41 = .ok (.iload_n 1, 1) := by decide +kernel
theorem dX8_weather_42 : decode cX8_weather 42 = .ok (.invokevirtual 161, 3) := by decide +kernel
theorem dX8_weather_45 : decode cX8_weather 45 = .ok (.goto 8, 3) := by decide +kernel
theorem dX8_weather_48 : decode cX8_weather 48 = .ok (.aload_n 0, 1) := by decide +kernel
theorem dX8_weather_49 : decode cX8_weather 49 = .ok (.iload_n 1, 1) := by decide +kernel
theorem dX8_weather_50 : decode cX8_weather 50 = .ok (.invokevirtual 164, 3) := by decide +kernel
theorem dX8_weather_53 : decode cX8_weather 53 = .ok (.ireturn, 1) := by decide +kernel
theorem dX8_takesTerm_0 : decode cX8_takesTerm 0 = .ok (.aload_n 0, 1) := by decide +kernel
theorem dX8_takesTerm_1 : decode cX8_takesTerm 1 = .ok (.aload_n 0, 1) := by decide +kernel
theorem dX8_takesTerm_2 : decode cX8_takesTerm 2 = .ok (.getfield 46, 3) := by decide +kernel
theorem dX8_takesTerm_5 : decode cX8_takesTerm 5 = .ok (.iload_n 1, 1) := by decide +kernel
theorem dX8_takesTerm_6 : decode cX8_takesTerm 6 = .ok (.iaload, 1) := by decide +kernel
theorem dX8_takesTerm_7 : decode cX8_takesTerm 7 = .ok (.putfield 167, 3) := by decide +kernel
theorem dX8_takesTerm_10 : decode cX8_takesTerm 10 = .ok (.aload_n 0, 1) := by decide +kernel
theorem dX8_takesTerm_11 : decode cX8_takesTerm 11 = .ok (.aload_n 0, 1) := by decide +kernel
theorem dX8_takesTerm_12 : decode cX8_takesTerm 12 = .ok (.getfield 49, 3) := by decide +kernel
theorem dX8_takesTerm_15 : decode cX8_takesTerm 15 = .ok (.iload_n 1, 1) := by decide +kernel
theorem dX8_takesTerm_16 : decode cX8_takesTerm 16 = .ok (.iaload, 1) := by decide +kernel
theorem dX8_takesTerm_17 : decode cX8_takesTerm 17 = .ok (.putfield 170, 3) := by decide +kernel
theorem dX8_takesTerm_20 : decode cX8_takesTerm 20 = .ok (.aload_n 0, 1) := by decide +kernel
theorem dX8_takesTerm_21 : decode cX8_takesTerm 21 = .ok (.aload_n 0, 1) := by decide +kernel
theorem dX8_takesTerm_22 : decode cX8_takesTerm 22 = .ok (.getfield 52, 3) := by decide +kernel
theorem dX8_takesTerm_25 : decode cX8_takesTerm 25 = .ok (.iload_n 1, 1) := by decide +kernel
theorem dX8_takesTerm_26 : decode cX8_takesTerm 26 = .ok (.iaload, 1) := by decide +kernel
theorem dX8_takesTerm_27 : decode cX8_takesTerm 27 = .ok (.putfield 173, 3) := by decide +kernel
theorem dX8_takesTerm_30 : decode cX8_takesTerm 30 = .ok (.aload_n 0, 1) := by decide +kernel
theorem dX8_takesTerm_31 : decode cX8_takesTerm 31 = .ok (.aload_n 0, 1) := by decide +kernel
theorem dX8_takesTerm_32 : decode cX8_takesTerm 32 = .ok (.getfield 55, 3) := by decide +kernel
theorem dX8_takesTerm_35 : decode cX8_takesTerm 35 = .ok (.iload_n 1, 1) := by decide +kernel
theorem dX8_takesTerm_36 : decode cX8_takesTerm 36 = .ok (.iaload, 1) := by decide +kernel
theorem dX8_takesTerm_37 : decode cX8_takesTerm 37 = .ok (.putfield 176, 3) := by decide +kernel
theorem dX8_takesTerm_40 : decode cX8_takesTerm 40 = .ok (.aload_n 0, 1) := by decide +kernel
theorem dX8_takesTerm_41 : decode cX8_takesTerm 41 = .ok (.iconst 0, 1) := by decide +kernel
theorem dX8_takesTerm_42 : decode cX8_takesTerm 42 = .ok (.putfield 179, 3) := by decide +kernel
theorem dX8_takesTerm_45 : decode cX8_takesTerm 45 = .ok (.aload_n 0, 1) := by decide +kernel
theorem dX8_takesTerm_46 : decode cX8_takesTerm 46 = .ok (.iconst 0, 1) := by decide +kernel
theorem dX8_takesTerm_47 : decode cX8_takesTerm 47 = .ok (.putfield 182, 3) := by decide +kernel
theorem dX8_takesTerm_50 : decode cX8_takesTerm 50 = .ok (.return_, 1) := by decide +kernel
theorem dX8_takesMade_0 : decode cX8_takesMade 0 = .ok (.aload_n 0, 1) := by decide +kernel
theorem dX8_takesMade_1 : decode cX8_takesMade 1 = .ok (.iload_n 1, 1) := by decide +kernel
theorem dX8_takesMade_2 : decode cX8_takesMade 2 = .ok (.putfield 167, 3) := by decide +kernel
theorem dX8_takesMade_5 : decode cX8_takesMade 5 = .ok (.aload_n 0, 1) := by decide +kernel
theorem dX8_takesMade_6 : decode cX8_takesMade 6 = .ok (.iload_n 2, 1) := by decide +kernel
theorem dX8_takesMade_7 : decode cX8_takesMade 7 = .ok (.putfield 170, 3) := by decide +kernel
theorem dX8_takesMade_10 : decode cX8_takesMade 10 = .ok (.aload_n 0, 1) := by decide +kernel
theorem dX8_takesMade_11 : decode cX8_takesMade 11 = .ok (.iload_n 3, 1) := by decide +kernel
theorem dX8_takesMade_12 : decode cX8_takesMade 12 = .ok (.putfield 173, 3) := by decide +kernel
theorem dX8_takesMade_15 : decode cX8_takesMade 15 = .ok (.aload_n 0, 1) := by decide +kernel
theorem dX8_takesMade_16 : decode cX8_takesMade 16 = .ok (.iconst 0, 1) := by decide +kernel
theorem dX8_takesMade_17 : decode cX8_takesMade 17 = .ok (.putfield 176, 3) := by decide +kernel
theorem dX8_takesMade_20 : decode cX8_takesMade 20 = .ok (.aload_n 0, 1) := by decide +kernel
theorem dX8_takesMade_21 : decode cX8_takesMade 21 = .ok (.iconst 0, 1) := by decide +kernel
theorem dX8_takesMade_22 : decode cX8_takesMade 22 = .ok (.putfield 179, 3) := by decide +kernel
theorem dX8_takesMade_25 : decode cX8_takesMade 25 = .ok (.aload_n 0, 1) := by decide +kernel
theorem dX8_takesMade_26 : decode cX8_takesMade 26 = .ok (.iconst 0, 1) := by decide +kernel
theorem dX8_takesMade_27 : decode cX8_takesMade 27 = .ok (.putfield 182, 3) := by decide +kernel
theorem dX8_takesMade_30 : decode cX8_takesMade 30 = .ok (.return_, 1) := by decide +kernel
theorem dX8_reaped_0 : decode cX8_reaped 0 = .ok (.aload_n 0, 1) := by decide +kernel
theorem dX8_reaped_1 : decode cX8_reaped 1 = .ok (.getfield 13, 3) := by decide +kernel
theorem dX8_reaped_4 : decode cX8_reaped 4 = .ok (.iconst 0, 1) := by decide +kernel
theorem dX8_reaped_5 : decode cX8_reaped 5 = .ok (.iaload, 1) := by decide +kernel
theorem dX8_reaped_6 : decode cX8_reaped 6 = .ok (.iconst 5, 1) := by decide +kernel
theorem dX8_reaped_7 : decode cX8_reaped 7 = .ok (.aload_n 0, 1) := by decide +kernel
theorem dX8_reaped_8 : decode cX8_reaped 8 = .ok (.getfield 179, 3) := by decide +kernel
theorem dX8_reaped_11 : decode cX8_reaped 11 = .ok (.imul, 1) := by decide +kernel
theorem dX8_reaped_12 : decode cX8_reaped 12 = .ok (.iadd, 1) := by decide +kernel
theorem dX8_reaped_13 : decode cX8_reaped 13 = .ok (.istore_n 3, 1) := by decide +kernel
theorem dX8_reaped_14 : decode cX8_reaped 14 = .ok (.iconst 0, 1) := by decide +kernel
theorem dX8_reaped_15 : decode cX8_reaped 15 = .ok (.istore 4, 2) := by decide +kernel
theorem dX8_reaped_17 : decode cX8_reaped 17 = .ok (.iload 4, 2) := by decide +kernel
theorem dX8_reaped_19 : decode cX8_reaped 19 = .ok (.iload_n 1, 1) := by decide +kernel
theorem dX8_reaped_20 : decode cX8_reaped 20 = .ok (.if_icmp .ge 30, 3) := by decide +kernel
theorem dX8_reaped_23 : decode cX8_reaped 23 = .ok (.iload_n 3, 1) := by decide +kernel
theorem dX8_reaped_24 : decode cX8_reaped 24 = .ok (.aload_n 0, 1) := by decide +kernel
theorem dX8_reaped_25 : decode cX8_reaped 25 = .ok (.getfield 22, 3) := by decide +kernel
theorem dX8_reaped_28 : decode cX8_reaped 28 = .ok (.iload 4, 2) := by decide +kernel
theorem dX8_reaped_30 : decode cX8_reaped 30 = .ok (.iaload, 1) := by decide +kernel
theorem dX8_reaped_31 : decode cX8_reaped 31 = .ok (.bipush 10, 2) := by decide +kernel
theorem dX8_reaped_33 : decode cX8_reaped 33 = .ok (.aload_n 0, 1) := by decide +kernel
theorem dX8_reaped_34 : decode cX8_reaped 34 = .ok (.getfield 182, 3) := by decide +kernel
theorem dX8_reaped_37 : decode cX8_reaped 37 = .ok (.iadd, 1) := by decide +kernel
theorem dX8_reaped_38 : decode cX8_reaped 38 = .ok (.imul, 1) := by decide +kernel
theorem dX8_reaped_39 : decode cX8_reaped 39 = .ok (.bipush 10, 2) := by decide +kernel
theorem dX8_reaped_41 : decode cX8_reaped 41 = .ok (.idiv, 1) := by decide +kernel
theorem dX8_reaped_42 : decode cX8_reaped 42 = .ok (.iadd, 1) := by decide +kernel
theorem dX8_reaped_43 : decode cX8_reaped 43 = .ok (.istore_n 3, 1) := by decide +kernel
theorem dX8_reaped_44 : decode cX8_reaped 44 = .ok (.iinc 4 1, 3) := by decide +kernel
theorem dX8_reaped_47 : decode cX8_reaped 47 = .ok (.goto (-30), 3) := by decide +kernel
theorem dX8_reaped_50 : decode cX8_reaped 50 = .ok (.iload_n 3, 1) := by decide +kernel
theorem dX8_reaped_51 : decode cX8_reaped 51 = .ok (.aload_n 0, 1) := by decide +kernel
theorem dX8_reaped_52 : decode cX8_reaped 52 = .ok (.iload_n 2, 1) := by decide +kernel
theorem dX8_reaped_53 : decode cX8_reaped 53 = .ok (.invokevirtual 164, 3) := by decide +kernel
theorem dX8_reaped_56 : decode cX8_reaped 56 = .ok (.imul, 1) := by decide +kernel
theorem dX8_reaped_57 : decode cX8_reaped 57 = .ok (.bipush 100, 2) := by decide +kernel
theorem dX8_reaped_59 : decode cX8_reaped 59 = .ok (.idiv, 1) := by decide +kernel
theorem dX8_reaped_60 : decode cX8_reaped 60 = .ok (.ireturn, 1) := by decide +kernel
theorem dX8_shareOf_0 : decode cX8_shareOf 0 = .ok (.aload_n 0, 1) := by decide +kernel
theorem dX8_shareOf_1 : decode cX8_shareOf 1 = .ok (.getfield 167, 3) := by decide +kernel
theorem dX8_shareOf_4 : decode cX8_shareOf 4 = .ok (.tableswitch 113 0 4 #[36, 48, 55, 60, 77], 36) := by decide +kernel
theorem dX8_shareOf_40 : decode cX8_shareOf 40 = .ok (.iload_n 1, 1) := by decide +kernel
theorem dX8_shareOf_41 : decode cX8_shareOf 41 = .ok (.aload_n 0, 1) := by decide +kernel
theorem dX8_shareOf_42 : decode cX8_shareOf 42 = .ok (.getfield 170, 3) := by decide +kernel
theorem dX8_shareOf_45 : decode cX8_shareOf 45 = .ok (.imul, 1) := by decide +kernel
theorem dX8_shareOf_46 : decode cX8_shareOf 46 = .ok (.aload_n 0, 1) := by decide +kernel
theorem dX8_shareOf_47 : decode cX8_shareOf 47 = .ok (.getfield 173, 3) := by decide +kernel
theorem dX8_shareOf_50 : decode cX8_shareOf 50 = .ok (.idiv, 1) := by decide +kernel
theorem dX8_shareOf_51 : decode cX8_shareOf 51 = .ok (.ireturn, 1) := by decide +kernel
theorem dX8_shareOf_52 : decode cX8_shareOf 52 = .ok (.iload_n 1, 1) := by decide +kernel
theorem dX8_shareOf_53 : decode cX8_shareOf 53 = .ok (.aload_n 0, 1) := by decide +kernel
theorem dX8_shareOf_54 : decode cX8_shareOf 54 = .ok (.getfield 170, 3) := by decide +kernel
theorem dX8_shareOf_57 : decode cX8_shareOf 57 = .ok (.isub, 1) := by decide +kernel
theorem dX8_shareOf_58 : decode cX8_shareOf 58 = .ok (.ireturn, 1) := by decide +kernel
theorem dX8_shareOf_59 : decode cX8_shareOf 59 = .ok (.aload_n 0, 1) := by decide +kernel
theorem dX8_shareOf_60 : decode cX8_shareOf 60 = .ok (.getfield 170, 3) := by decide +kernel
theorem dX8_shareOf_63 : decode cX8_shareOf 63 = .ok (.ireturn, 1) := by decide +kernel
theorem dX8_shareOf_64 : decode cX8_shareOf 64 = .ok (.iload_n 1, 1) := by decide +kernel
theorem dX8_shareOf_65 : decode cX8_shareOf 65 = .ok (.aload_n 0, 1) := by decide +kernel
theorem dX8_shareOf_66 : decode cX8_shareOf 66 = .ok (.getfield 170, 3) := by decide +kernel
theorem dX8_shareOf_69 : decode cX8_shareOf 69 = .ok (.imul, 1) := by decide +kernel
theorem dX8_shareOf_70 : decode cX8_shareOf 70 = .ok (.aload_n 0, 1) := by decide +kernel
theorem dX8_shareOf_71 : decode cX8_shareOf 71 = .ok (.getfield 173, 3) := by decide +kernel
theorem dX8_shareOf_74 : decode cX8_shareOf 74 = .ok (.idiv, 1) := by decide +kernel
theorem dX8_shareOf_75 : decode cX8_shareOf 75 = .ok (.aload_n 0, 1) := by decide +kernel
theorem dX8_shareOf_76 : decode cX8_shareOf 76 = .ok (.getfield 176, 3) := by decide +kernel
theorem dX8_shareOf_79 : decode cX8_shareOf 79 = .ok (.isub, 1) := by decide +kernel
theorem dX8_shareOf_80 : decode cX8_shareOf 80 = .ok (.ireturn, 1) := by decide +kernel
theorem dX8_shareOf_81 : decode cX8_shareOf 81 = .ok (.aload_n 0, 1) := by decide +kernel
theorem dX8_shareOf_82 : decode cX8_shareOf 82 = .ok (.getfield 170, 3) := by decide +kernel
theorem dX8_shareOf_85 : decode cX8_shareOf 85 = .ok (.aload_n 0, 1) := by decide +kernel
theorem dX8_shareOf_86 : decode cX8_shareOf 86 = .ok (.getfield 176, 3) := by decide +kernel
theorem dX8_shareOf_89 : decode cX8_shareOf 89 = .ok (.iload_n 2, 1) := by decide +kernel
theorem dX8_shareOf_90 : decode cX8_shareOf 90 = .ok (.imul, 1) := by decide +kernel
theorem dX8_shareOf_91 : decode cX8_shareOf 91 = .ok (.iadd, 1) := by decide +kernel
theorem dX8_shareOf_92 : decode cX8_shareOf 92 = .ok (.istore_n 3, 1) := by decide +kernel
theorem dX8_shareOf_93 : decode cX8_shareOf 93 = .ok (.iload_n 1, 1) := by decide +kernel
theorem dX8_shareOf_94 : decode cX8_shareOf 94 = .ok (.iload_n 3, 1) := by decide +kernel
theorem dX8_shareOf_95 : decode cX8_shareOf 95 = .ok (.aload_n 0, 1) := by decide +kernel
theorem dX8_shareOf_96 : decode cX8_shareOf 96 = .ok (.getfield 173, 3) := by decide +kernel
theorem dX8_shareOf_99 : decode cX8_shareOf 99 = .ok (.if_icmp .le 10, 3) := by decide +kernel
theorem dX8_shareOf_102 : decode cX8_shareOf 102 = .ok (.aload_n 0, 1) := by decide +kernel
theorem dX8_shareOf_103 : decode cX8_shareOf 103 = .ok (.getfield 173, 3) := by decide +kernel
theorem dX8_shareOf_106 : decode cX8_shareOf 106 = .ok (.goto 4, 3) := by decide +kernel
theorem dX8_shareOf_109 : decode cX8_shareOf 109 = .ok (.iload_n 3, 1) := by decide +kernel
theorem dX8_shareOf_110 : decode cX8_shareOf 110 = .ok (.imul, 1) := by decide +kernel
theorem dX8_shareOf_111 : decode cX8_shareOf 111 = .ok (.aload_n 0, 1) := by decide +kernel
theorem dX8_shareOf_112 : decode cX8_shareOf 112 = .ok (.getfield 173, 3) := by decide +kernel
theorem dX8_shareOf_115 : decode cX8_shareOf 115 = .ok (.idiv, 1) := by decide +kernel
theorem dX8_shareOf_116 : decode cX8_shareOf 116 = .ok (.ireturn, 1) := by decide +kernel
theorem dX8_shareOf_117 : decode cX8_shareOf 117 = .ok (.iload_n 1, 1) := by decide +kernel
theorem dX8_shareOf_118 : decode cX8_shareOf 118 = .ok (.aload_n 0, 1) := by decide +kernel
theorem dX8_shareOf_119 : decode cX8_shareOf 119 = .ok (.getfield 170, 3) := by decide +kernel
theorem dX8_shareOf_122 : decode cX8_shareOf 122 = .ok (.isub, 1) := by decide +kernel
theorem dX8_shareOf_123 : decode cX8_shareOf 123 = .ok (.iload_n 1, 1) := by decide +kernel
theorem dX8_shareOf_124 : decode cX8_shareOf 124 = .ok (.iconst 2, 1) := by decide +kernel
theorem dX8_shareOf_125 : decode cX8_shareOf 125 = .ok (.aload_n 0, 1) := by decide +kernel
theorem dX8_shareOf_126 : decode cX8_shareOf 126 = .ok (.getfield 170, 3) := by decide +kernel
theorem dX8_shareOf_129 : decode cX8_shareOf 129 = .ok (.imul, 1) := by decide +kernel
theorem dX8_shareOf_130 : decode cX8_shareOf 130 = .ok (.if_icmp .lt 10, 3) := by decide +kernel
theorem dX8_shareOf_133 : decode cX8_shareOf 133 = .ok (.aload_n 0, 1) := by decide +kernel
theorem dX8_shareOf_134 : decode cX8_shareOf 134 = .ok (.getfield 176, 3) := by decide +kernel
theorem dX8_shareOf_137 : decode cX8_shareOf 137 = .ok (.goto 4, 3) := by decide +kernel
theorem dX8_shareOf_140 : decode cX8_shareOf 140 = .ok (.iconst 0, 1) := by decide +kernel
theorem dX8_shareOf_141 : decode cX8_shareOf 141 = .ok (.isub, 1) := by decide +kernel
theorem dX8_shareOf_142 : decode cX8_shareOf 142 = .ok (.ireturn, 1) := by decide +kernel
theorem dX8_hasOf_0 : decode cX8_hasOf 0 = .ok (.aload_n 0, 1) := by decide +kernel
theorem dX8_hasOf_1 : decode cX8_hasOf 1 = .ok (.getfield 13, 3) := by decide +kernel
theorem dX8_hasOf_4 : decode cX8_hasOf 4 = .ok (.iconst 3, 1) := by decide +kernel
theorem dX8_hasOf_5 : decode cX8_hasOf 5 = .ok (.iaload, 1) := by decide +kernel
theorem dX8_hasOf_6 : decode cX8_hasOf 6 = .ok (.iload_n 1, 1) := by decide +kernel
theorem dX8_hasOf_7 : decode cX8_hasOf 7 = .ok (.if_icmp .ne 12, 3) := by decide +kernel
theorem dX8_hasOf_10 : decode cX8_hasOf 10 = .ok (.aload_n 0, 1) := by decide +kernel
theorem dX8_hasOf_11 : decode cX8_hasOf 11 = .ok (.getfield 13, 3) := by decide +kernel
theorem dX8_hasOf_14 : decode cX8_hasOf 14 = .ok (.iconst 2, 1) := by decide +kernel
theorem dX8_hasOf_15 : decode cX8_hasOf 15 = .ok (.iaload, 1) := by decide +kernel
theorem dX8_hasOf_16 : decode cX8_hasOf 16 = .ok (.goto 4, 3) := by decide +kernel
theorem dX8_hasOf_19 : decode cX8_hasOf 19 = .ok (.iconst 0, 1) := by decide +kernel
theorem dX8_hasOf_20 : decode cX8_hasOf 20 = .ok (.istore 4, 2) := by decide +kernel
theorem dX8_hasOf_22 : decode cX8_hasOf 22 = .ok (.iload_n 1, 1) := by decide +kernel
theorem dX8_hasOf_23 : decode cX8_hasOf 23 = .ok (.ifCond .ne 12, 3) := by decide +kernel
theorem dX8_hasOf_26 : decode cX8_hasOf 26 = .ok (.aload_n 0, 1) := by decide +kernel
theorem dX8_hasOf_27 : decode cX8_hasOf 27 = .ok (.iload_n 2, 1) := by decide +kernel
theorem dX8_hasOf_28 : decode cX8_hasOf 28 = .ok (.iload_n 3, 1) := by decide +kernel
theorem dX8_hasOf_29 : decode cX8_hasOf 29 = .ok (.invokevirtual 185, 3) := by decide +kernel
theorem dX8_hasOf_32 : decode cX8_hasOf 32 = .ok (.goto 11, 3) := by decide +kernel
theorem dX8_hasOf_35 : decode cX8_hasOf 35 = .ok (.iload_n 2, 1) := by decide +kernel
theorem dX8_hasOf_36 : decode cX8_hasOf 36 = .ok (.aload_n 0, 1) := by decide +kernel
theorem dX8_hasOf_37 : decode cX8_hasOf 37 = .ok (.iload_n 2, 1) := by decide +kernel
theorem dX8_hasOf_38 : decode cX8_hasOf 38 = .ok (.iload_n 3, 1) := by decide +kernel
theorem dX8_hasOf_39 : decode cX8_hasOf 39 = .ok (.invokevirtual 185, 3) := by decide +kernel
theorem dX8_hasOf_42 : decode cX8_hasOf 42 = .ok (.isub, 1) := by decide +kernel
theorem dX8_hasOf_43 : decode cX8_hasOf 43 = .ok (.iload 4, 2) := by decide +kernel
theorem dX8_hasOf_45 : decode cX8_hasOf 45 = .ok (.isub, 1) := by decide +kernel
theorem dX8_hasOf_46 : decode cX8_hasOf 46 = .ok (.ireturn, 1) := by decide +kernel
theorem dX8_mindOf_0 : decode cX8_mindOf 0 = .ok (.aload_n 0, 1) := by decide +kernel
theorem dX8_mindOf_1 : decode cX8_mindOf 1 = .ok (.getfield 13, 3) := by decide +kernel
theorem dX8_mindOf_4 : decode cX8_mindOf 4 = .ok (.iconst 4, 1) := by decide +kernel
theorem dX8_mindOf_5 : decode cX8_mindOf 5 = .ok (.iconst 2, 1) := by decide +kernel
theorem dX8_mindOf_6 : decode cX8_mindOf 6 = .ok (.iload_n 1, 1) := by decide +kernel
theorem dX8_mindOf_7 : decode cX8_mindOf 7 = .ok (.imul, 1) := by decide +kernel
theorem dX8_mindOf_8 : decode cX8_mindOf 8 = .ok (.iadd, 1) := by decide +kernel
theorem dX8_mindOf_9 : decode cX8_mindOf 9 = .ok (.iaload, 1) := by decide +kernel
theorem dX8_mindOf_10 : decode cX8_mindOf 10 = .ok (.istore_n 3, 1) := by decide +kernel
theorem dX8_mindOf_11 : decode cX8_mindOf 11 = .ok (.iload_n 2, 1) := by decide +kernel
theorem dX8_mindOf_12 : decode cX8_mindOf 12 = .ok (.ifCond .ge 8, 3) := by decide +kernel
theorem dX8_mindOf_15 : decode cX8_mindOf 15 = .ok (.bipush 20, 2) := by decide +kernel
theorem dX8_mindOf_17 : decode cX8_mindOf 17 = .ok (.iload_n 2, 1) := by decide +kernel
theorem dX8_mindOf_18 : decode cX8_mindOf 18 = .ok (.imul, 1) := by decide +kernel
theorem dX8_mindOf_19 : decode cX8_mindOf 19 = .ok (.ireturn, 1) := by decide +kernel
theorem dX8_mindOf_20 : decode cX8_mindOf 20 = .ok (.iload_n 2, 1) := by decide +kernel
theorem dX8_mindOf_21 : decode cX8_mindOf 21 = .ok (.iload_n 3, 1) := by decide +kernel
theorem dX8_mindOf_22 : decode cX8_mindOf 22 = .ok (.if_icmp .gt 10, 3) := by decide +kernel
theorem dX8_mindOf_25 : decode cX8_mindOf 25 = .ok (.bipush 10, 2) := by decide +kernel
theorem dX8_mindOf_27 : decode cX8_mindOf 27 = .ok (.iload_n 2, 1) := by decide +kernel
theorem dX8_mindOf_28 : decode cX8_mindOf 28 = .ok (.imul, 1) := by decide +kernel
theorem dX8_mindOf_29 : decode cX8_mindOf 29 = .ok (.goto 22, 3) := by decide +kernel
theorem dX8_mindOf_32 : decode cX8_mindOf 32 = .ok (.bipush 10, 2) := by decide +kernel
theorem dX8_mindOf_34 : decode cX8_mindOf 34 = .ok (.iload_n 3, 1) := by decide +kernel
theorem dX8_mindOf_35 : decode cX8_mindOf 35 = .ok (.imul, 1) := by decide +kernel
theorem dX8_mindOf_36 : decode cX8_mindOf 36 = .ok (.aload_n 0, 1) := by decide +kernel
theorem dX8_mindOf_37 : decode cX8_mindOf 37 = .ok (.getfield 13, 3) := by decide +kernel
theorem dX8_mindOf_40 : decode cX8_mindOf 40 = .ok (.iconst 5, 1) := by decide +kernel
theorem dX8_mindOf_41 : decode cX8_mindOf 41 = .ok (.iconst 2, 1) := by decide +kernel
theorem dX8_mindOf_42 : decode cX8_mindOf 42 = .ok (.iload_n 1, 1) := by decide +kernel
theorem dX8_mindOf_43 : decode cX8_mindOf 43 = .ok (.imul, 1) := by decide +kernel
theorem dX8_mindOf_44 : decode cX8_mindOf 44 = .ok (.iadd, 1) := by decide +kernel
theorem dX8_mindOf_45 : decode cX8_mindOf 45 = .ok (.iaload, 1) := by decide +kernel
theorem dX8_mindOf_46 : decode cX8_mindOf 46 = .ok (.iload_n 2, 1) := by decide +kernel
theorem dX8_mindOf_47 : decode cX8_mindOf 47 = .ok (.iload_n 3, 1) := by decide +kernel
theorem dX8_mindOf_48 : decode cX8_mindOf 48 = .ok (.isub, 1) := by decide +kernel
theorem dX8_mindOf_49 : decode cX8_mindOf 49 = .ok (.imul, 1) := by decide +kernel
theorem dX8_mindOf_50 : decode cX8_mindOf 50 = .ok (.iadd, 1) := by decide +kernel
theorem dX8_mindOf_51 : decode cX8_mindOf 51 = .ok (.ireturn, 1) := by decide +kernel
theorem dX8_costOf_0 : decode cX8_costOf 0 = .ok (.iconst 0, 1) := by decide +kernel
theorem dX8_costOf_1 : decode cX8_costOf 1 = .ok (.istore_n 2, 1) := by decide +kernel
theorem dX8_costOf_2 : decode cX8_costOf 2 = .ok (.iconst 0, 1) := by decide +kernel
theorem dX8_costOf_3 : decode cX8_costOf 3 = .ok (.istore_n 3, 1) := by decide +kernel
theorem dX8_costOf_4 : decode cX8_costOf 4 = .ok (.iload_n 3, 1) := by decide +kernel
theorem dX8_costOf_5 : decode cX8_costOf 5 = .ok (.iload_n 1, 1) := by decide +kernel
theorem dX8_costOf_6 : decode cX8_costOf 6 = .ok (.if_icmp .ge 18, 3) := by decide +kernel
theorem dX8_costOf_9 : decode cX8_costOf 9 = .ok (.iload_n 2, 1) := by decide +kernel
theorem dX8_costOf_10 : decode cX8_costOf 10 = .ok (.aload_n 0, 1) := by decide +kernel
theorem dX8_costOf_11 : decode cX8_costOf 11 = .ok (.getfield 19, 3) := by decide +kernel
theorem dX8_costOf_14 : decode cX8_costOf 14 = .ok (.iload_n 3, 1) := by decide +kernel
theorem dX8_costOf_15 : decode cX8_costOf 15 = .ok (.iaload, 1) := by decide +kernel
theorem dX8_costOf_16 : decode cX8_costOf 16 = .ok (.iadd, 1) := by decide +kernel
theorem dX8_costOf_17 : decode cX8_costOf 17 = .ok (.istore_n 2, 1) := by decide +kernel
theorem dX8_costOf_18 : decode cX8_costOf 18 = .ok (.iinc 3 1, 3) := by decide +kernel
theorem dX8_costOf_21 : decode cX8_costOf 21 = .ok (.goto (-17), 3) := by decide +kernel
theorem dX8_costOf_24 : decode cX8_costOf 24 = .ok (.iload_n 2, 1) := by decide +kernel
theorem dX8_costOf_25 : decode cX8_costOf 25 = .ok (.ireturn, 1) := by decide +kernel
theorem dX8_worthOf_0 : decode cX8_worthOf 0 = .ok (.lconst 0, 1) := by decide +kernel
theorem dX8_worthOf_1 : decode cX8_worthOf 1 = .ok (.lstore 4, 2) := by decide +kernel
theorem dX8_worthOf_3 : decode cX8_worthOf 3 = .ok (.iconst 0, 1) := by decide +kernel
theorem dX8_worthOf_4 : decode cX8_worthOf 4 = .ok (.istore 6, 2) := by decide +kernel
theorem dX8_worthOf_6 : decode cX8_worthOf 6 = .ok (.iload 6, 2) := by decide +kernel
theorem dX8_worthOf_8 : decode cX8_worthOf 8 = .ok (.aload_n 0, 1) := by decide +kernel
theorem dX8_worthOf_9 : decode cX8_worthOf 9 = .ok (.invokevirtual 158, 3) := by decide +kernel
theorem dX8_worthOf_12 : decode cX8_worthOf 12 = .ok (.if_icmp .ge 41, 3) := by decide +kernel
theorem dX8_worthOf_15 : decode cX8_worthOf 15 = .ok (.lload 4, 2) := by decide +kernel
theorem dX8_worthOf_17 : decode cX8_worthOf 17 = .ok (.aload_n 0, 1) := by decide +kernel
theorem dX8_worthOf_18 : decode cX8_worthOf 18 = .ok (.iload 6, 2) := by decide +kernel
theorem dX8_worthOf_20 : decode cX8_worthOf 20 = .ok (.invokevirtual 161, 3) := by decide +kernel
theorem dX8_worthOf_23 : decode cX8_worthOf 23 = .ok (.i2l, 1) := by decide +kernel
theorem dX8_worthOf_24 : decode cX8_worthOf 24 = .ok (.aload_n 0, 1) := by decide +kernel
theorem dX8_worthOf_25 : decode cX8_worthOf 25 = .ok (.iload_n 1, 1) := by decide +kernel
theorem dX8_worthOf_26 : decode cX8_worthOf 26 = .ok (.aload_n 0, 1) := by decide +kernel
theorem dX8_worthOf_27 : decode cX8_worthOf 27 = .ok (.iload_n 1, 1) := by decide +kernel
theorem dX8_worthOf_28 : decode cX8_worthOf 28 = .ok (.aload_n 0, 1) := by decide +kernel
theorem dX8_worthOf_29 : decode cX8_worthOf 29 = .ok (.iload_n 2, 1) := by decide +kernel
theorem dX8_worthOf_30 : decode cX8_worthOf 30 = .ok (.iload 6, 2) := by decide +kernel
theorem dX8_worthOf_32 : decode cX8_worthOf 32 = .ok (.invokevirtual 188, 3) := by decide +kernel
theorem dX8_worthOf_35 : decode cX8_worthOf 35 = .ok (.iload_n 3, 1) := by decide +kernel
theorem dX8_worthOf_36 : decode cX8_worthOf 36 = .ok (.invokevirtual 191, 3) := by decide +kernel
theorem dX8_worthOf_39 : decode cX8_worthOf 39 = .ok (.invokevirtual 194, 3) := by decide +kernel
theorem dX8_worthOf_42 : decode cX8_worthOf 42 = .ok (.i2l, 1) := by decide +kernel
theorem dX8_worthOf_43 : decode cX8_worthOf 43 = .ok (.lmul, 1) := by decide +kernel
theorem dX8_worthOf_44 : decode cX8_worthOf 44 = .ok (.ladd, 1) := by decide +kernel
theorem dX8_worthOf_45 : decode cX8_worthOf 45 = .ok (.lstore 4, 2) := by decide +kernel
theorem dX8_worthOf_47 : decode cX8_worthOf 47 = .ok (.iinc 6 1, 3) := by decide +kernel
theorem dX8_worthOf_50 : decode cX8_worthOf 50 = .ok (.goto (-44), 3) := by decide +kernel
theorem dX8_worthOf_53 : decode cX8_worthOf 53 = .ok (.iload_n 1, 1) := by decide +kernel
theorem dX8_worthOf_54 : decode cX8_worthOf 54 = .ok (.ifCond .ne 19, 3) := by decide +kernel
theorem dX8_worthOf_57 : decode cX8_worthOf 57 = .ok (.lload 4, 2) := by decide +kernel
theorem dX8_worthOf_59 : decode cX8_worthOf 59 = .ok (.ldc2_w 197, 3) := by decide +kernel
theorem dX8_worthOf_62 : decode cX8_worthOf 62 = .ok (.aload_n 0, 1) := by decide +kernel
theorem dX8_worthOf_63 : decode cX8_worthOf 63 = .ok (.iload_n 2, 1) := by decide +kernel
theorem dX8_worthOf_64 : decode cX8_worthOf 64 = .ok (.invokevirtual 199, 3) := by decide +kernel
theorem dX8_worthOf_67 : decode cX8_worthOf 67 = .ok (.i2l, 1) := by decide +kernel
theorem dX8_worthOf_68 : decode cX8_worthOf 68 = .ok (.lmul, 1) := by decide +kernel
theorem dX8_worthOf_69 : decode cX8_worthOf 69 = .ok (.lsub, 1) := by decide +kernel
theorem dX8_worthOf_70 : decode cX8_worthOf 70 = .ok (.goto 5, 3) := by decide +kernel
theorem dX8_worthOf_73 : decode cX8_worthOf 73 = .ok (.lload 4, 2) := by decide +kernel
theorem dX8_worthOf_75 : decode cX8_worthOf 75 = .ok (.lreturn, 1) := by decide +kernel
theorem dX8_bestPains_0 : decode cX8_bestPains 0 = .ok (.iconst 0, 1) := by decide +kernel
theorem dX8_bestPains_1 : decode cX8_bestPains 1 = .ok (.istore_n 2, 1) := by decide +kernel
theorem dX8_bestPains_2 : decode cX8_bestPains 2 = .ok (.aload_n 0, 1) := by decide +kernel
theorem dX8_bestPains_3 : decode cX8_bestPains 3 = .ok (.iconst 0, 1) := by decide +kernel
theorem dX8_bestPains_4 : decode cX8_bestPains 4 = .ok (.iconst 0, 1) := by decide +kernel
theorem dX8_bestPains_5 : decode cX8_bestPains 5 = .ok (.iload_n 1, 1) := by decide +kernel
theorem dX8_bestPains_6 : decode cX8_bestPains 6 = .ok (.invokevirtual 202, 3) := by decide +kernel
theorem dX8_bestPains_9 : decode cX8_bestPains 9 = .ok (.lstore_n 3, 1) := by decide +kernel
theorem dX8_bestPains_10 : decode cX8_bestPains 10 = .ok (.iconst 1, 1) := by decide +kernel
theorem dX8_bestPains_11 : decode cX8_bestPains 11 = .ok (.istore 5, 2) := by decide +kernel
theorem dX8_bestPains_13 : decode cX8_bestPains 13 = .ok (.iload 5, 2) := by decide +kernel
theorem dX8_bestPains_15 : decode cX8_bestPains 15 = .ok (.aload_n 0, 1) := by decide +kernel
theorem dX8_bestPains_16 : decode cX8_bestPains 16 = .ok (.getfield 125, 3) := by decide +kernel
theorem dX8_bestPains_19 : decode cX8_bestPains 19 = .ok (.if_icmp .gt 35, 3) := by decide +kernel
theorem dX8_bestPains_22 : decode cX8_bestPains 22 = .ok (.aload_n 0, 1) := by decide +kernel
theorem dX8_bestPains_23 : decode cX8_bestPains 23 = .ok (.iconst 0, 1) := by decide +kernel
theorem dX8_bestPains_24 : decode cX8_bestPains 24 = .ok (.iload 5, 2) := by decide +kernel
theorem dX8_bestPains_26 : decode cX8_bestPains 26 = .ok (.iload_n 1, 1) := by decide +kernel
theorem dX8_bestPains_27 : decode cX8_bestPains 27 = .ok (.invokevirtual 202, 3) := by decide +kernel
theorem dX8_bestPains_30 : decode cX8_bestPains 30 = .ok (.lstore 6, 2) := by decide +kernel
theorem dX8_bestPains_32 : decode cX8_bestPains 32 = .ok (.lload 6, 2) := by decide +kernel
theorem dX8_bestPains_34 : decode cX8_bestPains 34 = .ok (.lload_n 3, 1) := by decide +kernel
theorem dX8_bestPains_35 : decode cX8_bestPains 35 = .ok (.lcmp, 1) := by decide +kernel
theorem dX8_bestPains_36 : decode cX8_bestPains 36 = .ok (.ifCond .gt 6, 3) := by decide +kernel
theorem dX8_bestPains_39 : decode cX8_bestPains 39 = .ok (.goto 9, 3) := by decide +kernel
theorem dX8_bestPains_42 : decode cX8_bestPains 42 = .ok (.lload 6, 2) := by decide +kernel
theorem dX8_bestPains_44 : decode cX8_bestPains 44 = .ok (.lstore_n 3, 1) := by decide +kernel
theorem dX8_bestPains_45 : decode cX8_bestPains 45 = .ok (.iload 5, 2) := by decide +kernel
theorem dX8_bestPains_47 : decode cX8_bestPains 47 = .ok (.istore_n 2, 1) := by decide +kernel
theorem dX8_bestPains_48 : decode cX8_bestPains 48 = .ok (.iinc 5 1, 3) := by decide +kernel
theorem dX8_bestPains_51 : decode cX8_bestPains 51 = .ok (.goto (-38), 3) := by decide +kernel
theorem dX8_bestPains_54 : decode cX8_bestPains 54 = .ok (.iload_n 2, 1) := by decide +kernel
theorem dX8_bestPains_55 : decode cX8_bestPains 55 = .ok (.ireturn, 1) := by decide +kernel
theorem dX8_doesTake_0 : decode cX8_doesTake 0 = .ok (.aload_n 0, 1) := by decide +kernel
theorem dX8_doesTake_1 : decode cX8_doesTake 1 = .ok (.iconst 0, 1) := by decide +kernel
theorem dX8_doesTake_2 : decode cX8_doesTake 2 = .ok (.aload_n 0, 1) := by decide +kernel
theorem dX8_doesTake_3 : decode cX8_doesTake 3 = .ok (.iconst 0, 1) := by decide +kernel
theorem dX8_doesTake_4 : decode cX8_doesTake 4 = .ok (.invokevirtual 206, 3) := by decide +kernel
theorem dX8_doesTake_7 : decode cX8_doesTake 7 = .ok (.iconst 0, 1) := by decide +kernel
theorem dX8_doesTake_8 : decode cX8_doesTake 8 = .ok (.invokevirtual 202, 3) := by decide +kernel
theorem dX8_doesTake_11 : decode cX8_doesTake 11 = .ok (.ldc2_w 197, 3) := by decide +kernel
theorem dX8_doesTake_14 : decode cX8_doesTake 14 = .ok (.aload_n 0, 1) := by decide +kernel
theorem dX8_doesTake_15 : decode cX8_doesTake 15 = .ok (.getfield 13, 3) := by decide +kernel
theorem dX8_doesTake_18 : decode cX8_doesTake 18 = .ok (.iconst 1, 1) := by decide +kernel
theorem dX8_doesTake_19 : decode cX8_doesTake 19 = .ok (.iaload, 1) := by decide +kernel
theorem dX8_doesTake_20 : decode cX8_doesTake 20 = .ok (.i2l, 1) := by decide +kernel
theorem dX8_doesTake_21 : decode cX8_doesTake 21 = .ok (.lmul, 1) := by decide +kernel
theorem dX8_doesTake_22 : decode cX8_doesTake 22 = .ok (.lcmp, 1) := by decide +kernel
theorem dX8_doesTake_23 : decode cX8_doesTake 23 = .ok (.ifCond .lt 7, 3) := by decide +kernel
theorem dX8_doesTake_26 : decode cX8_doesTake 26 = .ok (.iconst 1, 1) := by decide +kernel
theorem dX8_doesTake_27 : decode cX8_doesTake 27 = .ok (.goto 4, 3) := by decide +kernel
theorem dX8_doesTake_30 : decode cX8_doesTake 30 = .ok (.iconst 0, 1) := by decide +kernel
theorem dX8_doesTake_31 : decode cX8_doesTake 31 = .ok (.ireturn, 1) := by decide +kernel
theorem dX8_harvest_0 : decode cX8_harvest 0 = .ok (.iload_n 1, 1) := by decide +kernel
theorem dX8_harvest_1 : decode cX8_harvest 1 = .ok (.iconst 0, 1) := by decide +kernel
theorem dX8_harvest_2 : decode cX8_harvest 2 = .ok (.aload_n 0, 1) := by decide +kernel
theorem dX8_harvest_3 : decode cX8_harvest 3 = .ok (.getfield 125, 3) := by decide +kernel
theorem dX8_harvest_6 : decode cX8_harvest 6 = .ok (.invokestatic 104, 3) := by decide +kernel
theorem dX8_harvest_9 : decode cX8_harvest 9 = .ok (.ifCond .eq 17, 3) := by decide +kernel
theorem dX8_harvest_12 : decode cX8_harvest 12 = .ok (.iload_n 2, 1) := by decide +kernel
theorem dX8_harvest_13 : decode cX8_harvest 13 = .ok (.iconst 0, 1) := by decide +kernel
theorem dX8_harvest_14 : decode cX8_harvest 14 = .ok (.aload_n 0, 1) := by decide +kernel
theorem dX8_harvest_15 : decode cX8_harvest 15 = .ok (.invokevirtual 158, 3) := by decide +kernel
theorem dX8_harvest_18 : decode cX8_harvest 18 = .ok (.iconst 1, 1) := by decide +kernel
theorem dX8_harvest_19 : decode cX8_harvest 19 = .ok (.isub, 1) := by decide +kernel
theorem dX8_harvest_20 : decode cX8_harvest 20 = .ok (.invokestatic 104, 3) := by decide +kernel
theorem dX8_harvest_23 : decode cX8_harvest 23 = .ok (.ifCond .ne 9, 3) := by decide +kernel
theorem dX8_harvest_26 : decode cX8_harvest 26 = .ok (.aload_n 0, 1) := by decide +kernel
theorem dX8_harvest_27 : decode cX8_harvest 27 = .ok (.iconst (-1), 1) := by decide +kernel
theorem dX8_harvest_28 : decode cX8_harvest 28 = .ok (.invokevirtual 92, 3) := by decide +kernel
theorem dX8_harvest_31 : decode cX8_harvest 31 = .ok (.ireturn, 1) := by decide +kernel
theorem dX8_harvest_32 : decode cX8_harvest 32 = .ok (.aload_n 0, 1) := by decide +kernel
theorem dX8_harvest_33 : decode cX8_harvest 33 = .ok (.iconst 0, 1) := by decide +kernel
theorem dX8_harvest_34 : decode cX8_harvest 34 = .ok (.putfield 179, 3) := by decide +kernel
theorem dX8_harvest_37 : decode cX8_harvest 37 = .ok (.aload_n 0, 1) := by decide +kernel
theorem dX8_harvest_38 : decode cX8_harvest 38 = .ok (.iconst 0, 1) := by decide +kernel
theorem dX8_harvest_39 : decode cX8_harvest 39 = .ok (.putfield 182, 3) := by decide +kernel
theorem dX8_harvest_42 : decode cX8_harvest 42 = .ok (.aload_n 0, 1) := by decide +kernel
theorem dX8_harvest_43 : decode cX8_harvest 43 = .ok (.iload_n 1, 1) := by decide +kernel
theorem dX8_harvest_44 : decode cX8_harvest 44 = .ok (.iload_n 2, 1) := by decide +kernel
theorem dX8_harvest_45 : decode cX8_harvest 45 = .ok (.invokevirtual 188, 3) := by decide +kernel
theorem dX8_harvest_48 : decode cX8_harvest 48 = .ok (.ireturn, 1) := by decide +kernel
theorem dX8_whose_0 : decode cX8_whose 0 = .ok (.aload_n 0, 1) := by decide +kernel
theorem dX8_whose_1 : decode cX8_whose 1 = .ok (.iload_n 1, 1) := by decide +kernel
theorem dX8_whose_2 : decode cX8_whose 2 = .ok (.invokevirtual 155, 3) := by decide +kernel
theorem dX8_whose_5 : decode cX8_whose 5 = .ok (.ifCond .eq 13, 3) := by decide +kernel
theorem dX8_whose_8 : decode cX8_whose 8 = .ok (.iload 4, 2) := by decide +kernel
theorem dX8_whose_10 : decode cX8_whose 10 = .ok (.iconst 0, 1) := by decide +kernel
theorem dX8_whose_11 : decode cX8_whose 11 = .ok (.iconst 1, 1) := by decide +kernel
theorem dX8_whose_12 : decode cX8_whose 12 = .ok (.invokestatic 104, 3) := by decide +kernel
theorem dX8_whose_15 : decode cX8_whose 15 = .ok (.ifCond .ne 9, 3) := by decide +kernel
theorem dX8_whose_18 : decode cX8_whose 18 = .ok (.aload_n 0, 1) := by decide +kernel
theorem dX8_whose_19 : decode cX8_whose 19 = .ok (.iconst (-1), 1) := by decide +kernel
theorem dX8_whose_20 : decode cX8_whose 20 = .ok (.invokevirtual 209, 3) := by decide +kernel
theorem dX8_whose_23 : decode cX8_whose 23 = .ok (.ireturn, 1) := by decide +kernel
theorem dX8_whose_24 : decode cX8_whose 24 = .ok (.iload_n 2, 1) := by decide +kernel
theorem dX8_whose_25 : decode cX8_whose 25 = .ok (.ifCond .lt 7, 3) := by decide +kernel
theorem dX8_whose_28 : decode cX8_whose 28 = .ok (.iload_n 3, 1) := by decide +kernel
theorem dX8_whose_29 : decode cX8_whose 29 = .ok (.ifCond .ge 8, 3) := by decide +kernel
theorem dX8_whose_32 : decode cX8_whose 32 = .ok (.bipush (-4), 2) := by decide +kernel
theorem dX8_whose_34 : decode cX8_whose 34 = .ok (.goto 22, 3) := by decide +kernel
theorem dX8_whose_37 : decode cX8_whose 37 = .ok (.iload_n 2, 1) := by decide +kernel
theorem dX8_whose_38 : decode cX8_whose 38 = .ok (.sipush 999, 3) := by decide +kernel
theorem dX8_whose_41 : decode cX8_whose 41 = .ok (.if_icmp .gt 9, 3) := by decide +kernel
theorem dX8_whose_44 : decode cX8_whose 44 = .ok (.iload_n 3, 1) := by decide +kernel
theorem dX8_whose_45 : decode cX8_whose 45 = .ok (.bipush 9, 2) := by decide +kernel
theorem dX8_whose_47 : decode cX8_whose 47 = .ok (.if_icmp .le 8, 3) := by decide +kernel
theorem dX8_whose_50 : decode cX8_whose 50 = .ok (.bipush (-6), 2) := by decide +kernel
theorem dX8_whose_52 : decode cX8_whose 52 = .ok (.goto 4, 3) := by decide +kernel
theorem dX8_whose_55 : decode cX8_whose 55 = .ok (.iconst 0, 1) := by decide +kernel
theorem dX8_whose_56 : decode cX8_whose 56 = .ok (.istore 5, 2) := by decide +kernel
theorem dX8_whose_58 : decode cX8_whose 58 = .ok (.iload 5, 2) := by decide +kernel
theorem dX8_whose_60 : decode cX8_whose 60 = .ok (.ifCond .eq 10, 3) := by decide +kernel
theorem dX8_whose_63 : decode cX8_whose 63 = .ok (.aload_n 0, 1) := by decide +kernel
theorem dX8_whose_64 : decode cX8_whose 64 = .ok (.iload 5, 2) := by decide +kernel
theorem dX8_whose_66 : decode cX8_whose 66 = .ok (.invokevirtual 209, 3) := by decide +kernel
theorem dX8_whose_69 : decode cX8_whose 69 = .ok (.ireturn, 1) := by decide +kernel
theorem dX8_whose_70 : decode cX8_whose 70 = .ok (.aload_n 0, 1) := by decide +kernel
theorem dX8_whose_71 : decode cX8_whose 71 = .ok (.iload_n 1, 1) := by decide +kernel
theorem dX8_whose_72 : decode cX8_whose 72 = .ok (.invokevirtual 212, 3) := by decide +kernel
theorem dX8_whose_75 : decode cX8_whose 75 = .ok (.aload_n 0, 1) := by decide +kernel
theorem dX8_whose_76 : decode cX8_whose 76 = .ok (.iload 4, 2) := by decide +kernel
theorem dX8_whose_78 : decode cX8_whose 78 = .ok (.iload_n 2, 1) := by decide +kernel
theorem dX8_whose_79 : decode cX8_whose 79 = .ok (.iload_n 3, 1) := by decide +kernel
theorem dX8_whose_80 : decode cX8_whose 80 = .ok (.invokevirtual 191, 3) := by decide +kernel
theorem dX8_whose_83 : decode cX8_whose 83 = .ok (.ireturn, 1) := by decide +kernel
theorem dX8_mind_0 : decode cX8_mind 0 = .ok (.iload_n 1, 1) := by decide +kernel
theorem dX8_mind_1 : decode cX8_mind 1 = .ok (.iconst 0, 1) := by decide +kernel
theorem dX8_mind_2 : decode cX8_mind 2 = .ok (.iconst 1, 1) := by decide +kernel
theorem dX8_mind_3 : decode cX8_mind 3 = .ok (.invokestatic 104, 3) := by decide +kernel
theorem dX8_mind_6 : decode cX8_mind 6 = .ok (.ifCond .ne 9, 3) := by decide +kernel
theorem dX8_mind_9 : decode cX8_mind 9 = .ok (.aload_n 0, 1) := by decide +kernel
theorem dX8_mind_10 : decode cX8_mind 10 = .ok (.iconst (-1), 1) := by decide +kernel
theorem dX8_mind_11 : decode cX8_mind 11 = .ok (.invokevirtual 209, 3) := by decide +kernel
theorem dX8_mind_14 : decode cX8_mind 14 = .ok (.ireturn, 1) := by decide +kernel
theorem dX8_mind_15 : decode cX8_mind 15 = .ok (.iload_n 2, 1) := by decide +kernel
theorem dX8_mind_16 : decode cX8_mind 16 = .ok (.sipush (-999), 3) := by decide +kernel
theorem dX8_mind_19 : decode cX8_mind 19 = .ok (.sipush 999, 3) := by decide +kernel
theorem dX8_mind_22 : decode cX8_mind 22 = .ok (.invokestatic 85, 3) := by decide +kernel
theorem dX8_mind_25 : decode cX8_mind 25 = .ok (.istore_n 3, 1) := by decide +kernel
theorem dX8_mind_26 : decode cX8_mind 26 = .ok (.iload_n 3, 1) := by decide +kernel
theorem dX8_mind_27 : decode cX8_mind 27 = .ok (.ifCond .eq 11, 3) := by decide +kernel
theorem dX8_mind_30 : decode cX8_mind 30 = .ok (.aload_n 0, 1) := by decide +kernel
theorem dX8_mind_31 : decode cX8_mind 31 = .ok (.iload_n 3, 1) := by decide +kernel
theorem dX8_mind_32 : decode cX8_mind 32 = .ok (.invokevirtual 209, 3) := by decide +kernel
theorem dX8_mind_35 : decode cX8_mind 35 = .ok (.goto 9, 3) := by decide +kernel
theorem dX8_mind_38 : decode cX8_mind 38 = .ok (.aload_n 0, 1) := by decide +kernel
theorem dX8_mind_39 : decode cX8_mind 39 = .ok (.iload_n 1, 1) := by decide +kernel
theorem dX8_mind_40 : decode cX8_mind 40 = .ok (.iload_n 2, 1) := by decide +kernel
theorem dX8_mind_41 : decode cX8_mind 41 = .ok (.invokevirtual 194, 3) := by decide +kernel
theorem dX8_mind_44 : decode cX8_mind 44 = .ok (.ireturn, 1) := by decide +kernel
theorem dX8_worth_0 : decode cX8_worth 0 = .ok (.aload_n 0, 1) := by decide +kernel
theorem dX8_worth_1 : decode cX8_worth 1 = .ok (.iload_n 1, 1) := by decide +kernel
theorem dX8_worth_2 : decode cX8_worth 2 = .ok (.invokevirtual 155, 3) := by decide +kernel
theorem dX8_worth_5 : decode cX8_worth 5 = .ok (.ifCond .eq 24, 3) := by decide +kernel
theorem dX8_worth_8 : decode cX8_worth 8 = .ok (.iload_n 2, 1) := by decide +kernel
theorem dX8_worth_9 : decode cX8_worth 9 = .ok (.iconst 0, 1) := by decide +kernel
theorem dX8_worth_10 : decode cX8_worth 10 = .ok (.aload_n 0, 1) := by decide +kernel
theorem dX8_worth_11 : decode cX8_worth 11 = .ok (.getfield 125, 3) := by decide +kernel
theorem dX8_worth_14 : decode cX8_worth 14 = .ok (.invokestatic 104, 3) := by decide +kernel
theorem dX8_worth_17 : decode cX8_worth 17 = .ok (.ifCond .eq 12, 3) := by decide +kernel
theorem dX8_worth_20 : decode cX8_worth 20 = .ok (.iload_n 3, 1) := by decide +kernel
theorem dX8_worth_21 : decode cX8_worth 21 = .ok (.iconst 0, 1) := by decide +kernel
theorem dX8_worth_22 : decode cX8_worth 22 = .ok (.iconst 1, 1) := by decide +kernel
theorem dX8_worth_23 : decode cX8_worth 23 = .ok (.invokestatic 104, 3) := by decide +kernel
theorem dX8_worth_26 : decode cX8_worth 26 = .ok (.ifCond .ne 9, 3) := by decide +kernel
theorem dX8_worth_29 : decode cX8_worth 29 = .ok (.aload_n 0, 1) := by decide +kernel
theorem dX8_worth_30 : decode cX8_worth 30 = .ok (.iconst (-1), 1) := by decide +kernel
theorem dX8_worth_31 : decode cX8_worth 31 = .ok (.invokevirtual 216, 3) := by decide +kernel
theorem dX8_worth_34 : decode cX8_worth 34 = .ok (.lreturn, 1) := by decide +kernel
theorem dX8_worth_35 : decode cX8_worth 35 = .ok (.aload_n 0, 1) := by decide +kernel
theorem dX8_worth_36 : decode cX8_worth 36 = .ok (.iload_n 1, 1) := by decide +kernel
theorem dX8_worth_37 : decode cX8_worth 37 = .ok (.invokevirtual 212, 3) := by decide +kernel
theorem dX8_worth_40 : decode cX8_worth 40 = .ok (.aload_n 0, 1) := by decide +kernel
theorem dX8_worth_41 : decode cX8_worth 41 = .ok (.iload_n 3, 1) := by decide +kernel
theorem dX8_worth_42 : decode cX8_worth 42 = .ok (.iload_n 2, 1) := by decide +kernel
theorem dX8_worth_43 : decode cX8_worth 43 = .ok (.iconst 0, 1) := by decide +kernel
theorem dX8_worth_44 : decode cX8_worth 44 = .ok (.invokevirtual 202, 3) := by decide +kernel
theorem dX8_worth_47 : decode cX8_worth 47 = .ok (.lreturn, 1) := by decide +kernel
theorem dX8_pains_0 : decode cX8_pains 0 = .ok (.aload_n 0, 1) := by decide +kernel
theorem dX8_pains_1 : decode cX8_pains 1 = .ok (.iload_n 1, 1) := by decide +kernel
theorem dX8_pains_2 : decode cX8_pains 2 = .ok (.invokevirtual 155, 3) := by decide +kernel
theorem dX8_pains_5 : decode cX8_pains 5 = .ok (.ifCond .ne 9, 3) := by decide +kernel
theorem dX8_pains_8 : decode cX8_pains 8 = .ok (.aload_n 0, 1) := by decide +kernel
theorem dX8_pains_9 : decode cX8_pains 9 = .ok (.iconst (-1), 1) := by decide +kernel
theorem dX8_pains_10 : decode cX8_pains 10 = .ok (.invokevirtual 92, 3) := by decide +kernel
theorem dX8_pains_13 : decode cX8_pains 13 = .ok (.ireturn, 1) := by decide +kernel
theorem dX8_pains_14 : decode cX8_pains 14 = .ok (.aload_n 0, 1) := by decide +kernel
theorem dX8_pains_15 : decode cX8_pains 15 = .ok (.iload_n 1, 1) := by decide +kernel
theorem dX8_pains_16 : decode cX8_pains 16 = .ok (.invokevirtual 212, 3) := by decide +kernel
theorem dX8_pains_19 : decode cX8_pains 19 = .ok (.aload_n 0, 1) := by decide +kernel
theorem dX8_pains_20 : decode cX8_pains 20 = .ok (.iconst 0, 1) := by decide +kernel
theorem dX8_pains_21 : decode cX8_pains 21 = .ok (.invokevirtual 206, 3) := by decide +kernel
theorem dX8_pains_24 : decode cX8_pains 24 = .ok (.ireturn, 1) := by decide +kernel
theorem dX8_takes_0 : decode cX8_takes 0 = .ok (.aload_n 0, 1) := by decide +kernel
theorem dX8_takes_1 : decode cX8_takes 1 = .ok (.iload_n 1, 1) := by decide +kernel
theorem dX8_takes_2 : decode cX8_takes 2 = .ok (.invokevirtual 155, 3) := by decide +kernel
theorem dX8_takes_5 : decode cX8_takes 5 = .ok (.ifCond .ne 9, 3) := by decide +kernel
theorem dX8_takes_8 : decode cX8_takes 8 = .ok (.aload_n 0, 1) := by decide +kernel
theorem dX8_takes_9 : decode cX8_takes 9 = .ok (.iconst (-1), 1) := by decide +kernel
theorem dX8_takes_10 : decode cX8_takes 10 = .ok (.invokevirtual 92, 3) := by decide +kernel
theorem dX8_takes_13 : decode cX8_takes 13 = .ok (.ireturn, 1) := by decide +kernel
theorem dX8_takes_14 : decode cX8_takes 14 = .ok (.aload_n 0, 1) := by decide +kernel
theorem dX8_takes_15 : decode cX8_takes 15 = .ok (.iload_n 1, 1) := by decide +kernel
theorem dX8_takes_16 : decode cX8_takes 16 = .ok (.invokevirtual 212, 3) := by decide +kernel
theorem dX8_takes_19 : decode cX8_takes 19 = .ok (.aload_n 0, 1) := by decide +kernel
theorem dX8_takes_20 : decode cX8_takes 20 = .ok (.invokevirtual 220, 3) := by decide +kernel
theorem dX8_takes_23 : decode cX8_takes 23 = .ok (.ifCond .eq 7, 3) := by decide +kernel
theorem dX8_takes_26 : decode cX8_takes 26 = .ok (.iconst 1, 1) := by decide +kernel
theorem dX8_takes_27 : decode cX8_takes 27 = .ok (.goto 4, 3) := by decide +kernel
theorem dX8_takes_30 : decode cX8_takes 30 = .ok (.iconst 0, 1) := by decide +kernel
theorem dX8_takes_31 : decode cX8_takes 31 = .ok (.ireturn, 1) := by decide +kernel
theorem dX8_divisor_0 : decode cX8_divisor 0 = .ok (.iload_n 0, 1) := by decide +kernel
theorem dX8_divisor_1 : decode cX8_divisor 1 = .ok (.istore_n 2, 1) := by decide +kernel
theorem dX8_divisor_2 : decode cX8_divisor 2 = .ok (.iload_n 1, 1) := by decide +kernel
theorem dX8_divisor_3 : decode cX8_divisor 3 = .ok (.istore_n 3, 1) := by decide +kernel
theorem dX8_divisor_4 : decode cX8_divisor 4 = .ok (.iload_n 3, 1) := by decide +kernel
theorem dX8_divisor_5 : decode cX8_divisor 5 = .ok (.ifCond .eq 16, 3) := by decide +kernel
theorem dX8_divisor_8 : decode cX8_divisor 8 = .ok (.iload_n 2, 1) := by decide +kernel
theorem dX8_divisor_9 : decode cX8_divisor 9 = .ok (.iload_n 3, 1) := by decide +kernel
theorem dX8_divisor_10 : decode cX8_divisor 10 = .ok (.irem, 1) := by decide +kernel
theorem dX8_divisor_11 : decode cX8_divisor 11 = .ok (.istore 4, 2) := by decide +kernel
theorem dX8_divisor_13 : decode cX8_divisor 13 = .ok (.iload_n 3, 1) := by decide +kernel
theorem dX8_divisor_14 : decode cX8_divisor 14 = .ok (.istore_n 2, 1) := by decide +kernel
theorem dX8_divisor_15 : decode cX8_divisor 15 = .ok (.iload 4, 2) := by decide +kernel
theorem dX8_divisor_17 : decode cX8_divisor 17 = .ok (.istore_n 3, 1) := by decide +kernel
theorem dX8_divisor_18 : decode cX8_divisor 18 = .ok (.goto (-14), 3) := by decide +kernel
theorem dX8_divisor_21 : decode cX8_divisor 21 = .ok (.iload_n 2, 1) := by decide +kernel
theorem dX8_divisor_22 : decode cX8_divisor 22 = .ok (.ireturn, 1) := by decide +kernel
theorem dX8_mean_0 : decode cX8_mean 0 = .ok (.aload_n 0, 1) := by decide +kernel
theorem dX8_mean_1 : decode cX8_mean 1 = .ok (.iload_n 1, 1) := by decide +kernel
theorem dX8_mean_2 : decode cX8_mean 2 = .ok (.invokevirtual 155, 3) := by decide +kernel
theorem dX8_mean_5 : decode cX8_mean 5 = .ok (.ifCond .eq 12, 3) := by decide +kernel
theorem dX8_mean_8 : decode cX8_mean 8 = .ok (.iload_n 2, 1) := by decide +kernel
theorem dX8_mean_9 : decode cX8_mean 9 = .ok (.iconst 0, 1) := by decide +kernel
theorem dX8_mean_10 : decode cX8_mean 10 = .ok (.iconst 1, 1) := by decide +kernel
theorem dX8_mean_11 : decode cX8_mean 11 = .ok (.invokestatic 104, 3) := by decide +kernel
theorem dX8_mean_14 : decode cX8_mean 14 = .ok (.ifCond .ne 9, 3) := by decide +kernel
theorem dX8_mean_17 : decode cX8_mean 17 = .ok (.aload_n 0, 1) := by decide +kernel
theorem dX8_mean_18 : decode cX8_mean 18 = .ok (.iconst (-1), 1) := by decide +kernel
theorem dX8_mean_19 : decode cX8_mean 19 = .ok (.invokevirtual 209, 3) := by decide +kernel
theorem dX8_mean_22 : decode cX8_mean 22 = .ok (.ireturn, 1) := by decide +kernel
theorem dX8_mean_23 : decode cX8_mean 23 = .ok (.iload_n 3, 1) := by decide +kernel
theorem dX8_mean_24 : decode cX8_mean 24 = .ok (.iconst 0, 1) := by decide +kernel
theorem dX8_mean_25 : decode cX8_mean 25 = .ok (.iconst 1, 1) := by decide +kernel
theorem dX8_mean_26 : decode cX8_mean 26 = .ok (.invokestatic 104, 3) := by decide +kernel
theorem dX8_mean_29 : decode cX8_mean 29 = .ok (.ifCond .ne 10, 3) := by decide +kernel
theorem dX8_mean_32 : decode cX8_mean 32 = .ok (.aload_n 0, 1) := by decide +kernel
theorem dX8_mean_33 : decode cX8_mean 33 = .ok (.bipush (-2), 2) := by decide +kernel
theorem dX8_mean_35 : decode cX8_mean 35 = .ok (.invokevirtual 209, 3) := by decide +kernel
theorem dX8_mean_38 : decode cX8_mean 38 = .ok (.ireturn, 1) := by decide +kernel
theorem dX8_mean_39 : decode cX8_mean 39 = .ok (.aload_n 0, 1) := by decide +kernel
theorem dX8_mean_40 : decode cX8_mean 40 = .ok (.iload_n 1, 1) := by decide +kernel
theorem dX8_mean_41 : decode cX8_mean 41 = .ok (.invokevirtual 212, 3) := by decide +kernel
theorem dX8_mean_44 : decode cX8_mean 44 = .ok (.aload_n 0, 1) := by decide +kernel
theorem dX8_mean_45 : decode cX8_mean 45 = .ok (.iconst 0, 1) := by decide +kernel
theorem dX8_mean_46 : decode cX8_mean 46 = .ok (.invokevirtual 206, 3) := by decide +kernel
theorem dX8_mean_49 : decode cX8_mean 49 = .ok (.istore 4, 2) := by decide +kernel
theorem dX8_mean_51 : decode cX8_mean 51 = .ok (.iconst 0, 1) := by decide +kernel
theorem dX8_mean_52 : decode cX8_mean 52 = .ok (.istore 5, 2) := by decide +kernel
theorem dX8_mean_54 : decode cX8_mean 54 = .ok (.iconst 0, 1) := by decide +kernel
theorem dX8_mean_55 : decode cX8_mean 55 = .ok (.istore 6, 2) := by decide +kernel
theorem dX8_mean_57 : decode cX8_mean 57 = .ok (.iload 6, 2) := by decide +kernel
theorem dX8_mean_59 : decode cX8_mean 59 = .ok (.aload_n 0, 1) := by decide +kernel
theorem dX8_mean_60 : decode cX8_mean 60 = .ok (.invokevirtual 158, 3) := by decide +kernel
theorem dX8_mean_63 : decode cX8_mean 63 = .ok (.if_icmp .ge 35, 3) := by decide +kernel
theorem dX8_mean_66 : decode cX8_mean 66 = .ok (.iload 5, 2) := by decide +kernel
theorem dX8_mean_68 : decode cX8_mean 68 = .ok (.aload_n 0, 1) := by decide +kernel
theorem dX8_mean_69 : decode cX8_mean 69 = .ok (.iload 6, 2) := by decide +kernel
theorem dX8_mean_71 : decode cX8_mean 71 = .ok (.invokevirtual 161, 3) := by decide +kernel
theorem dX8_mean_74 : decode cX8_mean 74 = .ok (.aload_n 0, 1) := by decide +kernel
theorem dX8_mean_75 : decode cX8_mean 75 = .ok (.iload_n 2, 1) := by decide +kernel
theorem dX8_mean_76 : decode cX8_mean 76 = .ok (.aload_n 0, 1) := by decide +kernel
theorem dX8_mean_77 : decode cX8_mean 77 = .ok (.iload 4, 2) := by decide +kernel
theorem dX8_mean_79 : decode cX8_mean 79 = .ok (.iload 6, 2) := by decide +kernel
theorem dX8_mean_81 : decode cX8_mean 81 = .ok (.invokevirtual 188, 3) := by decide +kernel
theorem dX8_mean_84 : decode cX8_mean 84 = .ok (.iconst 0, 1) := by decide +kernel
theorem dX8_mean_85 : decode cX8_mean 85 = .ok (.invokevirtual 191, 3) := by decide +kernel
theorem dX8_mean_88 : decode cX8_mean 88 = .ok (.imul, 1) := by decide +kernel
theorem dX8_mean_89 : decode cX8_mean 89 = .ok (.iadd, 1) := by decide +kernel
theorem dX8_mean_90 : decode cX8_mean 90 = .ok (.istore 5, 2) := by decide +kernel
theorem dX8_mean_92 : decode cX8_mean 92 = .ok (.iinc 6 1, 3) := by decide +kernel
theorem dX8_mean_95 : decode cX8_mean 95 = .ok (.goto (-38), 3) := by decide +kernel
theorem dX8_mean_98 : decode cX8_mean 98 = .ok (.iload 5, 2) := by decide +kernel
theorem dX8_mean_100 : decode cX8_mean 100 = .ok (.ifCond .ge 9, 3) := by decide +kernel
theorem dX8_mean_103 : decode cX8_mean 103 = .ok (.iload 5, 2) := by decide +kernel
theorem dX8_mean_105 : decode cX8_mean 105 = .ok (.ineg, 1) := by decide +kernel
theorem dX8_mean_106 : decode cX8_mean 106 = .ok (.goto 5, 3) := by decide +kernel
theorem dX8_mean_109 : decode cX8_mean 109 = .ok (.iload 5, 2) := by decide +kernel
theorem dX8_mean_111 : decode cX8_mean 111 = .ok (.bipush 100, 2) := by decide +kernel
theorem dX8_mean_113 : decode cX8_mean 113 = .ok (.invokestatic 223, 3) := by decide +kernel
theorem dX8_mean_116 : decode cX8_mean 116 = .ok (.istore 6, 2) := by decide +kernel
theorem dX8_mean_118 : decode cX8_mean 118 = .ok (.iload_n 3, 1) := by decide +kernel
theorem dX8_mean_119 : decode cX8_mean 119 = .ok (.ifCond .ne 11, 3) := by decide +kernel
theorem dX8_mean_122 : decode cX8_mean 122 = .ok (.iload 5, 2) := by decide +kernel
theorem dX8_mean_124 : decode cX8_mean 124 = .ok (.iload 6, 2) := by decide +kernel
theorem dX8_mean_126 : decode cX8_mean 126 = .ok (.idiv, 1) := by decide +kernel
theorem dX8_mean_127 : decode cX8_mean 127 = .ok (.goto 8, 3) := by decide +kernel
theorem dX8_mean_130 : decode cX8_mean 130 = .ok (.bipush 100, 2) := by decide +kernel
theorem dX8_mean_132 : decode cX8_mean 132 = .ok (.iload 6, 2) := by decide +kernel
theorem dX8_mean_134 : decode cX8_mean 134 = .ok (.idiv, 1) := by decide +kernel
theorem dX8_mean_135 : decode cX8_mean 135 = .ok (.ireturn, 1) := by decide +kernel
theorem dX8_ownerBy_0 : decode cX8_ownerBy 0 = .ok (.aload_n 0, 1) := by decide +kernel
theorem dX8_ownerBy_1 : decode cX8_ownerBy 1 = .ok (.iload_n 1, 1) := by decide +kernel
theorem dX8_ownerBy_2 : decode cX8_ownerBy 2 = .ok (.iload_n 2, 1) := by decide +kernel
theorem dX8_ownerBy_3 : decode cX8_ownerBy 3 = .ok (.iload_n 3, 1) := by decide +kernel
theorem dX8_ownerBy_4 : decode cX8_ownerBy 4 = .ok (.invokevirtual 226, 3) := by decide +kernel
theorem dX8_ownerBy_7 : decode cX8_ownerBy 7 = .ok (.aload_n 0, 1) := by decide +kernel
theorem dX8_ownerBy_8 : decode cX8_ownerBy 8 = .ok (.iconst 1, 1) := by decide +kernel
theorem dX8_ownerBy_9 : decode cX8_ownerBy 9 = .ok (.aload_n 0, 1) := by decide +kernel
theorem dX8_ownerBy_10 : decode cX8_ownerBy 10 = .ok (.iconst 0, 1) := by decide +kernel
theorem dX8_ownerBy_11 : decode cX8_ownerBy 11 = .ok (.invokevirtual 206, 3) := by decide +kernel
theorem dX8_ownerBy_14 : decode cX8_ownerBy 14 = .ok (.iconst 0, 1) := by decide +kernel
theorem dX8_ownerBy_15 : decode cX8_ownerBy 15 = .ok (.invokevirtual 202, 3) := by decide +kernel
theorem dX8_ownerBy_18 : decode cX8_ownerBy 18 = .ok (.lreturn, 1) := by decide +kernel
theorem dX8_isTaken_0 : decode cX8_isTaken 0 = .ok (.aload_n 0, 1) := by decide +kernel
theorem dX8_isTaken_1 : decode cX8_isTaken 1 = .ok (.iload_n 1, 1) := by decide +kernel
theorem dX8_isTaken_2 : decode cX8_isTaken 2 = .ok (.iload_n 2, 1) := by decide +kernel
theorem dX8_isTaken_3 : decode cX8_isTaken 3 = .ok (.iload_n 3, 1) := by decide +kernel
theorem dX8_isTaken_4 : decode cX8_isTaken 4 = .ok (.invokevirtual 226, 3) := by decide +kernel
theorem dX8_isTaken_7 : decode cX8_isTaken 7 = .ok (.aload_n 0, 1) := by decide +kernel
theorem dX8_isTaken_8 : decode cX8_isTaken 8 = .ok (.invokevirtual 220, 3) := by decide +kernel
theorem dX8_isTaken_11 : decode cX8_isTaken 11 = .ok (.ireturn, 1) := by decide +kernel
theorem dX8_findProof_0 : decode cX8_findProof 0 = .ok (.bipush (-9), 2) := by decide +kernel
theorem dX8_findProof_2 : decode cX8_findProof 2 = .ok (.istore_n 1, 1) := by decide +kernel
theorem dX8_findProof_3 : decode cX8_findProof 3 = .ok (.iconst 0, 1) := by decide +kernel
theorem dX8_findProof_4 : decode cX8_findProof 4 = .ok (.istore_n 2, 1) := by decide +kernel
theorem dX8_findProof_5 : decode cX8_findProof 5 = .ok (.iload_n 2, 1) := by decide +kernel
theorem dX8_findProof_6 : decode cX8_findProof 6 = .ok (.bipush 74, 2) := by decide +kernel
theorem dX8_findProof_8 : decode cX8_findProof 8 = .ok (.if_icmp .ge 101, 3) := by decide +kernel
theorem dX8_findProof_11 : decode cX8_findProof 11 = .ok (.iload_n 2, 1) := by decide +kernel
theorem dX8_findProof_12 : decode cX8_findProof 12 = .ok (.bipush 13, 2) := by decide +kernel
theorem dX8_findProof_14 : decode cX8_findProof 14 = .ok (.if_icmp .ge 7, 3) := by decide +kernel
theorem dX8_findProof_17 : decode cX8_findProof 17 = .ok (.iconst 0, 1) := by decide +kernel
theorem dX8_findProof_18 : decode cX8_findProof 18 = .ok (.goto 4, 3) := by decide +kernel
theorem dX8_findProof_21 : decode cX8_findProof 21 = .ok (.iconst 1, 1) := by decide +kernel
theorem dX8_findProof_22 : decode cX8_findProof 22 = .ok (.istore_n 3, 1) := by decide +kernel
theorem dX8_findProof_23 : decode cX8_findProof 23 = .ok (.iload_n 2, 1) := by decide +kernel
theorem dX8_findProof_24 : decode cX8_findProof 24 = .ok (.bipush 13, 2) := by decide +kernel
theorem dX8_findProof_26 : decode cX8_findProof 26 = .ok (.if_icmp .ge 7, 3) := by decide +kernel
theorem dX8_findProof_29 : decode cX8_findProof 29 = .ok (.iload_n 2, 1) := by decide +kernel
theorem dX8_findProof_30 : decode cX8_findProof 30 = .ok (.goto 7, 3) := by decide +kernel
theorem dX8_findProof_33 : decode cX8_findProof 33 = .ok (.iload_n 2, 1) := by decide +kernel
theorem dX8_findProof_34 : decode cX8_findProof 34 = .ok (.bipush 13, 2) := by decide +kernel
theorem dX8_findProof_36 : decode cX8_findProof 36 = .ok (.isub, 1) := by decide +kernel
theorem dX8_findProof_37 : decode cX8_findProof 37 = .ok (.istore 4, 2) := by decide +kernel
theorem dX8_findProof_39 : decode cX8_findProof 39 = .ok (.aload_n 0, 1) := by decide +kernel
theorem dX8_findProof_40 : decode cX8_findProof 40 = .ok (.iload_n 3, 1) := by decide +kernel
theorem dX8_findProof_41 : decode cX8_findProof 41 = .ok (.iload 4, 2) := by decide +kernel
theorem dX8_findProof_43 : decode cX8_findProof 43 = .ok (.bipush 12, 2) := by decide +kernel
theorem dX8_findProof_45 : decode cX8_findProof 45 = .ok (.invokevirtual 230, 3) := by decide +kernel
theorem dX8_findProof_48 : decode cX8_findProof 48 = .ok (.ifCond .ne 6, 3) := by decide +kernel
theorem dX8_findProof_51 : decode cX8_findProof 51 = .ok (.goto 52, 3) := by decide +kernel
theorem dX8_findProof_54 : decode cX8_findProof 54 = .ok (.aload_n 0, 1) := by decide +kernel
theorem dX8_findProof_55 : decode cX8_findProof 55 = .ok (.iload_n 3, 1) := by decide +kernel
theorem dX8_findProof_56 : decode cX8_findProof 56 = .ok (.iload 4, 2) := by decide +kernel
theorem dX8_findProof_58 : decode cX8_findProof 58 = .ok (.bipush 12, 2) := by decide +kernel
theorem dX8_findProof_60 : decode cX8_findProof 60 = .ok (.invokevirtual 233, 3) := by decide +kernel
theorem dX8_findProof_63 : decode cX8_findProof 63 = .ok (.lstore 5, 2) := by decide +kernel
theorem dX8_findProof_65 : decode cX8_findProof 65 = .ok (.iload_n 1, 1) := by decide +kernel
theorem dX8_findProof_66 : decode cX8_findProof 66 = .ok (.ifCond .lt 16, 3) := by decide +kernel
theorem dX8_findProof_69 : decode cX8_findProof 69 = .ok (.lload 5, 2) := by decide +kernel
theorem dX8_findProof_71 : decode cX8_findProof 71 = .ok (.aload_n 0, 1) := by decide +kernel
theorem dX8_findProof_72 : decode cX8_findProof 72 = .ok (.getfield 236, 3) := by decide +kernel
theorem dX8_findProof_75 : decode cX8_findProof 75 = .ok (.lcmp, 1) := by decide +kernel
theorem dX8_findProof_76 : decode cX8_findProof 76 = .ok (.ifCond .gt 6, 3) := by decide +kernel
theorem dX8_findProof_79 : decode cX8_findProof 79 = .ok (.goto 24, 3) := by decide +kernel
theorem dX8_findProof_82 : decode cX8_findProof 82 = .ok (.iload_n 3, 1) := by decide +kernel
theorem dX8_findProof_83 : decode cX8_findProof 83 = .ok (.ifCond .ne 8, 3) := by decide +kernel
theorem dX8_findProof_86 : decode cX8_findProof 86 = .ok (.iload 4, 2) := by decide +kernel
theorem dX8_findProof_88 : decode cX8_findProof 88 = .ok (.goto 8, 3) := by decide +kernel
theorem dX8_findProof_91 : decode cX8_findProof 91 = .ok (.bipush 100, 2) := by decide +kernel
theorem dX8_findProof_93 : decode cX8_findProof 93 = .ok (.iload 4, 2) := by decide +kernel
theorem dX8_findProof_95 : decode cX8_findProof 95 = .ok (.iadd, 1) := by decide +kernel
theorem dX8_findProof_96 : decode cX8_findProof 96 = .ok (.istore_n 1, 1) := by decide +kernel
theorem dX8_findProof_97 : decode cX8_findProof 97 = .ok (.aload_n 0, 1) := by decide +kernel
theorem dX8_findProof_98 : decode cX8_findProof 98 = .ok (.lload 5, 2) := by decide +kernel
theorem dX8_findProof_100 : decode cX8_findProof 100 = .ok (.putfield 236, 3) := by decide +kernel
theorem dX8_findProof_103 : decode cX8_findProof 103 = .ok (.iinc 2 1, 3) := by decide +kernel
theorem dX8_findProof_106 : decode cX8_findProof 106 = .ok (.goto (-101), 3) := by decide +kernel
theorem dX8_findProof_109 : decode cX8_findProof 109 = .ok (.iload_n 1, 1) := by decide +kernel
theorem dX8_findProof_110 : decode cX8_findProof 110 = .ok (.ireturn, 1) := by decide +kernel
theorem dX8_proof_0 : decode cX8_proof 0 = .ok (.aload_n 0, 1) := by decide +kernel
theorem dX8_proof_1 : decode cX8_proof 1 = .ok (.invokevirtual 240, 3) := by decide +kernel
theorem dX8_proof_4 : decode cX8_proof 4 = .ok (.ireturn, 1) := by decide +kernel
theorem dX8_gap_0 : decode cX8_gap 0 = .ok (.aload_n 0, 1) := by decide +kernel
theorem dX8_gap_1 : decode cX8_gap 1 = .ok (.invokevirtual 240, 3) := by decide +kernel
theorem dX8_gap_4 : decode cX8_gap 4 = .ok (.ifCond .ge 7, 3) := by decide +kernel
theorem dX8_gap_7 : decode cX8_gap 7 = .ok (.ldc2_w 243, 3) := by decide +kernel
theorem dX8_gap_10 : decode cX8_gap 10 = .ok (.lreturn, 1) := by decide +kernel
theorem dX8_gap_11 : decode cX8_gap 11 = .ok (.iconst 0, 1) := by decide +kernel
theorem dX8_gap_12 : decode cX8_gap 12 = .ok (.istore_n 1, 1) := by decide +kernel
theorem dX8_gap_13 : decode cX8_gap 13 = .ok (.lconst 0, 1) := by decide +kernel
theorem dX8_gap_14 : decode cX8_gap 14 = .ok (.lstore_n 2, 1) := by decide +kernel
theorem dX8_gap_15 : decode cX8_gap 15 = .ok (.iconst 0, 1) := by decide +kernel
theorem dX8_gap_16 : decode cX8_gap 16 = .ok (.istore 4, 2) := by decide +kernel
theorem dX8_gap_18 : decode cX8_gap 18 = .ok (.iload 4, 2) := by decide +kernel
theorem dX8_gap_20 : decode cX8_gap 20 = .ok (.aload_n 0, 1) := by decide +kernel
theorem dX8_gap_21 : decode cX8_gap 21 = .ok (.getfield 125, 3) := by decide +kernel
theorem dX8_gap_24 : decode cX8_gap 24 = .ok (.if_icmp .gt 103, 3) := by decide +kernel
theorem dX8_gap_27 : decode cX8_gap 27 = .ok (.iconst 0, 1) := by decide +kernel
theorem dX8_gap_28 : decode cX8_gap 28 = .ok (.istore 5, 2) := by decide +kernel
theorem dX8_gap_30 : decode cX8_gap 30 = .ok (.aload_n 0, 1) := by decide +kernel
theorem dX8_gap_31 : decode cX8_gap 31 = .ok (.iconst 2, 1) := by decide +kernel
theorem dX8_gap_32 : decode cX8_gap 32 = .ok (.iconst 0, 1) := by decide +kernel
theorem dX8_gap_33 : decode cX8_gap 33 = .ok (.iconst 1, 1) := by decide +kernel
theorem dX8_gap_34 : decode cX8_gap 34 = .ok (.invokevirtual 226, 3) := by decide +kernel
theorem dX8_gap_37 : decode cX8_gap 37 = .ok (.iload 5, 2) := by decide +kernel
theorem dX8_gap_39 : decode cX8_gap 39 = .ok (.bipush 100, 2) := by decide +kernel
theorem dX8_gap_41 : decode cX8_gap 41 = .ok (.if_icmp .ge 40, 3) := by decide +kernel
theorem dX8_gap_44 : decode cX8_gap 44 = .ok (.aload_n 0, 1) := by decide +kernel
theorem dX8_gap_45 : decode cX8_gap 45 = .ok (.iconst 0, 1) := by decide +kernel
theorem dX8_gap_46 : decode cX8_gap 46 = .ok (.iload 4, 2) := by decide +kernel
theorem dX8_gap_48 : decode cX8_gap 48 = .ok (.iconst 0, 1) := by decide +kernel
theorem dX8_gap_49 : decode cX8_gap 49 = .ok (.invokevirtual 202, 3) := by decide +kernel
theorem dX8_gap_52 : decode cX8_gap 52 = .ok (.ldc2_w 197, 3) := by decide +kernel
theorem dX8_gap_55 : decode cX8_gap 55 = .ok (.aload_n 0, 1) := by decide +kernel
theorem dX8_gap_56 : decode cX8_gap 56 = .ok (.getfield 13, 3) := by decide +kernel
theorem dX8_gap_59 : decode cX8_gap 59 = .ok (.iconst 1, 1) := by decide +kernel
theorem dX8_gap_60 : decode cX8_gap 60 = .ok (.iaload, 1) := by decide +kernel
theorem dX8_gap_61 : decode cX8_gap 61 = .ok (.i2l, 1) := by decide +kernel
theorem dX8_gap_62 : decode cX8_gap 62 = .ok (.lmul, 1) := by decide +kernel
theorem dX8_gap_63 : decode cX8_gap 63 = .ok (.lcmp, 1) := by decide +kernel
theorem dX8_gap_64 : decode cX8_gap 64 = .ok (.ifCond .ge 17, 3) := by decide +kernel
theorem dX8_gap_67 : decode cX8_gap 67 = .ok (.iinc 5 1, 3) := by decide +kernel
theorem dX8_gap_70 : decode cX8_gap 70 = .ok (.aload_n 0, 1) := by decide +kernel
theorem dX8_gap_71 : decode cX8_gap 71 = .ok (.iconst 2, 1) := by decide +kernel
theorem dX8_gap_72 : decode cX8_gap 72 = .ok (.iload 5, 2) := by decide +kernel
theorem dX8_gap_74 : decode cX8_gap 74 = .ok (.iconst 1, 1) := by decide +kernel
theorem dX8_gap_75 : decode cX8_gap 75 = .ok (.invokevirtual 226, 3) := by decide +kernel
theorem dX8_gap_78 : decode cX8_gap 78 = .ok (.goto (-41), 3) := by decide +kernel
theorem dX8_gap_81 : decode cX8_gap 81 = .ok (.iload 5, 2) := by decide +kernel
theorem dX8_gap_83 : decode cX8_gap 83 = .ok (.bipush 100, 2) := by decide +kernel
theorem dX8_gap_85 : decode cX8_gap 85 = .ok (.if_icmp .ne 6, 3) := by decide +kernel
theorem dX8_gap_88 : decode cX8_gap 88 = .ok (.goto 33, 3) := by decide +kernel
theorem dX8_gap_91 : decode cX8_gap 91 = .ok (.aload_n 0, 1) := by decide +kernel
theorem dX8_gap_92 : decode cX8_gap 92 = .ok (.iconst 1, 1) := by decide +kernel
theorem dX8_gap_93 : decode cX8_gap 93 = .ok (.iload 4, 2) := by decide +kernel
theorem dX8_gap_95 : decode cX8_gap 95 = .ok (.iconst 0, 1) := by decide +kernel
theorem dX8_gap_96 : decode cX8_gap 96 = .ok (.invokevirtual 202, 3) := by decide +kernel
theorem dX8_gap_99 : decode cX8_gap 99 = .ok (.lstore 6, 2) := by decide +kernel
theorem dX8_gap_101 : decode cX8_gap 101 = .ok (.iload_n 1, 1) := by decide +kernel
theorem dX8_gap_102 : decode cX8_gap 102 = .ok (.ifCond .eq 10, 3) := by decide +kernel
theorem dX8_gap_105 : decode cX8_gap 105 = .ok (.lload 6, 2) := by decide +kernel
theorem dX8_gap_107 : decode cX8_gap 107 = .ok (.lload_n 2, 1) := by decide +kernel
theorem dX8_gap_108 : decode cX8_gap 108 = .ok (.lcmp, 1) := by decide +kernel
theorem dX8_gap_109 : decode cX8_gap 109 = .ok (.ifCond .le 8, 3) := by decide +kernel
theorem dX8_gap_112 : decode cX8_gap 112 = .ok (.lload 6, 2) := by decide +kernel
theorem dX8_gap_114 : decode cX8_gap 114 = .ok (.goto 4, 3) := by decide +kernel
theorem dX8_gap_117 : decode cX8_gap 117 = .ok (.lload_n 2, 1) := by decide +kernel
theorem dX8_gap_118 : decode cX8_gap 118 = .ok (.lstore_n 2, 1) := by decide +kernel
theorem dX8_gap_119 : decode cX8_gap 119 = .ok (.iconst 1, 1) := by decide +kernel
theorem dX8_gap_120 : decode cX8_gap 120 = .ok (.istore_n 1, 1) := by decide +kernel
theorem dX8_gap_121 : decode cX8_gap 121 = .ok (.iinc 4 1, 3) := by decide +kernel
theorem dX8_gap_124 : decode cX8_gap 124 = .ok (.goto (-106), 3) := by decide +kernel
theorem dX8_gap_127 : decode cX8_gap 127 = .ok (.iload_n 1, 1) := by decide +kernel
theorem dX8_gap_128 : decode cX8_gap 128 = .ok (.ifCond .ne 7, 3) := by decide +kernel
theorem dX8_gap_131 : decode cX8_gap 131 = .ok (.ldc2_w 243, 3) := by decide +kernel
theorem dX8_gap_134 : decode cX8_gap 134 = .ok (.lreturn, 1) := by decide +kernel
theorem dX8_gap_135 : decode cX8_gap 135 = .ok (.lload_n 2, 1) := by decide +kernel
theorem dX8_gap_136 : decode cX8_gap 136 = .ok (.aload_n 0, 1) := by decide +kernel
theorem dX8_gap_137 : decode cX8_gap 137 = .ok (.getfield 236, 3) := by decide +kernel
theorem dX8_gap_140 : decode cX8_gap 140 = .ok (.lcmp, 1) := by decide +kernel
theorem dX8_gap_141 : decode cX8_gap 141 = .ok (.ifCond .ge 7, 3) := by decide +kernel
theorem dX8_gap_144 : decode cX8_gap 144 = .ok (.lconst 0, 1) := by decide +kernel
theorem dX8_gap_145 : decode cX8_gap 145 = .ok (.goto 9, 3) := by decide +kernel
theorem dX8_gap_148 : decode cX8_gap 148 = .ok (.lload_n 2, 1) := by decide +kernel
theorem dX8_gap_149 : decode cX8_gap 149 = .ok (.aload_n 0, 1) := by decide +kernel
theorem dX8_gap_150 : decode cX8_gap 150 = .ok (.getfield 236, 3) := by decide +kernel
theorem dX8_gap_153 : decode cX8_gap 153 = .ok (.lsub, 1) := by decide +kernel
theorem dX8_gap_154 : decode cX8_gap 154 = .ok (.lreturn, 1) := by decide +kernel
theorem dX8_half_0 : decode cX8_half 0 = .ok (.aload_n 0, 1) := by decide +kernel
theorem dX8_half_1 : decode cX8_half 1 = .ok (.invokevirtual 240, 3) := by decide +kernel
theorem dX8_half_4 : decode cX8_half 4 = .ok (.ifCond .lt 13, 3) := by decide +kernel
theorem dX8_half_7 : decode cX8_half 7 = .ok (.aload_n 0, 1) := by decide +kernel
theorem dX8_half_8 : decode cX8_half 8 = .ok (.iconst 0, 1) := by decide +kernel
theorem dX8_half_9 : decode cX8_half 9 = .ok (.iconst 1, 1) := by decide +kernel
theorem dX8_half_10 : decode cX8_half 10 = .ok (.iconst 2, 1) := by decide +kernel
theorem dX8_half_11 : decode cX8_half 11 = .ok (.invokevirtual 230, 3) := by decide +kernel
theorem dX8_half_14 : decode cX8_half 14 = .ok (.ifCond .ne 7, 3) := by decide +kernel
theorem dX8_half_17 : decode cX8_half 17 = .ok (.ldc2_w 243, 3) := by decide +kernel
theorem dX8_half_20 : decode cX8_half 20 = .ok (.lreturn, 1) := by decide +kernel
theorem dX8_half_21 : decode cX8_half 21 = .ok (.aload_n 0, 1) := by decide +kernel
theorem dX8_half_22 : decode cX8_half 22 = .ok (.getfield 236, 3) := by decide +kernel
theorem dX8_half_25 : decode cX8_half 25 = .ok (.aload_n 0, 1) := by decide +kernel
theorem dX8_half_26 : decode cX8_half 26 = .ok (.iconst 0, 1) := by decide +kernel
theorem dX8_half_27 : decode cX8_half 27 = .ok (.iconst 1, 1) := by decide +kernel
theorem dX8_half_28 : decode cX8_half 28 = .ok (.iconst 2, 1) := by decide +kernel
theorem dX8_half_29 : decode cX8_half 29 = .ok (.invokevirtual 233, 3) := by decide +kernel
theorem dX8_half_32 : decode cX8_half 32 = .ok (.lsub, 1) := by decide +kernel
theorem dX8_half_33 : decode cX8_half 33 = .ok (.lreturn, 1) := by decide +kernel
theorem dX8_worthSaying_0 : decode cX8_worthSaying 0 = .ok (.lconst 0, 1) := by decide +kernel
theorem dX8_worthSaying_1 : decode cX8_worthSaying 1 = .ok (.lstore 5, 2) := by decide +kernel
theorem dX8_worthSaying_3 : decode cX8_worthSaying 3 = .ok (.aload_n 0, 1) := by decide +kernel
theorem dX8_worthSaying_4 : decode cX8_worthSaying 4 = .ok (.getfield 13, 3) := by decide +kernel
theorem dX8_worthSaying_7 : decode cX8_worthSaying 7 = .ok (.iconst 3, 1) := by decide +kernel
theorem dX8_worthSaying_8 : decode cX8_worthSaying 8 = .ok (.iaload, 1) := by decide +kernel
theorem dX8_worthSaying_9 : decode cX8_worthSaying 9 = .ok (.ifCond .ne 12, 3) := by decide +kernel
theorem dX8_worthSaying_12 : decode cX8_worthSaying 12 = .ok (.aload_n 0, 1) := by decide +kernel
theorem dX8_worthSaying_13 : decode cX8_worthSaying 13 = .ok (.getfield 13, 3) := by decide +kernel
theorem dX8_worthSaying_16 : decode cX8_worthSaying 16 = .ok (.iconst 2, 1) := by decide +kernel
theorem dX8_worthSaying_17 : decode cX8_worthSaying 17 = .ok (.iaload, 1) := by decide +kernel
theorem dX8_worthSaying_18 : decode cX8_worthSaying 18 = .ok (.goto 4, 3) := by decide +kernel
theorem dX8_worthSaying_21 : decode cX8_worthSaying 21 = .ok (.iconst 0, 1) := by decide +kernel
theorem dX8_worthSaying_22 : decode cX8_worthSaying 22 = .ok (.istore 7, 2) := by decide +kernel
theorem dX8_worthSaying_24 : decode cX8_worthSaying 24 = .ok (.iconst 0, 1) := by decide +kernel
theorem dX8_worthSaying_25 : decode cX8_worthSaying 25 = .ok (.istore 8, 2) := by decide +kernel
theorem dX8_worthSaying_27 : decode cX8_worthSaying 27 = .ok (.iload 8, 2) := by decide +kernel
theorem dX8_worthSaying_29 : decode cX8_worthSaying 29 = .ok (.aload_n 0, 1) := by decide +kernel
theorem dX8_worthSaying_30 : decode cX8_worthSaying 30 = .ok (.invokevirtual 158, 3) := by decide +kernel
theorem dX8_worthSaying_33 : decode cX8_worthSaying 33 = .ok (.if_icmp .ge 114, 3) := by decide +kernel
theorem dX8_worthSaying_36 : decode cX8_worthSaying 36 = .ok (.aload_n 0, 1) := by decide +kernel
theorem dX8_worthSaying_37 : decode cX8_worthSaying 37 = .ok (.iload_n 1, 1) := by decide +kernel
theorem dX8_worthSaying_38 : decode cX8_worthSaying 38 = .ok (.iload 8, 2) := by decide +kernel
theorem dX8_worthSaying_40 : decode cX8_worthSaying 40 = .ok (.invokevirtual 188, 3) := by decide +kernel
theorem dX8_worthSaying_43 : decode cX8_worthSaying 43 = .ok (.istore 9, 2) := by decide +kernel
theorem dX8_worthSaying_45 : decode cX8_worthSaying 45 = .ok (.iload 9, 2) := by decide +kernel
theorem dX8_worthSaying_47 : decode cX8_worthSaying 47 = .ok (.iload_n 2, 1) := by decide +kernel
theorem dX8_worthSaying_48 : decode cX8_worthSaying 48 = .ok (.if_icmp .ge 7, 3) := by decide +kernel
theorem dX8_worthSaying_51 : decode cX8_worthSaying 51 = .ok (.iconst 0, 1) := by decide +kernel
theorem dX8_worthSaying_52 : decode cX8_worthSaying 52 = .ok (.goto 7, 3) := by decide +kernel
theorem dX8_worthSaying_55 : decode cX8_worthSaying 55 = .ok (.iload 9, 2) := by decide +kernel
theorem dX8_worthSaying_57 : decode cX8_worthSaying 57 = .ok (.iload_n 2, 1) := by decide +kernel
theorem dX8_worthSaying_58 : decode cX8_worthSaying 58 = .ok (.isub, 1) := by decide +kernel
theorem dX8_worthSaying_59 : decode cX8_worthSaying 59 = .ok (.istore 10, 2) := by decide +kernel
theorem dX8_worthSaying_61 : decode cX8_worthSaying 61 = .ok (.aload_n 0, 1) := by decide +kernel
theorem dX8_worthSaying_62 : decode cX8_worthSaying 62 = .ok (.iconst 0, 1) := by decide +kernel
theorem dX8_worthSaying_63 : decode cX8_worthSaying 63 = .ok (.aload_n 0, 1) := by decide +kernel
theorem dX8_worthSaying_64 : decode cX8_worthSaying 64 = .ok (.iload 10, 2) := by decide +kernel
theorem dX8_worthSaying_66 : decode cX8_worthSaying 66 = .ok (.iconst 0, 1) := by decide +kernel
theorem dX8_worthSaying_67 : decode cX8_worthSaying 67 = .ok (.invokevirtual 185, 3) := by decide +kernel
theorem dX8_worthSaying_70 : decode cX8_worthSaying 70 = .ok (.iload 9, 2) := by decide +kernel
theorem dX8_worthSaying_72 : decode cX8_worthSaying 72 = .ok (.iadd, 1) := by decide +kernel
theorem dX8_worthSaying_73 : decode cX8_worthSaying 73 = .ok (.iload 10, 2) := by decide +kernel
theorem dX8_worthSaying_75 : decode cX8_worthSaying 75 = .ok (.isub, 1) := by decide +kernel
theorem dX8_worthSaying_76 : decode cX8_worthSaying 76 = .ok (.iload 7, 2) := by decide +kernel
theorem dX8_worthSaying_78 : decode cX8_worthSaying 78 = .ok (.isub, 1) := by decide +kernel
theorem dX8_worthSaying_79 : decode cX8_worthSaying 79 = .ok (.invokevirtual 194, 3) := by decide +kernel
theorem dX8_worthSaying_82 : decode cX8_worthSaying 82 = .ok (.i2l, 1) := by decide +kernel
theorem dX8_worthSaying_83 : decode cX8_worthSaying 83 = .ok (.lstore 11, 2) := by decide +kernel
theorem dX8_worthSaying_85 : decode cX8_worthSaying 85 = .ok (.ldc2_w 245, 3) := by decide +kernel
theorem dX8_worthSaying_88 : decode cX8_worthSaying 88 = .ok (.lload 11, 2) := by decide +kernel
theorem dX8_worthSaying_90 : decode cX8_worthSaying 90 = .ok (.lmul, 1) := by decide +kernel
theorem dX8_worthSaying_91 : decode cX8_worthSaying 91 = .ok (.lstore 13, 2) := by decide +kernel
theorem dX8_worthSaying_93 : decode cX8_worthSaying 93 = .ok (.iload 10, 2) := by decide +kernel
theorem dX8_worthSaying_95 : decode cX8_worthSaying 95 = .ok (.iload 9, 2) := by decide +kernel
theorem dX8_worthSaying_97 : decode cX8_worthSaying 97 = .ok (.if_icmp .ge 29, 3) := by decide +kernel
theorem dX8_worthSaying_100 : decode cX8_worthSaying 100 = .ok (.bipush 100, 2) := by decide +kernel
theorem dX8_worthSaying_102 : decode cX8_worthSaying 102 = .ok (.iload_n 3, 1) := by decide +kernel
theorem dX8_worthSaying_103 : decode cX8_worthSaying 103 = .ok (.isub, 1) := by decide +kernel
theorem dX8_worthSaying_104 : decode cX8_worthSaying 104 = .ok (.i2l, 1) := by decide +kernel
theorem dX8_worthSaying_105 : decode cX8_worthSaying 105 = .ok (.lload 11, 2) := by decide +kernel
theorem dX8_worthSaying_107 : decode cX8_worthSaying 107 = .ok (.lmul, 1) := by decide +kernel
theorem dX8_worthSaying_108 : decode cX8_worthSaying 108 = .ok (.iload_n 3, 1) := by decide +kernel
theorem dX8_worthSaying_109 : decode cX8_worthSaying 109 = .ok (.i2l, 1) := by decide +kernel
theorem dX8_worthSaying_110 : decode cX8_worthSaying 110 = .ok (.aload_n 0, 1) := by decide +kernel
theorem dX8_worthSaying_111 : decode cX8_worthSaying 111 = .ok (.iconst 0, 1) := by decide +kernel
theorem dX8_worthSaying_112 : decode cX8_worthSaying 112 = .ok (.iload 4, 2) := by decide +kernel
theorem dX8_worthSaying_114 : decode cX8_worthSaying 114 = .ok (.ineg, 1) := by decide +kernel
theorem dX8_worthSaying_115 : decode cX8_worthSaying 115 = .ok (.iload 7, 2) := by decide +kernel
theorem dX8_worthSaying_117 : decode cX8_worthSaying 117 = .ok (.isub, 1) := by decide +kernel
theorem dX8_worthSaying_118 : decode cX8_worthSaying 118 = .ok (.invokevirtual 194, 3) := by decide +kernel
theorem dX8_worthSaying_121 : decode cX8_worthSaying 121 = .ok (.i2l, 1) := by decide +kernel
theorem dX8_worthSaying_122 : decode cX8_worthSaying 122 = .ok (.lmul, 1) := by decide +kernel
theorem dX8_worthSaying_123 : decode cX8_worthSaying 123 = .ok (.ladd, 1) := by decide +kernel
theorem dX8_worthSaying_124 : decode cX8_worthSaying 124 = .ok (.lstore 13, 2) := by decide +kernel
theorem dX8_worthSaying_126 : decode cX8_worthSaying 126 = .ok (.lload 5, 2) := by decide +kernel
theorem dX8_worthSaying_128 : decode cX8_worthSaying 128 = .ok (.aload_n 0, 1) := by decide +kernel
theorem dX8_worthSaying_129 : decode cX8_worthSaying 129 = .ok (.iload 8, 2) := by decide +kernel
theorem dX8_worthSaying_131 : decode cX8_worthSaying 131 = .ok (.invokevirtual 161, 3) := by decide +kernel
theorem dX8_worthSaying_134 : decode cX8_worthSaying 134 = .ok (.i2l, 1) := by decide +kernel
theorem dX8_worthSaying_135 : decode cX8_worthSaying 135 = .ok (.lload 13, 2) := by decide +kernel
theorem dX8_worthSaying_137 : decode cX8_worthSaying 137 = .ok (.lmul, 1) := by decide +kernel
theorem dX8_worthSaying_138 : decode cX8_worthSaying 138 = .ok (.ladd, 1) := by decide +kernel
theorem dX8_worthSaying_139 : decode cX8_worthSaying 139 = .ok (.lstore 5, 2) := by decide +kernel
theorem dX8_worthSaying_141 : decode cX8_worthSaying 141 = .ok (.iinc 8 1, 3) := by decide +kernel
theorem dX8_worthSaying_144 : decode cX8_worthSaying 144 = .ok (.goto (-117), 3) := by decide +kernel
theorem dX8_worthSaying_147 : decode cX8_worthSaying 147 = .ok (.lload 5, 2) := by decide +kernel
theorem dX8_worthSaying_149 : decode cX8_worthSaying 149 = .ok (.lreturn, 1) := by decide +kernel
theorem dX8_bestLess_0 : decode cX8_bestLess 0 = .ok (.iconst 0, 1) := by decide +kernel
theorem dX8_bestLess_1 : decode cX8_bestLess 1 = .ok (.istore 4, 2) := by decide +kernel
theorem dX8_bestLess_3 : decode cX8_bestLess 3 = .ok (.aload_n 0, 1) := by decide +kernel
theorem dX8_bestLess_4 : decode cX8_bestLess 4 = .ok (.iload_n 1, 1) := by decide +kernel
theorem dX8_bestLess_5 : decode cX8_bestLess 5 = .ok (.iconst 0, 1) := by decide +kernel
theorem dX8_bestLess_6 : decode cX8_bestLess 6 = .ok (.iload_n 2, 1) := by decide +kernel
theorem dX8_bestLess_7 : decode cX8_bestLess 7 = .ok (.iload_n 3, 1) := by decide +kernel
theorem dX8_bestLess_8 : decode cX8_bestLess 8 = .ok (.invokevirtual 247, 3) := by decide +kernel
theorem dX8_bestLess_11 : decode cX8_bestLess 11 = .ok (.lstore 5, 2) := by decide +kernel
theorem dX8_bestLess_13 : decode cX8_bestLess 13 = .ok (.iconst 1, 1) := by decide +kernel
theorem dX8_bestLess_14 : decode cX8_bestLess 14 = .ok (.istore 7, 2) := by decide +kernel
theorem dX8_bestLess_16 : decode cX8_bestLess 16 = .ok (.iload 7, 2) := by decide +kernel
theorem dX8_bestLess_18 : decode cX8_bestLess 18 = .ok (.bipush 20, 2) := by decide +kernel
theorem dX8_bestLess_20 : decode cX8_bestLess 20 = .ok (.if_icmp .gt 39, 3) := by decide +kernel
theorem dX8_bestLess_23 : decode cX8_bestLess 23 = .ok (.aload_n 0, 1) := by decide +kernel
theorem dX8_bestLess_24 : decode cX8_bestLess 24 = .ok (.iload_n 1, 1) := by decide +kernel
theorem dX8_bestLess_25 : decode cX8_bestLess 25 = .ok (.iload 7, 2) := by decide +kernel
theorem dX8_bestLess_27 : decode cX8_bestLess 27 = .ok (.iload_n 2, 1) := by decide +kernel
theorem dX8_bestLess_28 : decode cX8_bestLess 28 = .ok (.iload_n 3, 1) := by decide +kernel
theorem dX8_bestLess_29 : decode cX8_bestLess 29 = .ok (.invokevirtual 247, 3) := by decide +kernel
theorem dX8_bestLess_32 : decode cX8_bestLess 32 = .ok (.lstore 8, 2) := by decide +kernel
theorem dX8_bestLess_34 : decode cX8_bestLess 34 = .ok (.lload 8, 2) := by decide +kernel
theorem dX8_bestLess_36 : decode cX8_bestLess 36 = .ok (.lload 5, 2) := by decide +kernel
theorem dX8_bestLess_38 : decode cX8_bestLess 38 = .ok (.lcmp, 1) := by decide +kernel
theorem dX8_bestLess_39 : decode cX8_bestLess 39 = .ok (.ifCond .gt 6, 3) := by decide +kernel
theorem dX8_bestLess_42 : decode cX8_bestLess 42 = .ok (.goto 11, 3) := by decide +kernel
theorem dX8_bestLess_45 : decode cX8_bestLess 45 = .ok (.lload 8, 2) := by decide +kernel
theorem dX8_bestLess_47 : decode cX8_bestLess 47 = .ok (.lstore 5, 2) := by decide +kernel
theorem dX8_bestLess_49 : decode cX8_bestLess 49 = .ok (.iload 7, 2) := by decide +kernel
theorem dX8_bestLess_51 : decode cX8_bestLess 51 = .ok (.istore 4, 2) := by decide +kernel
theorem dX8_bestLess_53 : decode cX8_bestLess 53 = .ok (.iinc 7 1, 3) := by decide +kernel
theorem dX8_bestLess_56 : decode cX8_bestLess 56 = .ok (.goto (-40), 3) := by decide +kernel
theorem dX8_bestLess_59 : decode cX8_bestLess 59 = .ok (.iload 4, 2) := by decide +kernel
theorem dX8_bestLess_61 : decode cX8_bestLess 61 = .ok (.ireturn, 1) := by decide +kernel
theorem dX8_isPains_0 : decode cX8_isPains 0 = .ok (.aload_n 0, 1) := by decide +kernel
theorem dX8_isPains_1 : decode cX8_isPains 1 = .ok (.iload_n 1, 1) := by decide +kernel
theorem dX8_isPains_2 : decode cX8_isPains 2 = .ok (.invokevirtual 155, 3) := by decide +kernel
theorem dX8_isPains_5 : decode cX8_isPains 5 = .ok (.ifCond .eq 19, 3) := by decide +kernel
theorem dX8_isPains_8 : decode cX8_isPains 8 = .ok (.iload_n 2, 1) := by decide +kernel
theorem dX8_isPains_9 : decode cX8_isPains 9 = .ok (.iconst 0, 1) := by decide +kernel
theorem dX8_isPains_10 : decode cX8_isPains 10 = .ok (.aload_n 0, 1) := by decide +kernel
theorem dX8_isPains_11 : decode cX8_isPains 11 = .ok (.getfield 125, 3) := by decide +kernel
theorem dX8_isPains_14 : decode cX8_isPains 14 = .ok (.invokestatic 104, 3) := by decide +kernel
theorem dX8_isPains_17 : decode cX8_isPains 17 = .ok (.ifCond .eq 7, 3) := by decide +kernel
theorem dX8_isPains_20 : decode cX8_isPains 20 = .ok (.iconst 1, 1) := by decide +kernel
theorem dX8_isPains_21 : decode cX8_isPains 21 = .ok (.goto 4, 3) := by decide +kernel
theorem dX8_isPains_24 : decode cX8_isPains 24 = .ok (.iconst 0, 1) := by decide +kernel
theorem dX8_isPains_25 : decode cX8_isPains 25 = .ok (.ireturn, 1) := by decide +kernel
theorem dX8_less_0 : decode cX8_less 0 = .ok (.aload_n 0, 1) := by decide +kernel
theorem dX8_less_1 : decode cX8_less 1 = .ok (.iload_n 1, 1) := by decide +kernel
theorem dX8_less_2 : decode cX8_less 2 = .ok (.iload_n 2, 1) := by decide +kernel
theorem dX8_less_3 : decode cX8_less 3 = .ok (.invokevirtual 251, 3) := by decide +kernel
theorem dX8_less_6 : decode cX8_less 6 = .ok (.ifCond .ne 9, 3) := by decide +kernel
theorem dX8_less_9 : decode cX8_less 9 = .ok (.aload_n 0, 1) := by decide +kernel
theorem dX8_less_10 : decode cX8_less 10 = .ok (.iconst (-1), 1) := by decide +kernel
theorem dX8_less_11 : decode cX8_less 11 = .ok (.invokevirtual 92, 3) := by decide +kernel
theorem dX8_less_14 : decode cX8_less 14 = .ok (.ireturn, 1) := by decide +kernel
theorem dX8_less_15 : decode cX8_less 15 = .ok (.iload_n 3, 1) := by decide +kernel
theorem dX8_less_16 : decode cX8_less 16 = .ok (.ifCond .lt 8, 3) := by decide +kernel
theorem dX8_less_19 : decode cX8_less 19 = .ok (.iload 4, 2) := by decide +kernel
theorem dX8_less_21 : decode cX8_less 21 = .ok (.ifCond .ge 8, 3) := by decide +kernel
theorem dX8_less_24 : decode cX8_less 24 = .ok (.bipush (-4), 2) := by decide +kernel
theorem dX8_less_26 : decode cX8_less 26 = .ok (.goto 22, 3) := by decide +kernel
theorem dX8_less_29 : decode cX8_less 29 = .ok (.iload_n 3, 1) := by decide +kernel
theorem dX8_less_30 : decode cX8_less 30 = .ok (.bipush 100, 2) := by decide +kernel
theorem dX8_less_32 : decode cX8_less 32 = .ok (.if_icmp .gt 10, 3) := by decide +kernel
theorem dX8_less_35 : decode cX8_less 35 = .ok (.iload 4, 2) := by decide +kernel
theorem dX8_less_37 : decode cX8_less 37 = .ok (.bipush 99, 2) := by decide +kernel
theorem dX8_less_39 : decode cX8_less 39 = .ok (.if_icmp .le 8, 3) := by decide +kernel
theorem dX8_less_42 : decode cX8_less 42 = .ok (.bipush (-6), 2) := by decide +kernel
theorem dX8_less_44 : decode cX8_less 44 = .ok (.goto 4, 3) := by decide +kernel
theorem dX8_less_47 : decode cX8_less 47 = .ok (.iconst 0, 1) := by decide +kernel
theorem dX8_less_48 : decode cX8_less 48 = .ok (.istore 5, 2) := by decide +kernel
theorem dX8_less_50 : decode cX8_less 50 = .ok (.iload 5, 2) := by decide +kernel
theorem dX8_less_52 : decode cX8_less 52 = .ok (.ifCond .eq 10, 3) := by decide +kernel
theorem dX8_less_55 : decode cX8_less 55 = .ok (.aload_n 0, 1) := by decide +kernel
theorem dX8_less_56 : decode cX8_less 56 = .ok (.iload 5, 2) := by decide +kernel
theorem dX8_less_58 : decode cX8_less 58 = .ok (.invokevirtual 92, 3) := by decide +kernel
theorem dX8_less_61 : decode cX8_less 61 = .ok (.ireturn, 1) := by decide +kernel
theorem dX8_less_62 : decode cX8_less 62 = .ok (.aload_n 0, 1) := by decide +kernel
theorem dX8_less_63 : decode cX8_less 63 = .ok (.iload_n 1, 1) := by decide +kernel
theorem dX8_less_64 : decode cX8_less 64 = .ok (.invokevirtual 212, 3) := by decide +kernel
theorem dX8_less_67 : decode cX8_less 67 = .ok (.aload_n 0, 1) := by decide +kernel
theorem dX8_less_68 : decode cX8_less 68 = .ok (.iload_n 2, 1) := by decide +kernel
theorem dX8_less_69 : decode cX8_less 69 = .ok (.iload_n 3, 1) := by decide +kernel
theorem dX8_less_70 : decode cX8_less 70 = .ok (.iload 4, 2) := by decide +kernel
theorem dX8_less_72 : decode cX8_less 72 = .ok (.invokevirtual 254, 3) := by decide +kernel
theorem dX8_less_75 : decode cX8_less 75 = .ok (.ireturn, 1) := by decide +kernel
theorem dX8_looks_0 : decode cX8_looks 0 = .ok (.aload_n 0, 1) := by decide +kernel
theorem dX8_looks_1 : decode cX8_looks 1 = .ok (.iload_n 1, 1) := by decide +kernel
theorem dX8_looks_2 : decode cX8_looks 2 = .ok (.iload_n 2, 1) := by decide +kernel
theorem dX8_looks_3 : decode cX8_looks 3 = .ok (.invokevirtual 251, 3) := by decide +kernel
theorem dX8_looks_6 : decode cX8_looks 6 = .ok (.ifCond .ne 9, 3) := by decide +kernel
theorem dX8_looks_9 : decode cX8_looks 9 = .ok (.aload_n 0, 1) := by decide +kernel
theorem dX8_looks_10 : decode cX8_looks 10 = .ok (.iconst (-1), 1) := by decide +kernel
theorem dX8_looks_11 : decode cX8_looks 11 = .ok (.invokevirtual 92, 3) := by decide +kernel
theorem dX8_looks_14 : decode cX8_looks 14 = .ok (.ireturn, 1) := by decide +kernel
theorem dX8_looks_15 : decode cX8_looks 15 = .ok (.iload_n 3, 1) := by decide +kernel
theorem dX8_looks_16 : decode cX8_looks 16 = .ok (.iconst 0, 1) := by decide +kernel
theorem dX8_looks_17 : decode cX8_looks 17 = .ok (.bipush 99, 2) := by decide +kernel
theorem dX8_looks_19 : decode cX8_looks 19 = .ok (.invokestatic 85, 3) := by decide +kernel
theorem dX8_looks_22 : decode cX8_looks 22 = .ok (.istore 4, 2) := by decide +kernel
theorem dX8_looks_24 : decode cX8_looks 24 = .ok (.iload 4, 2) := by decide +kernel
theorem dX8_looks_26 : decode cX8_looks 26 = .ok (.ifCond .eq 10, 3) := by decide +kernel
theorem dX8_looks_29 : decode cX8_looks 29 = .ok (.aload_n 0, 1) := by decide +kernel
theorem dX8_looks_30 : decode cX8_looks 30 = .ok (.iload 4, 2) := by decide +kernel
theorem dX8_looks_32 : decode cX8_looks 32 = .ok (.invokevirtual 92, 3) := by decide +kernel
theorem dX8_looks_35 : decode cX8_looks 35 = .ok (.ireturn, 1) := by decide +kernel
theorem dX8_looks_36 : decode cX8_looks 36 = .ok (.aload_n 0, 1) := by decide +kernel
theorem dX8_looks_37 : decode cX8_looks 37 = .ok (.iload_n 1, 1) := by decide +kernel
theorem dX8_looks_38 : decode cX8_looks 38 = .ok (.invokevirtual 212, 3) := by decide +kernel
theorem dX8_looks_41 : decode cX8_looks 41 = .ok (.iconst 0, 1) := by decide +kernel
theorem dX8_looks_42 : decode cX8_looks 42 = .ok (.istore 5, 2) := by decide +kernel
theorem dX8_looks_44 : decode cX8_looks 44 = .ok (.iload 5, 2) := by decide +kernel
theorem dX8_looks_46 : decode cX8_looks 46 = .ok (.bipush 100, 2) := by decide +kernel
theorem dX8_looks_48 : decode cX8_looks 48 = .ok (.if_icmp .gt 23, 3) := by decide +kernel
theorem dX8_looks_51 : decode cX8_looks 51 = .ok (.aload_n 0, 1) := by decide +kernel
theorem dX8_looks_52 : decode cX8_looks 52 = .ok (.iload_n 2, 1) := by decide +kernel
theorem dX8_looks_53 : decode cX8_looks 53 = .ok (.iload 5, 2) := by decide +kernel
theorem dX8_looks_55 : decode cX8_looks 55 = .ok (.iload_n 3, 1) := by decide +kernel
theorem dX8_looks_56 : decode cX8_looks 56 = .ok (.invokevirtual 254, 3) := by decide +kernel
theorem dX8_looks_59 : decode cX8_looks 59 = .ok (.ifCond .ne 6, 3) := by decide +kernel
theorem dX8_looks_62 : decode cX8_looks 62 = .ok (.iload 5, 2) := by decide +kernel
theorem dX8_looks_64 : decode cX8_looks 64 = .ok (.ireturn, 1) := by decide +kernel
theorem dX8_looks_65 : decode cX8_looks 65 = .ok (.iinc 5 1, 3) := by decide +kernel
theorem dX8_looks_68 : decode cX8_looks 68 = .ok (.goto (-24), 3) := by decide +kernel
theorem dX8_looks_71 : decode cX8_looks 71 = .ok (.bipush (-9), 2) := by decide +kernel
theorem dX8_looks_73 : decode cX8_looks 73 = .ok (.ireturn, 1) := by decide +kernel
theorem dX8_yearWorth_0 : decode cX8_yearWorth 0 = .ok (.aload_n 0, 1) := by decide +kernel
theorem dX8_yearWorth_1 : decode cX8_yearWorth 1 = .ok (.iload_n 1, 1) := by decide +kernel
theorem dX8_yearWorth_2 : decode cX8_yearWorth 2 = .ok (.putfield 179, 3) := by decide +kernel
theorem dX8_yearWorth_5 : decode cX8_yearWorth 5 = .ok (.aload_n 0, 1) := by decide +kernel
theorem dX8_yearWorth_6 : decode cX8_yearWorth 6 = .ok (.iconst 0, 1) := by decide +kernel
theorem dX8_yearWorth_7 : decode cX8_yearWorth 7 = .ok (.aload_n 0, 1) := by decide +kernel
theorem dX8_yearWorth_8 : decode cX8_yearWorth 8 = .ok (.iload_n 2, 1) := by decide +kernel
theorem dX8_yearWorth_9 : decode cX8_yearWorth 9 = .ok (.invokevirtual 206, 3) := by decide +kernel
theorem dX8_yearWorth_12 : decode cX8_yearWorth 12 = .ok (.iload_n 2, 1) := by decide +kernel
theorem dX8_yearWorth_13 : decode cX8_yearWorth 13 = .ok (.invokevirtual 202, 3) := by decide +kernel
theorem dX8_yearWorth_16 : decode cX8_yearWorth 16 = .ok (.lreturn, 1) := by decide +kernel
theorem dX8_findYears_0 : decode cX8_findYears 0 = .ok (.iconst 0, 1) := by decide +kernel
theorem dX8_findYears_1 : decode cX8_findYears 1 = .ok (.istore_n 3, 1) := by decide +kernel
theorem dX8_findYears_2 : decode cX8_findYears 2 = .ok (.iload_n 3, 1) := by decide +kernel
theorem dX8_findYears_3 : decode cX8_findYears 3 = .ok (.iconst 4, 1) := by decide +kernel
theorem dX8_findYears_4 : decode cX8_findYears 4 = .ok (.if_icmp .ge 28, 3) := by decide +kernel
theorem dX8_findYears_7 : decode cX8_findYears 7 = .ok (.aload_n 0, 1) := by decide +kernel
theorem dX8_findYears_8 : decode cX8_findYears 8 = .ok (.getfield 58, 3) := by decide +kernel
theorem dX8_findYears_11 : decode cX8_findYears 11 = .ok (.iconst 4, 1) := by decide +kernel
theorem dX8_findYears_12 : decode cX8_findYears 12 = .ok (.iload_n 1, 1) := by decide +kernel
theorem dX8_findYears_13 : decode cX8_findYears 13 = .ok (.imul, 1) := by decide +kernel
theorem dX8_findYears_14 : decode cX8_findYears 14 = .ok (.iload_n 3, 1) := by decide +kernel
theorem dX8_findYears_15 : decode cX8_findYears 15 = .ok (.iadd, 1) := by decide +kernel
theorem dX8_findYears_16 : decode cX8_findYears 16 = .ok (.ldc2_w 197, 3) := by decide +kernel
theorem dX8_findYears_19 : decode cX8_findYears 19 = .ok (.iload_n 2, 1) := by decide +kernel
theorem dX8_findYears_20 : decode cX8_findYears 20 = .ok (.i2l, 1) := by decide +kernel
theorem dX8_findYears_21 : decode cX8_findYears 21 = .ok (.lmul, 1) := by decide +kernel
theorem dX8_findYears_22 : decode cX8_findYears 22 = .ok (.iload_n 3, 1) := by decide +kernel
theorem dX8_findYears_23 : decode cX8_findYears 23 = .ok (.i2l, 1) := by decide +kernel
theorem dX8_findYears_24 : decode cX8_findYears 24 = .ok (.lmul, 1) := by decide +kernel
theorem dX8_findYears_25 : decode cX8_findYears 25 = .ok (.lastore, 1) := by decide +kernel
theorem dX8_findYears_26 : decode cX8_findYears 26 = .ok (.iinc 3 1, 3) := by decide +kernel
theorem dX8_findYears_29 : decode cX8_findYears 29 = .ok (.goto (-27), 3) := by decide +kernel
theorem dX8_findYears_32 : decode cX8_findYears 32 = .ok (.iload_n 1, 1) := by decide +kernel
theorem dX8_findYears_33 : decode cX8_findYears 33 = .ok (.iconst 1, 1) := by decide +kernel
theorem dX8_findYears_34 : decode cX8_findYears 34 = .ok (.isub, 1) := by decide +kernel
theorem dX8_findYears_35 : decode cX8_findYears 35 = .ok (.istore_n 3, 1) := by decide +kernel
theorem dX8_findYears_36 : decode cX8_findYears 36 = .ok (.iload_n 3, 1) := by decide +kernel
theorem dX8_findYears_37 : decode cX8_findYears 37 = .ok (.ifCond .lt 146, 3) := by decide +kernel
theorem dX8_findYears_40 : decode cX8_findYears 40 = .ok (.iconst 0, 1) := by decide +kernel
theorem dX8_findYears_41 : decode cX8_findYears 41 = .ok (.istore 4, 2) := by decide +kernel
theorem dX8_findYears_43 : decode cX8_findYears 43 = .ok (.iload 4, 2) := by decide +kernel
theorem dX8_findYears_45 : decode cX8_findYears 45 = .ok (.iconst 4, 1) := by decide +kernel
theorem dX8_findYears_46 : decode cX8_findYears 46 = .ok (.if_icmp .ge 131, 3) := by decide +kernel
theorem dX8_findYears_49 : decode cX8_findYears 49 = .ok (.aload_n 0, 1) := by decide +kernel
theorem dX8_findYears_50 : decode cX8_findYears 50 = .ok (.iload 4, 2) := by decide +kernel
theorem dX8_findYears_52 : decode cX8_findYears 52 = .ok (.iload_n 3, 1) := by decide +kernel
theorem dX8_findYears_53 : decode cX8_findYears 53 = .ok (.invokevirtual 257, 3) := by decide +kernel
theorem dX8_findYears_56 : decode cX8_findYears 56 = .ok (.lstore 5, 2) := by decide +kernel
theorem dX8_findYears_58 : decode cX8_findYears 58 = .ok (.lload 5, 2) := by decide +kernel
theorem dX8_findYears_60 : decode cX8_findYears 60 = .ok (.aload_n 0, 1) := by decide +kernel
theorem dX8_findYears_61 : decode cX8_findYears 61 = .ok (.getfield 58, 3) := by decide +kernel
theorem dX8_findYears_64 : decode cX8_findYears 64 = .ok (.iconst 4, 1) := by decide +kernel
theorem dX8_findYears_65 : decode cX8_findYears 65 = .ok (.iload_n 3, 1) := by decide +kernel
theorem dX8_findYears_66 : decode cX8_findYears 66 = .ok (.iconst 1, 1) := by decide +kernel
theorem dX8_findYears_67 : decode cX8_findYears 67 = .ok (.iadd, 1) := by decide +kernel
theorem dX8_findYears_68 : decode cX8_findYears 68 = .ok (.imul, 1) := by decide +kernel
theorem dX8_findYears_69 : decode cX8_findYears 69 = .ok (.iload 4, 2) := by decide +kernel
theorem dX8_findYears_71 : decode cX8_findYears 71 = .ok (.ifCond .le 10, 3) := by decide +kernel
theorem dX8_findYears_74 : decode cX8_findYears 74 = .ok (.iload 4, 2) := by decide +kernel
theorem dX8_findYears_76 : decode cX8_findYears 76 = .ok (.iconst 1, 1) := by decide +kernel
theorem dX8_findYears_77 : decode cX8_findYears 77 = .ok (.isub, 1) := by decide +kernel
theorem dX8_findYears_78 : decode cX8_findYears 78 = .ok (.goto 4, 3) := by decide +kernel
theorem dX8_findYears_81 : decode cX8_findYears 81 = .ok (.iconst 0, 1) := by decide +kernel
theorem dX8_findYears_82 : decode cX8_findYears 82 = .ok (.iadd, 1) := by decide +kernel
theorem dX8_findYears_83 : decode cX8_findYears 83 = .ok (.laload, 1) := by decide +kernel
theorem dX8_findYears_84 : decode cX8_findYears 84 = .ok (.ladd, 1) := by decide +kernel
theorem dX8_findYears_85 : decode cX8_findYears 85 = .ok (.lstore 7, 2) := by decide +kernel
theorem dX8_findYears_87 : decode cX8_findYears 87 = .ok (.lload 5, 2) := by decide +kernel
theorem dX8_findYears_89 : decode cX8_findYears 89 = .ok (.ldc2_w 261, 3) := by decide +kernel
theorem dX8_findYears_92 : decode cX8_findYears 92 = .ok (.lsub, 1) := by decide +kernel
theorem dX8_findYears_93 : decode cX8_findYears 93 = .ok (.aload_n 0, 1) := by decide +kernel
theorem dX8_findYears_94 : decode cX8_findYears 94 = .ok (.getfield 58, 3) := by decide +kernel
theorem dX8_findYears_97 : decode cX8_findYears 97 = .ok (.iconst 4, 1) := by decide +kernel
theorem dX8_findYears_98 : decode cX8_findYears 98 = .ok (.iload_n 3, 1) := by decide +kernel
theorem dX8_findYears_99 : decode cX8_findYears 99 = .ok (.iconst 1, 1) := by decide +kernel
theorem dX8_findYears_100 : decode cX8_findYears 100 = .ok (.iadd, 1) := by decide +kernel
theorem dX8_findYears_101 : decode cX8_findYears 101 = .ok (.imul, 1) := by decide +kernel
theorem dX8_findYears_102 : decode cX8_findYears 102 = .ok (.iload 4, 2) := by decide +kernel
theorem dX8_findYears_104 : decode cX8_findYears 104 = .ok (.iconst 3, 1) := by decide +kernel
theorem dX8_findYears_105 : decode cX8_findYears 105 = .ok (.if_icmp .ge 10, 3) := by decide +kernel
theorem dX8_findYears_108 : decode cX8_findYears 108 = .ok (.iload 4, 2) := by decide +kernel
theorem dX8_findYears_110 : decode cX8_findYears 110 = .ok (.iconst 1, 1) := by decide +kernel
theorem dX8_findYears_111 : decode cX8_findYears 111 = .ok (.iadd, 1) := by decide +kernel
theorem dX8_findYears_112 : decode cX8_findYears 112 = .ok (.goto 4, 3) := by decide +kernel
theorem dX8_findYears_115 : decode cX8_findYears 115 = .ok (.iconst 3, 1) := by decide +kernel
theorem dX8_findYears_116 : decode cX8_findYears 116 = .ok (.iadd, 1) := by decide +kernel
theorem dX8_findYears_117 : decode cX8_findYears 117 = .ok (.laload, 1) := by decide +kernel
theorem dX8_findYears_118 : decode cX8_findYears 118 = .ok (.ladd, 1) := by decide +kernel
theorem dX8_findYears_119 : decode cX8_findYears 119 = .ok (.lstore 9, 2) := by decide +kernel
theorem dX8_findYears_121 : decode cX8_findYears 121 = .ok (.aload_n 0, 1) := by decide +kernel
theorem dX8_findYears_122 : decode cX8_findYears 122 = .ok (.getfield 62, 3) := by decide +kernel
theorem dX8_findYears_125 : decode cX8_findYears 125 = .ok (.iconst 4, 1) := by decide +kernel
theorem dX8_findYears_126 : decode cX8_findYears 126 = .ok (.iload_n 3, 1) := by decide +kernel
theorem dX8_findYears_127 : decode cX8_findYears 127 = .ok (.imul, 1) := by decide +kernel
theorem dX8_findYears_128 : decode cX8_findYears 128 = .ok (.iload 4, 2) := by decide +kernel
theorem dX8_findYears_130 : decode cX8_findYears 130 = .ok (.iadd, 1) := by decide +kernel
theorem dX8_findYears_131 : decode cX8_findYears 131 = .ok (.lload 9, 2) := by decide +kernel
theorem dX8_findYears_133 : decode cX8_findYears 133 = .ok (.lload 7, 2) := by decide +kernel
theorem dX8_findYears_135 : decode cX8_findYears 135 = .ok (.lcmp, 1) := by decide +kernel
theorem dX8_findYears_136 : decode cX8_findYears 136 = .ok (.ifCond .le 7, 3) := by decide +kernel
theorem dX8_findYears_139 : decode cX8_findYears 139 = .ok (.iconst 1, 1) := by decide +kernel
theorem dX8_findYears_140 : decode cX8_findYears 140 = .ok (.goto 4, 3) := by decide +kernel
theorem dX8_findYears_143 : decode cX8_findYears 143 = .ok (.iconst 0, 1) := by decide +kernel
theorem dX8_findYears_144 : decode cX8_findYears 144 = .ok (.iastore, 1) := by decide +kernel
theorem dX8_findYears_145 : decode cX8_findYears 145 = .ok (.aload_n 0, 1) := by decide +kernel
theorem dX8_findYears_146 : decode cX8_findYears 146 = .ok (.getfield 58, 3) := by decide +kernel
theorem dX8_findYears_149 : decode cX8_findYears 149 = .ok (.iconst 4, 1) := by decide +kernel
theorem dX8_findYears_150 : decode cX8_findYears 150 = .ok (.iload_n 3, 1) := by decide +kernel
theorem dX8_findYears_151 : decode cX8_findYears 151 = .ok (.imul, 1) := by decide +kernel
theorem dX8_findYears_152 : decode cX8_findYears 152 = .ok (.iload 4, 2) := by decide +kernel
theorem dX8_findYears_154 : decode cX8_findYears 154 = .ok (.iadd, 1) := by decide +kernel
theorem dX8_findYears_155 : decode cX8_findYears 155 = .ok (.lload 9, 2) := by decide +kernel
theorem dX8_findYears_157 : decode cX8_findYears 157 = .ok (.lload 7, 2) := by decide +kernel
theorem dX8_findYears_159 : decode cX8_findYears 159 = .ok (.lcmp, 1) := by decide +kernel
theorem dX8_findYears_160 : decode cX8_findYears 160 = .ok (.ifCond .le 8, 3) := by decide +kernel
theorem dX8_findYears_163 : decode cX8_findYears 163 = .ok (.lload 9, 2) := by decide +kernel
theorem dX8_findYears_165 : decode cX8_findYears 165 = .ok (.goto 5, 3) := by decide +kernel
theorem dX8_findYears_168 : decode cX8_findYears 168 = .ok (.lload 7, 2) := by decide +kernel
theorem dX8_findYears_170 : decode cX8_findYears 170 = .ok (.lastore, 1) := by decide +kernel
theorem dX8_findYears_171 : decode cX8_findYears 171 = .ok (.iinc 4 1, 3) := by decide +kernel
theorem dX8_findYears_174 : decode cX8_findYears 174 = .ok (.goto (-131), 3) := by decide +kernel
theorem dX8_findYears_177 : decode cX8_findYears 177 = .ok (.iinc 3 (-1), 3) := by decide +kernel
theorem dX8_findYears_180 : decode cX8_findYears 180 = .ok (.goto (-144), 3) := by decide +kernel
theorem dX8_findYears_183 : decode cX8_findYears 183 = .ok (.return_, 1) := by decide +kernel
theorem dX8_dungedFrom_0 : decode cX8_dungedFrom 0 = .ok (.iload_n 1, 1) := by decide +kernel
theorem dX8_dungedFrom_1 : decode cX8_dungedFrom 1 = .ok (.istore_n 3, 1) := by decide +kernel
theorem dX8_dungedFrom_2 : decode cX8_dungedFrom 2 = .ok (.iconst 0, 1) := by decide +kernel
theorem dX8_dungedFrom_3 : decode cX8_dungedFrom 3 = .ok (.istore 4, 2) := by decide +kernel
theorem dX8_dungedFrom_5 : decode cX8_dungedFrom 5 = .ok (.iconst 0, 1) := by decide +kernel
theorem dX8_dungedFrom_6 : decode cX8_dungedFrom 6 = .ok (.istore 5, 2) := by decide +kernel
theorem dX8_dungedFrom_8 : decode cX8_dungedFrom 8 = .ok (.iload 5, 2) := by decide +kernel
theorem dX8_dungedFrom_10 : decode cX8_dungedFrom 10 = .ok (.iload_n 2, 1) := by decide +kernel
theorem dX8_dungedFrom_11 : decode cX8_dungedFrom 11 = .ok (.if_icmp .ge 61, 3) := by decide +kernel
theorem dX8_dungedFrom_14 : decode cX8_dungedFrom 14 = .ok (.aload_n 0, 1) := by decide +kernel
theorem dX8_dungedFrom_15 : decode cX8_dungedFrom 15 = .ok (.getfield 62, 3) := by decide +kernel
theorem dX8_dungedFrom_18 : decode cX8_dungedFrom 18 = .ok (.iconst 4, 1) := by decide +kernel
theorem dX8_dungedFrom_19 : decode cX8_dungedFrom 19 = .ok (.iload 5, 2) := by decide +kernel
theorem dX8_dungedFrom_21 : decode cX8_dungedFrom 21 = .ok (.imul, 1) := by decide +kernel
theorem dX8_dungedFrom_22 : decode cX8_dungedFrom 22 = .ok (.iload_n 3, 1) := by decide +kernel
theorem dX8_dungedFrom_23 : decode cX8_dungedFrom 23 = .ok (.iadd, 1) := by decide +kernel
theorem dX8_dungedFrom_24 : decode cX8_dungedFrom 24 = .ok (.iaload, 1) := by decide +kernel
theorem dX8_dungedFrom_25 : decode cX8_dungedFrom 25 = .ok (.iconst 1, 1) := by decide +kernel
theorem dX8_dungedFrom_26 : decode cX8_dungedFrom 26 = .ok (.if_icmp .ne 28, 3) := by decide +kernel
theorem dX8_dungedFrom_29 : decode cX8_dungedFrom 29 = .ok (.iload 4, 2) := by decide +kernel
theorem dX8_dungedFrom_31 : decode cX8_dungedFrom 31 = .ok (.iconst 1, 1) := by decide +kernel
theorem dX8_dungedFrom_32 : decode cX8_dungedFrom 32 = .ok (.iload 5, 2) := by decide +kernel
theorem dX8_dungedFrom_34 : decode cX8_dungedFrom 34 = .ok (.ishl, 1) := by decide +kernel
theorem dX8_dungedFrom_35 : decode cX8_dungedFrom 35 = .ok (.ior, 1) := by decide +kernel
theorem dX8_dungedFrom_36 : decode cX8_dungedFrom 36 = .ok (.istore 4, 2) := by decide +kernel
theorem dX8_dungedFrom_38 : decode cX8_dungedFrom 38 = .ok (.iload_n 3, 1) := by decide +kernel
theorem dX8_dungedFrom_39 : decode cX8_dungedFrom 39 = .ok (.iconst 3, 1) := by decide +kernel
theorem dX8_dungedFrom_40 : decode cX8_dungedFrom 40 = .ok (.if_icmp .ge 9, 3) := by decide +kernel
theorem dX8_dungedFrom_43 : decode cX8_dungedFrom 43 = .ok (.iload_n 3, 1) := by decide +kernel
theorem dX8_dungedFrom_44 : decode cX8_dungedFrom 44 = .ok (.iconst 1, 1) := by decide +kernel
theorem dX8_dungedFrom_45 : decode cX8_dungedFrom 45 = .ok (.iadd, 1) := by decide +kernel
theorem dX8_dungedFrom_46 : decode cX8_dungedFrom 46 = .ok (.goto 4, 3) := by decide +kernel
theorem dX8_dungedFrom_49 : decode cX8_dungedFrom 49 = .ok (.iconst 3, 1) := by decide +kernel
theorem dX8_dungedFrom_50 : decode cX8_dungedFrom 50 = .ok (.istore_n 3, 1) := by decide +kernel
theorem dX8_dungedFrom_51 : decode cX8_dungedFrom 51 = .ok (.goto 15, 3) := by decide +kernel
theorem dX8_dungedFrom_54 : decode cX8_dungedFrom 54 = .ok (.iload_n 3, 1) := by decide +kernel
theorem dX8_dungedFrom_55 : decode cX8_dungedFrom 55 = .ok (.ifCond .le 9, 3) := by decide +kernel
theorem dX8_dungedFrom_58 : decode cX8_dungedFrom 58 = .ok (.iload_n 3, 1) := by decide +kernel
theorem dX8_dungedFrom_59 : decode cX8_dungedFrom 59 = .ok (.iconst 1, 1) := by decide +kernel
theorem dX8_dungedFrom_60 : decode cX8_dungedFrom 60 = .ok (.isub, 1) := by decide +kernel
theorem dX8_dungedFrom_61 : decode cX8_dungedFrom 61 = .ok (.goto 4, 3) := by decide +kernel
theorem dX8_dungedFrom_64 : decode cX8_dungedFrom 64 = .ok (.iconst 0, 1) := by decide +kernel
theorem dX8_dungedFrom_65 : decode cX8_dungedFrom 65 = .ok (.istore_n 3, 1) := by decide +kernel
theorem dX8_dungedFrom_66 : decode cX8_dungedFrom 66 = .ok (.iinc 5 1, 3) := by decide +kernel
theorem dX8_dungedFrom_69 : decode cX8_dungedFrom 69 = .ok (.goto (-61), 3) := by decide +kernel
theorem dX8_dungedFrom_72 : decode cX8_dungedFrom 72 = .ok (.iload 4, 2) := by decide +kernel
theorem dX8_dungedFrom_74 : decode cX8_dungedFrom 74 = .ok (.ireturn, 1) := by decide +kernel
theorem dX8_years_0 : decode cX8_years 0 = .ok (.aload_n 0, 1) := by decide +kernel
theorem dX8_years_1 : decode cX8_years 1 = .ok (.iload_n 1, 1) := by decide +kernel
theorem dX8_years_2 : decode cX8_years 2 = .ok (.invokevirtual 155, 3) := by decide +kernel
theorem dX8_years_5 : decode cX8_years 5 = .ok (.ifCond .ne 9, 3) := by decide +kernel
theorem dX8_years_8 : decode cX8_years 8 = .ok (.aload_n 0, 1) := by decide +kernel
theorem dX8_years_9 : decode cX8_years 9 = .ok (.iconst (-1), 1) := by decide +kernel
theorem dX8_years_10 : decode cX8_years 10 = .ok (.invokevirtual 216, 3) := by decide +kernel
theorem dX8_years_13 : decode cX8_years 13 = .ok (.lreturn, 1) := by decide +kernel
theorem dX8_years_14 : decode cX8_years 14 = .ok (.iload 4, 2) := by decide +kernel
theorem dX8_years_16 : decode cX8_years 16 = .ok (.iconst 0, 1) := by decide +kernel
theorem dX8_years_17 : decode cX8_years 17 = .ok (.iconst 1, 1) := by decide +kernel
theorem dX8_years_18 : decode cX8_years 18 = .ok (.invokestatic 104, 3) := by decide +kernel
theorem dX8_years_21 : decode cX8_years 21 = .ok (.ifCond .ne 10, 3) := by decide +kernel
theorem dX8_years_24 : decode cX8_years 24 = .ok (.aload_n 0, 1) := by decide +kernel
theorem dX8_years_25 : decode cX8_years 25 = .ok (.bipush (-2), 2) := by decide +kernel
theorem dX8_years_27 : decode cX8_years 27 = .ok (.invokevirtual 216, 3) := by decide +kernel
theorem dX8_years_30 : decode cX8_years 30 = .ok (.lreturn, 1) := by decide +kernel
theorem dX8_years_31 : decode cX8_years 31 = .ok (.iload_n 2, 1) := by decide +kernel
theorem dX8_years_32 : decode cX8_years 32 = .ok (.ifCond .lt 8, 3) := by decide +kernel
theorem dX8_years_35 : decode cX8_years 35 = .ok (.iload_n 3, 1) := by decide +kernel
theorem dX8_years_36 : decode cX8_years 36 = .ok (.iconst 1, 1) := by decide +kernel
theorem dX8_years_37 : decode cX8_years 37 = .ok (.if_icmp .ge 8, 3) := by decide +kernel
theorem dX8_years_40 : decode cX8_years 40 = .ok (.bipush (-4), 2) := by decide +kernel
theorem dX8_years_42 : decode cX8_years 42 = .ok (.goto 20, 3) := by decide +kernel
theorem dX8_years_45 : decode cX8_years 45 = .ok (.iload_n 2, 1) := by decide +kernel
theorem dX8_years_46 : decode cX8_years 46 = .ok (.iconst 3, 1) := by decide +kernel
theorem dX8_years_47 : decode cX8_years 47 = .ok (.if_icmp .gt 9, 3) := by decide +kernel
theorem dX8_years_50 : decode cX8_years 50 = .ok (.iload_n 3, 1) := by decide +kernel
theorem dX8_years_51 : decode cX8_years 51 = .ok (.bipush 10, 2) := by decide +kernel
theorem dX8_years_53 : decode cX8_years 53 = .ok (.if_icmp .le 8, 3) := by decide +kernel
theorem dX8_years_56 : decode cX8_years 56 = .ok (.bipush (-6), 2) := by decide +kernel
theorem dX8_years_58 : decode cX8_years 58 = .ok (.goto 4, 3) := by decide +kernel
theorem dX8_years_61 : decode cX8_years 61 = .ok (.iconst 0, 1) := by decide +kernel
theorem dX8_years_62 : decode cX8_years 62 = .ok (.istore 5, 2) := by decide +kernel
theorem dX8_years_64 : decode cX8_years 64 = .ok (.iload 5, 2) := by decide +kernel
theorem dX8_years_66 : decode cX8_years 66 = .ok (.ifCond .eq 10, 3) := by decide +kernel
theorem dX8_years_69 : decode cX8_years 69 = .ok (.aload_n 0, 1) := by decide +kernel
theorem dX8_years_70 : decode cX8_years 70 = .ok (.iload 5, 2) := by decide +kernel
theorem dX8_years_72 : decode cX8_years 72 = .ok (.invokevirtual 216, 3) := by decide +kernel
theorem dX8_years_75 : decode cX8_years 75 = .ok (.lreturn, 1) := by decide +kernel
theorem dX8_years_76 : decode cX8_years 76 = .ok (.aload_n 0, 1) := by decide +kernel
theorem dX8_years_77 : decode cX8_years 77 = .ok (.iload_n 1, 1) := by decide +kernel
theorem dX8_years_78 : decode cX8_years 78 = .ok (.invokevirtual 212, 3) := by decide +kernel
theorem dX8_years_81 : decode cX8_years 81 = .ok (.aload_n 0, 1) := by decide +kernel
theorem dX8_years_82 : decode cX8_years 82 = .ok (.iload_n 3, 1) := by decide +kernel
theorem dX8_years_83 : decode cX8_years 83 = .ok (.iconst 0, 1) := by decide +kernel
theorem dX8_years_84 : decode cX8_years 84 = .ok (.invokevirtual 263, 3) := by decide +kernel
theorem dX8_years_87 : decode cX8_years 87 = .ok (.iload 4, 2) := by decide +kernel
theorem dX8_years_89 : decode cX8_years 89 = .ok (.ifCond .ne 13, 3) := by decide +kernel
theorem dX8_years_92 : decode cX8_years 92 = .ok (.aload_n 0, 1) := by decide +kernel
theorem dX8_years_93 : decode cX8_years 93 = .ok (.iload_n 2, 1) := by decide +kernel
theorem dX8_years_94 : decode cX8_years 94 = .ok (.iload_n 3, 1) := by decide +kernel
theorem dX8_years_95 : decode cX8_years 95 = .ok (.invokevirtual 267, 3) := by decide +kernel
theorem dX8_years_98 : decode cX8_years 98 = .ok (.i2l, 1) := by decide +kernel
theorem dX8_years_99 : decode cX8_years 99 = .ok (.goto 9, 3) := by decide +kernel
theorem dX8_years_102 : decode cX8_years 102 = .ok (.aload_n 0, 1) := by decide +kernel
theorem dX8_years_103 : decode cX8_years 103 = .ok (.getfield 58, 3) := by decide +kernel
theorem dX8_years_106 : decode cX8_years 106 = .ok (.iload_n 2, 1) := by decide +kernel
theorem dX8_years_107 : decode cX8_years 107 = .ok (.laload, 1) := by decide +kernel
theorem dX8_years_108 : decode cX8_years 108 = .ok (.lreturn, 1) := by decide +kernel
theorem dX8_leaving_0 : decode cX8_leaving 0 = .ok (.aload_n 0, 1) := by decide +kernel
theorem dX8_leaving_1 : decode cX8_leaving 1 = .ok (.iload_n 1, 1) := by decide +kernel
theorem dX8_leaving_2 : decode cX8_leaving 2 = .ok (.invokevirtual 155, 3) := by decide +kernel
theorem dX8_leaving_5 : decode cX8_leaving 5 = .ok (.ifCond .ne 9, 3) := by decide +kernel
theorem dX8_leaving_8 : decode cX8_leaving 8 = .ok (.aload_n 0, 1) := by decide +kernel
theorem dX8_leaving_9 : decode cX8_leaving 9 = .ok (.iconst (-1), 1) := by decide +kernel
theorem dX8_leaving_10 : decode cX8_leaving 10 = .ok (.invokevirtual 92, 3) := by decide +kernel
theorem dX8_leaving_13 : decode cX8_leaving 13 = .ok (.ireturn, 1) := by decide +kernel
theorem dX8_leaving_14 : decode cX8_leaving 14 = .ok (.iload_n 2, 1) := by decide +kernel
theorem dX8_leaving_15 : decode cX8_leaving 15 = .ok (.iconst 1, 1) := by decide +kernel
theorem dX8_leaving_16 : decode cX8_leaving 16 = .ok (.bipush 10, 2) := by decide +kernel
theorem dX8_leaving_18 : decode cX8_leaving 18 = .ok (.invokestatic 85, 3) := by decide +kernel
theorem dX8_leaving_21 : decode cX8_leaving 21 = .ok (.istore_n 3, 1) := by decide +kernel
theorem dX8_leaving_22 : decode cX8_leaving 22 = .ok (.iload_n 3, 1) := by decide +kernel
theorem dX8_leaving_23 : decode cX8_leaving 23 = .ok (.ifCond .eq 9, 3) := by decide +kernel
theorem dX8_leaving_26 : decode cX8_leaving 26 = .ok (.aload_n 0, 1) := by decide +kernel
theorem dX8_leaving_27 : decode cX8_leaving 27 = .ok (.iload_n 3, 1) := by decide +kernel
theorem dX8_leaving_28 : decode cX8_leaving 28 = .ok (.invokevirtual 92, 3) := by decide +kernel
theorem dX8_leaving_31 : decode cX8_leaving 31 = .ok (.ireturn, 1) := by decide +kernel
theorem dX8_leaving_32 : decode cX8_leaving 32 = .ok (.aload_n 0, 1) := by decide +kernel
theorem dX8_leaving_33 : decode cX8_leaving 33 = .ok (.iload_n 1, 1) := by decide +kernel
theorem dX8_leaving_34 : decode cX8_leaving 34 = .ok (.invokevirtual 212, 3) := by decide +kernel
theorem dX8_leaving_37 : decode cX8_leaving 37 = .ok (.iconst 0, 1) := by decide +kernel
theorem dX8_leaving_38 : decode cX8_leaving 38 = .ok (.istore 4, 2) := by decide +kernel
theorem dX8_leaving_40 : decode cX8_leaving 40 = .ok (.iload 4, 2) := by decide +kernel
theorem dX8_leaving_42 : decode cX8_leaving 42 = .ok (.bipush 100, 2) := by decide +kernel
theorem dX8_leaving_44 : decode cX8_leaving 44 = .ok (.if_icmp .ge 35, 3) := by decide +kernel
theorem dX8_leaving_47 : decode cX8_leaving 47 = .ok (.aload_n 0, 1) := by decide +kernel
theorem dX8_leaving_48 : decode cX8_leaving 48 = .ok (.iload_n 2, 1) := by decide +kernel
theorem dX8_leaving_49 : decode cX8_leaving 49 = .ok (.iload 4, 2) := by decide +kernel
theorem dX8_leaving_51 : decode cX8_leaving 51 = .ok (.invokevirtual 263, 3) := by decide +kernel
theorem dX8_leaving_54 : decode cX8_leaving 54 = .ok (.aload_n 0, 1) := by decide +kernel
theorem dX8_leaving_55 : decode cX8_leaving 55 = .ok (.iconst 0, 1) := by decide +kernel
theorem dX8_leaving_56 : decode cX8_leaving 56 = .ok (.iload_n 2, 1) := by decide +kernel
theorem dX8_leaving_57 : decode cX8_leaving 57 = .ok (.invokevirtual 267, 3) := by decide +kernel
theorem dX8_leaving_60 : decode cX8_leaving 60 = .ok (.iload_n 2, 1) := by decide +kernel
theorem dX8_leaving_61 : decode cX8_leaving 61 = .ok (.iconst 1, 1) := by decide +kernel
theorem dX8_leaving_62 : decode cX8_leaving 62 = .ok (.isub, 1) := by decide +kernel
theorem dX8_leaving_63 : decode cX8_leaving 63 = .ok (.ishr, 1) := by decide +kernel
theorem dX8_leaving_64 : decode cX8_leaving 64 = .ok (.iconst 1, 1) := by decide +kernel
theorem dX8_leaving_65 : decode cX8_leaving 65 = .ok (.iand, 1) := by decide +kernel
theorem dX8_leaving_66 : decode cX8_leaving 66 = .ok (.iconst 1, 1) := by decide +kernel
theorem dX8_leaving_67 : decode cX8_leaving 67 = .ok (.if_icmp .ne 6, 3) := by decide +kernel
theorem dX8_leaving_70 : decode cX8_leaving 70 = .ok (.iload 4, 2) := by decide +kernel
theorem dX8_leaving_72 : decode cX8_leaving 72 = .ok (.ireturn, 1) := by decide +kernel
theorem dX8_leaving_73 : decode cX8_leaving 73 = .ok (.iinc 4 1, 3) := by decide +kernel
theorem dX8_leaving_76 : decode cX8_leaving 76 = .ok (.goto (-36), 3) := by decide +kernel
theorem dX8_leaving_79 : decode cX8_leaving 79 = .ok (.bipush (-9), 2) := by decide +kernel
theorem dX8_leaving_81 : decode cX8_leaving 81 = .ok (.ireturn, 1) := by decide +kernel
theorem dX8_worthGood_0 : decode cX8_worthGood 0 = .ok (.aload_n 0, 1) := by decide +kernel
theorem dX8_worthGood_1 : decode cX8_worthGood 1 = .ok (.iload_n 1, 1) := by decide +kernel
theorem dX8_worthGood_2 : decode cX8_worthGood 2 = .ok (.invokevirtual 212, 3) := by decide +kernel
theorem dX8_worthGood_5 : decode cX8_worthGood 5 = .ok (.aload_n 0, 1) := by decide +kernel
theorem dX8_worthGood_6 : decode cX8_worthGood 6 = .ok (.iload_n 2, 1) := by decide +kernel
theorem dX8_worthGood_7 : decode cX8_worthGood 7 = .ok (.putfield 182, 3) := by decide +kernel
theorem dX8_worthGood_10 : decode cX8_worthGood 10 = .ok (.aload_n 0, 1) := by decide +kernel
theorem dX8_worthGood_11 : decode cX8_worthGood 11 = .ok (.iconst 0, 1) := by decide +kernel
theorem dX8_worthGood_12 : decode cX8_worthGood 12 = .ok (.aload_n 0, 1) := by decide +kernel
theorem dX8_worthGood_13 : decode cX8_worthGood 13 = .ok (.iconst 0, 1) := by decide +kernel
theorem dX8_worthGood_14 : decode cX8_worthGood 14 = .ok (.invokevirtual 206, 3) := by decide +kernel
theorem dX8_worthGood_17 : decode cX8_worthGood 17 = .ok (.iconst 0, 1) := by decide +kernel
theorem dX8_worthGood_18 : decode cX8_worthGood 18 = .ok (.invokevirtual 202, 3) := by decide +kernel
theorem dX8_worthGood_21 : decode cX8_worthGood 21 = .ok (.lreturn, 1) := by decide +kernel
theorem dX8_offered_0 : decode cX8_offered 0 = .ok (.aload_n 0, 1) := by decide +kernel
theorem dX8_offered_1 : decode cX8_offered 1 = .ok (.iload_n 1, 1) := by decide +kernel
theorem dX8_offered_2 : decode cX8_offered 2 = .ok (.iload_n 3, 1) := by decide +kernel
theorem dX8_offered_3 : decode cX8_offered 3 = .ok (.invokevirtual 270, 3) := by decide +kernel
theorem dX8_offered_6 : decode cX8_offered 6 = .ok (.lstore 4, 2) := by decide +kernel
theorem dX8_offered_8 : decode cX8_offered 8 = .ok (.aload_n 0, 1) := by decide +kernel
theorem dX8_offered_9 : decode cX8_offered 9 = .ok (.iload_n 2, 1) := by decide +kernel
theorem dX8_offered_10 : decode cX8_offered 10 = .ok (.iload_n 3, 1) := by decide +kernel
theorem dX8_offered_11 : decode cX8_offered 11 = .ok (.invokevirtual 270, 3) := by decide +kernel
theorem dX8_offered_14 : decode cX8_offered 14 = .ok (.lstore 6, 2) := by decide +kernel
theorem dX8_offered_16 : decode cX8_offered 16 = .ok (.lload 6, 2) := by decide +kernel
theorem dX8_offered_18 : decode cX8_offered 18 = .ok (.lload 4, 2) := by decide +kernel
theorem dX8_offered_20 : decode cX8_offered 20 = .ok (.lcmp, 1) := by decide +kernel
theorem dX8_offered_21 : decode cX8_offered 21 = .ok (.ifCond .le 8, 3) := by decide +kernel
theorem dX8_offered_24 : decode cX8_offered 24 = .ok (.lload 6, 2) := by decide +kernel
theorem dX8_offered_26 : decode cX8_offered 26 = .ok (.goto 5, 3) := by decide +kernel
theorem dX8_offered_29 : decode cX8_offered 29 = .ok (.lload 4, 2) := by decide +kernel
theorem dX8_offered_31 : decode cX8_offered 31 = .ok (.ldc2_w 197, 3) := by decide +kernel
theorem dX8_offered_34 : decode cX8_offered 34 = .ok (.aload_n 0, 1) := by decide +kernel
theorem dX8_offered_35 : decode cX8_offered 35 = .ok (.getfield 13, 3) := by decide +kernel
theorem dX8_offered_38 : decode cX8_offered 38 = .ok (.iconst 1, 1) := by decide +kernel
theorem dX8_offered_39 : decode cX8_offered 39 = .ok (.iaload, 1) := by decide +kernel
theorem dX8_offered_40 : decode cX8_offered 40 = .ok (.i2l, 1) := by decide +kernel
theorem dX8_offered_41 : decode cX8_offered 41 = .ok (.lmul, 1) := by decide +kernel
theorem dX8_offered_42 : decode cX8_offered 42 = .ok (.lcmp, 1) := by decide +kernel
theorem dX8_offered_43 : decode cX8_offered 43 = .ok (.ifCond .ge 8, 3) := by decide +kernel
theorem dX8_offered_46 : decode cX8_offered 46 = .ok (.bipush (-9), 2) := by decide +kernel
theorem dX8_offered_48 : decode cX8_offered 48 = .ok (.goto 16, 3) := by decide +kernel
theorem dX8_offered_51 : decode cX8_offered 51 = .ok (.lload 6, 2) := by decide +kernel
theorem dX8_offered_53 : decode cX8_offered 53 = .ok (.lload 4, 2) := by decide +kernel
theorem dX8_offered_55 : decode cX8_offered 55 = .ok (.lcmp, 1) := by decide +kernel
theorem dX8_offered_56 : decode cX8_offered 56 = .ok (.ifCond .le 7, 3) := by decide +kernel
theorem dX8_offered_59 : decode cX8_offered 59 = .ok (.iconst 1, 1) := by decide +kernel
theorem dX8_offered_60 : decode cX8_offered 60 = .ok (.goto 4, 3) := by decide +kernel
theorem dX8_offered_63 : decode cX8_offered 63 = .ok (.iconst 0, 1) := by decide +kernel
theorem dX8_offered_64 : decode cX8_offered 64 = .ok (.ireturn, 1) := by decide +kernel
theorem dX8_offer_0 : decode cX8_offer 0 = .ok (.aload_n 0, 1) := by decide +kernel
theorem dX8_offer_1 : decode cX8_offer 1 = .ok (.iload_n 1, 1) := by decide +kernel
theorem dX8_offer_2 : decode cX8_offer 2 = .ok (.invokevirtual 155, 3) := by decide +kernel
theorem dX8_offer_5 : decode cX8_offer 5 = .ok (.ifCond .eq 31, 3) := by decide +kernel
theorem dX8_offer_8 : decode cX8_offer 8 = .ok (.aload_n 0, 1) := by decide +kernel
theorem dX8_offer_9 : decode cX8_offer 9 = .ok (.iload_n 2, 1) := by decide +kernel
theorem dX8_offer_10 : decode cX8_offer 10 = .ok (.invokevirtual 155, 3) := by decide +kernel
theorem dX8_offer_13 : decode cX8_offer 13 = .ok (.ifCond .eq 23, 3) := by decide +kernel
theorem dX8_offer_16 : decode cX8_offer 16 = .ok (.iload_n 3, 1) := by decide +kernel
theorem dX8_offer_17 : decode cX8_offer 17 = .ok (.iconst 0, 1) := by decide +kernel
theorem dX8_offer_18 : decode cX8_offer 18 = .ok (.bipush 9, 2) := by decide +kernel
theorem dX8_offer_20 : decode cX8_offer 20 = .ok (.invokestatic 104, 3) := by decide +kernel
theorem dX8_offer_23 : decode cX8_offer 23 = .ok (.ifCond .eq 13, 3) := by decide +kernel
theorem dX8_offer_26 : decode cX8_offer 26 = .ok (.aload_n 0, 1) := by decide +kernel
theorem dX8_offer_27 : decode cX8_offer 27 = .ok (.iload_n 1, 1) := by decide +kernel
theorem dX8_offer_28 : decode cX8_offer 28 = .ok (.iload_n 2, 1) := by decide +kernel
theorem dX8_offer_29 : decode cX8_offer 29 = .ok (.iload_n 3, 1) := by decide +kernel
theorem dX8_offer_30 : decode cX8_offer 30 = .ok (.invokevirtual 273, 3) := by decide +kernel
theorem dX8_offer_33 : decode cX8_offer 33 = .ok (.goto 8, 3) := by decide +kernel
theorem dX8_offer_36 : decode cX8_offer 36 = .ok (.aload_n 0, 1) := by decide +kernel
theorem dX8_offer_37 : decode cX8_offer 37 = .ok (.iconst (-1), 1) := by decide +kernel
theorem dX8_offer_38 : decode cX8_offer 38 = .ok (.invokevirtual 92, 3) := by decide +kernel
theorem dX8_offer_41 : decode cX8_offer 41 = .ok (.ireturn, 1) := by decide +kernel
theorem dX8_parts_0 : decode cX8_parts 0 = .ok (.aload_n 0, 1) := by decide +kernel
theorem dX8_parts_1 : decode cX8_parts 1 = .ok (.iload_n 1, 1) := by decide +kernel
theorem dX8_parts_2 : decode cX8_parts 2 = .ok (.invokevirtual 155, 3) := by decide +kernel
theorem dX8_parts_5 : decode cX8_parts 5 = .ok (.ifCond .eq 21, 3) := by decide +kernel
theorem dX8_parts_8 : decode cX8_parts 8 = .ok (.aload_n 0, 1) := by decide +kernel
theorem dX8_parts_9 : decode cX8_parts 9 = .ok (.iload_n 2, 1) := by decide +kernel
theorem dX8_parts_10 : decode cX8_parts 10 = .ok (.invokevirtual 155, 3) := by decide +kernel
theorem dX8_parts_13 : decode cX8_parts 13 = .ok (.ifCond .eq 13, 3) := by decide +kernel
theorem dX8_parts_16 : decode cX8_parts 16 = .ok (.iload_n 3, 1) := by decide +kernel
theorem dX8_parts_17 : decode cX8_parts 17 = .ok (.iconst 1, 1) := by decide +kernel
theorem dX8_parts_18 : decode cX8_parts 18 = .ok (.bipush 9, 2) := by decide +kernel
theorem dX8_parts_20 : decode cX8_parts 20 = .ok (.invokestatic 104, 3) := by decide +kernel
theorem dX8_parts_23 : decode cX8_parts 23 = .ok (.ifCond .ne 9, 3) := by decide +kernel
theorem dX8_parts_26 : decode cX8_parts 26 = .ok (.aload_n 0, 1) := by decide +kernel
theorem dX8_parts_27 : decode cX8_parts 27 = .ok (.iconst (-1), 1) := by decide +kernel
theorem dX8_parts_28 : decode cX8_parts 28 = .ok (.invokevirtual 92, 3) := by decide +kernel
theorem dX8_parts_31 : decode cX8_parts 31 = .ok (.ireturn, 1) := by decide +kernel
theorem dX8_parts_32 : decode cX8_parts 32 = .ok (.aload_n 0, 1) := by decide +kernel
theorem dX8_parts_33 : decode cX8_parts 33 = .ok (.iload_n 1, 1) := by decide +kernel
theorem dX8_parts_34 : decode cX8_parts 34 = .ok (.iload_n 2, 1) := by decide +kernel
theorem dX8_parts_35 : decode cX8_parts 35 = .ok (.iconst 0, 1) := by decide +kernel
theorem dX8_parts_36 : decode cX8_parts 36 = .ok (.invokevirtual 273, 3) := by decide +kernel
theorem dX8_parts_39 : decode cX8_parts 39 = .ok (.aload_n 0, 1) := by decide +kernel
theorem dX8_parts_40 : decode cX8_parts 40 = .ok (.iload_n 1, 1) := by decide +kernel
theorem dX8_parts_41 : decode cX8_parts 41 = .ok (.iload_n 2, 1) := by decide +kernel
theorem dX8_parts_42 : decode cX8_parts 42 = .ok (.iload_n 3, 1) := by decide +kernel
theorem dX8_parts_43 : decode cX8_parts 43 = .ok (.invokevirtual 273, 3) := by decide +kernel
theorem dX8_parts_46 : decode cX8_parts 46 = .ok (.if_icmp .eq 7, 3) := by decide +kernel
theorem dX8_parts_49 : decode cX8_parts 49 = .ok (.iconst 1, 1) := by decide +kernel
theorem dX8_parts_50 : decode cX8_parts 50 = .ok (.goto 4, 3) := by decide +kernel
theorem dX8_parts_53 : decode cX8_parts 53 = .ok (.iconst 0, 1) := by decide +kernel
theorem dX8_parts_54 : decode cX8_parts 54 = .ok (.ireturn, 1) := by decide +kernel
theorem dX8_own_0 : decode cX8_own 0 = .ok (.aload_n 0, 1) := by decide +kernel
theorem dX8_own_1 : decode cX8_own 1 = .ok (.iload_n 1, 1) := by decide +kernel
theorem dX8_own_2 : decode cX8_own 2 = .ok (.invokevirtual 155, 3) := by decide +kernel
theorem dX8_own_5 : decode cX8_own 5 = .ok (.ifCond .ne 9, 3) := by decide +kernel
theorem dX8_own_8 : decode cX8_own 8 = .ok (.aload_n 0, 1) := by decide +kernel
theorem dX8_own_9 : decode cX8_own 9 = .ok (.iconst (-1), 1) := by decide +kernel
theorem dX8_own_10 : decode cX8_own 10 = .ok (.invokevirtual 92, 3) := by decide +kernel
theorem dX8_own_13 : decode cX8_own 13 = .ok (.ireturn, 1) := by decide +kernel
theorem dX8_own_14 : decode cX8_own 14 = .ok (.iload_n 2, 1) := by decide +kernel
theorem dX8_own_15 : decode cX8_own 15 = .ok (.iconst 0, 1) := by decide +kernel
theorem dX8_own_16 : decode cX8_own 16 = .ok (.bipush 99, 2) := by decide +kernel
theorem dX8_own_18 : decode cX8_own 18 = .ok (.invokestatic 85, 3) := by decide +kernel
theorem dX8_own_21 : decode cX8_own 21 = .ok (.istore_n 3, 1) := by decide +kernel
theorem dX8_own_22 : decode cX8_own 22 = .ok (.iload_n 3, 1) := by decide +kernel
theorem dX8_own_23 : decode cX8_own 23 = .ok (.ifCond .eq 9, 3) := by decide +kernel
theorem dX8_own_26 : decode cX8_own 26 = .ok (.aload_n 0, 1) := by decide +kernel
theorem dX8_own_27 : decode cX8_own 27 = .ok (.iload_n 3, 1) := by decide +kernel
theorem dX8_own_28 : decode cX8_own 28 = .ok (.invokevirtual 92, 3) := by decide +kernel
theorem dX8_own_31 : decode cX8_own 31 = .ok (.ireturn, 1) := by decide +kernel
theorem dX8_own_32 : decode cX8_own 32 = .ok (.aload_n 0, 1) := by decide +kernel
theorem dX8_own_33 : decode cX8_own 33 = .ok (.iload_n 1, 1) := by decide +kernel
theorem dX8_own_34 : decode cX8_own 34 = .ok (.invokevirtual 212, 3) := by decide +kernel
theorem dX8_own_37 : decode cX8_own 37 = .ok (.bipush (-9), 2) := by decide +kernel
theorem dX8_own_39 : decode cX8_own 39 = .ok (.istore 4, 2) := by decide +kernel
theorem dX8_own_41 : decode cX8_own 41 = .ok (.lconst 0, 1) := by decide +kernel
theorem dX8_own_42 : decode cX8_own 42 = .ok (.lstore 5, 2) := by decide +kernel
theorem dX8_own_44 : decode cX8_own 44 = .ok (.iconst 0, 1) := by decide +kernel
theorem dX8_own_45 : decode cX8_own 45 = .ok (.istore 7, 2) := by decide +kernel
theorem dX8_own_47 : decode cX8_own 47 = .ok (.iload 7, 2) := by decide +kernel
theorem dX8_own_49 : decode cX8_own 49 = .ok (.aload_n 0, 1) := by decide +kernel
theorem dX8_own_50 : decode cX8_own 50 = .ok (.getfield 125, 3) := by decide +kernel
theorem dX8_own_53 : decode cX8_own 53 = .ok (.if_icmp .gt 132, 3) := by decide +kernel
theorem dX8_own_56 : decode cX8_own 56 = .ok (.iconst 0, 1) := by decide +kernel
theorem dX8_own_57 : decode cX8_own 57 = .ok (.istore 8, 2) := by decide +kernel
theorem dX8_own_59 : decode cX8_own 59 = .ok (.iload 7, 2) := by decide +kernel
theorem dX8_own_61 : decode cX8_own 61 = .ok (.iload 8, 2) := by decide +kernel
theorem dX8_own_63 : decode cX8_own 63 = .ok (.iadd, 1) := by decide +kernel
theorem dX8_own_64 : decode cX8_own 64 = .ok (.aload_n 0, 1) := by decide +kernel
theorem dX8_own_65 : decode cX8_own 65 = .ok (.getfield 125, 3) := by decide +kernel
theorem dX8_own_68 : decode cX8_own 68 = .ok (.if_icmp .gt 111, 3) := by decide +kernel
theorem dX8_own_71 : decode cX8_own 71 = .ok (.ldc2_w 276, 3) := by decide +kernel
theorem dX8_own_74 : decode cX8_own 74 = .ok (.aload_n 0, 1) := by decide +kernel
theorem dX8_own_75 : decode cX8_own 75 = .ok (.iload 7, 2) := by decide +kernel
theorem dX8_own_77 : decode cX8_own 77 = .ok (.iload 8, 2) := by decide +kernel
theorem dX8_own_79 : decode cX8_own 79 = .ok (.iadd, 1) := by decide +kernel
theorem dX8_own_80 : decode cX8_own 80 = .ok (.invokevirtual 199, 3) := by decide +kernel
theorem dX8_own_83 : decode cX8_own 83 = .ok (.i2l, 1) := by decide +kernel
theorem dX8_own_84 : decode cX8_own 84 = .ok (.lmul, 1) := by decide +kernel
theorem dX8_own_85 : decode cX8_own 85 = .ok (.lstore 9, 2) := by decide +kernel
theorem dX8_own_87 : decode cX8_own 87 = .ok (.iconst 0, 1) := by decide +kernel
theorem dX8_own_88 : decode cX8_own 88 = .ok (.istore 11, 2) := by decide +kernel
theorem dX8_own_90 : decode cX8_own 90 = .ok (.iload 11, 2) := by decide +kernel
theorem dX8_own_92 : decode cX8_own 92 = .ok (.aload_n 0, 1) := by decide +kernel
theorem dX8_own_93 : decode cX8_own 93 = .ok (.invokevirtual 158, 3) := by decide +kernel
theorem dX8_own_96 : decode cX8_own 96 = .ok (.if_icmp .ge 47, 3) := by decide +kernel
theorem dX8_own_99 : decode cX8_own 99 = .ok (.lload 9, 2) := by decide +kernel
theorem dX8_own_101 : decode cX8_own 101 = .ok (.aload_n 0, 1) := by decide +kernel
theorem dX8_own_102 : decode cX8_own 102 = .ok (.iload 11, 2) := by decide +kernel
theorem dX8_own_104 : decode cX8_own 104 = .ok (.invokevirtual 161, 3) := by decide +kernel
theorem dX8_own_107 : decode cX8_own 107 = .ok (.i2l, 1) := by decide +kernel
theorem dX8_own_108 : decode cX8_own 108 = .ok (.aload_n 0, 1) := by decide +kernel
theorem dX8_own_109 : decode cX8_own 109 = .ok (.iconst 0, 1) := by decide +kernel
theorem dX8_own_110 : decode cX8_own 110 = .ok (.aload_n 0, 1) := by decide +kernel
theorem dX8_own_111 : decode cX8_own 111 = .ok (.iconst 0, 1) := by decide +kernel
theorem dX8_own_112 : decode cX8_own 112 = .ok (.aload_n 0, 1) := by decide +kernel
theorem dX8_own_113 : decode cX8_own 113 = .ok (.iload 7, 2) := by decide +kernel
theorem dX8_own_115 : decode cX8_own 115 = .ok (.iload 11, 2) := by decide +kernel
theorem dX8_own_117 : decode cX8_own 117 = .ok (.invokevirtual 188, 3) := by decide +kernel
theorem dX8_own_120 : decode cX8_own 120 = .ok (.iconst 0, 1) := by decide +kernel
theorem dX8_own_121 : decode cX8_own 121 = .ok (.invokevirtual 191, 3) := by decide +kernel
theorem dX8_own_124 : decode cX8_own 124 = .ok (.iload_n 2, 1) := by decide +kernel
theorem dX8_own_125 : decode cX8_own 125 = .ok (.iload 8, 2) := by decide +kernel
theorem dX8_own_127 : decode cX8_own 127 = .ok (.imul, 1) := by decide +kernel
theorem dX8_own_128 : decode cX8_own 128 = .ok (.iadd, 1) := by decide +kernel
theorem dX8_own_129 : decode cX8_own 129 = .ok (.invokevirtual 194, 3) := by decide +kernel
theorem dX8_own_132 : decode cX8_own 132 = .ok (.i2l, 1) := by decide +kernel
theorem dX8_own_133 : decode cX8_own 133 = .ok (.lmul, 1) := by decide +kernel
theorem dX8_own_134 : decode cX8_own 134 = .ok (.ladd, 1) := by decide +kernel
theorem dX8_own_135 : decode cX8_own 135 = .ok (.lstore 9, 2) := by decide +kernel
theorem dX8_own_137 : decode cX8_own 137 = .ok (.iinc 11 1, 3) := by decide +kernel
theorem dX8_own_140 : decode cX8_own 140 = .ok (.goto (-50), 3) := by decide +kernel
theorem dX8_own_143 : decode cX8_own 143 = .ok (.iload 4, 2) := by decide +kernel
theorem dX8_own_145 : decode cX8_own 145 = .ok (.ifCond .lt 14, 3) := by decide +kernel
theorem dX8_own_148 : decode cX8_own 148 = .ok (.lload 9, 2) := by decide +kernel
theorem dX8_own_150 : decode cX8_own 150 = .ok (.lload 5, 2) := by decide +kernel
theorem dX8_own_152 : decode cX8_own 152 = .ok (.lcmp, 1) := by decide +kernel
theorem dX8_own_153 : decode cX8_own 153 = .ok (.ifCond .gt 6, 3) := by decide +kernel
theorem dX8_own_156 : decode cX8_own 156 = .ok (.goto 17, 3) := by decide +kernel
theorem dX8_own_159 : decode cX8_own 159 = .ok (.bipush 10, 2) := by decide +kernel
theorem dX8_own_161 : decode cX8_own 161 = .ok (.iload 7, 2) := by decide +kernel
theorem dX8_own_163 : decode cX8_own 163 = .ok (.imul, 1) := by decide +kernel
theorem dX8_own_164 : decode cX8_own 164 = .ok (.iload 8, 2) := by decide +kernel
theorem dX8_own_166 : decode cX8_own 166 = .ok (.iadd, 1) := by decide +kernel
theorem dX8_own_167 : decode cX8_own 167 = .ok (.istore 4, 2) := by decide +kernel
theorem dX8_own_169 : decode cX8_own 169 = .ok (.lload 9, 2) := by decide +kernel
theorem dX8_own_171 : decode cX8_own 171 = .ok (.lstore 5, 2) := by decide +kernel
theorem dX8_own_173 : decode cX8_own 173 = .ok (.iinc 8 1, 3) := by decide +kernel
theorem dX8_own_176 : decode cX8_own 176 = .ok (.goto (-117), 3) := by decide +kernel
theorem dX8_own_179 : decode cX8_own 179 = .ok (.iinc 7 1, 3) := by decide +kernel
theorem dX8_own_182 : decode cX8_own 182 = .ok (.goto (-135), 3) := by decide +kernel
theorem dX8_own_185 : decode cX8_own 185 = .ok (.iload 4, 2) := by decide +kernel
theorem dX8_own_187 : decode cX8_own 187 = .ok (.ireturn, 1) := by decide +kernel
theorem dX8_bears_0 : decode cX8_bears 0 = .ok (.aload_n 0, 1) := by decide +kernel
theorem dX8_bears_1 : decode cX8_bears 1 = .ok (.iload_n 1, 1) := by decide +kernel
theorem dX8_bears_2 : decode cX8_bears 2 = .ok (.invokevirtual 155, 3) := by decide +kernel
theorem dX8_bears_5 : decode cX8_bears 5 = .ok (.ifCond .ne 9, 3) := by decide +kernel
theorem dX8_bears_8 : decode cX8_bears 8 = .ok (.aload_n 0, 1) := by decide +kernel
theorem dX8_bears_9 : decode cX8_bears 9 = .ok (.iconst (-1), 1) := by decide +kernel
theorem dX8_bears_10 : decode cX8_bears 10 = .ok (.invokevirtual 216, 3) := by decide +kernel
theorem dX8_bears_13 : decode cX8_bears 13 = .ok (.lreturn, 1) := by decide +kernel
theorem dX8_bears_14 : decode cX8_bears 14 = .ok (.iload_n 2, 1) := by decide +kernel
theorem dX8_bears_15 : decode cX8_bears 15 = .ok (.iconst 0, 1) := by decide +kernel
theorem dX8_bears_16 : decode cX8_bears 16 = .ok (.bipush 50, 2) := by decide +kernel
theorem dX8_bears_18 : decode cX8_bears 18 = .ok (.invokestatic 85, 3) := by decide +kernel
theorem dX8_bears_21 : decode cX8_bears 21 = .ok (.istore_n 3, 1) := by decide +kernel
theorem dX8_bears_22 : decode cX8_bears 22 = .ok (.iload_n 3, 1) := by decide +kernel
theorem dX8_bears_23 : decode cX8_bears 23 = .ok (.ifCond .eq 9, 3) := by decide +kernel
theorem dX8_bears_26 : decode cX8_bears 26 = .ok (.aload_n 0, 1) := by decide +kernel
theorem dX8_bears_27 : decode cX8_bears 27 = .ok (.iload_n 3, 1) := by decide +kernel
theorem dX8_bears_28 : decode cX8_bears 28 = .ok (.invokevirtual 216, 3) := by decide +kernel
theorem dX8_bears_31 : decode cX8_bears 31 = .ok (.lreturn, 1) := by decide +kernel
theorem dX8_bears_32 : decode cX8_bears 32 = .ok (.aload_n 0, 1) := by decide +kernel
theorem dX8_bears_33 : decode cX8_bears 33 = .ok (.iload_n 1, 1) := by decide +kernel
theorem dX8_bears_34 : decode cX8_bears 34 = .ok (.invokevirtual 212, 3) := by decide +kernel
theorem dX8_bears_37 : decode cX8_bears 37 = .ok (.aload_n 0, 1) := by decide +kernel
theorem dX8_bears_38 : decode cX8_bears 38 = .ok (.iconst 1, 1) := by decide +kernel
theorem dX8_bears_39 : decode cX8_bears 39 = .ok (.aload_n 0, 1) := by decide +kernel
theorem dX8_bears_40 : decode cX8_bears 40 = .ok (.iconst 0, 1) := by decide +kernel
theorem dX8_bears_41 : decode cX8_bears 41 = .ok (.invokevirtual 206, 3) := by decide +kernel
theorem dX8_bears_44 : decode cX8_bears 44 = .ok (.iconst 0, 1) := by decide +kernel
theorem dX8_bears_45 : decode cX8_bears 45 = .ok (.invokevirtual 202, 3) := by decide +kernel
theorem dX8_bears_48 : decode cX8_bears 48 = .ok (.lstore 4, 2) := by decide +kernel
theorem dX8_bears_50 : decode cX8_bears 50 = .ok (.iconst 0, 1) := by decide +kernel
theorem dX8_bears_51 : decode cX8_bears 51 = .ok (.istore 6, 2) := by decide +kernel
theorem dX8_bears_53 : decode cX8_bears 53 = .ok (.iload 6, 2) := by decide +kernel
theorem dX8_bears_55 : decode cX8_bears 55 = .ok (.aload_n 0, 1) := by decide +kernel
theorem dX8_bears_56 : decode cX8_bears 56 = .ok (.getfield 77, 3) := by decide +kernel
theorem dX8_bears_59 : decode cX8_bears 59 = .ok (.if_icmp .ge 45, 3) := by decide +kernel
theorem dX8_bears_62 : decode cX8_bears 62 = .ok (.aload_n 0, 1) := by decide +kernel
theorem dX8_bears_63 : decode cX8_bears 63 = .ok (.getfield 65, 3) := by decide +kernel
theorem dX8_bears_66 : decode cX8_bears 66 = .ok (.iload 6, 2) := by decide +kernel
theorem dX8_bears_68 : decode cX8_bears 68 = .ok (.aload_n 0, 1) := by decide +kernel
theorem dX8_bears_69 : decode cX8_bears 69 = .ok (.getfield 25, 3) := by decide +kernel
theorem dX8_bears_72 : decode cX8_bears 72 = .ok (.iload 6, 2) := by decide +kernel
theorem dX8_bears_74 : decode cX8_bears 74 = .ok (.iaload, 1) := by decide +kernel
theorem dX8_bears_75 : decode cX8_bears 75 = .ok (.iastore, 1) := by decide +kernel
theorem dX8_bears_76 : decode cX8_bears 76 = .ok (.aload_n 0, 1) := by decide +kernel
theorem dX8_bears_77 : decode cX8_bears 77 = .ok (.getfield 25, 3) := by decide +kernel
theorem dX8_bears_80 : decode cX8_bears 80 = .ok (.iload 6, 2) := by decide +kernel
theorem dX8_bears_82 : decode cX8_bears 82 = .ok (.aload_n 0, 1) := by decide +kernel
theorem dX8_bears_83 : decode cX8_bears 83 = .ok (.getfield 25, 3) := by decide +kernel
theorem dX8_bears_86 : decode cX8_bears 86 = .ok (.iload 6, 2) := by decide +kernel
theorem dX8_bears_88 : decode cX8_bears 88 = .ok (.iaload, 1) := by decide +kernel
theorem dX8_bears_89 : decode cX8_bears 89 = .ok (.bipush 100, 2) := by decide +kernel
theorem dX8_bears_91 : decode cX8_bears 91 = .ok (.iload_n 2, 1) := by decide +kernel
theorem dX8_bears_92 : decode cX8_bears 92 = .ok (.isub, 1) := by decide +kernel
theorem dX8_bears_93 : decode cX8_bears 93 = .ok (.imul, 1) := by decide +kernel
theorem dX8_bears_94 : decode cX8_bears 94 = .ok (.bipush 100, 2) := by decide +kernel
theorem dX8_bears_96 : decode cX8_bears 96 = .ok (.idiv, 1) := by decide +kernel
theorem dX8_bears_97 : decode cX8_bears 97 = .ok (.iastore, 1) := by decide +kernel
theorem dX8_bears_98 : decode cX8_bears 98 = .ok (.iinc 6 1, 3) := by decide +kernel
theorem dX8_bears_101 : decode cX8_bears 101 = .ok (.goto (-48), 3) := by decide +kernel
theorem dX8_bears_104 : decode cX8_bears 104 = .ok (.aload_n 0, 1) := by decide +kernel
theorem dX8_bears_105 : decode cX8_bears 105 = .ok (.getfield 25, 3) := by decide +kernel
theorem dX8_bears_108 : decode cX8_bears 108 = .ok (.aload_n 0, 1) := by decide +kernel
theorem dX8_bears_109 : decode cX8_bears 109 = .ok (.getfield 77, 3) := by decide +kernel
theorem dX8_bears_112 : decode cX8_bears 112 = .ok (.iload_n 2, 1) := by decide +kernel
theorem dX8_bears_113 : decode cX8_bears 113 = .ok (.iastore, 1) := by decide +kernel
theorem dX8_bears_114 : decode cX8_bears 114 = .ok (.aload_n 0, 1) := by decide +kernel
theorem dX8_bears_115 : decode cX8_bears 115 = .ok (.getfield 28, 3) := by decide +kernel
theorem dX8_bears_118 : decode cX8_bears 118 = .ok (.aload_n 0, 1) := by decide +kernel
theorem dX8_bears_119 : decode cX8_bears 119 = .ok (.getfield 77, 3) := by decide +kernel
theorem dX8_bears_122 : decode cX8_bears 122 = .ok (.iconst 0, 1) := by decide +kernel
theorem dX8_bears_123 : decode cX8_bears 123 = .ok (.iastore, 1) := by decide +kernel
theorem dX8_bears_124 : decode cX8_bears 124 = .ok (.aload_n 0, 1) := by decide +kernel
theorem dX8_bears_125 : decode cX8_bears 125 = .ok (.dup, 1) := by decide +kernel
theorem dX8_bears_126 : decode cX8_bears 126 = .ok (.getfield 77, 3) := by decide +kernel
theorem dX8_bears_129 : decode cX8_bears 129 = .ok (.iconst 1, 1) := by decide +kernel
theorem dX8_bears_130 : decode cX8_bears 130 = .ok (.iadd, 1) := by decide +kernel
theorem dX8_bears_131 : decode cX8_bears 131 = .ok (.putfield 77, 3) := by decide +kernel
theorem dX8_bears_134 : decode cX8_bears 134 = .ok (.aload_n 0, 1) := by decide +kernel
theorem dX8_bears_135 : decode cX8_bears 135 = .ok (.iconst 1, 1) := by decide +kernel
theorem dX8_bears_136 : decode cX8_bears 136 = .ok (.aload_n 0, 1) := by decide +kernel
theorem dX8_bears_137 : decode cX8_bears 137 = .ok (.iconst 0, 1) := by decide +kernel
theorem dX8_bears_138 : decode cX8_bears 138 = .ok (.invokevirtual 206, 3) := by decide +kernel
theorem dX8_bears_141 : decode cX8_bears 141 = .ok (.iconst 0, 1) := by decide +kernel
theorem dX8_bears_142 : decode cX8_bears 142 = .ok (.invokevirtual 202, 3) := by decide +kernel
theorem dX8_bears_145 : decode cX8_bears 145 = .ok (.lstore 6, 2) := by decide +kernel
theorem dX8_bears_147 : decode cX8_bears 147 = .ok (.aload_n 0, 1) := by decide +kernel
theorem dX8_bears_148 : decode cX8_bears 148 = .ok (.dup, 1) := by decide +kernel
theorem dX8_bears_149 : decode cX8_bears 149 = .ok (.getfield 77, 3) := by decide +kernel
theorem dX8_bears_152 : decode cX8_bears 152 = .ok (.iconst 1, 1) := by decide +kernel
theorem dX8_bears_153 : decode cX8_bears 153 = .ok (.isub, 1) := by decide +kernel
theorem dX8_bears_154 : decode cX8_bears 154 = .ok (.putfield 77, 3) := by decide +kernel
theorem dX8_bears_157 : decode cX8_bears 157 = .ok (.iconst 0, 1) := by decide +kernel
theorem dX8_bears_158 : decode cX8_bears 158 = .ok (.istore 8, 2) := by decide +kernel
theorem dX8_bears_160 : decode cX8_bears 160 = .ok (.iload 8, 2) := by decide +kernel
theorem dX8_bears_162 : decode cX8_bears 162 = .ok (.aload_n 0, 1) := by decide +kernel
theorem dX8_bears_163 : decode cX8_bears 163 = .ok (.getfield 77, 3) := by decide +kernel
theorem dX8_bears_166 : decode cX8_bears 166 = .ok (.if_icmp .ge 23, 3) := by decide +kernel
theorem dX8_bears_169 : decode cX8_bears 169 = .ok (.aload_n 0, 1) := by decide +kernel
theorem dX8_bears_170 : decode cX8_bears 170 = .ok (.getfield 25, 3) := by decide +kernel
theorem dX8_bears_173 : decode cX8_bears 173 = .ok (.iload 8, 2) := by decide +kernel
theorem dX8_bears_175 : decode cX8_bears 175 = .ok (.aload_n 0, 1) := by decide +kernel
theorem dX8_bears_176 : decode cX8_bears 176 = .ok (.getfield 65, 3) := by decide +kernel
theorem dX8_bears_179 : decode cX8_bears 179 = .ok (.iload 8, 2) := by decide +kernel
theorem dX8_bears_181 : decode cX8_bears 181 = .ok (.iaload, 1) := by decide +kernel
theorem dX8_bears_182 : decode cX8_bears 182 = .ok (.iastore, 1) := by decide +kernel
theorem dX8_bears_183 : decode cX8_bears 183 = .ok (.iinc 8 1, 3) := by decide +kernel
theorem dX8_bears_186 : decode cX8_bears 186 = .ok (.goto (-26), 3) := by decide +kernel
theorem dX8_bears_189 : decode cX8_bears 189 = .ok (.lload 4, 2) := by decide +kernel
theorem dX8_bears_191 : decode cX8_bears 191 = .ok (.lload 6, 2) := by decide +kernel
theorem dX8_bears_193 : decode cX8_bears 193 = .ok (.lsub, 1) := by decide +kernel
theorem dX8_bears_194 : decode cX8_bears 194 = .ok (.lreturn, 1) := by decide +kernel
theorem dX8_drawn_0 : decode cX8_drawn 0 = .ok (.aload_n 0, 1) := by decide +kernel
theorem dX8_drawn_1 : decode cX8_drawn 1 = .ok (.aload_n 0, 1) := by decide +kernel
theorem dX8_drawn_2 : decode cX8_drawn 2 = .ok (.getfield 278, 3) := by decide +kernel
theorem dX8_drawn_5 : decode cX8_drawn 5 = .ok (.ldc_w 281, 3) := by decide +kernel
theorem dX8_drawn_8 : decode cX8_drawn 8 = .ok (.imul, 1) := by decide +kernel
theorem dX8_drawn_9 : decode cX8_drawn 9 = .ok (.sipush 12345, 3) := by decide +kernel
theorem dX8_drawn_12 : decode cX8_drawn 12 = .ok (.iadd, 1) := by decide +kernel
theorem dX8_drawn_13 : decode cX8_drawn 13 = .ok (.putfield 278, 3) := by decide +kernel
theorem dX8_drawn_16 : decode cX8_drawn 16 = .ok (.aload_n 0, 1) := by decide +kernel
theorem dX8_drawn_17 : decode cX8_drawn 17 = .ok (.getfield 278, 3) := by decide +kernel
theorem dX8_drawn_20 : decode cX8_drawn 20 = .ok (.ldc_w 282, 3) := by decide +kernel
theorem dX8_drawn_23 : decode cX8_drawn 23 = .ok (.iand, 1) := by decide +kernel
theorem dX8_drawn_24 : decode cX8_drawn 24 = .ok (.ldc_w 283, 3) := by decide +kernel
theorem dX8_drawn_27 : decode cX8_drawn 27 = .ok (.idiv, 1) := by decide +kernel
theorem dX8_drawn_28 : decode cX8_drawn 28 = .ok (.bipush 100, 2) := by decide +kernel
theorem dX8_drawn_30 : decode cX8_drawn 30 = .ok (.irem, 1) := by decide +kernel
theorem dX8_drawn_31 : decode cX8_drawn 31 = .ok (.istore_n 1, 1) := by decide +kernel
theorem dX8_drawn_32 : decode cX8_drawn 32 = .ok (.iconst 0, 1) := by decide +kernel
theorem dX8_drawn_33 : decode cX8_drawn 33 = .ok (.istore_n 2, 1) := by decide +kernel
theorem dX8_drawn_34 : decode cX8_drawn 34 = .ok (.iload_n 1, 1) := by decide +kernel
theorem dX8_drawn_35 : decode cX8_drawn 35 = .ok (.aload_n 0, 1) := by decide +kernel
theorem dX8_drawn_36 : decode cX8_drawn 36 = .ok (.iload_n 2, 1) := by decide +kernel
theorem dX8_drawn_37 : decode cX8_drawn 37 = .ok (.invokevirtual 161, 3) := by decide +kernel
theorem dX8_drawn_40 : decode cX8_drawn 40 = .ok (.if_icmp .lt 17, 3) := by decide +kernel
theorem dX8_drawn_43 : decode cX8_drawn 43 = .ok (.iload_n 1, 1) := by decide +kernel
theorem dX8_drawn_44 : decode cX8_drawn 44 = .ok (.aload_n 0, 1) := by decide +kernel
theorem dX8_drawn_45 : decode cX8_drawn 45 = .ok (.iload_n 2, 1) := by decide +kernel
theorem dX8_drawn_46 : decode cX8_drawn 46 = .ok (.invokevirtual 161, 3) := by decide +kernel
theorem dX8_drawn_49 : decode cX8_drawn 49 = .ok (.isub, 1) := by decide +kernel
theorem dX8_drawn_50 : decode cX8_drawn 50 = .ok (.istore_n 1, 1) := by decide +kernel
theorem dX8_drawn_51 : decode cX8_drawn 51 = .ok (.iinc 2 1, 3) := by decide +kernel
theorem dX8_drawn_54 : decode cX8_drawn 54 = .ok (.goto (-20), 3) := by decide +kernel
theorem dX8_drawn_57 : decode cX8_drawn 57 = .ok (.iload_n 2, 1) := by decide +kernel
theorem dX8_drawn_58 : decode cX8_drawn 58 = .ok (.ireturn, 1) := by decide +kernel
theorem dX8_goesYears_0 : decode cX8_goesYears 0 = .ok (.aload_n 0, 1) := by decide +kernel
theorem dX8_goesYears_1 : decode cX8_goesYears 1 = .ok (.iload_n 2, 1) := by decide +kernel
theorem dX8_goesYears_2 : decode cX8_goesYears 2 = .ok (.putfield 278, 3) := by decide +kernel
theorem dX8_goesYears_5 : decode cX8_goesYears 5 = .ok (.aload_n 0, 1) := by decide +kernel
theorem dX8_goesYears_6 : decode cX8_goesYears 6 = .ok (.iconst 0, 1) := by decide +kernel
theorem dX8_goesYears_7 : decode cX8_goesYears 7 = .ok (.putfield 284, 3) := by decide +kernel
theorem dX8_goesYears_10 : decode cX8_goesYears 10 = .ok (.aload_n 0, 1) := by decide +kernel
theorem dX8_goesYears_11 : decode cX8_goesYears 11 = .ok (.bipush (-9), 2) := by decide +kernel
theorem dX8_goesYears_13 : decode cX8_goesYears 13 = .ok (.putfield 287, 3) := by decide +kernel
theorem dX8_goesYears_16 : decode cX8_goesYears 16 = .ok (.iconst 0, 1) := by decide +kernel
theorem dX8_goesYears_17 : decode cX8_goesYears 17 = .ok (.istore 6, 2) := by decide +kernel
theorem dX8_goesYears_19 : decode cX8_goesYears 19 = .ok (.iload 6, 2) := by decide +kernel
theorem dX8_goesYears_21 : decode cX8_goesYears 21 = .ok (.iload 5, 2) := by decide +kernel
theorem dX8_goesYears_23 : decode cX8_goesYears 23 = .ok (.if_icmp .ge 71, 3) := by decide +kernel
theorem dX8_goesYears_26 : decode cX8_goesYears 26 = .ok (.aload_n 0, 1) := by decide +kernel
theorem dX8_goesYears_27 : decode cX8_goesYears 27 = .ok (.dup, 1) := by decide +kernel
theorem dX8_goesYears_28 : decode cX8_goesYears 28 = .ok (.getfield 284, 3) := by decide +kernel
theorem dX8_goesYears_31 : decode cX8_goesYears 31 = .ok (.aload_n 0, 1) := by decide +kernel
theorem dX8_goesYears_32 : decode cX8_goesYears 32 = .ok (.iconst 0, 1) := by decide +kernel
theorem dX8_goesYears_33 : decode cX8_goesYears 33 = .ok (.aload_n 0, 1) := by decide +kernel
theorem dX8_goesYears_34 : decode cX8_goesYears 34 = .ok (.iload_n 1, 1) := by decide +kernel
theorem dX8_goesYears_35 : decode cX8_goesYears 35 = .ok (.aload_n 0, 1) := by decide +kernel
theorem dX8_goesYears_36 : decode cX8_goesYears 36 = .ok (.invokevirtual 290, 3) := by decide +kernel
theorem dX8_goesYears_39 : decode cX8_goesYears 39 = .ok (.invokevirtual 188, 3) := by decide +kernel
theorem dX8_goesYears_42 : decode cX8_goesYears 42 = .ok (.iload 6, 2) := by decide +kernel
theorem dX8_goesYears_44 : decode cX8_goesYears 44 = .ok (.bipush 9, 2) := by decide +kernel
theorem dX8_goesYears_46 : decode cX8_goesYears 46 = .ok (.if_icmp .le 8, 3) := by decide +kernel
theorem dX8_goesYears_49 : decode cX8_goesYears 49 = .ok (.bipush 9, 2) := by decide +kernel
theorem dX8_goesYears_51 : decode cX8_goesYears 51 = .ok (.goto 5, 3) := by decide +kernel
theorem dX8_goesYears_54 : decode cX8_goesYears 54 = .ok (.iload 6, 2) := by decide +kernel
theorem dX8_goesYears_56 : decode cX8_goesYears 56 = .ok (.invokevirtual 191, 3) := by decide +kernel
theorem dX8_goesYears_59 : decode cX8_goesYears 59 = .ok (.iload_n 3, 1) := by decide +kernel
theorem dX8_goesYears_60 : decode cX8_goesYears 60 = .ok (.isub, 1) := by decide +kernel
theorem dX8_goesYears_61 : decode cX8_goesYears 61 = .ok (.iadd, 1) := by decide +kernel
theorem dX8_goesYears_62 : decode cX8_goesYears 62 = .ok (.putfield 284, 3) := by decide +kernel
theorem dX8_goesYears_65 : decode cX8_goesYears 65 = .ok (.aload_n 0, 1) := by decide +kernel
theorem dX8_goesYears_66 : decode cX8_goesYears 66 = .ok (.getfield 287, 3) := by decide +kernel
theorem dX8_goesYears_69 : decode cX8_goesYears 69 = .ok (.ifCond .ge 19, 3) := by decide +kernel
theorem dX8_goesYears_72 : decode cX8_goesYears 72 = .ok (.aload_n 0, 1) := by decide +kernel
theorem dX8_goesYears_73 : decode cX8_goesYears 73 = .ok (.getfield 284, 3) := by decide +kernel
theorem dX8_goesYears_76 : decode cX8_goesYears 76 = .ok (.iload 4, 2) := by decide +kernel
theorem dX8_goesYears_78 : decode cX8_goesYears 78 = .ok (.ineg, 1) := by decide +kernel
theorem dX8_goesYears_79 : decode cX8_goesYears 79 = .ok (.if_icmp .ge 9, 3) := by decide +kernel
theorem dX8_goesYears_82 : decode cX8_goesYears 82 = .ok (.aload_n 0, 1) := by decide +kernel
theorem dX8_goesYears_83 : decode cX8_goesYears 83 = .ok (.iload 6, 2) := by decide +kernel
theorem dX8_goesYears_85 : decode cX8_goesYears 85 = .ok (.putfield 287, 3) := by decide +kernel
theorem dX8_goesYears_88 : decode cX8_goesYears 88 = .ok (.iinc 6 1, 3) := by decide +kernel
theorem dX8_goesYears_91 : decode cX8_goesYears 91 = .ok (.goto (-72), 3) := by decide +kernel
theorem dX8_goesYears_94 : decode cX8_goesYears 94 = .ok (.return_, 1) := by decide +kernel
theorem dX8_notYears_0 : decode cX8_notYears 0 = .ok (.iload_n 0, 1) := by decide +kernel
theorem dX8_notYears_1 : decode cX8_notYears 1 = .ok (.ifCond .lt 12, 3) := by decide +kernel
theorem dX8_notYears_4 : decode cX8_notYears 4 = .ok (.iload_n 1, 1) := by decide +kernel
theorem dX8_notYears_5 : decode cX8_notYears 5 = .ok (.ifCond .lt 8, 3) := by decide +kernel
theorem dX8_notYears_8 : decode cX8_notYears 8 = .ok (.iload_n 2, 1) := by decide +kernel
theorem dX8_notYears_9 : decode cX8_notYears 9 = .ok (.iconst 1, 1) := by decide +kernel
theorem dX8_notYears_10 : decode cX8_notYears 10 = .ok (.if_icmp .ge 8, 3) := by decide +kernel
theorem dX8_notYears_13 : decode cX8_notYears 13 = .ok (.bipush (-4), 2) := by decide +kernel
theorem dX8_notYears_15 : decode cX8_notYears 15 = .ok (.goto 28, 3) := by decide +kernel
theorem dX8_notYears_18 : decode cX8_notYears 18 = .ok (.iload_n 0, 1) := by decide +kernel
theorem dX8_notYears_19 : decode cX8_notYears 19 = .ok (.bipush 99, 2) := by decide +kernel
theorem dX8_notYears_21 : decode cX8_notYears 21 = .ok (.if_icmp .gt 16, 3) := by decide +kernel
theorem dX8_notYears_24 : decode cX8_notYears 24 = .ok (.iload_n 1, 1) := by decide +kernel
theorem dX8_notYears_25 : decode cX8_notYears 25 = .ok (.sipush 999, 3) := by decide +kernel
theorem dX8_notYears_28 : decode cX8_notYears 28 = .ok (.if_icmp .gt 9, 3) := by decide +kernel
theorem dX8_notYears_31 : decode cX8_notYears 31 = .ok (.iload_n 2, 1) := by decide +kernel
theorem dX8_notYears_32 : decode cX8_notYears 32 = .ok (.bipush 30, 2) := by decide +kernel
theorem dX8_notYears_34 : decode cX8_notYears 34 = .ok (.if_icmp .le 8, 3) := by decide +kernel
theorem dX8_notYears_37 : decode cX8_notYears 37 = .ok (.bipush (-6), 2) := by decide +kernel
theorem dX8_notYears_39 : decode cX8_notYears 39 = .ok (.goto 4, 3) := by decide +kernel
theorem dX8_notYears_42 : decode cX8_notYears 42 = .ok (.iconst 0, 1) := by decide +kernel
theorem dX8_notYears_43 : decode cX8_notYears 43 = .ok (.ireturn, 1) := by decide +kernel
theorem dX8_ruin_0 : decode cX8_ruin 0 = .ok (.aload_n 0, 1) := by decide +kernel
theorem dX8_ruin_1 : decode cX8_ruin 1 = .ok (.iload_n 1, 1) := by decide +kernel
theorem dX8_ruin_2 : decode cX8_ruin 2 = .ok (.iload_n 2, 1) := by decide +kernel
theorem dX8_ruin_3 : decode cX8_ruin 3 = .ok (.invokevirtual 251, 3) := by decide +kernel
theorem dX8_ruin_6 : decode cX8_ruin 6 = .ok (.ifCond .ne 9, 3) := by decide +kernel
theorem dX8_ruin_9 : decode cX8_ruin 9 = .ok (.aload_n 0, 1) := by decide +kernel
theorem dX8_ruin_10 : decode cX8_ruin 10 = .ok (.iconst (-1), 1) := by decide +kernel
theorem dX8_ruin_11 : decode cX8_ruin 11 = .ok (.invokevirtual 92, 3) := by decide +kernel
theorem dX8_ruin_14 : decode cX8_ruin 14 = .ok (.ireturn, 1) := by decide +kernel
theorem dX8_ruin_15 : decode cX8_ruin 15 = .ok (.iload 4, 2) := by decide +kernel
theorem dX8_ruin_17 : decode cX8_ruin 17 = .ok (.iload 5, 2) := by decide +kernel
theorem dX8_ruin_19 : decode cX8_ruin 19 = .ok (.iload 6, 2) := by decide +kernel
theorem dX8_ruin_21 : decode cX8_ruin 21 = .ok (.invokestatic 293, 3) := by decide +kernel
theorem dX8_ruin_24 : decode cX8_ruin 24 = .ok (.istore 7, 2) := by decide +kernel
theorem dX8_ruin_26 : decode cX8_ruin 26 = .ok (.iload 7, 2) := by decide +kernel
theorem dX8_ruin_28 : decode cX8_ruin 28 = .ok (.ifCond .eq 10, 3) := by decide +kernel
theorem dX8_ruin_31 : decode cX8_ruin 31 = .ok (.aload_n 0, 1) := by decide +kernel
theorem dX8_ruin_32 : decode cX8_ruin 32 = .ok (.iload 7, 2) := by decide +kernel
theorem dX8_ruin_34 : decode cX8_ruin 34 = .ok (.invokevirtual 92, 3) := by decide +kernel
theorem dX8_ruin_37 : decode cX8_ruin 37 = .ok (.ireturn, 1) := by decide +kernel
theorem dX8_ruin_38 : decode cX8_ruin 38 = .ok (.aload_n 0, 1) := by decide +kernel
theorem dX8_ruin_39 : decode cX8_ruin 39 = .ok (.iload_n 1, 1) := by decide +kernel
theorem dX8_ruin_40 : decode cX8_ruin 40 = .ok (.invokevirtual 212, 3) := by decide +kernel
theorem dX8_ruin_43 : decode cX8_ruin 43 = .ok (.aload_n 0, 1) := by decide +kernel
theorem dX8_ruin_44 : decode cX8_ruin 44 = .ok (.iload_n 2, 1) := by decide +kernel
theorem dX8_ruin_45 : decode cX8_ruin 45 = .ok (.iload_n 3, 1) := by decide +kernel
theorem dX8_ruin_46 : decode cX8_ruin 46 = .ok (.iload 4, 2) := by decide +kernel
theorem dX8_ruin_48 : decode cX8_ruin 48 = .ok (.iload 5, 2) := by decide +kernel
theorem dX8_ruin_50 : decode cX8_ruin 50 = .ok (.iload 6, 2) := by decide +kernel
theorem dX8_ruin_52 : decode cX8_ruin 52 = .ok (.invokevirtual 296, 3) := by decide +kernel
theorem dX8_ruin_55 : decode cX8_ruin 55 = .ok (.aload_n 0, 1) := by decide +kernel
theorem dX8_ruin_56 : decode cX8_ruin 56 = .ok (.getfield 287, 3) := by decide +kernel
theorem dX8_ruin_59 : decode cX8_ruin 59 = .ok (.ireturn, 1) := by decide +kernel
theorem dX8_owes_0 : decode cX8_owes 0 = .ok (.aload_n 0, 1) := by decide +kernel
theorem dX8_owes_1 : decode cX8_owes 1 = .ok (.iload_n 1, 1) := by decide +kernel
theorem dX8_owes_2 : decode cX8_owes 2 = .ok (.iload_n 2, 1) := by decide +kernel
theorem dX8_owes_3 : decode cX8_owes 3 = .ok (.invokevirtual 251, 3) := by decide +kernel
theorem dX8_owes_6 : decode cX8_owes 6 = .ok (.ifCond .ne 9, 3) := by decide +kernel
theorem dX8_owes_9 : decode cX8_owes 9 = .ok (.aload_n 0, 1) := by decide +kernel
theorem dX8_owes_10 : decode cX8_owes 10 = .ok (.iconst (-1), 1) := by decide +kernel
theorem dX8_owes_11 : decode cX8_owes 11 = .ok (.invokevirtual 209, 3) := by decide +kernel
theorem dX8_owes_14 : decode cX8_owes 14 = .ok (.ireturn, 1) := by decide +kernel
theorem dX8_owes_15 : decode cX8_owes 15 = .ok (.iload 4, 2) := by decide +kernel
theorem dX8_owes_17 : decode cX8_owes 17 = .ok (.iconst 0, 1) := by decide +kernel
theorem dX8_owes_18 : decode cX8_owes 18 = .ok (.iload 5, 2) := by decide +kernel
theorem dX8_owes_20 : decode cX8_owes 20 = .ok (.invokestatic 293, 3) := by decide +kernel
theorem dX8_owes_23 : decode cX8_owes 23 = .ok (.istore 6, 2) := by decide +kernel
theorem dX8_owes_25 : decode cX8_owes 25 = .ok (.iload 6, 2) := by decide +kernel
theorem dX8_owes_27 : decode cX8_owes 27 = .ok (.ifCond .eq 10, 3) := by decide +kernel
theorem dX8_owes_30 : decode cX8_owes 30 = .ok (.aload_n 0, 1) := by decide +kernel
theorem dX8_owes_31 : decode cX8_owes 31 = .ok (.iload 6, 2) := by decide +kernel
theorem dX8_owes_33 : decode cX8_owes 33 = .ok (.invokevirtual 209, 3) := by decide +kernel
theorem dX8_owes_36 : decode cX8_owes 36 = .ok (.ireturn, 1) := by decide +kernel
theorem dX8_owes_37 : decode cX8_owes 37 = .ok (.aload_n 0, 1) := by decide +kernel
theorem dX8_owes_38 : decode cX8_owes 38 = .ok (.iload_n 1, 1) := by decide +kernel
theorem dX8_owes_39 : decode cX8_owes 39 = .ok (.invokevirtual 212, 3) := by decide +kernel
theorem dX8_owes_42 : decode cX8_owes 42 = .ok (.aload_n 0, 1) := by decide +kernel
theorem dX8_owes_43 : decode cX8_owes 43 = .ok (.iload_n 2, 1) := by decide +kernel
theorem dX8_owes_44 : decode cX8_owes 44 = .ok (.iload_n 3, 1) := by decide +kernel
theorem dX8_owes_45 : decode cX8_owes 45 = .ok (.iload 4, 2) := by decide +kernel
theorem dX8_owes_47 : decode cX8_owes 47 = .ok (.iconst 0, 1) := by decide +kernel
theorem dX8_owes_48 : decode cX8_owes 48 = .ok (.iload 5, 2) := by decide +kernel
theorem dX8_owes_50 : decode cX8_owes 50 = .ok (.invokevirtual 296, 3) := by decide +kernel
theorem dX8_owes_53 : decode cX8_owes 53 = .ok (.aload_n 0, 1) := by decide +kernel
theorem dX8_owes_54 : decode cX8_owes 54 = .ok (.getfield 284, 3) := by decide +kernel
theorem dX8_owes_57 : decode cX8_owes 57 = .ok (.ireturn, 1) := by decide +kernel
theorem dX8_ruins_0 : decode cX8_ruins 0 = .ok (.aload_n 0, 1) := by decide +kernel
theorem dX8_ruins_1 : decode cX8_ruins 1 = .ok (.iload_n 1, 1) := by decide +kernel
theorem dX8_ruins_2 : decode cX8_ruins 2 = .ok (.iload_n 2, 1) := by decide +kernel
theorem dX8_ruins_3 : decode cX8_ruins 3 = .ok (.invokevirtual 251, 3) := by decide +kernel
theorem dX8_ruins_6 : decode cX8_ruins 6 = .ok (.ifCond .ne 9, 3) := by decide +kernel
theorem dX8_ruins_9 : decode cX8_ruins 9 = .ok (.aload_n 0, 1) := by decide +kernel
theorem dX8_ruins_10 : decode cX8_ruins 10 = .ok (.iconst (-1), 1) := by decide +kernel
theorem dX8_ruins_11 : decode cX8_ruins 11 = .ok (.invokevirtual 92, 3) := by decide +kernel
theorem dX8_ruins_14 : decode cX8_ruins 14 = .ok (.ireturn, 1) := by decide +kernel
theorem dX8_ruins_15 : decode cX8_ruins 15 = .ok (.iload 4, 2) := by decide +kernel
theorem dX8_ruins_17 : decode cX8_ruins 17 = .ok (.ifCond .lt 20, 3) := by decide +kernel
theorem dX8_ruins_20 : decode cX8_ruins 20 = .ok (.iload 5, 2) := by decide +kernel
theorem dX8_ruins_22 : decode cX8_ruins 22 = .ok (.ifCond .lt 15, 3) := by decide +kernel
theorem dX8_ruins_25 : decode cX8_ruins 25 = .ok (.iload 6, 2) := by decide +kernel
theorem dX8_ruins_27 : decode cX8_ruins 27 = .ok (.iconst 1, 1) := by decide +kernel
theorem dX8_ruins_28 : decode cX8_ruins 28 = .ok (.if_icmp .lt 9, 3) := by decide +kernel
theorem dX8_ruins_31 : decode cX8_ruins 31 = .ok (.iload 7, 2) := by decide +kernel
theorem dX8_ruins_33 : decode cX8_ruins 33 = .ok (.iconst 1, 1) := by decide +kernel
theorem dX8_ruins_34 : decode cX8_ruins 34 = .ok (.if_icmp .ge 8, 3) := by decide +kernel
theorem dX8_ruins_37 : decode cX8_ruins 37 = .ok (.bipush (-4), 2) := by decide +kernel
theorem dX8_ruins_39 : decode cX8_ruins 39 = .ok (.goto 38, 3) := by decide +kernel
theorem dX8_ruins_42 : decode cX8_ruins 42 = .ok (.iload 4, 2) := by decide +kernel
theorem dX8_ruins_44 : decode cX8_ruins 44 = .ok (.bipush 99, 2) := by decide +kernel
theorem dX8_ruins_46 : decode cX8_ruins 46 = .ok (.if_icmp .gt 25, 3) := by decide +kernel
theorem dX8_ruins_49 : decode cX8_ruins 49 = .ok (.iload 5, 2) := by decide +kernel
theorem dX8_ruins_51 : decode cX8_ruins 51 = .ok (.sipush 999, 3) := by decide +kernel
theorem dX8_ruins_54 : decode cX8_ruins 54 = .ok (.if_icmp .gt 17, 3) := by decide +kernel
theorem dX8_ruins_57 : decode cX8_ruins 57 = .ok (.iload 6, 2) := by decide +kernel
theorem dX8_ruins_59 : decode cX8_ruins 59 = .ok (.bipush 30, 2) := by decide +kernel
theorem dX8_ruins_61 : decode cX8_ruins 61 = .ok (.if_icmp .gt 10, 3) := by decide +kernel
theorem dX8_ruins_64 : decode cX8_ruins 64 = .ok (.iload 7, 2) := by decide +kernel
theorem dX8_ruins_66 : decode cX8_ruins 66 = .ok (.bipush 50, 2) := by decide +kernel
theorem dX8_ruins_68 : decode cX8_ruins 68 = .ok (.if_icmp .le 8, 3) := by decide +kernel
theorem dX8_ruins_71 : decode cX8_ruins 71 = .ok (.bipush (-6), 2) := by decide +kernel
theorem dX8_ruins_73 : decode cX8_ruins 73 = .ok (.goto 4, 3) := by decide +kernel
theorem dX8_ruins_76 : decode cX8_ruins 76 = .ok (.iconst 0, 1) := by decide +kernel
theorem dX8_ruins_77 : decode cX8_ruins 77 = .ok (.istore 8, 2) := by decide +kernel
theorem dX8_ruins_79 : decode cX8_ruins 79 = .ok (.iload 8, 2) := by decide +kernel
theorem dX8_ruins_81 : decode cX8_ruins 81 = .ok (.ifCond .eq 10, 3) := by decide +kernel
theorem dX8_ruins_84 : decode cX8_ruins 84 = .ok (.aload_n 0, 1) := by decide +kernel
theorem dX8_ruins_85 : decode cX8_ruins 85 = .ok (.iload 8, 2) := by decide +kernel
theorem dX8_ruins_87 : decode cX8_ruins 87 = .ok (.invokevirtual 92, 3) := by decide +kernel
theorem dX8_ruins_90 : decode cX8_ruins 90 = .ok (.ireturn, 1) := by decide +kernel
theorem dX8_ruins_91 : decode cX8_ruins 91 = .ok (.aload_n 0, 1) := by decide +kernel
theorem dX8_ruins_92 : decode cX8_ruins 92 = .ok (.iload_n 1, 1) := by decide +kernel
theorem dX8_ruins_93 : decode cX8_ruins 93 = .ok (.invokevirtual 212, 3) := by decide +kernel
theorem dX8_ruins_96 : decode cX8_ruins 96 = .ok (.iconst 0, 1) := by decide +kernel
theorem dX8_ruins_97 : decode cX8_ruins 97 = .ok (.istore 9, 2) := by decide +kernel
theorem dX8_ruins_99 : decode cX8_ruins 99 = .ok (.iconst 0, 1) := by decide +kernel
theorem dX8_ruins_100 : decode cX8_ruins 100 = .ok (.istore 10, 2) := by decide +kernel
theorem dX8_ruins_102 : decode cX8_ruins 102 = .ok (.iload 10, 2) := by decide +kernel
theorem dX8_ruins_104 : decode cX8_ruins 104 = .ok (.iload 7, 2) := by decide +kernel
theorem dX8_ruins_106 : decode cX8_ruins 106 = .ok (.if_icmp .ge 41, 3) := by decide +kernel
theorem dX8_ruins_109 : decode cX8_ruins 109 = .ok (.aload_n 0, 1) := by decide +kernel
theorem dX8_ruins_110 : decode cX8_ruins 110 = .ok (.iload_n 2, 1) := by decide +kernel
theorem dX8_ruins_111 : decode cX8_ruins 111 = .ok (.iload_n 3, 1) := by decide +kernel
theorem dX8_ruins_112 : decode cX8_ruins 112 = .ok (.iload 10, 2) := by decide +kernel
theorem dX8_ruins_114 : decode cX8_ruins 114 = .ok (.iadd, 1) := by decide +kernel
theorem dX8_ruins_115 : decode cX8_ruins 115 = .ok (.iload 4, 2) := by decide +kernel
theorem dX8_ruins_117 : decode cX8_ruins 117 = .ok (.iload 5, 2) := by decide +kernel
theorem dX8_ruins_119 : decode cX8_ruins 119 = .ok (.iload 6, 2) := by decide +kernel
theorem dX8_ruins_121 : decode cX8_ruins 121 = .ok (.invokevirtual 296, 3) := by decide +kernel
theorem dX8_ruins_124 : decode cX8_ruins 124 = .ok (.iload 9, 2) := by decide +kernel
theorem dX8_ruins_126 : decode cX8_ruins 126 = .ok (.aload_n 0, 1) := by decide +kernel
theorem dX8_ruins_127 : decode cX8_ruins 127 = .ok (.getfield 287, 3) := by decide +kernel
theorem dX8_ruins_130 : decode cX8_ruins 130 = .ok (.ifCond .lt 7, 3) := by decide +kernel
theorem dX8_ruins_133 : decode cX8_ruins 133 = .ok (.iconst 1, 1) := by decide +kernel
theorem dX8_ruins_134 : decode cX8_ruins 134 = .ok (.goto 4, 3) := by decide +kernel
theorem dX8_ruins_137 : decode cX8_ruins 137 = .ok (.iconst 0, 1) := by decide +kernel
theorem dX8_ruins_138 : decode cX8_ruins 138 = .ok (.iadd, 1) := by decide +kernel
theorem dX8_ruins_139 : decode cX8_ruins 139 = .ok (.istore 9, 2) := by decide +kernel
theorem dX8_ruins_141 : decode cX8_ruins 141 = .ok (.iinc 10 1, 3) := by decide +kernel
theorem dX8_ruins_144 : decode cX8_ruins 144 = .ok (.goto (-42), 3) := by decide +kernel
theorem dX8_ruins_147 : decode cX8_ruins 147 = .ok (.iload 9, 2) := by decide +kernel
theorem dX8_ruins_149 : decode cX8_ruins 149 = .ok (.ireturn, 1) := by decide +kernel
theorem dX8_row_0 : decode cX8_row 0 = .ok (.iload_n 1, 1) := by decide +kernel
theorem dX8_row_1 : decode cX8_row 1 = .ok (.iconst 0, 1) := by decide +kernel
theorem dX8_row_2 : decode cX8_row 2 = .ok (.sipush 999, 3) := by decide +kernel
theorem dX8_row_5 : decode cX8_row 5 = .ok (.invokestatic 85, 3) := by decide +kernel
theorem dX8_row_8 : decode cX8_row 8 = .ok (.istore_n 2, 1) := by decide +kernel
theorem dX8_row_9 : decode cX8_row 9 = .ok (.iload_n 2, 1) := by decide +kernel
theorem dX8_row_10 : decode cX8_row 10 = .ok (.ifCond .ne 15, 3) := by decide +kernel
theorem dX8_row_13 : decode cX8_row 13 = .ok (.aload_n 0, 1) := by decide +kernel
theorem dX8_row_14 : decode cX8_row 14 = .ok (.getfield 300, 3) := by decide +kernel
theorem dX8_row_17 : decode cX8_row 17 = .ok (.bipush 16, 2) := by decide +kernel
theorem dX8_row_19 : decode cX8_row 19 = .ok (.if_icmp .ne 6, 3) := by decide +kernel
theorem dX8_row_22 : decode cX8_row 22 = .ok (.bipush (-6), 2) := by decide +kernel
theorem dX8_row_24 : decode cX8_row 24 = .ok (.istore_n 2, 1) := by decide +kernel
theorem dX8_row_25 : decode cX8_row 25 = .ok (.iload_n 2, 1) := by decide +kernel
theorem dX8_row_26 : decode cX8_row 26 = .ok (.ifCond .eq 9, 3) := by decide +kernel
theorem dX8_row_29 : decode cX8_row 29 = .ok (.aload_n 0, 1) := by decide +kernel
theorem dX8_row_30 : decode cX8_row 30 = .ok (.iload_n 2, 1) := by decide +kernel
theorem dX8_row_31 : decode cX8_row 31 = .ok (.invokevirtual 92, 3) := by decide +kernel
theorem dX8_row_34 : decode cX8_row 34 = .ok (.ireturn, 1) := by decide +kernel
theorem dX8_row_35 : decode cX8_row 35 = .ok (.aload_n 0, 1) := by decide +kernel
theorem dX8_row_36 : decode cX8_row 36 = .ok (.getfield 68, 3) := by decide +kernel
theorem dX8_row_39 : decode cX8_row 39 = .ok (.aload_n 0, 1) := by decide +kernel
theorem dX8_row_40 : decode cX8_row 40 = .ok (.getfield 300, 3) := by decide +kernel
theorem dX8_row_43 : decode cX8_row 43 = .ok (.iload_n 1, 1) := by decide +kernel
theorem dX8_row_44 : decode cX8_row 44 = .ok (.iastore, 1) := by decide +kernel
theorem dX8_row_45 : decode cX8_row 45 = .ok (.aload_n 0, 1) := by decide +kernel
theorem dX8_row_46 : decode cX8_row 46 = .ok (.dup, 1) := by decide +kernel
theorem dX8_row_47 : decode cX8_row 47 = .ok (.getfield 300, 3) := by decide +kernel
theorem dX8_row_50 : decode cX8_row 50 = .ok (.iconst 1, 1) := by decide +kernel
theorem dX8_row_51 : decode cX8_row 51 = .ok (.iadd, 1) := by decide +kernel
theorem dX8_row_52 : decode cX8_row 52 = .ok (.putfield 300, 3) := by decide +kernel
theorem dX8_row_55 : decode cX8_row 55 = .ok (.aload_n 0, 1) := by decide +kernel
theorem dX8_row_56 : decode cX8_row 56 = .ok (.getfield 300, 3) := by decide +kernel
theorem dX8_row_59 : decode cX8_row 59 = .ok (.ireturn, 1) := by decide +kernel
theorem dX8_judge_0 : decode cX8_judge 0 = .ok (.iload_n 1, 1) := by decide +kernel
theorem dX8_judge_1 : decode cX8_judge 1 = .ok (.iconst 0, 1) := by decide +kernel
theorem dX8_judge_2 : decode cX8_judge 2 = .ok (.aload_n 0, 1) := by decide +kernel
theorem dX8_judge_3 : decode cX8_judge 3 = .ok (.getfield 125, 3) := by decide +kernel
theorem dX8_judge_6 : decode cX8_judge 6 = .ok (.invokestatic 104, 3) := by decide +kernel
theorem dX8_judge_9 : decode cX8_judge 9 = .ok (.ifCond .ne 9, 3) := by decide +kernel
theorem dX8_judge_12 : decode cX8_judge 12 = .ok (.aload_n 0, 1) := by decide +kernel
theorem dX8_judge_13 : decode cX8_judge 13 = .ok (.iconst (-1), 1) := by decide +kernel
theorem dX8_judge_14 : decode cX8_judge 14 = .ok (.invokevirtual 92, 3) := by decide +kernel
theorem dX8_judge_17 : decode cX8_judge 17 = .ok (.ireturn, 1) := by decide +kernel
theorem dX8_judge_18 : decode cX8_judge 18 = .ok (.aload_n 0, 1) := by decide +kernel
theorem dX8_judge_19 : decode cX8_judge 19 = .ok (.getfield 300, 3) := by decide +kernel
theorem dX8_judge_22 : decode cX8_judge 22 = .ok (.istore_n 3, 1) := by decide +kernel
theorem dX8_judge_23 : decode cX8_judge 23 = .ok (.aload_n 0, 1) := by decide +kernel
theorem dX8_judge_24 : decode cX8_judge 24 = .ok (.iconst 0, 1) := by decide +kernel
theorem dX8_judge_25 : decode cX8_judge 25 = .ok (.putfield 300, 3) := by decide +kernel
theorem dX8_judge_28 : decode cX8_judge 28 = .ok (.aload_n 0, 1) := by decide +kernel
theorem dX8_judge_29 : decode cX8_judge 29 = .ok (.iconst 0, 1) := by decide +kernel
theorem dX8_judge_30 : decode cX8_judge 30 = .ok (.putfield 179, 3) := by decide +kernel
theorem dX8_judge_33 : decode cX8_judge 33 = .ok (.aload_n 0, 1) := by decide +kernel
theorem dX8_judge_34 : decode cX8_judge 34 = .ok (.iconst 0, 1) := by decide +kernel
theorem dX8_judge_35 : decode cX8_judge 35 = .ok (.putfield 182, 3) := by decide +kernel
theorem dX8_judge_38 : decode cX8_judge 38 = .ok (.aload_n 0, 1) := by decide +kernel
theorem dX8_judge_39 : decode cX8_judge 39 = .ok (.iload_n 2, 1) := by decide +kernel
theorem dX8_judge_40 : decode cX8_judge 40 = .ok (.putfield 278, 3) := by decide +kernel
theorem dX8_judge_43 : decode cX8_judge 43 = .ok (.iconst 0, 1) := by decide +kernel
theorem dX8_judge_44 : decode cX8_judge 44 = .ok (.istore 4, 2) := by decide +kernel
theorem dX8_judge_46 : decode cX8_judge 46 = .ok (.iload 4, 2) := by decide +kernel
theorem dX8_judge_48 : decode cX8_judge 48 = .ok (.iload_n 3, 1) := by decide +kernel
theorem dX8_judge_49 : decode cX8_judge 49 = .ok (.if_icmp .ge 31, 3) := by decide +kernel
theorem dX8_judge_52 : decode cX8_judge 52 = .ok (.aload_n 0, 1) := by decide +kernel
theorem dX8_judge_53 : decode cX8_judge 53 = .ok (.iload_n 1, 1) := by decide +kernel
theorem dX8_judge_54 : decode cX8_judge 54 = .ok (.aload_n 0, 1) := by decide +kernel
theorem dX8_judge_55 : decode cX8_judge 55 = .ok (.invokevirtual 290, 3) := by decide +kernel
theorem dX8_judge_58 : decode cX8_judge 58 = .ok (.invokevirtual 188, 3) := by decide +kernel
theorem dX8_judge_61 : decode cX8_judge 61 = .ok (.aload_n 0, 1) := by decide +kernel
theorem dX8_judge_62 : decode cX8_judge 62 = .ok (.getfield 68, 3) := by decide +kernel
theorem dX8_judge_65 : decode cX8_judge 65 = .ok (.iload 4, 2) := by decide +kernel
theorem dX8_judge_67 : decode cX8_judge 67 = .ok (.iaload, 1) := by decide +kernel
theorem dX8_judge_68 : decode cX8_judge 68 = .ok (.if_icmp .eq 6, 3) := by decide +kernel
theorem dX8_judge_71 : decode cX8_judge 71 = .ok (.iload 4, 2) := by decide +kernel
theorem dX8_judge_73 : decode cX8_judge 73 = .ok (.ireturn, 1) := by decide +kernel
theorem dX8_judge_74 : decode cX8_judge 74 = .ok (.iinc 4 1, 3) := by decide +kernel
theorem dX8_judge_77 : decode cX8_judge 77 = .ok (.goto (-31), 3) := by decide +kernel
theorem dX8_judge_80 : decode cX8_judge 80 = .ok (.bipush (-9), 2) := by decide +kernel
theorem dX8_judge_82 : decode cX8_judge 82 = .ok (.ireturn, 1) := by decide +kernel
theorem dX8_passes_0 : decode cX8_passes 0 = .ok (.iconst 0, 1) := by decide +kernel
theorem dX8_passes_1 : decode cX8_passes 1 = .ok (.istore_n 2, 1) := by decide +kernel
theorem dX8_passes_2 : decode cX8_passes 2 = .ok (.iload_n 2, 1) := by decide +kernel
theorem dX8_passes_3 : decode cX8_passes 3 = .ok (.aload_n 1, 1) := by decide +kernel
theorem dX8_passes_4 : decode cX8_passes 4 = .ok (.arraylength, 1) := by decide +kernel
theorem dX8_passes_5 : decode cX8_passes 5 = .ok (.if_icmp .ge 53, 3) := by decide +kernel
theorem dX8_passes_8 : decode cX8_passes 8 = .ok (.aload_n 0, 1) := by decide +kernel
theorem dX8_passes_9 : decode cX8_passes 9 = .ok (.getfield 303, 3) := by decide +kernel
theorem dX8_passes_12 : decode cX8_passes 12 = .ok (.ifCond .eq 18, 3) := by decide +kernel
theorem dX8_passes_15 : decode cX8_passes 15 = .ok (.aload_n 0, 1) := by decide +kernel
theorem dX8_passes_16 : decode cX8_passes 16 = .ok (.getfield 71, 3) := by decide +kernel
theorem dX8_passes_19 : decode cX8_passes 19 = .ok (.aload_n 0, 1) := by decide +kernel
theorem dX8_passes_20 : decode cX8_passes 20 = .ok (.getfield 307, 3) := by decide +kernel
theorem dX8_passes_23 : decode cX8_passes 23 = .ok (.aload_n 1, 1) := by decide +kernel
theorem dX8_passes_24 : decode cX8_passes 24 = .ok (.iload_n 2, 1) := by decide +kernel
theorem dX8_passes_25 : decode cX8_passes 25 = .ok (.iaload, 1) := by decide +kernel
theorem dX8_passes_26 : decode cX8_passes 26 = .ok (.iastore, 1) := by decide +kernel
theorem dX8_passes_27 : decode cX8_passes 27 = .ok (.goto 15, 3) := by decide +kernel
theorem dX8_passes_30 : decode cX8_passes 30 = .ok (.aload_n 1, 1) := by decide +kernel
theorem dX8_passes_31 : decode cX8_passes 31 = .ok (.iload_n 2, 1) := by decide +kernel
theorem dX8_passes_32 : decode cX8_passes 32 = .ok (.aload_n 0, 1) := by decide +kernel
theorem dX8_passes_33 : decode cX8_passes 33 = .ok (.getfield 71, 3) := by decide +kernel
theorem dX8_passes_36 : decode cX8_passes 36 = .ok (.aload_n 0, 1) := by decide +kernel
theorem dX8_passes_37 : decode cX8_passes 37 = .ok (.getfield 307, 3) := by decide +kernel
theorem dX8_passes_40 : decode cX8_passes 40 = .ok (.iaload, 1) := by decide +kernel
theorem dX8_passes_41 : decode cX8_passes 41 = .ok (.iastore, 1) := by decide +kernel
theorem dX8_passes_42 : decode cX8_passes 42 = .ok (.aload_n 0, 1) := by decide +kernel
theorem dX8_passes_43 : decode cX8_passes 43 = .ok (.dup, 1) := by decide +kernel
theorem dX8_passes_44 : decode cX8_passes 44 = .ok (.getfield 307, 3) := by decide +kernel
theorem dX8_passes_47 : decode cX8_passes 47 = .ok (.iconst 1, 1) := by decide +kernel
theorem dX8_passes_48 : decode cX8_passes 48 = .ok (.iadd, 1) := by decide +kernel
theorem dX8_passes_49 : decode cX8_passes 49 = .ok (.putfield 307, 3) := by decide +kernel
theorem dX8_passes_52 : decode cX8_passes 52 = .ok (.iinc 2 1, 3) := by decide +kernel
theorem dX8_passes_55 : decode cX8_passes 55 = .ok (.goto (-53), 3) := by decide +kernel
theorem dX8_passes_58 : decode cX8_passes 58 = .ok (.return_, 1) := by decide +kernel
theorem dX8_passOne_0 : decode cX8_passOne 0 = .ok (.aload_n 0, 1) := by decide +kernel
theorem dX8_passOne_1 : decode cX8_passOne 1 = .ok (.getfield 303, 3) := by decide +kernel
theorem dX8_passOne_4 : decode cX8_passOne 4 = .ok (.ifCond .eq 7, 3) := by decide +kernel
theorem dX8_passOne_7 : decode cX8_passOne 7 = .ok (.iload_n 1, 1) := by decide +kernel
theorem dX8_passOne_8 : decode cX8_passOne 8 = .ok (.goto 12, 3) := by decide +kernel
theorem dX8_passOne_11 : decode cX8_passOne 11 = .ok (.aload_n 0, 1) := by decide +kernel
theorem dX8_passOne_12 : decode cX8_passOne 12 = .ok (.getfield 71, 3) := by decide +kernel
theorem dX8_passOne_15 : decode cX8_passOne 15 = .ok (.aload_n 0, 1) := by decide +kernel
theorem dX8_passOne_16 : decode cX8_passOne 16 = .ok (.getfield 307, 3) := by decide +kernel
theorem dX8_passOne_19 : decode cX8_passOne 19 = .ok (.iaload, 1) := by decide +kernel
theorem dX8_passOne_20 : decode cX8_passOne 20 = .ok (.istore_n 2, 1) := by decide +kernel
theorem dX8_passOne_21 : decode cX8_passOne 21 = .ok (.aload_n 0, 1) := by decide +kernel
theorem dX8_passOne_22 : decode cX8_passOne 22 = .ok (.getfield 303, 3) := by decide +kernel
theorem dX8_passOne_25 : decode cX8_passOne 25 = .ok (.ifCond .eq 13, 3) := by decide +kernel
theorem dX8_passOne_28 : decode cX8_passOne 28 = .ok (.aload_n 0, 1) := by decide +kernel
theorem dX8_passOne_29 : decode cX8_passOne 29 = .ok (.getfield 71, 3) := by decide +kernel
theorem dX8_passOne_32 : decode cX8_passOne 32 = .ok (.aload_n 0, 1) := by decide +kernel
theorem dX8_passOne_33 : decode cX8_passOne 33 = .ok (.getfield 307, 3) := by decide +kernel
theorem dX8_passOne_36 : decode cX8_passOne 36 = .ok (.iload_n 1, 1) := by decide +kernel
theorem dX8_passOne_37 : decode cX8_passOne 37 = .ok (.iastore, 1) := by decide +kernel
theorem dX8_passOne_38 : decode cX8_passOne 38 = .ok (.aload_n 0, 1) := by decide +kernel
theorem dX8_passOne_39 : decode cX8_passOne 39 = .ok (.dup, 1) := by decide +kernel
theorem dX8_passOne_40 : decode cX8_passOne 40 = .ok (.getfield 307, 3) := by decide +kernel
theorem dX8_passOne_43 : decode cX8_passOne 43 = .ok (.iconst 1, 1) := by decide +kernel
theorem dX8_passOne_44 : decode cX8_passOne 44 = .ok (.iadd, 1) := by decide +kernel
theorem dX8_passOne_45 : decode cX8_passOne 45 = .ok (.putfield 307, 3) := by decide +kernel
theorem dX8_passOne_48 : decode cX8_passOne 48 = .ok (.iload_n 2, 1) := by decide +kernel
theorem dX8_passOne_49 : decode cX8_passOne 49 = .ok (.ireturn, 1) := by decide +kernel
theorem dX8_passesAll_0 : decode cX8_passesAll 0 = .ok (.aload_n 0, 1) := by decide +kernel
theorem dX8_passesAll_1 : decode cX8_passesAll 1 = .ok (.bipush 100, 2) := by decide +kernel
theorem dX8_passesAll_3 : decode cX8_passesAll 3 = .ok (.iload_n 1, 1) := by decide +kernel
theorem dX8_passesAll_4 : decode cX8_passesAll 4 = .ok (.imul, 1) := by decide +kernel
theorem dX8_passesAll_5 : decode cX8_passesAll 5 = .ok (.putfield 307, 3) := by decide +kernel
theorem dX8_passesAll_8 : decode cX8_passesAll 8 = .ok (.aload_n 0, 1) := by decide +kernel
theorem dX8_passesAll_9 : decode cX8_passesAll 9 = .ok (.iload_n 2, 1) := by decide +kernel
theorem dX8_passesAll_10 : decode cX8_passesAll 10 = .ok (.putfield 303, 3) := by decide +kernel
theorem dX8_passesAll_13 : decode cX8_passesAll 13 = .ok (.aload_n 0, 1) := by decide +kernel
theorem dX8_passesAll_14 : decode cX8_passesAll 14 = .ok (.aload_n 0, 1) := by decide +kernel
theorem dX8_passesAll_15 : decode cX8_passesAll 15 = .ok (.getfield 13, 3) := by decide +kernel
theorem dX8_passesAll_18 : decode cX8_passesAll 18 = .ok (.invokevirtual 310, 3) := by decide +kernel
theorem dX8_passesAll_21 : decode cX8_passesAll 21 = .ok (.aload_n 0, 1) := by decide +kernel
theorem dX8_passesAll_22 : decode cX8_passesAll 22 = .ok (.aload_n 0, 1) := by decide +kernel
theorem dX8_passesAll_23 : decode cX8_passesAll 23 = .ok (.getfield 19, 3) := by decide +kernel
theorem dX8_passesAll_26 : decode cX8_passesAll 26 = .ok (.invokevirtual 310, 3) := by decide +kernel
theorem dX8_passesAll_29 : decode cX8_passesAll 29 = .ok (.aload_n 0, 1) := by decide +kernel
theorem dX8_passesAll_30 : decode cX8_passesAll 30 = .ok (.aload_n 0, 1) := by decide +kernel
theorem dX8_passesAll_31 : decode cX8_passesAll 31 = .ok (.getfield 22, 3) := by decide +kernel
theorem dX8_passesAll_34 : decode cX8_passesAll 34 = .ok (.invokevirtual 310, 3) := by decide +kernel
theorem dX8_passesAll_37 : decode cX8_passesAll 37 = .ok (.aload_n 0, 1) := by decide +kernel
theorem dX8_passesAll_38 : decode cX8_passesAll 38 = .ok (.aload_n 0, 1) := by decide +kernel
theorem dX8_passesAll_39 : decode cX8_passesAll 39 = .ok (.getfield 25, 3) := by decide +kernel
theorem dX8_passesAll_42 : decode cX8_passesAll 42 = .ok (.invokevirtual 310, 3) := by decide +kernel
theorem dX8_passesAll_45 : decode cX8_passesAll 45 = .ok (.aload_n 0, 1) := by decide +kernel
theorem dX8_passesAll_46 : decode cX8_passesAll 46 = .ok (.aload_n 0, 1) := by decide +kernel
theorem dX8_passesAll_47 : decode cX8_passesAll 47 = .ok (.getfield 28, 3) := by decide +kernel
theorem dX8_passesAll_50 : decode cX8_passesAll 50 = .ok (.invokevirtual 310, 3) := by decide +kernel
theorem dX8_passesAll_53 : decode cX8_passesAll 53 = .ok (.aload_n 0, 1) := by decide +kernel
theorem dX8_passesAll_54 : decode cX8_passesAll 54 = .ok (.aload_n 0, 1) := by decide +kernel
theorem dX8_passesAll_55 : decode cX8_passesAll 55 = .ok (.getfield 46, 3) := by decide +kernel
theorem dX8_passesAll_58 : decode cX8_passesAll 58 = .ok (.invokevirtual 310, 3) := by decide +kernel
theorem dX8_passesAll_61 : decode cX8_passesAll 61 = .ok (.aload_n 0, 1) := by decide +kernel
theorem dX8_passesAll_62 : decode cX8_passesAll 62 = .ok (.aload_n 0, 1) := by decide +kernel
theorem dX8_passesAll_63 : decode cX8_passesAll 63 = .ok (.getfield 49, 3) := by decide +kernel
theorem dX8_passesAll_66 : decode cX8_passesAll 66 = .ok (.invokevirtual 310, 3) := by decide +kernel
theorem dX8_passesAll_69 : decode cX8_passesAll 69 = .ok (.aload_n 0, 1) := by decide +kernel
theorem dX8_passesAll_70 : decode cX8_passesAll 70 = .ok (.aload_n 0, 1) := by decide +kernel
theorem dX8_passesAll_71 : decode cX8_passesAll 71 = .ok (.getfield 52, 3) := by decide +kernel
theorem dX8_passesAll_74 : decode cX8_passesAll 74 = .ok (.invokevirtual 310, 3) := by decide +kernel
theorem dX8_passesAll_77 : decode cX8_passesAll 77 = .ok (.aload_n 0, 1) := by decide +kernel
theorem dX8_passesAll_78 : decode cX8_passesAll 78 = .ok (.aload_n 0, 1) := by decide +kernel
theorem dX8_passesAll_79 : decode cX8_passesAll 79 = .ok (.getfield 55, 3) := by decide +kernel
theorem dX8_passesAll_82 : decode cX8_passesAll 82 = .ok (.invokevirtual 310, 3) := by decide +kernel
theorem dX8_passesAll_85 : decode cX8_passesAll 85 = .ok (.aload_n 0, 1) := by decide +kernel
theorem dX8_passesAll_86 : decode cX8_passesAll 86 = .ok (.aload_n 0, 1) := by decide +kernel
theorem dX8_passesAll_87 : decode cX8_passesAll 87 = .ok (.aload_n 0, 1) := by decide +kernel
theorem dX8_passesAll_88 : decode cX8_passesAll 88 = .ok (.getfield 125, 3) := by decide +kernel
theorem dX8_passesAll_91 : decode cX8_passesAll 91 = .ok (.invokevirtual 314, 3) := by decide +kernel
theorem dX8_passesAll_94 : decode cX8_passesAll 94 = .ok (.putfield 125, 3) := by decide +kernel
theorem dX8_passesAll_97 : decode cX8_passesAll 97 = .ok (.aload_n 0, 1) := by decide +kernel
theorem dX8_passesAll_98 : decode cX8_passesAll 98 = .ok (.aload_n 0, 1) := by decide +kernel
theorem dX8_passesAll_99 : decode cX8_passesAll 99 = .ok (.aload_n 0, 1) := by decide +kernel
theorem dX8_passesAll_100 : decode cX8_passesAll 100 = .ok (.getfield 77, 3) := by decide +kernel
theorem dX8_passesAll_103 : decode cX8_passesAll 103 = .ok (.invokevirtual 314, 3) := by decide +kernel
theorem dX8_passesAll_106 : decode cX8_passesAll 106 = .ok (.putfield 77, 3) := by decide +kernel
theorem dX8_passesAll_109 : decode cX8_passesAll 109 = .ok (.aload_n 0, 1) := by decide +kernel
theorem dX8_passesAll_110 : decode cX8_passesAll 110 = .ok (.aload_n 0, 1) := by decide +kernel
theorem dX8_passesAll_111 : decode cX8_passesAll 111 = .ok (.aload_n 0, 1) := by decide +kernel
theorem dX8_passesAll_112 : decode cX8_passesAll 112 = .ok (.getfield 149, 3) := by decide +kernel
theorem dX8_passesAll_115 : decode cX8_passesAll 115 = .ok (.invokevirtual 314, 3) := by decide +kernel
theorem dX8_passesAll_118 : decode cX8_passesAll 118 = .ok (.putfield 149, 3) := by decide +kernel
theorem dX8_passesAll_121 : decode cX8_passesAll 121 = .ok (.return_, 1) := by decide +kernel
theorem dX8_image_0 : decode cX8_image 0 = .ok (.aload_n 0, 1) := by decide +kernel
theorem dX8_image_1 : decode cX8_image 1 = .ok (.iconst 1, 1) := by decide +kernel
theorem dX8_image_2 : decode cX8_image 2 = .ok (.putfield 317, 3) := by decide +kernel
theorem dX8_image_5 : decode cX8_image 5 = .ok (.aload_n 0, 1) := by decide +kernel
theorem dX8_image_6 : decode cX8_image 6 = .ok (.iconst 0, 1) := by decide +kernel
theorem dX8_image_7 : decode cX8_image 7 = .ok (.iconst 1, 1) := by decide +kernel
theorem dX8_image_8 : decode cX8_image 8 = .ok (.invokevirtual 132, 3) := by decide +kernel
theorem dX8_image_11 : decode cX8_image 11 = .ok (.aload_n 0, 1) := by decide +kernel
theorem dX8_image_12 : decode cX8_image 12 = .ok (.getfield 149, 3) := by decide +kernel
theorem dX8_image_15 : decode cX8_image 15 = .ok (.ireturn, 1) := by decide +kernel
theorem dX8_restore_0 : decode cX8_restore 0 = .ok (.aload_n 0, 1) := by decide +kernel
theorem dX8_restore_1 : decode cX8_restore 1 = .ok (.getfield 317, 3) := by decide +kernel
theorem dX8_restore_4 : decode cX8_restore 4 = .ok (.ifCond .ne 10, 3) := by decide +kernel
theorem dX8_restore_7 : decode cX8_restore 7 = .ok (.aload_n 0, 1) := by decide +kernel
theorem dX8_restore_8 : decode cX8_restore 8 = .ok (.bipush (-3), 2) := by decide +kernel
theorem dX8_restore_10 : decode cX8_restore 10 = .ok (.invokevirtual 92, 3) := by decide +kernel
theorem dX8_restore_13 : decode cX8_restore 13 = .ok (.ireturn, 1) := by decide +kernel
theorem dX8_restore_14 : decode cX8_restore 14 = .ok (.aload_n 0, 1) := by decide +kernel
theorem dX8_restore_15 : decode cX8_restore 15 = .ok (.iconst 0, 1) := by decide +kernel
theorem dX8_restore_16 : decode cX8_restore 16 = .ok (.iconst 0, 1) := by decide +kernel
theorem dX8_restore_17 : decode cX8_restore 17 = .ok (.invokevirtual 132, 3) := by decide +kernel
theorem dX8_restore_20 : decode cX8_restore 20 = .ok (.aload_n 0, 1) := by decide +kernel
theorem dX8_restore_21 : decode cX8_restore 21 = .ok (.getfield 149, 3) := by decide +kernel
theorem dX8_restore_24 : decode cX8_restore 24 = .ok (.ireturn, 1) := by decide +kernel
theorem dX8_count_0 : decode cX8_count 0 = .ok (.iload_n 1, 1) := by decide +kernel
theorem dX8_count_1 : decode cX8_count 1 = .ok (.bipush 11, 2) := by decide +kernel
theorem dX8_count_3 : decode cX8_count 3 = .ok (.bipush 16, 2) := by decide +kernel
theorem dX8_count_5 : decode cX8_count 5 = .ok (.invokestatic 104, 3) := by decide +kernel
theorem dX8_count_8 : decode cX8_count 8 = .ok (.ifCond .eq 13, 3) := by decide +kernel
theorem dX8_count_11 : decode cX8_count 11 = .ok (.aload_n 0, 1) := by decide +kernel
theorem dX8_count_12 : decode cX8_count 12 = .ok (.getfield 7, 3) := by decide +kernel
theorem dX8_count_15 : decode cX8_count 15 = .ok (.iload_n 1, 1) := by decide +kernel
theorem dX8_count_16 : decode cX8_count 16 = .ok (.bipush 10, 2) := by decide +kernel
theorem dX8_count_18 : decode cX8_count 18 = .ok (.isub, 1) := by decide +kernel
theorem dX8_count_19 : decode cX8_count 19 = .ok (.iaload, 1) := by decide +kernel
theorem dX8_count_20 : decode cX8_count 20 = .ok (.ireturn, 1) := by decide +kernel
theorem dX8_count_21 : decode cX8_count 21 = .ok (.iconst 0, 1) := by decide +kernel
theorem dX8_count_22 : decode cX8_count 22 = .ok (.istore_n 2, 1) := by decide +kernel
theorem dX8_count_23 : decode cX8_count 23 = .ok (.iload_n 1, 1) := by decide +kernel
theorem dX8_count_24 : decode cX8_count 24 = .ok (.tableswitch 105 0 6 #[44, 49, 54, 59, 68, 95, 100], 44) := by decide +kernel
theorem dX8_count_68 : decode cX8_count 68 = .ok (.aload_n 0, 1) := by decide +kernel
theorem dX8_count_69 : decode cX8_count 69 = .ok (.getfield 149, 3) := by decide +kernel
theorem dX8_count_72 : decode cX8_count 72 = .ok (.ireturn, 1) := by decide +kernel
theorem dX8_count_73 : decode cX8_count 73 = .ok (.aload_n 0, 1) := by decide +kernel
theorem dX8_count_74 : decode cX8_count 74 = .ok (.getfield 125, 3) := by decide +kernel
theorem dX8_count_77 : decode cX8_count 77 = .ok (.ireturn, 1) := by decide +kernel
theorem dX8_count_78 : decode cX8_count 78 = .ok (.aload_n 0, 1) := by decide +kernel
theorem dX8_count_79 : decode cX8_count 79 = .ok (.invokevirtual 158, 3) := by decide +kernel
theorem dX8_count_82 : decode cX8_count 82 = .ok (.ireturn, 1) := by decide +kernel
theorem dX8_count_83 : decode cX8_count 83 = .ok (.aload_n 0, 1) := by decide +kernel
theorem dX8_count_84 : decode cX8_count 84 = .ok (.aload_n 0, 1) := by decide +kernel
theorem dX8_count_85 : decode cX8_count 85 = .ok (.getfield 125, 3) := by decide +kernel
theorem dX8_count_88 : decode cX8_count 88 = .ok (.invokevirtual 199, 3) := by decide +kernel
theorem dX8_count_91 : decode cX8_count 91 = .ok (.ireturn, 1) := by decide +kernel
theorem dX8_count_92 : decode cX8_count 92 = .ok (.iconst 0, 1) := by decide +kernel
theorem dX8_count_93 : decode cX8_count 93 = .ok (.istore_n 3, 1) := by decide +kernel
theorem dX8_count_94 : decode cX8_count 94 = .ok (.iload_n 3, 1) := by decide +kernel
theorem dX8_count_95 : decode cX8_count 95 = .ok (.aload_n 0, 1) := by decide +kernel
theorem dX8_count_96 : decode cX8_count 96 = .ok (.getfield 125, 3) := by decide +kernel
theorem dX8_count_99 : decode cX8_count 99 = .ok (.if_icmp .ge 18, 3) := by decide +kernel
theorem dX8_count_102 : decode cX8_count 102 = .ok (.iload_n 2, 1) := by decide +kernel
theorem dX8_count_103 : decode cX8_count 103 = .ok (.aload_n 0, 1) := by decide +kernel
theorem dX8_count_104 : decode cX8_count 104 = .ok (.getfield 22, 3) := by decide +kernel
theorem dX8_count_107 : decode cX8_count 107 = .ok (.iload_n 3, 1) := by decide +kernel
theorem dX8_count_108 : decode cX8_count 108 = .ok (.iaload, 1) := by decide +kernel
theorem dX8_count_109 : decode cX8_count 109 = .ok (.iadd, 1) := by decide +kernel
theorem dX8_count_110 : decode cX8_count 110 = .ok (.istore_n 2, 1) := by decide +kernel
theorem dX8_count_111 : decode cX8_count 111 = .ok (.iinc 3 1, 3) := by decide +kernel
theorem dX8_count_114 : decode cX8_count 114 = .ok (.goto (-20), 3) := by decide +kernel
theorem dX8_count_117 : decode cX8_count 117 = .ok (.iload_n 2, 1) := by decide +kernel
theorem dX8_count_118 : decode cX8_count 118 = .ok (.ireturn, 1) := by decide +kernel
theorem dX8_count_119 : decode cX8_count 119 = .ok (.aload_n 0, 1) := by decide +kernel
theorem dX8_count_120 : decode cX8_count 120 = .ok (.getfield 300, 3) := by decide +kernel
theorem dX8_count_123 : decode cX8_count 123 = .ok (.ireturn, 1) := by decide +kernel
theorem dX8_count_124 : decode cX8_count 124 = .ok (.aload_n 0, 1) := by decide +kernel
theorem dX8_count_125 : decode cX8_count 125 = .ok (.getfield 89, 3) := by decide +kernel
theorem dX8_count_128 : decode cX8_count 128 = .ok (.ireturn, 1) := by decide +kernel
theorem dX8_count_129 : decode cX8_count 129 = .ok (.bipush (-9), 2) := by decide +kernel
theorem dX8_count_131 : decode cX8_count 131 = .ok (.ireturn, 1) := by decide +kernel