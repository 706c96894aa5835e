theorem dX7_isTrue_182 : decode cX7_isTrue 182 = .ok (.iload_n 3, 1) := by decide +kernel
theorem dX7_isTrue_183 : decode cX7_isTrue 183 = .ok (.iconst 1, 1) := by decide +kernel
theorem dX7_isTrue_184 : decode cX7_isTrue 184 = .ok (.isub, 1) := by decide +kernel
theorem dX7_isTrue_185 : decode cX7_isTrue 185 = .ok (.iload 5, 2) := by decide +kernel
theorem dX7_isTrue_187 : decode cX7_isTrue 187 = .ok (.iconst 1, 1) := by decide +kernel
theorem dX7_isTrue_188 : decode cX7_isTrue 188 = .ok (.if_icmp .ne 31, 3) := by decide +kernel
theorem dX7_isTrue_191 : decode cX7_isTrue 191 = .ok (.aload_n 0, 1) := by decide +kernel
theorem dX7_isTrue_192 : decode cX7_isTrue 192 = .ok (.getfield 57, 3) := by decide +kernel
theorem dX7_isTrue_195 : decode cX7_isTrue 195 = .ok (.iload_n 3, 1) := by decide +kernel
theorem dX7_isTrue_196 : decode cX7_isTrue 196 = .ok (.iconst 1, 1) := by decide +kernel
theorem dX7_isTrue_197 : decode cX7_isTrue 197 = .ok (.isub, 1) := by decide +kernel
theorem dX7_isTrue_198 : decode cX7_isTrue 198 = .ok (.baload, 1) := by decide +kernel
theorem dX7_isTrue_199 : decode cX7_isTrue 199 = .ok (.ifCond .eq 16, 3) := by decide +kernel
theorem dX7_isTrue_202 : decode cX7_isTrue 202 = .ok (.aload_n 0, 1) := by decide +kernel
theorem dX7_isTrue_203 : decode cX7_isTrue 203 = .ok (.getfield 57, 3) := by decide +kernel
theorem dX7_isTrue_206 : decode cX7_isTrue 206 = .ok (.iload_n 3, 1) := by decide +kernel
theorem dX7_isTrue_207 : decode cX7_isTrue 207 = .ok (.baload, 1) := by decide +kernel
theorem dX7_isTrue_208 : decode cX7_isTrue 208 = .ok (.ifCond .eq 7, 3) := by decide +kernel
theorem dX7_isTrue_211 : decode cX7_isTrue 211 = .ok (.iconst 1, 1) := by decide +kernel
theorem dX7_isTrue_212 : decode cX7_isTrue 212 = .ok (.goto 32, 3) := by decide +kernel
theorem dX7_isTrue_215 : decode cX7_isTrue 215 = .ok (.iconst 0, 1) := by decide +kernel
theorem dX7_isTrue_216 : decode cX7_isTrue 216 = .ok (.goto 28, 3) := by decide +kernel
theorem dX7_isTrue_219 : decode cX7_isTrue 219 = .ok (.aload_n 0, 1) := by decide +kernel
theorem dX7_isTrue_220 : decode cX7_isTrue 220 = .ok (.getfield 57, 3) := by decide +kernel
theorem dX7_isTrue_223 : decode cX7_isTrue 223 = .ok (.iload_n 3, 1) := by decide +kernel
theorem dX7_isTrue_224 : decode cX7_isTrue 224 = .ok (.iconst 1, 1) := by decide +kernel
theorem dX7_isTrue_225 : decode cX7_isTrue 225 = .ok (.isub, 1) := by decide +kernel
theorem dX7_isTrue_226 : decode cX7_isTrue 226 = .ok (.baload, 1) := by decide +kernel
theorem dX7_isTrue_227 : decode cX7_isTrue 227 = .ok (.ifCond .ne 12, 3) := by decide +kernel
theorem dX7_isTrue_230 : decode cX7_isTrue 230 = .ok (.aload_n 0, 1) := by decide +kernel
theorem dX7_isTrue_231 : decode cX7_isTrue 231 = .ok (.getfield 57, 3) := by decide +kernel
theorem dX7_isTrue_234 : decode cX7_isTrue 234 = .ok (.iload_n 3, 1) := by decide +kernel
theorem dX7_isTrue_235 : decode cX7_isTrue 235 = .ok (.baload, 1) := by decide +kernel
theorem dX7_isTrue_236 : decode cX7_isTrue 236 = .ok (.ifCond .eq 7, 3) := by decide +kernel
theorem dX7_isTrue_239 : decode cX7_isTrue 239 = .ok (.iconst 1, 1) := by decide +kernel
theorem dX7_isTrue_240 : decode cX7_isTrue 240 = .ok (.goto 4, 3) := by decide +kernel
theorem dX7_isTrue_243 : decode cX7_isTrue 243 = .ok (.iconst 0, 1) := by decide +kernel
theorem dX7_isTrue_244 : decode cX7_isTrue 244 = .ok (.bastore, 1) := by decide +kernel
theorem dX7_isTrue_245 : decode cX7_isTrue 245 = .ok (.iinc 4 1, 3) := by decide +kernel
theorem dX7_isTrue_248 : decode cX7_isTrue 248 = .ok (.goto (-238), 3) := by decide +kernel
theorem dX7_isTrue_251 : decode cX7_isTrue 251 = .ok (.aload_n 0, 1) := by decide +kernel
theorem dX7_isTrue_252 : decode cX7_isTrue 252 = .ok (.getfield 57, 3) := by decide +kernel
theorem dX7_isTrue_255 : decode cX7_isTrue 255 = .ok (.iconst 0, 1) := by decide +kernel
theorem dX7_isTrue_256 : decode cX7_isTrue 256 = .ok (.baload, 1) := by decide +kernel
theorem dX7_isTrue_257 : decode cX7_isTrue 257 = .ok (.ireturn, 1) := by decide +kernel
theorem dX7_allBy_0 : decode cX7_allBy 0 = .ok (.iconst 0, 1) := by decide +kernel
theorem dX7_allBy_1 : decode cX7_allBy 1 = .ok (.istore_n 1, 1) := by decide +kernel
theorem dX7_allBy_2 : decode cX7_allBy 2 = .ok (.iconst 0, 1) := by decide +kernel
theorem dX7_allBy_3 : decode cX7_allBy 3 = .ok (.istore_n 2, 1) := by decide +kernel
theorem dX7_allBy_4 : decode cX7_allBy 4 = .ok (.aload_n 0, 1) := by decide +kernel
theorem dX7_allBy_5 : decode cX7_allBy 5 = .ok (.getfield 105, 3) := by decide +kernel
theorem dX7_allBy_8 : decode cX7_allBy 8 = .ok (.iconst (-1), 1) := by decide +kernel
theorem dX7_allBy_9 : decode cX7_allBy 9 = .ok (.if_icmp .eq 55, 3) := by decide +kernel
theorem dX7_allBy_12 : decode cX7_allBy 12 = .ok (.iload_n 2, 1) := by decide +kernel
theorem dX7_allBy_13 : decode cX7_allBy 13 = .ok (.aload_n 0, 1) := by decide +kernel
theorem dX7_allBy_14 : decode cX7_allBy 14 = .ok (.getfield 39, 3) := by decide +kernel
theorem dX7_allBy_17 : decode cX7_allBy 17 = .ok (.aload_n 0, 1) := by decide +kernel
theorem dX7_allBy_18 : decode cX7_allBy 18 = .ok (.getfield 105, 3) := by decide +kernel
theorem dX7_allBy_21 : decode cX7_allBy 21 = .ok (.iaload, 1) := by decide +kernel
theorem dX7_allBy_22 : decode cX7_allBy 22 = .ok (.if_icmp .ge 42, 3) := by decide +kernel
theorem dX7_allBy_25 : decode cX7_allBy 25 = .ok (.aload_n 0, 1) := by decide +kernel
theorem dX7_allBy_26 : decode cX7_allBy 26 = .ok (.getfield 42, 3) := by decide +kernel
theorem dX7_allBy_29 : decode cX7_allBy 29 = .ok (.bipush 10, 2) := by decide +kernel
theorem dX7_allBy_31 : decode cX7_allBy 31 = .ok (.aload_n 0, 1) := by decide +kernel
theorem dX7_allBy_32 : decode cX7_allBy 32 = .ok (.getfield 105, 3) := by decide +kernel
theorem dX7_allBy_35 : decode cX7_allBy 35 = .ok (.imul, 1) := by decide +kernel
theorem dX7_allBy_36 : decode cX7_allBy 36 = .ok (.iload_n 2, 1) := by decide +kernel
theorem dX7_allBy_37 : decode cX7_allBy 37 = .ok (.iadd, 1) := by decide +kernel
theorem dX7_allBy_38 : decode cX7_allBy 38 = .ok (.iaload, 1) := by decide +kernel
theorem dX7_allBy_39 : decode cX7_allBy 39 = .ok (.iconst 2, 1) := by decide +kernel
theorem dX7_allBy_40 : decode cX7_allBy 40 = .ok (.if_icmp .ne 18, 3) := by decide +kernel
theorem dX7_allBy_43 : decode cX7_allBy 43 = .ok (.aload_n 0, 1) := by decide +kernel
theorem dX7_allBy_44 : decode cX7_allBy 44 = .ok (.getfield 45, 3) := by decide +kernel
theorem dX7_allBy_47 : decode cX7_allBy 47 = .ok (.bipush 10, 2) := by decide +kernel
theorem dX7_allBy_49 : decode cX7_allBy 49 = .ok (.aload_n 0, 1) := by decide +kernel
theorem dX7_allBy_50 : decode cX7_allBy 50 = .ok (.getfield 105, 3) := by decide +kernel
theorem dX7_allBy_53 : decode cX7_allBy 53 = .ok (.imul, 1) := by decide +kernel
theorem dX7_allBy_54 : decode cX7_allBy 54 = .ok (.iload_n 2, 1) := by decide +kernel
theorem dX7_allBy_55 : decode cX7_allBy 55 = .ok (.iadd, 1) := by decide +kernel
theorem dX7_allBy_56 : decode cX7_allBy 56 = .ok (.iaload, 1) := by decide +kernel
theorem dX7_allBy_57 : decode cX7_allBy 57 = .ok (.istore_n 1, 1) := by decide +kernel
theorem dX7_allBy_58 : decode cX7_allBy 58 = .ok (.iinc 2 1, 3) := by decide +kernel
theorem dX7_allBy_61 : decode cX7_allBy 61 = .ok (.goto (-57), 3) := by decide +kernel
theorem dX7_allBy_64 : decode cX7_allBy 64 = .ok (.iload_n 1, 1) := by decide +kernel
theorem dX7_allBy_65 : decode cX7_allBy 65 = .ok (.ireturn, 1) := by decide +kernel
theorem dX7_sum_0 : decode cX7_sum 0 = .ok (.aload_n 0, 1) := by decide +kernel
theorem dX7_sum_1 : decode cX7_sum 1 = .ok (.getfield 21, 3) := by decide +kernel
theorem dX7_sum_4 : decode cX7_sum 4 = .ok (.iload_n 1, 1) := by decide +kernel
theorem dX7_sum_5 : decode cX7_sum 5 = .ok (.iaload, 1) := by decide +kernel
theorem dX7_sum_6 : decode cX7_sum 6 = .ok (.aload_n 0, 1) := by decide +kernel
theorem dX7_sum_7 : decode cX7_sum 7 = .ok (.invokevirtual 211, 3) := by decide +kernel
theorem dX7_sum_10 : decode cX7_sum 10 = .ok (.iadd, 1) := by decide +kernel
theorem dX7_sum_11 : decode cX7_sum 11 = .ok (.istore_n 2, 1) := by decide +kernel
theorem dX7_sum_12 : decode cX7_sum 12 = .ok (.iconst 0, 1) := by decide +kernel
theorem dX7_sum_13 : decode cX7_sum 13 = .ok (.istore_n 3, 1) := by decide +kernel
theorem dX7_sum_14 : decode cX7_sum 14 = .ok (.aload_n 0, 1) := by decide +kernel
theorem dX7_sum_15 : decode cX7_sum 15 = .ok (.getfield 105, 3) := by decide +kernel
theorem dX7_sum_18 : decode cX7_sum 18 = .ok (.iconst (-1), 1) := by decide +kernel
theorem dX7_sum_19 : decode cX7_sum 19 = .ok (.if_icmp .eq 85, 3) := by decide +kernel
theorem dX7_sum_22 : decode cX7_sum 22 = .ok (.iload_n 3, 1) := by decide +kernel
theorem dX7_sum_23 : decode cX7_sum 23 = .ok (.aload_n 0, 1) := by decide +kernel
theorem dX7_sum_24 : decode cX7_sum 24 = .ok (.getfield 39, 3) := by decide +kernel
theorem dX7_sum_27 : decode cX7_sum 27 = .ok (.aload_n 0, 1) := by decide +kernel
theorem dX7_sum_28 : decode cX7_sum 28 = .ok (.getfield 105, 3) := by decide +kernel
theorem dX7_sum_31 : decode cX7_sum 31 = .ok (.iaload, 1) := by decide +kernel
theorem dX7_sum_32 : decode cX7_sum 32 = .ok (.if_icmp .ge 72, 3) := by decide +kernel
theorem dX7_sum_35 : decode cX7_sum 35 = .ok (.bipush 10, 2) := by decide +kernel
theorem dX7_sum_37 : decode cX7_sum 37 = .ok (.aload_n 0, 1) := by decide +kernel
theorem dX7_sum_38 : decode cX7_sum 38 = .ok (.getfield 105, 3) := by decide +kernel
theorem dX7_sum_41 : decode cX7_sum 41 = .ok (.imul, 1) := by decide +kernel
theorem dX7_sum_42 : decode cX7_sum 42 = .ok (.iload_n 3, 1) := by decide +kernel
theorem dX7_sum_43 : decode cX7_sum 43 = .ok (.iadd, 1) := by decide +kernel
theorem dX7_sum_44 : decode cX7_sum 44 = .ok (.istore 4, 2) := by decide +kernel
theorem dX7_sum_46 : decode cX7_sum 46 = .ok (.aload_n 0, 1) := by decide +kernel
theorem dX7_sum_47 : decode cX7_sum 47 = .ok (.getfield 42, 3) := by decide +kernel
theorem dX7_sum_50 : decode cX7_sum 50 = .ok (.iload 4, 2) := by decide +kernel
theorem dX7_sum_52 : decode cX7_sum 52 = .ok (.iaload, 1) := by decide +kernel
theorem dX7_sum_53 : decode cX7_sum 53 = .ok (.iconst 2, 1) := by decide +kernel
theorem dX7_sum_54 : decode cX7_sum 54 = .ok (.if_icmp .ge 44, 3) := by decide +kernel
theorem dX7_sum_57 : decode cX7_sum 57 = .ok (.aload_n 0, 1) := by decide +kernel
theorem dX7_sum_58 : decode cX7_sum 58 = .ok (.iload_n 1, 1) := by decide +kernel
theorem dX7_sum_59 : decode cX7_sum 59 = .ok (.iload 4, 2) := by decide +kernel
theorem dX7_sum_61 : decode cX7_sum 61 = .ok (.invokevirtual 214, 3) := by decide +kernel
theorem dX7_sum_64 : decode cX7_sum 64 = .ok (.ifCond .eq 34, 3) := by decide +kernel
theorem dX7_sum_67 : decode cX7_sum 67 = .ok (.iload_n 2, 1) := by decide +kernel
theorem dX7_sum_68 : decode cX7_sum 68 = .ok (.aload_n 0, 1) := by decide +kernel
theorem dX7_sum_69 : decode cX7_sum 69 = .ok (.getfield 42, 3) := by decide +kernel
theorem dX7_sum_72 : decode cX7_sum 72 = .ok (.iload 4, 2) := by decide +kernel
theorem dX7_sum_74 : decode cX7_sum 74 = .ok (.iaload, 1) := by decide +kernel
theorem dX7_sum_75 : decode cX7_sum 75 = .ok (.ifCond .ne 13, 3) := by decide +kernel
theorem dX7_sum_78 : decode cX7_sum 78 = .ok (.aload_n 0, 1) := by decide +kernel
theorem dX7_sum_79 : decode cX7_sum 79 = .ok (.getfield 45, 3) := by decide +kernel
theorem dX7_sum_82 : decode cX7_sum 82 = .ok (.iload 4, 2) := by decide +kernel
theorem dX7_sum_84 : decode cX7_sum 84 = .ok (.iaload, 1) := by decide +kernel
theorem dX7_sum_85 : decode cX7_sum 85 = .ok (.goto 11, 3) := by decide +kernel
theorem dX7_sum_88 : decode cX7_sum 88 = .ok (.aload_n 0, 1) := by decide +kernel
theorem dX7_sum_89 : decode cX7_sum 89 = .ok (.getfield 45, 3) := by decide +kernel
theorem dX7_sum_92 : decode cX7_sum 92 = .ok (.iload 4, 2) := by decide +kernel
theorem dX7_sum_94 : decode cX7_sum 94 = .ok (.iaload, 1) := by decide +kernel
theorem dX7_sum_95 : decode cX7_sum 95 = .ok (.ineg, 1) := by decide +kernel
theorem dX7_sum_96 : decode cX7_sum 96 = .ok (.iadd, 1) := by decide +kernel
theorem dX7_sum_97 : decode cX7_sum 97 = .ok (.istore_n 2, 1) := by decide +kernel
theorem dX7_sum_98 : decode cX7_sum 98 = .ok (.iinc 3 1, 3) := by decide +kernel
theorem dX7_sum_101 : decode cX7_sum 101 = .ok (.goto (-87), 3) := by decide +kernel
theorem dX7_sum_104 : decode cX7_sum 104 = .ok (.iload_n 2, 1) := by decide +kernel
theorem dX7_sum_105 : decode cX7_sum 105 = .ok (.ireturn, 1) := by decide +kernel
theorem dX7_turn_0 : decode cX7_turn 0 = .ok (.aload_n 0, 1) := by decide +kernel
theorem dX7_turn_1 : decode cX7_turn 1 = .ok (.getfield 9, 3) := by decide +kernel
theorem dX7_turn_4 : decode cX7_turn 4 = .ok (.iload_n 1, 1) := by decide +kernel
theorem dX7_turn_5 : decode cX7_turn 5 = .ok (.iaload, 1) := by decide +kernel
theorem dX7_turn_6 : decode cX7_turn 6 = .ok (.tableswitch 68 2 6 #[34, 43, 68, 57, 43], 34) := by decide +kernel
theorem dX7_turn_40 : decode cX7_turn 40 = .ok (.iconst 2, 1) := by decide +kernel
theorem dX7_turn_41 : decode cX7_turn 41 = .ok (.aload_n 0, 1) := by decide +kernel
theorem dX7_turn_42 : decode cX7_turn 42 = .ok (.getfield 18, 3) := by decide +kernel
theorem dX7_turn_45 : decode cX7_turn 45 = .ok (.iload_n 1, 1) := by decide +kernel
theorem dX7_turn_46 : decode cX7_turn 46 = .ok (.iaload, 1) := by decide +kernel
theorem dX7_turn_47 : decode cX7_turn 47 = .ok (.imul, 1) := by decide +kernel
theorem dX7_turn_48 : decode cX7_turn 48 = .ok (.ireturn, 1) := by decide +kernel
theorem dX7_turn_49 : decode cX7_turn 49 = .ok (.aload_n 0, 1) := by decide +kernel
theorem dX7_turn_50 : decode cX7_turn 50 = .ok (.getfield 18, 3) := by decide +kernel
theorem dX7_turn_53 : decode cX7_turn 53 = .ok (.iload_n 1, 1) := by decide +kernel
theorem dX7_turn_54 : decode cX7_turn 54 = .ok (.iaload, 1) := by decide +kernel
theorem dX7_turn_55 : decode cX7_turn 55 = .ok (.aload_n 0, 1) := by decide +kernel
theorem dX7_turn_56 : decode cX7_turn 56 = .ok (.getfield 15, 3) := by decide +kernel
theorem dX7_turn_59 : decode cX7_turn 59 = .ok (.iload_n 1, 1) := by decide +kernel
theorem dX7_turn_60 : decode cX7_turn 60 = .ok (.iaload, 1) := by decide +kernel
theorem dX7_turn_61 : decode cX7_turn 61 = .ok (.iadd, 1) := by decide +kernel
theorem dX7_turn_62 : decode cX7_turn 62 = .ok (.ireturn, 1) := by decide +kernel
theorem dX7_turn_63 : decode cX7_turn 63 = .ok (.iconst 2, 1) := by decide +kernel
theorem dX7_turn_64 : decode cX7_turn 64 = .ok (.aload_n 0, 1) := by decide +kernel
theorem dX7_turn_65 : decode cX7_turn 65 = .ok (.getfield 18, 3) := by decide +kernel
theorem dX7_turn_68 : decode cX7_turn 68 = .ok (.iload_n 1, 1) := by decide +kernel
theorem dX7_turn_69 : decode cX7_turn 69 = .ok (.iaload, 1) := by decide +kernel
theorem dX7_turn_70 : decode cX7_turn 70 = .ok (.imul, 1) := by decide +kernel
theorem dX7_turn_71 : decode cX7_turn 71 = .ok (.iconst 1, 1) := by decide +kernel
theorem dX7_turn_72 : decode cX7_turn 72 = .ok (.iadd, 1) := by decide +kernel
theorem dX7_turn_73 : decode cX7_turn 73 = .ok (.ireturn, 1) := by decide +kernel
theorem dX7_turn_74 : decode cX7_turn 74 = .ok (.aload_n 0, 1) := by decide +kernel
theorem dX7_turn_75 : decode cX7_turn 75 = .ok (.getfield 18, 3) := by decide +kernel
theorem dX7_turn_78 : decode cX7_turn 78 = .ok (.iload_n 1, 1) := by decide +kernel
theorem dX7_turn_79 : decode cX7_turn 79 = .ok (.iaload, 1) := by decide +kernel
theorem dX7_turn_80 : decode cX7_turn 80 = .ok (.ireturn, 1) := by decide +kernel
theorem dX7_rest_0 : decode cX7_rest 0 = .ok (.aload_n 0, 1) := by decide +kernel
theorem dX7_rest_1 : decode cX7_rest 1 = .ok (.iload_n 1, 1) := by decide +kernel
theorem dX7_rest_2 : decode cX7_rest 2 = .ok (.invokevirtual 119, 3) := by decide +kernel
theorem dX7_rest_5 : decode cX7_rest 5 = .ok (.istore_n 2, 1) := by decide +kernel
theorem dX7_rest_6 : decode cX7_rest 6 = .ok (.aload_n 0, 1) := by decide +kernel
theorem dX7_rest_7 : decode cX7_rest 7 = .ok (.iload_n 1, 1) := by decide +kernel
theorem dX7_rest_8 : decode cX7_rest 8 = .ok (.invokevirtual 218, 3) := by decide +kernel
theorem dX7_rest_11 : decode cX7_rest 11 = .ok (.istore_n 3, 1) := by decide +kernel
theorem dX7_rest_12 : decode cX7_rest 12 = .ok (.aload_n 0, 1) := by decide +kernel
theorem dX7_rest_13 : decode cX7_rest 13 = .ok (.getfield 9, 3) := by decide +kernel
theorem dX7_rest_16 : decode cX7_rest 16 = .ok (.iload_n 1, 1) := by decide +kernel
theorem dX7_rest_17 : decode cX7_rest 17 = .ok (.iaload, 1) := by decide +kernel
theorem dX7_rest_18 : decode cX7_rest 18 = .ok (.lookupswitch 88 #[(1, 34), (4, 47), (6, 64)], 34) := by decide +kernel
theorem dX7_rest_52 : decode cX7_rest 52 = .ok (.iload_n 3, 1) := by decide +kernel
theorem dX7_rest_53 : decode cX7_rest 53 = .ok (.aload_n 0, 1) := by decide +kernel
theorem dX7_rest_54 : decode cX7_rest 54 = .ok (.getfield 15, 3) := by decide +kernel
theorem dX7_rest_57 : decode cX7_rest 57 = .ok (.iload_n 1, 1) := by decide +kernel
theorem dX7_rest_58 : decode cX7_rest 58 = .ok (.iaload, 1) := by decide +kernel
theorem dX7_rest_59 : decode cX7_rest 59 = .ok (.iadd, 1) := by decide +kernel
theorem dX7_rest_60 : decode cX7_rest 60 = .ok (.iload_n 2, 1) := by decide +kernel
theorem dX7_rest_61 : decode cX7_rest 61 = .ok (.invokestatic 221, 3) := by decide +kernel
theorem dX7_rest_64 : decode cX7_rest 64 = .ok (.ireturn, 1) := by decide +kernel
theorem dX7_rest_65 : decode cX7_rest 65 = .ok (.iload_n 2, 1) := by decide +kernel
theorem dX7_rest_66 : decode cX7_rest 66 = .ok (.iconst 1, 1) := by decide +kernel
theorem dX7_rest_67 : decode cX7_rest 67 = .ok (.isub, 1) := by decide +kernel
theorem dX7_rest_68 : decode cX7_rest 68 = .ok (.iload_n 3, 1) := by decide +kernel
theorem dX7_rest_69 : decode cX7_rest 69 = .ok (.aload_n 0, 1) := by decide +kernel
theorem dX7_rest_70 : decode cX7_rest 70 = .ok (.getfield 15, 3) := by decide +kernel
theorem dX7_rest_73 : decode cX7_rest 73 = .ok (.iload_n 1, 1) := by decide +kernel
theorem dX7_rest_74 : decode cX7_rest 74 = .ok (.iaload, 1) := by decide +kernel
theorem dX7_rest_75 : decode cX7_rest 75 = .ok (.iadd, 1) := by decide +kernel
theorem dX7_rest_76 : decode cX7_rest 76 = .ok (.iload_n 2, 1) := by decide +kernel
theorem dX7_rest_77 : decode cX7_rest 77 = .ok (.invokestatic 221, 3) := by decide +kernel
theorem dX7_rest_80 : decode cX7_rest 80 = .ok (.isub, 1) := by decide +kernel
theorem dX7_rest_81 : decode cX7_rest 81 = .ok (.ireturn, 1) := by decide +kernel
theorem dX7_rest_82 : decode cX7_rest 82 = .ok (.iload_n 3, 1) := by decide +kernel
theorem dX7_rest_83 : decode cX7_rest 83 = .ok (.aload_n 0, 1) := by decide +kernel
theorem dX7_rest_84 : decode cX7_rest 84 = .ok (.getfield 33, 3) := by decide +kernel
theorem dX7_rest_87 : decode cX7_rest 87 = .ok (.iconst 4, 1) := by decide +kernel
theorem dX7_rest_88 : decode cX7_rest 88 = .ok (.iload_n 1, 1) := by decide +kernel
theorem dX7_rest_89 : decode cX7_rest 89 = .ok (.imul, 1) := by decide +kernel
theorem dX7_rest_90 : decode cX7_rest 90 = .ok (.aload_n 0, 1) := by decide +kernel
theorem dX7_rest_91 : decode cX7_rest 91 = .ok (.getfield 18, 3) := by decide +kernel
theorem dX7_rest_94 : decode cX7_rest 94 = .ok (.iload_n 1, 1) := by decide +kernel
theorem dX7_rest_95 : decode cX7_rest 95 = .ok (.iaload, 1) := by decide +kernel
theorem dX7_rest_96 : decode cX7_rest 96 = .ok (.iconst 4, 1) := by decide +kernel
theorem dX7_rest_97 : decode cX7_rest 97 = .ok (.irem, 1) := by decide +kernel
theorem dX7_rest_98 : decode cX7_rest 98 = .ok (.iadd, 1) := by decide +kernel
theorem dX7_rest_99 : decode cX7_rest 99 = .ok (.iaload, 1) := by decide +kernel
theorem dX7_rest_100 : decode cX7_rest 100 = .ok (.iadd, 1) := by decide +kernel
theorem dX7_rest_101 : decode cX7_rest 101 = .ok (.iload_n 2, 1) := by decide +kernel
theorem dX7_rest_102 : decode cX7_rest 102 = .ok (.invokestatic 221, 3) := by decide +kernel
theorem dX7_rest_105 : decode cX7_rest 105 = .ok (.ireturn, 1) := by decide +kernel
theorem dX7_rest_106 : decode cX7_rest 106 = .ok (.iload_n 3, 1) := by decide +kernel
theorem dX7_rest_107 : decode cX7_rest 107 = .ok (.iload_n 2, 1) := by decide +kernel
theorem dX7_rest_108 : decode cX7_rest 108 = .ok (.invokestatic 221, 3) := by decide +kernel
theorem dX7_rest_111 : decode cX7_rest 111 = .ok (.ireturn, 1) := by decide +kernel
theorem dX7_isDay_0 : decode cX7_isDay 0 = .ok (.iload_n 2, 1) := by decide +kernel
theorem dX7_isDay_1 : decode cX7_isDay 1 = .ok (.aload_n 0, 1) := by decide +kernel
theorem dX7_isDay_2 : decode cX7_isDay 2 = .ok (.iload_n 1, 1) := by decide +kernel
theorem dX7_isDay_3 : decode cX7_isDay 3 = .ok (.invokevirtual 119, 3) := by decide +kernel
theorem dX7_isDay_6 : decode cX7_isDay 6 = .ok (.irem, 1) := by decide +kernel
theorem dX7_isDay_7 : decode cX7_isDay 7 = .ok (.aload_n 0, 1) := by decide +kernel
theorem dX7_isDay_8 : decode cX7_isDay 8 = .ok (.iload_n 1, 1) := by decide +kernel
theorem dX7_isDay_9 : decode cX7_isDay 9 = .ok (.invokevirtual 123, 3) := by decide +kernel
theorem dX7_isDay_12 : decode cX7_isDay 12 = .ok (.if_icmp .ne 7, 3) := by decide +kernel
theorem dX7_isDay_15 : decode cX7_isDay 15 = .ok (.iconst 1, 1) := by decide +kernel
theorem dX7_isDay_16 : decode cX7_isDay 16 = .ok (.goto 4, 3) := by decide +kernel
theorem dX7_isDay_19 : decode cX7_isDay 19 = .ok (.iconst 0, 1) := by decide +kernel
theorem dX7_isDay_20 : decode cX7_isDay 20 = .ok (.ireturn, 1) := by decide +kernel
theorem dX7_goesOff_0 : decode cX7_goesOff 0 = .ok (.aload_n 0, 1) := by decide +kernel
theorem dX7_goesOff_1 : decode cX7_goesOff 1 = .ok (.getfield 24, 3) := by decide +kernel
theorem dX7_goesOff_4 : decode cX7_goesOff 4 = .ok (.iload_n 1, 1) := by decide +kernel
theorem dX7_goesOff_5 : decode cX7_goesOff 5 = .ok (.iaload, 1) := by decide +kernel
theorem dX7_goesOff_6 : decode cX7_goesOff 6 = .ok (.ifCond .ne 16, 3) := by decide +kernel
theorem dX7_goesOff_9 : decode cX7_goesOff 9 = .ok (.aload_n 0, 1) := by decide +kernel
theorem dX7_goesOff_10 : decode cX7_goesOff 10 = .ok (.iload_n 1, 1) := by decide +kernel
theorem dX7_goesOff_11 : decode cX7_goesOff 11 = .ok (.iload_n 2, 1) := by decide +kernel
theorem dX7_goesOff_12 : decode cX7_goesOff 12 = .ok (.invokevirtual 226, 3) := by decide +kernel
theorem dX7_goesOff_15 : decode cX7_goesOff 15 = .ok (.ifCond .eq 7, 3) := by decide +kernel
theorem dX7_goesOff_18 : decode cX7_goesOff 18 = .ok (.iconst 1, 1) := by decide +kernel
theorem dX7_goesOff_19 : decode cX7_goesOff 19 = .ok (.goto 4, 3) := by decide +kernel
theorem dX7_goesOff_22 : decode cX7_goesOff 22 = .ok (.iconst 0, 1) := by decide +kernel
theorem dX7_goesOff_23 : decode cX7_goesOff 23 = .ok (.ireturn, 1) := by decide +kernel
theorem dX7_inDays_0 : decode cX7_inDays 0 = .ok (.aload_n 0, 1) := by decide +kernel
theorem dX7_inDays_1 : decode cX7_inDays 1 = .ok (.iload_n 1, 1) := by decide +kernel
theorem dX7_inDays_2 : decode cX7_inDays 2 = .ok (.invokevirtual 123, 3) := by decide +kernel
theorem dX7_inDays_5 : decode cX7_inDays 5 = .ok (.aload_n 0, 1) := by decide +kernel
theorem dX7_inDays_6 : decode cX7_inDays 6 = .ok (.getfield 229, 3) := by decide +kernel
theorem dX7_inDays_9 : decode cX7_inDays 9 = .ok (.isub, 1) := by decide +kernel
theorem dX7_inDays_10 : decode cX7_inDays 10 = .ok (.aload_n 0, 1) := by decide +kernel
theorem dX7_inDays_11 : decode cX7_inDays 11 = .ok (.iload_n 1, 1) := by decide +kernel
theorem dX7_inDays_12 : decode cX7_inDays 12 = .ok (.invokevirtual 119, 3) := by decide +kernel
theorem dX7_inDays_15 : decode cX7_inDays 15 = .ok (.invokestatic 221, 3) := by decide +kernel
theorem dX7_inDays_18 : decode cX7_inDays 18 = .ok (.ireturn, 1) := by decide +kernel
theorem dX7_goOff_0 : decode cX7_goOff 0 = .ok (.iconst 0, 1) := by decide +kernel
theorem dX7_goOff_1 : decode cX7_goOff 1 = .ok (.istore_n 2, 1) := by decide +kernel
theorem dX7_goOff_2 : decode cX7_goOff 2 = .ok (.iconst 0, 1) := by decide +kernel
theorem dX7_goOff_3 : decode cX7_goOff 3 = .ok (.istore_n 3, 1) := by decide +kernel
theorem dX7_goOff_4 : decode cX7_goOff 4 = .ok (.iload_n 3, 1) := by decide +kernel
theorem dX7_goOff_5 : decode cX7_goOff 5 = .ok (.aload_n 0, 1) := by decide +kernel
theorem dX7_goOff_6 : decode cX7_goOff 6 = .ok (.getfield 108, 3) := by decide +kernel
theorem dX7_goOff_9 : decode cX7_goOff 9 = .ok (.if_icmp .ge 24, 3) := by decide +kernel
theorem dX7_goOff_12 : decode cX7_goOff 12 = .ok (.aload_n 0, 1) := by decide +kernel
theorem dX7_goOff_13 : decode cX7_goOff 13 = .ok (.iload_n 3, 1) := by decide +kernel
theorem dX7_goOff_14 : decode cX7_goOff 14 = .ok (.iload_n 1, 1) := by decide +kernel
theorem dX7_goOff_15 : decode cX7_goOff 15 = .ok (.invokevirtual 232, 3) := by decide +kernel
theorem dX7_goOff_18 : decode cX7_goOff 18 = .ok (.ifCond .eq 9, 3) := by decide +kernel
theorem dX7_goOff_21 : decode cX7_goOff 21 = .ok (.iload_n 2, 1) := by decide +kernel
theorem dX7_goOff_22 : decode cX7_goOff 22 = .ok (.iconst 1, 1) := by decide +kernel
theorem dX7_goOff_23 : decode cX7_goOff 23 = .ok (.iload_n 3, 1) := by decide +kernel
theorem dX7_goOff_24 : decode cX7_goOff 24 = .ok (.ishl, 1) := by decide +kernel
theorem dX7_goOff_25 : decode cX7_goOff 25 = .ok (.ior, 1) := by decide +kernel
theorem dX7_goOff_26 : decode cX7_goOff 26 = .ok (.istore_n 2, 1) := by decide +kernel
theorem dX7_goOff_27 : decode cX7_goOff 27 = .ok (.iinc 3 1, 3) := by decide +kernel
theorem dX7_goOff_30 : decode cX7_goOff 30 = .ok (.goto (-26), 3) := by decide +kernel
theorem dX7_goOff_33 : decode cX7_goOff 33 = .ok (.iload_n 2, 1) := by decide +kernel
theorem dX7_goOff_34 : decode cX7_goOff 34 = .ok (.ireturn, 1) := by decide +kernel
theorem dX7_isHeard_0 : decode cX7_isHeard 0 = .ok (.aload_n 0, 1) := by decide +kernel
theorem dX7_isHeard_1 : decode cX7_isHeard 1 = .ok (.getfield 101, 3) := by decide +kernel
theorem dX7_isHeard_4 : decode cX7_isHeard 4 = .ok (.aload_n 0, 1) := by decide +kernel
theorem dX7_isHeard_5 : decode cX7_isHeard 5 = .ok (.getfield 229, 3) := by decide +kernel
theorem dX7_isHeard_8 : decode cX7_isHeard 8 = .ok (.bipush 7, 2) := by decide +kernel
theorem dX7_isHeard_10 : decode cX7_isHeard 10 = .ok (.irem, 1) := by decide +kernel
theorem dX7_isHeard_11 : decode cX7_isHeard 11 = .ok (.ishr, 1) := by decide +kernel
theorem dX7_isHeard_12 : decode cX7_isHeard 12 = .ok (.iconst 1, 1) := by decide +kernel
theorem dX7_isHeard_13 : decode cX7_isHeard 13 = .ok (.iand, 1) := by decide +kernel
theorem dX7_isHeard_14 : decode cX7_isHeard 14 = .ok (.iconst 1, 1) := by decide +kernel
theorem dX7_isHeard_15 : decode cX7_isHeard 15 = .ok (.if_icmp .ne 7, 3) := by decide +kernel
theorem dX7_isHeard_18 : decode cX7_isHeard 18 = .ok (.iconst 1, 1) := by decide +kernel
theorem dX7_isHeard_19 : decode cX7_isHeard 19 = .ok (.goto 4, 3) := by decide +kernel
theorem dX7_isHeard_22 : decode cX7_isHeard 22 = .ok (.iconst 0, 1) := by decide +kernel
theorem dX7_isHeard_23 : decode cX7_isHeard 23 = .ok (.ireturn, 1) := by decide +kernel
theorem dX7_goesDay_0 : decode cX7_goesDay 0 = .ok (.aload_n 0, 1) := by decide +kernel
theorem dX7_goesDay_1 : decode cX7_goesDay 1 = .ok (.aload_n 0, 1) := by decide +kernel
theorem dX7_goesDay_2 : decode cX7_goesDay 2 = .ok (.getfield 229, 3) := by decide +kernel
theorem dX7_goesDay_5 : decode cX7_goesDay 5 = .ok (.invokevirtual 235, 3) := by decide +kernel
theorem dX7_goesDay_8 : decode cX7_goesDay 8 = .ok (.istore_n 1, 1) := by decide +kernel
theorem dX7_goesDay_9 : decode cX7_goesDay 9 = .ok (.iconst 0, 1) := by decide +kernel
theorem dX7_goesDay_10 : decode cX7_goesDay 10 = .ok (.istore_n 2, 1) := by decide +kernel
theorem dX7_goesDay_11 : decode cX7_goesDay 11 = .ok (.iload_n 2, 1) := by decide +kernel
theorem dX7_goesDay_12 : decode cX7_goesDay 12 = .ok (.aload_n 0, 1) := by decide +kernel
theorem dX7_goesDay_13 : decode cX7_goesDay 13 = .ok (.getfield 108, 3) := by decide +kernel
theorem dX7_goesDay_16 : decode cX7_goesDay 16 = .ok (.if_icmp .ge 47, 3) := by decide +kernel
theorem dX7_goesDay_19 : decode cX7_goesDay 19 = .ok (.iload_n 1, 1) := by decide +kernel
theorem dX7_goesDay_20 : decode cX7_goesDay 20 = .ok (.iload_n 2, 1) := by decide +kernel
theorem dX7_goesDay_21 : decode cX7_goesDay 21 = .ok (.ishr, 1) := by decide +kernel
theorem dX7_goesDay_22 : decode cX7_goesDay 22 = .ok (.iconst 1, 1) := by decide +kernel
theorem dX7_goesDay_23 : decode cX7_goesDay 23 = .ok (.iand, 1) := by decide +kernel
theorem dX7_goesDay_24 : decode cX7_goesDay 24 = .ok (.ifCond .ne 6, 3) := by decide +kernel
theorem dX7_goesDay_27 : decode cX7_goesDay 27 = .ok (.goto 30, 3) := by decide +kernel
theorem dX7_goesDay_30 : decode cX7_goesDay 30 = .ok (.aload_n 0, 1) := by decide +kernel
theorem dX7_goesDay_31 : decode cX7_goesDay 31 = .ok (.getfield 27, 3) := by decide +kernel
theorem dX7_goesDay_34 : decode cX7_goesDay 34 = .ok (.iload_n 2, 1) := by decide +kernel
theorem dX7_goesDay_35 : decode cX7_goesDay 35 = .ok (.dup2, 1) := by decide +kernel
theorem dX7_goesDay_36 : decode cX7_goesDay 36 = .ok (.iaload, 1) := by decide +kernel
theorem dX7_goesDay_37 : decode cX7_goesDay 37 = .ok (.iconst 1, 1) := by decide +kernel
theorem dX7_goesDay_38 : decode cX7_goesDay 38 = .ok (.iadd, 1) := by decide +kernel
theorem dX7_goesDay_39 : decode cX7_goesDay 39 = .ok (.iastore, 1) := by decide +kernel
theorem dX7_goesDay_40 : decode cX7_goesDay 40 = .ok (.aload_n 0, 1) := by decide +kernel
theorem dX7_goesDay_41 : decode cX7_goesDay 41 = .ok (.invokevirtual 238, 3) := by decide +kernel
theorem dX7_goesDay_44 : decode cX7_goesDay 44 = .ok (.ifCond .ne 13, 3) := by decide +kernel
theorem dX7_goesDay_47 : decode cX7_goesDay 47 = .ok (.aload_n 0, 1) := by decide +kernel
theorem dX7_goesDay_48 : decode cX7_goesDay 48 = .ok (.getfield 30, 3) := by decide +kernel
theorem dX7_goesDay_51 : decode cX7_goesDay 51 = .ok (.iload_n 2, 1) := by decide +kernel
theorem dX7_goesDay_52 : decode cX7_goesDay 52 = .ok (.dup2, 1) := by decide +kernel
theorem dX7_goesDay_53 : decode cX7_goesDay 53 = .ok (.iaload, 1) := by decide +kernel
theorem dX7_goesDay_54 : decode cX7_goesDay 54 = .ok (.iconst 1, 1) := by decide +kernel
theorem dX7_goesDay_55 : decode cX7_goesDay 55 = .ok (.iadd, 1) := by decide +kernel
theorem dX7_goesDay_56 : decode cX7_goesDay 56 = .ok (.iastore, 1) := by decide +kernel
theorem dX7_goesDay_57 : decode cX7_goesDay 57 = .ok (.iinc 2 1, 3) := by decide +kernel
theorem dX7_goesDay_60 : decode cX7_goesDay 60 = .ok (.goto (-49), 3) := by decide +kernel
theorem dX7_goesDay_63 : decode cX7_goesDay 63 = .ok (.aload_n 0, 1) := by decide +kernel
theorem dX7_goesDay_64 : decode cX7_goesDay 64 = .ok (.dup, 1) := by decide +kernel
theorem dX7_goesDay_65 : decode cX7_goesDay 65 = .ok (.getfield 229, 3) := by decide +kernel
theorem dX7_goesDay_68 : decode cX7_goesDay 68 = .ok (.iconst 1, 1) := by decide +kernel
theorem dX7_goesDay_69 : decode cX7_goesDay 69 = .ok (.iadd, 1) := by decide +kernel
theorem dX7_goesDay_70 : decode cX7_goesDay 70 = .ok (.putfield 229, 3) := by decide +kernel
theorem dX7_goesDay_73 : decode cX7_goesDay 73 = .ok (.return_, 1) := by decide +kernel
theorem dX7_allWent_0 : decode cX7_allWent 0 = .ok (.iconst 0, 1) := by decide +kernel
theorem dX7_allWent_1 : decode cX7_allWent 1 = .ok (.istore_n 1, 1) := by decide +kernel
theorem dX7_allWent_2 : decode cX7_allWent 2 = .ok (.iconst 0, 1) := by decide +kernel
theorem dX7_allWent_3 : decode cX7_allWent 3 = .ok (.istore_n 2, 1) := by decide +kernel
theorem dX7_allWent_4 : decode cX7_allWent 4 = .ok (.iload_n 2, 1) := by decide +kernel
theorem dX7_allWent_5 : decode cX7_allWent 5 = .ok (.aload_n 0, 1) := by decide +kernel
theorem dX7_allWent_6 : decode cX7_allWent 6 = .ok (.getfield 108, 3) := by decide +kernel
theorem dX7_allWent_9 : decode cX7_allWent 9 = .ok (.if_icmp .ge 18, 3) := by decide +kernel
theorem dX7_allWent_12 : decode cX7_allWent 12 = .ok (.iload_n 1, 1) := by decide +kernel
theorem dX7_allWent_13 : decode cX7_allWent 13 = .ok (.aload_n 0, 1) := by decide +kernel
theorem dX7_allWent_14 : decode cX7_allWent 14 = .ok (.getfield 27, 3) := by decide +kernel
theorem dX7_allWent_17 : decode cX7_allWent 17 = .ok (.iload_n 2, 1) := by decide +kernel
theorem dX7_allWent_18 : decode cX7_allWent 18 = .ok (.iaload, 1) := by decide +kernel
theorem dX7_allWent_19 : decode cX7_allWent 19 = .ok (.iadd, 1) := by decide +kernel
theorem dX7_allWent_20 : decode cX7_allWent 20 = .ok (.istore_n 1, 1) := by decide +kernel
theorem dX7_allWent_21 : decode cX7_allWent 21 = .ok (.iinc 2 1, 3) := by decide +kernel
theorem dX7_allWent_24 : decode cX7_allWent 24 = .ok (.goto (-20), 3) := by decide +kernel
theorem dX7_allWent_27 : decode cX7_allWent 27 = .ok (.iload_n 1, 1) := by decide +kernel
theorem dX7_allWent_28 : decode cX7_allWent 28 = .ok (.ireturn, 1) := by decide +kernel
theorem dX7_allMissed_0 : decode cX7_allMissed 0 = .ok (.iconst 0, 1) := by decide +kernel
theorem dX7_allMissed_1 : decode cX7_allMissed 1 = .ok (.istore_n 1, 1) := by decide +kernel
theorem dX7_allMissed_2 : decode cX7_allMissed 2 = .ok (.iconst 0, 1) := by decide +kernel
theorem dX7_allMissed_3 : decode cX7_allMissed 3 = .ok (.istore_n 2, 1) := by decide +kernel
theorem dX7_allMissed_4 : decode cX7_allMissed 4 = .ok (.iload_n 2, 1) := by decide +kernel
theorem dX7_allMissed_5 : decode cX7_allMissed 5 = .ok (.aload_n 0, 1) := by decide +kernel
theorem dX7_allMissed_6 : decode cX7_allMissed 6 = .ok (.getfield 108, 3) := by decide +kernel
theorem dX7_allMissed_9 : decode cX7_allMissed 9 = .ok (.if_icmp .ge 18, 3) := by decide +kernel
theorem dX7_allMissed_12 : decode cX7_allMissed 12 = .ok (.iload_n 1, 1) := by decide +kernel
theorem dX7_allMissed_13 : decode cX7_allMissed 13 = .ok (.aload_n 0, 1) := by decide +kernel
theorem dX7_allMissed_14 : decode cX7_allMissed 14 = .ok (.getfield 30, 3) := by decide +kernel
theorem dX7_allMissed_17 : decode cX7_allMissed 17 = .ok (.iload_n 2, 1) := by decide +kernel
theorem dX7_allMissed_18 : decode cX7_allMissed 18 = .ok (.iaload, 1) := by decide +kernel
theorem dX7_allMissed_19 : decode cX7_allMissed 19 = .ok (.iadd, 1) := by decide +kernel
theorem dX7_allMissed_20 : decode cX7_allMissed 20 = .ok (.istore_n 1, 1) := by decide +kernel
theorem dX7_allMissed_21 : decode cX7_allMissed 21 = .ok (.iinc 2 1, 3) := by decide +kernel
theorem dX7_allMissed_24 : decode cX7_allMissed 24 = .ok (.goto (-20), 3) := by decide +kernel
theorem dX7_allMissed_27 : decode cX7_allMissed 27 = .ok (.iload_n 1, 1) := by decide +kernel
theorem dX7_allMissed_28 : decode cX7_allMissed 28 = .ok (.ireturn, 1) := by decide +kernel
theorem dX7_quiet_0 : decode cX7_quiet 0 = .ok (.iconst 0, 1) := by decide +kernel
theorem dX7_quiet_1 : decode cX7_quiet 1 = .ok (.istore_n 1, 1) := by decide +kernel
theorem dX7_quiet_2 : decode cX7_quiet 2 = .ok (.iload_n 1, 1) := by decide +kernel
theorem dX7_quiet_3 : decode cX7_quiet 3 = .ok (.sipush 1000, 3) := by decide +kernel
theorem dX7_quiet_6 : decode cX7_quiet 6 = .ok (.if_icmp .gt 24, 3) := by decide +kernel
theorem dX7_quiet_9 : decode cX7_quiet 9 = .ok (.aload_n 0, 1) := by decide +kernel
theorem dX7_quiet_10 : decode cX7_quiet 10 = .ok (.aload_n 0, 1) := by decide +kernel
theorem dX7_quiet_11 : decode cX7_quiet 11 = .ok (.getfield 229, 3) := by decide +kernel
theorem dX7_quiet_14 : decode cX7_quiet 14 = .ok (.iload_n 1, 1) := by decide +kernel
theorem dX7_quiet_15 : decode cX7_quiet 15 = .ok (.iadd, 1) := by decide +kernel
theorem dX7_quiet_16 : decode cX7_quiet 16 = .ok (.invokevirtual 235, 3) := by decide +kernel
theorem dX7_quiet_19 : decode cX7_quiet 19 = .ok (.ifCond .ne 5, 3) := by decide +kernel
theorem dX7_quiet_22 : decode cX7_quiet 22 = .ok (.iload_n 1, 1) := by decide +kernel
theorem dX7_quiet_23 : decode cX7_quiet 23 = .ok (.ireturn, 1) := by decide +kernel
theorem dX7_quiet_24 : decode cX7_quiet 24 = .ok (.iinc 1 1, 3) := by decide +kernel
theorem dX7_quiet_27 : decode cX7_quiet 27 = .ok (.goto (-25), 3) := by decide +kernel
theorem dX7_quiet_30 : decode cX7_quiet 30 = .ok (.bipush (-5), 2) := by decide +kernel
theorem dX7_quiet_32 : decode cX7_quiet 32 = .ok (.ireturn, 1) := by decide +kernel
theorem dX7_told_0 : decode cX7_told 0 = .ok (.iload_n 1, 1) := by decide +kernel
theorem dX7_told_1 : decode cX7_told 1 = .ok (.tableswitch 82 0 6 #[43, 48, 53, 58, 67, 72, 77], 43) := by decide +kernel
theorem dX7_told_44 : decode cX7_told 44 = .ok (.aload_n 0, 1) := by decide +kernel
theorem dX7_told_45 : decode cX7_told 45 = .ok (.getfield 229, 3) := by decide +kernel
theorem dX7_told_48 : decode cX7_told 48 = .ok (.ireturn, 1) := by decide +kernel
theorem dX7_told_49 : decode cX7_told 49 = .ok (.aload_n 0, 1) := by decide +kernel
theorem dX7_told_50 : decode cX7_told 50 = .ok (.invokevirtual 211, 3) := by decide +kernel
theorem dX7_told_53 : decode cX7_told 53 = .ok (.ireturn, 1) := by decide +kernel
theorem dX7_told_54 : decode cX7_told 54 = .ok (.aload_n 0, 1) := by decide +kernel
theorem dX7_told_55 : decode cX7_told 55 = .ok (.getfield 101, 3) := by decide +kernel
theorem dX7_told_58 : decode cX7_told 58 = .ok (.ireturn, 1) := by decide +kernel
theorem dX7_told_59 : decode cX7_told 59 = .ok (.aload_n 0, 1) := by decide +kernel
theorem dX7_told_60 : decode cX7_told 60 = .ok (.aload_n 0, 1) := by decide +kernel
theorem dX7_told_61 : decode cX7_told 61 = .ok (.getfield 229, 3) := by decide +kernel
theorem dX7_told_64 : decode cX7_told 64 = .ok (.invokevirtual 235, 3) := by decide +kernel
theorem dX7_told_67 : decode cX7_told 67 = .ok (.ireturn, 1) := by decide +kernel
theorem dX7_told_68 : decode cX7_told 68 = .ok (.aload_n 0, 1) := by decide +kernel
theorem dX7_told_69 : decode cX7_told 69 = .ok (.invokevirtual 241, 3) := by decide +kernel
theorem dX7_told_72 : decode cX7_told 72 = .ok (.ireturn, 1) := by decide +kernel
theorem dX7_told_73 : decode cX7_told 73 = .ok (.aload_n 0, 1) := by decide +kernel
theorem dX7_told_74 : decode cX7_told 74 = .ok (.invokevirtual 244, 3) := by decide +kernel
theorem dX7_told_77 : decode cX7_told 77 = .ok (.ireturn, 1) := by decide +kernel
theorem dX7_told_78 : decode cX7_told 78 = .ok (.aload_n 0, 1) := by decide +kernel
theorem dX7_told_79 : decode cX7_told 79 = .ok (.invokevirtual 247, 3) := by decide +kernel
theorem dX7_told_82 : decode cX7_told 82 = .ok (.ireturn, 1) := by decide +kernel
theorem dX7_told_83 : decode cX7_told 83 = .ok (.iconst (-1), 1) := by decide +kernel
theorem dX7_told_84 : decode cX7_told 84 = .ok (.ireturn, 1) := by decide +kernel
theorem dX7_pass_0 : decode cX7_pass 0 = .ok (.iload_n 1, 1) := by decide +kernel
theorem dX7_pass_1 : decode cX7_pass 1 = .ok (.iconst 0, 1) := by decide +kernel
theorem dX7_pass_2 : decode cX7_pass 2 = .ok (.bipush 60, 2) := by decide +kernel
theorem dX7_pass_4 : decode cX7_pass 4 = .ok (.invokestatic 111, 3) := by decide +kernel
theorem dX7_pass_7 : decode cX7_pass 7 = .ok (.ifCond .ne 6, 3) := by decide +kernel
theorem dX7_pass_10 : decode cX7_pass 10 = .ok (.bipush (-2), 2) := by decide +kernel
theorem dX7_pass_12 : decode cX7_pass 12 = .ok (.ireturn, 1) := by decide +kernel
theorem dX7_pass_13 : decode cX7_pass 13 = .ok (.aload_n 0, 1) := by decide +kernel
theorem dX7_pass_14 : decode cX7_pass 14 = .ok (.getfield 229, 3) := by decide +kernel
theorem dX7_pass_17 : decode cX7_pass 17 = .ok (.iload_n 1, 1) := by decide +kernel
theorem dX7_pass_18 : decode cX7_pass 18 = .ok (.iadd, 1) := by decide +kernel
theorem dX7_pass_19 : decode cX7_pass 19 = .ok (.ldc 250, 2) := by decide +kernel
theorem dX7_pass_21 : decode cX7_pass 21 = .ok (.if_icmp .le 6, 3) := by decide +kernel
theorem dX7_pass_24 : decode cX7_pass 24 = .ok (.bipush (-3), 2) := by decide +kernel
theorem dX7_pass_26 : decode cX7_pass 26 = .ok (.ireturn, 1) := by decide +kernel
theorem dX7_pass_27 : decode cX7_pass 27 = .ok (.iconst 0, 1) := by decide +kernel
theorem dX7_pass_28 : decode cX7_pass 28 = .ok (.istore_n 2, 1) := by decide +kernel
theorem dX7_pass_29 : decode cX7_pass 29 = .ok (.iload_n 2, 1) := by decide +kernel
theorem dX7_pass_30 : decode cX7_pass 30 = .ok (.iload_n 1, 1) := by decide +kernel
theorem dX7_pass_31 : decode cX7_pass 31 = .ok (.if_icmp .ge 65, 3) := by decide +kernel
theorem dX7_pass_34 : decode cX7_pass 34 = .ok (.aload_n 0, 1) := by decide +kernel
theorem dX7_pass_35 : decode cX7_pass 35 = .ok (.invokevirtual 251, 3) := by decide +kernel
theorem dX7_pass_38 : decode cX7_pass 38 = .ok (.iconst 0, 1) := by decide +kernel
theorem dX7_pass_39 : decode cX7_pass 39 = .ok (.istore_n 3, 1) := by decide +kernel
theorem dX7_pass_40 : decode cX7_pass 40 = .ok (.iload_n 3, 1) := by decide +kernel
theorem dX7_pass_41 : decode cX7_pass 41 = .ok (.aload_n 0, 1) := by decide +kernel
theorem dX7_pass_42 : decode cX7_pass 42 = .ok (.getfield 108, 3) := by decide +kernel
theorem dX7_pass_45 : decode cX7_pass 45 = .ok (.if_icmp .ge 45, 3) := by decide +kernel
theorem dX7_pass_48 : decode cX7_pass 48 = .ok (.aload_n 0, 1) := by decide +kernel
theorem dX7_pass_49 : decode cX7_pass 49 = .ok (.getfield 27, 3) := by decide +kernel
theorem dX7_pass_52 : decode cX7_pass 52 = .ok (.iload_n 3, 1) := by decide +kernel
theorem dX7_pass_53 : decode cX7_pass 53 = .ok (.sipush 9999, 3) := by decide +kernel
theorem dX7_pass_56 : decode cX7_pass 56 = .ok (.aload_n 0, 1) := by decide +kernel
theorem dX7_pass_57 : decode cX7_pass 57 = .ok (.getfield 27, 3) := by decide +kernel
theorem dX7_pass_60 : decode cX7_pass 60 = .ok (.iload_n 3, 1) := by decide +kernel
theorem dX7_pass_61 : decode cX7_pass 61 = .ok (.iaload, 1) := by decide +kernel
theorem dX7_pass_62 : decode cX7_pass 62 = .ok (.invokestatic 254, 3) := by decide +kernel
theorem dX7_pass_65 : decode cX7_pass 65 = .ok (.iastore, 1) := by decide +kernel
theorem dX7_pass_66 : decode cX7_pass 66 = .ok (.aload_n 0, 1) := by decide +kernel
theorem dX7_pass_67 : decode cX7_pass 67 = .ok (.getfield 30, 3) := by decide +kernel
theorem dX7_pass_70 : decode cX7_pass 70 = .ok (.iload_n 3, 1) := by decide +kernel
theorem dX7_pass_71 : decode cX7_pass 71 = .ok (.sipush 9999, 3) := by decide +kernel
theorem dX7_pass_74 : decode cX7_pass 74 = .ok (.aload_n 0, 1) := by decide +kernel
theorem dX7_pass_75 : decode cX7_pass 75 = .ok (.getfield 30, 3) := by decide +kernel
theorem dX7_pass_78 : decode cX7_pass 78 = .ok (.iload_n 3, 1) := by decide +kernel
theorem dX7_pass_79 : decode cX7_pass 79 = .ok (.iaload, 1) := by decide +kernel
theorem dX7_pass_80 : decode cX7_pass 80 = .ok (.invokestatic 254, 3) := by decide +kernel
theorem dX7_pass_83 : decode cX7_pass 83 = .ok (.iastore, 1) := by decide +kernel
theorem dX7_pass_84 : decode cX7_pass 84 = .ok (.iinc 3 1, 3) := by decide +kernel
theorem dX7_pass_87 : decode cX7_pass 87 = .ok (.goto (-47), 3) := by decide +kernel
theorem dX7_pass_90 : decode cX7_pass 90 = .ok (.iinc 2 1, 3) := by decide +kernel
theorem dX7_pass_93 : decode cX7_pass 93 = .ok (.goto (-64), 3) := by decide +kernel
theorem dX7_pass_96 : decode cX7_pass 96 = .ok (.aload_n 0, 1) := by decide +kernel
theorem dX7_pass_97 : decode cX7_pass 97 = .ok (.getfield 229, 3) := by decide +kernel
theorem dX7_pass_100 : decode cX7_pass 100 = .ok (.ireturn, 1) := by decide +kernel
theorem dX7_on_0 : decode cX7_on 0 = .ok (.iload_n 2, 1) := by decide +kernel
theorem dX7_on_1 : decode cX7_on 1 = .ok (.iconst 0, 1) := by decide +kernel
theorem dX7_on_2 : decode cX7_on 2 = .ok (.iconst 2, 1) := by decide +kernel
theorem dX7_on_3 : decode cX7_on 3 = .ok (.invokestatic 111, 3) := by decide +kernel
theorem dX7_on_6 : decode cX7_on 6 = .ok (.ifCond .ne 16, 3) := by decide +kernel
theorem dX7_on_9 : decode cX7_on 9 = .ok (.aload_n 0, 1) := by decide +kernel
theorem dX7_on_10 : decode cX7_on 10 = .ok (.iload_n 2, 1) := by decide +kernel
theorem dX7_on_11 : decode cX7_on 11 = .ok (.bipush 10, 2) := by decide +kernel
theorem dX7_on_13 : decode cX7_on 13 = .ok (.isub, 1) := by decide +kernel
theorem dX7_on_14 : decode cX7_on 14 = .ok (.invokevirtual 115, 3) := by decide +kernel
theorem dX7_on_17 : decode cX7_on 17 = .ok (.ifCond .ne 5, 3) := by decide +kernel
theorem dX7_on_20 : decode cX7_on 20 = .ok (.iconst (-1), 1) := by decide +kernel
theorem dX7_on_21 : decode cX7_on 21 = .ok (.ireturn, 1) := by decide +kernel
theorem dX7_on_22 : decode cX7_on 22 = .ok (.iload_n 1, 1) := by decide +kernel
theorem dX7_on_23 : decode cX7_on 23 = .ok (.iconst 0, 1) := by decide +kernel
theorem dX7_on_24 : decode cX7_on 24 = .ok (.bipush 60, 2) := by decide +kernel
theorem dX7_on_26 : decode cX7_on 26 = .ok (.invokestatic 111, 3) := by decide +kernel
theorem dX7_on_29 : decode cX7_on 29 = .ok (.ifCond .ne 6, 3) := by decide +kernel
theorem dX7_on_32 : decode cX7_on 32 = .ok (.bipush (-2), 2) := by decide +kernel
theorem dX7_on_34 : decode cX7_on 34 = .ok (.ireturn, 1) := by decide +kernel
theorem dX7_on_35 : decode cX7_on 35 = .ok (.aload_n 0, 1) := by decide +kernel
theorem dX7_on_36 : decode cX7_on 36 = .ok (.aload_n 0, 1) := by decide +kernel
theorem dX7_on_37 : decode cX7_on 37 = .ok (.getfield 88, 3) := by decide +kernel
theorem dX7_on_40 : decode cX7_on 40 = .ok (.invokevirtual 257, 3) := by decide +kernel
theorem dX7_on_43 : decode cX7_on 43 = .ok (.iconst 0, 1) := by decide +kernel
theorem dX7_on_44 : decode cX7_on 44 = .ok (.istore_n 3, 1) := by decide +kernel
theorem dX7_on_45 : decode cX7_on 45 = .ok (.iload_n 3, 1) := by decide +kernel
theorem dX7_on_46 : decode cX7_on 46 = .ok (.iload_n 1, 1) := by decide +kernel
theorem dX7_on_47 : decode cX7_on 47 = .ok (.if_icmp .ge 13, 3) := by decide +kernel
theorem dX7_on_50 : decode cX7_on 50 = .ok (.aload_n 0, 1) := by decide +kernel
theorem dX7_on_51 : decode cX7_on 51 = .ok (.invokevirtual 251, 3) := by decide +kernel
theorem dX7_on_54 : decode cX7_on 54 = .ok (.iinc 3 1, 3) := by decide +kernel
theorem dX7_on_57 : decode cX7_on 57 = .ok (.goto (-12), 3) := by decide +kernel
theorem dX7_on_60 : decode cX7_on 60 = .ok (.iload_n 2, 1) := by decide +kernel
theorem dX7_on_61 : decode cX7_on 61 = .ok (.ifCond .ne 14, 3) := by decide +kernel
theorem dX7_on_64 : decode cX7_on 64 = .ok (.aload_n 0, 1) := by decide +kernel
theorem dX7_on_65 : decode cX7_on 65 = .ok (.aload_n 0, 1) := by decide +kernel
theorem dX7_on_66 : decode cX7_on 66 = .ok (.getfield 229, 3) := by decide +kernel
theorem dX7_on_69 : decode cX7_on 69 = .ok (.invokevirtual 235, 3) := by decide +kernel
theorem dX7_on_72 : decode cX7_on 72 = .ok (.goto 36, 3) := by decide +kernel
theorem dX7_on_75 : decode cX7_on 75 = .ok (.iload_n 2, 1) := by decide +kernel
theorem dX7_on_76 : decode cX7_on 76 = .ok (.iconst 1, 1) := by decide +kernel
theorem dX7_on_77 : decode cX7_on 77 = .ok (.if_icmp .ne 10, 3) := by decide +kernel
theorem dX7_on_80 : decode cX7_on 80 = .ok (.aload_n 0, 1) := by decide +kernel
theorem dX7_on_81 : decode cX7_on 81 = .ok (.invokevirtual 244, 3) := by decide +kernel
theorem dX7_on_84 : decode cX7_on 84 = .ok (.goto 24, 3) := by decide +kernel
theorem dX7_on_87 : decode cX7_on 87 = .ok (.iload_n 2, 1) := by decide +kernel
theorem dX7_on_88 : decode cX7_on 88 = .ok (.iconst 2, 1) := by decide +kernel
theorem dX7_on_89 : decode cX7_on 89 = .ok (.if_icmp .ne 10, 3) := by decide +kernel
theorem dX7_on_92 : decode cX7_on 92 = .ok (.aload_n 0, 1) := by decide +kernel
theorem dX7_on_93 : decode cX7_on 93 = .ok (.invokevirtual 247, 3) := by decide +kernel
theorem dX7_on_96 : decode cX7_on 96 = .ok (.goto 12, 3) := by decide +kernel
theorem dX7_on_99 : decode cX7_on 99 = .ok (.aload_n 0, 1) := by decide +kernel
theorem dX7_on_100 : decode cX7_on 100 = .ok (.getfield 27, 3) := by decide +kernel
theorem dX7_on_103 : decode cX7_on 103 = .ok (.iload_n 2, 1) := by decide +kernel
theorem dX7_on_104 : decode cX7_on 104 = .ok (.bipush 10, 2) := by decide +kernel
theorem dX7_on_106 : decode cX7_on 106 = .ok (.isub, 1) := by decide +kernel
theorem dX7_on_107 : decode cX7_on 107 = .ok (.iaload, 1) := by decide +kernel
theorem dX7_on_108 : decode cX7_on 108 = .ok (.istore_n 3, 1) := by decide +kernel
theorem dX7_on_109 : decode cX7_on 109 = .ok (.aload_n 0, 1) := by decide +kernel
theorem dX7_on_110 : decode cX7_on 110 = .ok (.aload_n 0, 1) := by decide +kernel
theorem dX7_on_111 : decode cX7_on 111 = .ok (.getfield 88, 3) := by decide +kernel
theorem dX7_on_114 : decode cX7_on 114 = .ok (.invokevirtual 261, 3) := by decide +kernel
theorem dX7_on_117 : decode cX7_on 117 = .ok (.iload_n 3, 1) := by decide +kernel
theorem dX7_on_118 : decode cX7_on 118 = .ok (.ireturn, 1) := by decide +kernel
theorem dX7_often_0 : decode cX7_often 0 = .ok (.aload_n 0, 1) := by decide +kernel
theorem dX7_often_1 : decode cX7_often 1 = .ok (.iload_n 1, 1) := by decide +kernel
theorem dX7_often_2 : decode cX7_often 2 = .ok (.invokevirtual 115, 3) := by decide +kernel
theorem dX7_often_5 : decode cX7_often 5 = .ok (.ifCond .eq 17, 3) := by decide +kernel
theorem dX7_often_8 : decode cX7_often 8 = .ok (.lload_n 2, 1) := by decide +kernel
theorem dX7_often_9 : decode cX7_often 9 = .ok (.lconst 0, 1) := by decide +kernel
theorem dX7_often_10 : decode cX7_often 10 = .ok (.lcmp, 1) := by decide +kernel
theorem dX7_often_11 : decode cX7_often 11 = .ok (.ifCond .lt 11, 3) := by decide +kernel
theorem dX7_often_14 : decode cX7_often 14 = .ok (.lload_n 2, 1) := by decide +kernel
theorem dX7_often_15 : decode cX7_often 15 = .ok (.ldc2_w 264, 3) := by decide +kernel
theorem dX7_often_18 : decode cX7_often 18 = .ok (.lcmp, 1) := by decide +kernel
theorem dX7_often_19 : decode cX7_often 19 = .ok (.ifCond .le 7, 3) := by decide +kernel
theorem dX7_often_22 : decode cX7_often 22 = .ok (.ldc2_w 266, 3) := by decide +kernel
theorem dX7_often_25 : decode cX7_often 25 = .ok (.lreturn, 1) := by decide +kernel
theorem dX7_often_26 : decode cX7_often 26 = .ok (.lload_n 2, 1) := by decide +kernel
theorem dX7_often_27 : decode cX7_often 27 = .ok (.aload_n 0, 1) := by decide +kernel
theorem dX7_often_28 : decode cX7_often 28 = .ok (.iload_n 1, 1) := by decide +kernel
theorem dX7_often_29 : decode cX7_often 29 = .ok (.invokevirtual 126, 3) := by decide +kernel
theorem dX7_often_32 : decode cX7_often 32 = .ok (.i2l, 1) := by decide +kernel
theorem dX7_often_33 : decode cX7_often 33 = .ok (.lsub, 1) := by decide +kernel
theorem dX7_often_34 : decode cX7_often 34 = .ok (.lstore 4, 2) := by decide +kernel
theorem dX7_often_36 : decode cX7_often 36 = .ok (.aload_n 0, 1) := by decide +kernel
theorem dX7_often_37 : decode cX7_often 37 = .ok (.getfield 24, 3) := by decide +kernel
theorem dX7_often_40 : decode cX7_often 40 = .ok (.iload_n 1, 1) := by decide +kernel
theorem dX7_often_41 : decode cX7_often 41 = .ok (.iaload, 1) := by decide +kernel
theorem dX7_often_42 : decode cX7_often 42 = .ok (.iconst 1, 1) := by decide +kernel
theorem dX7_often_43 : decode cX7_often 43 = .ok (.if_icmp .eq 10, 3) := by decide +kernel
theorem dX7_often_46 : decode cX7_often 46 = .ok (.lload 4, 2) := by decide +kernel
theorem dX7_often_48 : decode cX7_often 48 = .ok (.lconst 0, 1) := by decide +kernel
theorem dX7_often_49 : decode cX7_often 49 = .ok (.lcmp, 1) := by decide +kernel
theorem dX7_often_50 : decode cX7_often 50 = .ok (.ifCond .gt 7, 3) := by decide +kernel
theorem dX7_often_53 : decode cX7_often 53 = .ok (.lconst 0, 1) := by decide +kernel
theorem dX7_often_54 : decode cX7_often 54 = .ok (.goto 21, 3) := by decide +kernel
theorem dX7_often_57 : decode cX7_often 57 = .ok (.lload 4, 2) := by decide +kernel
theorem dX7_often_59 : decode cX7_often 59 = .ok (.aload_n 0, 1) := by decide +kernel
theorem dX7_often_60 : decode cX7_often 60 = .ok (.iload_n 1, 1) := by decide +kernel
theorem dX7_often_61 : decode cX7_often 61 = .ok (.invokevirtual 119, 3) := by decide +kernel
theorem dX7_often_64 : decode cX7_often 64 = .ok (.i2l, 1) := by decide +kernel
theorem dX7_often_65 : decode cX7_often 65 = .ok (.ladd, 1) := by decide +kernel
theorem dX7_often_66 : decode cX7_often 66 = .ok (.lconst 1, 1) := by decide +kernel
theorem dX7_often_67 : decode cX7_often 67 = .ok (.lsub, 1) := by decide +kernel
theorem dX7_often_68 : decode cX7_often 68 = .ok (.aload_n 0, 1) := by decide +kernel
theorem dX7_often_69 : decode cX7_often 69 = .ok (.iload_n 1, 1) := by decide +kernel
theorem dX7_often_70 : decode cX7_often 70 = .ok (.invokevirtual 119, 3) := by decide +kernel
theorem dX7_often_73 : decode cX7_often 73 = .ok (.i2l, 1) := by decide +kernel
theorem dX7_often_74 : decode cX7_often 74 = .ok (.ldiv, 1) := by decide +kernel
theorem dX7_often_75 : decode cX7_often 75 = .ok (.lreturn, 1) := by decide +kernel
theorem dX7_gcd_0 : decode cX7_gcd 0 = .ok (.lload_n 0, 1) := by decide +kernel
theorem dX7_gcd_1 : decode cX7_gcd 1 = .ok (.lstore 4, 2) := by decide +kernel
theorem dX7_gcd_3 : decode cX7_gcd 3 = .ok (.lload_n 2, 1) := by decide +kernel
theorem dX7_gcd_4 : decode cX7_gcd 4 = .ok (.lstore 6, 2) := by decide +kernel
theorem dX7_gcd_6 : decode cX7_gcd 6 = .ok (.lload 6, 2) := by decide +kernel
theorem dX7_gcd_8 : decode cX7_gcd 8 = .ok (.lconst 0, 1) := by decide +kernel
theorem dX7_gcd_9 : decode cX7_gcd 9 = .ok (.lcmp, 1) := by decide +kernel
theorem dX7_gcd_10 : decode cX7_gcd 10 = .ok (.ifCond .eq 21, 3) := by decide +kernel
theorem dX7_gcd_13 : decode cX7_gcd 13 = .ok (.lload 4, 2) := by decide +kernel
theorem dX7_gcd_15 : decode cX7_gcd 15 = .ok (.lload 6, 2) := by decide +kernel
theorem dX7_gcd_17 : decode cX7_gcd 17 = .ok (.lrem, 1) := by decide +kernel
theorem dX7_gcd_18 : decode cX7_gcd 18 = .ok (.lstore 8, 2) := by decide +kernel
theorem dX7_gcd_20 : decode cX7_gcd 20 = .ok (.lload 6, 2) := by decide +kernel
theorem dX7_gcd_22 : decode cX7_gcd 22 = .ok (.lstore 4, 2) := by decide +kernel
theorem dX7_gcd_24 : decode cX7_gcd 24 = .ok (.lload 8, 2) := by decide +kernel
theorem dX7_gcd_26 : decode cX7_gcd 26 = .ok (.lstore 6, 2) := by decide +kernel
theorem dX7_gcd_28 : decode cX7_gcd 28 = .ok (.goto (-22), 3) := by decide +kernel
theorem dX7_gcd_31 : decode cX7_gcd 31 = .ok (.lload 4, 2) := by decide +kernel
theorem dX7_gcd_33 : decode cX7_gcd 33 = .ok (.lreturn, 1) := by decide +kernel
theorem dX7_first_0 : decode cX7_first 0 = .ok (.lconst 0, 1) := by decide +kernel
theorem dX7_first_1 : decode cX7_first 1 = .ok (.lstore_n 2, 1) := by decide +kernel
theorem dX7_first_2 : decode cX7_first 2 = .ok (.lconst 1, 1) := by decide +kernel
theorem dX7_first_3 : decode cX7_first 3 = .ok (.lstore 4, 2) := by decide +kernel
theorem dX7_first_5 : decode cX7_first 5 = .ok (.iconst 0, 1) := by decide +kernel
theorem dX7_first_6 : decode cX7_first 6 = .ok (.istore 6, 2) := by decide +kernel
theorem dX7_first_8 : decode cX7_first 8 = .ok (.iload 6, 2) := by decide +kernel
theorem dX7_first_10 : decode cX7_first 10 = .ok (.aload_n 0, 1) := by decide +kernel
theorem dX7_first_11 : decode cX7_first 11 = .ok (.getfield 108, 3) := by decide +kernel
theorem dX7_first_14 : decode cX7_first 14 = .ok (.if_icmp .ge 110, 3) := by decide +kernel
theorem dX7_first_17 : decode cX7_first 17 = .ok (.iload_n 1, 1) := by decide +kernel
theorem dX7_first_18 : decode cX7_first 18 = .ok (.iload 6, 2) := by decide +kernel
theorem dX7_first_20 : decode cX7_first 20 = .ok (.ishr, 1) := by decide +kernel
theorem dX7_first_21 : decode cX7_first 21 = .ok (.iconst 1, 1) := by decide +kernel
theorem dX7_first_22 : decode cX7_first 22 = .ok (.iand, 1) := by decide +kernel
theorem dX7_first_23 : decode cX7_first 23 = .ok (.ifCond .ne 6, 3) := by decide +kernel
theorem dX7_first_26 : decode cX7_first 26 = .ok (.goto 92, 3) := by decide +kernel
theorem dX7_first_29 : decode cX7_first 29 = .ok (.aload_n 0, 1) := by decide +kernel
theorem dX7_first_30 : decode cX7_first 30 = .ok (.getfield 24, 3) := by decide +kernel
theorem dX7_first_33 : decode cX7_first 33 = .ok (.iload 6, 2) := by decide +kernel
theorem dX7_first_35 : decode cX7_first 35 = .ok (.iaload, 1) := by decide +kernel
theorem dX7_first_36 : decode cX7_first 36 = .ok (.iconst 1, 1) := by decide +kernel
theorem dX7_first_37 : decode cX7_first 37 = .ok (.if_icmp .ne 7, 3) := by decide +kernel
theorem dX7_first_40 : decode cX7_first 40 = .ok (.ldc2_w 268, 3) := by decide +kernel
theorem dX7_first_43 : decode cX7_first 43 = .ok (.lreturn, 1) := by decide +kernel
theorem dX7_first_44 : decode cX7_first 44 = .ok (.aload_n 0, 1) := by decide +kernel
theorem dX7_first_45 : decode cX7_first 45 = .ok (.iload 6, 2) := by decide +kernel
theorem dX7_first_47 : decode cX7_first 47 = .ok (.invokevirtual 119, 3) := by decide +kernel
theorem dX7_first_50 : decode cX7_first 50 = .ok (.istore 7, 2) := by decide +kernel
theorem dX7_first_52 : decode cX7_first 52 = .ok (.iconst 0, 1) := by decide +kernel
theorem dX7_first_53 : decode cX7_first 53 = .ok (.istore 8, 2) := by decide +kernel
theorem dX7_first_55 : decode cX7_first 55 = .ok (.iload 8, 2) := by decide +kernel
theorem dX7_first_57 : decode cX7_first 57 = .ok (.iload 7, 2) := by decide +kernel
theorem dX7_first_59 : decode cX7_first 59 = .ok (.if_icmp .gt 31, 3) := by decide +kernel
theorem dX7_first_62 : decode cX7_first 62 = .ok (.lload_n 2, 1) := by decide +kernel
theorem dX7_first_63 : decode cX7_first 63 = .ok (.aload_n 0, 1) := by decide +kernel
theorem dX7_first_64 : decode cX7_first 64 = .ok (.iload 6, 2) := by decide +kernel
theorem dX7_first_66 : decode cX7_first 66 = .ok (.invokevirtual 126, 3) := by decide +kernel
theorem dX7_first_69 : decode cX7_first 69 = .ok (.i2l, 1) := by decide +kernel
theorem dX7_first_70 : decode cX7_first 70 = .ok (.lsub, 1) := by decide +kernel
theorem dX7_first_71 : decode cX7_first 71 = .ok (.iload 7, 2) := by decide +kernel
theorem dX7_first_73 : decode cX7_first 73 = .ok (.invokestatic 270, 3) := by decide +kernel
theorem dX7_first_76 : decode cX7_first 76 = .ok (.ifCond .eq 14, 3) := by decide +kernel
theorem dX7_first_79 : decode cX7_first 79 = .ok (.lload_n 2, 1) := by decide +kernel
theorem dX7_first_80 : decode cX7_first 80 = .ok (.lload 4, 2) := by decide +kernel
theorem dX7_first_82 : decode cX7_first 82 = .ok (.ladd, 1) := by decide +kernel
theorem dX7_first_83 : decode cX7_first 83 = .ok (.lstore_n 2, 1) := by decide +kernel
theorem dX7_first_84 : decode cX7_first 84 = .ok (.iinc 8 1, 3) := by decide +kernel
theorem dX7_first_87 : decode cX7_first 87 = .ok (.goto (-32), 3) := by decide +kernel
theorem dX7_first_90 : decode cX7_first 90 = .ok (.iload 8, 2) := by decide +kernel
theorem dX7_first_92 : decode cX7_first 92 = .ok (.iload 7, 2) := by decide +kernel
theorem dX7_first_94 : decode cX7_first 94 = .ok (.if_icmp .le 7, 3) := by decide +kernel
theorem dX7_first_97 : decode cX7_first 97 = .ok (.ldc2_w 268, 3) := by decide +kernel
theorem dX7_first_100 : decode cX7_first 100 = .ok (.lreturn, 1) := by decide +kernel
theorem dX7_first_101 : decode cX7_first 101 = .ok (.lload 4, 2) := by decide +kernel
theorem dX7_first_103 : decode cX7_first 103 = .ok (.lload 4, 2) := by decide +kernel
theorem dX7_first_105 : decode cX7_first 105 = .ok (.iload 7, 2) := by decide +kernel
theorem dX7_first_107 : decode cX7_first 107 = .ok (.i2l, 1) := by decide +kernel
theorem dX7_first_108 : decode cX7_first 108 = .ok (.invokestatic 273, 3) := by decide +kernel
theorem dX7_first_111 : decode cX7_first 111 = .ok (.ldiv, 1) := by decide +kernel
theorem dX7_first_112 : decode cX7_first 112 = .ok (.iload 7, 2) := by decide +kernel
theorem dX7_first_114 : decode cX7_first 114 = .ok (.i2l, 1) := by decide +kernel
theorem dX7_first_115 : decode cX7_first 115 = .ok (.lmul, 1) := by decide +kernel
theorem dX7_first_116 : decode cX7_first 116 = .ok (.lstore 4, 2) := by decide +kernel
theorem dX7_first_118 : decode cX7_first 118 = .ok (.iinc 6 1, 3) := by decide +kernel
theorem dX7_first_121 : decode cX7_first 121 = .ok (.goto (-113), 3) := by decide +kernel
theorem dX7_first_124 : decode cX7_first 124 = .ok (.lload_n 2, 1) := by decide +kernel
theorem dX7_first_125 : decode cX7_first 125 = .ok (.lreturn, 1) := by decide +kernel
theorem dX7_common_0 : decode cX7_common 0 = .ok (.lconst 1, 1) := by decide +kernel
theorem dX7_common_1 : decode cX7_common 1 = .ok (.lstore_n 2, 1) := by decide +kernel
theorem dX7_common_2 : decode cX7_common 2 = .ok (.iconst 0, 1) := by decide +kernel
theorem dX7_common_3 : decode cX7_common 3 = .ok (.istore 4, 2) := by decide +kernel
theorem dX7_common_5 : decode cX7_common 5 = .ok (.iload 4, 2) := by decide +kernel
theorem dX7_common_7 : decode cX7_common 7 = .ok (.aload_n 0, 1) := by decide +kernel
theorem dX7_common_8 : decode cX7_common 8 = .ok (.getfield 108, 3) := by decide +kernel
theorem dX7_common_11 : decode cX7_common 11 = .ok (.if_icmp .ge 41, 3) := by decide +kernel
theorem dX7_common_14 : decode cX7_common 14 = .ok (.iload_n 1, 1) := by decide +kernel
theorem dX7_common_15 : decode cX7_common 15 = .ok (.iload 4, 2) := by decide +kernel
theorem dX7_common_17 : decode cX7_common 17 = .ok (.ishr, 1) := by decide +kernel
theorem dX7_common_18 : decode cX7_common 18 = .ok (.iconst 1, 1) := by decide +kernel
theorem dX7_common_19 : decode cX7_common 19 = .ok (.iand, 1) := by decide +kernel
theorem dX7_common_20 : decode cX7_common 20 = .ok (.iconst 1, 1) := by decide +kernel
theorem dX7_common_21 : decode cX7_common 21 = .ok (.if_icmp .ne 25, 3) := by decide +kernel
theorem dX7_common_24 : decode cX7_common 24 = .ok (.lload_n 2, 1) := by decide +kernel
theorem dX7_common_25 : decode cX7_common 25 = .ok (.lload_n 2, 1) := by decide +kernel
theorem dX7_common_26 : decode cX7_common 26 = .ok (.aload_n 0, 1) := by decide +kernel
theorem dX7_common_27 : decode cX7_common 27 = .ok (.iload 4, 2) := by decide +kernel
theorem dX7_common_29 : decode cX7_common 29 = .ok (.invokevirtual 119, 3) := by decide +kernel
theorem dX7_common_32 : decode cX7_common 32 = .ok (.i2l, 1) := by decide +kernel
theorem dX7_common_33 : decode cX7_common 33 = .ok (.invokestatic 273, 3) := by decide +kernel
theorem dX7_common_36 : decode cX7_common 36 = .ok (.ldiv, 1) := by decide +kernel
theorem dX7_common_37 : decode cX7_common 37 = .ok (.aload_n 0, 1) := by decide +kernel
theorem dX7_common_38 : decode cX7_common 38 = .ok (.iload 4, 2) := by decide +kernel
theorem dX7_common_40 : decode cX7_common 40 = .ok (.invokevirtual 119, 3) := by decide +kernel
theorem dX7_common_43 : decode cX7_common 43 = .ok (.i2l, 1) := by decide +kernel
theorem dX7_common_44 : decode cX7_common 44 = .ok (.lmul, 1) := by decide +kernel
theorem dX7_common_45 : decode cX7_common 45 = .ok (.lstore_n 2, 1) := by decide +kernel
theorem dX7_common_46 : decode cX7_common 46 = .ok (.iinc 4 1, 3) := by decide +kernel
theorem dX7_common_49 : decode cX7_common 49 = .ok (.goto (-44), 3) := by decide +kernel
theorem dX7_common_52 : decode cX7_common 52 = .ok (.lload_n 2, 1) := by decide +kernel
theorem dX7_common_53 : decode cX7_common 53 = .ok (.lreturn, 1) := by decide +kernel
theorem dX7_together_0 : decode cX7_together 0 = .ok (.iload_n 1, 1) := by decide +kernel
theorem dX7_together_1 : decode cX7_together 1 = .ok (.ifCond .lt 22, 3) := by decide +kernel
theorem dX7_together_4 : decode cX7_together 4 = .ok (.iload_n 1, 1) := by decide +kernel
theorem dX7_together_5 : decode cX7_together 5 = .ok (.iconst 1, 1) := by decide +kernel
theorem dX7_together_6 : decode cX7_together 6 = .ok (.aload_n 0, 1) := by decide +kernel
theorem dX7_together_7 : decode cX7_together 7 = .ok (.getfield 108, 3) := by decide +kernel
theorem dX7_together_10 : decode cX7_together 10 = .ok (.ishl, 1) := by decide +kernel
theorem dX7_together_11 : decode cX7_together 11 = .ok (.if_icmp .ge 12, 3) := by decide +kernel
theorem dX7_together_14 : decode cX7_together 14 = .ok (.iload_n 2, 1) := by decide +kernel
theorem dX7_together_15 : decode cX7_together 15 = .ok (.iconst 0, 1) := by decide +kernel
theorem dX7_together_16 : decode cX7_together 16 = .ok (.iconst 1, 1) := by decide +kernel
theorem dX7_together_17 : decode cX7_together 17 = .ok (.invokestatic 111, 3) := by decide +kernel
theorem dX7_together_20 : decode cX7_together 20 = .ok (.ifCond .ne 7, 3) := by decide +kernel
theorem dX7_together_23 : decode cX7_together 23 = .ok (.ldc2_w 266, 3) := by decide +kernel
theorem dX7_together_26 : decode cX7_together 26 = .ok (.lreturn, 1) := by decide +kernel
theorem dX7_together_27 : decode cX7_together 27 = .ok (.aload_n 0, 1) := by decide +kernel
theorem dX7_together_28 : decode cX7_together 28 = .ok (.iload_n 1, 1) := by decide +kernel
theorem dX7_together_29 : decode cX7_together 29 = .ok (.invokevirtual 277, 3) := by decide +kernel
theorem dX7_together_32 : decode cX7_together 32 = .ok (.lstore_n 3, 1) := by decide +kernel
theorem dX7_together_33 : decode cX7_together 33 = .ok (.lload_n 3, 1) := by decide +kernel
theorem dX7_together_34 : decode cX7_together 34 = .ok (.lconst 0, 1) := by decide +kernel
theorem dX7_together_35 : decode cX7_together 35 = .ok (.lcmp, 1) := by decide +kernel
theorem dX7_together_36 : decode cX7_together 36 = .ok (.ifCond .ge 9, 3) := by decide +kernel
theorem dX7_together_39 : decode cX7_together 39 = .ok (.ldc2_w 268, 3) := by decide +kernel
theorem dX7_together_42 : decode cX7_together 42 = .ok (.goto 22, 3) := by decide +kernel
theorem dX7_together_45 : decode cX7_together 45 = .ok (.iload_n 2, 1) := by decide +kernel
theorem dX7_together_46 : decode cX7_together 46 = .ok (.ifCond .ne 13, 3) := by decide +kernel
theorem dX7_together_49 : decode cX7_together 49 = .ok (.aload_n 0, 1) := by decide +kernel
theorem dX7_together_50 : decode cX7_together 50 = .ok (.getfield 229, 3) := by decide +kernel
theorem dX7_together_53 : decode cX7_together 53 = .ok (.i2l, 1) := by decide +kernel
theorem dX7_together_54 : decode cX7_together 54 = .ok (.lload_n 3, 1) := by decide +kernel
theorem dX7_together_55 : decode cX7_together 55 = .ok (.ladd, 1) := by decide +kernel
theorem dX7_together_56 : decode cX7_together 56 = .ok (.goto 8, 3) := by decide +kernel
theorem dX7_together_59 : decode cX7_together 59 = .ok (.aload_n 0, 1) := by decide +kernel
theorem dX7_together_60 : decode cX7_together 60 = .ok (.iload_n 1, 1) := by decide +kernel
theorem dX7_together_61 : decode cX7_together 61 = .ok (.invokevirtual 281, 3) := by decide +kernel
theorem dX7_together_64 : decode cX7_together 64 = .ok (.lreturn, 1) := by decide +kernel
theorem dX7_busy_0 : decode cX7_busy 0 = .ok (.iload_n 2, 1) := by decide +kernel
theorem dX7_busy_1 : decode cX7_busy 1 = .ok (.iconst 0, 1) := by decide +kernel
theorem dX7_busy_2 : decode cX7_busy 2 = .ok (.iconst 2, 1) := by decide +kernel
theorem dX7_busy_3 : decode cX7_busy 3 = .ok (.invokestatic 111, 3) := by decide +kernel
theorem dX7_busy_6 : decode cX7_busy 6 = .ok (.ifCond .ne 5, 3) := by decide +kernel
theorem dX7_busy_9 : decode cX7_busy 9 = .ok (.iconst (-1), 1) := by decide +kernel
theorem dX7_busy_10 : decode cX7_busy 10 = .ok (.ireturn, 1) := by decide +kernel
theorem dX7_busy_11 : decode cX7_busy 11 = .ok (.iload_n 1, 1) := by decide +kernel
theorem dX7_busy_12 : decode cX7_busy 12 = .ok (.iconst 1, 1) := by decide +kernel
theorem dX7_busy_13 : decode cX7_busy 13 = .ok (.bipush 60, 2) := by decide +kernel
theorem dX7_busy_15 : decode cX7_busy 15 = .ok (.invokestatic 111, 3) := by decide +kernel
theorem dX7_busy_18 : decode cX7_busy 18 = .ok (.ifCond .ne 6, 3) := by decide +kernel
theorem dX7_busy_21 : decode cX7_busy 21 = .ok (.bipush (-2), 2) := by decide +kernel
theorem dX7_busy_23 : decode cX7_busy 23 = .ok (.ireturn, 1) := by decide +kernel
theorem dX7_busy_24 : decode cX7_busy 24 = .ok (.iconst 0, 1) := by decide +kernel
theorem dX7_busy_25 : decode cX7_busy 25 = .ok (.istore_n 3, 1) := by decide +kernel
theorem dX7_busy_26 : decode cX7_busy 26 = .ok (.iconst (-1), 1) := by decide +kernel
theorem dX7_busy_27 : decode cX7_busy 27 = .ok (.istore 4, 2) := by decide +kernel
theorem dX7_busy_29 : decode cX7_busy 29 = .ok (.iconst 0, 1) := by decide +kernel
theorem dX7_busy_30 : decode cX7_busy 30 = .ok (.istore 5, 2) := by decide +kernel
theorem dX7_busy_32 : decode cX7_busy 32 = .ok (.iconst 0, 1) := by decide +kernel
theorem dX7_busy_33 : decode cX7_busy 33 = .ok (.istore 6, 2) := by decide +kernel
theorem dX7_busy_35 : decode cX7_busy 35 = .ok (.iload 6, 2) := by decide +kernel
theorem dX7_busy_37 : decode cX7_busy 37 = .ok (.iload_n 1, 1) := by decide +kernel
theorem dX7_busy_38 : decode cX7_busy 38 = .ok (.if_icmp .ge 64, 3) := by decide +kernel
theorem dX7_busy_41 : decode cX7_busy 41 = .ok (.aload_n 0, 1) := by decide +kernel
theorem dX7_busy_42 : decode cX7_busy 42 = .ok (.aload_n 0, 1) := by decide +kernel
theorem dX7_busy_43 : decode cX7_busy 43 = .ok (.getfield 229, 3) := by decide +kernel
theorem dX7_busy_46 : decode cX7_busy 46 = .ok (.iload 6, 2) := by decide +kernel
theorem dX7_busy_48 : decode cX7_busy 48 = .ok (.iadd, 1) := by decide +kernel
theorem dX7_busy_49 : decode cX7_busy 49 = .ok (.invokevirtual 235, 3) := by decide +kernel
theorem dX7_busy_52 : decode cX7_busy 52 = .ok (.invokestatic 284, 3) := by decide +kernel
theorem dX7_busy_55 : decode cX7_busy 55 = .ok (.istore 7, 2) := by decide +kernel
theorem dX7_busy_57 : decode cX7_busy 57 = .ok (.iload 7, 2) := by decide +kernel
theorem dX7_busy_59 : decode cX7_busy 59 = .ok (.ifCond .le 20, 3) := by decide +kernel
theorem dX7_busy_62 : decode cX7_busy 62 = .ok (.iload 5, 2) := by decide +kernel
theorem dX7_busy_64 : decode cX7_busy 64 = .ok (.iconst 1, 1) := by decide +kernel
theorem dX7_busy_65 : decode cX7_busy 65 = .ok (.aload_n 0, 1) := by decide +kernel
theorem dX7_busy_66 : decode cX7_busy 66 = .ok (.getfield 229, 3) := by decide +kernel
theorem dX7_busy_69 : decode cX7_busy 69 = .ok (.iload 6, 2) := by decide +kernel
theorem dX7_busy_71 : decode cX7_busy 71 = .ok (.iadd, 1) := by decide +kernel
theorem dX7_busy_72 : decode cX7_busy 72 = .ok (.bipush 7, 2) := by decide +kernel
theorem dX7_busy_74 : decode cX7_busy 74 = .ok (.irem, 1) := by decide +kernel
theorem dX7_busy_75 : decode cX7_busy 75 = .ok (.ishl, 1) := by decide +kernel
theorem dX7_busy_76 : decode cX7_busy 76 = .ok (.ior, 1) := by decide +kernel
theorem dX7_busy_77 : decode cX7_busy 77 = .ok (.istore 5, 2) := by decide +kernel
theorem dX7_busy_79 : decode cX7_busy 79 = .ok (.iload 7, 2) := by decide +kernel
theorem dX7_busy_81 : decode cX7_busy 81 = .ok (.iload 4, 2) := by decide +kernel
theorem dX7_busy_83 : decode cX7_busy 83 = .ok (.if_icmp .gt 6, 3) := by decide +kernel
theorem dX7_busy_86 : decode cX7_busy 86 = .ok (.goto 10, 3) := by decide +kernel
theorem dX7_busy_89 : decode cX7_busy 89 = .ok (.iload 7, 2) := by decide +kernel
theorem dX7_busy_91 : decode cX7_busy 91 = .ok (.istore 4, 2) := by decide +kernel
theorem dX7_busy_93 : decode cX7_busy 93 = .ok (.iload 6, 2) := by decide +kernel
theorem dX7_busy_95 : decode cX7_busy 95 = .ok (.istore_n 3, 1) := by decide +kernel
theorem dX7_busy_96 : decode cX7_busy 96 = .ok (.iinc 6 1, 3) := by decide +kernel
theorem dX7_busy_99 : decode cX7_busy 99 = .ok (.goto (-64), 3) := by decide +kernel
theorem dX7_busy_102 : decode cX7_busy 102 = .ok (.iload_n 2, 1) := by decide +kernel
theorem dX7_busy_103 : decode cX7_busy 103 = .ok (.ifCond .ne 7, 3) := by decide +kernel
theorem dX7_busy_106 : decode cX7_busy 106 = .ok (.iload_n 3, 1) := by decide +kernel
theorem dX7_busy_107 : decode cX7_busy 107 = .ok (.goto 15, 3) := by decide +kernel
theorem dX7_busy_110 : decode cX7_busy 110 = .ok (.iload_n 2, 1) := by decide +kernel
theorem dX7_busy_111 : decode cX7_busy 111 = .ok (.iconst 1, 1) := by decide +kernel
theorem dX7_busy_112 : decode cX7_busy 112 = .ok (.if_icmp .ne 8, 3) := by decide +kernel
theorem dX7_busy_115 : decode cX7_busy 115 = .ok (.iload 4, 2) := by decide +kernel
theorem dX7_busy_117 : decode cX7_busy 117 = .ok (.goto 5, 3) := by decide +kernel
theorem dX7_busy_120 : decode cX7_busy 120 = .ok (.iload 5, 2) := by decide +kernel
theorem dX7_busy_122 : decode cX7_busy 122 = .ok (.ireturn, 1) := by decide +kernel
theorem dX7_hear_0 : decode cX7_hear 0 = .ok (.iload_n 1, 1) := by decide +kernel
theorem dX7_hear_1 : decode cX7_hear 1 = .ok (.iconst (-1), 1) := by decide +kernel
theorem dX7_hear_2 : decode cX7_hear 2 = .ok (.if_icmp .ne 10, 3) := by decide +kernel
theorem dX7_hear_5 : decode cX7_hear 5 = .ok (.aload_n 0, 1) := by decide +kernel
theorem dX7_hear_6 : decode cX7_hear 6 = .ok (.iconst 0, 1) := by decide +kernel
theorem dX7_hear_7 : decode cX7_hear 7 = .ok (.putfield 289, 3) := by decide +kernel
theorem dX7_hear_10 : decode cX7_hear 10 = .ok (.iconst 0, 1) := by decide +kernel
theorem dX7_hear_11 : decode cX7_hear 11 = .ok (.ireturn, 1) := by decide +kernel
theorem dX7_hear_12 : decode cX7_hear 12 = .ok (.aload_n 0, 1) := by decide +kernel
theorem dX7_hear_13 : decode cX7_hear 13 = .ok (.iload_n 1, 1) := by decide +kernel
theorem dX7_hear_14 : decode cX7_hear 14 = .ok (.invokevirtual 115, 3) := by decide +kernel
theorem dX7_hear_17 : decode cX7_hear 17 = .ok (.ifCond .ne 5, 3) := by decide +kernel
theorem dX7_hear_20 : decode cX7_hear 20 = .ok (.iconst (-1), 1) := by decide +kernel
theorem dX7_hear_21 : decode cX7_hear 21 = .ok (.ireturn, 1) := by decide +kernel
theorem dX7_hear_22 : decode cX7_hear 22 = .ok (.iload_n 2, 1) := by decide +kernel
theorem dX7_hear_23 : decode cX7_hear 23 = .ok (.iconst 0, 1) := by decide +kernel
theorem dX7_hear_24 : decode cX7_hear 24 = .ok (.bipush 60, 2) := by decide +kernel
theorem dX7_hear_26 : decode cX7_hear 26 = .ok (.invokestatic 111, 3) := by decide +kernel
theorem dX7_hear_29 : decode cX7_hear 29 = .ok (.ifCond .ne 6, 3) := by decide +kernel
theorem dX7_hear_32 : decode cX7_hear 32 = .ok (.bipush (-2), 2) := by decide +kernel
theorem dX7_hear_34 : decode cX7_hear 34 = .ok (.ireturn, 1) := by decide +kernel
theorem dX7_hear_35 : decode cX7_hear 35 = .ok (.aload_n 0, 1) := by decide +kernel
theorem dX7_hear_36 : decode cX7_hear 36 = .ok (.getfield 289, 3) := by decide +kernel
theorem dX7_hear_39 : decode cX7_hear 39 = .ok (.bipush 6, 2) := by decide +kernel
theorem dX7_hear_41 : decode cX7_hear 41 = .ok (.if_icmp .ne 6, 3) := by decide +kernel
theorem dX7_hear_44 : decode cX7_hear 44 = .ok (.bipush (-4), 2) := by decide +kernel
theorem dX7_hear_46 : decode cX7_hear 46 = .ok (.ireturn, 1) := by decide +kernel
theorem dX7_hear_47 : decode cX7_hear 47 = .ok (.aload_n 0, 1) := by decide +kernel
theorem dX7_hear_48 : decode cX7_hear 48 = .ok (.getfield 61, 3) := by decide +kernel
theorem dX7_hear_51 : decode cX7_hear 51 = .ok (.aload_n 0, 1) := by decide +kernel
theorem dX7_hear_52 : decode cX7_hear 52 = .ok (.getfield 289, 3) := by decide +kernel
theorem dX7_hear_55 : decode cX7_hear 55 = .ok (.iload_n 1, 1) := by decide +kernel
theorem dX7_hear_56 : decode cX7_hear 56 = .ok (.iastore, 1) := by decide +kernel
theorem dX7_hear_57 : decode cX7_hear 57 = .ok (.aload_n 0, 1) := by decide +kernel
theorem dX7_hear_58 : decode cX7_hear 58 = .ok (.getfield 64, 3) := by decide +kernel
theorem dX7_hear_61 : decode cX7_hear 61 = .ok (.aload_n 0, 1) := by decide +kernel
theorem dX7_hear_62 : decode cX7_hear 62 = .ok (.getfield 289, 3) := by decide +kernel
theorem dX7_hear_65 : decode cX7_hear 65 = .ok (.iload_n 2, 1) := by decide +kernel
theorem dX7_hear_66 : decode cX7_hear 66 = .ok (.iastore, 1) := by decide +kernel
theorem dX7_hear_67 : decode cX7_hear 67 = .ok (.aload_n 0, 1) := by decide +kernel
theorem dX7_hear_68 : decode cX7_hear 68 = .ok (.getfield 67, 3) := by decide +kernel
theorem dX7_hear_71 : decode cX7_hear 71 = .ok (.aload_n 0, 1) := by decide +kernel
theorem dX7_hear_72 : decode cX7_hear 72 = .ok (.dup, 1) := by decide +kernel
theorem dX7_hear_73 : decode cX7_hear 73 = .ok (.getfield 289, 3) := by decide +kernel
theorem dX7_hear_76 : decode cX7_hear 76 = .ok (.dup_x1, 1) := by decide +kernel
theorem dX7_hear_77 : decode cX7_hear 77 = .ok (.iconst 1, 1) := by decide +kernel
theorem dX7_hear_78 : decode cX7_hear 78 = .ok (.iadd, 1) := by decide +kernel
theorem dX7_hear_79 : decode cX7_hear 79 = .ok (.putfield 289, 3) := by decide +kernel
theorem dX7_hear_82 : decode cX7_hear 82 = .ok (.iload_n 3, 1) := by decide +kernel
theorem dX7_hear_83 : decode cX7_hear 83 = .ok (.ifCond .eq 7, 3) := by decide +kernel
theorem dX7_hear_86 : decode cX7_hear 86 = .ok (.iconst 1, 1) := by decide +kernel
theorem dX7_hear_87 : decode cX7_hear 87 = .ok (.goto 4, 3) := by decide +kernel
theorem dX7_hear_90 : decode cX7_hear 90 = .ok (.iconst 0, 1) := by decide +kernel
theorem dX7_hear_91 : decode cX7_hear 91 = .ok (.iastore, 1) := by decide +kernel
theorem dX7_hear_92 : decode cX7_hear 92 = .ok (.aload_n 0, 1) := by decide +kernel
theorem dX7_hear_93 : decode cX7_hear 93 = .ok (.getfield 289, 3) := by decide +kernel
theorem dX7_hear_96 : decode cX7_hear 96 = .ok (.ireturn, 1) := by decide +kernel
theorem dX7_isAllSo_0 : decode cX7_isAllSo 0 = .ok (.iconst 0, 1) := by decide +kernel
theorem dX7_isAllSo_1 : decode cX7_isAllSo 1 = .ok (.istore_n 2, 1) := by decide +kernel
theorem dX7_isAllSo_2 : decode cX7_isAllSo 2 = .ok (.iload_n 2, 1) := by decide +kernel
theorem dX7_isAllSo_3 : decode cX7_isAllSo 3 = .ok (.aload_n 0, 1) := by decide +kernel
theorem dX7_isAllSo_4 : decode cX7_isAllSo 4 = .ok (.getfield 289, 3) := by decide +kernel
theorem dX7_isAllSo_7 : decode cX7_isAllSo 7 = .ok (.if_icmp .ge 55, 3) := by decide +kernel
theorem dX7_isAllSo_10 : decode cX7_isAllSo 10 = .ok (.aload_n 0, 1) := by decide +kernel
theorem dX7_isAllSo_11 : decode cX7_isAllSo 11 = .ok (.getfield 61, 3) := by decide +kernel
theorem dX7_isAllSo_14 : decode cX7_isAllSo 14 = .ok (.iload_n 2, 1) := by decide +kernel
theorem dX7_isAllSo_15 : decode cX7_isAllSo 15 = .ok (.iaload, 1) := by decide +kernel
theorem dX7_isAllSo_16 : decode cX7_isAllSo 16 = .ok (.iload_n 1, 1) := by decide +kernel
theorem dX7_isAllSo_17 : decode cX7_isAllSo 17 = .ok (.if_icmp .ne 39, 3) := by decide +kernel
theorem dX7_isAllSo_20 : decode cX7_isAllSo 20 = .ok (.aload_n 0, 1) := by decide +kernel
theorem dX7_isAllSo_21 : decode cX7_isAllSo 21 = .ok (.iload_n 1, 1) := by decide +kernel
theorem dX7_isAllSo_22 : decode cX7_isAllSo 22 = .ok (.aload_n 0, 1) := by decide +kernel
theorem dX7_isAllSo_23 : decode cX7_isAllSo 23 = .ok (.getfield 229, 3) := by decide +kernel
theorem dX7_isAllSo_26 : decode cX7_isAllSo 26 = .ok (.aload_n 0, 1) := by decide +kernel
theorem dX7_isAllSo_27 : decode cX7_isAllSo 27 = .ok (.getfield 64, 3) := by decide +kernel
theorem dX7_isAllSo_30 : decode cX7_isAllSo 30 = .ok (.iload_n 2, 1) := by decide +kernel
theorem dX7_isAllSo_31 : decode cX7_isAllSo 31 = .ok (.iaload, 1) := by decide +kernel
theorem dX7_isAllSo_32 : decode cX7_isAllSo 32 = .ok (.iadd, 1) := by decide +kernel
theorem dX7_isAllSo_33 : decode cX7_isAllSo 33 = .ok (.invokevirtual 226, 3) := by decide +kernel
theorem dX7_isAllSo_36 : decode cX7_isAllSo 36 = .ok (.aload_n 0, 1) := by decide +kernel
theorem dX7_isAllSo_37 : decode cX7_isAllSo 37 = .ok (.getfield 67, 3) := by decide +kernel
theorem dX7_isAllSo_40 : decode cX7_isAllSo 40 = .ok (.iload_n 2, 1) := by decide +kernel
theorem dX7_isAllSo_41 : decode cX7_isAllSo 41 = .ok (.iaload, 1) := by decide +kernel
theorem dX7_isAllSo_42 : decode cX7_isAllSo 42 = .ok (.iconst 1, 1) := by decide +kernel
theorem dX7_isAllSo_43 : decode cX7_isAllSo 43 = .ok (.if_icmp .ne 7, 3) := by decide +kernel
theorem dX7_isAllSo_46 : decode cX7_isAllSo 46 = .ok (.iconst 1, 1) := by decide +kernel
theorem dX7_isAllSo_47 : decode cX7_isAllSo 47 = .ok (.goto 4, 3) := by decide +kernel
theorem dX7_isAllSo_50 : decode cX7_isAllSo 50 = .ok (.iconst 0, 1) := by decide +kernel
theorem dX7_isAllSo_51 : decode cX7_isAllSo 51 = .ok (.if_icmp .eq 5, 3) := by decide +kernel
theorem dX7_isAllSo_54 : decode cX7_isAllSo 54 = .ok (.iconst 0, 1) := by decide +kernel
theorem dX7_isAllSo_55 : decode cX7_isAllSo 55 = .ok (.ireturn, 1) := by decide +kernel
theorem dX7_isAllSo_56 : decode cX7_isAllSo 56 = .ok (.iinc 2 1, 3) := by decide +kernel
theorem dX7_isAllSo_59 : decode cX7_isAllSo 59 = .ok (.goto (-57), 3) := by decide +kernel
theorem dX7_isAllSo_62 : decode cX7_isAllSo 62 = .ok (.iconst 1, 1) := by decide +kernel
theorem dX7_isAllSo_63 : decode cX7_isAllSo 63 = .ok (.ireturn, 1) := by decide +kernel
theorem dX7_can_0 : decode cX7_can 0 = .ok (.aload_n 0, 1) := by decide +kernel
theorem dX7_can_1 : decode cX7_can 1 = .ok (.iload_n 1, 1) := by decide +kernel
theorem dX7_can_2 : decode cX7_can 2 = .ok (.invokevirtual 115, 3) := by decide +kernel
theorem dX7_can_5 : decode cX7_can 5 = .ok (.ifCond .eq 21, 3) := by decide +kernel
theorem dX7_can_8 : decode cX7_can 8 = .ok (.iload_n 2, 1) := by decide +kernel
theorem dX7_can_9 : decode cX7_can 9 = .ok (.iconst 0, 1) := by decide +kernel
theorem dX7_can_10 : decode cX7_can 10 = .ok (.iconst 2, 1) := by decide +kernel
theorem dX7_can_11 : decode cX7_can 11 = .ok (.invokestatic 111, 3) := by decide +kernel
theorem dX7_can_14 : decode cX7_can 14 = .ok (.ifCond .eq 12, 3) := by decide +kernel
theorem dX7_can_17 : decode cX7_can 17 = .ok (.iload_n 3, 1) := by decide +kernel
theorem dX7_can_18 : decode cX7_can 18 = .ok (.iconst 0, 1) := by decide +kernel
theorem dX7_can_19 : decode cX7_can 19 = .ok (.iconst 1, 1) := by decide +kernel
theorem dX7_can_20 : decode cX7_can 20 = .ok (.invokestatic 111, 3) := by decide +kernel
theorem dX7_can_23 : decode cX7_can 23 = .ok (.ifCond .ne 5, 3) := by decide +kernel
theorem dX7_can_26 : decode cX7_can 26 = .ok (.iconst (-1), 1) := by decide +kernel
theorem dX7_can_27 : decode cX7_can 27 = .ok (.ireturn, 1) := by decide +kernel
theorem dX7_can_28 : decode cX7_can 28 = .ok (.aload_n 0, 1) := by decide +kernel
theorem dX7_can_29 : decode cX7_can 29 = .ok (.aload_n 0, 1) := by decide +kernel
theorem dX7_can_30 : decode cX7_can 30 = .ok (.getfield 88, 3) := by decide +kernel
theorem dX7_can_33 : decode cX7_can 33 = .ok (.invokevirtual 257, 3) := by decide +kernel
theorem dX7_can_36 : decode cX7_can 36 = .ok (.iconst 0, 1) := by decide +kernel
theorem dX7_can_37 : decode cX7_can 37 = .ok (.istore 4, 2) := by decide +kernel
theorem dX7_can_39 : decode cX7_can 39 = .ok (.bipush (-5), 2) := by decide +kernel
theorem dX7_can_41 : decode cX7_can 41 = .ok (.istore 5, 2) := by decide +kernel
theorem dX7_can_43 : decode cX7_can 43 = .ok (.iload_n 2, 1) := by decide +kernel
theorem dX7_can_44 : decode cX7_can 44 = .ok (.iconst 2, 1) := by decide +kernel
theorem dX7_can_45 : decode cX7_can 45 = .ok (.if_icmp .ne 8, 3) := by decide +kernel
theorem dX7_can_48 : decode cX7_can 48 = .ok (.bipush 9, 2) := by decide +kernel
theorem dX7_can_50 : decode cX7_can 50 = .ok (.goto 15, 3) := by decide +kernel
theorem dX7_can_53 : decode cX7_can 53 = .ok (.iload_n 2, 1) := by decide +kernel
theorem dX7_can_54 : decode cX7_can 54 = .ok (.iconst 1, 1) := by decide +kernel
theorem dX7_can_55 : decode cX7_can 55 = .ok (.if_icmp .ne 8, 3) := by decide +kernel
theorem dX7_can_58 : decode cX7_can 58 = .ok (.bipush 30, 2) := by decide +kernel
theorem dX7_can_60 : decode cX7_can 60 = .ok (.goto 5, 3) := by decide +kernel
theorem dX7_can_63 : decode cX7_can 63 = .ok (.bipush 29, 2) := by decide +kernel
theorem dX7_can_65 : decode cX7_can 65 = .ok (.istore 6, 2) := by decide +kernel
theorem dX7_can_67 : decode cX7_can 67 = .ok (.iload 6, 2) := by decide +kernel
theorem dX7_can_69 : decode cX7_can 69 = .ok (.iload_n 2, 1) := by decide +kernel
theorem dX7_can_70 : decode cX7_can 70 = .ok (.iconst 1, 1) := by decide +kernel
theorem dX7_can_71 : decode cX7_can 71 = .ok (.if_icmp .ne 7, 3) := by decide +kernel
theorem dX7_can_74 : decode cX7_can 74 = .ok (.iconst 1, 1) := by decide +kernel
theorem dX7_can_75 : decode cX7_can 75 = .ok (.goto 4, 3) := by decide +kernel
theorem dX7_can_78 : decode cX7_can 78 = .ok (.iconst 0, 1) := by decide +kernel
theorem dX7_can_79 : decode cX7_can 79 = .ok (.if_icmp .lt 66, 3) := by decide +kernel
theorem dX7_can_82 : decode cX7_can 82 = .ok (.iload_n 2, 1) := by decide +kernel
theorem dX7_can_83 : decode cX7_can 83 = .ok (.ifCond .ne 14, 3) := by decide +kernel
theorem dX7_can_86 : decode cX7_can 86 = .ok (.aload_n 0, 1) := by decide +kernel
theorem dX7_can_87 : decode cX7_can 87 = .ok (.getfield 21, 3) := by decide +kernel
theorem dX7_can_90 : decode cX7_can 90 = .ok (.iload_n 1, 1) := by decide +kernel
theorem dX7_can_91 : decode cX7_can 91 = .ok (.iload 6, 2) := by decide +kernel
theorem dX7_can_93 : decode cX7_can 93 = .ok (.iastore, 1) := by decide +kernel
theorem dX7_can_94 : decode cX7_can 94 = .ok (.goto 27, 3) := by decide +kernel
theorem dX7_can_97 : decode cX7_can 97 = .ok (.iload_n 2, 1) := by decide +kernel
theorem dX7_can_98 : decode cX7_can 98 = .ok (.iconst 1, 1) := by decide +kernel
theorem dX7_can_99 : decode cX7_can 99 = .ok (.if_icmp .ne 14, 3) := by decide +kernel
theorem dX7_can_102 : decode cX7_can 102 = .ok (.aload_n 0, 1) := by decide +kernel
theorem dX7_can_103 : decode cX7_can 103 = .ok (.getfield 18, 3) := by decide +kernel
theorem dX7_can_106 : decode cX7_can 106 = .ok (.iload_n 1, 1) := by decide +kernel
theorem dX7_can_107 : decode cX7_can 107 = .ok (.iload 6, 2) := by decide +kernel
theorem dX7_can_109 : decode cX7_can 109 = .ok (.iastore, 1) := by decide +kernel
theorem dX7_can_110 : decode cX7_can 110 = .ok (.goto 11, 3) := by decide +kernel
theorem dX7_can_113 : decode cX7_can 113 = .ok (.aload_n 0, 1) := by decide +kernel
theorem dX7_can_114 : decode cX7_can 114 = .ok (.getfield 15, 3) := by decide +kernel
theorem dX7_can_117 : decode cX7_can 117 = .ok (.iload_n 1, 1) := by decide +kernel
theorem dX7_can_118 : decode cX7_can 118 = .ok (.iload 6, 2) := by decide +kernel
theorem dX7_can_120 : decode cX7_can 120 = .ok (.iastore, 1) := by decide +kernel
theorem dX7_can_121 : decode cX7_can 121 = .ok (.aload_n 0, 1) := by decide +kernel
theorem dX7_can_122 : decode cX7_can 122 = .ok (.iload_n 1, 1) := by decide +kernel
theorem dX7_can_123 : decode cX7_can 123 = .ok (.invokevirtual 292, 3) := by decide +kernel
theorem dX7_can_126 : decode cX7_can 126 = .ok (.ifCond .ne 6, 3) := by decide +kernel
theorem dX7_can_129 : decode cX7_can 129 = .ok (.goto 10, 3) := by decide +kernel
theorem dX7_can_132 : decode cX7_can 132 = .ok (.iinc 4 1, 3) := by decide +kernel
theorem dX7_can_135 : decode cX7_can 135 = .ok (.iload 6, 2) := by decide +kernel
theorem dX7_can_137 : decode cX7_can 137 = .ok (.istore 5, 2) := by decide +kernel
theorem dX7_can_139 : decode cX7_can 139 = .ok (.iinc 6 (-1), 3) := by decide +kernel
theorem dX7_can_142 : decode cX7_can 142 = .ok (.goto (-75), 3) := by decide +kernel
theorem dX7_can_145 : decode cX7_can 145 = .ok (.aload_n 0, 1) := by decide +kernel
theorem dX7_can_146 : decode cX7_can 146 = .ok (.aload_n 0, 1) := by decide +kernel
theorem dX7_can_147 : decode cX7_can 147 = .ok (.getfield 88, 3) := by decide +kernel
theorem dX7_can_150 : decode cX7_can 150 = .ok (.invokevirtual 261, 3) := by decide +kernel
theorem dX7_can_153 : decode cX7_can 153 = .ok (.iload_n 3, 1) := by decide +kernel
theorem dX7_can_154 : decode cX7_can 154 = .ok (.ifCond .ne 8, 3) := by decide +kernel
theorem dX7_can_157 : decode cX7_can 157 = .ok (.iload 4, 2) := by decide +kernel
theorem dX7_can_159 : decode cX7_can 159 = .ok (.goto 5, 3) := by decide +kernel
theorem dX7_can_162 : decode cX7_can 162 = .ok (.iload 5, 2) := by decide +kernel
theorem dX7_can_164 : decode cX7_can 164 = .ok (.ireturn, 1) := by decide +kernel
theorem dX7_part_0 : decode cX7_part 0 = .ok (.lload_n 0, 1) := by decide +kernel
theorem dX7_part_1 : decode cX7_part 1 = .ok (.lstore 5, 2) := by decide +kernel
theorem dX7_part_3 : decode cX7_part 3 = .ok (.lload_n 2, 1) := by decide +kernel
theorem dX7_part_4 : decode cX7_part 4 = .ok (.lstore 7, 2) := by decide +kernel
theorem dX7_part_6 : decode cX7_part 6 = .ok (.lload 7, 2) := by decide +kernel
theorem dX7_part_8 : decode cX7_part 8 = .ok (.lconst 0, 1) := by decide +kernel
theorem dX7_part_9 : decode cX7_part 9 = .ok (.lcmp, 1) := by decide +kernel
theorem dX7_part_10 : decode cX7_part 10 = .ok (.ifCond .eq 21, 3) := by decide +kernel
theorem dX7_part_13 : decode cX7_part 13 = .ok (.lload 5, 2) := by decide +kernel
theorem dX7_part_15 : decode cX7_part 15 = .ok (.lload 7, 2) := by decide +kernel
theorem dX7_part_17 : decode cX7_part 17 = .ok (.lrem, 1) := by decide +kernel
theorem dX7_part_18 : decode cX7_part 18 = .ok (.lstore 9, 2) := by decide +kernel
theorem dX7_part_20 : decode cX7_part 20 = .ok (.lload 7, 2) := by decide +kernel
theorem dX7_part_22 : decode cX7_part 22 = .ok (.lstore 5, 2) := by decide +kernel
theorem dX7_part_24 : decode cX7_part 24 = .ok (.lload 9, 2) := by decide +kernel
theorem dX7_part_26 : decode cX7_part 26 = .ok (.lstore 7, 2) := by decide +kernel
theorem dX7_part_28 : decode cX7_part 28 = .ok (.goto (-22), 3) := by decide +kernel
theorem dX7_part_31 : decode cX7_part 31 = .ok (.iload 4, 2) := by decide +kernel
theorem dX7_part_33 : decode cX7_part 33 = .ok (.ifCond .ne 10, 3) := by decide +kernel
theorem dX7_part_36 : decode cX7_part 36 = .ok (.lload_n 0, 1) := by decide +kernel
theorem dX7_part_37 : decode cX7_part 37 = .ok (.lload 5, 2) := by decide +kernel
theorem dX7_part_39 : decode cX7_part 39 = .ok (.ldiv, 1) := by decide +kernel
theorem dX7_part_40 : decode cX7_part 40 = .ok (.goto 7, 3) := by decide +kernel
theorem dX7_part_43 : decode cX7_part 43 = .ok (.lload_n 2, 1) := by decide +kernel
theorem dX7_part_44 : decode cX7_part 44 = .ok (.lload 5, 2) := by decide +kernel
theorem dX7_part_46 : decode cX7_part 46 = .ok (.ldiv, 1) := by decide +kernel
theorem dX7_part_47 : decode cX7_part 47 = .ok (.lreturn, 1) := by decide +kernel
theorem dX7_odds_0 : decode cX7_odds 0 = .ok (.iload_n 1, 1) := by decide +kernel
theorem dX7_odds_1 : decode cX7_odds 1 = .ok (.iconst 0, 1) := by decide +kernel
theorem dX7_odds_2 : decode cX7_odds 2 = .ok (.iconst 1, 1) := by decide +kernel
theorem dX7_odds_3 : decode cX7_odds 3 = .ok (.invokestatic 111, 3) := by decide +kernel
theorem dX7_odds_6 : decode cX7_odds 6 = .ok (.ifCond .ne 7, 3) := by decide +kernel
theorem dX7_odds_9 : decode cX7_odds 9 = .ok (.ldc2_w 266, 3) := by decide +kernel
theorem dX7_odds_12 : decode cX7_odds 12 = .ok (.lreturn, 1) := by decide +kernel
theorem dX7_odds_13 : decode cX7_odds 13 = .ok (.iconst 0, 1) := by decide +kernel
theorem dX7_odds_14 : decode cX7_odds 14 = .ok (.istore_n 2, 1) := by decide +kernel
theorem dX7_odds_15 : decode cX7_odds 15 = .ok (.iconst 0, 1) := by decide +kernel
theorem dX7_odds_16 : decode cX7_odds 16 = .ok (.istore_n 3, 1) := by decide +kernel
theorem dX7_odds_17 : decode cX7_odds 17 = .ok (.iload_n 3, 1) := by decide +kernel
theorem dX7_odds_18 : decode cX7_odds 18 = .ok (.aload_n 0, 1) := by decide +kernel
theorem dX7_odds_19 : decode cX7_odds 19 = .ok (.getfield 108, 3) := by decide +kernel
theorem dX7_odds_22 : decode cX7_odds 22 = .ok (.if_icmp .ge 24, 3) := by decide +kernel
theorem dX7_odds_25 : decode cX7_odds 25 = .ok (.aload_n 0, 1) := by decide +kernel
theorem dX7_odds_26 : decode cX7_odds 26 = .ok (.getfield 24, 3) := by decide +kernel
theorem dX7_odds_29 : decode cX7_odds 29 = .ok (.iload_n 3, 1) := by decide +kernel
theorem dX7_odds_30 : decode cX7_odds 30 = .ok (.iaload, 1) := by decide +kernel
theorem dX7_odds_31 : decode cX7_odds 31 = .ok (.ifCond .ne 9, 3) := by decide +kernel
theorem dX7_odds_34 : decode cX7_odds 34 = .ok (.iload_n 2, 1) := by decide +kernel
theorem dX7_odds_35 : decode cX7_odds 35 = .ok (.iconst 1, 1) := by decide +kernel
theorem dX7_odds_36 : decode cX7_odds 36 = .ok (.iload_n 3, 1) := by decide +kernel
theorem dX7_odds_37 : decode cX7_odds 37 = .ok (.ishl, 1) := by decide +kernel
theorem dX7_odds_38 : decode cX7_odds 38 = .ok (.ior, 1) := by decide +kernel
theorem dX7_odds_39 : decode cX7_odds 39 = .ok (.istore_n 2, 1) := by decide +kernel
theorem dX7_odds_40 : decode cX7_odds 40 = .ok (.iinc 3 1, 3) := by decide +kernel
theorem dX7_odds_43 : decode cX7_odds 43 = .ok (.goto (-26), 3) := by decide +kernel
theorem dX7_odds_46 : decode cX7_odds 46 = .ok (.aload_n 0, 1) := by decide +kernel
theorem dX7_odds_47 : decode cX7_odds 47 = .ok (.iload_n 2, 1) := by decide +kernel
theorem dX7_odds_48 : decode cX7_odds 48 = .ok (.invokevirtual 281, 3) := by decide +kernel
theorem dX7_odds_51 : decode cX7_odds 51 = .ok (.lstore_n 3, 1) := by decide +kernel
theorem dX7_odds_52 : decode cX7_odds 52 = .ok (.lconst 0, 1) := by decide +kernel
theorem dX7_odds_53 : decode cX7_odds 53 = .ok (.lstore 5, 2) := by decide +kernel
theorem dX7_odds_55 : decode cX7_odds 55 = .ok (.iconst 0, 1) := by decide +kernel
theorem dX7_odds_56 : decode cX7_odds 56 = .ok (.istore 7, 2) := by decide +kernel
theorem dX7_odds_58 : decode cX7_odds 58 = .ok (.iload 7, 2) := by decide +kernel
theorem dX7_odds_60 : decode cX7_odds 60 = .ok (.iconst 1, 1) := by decide +kernel
theorem dX7_odds_61 : decode cX7_odds 61 = .ok (.aload_n 0, 1) := by decide +kernel
theorem dX7_odds_62 : decode cX7_odds 62 = .ok (.getfield 108, 3) := by decide +kernel
theorem dX7_odds_65 : decode cX7_odds 65 = .ok (.ishl, 1) := by decide +kernel
theorem dX7_odds_66 : decode cX7_odds 66 = .ok (.if_icmp .ge 65, 3) := by decide +kernel
theorem dX7_odds_69 : decode cX7_odds 69 = .ok (.iload 7, 2) := by decide +kernel
theorem dX7_odds_71 : decode cX7_odds 71 = .ok (.iload_n 2, 1) := by decide +kernel
theorem dX7_odds_72 : decode cX7_odds 72 = .ok (.iconst (-1), 1) := by decide +kernel
theorem dX7_odds_73 : decode cX7_odds 73 = .ok (.ixor, 1) := by decide +kernel
theorem dX7_odds_74 : decode cX7_odds 74 = .ok (.iand, 1) := by decide +kernel
theorem dX7_odds_75 : decode cX7_odds 75 = .ok (.ifCond .ne 50, 3) := by decide +kernel
theorem dX7_odds_78 : decode cX7_odds 78 = .ok (.aload_n 0, 1) := by decide +kernel
theorem dX7_odds_79 : decode cX7_odds 79 = .ok (.iload 7, 2) := by decide +kernel
theorem dX7_odds_81 : decode cX7_odds 81 = .ok (.invokevirtual 277, 3) := by decide +kernel
theorem dX7_odds_84 : decode cX7_odds 84 = .ok (.lconst 0, 1) := by decide +kernel
theorem dX7_odds_85 : decode cX7_odds 85 = .ok (.lcmp, 1) := by decide +kernel
theorem dX7_odds_86 : decode cX7_odds 86 = .ok (.ifCond .ge 6, 3) := by decide +kernel
theorem dX7_odds_89 : decode cX7_odds 89 = .ok (.goto 36, 3) := by decide +kernel
theorem dX7_odds_92 : decode cX7_odds 92 = .ok (.lload_n 3, 1) := by decide +kernel
theorem dX7_odds_93 : decode cX7_odds 93 = .ok (.aload_n 0, 1) := by decide +kernel
theorem dX7_odds_94 : decode cX7_odds 94 = .ok (.iload 7, 2) := by decide +kernel
theorem dX7_odds_96 : decode cX7_odds 96 = .ok (.invokevirtual 281, 3) := by decide +kernel
theorem dX7_odds_99 : decode cX7_odds 99 = .ok (.ldiv, 1) := by decide +kernel
theorem dX7_odds_100 : decode cX7_odds 100 = .ok (.lstore 8, 2) := by decide +kernel
theorem dX7_odds_102 : decode cX7_odds 102 = .ok (.lload 5, 2) := by decide +kernel
theorem dX7_odds_104 : decode cX7_odds 104 = .ok (.iload 7, 2) := by decide +kernel
theorem dX7_odds_106 : decode cX7_odds 106 = .ok (.invokestatic 284, 3) := by decide +kernel
theorem dX7_odds_109 : decode cX7_odds 109 = .ok (.iconst 2, 1) := by decide +kernel
theorem dX7_odds_110 : decode cX7_odds 110 = .ok (.irem, 1) := by decide +kernel
theorem dX7_odds_111 : decode cX7_odds 111 = .ok (.ifCond .ne 8, 3) := by decide +kernel
theorem dX7_odds_114 : decode cX7_odds 114 = .ok (.lload 8, 2) := by decide +kernel
theorem dX7_odds_116 : decode cX7_odds 116 = .ok (.goto 6, 3) := by decide +kernel
theorem dX7_odds_119 : decode cX7_odds 119 = .ok (.lload 8, 2) := by decide +kernel
theorem dX7_odds_121 : decode cX7_odds 121 = .ok (.lneg, 1) := by decide +kernel
theorem dX7_odds_122 : decode cX7_odds 122 = .ok (.ladd, 1) := by decide +kernel
theorem dX7_odds_123 : decode cX7_odds 123 = .ok (.lstore 5, 2) := by decide +kernel
theorem dX7_odds_125 : decode cX7_odds 125 = .ok (.iinc 7 1, 3) := by decide +kernel
theorem dX7_odds_128 : decode cX7_odds 128 = .ok (.goto (-70), 3) := by decide +kernel
theorem dX7_odds_131 : decode cX7_odds 131 = .ok (.lload 5, 2) := by decide +kernel
theorem dX7_odds_133 : decode cX7_odds 133 = .ok (.lload_n 3, 1) := by decide +kernel
theorem dX7_odds_134 : decode cX7_odds 134 = .ok (.iload_n 1, 1) := by decide +kernel
theorem dX7_odds_135 : decode cX7_odds 135 = .ok (.invokestatic 295, 3) := by decide +kernel
theorem dX7_odds_138 : decode cX7_odds 138 = .ok (.lreturn, 1) := by decide +kernel
theorem dX7_mean_0 : decode cX7_mean 0 = .ok (.iload_n 1, 1) := by decide +kernel
theorem dX7_mean_1 : decode cX7_mean 1 = .ok (.iconst 0, 1) := by decide +kernel
theorem dX7_mean_2 : decode cX7_mean 2 = .ok (.bipush 60, 2) := by decide +kernel
theorem dX7_mean_4 : decode cX7_mean 4 = .ok (.invokestatic 111, 3) := by decide +kernel
theorem dX7_mean_7 : decode cX7_mean 7 = .ok (.ifCond .eq 19, 3) := by decide +kernel
theorem dX7_mean_10 : decode cX7_mean 10 = .ok (.iload_n 2, 1) := by decide +kernel
theorem dX7_mean_11 : decode cX7_mean 11 = .ok (.iconst 0, 1) := by decide +kernel
theorem dX7_mean_12 : decode cX7_mean 12 = .ok (.iconst 1, 1) := by decide +kernel
theorem dX7_mean_13 : decode cX7_mean 13 = .ok (.invokestatic 111, 3) := by decide +kernel
theorem dX7_mean_16 : decode cX7_mean 16 = .ok (.ifCond .eq 10, 3) := by decide +kernel
theorem dX7_mean_19 : decode cX7_mean 19 = .ok (.aload_n 0, 1) := by decide +kernel
theorem dX7_mean_20 : decode cX7_mean 20 = .ok (.getfield 108, 3) := by decide +kernel
theorem dX7_mean_23 : decode cX7_mean 23 = .ok (.ifCond .ne 7, 3) := by decide +kernel
theorem dX7_mean_26 : decode cX7_mean 26 = .ok (.ldc2_w 266, 3) := by decide +kernel
theorem dX7_mean_29 : decode cX7_mean 29 = .ok (.lreturn, 1) := by decide +kernel
theorem dX7_mean_30 : decode cX7_mean 30 = .ok (.aload_n 0, 1) := by decide +kernel
theorem dX7_mean_31 : decode cX7_mean 31 = .ok (.aload_n 0, 1) := by decide +kernel
theorem dX7_mean_32 : decode cX7_mean 32 = .ok (.getfield 88, 3) := by decide +kernel
theorem dX7_mean_35 : decode cX7_mean 35 = .ok (.invokevirtual 257, 3) := by decide +kernel
theorem dX7_mean_38 : decode cX7_mean 38 = .ok (.iconst 0, 1) := by decide +kernel
theorem dX7_mean_39 : decode cX7_mean 39 = .ok (.istore_n 3, 1) := by decide +kernel
theorem dX7_mean_40 : decode cX7_mean 40 = .ok (.iload_n 3, 1) := by decide +kernel
theorem dX7_mean_41 : decode cX7_mean 41 = .ok (.iload_n 1, 1) := by decide +kernel
theorem dX7_mean_42 : decode cX7_mean 42 = .ok (.if_icmp .ge 13, 3) := by decide +kernel
theorem dX7_mean_45 : decode cX7_mean 45 = .ok (.aload_n 0, 1) := by decide +kernel
theorem dX7_mean_46 : decode cX7_mean 46 = .ok (.invokevirtual 251, 3) := by decide +kernel
theorem dX7_mean_49 : decode cX7_mean 49 = .ok (.iinc 3 1, 3) := by decide +kernel
theorem dX7_mean_52 : decode cX7_mean 52 = .ok (.goto (-12), 3) := by decide +kernel
theorem dX7_mean_55 : decode cX7_mean 55 = .ok (.aload_n 0, 1) := by decide +kernel
theorem dX7_mean_56 : decode cX7_mean 56 = .ok (.invokevirtual 244, 3) := by decide +kernel
theorem dX7_mean_59 : decode cX7_mean 59 = .ok (.istore_n 3, 1) := by decide +kernel
theorem dX7_mean_60 : decode cX7_mean 60 = .ok (.aload_n 0, 1) := by decide +kernel
theorem dX7_mean_61 : decode cX7_mean 61 = .ok (.aload_n 0, 1) := by decide +kernel
theorem dX7_mean_62 : decode cX7_mean 62 = .ok (.getfield 88, 3) := by decide +kernel
theorem dX7_mean_65 : decode cX7_mean 65 = .ok (.invokevirtual 261, 3) := by decide +kernel
theorem dX7_mean_68 : decode cX7_mean 68 = .ok (.iload_n 3, 1) := by decide +kernel
theorem dX7_mean_69 : decode cX7_mean 69 = .ok (.i2l, 1) := by decide +kernel
theorem dX7_mean_70 : decode cX7_mean 70 = .ok (.aload_n 0, 1) := by decide +kernel
theorem dX7_mean_71 : decode cX7_mean 71 = .ok (.getfield 108, 3) := by decide +kernel
theorem dX7_mean_74 : decode cX7_mean 74 = .ok (.i2l, 1) := by decide +kernel
theorem dX7_mean_75 : decode cX7_mean 75 = .ok (.iload_n 2, 1) := by decide +kernel
theorem dX7_mean_76 : decode cX7_mean 76 = .ok (.invokestatic 295, 3) := by decide +kernel
theorem dX7_mean_79 : decode cX7_mean 79 = .ok (.lreturn, 1) := by decide +kernel
theorem dX7_plan_0 : decode cX7_plan 0 = .ok (.iload_n 1, 1) := by decide +kernel
theorem dX7_plan_1 : decode cX7_plan 1 = .ok (.iconst (-1), 1) := by decide +kernel
theorem dX7_plan_2 : decode cX7_plan 2 = .ok (.if_icmp .ne 10, 3) := by decide +kernel
theorem dX7_plan_5 : decode cX7_plan 5 = .ok (.aload_n 0, 1) := by decide +kernel
theorem dX7_plan_6 : decode cX7_plan 6 = .ok (.iconst 0, 1) := by decide +kernel
theorem dX7_plan_7 : decode cX7_plan 7 = .ok (.putfield 299, 3) := by decide +kernel
theorem dX7_plan_10 : decode cX7_plan 10 = .ok (.iconst 0, 1) := by decide +kernel
theorem dX7_plan_11 : decode cX7_plan 11 = .ok (.ireturn, 1) := by decide +kernel
theorem dX7_plan_12 : decode cX7_plan 12 = .ok (.iload_n 1, 1) := by decide +kernel
theorem dX7_plan_13 : decode cX7_plan 13 = .ok (.iconst 0, 1) := by decide +kernel
theorem dX7_plan_14 : decode cX7_plan 14 = .ok (.iconst 3, 1) := by decide +kernel
theorem dX7_plan_15 : decode cX7_plan 15 = .ok (.invokestatic 111, 3) := by decide +kernel
theorem dX7_plan_18 : decode cX7_plan 18 = .ok (.ifCond .eq 20, 3) := by decide +kernel
theorem dX7_plan_21 : decode cX7_plan 21 = .ok (.iload_n 1, 1) := by decide +kernel
theorem dX7_plan_22 : decode cX7_plan 22 = .ok (.iconst 1, 1) := by decide +kernel
theorem dX7_plan_23 : decode cX7_plan 23 = .ok (.iconst 2, 1) := by decide +kernel
theorem dX7_plan_24 : decode cX7_plan 24 = .ok (.invokestatic 111, 3) := by decide +kernel
theorem dX7_plan_27 : decode cX7_plan 27 = .ok (.ifCond .eq 13, 3) := by decide +kernel
theorem dX7_plan_30 : decode cX7_plan 30 = .ok (.aload_n 0, 1) := by decide +kernel
theorem dX7_plan_31 : decode cX7_plan 31 = .ok (.iload_n 2, 1) := by decide +kernel
theorem dX7_plan_32 : decode cX7_plan 32 = .ok (.invokevirtual 115, 3) := by decide +kernel
theorem dX7_plan_35 : decode cX7_plan 35 = .ok (.ifCond .ne 5, 3) := by decide +kernel
theorem dX7_plan_38 : decode cX7_plan 38 = .ok (.iconst (-1), 1) := by decide +kernel
theorem dX7_plan_39 : decode cX7_plan 39 = .ok (.ireturn, 1) := by decide +kernel
theorem dX7_plan_40 : decode cX7_plan 40 = .ok (.iload_n 1, 1) := by decide +kernel
theorem dX7_plan_41 : decode cX7_plan 41 = .ok (.iconst 3, 1) := by decide +kernel
theorem dX7_plan_42 : decode cX7_plan 42 = .ok (.if_icmp .ne 16, 3) := by decide +kernel
theorem dX7_plan_45 : decode cX7_plan 45 = .ok (.iload_n 2, 1) := by decide +kernel
theorem dX7_plan_46 : decode cX7_plan 46 = .ok (.iconst 0, 1) := by decide +kernel
theorem dX7_plan_47 : decode cX7_plan 47 = .ok (.bipush 127, 2) := by decide +kernel
theorem dX7_plan_49 : decode cX7_plan 49 = .ok (.invokestatic 111, 3) := by decide +kernel
theorem dX7_plan_52 : decode cX7_plan 52 = .ok (.ifCond .ne 6, 3) := by decide +kernel
theorem dX7_plan_55 : decode cX7_plan 55 = .ok (.bipush (-2), 2) := by decide +kernel
theorem dX7_plan_57 : decode cX7_plan 57 = .ok (.ireturn, 1) := by decide +kernel
theorem dX7_plan_58 : decode cX7_plan 58 = .ok (.aload_n 0, 1) := by decide +kernel
theorem dX7_plan_59 : decode cX7_plan 59 = .ok (.getfield 299, 3) := by decide +kernel
theorem dX7_plan_62 : decode cX7_plan 62 = .ok (.bipush 10, 2) := by decide +kernel
theorem dX7_plan_64 : decode cX7_plan 64 = .ok (.if_icmp .ne 6, 3) := by decide +kernel
theorem dX7_plan_67 : decode cX7_plan 67 = .ok (.bipush (-4), 2) := by decide +kernel
theorem dX7_plan_69 : decode cX7_plan 69 = .ok (.ireturn, 1) := by decide +kernel
theorem dX7_plan_70 : decode cX7_plan 70 = .ok (.aload_n 0, 1) := by decide +kernel
theorem dX7_plan_71 : decode cX7_plan 71 = .ok (.getfield 70, 3) := by decide +kernel
theorem dX7_plan_74 : decode cX7_plan 74 = .ok (.aload_n 0, 1) := by decide +kernel
theorem dX7_plan_75 : decode cX7_plan 75 = .ok (.getfield 299, 3) := by decide +kernel
theorem dX7_plan_78 : decode cX7_plan 78 = .ok (.iload_n 1, 1) := by decide +kernel
theorem dX7_plan_79 : decode cX7_plan 79 = .ok (.iastore, 1) := by decide +kernel
theorem dX7_plan_80 : decode cX7_plan 80 = .ok (.aload_n 0, 1) := by decide +kernel
theorem dX7_plan_81 : decode cX7_plan 81 = .ok (.getfield 73, 3) := by decide +kernel
theorem dX7_plan_84 : decode cX7_plan 84 = .ok (.aload_n 0, 1) := by decide +kernel
theorem dX7_plan_85 : decode cX7_plan 85 = .ok (.dup, 1) := by decide +kernel
theorem dX7_plan_86 : decode cX7_plan 86 = .ok (.getfield 299, 3) := by decide +kernel
theorem dX7_plan_89 : decode cX7_plan 89 = .ok (.dup_x1, 1) := by decide +kernel
theorem dX7_plan_90 : decode cX7_plan 90 = .ok (.iconst 1, 1) := by decide +kernel
theorem dX7_plan_91 : decode cX7_plan 91 = .ok (.iadd, 1) := by decide +kernel
theorem dX7_plan_92 : decode cX7_plan 92 = .ok (.putfield 299, 3) := by decide +kernel
theorem dX7_plan_95 : decode cX7_plan 95 = .ok (.iload_n 1, 1) := by decide +kernel
theorem dX7_plan_96 : decode cX7_plan 96 = .ok (.ifCond .ne 7, 3) := by decide +kernel
theorem dX7_plan_99 : decode cX7_plan 99 = .ok (.iconst 0, 1) := by decide +kernel
theorem dX7_plan_100 : decode cX7_plan 100 = .ok (.goto 4, 3) := by decide +kernel
theorem dX7_plan_103 : decode cX7_plan 103 = .ok (.iload_n 2, 1) := by decide +kernel
theorem dX7_plan_104 : decode cX7_plan 104 = .ok (.iastore, 1) := by decide +kernel
theorem dX7_plan_105 : decode cX7_plan 105 = .ok (.aload_n 0, 1) := by decide +kernel
theorem dX7_plan_106 : decode cX7_plan 106 = .ok (.getfield 299, 3) := by decide +kernel
theorem dX7_plan_109 : decode cX7_plan 109 = .ok (.ireturn, 1) := by decide +kernel
theorem dX7_ends_0 : decode cX7_ends 0 = .ok (.iload_n 1, 1) := by decide +kernel
theorem dX7_ends_1 : decode cX7_ends 1 = .ok (.iconst 0, 1) := by decide +kernel
theorem dX7_ends_2 : decode cX7_ends 2 = .ok (.iconst 1, 1) := by decide +kernel
theorem dX7_ends_3 : decode cX7_ends 3 = .ok (.invokestatic 111, 3) := by decide +kernel
theorem dX7_ends_6 : decode cX7_ends 6 = .ok (.ifCond .ne 5, 3) := by decide +kernel
theorem dX7_ends_9 : decode cX7_ends 9 = .ok (.iconst (-1), 1) := by decide +kernel
theorem dX7_ends_10 : decode cX7_ends 10 = .ok (.ireturn, 1) := by decide +kernel
theorem dX7_ends_11 : decode cX7_ends 11 = .ok (.aload_n 0, 1) := by decide +kernel
theorem dX7_ends_12 : decode cX7_ends 12 = .ok (.aload_n 0, 1) := by decide +kernel
theorem dX7_ends_13 : decode cX7_ends 13 = .ok (.getfield 88, 3) := by decide +kernel
theorem dX7_ends_16 : decode cX7_ends 16 = .ok (.invokevirtual 257, 3) := by decide +kernel
theorem dX7_ends_19 : decode cX7_ends 19 = .ok (.iconst 0, 1) := by decide +kernel
theorem dX7_ends_20 : decode cX7_ends 20 = .ok (.istore_n 2, 1) := by decide +kernel
theorem dX7_ends_21 : decode cX7_ends 21 = .ok (.iload_n 2, 1) := by decide +kernel
theorem dX7_ends_22 : decode cX7_ends 22 = .ok (.aload_n 0, 1) := by decide +kernel
theorem dX7_ends_23 : decode cX7_ends 23 = .ok (.getfield 299, 3) := by decide +kernel
theorem dX7_ends_26 : decode cX7_ends 26 = .ok (.if_icmp .ge 71, 3) := by decide +kernel
theorem dX7_ends_29 : decode cX7_ends 29 = .ok (.aload_n 0, 1) := by decide +kernel
theorem dX7_ends_30 : decode cX7_ends 30 = .ok (.getfield 73, 3) := by decide +kernel
theorem dX7_ends_33 : decode cX7_ends 33 = .ok (.iload_n 2, 1) := by decide +kernel
theorem dX7_ends_34 : decode cX7_ends 34 = .ok (.iaload, 1) := by decide +kernel
theorem dX7_ends_35 : decode cX7_ends 35 = .ok (.istore_n 3, 1) := by decide +kernel
theorem dX7_ends_36 : decode cX7_ends 36 = .ok (.aload_n 0, 1) := by decide +kernel
theorem dX7_ends_37 : decode cX7_ends 37 = .ok (.getfield 70, 3) := by decide +kernel
theorem dX7_ends_40 : decode cX7_ends 40 = .ok (.iload_n 2, 1) := by decide +kernel
theorem dX7_ends_41 : decode cX7_ends 41 = .ok (.iaload, 1) := by decide +kernel
theorem dX7_ends_42 : decode cX7_ends 42 = .ok (.ifCond .ne 10, 3) := by decide +kernel
theorem dX7_ends_45 : decode cX7_ends 45 = .ok (.aload_n 0, 1) := by decide +kernel
theorem dX7_ends_46 : decode cX7_ends 46 = .ok (.invokevirtual 251, 3) := by decide +kernel
theorem dX7_ends_49 : decode cX7_ends 49 = .ok (.goto 42, 3) := by decide +kernel
theorem dX7_ends_52 : decode cX7_ends 52 = .ok (.aload_n 0, 1) := by decide +kernel
theorem dX7_ends_53 : decode cX7_ends 53 = .ok (.getfield 70, 3) := by decide +kernel
theorem dX7_ends_56 : decode cX7_ends 56 = .ok (.iload_n 2, 1) := by decide +kernel
theorem dX7_ends_57 : decode cX7_ends 57 = .ok (.iaload, 1) := by decide +kernel
theorem dX7_ends_58 : decode cX7_ends 58 = .ok (.iconst 3, 1) := by decide +kernel
theorem dX7_ends_59 : decode cX7_ends 59 = .ok (.if_icmp .ne 11, 3) := by decide +kernel
theorem dX7_ends_62 : decode cX7_ends 62 = .ok (.aload_n 0, 1) := by decide +kernel
theorem dX7_ends_63 : decode cX7_ends 63 = .ok (.iload_n 3, 1) := by decide +kernel
theorem dX7_ends_64 : decode cX7_ends 64 = .ok (.putfield 101, 3) := by decide +kernel
theorem dX7_ends_67 : decode cX7_ends 67 = .ok (.goto 24, 3) := by decide +kernel
theorem dX7_ends_70 : decode cX7_ends 70 = .ok (.aload_n 0, 1) := by decide +kernel
theorem dX7_ends_71 : decode cX7_ends 71 = .ok (.getfield 24, 3) := by decide +kernel
theorem dX7_ends_74 : decode cX7_ends 74 = .ok (.iload_n 3, 1) := by decide +kernel
theorem dX7_ends_75 : decode cX7_ends 75 = .ok (.aload_n 0, 1) := by decide +kernel
theorem dX7_ends_76 : decode cX7_ends 76 = .ok (.getfield 70, 3) := by decide +kernel
theorem dX7_ends_79 : decode cX7_ends 79 = .ok (.iload_n 2, 1) := by decide +kernel
theorem dX7_ends_80 : decode cX7_ends 80 = .ok (.iaload, 1) := by decide +kernel
theorem dX7_ends_81 : decode cX7_ends 81 = .ok (.iconst 1, 1) := by decide +kernel
theorem dX7_ends_82 : decode cX7_ends 82 = .ok (.if_icmp .ne 7, 3) := by decide +kernel
theorem dX7_ends_85 : decode cX7_ends 85 = .ok (.iconst 1, 1) := by decide +kernel
theorem dX7_ends_86 : decode cX7_ends 86 = .ok (.goto 4, 3) := by decide +kernel
theorem dX7_ends_89 : decode cX7_ends 89 = .ok (.iconst 0, 1) := by decide +kernel
theorem dX7_ends_90 : decode cX7_ends 90 = .ok (.iastore, 1) := by decide +kernel
theorem dX7_ends_91 : decode cX7_ends 91 = .ok (.iinc 2 1, 3) := by decide +kernel
theorem dX7_ends_94 : decode cX7_ends 94 = .ok (.goto (-73), 3) := by decide +kernel
theorem dX7_ends_97 : decode cX7_ends 97 = .ok (.iload_n 1, 1) := by decide +kernel
theorem dX7_ends_98 : decode cX7_ends 98 = .ok (.ifCond .ne 10, 3) := by decide +kernel
theorem dX7_ends_101 : decode cX7_ends 101 = .ok (.aload_n 0, 1) := by decide +kernel
theorem dX7_ends_102 : decode cX7_ends 102 = .ok (.invokevirtual 244, 3) := by decide +kernel
theorem dX7_ends_105 : decode cX7_ends 105 = .ok (.goto 7, 3) := by decide +kernel
theorem dX7_ends_108 : decode cX7_ends 108 = .ok (.aload_n 0, 1) := by decide +kernel
theorem dX7_ends_109 : decode cX7_ends 109 = .ok (.invokevirtual 247, 3) := by decide +kernel
theorem dX7_ends_112 : decode cX7_ends 112 = .ok (.istore_n 2, 1) := by decide +kernel
theorem dX7_ends_113 : decode cX7_ends 113 = .ok (.aload_n 0, 1) := by decide +kernel
theorem dX7_ends_114 : decode cX7_ends 114 = .ok (.aload_n 0, 1) := by decide +kernel
theorem dX7_ends_115 : decode cX7_ends 115 = .ok (.getfield 88, 3) := by decide +kernel
theorem dX7_ends_118 : decode cX7_ends 118 = .ok (.invokevirtual 261, 3) := by decide +kernel
theorem dX7_ends_121 : decode cX7_ends 121 = .ok (.iload_n 2, 1) := by decide +kernel
theorem dX7_ends_122 : decode cX7_ends 122 = .ok (.ireturn, 1) := by decide +kernel
theorem dX7_book_0 : decode cX7_book 0 = .ok (.iload_n 1, 1) := by decide +kernel
theorem dX7_book_1 : decode cX7_book 1 = .ok (.iconst (-1), 1) := by decide +kernel
theorem dX7_book_2 : decode cX7_book 2 = .ok (.if_icmp .ne 10, 3) := by decide +kernel
theorem dX7_book_5 : decode cX7_book 5 = .ok (.aload_n 0, 1) := by decide +kernel
theorem dX7_book_6 : decode cX7_book 6 = .ok (.iconst 0, 1) := by decide +kernel
theorem dX7_book_7 : decode cX7_book 7 = .ok (.putfield 302, 3) := by decide +kernel
theorem dX7_book_10 : decode cX7_book 10 = .ok (.iconst 0, 1) := by decide +kernel
theorem dX7_book_11 : decode cX7_book 11 = .ok (.ireturn, 1) := by decide +kernel
theorem dX7_book_12 : decode cX7_book 12 = .ok (.aload_n 0, 1) := by decide +kernel
theorem dX7_book_13 : decode cX7_book 13 = .ok (.iload_n 1, 1) := by decide +kernel
theorem dX7_book_14 : decode cX7_book 14 = .ok (.invokevirtual 115, 3) := by decide +kernel
theorem dX7_book_17 : decode cX7_book 17 = .ok (.ifCond .ne 5, 3) := by decide +kernel
theorem dX7_book_20 : decode cX7_book 20 = .ok (.iconst (-1), 1) := by decide +kernel
theorem dX7_book_21 : decode cX7_book 21 = .ok (.ireturn, 1) := by decide +kernel
theorem dX7_book_22 : decode cX7_book 22 = .ok (.iload_n 2, 1) := by decide +kernel
theorem dX7_book_23 : decode cX7_book 23 = .ok (.iconst 0, 1) := by decide +kernel
theorem dX7_book_24 : decode cX7_book 24 = .ok (.sipush 9999, 3) := by decide +kernel
theorem dX7_book_27 : decode cX7_book 27 = .ok (.invokestatic 111, 3) := by decide +kernel
theorem dX7_book_30 : decode cX7_book 30 = .ok (.ifCond .ne 6, 3) := by decide +kernel
theorem dX7_book_33 : decode cX7_book 33 = .ok (.bipush (-2), 2) := by decide +kernel
theorem dX7_book_35 : decode cX7_book 35 = .ok (.ireturn, 1) := by decide +kernel
theorem dX7_book_36 : decode cX7_book 36 = .ok (.aload_n 0, 1) := by decide +kernel
theorem dX7_book_37 : decode cX7_book 37 = .ok (.getfield 302, 3) := by decide +kernel
theorem dX7_book_40 : decode cX7_book 40 = .ok (.bipush 8, 2) := by decide +kernel
theorem dX7_book_42 : decode cX7_book 42 = .ok (.if_icmp .ne 6, 3) := by decide +kernel
theorem dX7_book_45 : decode cX7_book 45 = .ok (.bipush (-4), 2) := by decide +kernel
theorem dX7_book_47 : decode cX7_book 47 = .ok (.ireturn, 1) := by decide +kernel
theorem dX7_book_48 : decode cX7_book 48 = .ok (.aload_n 0, 1) := by decide +kernel
theorem dX7_book_49 : decode cX7_book 49 = .ok (.getfield 76, 3) := by decide +kernel
theorem dX7_book_52 : decode cX7_book 52 = .ok (.aload_n 0, 1) := by decide +kernel
theorem dX7_book_53 : decode cX7_book 53 = .ok (.getfield 302, 3) := by decide +kernel
theorem dX7_book_56 : decode cX7_book 56 = .ok (.iload_n 1, 1) := by decide +kernel
theorem dX7_book_57 : decode cX7_book 57 = .ok (.iastore, 1) := by decide +kernel
theorem dX7_book_58 : decode cX7_book 58 = .ok (.aload_n 0, 1) := by decide +kernel
theorem dX7_book_59 : decode cX7_book 59 = .ok (.getfield 79, 3) := by decide +kernel
theorem dX7_book_62 : decode cX7_book 62 = .ok (.aload_n 0, 1) := by decide +kernel
theorem dX7_book_63 : decode cX7_book 63 = .ok (.dup, 1) := by decide +kernel
theorem dX7_book_64 : decode cX7_book 64 = .ok (.getfield 302, 3) := by decide +kernel
theorem dX7_book_67 : decode cX7_book 67 = .ok (.dup_x1, 1) := by decide +kernel
theorem dX7_book_68 : decode cX7_book 68 = .ok (.iconst 1, 1) := by decide +kernel
theorem dX7_book_69 : decode cX7_book 69 = .ok (.iadd, 1) := by decide +kernel
theorem dX7_book_70 : decode cX7_book 70 = .ok (.putfield 302, 3) := by decide +kernel
theorem dX7_book_73 : decode cX7_book 73 = .ok (.iload_n 2, 1) := by decide +kernel
theorem dX7_book_74 : decode cX7_book 74 = .ok (.iastore, 1) := by decide +kernel
theorem dX7_book_75 : decode cX7_book 75 = .ok (.aload_n 0, 1) := by decide +kernel
theorem dX7_book_76 : decode cX7_book 76 = .ok (.getfield 302, 3) := by decide +kernel
theorem dX7_book_79 : decode cX7_book 79 = .ok (.ireturn, 1) := by decide +kernel
theorem dX7_looked_0 : decode cX7_looked 0 = .ok (.iconst 0, 1) := by decide +kernel
theorem dX7_looked_1 : decode cX7_looked 1 = .ok (.istore_n 1, 1) := by decide +kernel
theorem dX7_looked_2 : decode cX7_looked 2 = .ok (.iload_n 1, 1) := by decide +kernel
theorem dX7_looked_3 : decode cX7_looked 3 = .ok (.aload_n 0, 1) := by decide +kernel
theorem dX7_looked_4 : decode cX7_looked 4 = .ok (.getfield 302, 3) := by decide +kernel
theorem dX7_looked_7 : decode cX7_looked 7 = .ok (.if_icmp .ge 31, 3) := by decide +kernel
theorem dX7_looked_10 : decode cX7_looked 10 = .ok (.aload_n 0, 1) := by decide +kernel
theorem dX7_looked_11 : decode cX7_looked 11 = .ok (.getfield 27, 3) := by decide +kernel
theorem dX7_looked_14 : decode cX7_looked 14 = .ok (.aload_n 0, 1) := by decide +kernel
theorem dX7_looked_15 : decode cX7_looked 15 = .ok (.getfield 76, 3) := by decide +kernel
theorem dX7_looked_18 : decode cX7_looked 18 = .ok (.iload_n 1, 1) := by decide +kernel
theorem dX7_looked_19 : decode cX7_looked 19 = .ok (.iaload, 1) := by decide +kernel
theorem dX7_looked_20 : decode cX7_looked 20 = .ok (.iaload, 1) := by decide +kernel
theorem dX7_looked_21 : decode cX7_looked 21 = .ok (.aload_n 0, 1) := by decide +kernel
theorem dX7_looked_22 : decode cX7_looked 22 = .ok (.getfield 79, 3) := by decide +kernel
theorem dX7_looked_25 : decode cX7_looked 25 = .ok (.iload_n 1, 1) := by decide +kernel
theorem dX7_looked_26 : decode cX7_looked 26 = .ok (.iaload, 1) := by decide +kernel
theorem dX7_looked_27 : decode cX7_looked 27 = .ok (.if_icmp .eq 5, 3) := by decide +kernel
theorem dX7_looked_30 : decode cX7_looked 30 = .ok (.iload_n 1, 1) := by decide +kernel
theorem dX7_looked_31 : decode cX7_looked 31 = .ok (.ireturn, 1) := by decide +kernel
theorem dX7_looked_32 : decode cX7_looked 32 = .ok (.iinc 1 1, 3) := by decide +kernel
theorem dX7_looked_35 : decode cX7_looked 35 = .ok (.goto (-33), 3) := by decide +kernel
theorem dX7_looked_38 : decode cX7_looked 38 = .ok (.bipush (-5), 2) := by decide +kernel
theorem dX7_looked_40 : decode cX7_looked 40 = .ok (.ireturn, 1) := by decide +kernel
theorem dX7_judge_0 : decode cX7_judge 0 = .ok (.iload_n 1, 1) := by decide +kernel
theorem dX7_judge_1 : decode cX7_judge 1 = .ok (.iconst 0, 1) := by decide +kernel
theorem dX7_judge_2 : decode cX7_judge 2 = .ok (.iconst 5, 1) := by decide +kernel
theorem dX7_judge_3 : decode cX7_judge 3 = .ok (.invokestatic 111, 3) := by decide +kernel
theorem dX7_judge_6 : decode cX7_judge 6 = .ok (.ifCond .ne 5, 3) := by decide +kernel
theorem dX7_judge_9 : decode cX7_judge 9 = .ok (.iconst (-1), 1) := by decide +kernel
theorem dX7_judge_10 : decode cX7_judge 10 = .ok (.ireturn, 1) := by decide +kernel
theorem dX7_judge_11 : decode cX7_judge 11 = .ok (.aload_n 0, 1) := by decide +kernel
theorem dX7_judge_12 : decode cX7_judge 12 = .ok (.getfield 91, 3) := by decide +kernel
theorem dX7_judge_15 : decode cX7_judge 15 = .ok (.iload_n 1, 1) := by decide +kernel
theorem dX7_judge_16 : decode cX7_judge 16 = .ok (.iaload, 1) := by decide +kernel
theorem dX7_judge_17 : decode cX7_judge 17 = .ok (.iconst (-1), 1) := by decide +kernel
theorem dX7_judge_18 : decode cX7_judge 18 = .ok (.if_icmp .eq 16, 3) := by decide +kernel
theorem dX7_judge_21 : decode cX7_judge 21 = .ok (.aload_n 0, 1) := by decide +kernel
theorem dX7_judge_22 : decode cX7_judge 22 = .ok (.getfield 91, 3) := by decide +kernel
theorem dX7_judge_25 : decode cX7_judge 25 = .ok (.iload_n 1, 1) := by decide +kernel
theorem dX7_judge_26 : decode cX7_judge 26 = .ok (.iaload, 1) := by decide +kernel
theorem dX7_judge_27 : decode cX7_judge 27 = .ok (.iconst 3, 1) := by decide +kernel
theorem dX7_judge_28 : decode cX7_judge 28 = .ok (.if_icmp .eq 6, 3) := by decide +kernel
theorem dX7_judge_31 : decode cX7_judge 31 = .ok (.bipush (-12), 2) := by decide +kernel
theorem dX7_judge_33 : decode cX7_judge 33 = .ok (.ireturn, 1) := by decide +kernel
theorem dX7_judge_34 : decode cX7_judge 34 = .ok (.iconst 0, 1) := by decide +kernel
theorem dX7_judge_35 : decode cX7_judge 35 = .ok (.istore_n 3, 1) := by decide +kernel
theorem dX7_judge_36 : decode cX7_judge 36 = .ok (.iload_n 3, 1) := by decide +kernel
theorem dX7_judge_37 : decode cX7_judge 37 = .ok (.aload_n 0, 1) := by decide +kernel
theorem dX7_judge_38 : decode cX7_judge 38 = .ok (.getfield 108, 3) := by decide +kernel
theorem dX7_judge_41 : decode cX7_judge 41 = .ok (.if_icmp .ge 70, 3) := by decide +kernel
theorem dX7_judge_44 : decode cX7_judge 44 = .ok (.aload_n 0, 1) := by decide +kernel
theorem dX7_judge_45 : decode cX7_judge 45 = .ok (.getfield 91, 3) := by decide +kernel
theorem dX7_judge_48 : decode cX7_judge 48 = .ok (.iload_n 1, 1) := by decide +kernel
theorem dX7_judge_49 : decode cX7_judge 49 = .ok (.iaload, 1) := by decide +kernel
theorem dX7_judge_50 : decode cX7_judge 50 = .ok (.iconst (-1), 1) := by decide +kernel
theorem dX7_judge_51 : decode cX7_judge 51 = .ok (.if_icmp .eq 23, 3) := by decide +kernel
theorem dX7_judge_54 : decode cX7_judge 54 = .ok (.iload_n 2, 1) := by decide +kernel
theorem dX7_judge_55 : decode cX7_judge 55 = .ok (.ifCond .lt 19, 3) := by decide +kernel
theorem dX7_judge_58 : decode cX7_judge 58 = .ok (.iload_n 2, 1) := by decide +kernel
theorem dX7_judge_59 : decode cX7_judge 59 = .ok (.i2l, 1) := by decide +kernel
theorem dX7_judge_60 : decode cX7_judge 60 = .ok (.iload_n 3, 1) := by decide +kernel
theorem dX7_judge_61 : decode cX7_judge 61 = .ok (.i2l, 1) := by decide +kernel
theorem dX7_judge_62 : decode cX7_judge 62 = .ok (.ladd, 1) := by decide +kernel
theorem dX7_judge_63 : decode cX7_judge 63 = .ok (.aload_n 0, 1) := by decide +kernel
theorem dX7_judge_64 : decode cX7_judge 64 = .ok (.getfield 94, 3) := by decide +kernel
theorem dX7_judge_67 : decode cX7_judge 67 = .ok (.iload_n 1, 1) := by decide +kernel
theorem dX7_judge_68 : decode cX7_judge 68 = .ok (.iaload, 1) := by decide +kernel
theorem dX7_judge_69 : decode cX7_judge 69 = .ok (.i2l, 1) := by decide +kernel
theorem dX7_judge_70 : decode cX7_judge 70 = .ok (.lcmp, 1) := by decide +kernel
theorem dX7_judge_71 : decode cX7_judge 71 = .ok (.ifCond .lt 8, 3) := by decide +kernel
theorem dX7_judge_74 : decode cX7_judge 74 = .ok (.bipush 100, 2) := by decide +kernel
theorem dX7_judge_76 : decode cX7_judge 76 = .ok (.iload_n 3, 1) := by decide +kernel
theorem dX7_judge_77 : decode cX7_judge 77 = .ok (.iadd, 1) := by decide +kernel
theorem dX7_judge_78 : decode cX7_judge 78 = .ok (.ireturn, 1) := by decide +kernel
theorem dX7_judge_79 : decode cX7_judge 79 = .ok (.aload_n 0, 1) := by decide +kernel
theorem dX7_judge_80 : decode cX7_judge 80 = .ok (.getfield 97, 3) := by decide +kernel
theorem dX7_judge_83 : decode cX7_judge 83 = .ok (.bipush 60, 2) := by decide +kernel
theorem dX7_judge_85 : decode cX7_judge 85 = .ok (.iload_n 1, 1) := by decide +kernel
theorem dX7_judge_86 : decode cX7_judge 86 = .ok (.imul, 1) := by decide +kernel
theorem dX7_judge_87 : decode cX7_judge 87 = .ok (.iload_n 2, 1) := by decide +kernel
theorem dX7_judge_88 : decode cX7_judge 88 = .ok (.iadd, 1) := by decide +kernel
theorem dX7_judge_89 : decode cX7_judge 89 = .ok (.iload_n 3, 1) := by decide +kernel
theorem dX7_judge_90 : decode cX7_judge 90 = .ok (.iadd, 1) := by decide +kernel
theorem dX7_judge_91 : decode cX7_judge 91 = .ok (.laload, 1) := by decide +kernel
theorem dX7_judge_92 : decode cX7_judge 92 = .ok (.aload_n 0, 1) := by decide +kernel
theorem dX7_judge_93 : decode cX7_judge 93 = .ok (.getfield 27, 3) := by decide +kernel
theorem dX7_judge_96 : decode cX7_judge 96 = .ok (.iload_n 3, 1) := by decide +kernel
theorem dX7_judge_97 : decode cX7_judge 97 = .ok (.iaload, 1) := by decide +kernel
theorem dX7_judge_98 : decode cX7_judge 98 = .ok (.i2l, 1) := by decide +kernel
theorem dX7_judge_99 : decode cX7_judge 99 = .ok (.lcmp, 1) := by decide +kernel
theorem dX7_judge_100 : decode cX7_judge 100 = .ok (.ifCond .eq 5, 3) := by decide +kernel
theorem dX7_judge_103 : decode cX7_judge 103 = .ok (.iload_n 3, 1) := by decide +kernel
theorem dX7_judge_104 : decode cX7_judge 104 = .ok (.ireturn, 1) := by decide +kernel
theorem dX7_judge_105 : decode cX7_judge 105 = .ok (.iinc 3 1, 3) := by decide +kernel
theorem dX7_judge_108 : decode cX7_judge 108 = .ok (.goto (-72), 3) := by decide +kernel
theorem dX7_judge_111 : decode cX7_judge 111 = .ok (.bipush (-5), 2) := by decide +kernel
theorem dX7_judge_113 : decode cX7_judge 113 = .ok (.ireturn, 1) := by decide +kernel
theorem dX7_keep_0 : decode cX7_keep 0 = .ok (.iconst 0, 1) := by decide +kernel
theorem dX7_keep_1 : decode cX7_keep 1 = .ok (.istore_n 2, 1) := by decide +kernel
theorem dX7_keep_2 : decode cX7_keep 2 = .ok (.iload_n 2, 1) := by decide +kernel
theorem dX7_keep_3 : decode cX7_keep 3 = .ok (.bipush 6, 2) := by decide +kernel
theorem dX7_keep_5 : decode cX7_keep 5 = .ok (.if_icmp .ge 126, 3) := by decide +kernel
theorem dX7_keep_8 : decode cX7_keep 8 = .ok (.aload_n 1, 1) := by decide +kernel
theorem dX7_keep_9 : decode cX7_keep 9 = .ok (.iload_n 2, 1) := by decide +kernel
theorem dX7_keep_10 : decode cX7_keep 10 = .ok (.aload_n 0, 1) := by decide +kernel
theorem dX7_keep_11 : decode cX7_keep 11 = .ok (.getfield 9, 3) := by decide +kernel
theorem dX7_keep_14 : decode cX7_keep 14 = .ok (.iload_n 2, 1) := by decide +kernel
theorem dX7_keep_15 : decode cX7_keep 15 = .ok (.iaload, 1) := by decide +kernel
theorem dX7_keep_16 : decode cX7_keep 16 = .ok (.iastore, 1) := by decide +kernel
theorem dX7_keep_17 : decode cX7_keep 17 = .ok (.aload_n 1, 1) := by decide +kernel
theorem dX7_keep_18 : decode cX7_keep 18 = .ok (.bipush 6, 2) := by decide +kernel
theorem dX7_keep_20 : decode cX7_keep 20 = .ok (.iload_n 2, 1) := by decide +kernel
theorem dX7_keep_21 : decode cX7_keep 21 = .ok (.iadd, 1) := by decide +kernel
theorem dX7_keep_22 : decode cX7_keep 22 = .ok (.aload_n 0, 1) := by decide +kernel
theorem dX7_keep_23 : decode cX7_keep 23 = .ok (.getfield 15, 3) := by decide +kernel
theorem dX7_keep_26 : decode cX7_keep 26 = .ok (.iload_n 2, 1) := by decide +kernel
theorem dX7_keep_27 : decode cX7_keep 27 = .ok (.iaload, 1) := by decide +kernel
theorem dX7_keep_28 : decode cX7_keep 28 = .ok (.iastore, 1) := by decide +kernel
theorem dX7_keep_29 : decode cX7_keep 29 = .ok (.aload_n 1, 1) := by decide +kernel
theorem dX7_keep_30 : decode cX7_keep 30 = .ok (.bipush 12, 2) := by decide +kernel
theorem dX7_keep_32 : decode cX7_keep 32 = .ok (.iload_n 2, 1) := by decide +kernel
theorem dX7_keep_33 : decode cX7_keep 33 = .ok (.iadd, 1) := by decide +kernel
theorem dX7_keep_34 : decode cX7_keep 34 = .ok (.aload_n 0, 1) := by decide +kernel
theorem dX7_keep_35 : decode cX7_keep 35 = .ok (.getfield 18, 3) := by decide +kernel
theorem dX7_keep_38 : decode cX7_keep 38 = .ok (.iload_n 2, 1) := by decide +kernel
theorem dX7_keep_39 : decode cX7_keep 39 = .ok (.iaload, 1) := by decide +kernel
theorem dX7_keep_40 : decode cX7_keep 40 = .ok (.iastore, 1) := by decide +kernel
theorem dX7_keep_41 : decode cX7_keep 41 = .ok (.aload_n 1, 1) := by decide +kernel
theorem dX7_keep_42 : decode cX7_keep 42 = .ok (.bipush 18, 2) := by decide +kernel
theorem dX7_keep_44 : decode cX7_keep 44 = .ok (.iload_n 2, 1) := by decide +kernel
theorem dX7_keep_45 : decode cX7_keep 45 = .ok (.iadd, 1) := by decide +kernel
theorem dX7_keep_46 : decode cX7_keep 46 = .ok (.aload_n 0, 1) := by decide +kernel
theorem dX7_keep_47 : decode cX7_keep 47 = .ok (.getfield 21, 3) := by decide +kernel
theorem dX7_keep_50 : decode cX7_keep 50 = .ok (.iload_n 2, 1) := by decide +kernel
theorem dX7_keep_51 : decode cX7_keep 51 = .ok (.iaload, 1) := by decide +kernel
theorem dX7_keep_52 : decode cX7_keep 52 = .ok (.iastore, 1) := by decide +kernel
theorem dX7_keep_53 : decode cX7_keep 53 = .ok (.aload_n 1, 1) := by decide +kernel
theorem dX7_keep_54 : decode cX7_keep 54 = .ok (.bipush 24, 2) := by decide +kernel
theorem dX7_keep_56 : decode cX7_keep 56 = .ok (.iload_n 2, 1) := by decide +kernel
theorem dX7_keep_57 : decode cX7_keep 57 = .ok (.iadd, 1) := by decide +kernel
theorem dX7_keep_58 : decode cX7_keep 58 = .ok (.aload_n 0, 1) := by decide +kernel
theorem dX7_keep_59 : decode cX7_keep 59 = .ok (.getfield 24, 3) := by decide +kernel
theorem dX7_keep_62 : decode cX7_keep 62 = .ok (.iload_n 2, 1) := by decide +kernel
theorem dX7_keep_63 : decode cX7_keep 63 = .ok (.iaload, 1) := by decide +kernel
theorem dX7_keep_64 : decode cX7_keep 64 = .ok (.iastore, 1) := by decide +kernel
theorem dX7_keep_65 : decode cX7_keep 65 = .ok (.aload_n 1, 1) := by decide +kernel
theorem dX7_keep_66 : decode cX7_keep 66 = .ok (.bipush 30, 2) := by decide +kernel
theorem dX7_keep_68 : decode cX7_keep 68 = .ok (.iload_n 2, 1) := by decide +kernel
theorem dX7_keep_69 : decode cX7_keep 69 = .ok (.iadd, 1) := by decide +kernel
theorem dX7_keep_70 : decode cX7_keep 70 = .ok (.aload_n 0, 1) := by decide +kernel
theorem dX7_keep_71 : decode cX7_keep 71 = .ok (.getfield 27, 3) := by decide +kernel
theorem dX7_keep_74 : decode cX7_keep 74 = .ok (.iload_n 2, 1) := by decide +kernel
theorem dX7_keep_75 : decode cX7_keep 75 = .ok (.iaload, 1) := by decide +kernel
theorem dX7_keep_76 : decode cX7_keep 76 = .ok (.iastore, 1) := by decide +kernel
theorem dX7_keep_77 : decode cX7_keep 77 = .ok (.aload_n 1, 1) := by decide +kernel
theorem dX7_keep_78 : decode cX7_keep 78 = .ok (.bipush 36, 2) := by decide +kernel
theorem dX7_keep_80 : decode cX7_keep 80 = .ok (.iload_n 2, 1) := by decide +kernel
theorem dX7_keep_81 : decode cX7_keep 81 = .ok (.iadd, 1) := by decide +kernel
theorem dX7_keep_82 : decode cX7_keep 82 = .ok (.aload_n 0, 1) := by decide +kernel
theorem dX7_keep_83 : decode cX7_keep 83 = .ok (.getfield 30, 3) := by decide +kernel
theorem dX7_keep_86 : decode cX7_keep 86 = .ok (.iload_n 2, 1) := by decide +kernel
theorem dX7_keep_87 : decode cX7_keep 87 = .ok (.iaload, 1) := by decide +kernel
theorem dX7_keep_88 : decode cX7_keep 88 = .ok (.iastore, 1) := by decide +kernel
theorem dX7_keep_89 : decode cX7_keep 89 = .ok (.aload_n 1, 1) := by decide +kernel
theorem dX7_keep_90 : decode cX7_keep 90 = .ok (.bipush 42, 2) := by decide +kernel
theorem dX7_keep_92 : decode cX7_keep 92 = .ok (.iload_n 2, 1) := by decide +kernel
theorem dX7_keep_93 : decode cX7_keep 93 = .ok (.iadd, 1) := by decide +kernel
theorem dX7_keep_94 : decode cX7_keep 94 = .ok (.aload_n 0, 1) := by decide +kernel
theorem dX7_keep_95 : decode cX7_keep 95 = .ok (.getfield 61, 3) := by decide +kernel
theorem dX7_keep_98 : decode cX7_keep 98 = .ok (.iload_n 2, 1) := by decide +kernel
theorem dX7_keep_99 : decode cX7_keep 99 = .ok (.iaload, 1) := by decide +kernel
theorem dX7_keep_100 : decode cX7_keep 100 = .ok (.iastore, 1) := by decide +kernel
theorem dX7_keep_101 : decode cX7_keep 101 = .ok (.aload_n 1, 1) := by decide +kernel
theorem dX7_keep_102 : decode cX7_keep 102 = .ok (.bipush 48, 2) := by decide +kernel
theorem dX7_keep_104 : decode cX7_keep 104 = .ok (.iload_n 2, 1) := by decide +kernel
theorem dX7_keep_105 : decode cX7_keep 105 = .ok (.iadd, 1) := by decide +kernel
theorem dX7_keep_106 : decode cX7_keep 106 = .ok (.aload_n 0, 1) := by decide +kernel
theorem dX7_keep_107 : decode cX7_keep 107 = .ok (.getfield 64, 3) := by decide +kernel
theorem dX7_keep_110 : decode cX7_keep 110 = .ok (.iload_n 2, 1) := by decide +kernel
theorem dX7_keep_111 : decode cX7_keep 111 = .ok (.iaload, 1) := by decide +kernel
theorem dX7_keep_112 : decode cX7_keep 112 = .ok (.iastore, 1) := by decide +kernel
theorem dX7_keep_113 : decode cX7_keep 113 = .ok (.aload_n 1, 1) := by decide +kernel
theorem dX7_keep_114 : decode cX7_keep 114 = .ok (.bipush 54, 2) := by decide +kernel
theorem dX7_keep_116 : decode cX7_keep 116 = .ok (.iload_n 2, 1) := by decide +kernel
theorem dX7_keep_117 : decode cX7_keep 117 = .ok (.iadd, 1) := by decide +kernel
theorem dX7_keep_118 : decode cX7_keep 118 = .ok (.aload_n 0, 1) := by decide +kernel
theorem dX7_keep_119 : decode cX7_keep 119 = .ok (.getfield 67, 3) := by decide +kernel
theorem dX7_keep_122 : decode cX7_keep 122 = .ok (.iload_n 2, 1) := by decide +kernel
theorem dX7_keep_123 : decode cX7_keep 123 = .ok (.iaload, 1) := by decide +kernel
theorem dX7_keep_124 : decode cX7_keep 124 = .ok (.iastore, 1) := by decide +kernel
theorem dX7_keep_125 : decode cX7_keep 125 = .ok (.iinc 2 1, 3) := by decide +kernel
theorem dX7_keep_128 : decode cX7_keep 128 = .ok (.goto (-126), 3) := by decide +kernel
theorem dX7_keep_131 : decode cX7_keep 131 = .ok (.iconst 0, 1) := by decide +kernel
theorem dX7_keep_132 : decode cX7_keep 132 = .ok (.istore_n 2, 1) := by decide +kernel
theorem dX7_keep_133 : decode cX7_keep 133 = .ok (.iload_n 2, 1) := by decide +kernel
theorem dX7_keep_134 : decode cX7_keep 134 = .ok (.bipush 24, 2) := by decide +kernel
theorem dX7_keep_136 : decode cX7_keep 136 = .ok (.if_icmp .ge 21, 3) := by decide +kernel
theorem dX7_keep_139 : decode cX7_keep 139 = .ok (.aload_n 1, 1) := by decide +kernel
theorem dX7_keep_140 : decode cX7_keep 140 = .ok (.bipush 60, 2) := by decide +kernel
theorem dX7_keep_142 : decode cX7_keep 142 = .ok (.iload_n 2, 1) := by decide +kernel
theorem dX7_keep_143 : decode cX7_keep 143 = .ok (.iadd, 1) := by decide +kernel
theorem dX7_keep_144 : decode cX7_keep 144 = .ok (.aload_n 0, 1) := by decide +kernel
theorem dX7_keep_145 : decode cX7_keep 145 = .ok (.getfield 33, 3) := by decide +kernel
theorem dX7_keep_148 : decode cX7_keep 148 = .ok (.iload_n 2, 1) := by decide +kernel
theorem dX7_keep_149 : decode cX7_keep 149 = .ok (.iaload, 1) := by decide +kernel
theorem dX7_keep_150 : decode cX7_keep 150 = .ok (.iastore, 1) := by decide +kernel
theorem dX7_keep_151 : decode cX7_keep 151 = .ok (.iinc 2 1, 3) := by decide +kernel
theorem dX7_keep_154 : decode cX7_keep 154 = .ok (.goto (-21), 3) := by decide +kernel
theorem dX7_keep_157 : decode cX7_keep 157 = .ok (.iconst 0, 1) := by decide +kernel
theorem dX7_keep_158 : decode cX7_keep 158 = .ok (.istore_n 2, 1) := by decide +kernel
theorem dX7_keep_159 : decode cX7_keep 159 = .ok (.iload_n 2, 1) := by decide +kernel
theorem dX7_keep_160 : decode cX7_keep 160 = .ok (.bipush 10, 2) := by decide +kernel
theorem dX7_keep_162 : decode cX7_keep 162 = .ok (.if_icmp .ge 33, 3) := by decide +kernel
theorem dX7_keep_165 : decode cX7_keep 165 = .ok (.aload_n 1, 1) := by decide +kernel
theorem dX7_keep_166 : decode cX7_keep 166 = .ok (.bipush 84, 2) := by decide +kernel
theorem dX7_keep_168 : decode cX7_keep 168 = .ok (.iload_n 2, 1) := by decide +kernel
theorem dX7_keep_169 : decode cX7_keep 169 = .ok (.iadd, 1) := by decide +kernel
theorem dX7_keep_170 : decode cX7_keep 170 = .ok (.aload_n 0, 1) := by decide +kernel
theorem dX7_keep_171 : decode cX7_keep 171 = .ok (.getfield 70, 3) := by decide +kernel
theorem dX7_keep_174 : decode cX7_keep 174 = .ok (.iload_n 2, 1) := by decide +kernel
theorem dX7_keep_175 : decode cX7_keep 175 = .ok (.iaload, 1) := by decide +kernel
theorem dX7_keep_176 : decode cX7_keep 176 = .ok (.iastore, 1) := by decide +kernel
theorem dX7_keep_177 : decode cX7_keep 177 = .ok (.aload_n 1, 1) := by decide +kernel
theorem dX7_keep_178 : decode cX7_keep 178 = .ok (.bipush 94, 2) := by decide +kernel
theorem dX7_keep_180 : decode cX7_keep 180 = .ok (.iload_n 2, 1) := by decide +kernel
theorem dX7_keep_181 : decode cX7_keep 181 = .ok (.iadd, 1) := by decide +kernel
theorem dX7_keep_182 : decode cX7_keep 182 = .ok (.aload_n 0, 1) := by decide +kernel
theorem dX7_keep_183 : decode cX7_keep 183 = .ok (.getfield 73, 3) := by decide +kernel
theorem dX7_keep_186 : decode cX7_keep 186 = .ok (.iload_n 2, 1) := by decide +kernel
theorem dX7_keep_187 : decode cX7_keep 187 = .ok (.iaload, 1) := by decide +kernel
theorem dX7_keep_188 : decode cX7_keep 188 = .ok (.iastore, 1) := by decide +kernel
theorem dX7_keep_189 : decode cX7_keep 189 = .ok (.iinc 2 1, 3) := by decide +kernel
theorem dX7_keep_192 : decode cX7_keep 192 = .ok (.goto (-33), 3) := by decide +kernel
theorem dX7_keep_195 : decode cX7_keep 195 = .ok (.iconst 0, 1) := by decide +kernel
theorem dX7_keep_196 : decode cX7_keep 196 = .ok (.istore_n 2, 1) := by decide +kernel
theorem dX7_keep_197 : decode cX7_keep 197 = .ok (.iload_n 2, 1) := by decide +kernel
theorem dX7_keep_198 : decode cX7_keep 198 = .ok (.bipush 8, 2) := by decide +kernel
theorem dX7_keep_200 : decode cX7_keep 200 = .ok (.if_icmp .ge 33, 3) := by decide +kernel
theorem dX7_keep_203 : decode cX7_keep 203 = .ok (.aload_n 1, 1) := by decide +kernel
theorem dX7_keep_204 : decode cX7_keep 204 = .ok (.bipush 104, 2) := by decide +kernel
theorem dX7_keep_206 : decode cX7_keep 206 = .ok (.iload_n 2, 1) := by decide +kernel
theorem dX7_keep_207 : decode cX7_keep 207 = .ok (.iadd, 1) := by decide +kernel
theorem dX7_keep_208 : decode cX7_keep 208 = .ok (.aload_n 0, 1) := by decide +kernel
theorem dX7_keep_209 : decode cX7_keep 209 = .ok (.getfield 76, 3) := by decide +kernel
theorem dX7_keep_212 : decode cX7_keep 212 = .ok (.iload_n 2, 1) := by decide +kernel
theorem dX7_keep_213 : decode cX7_keep 213 = .ok (.iaload, 1) := by decide +kernel
theorem dX7_keep_214 : decode cX7_keep 214 = .ok (.iastore, 1) := by decide +kernel
theorem dX7_keep_215 : decode cX7_keep 215 = .ok (.aload_n 1, 1) := by decide +kernel
theorem dX7_keep_216 : decode cX7_keep 216 = .ok (.bipush 112, 2) := by decide +kernel
theorem dX7_keep_218 : decode cX7_keep 218 = .ok (.iload_n 2, 1) := by decide +kernel
theorem dX7_keep_219 : decode cX7_keep 219 = .ok (.iadd, 1) := by decide +kernel
theorem dX7_keep_220 : decode cX7_keep 220 = .ok (.aload_n 0, 1) := by decide +kernel
theorem dX7_keep_221 : decode cX7_keep 221 = .ok (.getfield 79, 3) := by decide +kernel
theorem dX7_keep_224 : decode cX7_keep 224 = .ok (.iload_n 2, 1) := by decide +kernel
theorem dX7_keep_225 : decode cX7_keep 225 = .ok (.iaload, 1) := by decide +kernel
theorem dX7_keep_226 : decode cX7_keep 226 = .ok (.iastore, 1) := by decide +kernel
theorem dX7_keep_227 : decode cX7_keep 227 = .ok (.iinc 2 1, 3) := by decide +kernel
theorem dX7_keep_230 : decode cX7_keep 230 = .ok (.goto (-33), 3) := by decide +kernel
theorem dX7_keep_233 : decode cX7_keep 233 = .ok (.aload_n 1, 1) := by decide +kernel
theorem dX7_keep_234 : decode cX7_keep 234 = .ok (.bipush 120, 2) := by decide +kernel
theorem dX7_keep_236 : decode cX7_keep 236 = .ok (.aload_n 0, 1) := by decide +kernel
theorem dX7_keep_237 : decode cX7_keep 237 = .ok (.getfield 108, 3) := by decide +kernel
theorem dX7_keep_240 : decode cX7_keep 240 = .ok (.iastore, 1) := by decide +kernel
theorem dX7_keep_241 : decode cX7_keep 241 = .ok (.aload_n 1, 1) := by decide +kernel
theorem dX7_keep_242 : decode cX7_keep 242 = .ok (.bipush 121, 2) := by decide +kernel
theorem dX7_keep_244 : decode cX7_keep 244 = .ok (.aload_n 0, 1) := by decide +kernel
theorem dX7_keep_245 : decode cX7_keep 245 = .ok (.getfield 101, 3) := by decide +kernel
theorem dX7_keep_248 : decode cX7_keep 248 = .ok (.iastore, 1) := by decide +kernel
theorem dX7_keep_249 : decode cX7_keep 249 = .ok (.aload_n 1, 1) := by decide +kernel
theorem dX7_keep_250 : decode cX7_keep 250 = .ok (.bipush 122, 2) := by decide +kernel
theorem dX7_keep_252 : decode cX7_keep 252 = .ok (.aload_n 0, 1) := by decide +kernel
theorem dX7_keep_253 : decode cX7_keep 253 = .ok (.getfield 229, 3) := by decide +kernel
theorem dX7_keep_256 : decode cX7_keep 256 = .ok (.iastore, 1) := by decide +kernel
theorem dX7_keep_257 : decode cX7_keep 257 = .ok (.aload_n 1, 1) := by decide +kernel
theorem dX7_keep_258 : decode cX7_keep 258 = .ok (.bipush 123, 2) := by decide +kernel
theorem dX7_keep_260 : decode cX7_keep 260 = .ok (.aload_n 0, 1) := by decide +kernel
theorem dX7_keep_261 : decode cX7_keep 261 = .ok (.getfield 289, 3) := by decide +kernel
theorem dX7_keep_264 : decode cX7_keep 264 = .ok (.iastore, 1) := by decide +kernel
theorem dX7_keep_265 : decode cX7_keep 265 = .ok (.aload_n 1, 1) := by decide +kernel
theorem dX7_keep_266 : decode cX7_keep 266 = .ok (.bipush 124, 2) := by decide +kernel
theorem dX7_keep_268 : decode cX7_keep 268 = .ok (.aload_n 0, 1) := by decide +kernel
theorem dX7_keep_269 : decode cX7_keep 269 = .ok (.getfield 299, 3) := by decide +kernel
theorem dX7_keep_272 : decode cX7_keep 272 = .ok (.bipush 100, 2) := by decide +kernel
theorem dX7_keep_274 : decode cX7_keep 274 = .ok (.aload_n 0, 1) := by decide +kernel
theorem dX7_keep_275 : decode cX7_keep 275 = .ok (.getfield 302, 3) := by decide +kernel
theorem dX7_keep_278 : decode cX7_keep 278 = .ok (.imul, 1) := by decide +kernel
theorem dX7_keep_279 : decode cX7_keep 279 = .ok (.iadd, 1) := by decide +kernel
theorem dX7_keep_280 : decode cX7_keep 280 = .ok (.iastore, 1) := by decide +kernel
theorem dX7_keep_281 : decode cX7_keep 281 = .ok (.aload_n 1, 1) := by decide +kernel
theorem dX7_keep_282 : decode cX7_keep 282 = .ok (.bipush 125, 2) := by decide +kernel
theorem dX7_keep_284 : decode cX7_keep 284 = .ok (.aload_n 0, 1) := by decide +kernel
theorem dX7_keep_285 : decode cX7_keep 285 = .ok (.getfield 105, 3) := by decide +kernel
theorem dX7_keep_288 : decode cX7_keep 288 = .ok (.iastore, 1) := by decide +kernel
theorem dX7_keep_289 : decode cX7_keep 289 = .ok (.return_, 1) := by decide +kernel
theorem dX7_again_0 : decode cX7_again 0 = .ok (.iconst 0, 1) := by decide +kernel
theorem dX7_again_1 : decode cX7_again 1 = .ok (.istore_n 2, 1) := by decide +kernel
theorem dX7_again_2 : decode cX7_again 2 = .ok (.iload_n 2, 1) := by decide +kernel
theorem dX7_again_3 : decode cX7_again 3 = .ok (.bipush 6, 2) := by decide +kernel
theorem dX7_again_5 : decode cX7_again 5 = .ok (.if_icmp .ge 126, 3) := by decide +kernel
theorem dX7_again_8 : decode cX7_again 8 = .ok (.aload_n 0, 1) := by decide +kernel
theorem dX7_again_9 : decode cX7_again 9 = .ok (.getfield 9, 3) := by decide +kernel
theorem dX7_again_12 : decode cX7_again 12 = .ok (.iload_n 2, 1) := by decide +kernel
theorem dX7_again_13 : decode cX7_again 13 = .ok (.aload_n 1, 1) := by decide +kernel
theorem dX7_again_14 : decode cX7_again 14 = .ok (.iload_n 2, 1) := by decide +kernel
theorem dX7_again_15 : decode cX7_again 15 = .ok (.iaload, 1) := by decide +kernel
theorem dX7_again_16 : decode cX7_again 16 = .ok (.iastore, 1) := by decide +kernel
theorem dX7_again_17 : decode cX7_again 17 = .ok (.aload_n 0, 1) := by decide +kernel
theorem dX7_again_18 : decode cX7_again 18 = .ok (.getfield 15, 3) := by decide +kernel
theorem dX7_again_21 : decode cX7_again 21 = .ok (.iload_n 2, 1) := by decide +kernel
theorem dX7_again_22 : decode cX7_again 22 = .ok (.aload_n 1, 1) := by decide +kernel
theorem dX7_again_23 : decode cX7_again 23 = .ok (.bipush 6, 2) := by decide +kernel
theorem dX7_again_25 : decode cX7_again 25 = .ok (.iload_n 2, 1) := by decide +kernel
theorem dX7_again_26 : decode cX7_again 26 = .ok (.iadd, 1) := by decide +kernel
theorem dX7_again_27 : decode cX7_again 27 = .ok (.iaload, 1) := by decide +kernel
theorem dX7_again_28 : decode cX7_again 28 = .ok (.iastore, 1) := by decide +kernel
theorem dX7_again_29 : decode cX7_again 29 = .ok (.aload_n 0, 1) := by decide +kernel
theorem dX7_again_30 : decode cX7_again 30 = .ok (.getfield 18, 3) := by decide +kernel
theorem dX7_again_33 : decode cX7_again 33 = .ok (.iload_n 2, 1) := by decide +kernel
theorem dX7_again_34 : decode cX7_again 34 = .ok (.aload_n 1, 1) := by decide +kernel
theorem dX7_again_35 : decode cX7_again 35 = .ok (.bipush 12, 2) := by decide +kernel
theorem dX7_again_37 : decode cX7_again 37 = .ok (.iload_n 2, 1) := by decide +kernel
theorem dX7_again_38 : decode cX7_again 38 = .ok (.iadd, 1) := by decide +kernel
theorem dX7_again_39 : decode cX7_again 39 = .ok (.iaload, 1) := by decide +kernel
theorem dX7_again_40 : decode cX7_again 40 = .ok (.iastore, 1) := by decide +kernel
theorem dX7_again_41 : decode cX7_again 41 = .ok (.aload_n 0, 1) := by decide +kernel
theorem dX7_again_42 : decode cX7_again 42 = .ok (.getfield 21, 3) := by decide +kernel
theorem dX7_again_45 : decode cX7_again 45 = .ok (.iload_n 2, 1) := by decide +kernel
theorem dX7_again_46 : decode cX7_again 46 = .ok (.aload_n 1, 1) := by decide +kernel
theorem dX7_again_47 : decode cX7_again 47 = .ok (.bipush 18, 2) := by decide +kernel
theorem dX7_again_49 : decode cX7_again 49 = .ok (.iload_n 2, 1) := by decide +kernel
theorem dX7_again_50 : decode cX7_again 50 = .ok (.iadd, 1) := by decide +kernel
theorem dX7_again_51 : decode cX7_again 51 = .ok (.iaload, 1) := by decide +kernel
theorem dX7_again_52 : decode cX7_again 52 = .ok (.iastore, 1) := by decide +kernel
theorem dX7_again_53 : decode cX7_again 53 = .ok (.aload_n 0, 1) := by decide +kernel
theorem dX7_again_54 : decode cX7_again 54 = .ok (.getfield 24, 3) := by decide +kernel
theorem dX7_again_57 : decode cX7_again 57 = .ok (.iload_n 2, 1) := by decide +kernel
theorem dX7_again_58 : decode cX7_again 58 = .ok (.aload_n 1, 1) := by decide +kernel
theorem dX7_again_59 : decode cX7_again 59 = .ok (.bipush 24, 2) := by decide +kernel
theorem dX7_again_61 : decode cX7_again 61 = .ok (.iload_n 2, 1) := by decide +kernel
theorem dX7_again_62 : decode cX7_again 62 = .ok (.iadd, 1) := by decide +kernel
theorem dX7_again_63 : decode cX7_again 63 = .ok (.iaload, 1) := by decide +kernel
theorem dX7_again_64 : decode cX7_again 64 = .ok (.iastore, 1) := by decide +kernel
theorem dX7_again_65 : decode cX7_again 65 = .ok (.aload_n 0, 1) := by decide +kernel
theorem dX7_again_66 : decode cX7_again 66 = .ok (.getfield 27, 3) := by decide +kernel
theorem dX7_again_69 : decode cX7_again 69 = .ok (.iload_n 2, 1) := by decide +kernel
theorem dX7_again_70 : decode cX7_again 70 = .ok (.aload_n 1, 1) := by decide +kernel
theorem dX7_again_71 : decode cX7_again 71 = .ok (.bipush 30, 2) := by decide +kernel
theorem dX7_again_73 : decode cX7_again 73 = .ok (.iload_n 2, 1) := by decide +kernel
theorem dX7_again_74 : decode cX7_again 74 = .ok (.iadd, 1) := by decide +kernel
theorem dX7_again_75 : decode cX7_again 75 = .ok (.iaload, 1) := by decide +kernel
theorem dX7_again_76 : decode cX7_again 76 = .ok (.iastore, 1) := by decide +kernel
theorem dX7_again_77 : decode cX7_again 77 = .ok (.aload_n 0, 1) := by decide +kernel
theorem dX7_again_78 : decode cX7_again 78 = .ok (.getfield 30, 3) := by decide +kernel
theorem dX7_again_81 : decode cX7_again 81 = .ok (.iload_n 2, 1) := by decide +kernel
theorem dX7_again_82 : decode cX7_again 82 = .ok (.aload_n 1, 1) := by decide +kernel
theorem dX7_again_83 : decode cX7_again 83 = .ok (.bipush 36, 2) := by decide +kernel
theorem dX7_again_85 : decode cX7_again 85 = .ok (.iload_n 2, 1) := by decide +kernel
theorem dX7_again_86 : decode cX7_again 86 = .ok (.iadd, 1) := by decide +kernel
theorem dX7_again_87 : decode cX7_again 87 = .ok (.iaload, 1) := by decide +kernel
theorem dX7_again_88 : decode cX7_again 88 = .ok (.iastore, 1) := by decide +kernel
theorem dX7_again_89 : decode cX7_again 89 = .ok (.aload_n 0, 1) := by decide +kernel
theorem dX7_again_90 : decode cX7_again 90 = .ok (.getfield 61, 3) := by decide +kernel
theorem dX7_again_93 : decode cX7_again 93 = .ok (.iload_n 2, 1) := by decide +kernel
theorem dX7_again_94 : decode cX7_again 94 = .ok (.aload_n 1, 1) := by decide +kernel
theorem dX7_again_95 : decode cX7_again 95 = .ok (.bipush 42, 2) := by decide +kernel
theorem dX7_again_97 : decode cX7_again 97 = .ok (.iload_n 2, 1) := by decide +kernel
theorem dX7_again_98 : decode cX7_again 98 = .ok (.iadd, 1) := by decide +kernel
theorem dX7_again_99 : decode cX7_again 99 = .ok (.iaload, 1) := by decide +kernel
theorem dX7_again_100 : decode cX7_again 100 = .ok (.iastore, 1) := by decide +kernel
theorem dX7_again_101 : decode cX7_again 101 = .ok (.aload_n 0, 1) := by decide +kernel
theorem dX7_again_102 : decode cX7_again 102 = .ok (.getfield 64, 3) := by decide +kernel
theorem dX7_again_105 : decode cX7_again 105 = .ok (.iload_n 2, 1) := by decide +kernel
theorem dX7_again_106 : decode cX7_again 106 = .ok (.aload_n 1, 1) := by decide +kernel
theorem dX7_again_107 : decode cX7_again 107 = .ok (.bipush 48, 2) := by decide +kernel
theorem dX7_again_109 : decode cX7_again 109 = .ok (.iload_n 2, 1) := by decide +kernel
theorem dX7_again_110 : decode cX7_again 110 = .ok (.iadd, 1) := by decide +kernel
theorem dX7_again_111 : decode cX7_again 111 = .ok (.iaload, 1) := by decide +kernel
theorem dX7_again_112 : decode cX7_again 112 = .ok (.iastore, 1) := by decide +kernel
theorem dX7_again_113 : decode cX7_again 113 = .ok (.aload_n 0, 1) := by decide +kernel
theorem dX7_again_114 : decode cX7_again 114 = .ok (.getfield 67, 3) := by decide +kernel
theorem dX7_again_117 : decode cX7_again 117 = .ok (.iload_n 2, 1) := by decide +kernel
theorem dX7_again_118 : decode cX7_again 118 = .ok (.aload_n 1, 1) := by decide +kernel
theorem dX7_again_119 : decode cX7_again 119 = .ok (.bipush 54, 2) := by decide +kernel
theorem dX7_again_121 : decode cX7_again 121 = .ok (.iload_n 2, 1) := by decide +kernel
theorem dX7_again_122 : decode cX7_again 122 = .ok (.iadd, 1) := by decide +kernel
theorem dX7_again_123 : decode cX7_again 123 = .ok (.iaload, 1) := by decide +kernel
theorem dX7_again_124 : decode cX7_again 124 = .ok (.iastore, 1) := by decide +kernel
theorem dX7_again_125 : decode cX7_again 125 = .ok (.iinc 2 1, 3) := by decide +kernel
theorem dX7_again_128 : decode cX7_again 128 = .ok (.goto (-126), 3) := by decide +kernel
theorem dX7_again_131 : decode cX7_again 131 = .ok (.iconst 0, 1) := by decide +kernel
theorem dX7_again_132 : decode cX7_again 132 = .ok (.istore_n 2, 1) := by decide +kernel
theorem dX7_again_133 : decode cX7_again 133 = .ok (.iload_n 2, 1) := by decide +kernel
theorem dX7_again_134 : decode cX7_again 134 = .ok (.bipush 24, 2) := by decide +kernel
theorem dX7_again_136 : decode cX7_again 136 = .ok (.if_icmp .ge 21, 3) := by decide +kernel
theorem dX7_again_139 : decode cX7_again 139 = .ok (.aload_n 0, 1) := by decide +kernel
theorem dX7_again_140 : decode cX7_again 140 = .ok (.getfield 33, 3) := by decide +kernel
theorem dX7_again_143 : decode cX7_again 143 = .ok (.iload_n 2, 1) := by decide +kernel
theorem dX7_again_144 : decode cX7_again 144 = .ok (.aload_n 1, 1) := by decide +kernel
theorem dX7_again_145 : decode cX7_again 145 = .ok (.bipush 60, 2) := by decide +kernel
theorem dX7_again_147 : decode cX7_again 147 = .ok (.iload_n 2, 1) := by decide +kernel
theorem dX7_again_148 : decode cX7_again 148 = .ok (.iadd, 1) := by decide +kernel
theorem dX7_again_149 : decode cX7_again 149 = .ok (.iaload, 1) := by decide +kernel
theorem dX7_again_150 : decode cX7_again 150 = .ok (.iastore, 1) := by decide +kernel
theorem dX7_again_151 : decode cX7_again 151 = .ok (.iinc 2 1, 3) := by decide +kernel
theorem dX7_again_154 : decode cX7_again 154 = .ok (.goto (-21), 3) := by decide +kernel
theorem dX7_again_157 : decode cX7_again 157 = .ok (.iconst 0, 1) := by decide +kernel
theorem dX7_again_158 : decode cX7_again 158 = .ok (.istore_n 2, 1) := by decide +kernel
theorem dX7_again_159 : decode cX7_again 159 = .ok (.iload_n 2, 1) := by decide +kernel
theorem dX7_again_160 : decode cX7_again 160 = .ok (.bipush 10, 2) := by decide +kernel
theorem dX7_again_162 : decode cX7_again 162 = .ok (.if_icmp .ge 33, 3) := by decide +kernel
theorem dX7_again_165 : decode cX7_again 165 = .ok (.aload_n 0, 1) := by decide +kernel
theorem dX7_again_166 : decode cX7_again 166 = .ok (.getfield 70, 3) := by decide +kernel
theorem dX7_again_169 : decode cX7_again 169 = .ok (.iload_n 2, 1) := by decide +kernel
theorem dX7_again_170 : decode cX7_again 170 = .ok (.aload_n 1, 1) := by decide +kernel
theorem dX7_again_171 : decode cX7_again 171 = .ok (.bipush 84, 2) := by decide +kernel
theorem dX7_again_173 : decode cX7_again 173 = .ok (.iload_n 2, 1) := by decide +kernel
theorem dX7_again_174 : decode cX7_again 174 = .ok (.iadd, 1) := by decide +kernel
theorem dX7_again_175 : decode cX7_again 175 = .ok (.iaload, 1) := by decide +kernel
theorem dX7_again_176 : decode cX7_again 176 = .ok (.iastore, 1) := by decide +kernel
theorem dX7_again_177 : decode cX7_again 177 = .ok (.aload_n 0, 1) := by decide +kernel
theorem dX7_again_178 : decode cX7_again 178 = .ok (.getfield 73, 3) := by decide +kernel
theorem dX7_again_181 : decode cX7_again 181 = .ok (.iload_n 2, 1) := by decide +kernel
theorem dX7_again_182 : decode cX7_again 182 = .ok (.aload_n 1, 1) := by decide +kernel
theorem dX7_again_183 : decode cX7_again 183 = .ok (.bipush 94, 2) := by decide +kernel
theorem dX7_again_185 : decode cX7_again 185 = .ok (.iload_n 2, 1) := by decide +kernel
theorem dX7_again_186 : decode cX7_again 186 = .ok (.iadd, 1) := by decide +kernel
theorem dX7_again_187 : decode cX7_again 187 = .ok (.iaload, 1) := by decide +kernel
theorem dX7_again_188 : decode cX7_again 188 = .ok (.iastore, 1) := by decide +kernel
theorem dX7_again_189 : decode cX7_again 189 = .ok (.iinc 2 1, 3) := by decide +kernel
theorem dX7_again_192 : decode cX7_again 192 = .ok (.goto (-33), 3) := by decide +kernel
theorem dX7_again_195 : decode cX7_again 195 = .ok (.iconst 0, 1) := by decide +kernel
theorem dX7_again_196 : decode cX7_again 196 = .ok (.istore_n 2, 1) := by decide +kernel
theorem dX7_again_197 : decode cX7_again 197 = .ok (.iload_n 2, 1) := by decide +kernel
theorem dX7_again_198 : decode cX7_again 198 = .ok (.bipush 8, 2) := by decide +kernel
theorem dX7_again_200 : decode cX7_again 200 = .ok (.if_icmp .ge 33, 3) := by decide +kernel
theorem dX7_again_203 : decode cX7_again 203 = .ok (.aload_n 0, 1) := by decide +kernel
theorem dX7_again_204 : decode cX7_again 204 = .ok (.getfield 76, 3) := by decide +kernel
theorem dX7_again_207 : decode cX7_again 207 = .ok (.iload_n 2, 1) := by decide +kernel
theorem dX7_again_208 : decode cX7_again 208 = .ok (.aload_n 1, 1) := by decide +kernel
theorem dX7_again_209 : decode cX7_again 209 = .ok (.bipush 104, 2) := by decide +kernel
theorem dX7_again_211 : decode cX7_again 211 = .ok (.iload_n 2, 1) := by decide +kernel
theorem dX7_again_212 : decode cX7_again 212 = .ok (.iadd, 1) := by decide +kernel
theorem dX7_again_213 : decode cX7_again 213 = .ok (.iaload, 1) := by decide +kernel
theorem dX7_again_214 : decode cX7_again 214 = .ok (.iastore, 1) := by decide +kernel
theorem dX7_again_215 : decode cX7_again 215 = .ok (.aload_n 0, 1) := by decide +kernel
theorem dX7_again_216 : decode cX7_again 216 = .ok (.getfield 79, 3) := by decide +kernel
theorem dX7_again_219 : decode cX7_again 219 = .ok (.iload_n 2, 1) := by decide +kernel
theorem dX7_again_220 : decode cX7_again 220 = .ok (.aload_n 1, 1) := by decide +kernel
theorem dX7_again_221 : decode cX7_again 221 = .ok (.bipush 112, 2) := by decide +kernel
theorem dX7_again_223 : decode cX7_again 223 = .ok (.iload_n 2, 1) := by decide +kernel
theorem dX7_again_224 : decode cX7_again 224 = .ok (.iadd, 1) := by decide +kernel
theorem dX7_again_225 : decode cX7_again 225 = .ok (.iaload, 1) := by decide +kernel
theorem dX7_again_226 : decode cX7_again 226 = .ok (.iastore, 1) := by decide +kernel
theorem dX7_again_227 : decode cX7_again 227 = .ok (.iinc 2 1, 3) := by decide +kernel
theorem dX7_again_230 : decode cX7_again 230 = .ok (.goto (-33), 3) := by decide +kernel
theorem dX7_again_233 : decode cX7_again 233 = .ok (.aload_n 0, 1) := by decide +kernel
theorem dX7_again_234 : decode cX7_again 234 = .ok (.aload_n 1, 1) := by decide +kernel
theorem dX7_again_235 : decode cX7_again 235 = .ok (.bipush 120, 2) := by decide +kernel
theorem dX7_again_237 : decode cX7_again 237 = .ok (.iaload, 1) := by decide +kernel
theorem dX7_again_238 : decode cX7_again 238 = .ok (.putfield 108, 3) := by decide +kernel
theorem dX7_again_241 : decode cX7_again 241 = .ok (.aload_n 0, 1) := by decide +kernel
theorem dX7_again_242 : decode cX7_again 242 = .ok (.aload_n 1, 1) := by decide +kernel
theorem dX7_again_243 : decode cX7_again 243 = .ok (.bipush 121, 2) := by decide +kernel
theorem dX7_again_245 : decode cX7_again 245 = .ok (.iaload, 1) := by decide +kernel
theorem dX7_again_246 : decode cX7_again 246 = .ok (.putfield 101, 3) := by decide +kernel
theorem dX7_again_249 : decode cX7_again 249 = .ok (.aload_n 0, 1) := by decide +kernel
theorem dX7_again_250 : decode cX7_again 250 = .ok (.aload_n 1, 1) := by decide +kernel
theorem dX7_again_251 : decode cX7_again 251 = .ok (.bipush 122, 2) := by decide +kernel
theorem dX7_again_253 : decode cX7_again 253 = .ok (.iaload, 1) := by decide +kernel
theorem dX7_again_254 : decode cX7_again 254 = .ok (.putfield 229, 3) := by decide +kernel
theorem dX7_again_257 : decode cX7_again 257 = .ok (.aload_n 0, 1) := by decide +kernel
theorem dX7_again_258 : decode cX7_again 258 = .ok (.aload_n 1, 1) := by decide +kernel
theorem dX7_again_259 : decode cX7_again 259 = .ok (.bipush 123, 2) := by decide +kernel
theorem dX7_again_261 : decode cX7_again 261 = .ok (.iaload, 1) := by decide +kernel
theorem dX7_again_262 : decode cX7_again 262 = .ok (.putfield 289, 3) := by decide +kernel
theorem dX7_again_265 : decode cX7_again 265 = .ok (.aload_n 0, 1) := by decide +kernel
theorem dX7_again_266 : decode cX7_again 266 = .ok (.aload_n 1, 1) := by decide +kernel
theorem dX7_again_267 : decode cX7_again 267 = .ok (.bipush 124, 2) := by decide +kernel
theorem dX7_again_269 : decode cX7_again 269 = .ok (.iaload, 1) := by decide +kernel
theorem dX7_again_270 : decode cX7_again 270 = .ok (.bipush 100, 2) := by decide +kernel
theorem dX7_again_272 : decode cX7_again 272 = .ok (.irem, 1) := by decide +kernel
theorem dX7_again_273 : decode cX7_again 273 = .ok (.putfield 299, 3) := by decide +kernel
theorem dX7_again_276 : decode cX7_again 276 = .ok (.aload_n 0, 1) := by decide +kernel
theorem dX7_again_277 : decode cX7_again 277 = .ok (.aload_n 1, 1) := by decide +kernel
theorem dX7_again_278 : decode cX7_again 278 = .ok (.bipush 124, 2) := by decide +kernel
theorem dX7_again_280 : decode cX7_again 280 = .ok (.iaload, 1) := by decide +kernel
theorem dX7_again_281 : decode cX7_again 281 = .ok (.bipush 100, 2) := by decide +kernel
theorem dX7_again_283 : decode cX7_again 283 = .ok (.idiv, 1) := by decide +kernel
theorem dX7_again_284 : decode cX7_again 284 = .ok (.putfield 302, 3) := by decide +kernel
theorem dX7_again_287 : decode cX7_again 287 = .ok (.aload_n 0, 1) := by decide +kernel
theorem dX7_again_288 : decode cX7_again 288 = .ok (.aload_n 1, 1) := by decide +kernel
theorem dX7_again_289 : decode cX7_again 289 = .ok (.bipush 125, 2) := by decide +kernel
theorem dX7_again_291 : decode cX7_again 291 = .ok (.iaload, 1) := by decide +kernel
theorem dX7_again_292 : decode cX7_again 292 = .ok (.putfield 105, 3) := by decide +kernel
theorem dX7_again_295 : decode cX7_again 295 = .ok (.return_, 1) := by decide +kernel
theorem dX7_image_0 : decode cX7_image 0 = .ok (.aload_n 0, 1) := by decide +kernel
theorem dX7_image_1 : decode cX7_image 1 = .ok (.iconst 1, 1) := by decide +kernel
theorem dX7_image_2 : decode cX7_image 2 = .ok (.putfield 305, 3) := by decide +kernel
theorem dX7_image_5 : decode cX7_image 5 = .ok (.aload_n 0, 1) := by decide +kernel
theorem dX7_image_6 : decode cX7_image 6 = .ok (.aload_n 0, 1) := by decide +kernel
theorem dX7_image_7 : decode cX7_image 7 = .ok (.getfield 85, 3) := by decide +kernel
theorem dX7_image_10 : decode cX7_image 10 = .ok (.invokevirtual 257, 3) := by decide +kernel
theorem dX7_image_13 : decode cX7_image 13 = .ok (.aload_n 0, 1) := by decide +kernel
theorem dX7_image_14 : decode cX7_image 14 = .ok (.getfield 108, 3) := by decide +kernel
theorem dX7_image_17 : decode cX7_image 17 = .ok (.ireturn, 1) := by decide +kernel
theorem dX7_undo_0 : decode cX7_undo 0 = .ok (.aload_n 0, 1) := by decide +kernel
theorem dX7_undo_1 : decode cX7_undo 1 = .ok (.getfield 305, 3) := by decide +kernel
theorem dX7_undo_4 : decode cX7_undo 4 = .ok (.ifCond .ne 6, 3) := by decide +kernel
theorem dX7_undo_7 : decode cX7_undo 7 = .ok (.bipush (-3), 2) := by decide +kernel
theorem dX7_undo_9 : decode cX7_undo 9 = .ok (.ireturn, 1) := by decide +kernel
theorem dX7_undo_10 : decode cX7_undo 10 = .ok (.aload_n 0, 1) := by decide +kernel
theorem dX7_undo_11 : decode cX7_undo 11 = .ok (.aload_n 0, 1) := by decide +kernel
theorem dX7_undo_12 : decode cX7_undo 12 = .ok (.getfield 85, 3) := by decide +kernel
theorem dX7_undo_15 : decode cX7_undo 15 = .ok (.invokevirtual 261, 3) := by decide +kernel
theorem dX7_undo_18 : decode cX7_undo 18 = .ok (.aload_n 0, 1) := by decide +kernel
theorem dX7_undo_19 : decode cX7_undo 19 = .ok (.getfield 108, 3) := by decide +kernel
theorem dX7_undo_22 : decode cX7_undo 22 = .ok (.ireturn, 1) := by decide +kernel
theorem dX7_ran_0 : decode cX7_ran 0 = .ok (.aload_n 0, 1) := by decide +kernel
theorem dX7_ran_1 : decode cX7_ran 1 = .ok (.getfield 309, 3) := by decide +kernel
theorem dX7_ran_4 : decode cX7_ran 4 = .ok (.bipush 20, 2) := by decide +kernel
theorem dX7_ran_6 : decode cX7_ran 6 = .ok (.if_icmp .ge 13, 3) := by decide +kernel
theorem dX7_ran_9 : decode cX7_ran 9 = .ok (.aload_n 0, 1) := by decide +kernel
theorem dX7_ran_10 : decode cX7_ran 10 = .ok (.getfield 82, 3) := by decide +kernel
theorem dX7_ran_13 : decode cX7_ran 13 = .ok (.aload_n 0, 1) := by decide +kernel
theorem dX7_ran_14 : decode cX7_ran 14 = .ok (.getfield 309, 3) := by decide +kernel
theorem dX7_ran_17 : decode cX7_ran 17 = .ok (.iload_n 1, 1) := by decide +kernel
theorem dX7_ran_18 : decode cX7_ran 18 = .ok (.iastore, 1) := by decide +kernel
theorem dX7_ran_19 : decode cX7_ran 19 = .ok (.aload_n 0, 1) := by decide +kernel
theorem dX7_ran_20 : decode cX7_ran 20 = .ok (.dup, 1) := by decide +kernel
theorem dX7_ran_21 : decode cX7_ran 21 = .ok (.getfield 309, 3) := by decide +kernel
theorem dX7_ran_24 : decode cX7_ran 24 = .ok (.iconst 1, 1) := by decide +kernel
theorem dX7_ran_25 : decode cX7_ran 25 = .ok (.iadd, 1) := by decide +kernel
theorem dX7_ran_26 : decode cX7_ran 26 = .ok (.putfield 309, 3) := by decide +kernel
theorem dX7_ran_29 : decode cX7_ran 29 = .ok (.return_, 1) := by decide +kernel
theorem dX7_above_0 : decode cX7_above 0 = .ok (.iload_n 0, 1) := by decide +kernel
theorem dX7_above_1 : decode cX7_above 1 = .ok (.iconst 4, 1) := by decide +kernel
theorem dX7_above_2 : decode cX7_above 2 = .ok (.if_icmp .ne 7, 3) := by decide +kernel
theorem dX7_above_5 : decode cX7_above 5 = .ok (.iconst 1, 1) := by decide +kernel
theorem dX7_above_6 : decode cX7_above 6 = .ok (.goto 23, 3) := by decide +kernel
theorem dX7_above_9 : decode cX7_above 9 = .ok (.iload_n 0, 1) := by decide +kernel
theorem dX7_above_10 : decode cX7_above 10 = .ok (.iconst 5, 1) := by decide +kernel
theorem dX7_above_11 : decode cX7_above 11 = .ok (.if_icmp .ne 7, 3) := by decide +kernel
theorem dX7_above_14 : decode cX7_above 14 = .ok (.iconst 2, 1) := by decide +kernel
theorem dX7_above_15 : decode cX7_above 15 = .ok (.goto 14, 3) := by decide +kernel
theorem dX7_above_18 : decode cX7_above 18 = .ok (.iload_n 0, 1) := by decide +kernel
theorem dX7_above_19 : decode cX7_above 19 = .ok (.bipush 6, 2) := by decide +kernel
theorem dX7_above_21 : decode cX7_above 21 = .ok (.if_icmp .ne 7, 3) := by decide +kernel
theorem dX7_above_24 : decode cX7_above 24 = .ok (.iconst 3, 1) := by decide +kernel
theorem dX7_above_25 : decode cX7_above 25 = .ok (.goto 4, 3) := by decide +kernel
theorem dX7_above_28 : decode cX7_above 28 = .ok (.iconst 0, 1) := by decide +kernel
theorem dX7_above_29 : decode cX7_above 29 = .ok (.ireturn, 1) := by decide +kernel
theorem dX7_ticks_0 : decode cX7_ticks 0 = .ok (.iload_n 2, 1) := by decide +kernel
theorem dX7_ticks_1 : decode cX7_ticks 1 = .ok (.tableswitch 105 0 6 #[95, 105, 43, 105, 59, 105, 74], 43) := by decide +kernel
theorem dX7_ticks_44 : decode cX7_ticks 44 = .ok (.aload_n 0, 1) := by decide +kernel
theorem dX7_ticks_45 : decode cX7_ticks 45 = .ok (.bipush 30, 2) := by decide +kernel
theorem dX7_ticks_47 : decode cX7_ticks 47 = .ok (.invokevirtual 312, 3) := by decide +kernel
theorem dX7_ticks_50 : decode cX7_ticks 50 = .ok (.aload_n 0, 1) := by decide +kernel
theorem dX7_ticks_51 : decode cX7_ticks 51 = .ok (.iload_n 1, 1) := by decide +kernel
theorem dX7_ticks_52 : decode cX7_ticks 52 = .ok (.iconst 0, 1) := by decide +kernel
theorem dX7_ticks_53 : decode cX7_ticks 53 = .ok (.iload_n 3, 1) := by decide +kernel
theorem dX7_ticks_54 : decode cX7_ticks 54 = .ok (.iconst 3, 1) := by decide +kernel
theorem dX7_ticks_55 : decode cX7_ticks 55 = .ok (.imul, 1) := by decide +kernel
theorem dX7_ticks_56 : decode cX7_ticks 56 = .ok (.invokevirtual 316, 3) := by decide +kernel
theorem dX7_ticks_59 : decode cX7_ticks 59 = .ok (.ireturn, 1) := by decide +kernel
theorem dX7_ticks_60 : decode cX7_ticks 60 = .ok (.aload_n 0, 1) := by decide +kernel
theorem dX7_ticks_61 : decode cX7_ticks 61 = .ok (.bipush 50, 2) := by decide +kernel
theorem dX7_ticks_63 : decode cX7_ticks 63 = .ok (.invokevirtual 312, 3) := by decide +kernel
theorem dX7_ticks_66 : decode cX7_ticks 66 = .ok (.aload_n 0, 1) := by decide +kernel
theorem dX7_ticks_67 : decode cX7_ticks 67 = .ok (.iload_n 1, 1) := by decide +kernel
theorem dX7_ticks_68 : decode cX7_ticks 68 = .ok (.iconst 1, 1) := by decide +kernel
theorem dX7_ticks_69 : decode cX7_ticks 69 = .ok (.iload_n 3, 1) := by decide +kernel
theorem dX7_ticks_70 : decode cX7_ticks 70 = .ok (.invokevirtual 316, 3) := by decide +kernel
theorem dX7_ticks_73 : decode cX7_ticks 73 = .ok (.ineg, 1) := by decide +kernel
theorem dX7_ticks_74 : decode cX7_ticks 74 = .ok (.ireturn, 1) := by decide +kernel
theorem dX7_ticks_75 : decode cX7_ticks 75 = .ok (.aload_n 0, 1) := by decide +kernel
theorem dX7_ticks_76 : decode cX7_ticks 76 = .ok (.bipush 71, 2) := by decide +kernel
theorem dX7_ticks_78 : decode cX7_ticks 78 = .ok (.invokevirtual 312, 3) := by decide +kernel
theorem dX7_ticks_81 : decode cX7_ticks 81 = .ok (.aload_n 0, 1) := by decide +kernel
theorem dX7_ticks_82 : decode cX7_ticks 82 = .ok (.iload_n 1, 1) := by decide +kernel
theorem dX7_ticks_83 : decode cX7_ticks 83 = .ok (.iconst 3, 1) := by decide +kernel
theorem dX7_ticks_84 : decode cX7_ticks 84 = .ok (.iload_n 3, 1) := by decide +kernel
theorem dX7_ticks_85 : decode cX7_ticks 85 = .ok (.invokevirtual 316, 3) := by decide +kernel
theorem dX7_ticks_88 : decode cX7_ticks 88 = .ok (.aload_n 0, 1) := by decide +kernel
theorem dX7_ticks_89 : decode cX7_ticks 89 = .ok (.getfield 15, 3) := by decide +kernel
theorem dX7_ticks_92 : decode cX7_ticks 92 = .ok (.iload_n 1, 1) := by decide +kernel
theorem dX7_ticks_93 : decode cX7_ticks 93 = .ok (.iaload, 1) := by decide +kernel
theorem dX7_ticks_94 : decode cX7_ticks 94 = .ok (.ixor, 1) := by decide +kernel
theorem dX7_ticks_95 : decode cX7_ticks 95 = .ok (.ireturn, 1) := by decide +kernel
theorem dX7_ticks_96 : decode cX7_ticks 96 = .ok (.aload_n 0, 1) := by decide +kernel
theorem dX7_ticks_97 : decode cX7_ticks 97 = .ok (.bipush 10, 2) := by decide +kernel
theorem dX7_ticks_99 : decode cX7_ticks 99 = .ok (.invokevirtual 312, 3) := by decide +kernel
theorem dX7_ticks_102 : decode cX7_ticks 102 = .ok (.iload_n 3, 1) := by decide +kernel
theorem dX7_ticks_103 : decode cX7_ticks 103 = .ok (.iload_n 1, 1) := by decide +kernel
theorem dX7_ticks_104 : decode cX7_ticks 104 = .ok (.iadd, 1) := by decide +kernel
theorem dX7_ticks_105 : decode cX7_ticks 105 = .ok (.ireturn, 1) := by decide +kernel
theorem dX7_ticks_106 : decode cX7_ticks 106 = .ok (.aload_n 0, 1) := by decide +kernel
theorem dX7_ticks_107 : decode cX7_ticks 107 = .ok (.iload_n 1, 1) := by decide +kernel
theorem dX7_ticks_108 : decode cX7_ticks 108 = .ok (.iload_n 2, 1) := by decide +kernel
theorem dX7_ticks_109 : decode cX7_ticks 109 = .ok (.invokestatic 320, 3) := by decide +kernel
theorem dX7_ticks_112 : decode cX7_ticks 112 = .ok (.iload_n 3, 1) := by decide +kernel
theorem dX7_ticks_113 : decode cX7_ticks 113 = .ok (.invokevirtual 316, 3) := by decide +kernel
theorem dX7_ticks_116 : decode cX7_ticks 116 = .ok (.ireturn, 1) := by decide +kernel
theorem dX7_stirs_0 : decode cX7_stirs 0 = .ok (.iload_n 2, 1) := by decide +kernel
theorem dX7_stirs_1 : decode cX7_stirs 1 = .ok (.tableswitch 128 0 6 #[102, 43, 128, 128, 60, 128, 76], 43) := by decide +kernel
theorem dX7_stirs_44 : decode cX7_stirs 44 = .ok (.aload_n 0, 1) := by decide +kernel
theorem dX7_stirs_45 : decode cX7_stirs 45 = .ok (.bipush 20, 2) := by decide +kernel
theorem dX7_stirs_47 : decode cX7_stirs 47 = .ok (.invokevirtual 312, 3) := by decide +kernel
theorem dX7_stirs_50 : decode cX7_stirs 50 = .ok (.aload_n 0, 1) := by decide +kernel
theorem dX7_stirs_51 : decode cX7_stirs 51 = .ok (.iload_n 1, 1) := by decide +kernel
theorem dX7_stirs_52 : decode cX7_stirs 52 = .ok (.iconst 0, 1) := by decide +kernel
theorem dX7_stirs_53 : decode cX7_stirs 53 = .ok (.iload_n 3, 1) := by decide +kernel
theorem dX7_stirs_54 : decode cX7_stirs 54 = .ok (.invokevirtual 323, 3) := by decide +kernel
theorem dX7_stirs_57 : decode cX7_stirs 57 = .ok (.bipush 6, 2) := by decide +kernel
theorem dX7_stirs_59 : decode cX7_stirs 59 = .ok (.ixor, 1) := by decide +kernel
theorem dX7_stirs_60 : decode cX7_stirs 60 = .ok (.ireturn, 1) := by decide +kernel
theorem dX7_stirs_61 : decode cX7_stirs 61 = .ok (.aload_n 0, 1) := by decide +kernel
theorem dX7_stirs_62 : decode cX7_stirs 62 = .ok (.bipush 51, 2) := by decide +kernel
theorem dX7_stirs_64 : decode cX7_stirs 64 = .ok (.invokevirtual 312, 3) := by decide +kernel
theorem dX7_stirs_67 : decode cX7_stirs 67 = .ok (.aload_n 0, 1) := by decide +kernel
theorem dX7_stirs_68 : decode cX7_stirs 68 = .ok (.iload_n 1, 1) := by decide +kernel
theorem dX7_stirs_69 : decode cX7_stirs 69 = .ok (.iconst 1, 1) := by decide +kernel
theorem dX7_stirs_70 : decode cX7_stirs 70 = .ok (.iload_n 3, 1) := by decide +kernel
theorem dX7_stirs_71 : decode cX7_stirs 71 = .ok (.iconst 1, 1) := by decide +kernel
theorem dX7_stirs_72 : decode cX7_stirs 72 = .ok (.iadd, 1) := by decide +kernel
theorem dX7_stirs_73 : decode cX7_stirs 73 = .ok (.invokevirtual 323, 3) := by decide +kernel
theorem dX7_stirs_76 : decode cX7_stirs 76 = .ok (.ireturn, 1) := by decide +kernel
theorem dX7_stirs_77 : decode cX7_stirs 77 = .ok (.aload_n 0, 1) := by decide +kernel
theorem dX7_stirs_78 : decode cX7_stirs 78 = .ok (.bipush 70, 2) := by decide +kernel
theorem dX7_stirs_80 : decode cX7_stirs 80 = .ok (.invokevirtual 312, 3) := by decide +kernel
theorem dX7_stirs_83 : decode cX7_stirs 83 = .ok (.aload_n 0, 1) := by decide +kernel
theorem dX7_stirs_84 : decode cX7_stirs 84 = .ok (.iload_n 1, 1) := by decide +kernel
theorem dX7_stirs_85 : decode cX7_stirs 85 = .ok (.iconst 3, 1) := by decide +kernel
theorem dX7_stirs_86 : decode cX7_stirs 86 = .ok (.iload_n 3, 1) := by decide +kernel
theorem dX7_stirs_87 : decode cX7_stirs 87 = .ok (.invokevirtual 323, 3) := by decide +kernel
theorem dX7_stirs_90 : decode cX7_stirs 90 = .ok (.istore 4, 2) := by decide +kernel
theorem dX7_stirs_92 : decode cX7_stirs 92 = .ok (.iload 4, 2) := by decide +kernel
theorem dX7_stirs_94 : decode cX7_stirs 94 = .ok (.aload_n 0, 1) := by decide +kernel
theorem dX7_stirs_95 : decode cX7_stirs 95 = .ok (.iload_n 1, 1) := by decide +kernel
theorem dX7_stirs_96 : decode cX7_stirs 96 = .ok (.iconst 3, 1) := by decide +kernel
theorem dX7_stirs_97 : decode cX7_stirs 97 = .ok (.iconst 2, 1) := by decide +kernel
theorem dX7_stirs_98 : decode cX7_stirs 98 = .ok (.invokevirtual 316, 3) := by decide +kernel
theorem dX7_stirs_101 : decode cX7_stirs 101 = .ok (.iadd, 1) := by decide +kernel
theorem dX7_stirs_102 : decode cX7_stirs 102 = .ok (.ireturn, 1) := by decide +kernel
theorem dX7_stirs_103 : decode cX7_stirs 103 = .ok (.aload_n 0, 1) := by decide +kernel
theorem dX7_stirs_104 : decode cX7_stirs 104 = .ok (.bipush 11, 2) := by decide +kernel
theorem dX7_stirs_106 : decode cX7_stirs 106 = .ok (.invokevirtual 312, 3) := by decide +kernel
theorem dX7_stirs_109 : decode cX7_stirs 109 = .ok (.aload_n 0, 1) := by decide +kernel
theorem dX7_stirs_110 : decode cX7_stirs 110 = .ok (.iload_n 1, 1) := by decide +kernel
theorem dX7_stirs_111 : decode cX7_stirs 111 = .ok (.aload_n 0, 1) := by decide +kernel
theorem dX7_stirs_112 : decode cX7_stirs 112 = .ok (.getfield 9, 3) := by decide +kernel
theorem dX7_stirs_115 : decode cX7_stirs 115 = .ok (.iload_n 1, 1) := by decide +kernel
theorem dX7_stirs_116 : decode cX7_stirs 116 = .ok (.iaload, 1) := by decide +kernel
theorem dX7_stirs_117 : decode cX7_stirs 117 = .ok (.iload_n 3, 1) := by decide +kernel
theorem dX7_stirs_118 : decode cX7_stirs 118 = .ok (.invokevirtual 316, 3) := by decide +kernel
theorem dX7_stirs_121 : decode cX7_stirs 121 = .ok (.aload_n 0, 1) := by decide +kernel
theorem dX7_stirs_122 : decode cX7_stirs 122 = .ok (.getfield 15, 3) := by decide +kernel
theorem dX7_stirs_125 : decode cX7_stirs 125 = .ok (.iload_n 1, 1) := by decide +kernel
theorem dX7_stirs_126 : decode cX7_stirs 126 = .ok (.iaload, 1) := by decide +kernel
theorem dX7_stirs_127 : decode cX7_stirs 127 = .ok (.isub, 1) := by decide +kernel
theorem dX7_stirs_128 : decode cX7_stirs 128 = .ok (.ireturn, 1) := by decide +kernel
theorem dX7_stirs_129 : decode cX7_stirs 129 = .ok (.aload_n 0, 1) := by decide +kernel
theorem dX7_stirs_130 : decode cX7_stirs 130 = .ok (.iload_n 1, 1) := by decide +kernel
theorem dX7_stirs_131 : decode cX7_stirs 131 = .ok (.iload_n 2, 1) := by decide +kernel
theorem dX7_stirs_132 : decode cX7_stirs 132 = .ok (.invokestatic 320, 3) := by decide +kernel
theorem dX7_stirs_135 : decode cX7_stirs 135 = .ok (.iload_n 3, 1) := by decide +kernel
theorem dX7_stirs_136 : decode cX7_stirs 136 = .ok (.invokevirtual 323, 3) := by decide +kernel
theorem dX7_stirs_139 : decode cX7_stirs 139 = .ok (.ireturn, 1) := by decide +kernel
theorem dX7_tells_0 : decode cX7_tells 0 = .ok (.iload_n 2, 1) := by decide +kernel
theorem dX7_tells_1 : decode cX7_tells 1 = .ok (.lookupswitch 103 #[(0, 82), (3, 35), (5, 66)], 35) := by decide +kernel
theorem dX7_tells_36 : decode cX7_tells 36 = .ok (.aload_n 0, 1) := by decide +kernel
theorem dX7_tells_37 : decode cX7_tells 37 = .ok (.bipush 40, 2) := by decide +kernel
theorem dX7_tells_39 : decode cX7_tells 39 = .ok (.invokevirtual 312, 3) := by decide +kernel
theorem dX7_tells_42 : decode cX7_tells 42 = .ok (.aload_n 0, 1) := by decide +kernel
theorem dX7_tells_43 : decode cX7_tells 43 = .ok (.iload_n 1, 1) := by decide +kernel
theorem dX7_tells_44 : decode cX7_tells 44 = .ok (.iconst 0, 1) := by decide +kernel
theorem dX7_tells_45 : decode cX7_tells 45 = .ok (.iload_n 3, 1) := by decide +kernel
theorem dX7_tells_46 : decode cX7_tells 46 = .ok (.invokevirtual 326, 3) := by decide +kernel
theorem dX7_tells_49 : decode cX7_tells 49 = .ok (.istore 4, 2) := by decide +kernel
theorem dX7_tells_51 : decode cX7_tells 51 = .ok (.iload 4, 2) := by decide +kernel
theorem dX7_tells_53 : decode cX7_tells 53 = .ok (.aload_n 0, 1) := by decide +kernel
theorem dX7_tells_54 : decode cX7_tells 54 = .ok (.iload_n 1, 1) := by decide +kernel
theorem dX7_tells_55 : decode cX7_tells 55 = .ok (.aload_n 0, 1) := by decide +kernel
theorem dX7_tells_56 : decode cX7_tells 56 = .ok (.getfield 9, 3) := by decide +kernel
theorem dX7_tells_59 : decode cX7_tells 59 = .ok (.iload_n 1, 1) := by decide +kernel
theorem dX7_tells_60 : decode cX7_tells 60 = .ok (.iaload, 1) := by decide +kernel
theorem dX7_tells_61 : decode cX7_tells 61 = .ok (.iconst 1, 1) := by decide +kernel
theorem dX7_tells_62 : decode cX7_tells 62 = .ok (.invokevirtual 323, 3) := by decide +kernel
theorem dX7_tells_65 : decode cX7_tells 65 = .ok (.iadd, 1) := by decide +kernel
theorem dX7_tells_66 : decode cX7_tells 66 = .ok (.ireturn, 1) := by decide +kernel
theorem dX7_tells_67 : decode cX7_tells 67 = .ok (.aload_n 0, 1) := by decide +kernel
theorem dX7_tells_68 : decode cX7_tells 68 = .ok (.bipush 60, 2) := by decide +kernel
theorem dX7_tells_70 : decode cX7_tells 70 = .ok (.invokevirtual 312, 3) := by decide +kernel
theorem dX7_tells_73 : decode cX7_tells 73 = .ok (.aload_n 0, 1) := by decide +kernel
theorem dX7_tells_74 : decode cX7_tells 74 = .ok (.iload_n 1, 1) := by decide +kernel
theorem dX7_tells_75 : decode cX7_tells 75 = .ok (.iconst 2, 1) := by decide +kernel
theorem dX7_tells_76 : decode cX7_tells 76 = .ok (.iload_n 3, 1) := by decide +kernel
theorem dX7_tells_77 : decode cX7_tells 77 = .ok (.iload_n 1, 1) := by decide +kernel
theorem dX7_tells_78 : decode cX7_tells 78 = .ok (.isub, 1) := by decide +kernel
theorem dX7_tells_79 : decode cX7_tells 79 = .ok (.invokevirtual 326, 3) := by decide +kernel
theorem dX7_tells_82 : decode cX7_tells 82 = .ok (.ireturn, 1) := by decide +kernel
theorem dX7_tells_83 : decode cX7_tells 83 = .ok (.aload_n 0, 1) := by decide +kernel
theorem dX7_tells_84 : decode cX7_tells 84 = .ok (.bipush 12, 2) := by decide +kernel
theorem dX7_tells_86 : decode cX7_tells 86 = .ok (.invokevirtual 312, 3) := by decide +kernel
theorem dX7_tells_89 : decode cX7_tells 89 = .ok (.aload_n 0, 1) := by decide +kernel
theorem dX7_tells_90 : decode cX7_tells 90 = .ok (.iload_n 1, 1) := by decide +kernel
theorem dX7_tells_91 : decode cX7_tells 91 = .ok (.aload_n 0, 1) := by decide +kernel
theorem dX7_tells_92 : decode cX7_tells 92 = .ok (.getfield 9, 3) := by decide +kernel
theorem dX7_tells_95 : decode cX7_tells 95 = .ok (.iload_n 1, 1) := by decide +kernel
theorem dX7_tells_96 : decode cX7_tells 96 = .ok (.iaload, 1) := by decide +kernel
theorem dX7_tells_97 : decode cX7_tells 97 = .ok (.iload_n 3, 1) := by decide +kernel
theorem dX7_tells_98 : decode cX7_tells 98 = .ok (.invokevirtual 323, 3) := by decide +kernel
theorem dX7_tells_101 : decode cX7_tells 101 = .ok (.iconst 2, 1) := by decide +kernel
theorem dX7_tells_102 : decode cX7_tells 102 = .ok (.imul, 1) := by decide +kernel
theorem dX7_tells_103 : decode cX7_tells 103 = .ok (.ireturn, 1) := by decide +kernel
theorem dX7_tells_104 : decode cX7_tells 104 = .ok (.aload_n 0, 1) := by decide +kernel
theorem dX7_tells_105 : decode cX7_tells 105 = .ok (.iload_n 1, 1) := by decide +kernel
theorem dX7_tells_106 : decode cX7_tells 106 = .ok (.iload_n 2, 1) := by decide +kernel
theorem dX7_tells_107 : decode cX7_tells 107 = .ok (.invokestatic 320, 3) := by decide +kernel
theorem dX7_tells_110 : decode cX7_tells 110 = .ok (.iload_n 3, 1) := by decide +kernel
theorem dX7_tells_111 : decode cX7_tells 111 = .ok (.invokevirtual 326, 3) := by decide +kernel
theorem dX7_tells_114 : decode cX7_tells 114 = .ok (.ireturn, 1) := by decide +kernel
theorem dX7_act_0 : decode cX7_act 0 = .ok (.aload_n 0, 1) := by decide +kernel
theorem dX7_act_1 : decode cX7_act 1 = .ok (.iconst 0, 1) := by decide +kernel
theorem dX7_act_2 : decode cX7_act 2 = .ok (.putfield 309, 3) := by decide +kernel
theorem dX7_act_5 : decode cX7_act 5 = .ok (.aload_n 0, 1) := by decide +kernel
theorem dX7_act_6 : decode cX7_act 6 = .ok (.iload_n 1, 1) := by decide +kernel
theorem dX7_act_7 : decode cX7_act 7 = .ok (.invokevirtual 115, 3) := by decide +kernel
theorem dX7_act_10 : decode cX7_act 10 = .ok (.ifCond .eq 12, 3) := by decide +kernel
theorem dX7_act_13 : decode cX7_act 13 = .ok (.iload_n 2, 1) := by decide +kernel
theorem dX7_act_14 : decode cX7_act 14 = .ok (.iconst 0, 1) := by decide +kernel
theorem dX7_act_15 : decode cX7_act 15 = .ok (.iconst 2, 1) := by decide +kernel
theorem dX7_act_16 : decode cX7_act 16 = .ok (.invokestatic 111, 3) := by decide +kernel
theorem dX7_act_19 : decode cX7_act 19 = .ok (.ifCond .ne 5, 3) := by decide +kernel
theorem dX7_act_22 : decode cX7_act 22 = .ok (.iconst 0, 1) := by decide +kernel
theorem dX7_act_23 : decode cX7_act 23 = .ok (.ireturn, 1) := by decide +kernel
theorem dX7_act_24 : decode cX7_act 24 = .ok (.aload_n 0, 1) := by decide +kernel
theorem dX7_act_25 : decode cX7_act 25 = .ok (.getfield 9, 3) := by decide +kernel
theorem dX7_act_28 : decode cX7_act 28 = .ok (.iload_n 1, 1) := by decide +kernel
theorem dX7_act_29 : decode cX7_act 29 = .ok (.iaload, 1) := by decide +kernel
theorem dX7_act_30 : decode cX7_act 30 = .ok (.istore 4, 2) := by decide +kernel
theorem dX7_act_32 : decode cX7_act 32 = .ok (.iload_n 2, 1) := by decide +kernel
theorem dX7_act_33 : decode cX7_act 33 = .ok (.ifCond .ne 14, 3) := by decide +kernel
theorem dX7_act_36 : decode cX7_act 36 = .ok (.aload_n 0, 1) := by decide +kernel
theorem dX7_act_37 : decode cX7_act 37 = .ok (.iload_n 1, 1) := by decide +kernel
theorem dX7_act_38 : decode cX7_act 38 = .ok (.iload 4, 2) := by decide +kernel
theorem dX7_act_40 : decode cX7_act 40 = .ok (.iload_n 3, 1) := by decide +kernel
theorem dX7_act_41 : decode cX7_act 41 = .ok (.invokevirtual 316, 3) := by decide +kernel
theorem dX7_act_44 : decode cX7_act 44 = .ok (.goto 27, 3) := by decide +kernel
theorem dX7_act_47 : decode cX7_act 47 = .ok (.iload_n 2, 1) := by decide +kernel
theorem dX7_act_48 : decode cX7_act 48 = .ok (.iconst 1, 1) := by decide +kernel
theorem dX7_act_49 : decode cX7_act 49 = .ok (.if_icmp .ne 14, 3) := by decide +kernel
theorem dX7_act_52 : decode cX7_act 52 = .ok (.aload_n 0, 1) := by decide +kernel
theorem dX7_act_53 : decode cX7_act 53 = .ok (.iload_n 1, 1) := by decide +kernel
theorem dX7_act_54 : decode cX7_act 54 = .ok (.iload 4, 2) := by decide +kernel
theorem dX7_act_56 : decode cX7_act 56 = .ok (.iload_n 3, 1) := by decide +kernel
theorem dX7_act_57 : decode cX7_act 57 = .ok (.invokevirtual 323, 3) := by decide +kernel
theorem dX7_act_60 : decode cX7_act 60 = .ok (.goto 11, 3) := by decide +kernel
theorem dX7_act_63 : decode cX7_act 63 = .ok (.aload_n 0, 1) := by decide +kernel
theorem dX7_act_64 : decode cX7_act 64 = .ok (.iload_n 1, 1) := by decide +kernel
theorem dX7_act_65 : decode cX7_act 65 = .ok (.iload 4, 2) := by decide +kernel
theorem dX7_act_67 : decode cX7_act 67 = .ok (.iload_n 3, 1) := by decide +kernel
theorem dX7_act_68 : decode cX7_act 68 = .ok (.invokevirtual 326, 3) := by decide +kernel
theorem dX7_act_71 : decode cX7_act 71 = .ok (.ireturn, 1) := by decide +kernel
theorem dX7_trace_0 : decode cX7_trace 0 = .ok (.iload_n 1, 1) := by decide +kernel
theorem dX7_trace_1 : decode cX7_trace 1 = .ok (.iconst 0, 1) := by decide +kernel
theorem dX7_trace_2 : decode cX7_trace 2 = .ok (.bipush 20, 2) := by decide +kernel
theorem dX7_trace_4 : decode cX7_trace 4 = .ok (.aload_n 0, 1) := by decide +kernel
theorem dX7_trace_5 : decode cX7_trace 5 = .ok (.getfield 309, 3) := by decide +kernel
theorem dX7_trace_8 : decode cX7_trace 8 = .ok (.invokestatic 254, 3) := by decide +kernel
theorem dX7_trace_11 : decode cX7_trace 11 = .ok (.iconst 1, 1) := by decide +kernel
theorem dX7_trace_12 : decode cX7_trace 12 = .ok (.isub, 1) := by decide +kernel
theorem dX7_trace_13 : decode cX7_trace 13 = .ok (.invokestatic 111, 3) := by decide +kernel
theorem dX7_trace_16 : decode cX7_trace 16 = .ok (.ifCond .eq 12, 3) := by decide +kernel
theorem dX7_trace_19 : decode cX7_trace 19 = .ok (.aload_n 0, 1) := by decide +kernel
theorem dX7_trace_20 : decode cX7_trace 20 = .ok (.getfield 82, 3) := by decide +kernel
theorem dX7_trace_23 : decode cX7_trace 23 = .ok (.iload_n 1, 1) := by decide +kernel
theorem dX7_trace_24 : decode cX7_trace 24 = .ok (.iaload, 1) := by decide +kernel
theorem dX7_trace_25 : decode cX7_trace 25 = .ok (.goto 4, 3) := by decide +kernel
theorem dX7_trace_28 : decode cX7_trace 28 = .ok (.iconst (-1), 1) := by decide +kernel
theorem dX7_trace_29 : decode cX7_trace 29 = .ok (.ireturn, 1) := by decide +kernel
theorem dX7_taken_0 : decode cX7_taken 0 = .ok (.iload_n 2, 1) := by decide +kernel
theorem dX7_taken_1 : decode cX7_taken 1 = .ok (.iconst 0, 1) := by decide +kernel
theorem dX7_taken_2 : decode cX7_taken 2 = .ok (.bipush 6, 2) := by decide +kernel
theorem dX7_taken_4 : decode cX7_taken 4 = .ok (.invokestatic 111, 3) := by decide +kernel
theorem dX7_taken_7 : decode cX7_taken 7 = .ok (.ifCond .ne 6, 3) := by decide +kernel
theorem dX7_taken_10 : decode cX7_taken 10 = .ok (.bipush (-2), 2) := by decide +kernel
theorem dX7_taken_12 : decode cX7_taken 12 = .ok (.ireturn, 1) := by decide +kernel
theorem dX7_taken_13 : decode cX7_taken 13 = .ok (.aload_n 0, 1) := by decide +kernel
theorem dX7_taken_14 : decode cX7_taken 14 = .ok (.iload_n 1, 1) := by decide +kernel
theorem dX7_taken_15 : decode cX7_taken 15 = .ok (.invokevirtual 115, 3) := by decide +kernel
theorem dX7_taken_18 : decode cX7_taken 18 = .ok (.ifCond .ne 6, 3) := by decide +kernel
theorem dX7_taken_21 : decode cX7_taken 21 = .ok (.bipush (-11), 2) := by decide +kernel
theorem dX7_taken_23 : decode cX7_taken 23 = .ok (.ireturn, 1) := by decide +kernel
theorem dX7_taken_24 : decode cX7_taken 24 = .ok (.aload_n 0, 1) := by decide +kernel
theorem dX7_taken_25 : decode cX7_taken 25 = .ok (.getfield 9, 3) := by decide +kernel
theorem dX7_taken_28 : decode cX7_taken 28 = .ok (.iload_n 1, 1) := by decide +kernel
theorem dX7_taken_29 : decode cX7_taken 29 = .ok (.iaload, 1) := by decide +kernel
theorem dX7_taken_30 : decode cX7_taken 30 = .ok (.istore_n 3, 1) := by decide +kernel
theorem dX7_taken_31 : decode cX7_taken 31 = .ok (.iload_n 3, 1) := by decide +kernel
theorem dX7_taken_32 : decode cX7_taken 32 = .ok (.iload_n 2, 1) := by decide +kernel
theorem dX7_taken_33 : decode cX7_taken 33 = .ok (.if_icmp .eq 15, 3) := by decide +kernel
theorem dX7_taken_36 : decode cX7_taken 36 = .ok (.iload_n 3, 1) := by decide +kernel
theorem dX7_taken_37 : decode cX7_taken 37 = .ok (.ifCond .le 11, 3) := by decide +kernel
theorem dX7_taken_40 : decode cX7_taken 40 = .ok (.iload_n 3, 1) := by decide +kernel
theorem dX7_taken_41 : decode cX7_taken 41 = .ok (.invokestatic 320, 3) := by decide +kernel
theorem dX7_taken_44 : decode cX7_taken 44 = .ok (.istore_n 3, 1) := by decide +kernel
theorem dX7_taken_45 : decode cX7_taken 45 = .ok (.goto (-14), 3) := by decide +kernel
theorem dX7_taken_48 : decode cX7_taken 48 = .ok (.iload_n 3, 1) := by decide +kernel
theorem dX7_taken_49 : decode cX7_taken 49 = .ok (.iload_n 2, 1) := by decide +kernel
theorem dX7_taken_50 : decode cX7_taken 50 = .ok (.if_icmp .ne 12, 3) := by decide +kernel
theorem dX7_taken_53 : decode cX7_taken 53 = .ok (.aload_n 0, 1) := by decide +kernel
theorem dX7_taken_54 : decode cX7_taken 54 = .ok (.getfield 9, 3) := by decide +kernel
theorem dX7_taken_57 : decode cX7_taken 57 = .ok (.iload_n 1, 1) := by decide +kernel
theorem dX7_taken_58 : decode cX7_taken 58 = .ok (.iaload, 1) := by decide +kernel
theorem dX7_taken_59 : decode cX7_taken 59 = .ok (.goto 5, 3) := by decide +kernel
theorem dX7_taken_62 : decode cX7_taken 62 = .ok (.bipush (-12), 2) := by decide +kernel
theorem dX7_taken_64 : decode cX7_taken 64 = .ok (.ireturn, 1) := by decide +kernel
theorem dX7_count_0 : decode cX7_count 0 = .ok (.iload_n 1, 1) := by decide +kernel
theorem dX7_count_1 : decode cX7_count 1 = .ok (.tableswitch 78 0 6 #[43, 48, 53, 58, 63, 68, 73], 43) := by decide +kernel
theorem dX7_count_44 : decode cX7_count 44 = .ok (.aload_n 0, 1) := by decide +kernel
theorem dX7_count_45 : decode cX7_count 45 = .ok (.getfield 108, 3) := by decide +kernel
theorem dX7_count_48 : decode cX7_count 48 = .ok (.ireturn, 1) := by decide +kernel
theorem dX7_count_49 : decode cX7_count 49 = .ok (.aload_n 0, 1) := by decide +kernel
theorem dX7_count_50 : decode cX7_count 50 = .ok (.getfield 201, 3) := by decide +kernel
theorem dX7_count_53 : decode cX7_count 53 = .ok (.ireturn, 1) := by decide +kernel
theorem dX7_count_54 : decode cX7_count 54 = .ok (.aload_n 0, 1) := by decide +kernel
theorem dX7_count_55 : decode cX7_count 55 = .ok (.getfield 289, 3) := by decide +kernel
theorem dX7_count_58 : decode cX7_count 58 = .ok (.ireturn, 1) := by decide +kernel
theorem dX7_count_59 : decode cX7_count 59 = .ok (.aload_n 0, 1) := by decide +kernel
theorem dX7_count_60 : decode cX7_count 60 = .ok (.getfield 299, 3) := by decide +kernel
theorem dX7_count_63 : decode cX7_count 63 = .ok (.ireturn, 1) := by decide +kernel
theorem dX7_count_64 : decode cX7_count 64 = .ok (.aload_n 0, 1) := by decide +kernel
theorem dX7_count_65 : decode cX7_count 65 = .ok (.getfield 302, 3) := by decide +kernel
theorem dX7_count_68 : decode cX7_count 68 = .ok (.ireturn, 1) := by decide +kernel
theorem dX7_count_69 : decode cX7_count 69 = .ok (.aload_n 0, 1) := by decide +kernel
theorem dX7_count_70 : decode cX7_count 70 = .ok (.getfield 129, 3) := by decide +kernel
theorem dX7_count_73 : decode cX7_count 73 = .ok (.ireturn, 1) := by decide +kernel
theorem dX7_count_74 : decode cX7_count 74 = .ok (.aload_n 0, 1) := by decide +kernel
theorem dX7_count_75 : decode cX7_count 75 = .ok (.getfield 309, 3) := by decide +kernel
theorem dX7_count_78 : decode cX7_count 78 = .ok (.ireturn, 1) := by decide +kernel
theorem dX7_count_79 : decode cX7_count 79 = .ok (.bipush (-2), 2) := by decide +kernel
theorem dX7_count_81 : decode cX7_count 81 = .ok (.ireturn, 1) := by decide +kernel
theorem dX7_isTape_0 : decode cX7_isTape 0 = .ok (.iload_n 0, 1) := by decide +kernel
theorem dX7_isTape_1 : decode cX7_isTape 1 = .ok (.iconst 0, 1) := by decide +kernel
theorem dX7_isTape_2 : decode cX7_isTape 2 = .ok (.iconst 5, 1) := by decide +kernel
theorem dX7_isTape_3 : decode cX7_isTape 3 = .ok (.invokestatic 111, 3) := by decide +kernel
theorem dX7_isTape_6 : decode cX7_isTape 6 = .ok (.ireturn, 1) := by decide +kernel
theorem dX7_tape_0 : decode cX7_tape 0 = .ok (.iload_n 1, 1) := by decide +kernel
theorem dX7_tape_1 : decode cX7_tape 1 = .ok (.invokestatic 329, 3) := by decide +kernel
theorem dX7_tape_4 : decode cX7_tape 4 = .ok (.ifCond .ne 5, 3) := by decide +kernel
theorem dX7_tape_7 : decode cX7_tape 7 = .ok (.iconst (-1), 1) := by decide +kernel
theorem dX7_tape_8 : decode cX7_tape 8 = .ok (.ireturn, 1) := by decide +kernel
theorem dX7_tape_9 : decode cX7_tape 9 = .ok (.iload_n 2, 1) := by decide +kernel
