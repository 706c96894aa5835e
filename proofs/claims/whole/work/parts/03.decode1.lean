theorem dX6_often_46 : decode cX6_often 46 = .ok (.istore 4, 2) := by decide +kernel
theorem dX6_often_48 : decode cX6_often 48 = .ok (.aload_n 0, 1) := by decide +kernel
theorem dX6_often_49 : decode cX6_often 49 = .ok (.getfield 12, 3) := by decide +kernel
theorem dX6_often_52 : decode cX6_often 52 = .ok (.getfield 75, 3) := by decide +kernel
theorem dX6_often_55 : decode cX6_often 55 = .ok (.iload_n 1, 1) := by decide +kernel
theorem dX6_often_56 : decode cX6_often 56 = .ok (.aaload, 1) := by decide +kernel
theorem dX6_often_57 : decode cX6_often 57 = .ok (.bipush 7, 2) := by decide +kernel
theorem dX6_often_59 : decode cX6_often 59 = .ok (.iaload, 1) := by decide +kernel
theorem dX6_often_60 : decode cX6_often 60 = .ok (.istore 5, 2) := by decide +kernel
theorem dX6_often_62 : decode cX6_often 62 = .ok (.iload 4, 2) := by decide +kernel
theorem dX6_often_64 : decode cX6_often 64 = .ok (.ifCond .lt 17, 3) := by decide +kernel
theorem dX6_often_67 : decode cX6_often 67 = .ok (.iload 4, 2) := by decide +kernel
theorem dX6_often_69 : decode cX6_often 69 = .ok (.i2l, 1) := by decide +kernel
theorem dX6_often_70 : decode cX6_often 70 = .ok (.lload_n 2, 1) := by decide +kernel
theorem dX6_often_71 : decode cX6_often 71 = .ok (.lcmp, 1) := by decide +kernel
theorem dX6_often_72 : decode cX6_often 72 = .ok (.ifCond .ge 9, 3) := by decide +kernel
theorem dX6_often_75 : decode cX6_often 75 = .ok (.iload 5, 2) := by decide +kernel
theorem dX6_often_77 : decode cX6_often 77 = .ok (.iconst 1, 1) := by decide +kernel
theorem dX6_often_78 : decode cX6_often 78 = .ok (.if_icmp .ge 5, 3) := by decide +kernel
theorem dX6_often_81 : decode cX6_often 81 = .ok (.lconst 0, 1) := by decide +kernel
theorem dX6_often_82 : decode cX6_often 82 = .ok (.lreturn, 1) := by decide +kernel
theorem dX6_often_83 : decode cX6_often 83 = .ok (.lconst 1, 1) := by decide +kernel
theorem dX6_often_84 : decode cX6_often 84 = .ok (.lload_n 2, 1) := by decide +kernel
theorem dX6_often_85 : decode cX6_often 85 = .ok (.lconst 1, 1) := by decide +kernel
theorem dX6_often_86 : decode cX6_often 86 = .ok (.lsub, 1) := by decide +kernel
theorem dX6_often_87 : decode cX6_often 87 = .ok (.iload 4, 2) := by decide +kernel
theorem dX6_often_89 : decode cX6_often 89 = .ok (.i2l, 1) := by decide +kernel
theorem dX6_often_90 : decode cX6_often 90 = .ok (.lsub, 1) := by decide +kernel
theorem dX6_often_91 : decode cX6_often 91 = .ok (.iload 5, 2) := by decide +kernel
theorem dX6_often_93 : decode cX6_often 93 = .ok (.i2l, 1) := by decide +kernel
theorem dX6_often_94 : decode cX6_often 94 = .ok (.ldiv, 1) := by decide +kernel
theorem dX6_often_95 : decode cX6_often 95 = .ok (.ladd, 1) := by decide +kernel
theorem dX6_often_96 : decode cX6_often 96 = .ok (.lreturn, 1) := by decide +kernel
theorem dX6_together_0 : decode cX6_together 0 = .ok (.iload_n 1, 1) := by decide +kernel
theorem dX6_together_1 : decode cX6_together 1 = .ok (.i2l, 1) := by decide +kernel
theorem dX6_together_2 : decode cX6_together 2 = .ok (.lconst 0, 1) := by decide +kernel
theorem dX6_together_3 : decode cX6_together 3 = .ok (.iconst 1, 1) := by decide +kernel
theorem dX6_together_4 : decode cX6_together 4 = .ok (.aload_n 0, 1) := by decide +kernel
theorem dX6_together_5 : decode cX6_together 5 = .ok (.getfield 12, 3) := by decide +kernel
theorem dX6_together_8 : decode cX6_together 8 = .ok (.getfield 72, 3) := by decide +kernel
theorem dX6_together_11 : decode cX6_together 11 = .ok (.ishl, 1) := by decide +kernel
theorem dX6_together_12 : decode cX6_together 12 = .ok (.iconst 1, 1) := by decide +kernel
theorem dX6_together_13 : decode cX6_together 13 = .ok (.isub, 1) := by decide +kernel
theorem dX6_together_14 : decode cX6_together 14 = .ok (.i2l, 1) := by decide +kernel
theorem dX6_together_15 : decode cX6_together 15 = .ok (.invokestatic 62, 3) := by decide +kernel
theorem dX6_together_18 : decode cX6_together 18 = .ok (.ifCond .eq 13, 3) := by decide +kernel
theorem dX6_together_21 : decode cX6_together 21 = .ok (.iload_n 2, 1) := by decide +kernel
theorem dX6_together_22 : decode cX6_together 22 = .ok (.i2l, 1) := by decide +kernel
theorem dX6_together_23 : decode cX6_together 23 = .ok (.lconst 0, 1) := by decide +kernel
theorem dX6_together_24 : decode cX6_together 24 = .ok (.lconst 1, 1) := by decide +kernel
theorem dX6_together_25 : decode cX6_together 25 = .ok (.invokestatic 62, 3) := by decide +kernel
theorem dX6_together_28 : decode cX6_together 28 = .ok (.ifCond .ne 7, 3) := by decide +kernel
theorem dX6_together_31 : decode cX6_together 31 = .ok (.ldc2_w 156, 3) := by decide +kernel
theorem dX6_together_34 : decode cX6_together 34 = .ok (.lreturn, 1) := by decide +kernel
theorem dX6_together_35 : decode cX6_together 35 = .ok (.aload_n 0, 1) := by decide +kernel
theorem dX6_together_36 : decode cX6_together 36 = .ok (.aload_n 0, 1) := by decide +kernel
theorem dX6_together_37 : decode cX6_together 37 = .ok (.getfield 12, 3) := by decide +kernel
theorem dX6_together_40 : decode cX6_together 40 = .ok (.invokevirtual 89, 3) := by decide +kernel
theorem dX6_together_43 : decode cX6_together 43 = .ok (.aload_n 0, 1) := by decide +kernel
theorem dX6_together_44 : decode cX6_together 44 = .ok (.getfield 12, 3) := by decide +kernel
theorem dX6_together_47 : decode cX6_together 47 = .ok (.iload_n 1, 1) := by decide +kernel
theorem dX6_together_48 : decode cX6_together 48 = .ok (.iload_n 2, 1) := by decide +kernel
theorem dX6_together_49 : decode cX6_together 49 = .ok (.iconst 1, 1) := by decide +kernel
theorem dX6_together_50 : decode cX6_together 50 = .ok (.if_icmp .ne 7, 3) := by decide +kernel
theorem dX6_together_53 : decode cX6_together 53 = .ok (.iconst 1, 1) := by decide +kernel
theorem dX6_together_54 : decode cX6_together 54 = .ok (.goto 4, 3) := by decide +kernel
theorem dX6_together_57 : decode cX6_together 57 = .ok (.iconst 0, 1) := by decide +kernel
theorem dX6_together_58 : decode cX6_together 58 = .ok (.invokevirtual 158, 3) := by decide +kernel
theorem dX6_together_61 : decode cX6_together 61 = .ok (.lreturn, 1) := by decide +kernel
theorem dX6_busy_0 : decode cX6_busy 0 = .ok (.iload_n 2, 1) := by decide +kernel
theorem dX6_busy_1 : decode cX6_busy 1 = .ok (.i2l, 1) := by decide +kernel
theorem dX6_busy_2 : decode cX6_busy 2 = .ok (.lconst 0, 1) := by decide +kernel
theorem dX6_busy_3 : decode cX6_busy 3 = .ok (.ldc2_w 148, 3) := by decide +kernel
theorem dX6_busy_6 : decode cX6_busy 6 = .ok (.invokestatic 62, 3) := by decide +kernel
theorem dX6_busy_9 : decode cX6_busy 9 = .ok (.ifCond .ne 5, 3) := by decide +kernel
theorem dX6_busy_12 : decode cX6_busy 12 = .ok (.iconst (-1), 1) := by decide +kernel
theorem dX6_busy_13 : decode cX6_busy 13 = .ok (.ireturn, 1) := by decide +kernel
theorem dX6_busy_14 : decode cX6_busy 14 = .ok (.iload_n 1, 1) := by decide +kernel
theorem dX6_busy_15 : decode cX6_busy 15 = .ok (.i2l, 1) := by decide +kernel
theorem dX6_busy_16 : decode cX6_busy 16 = .ok (.lconst 1, 1) := by decide +kernel
theorem dX6_busy_17 : decode cX6_busy 17 = .ok (.ldc2_w 141, 3) := by decide +kernel
theorem dX6_busy_20 : decode cX6_busy 20 = .ok (.invokestatic 62, 3) := by decide +kernel
theorem dX6_busy_23 : decode cX6_busy 23 = .ok (.ifCond .ne 6, 3) := by decide +kernel
theorem dX6_busy_26 : decode cX6_busy 26 = .ok (.bipush (-2), 2) := by decide +kernel
theorem dX6_busy_28 : decode cX6_busy 28 = .ok (.ireturn, 1) := by decide +kernel
theorem dX6_busy_29 : decode cX6_busy 29 = .ok (.aload_n 0, 1) := by decide +kernel
theorem dX6_busy_30 : decode cX6_busy 30 = .ok (.aload_n 0, 1) := by decide +kernel
theorem dX6_busy_31 : decode cX6_busy 31 = .ok (.getfield 12, 3) := by decide +kernel
theorem dX6_busy_34 : decode cX6_busy 34 = .ok (.invokevirtual 89, 3) := by decide +kernel
theorem dX6_busy_37 : decode cX6_busy 37 = .ok (.iload_n 2, 1) := by decide +kernel
theorem dX6_busy_38 : decode cX6_busy 38 = .ok (.iconst 2, 1) := by decide +kernel
theorem dX6_busy_39 : decode cX6_busy 39 = .ok (.if_icmp .ne 14, 3) := by decide +kernel
theorem dX6_busy_42 : decode cX6_busy 42 = .ok (.aload_n 0, 1) := by decide +kernel
theorem dX6_busy_43 : decode cX6_busy 43 = .ok (.getfield 12, 3) := by decide +kernel
theorem dX6_busy_46 : decode cX6_busy 46 = .ok (.iload_n 1, 1) := by decide +kernel
theorem dX6_busy_47 : decode cX6_busy 47 = .ok (.invokevirtual 162, 3) := by decide +kernel
theorem dX6_busy_50 : decode cX6_busy 50 = .ok (.goto 21, 3) := by decide +kernel
theorem dX6_busy_53 : decode cX6_busy 53 = .ok (.aload_n 0, 1) := by decide +kernel
theorem dX6_busy_54 : decode cX6_busy 54 = .ok (.getfield 12, 3) := by decide +kernel
theorem dX6_busy_57 : decode cX6_busy 57 = .ok (.iload_n 1, 1) := by decide +kernel
theorem dX6_busy_58 : decode cX6_busy 58 = .ok (.iload_n 2, 1) := by decide +kernel
theorem dX6_busy_59 : decode cX6_busy 59 = .ok (.iconst 1, 1) := by decide +kernel
theorem dX6_busy_60 : decode cX6_busy 60 = .ok (.if_icmp .ne 7, 3) := by decide +kernel
theorem dX6_busy_63 : decode cX6_busy 63 = .ok (.iconst 1, 1) := by decide +kernel
theorem dX6_busy_64 : decode cX6_busy 64 = .ok (.goto 4, 3) := by decide +kernel
theorem dX6_busy_67 : decode cX6_busy 67 = .ok (.iconst 0, 1) := by decide +kernel
theorem dX6_busy_68 : decode cX6_busy 68 = .ok (.invokevirtual 165, 3) := by decide +kernel
theorem dX6_busy_71 : decode cX6_busy 71 = .ok (.ireturn, 1) := by decide +kernel
theorem dX6_hear_0 : decode cX6_hear 0 = .ok (.iload_n 1, 1) := by decide +kernel
theorem dX6_hear_1 : decode cX6_hear 1 = .ok (.iconst (-1), 1) := by decide +kernel
theorem dX6_hear_2 : decode cX6_hear 2 = .ok (.if_icmp .ne 14, 3) := by decide +kernel
theorem dX6_hear_5 : decode cX6_hear 5 = .ok (.aload_n 0, 1) := by decide +kernel
theorem dX6_hear_6 : decode cX6_hear 6 = .ok (.getfield 12, 3) := by decide +kernel
theorem dX6_hear_9 : decode cX6_hear 9 = .ok (.getfield 169, 3) := by decide +kernel
theorem dX6_hear_12 : decode cX6_hear 12 = .ok (.invokevirtual 173, 3) := by decide +kernel
theorem dX6_hear_15 : decode cX6_hear 15 = .ok (.ireturn, 1) := by decide +kernel
theorem dX6_hear_16 : decode cX6_hear 16 = .ok (.aload_n 0, 1) := by decide +kernel
theorem dX6_hear_17 : decode cX6_hear 17 = .ok (.getfield 12, 3) := by decide +kernel
theorem dX6_hear_20 : decode cX6_hear 20 = .ok (.iload_n 1, 1) := by decide +kernel
theorem dX6_hear_21 : decode cX6_hear 21 = .ok (.invokevirtual 85, 3) := by decide +kernel
theorem dX6_hear_24 : decode cX6_hear 24 = .ok (.ifCond .ne 5, 3) := by decide +kernel
theorem dX6_hear_27 : decode cX6_hear 27 = .ok (.iconst (-1), 1) := by decide +kernel
theorem dX6_hear_28 : decode cX6_hear 28 = .ok (.ireturn, 1) := by decide +kernel
theorem dX6_hear_29 : decode cX6_hear 29 = .ok (.iload_n 2, 1) := by decide +kernel
theorem dX6_hear_30 : decode cX6_hear 30 = .ok (.i2l, 1) := by decide +kernel
theorem dX6_hear_31 : decode cX6_hear 31 = .ok (.lconst 0, 1) := by decide +kernel
theorem dX6_hear_32 : decode cX6_hear 32 = .ok (.ldc2_w 141, 3) := by decide +kernel
theorem dX6_hear_35 : decode cX6_hear 35 = .ok (.invokestatic 62, 3) := by decide +kernel
theorem dX6_hear_38 : decode cX6_hear 38 = .ok (.ifCond .ne 6, 3) := by decide +kernel
theorem dX6_hear_41 : decode cX6_hear 41 = .ok (.bipush (-2), 2) := by decide +kernel
theorem dX6_hear_43 : decode cX6_hear 43 = .ok (.ireturn, 1) := by decide +kernel
theorem dX6_hear_44 : decode cX6_hear 44 = .ok (.aload_n 0, 1) := by decide +kernel
theorem dX6_hear_45 : decode cX6_hear 45 = .ok (.getfield 12, 3) := by decide +kernel
theorem dX6_hear_48 : decode cX6_hear 48 = .ok (.getfield 169, 3) := by decide +kernel
theorem dX6_hear_51 : decode cX6_hear 51 = .ok (.iload_n 1, 1) := by decide +kernel
theorem dX6_hear_52 : decode cX6_hear 52 = .ok (.iload_n 2, 1) := by decide +kernel
theorem dX6_hear_53 : decode cX6_hear 53 = .ok (.iload_n 3, 1) := by decide +kernel
theorem dX6_hear_54 : decode cX6_hear 54 = .ok (.ifCond .eq 7, 3) := by decide +kernel
theorem dX6_hear_57 : decode cX6_hear 57 = .ok (.iconst 1, 1) := by decide +kernel
theorem dX6_hear_58 : decode cX6_hear 58 = .ok (.goto 4, 3) := by decide +kernel
theorem dX6_hear_61 : decode cX6_hear 61 = .ok (.iconst 0, 1) := by decide +kernel
theorem dX6_hear_62 : decode cX6_hear 62 = .ok (.invokevirtual 177, 3) := by decide +kernel
theorem dX6_hear_65 : decode cX6_hear 65 = .ok (.ireturn, 1) := by decide +kernel
theorem dX6_can_0 : decode cX6_can 0 = .ok (.aload_n 0, 1) := by decide +kernel
theorem dX6_can_1 : decode cX6_can 1 = .ok (.getfield 12, 3) := by decide +kernel
theorem dX6_can_4 : decode cX6_can 4 = .ok (.iload_n 1, 1) := by decide +kernel
theorem dX6_can_5 : decode cX6_can 5 = .ok (.invokevirtual 85, 3) := by decide +kernel
theorem dX6_can_8 : decode cX6_can 8 = .ok (.ifCond .eq 25, 3) := by decide +kernel
theorem dX6_can_11 : decode cX6_can 11 = .ok (.iload_n 2, 1) := by decide +kernel
theorem dX6_can_12 : decode cX6_can 12 = .ok (.i2l, 1) := by decide +kernel
theorem dX6_can_13 : decode cX6_can 13 = .ok (.lconst 0, 1) := by decide +kernel
theorem dX6_can_14 : decode cX6_can 14 = .ok (.ldc2_w 148, 3) := by decide +kernel
theorem dX6_can_17 : decode cX6_can 17 = .ok (.invokestatic 62, 3) := by decide +kernel
theorem dX6_can_20 : decode cX6_can 20 = .ok (.ifCond .eq 13, 3) := by decide +kernel
theorem dX6_can_23 : decode cX6_can 23 = .ok (.iload_n 3, 1) := by decide +kernel
theorem dX6_can_24 : decode cX6_can 24 = .ok (.i2l, 1) := by decide +kernel
theorem dX6_can_25 : decode cX6_can 25 = .ok (.lconst 0, 1) := by decide +kernel
theorem dX6_can_26 : decode cX6_can 26 = .ok (.lconst 1, 1) := by decide +kernel
theorem dX6_can_27 : decode cX6_can 27 = .ok (.invokestatic 62, 3) := by decide +kernel
theorem dX6_can_30 : decode cX6_can 30 = .ok (.ifCond .ne 5, 3) := by decide +kernel
theorem dX6_can_33 : decode cX6_can 33 = .ok (.iconst (-1), 1) := by decide +kernel
theorem dX6_can_34 : decode cX6_can 34 = .ok (.ireturn, 1) := by decide +kernel
theorem dX6_can_35 : decode cX6_can 35 = .ok (.iload_n 3, 1) := by decide +kernel
theorem dX6_can_36 : decode cX6_can 36 = .ok (.ifCond .ne 7, 3) := by decide +kernel
theorem dX6_can_39 : decode cX6_can 39 = .ok (.iconst 1, 1) := by decide +kernel
theorem dX6_can_40 : decode cX6_can 40 = .ok (.goto 4, 3) := by decide +kernel
theorem dX6_can_43 : decode cX6_can 43 = .ok (.iconst 0, 1) := by decide +kernel
theorem dX6_can_44 : decode cX6_can 44 = .ok (.istore 4, 2) := by decide +kernel
theorem dX6_can_46 : decode cX6_can 46 = .ok (.iload_n 2, 1) := by decide +kernel
theorem dX6_can_47 : decode cX6_can 47 = .ok (.lookupswitch 49 #[(0, 25), (1, 37)], 25) := by decide +kernel
theorem dX6_can_72 : decode cX6_can 72 = .ok (.aload_n 0, 1) := by decide +kernel
theorem dX6_can_73 : decode cX6_can 73 = .ok (.iload_n 1, 1) := by decide +kernel
theorem dX6_can_74 : decode cX6_can 74 = .ok (.iconst 3, 1) := by decide +kernel
theorem dX6_can_75 : decode cX6_can 75 = .ok (.iconst 0, 1) := by decide +kernel
theorem dX6_can_76 : decode cX6_can 76 = .ok (.bipush 29, 2) := by decide +kernel
theorem dX6_can_78 : decode cX6_can 78 = .ok (.iload 4, 2) := by decide +kernel
theorem dX6_can_80 : decode cX6_can 80 = .ok (.invokevirtual 180, 3) := by decide +kernel
theorem dX6_can_83 : decode cX6_can 83 = .ok (.ireturn, 1) := by decide +kernel
theorem dX6_can_84 : decode cX6_can 84 = .ok (.aload_n 0, 1) := by decide +kernel
theorem dX6_can_85 : decode cX6_can 85 = .ok (.iload_n 1, 1) := by decide +kernel
theorem dX6_can_86 : decode cX6_can 86 = .ok (.iconst 2, 1) := by decide +kernel
theorem dX6_can_87 : decode cX6_can 87 = .ok (.iconst 1, 1) := by decide +kernel
theorem dX6_can_88 : decode cX6_can 88 = .ok (.bipush 30, 2) := by decide +kernel
theorem dX6_can_90 : decode cX6_can 90 = .ok (.iload 4, 2) := by decide +kernel
theorem dX6_can_92 : decode cX6_can 92 = .ok (.invokevirtual 180, 3) := by decide +kernel
theorem dX6_can_95 : decode cX6_can 95 = .ok (.ireturn, 1) := by decide +kernel
theorem dX6_can_96 : decode cX6_can 96 = .ok (.aload_n 0, 1) := by decide +kernel
theorem dX6_can_97 : decode cX6_can 97 = .ok (.iload_n 1, 1) := by decide +kernel
theorem dX6_can_98 : decode cX6_can 98 = .ok (.iconst 1, 1) := by decide +kernel
theorem dX6_can_99 : decode cX6_can 99 = .ok (.iconst 0, 1) := by decide +kernel
theorem dX6_can_100 : decode cX6_can 100 = .ok (.bipush 9, 2) := by decide +kernel
theorem dX6_can_102 : decode cX6_can 102 = .ok (.iload 4, 2) := by decide +kernel
theorem dX6_can_104 : decode cX6_can 104 = .ok (.invokevirtual 180, 3) := by decide +kernel
theorem dX6_can_107 : decode cX6_can 107 = .ok (.ireturn, 1) := by decide +kernel
theorem dX6_odds_0 : decode cX6_odds 0 = .ok (.iload_n 1, 1) := by decide +kernel
theorem dX6_odds_1 : decode cX6_odds 1 = .ok (.i2l, 1) := by decide +kernel
theorem dX6_odds_2 : decode cX6_odds 2 = .ok (.lconst 0, 1) := by decide +kernel
theorem dX6_odds_3 : decode cX6_odds 3 = .ok (.lconst 1, 1) := by decide +kernel
theorem dX6_odds_4 : decode cX6_odds 4 = .ok (.invokestatic 62, 3) := by decide +kernel
theorem dX6_odds_7 : decode cX6_odds 7 = .ok (.ifCond .ne 7, 3) := by decide +kernel
theorem dX6_odds_10 : decode cX6_odds 10 = .ok (.ldc2_w 156, 3) := by decide +kernel
theorem dX6_odds_13 : decode cX6_odds 13 = .ok (.lreturn, 1) := by decide +kernel
theorem dX6_odds_14 : decode cX6_odds 14 = .ok (.aload_n 0, 1) := by decide +kernel
theorem dX6_odds_15 : decode cX6_odds 15 = .ok (.aload_n 0, 1) := by decide +kernel
theorem dX6_odds_16 : decode cX6_odds 16 = .ok (.getfield 12, 3) := by decide +kernel
theorem dX6_odds_19 : decode cX6_odds 19 = .ok (.invokevirtual 89, 3) := by decide +kernel
theorem dX6_odds_22 : decode cX6_odds 22 = .ok (.aload_n 0, 1) := by decide +kernel
theorem dX6_odds_23 : decode cX6_odds 23 = .ok (.getfield 12, 3) := by decide +kernel
theorem dX6_odds_26 : decode cX6_odds 26 = .ok (.invokevirtual 184, 3) := by decide +kernel
theorem dX6_odds_29 : decode cX6_odds 29 = .ok (.lstore_n 2, 1) := by decide +kernel
theorem dX6_odds_30 : decode cX6_odds 30 = .ok (.aload_n 0, 1) := by decide +kernel
theorem dX6_odds_31 : decode cX6_odds 31 = .ok (.getfield 12, 3) := by decide +kernel
theorem dX6_odds_34 : decode cX6_odds 34 = .ok (.lload_n 2, 1) := by decide +kernel
theorem dX6_odds_35 : decode cX6_odds 35 = .ok (.iconst 0, 1) := by decide +kernel
theorem dX6_odds_36 : decode cX6_odds 36 = .ok (.lconst 0, 1) := by decide +kernel
theorem dX6_odds_37 : decode cX6_odds 37 = .ok (.lconst 1, 1) := by decide +kernel
theorem dX6_odds_38 : decode cX6_odds 38 = .ok (.invokevirtual 188, 3) := by decide +kernel
theorem dX6_odds_41 : decode cX6_odds 41 = .ok (.lload_n 2, 1) := by decide +kernel
theorem dX6_odds_42 : decode cX6_odds 42 = .ok (.iload_n 1, 1) := by decide +kernel
theorem dX6_odds_43 : decode cX6_odds 43 = .ok (.invokestatic 192, 3) := by decide +kernel
theorem dX6_odds_46 : decode cX6_odds 46 = .ok (.lreturn, 1) := by decide +kernel
theorem dX6_mean_0 : decode cX6_mean 0 = .ok (.iload_n 1, 1) := by decide +kernel
theorem dX6_mean_1 : decode cX6_mean 1 = .ok (.i2l, 1) := by decide +kernel
theorem dX6_mean_2 : decode cX6_mean 2 = .ok (.lconst 0, 1) := by decide +kernel
theorem dX6_mean_3 : decode cX6_mean 3 = .ok (.ldc2_w 141, 3) := by decide +kernel
theorem dX6_mean_6 : decode cX6_mean 6 = .ok (.invokestatic 62, 3) := by decide +kernel
theorem dX6_mean_9 : decode cX6_mean 9 = .ok (.ifCond .eq 23, 3) := by decide +kernel
theorem dX6_mean_12 : decode cX6_mean 12 = .ok (.iload_n 2, 1) := by decide +kernel
theorem dX6_mean_13 : decode cX6_mean 13 = .ok (.i2l, 1) := by decide +kernel
theorem dX6_mean_14 : decode cX6_mean 14 = .ok (.lconst 0, 1) := by decide +kernel
theorem dX6_mean_15 : decode cX6_mean 15 = .ok (.lconst 1, 1) := by decide +kernel
theorem dX6_mean_16 : decode cX6_mean 16 = .ok (.invokestatic 62, 3) := by decide +kernel
theorem dX6_mean_19 : decode cX6_mean 19 = .ok (.ifCond .eq 13, 3) := by decide +kernel
theorem dX6_mean_22 : decode cX6_mean 22 = .ok (.aload_n 0, 1) := by decide +kernel
theorem dX6_mean_23 : decode cX6_mean 23 = .ok (.getfield 12, 3) := by decide +kernel
theorem dX6_mean_26 : decode cX6_mean 26 = .ok (.getfield 72, 3) := by decide +kernel
theorem dX6_mean_29 : decode cX6_mean 29 = .ok (.ifCond .ne 7, 3) := by decide +kernel
theorem dX6_mean_32 : decode cX6_mean 32 = .ok (.ldc2_w 156, 3) := by decide +kernel
theorem dX6_mean_35 : decode cX6_mean 35 = .ok (.lreturn, 1) := by decide +kernel
theorem dX6_mean_36 : decode cX6_mean 36 = .ok (.aload_n 0, 1) := by decide +kernel
theorem dX6_mean_37 : decode cX6_mean 37 = .ok (.iload_n 1, 1) := by decide +kernel
theorem dX6_mean_38 : decode cX6_mean 38 = .ok (.invokevirtual 150, 3) := by decide +kernel
theorem dX6_mean_41 : decode cX6_mean 41 = .ok (.aload_n 0, 1) := by decide +kernel
theorem dX6_mean_42 : decode cX6_mean 42 = .ok (.getfield 21, 3) := by decide +kernel
theorem dX6_mean_45 : decode cX6_mean 45 = .ok (.iconst 5, 1) := by decide +kernel
theorem dX6_mean_46 : decode cX6_mean 46 = .ok (.invokevirtual 138, 3) := by decide +kernel
theorem dX6_mean_49 : decode cX6_mean 49 = .ok (.i2l, 1) := by decide +kernel
theorem dX6_mean_50 : decode cX6_mean 50 = .ok (.aload_n 0, 1) := by decide +kernel
theorem dX6_mean_51 : decode cX6_mean 51 = .ok (.getfield 12, 3) := by decide +kernel
theorem dX6_mean_54 : decode cX6_mean 54 = .ok (.getfield 72, 3) := by decide +kernel
theorem dX6_mean_57 : decode cX6_mean 57 = .ok (.i2l, 1) := by decide +kernel
theorem dX6_mean_58 : decode cX6_mean 58 = .ok (.iload_n 2, 1) := by decide +kernel
theorem dX6_mean_59 : decode cX6_mean 59 = .ok (.invokestatic 192, 3) := by decide +kernel
theorem dX6_mean_62 : decode cX6_mean 62 = .ok (.lreturn, 1) := by decide +kernel
theorem dX6_plan_0 : decode cX6_plan 0 = .ok (.iload_n 1, 1) := by decide +kernel
theorem dX6_plan_1 : decode cX6_plan 1 = .ok (.iconst (-1), 1) := by decide +kernel
theorem dX6_plan_2 : decode cX6_plan 2 = .ok (.if_icmp .ne 14, 3) := by decide +kernel
theorem dX6_plan_5 : decode cX6_plan 5 = .ok (.aload_n 0, 1) := by decide +kernel
theorem dX6_plan_6 : decode cX6_plan 6 = .ok (.getfield 12, 3) := by decide +kernel
theorem dX6_plan_9 : decode cX6_plan 9 = .ok (.getfield 196, 3) := by decide +kernel
theorem dX6_plan_12 : decode cX6_plan 12 = .ok (.invokevirtual 173, 3) := by decide +kernel
theorem dX6_plan_15 : decode cX6_plan 15 = .ok (.ireturn, 1) := by decide +kernel
theorem dX6_plan_16 : decode cX6_plan 16 = .ok (.iload_n 1, 1) := by decide +kernel
theorem dX6_plan_17 : decode cX6_plan 17 = .ok (.i2l, 1) := by decide +kernel
theorem dX6_plan_18 : decode cX6_plan 18 = .ok (.lconst 0, 1) := by decide +kernel
theorem dX6_plan_19 : decode cX6_plan 19 = .ok (.ldc2_w 102, 3) := by decide +kernel
theorem dX6_plan_22 : decode cX6_plan 22 = .ok (.invokestatic 62, 3) := by decide +kernel
theorem dX6_plan_25 : decode cX6_plan 25 = .ok (.ifCond .ne 5, 3) := by decide +kernel
theorem dX6_plan_28 : decode cX6_plan 28 = .ok (.iconst (-1), 1) := by decide +kernel
theorem dX6_plan_29 : decode cX6_plan 29 = .ok (.ireturn, 1) := by decide +kernel
theorem dX6_plan_30 : decode cX6_plan 30 = .ok (.iload_n 1, 1) := by decide +kernel
theorem dX6_plan_31 : decode cX6_plan 31 = .ok (.iconst 1, 1) := by decide +kernel
theorem dX6_plan_32 : decode cX6_plan 32 = .ok (.if_icmp .eq 8, 3) := by decide +kernel
theorem dX6_plan_35 : decode cX6_plan 35 = .ok (.iload_n 1, 1) := by decide +kernel
theorem dX6_plan_36 : decode cX6_plan 36 = .ok (.iconst 2, 1) := by decide +kernel
theorem dX6_plan_37 : decode cX6_plan 37 = .ok (.if_icmp .ne 16, 3) := by decide +kernel
theorem dX6_plan_40 : decode cX6_plan 40 = .ok (.aload_n 0, 1) := by decide +kernel
theorem dX6_plan_41 : decode cX6_plan 41 = .ok (.getfield 12, 3) := by decide +kernel
theorem dX6_plan_44 : decode cX6_plan 44 = .ok (.iload_n 2, 1) := by decide +kernel
theorem dX6_plan_45 : decode cX6_plan 45 = .ok (.invokevirtual 85, 3) := by decide +kernel
theorem dX6_plan_48 : decode cX6_plan 48 = .ok (.ifCond .ne 5, 3) := by decide +kernel
theorem dX6_plan_51 : decode cX6_plan 51 = .ok (.iconst (-1), 1) := by decide +kernel
theorem dX6_plan_52 : decode cX6_plan 52 = .ok (.ireturn, 1) := by decide +kernel
theorem dX6_plan_53 : decode cX6_plan 53 = .ok (.iload_n 1, 1) := by decide +kernel
theorem dX6_plan_54 : decode cX6_plan 54 = .ok (.iconst 3, 1) := by decide +kernel
theorem dX6_plan_55 : decode cX6_plan 55 = .ok (.if_icmp .ne 18, 3) := by decide +kernel
theorem dX6_plan_58 : decode cX6_plan 58 = .ok (.iload_n 2, 1) := by decide +kernel
theorem dX6_plan_59 : decode cX6_plan 59 = .ok (.i2l, 1) := by decide +kernel
theorem dX6_plan_60 : decode cX6_plan 60 = .ok (.lconst 0, 1) := by decide +kernel
theorem dX6_plan_61 : decode cX6_plan 61 = .ok (.ldc2_w 97, 3) := by decide +kernel
theorem dX6_plan_64 : decode cX6_plan 64 = .ok (.invokestatic 62, 3) := by decide +kernel
theorem dX6_plan_67 : decode cX6_plan 67 = .ok (.ifCond .ne 6, 3) := by decide +kernel
theorem dX6_plan_70 : decode cX6_plan 70 = .ok (.bipush (-2), 2) := by decide +kernel
theorem dX6_plan_72 : decode cX6_plan 72 = .ok (.ireturn, 1) := by decide +kernel
theorem dX6_plan_73 : decode cX6_plan 73 = .ok (.aload_n 0, 1) := by decide +kernel
theorem dX6_plan_74 : decode cX6_plan 74 = .ok (.getfield 12, 3) := by decide +kernel
theorem dX6_plan_77 : decode cX6_plan 77 = .ok (.getfield 196, 3) := by decide +kernel
theorem dX6_plan_80 : decode cX6_plan 80 = .ok (.iload_n 1, 1) := by decide +kernel
theorem dX6_plan_81 : decode cX6_plan 81 = .ok (.iload_n 2, 1) := by decide +kernel
theorem dX6_plan_82 : decode cX6_plan 82 = .ok (.iconst 0, 1) := by decide +kernel
theorem dX6_plan_83 : decode cX6_plan 83 = .ok (.invokevirtual 177, 3) := by decide +kernel
theorem dX6_plan_86 : decode cX6_plan 86 = .ok (.ireturn, 1) := by decide +kernel
theorem dX6_ends_0 : decode cX6_ends 0 = .ok (.iload_n 1, 1) := by decide +kernel
theorem dX6_ends_1 : decode cX6_ends 1 = .ok (.i2l, 1) := by decide +kernel
theorem dX6_ends_2 : decode cX6_ends 2 = .ok (.lconst 0, 1) := by decide +kernel
theorem dX6_ends_3 : decode cX6_ends 3 = .ok (.lconst 1, 1) := by decide +kernel
theorem dX6_ends_4 : decode cX6_ends 4 = .ok (.invokestatic 62, 3) := by decide +kernel
theorem dX6_ends_7 : decode cX6_ends 7 = .ok (.ifCond .ne 5, 3) := by decide +kernel
theorem dX6_ends_10 : decode cX6_ends 10 = .ok (.iconst (-1), 1) := by decide +kernel
theorem dX6_ends_11 : decode cX6_ends 11 = .ok (.ireturn, 1) := by decide +kernel
theorem dX6_ends_12 : decode cX6_ends 12 = .ok (.aload_n 0, 1) := by decide +kernel
theorem dX6_ends_13 : decode cX6_ends 13 = .ok (.getfield 21, 3) := by decide +kernel
theorem dX6_ends_16 : decode cX6_ends 16 = .ok (.aload_n 0, 1) := by decide +kernel
theorem dX6_ends_17 : decode cX6_ends 17 = .ok (.getfield 12, 3) := by decide +kernel
theorem dX6_ends_20 : decode cX6_ends 20 = .ok (.invokevirtual 199, 3) := by decide +kernel
theorem dX6_ends_23 : decode cX6_ends 23 = .ok (.iconst 0, 1) := by decide +kernel
theorem dX6_ends_24 : decode cX6_ends 24 = .ok (.istore_n 2, 1) := by decide +kernel
theorem dX6_ends_25 : decode cX6_ends 25 = .ok (.iload_n 2, 1) := by decide +kernel
theorem dX6_ends_26 : decode cX6_ends 26 = .ok (.aload_n 0, 1) := by decide +kernel
theorem dX6_ends_27 : decode cX6_ends 27 = .ok (.getfield 12, 3) := by decide +kernel
theorem dX6_ends_30 : decode cX6_ends 30 = .ok (.getfield 196, 3) := by decide +kernel
theorem dX6_ends_33 : decode cX6_ends 33 = .ok (.getfield 202, 3) := by decide +kernel
theorem dX6_ends_36 : decode cX6_ends 36 = .ok (.if_icmp .ge 25, 3) := by decide +kernel
theorem dX6_ends_39 : decode cX6_ends 39 = .ok (.aload_n 0, 1) := by decide +kernel
theorem dX6_ends_40 : decode cX6_ends 40 = .ok (.aload_n 0, 1) := by decide +kernel
theorem dX6_ends_41 : decode cX6_ends 41 = .ok (.getfield 12, 3) := by decide +kernel
theorem dX6_ends_44 : decode cX6_ends 44 = .ok (.getfield 196, 3) := by decide +kernel
theorem dX6_ends_47 : decode cX6_ends 47 = .ok (.getfield 205, 3) := by decide +kernel
theorem dX6_ends_50 : decode cX6_ends 50 = .ok (.iload_n 2, 1) := by decide +kernel
theorem dX6_ends_51 : decode cX6_ends 51 = .ok (.aaload, 1) := by decide +kernel
theorem dX6_ends_52 : decode cX6_ends 52 = .ok (.invokevirtual 208, 3) := by decide +kernel
theorem dX6_ends_55 : decode cX6_ends 55 = .ok (.iinc 2 1, 3) := by decide +kernel
theorem dX6_ends_58 : decode cX6_ends 58 = .ok (.goto (-33), 3) := by decide +kernel
theorem dX6_ends_61 : decode cX6_ends 61 = .ok (.aload_n 0, 1) := by decide +kernel
theorem dX6_ends_62 : decode cX6_ends 62 = .ok (.getfield 21, 3) := by decide +kernel
theorem dX6_ends_65 : decode cX6_ends 65 = .ok (.iload_n 1, 1) := by decide +kernel
theorem dX6_ends_66 : decode cX6_ends 66 = .ok (.ifCond .ne 7, 3) := by decide +kernel
theorem dX6_ends_69 : decode cX6_ends 69 = .ok (.iconst 5, 1) := by decide +kernel
theorem dX6_ends_70 : decode cX6_ends 70 = .ok (.goto 5, 3) := by decide +kernel
theorem dX6_ends_73 : decode cX6_ends 73 = .ok (.bipush 6, 2) := by decide +kernel
theorem dX6_ends_75 : decode cX6_ends 75 = .ok (.invokevirtual 138, 3) := by decide +kernel
theorem dX6_ends_78 : decode cX6_ends 78 = .ok (.ireturn, 1) := by decide +kernel
theorem dX6_book_0 : decode cX6_book 0 = .ok (.iload_n 1, 1) := by decide +kernel
theorem dX6_book_1 : decode cX6_book 1 = .ok (.iconst (-1), 1) := by decide +kernel
theorem dX6_book_2 : decode cX6_book 2 = .ok (.if_icmp .ne 14, 3) := by decide +kernel
theorem dX6_book_5 : decode cX6_book 5 = .ok (.aload_n 0, 1) := by decide +kernel
theorem dX6_book_6 : decode cX6_book 6 = .ok (.getfield 12, 3) := by decide +kernel
theorem dX6_book_9 : decode cX6_book 9 = .ok (.getfield 212, 3) := by decide +kernel
theorem dX6_book_12 : decode cX6_book 12 = .ok (.invokevirtual 173, 3) := by decide +kernel
theorem dX6_book_15 : decode cX6_book 15 = .ok (.ireturn, 1) := by decide +kernel
theorem dX6_book_16 : decode cX6_book 16 = .ok (.aload_n 0, 1) := by decide +kernel
theorem dX6_book_17 : decode cX6_book 17 = .ok (.getfield 12, 3) := by decide +kernel
theorem dX6_book_20 : decode cX6_book 20 = .ok (.iload_n 1, 1) := by decide +kernel
theorem dX6_book_21 : decode cX6_book 21 = .ok (.invokevirtual 85, 3) := by decide +kernel
theorem dX6_book_24 : decode cX6_book 24 = .ok (.ifCond .ne 5, 3) := by decide +kernel
theorem dX6_book_27 : decode cX6_book 27 = .ok (.iconst (-1), 1) := by decide +kernel
theorem dX6_book_28 : decode cX6_book 28 = .ok (.ireturn, 1) := by decide +kernel
theorem dX6_book_29 : decode cX6_book 29 = .ok (.iload_n 2, 1) := by decide +kernel
theorem dX6_book_30 : decode cX6_book 30 = .ok (.i2l, 1) := by decide +kernel
theorem dX6_book_31 : decode cX6_book 31 = .ok (.lconst 0, 1) := by decide +kernel
theorem dX6_book_32 : decode cX6_book 32 = .ok (.ldc2_w 215, 3) := by decide +kernel
theorem dX6_book_35 : decode cX6_book 35 = .ok (.invokestatic 62, 3) := by decide +kernel
theorem dX6_book_38 : decode cX6_book 38 = .ok (.ifCond .ne 6, 3) := by decide +kernel
theorem dX6_book_41 : decode cX6_book 41 = .ok (.bipush (-2), 2) := by decide +kernel
theorem dX6_book_43 : decode cX6_book 43 = .ok (.ireturn, 1) := by decide +kernel
theorem dX6_book_44 : decode cX6_book 44 = .ok (.aload_n 0, 1) := by decide +kernel
theorem dX6_book_45 : decode cX6_book 45 = .ok (.getfield 12, 3) := by decide +kernel
theorem dX6_book_48 : decode cX6_book 48 = .ok (.getfield 212, 3) := by decide +kernel
theorem dX6_book_51 : decode cX6_book 51 = .ok (.iload_n 1, 1) := by decide +kernel
theorem dX6_book_52 : decode cX6_book 52 = .ok (.iload_n 2, 1) := by decide +kernel
theorem dX6_book_53 : decode cX6_book 53 = .ok (.iconst 0, 1) := by decide +kernel
theorem dX6_book_54 : decode cX6_book 54 = .ok (.invokevirtual 177, 3) := by decide +kernel
theorem dX6_book_57 : decode cX6_book 57 = .ok (.ireturn, 1) := by decide +kernel
theorem dX6_looked_0 : decode cX6_looked 0 = .ok (.iconst 0, 1) := by decide +kernel
theorem dX6_looked_1 : decode cX6_looked 1 = .ok (.istore_n 1, 1) := by decide +kernel
theorem dX6_looked_2 : decode cX6_looked 2 = .ok (.iload_n 1, 1) := by decide +kernel
theorem dX6_looked_3 : decode cX6_looked 3 = .ok (.aload_n 0, 1) := by decide +kernel
theorem dX6_looked_4 : decode cX6_looked 4 = .ok (.getfield 12, 3) := by decide +kernel
theorem dX6_looked_7 : decode cX6_looked 7 = .ok (.getfield 212, 3) := by decide +kernel
theorem dX6_looked_10 : decode cX6_looked 10 = .ok (.getfield 202, 3) := by decide +kernel
theorem dX6_looked_13 : decode cX6_looked 13 = .ok (.if_icmp .ge 56, 3) := by decide +kernel
theorem dX6_looked_16 : decode cX6_looked 16 = .ok (.aload_n 0, 1) := by decide +kernel
theorem dX6_looked_17 : decode cX6_looked 17 = .ok (.getfield 12, 3) := by decide +kernel
theorem dX6_looked_20 : decode cX6_looked 20 = .ok (.getfield 212, 3) := by decide +kernel
theorem dX6_looked_23 : decode cX6_looked 23 = .ok (.getfield 205, 3) := by decide +kernel
theorem dX6_looked_26 : decode cX6_looked 26 = .ok (.iload_n 1, 1) := by decide +kernel
theorem dX6_looked_27 : decode cX6_looked 27 = .ok (.aaload, 1) := by decide +kernel
theorem dX6_looked_28 : decode cX6_looked 28 = .ok (.astore_n 2, 1) := by decide +kernel
theorem dX6_looked_29 : decode cX6_looked 29 = .ok (.aload_n 0, 1) := by decide +kernel
theorem dX6_looked_30 : decode cX6_looked 30 = .ok (.getfield 12, 3) := by decide +kernel
theorem dX6_looked_33 : decode cX6_looked 33 = .ok (.aload_n 2, 1) := by decide +kernel
theorem dX6_looked_34 : decode cX6_looked 34 = .ok (.iconst 0, 1) := by decide +kernel
theorem dX6_looked_35 : decode cX6_looked 35 = .ok (.iaload, 1) := by decide +kernel
theorem dX6_looked_36 : decode cX6_looked 36 = .ok (.invokevirtual 85, 3) := by decide +kernel
theorem dX6_looked_39 : decode cX6_looked 39 = .ok (.ifCond .eq 24, 3) := by decide +kernel
theorem dX6_looked_42 : decode cX6_looked 42 = .ok (.aload_n 0, 1) := by decide +kernel
theorem dX6_looked_43 : decode cX6_looked 43 = .ok (.getfield 12, 3) := by decide +kernel
theorem dX6_looked_46 : decode cX6_looked 46 = .ok (.getfield 75, 3) := by decide +kernel
theorem dX6_looked_49 : decode cX6_looked 49 = .ok (.aload_n 2, 1) := by decide +kernel
theorem dX6_looked_50 : decode cX6_looked 50 = .ok (.iconst 0, 1) := by decide +kernel
theorem dX6_looked_51 : decode cX6_looked 51 = .ok (.iaload, 1) := by decide +kernel
theorem dX6_looked_52 : decode cX6_looked 52 = .ok (.aaload, 1) := by decide +kernel
theorem dX6_looked_53 : decode cX6_looked 53 = .ok (.iconst 5, 1) := by decide +kernel
theorem dX6_looked_54 : decode cX6_looked 54 = .ok (.iaload, 1) := by decide +kernel
theorem dX6_looked_55 : decode cX6_looked 55 = .ok (.aload_n 2, 1) := by decide +kernel
theorem dX6_looked_56 : decode cX6_looked 56 = .ok (.iconst 1, 1) := by decide +kernel
theorem dX6_looked_57 : decode cX6_looked 57 = .ok (.iaload, 1) := by decide +kernel
theorem dX6_looked_58 : decode cX6_looked 58 = .ok (.if_icmp .eq 5, 3) := by decide +kernel
theorem dX6_looked_61 : decode cX6_looked 61 = .ok (.iload_n 1, 1) := by decide +kernel
theorem dX6_looked_62 : decode cX6_looked 62 = .ok (.ireturn, 1) := by decide +kernel
theorem dX6_looked_63 : decode cX6_looked 63 = .ok (.iinc 1 1, 3) := by decide +kernel
theorem dX6_looked_66 : decode cX6_looked 66 = .ok (.goto (-64), 3) := by decide +kernel
theorem dX6_looked_69 : decode cX6_looked 69 = .ok (.bipush (-5), 2) := by decide +kernel
theorem dX6_looked_71 : decode cX6_looked 71 = .ok (.ireturn, 1) := by decide +kernel
theorem dX6_judge_0 : decode cX6_judge 0 = .ok (.iload_n 1, 1) := by decide +kernel
theorem dX6_judge_1 : decode cX6_judge 1 = .ok (.i2l, 1) := by decide +kernel
theorem dX6_judge_2 : decode cX6_judge 2 = .ok (.lconst 0, 1) := by decide +kernel
theorem dX6_judge_3 : decode cX6_judge 3 = .ok (.ldc2_w 217, 3) := by decide +kernel
theorem dX6_judge_6 : decode cX6_judge 6 = .ok (.invokestatic 62, 3) := by decide +kernel
theorem dX6_judge_9 : decode cX6_judge 9 = .ok (.ifCond .ne 5, 3) := by decide +kernel
theorem dX6_judge_12 : decode cX6_judge 12 = .ok (.iconst (-1), 1) := by decide +kernel
theorem dX6_judge_13 : decode cX6_judge 13 = .ok (.ireturn, 1) := by decide +kernel
theorem dX6_judge_14 : decode cX6_judge 14 = .ok (.aload_n 0, 1) := by decide +kernel
theorem dX6_judge_15 : decode cX6_judge 15 = .ok (.getfield 54, 3) := by decide +kernel
theorem dX6_judge_18 : decode cX6_judge 18 = .ok (.iload_n 1, 1) := by decide +kernel
theorem dX6_judge_19 : decode cX6_judge 19 = .ok (.aaload, 1) := by decide +kernel
theorem dX6_judge_20 : decode cX6_judge 20 = .ok (.astore_n 3, 1) := by decide +kernel
theorem dX6_judge_21 : decode cX6_judge 21 = .ok (.aload_n 3, 1) := by decide +kernel
theorem dX6_judge_22 : decode cX6_judge 22 = .ok (.getfield 219, 3) := by decide +kernel
theorem dX6_judge_25 : decode cX6_judge 25 = .ok (.ifCond .lt 14, 3) := by decide +kernel
theorem dX6_judge_28 : decode cX6_judge 28 = .ok (.aload_n 3, 1) := by decide +kernel
theorem dX6_judge_29 : decode cX6_judge 29 = .ok (.getfield 219, 3) := by decide +kernel
theorem dX6_judge_32 : decode cX6_judge 32 = .ok (.iconst 3, 1) := by decide +kernel
theorem dX6_judge_33 : decode cX6_judge 33 = .ok (.if_icmp .eq 6, 3) := by decide +kernel
theorem dX6_judge_36 : decode cX6_judge 36 = .ok (.bipush (-12), 2) := by decide +kernel
theorem dX6_judge_38 : decode cX6_judge 38 = .ok (.ireturn, 1) := by decide +kernel
theorem dX6_judge_39 : decode cX6_judge 39 = .ok (.iconst 0, 1) := by decide +kernel
theorem dX6_judge_40 : decode cX6_judge 40 = .ok (.istore 4, 2) := by decide +kernel
theorem dX6_judge_42 : decode cX6_judge 42 = .ok (.iload 4, 2) := by decide +kernel
theorem dX6_judge_44 : decode cX6_judge 44 = .ok (.aload_n 0, 1) := by decide +kernel
theorem dX6_judge_45 : decode cX6_judge 45 = .ok (.getfield 12, 3) := by decide +kernel
theorem dX6_judge_48 : decode cX6_judge 48 = .ok (.getfield 72, 3) := by decide +kernel
theorem dX6_judge_51 : decode cX6_judge 51 = .ok (.if_icmp .ge 66, 3) := by decide +kernel
theorem dX6_judge_54 : decode cX6_judge 54 = .ok (.iload_n 2, 1) := by decide +kernel
theorem dX6_judge_55 : decode cX6_judge 55 = .ok (.i2l, 1) := by decide +kernel
theorem dX6_judge_56 : decode cX6_judge 56 = .ok (.iload 4, 2) := by decide +kernel
theorem dX6_judge_58 : decode cX6_judge 58 = .ok (.i2l, 1) := by decide +kernel
theorem dX6_judge_59 : decode cX6_judge 59 = .ok (.ladd, 1) := by decide +kernel
theorem dX6_judge_60 : decode cX6_judge 60 = .ok (.lstore 5, 2) := by decide +kernel
theorem dX6_judge_62 : decode cX6_judge 62 = .ok (.iload_n 2, 1) := by decide +kernel
theorem dX6_judge_63 : decode cX6_judge 63 = .ok (.ifCond .lt 14, 3) := by decide +kernel
theorem dX6_judge_66 : decode cX6_judge 66 = .ok (.lload 5, 2) := by decide +kernel
theorem dX6_judge_68 : decode cX6_judge 68 = .ok (.aload_n 3, 1) := by decide +kernel
theorem dX6_judge_69 : decode cX6_judge 69 = .ok (.getfield 222, 3) := by decide +kernel
theorem dX6_judge_72 : decode cX6_judge 72 = .ok (.i2l, 1) := by decide +kernel
theorem dX6_judge_73 : decode cX6_judge 73 = .ok (.lcmp, 1) := by decide +kernel
theorem dX6_judge_74 : decode cX6_judge 74 = .ok (.ifCond .lt 9, 3) := by decide +kernel
theorem dX6_judge_77 : decode cX6_judge 77 = .ok (.bipush 100, 2) := by decide +kernel
theorem dX6_judge_79 : decode cX6_judge 79 = .ok (.iload 4, 2) := by decide +kernel
theorem dX6_judge_81 : decode cX6_judge 81 = .ok (.iadd, 1) := by decide +kernel
theorem dX6_judge_82 : decode cX6_judge 82 = .ok (.ireturn, 1) := by decide +kernel
theorem dX6_judge_83 : decode cX6_judge 83 = .ok (.aload_n 3, 1) := by decide +kernel
theorem dX6_judge_84 : decode cX6_judge 84 = .ok (.getfield 225, 3) := by decide +kernel
theorem dX6_judge_87 : decode cX6_judge 87 = .ok (.lload 5, 2) := by decide +kernel
theorem dX6_judge_89 : decode cX6_judge 89 = .ok (.l2i, 1) := by decide +kernel
theorem dX6_judge_90 : decode cX6_judge 90 = .ok (.laload, 1) := by decide +kernel
theorem dX6_judge_91 : decode cX6_judge 91 = .ok (.aload_n 0, 1) := by decide +kernel
theorem dX6_judge_92 : decode cX6_judge 92 = .ok (.getfield 12, 3) := by decide +kernel
theorem dX6_judge_95 : decode cX6_judge 95 = .ok (.getfield 75, 3) := by decide +kernel
theorem dX6_judge_98 : decode cX6_judge 98 = .ok (.iload 4, 2) := by decide +kernel
theorem dX6_judge_100 : decode cX6_judge 100 = .ok (.aaload, 1) := by decide +kernel
theorem dX6_judge_101 : decode cX6_judge 101 = .ok (.iconst 5, 1) := by decide +kernel
theorem dX6_judge_102 : decode cX6_judge 102 = .ok (.iaload, 1) := by decide +kernel
theorem dX6_judge_103 : decode cX6_judge 103 = .ok (.i2l, 1) := by decide +kernel
theorem dX6_judge_104 : decode cX6_judge 104 = .ok (.lcmp, 1) := by decide +kernel
theorem dX6_judge_105 : decode cX6_judge 105 = .ok (.ifCond .eq 6, 3) := by decide +kernel
theorem dX6_judge_108 : decode cX6_judge 108 = .ok (.iload 4, 2) := by decide +kernel
theorem dX6_judge_110 : decode cX6_judge 110 = .ok (.ireturn, 1) := by decide +kernel
theorem dX6_judge_111 : decode cX6_judge 111 = .ok (.iinc 4 1, 3) := by decide +kernel
theorem dX6_judge_114 : decode cX6_judge 114 = .ok (.goto (-72), 3) := by decide +kernel
theorem dX6_judge_117 : decode cX6_judge 117 = .ok (.bipush (-5), 2) := by decide +kernel
theorem dX6_judge_119 : decode cX6_judge 119 = .ok (.ireturn, 1) := by decide +kernel
theorem dX6_image_0 : decode cX6_image 0 = .ok (.aload_n 0, 1) := by decide +kernel
theorem dX6_image_1 : decode cX6_image 1 = .ok (.getfield 18, 3) := by decide +kernel
theorem dX6_image_4 : decode cX6_image 4 = .ok (.aload_n 0, 1) := by decide +kernel
theorem dX6_image_5 : decode cX6_image 5 = .ok (.getfield 12, 3) := by decide +kernel
theorem dX6_image_8 : decode cX6_image 8 = .ok (.invokevirtual 199, 3) := by decide +kernel
theorem dX6_image_11 : decode cX6_image 11 = .ok (.aload_n 0, 1) := by decide +kernel
theorem dX6_image_12 : decode cX6_image 12 = .ok (.iconst 1, 1) := by decide +kernel
theorem dX6_image_13 : decode cX6_image 13 = .ok (.putfield 24, 3) := by decide +kernel
theorem dX6_image_16 : decode cX6_image 16 = .ok (.aload_n 0, 1) := by decide +kernel
theorem dX6_image_17 : decode cX6_image 17 = .ok (.getfield 12, 3) := by decide +kernel
theorem dX6_image_20 : decode cX6_image 20 = .ok (.getfield 72, 3) := by decide +kernel
theorem dX6_image_23 : decode cX6_image 23 = .ok (.ireturn, 1) := by decide +kernel
theorem dX6_undo_0 : decode cX6_undo 0 = .ok (.aload_n 0, 1) := by decide +kernel
theorem dX6_undo_1 : decode cX6_undo 1 = .ok (.getfield 24, 3) := by decide +kernel
theorem dX6_undo_4 : decode cX6_undo 4 = .ok (.ifCond .ne 6, 3) := by decide +kernel
theorem dX6_undo_7 : decode cX6_undo 7 = .ok (.bipush (-3), 2) := by decide +kernel
theorem dX6_undo_9 : decode cX6_undo 9 = .ok (.ireturn, 1) := by decide +kernel
theorem dX6_undo_10 : decode cX6_undo 10 = .ok (.aload_n 0, 1) := by decide +kernel
theorem dX6_undo_11 : decode cX6_undo 11 = .ok (.getfield 12, 3) := by decide +kernel
theorem dX6_undo_14 : decode cX6_undo 14 = .ok (.aload_n 0, 1) := by decide +kernel
theorem dX6_undo_15 : decode cX6_undo 15 = .ok (.getfield 18, 3) := by decide +kernel
theorem dX6_undo_18 : decode cX6_undo 18 = .ok (.invokevirtual 199, 3) := by decide +kernel
theorem dX6_undo_21 : decode cX6_undo 21 = .ok (.aload_n 0, 1) := by decide +kernel
theorem dX6_undo_22 : decode cX6_undo 22 = .ok (.getfield 12, 3) := by decide +kernel
theorem dX6_undo_25 : decode cX6_undo 25 = .ok (.getfield 72, 3) := by decide +kernel
theorem dX6_undo_28 : decode cX6_undo 28 = .ok (.ireturn, 1) := by decide +kernel
theorem dX6_act_0 : decode cX6_act 0 = .ok (.aload_n 0, 1) := by decide +kernel
theorem dX6_act_1 : decode cX6_act 1 = .ok (.getfield 48, 3) := by decide +kernel
theorem dX6_act_4 : decode cX6_act 4 = .ok (.iconst 0, 1) := by decide +kernel
theorem dX6_act_5 : decode cX6_act 5 = .ok (.putfield 229, 3) := by decide +kernel
theorem dX6_act_8 : decode cX6_act 8 = .ok (.aload_n 0, 1) := by decide +kernel
theorem dX6_act_9 : decode cX6_act 9 = .ok (.getfield 12, 3) := by decide +kernel
theorem dX6_act_12 : decode cX6_act 12 = .ok (.iload_n 1, 1) := by decide +kernel
theorem dX6_act_13 : decode cX6_act 13 = .ok (.invokevirtual 85, 3) := by decide +kernel
theorem dX6_act_16 : decode cX6_act 16 = .ok (.ifCond .eq 15, 3) := by decide +kernel
theorem dX6_act_19 : decode cX6_act 19 = .ok (.iload_n 2, 1) := by decide +kernel
theorem dX6_act_20 : decode cX6_act 20 = .ok (.i2l, 1) := by decide +kernel
theorem dX6_act_21 : decode cX6_act 21 = .ok (.lconst 0, 1) := by decide +kernel
theorem dX6_act_22 : decode cX6_act 22 = .ok (.ldc2_w 148, 3) := by decide +kernel
theorem dX6_act_25 : decode cX6_act 25 = .ok (.invokestatic 62, 3) := by decide +kernel
theorem dX6_act_28 : decode cX6_act 28 = .ok (.ifCond .ne 5, 3) := by decide +kernel
theorem dX6_act_31 : decode cX6_act 31 = .ok (.iconst 0, 1) := by decide +kernel
theorem dX6_act_32 : decode cX6_act 32 = .ok (.ireturn, 1) := by decide +kernel
theorem dX6_act_33 : decode cX6_act 33 = .ok (.aload_n 0, 1) := by decide +kernel
theorem dX6_act_34 : decode cX6_act 34 = .ok (.getfield 48, 3) := by decide +kernel
theorem dX6_act_37 : decode cX6_act 37 = .ok (.aload_n 0, 1) := by decide +kernel
theorem dX6_act_38 : decode cX6_act 38 = .ok (.getfield 12, 3) := by decide +kernel
theorem dX6_act_41 : decode cX6_act 41 = .ok (.getfield 75, 3) := by decide +kernel
theorem dX6_act_44 : decode cX6_act 44 = .ok (.iload_n 1, 1) := by decide +kernel
theorem dX6_act_45 : decode cX6_act 45 = .ok (.aaload, 1) := by decide +kernel
theorem dX6_act_46 : decode cX6_act 46 = .ok (.iload_n 1, 1) := by decide +kernel
theorem dX6_act_47 : decode cX6_act 47 = .ok (.iload_n 2, 1) := by decide +kernel
theorem dX6_act_48 : decode cX6_act 48 = .ok (.iload_n 3, 1) := by decide +kernel
theorem dX6_act_49 : decode cX6_act 49 = .ok (.invokevirtual 232, 3) := by decide +kernel
theorem dX6_act_52 : decode cX6_act 52 = .ok (.ireturn, 1) := by decide +kernel
theorem dX6_trace_0 : decode cX6_trace 0 = .ok (.iload_n 1, 1) := by decide +kernel
theorem dX6_trace_1 : decode cX6_trace 1 = .ok (.i2l, 1) := by decide +kernel
theorem dX6_trace_2 : decode cX6_trace 2 = .ok (.lconst 0, 1) := by decide +kernel
theorem dX6_trace_3 : decode cX6_trace 3 = .ok (.aload_n 0, 1) := by decide +kernel
theorem dX6_trace_4 : decode cX6_trace 4 = .ok (.getfield 48, 3) := by decide +kernel
theorem dX6_trace_7 : decode cX6_trace 7 = .ok (.getfield 229, 3) := by decide +kernel
theorem dX6_trace_10 : decode cX6_trace 10 = .ok (.bipush 20, 2) := by decide +kernel
theorem dX6_trace_12 : decode cX6_trace 12 = .ok (.invokestatic 236, 3) := by decide +kernel
theorem dX6_trace_15 : decode cX6_trace 15 = .ok (.iconst 1, 1) := by decide +kernel
theorem dX6_trace_16 : decode cX6_trace 16 = .ok (.isub, 1) := by decide +kernel
theorem dX6_trace_17 : decode cX6_trace 17 = .ok (.i2l, 1) := by decide +kernel
theorem dX6_trace_18 : decode cX6_trace 18 = .ok (.invokestatic 62, 3) := by decide +kernel
theorem dX6_trace_21 : decode cX6_trace 21 = .ok (.ifCond .eq 15, 3) := by decide +kernel
theorem dX6_trace_24 : decode cX6_trace 24 = .ok (.aload_n 0, 1) := by decide +kernel
theorem dX6_trace_25 : decode cX6_trace 25 = .ok (.getfield 48, 3) := by decide +kernel
theorem dX6_trace_28 : decode cX6_trace 28 = .ok (.getfield 242, 3) := by decide +kernel
theorem dX6_trace_31 : decode cX6_trace 31 = .ok (.iload_n 1, 1) := by decide +kernel
theorem dX6_trace_32 : decode cX6_trace 32 = .ok (.iaload, 1) := by decide +kernel
theorem dX6_trace_33 : decode cX6_trace 33 = .ok (.goto 4, 3) := by decide +kernel
theorem dX6_trace_36 : decode cX6_trace 36 = .ok (.iconst (-1), 1) := by decide +kernel
theorem dX6_trace_37 : decode cX6_trace 37 = .ok (.ireturn, 1) := by decide +kernel
theorem dX6_taken_0 : decode cX6_taken 0 = .ok (.iload_n 2, 1) := by decide +kernel
theorem dX6_taken_1 : decode cX6_taken 1 = .ok (.i2l, 1) := by decide +kernel
theorem dX6_taken_2 : decode cX6_taken 2 = .ok (.lconst 0, 1) := by decide +kernel
theorem dX6_taken_3 : decode cX6_taken 3 = .ok (.ldc2_w 60, 3) := by decide +kernel
theorem dX6_taken_6 : decode cX6_taken 6 = .ok (.invokestatic 62, 3) := by decide +kernel
theorem dX6_taken_9 : decode cX6_taken 9 = .ok (.ifCond .ne 6, 3) := by decide +kernel
theorem dX6_taken_12 : decode cX6_taken 12 = .ok (.bipush (-2), 2) := by decide +kernel
theorem dX6_taken_14 : decode cX6_taken 14 = .ok (.ireturn, 1) := by decide +kernel
theorem dX6_taken_15 : decode cX6_taken 15 = .ok (.aload_n 0, 1) := by decide +kernel
theorem dX6_taken_16 : decode cX6_taken 16 = .ok (.getfield 12, 3) := by decide +kernel
theorem dX6_taken_19 : decode cX6_taken 19 = .ok (.iload_n 1, 1) := by decide +kernel
theorem dX6_taken_20 : decode cX6_taken 20 = .ok (.invokevirtual 85, 3) := by decide +kernel
theorem dX6_taken_23 : decode cX6_taken 23 = .ok (.ifCond .ne 6, 3) := by decide +kernel
theorem dX6_taken_26 : decode cX6_taken 26 = .ok (.bipush (-11), 2) := by decide +kernel
theorem dX6_taken_28 : decode cX6_taken 28 = .ok (.ireturn, 1) := by decide +kernel
theorem dX6_taken_29 : decode cX6_taken 29 = .ok (.aload_n 0, 1) := by decide +kernel
theorem dX6_taken_30 : decode cX6_taken 30 = .ok (.getfield 12, 3) := by decide +kernel
theorem dX6_taken_33 : decode cX6_taken 33 = .ok (.getfield 75, 3) := by decide +kernel
theorem dX6_taken_36 : decode cX6_taken 36 = .ok (.iload_n 1, 1) := by decide +kernel
theorem dX6_taken_37 : decode cX6_taken 37 = .ok (.aaload, 1) := by decide +kernel
theorem dX6_taken_38 : decode cX6_taken 38 = .ok (.iconst 0, 1) := by decide +kernel
theorem dX6_taken_39 : decode cX6_taken 39 = .ok (.iaload, 1) := by decide +kernel
theorem dX6_taken_40 : decode cX6_taken 40 = .ok (.istore_n 3, 1) := by decide +kernel
theorem dX6_taken_41 : decode cX6_taken 41 = .ok (.iload_n 3, 1) := by decide +kernel
theorem dX6_taken_42 : decode cX6_taken 42 = .ok (.iload_n 2, 1) := by decide +kernel
theorem dX6_taken_43 : decode cX6_taken 43 = .ok (.invokestatic 246, 3) := by decide +kernel
theorem dX6_taken_46 : decode cX6_taken 46 = .ok (.ifCond .eq 7, 3) := by decide +kernel
theorem dX6_taken_49 : decode cX6_taken 49 = .ok (.iload_n 3, 1) := by decide +kernel
theorem dX6_taken_50 : decode cX6_taken 50 = .ok (.goto 5, 3) := by decide +kernel
theorem dX6_taken_53 : decode cX6_taken 53 = .ok (.bipush (-12), 2) := by decide +kernel
theorem dX6_taken_55 : decode cX6_taken 55 = .ok (.ireturn, 1) := by decide +kernel
theorem dX6_count_0 : decode cX6_count 0 = .ok (.iload_n 1, 1) := by decide +kernel
theorem dX6_count_1 : decode cX6_count 1 = .ok (.tableswitch 105 0 6 #[43, 51, 56, 67, 78, 89, 97], 43) := by decide +kernel
theorem dX6_count_44 : decode cX6_count 44 = .ok (.aload_n 0, 1) := by decide +kernel
theorem dX6_count_45 : decode cX6_count 45 = .ok (.getfield 12, 3) := by decide +kernel
theorem dX6_count_48 : decode cX6_count 48 = .ok (.getfield 72, 3) := by decide +kernel
theorem dX6_count_51 : decode cX6_count 51 = .ok (.ireturn, 1) := by decide +kernel
theorem dX6_count_52 : decode cX6_count 52 = .ok (.aload_n 0, 1) := by decide +kernel
theorem dX6_count_53 : decode cX6_count 53 = .ok (.getfield 41, 3) := by decide +kernel
theorem dX6_count_56 : decode cX6_count 56 = .ok (.ireturn, 1) := by decide +kernel
theorem dX6_count_57 : decode cX6_count 57 = .ok (.aload_n 0, 1) := by decide +kernel
theorem dX6_count_58 : decode cX6_count 58 = .ok (.getfield 12, 3) := by decide +kernel
theorem dX6_count_61 : decode cX6_count 61 = .ok (.getfield 169, 3) := by decide +kernel
theorem dX6_count_64 : decode cX6_count 64 = .ok (.getfield 202, 3) := by decide +kernel
theorem dX6_count_67 : decode cX6_count 67 = .ok (.ireturn, 1) := by decide +kernel
theorem dX6_count_68 : decode cX6_count 68 = .ok (.aload_n 0, 1) := by decide +kernel
theorem dX6_count_69 : decode cX6_count 69 = .ok (.getfield 12, 3) := by decide +kernel
theorem dX6_count_72 : decode cX6_count 72 = .ok (.getfield 196, 3) := by decide +kernel
theorem dX6_count_75 : decode cX6_count 75 = .ok (.getfield 202, 3) := by decide +kernel
theorem dX6_count_78 : decode cX6_count 78 = .ok (.ireturn, 1) := by decide +kernel
theorem dX6_count_79 : decode cX6_count 79 = .ok (.aload_n 0, 1) := by decide +kernel
theorem dX6_count_80 : decode cX6_count 80 = .ok (.getfield 12, 3) := by decide +kernel
theorem dX6_count_83 : decode cX6_count 83 = .ok (.getfield 212, 3) := by decide +kernel
theorem dX6_count_86 : decode cX6_count 86 = .ok (.getfield 202, 3) := by decide +kernel
theorem dX6_count_89 : decode cX6_count 89 = .ok (.ireturn, 1) := by decide +kernel
theorem dX6_count_90 : decode cX6_count 90 = .ok (.aload_n 0, 1) := by decide +kernel
theorem dX6_count_91 : decode cX6_count 91 = .ok (.getfield 31, 3) := by decide +kernel
theorem dX6_count_94 : decode cX6_count 94 = .ok (.getfield 250, 3) := by decide +kernel
theorem dX6_count_97 : decode cX6_count 97 = .ok (.ireturn, 1) := by decide +kernel
theorem dX6_count_98 : decode cX6_count 98 = .ok (.aload_n 0, 1) := by decide +kernel
theorem dX6_count_99 : decode cX6_count 99 = .ok (.getfield 48, 3) := by decide +kernel
theorem dX6_count_102 : decode cX6_count 102 = .ok (.getfield 229, 3) := by decide +kernel
theorem dX6_count_105 : decode cX6_count 105 = .ok (.ireturn, 1) := by decide +kernel
theorem dX6_count_106 : decode cX6_count 106 = .ok (.bipush (-2), 2) := by decide +kernel
theorem dX6_count_108 : decode cX6_count 108 = .ok (.ireturn, 1) := by decide +kernel
theorem dX6_tape_0 : decode cX6_tape 0 = .ok (.iload_n 1, 1) := by decide +kernel
theorem dX6_tape_1 : decode cX6_tape 1 = .ok (.i2l, 1) := by decide +kernel
theorem dX6_tape_2 : decode cX6_tape 2 = .ok (.lconst 0, 1) := by decide +kernel
theorem dX6_tape_3 : decode cX6_tape 3 = .ok (.ldc2_w 217, 3) := by decide +kernel
theorem dX6_tape_6 : decode cX6_tape 6 = .ok (.invokestatic 62, 3) := by decide +kernel
theorem dX6_tape_9 : decode cX6_tape 9 = .ok (.ifCond .ne 5, 3) := by decide +kernel
theorem dX6_tape_12 : decode cX6_tape 12 = .ok (.iconst (-1), 1) := by decide +kernel
theorem dX6_tape_13 : decode cX6_tape 13 = .ok (.ireturn, 1) := by decide +kernel
theorem dX6_tape_14 : decode cX6_tape 14 = .ok (.iload_n 2, 1) := by decide +kernel
theorem dX6_tape_15 : decode cX6_tape 15 = .ok (.iconst (-1), 1) := by decide +kernel
theorem dX6_tape_16 : decode cX6_tape 16 = .ok (.if_icmp .ne 16, 3) := by decide +kernel
theorem dX6_tape_19 : decode cX6_tape 19 = .ok (.aload_n 0, 1) := by decide +kernel
theorem dX6_tape_20 : decode cX6_tape 20 = .ok (.getfield 54, 3) := by decide +kernel
theorem dX6_tape_23 : decode cX6_tape 23 = .ok (.iload_n 1, 1) := by decide +kernel
theorem dX6_tape_24 : decode cX6_tape 24 = .ok (.aaload, 1) := by decide +kernel
theorem dX6_tape_25 : decode cX6_tape 25 = .ok (.iconst (-1), 1) := by decide +kernel
theorem dX6_tape_26 : decode cX6_tape 26 = .ok (.iconst 0, 1) := by decide +kernel
theorem dX6_tape_27 : decode cX6_tape 27 = .ok (.invokevirtual 251, 3) := by decide +kernel
theorem dX6_tape_30 : decode cX6_tape 30 = .ok (.iconst 1, 1) := by decide +kernel
theorem dX6_tape_31 : decode cX6_tape 31 = .ok (.ireturn, 1) := by decide +kernel
theorem dX6_tape_32 : decode cX6_tape 32 = .ok (.iload_n 2, 1) := by decide +kernel
theorem dX6_tape_33 : decode cX6_tape 33 = .ok (.i2l, 1) := by decide +kernel
theorem dX6_tape_34 : decode cX6_tape 34 = .ok (.lconst 0, 1) := by decide +kernel
theorem dX6_tape_35 : decode cX6_tape 35 = .ok (.ldc2_w 253, 3) := by decide +kernel
theorem dX6_tape_38 : decode cX6_tape 38 = .ok (.invokestatic 62, 3) := by decide +kernel
theorem dX6_tape_41 : decode cX6_tape 41 = .ok (.ifCond .eq 9, 3) := by decide +kernel
theorem dX6_tape_44 : decode cX6_tape 44 = .ok (.iload_n 3, 1) := by decide +kernel
theorem dX6_tape_45 : decode cX6_tape 45 = .ok (.bipush 60, 2) := by decide +kernel
theorem dX6_tape_47 : decode cX6_tape 47 = .ok (.if_icmp .le 6, 3) := by decide +kernel
theorem dX6_tape_50 : decode cX6_tape 50 = .ok (.bipush (-2), 2) := by decide +kernel
theorem dX6_tape_52 : decode cX6_tape 52 = .ok (.ireturn, 1) := by decide +kernel
theorem dX6_tape_53 : decode cX6_tape 53 = .ok (.iload_n 3, 1) := by decide +kernel
theorem dX6_tape_54 : decode cX6_tape 54 = .ok (.ifCond .ge 6, 3) := by decide +kernel
theorem dX6_tape_57 : decode cX6_tape 57 = .ok (.bipush (-14), 2) := by decide +kernel
theorem dX6_tape_59 : decode cX6_tape 59 = .ok (.ireturn, 1) := by decide +kernel
theorem dX6_tape_60 : decode cX6_tape 60 = .ok (.aload_n 0, 1) := by decide +kernel
theorem dX6_tape_61 : decode cX6_tape 61 = .ok (.getfield 54, 3) := by decide +kernel
theorem dX6_tape_64 : decode cX6_tape 64 = .ok (.iload_n 1, 1) := by decide +kernel
theorem dX6_tape_65 : decode cX6_tape 65 = .ok (.aaload, 1) := by decide +kernel
theorem dX6_tape_66 : decode cX6_tape 66 = .ok (.iload_n 2, 1) := by decide +kernel
theorem dX6_tape_67 : decode cX6_tape 67 = .ok (.iload_n 3, 1) := by decide +kernel
theorem dX6_tape_68 : decode cX6_tape 68 = .ok (.invokevirtual 251, 3) := by decide +kernel
theorem dX6_tape_71 : decode cX6_tape 71 = .ok (.iconst 1, 1) := by decide +kernel
theorem dX6_tape_72 : decode cX6_tape 72 = .ok (.ireturn, 1) := by decide +kernel
theorem dX6_item_0 : decode cX6_item 0 = .ok (.iload_n 1, 1) := by decide +kernel
theorem dX6_item_1 : decode cX6_item 1 = .ok (.i2l, 1) := by decide +kernel
theorem dX6_item_2 : decode cX6_item 2 = .ok (.lconst 0, 1) := by decide +kernel
theorem dX6_item_3 : decode cX6_item 3 = .ok (.ldc2_w 217, 3) := by decide +kernel
theorem dX6_item_6 : decode cX6_item 6 = .ok (.invokestatic 62, 3) := by decide +kernel
theorem dX6_item_9 : decode cX6_item 9 = .ok (.ifCond .ne 5, 3) := by decide +kernel
theorem dX6_item_12 : decode cX6_item 12 = .ok (.iconst (-1), 1) := by decide +kernel
theorem dX6_item_13 : decode cX6_item 13 = .ok (.ireturn, 1) := by decide +kernel
theorem dX6_item_14 : decode cX6_item 14 = .ok (.aload_n 0, 1) := by decide +kernel
theorem dX6_item_15 : decode cX6_item 15 = .ok (.getfield 54, 3) := by decide +kernel
theorem dX6_item_18 : decode cX6_item 18 = .ok (.iload_n 1, 1) := by decide +kernel
theorem dX6_item_19 : decode cX6_item 19 = .ok (.aaload, 1) := by decide +kernel
theorem dX6_item_20 : decode cX6_item 20 = .ok (.astore 5, 2) := by decide +kernel
theorem dX6_item_22 : decode cX6_item 22 = .ok (.aload 5, 2) := by decide +kernel
theorem dX6_item_24 : decode cX6_item 24 = .ok (.getfield 219, 3) := by decide +kernel
theorem dX6_item_27 : decode cX6_item 27 = .ok (.ifCond .ge 6, 3) := by decide +kernel
theorem dX6_item_30 : decode cX6_item 30 = .ok (.bipush (-11), 2) := by decide +kernel
theorem dX6_item_32 : decode cX6_item 32 = .ok (.ireturn, 1) := by decide +kernel
theorem dX6_item_33 : decode cX6_item 33 = .ok (.iload_n 2, 1) := by decide +kernel
theorem dX6_item_34 : decode cX6_item 34 = .ok (.i2l, 1) := by decide +kernel
theorem dX6_item_35 : decode cX6_item 35 = .ok (.lconst 0, 1) := by decide +kernel
theorem dX6_item_36 : decode cX6_item 36 = .ok (.aload 5, 2) := by decide +kernel
theorem dX6_item_38 : decode cX6_item 38 = .ok (.getfield 222, 3) := by decide +kernel
theorem dX6_item_41 : decode cX6_item 41 = .ok (.iconst 1, 1) := by decide +kernel
theorem dX6_item_42 : decode cX6_item 42 = .ok (.isub, 1) := by decide +kernel
theorem dX6_item_43 : decode cX6_item 43 = .ok (.i2l, 1) := by decide +kernel
theorem dX6_item_44 : decode cX6_item 44 = .ok (.invokestatic 62, 3) := by decide +kernel
theorem dX6_item_47 : decode cX6_item 47 = .ok (.ifCond .ne 6, 3) := by decide +kernel
theorem dX6_item_50 : decode cX6_item 50 = .ok (.bipush (-13), 2) := by decide +kernel
theorem dX6_item_52 : decode cX6_item 52 = .ok (.ireturn, 1) := by decide +kernel
theorem dX6_item_53 : decode cX6_item 53 = .ok (.aload 5, 2) := by decide +kernel
theorem dX6_item_55 : decode cX6_item 55 = .ok (.getfield 225, 3) := by decide +kernel
theorem dX6_item_58 : decode cX6_item 58 = .ok (.iload_n 2, 1) := by decide +kernel
theorem dX6_item_59 : decode cX6_item 59 = .ok (.aload 5, 2) := by decide +kernel
theorem dX6_item_61 : decode cX6_item 61 = .ok (.lload_n 3, 1) := by decide +kernel
theorem dX6_item_62 : decode cX6_item 62 = .ok (.invokevirtual 255, 3) := by decide +kernel
theorem dX6_item_65 : decode cX6_item 65 = .ok (.lastore, 1) := by decide +kernel
theorem dX6_item_66 : decode cX6_item 66 = .ok (.iconst 1, 1) := by decide +kernel
theorem dX6_item_67 : decode cX6_item 67 = .ok (.ireturn, 1) := by decide +kernel
theorem dX6_read_0 : decode cX6_read 0 = .ok (.iload_n 1, 1) := by decide +kernel
theorem dX6_read_1 : decode cX6_read 1 = .ok (.i2l, 1) := by decide +kernel
theorem dX6_read_2 : decode cX6_read 2 = .ok (.lconst 0, 1) := by decide +kernel
theorem dX6_read_3 : decode cX6_read 3 = .ok (.ldc2_w 217, 3) := by decide +kernel
theorem dX6_read_6 : decode cX6_read 6 = .ok (.invokestatic 62, 3) := by decide +kernel
theorem dX6_read_9 : decode cX6_read 9 = .ok (.ifCond .eq 24, 3) := by decide +kernel
theorem dX6_read_12 : decode cX6_read 12 = .ok (.iload_n 2, 1) := by decide +kernel
theorem dX6_read_13 : decode cX6_read 13 = .ok (.i2l, 1) := by decide +kernel
theorem dX6_read_14 : decode cX6_read 14 = .ok (.lconst 0, 1) := by decide +kernel
theorem dX6_read_15 : decode cX6_read 15 = .ok (.aload_n 0, 1) := by decide +kernel
theorem dX6_read_16 : decode cX6_read 16 = .ok (.getfield 54, 3) := by decide +kernel
theorem dX6_read_19 : decode cX6_read 19 = .ok (.iload_n 1, 1) := by decide +kernel
theorem dX6_read_20 : decode cX6_read 20 = .ok (.aaload, 1) := by decide +kernel
theorem dX6_read_21 : decode cX6_read 21 = .ok (.getfield 222, 3) := by decide +kernel
theorem dX6_read_24 : decode cX6_read 24 = .ok (.iconst 1, 1) := by decide +kernel
theorem dX6_read_25 : decode cX6_read 25 = .ok (.isub, 1) := by decide +kernel
theorem dX6_read_26 : decode cX6_read 26 = .ok (.i2l, 1) := by decide +kernel
theorem dX6_read_27 : decode cX6_read 27 = .ok (.invokestatic 62, 3) := by decide +kernel
theorem dX6_read_30 : decode cX6_read 30 = .ok (.ifCond .ne 7, 3) := by decide +kernel
theorem dX6_read_33 : decode cX6_read 33 = .ok (.ldc2_w 156, 3) := by decide +kernel
theorem dX6_read_36 : decode cX6_read 36 = .ok (.lreturn, 1) := by decide +kernel
theorem dX6_read_37 : decode cX6_read 37 = .ok (.aload_n 0, 1) := by decide +kernel
theorem dX6_read_38 : decode cX6_read 38 = .ok (.getfield 54, 3) := by decide +kernel
theorem dX6_read_41 : decode cX6_read 41 = .ok (.iload_n 1, 1) := by decide +kernel
theorem dX6_read_42 : decode cX6_read 42 = .ok (.aaload, 1) := by decide +kernel
theorem dX6_read_43 : decode cX6_read 43 = .ok (.getfield 225, 3) := by decide +kernel
theorem dX6_read_46 : decode cX6_read 46 = .ok (.iload_n 2, 1) := by decide +kernel
theorem dX6_read_47 : decode cX6_read 47 = .ok (.laload, 1) := by decide +kernel
theorem dX6_read_48 : decode cX6_read 48 = .ok (.lreturn, 1) := by decide +kernel
theorem dX6_shift_0 : decode cX6_shift 0 = .ok (.iload_n 1, 1) := by decide +kernel
theorem dX6_shift_1 : decode cX6_shift 1 = .ok (.i2l, 1) := by decide +kernel
theorem dX6_shift_2 : decode cX6_shift 2 = .ok (.lconst 0, 1) := by decide +kernel
theorem dX6_shift_3 : decode cX6_shift 3 = .ok (.ldc2_w 217, 3) := by decide +kernel
theorem dX6_shift_6 : decode cX6_shift 6 = .ok (.invokestatic 62, 3) := by decide +kernel
theorem dX6_shift_9 : decode cX6_shift 9 = .ok (.ifCond .eq 15, 3) := by decide +kernel
theorem dX6_shift_12 : decode cX6_shift 12 = .ok (.iload_n 3, 1) := by decide +kernel
theorem dX6_shift_13 : decode cX6_shift 13 = .ok (.i2l, 1) := by decide +kernel
theorem dX6_shift_14 : decode cX6_shift 14 = .ok (.lconst 0, 1) := by decide +kernel
theorem dX6_shift_15 : decode cX6_shift 15 = .ok (.ldc2_w 217, 3) := by decide +kernel
theorem dX6_shift_18 : decode cX6_shift 18 = .ok (.invokestatic 62, 3) := by decide +kernel
theorem dX6_shift_21 : decode cX6_shift 21 = .ok (.ifCond .ne 5, 3) := by decide +kernel
theorem dX6_shift_24 : decode cX6_shift 24 = .ok (.iconst (-1), 1) := by decide +kernel
theorem dX6_shift_25 : decode cX6_shift 25 = .ok (.ireturn, 1) := by decide +kernel
theorem dX6_shift_26 : decode cX6_shift 26 = .ok (.aload_n 0, 1) := by decide +kernel
theorem dX6_shift_27 : decode cX6_shift 27 = .ok (.getfield 54, 3) := by decide +kernel
theorem dX6_shift_30 : decode cX6_shift 30 = .ok (.iload_n 1, 1) := by decide +kernel
theorem dX6_shift_31 : decode cX6_shift 31 = .ok (.aaload, 1) := by decide +kernel
theorem dX6_shift_32 : decode cX6_shift 32 = .ok (.astore 6, 2) := by decide +kernel
theorem dX6_shift_34 : decode cX6_shift 34 = .ok (.aload_n 0, 1) := by decide +kernel
theorem dX6_shift_35 : decode cX6_shift 35 = .ok (.getfield 54, 3) := by decide +kernel
theorem dX6_shift_38 : decode cX6_shift 38 = .ok (.iload_n 3, 1) := by decide +kernel
theorem dX6_shift_39 : decode cX6_shift 39 = .ok (.aaload, 1) := by decide +kernel
theorem dX6_shift_40 : decode cX6_shift 40 = .ok (.astore 7, 2) := by decide +kernel
theorem dX6_shift_42 : decode cX6_shift 42 = .ok (.aload 6, 2) := by decide +kernel
theorem dX6_shift_44 : decode cX6_shift 44 = .ok (.getfield 219, 3) := by decide +kernel
theorem dX6_shift_47 : decode cX6_shift 47 = .ok (.ifCond .lt 11, 3) := by decide +kernel
theorem dX6_shift_50 : decode cX6_shift 50 = .ok (.aload 7, 2) := by decide +kernel
theorem dX6_shift_52 : decode cX6_shift 52 = .ok (.getfield 219, 3) := by decide +kernel
theorem dX6_shift_55 : decode cX6_shift 55 = .ok (.ifCond .ge 6, 3) := by decide +kernel
theorem dX6_shift_58 : decode cX6_shift 58 = .ok (.bipush (-11), 2) := by decide +kernel
theorem dX6_shift_60 : decode cX6_shift 60 = .ok (.ireturn, 1) := by decide +kernel
theorem dX6_shift_61 : decode cX6_shift 61 = .ok (.aload 6, 2) := by decide +kernel
theorem dX6_shift_63 : decode cX6_shift 63 = .ok (.getfield 219, 3) := by decide +kernel
theorem dX6_shift_66 : decode cX6_shift 66 = .ok (.aload 7, 2) := by decide +kernel
theorem dX6_shift_68 : decode cX6_shift 68 = .ok (.getfield 219, 3) := by decide +kernel
theorem dX6_shift_71 : decode cX6_shift 71 = .ok (.if_icmp .eq 6, 3) := by decide +kernel
theorem dX6_shift_74 : decode cX6_shift 74 = .ok (.bipush (-12), 2) := by decide +kernel
theorem dX6_shift_76 : decode cX6_shift 76 = .ok (.ireturn, 1) := by decide +kernel
theorem dX6_shift_77 : decode cX6_shift 77 = .ok (.aload 6, 2) := by decide +kernel
theorem dX6_shift_79 : decode cX6_shift 79 = .ok (.iload_n 2, 1) := by decide +kernel
theorem dX6_shift_80 : decode cX6_shift 80 = .ok (.iload 5, 2) := by decide +kernel
theorem dX6_shift_82 : decode cX6_shift 82 = .ok (.invokevirtual 259, 3) := by decide +kernel
theorem dX6_shift_85 : decode cX6_shift 85 = .ok (.ifCond .eq 15, 3) := by decide +kernel
theorem dX6_shift_88 : decode cX6_shift 88 = .ok (.aload 7, 2) := by decide +kernel
theorem dX6_shift_90 : decode cX6_shift 90 = .ok (.iload 4, 2) := by decide +kernel
theorem dX6_shift_92 : decode cX6_shift 92 = .ok (.iload 5, 2) := by decide +kernel
theorem dX6_shift_94 : decode cX6_shift 94 = .ok (.invokevirtual 259, 3) := by decide +kernel
theorem dX6_shift_97 : decode cX6_shift 97 = .ok (.ifCond .ne 6, 3) := by decide +kernel
theorem dX6_shift_100 : decode cX6_shift 100 = .ok (.bipush (-13), 2) := by decide +kernel
theorem dX6_shift_102 : decode cX6_shift 102 = .ok (.ireturn, 1) := by decide +kernel
theorem dX6_shift_103 : decode cX6_shift 103 = .ok (.aload 6, 2) := by decide +kernel
theorem dX6_shift_105 : decode cX6_shift 105 = .ok (.getfield 225, 3) := by decide +kernel
theorem dX6_shift_108 : decode cX6_shift 108 = .ok (.iload_n 2, 1) := by decide +kernel
theorem dX6_shift_109 : decode cX6_shift 109 = .ok (.aload 7, 2) := by decide +kernel
theorem dX6_shift_111 : decode cX6_shift 111 = .ok (.getfield 225, 3) := by decide +kernel
theorem dX6_shift_114 : decode cX6_shift 114 = .ok (.iload 4, 2) := by decide +kernel
theorem dX6_shift_116 : decode cX6_shift 116 = .ok (.iload 5, 2) := by decide +kernel
theorem dX6_shift_118 : decode cX6_shift 118 = .ok (.invokestatic 262, 3) := by decide +kernel
theorem dX6_shift_121 : decode cX6_shift 121 = .ok (.iload 5, 2) := by decide +kernel
theorem dX6_shift_123 : decode cX6_shift 123 = .ok (.ireturn, 1) := by decide +kernel
theorem dX6_holding_0 : decode cX6_holding 0 = .ok (.aload_n 1, 1) := by decide +kernel
theorem dX6_holding_1 : decode cX6_holding 1 = .ok (.getfield 118, 3) := by decide +kernel
theorem dX6_holding_4 : decode cX6_holding 4 = .ok (.i2l, 1) := by decide +kernel
theorem dX6_holding_5 : decode cX6_holding 5 = .ok (.lconst 0, 1) := by decide +kernel
theorem dX6_holding_6 : decode cX6_holding 6 = .ok (.aload_n 0, 1) := by decide +kernel
theorem dX6_holding_7 : decode cX6_holding 7 = .ok (.getfield 41, 3) := by decide +kernel
theorem dX6_holding_10 : decode cX6_holding 10 = .ok (.iconst 1, 1) := by decide +kernel
theorem dX6_holding_11 : decode cX6_holding 11 = .ok (.isub, 1) := by decide +kernel
theorem dX6_holding_12 : decode cX6_holding 12 = .ok (.i2l, 1) := by decide +kernel
theorem dX6_holding_13 : decode cX6_holding 13 = .ok (.invokestatic 62, 3) := by decide +kernel
theorem dX6_holding_16 : decode cX6_holding 16 = .ok (.ifCond .eq 15, 3) := by decide +kernel
theorem dX6_holding_19 : decode cX6_holding 19 = .ok (.aload_n 0, 1) := by decide +kernel
theorem dX6_holding_20 : decode cX6_holding 20 = .ok (.getfield 37, 3) := by decide +kernel
theorem dX6_holding_23 : decode cX6_holding 23 = .ok (.aload_n 1, 1) := by decide +kernel
theorem dX6_holding_24 : decode cX6_holding 24 = .ok (.getfield 118, 3) := by decide +kernel
theorem dX6_holding_27 : decode cX6_holding 27 = .ok (.aaload, 1) := by decide +kernel
theorem dX6_holding_28 : decode cX6_holding 28 = .ok (.goto 4, 3) := by decide +kernel
theorem dX6_holding_31 : decode cX6_holding 31 = .ok (.aconst_null, 1) := by decide +kernel
theorem dX6_holding_32 : decode cX6_holding 32 = .ok (.areturn, 1) := by decide +kernel
theorem dX6_reckon_0 : decode cX6_reckon 0 = .ok (.aload_n 1, 1) := by decide +kernel
theorem dX6_reckon_1 : decode cX6_reckon 1 = .ok (.aload_n 0, 1) := by decide +kernel
theorem dX6_reckon_2 : decode cX6_reckon 2 = .ok (.aload_n 1, 1) := by decide +kernel
theorem dX6_reckon_3 : decode cX6_reckon 3 = .ok (.invokevirtual 124, 3) := by decide +kernel
theorem dX6_reckon_6 : decode cX6_reckon 6 = .ok (.invokevirtual 268, 3) := by decide +kernel
theorem dX6_reckon_9 : decode cX6_reckon 9 = .ok (.return_, 1) := by decide +kernel
theorem dX6_tryDays_0 : decode cX6_tryDays 0 = .ok (.aload_n 0, 1) := by decide +kernel
theorem dX6_tryDays_1 : decode cX6_tryDays 1 = .ok (.getfield 21, 3) := by decide +kernel
theorem dX6_tryDays_4 : decode cX6_tryDays 4 = .ok (.aload_n 0, 1) := by decide +kernel
theorem dX6_tryDays_5 : decode cX6_tryDays 5 = .ok (.getfield 12, 3) := by decide +kernel
theorem dX6_tryDays_8 : decode cX6_tryDays 8 = .ok (.invokevirtual 199, 3) := by decide +kernel
theorem dX6_tryDays_11 : decode cX6_tryDays 11 = .ok (.aload_n 0, 1) := by decide +kernel
theorem dX6_tryDays_12 : decode cX6_tryDays 12 = .ok (.aload_n 0, 1) := by decide +kernel
theorem dX6_tryDays_13 : decode cX6_tryDays 13 = .ok (.getfield 21, 3) := by decide +kernel
theorem dX6_tryDays_16 : decode cX6_tryDays 16 = .ok (.invokevirtual 89, 3) := by decide +kernel
theorem dX6_tryDays_19 : decode cX6_tryDays 19 = .ok (.aload_n 0, 1) := by decide +kernel
theorem dX6_tryDays_20 : decode cX6_tryDays 20 = .ok (.getfield 21, 3) := by decide +kernel
theorem dX6_tryDays_23 : decode cX6_tryDays 23 = .ok (.iload_n 1, 1) := by decide +kernel
theorem dX6_tryDays_24 : decode cX6_tryDays 24 = .ok (.ldc_w 274, 3) := by decide +kernel
theorem dX6_tryDays_27 : decode cX6_tryDays 27 = .ok (.invokevirtual 144, 3) := by decide +kernel
theorem dX6_tryDays_30 : decode cX6_tryDays 30 = .ok (.return_, 1) := by decide +kernel
theorem dX6_tryRow_0 : decode cX6_tryRow 0 = .ok (.aload_n 1, 1) := by decide +kernel
theorem dX6_tryRow_1 : decode cX6_tryRow 1 = .ok (.iconst 1, 1) := by decide +kernel
theorem dX6_tryRow_2 : decode cX6_tryRow 2 = .ok (.iaload, 1) := by decide +kernel
theorem dX6_tryRow_3 : decode cX6_tryRow 3 = .ok (.istore_n 2, 1) := by decide +kernel
theorem dX6_tryRow_4 : decode cX6_tryRow 4 = .ok (.aload_n 1, 1) := by decide +kernel
theorem dX6_tryRow_5 : decode cX6_tryRow 5 = .ok (.iconst 0, 1) := by decide +kernel
theorem dX6_tryRow_6 : decode cX6_tryRow 6 = .ok (.iaload, 1) := by decide +kernel
theorem dX6_tryRow_7 : decode cX6_tryRow 7 = .ok (.lookupswitch 58 #[(0, 25), (3, 47)], 25) := by decide +kernel
theorem dX6_tryRow_32 : decode cX6_tryRow 32 = .ok (.aload_n 0, 1) := by decide +kernel
theorem dX6_tryRow_33 : decode cX6_tryRow 33 = .ok (.aload_n 0, 1) := by decide +kernel
theorem dX6_tryRow_34 : decode cX6_tryRow 34 = .ok (.getfield 21, 3) := by decide +kernel
theorem dX6_tryRow_37 : decode cX6_tryRow 37 = .ok (.invokevirtual 89, 3) := by decide +kernel
theorem dX6_tryRow_40 : decode cX6_tryRow 40 = .ok (.aload_n 0, 1) := by decide +kernel
theorem dX6_tryRow_41 : decode cX6_tryRow 41 = .ok (.getfield 21, 3) := by decide +kernel
theorem dX6_tryRow_44 : decode cX6_tryRow 44 = .ok (.iconst 1, 1) := by decide +kernel
theorem dX6_tryRow_45 : decode cX6_tryRow 45 = .ok (.ldc_w 274, 3) := by decide +kernel
theorem dX6_tryRow_48 : decode cX6_tryRow 48 = .ok (.invokevirtual 144, 3) := by decide +kernel
theorem dX6_tryRow_51 : decode cX6_tryRow 51 = .ok (.goto 48, 3) := by decide +kernel
theorem dX6_tryRow_54 : decode cX6_tryRow 54 = .ok (.aload_n 0, 1) := by decide +kernel
theorem dX6_tryRow_55 : decode cX6_tryRow 55 = .ok (.getfield 21, 3) := by decide +kernel
theorem dX6_tryRow_58 : decode cX6_tryRow 58 = .ok (.iload_n 2, 1) := by decide +kernel
theorem dX6_tryRow_59 : decode cX6_tryRow 59 = .ok (.putfield 99, 3) := by decide +kernel
theorem dX6_tryRow_62 : decode cX6_tryRow 62 = .ok (.goto 37, 3) := by decide +kernel
theorem dX6_tryRow_65 : decode cX6_tryRow 65 = .ok (.aload_n 0, 1) := by decide +kernel
theorem dX6_tryRow_66 : decode cX6_tryRow 66 = .ok (.getfield 21, 3) := by decide +kernel
theorem dX6_tryRow_69 : decode cX6_tryRow 69 = .ok (.iload_n 2, 1) := by decide +kernel
theorem dX6_tryRow_70 : decode cX6_tryRow 70 = .ok (.invokevirtual 85, 3) := by decide +kernel
theorem dX6_tryRow_73 : decode cX6_tryRow 73 = .ok (.ifCond .eq 26, 3) := by decide +kernel
theorem dX6_tryRow_76 : decode cX6_tryRow 76 = .ok (.aload_n 0, 1) := by decide +kernel
theorem dX6_tryRow_77 : decode cX6_tryRow 77 = .ok (.getfield 21, 3) := by decide +kernel
theorem dX6_tryRow_80 : decode cX6_tryRow 80 = .ok (.getfield 75, 3) := by decide +kernel
theorem dX6_tryRow_83 : decode cX6_tryRow 83 = .ok (.iload_n 2, 1) := by decide +kernel
theorem dX6_tryRow_84 : decode cX6_tryRow 84 = .ok (.aaload, 1) := by decide +kernel
theorem dX6_tryRow_85 : decode cX6_tryRow 85 = .ok (.iconst 4, 1) := by decide +kernel
theorem dX6_tryRow_86 : decode cX6_tryRow 86 = .ok (.aload_n 1, 1) := by decide +kernel
theorem dX6_tryRow_87 : decode cX6_tryRow 87 = .ok (.iconst 0, 1) := by decide +kernel
theorem dX6_tryRow_88 : decode cX6_tryRow 88 = .ok (.iaload, 1) := by decide +kernel
theorem dX6_tryRow_89 : decode cX6_tryRow 89 = .ok (.iconst 1, 1) := by decide +kernel
theorem dX6_tryRow_90 : decode cX6_tryRow 90 = .ok (.if_icmp .ne 7, 3) := by decide +kernel
theorem dX6_tryRow_93 : decode cX6_tryRow 93 = .ok (.iconst 1, 1) := by decide +kernel
theorem dX6_tryRow_94 : decode cX6_tryRow 94 = .ok (.goto 4, 3) := by decide +kernel
theorem dX6_tryRow_97 : decode cX6_tryRow 97 = .ok (.iconst 0, 1) := by decide +kernel
theorem dX6_tryRow_98 : decode cX6_tryRow 98 = .ok (.iastore, 1) := by decide +kernel
theorem dX6_tryRow_99 : decode cX6_tryRow 99 = .ok (.return_, 1) := by decide +kernel
theorem dX6_fitting_0 : decode cX6_fitting 0 = .ok (.aload_n 0, 1) := by decide +kernel
theorem dX6_fitting_1 : decode cX6_fitting 1 = .ok (.getfield 21, 3) := by decide +kernel
theorem dX6_fitting_4 : decode cX6_fitting 4 = .ok (.aload_n 0, 1) := by decide +kernel
theorem dX6_fitting_5 : decode cX6_fitting 5 = .ok (.getfield 12, 3) := by decide +kernel
theorem dX6_fitting_8 : decode cX6_fitting 8 = .ok (.invokevirtual 199, 3) := by decide +kernel
theorem dX6_fitting_11 : decode cX6_fitting 11 = .ok (.aload_n 0, 1) := by decide +kernel
theorem dX6_fitting_12 : decode cX6_fitting 12 = .ok (.aload_n 0, 1) := by decide +kernel
theorem dX6_fitting_13 : decode cX6_fitting 13 = .ok (.getfield 21, 3) := by decide +kernel
theorem dX6_fitting_16 : decode cX6_fitting 16 = .ok (.invokevirtual 124, 3) := by decide +kernel
theorem dX6_fitting_19 : decode cX6_fitting 19 = .ok (.astore 6, 2) := by decide +kernel
theorem dX6_fitting_21 : decode cX6_fitting 21 = .ok (.iconst 0, 1) := by decide +kernel
theorem dX6_fitting_22 : decode cX6_fitting 22 = .ok (.istore 7, 2) := by decide +kernel
theorem dX6_fitting_24 : decode cX6_fitting 24 = .ok (.iload_n 3, 1) := by decide +kernel
theorem dX6_fitting_25 : decode cX6_fitting 25 = .ok (.istore 8, 2) := by decide +kernel
theorem dX6_fitting_27 : decode cX6_fitting 27 = .ok (.iload 8, 2) := by decide +kernel
theorem dX6_fitting_29 : decode cX6_fitting 29 = .ok (.iload 4, 2) := by decide +kernel
theorem dX6_fitting_31 : decode cX6_fitting 31 = .ok (.if_icmp .gt 54, 3) := by decide +kernel
theorem dX6_fitting_34 : decode cX6_fitting 34 = .ok (.aload_n 0, 1) := by decide +kernel
theorem dX6_fitting_35 : decode cX6_fitting 35 = .ok (.getfield 21, 3) := by decide +kernel
theorem dX6_fitting_38 : decode cX6_fitting 38 = .ok (.getfield 75, 3) := by decide +kernel
theorem dX6_fitting_41 : decode cX6_fitting 41 = .ok (.iload_n 1, 1) := by decide +kernel
theorem dX6_fitting_42 : decode cX6_fitting 42 = .ok (.aaload, 1) := by decide +kernel
theorem dX6_fitting_43 : decode cX6_fitting 43 = .ok (.iload_n 2, 1) := by decide +kernel
theorem dX6_fitting_44 : decode cX6_fitting 44 = .ok (.iload 8, 2) := by decide +kernel
theorem dX6_fitting_46 : decode cX6_fitting 46 = .ok (.iastore, 1) := by decide +kernel
theorem dX6_fitting_47 : decode cX6_fitting 47 = .ok (.aload_n 0, 1) := by decide +kernel
theorem dX6_fitting_48 : decode cX6_fitting 48 = .ok (.getfield 21, 3) := by decide +kernel
theorem dX6_fitting_51 : decode cX6_fitting 51 = .ok (.iload_n 1, 1) := by decide +kernel
theorem dX6_fitting_52 : decode cX6_fitting 52 = .ok (.aload 6, 2) := by decide +kernel
theorem dX6_fitting_54 : decode cX6_fitting 54 = .ok (.invokevirtual 275, 3) := by decide +kernel
theorem dX6_fitting_57 : decode cX6_fitting 57 = .ok (.aload_n 0, 1) := by decide +kernel
theorem dX6_fitting_58 : decode cX6_fitting 58 = .ok (.getfield 21, 3) := by decide +kernel
theorem dX6_fitting_61 : decode cX6_fitting 61 = .ok (.iload_n 1, 1) := by decide +kernel
theorem dX6_fitting_62 : decode cX6_fitting 62 = .ok (.invokevirtual 279, 3) := by decide +kernel
theorem dX6_fitting_65 : decode cX6_fitting 65 = .ok (.ifCond .eq 14, 3) := by decide +kernel
theorem dX6_fitting_68 : decode cX6_fitting 68 = .ok (.iload 5, 2) := by decide +kernel
theorem dX6_fitting_70 : decode cX6_fitting 70 = .ok (.ifCond .ne 6, 3) := by decide +kernel
theorem dX6_fitting_73 : decode cX6_fitting 73 = .ok (.iload 8, 2) := by decide +kernel
theorem dX6_fitting_75 : decode cX6_fitting 75 = .ok (.ireturn, 1) := by decide +kernel
theorem dX6_fitting_76 : decode cX6_fitting 76 = .ok (.iinc 7 1, 3) := by decide +kernel
theorem dX6_fitting_79 : decode cX6_fitting 79 = .ok (.iinc 8 1, 3) := by decide +kernel
theorem dX6_fitting_82 : decode cX6_fitting 82 = .ok (.goto (-55), 3) := by decide +kernel
theorem dX6_fitting_85 : decode cX6_fitting 85 = .ok (.iload 5, 2) := by decide +kernel
theorem dX6_fitting_87 : decode cX6_fitting 87 = .ok (.ifCond .eq 8, 3) := by decide +kernel
theorem dX6_fitting_90 : decode cX6_fitting 90 = .ok (.iload 7, 2) := by decide +kernel
theorem dX6_fitting_92 : decode cX6_fitting 92 = .ok (.goto 5, 3) := by decide +kernel
theorem dX6_fitting_95 : decode cX6_fitting 95 = .ok (.bipush (-5), 2) := by decide +kernel
theorem dX6_fitting_97 : decode cX6_fitting 97 = .ok (.ireturn, 1) := by decide +kernel
theorem dX6_within_0 : decode cX6_within 0 = .ok (.lload_n 0, 1) := by decide +kernel
theorem dX6_within_1 : decode cX6_within 1 = .ok (.lload_n 2, 1) := by decide +kernel
theorem dX6_within_2 : decode cX6_within 2 = .ok (.lcmp, 1) := by decide +kernel
theorem dX6_within_3 : decode cX6_within 3 = .ok (.ifCond .lt 14, 3) := by decide +kernel
theorem dX6_within_6 : decode cX6_within 6 = .ok (.lload_n 0, 1) := by decide +kernel
theorem dX6_within_7 : decode cX6_within 7 = .ok (.lload 4, 2) := by decide +kernel
theorem dX6_within_9 : decode cX6_within 9 = .ok (.lcmp, 1) := by decide +kernel
theorem dX6_within_10 : decode cX6_within 10 = .ok (.ifCond .gt 7, 3) := by decide +kernel
theorem dX6_within_13 : decode cX6_within 13 = .ok (.iconst 1, 1) := by decide +kernel
theorem dX6_within_14 : decode cX6_within 14 = .ok (.goto 4, 3) := by decide +kernel
theorem dX6_within_17 : decode cX6_within 17 = .ok (.iconst 0, 1) := by decide +kernel
theorem dX6_within_18 : decode cX6_within 18 = .ok (.ireturn, 1) := by decide +kernel
theorem dX6_replace_0 : decode cX6_replace 0 = .ok (.aload_n 0, 1) := by decide +kernel
theorem dX6_replace_1 : decode cX6_replace 1 = .ok (.iload_n 1, 1) := by decide +kernel
theorem dX6_replace_2 : decode cX6_replace 2 = .ok (.iaload, 1) := by decide +kernel
theorem dX6_replace_3 : decode cX6_replace 3 = .ok (.istore_n 3, 1) := by decide +kernel
theorem dX6_replace_4 : decode cX6_replace 4 = .ok (.aload_n 0, 1) := by decide +kernel
theorem dX6_replace_5 : decode cX6_replace 5 = .ok (.iload_n 1, 1) := by decide +kernel
theorem dX6_replace_6 : decode cX6_replace 6 = .ok (.iload_n 2, 1) := by decide +kernel
theorem dX6_replace_7 : decode cX6_replace 7 = .ok (.iastore, 1) := by decide +kernel
theorem dX6_replace_8 : decode cX6_replace 8 = .ok (.iload_n 3, 1) := by decide +kernel
theorem dX6_replace_9 : decode cX6_replace 9 = .ok (.ireturn, 1) := by decide +kernel
theorem dX6_isUnder_0 : decode cX6_isUnder 0 = .ok (.iload_n 0, 1) := by decide +kernel
theorem dX6_isUnder_1 : decode cX6_isUnder 1 = .ok (.istore_n 2, 1) := by decide +kernel
theorem dX6_isUnder_2 : decode cX6_isUnder 2 = .ok (.iconst 0, 1) := by decide +kernel
theorem dX6_isUnder_3 : decode cX6_isUnder 3 = .ok (.istore_n 3, 1) := by decide +kernel
theorem dX6_isUnder_4 : decode cX6_isUnder 4 = .ok (.iload_n 3, 1) := by decide +kernel
theorem dX6_isUnder_5 : decode cX6_isUnder 5 = .ok (.getstatic 282, 3) := by decide +kernel
theorem dX6_isUnder_8 : decode cX6_isUnder 8 = .ok (.arraylength, 1) := by decide +kernel
theorem dX6_isUnder_9 : decode cX6_isUnder 9 = .ok (.if_icmp .ge 26, 3) := by decide +kernel
theorem dX6_isUnder_12 : decode cX6_isUnder 12 = .ok (.iload_n 2, 1) := by decide +kernel
theorem dX6_isUnder_13 : decode cX6_isUnder 13 = .ok (.ifCond .lt 22, 3) := by decide +kernel
theorem dX6_isUnder_16 : decode cX6_isUnder 16 = .ok (.iload_n 2, 1) := by decide +kernel
theorem dX6_isUnder_17 : decode cX6_isUnder 17 = .ok (.iload_n 1, 1) := by decide +kernel
theorem dX6_isUnder_18 : decode cX6_isUnder 18 = .ok (.if_icmp .ne 5, 3) := by decide +kernel
theorem dX6_isUnder_21 : decode cX6_isUnder 21 = .ok (.iconst 1, 1) := by decide +kernel
theorem dX6_isUnder_22 : decode cX6_isUnder 22 = .ok (.ireturn, 1) := by decide +kernel
theorem dX6_isUnder_23 : decode cX6_isUnder 23 = .ok (.getstatic 282, 3) := by decide +kernel
theorem dX6_isUnder_26 : decode cX6_isUnder 26 = .ok (.iload_n 2, 1) := by decide +kernel
theorem dX6_isUnder_27 : decode cX6_isUnder 27 = .ok (.iaload, 1) := by decide +kernel
theorem dX6_isUnder_28 : decode cX6_isUnder 28 = .ok (.istore_n 2, 1) := by decide +kernel
theorem dX6_isUnder_29 : decode cX6_isUnder 29 = .ok (.iinc 3 1, 3) := by decide +kernel
theorem dX6_isUnder_32 : decode cX6_isUnder 32 = .ok (.goto (-28), 3) := by decide +kernel
theorem dX6_isUnder_35 : decode cX6_isUnder 35 = .ok (.iconst 0, 1) := by decide +kernel
theorem dX6_isUnder_36 : decode cX6_isUnder 36 = .ok (.ireturn, 1) := by decide +kernel
theorem dX6_modulo_0 : decode cX6_modulo 0 = .ok (.lload_n 2, 1) := by decide +kernel
theorem dX6_modulo_1 : decode cX6_modulo 1 = .ok (.lconst 1, 1) := by decide +kernel
theorem dX6_modulo_2 : decode cX6_modulo 2 = .ok (.lcmp, 1) := by decide +kernel
theorem dX6_modulo_3 : decode cX6_modulo 3 = .ok (.ifCond .ge 7, 3) := by decide +kernel
theorem dX6_modulo_6 : decode cX6_modulo 6 = .ok (.lconst 0, 1) := by decide +kernel
theorem dX6_modulo_7 : decode cX6_modulo 7 = .ok (.goto 8, 3) := by decide +kernel
theorem dX6_modulo_10 : decode cX6_modulo 10 = .ok (.lload_n 0, 1) := by decide +kernel
theorem dX6_modulo_11 : decode cX6_modulo 11 = .ok (.lload_n 2, 1) := by decide +kernel
theorem dX6_modulo_12 : decode cX6_modulo 12 = .ok (.invokestatic 285, 3) := by decide +kernel
theorem dX6_modulo_15 : decode cX6_modulo 15 = .ok (.lreturn, 1) := by decide +kernel
theorem dX6_commonDivisor_0 : decode cX6_commonDivisor 0 = .ok (.lload_n 0, 1) := by decide +kernel
theorem dX6_commonDivisor_1 : decode cX6_commonDivisor 1 = .ok (.lstore 4, 2) := by decide +kernel
theorem dX6_commonDivisor_3 : decode cX6_commonDivisor 3 = .ok (.lload_n 2, 1) := by decide +kernel
theorem dX6_commonDivisor_4 : decode cX6_commonDivisor 4 = .ok (.lstore 6, 2) := by decide +kernel
theorem dX6_commonDivisor_6 : decode cX6_commonDivisor 6 = .ok (.iconst 0, 1) := by decide +kernel
theorem dX6_commonDivisor_7 : decode cX6_commonDivisor 7 = .ok (.istore 8, 2) := by decide +kernel
theorem dX6_commonDivisor_9 : decode cX6_commonDivisor 9 = .ok (.iload 8, 2) := by decide +kernel
theorem dX6_commonDivisor_11 : decode cX6_commonDivisor 11 = .ok (.bipush 100, 2) := by decide +kernel
theorem dX6_commonDivisor_13 : decode cX6_commonDivisor 13 = .ok (.if_icmp .ge 31, 3) := by decide +kernel
theorem dX6_commonDivisor_16 : decode cX6_commonDivisor 16 = .ok (.lload 6, 2) := by decide +kernel
theorem dX6_commonDivisor_18 : decode cX6_commonDivisor 18 = .ok (.lconst 0, 1) := by decide +kernel
theorem dX6_commonDivisor_19 : decode cX6_commonDivisor 19 = .ok (.lcmp, 1) := by decide +kernel
theorem dX6_commonDivisor_20 : decode cX6_commonDivisor 20 = .ok (.ifCond .eq 24, 3) := by decide +kernel
theorem dX6_commonDivisor_23 : decode cX6_commonDivisor 23 = .ok (.lload 4, 2) := by decide +kernel
theorem dX6_commonDivisor_25 : decode cX6_commonDivisor 25 = .ok (.lload 6, 2) := by decide +kernel
theorem dX6_commonDivisor_27 : decode cX6_commonDivisor 27 = .ok (.lrem, 1) := by decide +kernel
theorem dX6_commonDivisor_28 : decode cX6_commonDivisor 28 = .ok (.lstore 9, 2) := by decide +kernel
theorem dX6_commonDivisor_30 : decode cX6_commonDivisor 30 = .ok (.lload 6, 2) := by decide +kernel
theorem dX6_commonDivisor_32 : decode cX6_commonDivisor 32 = .ok (.lstore 4, 2) := by decide +kernel
theorem dX6_commonDivisor_34 : decode cX6_commonDivisor 34 = .ok (.lload 9, 2) := by decide +kernel
theorem dX6_commonDivisor_36 : decode cX6_commonDivisor 36 = .ok (.lstore 6, 2) := by decide +kernel
theorem dX6_commonDivisor_38 : decode cX6_commonDivisor 38 = .ok (.iinc 8 1, 3) := by decide +kernel
theorem dX6_commonDivisor_41 : decode cX6_commonDivisor 41 = .ok (.goto (-32), 3) := by decide +kernel
theorem dX6_commonDivisor_44 : decode cX6_commonDivisor 44 = .ok (.lload 4, 2) := by decide +kernel
theorem dX6_commonDivisor_46 : decode cX6_commonDivisor 46 = .ok (.lreturn, 1) := by decide +kernel
theorem dX6_commonMultiple_0 : decode cX6_commonMultiple 0 = .ok (.lload_n 0, 1) := by decide +kernel
theorem dX6_commonMultiple_1 : decode cX6_commonMultiple 1 = .ok (.lload_n 2, 1) := by decide +kernel
theorem dX6_commonMultiple_2 : decode cX6_commonMultiple 2 = .ok (.invokestatic 289, 3) := by decide +kernel
theorem dX6_commonMultiple_5 : decode cX6_commonMultiple 5 = .ok (.lstore 4, 2) := by decide +kernel
theorem dX6_commonMultiple_7 : decode cX6_commonMultiple 7 = .ok (.lload 4, 2) := by decide +kernel
theorem dX6_commonMultiple_9 : decode cX6_commonMultiple 9 = .ok (.lconst 1, 1) := by decide +kernel
theorem dX6_commonMultiple_10 : decode cX6_commonMultiple 10 = .ok (.lcmp, 1) := by decide +kernel
theorem dX6_commonMultiple_11 : decode cX6_commonMultiple 11 = .ok (.ifCond .ge 7, 3) := by decide +kernel
theorem dX6_commonMultiple_14 : decode cX6_commonMultiple 14 = .ok (.lconst 1, 1) := by decide +kernel
theorem dX6_commonMultiple_15 : decode cX6_commonMultiple 15 = .ok (.goto 9, 3) := by decide +kernel
theorem dX6_commonMultiple_18 : decode cX6_commonMultiple 18 = .ok (.lload_n 0, 1) := by decide +kernel
theorem dX6_commonMultiple_19 : decode cX6_commonMultiple 19 = .ok (.lload 4, 2) := by decide +kernel
theorem dX6_commonMultiple_21 : decode cX6_commonMultiple 21 = .ok (.ldiv, 1) := by decide +kernel
theorem dX6_commonMultiple_22 : decode cX6_commonMultiple 22 = .ok (.lload_n 2, 1) := by decide +kernel
theorem dX6_commonMultiple_23 : decode cX6_commonMultiple 23 = .ok (.lmul, 1) := by decide +kernel
theorem dX6_commonMultiple_24 : decode cX6_commonMultiple 24 = .ok (.lreturn, 1) := by decide +kernel
theorem dX6_inLowestTerms_0 : decode cX6_inLowestTerms 0 = .ok (.lload_n 0, 1) := by decide +kernel
theorem dX6_inLowestTerms_1 : decode cX6_inLowestTerms 1 = .ok (.lload_n 2, 1) := by decide +kernel
theorem dX6_inLowestTerms_2 : decode cX6_inLowestTerms 2 = .ok (.invokestatic 289, 3) := by decide +kernel
theorem dX6_inLowestTerms_5 : decode cX6_inLowestTerms 5 = .ok (.lstore 5, 2) := by decide +kernel
theorem dX6_inLowestTerms_7 : decode cX6_inLowestTerms 7 = .ok (.lload 5, 2) := by decide +kernel
theorem dX6_inLowestTerms_9 : decode cX6_inLowestTerms 9 = .ok (.lconst 1, 1) := by decide +kernel
theorem dX6_inLowestTerms_10 : decode cX6_inLowestTerms 10 = .ok (.lcmp, 1) := by decide +kernel
theorem dX6_inLowestTerms_11 : decode cX6_inLowestTerms 11 = .ok (.ifCond .ge 5, 3) := by decide +kernel
theorem dX6_inLowestTerms_14 : decode cX6_inLowestTerms 14 = .ok (.lconst 0, 1) := by decide +kernel
theorem dX6_inLowestTerms_15 : decode cX6_inLowestTerms 15 = .ok (.lreturn, 1) := by decide +kernel
theorem dX6_inLowestTerms_16 : decode cX6_inLowestTerms 16 = .ok (.iload 4, 2) := by decide +kernel
theorem dX6_inLowestTerms_18 : decode cX6_inLowestTerms 18 = .ok (.ifCond .ne 10, 3) := by decide +kernel
theorem dX6_inLowestTerms_21 : decode cX6_inLowestTerms 21 = .ok (.lload_n 0, 1) := by decide +kernel
theorem dX6_inLowestTerms_22 : decode cX6_inLowestTerms 22 = .ok (.lload 5, 2) := by decide +kernel
theorem dX6_inLowestTerms_24 : decode cX6_inLowestTerms 24 = .ok (.ldiv, 1) := by decide +kernel
theorem dX6_inLowestTerms_25 : decode cX6_inLowestTerms 25 = .ok (.goto 7, 3) := by decide +kernel
theorem dX6_inLowestTerms_28 : decode cX6_inLowestTerms 28 = .ok (.lload_n 2, 1) := by decide +kernel
theorem dX6_inLowestTerms_29 : decode cX6_inLowestTerms 29 = .ok (.lload 5, 2) := by decide +kernel
theorem dX6_inLowestTerms_31 : decode cX6_inLowestTerms 31 = .ok (.ldiv, 1) := by decide +kernel
theorem dX6_inLowestTerms_32 : decode cX6_inLowestTerms 32 = .ok (.lreturn, 1) := by decide +kernel
theorem dX6_commonRest_0 : decode cX6_commonRest 0 = .ok (.lconst 0, 1) := by decide +kernel
theorem dX6_commonRest_1 : decode cX6_commonRest 1 = .ok (.lstore 8, 2) := by decide +kernel
theorem dX6_commonRest_3 : decode cX6_commonRest 3 = .ok (.lload 8, 2) := by decide +kernel
theorem dX6_commonRest_5 : decode cX6_commonRest 5 = .ok (.lload 6, 2) := by decide +kernel
theorem dX6_commonRest_7 : decode cX6_commonRest 7 = .ok (.lcmp, 1) := by decide +kernel
theorem dX6_commonRest_8 : decode cX6_commonRest 8 = .ok (.ifCond .ge 36, 3) := by decide +kernel
theorem dX6_commonRest_11 : decode cX6_commonRest 11 = .ok (.lload_n 0, 1) := by decide +kernel
theorem dX6_commonRest_12 : decode cX6_commonRest 12 = .ok (.lload 8, 2) := by decide +kernel
theorem dX6_commonRest_14 : decode cX6_commonRest 14 = .ok (.lload_n 2, 1) := by decide +kernel
theorem dX6_commonRest_15 : decode cX6_commonRest 15 = .ok (.lmul, 1) := by decide +kernel
theorem dX6_commonRest_16 : decode cX6_commonRest 16 = .ok (.ladd, 1) := by decide +kernel
theorem dX6_commonRest_17 : decode cX6_commonRest 17 = .ok (.lstore 10, 2) := by decide +kernel
theorem dX6_commonRest_19 : decode cX6_commonRest 19 = .ok (.lload 10, 2) := by decide +kernel
theorem dX6_commonRest_21 : decode cX6_commonRest 21 = .ok (.lload 4, 2) := by decide +kernel
theorem dX6_commonRest_23 : decode cX6_commonRest 23 = .ok (.lsub, 1) := by decide +kernel
theorem dX6_commonRest_24 : decode cX6_commonRest 24 = .ok (.lload 6, 2) := by decide +kernel
theorem dX6_commonRest_26 : decode cX6_commonRest 26 = .ok (.lrem, 1) := by decide +kernel
theorem dX6_commonRest_27 : decode cX6_commonRest 27 = .ok (.lconst 0, 1) := by decide +kernel
theorem dX6_commonRest_28 : decode cX6_commonRest 28 = .ok (.lcmp, 1) := by decide +kernel
theorem dX6_commonRest_29 : decode cX6_commonRest 29 = .ok (.ifCond .ne 6, 3) := by decide +kernel
theorem dX6_commonRest_32 : decode cX6_commonRest 32 = .ok (.lload 10, 2) := by decide +kernel
theorem dX6_commonRest_34 : decode cX6_commonRest 34 = .ok (.lreturn, 1) := by decide +kernel
theorem dX6_commonRest_35 : decode cX6_commonRest 35 = .ok (.lload 8, 2) := by decide +kernel
theorem dX6_commonRest_37 : decode cX6_commonRest 37 = .ok (.lconst 1, 1) := by decide +kernel
theorem dX6_commonRest_38 : decode cX6_commonRest 38 = .ok (.ladd, 1) := by decide +kernel
theorem dX6_commonRest_39 : decode cX6_commonRest 39 = .ok (.lstore 8, 2) := by decide +kernel
theorem dX6_commonRest_41 : decode cX6_commonRest 41 = .ok (.goto (-38), 3) := by decide +kernel
theorem dX6_commonRest_44 : decode cX6_commonRest 44 = .ok (.ldc2_w 292, 3) := by decide +kernel
theorem dX6_commonRest_47 : decode cX6_commonRest 47 = .ok (.lreturn, 1) := by decide +kernel
theorem dX7_init_0 : decode cX7_init 0 = .ok (.aload_n 0, 1) := by decide +kernel
theorem dX7_init_1 : decode cX7_init 1 = .ok (.invokespecial 3, 3) := by decide +kernel
theorem dX7_init_4 : decode cX7_init 4 = .ok (.aload_n 0, 1) := by decide +kernel
theorem dX7_init_5 : decode cX7_init 5 = .ok (.bipush 6, 2) := by decide +kernel
theorem dX7_init_7 : decode cX7_init 7 = .ok (.newarray .int, 2) := by decide +kernel
theorem dX7_init_9 : decode cX7_init 9 = .ok (.putfield 9, 3) := by decide +kernel
theorem dX7_init_12 : decode cX7_init 12 = .ok (.aload_n 0, 1) := by decide +kernel
theorem dX7_init_13 : decode cX7_init 13 = .ok (.bipush 6, 2) := by decide +kernel
theorem dX7_init_15 : decode cX7_init 15 = .ok (.newarray .int, 2) := by decide +kernel
theorem dX7_init_17 : decode cX7_init 17 = .ok (.putfield 15, 3) := by decide +kernel
theorem dX7_init_20 : decode cX7_init 20 = .ok (.aload_n 0, 1) := by decide +kernel
theorem dX7_init_21 : decode cX7_init 21 = .ok (.bipush 6, 2) := by decide +kernel
theorem dX7_init_23 : decode cX7_init 23 = .ok (.newarray .int, 2) := by decide +kernel
theorem dX7_init_25 : decode cX7_init 25 = .ok (.putfield 18, 3) := by decide +kernel
theorem dX7_init_28 : decode cX7_init 28 = .ok (.aload_n 0, 1) := by decide +kernel
theorem dX7_init_29 : decode cX7_init 29 = .ok (.bipush 6, 2) := by decide +kernel
theorem dX7_init_31 : decode cX7_init 31 = .ok (.newarray .int, 2) := by decide +kernel
theorem dX7_init_33 : decode cX7_init 33 = .ok (.putfield 21, 3) := by decide +kernel
theorem dX7_init_36 : decode cX7_init 36 = .ok (.aload_n 0, 1) := by decide +kernel
theorem dX7_init_37 : decode cX7_init 37 = .ok (.bipush 6, 2) := by decide +kernel
theorem dX7_init_39 : decode cX7_init 39 = .ok (.newarray .int, 2) := by decide +kernel
theorem dX7_init_41 : decode cX7_init 41 = .ok (.putfield 24, 3) := by decide +kernel
theorem dX7_init_44 : decode cX7_init 44 = .ok (.aload_n 0, 1) := by decide +kernel
theorem dX7_init_45 : decode cX7_init 45 = .ok (.bipush 6, 2) := by decide +kernel
theorem dX7_init_47 : decode cX7_init 47 = .ok (.newarray .int, 2) := by decide +kernel
theorem dX7_init_49 : decode cX7_init 49 = .ok (.putfield 27, 3) := by decide +kernel
theorem dX7_init_52 : decode cX7_init 52 = .ok (.aload_n 0, 1) := by decide +kernel
theorem dX7_init_53 : decode cX7_init 53 = .ok (.bipush 6, 2) := by decide +kernel
theorem dX7_init_55 : decode cX7_init 55 = .ok (.newarray .int, 2) := by decide +kernel
theorem dX7_init_57 : decode cX7_init 57 = .ok (.putfield 30, 3) := by decide +kernel
theorem dX7_init_60 : decode cX7_init 60 = .ok (.aload_n 0, 1) := by decide +kernel
theorem dX7_init_61 : decode cX7_init 61 = .ok (.bipush 24, 2) := by decide +kernel
theorem dX7_init_63 : decode cX7_init 63 = .ok (.newarray .int, 2) := by decide +kernel
theorem dX7_init_65 : decode cX7_init 65 = .ok (.putfield 33, 3) := by decide +kernel
theorem dX7_init_68 : decode cX7_init 68 = .ok (.aload_n 0, 1) := by decide +kernel
theorem dX7_init_69 : decode cX7_init 69 = .ok (.bipush 100, 2) := by decide +kernel
theorem dX7_init_71 : decode cX7_init 71 = .ok (.newarray .int, 2) := by decide +kernel
theorem dX7_init_73 : decode cX7_init 73 = .ok (.putfield 36, 3) := by decide +kernel
theorem dX7_init_76 : decode cX7_init 76 = .ok (.aload_n 0, 1) := by decide +kernel
theorem dX7_init_77 : decode cX7_init 77 = .ok (.bipush 6, 2) := by decide +kernel
theorem dX7_init_79 : decode cX7_init 79 = .ok (.newarray .int, 2) := by decide +kernel
theorem dX7_init_81 : decode cX7_init 81 = .ok (.putfield 39, 3) := by decide +kernel
theorem dX7_init_84 : decode cX7_init 84 = .ok (.aload_n 0, 1) := by decide +kernel
theorem dX7_init_85 : decode cX7_init 85 = .ok (.bipush 61, 2) := by decide +kernel
theorem dX7_init_87 : decode cX7_init 87 = .ok (.newarray .int, 2) := by decide +kernel
theorem dX7_init_89 : decode cX7_init 89 = .ok (.putfield 42, 3) := by decide +kernel
theorem dX7_init_92 : decode cX7_init 92 = .ok (.aload_n 0, 1) := by decide +kernel
theorem dX7_init_93 : decode cX7_init 93 = .ok (.bipush 61, 2) := by decide +kernel
theorem dX7_init_95 : decode cX7_init 95 = .ok (.newarray .int, 2) := by decide +kernel
theorem dX7_init_97 : decode cX7_init 97 = .ok (.putfield 45, 3) := by decide +kernel
theorem dX7_init_100 : decode cX7_init 100 = .ok (.aload_n 0, 1) := by decide +kernel
theorem dX7_init_101 : decode cX7_init 101 = .ok (.bipush 61, 2) := by decide +kernel
theorem dX7_init_103 : decode cX7_init 103 = .ok (.newarray .int, 2) := by decide +kernel
theorem dX7_init_105 : decode cX7_init 105 = .ok (.putfield 48, 3) := by decide +kernel
theorem dX7_init_108 : decode cX7_init 108 = .ok (.aload_n 0, 1) := by decide +kernel
theorem dX7_init_109 : decode cX7_init 109 = .ok (.bipush 61, 2) := by decide +kernel
theorem dX7_init_111 : decode cX7_init 111 = .ok (.newarray .int, 2) := by decide +kernel
theorem dX7_init_113 : decode cX7_init 113 = .ok (.putfield 51, 3) := by decide +kernel
theorem dX7_init_116 : decode cX7_init 116 = .ok (.aload_n 0, 1) := by decide +kernel
theorem dX7_init_117 : decode cX7_init 117 = .ok (.sipush 800, 3) := by decide +kernel
theorem dX7_init_120 : decode cX7_init 120 = .ok (.newarray .int, 2) := by decide +kernel
theorem dX7_init_122 : decode cX7_init 122 = .ok (.putfield 54, 3) := by decide +kernel
theorem dX7_init_125 : decode cX7_init 125 = .ok (.aload_n 0, 1) := by decide +kernel
theorem dX7_init_126 : decode cX7_init 126 = .ok (.bipush 110, 2) := by decide +kernel
theorem dX7_init_128 : decode cX7_init 128 = .ok (.newarray .boolean, 2) := by decide +kernel
theorem dX7_init_130 : decode cX7_init 130 = .ok (.putfield 57, 3) := by decide +kernel
theorem dX7_init_133 : decode cX7_init 133 = .ok (.aload_n 0, 1) := by decide +kernel
theorem dX7_init_134 : decode cX7_init 134 = .ok (.bipush 6, 2) := by decide +kernel
theorem dX7_init_136 : decode cX7_init 136 = .ok (.newarray .int, 2) := by decide +kernel
theorem dX7_init_138 : decode cX7_init 138 = .ok (.putfield 61, 3) := by decide +kernel
theorem dX7_init_141 : decode cX7_init 141 = .ok (.aload_n 0, 1) := by decide +kernel
theorem dX7_init_142 : decode cX7_init 142 = .ok (.bipush 6, 2) := by decide +kernel
theorem dX7_init_144 : decode cX7_init 144 = .ok (.newarray .int, 2) := by decide +kernel
theorem dX7_init_146 : decode cX7_init 146 = .ok (.putfield 64, 3) := by decide +kernel
theorem dX7_init_149 : decode cX7_init 149 = .ok (.aload_n 0, 1) := by decide +kernel
theorem dX7_init_150 : decode cX7_init 150 = .ok (.bipush 6, 2) := by decide +kernel
theorem dX7_init_152 : decode cX7_init 152 = .ok (.newarray .int, 2) := by decide +kernel
theorem dX7_init_154 : decode cX7_init 154 = .ok (.putfield 67, 3) := by decide +kernel
theorem dX7_init_157 : decode cX7_init 157 = .ok (.aload_n 0, 1) := by decide +kernel
theorem dX7_init_158 : decode cX7_init 158 = .ok (.bipush 10, 2) := by decide +kernel
theorem dX7_init_160 : decode cX7_init 160 = .ok (.newarray .int, 2) := by decide +kernel
theorem dX7_init_162 : decode cX7_init 162 = .ok (.putfield 70, 3) := by decide +kernel
theorem dX7_init_165 : decode cX7_init 165 = .ok (.aload_n 0, 1) := by decide +kernel
theorem dX7_init_166 : decode cX7_init 166 = .ok (.bipush 10, 2) := by decide +kernel
theorem dX7_init_168 : decode cX7_init 168 = .ok (.newarray .int, 2) := by decide +kernel
theorem dX7_init_170 : decode cX7_init 170 = .ok (.putfield 73, 3) := by decide +kernel
theorem dX7_init_173 : decode cX7_init 173 = .ok (.aload_n 0, 1) := by decide +kernel
theorem dX7_init_174 : decode cX7_init 174 = .ok (.bipush 8, 2) := by decide +kernel
theorem dX7_init_176 : decode cX7_init 176 = .ok (.newarray .int, 2) := by decide +kernel
theorem dX7_init_178 : decode cX7_init 178 = .ok (.putfield 76, 3) := by decide +kernel
theorem dX7_init_181 : decode cX7_init 181 = .ok (.aload_n 0, 1) := by decide +kernel
theorem dX7_init_182 : decode cX7_init 182 = .ok (.bipush 8, 2) := by decide +kernel
theorem dX7_init_184 : decode cX7_init 184 = .ok (.newarray .int, 2) := by decide +kernel
theorem dX7_init_186 : decode cX7_init 186 = .ok (.putfield 79, 3) := by decide +kernel
theorem dX7_init_189 : decode cX7_init 189 = .ok (.aload_n 0, 1) := by decide +kernel
theorem dX7_init_190 : decode cX7_init 190 = .ok (.bipush 20, 2) := by decide +kernel
theorem dX7_init_192 : decode cX7_init 192 = .ok (.newarray .int, 2) := by decide +kernel
theorem dX7_init_194 : decode cX7_init 194 = .ok (.putfield 82, 3) := by decide +kernel
theorem dX7_init_197 : decode cX7_init 197 = .ok (.aload_n 0, 1) := by decide +kernel
theorem dX7_init_198 : decode cX7_init 198 = .ok (.bipush 126, 2) := by decide +kernel
theorem dX7_init_200 : decode cX7_init 200 = .ok (.newarray .int, 2) := by decide +kernel
theorem dX7_init_202 : decode cX7_init 202 = .ok (.putfield 85, 3) := by decide +kernel
theorem dX7_init_205 : decode cX7_init 205 = .ok (.aload_n 0, 1) := by decide +kernel
theorem dX7_init_206 : decode cX7_init 206 = .ok (.bipush 126, 2) := by decide +kernel
theorem dX7_init_208 : decode cX7_init 208 = .ok (.newarray .int, 2) := by decide +kernel
theorem dX7_init_210 : decode cX7_init 210 = .ok (.putfield 88, 3) := by decide +kernel
theorem dX7_init_213 : decode cX7_init 213 = .ok (.aload_n 0, 1) := by decide +kernel
theorem dX7_init_214 : decode cX7_init 214 = .ok (.bipush 6, 2) := by decide +kernel
theorem dX7_init_216 : decode cX7_init 216 = .ok (.newarray .int, 2) := by decide +kernel
theorem dX7_init_218 : decode cX7_init 218 = .ok (.putfield 91, 3) := by decide +kernel
theorem dX7_init_221 : decode cX7_init 221 = .ok (.aload_n 0, 1) := by decide +kernel
theorem dX7_init_222 : decode cX7_init 222 = .ok (.bipush 6, 2) := by decide +kernel
theorem dX7_init_224 : decode cX7_init 224 = .ok (.newarray .int, 2) := by decide +kernel
theorem dX7_init_226 : decode cX7_init 226 = .ok (.putfield 94, 3) := by decide +kernel
theorem dX7_init_229 : decode cX7_init 229 = .ok (.aload_n 0, 1) := by decide +kernel
theorem dX7_init_230 : decode cX7_init 230 = .ok (.sipush 360, 3) := by decide +kernel
theorem dX7_init_233 : decode cX7_init 233 = .ok (.newarray .long, 2) := by decide +kernel
theorem dX7_init_235 : decode cX7_init 235 = .ok (.putfield 97, 3) := by decide +kernel
theorem dX7_init_238 : decode cX7_init 238 = .ok (.aload_n 0, 1) := by decide +kernel
theorem dX7_init_239 : decode cX7_init 239 = .ok (.bipush 127, 2) := by decide +kernel
theorem dX7_init_241 : decode cX7_init 241 = .ok (.putfield 101, 3) := by decide +kernel
theorem dX7_init_244 : decode cX7_init 244 = .ok (.aload_n 0, 1) := by decide +kernel
theorem dX7_init_245 : decode cX7_init 245 = .ok (.iconst (-1), 1) := by decide +kernel
theorem dX7_init_246 : decode cX7_init 246 = .ok (.putfield 105, 3) := by decide +kernel
theorem dX7_init_249 : decode cX7_init 249 = .ok (.iconst 0, 1) := by decide +kernel
theorem dX7_init_250 : decode cX7_init 250 = .ok (.istore_n 1, 1) := by decide +kernel
theorem dX7_init_251 : decode cX7_init 251 = .ok (.iload_n 1, 1) := by decide +kernel
theorem dX7_init_252 : decode cX7_init 252 = .ok (.bipush 6, 2) := by decide +kernel
theorem dX7_init_254 : decode cX7_init 254 = .ok (.if_icmp .ge 16, 3) := by decide +kernel
theorem dX7_init_257 : decode cX7_init 257 = .ok (.aload_n 0, 1) := by decide +kernel
theorem dX7_init_258 : decode cX7_init 258 = .ok (.getfield 91, 3) := by decide +kernel
theorem dX7_init_261 : decode cX7_init 261 = .ok (.iload_n 1, 1) := by decide +kernel
theorem dX7_init_262 : decode cX7_init 262 = .ok (.iconst (-1), 1) := by decide +kernel
theorem dX7_init_263 : decode cX7_init 263 = .ok (.iastore, 1) := by decide +kernel
theorem dX7_init_264 : decode cX7_init 264 = .ok (.iinc 1 1, 3) := by decide +kernel
theorem dX7_init_267 : decode cX7_init 267 = .ok (.goto (-16), 3) := by decide +kernel
theorem dX7_init_270 : decode cX7_init 270 = .ok (.return_, 1) := by decide +kernel
theorem dX7_within_0 : decode cX7_within 0 = .ok (.iload_n 0, 1) := by decide +kernel
theorem dX7_within_1 : decode cX7_within 1 = .ok (.iload_n 1, 1) := by decide +kernel
theorem dX7_within_2 : decode cX7_within 2 = .ok (.if_icmp .lt 12, 3) := by decide +kernel
theorem dX7_within_5 : decode cX7_within 5 = .ok (.iload_n 0, 1) := by decide +kernel
theorem dX7_within_6 : decode cX7_within 6 = .ok (.iload_n 2, 1) := by decide +kernel
theorem dX7_within_7 : decode cX7_within 7 = .ok (.if_icmp .gt 7, 3) := by decide +kernel
theorem dX7_within_10 : decode cX7_within 10 = .ok (.iconst 1, 1) := by decide +kernel
theorem dX7_within_11 : decode cX7_within 11 = .ok (.goto 4, 3) := by decide +kernel
theorem dX7_within_14 : decode cX7_within 14 = .ok (.iconst 0, 1) := by decide +kernel
theorem dX7_within_15 : decode cX7_within 15 = .ok (.ireturn, 1) := by decide +kernel
theorem dX7_isOne_0 : decode cX7_isOne 0 = .ok (.iload_n 1, 1) := by decide +kernel
theorem dX7_isOne_1 : decode cX7_isOne 1 = .ok (.iconst 0, 1) := by decide +kernel
theorem dX7_isOne_2 : decode cX7_isOne 2 = .ok (.aload_n 0, 1) := by decide +kernel
theorem dX7_isOne_3 : decode cX7_isOne 3 = .ok (.getfield 108, 3) := by decide +kernel
theorem dX7_isOne_6 : decode cX7_isOne 6 = .ok (.iconst 1, 1) := by decide +kernel
theorem dX7_isOne_7 : decode cX7_isOne 7 = .ok (.isub, 1) := by decide +kernel
theorem dX7_isOne_8 : decode cX7_isOne 8 = .ok (.invokestatic 111, 3) := by decide +kernel
theorem dX7_isOne_11 : decode cX7_isOne 11 = .ok (.ireturn, 1) := by decide +kernel
theorem dX7_egg_0 : decode cX7_egg 0 = .ok (.iload_n 1, 1) := by decide +kernel
theorem dX7_egg_1 : decode cX7_egg 1 = .ok (.iconst 0, 1) := by decide +kernel
theorem dX7_egg_2 : decode cX7_egg 2 = .ok (.bipush 6, 2) := by decide +kernel
theorem dX7_egg_4 : decode cX7_egg 4 = .ok (.invokestatic 111, 3) := by decide +kernel
theorem dX7_egg_7 : decode cX7_egg 7 = .ok (.ifCond .ne 5, 3) := by decide +kernel
theorem dX7_egg_10 : decode cX7_egg 10 = .ok (.iconst (-1), 1) := by decide +kernel
theorem dX7_egg_11 : decode cX7_egg 11 = .ok (.ireturn, 1) := by decide +kernel
theorem dX7_egg_12 : decode cX7_egg 12 = .ok (.iload_n 2, 1) := by decide +kernel
theorem dX7_egg_13 : decode cX7_egg 13 = .ok (.iconst 0, 1) := by decide +kernel
theorem dX7_egg_14 : decode cX7_egg 14 = .ok (.bipush 9, 2) := by decide +kernel
theorem dX7_egg_16 : decode cX7_egg 16 = .ok (.invokestatic 111, 3) := by decide +kernel
theorem dX7_egg_19 : decode cX7_egg 19 = .ok (.ifCond .eq 24, 3) := by decide +kernel
theorem dX7_egg_22 : decode cX7_egg 22 = .ok (.iload_n 3, 1) := by decide +kernel
theorem dX7_egg_23 : decode cX7_egg 23 = .ok (.iconst 1, 1) := by decide +kernel
theorem dX7_egg_24 : decode cX7_egg 24 = .ok (.bipush 30, 2) := by decide +kernel
theorem dX7_egg_26 : decode cX7_egg 26 = .ok (.invokestatic 111, 3) := by decide +kernel
theorem dX7_egg_29 : decode cX7_egg 29 = .ok (.ifCond .eq 14, 3) := by decide +kernel
theorem dX7_egg_32 : decode cX7_egg 32 = .ok (.iload 4, 2) := by decide +kernel
theorem dX7_egg_34 : decode cX7_egg 34 = .ok (.iconst 0, 1) := by decide +kernel
theorem dX7_egg_35 : decode cX7_egg 35 = .ok (.bipush 29, 2) := by decide +kernel
theorem dX7_egg_37 : decode cX7_egg 37 = .ok (.invokestatic 111, 3) := by decide +kernel
theorem dX7_egg_40 : decode cX7_egg 40 = .ok (.ifCond .ne 6, 3) := by decide +kernel
theorem dX7_egg_43 : decode cX7_egg 43 = .ok (.bipush (-2), 2) := by decide +kernel
theorem dX7_egg_45 : decode cX7_egg 45 = .ok (.ireturn, 1) := by decide +kernel
theorem dX7_egg_46 : decode cX7_egg 46 = .ok (.aload_n 0, 1) := by decide +kernel
theorem dX7_egg_47 : decode cX7_egg 47 = .ok (.getfield 108, 3) := by decide +kernel
theorem dX7_egg_50 : decode cX7_egg 50 = .ok (.bipush 6, 2) := by decide +kernel
theorem dX7_egg_52 : decode cX7_egg 52 = .ok (.if_icmp .ne 6, 3) := by decide +kernel
theorem dX7_egg_55 : decode cX7_egg 55 = .ok (.bipush (-4), 2) := by decide +kernel
theorem dX7_egg_57 : decode cX7_egg 57 = .ok (.ireturn, 1) := by decide +kernel
theorem dX7_egg_58 : decode cX7_egg 58 = .ok (.aload_n 0, 1) := by decide +kernel
theorem dX7_egg_59 : decode cX7_egg 59 = .ok (.getfield 9, 3) := by decide +kernel
theorem dX7_egg_62 : decode cX7_egg 62 = .ok (.aload_n 0, 1) := by decide +kernel
theorem dX7_egg_63 : decode cX7_egg 63 = .ok (.getfield 108, 3) := by decide +kernel
theorem dX7_egg_66 : decode cX7_egg 66 = .ok (.iload_n 1, 1) := by decide +kernel
theorem dX7_egg_67 : decode cX7_egg 67 = .ok (.iastore, 1) := by decide +kernel
theorem dX7_egg_68 : decode cX7_egg 68 = .ok (.aload_n 0, 1) := by decide +kernel
theorem dX7_egg_69 : decode cX7_egg 69 = .ok (.getfield 15, 3) := by decide +kernel
theorem dX7_egg_72 : decode cX7_egg 72 = .ok (.aload_n 0, 1) := by decide +kernel
theorem dX7_egg_73 : decode cX7_egg 73 = .ok (.getfield 108, 3) := by decide +kernel
theorem dX7_egg_76 : decode cX7_egg 76 = .ok (.iload_n 2, 1) := by decide +kernel
theorem dX7_egg_77 : decode cX7_egg 77 = .ok (.iastore, 1) := by decide +kernel
theorem dX7_egg_78 : decode cX7_egg 78 = .ok (.aload_n 0, 1) := by decide +kernel
theorem dX7_egg_79 : decode cX7_egg 79 = .ok (.getfield 18, 3) := by decide +kernel
theorem dX7_egg_82 : decode cX7_egg 82 = .ok (.aload_n 0, 1) := by decide +kernel
theorem dX7_egg_83 : decode cX7_egg 83 = .ok (.getfield 108, 3) := by decide +kernel
theorem dX7_egg_86 : decode cX7_egg 86 = .ok (.iload_n 3, 1) := by decide +kernel
theorem dX7_egg_87 : decode cX7_egg 87 = .ok (.iastore, 1) := by decide +kernel
theorem dX7_egg_88 : decode cX7_egg 88 = .ok (.aload_n 0, 1) := by decide +kernel
theorem dX7_egg_89 : decode cX7_egg 89 = .ok (.getfield 21, 3) := by decide +kernel
theorem dX7_egg_92 : decode cX7_egg 92 = .ok (.aload_n 0, 1) := by decide +kernel
theorem dX7_egg_93 : decode cX7_egg 93 = .ok (.getfield 108, 3) := by decide +kernel
theorem dX7_egg_96 : decode cX7_egg 96 = .ok (.iload 4, 2) := by decide +kernel
theorem dX7_egg_98 : decode cX7_egg 98 = .ok (.iastore, 1) := by decide +kernel
theorem dX7_egg_99 : decode cX7_egg 99 = .ok (.aload_n 0, 1) := by decide +kernel
theorem dX7_egg_100 : decode cX7_egg 100 = .ok (.getfield 24, 3) := by decide +kernel
theorem dX7_egg_103 : decode cX7_egg 103 = .ok (.aload_n 0, 1) := by decide +kernel
theorem dX7_egg_104 : decode cX7_egg 104 = .ok (.getfield 108, 3) := by decide +kernel
theorem dX7_egg_107 : decode cX7_egg 107 = .ok (.iconst 0, 1) := by decide +kernel
theorem dX7_egg_108 : decode cX7_egg 108 = .ok (.iastore, 1) := by decide +kernel
theorem dX7_egg_109 : decode cX7_egg 109 = .ok (.aload_n 0, 1) := by decide +kernel
theorem dX7_egg_110 : decode cX7_egg 110 = .ok (.getfield 27, 3) := by decide +kernel
theorem dX7_egg_113 : decode cX7_egg 113 = .ok (.aload_n 0, 1) := by decide +kernel
theorem dX7_egg_114 : decode cX7_egg 114 = .ok (.getfield 108, 3) := by decide +kernel
theorem dX7_egg_117 : decode cX7_egg 117 = .ok (.iconst 0, 1) := by decide +kernel
theorem dX7_egg_118 : decode cX7_egg 118 = .ok (.iastore, 1) := by decide +kernel
theorem dX7_egg_119 : decode cX7_egg 119 = .ok (.aload_n 0, 1) := by decide +kernel
theorem dX7_egg_120 : decode cX7_egg 120 = .ok (.getfield 30, 3) := by decide +kernel
theorem dX7_egg_123 : decode cX7_egg 123 = .ok (.aload_n 0, 1) := by decide +kernel
theorem dX7_egg_124 : decode cX7_egg 124 = .ok (.getfield 108, 3) := by decide +kernel
theorem dX7_egg_127 : decode cX7_egg 127 = .ok (.iconst 0, 1) := by decide +kernel
theorem dX7_egg_128 : decode cX7_egg 128 = .ok (.iastore, 1) := by decide +kernel
theorem dX7_egg_129 : decode cX7_egg 129 = .ok (.iconst 0, 1) := by decide +kernel
theorem dX7_egg_130 : decode cX7_egg 130 = .ok (.istore 5, 2) := by decide +kernel
theorem dX7_egg_132 : decode cX7_egg 132 = .ok (.iload 5, 2) := by decide +kernel
theorem dX7_egg_134 : decode cX7_egg 134 = .ok (.iconst 4, 1) := by decide +kernel
theorem dX7_egg_135 : decode cX7_egg 135 = .ok (.if_icmp .ge 24, 3) := by decide +kernel
theorem dX7_egg_138 : decode cX7_egg 138 = .ok (.aload_n 0, 1) := by decide +kernel
theorem dX7_egg_139 : decode cX7_egg 139 = .ok (.getfield 33, 3) := by decide +kernel
theorem dX7_egg_142 : decode cX7_egg 142 = .ok (.iconst 4, 1) := by decide +kernel
theorem dX7_egg_143 : decode cX7_egg 143 = .ok (.aload_n 0, 1) := by decide +kernel
theorem dX7_egg_144 : decode cX7_egg 144 = .ok (.getfield 108, 3) := by decide +kernel
theorem dX7_egg_147 : decode cX7_egg 147 = .ok (.imul, 1) := by decide +kernel
theorem dX7_egg_148 : decode cX7_egg 148 = .ok (.iload 5, 2) := by decide +kernel
theorem dX7_egg_150 : decode cX7_egg 150 = .ok (.iadd, 1) := by decide +kernel
theorem dX7_egg_151 : decode cX7_egg 151 = .ok (.iconst 0, 1) := by decide +kernel
theorem dX7_egg_152 : decode cX7_egg 152 = .ok (.iastore, 1) := by decide +kernel
theorem dX7_egg_153 : decode cX7_egg 153 = .ok (.iinc 5 1, 3) := by decide +kernel
theorem dX7_egg_156 : decode cX7_egg 156 = .ok (.goto (-24), 3) := by decide +kernel
theorem dX7_egg_159 : decode cX7_egg 159 = .ok (.aload_n 0, 1) := by decide +kernel
theorem dX7_egg_160 : decode cX7_egg 160 = .ok (.dup, 1) := by decide +kernel
theorem dX7_egg_161 : decode cX7_egg 161 = .ok (.getfield 108, 3) := by decide +kernel
theorem dX7_egg_164 : decode cX7_egg 164 = .ok (.dup_x1, 1) := by decide +kernel
theorem dX7_egg_165 : decode cX7_egg 165 = .ok (.iconst 1, 1) := by decide +kernel
theorem dX7_egg_166 : decode cX7_egg 166 = .ok (.iadd, 1) := by decide +kernel
theorem dX7_egg_167 : decode cX7_egg 167 = .ok (.putfield 108, 3) := by decide +kernel
theorem dX7_egg_170 : decode cX7_egg 170 = .ok (.ireturn, 1) := by decide +kernel
theorem dX7_of_0 : decode cX7_of 0 = .ok (.aload_n 0, 1) := by decide +kernel
theorem dX7_of_1 : decode cX7_of 1 = .ok (.iload_n 1, 1) := by decide +kernel
theorem dX7_of_2 : decode cX7_of 2 = .ok (.invokevirtual 115, 3) := by decide +kernel
theorem dX7_of_5 : decode cX7_of 5 = .ok (.ifCond .ne 5, 3) := by decide +kernel
theorem dX7_of_8 : decode cX7_of 8 = .ok (.iconst (-1), 1) := by decide +kernel
theorem dX7_of_9 : decode cX7_of 9 = .ok (.ireturn, 1) := by decide +kernel
theorem dX7_of_10 : decode cX7_of 10 = .ok (.iload_n 2, 1) := by decide +kernel
theorem dX7_of_11 : decode cX7_of 11 = .ok (.tableswitch 135 0 9 #[53, 60, 67, 74, 81, 88, 95, 102, 108, 114], 53) := by decide +kernel
theorem dX7_of_64 : decode cX7_of 64 = .ok (.aload_n 0, 1) := by decide +kernel
theorem dX7_of_65 : decode cX7_of 65 = .ok (.getfield 9, 3) := by decide +kernel
theorem dX7_of_68 : decode cX7_of 68 = .ok (.iload_n 1, 1) := by decide +kernel
theorem dX7_of_69 : decode cX7_of 69 = .ok (.iaload, 1) := by decide +kernel
theorem dX7_of_70 : decode cX7_of 70 = .ok (.ireturn, 1) := by decide +kernel
theorem dX7_of_71 : decode cX7_of 71 = .ok (.aload_n 0, 1) := by decide +kernel
theorem dX7_of_72 : decode cX7_of 72 = .ok (.getfield 15, 3) := by decide +kernel
theorem dX7_of_75 : decode cX7_of 75 = .ok (.iload_n 1, 1) := by decide +kernel
theorem dX7_of_76 : decode cX7_of 76 = .ok (.iaload, 1) := by decide +kernel
theorem dX7_of_77 : decode cX7_of 77 = .ok (.ireturn, 1) := by decide +kernel
theorem dX7_of_78 : decode cX7_of 78 = .ok (.aload_n 0, 1) := by decide +kernel
theorem dX7_of_79 : decode cX7_of 79 = .ok (.getfield 18, 3) := by decide +kernel
theorem dX7_of_82 : decode cX7_of 82 = .ok (.iload_n 1, 1) := by decide +kernel
theorem dX7_of_83 : decode cX7_of 83 = .ok (.iaload, 1) := by decide +kernel
theorem dX7_of_84 : decode cX7_of 84 = .ok (.ireturn, 1) := by decide +kernel
theorem dX7_of_85 : decode cX7_of 85 = .ok (.aload_n 0, 1) := by decide +kernel
theorem dX7_of_86 : decode cX7_of 86 = .ok (.getfield 21, 3) := by decide +kernel
theorem dX7_of_89 : decode cX7_of 89 = .ok (.iload_n 1, 1) := by decide +kernel
theorem dX7_of_90 : decode cX7_of 90 = .ok (.iaload, 1) := by decide +kernel
theorem dX7_of_91 : decode cX7_of 91 = .ok (.ireturn, 1) := by decide +kernel
theorem dX7_of_92 : decode cX7_of 92 = .ok (.aload_n 0, 1) := by decide +kernel
theorem dX7_of_93 : decode cX7_of 93 = .ok (.getfield 24, 3) := by decide +kernel
theorem dX7_of_96 : decode cX7_of 96 = .ok (.iload_n 1, 1) := by decide +kernel
theorem dX7_of_97 : decode cX7_of 97 = .ok (.iaload, 1) := by decide +kernel
theorem dX7_of_98 : decode cX7_of 98 = .ok (.ireturn, 1) := by decide +kernel
theorem dX7_of_99 : decode cX7_of 99 = .ok (.aload_n 0, 1) := by decide +kernel
theorem dX7_of_100 : decode cX7_of 100 = .ok (.getfield 27, 3) := by decide +kernel
theorem dX7_of_103 : decode cX7_of 103 = .ok (.iload_n 1, 1) := by decide +kernel
theorem dX7_of_104 : decode cX7_of 104 = .ok (.iaload, 1) := by decide +kernel
theorem dX7_of_105 : decode cX7_of 105 = .ok (.ireturn, 1) := by decide +kernel
theorem dX7_of_106 : decode cX7_of 106 = .ok (.aload_n 0, 1) := by decide +kernel
theorem dX7_of_107 : decode cX7_of 107 = .ok (.getfield 30, 3) := by decide +kernel
theorem dX7_of_110 : decode cX7_of 110 = .ok (.iload_n 1, 1) := by decide +kernel
theorem dX7_of_111 : decode cX7_of 111 = .ok (.iaload, 1) := by decide +kernel
theorem dX7_of_112 : decode cX7_of 112 = .ok (.ireturn, 1) := by decide +kernel
theorem dX7_of_113 : decode cX7_of 113 = .ok (.aload_n 0, 1) := by decide +kernel
theorem dX7_of_114 : decode cX7_of 114 = .ok (.iload_n 1, 1) := by decide +kernel
theorem dX7_of_115 : decode cX7_of 115 = .ok (.invokevirtual 119, 3) := by decide +kernel
theorem dX7_of_118 : decode cX7_of 118 = .ok (.ireturn, 1) := by decide +kernel
theorem dX7_of_119 : decode cX7_of 119 = .ok (.aload_n 0, 1) := by decide +kernel
theorem dX7_of_120 : decode cX7_of 120 = .ok (.iload_n 1, 1) := by decide +kernel
theorem dX7_of_121 : decode cX7_of 121 = .ok (.invokevirtual 123, 3) := by decide +kernel
theorem dX7_of_124 : decode cX7_of 124 = .ok (.ireturn, 1) := by decide +kernel
theorem dX7_of_125 : decode cX7_of 125 = .ok (.aload_n 0, 1) := by decide +kernel
theorem dX7_of_126 : decode cX7_of 126 = .ok (.getfield 24, 3) := by decide +kernel
theorem dX7_of_129 : decode cX7_of 129 = .ok (.iload_n 1, 1) := by decide +kernel
theorem dX7_of_130 : decode cX7_of 130 = .ok (.iaload, 1) := by decide +kernel
theorem dX7_of_131 : decode cX7_of 131 = .ok (.iconst 1, 1) := by decide +kernel
theorem dX7_of_132 : decode cX7_of 132 = .ok (.if_icmp .ne 8, 3) := by decide +kernel
theorem dX7_of_135 : decode cX7_of 135 = .ok (.bipush (-5), 2) := by decide +kernel
theorem dX7_of_137 : decode cX7_of 137 = .ok (.goto 8, 3) := by decide +kernel
theorem dX7_of_140 : decode cX7_of 140 = .ok (.aload_n 0, 1) := by decide +kernel
theorem dX7_of_141 : decode cX7_of 141 = .ok (.iload_n 1, 1) := by decide +kernel
theorem dX7_of_142 : decode cX7_of 142 = .ok (.invokevirtual 126, 3) := by decide +kernel
theorem dX7_of_145 : decode cX7_of 145 = .ok (.ireturn, 1) := by decide +kernel
theorem dX7_of_146 : decode cX7_of 146 = .ok (.iconst (-1), 1) := by decide +kernel
theorem dX7_of_147 : decode cX7_of 147 = .ok (.ireturn, 1) := by decide +kernel
theorem dX7_set_0 : decode cX7_set 0 = .ok (.aload_n 0, 1) := by decide +kernel
theorem dX7_set_1 : decode cX7_set 1 = .ok (.iload_n 1, 1) := by decide +kernel
theorem dX7_set_2 : decode cX7_set 2 = .ok (.invokevirtual 115, 3) := by decide +kernel
theorem dX7_set_5 : decode cX7_set 5 = .ok (.ifCond .eq 12, 3) := by decide +kernel
theorem dX7_set_8 : decode cX7_set 8 = .ok (.iload_n 2, 1) := by decide +kernel
theorem dX7_set_9 : decode cX7_set 9 = .ok (.iconst 0, 1) := by decide +kernel
theorem dX7_set_10 : decode cX7_set 10 = .ok (.iconst 1, 1) := by decide +kernel
theorem dX7_set_11 : decode cX7_set 11 = .ok (.invokestatic 111, 3) := by decide +kernel
theorem dX7_set_14 : decode cX7_set 14 = .ok (.ifCond .ne 5, 3) := by decide +kernel
theorem dX7_set_17 : decode cX7_set 17 = .ok (.iconst (-1), 1) := by decide +kernel
theorem dX7_set_18 : decode cX7_set 18 = .ok (.ireturn, 1) := by decide +kernel
theorem dX7_set_19 : decode cX7_set 19 = .ok (.iload_n 2, 1) := by decide +kernel
theorem dX7_set_20 : decode cX7_set 20 = .ok (.ifCond .ne 16, 3) := by decide +kernel
theorem dX7_set_23 : decode cX7_set 23 = .ok (.iload_n 3, 1) := by decide +kernel
theorem dX7_set_24 : decode cX7_set 24 = .ok (.iconst 1, 1) := by decide +kernel
theorem dX7_set_25 : decode cX7_set 25 = .ok (.bipush 30, 2) := by decide +kernel
theorem dX7_set_27 : decode cX7_set 27 = .ok (.invokestatic 111, 3) := by decide +kernel
theorem dX7_set_30 : decode cX7_set 30 = .ok (.ifCond .ne 19, 3) := by decide +kernel
theorem dX7_set_33 : decode cX7_set 33 = .ok (.goto 13, 3) := by decide +kernel
theorem dX7_set_36 : decode cX7_set 36 = .ok (.iload_n 3, 1) := by decide +kernel
theorem dX7_set_37 : decode cX7_set 37 = .ok (.iconst 0, 1) := by decide +kernel
theorem dX7_set_38 : decode cX7_set 38 = .ok (.bipush 29, 2) := by decide +kernel
theorem dX7_set_40 : decode cX7_set 40 = .ok (.invokestatic 111, 3) := by decide +kernel
theorem dX7_set_43 : decode cX7_set 43 = .ok (.ifCond .ne 6, 3) := by decide +kernel
theorem dX7_set_46 : decode cX7_set 46 = .ok (.bipush (-2), 2) := by decide +kernel
theorem dX7_set_48 : decode cX7_set 48 = .ok (.ireturn, 1) := by decide +kernel
theorem dX7_set_49 : decode cX7_set 49 = .ok (.iload_n 2, 1) := by decide +kernel
theorem dX7_set_50 : decode cX7_set 50 = .ok (.ifCond .ne 12, 3) := by decide +kernel
theorem dX7_set_53 : decode cX7_set 53 = .ok (.aload_n 0, 1) := by decide +kernel
theorem dX7_set_54 : decode cX7_set 54 = .ok (.getfield 18, 3) := by decide +kernel
theorem dX7_set_57 : decode cX7_set 57 = .ok (.iload_n 1, 1) := by decide +kernel
theorem dX7_set_58 : decode cX7_set 58 = .ok (.iaload, 1) := by decide +kernel
theorem dX7_set_59 : decode cX7_set 59 = .ok (.goto 9, 3) := by decide +kernel
theorem dX7_set_62 : decode cX7_set 62 = .ok (.aload_n 0, 1) := by decide +kernel
theorem dX7_set_63 : decode cX7_set 63 = .ok (.getfield 21, 3) := by decide +kernel
theorem dX7_set_66 : decode cX7_set 66 = .ok (.iload_n 1, 1) := by decide +kernel
theorem dX7_set_67 : decode cX7_set 67 = .ok (.iaload, 1) := by decide +kernel
theorem dX7_set_68 : decode cX7_set 68 = .ok (.istore 4, 2) := by decide +kernel
theorem dX7_set_70 : decode cX7_set 70 = .ok (.iload_n 2, 1) := by decide +kernel
theorem dX7_set_71 : decode cX7_set 71 = .ok (.ifCond .ne 13, 3) := by decide +kernel
theorem dX7_set_74 : decode cX7_set 74 = .ok (.aload_n 0, 1) := by decide +kernel
theorem dX7_set_75 : decode cX7_set 75 = .ok (.getfield 18, 3) := by decide +kernel
theorem dX7_set_78 : decode cX7_set 78 = .ok (.iload_n 1, 1) := by decide +kernel
theorem dX7_set_79 : decode cX7_set 79 = .ok (.iload_n 3, 1) := by decide +kernel
theorem dX7_set_80 : decode cX7_set 80 = .ok (.iastore, 1) := by decide +kernel
theorem dX7_set_81 : decode cX7_set 81 = .ok (.goto 10, 3) := by decide +kernel
theorem dX7_set_84 : decode cX7_set 84 = .ok (.aload_n 0, 1) := by decide +kernel
theorem dX7_set_85 : decode cX7_set 85 = .ok (.getfield 21, 3) := by decide +kernel
theorem dX7_set_88 : decode cX7_set 88 = .ok (.iload_n 1, 1) := by decide +kernel
theorem dX7_set_89 : decode cX7_set 89 = .ok (.iload_n 3, 1) := by decide +kernel
theorem dX7_set_90 : decode cX7_set 90 = .ok (.iastore, 1) := by decide +kernel
theorem dX7_set_91 : decode cX7_set 91 = .ok (.iload 4, 2) := by decide +kernel
theorem dX7_set_93 : decode cX7_set 93 = .ok (.ireturn, 1) := by decide +kernel
theorem dX7_smash_0 : decode cX7_smash 0 = .ok (.aload_n 0, 1) := by decide +kernel
theorem dX7_smash_1 : decode cX7_smash 1 = .ok (.iload_n 1, 1) := by decide +kernel
theorem dX7_smash_2 : decode cX7_smash 2 = .ok (.invokevirtual 115, 3) := by decide +kernel
theorem dX7_smash_5 : decode cX7_smash 5 = .ok (.ifCond .ne 5, 3) := by decide +kernel
theorem dX7_smash_8 : decode cX7_smash 8 = .ok (.iconst (-1), 1) := by decide +kernel
theorem dX7_smash_9 : decode cX7_smash 9 = .ok (.ireturn, 1) := by decide +kernel
theorem dX7_smash_10 : decode cX7_smash 10 = .ok (.aload_n 0, 1) := by decide +kernel
theorem dX7_smash_11 : decode cX7_smash 11 = .ok (.getfield 24, 3) := by decide +kernel
theorem dX7_smash_14 : decode cX7_smash 14 = .ok (.iload_n 1, 1) := by decide +kernel
theorem dX7_smash_15 : decode cX7_smash 15 = .ok (.iaload, 1) := by decide +kernel
theorem dX7_smash_16 : decode cX7_smash 16 = .ok (.istore_n 3, 1) := by decide +kernel
theorem dX7_smash_17 : decode cX7_smash 17 = .ok (.aload_n 0, 1) := by decide +kernel
theorem dX7_smash_18 : decode cX7_smash 18 = .ok (.getfield 24, 3) := by decide +kernel
theorem dX7_smash_21 : decode cX7_smash 21 = .ok (.iload_n 1, 1) := by decide +kernel
theorem dX7_smash_22 : decode cX7_smash 22 = .ok (.iload_n 2, 1) := by decide +kernel
theorem dX7_smash_23 : decode cX7_smash 23 = .ok (.ifCond .eq 7, 3) := by decide +kernel
theorem dX7_smash_26 : decode cX7_smash 26 = .ok (.iconst 1, 1) := by decide +kernel
theorem dX7_smash_27 : decode cX7_smash 27 = .ok (.goto 4, 3) := by decide +kernel
theorem dX7_smash_30 : decode cX7_smash 30 = .ok (.iconst 0, 1) := by decide +kernel
theorem dX7_smash_31 : decode cX7_smash 31 = .ok (.iastore, 1) := by decide +kernel
theorem dX7_smash_32 : decode cX7_smash 32 = .ok (.iload_n 3, 1) := by decide +kernel
theorem dX7_smash_33 : decode cX7_smash 33 = .ok (.ireturn, 1) := by decide +kernel
theorem dX7_listen_0 : decode cX7_listen 0 = .ok (.iload_n 1, 1) := by decide +kernel
theorem dX7_listen_1 : decode cX7_listen 1 = .ok (.iconst 0, 1) := by decide +kernel
theorem dX7_listen_2 : decode cX7_listen 2 = .ok (.bipush 127, 2) := by decide +kernel
theorem dX7_listen_4 : decode cX7_listen 4 = .ok (.invokestatic 111, 3) := by decide +kernel
theorem dX7_listen_7 : decode cX7_listen 7 = .ok (.ifCond .ne 6, 3) := by decide +kernel
theorem dX7_listen_10 : decode cX7_listen 10 = .ok (.bipush (-2), 2) := by decide +kernel
theorem dX7_listen_12 : decode cX7_listen 12 = .ok (.ireturn, 1) := by decide +kernel
theorem dX7_listen_13 : decode cX7_listen 13 = .ok (.aload_n 0, 1) := by decide +kernel
theorem dX7_listen_14 : decode cX7_listen 14 = .ok (.getfield 101, 3) := by decide +kernel
theorem dX7_listen_17 : decode cX7_listen 17 = .ok (.istore_n 2, 1) := by decide +kernel
theorem dX7_listen_18 : decode cX7_listen 18 = .ok (.aload_n 0, 1) := by decide +kernel
theorem dX7_listen_19 : decode cX7_listen 19 = .ok (.iload_n 1, 1) := by decide +kernel
theorem dX7_listen_20 : decode cX7_listen 20 = .ok (.putfield 101, 3) := by decide +kernel
theorem dX7_listen_23 : decode cX7_listen 23 = .ok (.iload_n 2, 1) := by decide +kernel
theorem dX7_listen_24 : decode cX7_listen 24 = .ok (.ireturn, 1) := by decide +kernel
theorem dX7_row_0 : decode cX7_row 0 = .ok (.aload_n 0, 1) := by decide +kernel
theorem dX7_row_1 : decode cX7_row 1 = .ok (.iload_n 1, 1) := by decide +kernel
theorem dX7_row_2 : decode cX7_row 2 = .ok (.invokevirtual 115, 3) := by decide +kernel
theorem dX7_row_5 : decode cX7_row 5 = .ok (.ifCond .eq 12, 3) := by decide +kernel
theorem dX7_row_8 : decode cX7_row 8 = .ok (.iload_n 2, 1) := by decide +kernel
theorem dX7_row_9 : decode cX7_row 9 = .ok (.iconst 0, 1) := by decide +kernel
theorem dX7_row_10 : decode cX7_row 10 = .ok (.iconst 3, 1) := by decide +kernel
theorem dX7_row_11 : decode cX7_row 11 = .ok (.invokestatic 111, 3) := by decide +kernel
theorem dX7_row_14 : decode cX7_row 14 = .ok (.ifCond .ne 5, 3) := by decide +kernel
theorem dX7_row_17 : decode cX7_row 17 = .ok (.iconst (-1), 1) := by decide +kernel
theorem dX7_row_18 : decode cX7_row 18 = .ok (.ireturn, 1) := by decide +kernel
theorem dX7_row_19 : decode cX7_row 19 = .ok (.iload_n 3, 1) := by decide +kernel
theorem dX7_row_20 : decode cX7_row 20 = .ok (.iconst 0, 1) := by decide +kernel
theorem dX7_row_21 : decode cX7_row 21 = .ok (.bipush 9, 2) := by decide +kernel
theorem dX7_row_23 : decode cX7_row 23 = .ok (.invokestatic 111, 3) := by decide +kernel
theorem dX7_row_26 : decode cX7_row 26 = .ok (.ifCond .ne 6, 3) := by decide +kernel
theorem dX7_row_29 : decode cX7_row 29 = .ok (.bipush (-2), 2) := by decide +kernel
theorem dX7_row_31 : decode cX7_row 31 = .ok (.ireturn, 1) := by decide +kernel
theorem dX7_row_32 : decode cX7_row 32 = .ok (.aload_n 0, 1) := by decide +kernel
theorem dX7_row_33 : decode cX7_row 33 = .ok (.getfield 9, 3) := by decide +kernel
theorem dX7_row_36 : decode cX7_row 36 = .ok (.iload_n 1, 1) := by decide +kernel
theorem dX7_row_37 : decode cX7_row 37 = .ok (.iaload, 1) := by decide +kernel
theorem dX7_row_38 : decode cX7_row 38 = .ok (.bipush 6, 2) := by decide +kernel
theorem dX7_row_40 : decode cX7_row 40 = .ok (.if_icmp .eq 6, 3) := by decide +kernel
theorem dX7_row_43 : decode cX7_row 43 = .ok (.bipush (-3), 2) := by decide +kernel
theorem dX7_row_45 : decode cX7_row 45 = .ok (.ireturn, 1) := by decide +kernel
theorem dX7_row_46 : decode cX7_row 46 = .ok (.aload_n 0, 1) := by decide +kernel
theorem dX7_row_47 : decode cX7_row 47 = .ok (.getfield 33, 3) := by decide +kernel
theorem dX7_row_50 : decode cX7_row 50 = .ok (.iconst 4, 1) := by decide +kernel
theorem dX7_row_51 : decode cX7_row 51 = .ok (.iload_n 1, 1) := by decide +kernel
theorem dX7_row_52 : decode cX7_row 52 = .ok (.imul, 1) := by decide +kernel
theorem dX7_row_53 : decode cX7_row 53 = .ok (.iload_n 2, 1) := by decide +kernel
theorem dX7_row_54 : decode cX7_row 54 = .ok (.iadd, 1) := by decide +kernel
theorem dX7_row_55 : decode cX7_row 55 = .ok (.iaload, 1) := by decide +kernel
theorem dX7_row_56 : decode cX7_row 56 = .ok (.istore 4, 2) := by decide +kernel
theorem dX7_row_58 : decode cX7_row 58 = .ok (.aload_n 0, 1) := by decide +kernel
theorem dX7_row_59 : decode cX7_row 59 = .ok (.getfield 33, 3) := by decide +kernel
theorem dX7_row_62 : decode cX7_row 62 = .ok (.iconst 4, 1) := by decide +kernel
theorem dX7_row_63 : decode cX7_row 63 = .ok (.iload_n 1, 1) := by decide +kernel
theorem dX7_row_64 : decode cX7_row 64 = .ok (.imul, 1) := by decide +kernel
theorem dX7_row_65 : decode cX7_row 65 = .ok (.iload_n 2, 1) := by decide +kernel
theorem dX7_row_66 : decode cX7_row 66 = .ok (.iadd, 1) := by decide +kernel
theorem dX7_row_67 : decode cX7_row 67 = .ok (.iload_n 3, 1) := by decide +kernel
theorem dX7_row_68 : decode cX7_row 68 = .ok (.iastore, 1) := by decide +kernel
theorem dX7_row_69 : decode cX7_row 69 = .ok (.iload 4, 2) := by decide +kernel
theorem dX7_row_71 : decode cX7_row 71 = .ok (.ireturn, 1) := by decide +kernel
theorem dX7_feed_0 : decode cX7_feed 0 = .ok (.iload_n 1, 1) := by decide +kernel
theorem dX7_feed_1 : decode cX7_feed 1 = .ok (.iconst 0, 1) := by decide +kernel
theorem dX7_feed_2 : decode cX7_feed 2 = .ok (.bipush 127, 2) := by decide +kernel
theorem dX7_feed_4 : decode cX7_feed 4 = .ok (.invokestatic 111, 3) := by decide +kernel
theorem dX7_feed_7 : decode cX7_feed 7 = .ok (.ifCond .ne 6, 3) := by decide +kernel
theorem dX7_feed_10 : decode cX7_feed 10 = .ok (.bipush (-2), 2) := by decide +kernel
theorem dX7_feed_12 : decode cX7_feed 12 = .ok (.ireturn, 1) := by decide +kernel
theorem dX7_feed_13 : decode cX7_feed 13 = .ok (.aload_n 0, 1) := by decide +kernel
theorem dX7_feed_14 : decode cX7_feed 14 = .ok (.getfield 129, 3) := by decide +kernel
theorem dX7_feed_17 : decode cX7_feed 17 = .ok (.bipush 100, 2) := by decide +kernel
theorem dX7_feed_19 : decode cX7_feed 19 = .ok (.if_icmp .ne 6, 3) := by decide +kernel
theorem dX7_feed_22 : decode cX7_feed 22 = .ok (.bipush (-4), 2) := by decide +kernel
theorem dX7_feed_24 : decode cX7_feed 24 = .ok (.ireturn, 1) := by decide +kernel
theorem dX7_feed_25 : decode cX7_feed 25 = .ok (.aload_n 0, 1) := by decide +kernel
theorem dX7_feed_26 : decode cX7_feed 26 = .ok (.getfield 36, 3) := by decide +kernel
theorem dX7_feed_29 : decode cX7_feed 29 = .ok (.aload_n 0, 1) := by decide +kernel
theorem dX7_feed_30 : decode cX7_feed 30 = .ok (.dup, 1) := by decide +kernel
theorem dX7_feed_31 : decode cX7_feed 31 = .ok (.getfield 129, 3) := by decide +kernel
theorem dX7_feed_34 : decode cX7_feed 34 = .ok (.dup_x1, 1) := by decide +kernel
theorem dX7_feed_35 : decode cX7_feed 35 = .ok (.iconst 1, 1) := by decide +kernel
theorem dX7_feed_36 : decode cX7_feed 36 = .ok (.iadd, 1) := by decide +kernel
theorem dX7_feed_37 : decode cX7_feed 37 = .ok (.putfield 129, 3) := by decide +kernel
theorem dX7_feed_40 : decode cX7_feed 40 = .ok (.iload_n 1, 1) := by decide +kernel
theorem dX7_feed_41 : decode cX7_feed 41 = .ok (.iastore, 1) := by decide +kernel
theorem dX7_feed_42 : decode cX7_feed 42 = .ok (.aload_n 0, 1) := by decide +kernel
theorem dX7_feed_43 : decode cX7_feed 43 = .ok (.getfield 129, 3) := by decide +kernel
theorem dX7_feed_46 : decode cX7_feed 46 = .ok (.ireturn, 1) := by decide +kernel
theorem dX7_is_0 : decode cX7_is 0 = .ok (.aload_n 0, 1) := by decide +kernel
theorem dX7_is_1 : decode cX7_is 1 = .ok (.getfield 132, 3) := by decide +kernel
theorem dX7_is_4 : decode cX7_is 4 = .ok (.aload_n 0, 1) := by decide +kernel
theorem dX7_is_5 : decode cX7_is 5 = .ok (.getfield 129, 3) := by decide +kernel
theorem dX7_is_8 : decode cX7_is 8 = .ok (.if_icmp .eq 16, 3) := by decide +kernel
theorem dX7_is_11 : decode cX7_is 11 = .ok (.aload_n 0, 1) := by decide +kernel
theorem dX7_is_12 : decode cX7_is 12 = .ok (.getfield 36, 3) := by decide +kernel
theorem dX7_is_15 : decode cX7_is 15 = .ok (.aload_n 0, 1) := by decide +kernel
theorem dX7_is_16 : decode cX7_is 16 = .ok (.getfield 132, 3) := by decide +kernel
theorem dX7_is_19 : decode cX7_is 19 = .ok (.iaload, 1) := by decide +kernel
theorem dX7_is_20 : decode cX7_is 20 = .ok (.iload_n 1, 1) := by decide +kernel
theorem dX7_is_21 : decode cX7_is 21 = .ok (.if_icmp .eq 5, 3) := by decide +kernel
theorem dX7_is_24 : decode cX7_is 24 = .ok (.iconst 0, 1) := by decide +kernel
theorem dX7_is_25 : decode cX7_is 25 = .ok (.ireturn, 1) := by decide +kernel
theorem dX7_is_26 : decode cX7_is 26 = .ok (.aload_n 0, 1) := by decide +kernel
theorem dX7_is_27 : decode cX7_is 27 = .ok (.dup, 1) := by decide +kernel
theorem dX7_is_28 : decode cX7_is 28 = .ok (.getfield 132, 3) := by decide +kernel
theorem dX7_is_31 : decode cX7_is 31 = .ok (.iconst 1, 1) := by decide +kernel
theorem dX7_is_32 : decode cX7_is 32 = .ok (.iadd, 1) := by decide +kernel
theorem dX7_is_33 : decode cX7_is 33 = .ok (.putfield 132, 3) := by decide +kernel
theorem dX7_is_36 : decode cX7_is 36 = .ok (.iconst 1, 1) := by decide +kernel
theorem dX7_is_37 : decode cX7_is 37 = .ok (.ireturn, 1) := by decide +kernel
theorem dX7_isDigit_0 : decode cX7_isDigit 0 = .ok (.aload_n 0, 1) := by decide +kernel
theorem dX7_isDigit_1 : decode cX7_isDigit 1 = .ok (.getfield 132, 3) := by decide +kernel
theorem dX7_isDigit_4 : decode cX7_isDigit 4 = .ok (.aload_n 0, 1) := by decide +kernel
theorem dX7_isDigit_5 : decode cX7_isDigit 5 = .ok (.getfield 129, 3) := by decide +kernel
theorem dX7_isDigit_8 : decode cX7_isDigit 8 = .ok (.if_icmp .ge 35, 3) := by decide +kernel
theorem dX7_isDigit_11 : decode cX7_isDigit 11 = .ok (.aload_n 0, 1) := by decide +kernel
theorem dX7_isDigit_12 : decode cX7_isDigit 12 = .ok (.getfield 36, 3) := by decide +kernel
theorem dX7_isDigit_15 : decode cX7_isDigit 15 = .ok (.aload_n 0, 1) := by decide +kernel
theorem dX7_isDigit_16 : decode cX7_isDigit 16 = .ok (.getfield 132, 3) := by decide +kernel
theorem dX7_isDigit_19 : decode cX7_isDigit 19 = .ok (.iaload, 1) := by decide +kernel
theorem dX7_isDigit_20 : decode cX7_isDigit 20 = .ok (.bipush 48, 2) := by decide +kernel
theorem dX7_isDigit_22 : decode cX7_isDigit 22 = .ok (.if_icmp .lt 21, 3) := by decide +kernel
theorem dX7_isDigit_25 : decode cX7_isDigit 25 = .ok (.aload_n 0, 1) := by decide +kernel
theorem dX7_isDigit_26 : decode cX7_isDigit 26 = .ok (.getfield 36, 3) := by decide +kernel
theorem dX7_isDigit_29 : decode cX7_isDigit 29 = .ok (.aload_n 0, 1) := by decide +kernel
theorem dX7_isDigit_30 : decode cX7_isDigit 30 = .ok (.getfield 132, 3) := by decide +kernel
theorem dX7_isDigit_33 : decode cX7_isDigit 33 = .ok (.iaload, 1) := by decide +kernel
theorem dX7_isDigit_34 : decode cX7_isDigit 34 = .ok (.bipush 57, 2) := by decide +kernel
theorem dX7_isDigit_36 : decode cX7_isDigit 36 = .ok (.if_icmp .gt 7, 3) := by decide +kernel
theorem dX7_isDigit_39 : decode cX7_isDigit 39 = .ok (.iconst 1, 1) := by decide +kernel
theorem dX7_isDigit_40 : decode cX7_isDigit 40 = .ok (.goto 4, 3) := by decide +kernel
theorem dX7_isDigit_43 : decode cX7_isDigit 43 = .ok (.iconst 0, 1) := by decide +kernel
theorem dX7_isDigit_44 : decode cX7_isDigit 44 = .ok (.ireturn, 1) := by decide +kernel
theorem dX7_isNumber_0 : decode cX7_isNumber 0 = .ok (.aload_n 0, 1) := by decide +kernel
theorem dX7_isNumber_1 : decode cX7_isNumber 1 = .ok (.iconst 0, 1) := by decide +kernel
theorem dX7_isNumber_2 : decode cX7_isNumber 2 = .ok (.putfield 135, 3) := by decide +kernel
theorem dX7_isNumber_5 : decode cX7_isNumber 5 = .ok (.aload_n 0, 1) := by decide +kernel
theorem dX7_isNumber_6 : decode cX7_isNumber 6 = .ok (.iconst 0, 1) := by decide +kernel
theorem dX7_isNumber_7 : decode cX7_isNumber 7 = .ok (.putfield 138, 3) := by decide +kernel
theorem dX7_isNumber_10 : decode cX7_isNumber 10 = .ok (.aload_n 0, 1) := by decide +kernel
theorem dX7_isNumber_11 : decode cX7_isNumber 11 = .ok (.getfield 138, 3) := by decide +kernel
theorem dX7_isNumber_14 : decode cX7_isNumber 14 = .ok (.iconst 2, 1) := by decide +kernel
theorem dX7_isNumber_15 : decode cX7_isNumber 15 = .ok (.if_icmp .ge 57, 3) := by decide +kernel
theorem dX7_isNumber_18 : decode cX7_isNumber 18 = .ok (.aload_n 0, 1) := by decide +kernel
theorem dX7_isNumber_19 : decode cX7_isNumber 19 = .ok (.invokevirtual 141, 3) := by decide +kernel
theorem dX7_isNumber_22 : decode cX7_isNumber 22 = .ok (.ifCond .eq 50, 3) := by decide +kernel
theorem dX7_isNumber_25 : decode cX7_isNumber 25 = .ok (.aload_n 0, 1) := by decide +kernel
theorem dX7_isNumber_26 : decode cX7_isNumber 26 = .ok (.bipush 10, 2) := by decide +kernel
theorem dX7_isNumber_28 : decode cX7_isNumber 28 = .ok (.aload_n 0, 1) := by decide +kernel
theorem dX7_isNumber_29 : decode cX7_isNumber 29 = .ok (.getfield 135, 3) := by decide +kernel
theorem dX7_isNumber_32 : decode cX7_isNumber 32 = .ok (.imul, 1) := by decide +kernel
theorem dX7_isNumber_33 : decode cX7_isNumber 33 = .ok (.aload_n 0, 1) := by decide +kernel
theorem dX7_isNumber_34 : decode cX7_isNumber 34 = .ok (.getfield 36, 3) := by decide +kernel
theorem dX7_isNumber_37 : decode cX7_isNumber 37 = .ok (.aload_n 0, 1) := by decide +kernel
theorem dX7_isNumber_38 : decode cX7_isNumber 38 = .ok (.getfield 132, 3) := by decide +kernel
theorem dX7_isNumber_41 : decode cX7_isNumber 41 = .ok (.iaload, 1) := by decide +kernel
theorem dX7_isNumber_42 : decode cX7_isNumber 42 = .ok (.iadd, 1) := by decide +kernel
theorem dX7_isNumber_43 : decode cX7_isNumber 43 = .ok (.bipush 48, 2) := by decide +kernel
theorem dX7_isNumber_45 : decode cX7_isNumber 45 = .ok (.isub, 1) := by decide +kernel
theorem dX7_isNumber_46 : decode cX7_isNumber 46 = .ok (.putfield 135, 3) := by decide +kernel
theorem dX7_isNumber_49 : decode cX7_isNumber 49 = .ok (.aload_n 0, 1) := by decide +kernel
theorem dX7_isNumber_50 : decode cX7_isNumber 50 = .ok (.dup, 1) := by decide +kernel
theorem dX7_isNumber_51 : decode cX7_isNumber 51 = .ok (.getfield 132, 3) := by decide +kernel
theorem dX7_isNumber_54 : decode cX7_isNumber 54 = .ok (.iconst 1, 1) := by decide +kernel
theorem dX7_isNumber_55 : decode cX7_isNumber 55 = .ok (.iadd, 1) := by decide +kernel
theorem dX7_isNumber_56 : decode cX7_isNumber 56 = .ok (.putfield 132, 3) := by decide +kernel
theorem dX7_isNumber_59 : decode cX7_isNumber 59 = .ok (.aload_n 0, 1) := by decide +kernel
theorem dX7_isNumber_60 : decode cX7_isNumber 60 = .ok (.dup, 1) := by decide +kernel
theorem dX7_isNumber_61 : decode cX7_isNumber 61 = .ok (.getfield 138, 3) := by decide +kernel
theorem dX7_isNumber_64 : decode cX7_isNumber 64 = .ok (.iconst 1, 1) := by decide +kernel
theorem dX7_isNumber_65 : decode cX7_isNumber 65 = .ok (.iadd, 1) := by decide +kernel
theorem dX7_isNumber_66 : decode cX7_isNumber 66 = .ok (.putfield 138, 3) := by decide +kernel
theorem dX7_isNumber_69 : decode cX7_isNumber 69 = .ok (.goto (-59), 3) := by decide +kernel
theorem dX7_isNumber_72 : decode cX7_isNumber 72 = .ok (.aload_n 0, 1) := by decide +kernel
theorem dX7_isNumber_73 : decode cX7_isNumber 73 = .ok (.getfield 138, 3) := by decide +kernel
theorem dX7_isNumber_76 : decode cX7_isNumber 76 = .ok (.ifCond .le 7, 3) := by decide +kernel
theorem dX7_isNumber_79 : decode cX7_isNumber 79 = .ok (.iconst 1, 1) := by decide +kernel
theorem dX7_isNumber_80 : decode cX7_isNumber 80 = .ok (.goto 4, 3) := by decide +kernel
theorem dX7_isNumber_83 : decode cX7_isNumber 83 = .ok (.iconst 0, 1) := by decide +kernel
theorem dX7_isNumber_84 : decode cX7_isNumber 84 = .ok (.ireturn, 1) := by decide +kernel
theorem dX7_isAll_0 : decode cX7_isAll 0 = .ok (.iconst 0, 1) := by decide +kernel
theorem dX7_isAll_1 : decode cX7_isAll 1 = .ok (.istore_n 2, 1) := by decide +kernel
theorem dX7_isAll_2 : decode cX7_isAll 2 = .ok (.iload_n 2, 1) := by decide +kernel
theorem dX7_isAll_3 : decode cX7_isAll 3 = .ok (.aload_n 1, 1) := by decide +kernel
theorem dX7_isAll_4 : decode cX7_isAll 4 = .ok (.invokevirtual 145, 3) := by decide +kernel
theorem dX7_isAll_7 : decode cX7_isAll 7 = .ok (.if_icmp .ge 23, 3) := by decide +kernel
theorem dX7_isAll_10 : decode cX7_isAll 10 = .ok (.aload_n 0, 1) := by decide +kernel
theorem dX7_isAll_11 : decode cX7_isAll 11 = .ok (.aload_n 1, 1) := by decide +kernel
theorem dX7_isAll_12 : decode cX7_isAll 12 = .ok (.iload_n 2, 1) := by decide +kernel
theorem dX7_isAll_13 : decode cX7_isAll 13 = .ok (.invokevirtual 150, 3) := by decide +kernel
theorem dX7_isAll_16 : decode cX7_isAll 16 = .ok (.invokevirtual 154, 3) := by decide +kernel
theorem dX7_isAll_19 : decode cX7_isAll 19 = .ok (.ifCond .ne 5, 3) := by decide +kernel
theorem dX7_isAll_22 : decode cX7_isAll 22 = .ok (.iconst 0, 1) := by decide +kernel
theorem dX7_isAll_23 : decode cX7_isAll 23 = .ok (.ireturn, 1) := by decide +kernel
theorem dX7_isAll_24 : decode cX7_isAll 24 = .ok (.iinc 2 1, 3) := by decide +kernel
theorem dX7_isAll_27 : decode cX7_isAll 27 = .ok (.goto (-25), 3) := by decide +kernel
theorem dX7_isAll_30 : decode cX7_isAll 30 = .ok (.iconst 1, 1) := by decide +kernel
theorem dX7_isAll_31 : decode cX7_isAll 31 = .ok (.ireturn, 1) := by decide +kernel
theorem dX7_codes_0 : decode cX7_codes 0 = .ok (.aload_n 0, 1) := by decide +kernel
theorem dX7_codes_1 : decode cX7_codes 1 = .ok (.getfield 54, 3) := by decide +kernel
theorem dX7_codes_4 : decode cX7_codes 4 = .ok (.aload_n 0, 1) := by decide +kernel
theorem dX7_codes_5 : decode cX7_codes 5 = .ok (.dup, 1) := by decide +kernel
theorem dX7_codes_6 : decode cX7_codes 6 = .ok (.getfield 157, 3) := by decide +kernel
theorem dX7_codes_9 : decode cX7_codes 9 = .ok (.dup_x1, 1) := by decide +kernel
theorem dX7_codes_10 : decode cX7_codes 10 = .ok (.iconst 1, 1) := by decide +kernel
theorem dX7_codes_11 : decode cX7_codes 11 = .ok (.iadd, 1) := by decide +kernel
theorem dX7_codes_12 : decode cX7_codes 12 = .ok (.putfield 157, 3) := by decide +kernel
theorem dX7_codes_15 : decode cX7_codes 15 = .ok (.iload_n 1, 1) := by decide +kernel
theorem dX7_codes_16 : decode cX7_codes 16 = .ok (.iastore, 1) := by decide +kernel
theorem dX7_codes_17 : decode cX7_codes 17 = .ok (.iconst 1, 1) := by decide +kernel
theorem dX7_codes_18 : decode cX7_codes 18 = .ok (.ireturn, 1) := by decide +kernel
theorem dX7_isTest_0 : decode cX7_isTest 0 = .ok (.aload_n 0, 1) := by decide +kernel
theorem dX7_isTest_1 : decode cX7_isTest 1 = .ok (.getfield 132, 3) := by decide +kernel
theorem dX7_isTest_4 : decode cX7_isTest 4 = .ok (.aload_n 0, 1) := by decide +kernel
theorem dX7_isTest_5 : decode cX7_isTest 5 = .ok (.getfield 129, 3) := by decide +kernel
theorem dX7_isTest_8 : decode cX7_isTest 8 = .ok (.if_icmp .ge 32, 3) := by decide +kernel
theorem dX7_isTest_11 : decode cX7_isTest 11 = .ok (.aload_n 0, 1) := by decide +kernel
theorem dX7_isTest_12 : decode cX7_isTest 12 = .ok (.getfield 36, 3) := by decide +kernel
theorem dX7_isTest_15 : decode cX7_isTest 15 = .ok (.aload_n 0, 1) := by decide +kernel
theorem dX7_isTest_16 : decode cX7_isTest 16 = .ok (.getfield 132, 3) := by decide +kernel
theorem dX7_isTest_19 : decode cX7_isTest 19 = .ok (.iaload, 1) := by decide +kernel
theorem dX7_isTest_20 : decode cX7_isTest 20 = .ok (.ifCond .le 20, 3) := by decide +kernel
theorem dX7_isTest_23 : decode cX7_isTest 23 = .ok (.ldc 160, 2) := by decide +kernel
theorem dX7_isTest_25 : decode cX7_isTest 25 = .ok (.aload_n 0, 1) := by decide +kernel
theorem dX7_isTest_26 : decode cX7_isTest 26 = .ok (.getfield 36, 3) := by decide +kernel
theorem dX7_isTest_29 : decode cX7_isTest 29 = .ok (.aload_n 0, 1) := by decide +kernel
theorem dX7_isTest_30 : decode cX7_isTest 30 = .ok (.getfield 132, 3) := by decide +kernel
theorem dX7_isTest_33 : decode cX7_isTest 33 = .ok (.iaload, 1) := by decide +kernel
theorem dX7_isTest_34 : decode cX7_isTest 34 = .ok (.invokevirtual 162, 3) := by decide +kernel
theorem dX7_isTest_37 : decode cX7_isTest 37 = .ok (.goto 4, 3) := by decide +kernel
theorem dX7_isTest_40 : decode cX7_isTest 40 = .ok (.iconst (-1), 1) := by decide +kernel
theorem dX7_isTest_41 : decode cX7_isTest 41 = .ok (.istore_n 1, 1) := by decide +kernel
theorem dX7_isTest_42 : decode cX7_isTest 42 = .ok (.iload_n 1, 1) := by decide +kernel
theorem dX7_isTest_43 : decode cX7_isTest 43 = .ok (.ifCond .ge 5, 3) := by decide +kernel
theorem dX7_isTest_46 : decode cX7_isTest 46 = .ok (.iconst 0, 1) := by decide +kernel
theorem dX7_isTest_47 : decode cX7_isTest 47 = .ok (.ireturn, 1) := by decide +kernel
theorem dX7_isTest_48 : decode cX7_isTest 48 = .ok (.aload_n 0, 1) := by decide +kernel
theorem dX7_isTest_49 : decode cX7_isTest 49 = .ok (.dup, 1) := by decide +kernel
theorem dX7_isTest_50 : decode cX7_isTest 50 = .ok (.getfield 132, 3) := by decide +kernel
theorem dX7_isTest_53 : decode cX7_isTest 53 = .ok (.iconst 1, 1) := by decide +kernel
theorem dX7_isTest_54 : decode cX7_isTest 54 = .ok (.iadd, 1) := by decide +kernel
theorem dX7_isTest_55 : decode cX7_isTest 55 = .ok (.putfield 132, 3) := by decide +kernel
theorem dX7_isTest_58 : decode cX7_isTest 58 = .ok (.aload_n 0, 1) := by decide +kernel
theorem dX7_isTest_59 : decode cX7_isTest 59 = .ok (.getfield 132, 3) := by decide +kernel
theorem dX7_isTest_62 : decode cX7_isTest 62 = .ok (.aload_n 0, 1) := by decide +kernel
theorem dX7_isTest_63 : decode cX7_isTest 63 = .ok (.getfield 129, 3) := by decide +kernel
theorem dX7_isTest_66 : decode cX7_isTest 66 = .ok (.if_icmp .ge 32, 3) := by decide +kernel
theorem dX7_isTest_69 : decode cX7_isTest 69 = .ok (.aload_n 0, 1) := by decide +kernel
theorem dX7_isTest_70 : decode cX7_isTest 70 = .ok (.getfield 36, 3) := by decide +kernel
theorem dX7_isTest_73 : decode cX7_isTest 73 = .ok (.aload_n 0, 1) := by decide +kernel
theorem dX7_isTest_74 : decode cX7_isTest 74 = .ok (.getfield 132, 3) := by decide +kernel
theorem dX7_isTest_77 : decode cX7_isTest 77 = .ok (.iaload, 1) := by decide +kernel
theorem dX7_isTest_78 : decode cX7_isTest 78 = .ok (.ifCond .le 20, 3) := by decide +kernel
theorem dX7_isTest_81 : decode cX7_isTest 81 = .ok (.ldc 165, 2) := by decide +kernel
theorem dX7_isTest_83 : decode cX7_isTest 83 = .ok (.aload_n 0, 1) := by decide +kernel
theorem dX7_isTest_84 : decode cX7_isTest 84 = .ok (.getfield 36, 3) := by decide +kernel
theorem dX7_isTest_87 : decode cX7_isTest 87 = .ok (.aload_n 0, 1) := by decide +kernel
theorem dX7_isTest_88 : decode cX7_isTest 88 = .ok (.getfield 132, 3) := by decide +kernel
theorem dX7_isTest_91 : decode cX7_isTest 91 = .ok (.iaload, 1) := by decide +kernel
theorem dX7_isTest_92 : decode cX7_isTest 92 = .ok (.invokevirtual 162, 3) := by decide +kernel
theorem dX7_isTest_95 : decode cX7_isTest 95 = .ok (.goto 4, 3) := by decide +kernel
theorem dX7_isTest_98 : decode cX7_isTest 98 = .ok (.iconst (-1), 1) := by decide +kernel
theorem dX7_isTest_99 : decode cX7_isTest 99 = .ok (.istore_n 2, 1) := by decide +kernel
theorem dX7_isTest_100 : decode cX7_isTest 100 = .ok (.iload_n 2, 1) := by decide +kernel
theorem dX7_isTest_101 : decode cX7_isTest 101 = .ok (.ifCond .ge 5, 3) := by decide +kernel
theorem dX7_isTest_104 : decode cX7_isTest 104 = .ok (.iconst 0, 1) := by decide +kernel
theorem dX7_isTest_105 : decode cX7_isTest 105 = .ok (.ireturn, 1) := by decide +kernel
theorem dX7_isTest_106 : decode cX7_isTest 106 = .ok (.aload_n 0, 1) := by decide +kernel
theorem dX7_isTest_107 : decode cX7_isTest 107 = .ok (.dup, 1) := by decide +kernel
theorem dX7_isTest_108 : decode cX7_isTest 108 = .ok (.getfield 132, 3) := by decide +kernel
theorem dX7_isTest_111 : decode cX7_isTest 111 = .ok (.iconst 1, 1) := by decide +kernel
theorem dX7_isTest_112 : decode cX7_isTest 112 = .ok (.iadd, 1) := by decide +kernel
theorem dX7_isTest_113 : decode cX7_isTest 113 = .ok (.putfield 132, 3) := by decide +kernel
theorem dX7_isTest_116 : decode cX7_isTest 116 = .ok (.aload_n 0, 1) := by decide +kernel
theorem dX7_isTest_117 : decode cX7_isTest 117 = .ok (.invokevirtual 167, 3) := by decide +kernel
theorem dX7_isTest_120 : decode cX7_isTest 120 = .ok (.ifCond .eq 31, 3) := by decide +kernel
theorem dX7_isTest_123 : decode cX7_isTest 123 = .ok (.aload_n 0, 1) := by decide +kernel
theorem dX7_isTest_124 : decode cX7_isTest 124 = .ok (.iconst 3, 1) := by decide +kernel
theorem dX7_isTest_125 : decode cX7_isTest 125 = .ok (.sipush 300, 3) := by decide +kernel
theorem dX7_isTest_128 : decode cX7_isTest 128 = .ok (.iload_n 1, 1) := by decide +kernel
theorem dX7_isTest_129 : decode cX7_isTest 129 = .ok (.imul, 1) := by decide +kernel
theorem dX7_isTest_130 : decode cX7_isTest 130 = .ok (.iadd, 1) := by decide +kernel
theorem dX7_isTest_131 : decode cX7_isTest 131 = .ok (.bipush 100, 2) := by decide +kernel
theorem dX7_isTest_133 : decode cX7_isTest 133 = .ok (.iload_n 2, 1) := by decide +kernel
theorem dX7_isTest_134 : decode cX7_isTest 134 = .ok (.imul, 1) := by decide +kernel
theorem dX7_isTest_135 : decode cX7_isTest 135 = .ok (.iadd, 1) := by decide +kernel
theorem dX7_isTest_136 : decode cX7_isTest 136 = .ok (.aload_n 0, 1) := by decide +kernel
theorem dX7_isTest_137 : decode cX7_isTest 137 = .ok (.getfield 135, 3) := by decide +kernel
theorem dX7_isTest_140 : decode cX7_isTest 140 = .ok (.iadd, 1) := by decide +kernel
theorem dX7_isTest_141 : decode cX7_isTest 141 = .ok (.invokevirtual 170, 3) := by decide +kernel
theorem dX7_isTest_144 : decode cX7_isTest 144 = .ok (.ifCond .eq 7, 3) := by decide +kernel
theorem dX7_isTest_147 : decode cX7_isTest 147 = .ok (.iconst 1, 1) := by decide +kernel
theorem dX7_isTest_148 : decode cX7_isTest 148 = .ok (.goto 4, 3) := by decide +kernel
theorem dX7_isTest_151 : decode cX7_isTest 151 = .ok (.iconst 0, 1) := by decide +kernel
theorem dX7_isTest_152 : decode cX7_isTest 152 = .ok (.ireturn, 1) := by decide +kernel
theorem dX7_isOpened_0 : decode cX7_isOpened 0 = .ok (.aload_n 0, 1) := by decide +kernel
theorem dX7_isOpened_1 : decode cX7_isOpened 1 = .ok (.getfield 173, 3) := by decide +kernel
theorem dX7_isOpened_4 : decode cX7_isOpened 4 = .ok (.iconst 4, 1) := by decide +kernel
theorem dX7_isOpened_5 : decode cX7_isOpened 5 = .ok (.if_icmp .eq 11, 3) := by decide +kernel
theorem dX7_isOpened_8 : decode cX7_isOpened 8 = .ok (.aload_n 0, 1) := by decide +kernel
theorem dX7_isOpened_9 : decode cX7_isOpened 9 = .ok (.iload_n 1, 1) := by decide +kernel
theorem dX7_isOpened_10 : decode cX7_isOpened 10 = .ok (.invokevirtual 154, 3) := by decide +kernel
theorem dX7_isOpened_13 : decode cX7_isOpened 13 = .ok (.ifCond .ne 5, 3) := by decide +kernel
theorem dX7_isOpened_16 : decode cX7_isOpened 16 = .ok (.iconst 0, 1) := by decide +kernel
theorem dX7_isOpened_17 : decode cX7_isOpened 17 = .ok (.ireturn, 1) := by decide +kernel
theorem dX7_isOpened_18 : decode cX7_isOpened 18 = .ok (.aload_n 0, 1) := by decide +kernel
theorem dX7_isOpened_19 : decode cX7_isOpened 19 = .ok (.dup, 1) := by decide +kernel
theorem dX7_isOpened_20 : decode cX7_isOpened 20 = .ok (.getfield 173, 3) := by decide +kernel
theorem dX7_isOpened_23 : decode cX7_isOpened 23 = .ok (.iconst 1, 1) := by decide +kernel
theorem dX7_isOpened_24 : decode cX7_isOpened 24 = .ok (.iadd, 1) := by decide +kernel
theorem dX7_isOpened_25 : decode cX7_isOpened 25 = .ok (.putfield 173, 3) := by decide +kernel
theorem dX7_isOpened_28 : decode cX7_isOpened 28 = .ok (.iconst 1, 1) := by decide +kernel
theorem dX7_isOpened_29 : decode cX7_isOpened 29 = .ok (.ireturn, 1) := by decide +kernel
theorem dX7_isF_0 : decode cX7_isF 0 = .ok (.aload_n 0, 1) := by decide +kernel
theorem dX7_isF_1 : decode cX7_isF 1 = .ok (.bipush 33, 2) := by decide +kernel
theorem dX7_isF_3 : decode cX7_isF 3 = .ok (.invokevirtual 176, 3) := by decide +kernel
theorem dX7_isF_6 : decode cX7_isF 6 = .ok (.ifCond .eq 27, 3) := by decide +kernel
theorem dX7_isF_9 : decode cX7_isF 9 = .ok (.aload_n 0, 1) := by decide +kernel
theorem dX7_isF_10 : decode cX7_isF 10 = .ok (.invokevirtual 179, 3) := by decide +kernel
theorem dX7_isF_13 : decode cX7_isF 13 = .ok (.ifCond .eq 15, 3) := by decide +kernel
theorem dX7_isF_16 : decode cX7_isF 16 = .ok (.aload_n 0, 1) := by decide +kernel
theorem dX7_isF_17 : decode cX7_isF 17 = .ok (.iconst 0, 1) := by decide +kernel
theorem dX7_isF_18 : decode cX7_isF 18 = .ok (.invokevirtual 170, 3) := by decide +kernel
theorem dX7_isF_21 : decode cX7_isF 21 = .ok (.ifCond .eq 7, 3) := by decide +kernel
theorem dX7_isF_24 : decode cX7_isF 24 = .ok (.iconst 1, 1) := by decide +kernel
theorem dX7_isF_25 : decode cX7_isF 25 = .ok (.goto 4, 3) := by decide +kernel
theorem dX7_isF_28 : decode cX7_isF 28 = .ok (.iconst 0, 1) := by decide +kernel
theorem dX7_isF_29 : decode cX7_isF 29 = .ok (.istore_n 1, 1) := by decide +kernel
theorem dX7_isF_30 : decode cX7_isF 30 = .ok (.goto 42, 3) := by decide +kernel
theorem dX7_isF_33 : decode cX7_isF 33 = .ok (.aload_n 0, 1) := by decide +kernel
theorem dX7_isF_34 : decode cX7_isF 34 = .ok (.bipush 40, 2) := by decide +kernel
theorem dX7_isF_36 : decode cX7_isF 36 = .ok (.invokevirtual 176, 3) := by decide +kernel
theorem dX7_isF_39 : decode cX7_isF 39 = .ok (.ifCond .eq 28, 3) := by decide +kernel
theorem dX7_isF_42 : decode cX7_isF 42 = .ok (.aload_n 0, 1) := by decide +kernel
theorem dX7_isF_43 : decode cX7_isF 43 = .ok (.invokevirtual 182, 3) := by decide +kernel
theorem dX7_isF_46 : decode cX7_isF 46 = .ok (.ifCond .eq 16, 3) := by decide +kernel
theorem dX7_isF_49 : decode cX7_isF 49 = .ok (.aload_n 0, 1) := by decide +kernel
theorem dX7_isF_50 : decode cX7_isF 50 = .ok (.bipush 41, 2) := by decide +kernel
theorem dX7_isF_52 : decode cX7_isF 52 = .ok (.invokevirtual 154, 3) := by decide +kernel
theorem dX7_isF_55 : decode cX7_isF 55 = .ok (.ifCond .eq 7, 3) := by decide +kernel
theorem dX7_isF_58 : decode cX7_isF 58 = .ok (.iconst 1, 1) := by decide +kernel
theorem dX7_isF_59 : decode cX7_isF 59 = .ok (.goto 4, 3) := by decide +kernel
theorem dX7_isF_62 : decode cX7_isF 62 = .ok (.iconst 0, 1) := by decide +kernel
theorem dX7_isF_63 : decode cX7_isF 63 = .ok (.istore_n 1, 1) := by decide +kernel
theorem dX7_isF_64 : decode cX7_isF 64 = .ok (.goto 8, 3) := by decide +kernel
theorem dX7_isF_67 : decode cX7_isF 67 = .ok (.aload_n 0, 1) := by decide +kernel
theorem dX7_isF_68 : decode cX7_isF 68 = .ok (.invokevirtual 185, 3) := by decide +kernel
theorem dX7_isF_71 : decode cX7_isF 71 = .ok (.ireturn, 1) := by decide +kernel
theorem dX7_isF_72 : decode cX7_isF 72 = .ok (.aload_n 0, 1) := by decide +kernel
theorem dX7_isF_73 : decode cX7_isF 73 = .ok (.dup, 1) := by decide +kernel
theorem dX7_isF_74 : decode cX7_isF 74 = .ok (.getfield 173, 3) := by decide +kernel
theorem dX7_isF_77 : decode cX7_isF 77 = .ok (.iconst 1, 1) := by decide +kernel
theorem dX7_isF_78 : decode cX7_isF 78 = .ok (.isub, 1) := by decide +kernel
theorem dX7_isF_79 : decode cX7_isF 79 = .ok (.putfield 173, 3) := by decide +kernel
theorem dX7_isF_82 : decode cX7_isF 82 = .ok (.iload_n 1, 1) := by decide +kernel
theorem dX7_isF_83 : decode cX7_isF 83 = .ok (.ireturn, 1) := by decide +kernel
theorem dX7_isT_0 : decode cX7_isT 0 = .ok (.aload_n 0, 1) := by decide +kernel
theorem dX7_isT_1 : decode cX7_isT 1 = .ok (.invokevirtual 179, 3) := by decide +kernel
theorem dX7_isT_4 : decode cX7_isT 4 = .ok (.ifCond .ne 5, 3) := by decide +kernel
theorem dX7_isT_7 : decode cX7_isT 7 = .ok (.iconst 0, 1) := by decide +kernel
theorem dX7_isT_8 : decode cX7_isT 8 = .ok (.ireturn, 1) := by decide +kernel
theorem dX7_isT_9 : decode cX7_isT 9 = .ok (.aload_n 0, 1) := by decide +kernel
theorem dX7_isT_10 : decode cX7_isT 10 = .ok (.bipush 38, 2) := by decide +kernel
theorem dX7_isT_12 : decode cX7_isT 12 = .ok (.invokevirtual 154, 3) := by decide +kernel
theorem dX7_isT_15 : decode cX7_isT 15 = .ok (.ifCond .eq 20, 3) := by decide +kernel
theorem dX7_isT_18 : decode cX7_isT 18 = .ok (.aload_n 0, 1) := by decide +kernel
theorem dX7_isT_19 : decode cX7_isT 19 = .ok (.invokevirtual 179, 3) := by decide +kernel
theorem dX7_isT_22 : decode cX7_isT 22 = .ok (.ifCond .eq 11, 3) := by decide +kernel
theorem dX7_isT_25 : decode cX7_isT 25 = .ok (.aload_n 0, 1) := by decide +kernel
theorem dX7_isT_26 : decode cX7_isT 26 = .ok (.iconst 1, 1) := by decide +kernel
theorem dX7_isT_27 : decode cX7_isT 27 = .ok (.invokevirtual 170, 3) := by decide +kernel
theorem dX7_isT_30 : decode cX7_isT 30 = .ok (.ifCond .ne (-21), 3) := by decide +kernel
theorem dX7_isT_33 : decode cX7_isT 33 = .ok (.iconst 0, 1) := by decide +kernel
theorem dX7_isT_34 : decode cX7_isT 34 = .ok (.ireturn, 1) := by decide +kernel
theorem dX7_isT_35 : decode cX7_isT 35 = .ok (.iconst 1, 1) := by decide +kernel
theorem dX7_isT_36 : decode cX7_isT 36 = .ok (.ireturn, 1) := by decide +kernel
theorem dX7_isE_0 : decode cX7_isE 0 = .ok (.aload_n 0, 1) := by decide +kernel
theorem dX7_isE_1 : decode cX7_isE 1 = .ok (.invokevirtual 188, 3) := by decide +kernel
theorem dX7_isE_4 : decode cX7_isE 4 = .ok (.ifCond .ne 5, 3) := by decide +kernel
theorem dX7_isE_7 : decode cX7_isE 7 = .ok (.iconst 0, 1) := by decide +kernel
theorem dX7_isE_8 : decode cX7_isE 8 = .ok (.ireturn, 1) := by decide +kernel
theorem dX7_isE_9 : decode cX7_isE 9 = .ok (.aload_n 0, 1) := by decide +kernel
theorem dX7_isE_10 : decode cX7_isE 10 = .ok (.bipush 124, 2) := by decide +kernel
theorem dX7_isE_12 : decode cX7_isE 12 = .ok (.invokevirtual 154, 3) := by decide +kernel
theorem dX7_isE_15 : decode cX7_isE 15 = .ok (.ifCond .eq 20, 3) := by decide +kernel
theorem dX7_isE_18 : decode cX7_isE 18 = .ok (.aload_n 0, 1) := by decide +kernel
theorem dX7_isE_19 : decode cX7_isE 19 = .ok (.invokevirtual 188, 3) := by decide +kernel
theorem dX7_isE_22 : decode cX7_isE 22 = .ok (.ifCond .eq 11, 3) := by decide +kernel
theorem dX7_isE_25 : decode cX7_isE 25 = .ok (.aload_n 0, 1) := by decide +kernel
theorem dX7_isE_26 : decode cX7_isE 26 = .ok (.iconst 2, 1) := by decide +kernel
theorem dX7_isE_27 : decode cX7_isE 27 = .ok (.invokevirtual 170, 3) := by decide +kernel
theorem dX7_isE_30 : decode cX7_isE 30 = .ok (.ifCond .ne (-21), 3) := by decide +kernel
theorem dX7_isE_33 : decode cX7_isE 33 = .ok (.iconst 0, 1) := by decide +kernel
theorem dX7_isE_34 : decode cX7_isE 34 = .ok (.ireturn, 1) := by decide +kernel
theorem dX7_isE_35 : decode cX7_isE 35 = .ok (.iconst 1, 1) := by decide +kernel
theorem dX7_isE_36 : decode cX7_isE 36 = .ok (.ireturn, 1) := by decide +kernel
theorem dX7_isClause_0 : decode cX7_isClause 0 = .ok (.iconst (-1), 1) := by decide +kernel
theorem dX7_isClause_1 : decode cX7_isClause 1 = .ok (.istore_n 2, 1) := by decide +kernel
theorem dX7_isClause_2 : decode cX7_isClause 2 = .ok (.aload_n 0, 1) := by decide +kernel
theorem dX7_isClause_3 : decode cX7_isClause 3 = .ok (.getfield 132, 3) := by decide +kernel
theorem dX7_isClause_6 : decode cX7_isClause 6 = .ok (.aload_n 0, 1) := by decide +kernel
theorem dX7_isClause_7 : decode cX7_isClause 7 = .ok (.getfield 129, 3) := by decide +kernel
theorem dX7_isClause_10 : decode cX7_isClause 10 = .ok (.if_icmp .ge 59, 3) := by decide +kernel
theorem dX7_isClause_13 : decode cX7_isClause 13 = .ok (.aload_n 0, 1) := by decide +kernel
theorem dX7_isClause_14 : decode cX7_isClause 14 = .ok (.getfield 36, 3) := by decide +kernel
theorem dX7_isClause_17 : decode cX7_isClause 17 = .ok (.aload_n 0, 1) := by decide +kernel
theorem dX7_isClause_18 : decode cX7_isClause 18 = .ok (.getfield 132, 3) := by decide +kernel
theorem dX7_isClause_21 : decode cX7_isClause 21 = .ok (.iaload, 1) := by decide +kernel
theorem dX7_isClause_22 : decode cX7_isClause 22 = .ok (.bipush 108, 2) := by decide +kernel
theorem dX7_isClause_24 : decode cX7_isClause 24 = .ok (.if_icmp .ne 7, 3) := by decide +kernel
theorem dX7_isClause_27 : decode cX7_isClause 27 = .ok (.iconst 0, 1) := by decide +kernel
theorem dX7_isClause_28 : decode cX7_isClause 28 = .ok (.goto 40, 3) := by decide +kernel
theorem dX7_isClause_31 : decode cX7_isClause 31 = .ok (.aload_n 0, 1) := by decide +kernel
theorem dX7_isClause_32 : decode cX7_isClause 32 = .ok (.getfield 36, 3) := by decide +kernel
theorem dX7_isClause_35 : decode cX7_isClause 35 = .ok (.aload_n 0, 1) := by decide +kernel
theorem dX7_isClause_36 : decode cX7_isClause 36 = .ok (.getfield 132, 3) := by decide +kernel
theorem dX7_isClause_39 : decode cX7_isClause 39 = .ok (.iaload, 1) := by decide +kernel
theorem dX7_isClause_40 : decode cX7_isClause 40 = .ok (.bipush 101, 2) := by decide +kernel
theorem dX7_isClause_42 : decode cX7_isClause 42 = .ok (.if_icmp .ne 7, 3) := by decide +kernel
theorem dX7_isClause_45 : decode cX7_isClause 45 = .ok (.iconst 1, 1) := by decide +kernel
theorem dX7_isClause_46 : decode cX7_isClause 46 = .ok (.goto 22, 3) := by decide +kernel
theorem dX7_isClause_49 : decode cX7_isClause 49 = .ok (.aload_n 0, 1) := by decide +kernel
theorem dX7_isClause_50 : decode cX7_isClause 50 = .ok (.getfield 36, 3) := by decide +kernel
theorem dX7_isClause_53 : decode cX7_isClause 53 = .ok (.aload_n 0, 1) := by decide +kernel
theorem dX7_isClause_54 : decode cX7_isClause 54 = .ok (.getfield 132, 3) := by decide +kernel
theorem dX7_isClause_57 : decode cX7_isClause 57 = .ok (.iaload, 1) := by decide +kernel
theorem dX7_isClause_58 : decode cX7_isClause 58 = .ok (.bipush 97, 2) := by decide +kernel
theorem dX7_isClause_60 : decode cX7_isClause 60 = .ok (.if_icmp .ne 7, 3) := by decide +kernel
theorem dX7_isClause_63 : decode cX7_isClause 63 = .ok (.iconst 2, 1) := by decide +kernel
theorem dX7_isClause_64 : decode cX7_isClause 64 = .ok (.goto 4, 3) := by decide +kernel
theorem dX7_isClause_67 : decode cX7_isClause 67 = .ok (.iconst (-1), 1) := by decide +kernel
theorem dX7_isClause_68 : decode cX7_isClause 68 = .ok (.istore_n 2, 1) := by decide +kernel
theorem dX7_isClause_69 : decode cX7_isClause 69 = .ok (.iload_n 2, 1) := by decide +kernel
theorem dX7_isClause_70 : decode cX7_isClause 70 = .ok (.ifCond .ne 12, 3) := by decide +kernel
theorem dX7_isClause_73 : decode cX7_isClause 73 = .ok (.aload_n 0, 1) := by decide +kernel
theorem dX7_isClause_74 : decode cX7_isClause 74 = .ok (.ldc 191, 2) := by decide +kernel
theorem dX7_isClause_76 : decode cX7_isClause 76 = .ok (.invokevirtual 193, 3) := by decide +kernel
theorem dX7_isClause_79 : decode cX7_isClause 79 = .ok (.goto 36, 3) := by decide +kernel
theorem dX7_isClause_82 : decode cX7_isClause 82 = .ok (.iload_n 2, 1) := by decide +kernel
theorem dX7_isClause_83 : decode cX7_isClause 83 = .ok (.iconst 1, 1) := by decide +kernel
theorem dX7_isClause_84 : decode cX7_isClause 84 = .ok (.if_icmp .ne 12, 3) := by decide +kernel
theorem dX7_isClause_87 : decode cX7_isClause 87 = .ok (.aload_n 0, 1) := by decide +kernel
theorem dX7_isClause_88 : decode cX7_isClause 88 = .ok (.ldc 197, 2) := by decide +kernel
theorem dX7_isClause_90 : decode cX7_isClause 90 = .ok (.invokevirtual 193, 3) := by decide +kernel
theorem dX7_isClause_93 : decode cX7_isClause 93 = .ok (.goto 22, 3) := by decide +kernel
theorem dX7_isClause_96 : decode cX7_isClause 96 = .ok (.iload_n 2, 1) := by decide +kernel
theorem dX7_isClause_97 : decode cX7_isClause 97 = .ok (.iconst 2, 1) := by decide +kernel
theorem dX7_isClause_98 : decode cX7_isClause 98 = .ok (.if_icmp .ne 16, 3) := by decide +kernel
theorem dX7_isClause_101 : decode cX7_isClause 101 = .ok (.aload_n 0, 1) := by decide +kernel
theorem dX7_isClause_102 : decode cX7_isClause 102 = .ok (.ldc 199, 2) := by decide +kernel
theorem dX7_isClause_104 : decode cX7_isClause 104 = .ok (.invokevirtual 193, 3) := by decide +kernel
theorem dX7_isClause_107 : decode cX7_isClause 107 = .ok (.ifCond .eq 7, 3) := by decide +kernel
theorem dX7_isClause_110 : decode cX7_isClause 110 = .ok (.iconst 1, 1) := by decide +kernel
theorem dX7_isClause_111 : decode cX7_isClause 111 = .ok (.goto 4, 3) := by decide +kernel
theorem dX7_isClause_114 : decode cX7_isClause 114 = .ok (.iconst 0, 1) := by decide +kernel
theorem dX7_isClause_115 : decode cX7_isClause 115 = .ok (.istore_n 3, 1) := by decide +kernel
theorem dX7_isClause_116 : decode cX7_isClause 116 = .ok (.iload_n 3, 1) := by decide +kernel
theorem dX7_isClause_117 : decode cX7_isClause 117 = .ok (.ifCond .eq 10, 3) := by decide +kernel
theorem dX7_isClause_120 : decode cX7_isClause 120 = .ok (.aload_n 0, 1) := by decide +kernel
theorem dX7_isClause_121 : decode cX7_isClause 121 = .ok (.invokevirtual 167, 3) := by decide +kernel
theorem dX7_isClause_124 : decode cX7_isClause 124 = .ok (.ifCond .ne 5, 3) := by decide +kernel
theorem dX7_isClause_127 : decode cX7_isClause 127 = .ok (.iconst 0, 1) := by decide +kernel
theorem dX7_isClause_128 : decode cX7_isClause 128 = .ok (.ireturn, 1) := by decide +kernel
theorem dX7_isClause_129 : decode cX7_isClause 129 = .ok (.aload_n 0, 1) := by decide +kernel
theorem dX7_isClause_130 : decode cX7_isClause 130 = .ok (.getfield 42, 3) := by decide +kernel
theorem dX7_isClause_133 : decode cX7_isClause 133 = .ok (.iload_n 1, 1) := by decide +kernel
theorem dX7_isClause_134 : decode cX7_isClause 134 = .ok (.iload_n 2, 1) := by decide +kernel
theorem dX7_isClause_135 : decode cX7_isClause 135 = .ok (.iastore, 1) := by decide +kernel
theorem dX7_isClause_136 : decode cX7_isClause 136 = .ok (.aload_n 0, 1) := by decide +kernel
theorem dX7_isClause_137 : decode cX7_isClause 137 = .ok (.getfield 45, 3) := by decide +kernel
theorem dX7_isClause_140 : decode cX7_isClause 140 = .ok (.iload_n 1, 1) := by decide +kernel
theorem dX7_isClause_141 : decode cX7_isClause 141 = .ok (.aload_n 0, 1) := by decide +kernel
theorem dX7_isClause_142 : decode cX7_isClause 142 = .ok (.getfield 135, 3) := by decide +kernel
theorem dX7_isClause_145 : decode cX7_isClause 145 = .ok (.iastore, 1) := by decide +kernel
theorem dX7_isClause_146 : decode cX7_isClause 146 = .ok (.aload_n 0, 1) := by decide +kernel
theorem dX7_isClause_147 : decode cX7_isClause 147 = .ok (.getfield 48, 3) := by decide +kernel
theorem dX7_isClause_150 : decode cX7_isClause 150 = .ok (.iload_n 1, 1) := by decide +kernel
theorem dX7_isClause_151 : decode cX7_isClause 151 = .ok (.aload_n 0, 1) := by decide +kernel
theorem dX7_isClause_152 : decode cX7_isClause 152 = .ok (.getfield 157, 3) := by decide +kernel
theorem dX7_isClause_155 : decode cX7_isClause 155 = .ok (.iastore, 1) := by decide +kernel
theorem dX7_isClause_156 : decode cX7_isClause 156 = .ok (.aload_n 0, 1) := by decide +kernel
theorem dX7_isClause_157 : decode cX7_isClause 157 = .ok (.iconst 0, 1) := by decide +kernel
theorem dX7_isClause_158 : decode cX7_isClause 158 = .ok (.putfield 173, 3) := by decide +kernel
theorem dX7_isClause_161 : decode cX7_isClause 161 = .ok (.iload_n 2, 1) := by decide +kernel
theorem dX7_isClause_162 : decode cX7_isClause 162 = .ok (.iconst 2, 1) := by decide +kernel
theorem dX7_isClause_163 : decode cX7_isClause 163 = .ok (.if_icmp .ge 21, 3) := by decide +kernel
theorem dX7_isClause_166 : decode cX7_isClause 166 = .ok (.aload_n 0, 1) := by decide +kernel
theorem dX7_isClause_167 : decode cX7_isClause 167 = .ok (.bipush 32, 2) := by decide +kernel
theorem dX7_isClause_169 : decode cX7_isClause 169 = .ok (.invokevirtual 154, 3) := by decide +kernel
theorem dX7_isClause_172 : decode cX7_isClause 172 = .ok (.ifCond .eq 10, 3) := by decide +kernel
theorem dX7_isClause_175 : decode cX7_isClause 175 = .ok (.aload_n 0, 1) := by decide +kernel
theorem dX7_isClause_176 : decode cX7_isClause 176 = .ok (.invokevirtual 182, 3) := by decide +kernel
theorem dX7_isClause_179 : decode cX7_isClause 179 = .ok (.ifCond .ne 5, 3) := by decide +kernel
theorem dX7_isClause_182 : decode cX7_isClause 182 = .ok (.iconst 0, 1) := by decide +kernel
theorem dX7_isClause_183 : decode cX7_isClause 183 = .ok (.ireturn, 1) := by decide +kernel
theorem dX7_isClause_184 : decode cX7_isClause 184 = .ok (.aload_n 0, 1) := by decide +kernel
theorem dX7_isClause_185 : decode cX7_isClause 185 = .ok (.getfield 51, 3) := by decide +kernel
theorem dX7_isClause_188 : decode cX7_isClause 188 = .ok (.iload_n 1, 1) := by decide +kernel
theorem dX7_isClause_189 : decode cX7_isClause 189 = .ok (.aload_n 0, 1) := by decide +kernel
theorem dX7_isClause_190 : decode cX7_isClause 190 = .ok (.getfield 157, 3) := by decide +kernel
theorem dX7_isClause_193 : decode cX7_isClause 193 = .ok (.aload_n 0, 1) := by decide +kernel
theorem dX7_isClause_194 : decode cX7_isClause 194 = .ok (.getfield 48, 3) := by decide +kernel
theorem dX7_isClause_197 : decode cX7_isClause 197 = .ok (.iload_n 1, 1) := by decide +kernel
theorem dX7_isClause_198 : decode cX7_isClause 198 = .ok (.iaload, 1) := by decide +kernel
theorem dX7_isClause_199 : decode cX7_isClause 199 = .ok (.isub, 1) := by decide +kernel
theorem dX7_isClause_200 : decode cX7_isClause 200 = .ok (.iastore, 1) := by decide +kernel
theorem dX7_isClause_201 : decode cX7_isClause 201 = .ok (.iconst 1, 1) := by decide +kernel
theorem dX7_isClause_202 : decode cX7_isClause 202 = .ok (.ireturn, 1) := by decide +kernel
theorem dX7_store_0 : decode cX7_store 0 = .ok (.aload_n 0, 1) := by decide +kernel
theorem dX7_store_1 : decode cX7_store 1 = .ok (.getfield 201, 3) := by decide +kernel
theorem dX7_store_4 : decode cX7_store 4 = .ok (.bipush 6, 2) := by decide +kernel
theorem dX7_store_6 : decode cX7_store 6 = .ok (.if_icmp .ne 6, 3) := by decide +kernel
theorem dX7_store_9 : decode cX7_store 9 = .ok (.bipush (-4), 2) := by decide +kernel
theorem dX7_store_11 : decode cX7_store 11 = .ok (.ireturn, 1) := by decide +kernel
theorem dX7_store_12 : decode cX7_store 12 = .ok (.aload_n 0, 1) := by decide +kernel
theorem dX7_store_13 : decode cX7_store 13 = .ok (.getfield 157, 3) := by decide +kernel
theorem dX7_store_16 : decode cX7_store 16 = .ok (.istore_n 1, 1) := by decide +kernel
theorem dX7_store_17 : decode cX7_store 17 = .ok (.aload_n 0, 1) := by decide +kernel
theorem dX7_store_18 : decode cX7_store 18 = .ok (.iconst 0, 1) := by decide +kernel
theorem dX7_store_19 : decode cX7_store 19 = .ok (.putfield 132, 3) := by decide +kernel
theorem dX7_store_22 : decode cX7_store 22 = .ok (.iconst 0, 1) := by decide +kernel
theorem dX7_store_23 : decode cX7_store 23 = .ok (.istore_n 2, 1) := by decide +kernel
theorem dX7_store_24 : decode cX7_store 24 = .ok (.iconst 1, 1) := by decide +kernel
theorem dX7_store_25 : decode cX7_store 25 = .ok (.istore_n 3, 1) := by decide +kernel
theorem dX7_store_26 : decode cX7_store 26 = .ok (.iconst 0, 1) := by decide +kernel
theorem dX7_store_27 : decode cX7_store 27 = .ok (.istore 4, 2) := by decide +kernel
theorem dX7_store_29 : decode cX7_store 29 = .ok (.iload_n 3, 1) := by decide +kernel
theorem dX7_store_30 : decode cX7_store 30 = .ok (.ifCond .eq 93, 3) := by decide +kernel
theorem dX7_store_33 : decode cX7_store 33 = .ok (.iload 4, 2) := by decide +kernel
theorem dX7_store_35 : decode cX7_store 35 = .ok (.ifCond .ne 88, 3) := by decide +kernel
theorem dX7_store_38 : decode cX7_store 38 = .ok (.iload_n 2, 1) := by decide +kernel
theorem dX7_store_39 : decode cX7_store 39 = .ok (.bipush 10, 2) := by decide +kernel
theorem dX7_store_41 : decode cX7_store 41 = .ok (.if_icmp .ge 23, 3) := by decide +kernel
theorem dX7_store_44 : decode cX7_store 44 = .ok (.aload_n 0, 1) := by decide +kernel
theorem dX7_store_45 : decode cX7_store 45 = .ok (.bipush 10, 2) := by decide +kernel
theorem dX7_store_47 : decode cX7_store 47 = .ok (.aload_n 0, 1) := by decide +kernel
theorem dX7_store_48 : decode cX7_store 48 = .ok (.getfield 201, 3) := by decide +kernel
theorem dX7_store_51 : decode cX7_store 51 = .ok (.imul, 1) := by decide +kernel
theorem dX7_store_52 : decode cX7_store 52 = .ok (.iload_n 2, 1) := by decide +kernel
theorem dX7_store_53 : decode cX7_store 53 = .ok (.iadd, 1) := by decide +kernel
theorem dX7_store_54 : decode cX7_store 54 = .ok (.invokevirtual 204, 3) := by decide +kernel
theorem dX7_store_57 : decode cX7_store 57 = .ok (.ifCond .eq 7, 3) := by decide +kernel
theorem dX7_store_60 : decode cX7_store 60 = .ok (.iconst 1, 1) := by decide +kernel
theorem dX7_store_61 : decode cX7_store 61 = .ok (.goto 4, 3) := by decide +kernel
theorem dX7_store_64 : decode cX7_store 64 = .ok (.iconst 0, 1) := by decide +kernel
theorem dX7_store_65 : decode cX7_store 65 = .ok (.istore_n 3, 1) := by decide +kernel
theorem dX7_store_66 : decode cX7_store 66 = .ok (.iload_n 3, 1) := by decide +kernel
theorem dX7_store_67 : decode cX7_store 67 = .ok (.ifCond .ne 6, 3) := by decide +kernel
theorem dX7_store_70 : decode cX7_store 70 = .ok (.goto (-41), 3) := by decide +kernel
theorem dX7_store_73 : decode cX7_store 73 = .ok (.iinc 2 1, 3) := by decide +kernel
theorem dX7_store_76 : decode cX7_store 76 = .ok (.aload_n 0, 1) := by decide +kernel
theorem dX7_store_77 : decode cX7_store 77 = .ok (.getfield 132, 3) := by decide +kernel
theorem dX7_store_80 : decode cX7_store 80 = .ok (.aload_n 0, 1) := by decide +kernel
theorem dX7_store_81 : decode cX7_store 81 = .ok (.getfield 129, 3) := by decide +kernel
theorem dX7_store_84 : decode cX7_store 84 = .ok (.if_icmp .ne 7, 3) := by decide +kernel
theorem dX7_store_87 : decode cX7_store 87 = .ok (.iconst 1, 1) := by decide +kernel
theorem dX7_store_88 : decode cX7_store 88 = .ok (.goto 4, 3) := by decide +kernel
theorem dX7_store_91 : decode cX7_store 91 = .ok (.iconst 0, 1) := by decide +kernel
theorem dX7_store_92 : decode cX7_store 92 = .ok (.istore 4, 2) := by decide +kernel
theorem dX7_store_94 : decode cX7_store 94 = .ok (.iload 4, 2) := by decide +kernel
theorem dX7_store_96 : decode cX7_store 96 = .ok (.ifCond .ne 18, 3) := by decide +kernel
theorem dX7_store_99 : decode cX7_store 99 = .ok (.iload_n 2, 1) := by decide +kernel
theorem dX7_store_100 : decode cX7_store 100 = .ok (.bipush 10, 2) := by decide +kernel
theorem dX7_store_102 : decode cX7_store 102 = .ok (.if_icmp .ge 16, 3) := by decide +kernel
theorem dX7_store_105 : decode cX7_store 105 = .ok (.aload_n 0, 1) := by decide +kernel
theorem dX7_store_106 : decode cX7_store 106 = .ok (.bipush 59, 2) := by decide +kernel
theorem dX7_store_108 : decode cX7_store 108 = .ok (.invokevirtual 154, 3) := by decide +kernel
theorem dX7_store_111 : decode cX7_store 111 = .ok (.ifCond .eq 7, 3) := by decide +kernel
theorem dX7_store_114 : decode cX7_store 114 = .ok (.iconst 1, 1) := by decide +kernel
theorem dX7_store_115 : decode cX7_store 115 = .ok (.goto 4, 3) := by decide +kernel
theorem dX7_store_118 : decode cX7_store 118 = .ok (.iconst 0, 1) := by decide +kernel
theorem dX7_store_119 : decode cX7_store 119 = .ok (.istore_n 3, 1) := by decide +kernel
theorem dX7_store_120 : decode cX7_store 120 = .ok (.goto (-91), 3) := by decide +kernel
theorem dX7_store_123 : decode cX7_store 123 = .ok (.aload_n 0, 1) := by decide +kernel
theorem dX7_store_124 : decode cX7_store 124 = .ok (.iconst 0, 1) := by decide +kernel
theorem dX7_store_125 : decode cX7_store 125 = .ok (.putfield 129, 3) := by decide +kernel
theorem dX7_store_128 : decode cX7_store 128 = .ok (.iload 4, 2) := by decide +kernel
theorem dX7_store_130 : decode cX7_store 130 = .ok (.ifCond .ne 16, 3) := by decide +kernel
theorem dX7_store_133 : decode cX7_store 133 = .ok (.aload_n 0, 1) := by decide +kernel
theorem dX7_store_134 : decode cX7_store 134 = .ok (.iload_n 1, 1) := by decide +kernel
theorem dX7_store_135 : decode cX7_store 135 = .ok (.putfield 157, 3) := by decide +kernel
theorem dX7_store_138 : decode cX7_store 138 = .ok (.bipush (-10), 2) := by decide +kernel
theorem dX7_store_140 : decode cX7_store 140 = .ok (.aload_n 0, 1) := by decide +kernel
theorem dX7_store_141 : decode cX7_store 141 = .ok (.getfield 132, 3) := by decide +kernel
theorem dX7_store_144 : decode cX7_store 144 = .ok (.isub, 1) := by decide +kernel
theorem dX7_store_145 : decode cX7_store 145 = .ok (.ireturn, 1) := by decide +kernel
theorem dX7_store_146 : decode cX7_store 146 = .ok (.aload_n 0, 1) := by decide +kernel
theorem dX7_store_147 : decode cX7_store 147 = .ok (.getfield 39, 3) := by decide +kernel
theorem dX7_store_150 : decode cX7_store 150 = .ok (.aload_n 0, 1) := by decide +kernel
theorem dX7_store_151 : decode cX7_store 151 = .ok (.getfield 201, 3) := by decide +kernel
theorem dX7_store_154 : decode cX7_store 154 = .ok (.iload_n 2, 1) := by decide +kernel
theorem dX7_store_155 : decode cX7_store 155 = .ok (.iastore, 1) := by decide +kernel
theorem dX7_store_156 : decode cX7_store 156 = .ok (.aload_n 0, 1) := by decide +kernel
theorem dX7_store_157 : decode cX7_store 157 = .ok (.aload_n 0, 1) := by decide +kernel
theorem dX7_store_158 : decode cX7_store 158 = .ok (.getfield 201, 3) := by decide +kernel
theorem dX7_store_161 : decode cX7_store 161 = .ok (.putfield 105, 3) := by decide +kernel
theorem dX7_store_164 : decode cX7_store 164 = .ok (.aload_n 0, 1) := by decide +kernel
theorem dX7_store_165 : decode cX7_store 165 = .ok (.dup, 1) := by decide +kernel
theorem dX7_store_166 : decode cX7_store 166 = .ok (.getfield 201, 3) := by decide +kernel
theorem dX7_store_169 : decode cX7_store 169 = .ok (.dup_x1, 1) := by decide +kernel
theorem dX7_store_170 : decode cX7_store 170 = .ok (.iconst 1, 1) := by decide +kernel
theorem dX7_store_171 : decode cX7_store 171 = .ok (.iadd, 1) := by decide +kernel
theorem dX7_store_172 : decode cX7_store 172 = .ok (.putfield 201, 3) := by decide +kernel
theorem dX7_store_175 : decode cX7_store 175 = .ok (.ireturn, 1) := by decide +kernel
theorem dX7_letterOf_0 : decode cX7_letterOf 0 = .ok (.iload_n 2, 1) := by decide +kernel
theorem dX7_letterOf_1 : decode cX7_letterOf 1 = .ok (.tableswitch 65 0 4 #[35, 37, 44, 51, 58], 35) := by decide +kernel
theorem dX7_letterOf_36 : decode cX7_letterOf 36 = .ok (.iload_n 1, 1) := by decide +kernel
theorem dX7_letterOf_37 : decode cX7_letterOf 37 = .ok (.ireturn, 1) := by decide +kernel
theorem dX7_letterOf_38 : decode cX7_letterOf 38 = .ok (.aload_n 0, 1) := by decide +kernel
theorem dX7_letterOf_39 : decode cX7_letterOf 39 = .ok (.getfield 9, 3) := by decide +kernel
theorem dX7_letterOf_42 : decode cX7_letterOf 42 = .ok (.iload_n 1, 1) := by decide +kernel
theorem dX7_letterOf_43 : decode cX7_letterOf 43 = .ok (.iaload, 1) := by decide +kernel
theorem dX7_letterOf_44 : decode cX7_letterOf 44 = .ok (.ireturn, 1) := by decide +kernel
theorem dX7_letterOf_45 : decode cX7_letterOf 45 = .ok (.aload_n 0, 1) := by decide +kernel
theorem dX7_letterOf_46 : decode cX7_letterOf 46 = .ok (.getfield 15, 3) := by decide +kernel
theorem dX7_letterOf_49 : decode cX7_letterOf 49 = .ok (.iload_n 1, 1) := by decide +kernel
theorem dX7_letterOf_50 : decode cX7_letterOf 50 = .ok (.iaload, 1) := by decide +kernel
theorem dX7_letterOf_51 : decode cX7_letterOf 51 = .ok (.ireturn, 1) := by decide +kernel
theorem dX7_letterOf_52 : decode cX7_letterOf 52 = .ok (.aload_n 0, 1) := by decide +kernel
theorem dX7_letterOf_53 : decode cX7_letterOf 53 = .ok (.getfield 18, 3) := by decide +kernel
theorem dX7_letterOf_56 : decode cX7_letterOf 56 = .ok (.iload_n 1, 1) := by decide +kernel
theorem dX7_letterOf_57 : decode cX7_letterOf 57 = .ok (.iaload, 1) := by decide +kernel
theorem dX7_letterOf_58 : decode cX7_letterOf 58 = .ok (.ireturn, 1) := by decide +kernel
theorem dX7_letterOf_59 : decode cX7_letterOf 59 = .ok (.aload_n 0, 1) := by decide +kernel
theorem dX7_letterOf_60 : decode cX7_letterOf 60 = .ok (.getfield 21, 3) := by decide +kernel
theorem dX7_letterOf_63 : decode cX7_letterOf 63 = .ok (.iload_n 1, 1) := by decide +kernel
theorem dX7_letterOf_64 : decode cX7_letterOf 64 = .ok (.iaload, 1) := by decide +kernel
theorem dX7_letterOf_65 : decode cX7_letterOf 65 = .ok (.ireturn, 1) := by decide +kernel
theorem dX7_letterOf_66 : decode cX7_letterOf 66 = .ok (.aload_n 0, 1) := by decide +kernel
theorem dX7_letterOf_67 : decode cX7_letterOf 67 = .ok (.getfield 24, 3) := by decide +kernel
theorem dX7_letterOf_70 : decode cX7_letterOf 70 = .ok (.iload_n 1, 1) := by decide +kernel
theorem dX7_letterOf_71 : decode cX7_letterOf 71 = .ok (.iaload, 1) := by decide +kernel
theorem dX7_letterOf_72 : decode cX7_letterOf 72 = .ok (.ireturn, 1) := by decide +kernel
theorem dX7_isTrue_0 : decode cX7_isTrue 0 = .ok (.iconst 0, 1) := by decide +kernel
theorem dX7_isTrue_1 : decode cX7_isTrue 1 = .ok (.istore_n 3, 1) := by decide +kernel
theorem dX7_isTrue_2 : decode cX7_isTrue 2 = .ok (.aload_n 0, 1) := by decide +kernel
theorem dX7_isTrue_3 : decode cX7_isTrue 3 = .ok (.getfield 48, 3) := by decide +kernel
theorem dX7_isTrue_6 : decode cX7_isTrue 6 = .ok (.iload_n 2, 1) := by decide +kernel
theorem dX7_isTrue_7 : decode cX7_isTrue 7 = .ok (.iaload, 1) := by decide +kernel
theorem dX7_isTrue_8 : decode cX7_isTrue 8 = .ok (.istore 4, 2) := by decide +kernel
theorem dX7_isTrue_10 : decode cX7_isTrue 10 = .ok (.iload 4, 2) := by decide +kernel
theorem dX7_isTrue_12 : decode cX7_isTrue 12 = .ok (.aload_n 0, 1) := by decide +kernel
theorem dX7_isTrue_13 : decode cX7_isTrue 13 = .ok (.getfield 48, 3) := by decide +kernel
theorem dX7_isTrue_16 : decode cX7_isTrue 16 = .ok (.iload_n 2, 1) := by decide +kernel
theorem dX7_isTrue_17 : decode cX7_isTrue 17 = .ok (.iaload, 1) := by decide +kernel
theorem dX7_isTrue_18 : decode cX7_isTrue 18 = .ok (.aload_n 0, 1) := by decide +kernel
theorem dX7_isTrue_19 : decode cX7_isTrue 19 = .ok (.getfield 51, 3) := by decide +kernel
theorem dX7_isTrue_22 : decode cX7_isTrue 22 = .ok (.iload_n 2, 1) := by decide +kernel
theorem dX7_isTrue_23 : decode cX7_isTrue 23 = .ok (.iaload, 1) := by decide +kernel
theorem dX7_isTrue_24 : decode cX7_isTrue 24 = .ok (.iadd, 1) := by decide +kernel
theorem dX7_isTrue_25 : decode cX7_isTrue 25 = .ok (.if_icmp .ge 226, 3) := by decide +kernel
theorem dX7_isTrue_28 : decode cX7_isTrue 28 = .ok (.aload_n 0, 1) := by decide +kernel
theorem dX7_isTrue_29 : decode cX7_isTrue 29 = .ok (.getfield 54, 3) := by decide +kernel
theorem dX7_isTrue_32 : decode cX7_isTrue 32 = .ok (.iload 4, 2) := by decide +kernel
theorem dX7_isTrue_34 : decode cX7_isTrue 34 = .ok (.iaload, 1) := by decide +kernel
theorem dX7_isTrue_35 : decode cX7_isTrue 35 = .ok (.istore 5, 2) := by decide +kernel
theorem dX7_isTrue_37 : decode cX7_isTrue 37 = .ok (.iload 5, 2) := by decide +kernel
theorem dX7_isTrue_39 : decode cX7_isTrue 39 = .ok (.iconst 3, 1) := by decide +kernel
theorem dX7_isTrue_40 : decode cX7_isTrue 40 = .ok (.if_icmp .lt 103, 3) := by decide +kernel
theorem dX7_isTrue_43 : decode cX7_isTrue 43 = .ok (.aload_n 0, 1) := by decide +kernel
theorem dX7_isTrue_44 : decode cX7_isTrue 44 = .ok (.iload_n 1, 1) := by decide +kernel
theorem dX7_isTrue_45 : decode cX7_isTrue 45 = .ok (.iload 5, 2) := by decide +kernel
theorem dX7_isTrue_47 : decode cX7_isTrue 47 = .ok (.iconst 3, 1) := by decide +kernel
theorem dX7_isTrue_48 : decode cX7_isTrue 48 = .ok (.isub, 1) := by decide +kernel
theorem dX7_isTrue_49 : decode cX7_isTrue 49 = .ok (.sipush 300, 3) := by decide +kernel
theorem dX7_isTrue_52 : decode cX7_isTrue 52 = .ok (.idiv, 1) := by decide +kernel
theorem dX7_isTrue_53 : decode cX7_isTrue 53 = .ok (.invokevirtual 207, 3) := by decide +kernel
theorem dX7_isTrue_56 : decode cX7_isTrue 56 = .ok (.istore 6, 2) := by decide +kernel
theorem dX7_isTrue_58 : decode cX7_isTrue 58 = .ok (.iload 5, 2) := by decide +kernel
theorem dX7_isTrue_60 : decode cX7_isTrue 60 = .ok (.iconst 3, 1) := by decide +kernel
theorem dX7_isTrue_61 : decode cX7_isTrue 61 = .ok (.isub, 1) := by decide +kernel
theorem dX7_isTrue_62 : decode cX7_isTrue 62 = .ok (.bipush 100, 2) := by decide +kernel
theorem dX7_isTrue_64 : decode cX7_isTrue 64 = .ok (.irem, 1) := by decide +kernel
theorem dX7_isTrue_65 : decode cX7_isTrue 65 = .ok (.istore 7, 2) := by decide +kernel
theorem dX7_isTrue_67 : decode cX7_isTrue 67 = .ok (.iload 5, 2) := by decide +kernel
theorem dX7_isTrue_69 : decode cX7_isTrue 69 = .ok (.iconst 3, 1) := by decide +kernel
theorem dX7_isTrue_70 : decode cX7_isTrue 70 = .ok (.isub, 1) := by decide +kernel
theorem dX7_isTrue_71 : decode cX7_isTrue 71 = .ok (.bipush 100, 2) := by decide +kernel
theorem dX7_isTrue_73 : decode cX7_isTrue 73 = .ok (.idiv, 1) := by decide +kernel
theorem dX7_isTrue_74 : decode cX7_isTrue 74 = .ok (.iconst 3, 1) := by decide +kernel
theorem dX7_isTrue_75 : decode cX7_isTrue 75 = .ok (.irem, 1) := by decide +kernel
theorem dX7_isTrue_76 : decode cX7_isTrue 76 = .ok (.istore 8, 2) := by decide +kernel
theorem dX7_isTrue_78 : decode cX7_isTrue 78 = .ok (.aload_n 0, 1) := by decide +kernel
theorem dX7_isTrue_79 : decode cX7_isTrue 79 = .ok (.getfield 57, 3) := by decide +kernel
theorem dX7_isTrue_82 : decode cX7_isTrue 82 = .ok (.iload_n 3, 1) := by decide +kernel
theorem dX7_isTrue_83 : decode cX7_isTrue 83 = .ok (.iinc 3 1, 3) := by decide +kernel
theorem dX7_isTrue_86 : decode cX7_isTrue 86 = .ok (.iload 8, 2) := by decide +kernel
theorem dX7_isTrue_88 : decode cX7_isTrue 88 = .ok (.ifCond .ne 18, 3) := by decide +kernel
theorem dX7_isTrue_91 : decode cX7_isTrue 91 = .ok (.iload 6, 2) := by decide +kernel
theorem dX7_isTrue_93 : decode cX7_isTrue 93 = .ok (.iload 7, 2) := by decide +kernel
theorem dX7_isTrue_95 : decode cX7_isTrue 95 = .ok (.if_icmp .ge 7, 3) := by decide +kernel
theorem dX7_isTrue_98 : decode cX7_isTrue 98 = .ok (.iconst 1, 1) := by decide +kernel
theorem dX7_isTrue_99 : decode cX7_isTrue 99 = .ok (.goto 40, 3) := by decide +kernel
theorem dX7_isTrue_102 : decode cX7_isTrue 102 = .ok (.iconst 0, 1) := by decide +kernel
theorem dX7_isTrue_103 : decode cX7_isTrue 103 = .ok (.goto 36, 3) := by decide +kernel
theorem dX7_isTrue_106 : decode cX7_isTrue 106 = .ok (.iload 8, 2) := by decide +kernel
theorem dX7_isTrue_108 : decode cX7_isTrue 108 = .ok (.iconst 1, 1) := by decide +kernel
theorem dX7_isTrue_109 : decode cX7_isTrue 109 = .ok (.if_icmp .ne 18, 3) := by decide +kernel
theorem dX7_isTrue_112 : decode cX7_isTrue 112 = .ok (.iload 6, 2) := by decide +kernel
theorem dX7_isTrue_114 : decode cX7_isTrue 114 = .ok (.iload 7, 2) := by decide +kernel
theorem dX7_isTrue_116 : decode cX7_isTrue 116 = .ok (.if_icmp .ne 7, 3) := by decide +kernel
theorem dX7_isTrue_119 : decode cX7_isTrue 119 = .ok (.iconst 1, 1) := by decide +kernel
theorem dX7_isTrue_120 : decode cX7_isTrue 120 = .ok (.goto 19, 3) := by decide +kernel
theorem dX7_isTrue_123 : decode cX7_isTrue 123 = .ok (.iconst 0, 1) := by decide +kernel
theorem dX7_isTrue_124 : decode cX7_isTrue 124 = .ok (.goto 15, 3) := by decide +kernel
theorem dX7_isTrue_127 : decode cX7_isTrue 127 = .ok (.iload 6, 2) := by decide +kernel
theorem dX7_isTrue_129 : decode cX7_isTrue 129 = .ok (.iload 7, 2) := by decide +kernel
theorem dX7_isTrue_131 : decode cX7_isTrue 131 = .ok (.if_icmp .le 7, 3) := by decide +kernel
theorem dX7_isTrue_134 : decode cX7_isTrue 134 = .ok (.iconst 1, 1) := by decide +kernel
theorem dX7_isTrue_135 : decode cX7_isTrue 135 = .ok (.goto 4, 3) := by decide +kernel
theorem dX7_isTrue_138 : decode cX7_isTrue 138 = .ok (.iconst 0, 1) := by decide +kernel
theorem dX7_isTrue_139 : decode cX7_isTrue 139 = .ok (.bastore, 1) := by decide +kernel
theorem dX7_isTrue_140 : decode cX7_isTrue 140 = .ok (.goto 105, 3) := by decide +kernel
theorem dX7_isTrue_143 : decode cX7_isTrue 143 = .ok (.iload 5, 2) := by decide +kernel
theorem dX7_isTrue_145 : decode cX7_isTrue 145 = .ok (.ifCond .ne 30, 3) := by decide +kernel
theorem dX7_isTrue_148 : decode cX7_isTrue 148 = .ok (.aload_n 0, 1) := by decide +kernel
theorem dX7_isTrue_149 : decode cX7_isTrue 149 = .ok (.getfield 57, 3) := by decide +kernel
theorem dX7_isTrue_152 : decode cX7_isTrue 152 = .ok (.iload_n 3, 1) := by decide +kernel
theorem dX7_isTrue_153 : decode cX7_isTrue 153 = .ok (.iconst 1, 1) := by decide +kernel
theorem dX7_isTrue_154 : decode cX7_isTrue 154 = .ok (.isub, 1) := by decide +kernel
theorem dX7_isTrue_155 : decode cX7_isTrue 155 = .ok (.aload_n 0, 1) := by decide +kernel
theorem dX7_isTrue_156 : decode cX7_isTrue 156 = .ok (.getfield 57, 3) := by decide +kernel
theorem dX7_isTrue_159 : decode cX7_isTrue 159 = .ok (.iload_n 3, 1) := by decide +kernel
theorem dX7_isTrue_160 : decode cX7_isTrue 160 = .ok (.iconst 1, 1) := by decide +kernel
theorem dX7_isTrue_161 : decode cX7_isTrue 161 = .ok (.isub, 1) := by decide +kernel
theorem dX7_isTrue_162 : decode cX7_isTrue 162 = .ok (.baload, 1) := by decide +kernel
theorem dX7_isTrue_163 : decode cX7_isTrue 163 = .ok (.ifCond .ne 7, 3) := by decide +kernel
theorem dX7_isTrue_166 : decode cX7_isTrue 166 = .ok (.iconst 1, 1) := by decide +kernel
theorem dX7_isTrue_167 : decode cX7_isTrue 167 = .ok (.goto 4, 3) := by decide +kernel
theorem dX7_isTrue_170 : decode cX7_isTrue 170 = .ok (.iconst 0, 1) := by decide +kernel
theorem dX7_isTrue_171 : decode cX7_isTrue 171 = .ok (.bastore, 1) := by decide +kernel
theorem dX7_isTrue_172 : decode cX7_isTrue 172 = .ok (.goto 73, 3) := by decide +kernel
theorem dX7_isTrue_175 : decode cX7_isTrue 175 = .ok (.iinc 3 (-1), 3) := by decide +kernel
theorem dX7_isTrue_178 : decode cX7_isTrue 178 = .ok (.aload_n 0, 1) := by decide +kernel
theorem dX7_isTrue_179 : decode cX7_isTrue 179 = .ok (.getfield 57, 3) := by decide +kernel
