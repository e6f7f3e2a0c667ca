theorem dX8_duel_0 : decode cX8_duel 0 = .ok (.iload_n 1, 1) := by decide +kernel
theorem dX8_duel_1 : decode cX8_duel 1 = .ok (.ifCond .lt 8, 3) := by decide +kernel
theorem dX8_duel_4 : decode cX8_duel 4 = .ok (.iload_n 1, 1) := by decide +kernel
theorem dX8_duel_5 : decode cX8_duel 5 = .ok (.iconst 4, 1) := by decide +kernel
theorem dX8_duel_6 : decode cX8_duel 6 = .ok (.if_icmp .le 5, 3) := by decide +kernel
theorem dX8_duel_9 : decode cX8_duel 9 = .ok (.iconst (-1), 1) := by decide +kernel
theorem dX8_duel_10 : decode cX8_duel 10 = .ok (.ireturn, 1) := by decide +kernel
theorem dX8_duel_11 : decode cX8_duel 11 = .ok (.aload_n 0, 1) := by decide +kernel
theorem dX8_duel_12 : decode cX8_duel 12 = .ok (.getfield 31, 3) := by decide +kernel
theorem dX8_duel_15 : decode cX8_duel 15 = .ok (.getfield 158, 3) := by decide +kernel
theorem dX8_duel_18 : decode cX8_duel 18 = .ok (.ifCond .ne 8, 3) := by decide +kernel
theorem dX8_duel_21 : decode cX8_duel 21 = .ok (.bipush (-4), 2) := by decide +kernel
theorem dX8_duel_23 : decode cX8_duel 23 = .ok (.goto 16, 3) := by decide +kernel
theorem dX8_duel_26 : decode cX8_duel 26 = .ok (.aload_n 0, 1) := by decide +kernel
theorem dX8_duel_27 : decode cX8_duel 27 = .ok (.getfield 76, 3) := by decide +kernel
theorem dX8_duel_30 : decode cX8_duel 30 = .ok (.aload_n 0, 1) := by decide +kernel
theorem dX8_duel_31 : decode cX8_duel 31 = .ok (.getfield 31, 3) := by decide +kernel
theorem dX8_duel_34 : decode cX8_duel 34 = .ok (.iconst 0, 1) := by decide +kernel
theorem dX8_duel_35 : decode cX8_duel 35 = .ok (.iload_n 1, 1) := by decide +kernel
theorem dX8_duel_36 : decode cX8_duel 36 = .ok (.invokevirtual 261, 3) := by decide +kernel
theorem dX8_duel_39 : decode cX8_duel 39 = .ok (.ireturn, 1) := by decide +kernel
theorem dX8_odds_0 : decode cX8_odds 0 = .ok (.iload_n 1, 1) := by decide +kernel
theorem dX8_odds_1 : decode cX8_odds 1 = .ok (.ifCond .lt 19, 3) := by decide +kernel
theorem dX8_odds_4 : decode cX8_odds 4 = .ok (.iload_n 1, 1) := by decide +kernel
theorem dX8_odds_5 : decode cX8_odds 5 = .ok (.bipush 6, 2) := by decide +kernel
theorem dX8_odds_7 : decode cX8_odds 7 = .ok (.if_icmp .gt 13, 3) := by decide +kernel
theorem dX8_odds_10 : decode cX8_odds 10 = .ok (.iload_n 2, 1) := by decide +kernel
theorem dX8_odds_11 : decode cX8_odds 11 = .ok (.ifCond .lt 9, 3) := by decide +kernel
theorem dX8_odds_14 : decode cX8_odds 14 = .ok (.iload_n 2, 1) := by decide +kernel
theorem dX8_odds_15 : decode cX8_odds 15 = .ok (.bipush 12, 2) := by decide +kernel
theorem dX8_odds_17 : decode cX8_odds 17 = .ok (.if_icmp .le 5, 3) := by decide +kernel
theorem dX8_odds_20 : decode cX8_odds 20 = .ok (.iconst (-1), 1) := by decide +kernel
theorem dX8_odds_21 : decode cX8_odds 21 = .ok (.ireturn, 1) := by decide +kernel
theorem dX8_odds_22 : decode cX8_odds 22 = .ok (.aload_n 0, 1) := by decide +kernel
theorem dX8_odds_23 : decode cX8_odds 23 = .ok (.getfield 31, 3) := by decide +kernel
theorem dX8_odds_26 : decode cX8_odds 26 = .ok (.getfield 158, 3) := by decide +kernel
theorem dX8_odds_29 : decode cX8_odds 29 = .ok (.ifCond .ne 6, 3) := by decide +kernel
theorem dX8_odds_32 : decode cX8_odds 32 = .ok (.bipush (-4), 2) := by decide +kernel
theorem dX8_odds_34 : decode cX8_odds 34 = .ok (.ireturn, 1) := by decide +kernel
theorem dX8_odds_35 : decode cX8_odds 35 = .ok (.aload_n 0, 1) := by decide +kernel
theorem dX8_odds_36 : decode cX8_odds 36 = .ok (.getfield 31, 3) := by decide +kernel
theorem dX8_odds_39 : decode cX8_odds 39 = .ok (.invokevirtual 264, 3) := by decide +kernel
theorem dX8_odds_42 : decode cX8_odds 42 = .ok (.istore_n 3, 1) := by decide +kernel
theorem dX8_odds_43 : decode cX8_odds 43 = .ok (.lconst 0, 1) := by decide +kernel
theorem dX8_odds_44 : decode cX8_odds 44 = .ok (.lstore 4, 2) := by decide +kernel
theorem dX8_odds_46 : decode cX8_odds 46 = .ok (.iconst 0, 1) := by decide +kernel
theorem dX8_odds_47 : decode cX8_odds 47 = .ok (.istore 6, 2) := by decide +kernel
theorem dX8_odds_49 : decode cX8_odds 49 = .ok (.iload 6, 2) := by decide +kernel
theorem dX8_odds_51 : decode cX8_odds 51 = .ok (.bipush 64, 2) := by decide +kernel
theorem dX8_odds_53 : decode cX8_odds 53 = .ok (.if_icmp .ge 39, 3) := by decide +kernel
theorem dX8_odds_56 : decode cX8_odds 56 = .ok (.iload 6, 2) := by decide +kernel
theorem dX8_odds_58 : decode cX8_odds 58 = .ok (.iload_n 3, 1) := by decide +kernel
theorem dX8_odds_59 : decode cX8_odds 59 = .ok (.iconst (-1), 1) := by decide +kernel
theorem dX8_odds_60 : decode cX8_odds 60 = .ok (.ixor, 1) := by decide +kernel
theorem dX8_odds_61 : decode cX8_odds 61 = .ok (.iand, 1) := by decide +kernel
theorem dX8_odds_62 : decode cX8_odds 62 = .ok (.ifCond .ne 24, 3) := by decide +kernel
theorem dX8_odds_65 : decode cX8_odds 65 = .ok (.iload 6, 2) := by decide +kernel
theorem dX8_odds_67 : decode cX8_odds 67 = .ok (.invokestatic 267, 3) := by decide +kernel
theorem dX8_odds_70 : decode cX8_odds 70 = .ok (.iload_n 1, 1) := by decide +kernel
theorem dX8_odds_71 : decode cX8_odds 71 = .ok (.if_icmp .lt 15, 3) := by decide +kernel
theorem dX8_odds_74 : decode cX8_odds 74 = .ok (.lload 4, 2) := by decide +kernel
theorem dX8_odds_76 : decode cX8_odds 76 = .ok (.iload 6, 2) := by decide +kernel
theorem dX8_odds_78 : decode cX8_odds 78 = .ok (.iload_n 3, 1) := by decide +kernel
theorem dX8_odds_79 : decode cX8_odds 79 = .ok (.iload_n 2, 1) := by decide +kernel
theorem dX8_odds_80 : decode cX8_odds 80 = .ok (.invokestatic 272, 3) := by decide +kernel
theorem dX8_odds_83 : decode cX8_odds 83 = .ok (.ladd, 1) := by decide +kernel
theorem dX8_odds_84 : decode cX8_odds 84 = .ok (.lstore 4, 2) := by decide +kernel
theorem dX8_odds_86 : decode cX8_odds 86 = .ok (.iinc 6 1, 3) := by decide +kernel
theorem dX8_odds_89 : decode cX8_odds 89 = .ok (.goto (-40), 3) := by decide +kernel
theorem dX8_odds_92 : decode cX8_odds 92 = .ok (.aload_n 0, 1) := by decide +kernel
theorem dX8_odds_93 : decode cX8_odds 93 = .ok (.lload 4, 2) := by decide +kernel
theorem dX8_odds_95 : decode cX8_odds 95 = .ok (.bipush 12, 2) := by decide +kernel
theorem dX8_odds_97 : decode cX8_odds 97 = .ok (.iload_n 3, 1) := by decide +kernel
theorem dX8_odds_98 : decode cX8_odds 98 = .ok (.invokestatic 267, 3) := by decide +kernel
theorem dX8_odds_101 : decode cX8_odds 101 = .ok (.invokestatic 276, 3) := by decide +kernel
theorem dX8_odds_104 : decode cX8_odds 104 = .ok (.invokevirtual 280, 3) := by decide +kernel
theorem dX8_odds_107 : decode cX8_odds 107 = .ok (.ireturn, 1) := by decide +kernel
theorem dX8_mid_0 : decode cX8_mid 0 = .ok (.iload_n 1, 1) := by decide +kernel
theorem dX8_mid_1 : decode cX8_mid 1 = .ok (.ifCond .lt 9, 3) := by decide +kernel
theorem dX8_mid_4 : decode cX8_mid 4 = .ok (.iload_n 1, 1) := by decide +kernel
theorem dX8_mid_5 : decode cX8_mid 5 = .ok (.bipush 12, 2) := by decide +kernel
theorem dX8_mid_7 : decode cX8_mid 7 = .ok (.if_icmp .le 5, 3) := by decide +kernel
theorem dX8_mid_10 : decode cX8_mid 10 = .ok (.iconst (-1), 1) := by decide +kernel
theorem dX8_mid_11 : decode cX8_mid 11 = .ok (.ireturn, 1) := by decide +kernel
theorem dX8_mid_12 : decode cX8_mid 12 = .ok (.aload_n 0, 1) := by decide +kernel
theorem dX8_mid_13 : decode cX8_mid 13 = .ok (.getfield 31, 3) := by decide +kernel
theorem dX8_mid_16 : decode cX8_mid 16 = .ok (.getfield 158, 3) := by decide +kernel
theorem dX8_mid_19 : decode cX8_mid 19 = .ok (.ifCond .ne 6, 3) := by decide +kernel
theorem dX8_mid_22 : decode cX8_mid 22 = .ok (.bipush (-4), 2) := by decide +kernel
theorem dX8_mid_24 : decode cX8_mid 24 = .ok (.ireturn, 1) := by decide +kernel
theorem dX8_mid_25 : decode cX8_mid 25 = .ok (.aload_n 0, 1) := by decide +kernel
theorem dX8_mid_26 : decode cX8_mid 26 = .ok (.getfield 31, 3) := by decide +kernel
theorem dX8_mid_29 : decode cX8_mid 29 = .ok (.invokevirtual 264, 3) := by decide +kernel
theorem dX8_mid_32 : decode cX8_mid 32 = .ok (.istore_n 2, 1) := by decide +kernel
theorem dX8_mid_33 : decode cX8_mid 33 = .ok (.lconst 0, 1) := by decide +kernel
theorem dX8_mid_34 : decode cX8_mid 34 = .ok (.lstore_n 3, 1) := by decide +kernel
theorem dX8_mid_35 : decode cX8_mid 35 = .ok (.iconst 0, 1) := by decide +kernel
theorem dX8_mid_36 : decode cX8_mid 36 = .ok (.istore 5, 2) := by decide +kernel
theorem dX8_mid_38 : decode cX8_mid 38 = .ok (.iload 5, 2) := by decide +kernel
theorem dX8_mid_40 : decode cX8_mid 40 = .ok (.bipush 64, 2) := by decide +kernel
theorem dX8_mid_42 : decode cX8_mid 42 = .ok (.if_icmp .ge 39, 3) := by decide +kernel
theorem dX8_mid_45 : decode cX8_mid 45 = .ok (.iload 5, 2) := by decide +kernel
theorem dX8_mid_47 : decode cX8_mid 47 = .ok (.iload_n 2, 1) := by decide +kernel
theorem dX8_mid_48 : decode cX8_mid 48 = .ok (.iconst (-1), 1) := by decide +kernel
theorem dX8_mid_49 : decode cX8_mid 49 = .ok (.ixor, 1) := by decide +kernel
theorem dX8_mid_50 : decode cX8_mid 50 = .ok (.iand, 1) := by decide +kernel
theorem dX8_mid_51 : decode cX8_mid 51 = .ok (.ifCond .ne 24, 3) := by decide +kernel
theorem dX8_mid_54 : decode cX8_mid 54 = .ok (.lload_n 3, 1) := by decide +kernel
theorem dX8_mid_55 : decode cX8_mid 55 = .ok (.aload_n 0, 1) := by decide +kernel
theorem dX8_mid_56 : decode cX8_mid 56 = .ok (.getfield 31, 3) := by decide +kernel
theorem dX8_mid_59 : decode cX8_mid 59 = .ok (.iload 5, 2) := by decide +kernel
theorem dX8_mid_61 : decode cX8_mid 61 = .ok (.invokevirtual 284, 3) := by decide +kernel
theorem dX8_mid_64 : decode cX8_mid 64 = .ok (.i2l, 1) := by decide +kernel
theorem dX8_mid_65 : decode cX8_mid 65 = .ok (.iload 5, 2) := by decide +kernel
theorem dX8_mid_67 : decode cX8_mid 67 = .ok (.iload_n 2, 1) := by decide +kernel
theorem dX8_mid_68 : decode cX8_mid 68 = .ok (.iload_n 1, 1) := by decide +kernel
theorem dX8_mid_69 : decode cX8_mid 69 = .ok (.invokestatic 272, 3) := by decide +kernel
theorem dX8_mid_72 : decode cX8_mid 72 = .ok (.lmul, 1) := by decide +kernel
theorem dX8_mid_73 : decode cX8_mid 73 = .ok (.ladd, 1) := by decide +kernel
theorem dX8_mid_74 : decode cX8_mid 74 = .ok (.lstore_n 3, 1) := by decide +kernel
theorem dX8_mid_75 : decode cX8_mid 75 = .ok (.iinc 5 1, 3) := by decide +kernel
theorem dX8_mid_78 : decode cX8_mid 78 = .ok (.goto (-40), 3) := by decide +kernel
theorem dX8_mid_81 : decode cX8_mid 81 = .ok (.aload_n 0, 1) := by decide +kernel
theorem dX8_mid_82 : decode cX8_mid 82 = .ok (.lload_n 3, 1) := by decide +kernel
theorem dX8_mid_83 : decode cX8_mid 83 = .ok (.bipush 12, 2) := by decide +kernel
theorem dX8_mid_85 : decode cX8_mid 85 = .ok (.iload_n 2, 1) := by decide +kernel
theorem dX8_mid_86 : decode cX8_mid 86 = .ok (.invokestatic 267, 3) := by decide +kernel
theorem dX8_mid_89 : decode cX8_mid 89 = .ok (.invokestatic 276, 3) := by decide +kernel
theorem dX8_mid_92 : decode cX8_mid 92 = .ok (.invokevirtual 280, 3) := by decide +kernel
theorem dX8_mid_95 : decode cX8_mid 95 = .ok (.ireturn, 1) := by decide +kernel
theorem dX8_lots_0 : decode cX8_lots 0 = .ok (.iload_n 1, 1) := by decide +kernel
theorem dX8_lots_1 : decode cX8_lots 1 = .ok (.iconst 1, 1) := by decide +kernel
theorem dX8_lots_2 : decode cX8_lots 2 = .ok (.if_icmp .lt 21, 3) := by decide +kernel
theorem dX8_lots_5 : decode cX8_lots 5 = .ok (.iload_n 1, 1) := by decide +kernel
theorem dX8_lots_6 : decode cX8_lots 6 = .ok (.bipush 20, 2) := by decide +kernel
theorem dX8_lots_8 : decode cX8_lots 8 = .ok (.if_icmp .gt 15, 3) := by decide +kernel
theorem dX8_lots_11 : decode cX8_lots 11 = .ok (.iload_n 2, 1) := by decide +kernel
theorem dX8_lots_12 : decode cX8_lots 12 = .ok (.iconst 1, 1) := by decide +kernel
theorem dX8_lots_13 : decode cX8_lots 13 = .ok (.if_icmp .lt 10, 3) := by decide +kernel
theorem dX8_lots_16 : decode cX8_lots 16 = .ok (.iload_n 2, 1) := by decide +kernel
theorem dX8_lots_17 : decode cX8_lots 17 = .ok (.ldc_w 287, 3) := by decide +kernel
theorem dX8_lots_20 : decode cX8_lots 20 = .ok (.if_icmp .le 5, 3) := by decide +kernel
theorem dX8_lots_23 : decode cX8_lots 23 = .ok (.iconst (-1), 1) := by decide +kernel
theorem dX8_lots_24 : decode cX8_lots 24 = .ok (.ireturn, 1) := by decide +kernel
theorem dX8_lots_25 : decode cX8_lots 25 = .ok (.aload_n 0, 1) := by decide +kernel
theorem dX8_lots_26 : decode cX8_lots 26 = .ok (.getfield 31, 3) := by decide +kernel
theorem dX8_lots_29 : decode cX8_lots 29 = .ok (.getfield 158, 3) := by decide +kernel
theorem dX8_lots_32 : decode cX8_lots 32 = .ok (.istore_n 3, 1) := by decide +kernel
theorem dX8_lots_33 : decode cX8_lots 33 = .ok (.iload_n 3, 1) := by decide +kernel
theorem dX8_lots_34 : decode cX8_lots 34 = .ok (.ifCond .gt 6, 3) := by decide +kernel
theorem dX8_lots_37 : decode cX8_lots 37 = .ok (.bipush (-4), 2) := by decide +kernel
theorem dX8_lots_39 : decode cX8_lots 39 = .ok (.ireturn, 1) := by decide +kernel
theorem dX8_lots_40 : decode cX8_lots 40 = .ok (.aload_n 0, 1) := by decide +kernel
theorem dX8_lots_41 : decode cX8_lots 41 = .ok (.getfield 41, 3) := by decide +kernel
theorem dX8_lots_44 : decode cX8_lots 44 = .ok (.iload_n 1, 1) := by decide +kernel
theorem dX8_lots_45 : decode cX8_lots 45 = .ok (.iadd, 1) := by decide +kernel
theorem dX8_lots_46 : decode cX8_lots 46 = .ok (.bipush 40, 2) := by decide +kernel
theorem dX8_lots_48 : decode cX8_lots 48 = .ok (.if_icmp .le 6, 3) := by decide +kernel
theorem dX8_lots_51 : decode cX8_lots 51 = .ok (.bipush (-2), 2) := by decide +kernel
theorem dX8_lots_53 : decode cX8_lots 53 = .ok (.ireturn, 1) := by decide +kernel
theorem dX8_lots_54 : decode cX8_lots 54 = .ok (.iconst 0, 1) := by decide +kernel
theorem dX8_lots_55 : decode cX8_lots 55 = .ok (.istore 4, 2) := by decide +kernel
theorem dX8_lots_57 : decode cX8_lots 57 = .ok (.iload_n 2, 1) := by decide +kernel
theorem dX8_lots_58 : decode cX8_lots 58 = .ok (.i2l, 1) := by decide +kernel
theorem dX8_lots_59 : decode cX8_lots 59 = .ok (.lstore 5, 2) := by decide +kernel
theorem dX8_lots_61 : decode cX8_lots 61 = .ok (.iconst 0, 1) := by decide +kernel
theorem dX8_lots_62 : decode cX8_lots 62 = .ok (.istore 7, 2) := by decide +kernel
theorem dX8_lots_64 : decode cX8_lots 64 = .ok (.iload 7, 2) := by decide +kernel
theorem dX8_lots_66 : decode cX8_lots 66 = .ok (.iload_n 1, 1) := by decide +kernel
theorem dX8_lots_67 : decode cX8_lots 67 = .ok (.if_icmp .ge 103, 3) := by decide +kernel
theorem dX8_lots_70 : decode cX8_lots 70 = .ok (.lload 5, 2) := by decide +kernel
theorem dX8_lots_72 : decode cX8_lots 72 = .ok (.ldc2_w 288, 3) := by decide +kernel
theorem dX8_lots_75 : decode cX8_lots 75 = .ok (.lmul, 1) := by decide +kernel
theorem dX8_lots_76 : decode cX8_lots 76 = .ok (.ldc2_w 290, 3) := by decide +kernel
theorem dX8_lots_79 : decode cX8_lots 79 = .ok (.lrem, 1) := by decide +kernel
theorem dX8_lots_80 : decode cX8_lots 80 = .ok (.lstore 5, 2) := by decide +kernel
theorem dX8_lots_82 : decode cX8_lots 82 = .ok (.lload 5, 2) := by decide +kernel
theorem dX8_lots_84 : decode cX8_lots 84 = .ok (.ldc2_w 292, 3) := by decide +kernel
theorem dX8_lots_87 : decode cX8_lots 87 = .ok (.ldiv, 1) := by decide +kernel
theorem dX8_lots_88 : decode cX8_lots 88 = .ok (.iload_n 3, 1) := by decide +kernel
theorem dX8_lots_89 : decode cX8_lots 89 = .ok (.i2l, 1) := by decide +kernel
theorem dX8_lots_90 : decode cX8_lots 90 = .ok (.lrem, 1) := by decide +kernel
theorem dX8_lots_91 : decode cX8_lots 91 = .ok (.l2i, 1) := by decide +kernel
theorem dX8_lots_92 : decode cX8_lots 92 = .ok (.istore 8, 2) := by decide +kernel
theorem dX8_lots_94 : decode cX8_lots 94 = .ok (.lload 5, 2) := by decide +kernel
theorem dX8_lots_96 : decode cX8_lots 96 = .ok (.ldc2_w 294, 3) := by decide +kernel
theorem dX8_lots_99 : decode cX8_lots 99 = .ok (.lrem, 1) := by decide +kernel
theorem dX8_lots_100 : decode cX8_lots 100 = .ok (.l2i, 1) := by decide +kernel
theorem dX8_lots_101 : decode cX8_lots 101 = .ok (.lookupswitch 55 #[(2, 27), (3, 43)], 27) := by decide +kernel
theorem dX8_lots_128 : decode cX8_lots 128 = .ok (.iload 4, 2) := by decide +kernel
theorem dX8_lots_130 : decode cX8_lots 130 = .ok (.aload_n 0, 1) := by decide +kernel
theorem dX8_lots_131 : decode cX8_lots 131 = .ok (.iconst 1, 1) := by decide +kernel
theorem dX8_lots_132 : decode cX8_lots 132 = .ok (.iload 8, 2) := by decide +kernel
theorem dX8_lots_134 : decode cX8_lots 134 = .ok (.iconst 0, 1) := by decide +kernel
theorem dX8_lots_135 : decode cX8_lots 135 = .ok (.invokevirtual 190, 3) := by decide +kernel
theorem dX8_lots_138 : decode cX8_lots 138 = .ok (.iadd, 1) := by decide +kernel
theorem dX8_lots_139 : decode cX8_lots 139 = .ok (.istore 4, 2) := by decide +kernel
theorem dX8_lots_141 : decode cX8_lots 141 = .ok (.goto 23, 3) := by decide +kernel
theorem dX8_lots_144 : decode cX8_lots 144 = .ok (.aload_n 0, 1) := by decide +kernel
theorem dX8_lots_145 : decode cX8_lots 145 = .ok (.iconst 2, 1) := by decide +kernel
theorem dX8_lots_146 : decode cX8_lots 146 = .ok (.iload 8, 2) := by decide +kernel
theorem dX8_lots_148 : decode cX8_lots 148 = .ok (.iconst 0, 1) := by decide +kernel
theorem dX8_lots_149 : decode cX8_lots 149 = .ok (.invokevirtual 190, 3) := by decide +kernel
theorem dX8_lots_152 : decode cX8_lots 152 = .ok (.pop, 1) := by decide +kernel
theorem dX8_lots_153 : decode cX8_lots 153 = .ok (.goto 11, 3) := by decide +kernel
theorem dX8_lots_156 : decode cX8_lots 156 = .ok (.aload_n 0, 1) := by decide +kernel
theorem dX8_lots_157 : decode cX8_lots 157 = .ok (.iconst 0, 1) := by decide +kernel
theorem dX8_lots_158 : decode cX8_lots 158 = .ok (.iconst 0, 1) := by decide +kernel
theorem dX8_lots_159 : decode cX8_lots 159 = .ok (.iconst 0, 1) := by decide +kernel
theorem dX8_lots_160 : decode cX8_lots 160 = .ok (.invokevirtual 190, 3) := by decide +kernel
theorem dX8_lots_163 : decode cX8_lots 163 = .ok (.pop, 1) := by decide +kernel
theorem dX8_lots_164 : decode cX8_lots 164 = .ok (.iinc 7 1, 3) := by decide +kernel
theorem dX8_lots_167 : decode cX8_lots 167 = .ok (.goto (-103), 3) := by decide +kernel
theorem dX8_lots_170 : decode cX8_lots 170 = .ok (.iload 4, 2) := by decide +kernel
theorem dX8_lots_172 : decode cX8_lots 172 = .ok (.ireturn, 1) := by decide +kernel
theorem dX8_asked_0 : decode cX8_asked 0 = .ok (.aload_n 0, 1) := by decide +kernel
theorem dX8_asked_1 : decode cX8_asked 1 = .ok (.getfield 80, 3) := by decide +kernel
theorem dX8_asked_4 : decode cX8_asked 4 = .ok (.ireturn, 1) := by decide +kernel
theorem dX8_upper_0 : decode cX8_upper 0 = .ok (.aload_n 0, 1) := by decide +kernel
theorem dX8_upper_1 : decode cX8_upper 1 = .ok (.getfield 83, 3) := by decide +kernel
theorem dX8_upper_4 : decode cX8_upper 4 = .ok (.lreturn, 1) := by decide +kernel
theorem dX8_lower_0 : decode cX8_lower 0 = .ok (.aload_n 0, 1) := by decide +kernel
theorem dX8_lower_1 : decode cX8_lower 1 = .ok (.getfield 87, 3) := by decide +kernel
theorem dX8_lower_4 : decode cX8_lower 4 = .ok (.lreturn, 1) := by decide +kernel
theorem dX8_count_0 : decode cX8_count 0 = .ok (.iload_n 1, 1) := by decide +kernel
theorem dX8_count_1 : decode cX8_count 1 = .ok (.tableswitch 151 0 10 #[59, 67, 75, 80, 88, 96, 104, 119, 127, 135, 143], 59) := by decide +kernel
theorem dX8_count_60 : decode cX8_count 60 = .ok (.aload_n 0, 1) := by decide +kernel
theorem dX8_count_61 : decode cX8_count 61 = .ok (.getfield 31, 3) := by decide +kernel
theorem dX8_count_64 : decode cX8_count 64 = .ok (.getfield 158, 3) := by decide +kernel
theorem dX8_count_67 : decode cX8_count 67 = .ok (.ireturn, 1) := by decide +kernel
theorem dX8_count_68 : decode cX8_count 68 = .ok (.aload_n 0, 1) := by decide +kernel
theorem dX8_count_69 : decode cX8_count 69 = .ok (.getfield 31, 3) := by decide +kernel
theorem dX8_count_72 : decode cX8_count 72 = .ok (.getfield 177, 3) := by decide +kernel
theorem dX8_count_75 : decode cX8_count 75 = .ok (.ireturn, 1) := by decide +kernel
theorem dX8_count_76 : decode cX8_count 76 = .ok (.aload_n 0, 1) := by decide +kernel
theorem dX8_count_77 : decode cX8_count 77 = .ok (.getfield 41, 3) := by decide +kernel
theorem dX8_count_80 : decode cX8_count 80 = .ok (.ireturn, 1) := by decide +kernel
theorem dX8_count_81 : decode cX8_count 81 = .ok (.aload_n 0, 1) := by decide +kernel
theorem dX8_count_82 : decode cX8_count 82 = .ok (.getfield 31, 3) := by decide +kernel
theorem dX8_count_85 : decode cX8_count 85 = .ok (.invokevirtual 234, 3) := by decide +kernel
theorem dX8_count_88 : decode cX8_count 88 = .ok (.ireturn, 1) := by decide +kernel
theorem dX8_count_89 : decode cX8_count 89 = .ok (.aload_n 0, 1) := by decide +kernel
theorem dX8_count_90 : decode cX8_count 90 = .ok (.getfield 31, 3) := by decide +kernel
theorem dX8_count_93 : decode cX8_count 93 = .ok (.invokevirtual 296, 3) := by decide +kernel
theorem dX8_count_96 : decode cX8_count 96 = .ok (.ireturn, 1) := by decide +kernel
theorem dX8_count_97 : decode cX8_count 97 = .ok (.aload_n 0, 1) := by decide +kernel
theorem dX8_count_98 : decode cX8_count 98 = .ok (.getfield 31, 3) := by decide +kernel
theorem dX8_count_101 : decode cX8_count 101 = .ok (.invokevirtual 264, 3) := by decide +kernel
theorem dX8_count_104 : decode cX8_count 104 = .ok (.ireturn, 1) := by decide +kernel
theorem dX8_count_105 : decode cX8_count 105 = .ok (.aload_n 0, 1) := by decide +kernel
theorem dX8_count_106 : decode cX8_count 106 = .ok (.getfield 31, 3) := by decide +kernel
theorem dX8_count_109 : decode cX8_count 109 = .ok (.aload_n 0, 1) := by decide +kernel
theorem dX8_count_110 : decode cX8_count 110 = .ok (.getfield 31, 3) := by decide +kernel
theorem dX8_count_113 : decode cX8_count 113 = .ok (.getfield 177, 3) := by decide +kernel
theorem dX8_count_116 : decode cX8_count 116 = .ok (.invokevirtual 299, 3) := by decide +kernel
theorem dX8_count_119 : decode cX8_count 119 = .ok (.ireturn, 1) := by decide +kernel
theorem dX8_count_120 : decode cX8_count 120 = .ok (.aload_n 0, 1) := by decide +kernel
theorem dX8_count_121 : decode cX8_count 121 = .ok (.getfield 31, 3) := by decide +kernel
theorem dX8_count_124 : decode cX8_count 124 = .ok (.invokevirtual 302, 3) := by decide +kernel
theorem dX8_count_127 : decode cX8_count 127 = .ok (.ireturn, 1) := by decide +kernel
theorem dX8_count_128 : decode cX8_count 128 = .ok (.aload_n 0, 1) := by decide +kernel
theorem dX8_count_129 : decode cX8_count 129 = .ok (.getfield 14, 3) := by decide +kernel
theorem dX8_count_132 : decode cX8_count 132 = .ok (.invokevirtual 305, 3) := by decide +kernel
theorem dX8_count_135 : decode cX8_count 135 = .ok (.ireturn, 1) := by decide +kernel
theorem dX8_count_136 : decode cX8_count 136 = .ok (.aload_n 0, 1) := by decide +kernel
theorem dX8_count_137 : decode cX8_count 137 = .ok (.getfield 18, 3) := by decide +kernel
theorem dX8_count_140 : decode cX8_count 140 = .ok (.invokevirtual 305, 3) := by decide +kernel
theorem dX8_count_143 : decode cX8_count 143 = .ok (.ireturn, 1) := by decide +kernel
theorem dX8_count_144 : decode cX8_count 144 = .ok (.aload_n 0, 1) := by decide +kernel
theorem dX8_count_145 : decode cX8_count 145 = .ok (.getfield 21, 3) := by decide +kernel
theorem dX8_count_148 : decode cX8_count 148 = .ok (.invokevirtual 305, 3) := by decide +kernel
theorem dX8_count_151 : decode cX8_count 151 = .ok (.ireturn, 1) := by decide +kernel
theorem dX8_count_152 : decode cX8_count 152 = .ok (.iconst (-1), 1) := by decide +kernel
theorem dX8_count_153 : decode cX8_count 153 = .ok (.ireturn, 1) := by decide +kernel
theorem dX8_finding_0 : decode cX8_finding 0 = .ok (.aload_n 0, 1) := by decide +kernel
theorem dX8_finding_1 : decode cX8_finding 1 = .ok (.getfield 90, 3) := by decide +kernel
theorem dX8_finding_4 : decode cX8_finding 4 = .ok (.ireturn, 1) := by decide +kernel
theorem dX8_findings_0 : decode cX8_findings 0 = .ok (.iload_n 1, 1) := by decide +kernel
theorem dX8_findings_1 : decode cX8_findings 1 = .ok (.iconst 1, 1) := by decide +kernel
theorem dX8_findings_2 : decode cX8_findings 2 = .ok (.if_icmp .lt 8, 3) := by decide +kernel
theorem dX8_findings_5 : decode cX8_findings 5 = .ok (.iload_n 1, 1) := by decide +kernel
theorem dX8_findings_6 : decode cX8_findings 6 = .ok (.iconst 5, 1) := by decide +kernel
theorem dX8_findings_7 : decode cX8_findings 7 = .ok (.if_icmp .le 7, 3) := by decide +kernel
theorem dX8_findings_10 : decode cX8_findings 10 = .ok (.iconst (-1), 1) := by decide +kernel
theorem dX8_findings_11 : decode cX8_findings 11 = .ok (.goto 11, 3) := by decide +kernel
theorem dX8_findings_14 : decode cX8_findings 14 = .ok (.aload_n 0, 1) := by decide +kernel
theorem dX8_findings_15 : decode cX8_findings 15 = .ok (.getfield 93, 3) := by decide +kernel
theorem dX8_findings_18 : decode cX8_findings 18 = .ok (.iload_n 1, 1) := by decide +kernel
theorem dX8_findings_19 : decode cX8_findings 19 = .ok (.invokestatic 308, 3) := by decide +kernel
theorem dX8_findings_22 : decode cX8_findings 22 = .ok (.ireturn, 1) := by decide +kernel
theorem dX8_digest_0 : decode cX8_digest 0 = .ok (.ldc2_w 312, 3) := by decide +kernel
theorem dX8_digest_3 : decode cX8_digest 3 = .ok (.lstore_n 1, 1) := by decide +kernel
theorem dX8_digest_4 : decode cX8_digest 4 = .ok (.iconst 0, 1) := by decide +kernel
theorem dX8_digest_5 : decode cX8_digest 5 = .ok (.istore_n 3, 1) := by decide +kernel
theorem dX8_digest_6 : decode cX8_digest 6 = .ok (.iload_n 3, 1) := by decide +kernel
theorem dX8_digest_7 : decode cX8_digest 7 = .ok (.bipush 11, 2) := by decide +kernel
theorem dX8_digest_9 : decode cX8_digest 9 = .ok (.if_icmp .ge 22, 3) := by decide +kernel
theorem dX8_digest_12 : decode cX8_digest 12 = .ok (.ldc2_w 314, 3) := by decide +kernel
theorem dX8_digest_15 : decode cX8_digest 15 = .ok (.lload_n 1, 1) := by decide +kernel
theorem dX8_digest_16 : decode cX8_digest 16 = .ok (.lmul, 1) := by decide +kernel
theorem dX8_digest_17 : decode cX8_digest 17 = .ok (.aload_n 0, 1) := by decide +kernel
theorem dX8_digest_18 : decode cX8_digest 18 = .ok (.iload_n 3, 1) := by decide +kernel
theorem dX8_digest_19 : decode cX8_digest 19 = .ok (.invokevirtual 316, 3) := by decide +kernel
theorem dX8_digest_22 : decode cX8_digest 22 = .ok (.i2l, 1) := by decide +kernel
theorem dX8_digest_23 : decode cX8_digest 23 = .ok (.ladd, 1) := by decide +kernel
theorem dX8_digest_24 : decode cX8_digest 24 = .ok (.lstore_n 1, 1) := by decide +kernel
theorem dX8_digest_25 : decode cX8_digest 25 = .ok (.iinc 3 1, 3) := by decide +kernel
theorem dX8_digest_28 : decode cX8_digest 28 = .ok (.goto (-22), 3) := by decide +kernel
theorem dX8_digest_31 : decode cX8_digest 31 = .ok (.iconst 0, 1) := by decide +kernel
theorem dX8_digest_32 : decode cX8_digest 32 = .ok (.istore_n 3, 1) := by decide +kernel
theorem dX8_digest_33 : decode cX8_digest 33 = .ok (.iload_n 3, 1) := by decide +kernel
theorem dX8_digest_34 : decode cX8_digest 34 = .ok (.aload_n 0, 1) := by decide +kernel
theorem dX8_digest_35 : decode cX8_digest 35 = .ok (.getfield 31, 3) := by decide +kernel
theorem dX8_digest_38 : decode cX8_digest 38 = .ok (.getfield 158, 3) := by decide +kernel
theorem dX8_digest_41 : decode cX8_digest 41 = .ok (.if_icmp .ge 43, 3) := by decide +kernel
theorem dX8_digest_44 : decode cX8_digest 44 = .ok (.iconst 0, 1) := by decide +kernel
theorem dX8_digest_45 : decode cX8_digest 45 = .ok (.istore 4, 2) := by decide +kernel
theorem dX8_digest_47 : decode cX8_digest 47 = .ok (.iload 4, 2) := by decide +kernel
theorem dX8_digest_49 : decode cX8_digest 49 = .ok (.bipush 8, 2) := by decide +kernel
theorem dX8_digest_51 : decode cX8_digest 51 = .ok (.if_icmp .ge 27, 3) := by decide +kernel
theorem dX8_digest_54 : decode cX8_digest 54 = .ok (.ldc2_w 314, 3) := by decide +kernel
theorem dX8_digest_57 : decode cX8_digest 57 = .ok (.lload_n 1, 1) := by decide +kernel
theorem dX8_digest_58 : decode cX8_digest 58 = .ok (.lmul, 1) := by decide +kernel
theorem dX8_digest_59 : decode cX8_digest 59 = .ok (.aload_n 0, 1) := by decide +kernel
theorem dX8_digest_60 : decode cX8_digest 60 = .ok (.getfield 31, 3) := by decide +kernel
theorem dX8_digest_63 : decode cX8_digest 63 = .ok (.iload_n 3, 1) := by decide +kernel
theorem dX8_digest_64 : decode cX8_digest 64 = .ok (.iload 4, 2) := by decide +kernel
theorem dX8_digest_66 : decode cX8_digest 66 = .ok (.invokevirtual 164, 3) := by decide +kernel
theorem dX8_digest_69 : decode cX8_digest 69 = .ok (.i2l, 1) := by decide +kernel
theorem dX8_digest_70 : decode cX8_digest 70 = .ok (.ladd, 1) := by decide +kernel
theorem dX8_digest_71 : decode cX8_digest 71 = .ok (.lstore_n 1, 1) := by decide +kernel
theorem dX8_digest_72 : decode cX8_digest 72 = .ok (.iinc 4 1, 3) := by decide +kernel
theorem dX8_digest_75 : decode cX8_digest 75 = .ok (.goto (-28), 3) := by decide +kernel
theorem dX8_digest_78 : decode cX8_digest 78 = .ok (.iinc 3 1, 3) := by decide +kernel
theorem dX8_digest_81 : decode cX8_digest 81 = .ok (.goto (-48), 3) := by decide +kernel
theorem dX8_digest_84 : decode cX8_digest 84 = .ok (.iconst 0, 1) := by decide +kernel
theorem dX8_digest_85 : decode cX8_digest 85 = .ok (.istore_n 3, 1) := by decide +kernel
theorem dX8_digest_86 : decode cX8_digest 86 = .ok (.iload_n 3, 1) := by decide +kernel
theorem dX8_digest_87 : decode cX8_digest 87 = .ok (.iconst 3, 1) := by decide +kernel
theorem dX8_digest_88 : decode cX8_digest 88 = .ok (.if_icmp .ge 25, 3) := by decide +kernel
theorem dX8_digest_91 : decode cX8_digest 91 = .ok (.ldc2_w 314, 3) := by decide +kernel
theorem dX8_digest_94 : decode cX8_digest 94 = .ok (.lload_n 1, 1) := by decide +kernel
theorem dX8_digest_95 : decode cX8_digest 95 = .ok (.lmul, 1) := by decide +kernel
theorem dX8_digest_96 : decode cX8_digest 96 = .ok (.aload_n 0, 1) := by decide +kernel
theorem dX8_digest_97 : decode cX8_digest 97 = .ok (.getfield 21, 3) := by decide +kernel
theorem dX8_digest_100 : decode cX8_digest 100 = .ok (.iload_n 3, 1) := by decide +kernel
theorem dX8_digest_101 : decode cX8_digest 101 = .ok (.invokevirtual 142, 3) := by decide +kernel
theorem dX8_digest_104 : decode cX8_digest 104 = .ok (.i2l, 1) := by decide +kernel
theorem dX8_digest_105 : decode cX8_digest 105 = .ok (.ladd, 1) := by decide +kernel
theorem dX8_digest_106 : decode cX8_digest 106 = .ok (.lstore_n 1, 1) := by decide +kernel
theorem dX8_digest_107 : decode cX8_digest 107 = .ok (.iinc 3 1, 3) := by decide +kernel
theorem dX8_digest_110 : decode cX8_digest 110 = .ok (.goto (-24), 3) := by decide +kernel
theorem dX8_digest_113 : decode cX8_digest 113 = .ok (.aload_n 0, 1) := by decide +kernel
theorem dX8_digest_114 : decode cX8_digest 114 = .ok (.getfield 18, 3) := by decide +kernel
theorem dX8_digest_117 : decode cX8_digest 117 = .ok (.aload_n 0, 1) := by decide +kernel
theorem dX8_digest_118 : decode cX8_digest 118 = .ok (.getfield 14, 3) := by decide +kernel
theorem dX8_digest_121 : decode cX8_digest 121 = .ok (.lload_n 1, 1) := by decide +kernel
theorem dX8_digest_122 : decode cX8_digest 122 = .ok (.invokevirtual 319, 3) := by decide +kernel
theorem dX8_digest_125 : decode cX8_digest 125 = .ok (.invokevirtual 319, 3) := by decide +kernel
theorem dX8_digest_128 : decode cX8_digest 128 = .ok (.lreturn, 1) := by decide +kernel
theorem dX8_tell_0 : decode cX8_tell 0 = .ok (.aload_n 0, 1) := by decide +kernel
theorem dX8_tell_1 : decode cX8_tell 1 = .ok (.iload_n 1, 1) := by decide +kernel
theorem dX8_tell_2 : decode cX8_tell 2 = .ok (.putfield 80, 3) := by decide +kernel
theorem dX8_tell_5 : decode cX8_tell 5 = .ok (.iconst 1, 1) := by decide +kernel
theorem dX8_tell_6 : decode cX8_tell 6 = .ok (.ireturn, 1) := by decide +kernel
theorem dX8_refuse_0 : decode cX8_refuse 0 = .ok (.aload_n 0, 1) := by decide +kernel
theorem dX8_refuse_1 : decode cX8_refuse 1 = .ok (.iload_n 1, 1) := by decide +kernel
theorem dX8_refuse_2 : decode cX8_refuse 2 = .ok (.putfield 90, 3) := by decide +kernel
theorem dX8_refuse_5 : decode cX8_refuse 5 = .ok (.aload_n 0, 1) := by decide +kernel
theorem dX8_refuse_6 : decode cX8_refuse 6 = .ok (.getfield 93, 3) := by decide +kernel
theorem dX8_refuse_9 : decode cX8_refuse 9 = .ok (.iload_n 1, 1) := by decide +kernel
theorem dX8_refuse_10 : decode cX8_refuse 10 = .ok (.aload_n 0, 1) := by decide +kernel
theorem dX8_refuse_11 : decode cX8_refuse 11 = .ok (.getfield 93, 3) := by decide +kernel
theorem dX8_refuse_14 : decode cX8_refuse 14 = .ok (.iload_n 1, 1) := by decide +kernel
theorem dX8_refuse_15 : decode cX8_refuse 15 = .ok (.invokestatic 308, 3) := by decide +kernel
theorem dX8_refuse_18 : decode cX8_refuse 18 = .ok (.iconst 1, 1) := by decide +kernel
theorem dX8_refuse_19 : decode cX8_refuse 19 = .ok (.iadd, 1) := by decide +kernel
theorem dX8_refuse_20 : decode cX8_refuse 20 = .ok (.invokestatic 201, 3) := by decide +kernel
theorem dX8_refuse_23 : decode cX8_refuse 23 = .ok (.bipush (-3), 2) := by decide +kernel
theorem dX8_refuse_25 : decode cX8_refuse 25 = .ok (.ireturn, 1) := by decide +kernel
theorem dX8_makeAnew_0 : decode cX8_makeAnew 0 = .ok (.aload_n 1, 1) := by decide +kernel
theorem dX8_makeAnew_1 : decode cX8_makeAnew 1 = .ok (.iload_n 2, 1) := by decide +kernel
theorem dX8_makeAnew_2 : decode cX8_makeAnew 2 = .ok (.invokevirtual 124, 3) := by decide +kernel
theorem dX8_makeAnew_5 : decode cX8_makeAnew 5 = .ok (.ifCond .eq 11, 3) := by decide +kernel
theorem dX8_makeAnew_8 : decode cX8_makeAnew 8 = .ok (.iload_n 3, 1) := by decide +kernel
theorem dX8_makeAnew_9 : decode cX8_makeAnew 9 = .ok (.aload_n 1, 1) := by decide +kernel
theorem dX8_makeAnew_10 : decode cX8_makeAnew 10 = .ok (.getfield 323, 3) := by decide +kernel
theorem dX8_makeAnew_13 : decode cX8_makeAnew 13 = .ok (.if_icmp .le 5, 3) := by decide +kernel
theorem dX8_makeAnew_16 : decode cX8_makeAnew 16 = .ok (.iconst (-1), 1) := by decide +kernel
theorem dX8_makeAnew_17 : decode cX8_makeAnew 17 = .ok (.ireturn, 1) := by decide +kernel
theorem dX8_makeAnew_18 : decode cX8_makeAnew 18 = .ok (.iload_n 3, 1) := by decide +kernel
theorem dX8_makeAnew_19 : decode cX8_makeAnew 19 = .ok (.ifCond .ge 9, 3) := by decide +kernel
theorem dX8_makeAnew_22 : decode cX8_makeAnew 22 = .ok (.aload_n 0, 1) := by decide +kernel
theorem dX8_makeAnew_23 : decode cX8_makeAnew 23 = .ok (.iconst 5, 1) := by decide +kernel
theorem dX8_makeAnew_24 : decode cX8_makeAnew 24 = .ok (.invokevirtual 128, 3) := by decide +kernel
theorem dX8_makeAnew_27 : decode cX8_makeAnew 27 = .ok (.ireturn, 1) := by decide +kernel
theorem dX8_makeAnew_28 : decode cX8_makeAnew 28 = .ok (.aload_n 1, 1) := by decide +kernel
theorem dX8_makeAnew_29 : decode cX8_makeAnew 29 = .ok (.iload_n 2, 1) := by decide +kernel
theorem dX8_makeAnew_30 : decode cX8_makeAnew 30 = .ok (.iload_n 3, 1) := by decide +kernel
theorem dX8_makeAnew_31 : decode cX8_makeAnew 31 = .ok (.iload 4, 2) := by decide +kernel
theorem dX8_makeAnew_33 : decode cX8_makeAnew 33 = .ok (.invokevirtual 326, 3) := by decide +kernel
theorem dX8_makeAnew_36 : decode cX8_makeAnew 36 = .ok (.iload_n 3, 1) := by decide +kernel
theorem dX8_makeAnew_37 : decode cX8_makeAnew 37 = .ok (.ireturn, 1) := by decide +kernel
theorem dX8_refusalOfMissing_0 : decode cX8_refusalOfMissing 0 = .ok (.aload_n 1, 1) := by decide +kernel
theorem dX8_refusalOfMissing_1 : decode cX8_refusalOfMissing 1 = .ok (.iload_n 2, 1) := by decide +kernel
theorem dX8_refusalOfMissing_2 : decode cX8_refusalOfMissing 2 = .ok (.invokevirtual 124, 3) := by decide +kernel
theorem dX8_refusalOfMissing_5 : decode cX8_refusalOfMissing 5 = .ok (.ifCond .ne 5, 3) := by decide +kernel
theorem dX8_refusalOfMissing_8 : decode cX8_refusalOfMissing 8 = .ok (.iconst (-1), 1) := by decide +kernel
theorem dX8_refusalOfMissing_9 : decode cX8_refusalOfMissing 9 = .ok (.ireturn, 1) := by decide +kernel
theorem dX8_refusalOfMissing_10 : decode cX8_refusalOfMissing 10 = .ok (.aload_n 1, 1) := by decide +kernel
theorem dX8_refusalOfMissing_11 : decode cX8_refusalOfMissing 11 = .ok (.iload_n 2, 1) := by decide +kernel
theorem dX8_refusalOfMissing_12 : decode cX8_refusalOfMissing 12 = .ok (.invokevirtual 131, 3) := by decide +kernel
theorem dX8_refusalOfMissing_15 : decode cX8_refusalOfMissing 15 = .ok (.ifCond .eq 7, 3) := by decide +kernel
theorem dX8_refusalOfMissing_18 : decode cX8_refusalOfMissing 18 = .ok (.iconst 0, 1) := by decide +kernel
theorem dX8_refusalOfMissing_19 : decode cX8_refusalOfMissing 19 = .ok (.goto 8, 3) := by decide +kernel
theorem dX8_refusalOfMissing_22 : decode cX8_refusalOfMissing 22 = .ok (.aload_n 0, 1) := by decide +kernel
theorem dX8_refusalOfMissing_23 : decode cX8_refusalOfMissing 23 = .ok (.iconst 1, 1) := by decide +kernel
theorem dX8_refusalOfMissing_24 : decode cX8_refusalOfMissing 24 = .ok (.invokevirtual 128, 3) := by decide +kernel
theorem dX8_refusalOfMissing_27 : decode cX8_refusalOfMissing 27 = .ok (.ireturn, 1) := by decide +kernel
theorem dX8_refusalOfPlace_0 : decode cX8_refusalOfPlace 0 = .ok (.aload_n 0, 1) := by decide +kernel
theorem dX8_refusalOfPlace_1 : decode cX8_refusalOfPlace 1 = .ok (.aload_n 1, 1) := by decide +kernel
theorem dX8_refusalOfPlace_2 : decode cX8_refusalOfPlace 2 = .ok (.iload_n 2, 1) := by decide +kernel
theorem dX8_refusalOfPlace_3 : decode cX8_refusalOfPlace 3 = .ok (.invokevirtual 116, 3) := by decide +kernel
theorem dX8_refusalOfPlace_6 : decode cX8_refusalOfPlace 6 = .ok (.istore 4, 2) := by decide +kernel
theorem dX8_refusalOfPlace_8 : decode cX8_refusalOfPlace 8 = .ok (.iload 4, 2) := by decide +kernel
theorem dX8_refusalOfPlace_10 : decode cX8_refusalOfPlace 10 = .ok (.ifCond .eq 6, 3) := by decide +kernel
theorem dX8_refusalOfPlace_13 : decode cX8_refusalOfPlace 13 = .ok (.iload 4, 2) := by decide +kernel
theorem dX8_refusalOfPlace_15 : decode cX8_refusalOfPlace 15 = .ok (.ireturn, 1) := by decide +kernel
theorem dX8_refusalOfPlace_16 : decode cX8_refusalOfPlace 16 = .ok (.aload_n 1, 1) := by decide +kernel
theorem dX8_refusalOfPlace_17 : decode cX8_refusalOfPlace 17 = .ok (.iload_n 2, 1) := by decide +kernel
theorem dX8_refusalOfPlace_18 : decode cX8_refusalOfPlace 18 = .ok (.iload_n 3, 1) := by decide +kernel
theorem dX8_refusalOfPlace_19 : decode cX8_refusalOfPlace 19 = .ok (.iconst 1, 1) := by decide +kernel
theorem dX8_refusalOfPlace_20 : decode cX8_refusalOfPlace 20 = .ok (.invokevirtual 134, 3) := by decide +kernel
theorem dX8_refusalOfPlace_23 : decode cX8_refusalOfPlace 23 = .ok (.ifCond .eq 7, 3) := by decide +kernel
theorem dX8_refusalOfPlace_26 : decode cX8_refusalOfPlace 26 = .ok (.iconst 0, 1) := by decide +kernel
theorem dX8_refusalOfPlace_27 : decode cX8_refusalOfPlace 27 = .ok (.goto 8, 3) := by decide +kernel
theorem dX8_refusalOfPlace_30 : decode cX8_refusalOfPlace 30 = .ok (.aload_n 0, 1) := by decide +kernel
theorem dX8_refusalOfPlace_31 : decode cX8_refusalOfPlace 31 = .ok (.iconst 2, 1) := by decide +kernel
theorem dX8_refusalOfPlace_32 : decode cX8_refusalOfPlace 32 = .ok (.invokevirtual 128, 3) := by decide +kernel
theorem dX8_refusalOfPlace_35 : decode cX8_refusalOfPlace 35 = .ok (.ireturn, 1) := by decide +kernel
theorem dX8_takePairs_0 : decode cX8_takePairs 0 = .ok (.aload_n 0, 1) := by decide +kernel
theorem dX8_takePairs_1 : decode cX8_takePairs 1 = .ok (.getfield 31, 3) := by decide +kernel
theorem dX8_takePairs_4 : decode cX8_takePairs 4 = .ok (.iload_n 1, 1) := by decide +kernel
theorem dX8_takePairs_5 : decode cX8_takePairs 5 = .ok (.invokevirtual 161, 3) := by decide +kernel
theorem dX8_takePairs_8 : decode cX8_takePairs 8 = .ok (.ifCond .ne 5, 3) := by decide +kernel
theorem dX8_takePairs_11 : decode cX8_takePairs 11 = .ok (.iconst (-1), 1) := by decide +kernel
theorem dX8_takePairs_12 : decode cX8_takePairs 12 = .ok (.ireturn, 1) := by decide +kernel
theorem dX8_takePairs_13 : decode cX8_takePairs 13 = .ok (.aload_n 0, 1) := by decide +kernel
theorem dX8_takePairs_14 : decode cX8_takePairs 14 = .ok (.aload_n 0, 1) := by decide +kernel
theorem dX8_takePairs_15 : decode cX8_takePairs 15 = .ok (.getfield 14, 3) := by decide +kernel
theorem dX8_takePairs_18 : decode cX8_takePairs 18 = .ok (.iload_n 2, 1) := by decide +kernel
theorem dX8_takePairs_19 : decode cX8_takePairs 19 = .ok (.invokevirtual 116, 3) := by decide +kernel
theorem dX8_takePairs_22 : decode cX8_takePairs 22 = .ok (.istore_n 3, 1) := by decide +kernel
theorem dX8_takePairs_23 : decode cX8_takePairs 23 = .ok (.iload_n 3, 1) := by decide +kernel
theorem dX8_takePairs_24 : decode cX8_takePairs 24 = .ok (.ifCond .eq 5, 3) := by decide +kernel
theorem dX8_takePairs_27 : decode cX8_takePairs 27 = .ok (.iload_n 3, 1) := by decide +kernel
theorem dX8_takePairs_28 : decode cX8_takePairs 28 = .ok (.ireturn, 1) := by decide +kernel
theorem dX8_takePairs_29 : decode cX8_takePairs 29 = .ok (.aload_n 0, 1) := by decide +kernel
theorem dX8_takePairs_30 : decode cX8_takePairs 30 = .ok (.getfield 14, 3) := by decide +kernel
theorem dX8_takePairs_33 : decode cX8_takePairs 33 = .ok (.iload_n 2, 1) := by decide +kernel
theorem dX8_takePairs_34 : decode cX8_takePairs 34 = .ok (.invokevirtual 142, 3) := by decide +kernel
theorem dX8_takePairs_37 : decode cX8_takePairs 37 = .ok (.iconst 2, 1) := by decide +kernel
theorem dX8_takePairs_38 : decode cX8_takePairs 38 = .ok (.irem, 1) := by decide +kernel
theorem dX8_takePairs_39 : decode cX8_takePairs 39 = .ok (.ifCond .eq 9, 3) := by decide +kernel
theorem dX8_takePairs_42 : decode cX8_takePairs 42 = .ok (.aload_n 0, 1) := by decide +kernel
theorem dX8_takePairs_43 : decode cX8_takePairs 43 = .ok (.iconst 5, 1) := by decide +kernel
theorem dX8_takePairs_44 : decode cX8_takePairs 44 = .ok (.invokevirtual 128, 3) := by decide +kernel
theorem dX8_takePairs_47 : decode cX8_takePairs 47 = .ok (.ireturn, 1) := by decide +kernel
theorem dX8_takePairs_48 : decode cX8_takePairs 48 = .ok (.aload_n 0, 1) := by decide +kernel
theorem dX8_takePairs_49 : decode cX8_takePairs 49 = .ok (.getfield 69, 3) := by decide +kernel
theorem dX8_takePairs_52 : decode cX8_takePairs 52 = .ok (.aload_n 0, 1) := by decide +kernel
theorem dX8_takePairs_53 : decode cX8_takePairs 53 = .ok (.getfield 14, 3) := by decide +kernel
theorem dX8_takePairs_56 : decode cX8_takePairs 56 = .ok (.iload_n 2, 1) := by decide +kernel
theorem dX8_takePairs_57 : decode cX8_takePairs 57 = .ok (.invokevirtual 329, 3) := by decide +kernel
theorem dX8_takePairs_60 : decode cX8_takePairs 60 = .ok (.ifCond .eq 7, 3) := by decide +kernel
theorem dX8_takePairs_63 : decode cX8_takePairs 63 = .ok (.iconst 0, 1) := by decide +kernel
theorem dX8_takePairs_64 : decode cX8_takePairs 64 = .ok (.goto 8, 3) := by decide +kernel
theorem dX8_takePairs_67 : decode cX8_takePairs 67 = .ok (.aload_n 0, 1) := by decide +kernel
theorem dX8_takePairs_68 : decode cX8_takePairs 68 = .ok (.iconst 3, 1) := by decide +kernel
theorem dX8_takePairs_69 : decode cX8_takePairs 69 = .ok (.invokevirtual 128, 3) := by decide +kernel
theorem dX8_takePairs_72 : decode cX8_takePairs 72 = .ok (.ireturn, 1) := by decide +kernel
theorem dX8_isRound_0 : decode cX8_isRound 0 = .ok (.iconst 0, 1) := by decide +kernel
theorem dX8_isRound_1 : decode cX8_isRound 1 = .ok (.istore_n 2, 1) := by decide +kernel
theorem dX8_isRound_2 : decode cX8_isRound 2 = .ok (.iload_n 2, 1) := by decide +kernel
theorem dX8_isRound_3 : decode cX8_isRound 3 = .ok (.aload_n 0, 1) := by decide +kernel
theorem dX8_isRound_4 : decode cX8_isRound 4 = .ok (.getfield 14, 3) := by decide +kernel
theorem dX8_isRound_7 : decode cX8_isRound 7 = .ok (.iload_n 1, 1) := by decide +kernel
theorem dX8_isRound_8 : decode cX8_isRound 8 = .ok (.invokevirtual 142, 3) := by decide +kernel
theorem dX8_isRound_11 : decode cX8_isRound 11 = .ok (.if_icmp .ge 38, 3) := by decide +kernel
theorem dX8_isRound_14 : decode cX8_isRound 14 = .ok (.aload_n 0, 1) := by decide +kernel
theorem dX8_isRound_15 : decode cX8_isRound 15 = .ok (.getfield 14, 3) := by decide +kernel
theorem dX8_isRound_18 : decode cX8_isRound 18 = .ok (.iload_n 1, 1) := by decide +kernel
theorem dX8_isRound_19 : decode cX8_isRound 19 = .ok (.iload_n 2, 1) := by decide +kernel
theorem dX8_isRound_20 : decode cX8_isRound 20 = .ok (.invokevirtual 104, 3) := by decide +kernel
theorem dX8_isRound_23 : decode cX8_isRound 23 = .ok (.istore_n 3, 1) := by decide +kernel
theorem dX8_isRound_24 : decode cX8_isRound 24 = .ok (.iload_n 3, 1) := by decide +kernel
theorem dX8_isRound_25 : decode cX8_isRound 25 = .ok (.bipush (-9), 2) := by decide +kernel
theorem dX8_isRound_27 : decode cX8_isRound 27 = .ok (.if_icmp .eq 16, 3) := by decide +kernel
theorem dX8_isRound_30 : decode cX8_isRound 30 = .ok (.aload_n 0, 1) := by decide +kernel
theorem dX8_isRound_31 : decode cX8_isRound 31 = .ok (.getfield 31, 3) := by decide +kernel
theorem dX8_isRound_34 : decode cX8_isRound 34 = .ok (.iload_n 3, 1) := by decide +kernel
theorem dX8_isRound_35 : decode cX8_isRound 35 = .ok (.invokevirtual 161, 3) := by decide +kernel
theorem dX8_isRound_38 : decode cX8_isRound 38 = .ok (.ifCond .ne 5, 3) := by decide +kernel
theorem dX8_isRound_41 : decode cX8_isRound 41 = .ok (.iconst 0, 1) := by decide +kernel
theorem dX8_isRound_42 : decode cX8_isRound 42 = .ok (.ireturn, 1) := by decide +kernel
theorem dX8_isRound_43 : decode cX8_isRound 43 = .ok (.iinc 2 1, 3) := by decide +kernel
theorem dX8_isRound_46 : decode cX8_isRound 46 = .ok (.goto (-44), 3) := by decide +kernel
theorem dX8_isRound_49 : decode cX8_isRound 49 = .ok (.iconst 1, 1) := by decide +kernel
theorem dX8_isRound_50 : decode cX8_isRound 50 = .ok (.ireturn, 1) := by decide +kernel
theorem dX8_enact_0 : decode cX8_enact 0 = .ok (.bipush 100, 2) := by decide +kernel
theorem dX8_enact_2 : decode cX8_enact 2 = .ok (.iload_n 1, 1) := by decide +kernel
theorem dX8_enact_3 : decode cX8_enact 3 = .ok (.imul, 1) := by decide +kernel
theorem dX8_enact_4 : decode cX8_enact 4 = .ok (.bipush 10, 2) := by decide +kernel
theorem dX8_enact_6 : decode cX8_enact 6 = .ok (.iload_n 2, 1) := by decide +kernel
theorem dX8_enact_7 : decode cX8_enact 7 = .ok (.imul, 1) := by decide +kernel
theorem dX8_enact_8 : decode cX8_enact 8 = .ok (.iadd, 1) := by decide +kernel
theorem dX8_enact_9 : decode cX8_enact 9 = .ok (.iload_n 3, 1) := by decide +kernel
theorem dX8_enact_10 : decode cX8_enact 10 = .ok (.iadd, 1) := by decide +kernel
theorem dX8_enact_11 : decode cX8_enact 11 = .ok (.istore 4, 2) := by decide +kernel
theorem dX8_enact_13 : decode cX8_enact 13 = .ok (.aload_n 0, 1) := by decide +kernel
theorem dX8_enact_14 : decode cX8_enact 14 = .ok (.getfield 37, 3) := by decide +kernel
theorem dX8_enact_17 : decode cX8_enact 17 = .ok (.aload_n 0, 1) := by decide +kernel
theorem dX8_enact_18 : decode cX8_enact 18 = .ok (.getfield 41, 3) := by decide +kernel
theorem dX8_enact_21 : decode cX8_enact 21 = .ok (.iload 4, 2) := by decide +kernel
theorem dX8_enact_23 : decode cX8_enact 23 = .ok (.invokestatic 201, 3) := by decide +kernel
theorem dX8_enact_26 : decode cX8_enact 26 = .ok (.aload_n 0, 1) := by decide +kernel
theorem dX8_enact_27 : decode cX8_enact 27 = .ok (.dup, 1) := by decide +kernel
theorem dX8_enact_28 : decode cX8_enact 28 = .ok (.getfield 41, 3) := by decide +kernel
theorem dX8_enact_31 : decode cX8_enact 31 = .ok (.iconst 1, 1) := by decide +kernel
theorem dX8_enact_32 : decode cX8_enact 32 = .ok (.iadd, 1) := by decide +kernel
theorem dX8_enact_33 : decode cX8_enact 33 = .ok (.putfield 41, 3) := by decide +kernel
theorem dX8_enact_36 : decode cX8_enact 36 = .ok (.aload_n 0, 1) := by decide +kernel
theorem dX8_enact_37 : decode cX8_enact 37 = .ok (.getfield 31, 3) := by decide +kernel
theorem dX8_enact_40 : decode cX8_enact 40 = .ok (.iload 4, 2) := by decide +kernel
theorem dX8_enact_42 : decode cX8_enact 42 = .ok (.invokevirtual 333, 3) := by decide +kernel
theorem dX8_enact_45 : decode cX8_enact 45 = .ok (.ireturn, 1) := by decide +kernel
theorem dX8_redoFromStart_0 : decode cX8_redoFromStart 0 = .ok (.aload_n 0, 1) := by decide +kernel
theorem dX8_redoFromStart_1 : decode cX8_redoFromStart 1 = .ok (.getfield 31, 3) := by decide +kernel
theorem dX8_redoFromStart_4 : decode cX8_redoFromStart 4 = .ok (.aload_n 0, 1) := by decide +kernel
theorem dX8_redoFromStart_5 : decode cX8_redoFromStart 5 = .ok (.getfield 27, 3) := by decide +kernel
theorem dX8_redoFromStart_8 : decode cX8_redoFromStart 8 = .ok (.invokevirtual 151, 3) := by decide +kernel
theorem dX8_redoFromStart_11 : decode cX8_redoFromStart 11 = .ok (.iconst 0, 1) := by decide +kernel
theorem dX8_redoFromStart_12 : decode cX8_redoFromStart 12 = .ok (.istore_n 1, 1) := by decide +kernel
theorem dX8_redoFromStart_13 : decode cX8_redoFromStart 13 = .ok (.iload_n 1, 1) := by decide +kernel
theorem dX8_redoFromStart_14 : decode cX8_redoFromStart 14 = .ok (.aload_n 0, 1) := by decide +kernel
theorem dX8_redoFromStart_15 : decode cX8_redoFromStart 15 = .ok (.getfield 41, 3) := by decide +kernel
theorem dX8_redoFromStart_18 : decode cX8_redoFromStart 18 = .ok (.if_icmp .ge 25, 3) := by decide +kernel
theorem dX8_redoFromStart_21 : decode cX8_redoFromStart 21 = .ok (.aload_n 0, 1) := by decide +kernel
theorem dX8_redoFromStart_22 : decode cX8_redoFromStart 22 = .ok (.getfield 31, 3) := by decide +kernel
theorem dX8_redoFromStart_25 : decode cX8_redoFromStart 25 = .ok (.aload_n 0, 1) := by decide +kernel
theorem dX8_redoFromStart_26 : decode cX8_redoFromStart 26 = .ok (.getfield 37, 3) := by decide +kernel
theorem dX8_redoFromStart_29 : decode cX8_redoFromStart 29 = .ok (.iload_n 1, 1) := by decide +kernel
theorem dX8_redoFromStart_30 : decode cX8_redoFromStart 30 = .ok (.invokestatic 308, 3) := by decide +kernel
theorem dX8_redoFromStart_33 : decode cX8_redoFromStart 33 = .ok (.invokevirtual 333, 3) := by decide +kernel
theorem dX8_redoFromStart_36 : decode cX8_redoFromStart 36 = .ok (.pop, 1) := by decide +kernel
theorem dX8_redoFromStart_37 : decode cX8_redoFromStart 37 = .ok (.iinc 1 1, 3) := by decide +kernel
theorem dX8_redoFromStart_40 : decode cX8_redoFromStart 40 = .ok (.goto (-27), 3) := by decide +kernel
theorem dX8_redoFromStart_43 : decode cX8_redoFromStart 43 = .ok (.return_, 1) := by decide +kernel
theorem dX8_tellChance_0 : decode cX8_tellChance 0 = .ok (.lload_n 1, 1) := by decide +kernel
theorem dX8_tellChance_1 : decode cX8_tellChance 1 = .ok (.lload_n 3, 1) := by decide +kernel
theorem dX8_tellChance_2 : decode cX8_tellChance 2 = .ok (.invokestatic 336, 3) := by decide +kernel
theorem dX8_tellChance_5 : decode cX8_tellChance 5 = .ok (.lstore 5, 2) := by decide +kernel
theorem dX8_tellChance_7 : decode cX8_tellChance 7 = .ok (.lload 5, 2) := by decide +kernel
theorem dX8_tellChance_9 : decode cX8_tellChance 9 = .ok (.lconst 0, 1) := by decide +kernel
theorem dX8_tellChance_10 : decode cX8_tellChance 10 = .ok (.lcmp, 1) := by decide +kernel
theorem dX8_tellChance_11 : decode cX8_tellChance 11 = .ok (.ifCond .le 19, 3) := by decide +kernel
theorem dX8_tellChance_14 : decode cX8_tellChance 14 = .ok (.aload_n 0, 1) := by decide +kernel
theorem dX8_tellChance_15 : decode cX8_tellChance 15 = .ok (.lload_n 1, 1) := by decide +kernel
theorem dX8_tellChance_16 : decode cX8_tellChance 16 = .ok (.lload 5, 2) := by decide +kernel
theorem dX8_tellChance_18 : decode cX8_tellChance 18 = .ok (.ldiv, 1) := by decide +kernel
theorem dX8_tellChance_19 : decode cX8_tellChance 19 = .ok (.putfield 83, 3) := by decide +kernel
theorem dX8_tellChance_22 : decode cX8_tellChance 22 = .ok (.aload_n 0, 1) := by decide +kernel
theorem dX8_tellChance_23 : decode cX8_tellChance 23 = .ok (.lload_n 3, 1) := by decide +kernel
theorem dX8_tellChance_24 : decode cX8_tellChance 24 = .ok (.lload 5, 2) := by decide +kernel
theorem dX8_tellChance_26 : decode cX8_tellChance 26 = .ok (.ldiv, 1) := by decide +kernel
theorem dX8_tellChance_27 : decode cX8_tellChance 27 = .ok (.putfield 87, 3) := by decide +kernel
theorem dX8_tellChance_30 : decode cX8_tellChance 30 = .ok (.iconst 1, 1) := by decide +kernel
theorem dX8_tellChance_31 : decode cX8_tellChance 31 = .ok (.ireturn, 1) := by decide +kernel
theorem dX8_waysOfReport_0 : decode cX8_waysOfReport 0 = .ok (.iload_n 1, 1) := by decide +kernel
theorem dX8_waysOfReport_1 : decode cX8_waysOfReport 1 = .ok (.iload_n 0, 1) := by decide +kernel
theorem dX8_waysOfReport_2 : decode cX8_waysOfReport 2 = .ok (.iconst (-1), 1) := by decide +kernel
theorem dX8_waysOfReport_3 : decode cX8_waysOfReport 3 = .ok (.ixor, 1) := by decide +kernel
theorem dX8_waysOfReport_4 : decode cX8_waysOfReport 4 = .ok (.iand, 1) := by decide +kernel
theorem dX8_waysOfReport_5 : decode cX8_waysOfReport 5 = .ok (.istore_n 3, 1) := by decide +kernel
theorem dX8_waysOfReport_6 : decode cX8_waysOfReport 6 = .ok (.iload_n 2, 1) := by decide +kernel
theorem dX8_waysOfReport_7 : decode cX8_waysOfReport 7 = .ok (.iload_n 0, 1) := by decide +kernel
theorem dX8_waysOfReport_8 : decode cX8_waysOfReport 8 = .ok (.invokestatic 267, 3) := by decide +kernel
theorem dX8_waysOfReport_11 : decode cX8_waysOfReport 11 = .ok (.invokestatic 276, 3) := by decide +kernel
theorem dX8_waysOfReport_14 : decode cX8_waysOfReport 14 = .ok (.bipush 12, 2) := by decide +kernel
theorem dX8_waysOfReport_16 : decode cX8_waysOfReport 16 = .ok (.iload_n 2, 1) := by decide +kernel
theorem dX8_waysOfReport_17 : decode cX8_waysOfReport 17 = .ok (.isub, 1) := by decide +kernel
theorem dX8_waysOfReport_18 : decode cX8_waysOfReport 18 = .ok (.iload_n 3, 1) := by decide +kernel
theorem dX8_waysOfReport_19 : decode cX8_waysOfReport 19 = .ok (.invokestatic 267, 3) := by decide +kernel
theorem dX8_waysOfReport_22 : decode cX8_waysOfReport 22 = .ok (.invokestatic 276, 3) := by decide +kernel
theorem dX8_waysOfReport_25 : decode cX8_waysOfReport 25 = .ok (.lmul, 1) := by decide +kernel
theorem dX8_waysOfReport_26 : decode cX8_waysOfReport 26 = .ok (.lreturn, 1) := by decide +kernel
theorem dX8_power_0 : decode cX8_power 0 = .ok (.lconst 1, 1) := by decide +kernel
theorem dX8_power_1 : decode cX8_power 1 = .ok (.lstore_n 2, 1) := by decide +kernel
theorem dX8_power_2 : decode cX8_power 2 = .ok (.iconst 0, 1) := by decide +kernel
theorem dX8_power_3 : decode cX8_power 3 = .ok (.istore 4, 2) := by decide +kernel
theorem dX8_power_5 : decode cX8_power 5 = .ok (.iload 4, 2) := by decide +kernel
theorem dX8_power_7 : decode cX8_power 7 = .ok (.iload_n 1, 1) := by decide +kernel
theorem dX8_power_8 : decode cX8_power 8 = .ok (.if_icmp .ge 14, 3) := by decide +kernel
theorem dX8_power_11 : decode cX8_power 11 = .ok (.lload_n 2, 1) := by decide +kernel
theorem dX8_power_12 : decode cX8_power 12 = .ok (.iload_n 0, 1) := by decide +kernel
theorem dX8_power_13 : decode cX8_power 13 = .ok (.i2l, 1) := by decide +kernel
theorem dX8_power_14 : decode cX8_power 14 = .ok (.lmul, 1) := by decide +kernel
theorem dX8_power_15 : decode cX8_power 15 = .ok (.lstore_n 2, 1) := by decide +kernel
theorem dX8_power_16 : decode cX8_power 16 = .ok (.iinc 4 1, 3) := by decide +kernel
theorem dX8_power_19 : decode cX8_power 19 = .ok (.goto (-14), 3) := by decide +kernel
theorem dX8_power_22 : decode cX8_power 22 = .ok (.lload_n 2, 1) := by decide +kernel
theorem dX8_power_23 : decode cX8_power 23 = .ok (.lreturn, 1) := by decide +kernel
theorem dX8_commonDivisor_0 : decode cX8_commonDivisor 0 = .ok (.iconst 0, 1) := by decide +kernel
theorem dX8_commonDivisor_1 : decode cX8_commonDivisor 1 = .ok (.istore 4, 2) := by decide +kernel
theorem dX8_commonDivisor_3 : decode cX8_commonDivisor 3 = .ok (.iload 4, 2) := by decide +kernel
theorem dX8_commonDivisor_5 : decode cX8_commonDivisor 5 = .ok (.sipush 1000, 3) := by decide +kernel
theorem dX8_commonDivisor_8 : decode cX8_commonDivisor 8 = .ok (.if_icmp .ge 25, 3) := by decide +kernel
theorem dX8_commonDivisor_11 : decode cX8_commonDivisor 11 = .ok (.lload_n 2, 1) := by decide +kernel
theorem dX8_commonDivisor_12 : decode cX8_commonDivisor 12 = .ok (.lconst 0, 1) := by decide +kernel
theorem dX8_commonDivisor_13 : decode cX8_commonDivisor 13 = .ok (.lcmp, 1) := by decide +kernel
theorem dX8_commonDivisor_14 : decode cX8_commonDivisor 14 = .ok (.ifCond .eq 19, 3) := by decide +kernel
theorem dX8_commonDivisor_17 : decode cX8_commonDivisor 17 = .ok (.lload_n 0, 1) := by decide +kernel
theorem dX8_commonDivisor_18 : decode cX8_commonDivisor 18 = .ok (.lload_n 2, 1) := by decide +kernel
theorem dX8_commonDivisor_19 : decode cX8_commonDivisor 19 = .ok (.lrem, 1) := by decide +kernel
theorem dX8_commonDivisor_20 : decode cX8_commonDivisor 20 = .ok (.lstore 5, 2) := by decide +kernel
theorem dX8_commonDivisor_22 : decode cX8_commonDivisor 22 = .ok (.lload_n 2, 1) := by decide +kernel
theorem dX8_commonDivisor_23 : decode cX8_commonDivisor 23 = .ok (.lstore_n 0, 1) := by decide +kernel
theorem dX8_commonDivisor_24 : decode cX8_commonDivisor 24 = .ok (.lload 5, 2) := by decide +kernel
theorem dX8_commonDivisor_26 : decode cX8_commonDivisor 26 = .ok (.lstore_n 2, 1) := by decide +kernel
theorem dX8_commonDivisor_27 : decode cX8_commonDivisor 27 = .ok (.iinc 4 1, 3) := by decide +kernel
theorem dX8_commonDivisor_30 : decode cX8_commonDivisor 30 = .ok (.goto (-27), 3) := by decide +kernel
theorem dX8_commonDivisor_33 : decode cX8_commonDivisor 33 = .ok (.lload_n 0, 1) := by decide +kernel
theorem dX8_commonDivisor_34 : decode cX8_commonDivisor 34 = .ok (.lreturn, 1) := by decide +kernel
theorem dX8_read_0 : decode cX8_read 0 = .ok (.iload_n 1, 1) := by decide +kernel
theorem dX8_read_1 : decode cX8_read 1 = .ok (.ifCond .lt 15, 3) := by decide +kernel
theorem dX8_read_4 : decode cX8_read 4 = .ok (.iload_n 1, 1) := by decide +kernel
theorem dX8_read_5 : decode cX8_read 5 = .ok (.aload_n 0, 1) := by decide +kernel
theorem dX8_read_6 : decode cX8_read 6 = .ok (.arraylength, 1) := by decide +kernel
theorem dX8_read_7 : decode cX8_read 7 = .ok (.if_icmp .ge 9, 3) := by decide +kernel
theorem dX8_read_10 : decode cX8_read 10 = .ok (.aload_n 0, 1) := by decide +kernel
theorem dX8_read_11 : decode cX8_read 11 = .ok (.iload_n 1, 1) := by decide +kernel
theorem dX8_read_12 : decode cX8_read 12 = .ok (.iaload, 1) := by decide +kernel
theorem dX8_read_13 : decode cX8_read 13 = .ok (.goto 4, 3) := by decide +kernel
theorem dX8_read_16 : decode cX8_read 16 = .ok (.iconst 0, 1) := by decide +kernel
theorem dX8_read_17 : decode cX8_read 17 = .ok (.ireturn, 1) := by decide +kernel
theorem dX8_write_0 : decode cX8_write 0 = .ok (.iload_n 1, 1) := by decide +kernel
theorem dX8_write_1 : decode cX8_write 1 = .ok (.ifCond .lt 13, 3) := by decide +kernel
theorem dX8_write_4 : decode cX8_write 4 = .ok (.iload_n 1, 1) := by decide +kernel
theorem dX8_write_5 : decode cX8_write 5 = .ok (.aload_n 0, 1) := by decide +kernel
theorem dX8_write_6 : decode cX8_write 6 = .ok (.arraylength, 1) := by decide +kernel
theorem dX8_write_7 : decode cX8_write 7 = .ok (.if_icmp .ge 7, 3) := by decide +kernel
theorem dX8_write_10 : decode cX8_write 10 = .ok (.aload_n 0, 1) := by decide +kernel
theorem dX8_write_11 : decode cX8_write 11 = .ok (.iload_n 1, 1) := by decide +kernel
theorem dX8_write_12 : decode cX8_write 12 = .ok (.iload_n 2, 1) := by decide +kernel
theorem dX8_write_13 : decode cX8_write 13 = .ok (.iastore, 1) := by decide +kernel
theorem dX8_write_14 : decode cX8_write 14 = .ok (.return_, 1) := by decide +kernel
theorem dX8_shift_0 : decode cX8_shift 0 = .ok (.aload_n 0, 1) := by decide +kernel
theorem dX8_shift_1 : decode cX8_shift 1 = .ok (.arraylength, 1) := by decide +kernel
theorem dX8_shift_2 : decode cX8_shift 2 = .ok (.iload_n 3, 1) := by decide +kernel
theorem dX8_shift_3 : decode cX8_shift 3 = .ok (.isub, 1) := by decide +kernel
theorem dX8_shift_4 : decode cX8_shift 4 = .ok (.istore 4, 2) := by decide +kernel
theorem dX8_shift_6 : decode cX8_shift 6 = .ok (.iload_n 3, 1) := by decide +kernel
theorem dX8_shift_7 : decode cX8_shift 7 = .ok (.ifCond .lt 31, 3) := by decide +kernel
theorem dX8_shift_10 : decode cX8_shift 10 = .ok (.iload_n 1, 1) := by decide +kernel
theorem dX8_shift_11 : decode cX8_shift 11 = .ok (.ifCond .lt 27, 3) := by decide +kernel
theorem dX8_shift_14 : decode cX8_shift 14 = .ok (.iload_n 1, 1) := by decide +kernel
theorem dX8_shift_15 : decode cX8_shift 15 = .ok (.iload 4, 2) := by decide +kernel
theorem dX8_shift_17 : decode cX8_shift 17 = .ok (.if_icmp .gt 21, 3) := by decide +kernel
theorem dX8_shift_20 : decode cX8_shift 20 = .ok (.iload_n 2, 1) := by decide +kernel
theorem dX8_shift_21 : decode cX8_shift 21 = .ok (.ifCond .lt 17, 3) := by decide +kernel
theorem dX8_shift_24 : decode cX8_shift 24 = .ok (.iload_n 2, 1) := by decide +kernel
theorem dX8_shift_25 : decode cX8_shift 25 = .ok (.iload 4, 2) := by decide +kernel
theorem dX8_shift_27 : decode cX8_shift 27 = .ok (.if_icmp .gt 11, 3) := by decide +kernel
theorem dX8_shift_30 : decode cX8_shift 30 = .ok (.aload_n 0, 1) := by decide +kernel
theorem dX8_shift_31 : decode cX8_shift 31 = .ok (.iload_n 1, 1) := by decide +kernel
theorem dX8_shift_32 : decode cX8_shift 32 = .ok (.aload_n 0, 1) := by decide +kernel
theorem dX8_shift_33 : decode cX8_shift 33 = .ok (.iload_n 2, 1) := by decide +kernel
theorem dX8_shift_34 : decode cX8_shift 34 = .ok (.iload_n 3, 1) := by decide +kernel
theorem dX8_shift_35 : decode cX8_shift 35 = .ok (.invokestatic 340, 3) := by decide +kernel
theorem dX8_shift_38 : decode cX8_shift 38 = .ok (.return_, 1) := by decide +kernel
theorem dX8_copyAll_0 : decode cX8_copyAll 0 = .ok (.aload_n 0, 1) := by decide +kernel
theorem dX8_copyAll_1 : decode cX8_copyAll 1 = .ok (.iconst 0, 1) := by decide +kernel
theorem dX8_copyAll_2 : decode cX8_copyAll 2 = .ok (.aload_n 1, 1) := by decide +kernel
theorem dX8_copyAll_3 : decode cX8_copyAll 3 = .ok (.iconst 0, 1) := by decide +kernel
theorem dX8_copyAll_4 : decode cX8_copyAll 4 = .ok (.aload_n 0, 1) := by decide +kernel
theorem dX8_copyAll_5 : decode cX8_copyAll 5 = .ok (.arraylength, 1) := by decide +kernel
theorem dX8_copyAll_6 : decode cX8_copyAll 6 = .ok (.aload_n 1, 1) := by decide +kernel
theorem dX8_copyAll_7 : decode cX8_copyAll 7 = .ok (.arraylength, 1) := by decide +kernel
theorem dX8_copyAll_8 : decode cX8_copyAll 8 = .ok (.invokestatic 346, 3) := by decide +kernel
theorem dX8_copyAll_11 : decode cX8_copyAll 11 = .ok (.invokestatic 340, 3) := by decide +kernel
theorem dX8_copyAll_14 : decode cX8_copyAll 14 = .ok (.return_, 1) := by decide +kernel
theorem dX8_isOfKind_0 : decode cX8_isOfKind 0 = .ok (.iload_n 0, 1) := by decide +kernel
theorem dX8_isOfKind_1 : decode cX8_isOfKind 1 = .ok (.iload_n 1, 1) := by decide +kernel
theorem dX8_isOfKind_2 : decode cX8_isOfKind 2 = .ok (.if_icmp .eq 27, 3) := by decide +kernel
theorem dX8_isOfKind_5 : decode cX8_isOfKind 5 = .ok (.iload_n 1, 1) := by decide +kernel
theorem dX8_isOfKind_6 : decode cX8_isOfKind 6 = .ok (.ifCond .eq 23, 3) := by decide +kernel
theorem dX8_isOfKind_9 : decode cX8_isOfKind 9 = .ok (.iload_n 0, 1) := by decide +kernel
theorem dX8_isOfKind_10 : decode cX8_isOfKind 10 = .ok (.iconst 4, 1) := by decide +kernel
theorem dX8_isOfKind_11 : decode cX8_isOfKind 11 = .ok (.if_icmp .ne 8, 3) := by decide +kernel
theorem dX8_isOfKind_14 : decode cX8_isOfKind 14 = .ok (.iload_n 1, 1) := by decide +kernel
theorem dX8_isOfKind_15 : decode cX8_isOfKind 15 = .ok (.iconst 2, 1) := by decide +kernel
theorem dX8_isOfKind_16 : decode cX8_isOfKind 16 = .ok (.if_icmp .eq 13, 3) := by decide +kernel
theorem dX8_isOfKind_19 : decode cX8_isOfKind 19 = .ok (.iload_n 0, 1) := by decide +kernel
theorem dX8_isOfKind_20 : decode cX8_isOfKind 20 = .ok (.iconst 5, 1) := by decide +kernel
theorem dX8_isOfKind_21 : decode cX8_isOfKind 21 = .ok (.if_icmp .ne 12, 3) := by decide +kernel
theorem dX8_isOfKind_24 : decode cX8_isOfKind 24 = .ok (.iload_n 1, 1) := by decide +kernel
theorem dX8_isOfKind_25 : decode cX8_isOfKind 25 = .ok (.iconst 1, 1) := by decide +kernel
theorem dX8_isOfKind_26 : decode cX8_isOfKind 26 = .ok (.if_icmp .ne 7, 3) := by decide +kernel
theorem dX8_isOfKind_29 : decode cX8_isOfKind 29 = .ok (.iconst 1, 1) := by decide +kernel
theorem dX8_isOfKind_30 : decode cX8_isOfKind 30 = .ok (.goto 4, 3) := by decide +kernel
theorem dX8_isOfKind_33 : decode cX8_isOfKind 33 = .ok (.iconst 0, 1) := by decide +kernel
theorem dX8_isOfKind_34 : decode cX8_isOfKind 34 = .ok (.ireturn, 1) := by decide +kernel
theorem dX8_barOf_0 : decode cX8_barOf 0 = .ok (.iload_n 0, 1) := by decide +kernel
theorem dX8_barOf_1 : decode cX8_barOf 1 = .ok (.tableswitch 43 1 5 #[35, 39, 43, 39, 35], 35) := by decide +kernel
theorem dX8_barOf_36 : decode cX8_barOf 36 = .ok (.iload_n 1, 1) := by decide +kernel
theorem dX8_barOf_37 : decode cX8_barOf 37 = .ok (.iconst 2, 1) := by decide +kernel
theorem dX8_barOf_38 : decode cX8_barOf 38 = .ok (.iadd, 1) := by decide +kernel
theorem dX8_barOf_39 : decode cX8_barOf 39 = .ok (.ireturn, 1) := by decide +kernel
theorem dX8_barOf_40 : decode cX8_barOf 40 = .ok (.iload_n 1, 1) := by decide +kernel
theorem dX8_barOf_41 : decode cX8_barOf 41 = .ok (.iconst 2, 1) := by decide +kernel
theorem dX8_barOf_42 : decode cX8_barOf 42 = .ok (.idiv, 1) := by decide +kernel
theorem dX8_barOf_43 : decode cX8_barOf 43 = .ok (.ireturn, 1) := by decide +kernel
theorem dX8_barOf_44 : decode cX8_barOf 44 = .ok (.iload_n 1, 1) := by decide +kernel
theorem dX8_barOf_45 : decode cX8_barOf 45 = .ok (.ireturn, 1) := by decide +kernel
theorem dX8_crossing_0 : decode cX8_crossing 0 = .ok (.iconst 0, 1) := by decide +kernel
theorem dX8_crossing_1 : decode cX8_crossing 1 = .ok (.iload_n 1, 1) := by decide +kernel
theorem dX8_crossing_2 : decode cX8_crossing 2 = .ok (.iload 4, 2) := by decide +kernel
theorem dX8_crossing_4 : decode cX8_crossing 4 = .ok (.iadd, 1) := by decide +kernel
theorem dX8_crossing_5 : decode cX8_crossing 5 = .ok (.iload_n 0, 1) := by decide +kernel
theorem dX8_crossing_6 : decode cX8_crossing 6 = .ok (.iload_n 2, 1) := by decide +kernel
theorem dX8_crossing_7 : decode cX8_crossing 7 = .ok (.invokestatic 187, 3) := by decide +kernel
theorem dX8_crossing_10 : decode cX8_crossing 10 = .ok (.isub, 1) := by decide +kernel
theorem dX8_crossing_11 : decode cX8_crossing 11 = .ok (.invokestatic 351, 3) := by decide +kernel
theorem dX8_crossing_14 : decode cX8_crossing 14 = .ok (.istore 5, 2) := by decide +kernel
theorem dX8_crossing_16 : decode cX8_crossing 16 = .ok (.iload_n 0, 1) := by decide +kernel
theorem dX8_crossing_17 : decode cX8_crossing 17 = .ok (.tableswitch 59 3 5 #[27, 40, 54], 27) := by decide +kernel
theorem dX8_crossing_44 : decode cX8_crossing 44 = .ok (.iload_n 3, 1) := by decide +kernel
theorem dX8_crossing_45 : decode cX8_crossing 45 = .ok (.iconst 2, 1) := by decide +kernel
theorem dX8_crossing_46 : decode cX8_crossing 46 = .ok (.irem, 1) := by decide +kernel
theorem dX8_crossing_47 : decode cX8_crossing 47 = .ok (.ifCond .ne 8, 3) := by decide +kernel
theorem dX8_crossing_50 : decode cX8_crossing 50 = .ok (.iload 5, 2) := by decide +kernel
theorem dX8_crossing_52 : decode cX8_crossing 52 = .ok (.goto 4, 3) := by decide +kernel
theorem dX8_crossing_55 : decode cX8_crossing 55 = .ok (.iconst 0, 1) := by decide +kernel
theorem dX8_crossing_56 : decode cX8_crossing 56 = .ok (.ireturn, 1) := by decide +kernel
theorem dX8_crossing_57 : decode cX8_crossing 57 = .ok (.iload 5, 2) := by decide +kernel
theorem dX8_crossing_59 : decode cX8_crossing 59 = .ok (.ifCond .le 10, 3) := by decide +kernel
theorem dX8_crossing_62 : decode cX8_crossing 62 = .ok (.iload 5, 2) := by decide +kernel
theorem dX8_crossing_64 : decode cX8_crossing 64 = .ok (.iconst 1, 1) := by decide +kernel
theorem dX8_crossing_65 : decode cX8_crossing 65 = .ok (.iadd, 1) := by decide +kernel
theorem dX8_crossing_66 : decode cX8_crossing 66 = .ok (.goto 4, 3) := by decide +kernel
theorem dX8_crossing_69 : decode cX8_crossing 69 = .ok (.iconst 0, 1) := by decide +kernel
theorem dX8_crossing_70 : decode cX8_crossing 70 = .ok (.ireturn, 1) := by decide +kernel
theorem dX8_crossing_71 : decode cX8_crossing 71 = .ok (.iload 5, 2) := by decide +kernel
theorem dX8_crossing_73 : decode cX8_crossing 73 = .ok (.iconst 2, 1) := by decide +kernel
theorem dX8_crossing_74 : decode cX8_crossing 74 = .ok (.idiv, 1) := by decide +kernel
theorem dX8_crossing_75 : decode cX8_crossing 75 = .ok (.ireturn, 1) := by decide +kernel
theorem dX8_crossing_76 : decode cX8_crossing 76 = .ok (.iload 5, 2) := by decide +kernel
theorem dX8_crossing_78 : decode cX8_crossing 78 = .ok (.ireturn, 1) := by decide +kernel
theorem dJ6_bitCount_0f7a4_0 : decode cJ6_bitCount_0f7a4 0 = .ok (.iload_n 0, 1) := by decide +kernel
theorem dJ6_bitCount_0f7a4_1 : decode cJ6_bitCount_0f7a4 1 = .ok (.iload_n 0, 1) := by decide +kernel
theorem dJ6_bitCount_0f7a4_2 : decode cJ6_bitCount_0f7a4 2 = .ok (.iconst 1, 1) := by decide +kernel
theorem dJ6_bitCount_0f7a4_3 : decode cJ6_bitCount_0f7a4 3 = .ok (.iushr, 1) := by decide +kernel
theorem dJ6_bitCount_0f7a4_4 : decode cJ6_bitCount_0f7a4 4 = .ok (.ldc_w 265, 3) := by decide +kernel
theorem dJ6_bitCount_0f7a4_7 : decode cJ6_bitCount_0f7a4 7 = .ok (.iand, 1) := by decide +kernel
theorem dJ6_bitCount_0f7a4_8 : decode cJ6_bitCount_0f7a4 8 = .ok (.isub, 1) := by decide +kernel
theorem dJ6_bitCount_0f7a4_9 : decode cJ6_bitCount_0f7a4 9 = .ok (.istore_n 0, 1) := by decide +kernel
theorem dJ6_bitCount_0f7a4_10 : decode cJ6_bitCount_0f7a4 10 = .ok (.iload_n 0, 1) := by decide +kernel
theorem dJ6_bitCount_0f7a4_11 : decode cJ6_bitCount_0f7a4 11 = .ok (.ldc_w 266, 3) := by decide +kernel
theorem dJ6_bitCount_0f7a4_14 : decode cJ6_bitCount_0f7a4 14 = .ok (.iand, 1) := by decide +kernel
theorem dJ6_bitCount_0f7a4_15 : decode cJ6_bitCount_0f7a4 15 = .ok (.iload_n 0, 1) := by decide +kernel
theorem dJ6_bitCount_0f7a4_16 : decode cJ6_bitCount_0f7a4 16 = .ok (.iconst 2, 1) := by decide +kernel
theorem dJ6_bitCount_0f7a4_17 : decode cJ6_bitCount_0f7a4 17 = .ok (.iushr, 1) := by decide +kernel
theorem dJ6_bitCount_0f7a4_18 : decode cJ6_bitCount_0f7a4 18 = .ok (.ldc_w 266, 3) := by decide +kernel
theorem dJ6_bitCount_0f7a4_21 : decode cJ6_bitCount_0f7a4 21 = .ok (.iand, 1) := by decide +kernel
theorem dJ6_bitCount_0f7a4_22 : decode cJ6_bitCount_0f7a4 22 = .ok (.iadd, 1) := by decide +kernel
theorem dJ6_bitCount_0f7a4_23 : decode cJ6_bitCount_0f7a4 23 = .ok (.istore_n 0, 1) := by decide +kernel
theorem dJ6_bitCount_0f7a4_24 : decode cJ6_bitCount_0f7a4 24 = .ok (.iload_n 0, 1) := by decide +kernel
theorem dJ6_bitCount_0f7a4_25 : decode cJ6_bitCount_0f7a4 25 = .ok (.iload_n 0, 1) := by decide +kernel
theorem dJ6_bitCount_0f7a4_26 : decode cJ6_bitCount_0f7a4 26 = .ok (.iconst 4, 1) := by decide +kernel
theorem dJ6_bitCount_0f7a4_27 : decode cJ6_bitCount_0f7a4 27 = .ok (.iushr, 1) := by decide +kernel
theorem dJ6_bitCount_0f7a4_28 : decode cJ6_bitCount_0f7a4 28 = .ok (.iadd, 1) := by decide +kernel
theorem dJ6_bitCount_0f7a4_29 : decode cJ6_bitCount_0f7a4 29 = .ok (.ldc_w 267, 3) := by decide +kernel
theorem dJ6_bitCount_0f7a4_32 : decode cJ6_bitCount_0f7a4 32 = .ok (.iand, 1) := by decide +kernel
theorem dJ6_bitCount_0f7a4_33 : decode cJ6_bitCount_0f7a4 33 = .ok (.istore_n 0, 1) := by decide +kernel
theorem dJ6_bitCount_0f7a4_34 : decode cJ6_bitCount_0f7a4 34 = .ok (.iload_n 0, 1) := by decide +kernel
theorem dJ6_bitCount_0f7a4_35 : decode cJ6_bitCount_0f7a4 35 = .ok (.iload_n 0, 1) := by decide +kernel
theorem dJ6_bitCount_0f7a4_36 : decode cJ6_bitCount_0f7a4 36 = .ok (.bipush 8, 2) := by decide +kernel
theorem dJ6_bitCount_0f7a4_38 : decode cJ6_bitCount_0f7a4 38 = .ok (.iushr, 1) := by decide +kernel
theorem dJ6_bitCount_0f7a4_39 : decode cJ6_bitCount_0f7a4 39 = .ok (.iadd, 1) := by decide +kernel
theorem dJ6_bitCount_0f7a4_40 : decode cJ6_bitCount_0f7a4 40 = .ok (.istore_n 0, 1) := by decide +kernel
theorem dJ6_bitCount_0f7a4_41 : decode cJ6_bitCount_0f7a4 41 = .ok (.iload_n 0, 1) := by decide +kernel
theorem dJ6_bitCount_0f7a4_42 : decode cJ6_bitCount_0f7a4 42 = .ok (.iload_n 0, 1) := by decide +kernel
theorem dJ6_bitCount_0f7a4_43 : decode cJ6_bitCount_0f7a4 43 = .ok (.bipush 16, 2) := by decide +kernel
theorem dJ6_bitCount_0f7a4_45 : decode cJ6_bitCount_0f7a4 45 = .ok (.iushr, 1) := by decide +kernel
theorem dJ6_bitCount_0f7a4_46 : decode cJ6_bitCount_0f7a4 46 = .ok (.iadd, 1) := by decide +kernel
theorem dJ6_bitCount_0f7a4_47 : decode cJ6_bitCount_0f7a4 47 = .ok (.istore_n 0, 1) := by decide +kernel
theorem dJ6_bitCount_0f7a4_48 : decode cJ6_bitCount_0f7a4 48 = .ok (.iload_n 0, 1) := by decide +kernel
theorem dJ6_bitCount_0f7a4_49 : decode cJ6_bitCount_0f7a4 49 = .ok (.bipush 63, 2) := by decide +kernel
theorem dJ6_bitCount_0f7a4_51 : decode cJ6_bitCount_0f7a4 51 = .ok (.iand, 1) := by decide +kernel
theorem dJ6_bitCount_0f7a4_52 : decode cJ6_bitCount_0f7a4 52 = .ok (.ireturn, 1) := by decide +kernel
theorem dJ9_abs_0f7a4_0 : decode cJ9_abs_0f7a4 0 = .ok (.iload_n 0, 1) := by decide +kernel
theorem dJ9_abs_0f7a4_1 : decode cJ9_abs_0f7a4 1 = .ok (.ifCond .ge 8, 3) := by decide +kernel
theorem dJ9_abs_0f7a4_4 : decode cJ9_abs_0f7a4 4 = .ok (.iload_n 0, 1) := by decide +kernel
theorem dJ9_abs_0f7a4_5 : decode cJ9_abs_0f7a4 5 = .ok (.ineg, 1) := by decide +kernel
theorem dJ9_abs_0f7a4_6 : decode cJ9_abs_0f7a4 6 = .ok (.goto 4, 3) := by decide +kernel
theorem dJ9_abs_0f7a4_9 : decode cJ9_abs_0f7a4 9 = .ok (.iload_n 0, 1) := by decide +kernel
theorem dJ9_abs_0f7a4_10 : decode cJ9_abs_0f7a4 10 = .ok (.ireturn, 1) := by decide +kernel
theorem dJ9_max_7cf53_0 : decode cJ9_max_7cf53 0 = .ok (.iload_n 0, 1) := by decide +kernel
theorem dJ9_max_7cf53_1 : decode cJ9_max_7cf53 1 = .ok (.iload_n 1, 1) := by decide +kernel
theorem dJ9_max_7cf53_2 : decode cJ9_max_7cf53 2 = .ok (.if_icmp .lt 7, 3) := by decide +kernel
theorem dJ9_max_7cf53_5 : decode cJ9_max_7cf53 5 = .ok (.iload_n 0, 1) := by decide +kernel
theorem dJ9_max_7cf53_6 : decode cJ9_max_7cf53 6 = .ok (.goto 4, 3) := by decide +kernel
theorem dJ9_max_7cf53_9 : decode cJ9_max_7cf53 9 = .ok (.iload_n 1, 1) := by decide +kernel
theorem dJ9_max_7cf53_10 : decode cJ9_max_7cf53 10 = .ok (.ireturn, 1) := by decide +kernel
theorem dJ9_min_7cf53_0 : decode cJ9_min_7cf53 0 = .ok (.iload_n 0, 1) := by decide +kernel
theorem dJ9_min_7cf53_1 : decode cJ9_min_7cf53 1 = .ok (.iload_n 1, 1) := by decide +kernel
theorem dJ9_min_7cf53_2 : decode cJ9_min_7cf53 2 = .ok (.if_icmp .gt 7, 3) := by decide +kernel
theorem dJ9_min_7cf53_5 : decode cJ9_min_7cf53 5 = .ok (.iload_n 0, 1) := by decide +kernel
theorem dJ9_min_7cf53_6 : decode cJ9_min_7cf53 6 = .ok (.goto 4, 3) := by decide +kernel
theorem dJ9_min_7cf53_9 : decode cJ9_min_7cf53 9 = .ok (.iload_n 1, 1) := by decide +kernel
theorem dJ9_min_7cf53_10 : decode cJ9_min_7cf53 10 = .ok (.ireturn, 1) := by decide +kernel
theorem dJ7_fill_53178_0 : decode cJ7_fill_53178 0 = .ok (.iconst 0, 1) := by decide +kernel
theorem dJ7_fill_53178_1 : decode cJ7_fill_53178 1 = .ok (.istore_n 2, 1) := by decide +kernel
theorem dJ7_fill_53178_2 : decode cJ7_fill_53178 2 = .ok (.aload_n 0, 1) := by decide +kernel
theorem dJ7_fill_53178_3 : decode cJ7_fill_53178 3 = .ok (.arraylength, 1) := by decide +kernel
theorem dJ7_fill_53178_4 : decode cJ7_fill_53178 4 = .ok (.istore_n 3, 1) := by decide +kernel
theorem dJ7_fill_53178_5 : decode cJ7_fill_53178 5 = .ok (.iload_n 2, 1) := by decide +kernel
theorem dJ7_fill_53178_6 : decode cJ7_fill_53178 6 = .ok (.iload_n 3, 1) := by decide +kernel
theorem dJ7_fill_53178_7 : decode cJ7_fill_53178 7 = .ok (.if_icmp .ge 13, 3) := by decide +kernel
theorem dJ7_fill_53178_10 : decode cJ7_fill_53178 10 = .ok (.aload_n 0, 1) := by decide +kernel
theorem dJ7_fill_53178_11 : decode cJ7_fill_53178 11 = .ok (.iload_n 2, 1) := by decide +kernel
theorem dJ7_fill_53178_12 : decode cJ7_fill_53178 12 = .ok (.iload_n 1, 1) := by decide +kernel
theorem dJ7_fill_53178_13 : decode cJ7_fill_53178 13 = .ok (.iastore, 1) := by decide +kernel
theorem dJ7_fill_53178_14 : decode cJ7_fill_53178 14 = .ok (.iinc 2 1, 3) := by decide +kernel
theorem dJ7_fill_53178_17 : decode cJ7_fill_53178 17 = .ok (.goto (-12), 3) := by decide +kernel
theorem dJ7_fill_53178_20 : decode cJ7_fill_53178 20 = .ok (.return_, 1) := by decide +kernel
