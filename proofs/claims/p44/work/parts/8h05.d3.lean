theorem dX8_row_0 : decode cX8_row 0 = .ok (.aload_n 0, 1) := by decide +kernel
theorem dX8_row_1 : decode cX8_row 1 = .ok (.aload_n 0, 1) := by decide +kernel
theorem dX8_row_2 : decode cX8_row 2 = .ok (.getfield 14, 3) := by decide +kernel
theorem dX8_row_5 : decode cX8_row 5 = .ok (.iload_n 1, 1) := by decide +kernel
theorem dX8_row_6 : decode cX8_row 6 = .ok (.iload_n 2, 1) := by decide +kernel
theorem dX8_row_7 : decode cX8_row 7 = .ok (.iconst 0, 1) := by decide +kernel
theorem dX8_row_8 : decode cX8_row 8 = .ok (.invokevirtual 96, 3) := by decide +kernel
theorem dX8_row_11 : decode cX8_row 11 = .ok (.ireturn, 1) := by decide +kernel
theorem dX8_lay_0 : decode cX8_lay 0 = .ok (.aload_n 0, 1) := by decide +kernel
theorem dX8_lay_1 : decode cX8_lay 1 = .ok (.aload_n 0, 1) := by decide +kernel
theorem dX8_lay_2 : decode cX8_lay 2 = .ok (.getfield 14, 3) := by decide +kernel
theorem dX8_lay_5 : decode cX8_lay 5 = .ok (.iload_n 1, 1) := by decide +kernel
theorem dX8_lay_6 : decode cX8_lay 6 = .ok (.iload_n 2, 1) := by decide +kernel
theorem dX8_lay_7 : decode cX8_lay 7 = .ok (.invokevirtual 100, 3) := by decide +kernel
theorem dX8_lay_10 : decode cX8_lay 10 = .ok (.istore 4, 2) := by decide +kernel
theorem dX8_lay_12 : decode cX8_lay 12 = .ok (.iload 4, 2) := by decide +kernel
theorem dX8_lay_14 : decode cX8_lay 14 = .ok (.ifCond .eq 6, 3) := by decide +kernel
theorem dX8_lay_17 : decode cX8_lay 17 = .ok (.iload 4, 2) := by decide +kernel
theorem dX8_lay_19 : decode cX8_lay 19 = .ok (.ireturn, 1) := by decide +kernel
theorem dX8_lay_20 : decode cX8_lay 20 = .ok (.aload_n 0, 1) := by decide +kernel
theorem dX8_lay_21 : decode cX8_lay 21 = .ok (.getfield 14, 3) := by decide +kernel
theorem dX8_lay_24 : decode cX8_lay 24 = .ok (.iload_n 1, 1) := by decide +kernel
theorem dX8_lay_25 : decode cX8_lay 25 = .ok (.iload_n 2, 1) := by decide +kernel
theorem dX8_lay_26 : decode cX8_lay 26 = .ok (.invokevirtual 104, 3) := by decide +kernel
theorem dX8_lay_29 : decode cX8_lay 29 = .ok (.istore 5, 2) := by decide +kernel
theorem dX8_lay_31 : decode cX8_lay 31 = .ok (.aload_n 0, 1) := by decide +kernel
theorem dX8_lay_32 : decode cX8_lay 32 = .ok (.getfield 14, 3) := by decide +kernel
theorem dX8_lay_35 : decode cX8_lay 35 = .ok (.iload_n 1, 1) := by decide +kernel
theorem dX8_lay_36 : decode cX8_lay 36 = .ok (.iload_n 2, 1) := by decide +kernel
theorem dX8_lay_37 : decode cX8_lay 37 = .ok (.iload_n 3, 1) := by decide +kernel
theorem dX8_lay_38 : decode cX8_lay 38 = .ok (.invokevirtual 108, 3) := by decide +kernel
theorem dX8_lay_41 : decode cX8_lay 41 = .ok (.aload_n 0, 1) := by decide +kernel
theorem dX8_lay_42 : decode cX8_lay 42 = .ok (.iload 5, 2) := by decide +kernel
theorem dX8_lay_44 : decode cX8_lay 44 = .ok (.invokevirtual 112, 3) := by decide +kernel
theorem dX8_lay_47 : decode cX8_lay 47 = .ok (.ireturn, 1) := by decide +kernel
theorem dX8_at_0 : decode cX8_at 0 = .ok (.aload_n 0, 1) := by decide +kernel
theorem dX8_at_1 : decode cX8_at 1 = .ok (.aload_n 0, 1) := by decide +kernel
theorem dX8_at_2 : decode cX8_at 2 = .ok (.getfield 14, 3) := by decide +kernel
theorem dX8_at_5 : decode cX8_at 5 = .ok (.iload_n 1, 1) := by decide +kernel
theorem dX8_at_6 : decode cX8_at 6 = .ok (.iload_n 2, 1) := by decide +kernel
theorem dX8_at_7 : decode cX8_at 7 = .ok (.invokevirtual 100, 3) := by decide +kernel
theorem dX8_at_10 : decode cX8_at 10 = .ok (.istore_n 3, 1) := by decide +kernel
theorem dX8_at_11 : decode cX8_at 11 = .ok (.iload_n 3, 1) := by decide +kernel
theorem dX8_at_12 : decode cX8_at 12 = .ok (.ifCond .eq 7, 3) := by decide +kernel
theorem dX8_at_15 : decode cX8_at 15 = .ok (.iload_n 3, 1) := by decide +kernel
theorem dX8_at_16 : decode cX8_at 16 = .ok (.goto 16, 3) := by decide +kernel
theorem dX8_at_19 : decode cX8_at 19 = .ok (.aload_n 0, 1) := by decide +kernel
theorem dX8_at_20 : decode cX8_at 20 = .ok (.aload_n 0, 1) := by decide +kernel
theorem dX8_at_21 : decode cX8_at 21 = .ok (.getfield 14, 3) := by decide +kernel
theorem dX8_at_24 : decode cX8_at 24 = .ok (.iload_n 1, 1) := by decide +kernel
theorem dX8_at_25 : decode cX8_at 25 = .ok (.iload_n 2, 1) := by decide +kernel
theorem dX8_at_26 : decode cX8_at 26 = .ok (.invokevirtual 104, 3) := by decide +kernel
theorem dX8_at_29 : decode cX8_at 29 = .ok (.invokevirtual 112, 3) := by decide +kernel
theorem dX8_at_32 : decode cX8_at 32 = .ok (.ireturn, 1) := by decide +kernel
theorem dX8_tear_0 : decode cX8_tear 0 = .ok (.aload_n 0, 1) := by decide +kernel
theorem dX8_tear_1 : decode cX8_tear 1 = .ok (.aload_n 0, 1) := by decide +kernel
theorem dX8_tear_2 : decode cX8_tear 2 = .ok (.getfield 14, 3) := by decide +kernel
theorem dX8_tear_5 : decode cX8_tear 5 = .ok (.iload_n 1, 1) := by decide +kernel
theorem dX8_tear_6 : decode cX8_tear 6 = .ok (.invokevirtual 116, 3) := by decide +kernel
theorem dX8_tear_9 : decode cX8_tear 9 = .ok (.istore_n 2, 1) := by decide +kernel
theorem dX8_tear_10 : decode cX8_tear 10 = .ok (.iload_n 2, 1) := by decide +kernel
theorem dX8_tear_11 : decode cX8_tear 11 = .ok (.ifCond .eq 5, 3) := by decide +kernel
theorem dX8_tear_14 : decode cX8_tear 14 = .ok (.iload_n 2, 1) := by decide +kernel
theorem dX8_tear_15 : decode cX8_tear 15 = .ok (.ireturn, 1) := by decide +kernel
theorem dX8_tear_16 : decode cX8_tear 16 = .ok (.aload_n 0, 1) := by decide +kernel
theorem dX8_tear_17 : decode cX8_tear 17 = .ok (.getfield 14, 3) := by decide +kernel
theorem dX8_tear_20 : decode cX8_tear 20 = .ok (.iload_n 1, 1) := by decide +kernel
theorem dX8_tear_21 : decode cX8_tear 21 = .ok (.invokevirtual 120, 3) := by decide +kernel
theorem dX8_tear_24 : decode cX8_tear 24 = .ok (.iconst 1, 1) := by decide +kernel
theorem dX8_tear_25 : decode cX8_tear 25 = .ok (.ireturn, 1) := by decide +kernel
theorem dX8_copy_0 : decode cX8_copy 0 = .ok (.aload_n 0, 1) := by decide +kernel
theorem dX8_copy_1 : decode cX8_copy 1 = .ok (.getfield 14, 3) := by decide +kernel
theorem dX8_copy_4 : decode cX8_copy 4 = .ok (.iload_n 1, 1) := by decide +kernel
theorem dX8_copy_5 : decode cX8_copy 5 = .ok (.invokevirtual 124, 3) := by decide +kernel
theorem dX8_copy_8 : decode cX8_copy 8 = .ok (.ifCond .eq 14, 3) := by decide +kernel
theorem dX8_copy_11 : decode cX8_copy 11 = .ok (.aload_n 0, 1) := by decide +kernel
theorem dX8_copy_12 : decode cX8_copy 12 = .ok (.getfield 14, 3) := by decide +kernel
theorem dX8_copy_15 : decode cX8_copy 15 = .ok (.iload_n 3, 1) := by decide +kernel
theorem dX8_copy_16 : decode cX8_copy 16 = .ok (.invokevirtual 124, 3) := by decide +kernel
theorem dX8_copy_19 : decode cX8_copy 19 = .ok (.ifCond .ne 5, 3) := by decide +kernel
theorem dX8_copy_22 : decode cX8_copy 22 = .ok (.iconst (-1), 1) := by decide +kernel
theorem dX8_copy_23 : decode cX8_copy 23 = .ok (.ireturn, 1) := by decide +kernel
theorem dX8_copy_24 : decode cX8_copy 24 = .ok (.iload 5, 2) := by decide +kernel
theorem dX8_copy_26 : decode cX8_copy 26 = .ok (.ifCond .ge 9, 3) := by decide +kernel
theorem dX8_copy_29 : decode cX8_copy 29 = .ok (.aload_n 0, 1) := by decide +kernel
theorem dX8_copy_30 : decode cX8_copy 30 = .ok (.iconst 5, 1) := by decide +kernel
theorem dX8_copy_31 : decode cX8_copy 31 = .ok (.invokevirtual 128, 3) := by decide +kernel
theorem dX8_copy_34 : decode cX8_copy 34 = .ok (.ireturn, 1) := by decide +kernel
theorem dX8_copy_35 : decode cX8_copy 35 = .ok (.aload_n 0, 1) := by decide +kernel
theorem dX8_copy_36 : decode cX8_copy 36 = .ok (.getfield 14, 3) := by decide +kernel
theorem dX8_copy_39 : decode cX8_copy 39 = .ok (.iload_n 1, 1) := by decide +kernel
theorem dX8_copy_40 : decode cX8_copy 40 = .ok (.invokevirtual 131, 3) := by decide +kernel
theorem dX8_copy_43 : decode cX8_copy 43 = .ok (.ifCond .eq 14, 3) := by decide +kernel
theorem dX8_copy_46 : decode cX8_copy 46 = .ok (.aload_n 0, 1) := by decide +kernel
theorem dX8_copy_47 : decode cX8_copy 47 = .ok (.getfield 14, 3) := by decide +kernel
theorem dX8_copy_50 : decode cX8_copy 50 = .ok (.iload_n 3, 1) := by decide +kernel
theorem dX8_copy_51 : decode cX8_copy 51 = .ok (.invokevirtual 131, 3) := by decide +kernel
theorem dX8_copy_54 : decode cX8_copy 54 = .ok (.ifCond .ne 9, 3) := by decide +kernel
theorem dX8_copy_57 : decode cX8_copy 57 = .ok (.aload_n 0, 1) := by decide +kernel
theorem dX8_copy_58 : decode cX8_copy 58 = .ok (.iconst 1, 1) := by decide +kernel
theorem dX8_copy_59 : decode cX8_copy 59 = .ok (.invokevirtual 128, 3) := by decide +kernel
theorem dX8_copy_62 : decode cX8_copy 62 = .ok (.ireturn, 1) := by decide +kernel
theorem dX8_copy_63 : decode cX8_copy 63 = .ok (.aload_n 0, 1) := by decide +kernel
theorem dX8_copy_64 : decode cX8_copy 64 = .ok (.getfield 14, 3) := by decide +kernel
theorem dX8_copy_67 : decode cX8_copy 67 = .ok (.iload_n 1, 1) := by decide +kernel
theorem dX8_copy_68 : decode cX8_copy 68 = .ok (.iload_n 2, 1) := by decide +kernel
theorem dX8_copy_69 : decode cX8_copy 69 = .ok (.iload 5, 2) := by decide +kernel
theorem dX8_copy_71 : decode cX8_copy 71 = .ok (.invokevirtual 134, 3) := by decide +kernel
theorem dX8_copy_74 : decode cX8_copy 74 = .ok (.ifCond .eq 18, 3) := by decide +kernel
theorem dX8_copy_77 : decode cX8_copy 77 = .ok (.aload_n 0, 1) := by decide +kernel
theorem dX8_copy_78 : decode cX8_copy 78 = .ok (.getfield 14, 3) := by decide +kernel
theorem dX8_copy_81 : decode cX8_copy 81 = .ok (.iload_n 3, 1) := by decide +kernel
theorem dX8_copy_82 : decode cX8_copy 82 = .ok (.iload 4, 2) := by decide +kernel
theorem dX8_copy_84 : decode cX8_copy 84 = .ok (.iload 5, 2) := by decide +kernel
theorem dX8_copy_86 : decode cX8_copy 86 = .ok (.invokevirtual 134, 3) := by decide +kernel
theorem dX8_copy_89 : decode cX8_copy 89 = .ok (.ifCond .ne 9, 3) := by decide +kernel
theorem dX8_copy_92 : decode cX8_copy 92 = .ok (.aload_n 0, 1) := by decide +kernel
theorem dX8_copy_93 : decode cX8_copy 93 = .ok (.iconst 2, 1) := by decide +kernel
theorem dX8_copy_94 : decode cX8_copy 94 = .ok (.invokevirtual 128, 3) := by decide +kernel
theorem dX8_copy_97 : decode cX8_copy 97 = .ok (.ireturn, 1) := by decide +kernel
theorem dX8_copy_98 : decode cX8_copy 98 = .ok (.aload_n 0, 1) := by decide +kernel
theorem dX8_copy_99 : decode cX8_copy 99 = .ok (.getfield 14, 3) := by decide +kernel
theorem dX8_copy_102 : decode cX8_copy 102 = .ok (.iload_n 1, 1) := by decide +kernel
theorem dX8_copy_103 : decode cX8_copy 103 = .ok (.iload_n 2, 1) := by decide +kernel
theorem dX8_copy_104 : decode cX8_copy 104 = .ok (.iload_n 3, 1) := by decide +kernel
theorem dX8_copy_105 : decode cX8_copy 105 = .ok (.iload 4, 2) := by decide +kernel
theorem dX8_copy_107 : decode cX8_copy 107 = .ok (.iload 5, 2) := by decide +kernel
theorem dX8_copy_109 : decode cX8_copy 109 = .ok (.invokevirtual 138, 3) := by decide +kernel
theorem dX8_copy_112 : decode cX8_copy 112 = .ok (.iconst 1, 1) := by decide +kernel
theorem dX8_copy_113 : decode cX8_copy 113 = .ok (.ireturn, 1) := by decide +kernel
theorem dX8_mean_0 : decode cX8_mean 0 = .ok (.aload_n 0, 1) := by decide +kernel
theorem dX8_mean_1 : decode cX8_mean 1 = .ok (.aload_n 0, 1) := by decide +kernel
theorem dX8_mean_2 : decode cX8_mean 2 = .ok (.getfield 14, 3) := by decide +kernel
theorem dX8_mean_5 : decode cX8_mean 5 = .ok (.iload_n 1, 1) := by decide +kernel
theorem dX8_mean_6 : decode cX8_mean 6 = .ok (.invokevirtual 116, 3) := by decide +kernel
theorem dX8_mean_9 : decode cX8_mean 9 = .ok (.istore_n 2, 1) := by decide +kernel
theorem dX8_mean_10 : decode cX8_mean 10 = .ok (.iload_n 2, 1) := by decide +kernel
theorem dX8_mean_11 : decode cX8_mean 11 = .ok (.ifCond .eq 5, 3) := by decide +kernel
theorem dX8_mean_14 : decode cX8_mean 14 = .ok (.iload_n 2, 1) := by decide +kernel
theorem dX8_mean_15 : decode cX8_mean 15 = .ok (.ireturn, 1) := by decide +kernel
theorem dX8_mean_16 : decode cX8_mean 16 = .ok (.aload_n 0, 1) := by decide +kernel
theorem dX8_mean_17 : decode cX8_mean 17 = .ok (.getfield 14, 3) := by decide +kernel
theorem dX8_mean_20 : decode cX8_mean 20 = .ok (.iload_n 1, 1) := by decide +kernel
theorem dX8_mean_21 : decode cX8_mean 21 = .ok (.invokevirtual 142, 3) := by decide +kernel
theorem dX8_mean_24 : decode cX8_mean 24 = .ok (.istore_n 3, 1) := by decide +kernel
theorem dX8_mean_25 : decode cX8_mean 25 = .ok (.iload_n 3, 1) := by decide +kernel
theorem dX8_mean_26 : decode cX8_mean 26 = .ok (.ifCond .gt 9, 3) := by decide +kernel
theorem dX8_mean_29 : decode cX8_mean 29 = .ok (.aload_n 0, 1) := by decide +kernel
theorem dX8_mean_30 : decode cX8_mean 30 = .ok (.iconst 4, 1) := by decide +kernel
theorem dX8_mean_31 : decode cX8_mean 31 = .ok (.invokevirtual 128, 3) := by decide +kernel
theorem dX8_mean_34 : decode cX8_mean 34 = .ok (.ireturn, 1) := by decide +kernel
theorem dX8_mean_35 : decode cX8_mean 35 = .ok (.lconst 0, 1) := by decide +kernel
theorem dX8_mean_36 : decode cX8_mean 36 = .ok (.lstore 4, 2) := by decide +kernel
theorem dX8_mean_38 : decode cX8_mean 38 = .ok (.iconst 0, 1) := by decide +kernel
theorem dX8_mean_39 : decode cX8_mean 39 = .ok (.istore 6, 2) := by decide +kernel
theorem dX8_mean_41 : decode cX8_mean 41 = .ok (.iload 6, 2) := by decide +kernel
theorem dX8_mean_43 : decode cX8_mean 43 = .ok (.iload_n 3, 1) := by decide +kernel
theorem dX8_mean_44 : decode cX8_mean 44 = .ok (.if_icmp .ge 25, 3) := by decide +kernel
theorem dX8_mean_47 : decode cX8_mean 47 = .ok (.lload 4, 2) := by decide +kernel
theorem dX8_mean_49 : decode cX8_mean 49 = .ok (.aload_n 0, 1) := by decide +kernel
theorem dX8_mean_50 : decode cX8_mean 50 = .ok (.getfield 14, 3) := by decide +kernel
theorem dX8_mean_53 : decode cX8_mean 53 = .ok (.iload_n 1, 1) := by decide +kernel
theorem dX8_mean_54 : decode cX8_mean 54 = .ok (.iload 6, 2) := by decide +kernel
theorem dX8_mean_56 : decode cX8_mean 56 = .ok (.invokevirtual 104, 3) := by decide +kernel
theorem dX8_mean_59 : decode cX8_mean 59 = .ok (.i2l, 1) := by decide +kernel
theorem dX8_mean_60 : decode cX8_mean 60 = .ok (.ladd, 1) := by decide +kernel
theorem dX8_mean_61 : decode cX8_mean 61 = .ok (.lstore 4, 2) := by decide +kernel
theorem dX8_mean_63 : decode cX8_mean 63 = .ok (.iinc 6 1, 3) := by decide +kernel
theorem dX8_mean_66 : decode cX8_mean 66 = .ok (.goto (-25), 3) := by decide +kernel
theorem dX8_mean_69 : decode cX8_mean 69 = .ok (.aload_n 0, 1) := by decide +kernel
theorem dX8_mean_70 : decode cX8_mean 70 = .ok (.lload 4, 2) := by decide +kernel
theorem dX8_mean_72 : decode cX8_mean 72 = .ok (.iload_n 3, 1) := by decide +kernel
theorem dX8_mean_73 : decode cX8_mean 73 = .ok (.i2l, 1) := by decide +kernel
theorem dX8_mean_74 : decode cX8_mean 74 = .ok (.ldiv, 1) := by decide +kernel
theorem dX8_mean_75 : decode cX8_mean 75 = .ok (.l2i, 1) := by decide +kernel
theorem dX8_mean_76 : decode cX8_mean 76 = .ok (.invokevirtual 112, 3) := by decide +kernel
theorem dX8_mean_79 : decode cX8_mean 79 = .ok (.ireturn, 1) := by decide +kernel
theorem dX8_text_0 : decode cX8_text 0 = .ok (.aload_n 0, 1) := by decide +kernel
theorem dX8_text_1 : decode cX8_text 1 = .ok (.aload_n 0, 1) := by decide +kernel
theorem dX8_text_2 : decode cX8_text 2 = .ok (.getfield 18, 3) := by decide +kernel
theorem dX8_text_5 : decode cX8_text 5 = .ok (.iload_n 1, 1) := by decide +kernel
theorem dX8_text_6 : decode cX8_text 6 = .ok (.iload_n 2, 1) := by decide +kernel
theorem dX8_text_7 : decode cX8_text 7 = .ok (.bipush 32, 2) := by decide +kernel
theorem dX8_text_9 : decode cX8_text 9 = .ok (.invokevirtual 96, 3) := by decide +kernel
theorem dX8_text_12 : decode cX8_text 12 = .ok (.ireturn, 1) := by decide +kernel
theorem dX8_put_0 : decode cX8_put 0 = .ok (.aload_n 0, 1) := by decide +kernel
theorem dX8_put_1 : decode cX8_put 1 = .ok (.aload_n 0, 1) := by decide +kernel
theorem dX8_put_2 : decode cX8_put 2 = .ok (.getfield 18, 3) := by decide +kernel
theorem dX8_put_5 : decode cX8_put 5 = .ok (.iload_n 1, 1) := by decide +kernel
theorem dX8_put_6 : decode cX8_put 6 = .ok (.iload_n 2, 1) := by decide +kernel
theorem dX8_put_7 : decode cX8_put 7 = .ok (.invokevirtual 100, 3) := by decide +kernel
theorem dX8_put_10 : decode cX8_put 10 = .ok (.istore 4, 2) := by decide +kernel
theorem dX8_put_12 : decode cX8_put 12 = .ok (.iload 4, 2) := by decide +kernel
theorem dX8_put_14 : decode cX8_put 14 = .ok (.ifCond .eq 6, 3) := by decide +kernel
theorem dX8_put_17 : decode cX8_put 17 = .ok (.iload 4, 2) := by decide +kernel
theorem dX8_put_19 : decode cX8_put 19 = .ok (.ireturn, 1) := by decide +kernel
theorem dX8_put_20 : decode cX8_put 20 = .ok (.aload_n 0, 1) := by decide +kernel
theorem dX8_put_21 : decode cX8_put 21 = .ok (.getfield 18, 3) := by decide +kernel
theorem dX8_put_24 : decode cX8_put 24 = .ok (.iload_n 1, 1) := by decide +kernel
theorem dX8_put_25 : decode cX8_put 25 = .ok (.iload_n 2, 1) := by decide +kernel
theorem dX8_put_26 : decode cX8_put 26 = .ok (.invokevirtual 104, 3) := by decide +kernel
theorem dX8_put_29 : decode cX8_put 29 = .ok (.istore 5, 2) := by decide +kernel
theorem dX8_put_31 : decode cX8_put 31 = .ok (.aload_n 0, 1) := by decide +kernel
theorem dX8_put_32 : decode cX8_put 32 = .ok (.getfield 18, 3) := by decide +kernel
theorem dX8_put_35 : decode cX8_put 35 = .ok (.iload_n 1, 1) := by decide +kernel
theorem dX8_put_36 : decode cX8_put 36 = .ok (.iload_n 2, 1) := by decide +kernel
theorem dX8_put_37 : decode cX8_put 37 = .ok (.iload_n 3, 1) := by decide +kernel
theorem dX8_put_38 : decode cX8_put 38 = .ok (.i2b, 1) := by decide +kernel
theorem dX8_put_39 : decode cX8_put 39 = .ok (.invokevirtual 108, 3) := by decide +kernel
theorem dX8_put_42 : decode cX8_put 42 = .ok (.iload 5, 2) := by decide +kernel
theorem dX8_put_44 : decode cX8_put 44 = .ok (.sipush 1000, 3) := by decide +kernel
theorem dX8_put_47 : decode cX8_put 47 = .ok (.iadd, 1) := by decide +kernel
theorem dX8_put_48 : decode cX8_put 48 = .ok (.ireturn, 1) := by decide +kernel
theorem dX8_fault_0 : decode cX8_fault 0 = .ok (.aload_n 0, 1) := by decide +kernel
theorem dX8_fault_1 : decode cX8_fault 1 = .ok (.aload_n 0, 1) := by decide +kernel
theorem dX8_fault_2 : decode cX8_fault 2 = .ok (.getfield 18, 3) := by decide +kernel
theorem dX8_fault_5 : decode cX8_fault 5 = .ok (.iload_n 1, 1) := by decide +kernel
theorem dX8_fault_6 : decode cX8_fault 6 = .ok (.invokevirtual 116, 3) := by decide +kernel
theorem dX8_fault_9 : decode cX8_fault 9 = .ok (.istore_n 2, 1) := by decide +kernel
theorem dX8_fault_10 : decode cX8_fault 10 = .ok (.iload_n 2, 1) := by decide +kernel
theorem dX8_fault_11 : decode cX8_fault 11 = .ok (.ifCond .eq 7, 3) := by decide +kernel
theorem dX8_fault_14 : decode cX8_fault 14 = .ok (.iload_n 2, 1) := by decide +kernel
theorem dX8_fault_15 : decode cX8_fault 15 = .ok (.goto 15, 3) := by decide +kernel
theorem dX8_fault_18 : decode cX8_fault 18 = .ok (.aload_n 0, 1) := by decide +kernel
theorem dX8_fault_19 : decode cX8_fault 19 = .ok (.getfield 48, 3) := by decide +kernel
theorem dX8_fault_22 : decode cX8_fault 22 = .ok (.aload_n 0, 1) := by decide +kernel
theorem dX8_fault_23 : decode cX8_fault 23 = .ok (.getfield 18, 3) := by decide +kernel
theorem dX8_fault_26 : decode cX8_fault 26 = .ok (.iload_n 1, 1) := by decide +kernel
theorem dX8_fault_27 : decode cX8_fault 27 = .ok (.invokevirtual 145, 3) := by decide +kernel
theorem dX8_fault_30 : decode cX8_fault 30 = .ok (.ireturn, 1) := by decide +kernel
theorem dX8_town_0 : decode cX8_town 0 = .ok (.aload_n 0, 1) := by decide +kernel
theorem dX8_town_1 : decode cX8_town 1 = .ok (.aload_n 0, 1) := by decide +kernel
theorem dX8_town_2 : decode cX8_town 2 = .ok (.getfield 18, 3) := by decide +kernel
theorem dX8_town_5 : decode cX8_town 5 = .ok (.iload_n 1, 1) := by decide +kernel
theorem dX8_town_6 : decode cX8_town 6 = .ok (.invokevirtual 116, 3) := by decide +kernel
theorem dX8_town_9 : decode cX8_town 9 = .ok (.istore_n 2, 1) := by decide +kernel
theorem dX8_town_10 : decode cX8_town 10 = .ok (.iload_n 2, 1) := by decide +kernel
theorem dX8_town_11 : decode cX8_town 11 = .ok (.ifCond .eq 5, 3) := by decide +kernel
theorem dX8_town_14 : decode cX8_town 14 = .ok (.iload_n 2, 1) := by decide +kernel
theorem dX8_town_15 : decode cX8_town 15 = .ok (.ireturn, 1) := by decide +kernel
theorem dX8_town_16 : decode cX8_town 16 = .ok (.aload_n 0, 1) := by decide +kernel
theorem dX8_town_17 : decode cX8_town 17 = .ok (.getfield 48, 3) := by decide +kernel
theorem dX8_town_20 : decode cX8_town 20 = .ok (.aload_n 0, 1) := by decide +kernel
theorem dX8_town_21 : decode cX8_town 21 = .ok (.getfield 18, 3) := by decide +kernel
theorem dX8_town_24 : decode cX8_town 24 = .ok (.iload_n 1, 1) := by decide +kernel
theorem dX8_town_25 : decode cX8_town 25 = .ok (.invokevirtual 145, 3) := by decide +kernel
theorem dX8_town_28 : decode cX8_town 28 = .ok (.bipush (-9), 2) := by decide +kernel
theorem dX8_town_30 : decode cX8_town 30 = .ok (.if_icmp .eq 6, 3) := by decide +kernel
theorem dX8_town_33 : decode cX8_town 33 = .ok (.bipush (-4), 2) := by decide +kernel
theorem dX8_town_35 : decode cX8_town 35 = .ok (.ireturn, 1) := by decide +kernel
theorem dX8_town_36 : decode cX8_town 36 = .ok (.aload_n 0, 1) := by decide +kernel
theorem dX8_town_37 : decode cX8_town 37 = .ok (.getfield 27, 3) := by decide +kernel
theorem dX8_town_40 : decode cX8_town 40 = .ok (.aload_n 0, 1) := by decide +kernel
theorem dX8_town_41 : decode cX8_town 41 = .ok (.getfield 48, 3) := by decide +kernel
theorem dX8_town_44 : decode cX8_town 44 = .ok (.getfield 148, 3) := by decide +kernel
theorem dX8_town_47 : decode cX8_town 47 = .ok (.invokevirtual 151, 3) := by decide +kernel
theorem dX8_town_50 : decode cX8_town 50 = .ok (.aload_n 0, 1) := by decide +kernel
theorem dX8_town_51 : decode cX8_town 51 = .ok (.getfield 31, 3) := by decide +kernel
theorem dX8_town_54 : decode cX8_town 54 = .ok (.aload_n 0, 1) := by decide +kernel
theorem dX8_town_55 : decode cX8_town 55 = .ok (.getfield 27, 3) := by decide +kernel
theorem dX8_town_58 : decode cX8_town 58 = .ok (.invokevirtual 151, 3) := by decide +kernel
theorem dX8_town_61 : decode cX8_town 61 = .ok (.aload_n 0, 1) := by decide +kernel
theorem dX8_town_62 : decode cX8_town 62 = .ok (.iconst 0, 1) := by decide +kernel
theorem dX8_town_63 : decode cX8_town 63 = .ok (.putfield 41, 3) := by decide +kernel
theorem dX8_town_66 : decode cX8_town 66 = .ok (.aload_n 0, 1) := by decide +kernel
theorem dX8_town_67 : decode cX8_town 67 = .ok (.getfield 21, 3) := by decide +kernel
theorem dX8_town_70 : decode cX8_town 70 = .ok (.invokevirtual 155, 3) := by decide +kernel
theorem dX8_town_73 : decode cX8_town 73 = .ok (.aload_n 0, 1) := by decide +kernel
theorem dX8_town_74 : decode cX8_town 74 = .ok (.getfield 31, 3) := by decide +kernel
theorem dX8_town_77 : decode cX8_town 77 = .ok (.getfield 158, 3) := by decide +kernel
theorem dX8_town_80 : decode cX8_town 80 = .ok (.ireturn, 1) := by decide +kernel
theorem dX8_bed_0 : decode cX8_bed 0 = .ok (.aload_n 0, 1) := by decide +kernel
theorem dX8_bed_1 : decode cX8_bed 1 = .ok (.getfield 31, 3) := by decide +kernel
theorem dX8_bed_4 : decode cX8_bed 4 = .ok (.iload_n 1, 1) := by decide +kernel
theorem dX8_bed_5 : decode cX8_bed 5 = .ok (.invokevirtual 161, 3) := by decide +kernel
theorem dX8_bed_8 : decode cX8_bed 8 = .ok (.ifCond .eq 13, 3) := by decide +kernel
theorem dX8_bed_11 : decode cX8_bed 11 = .ok (.iload_n 2, 1) := by decide +kernel
theorem dX8_bed_12 : decode cX8_bed 12 = .ok (.ifCond .lt 9, 3) := by decide +kernel
theorem dX8_bed_15 : decode cX8_bed 15 = .ok (.iload_n 2, 1) := by decide +kernel
theorem dX8_bed_16 : decode cX8_bed 16 = .ok (.bipush 8, 2) := by decide +kernel
theorem dX8_bed_18 : decode cX8_bed 18 = .ok (.if_icmp .lt 5, 3) := by decide +kernel
theorem dX8_bed_21 : decode cX8_bed 21 = .ok (.iconst (-1), 1) := by decide +kernel
theorem dX8_bed_22 : decode cX8_bed 22 = .ok (.ireturn, 1) := by decide +kernel
theorem dX8_bed_23 : decode cX8_bed 23 = .ok (.aload_n 0, 1) := by decide +kernel
theorem dX8_bed_24 : decode cX8_bed 24 = .ok (.aload_n 0, 1) := by decide +kernel
theorem dX8_bed_25 : decode cX8_bed 25 = .ok (.getfield 31, 3) := by decide +kernel
theorem dX8_bed_28 : decode cX8_bed 28 = .ok (.iload_n 1, 1) := by decide +kernel
theorem dX8_bed_29 : decode cX8_bed 29 = .ok (.iload_n 2, 1) := by decide +kernel
theorem dX8_bed_30 : decode cX8_bed 30 = .ok (.invokevirtual 164, 3) := by decide +kernel
theorem dX8_bed_33 : decode cX8_bed 33 = .ok (.invokevirtual 112, 3) := by decide +kernel
theorem dX8_bed_36 : decode cX8_bed 36 = .ok (.ireturn, 1) := by decide +kernel
theorem dX8_mark_0 : decode cX8_mark 0 = .ok (.aload_n 0, 1) := by decide +kernel
theorem dX8_mark_1 : decode cX8_mark 1 = .ok (.getfield 31, 3) := by decide +kernel
theorem dX8_mark_4 : decode cX8_mark 4 = .ok (.iload_n 1, 1) := by decide +kernel
theorem dX8_mark_5 : decode cX8_mark 5 = .ok (.invokevirtual 161, 3) := by decide +kernel
theorem dX8_mark_8 : decode cX8_mark 8 = .ok (.ifCond .eq 13, 3) := by decide +kernel
theorem dX8_mark_11 : decode cX8_mark 11 = .ok (.iload_n 2, 1) := by decide +kernel
theorem dX8_mark_12 : decode cX8_mark 12 = .ok (.ifCond .le 9, 3) := by decide +kernel
theorem dX8_mark_15 : decode cX8_mark 15 = .ok (.iload_n 2, 1) := by decide +kernel
theorem dX8_mark_16 : decode cX8_mark 16 = .ok (.bipush 6, 2) := by decide +kernel
theorem dX8_mark_18 : decode cX8_mark 18 = .ok (.if_icmp .lt 5, 3) := by decide +kernel
theorem dX8_mark_21 : decode cX8_mark 21 = .ok (.iconst (-1), 1) := by decide +kernel
theorem dX8_mark_22 : decode cX8_mark 22 = .ok (.ireturn, 1) := by decide +kernel
theorem dX8_mark_23 : decode cX8_mark 23 = .ok (.aload_n 0, 1) := by decide +kernel
theorem dX8_mark_24 : decode cX8_mark 24 = .ok (.getfield 31, 3) := by decide +kernel
theorem dX8_mark_27 : decode cX8_mark 27 = .ok (.iload_n 1, 1) := by decide +kernel
theorem dX8_mark_28 : decode cX8_mark 28 = .ok (.invokevirtual 167, 3) := by decide +kernel
theorem dX8_mark_31 : decode cX8_mark 31 = .ok (.iload_n 2, 1) := by decide +kernel
theorem dX8_mark_32 : decode cX8_mark 32 = .ok (.invokestatic 170, 3) := by decide +kernel
theorem dX8_mark_35 : decode cX8_mark 35 = .ok (.ifCond .ne 9, 3) := by decide +kernel
theorem dX8_mark_38 : decode cX8_mark 38 = .ok (.aload_n 0, 1) := by decide +kernel
theorem dX8_mark_39 : decode cX8_mark 39 = .ok (.iconst 3, 1) := by decide +kernel
theorem dX8_mark_40 : decode cX8_mark 40 = .ok (.invokevirtual 128, 3) := by decide +kernel
theorem dX8_mark_43 : decode cX8_mark 43 = .ok (.ireturn, 1) := by decide +kernel
theorem dX8_mark_44 : decode cX8_mark 44 = .ok (.aload_n 0, 1) := by decide +kernel
theorem dX8_mark_45 : decode cX8_mark 45 = .ok (.getfield 31, 3) := by decide +kernel
theorem dX8_mark_48 : decode cX8_mark 48 = .ok (.iload_n 1, 1) := by decide +kernel
theorem dX8_mark_49 : decode cX8_mark 49 = .ok (.invokevirtual 174, 3) := by decide +kernel
theorem dX8_mark_52 : decode cX8_mark 52 = .ok (.istore_n 3, 1) := by decide +kernel
theorem dX8_mark_53 : decode cX8_mark 53 = .ok (.aload_n 0, 1) := by decide +kernel
theorem dX8_mark_54 : decode cX8_mark 54 = .ok (.getfield 31, 3) := by decide +kernel
theorem dX8_mark_57 : decode cX8_mark 57 = .ok (.iload_n 1, 1) := by decide +kernel
theorem dX8_mark_58 : decode cX8_mark 58 = .ok (.aload_n 0, 1) := by decide +kernel
theorem dX8_mark_59 : decode cX8_mark 59 = .ok (.getfield 31, 3) := by decide +kernel
theorem dX8_mark_62 : decode cX8_mark 62 = .ok (.getfield 177, 3) := by decide +kernel
theorem dX8_mark_65 : decode cX8_mark 65 = .ok (.invokevirtual 180, 3) := by decide +kernel
theorem dX8_mark_68 : decode cX8_mark 68 = .ok (.istore 4, 2) := by decide +kernel
theorem dX8_mark_70 : decode cX8_mark 70 = .ok (.iload_n 2, 1) := by decide +kernel
theorem dX8_mark_71 : decode cX8_mark 71 = .ok (.tableswitch 89 1 4 #[29, 50, 58, 68], 29) := by decide +kernel
theorem dX8_mark_100 : decode cX8_mark 100 = .ok (.aload_n 0, 1) := by decide +kernel
theorem dX8_mark_101 : decode cX8_mark 101 = .ok (.getfield 31, 3) := by decide +kernel
theorem dX8_mark_104 : decode cX8_mark 104 = .ok (.iload_n 1, 1) := by decide +kernel
theorem dX8_mark_105 : decode cX8_mark 105 = .ok (.iconst 0, 1) := by decide +kernel
theorem dX8_mark_106 : decode cX8_mark 106 = .ok (.iload_n 3, 1) := by decide +kernel
theorem dX8_mark_107 : decode cX8_mark 107 = .ok (.aload_n 0, 1) := by decide +kernel
theorem dX8_mark_108 : decode cX8_mark 108 = .ok (.getfield 31, 3) := by decide +kernel
theorem dX8_mark_111 : decode cX8_mark 111 = .ok (.getfield 177, 3) := by decide +kernel
theorem dX8_mark_114 : decode cX8_mark 114 = .ok (.invokevirtual 183, 3) := by decide +kernel
theorem dX8_mark_117 : decode cX8_mark 117 = .ok (.iload 4, 2) := by decide +kernel
theorem dX8_mark_119 : decode cX8_mark 119 = .ok (.isub, 1) := by decide +kernel
theorem dX8_mark_120 : decode cX8_mark 120 = .ok (.ireturn, 1) := by decide +kernel
theorem dX8_mark_121 : decode cX8_mark 121 = .ok (.iload_n 3, 1) := by decide +kernel
theorem dX8_mark_122 : decode cX8_mark 122 = .ok (.iconst 2, 1) := by decide +kernel
theorem dX8_mark_123 : decode cX8_mark 123 = .ok (.iload_n 3, 1) := by decide +kernel
theorem dX8_mark_124 : decode cX8_mark 124 = .ok (.invokestatic 187, 3) := by decide +kernel
theorem dX8_mark_127 : decode cX8_mark 127 = .ok (.isub, 1) := by decide +kernel
theorem dX8_mark_128 : decode cX8_mark 128 = .ok (.ireturn, 1) := by decide +kernel
theorem dX8_mark_129 : decode cX8_mark 129 = .ok (.aload_n 0, 1) := by decide +kernel
theorem dX8_mark_130 : decode cX8_mark 130 = .ok (.getfield 31, 3) := by decide +kernel
theorem dX8_mark_133 : decode cX8_mark 133 = .ok (.getfield 177, 3) := by decide +kernel
theorem dX8_mark_136 : decode cX8_mark 136 = .ok (.iconst 2, 1) := by decide +kernel
theorem dX8_mark_137 : decode cX8_mark 137 = .ok (.irem, 1) := by decide +kernel
theorem dX8_mark_138 : decode cX8_mark 138 = .ok (.ireturn, 1) := by decide +kernel
theorem dX8_mark_139 : decode cX8_mark 139 = .ok (.iload 4, 2) := by decide +kernel
theorem dX8_mark_141 : decode cX8_mark 141 = .ok (.aload_n 0, 1) := by decide +kernel
theorem dX8_mark_142 : decode cX8_mark 142 = .ok (.getfield 31, 3) := by decide +kernel
theorem dX8_mark_145 : decode cX8_mark 145 = .ok (.iload_n 1, 1) := by decide +kernel
theorem dX8_mark_146 : decode cX8_mark 146 = .ok (.iconst 2, 1) := by decide +kernel
theorem dX8_mark_147 : decode cX8_mark 147 = .ok (.iload_n 3, 1) := by decide +kernel
theorem dX8_mark_148 : decode cX8_mark 148 = .ok (.aload_n 0, 1) := by decide +kernel
theorem dX8_mark_149 : decode cX8_mark 149 = .ok (.getfield 31, 3) := by decide +kernel
theorem dX8_mark_152 : decode cX8_mark 152 = .ok (.getfield 177, 3) := by decide +kernel
theorem dX8_mark_155 : decode cX8_mark 155 = .ok (.invokevirtual 183, 3) := by decide +kernel
theorem dX8_mark_158 : decode cX8_mark 158 = .ok (.isub, 1) := by decide +kernel
theorem dX8_mark_159 : decode cX8_mark 159 = .ok (.ireturn, 1) := by decide +kernel
theorem dX8_mark_160 : decode cX8_mark 160 = .ok (.aload_n 0, 1) := by decide +kernel
theorem dX8_mark_161 : decode cX8_mark 161 = .ok (.getfield 31, 3) := by decide +kernel
theorem dX8_mark_164 : decode cX8_mark 164 = .ok (.iload_n 1, 1) := by decide +kernel
theorem dX8_mark_165 : decode cX8_mark 165 = .ok (.iconst 1, 1) := by decide +kernel
theorem dX8_mark_166 : decode cX8_mark 166 = .ok (.iload_n 3, 1) := by decide +kernel
theorem dX8_mark_167 : decode cX8_mark 167 = .ok (.aload_n 0, 1) := by decide +kernel
theorem dX8_mark_168 : decode cX8_mark 168 = .ok (.getfield 31, 3) := by decide +kernel
theorem dX8_mark_171 : decode cX8_mark 171 = .ok (.getfield 177, 3) := by decide +kernel
theorem dX8_mark_174 : decode cX8_mark 174 = .ok (.invokevirtual 183, 3) := by decide +kernel
theorem dX8_mark_177 : decode cX8_mark 177 = .ok (.iload 4, 2) := by decide +kernel
theorem dX8_mark_179 : decode cX8_mark 179 = .ok (.isub, 1) := by decide +kernel
theorem dX8_mark_180 : decode cX8_mark 180 = .ok (.ireturn, 1) := by decide +kernel
theorem dX8_cross_0 : decode cX8_cross 0 = .ok (.aload_n 0, 1) := by decide +kernel
theorem dX8_cross_1 : decode cX8_cross 1 = .ok (.getfield 31, 3) := by decide +kernel
theorem dX8_cross_4 : decode cX8_cross 4 = .ok (.iload_n 1, 1) := by decide +kernel
theorem dX8_cross_5 : decode cX8_cross 5 = .ok (.invokevirtual 161, 3) := by decide +kernel
theorem dX8_cross_8 : decode cX8_cross 8 = .ok (.ifCond .eq 13, 3) := by decide +kernel
theorem dX8_cross_11 : decode cX8_cross 11 = .ok (.iload_n 2, 1) := by decide +kernel
theorem dX8_cross_12 : decode cX8_cross 12 = .ok (.ifCond .lt 9, 3) := by decide +kernel
theorem dX8_cross_15 : decode cX8_cross 15 = .ok (.iload_n 2, 1) := by decide +kernel
theorem dX8_cross_16 : decode cX8_cross 16 = .ok (.bipush 99, 2) := by decide +kernel
theorem dX8_cross_18 : decode cX8_cross 18 = .ok (.if_icmp .le 5, 3) := by decide +kernel
theorem dX8_cross_21 : decode cX8_cross 21 = .ok (.iconst (-1), 1) := by decide +kernel
theorem dX8_cross_22 : decode cX8_cross 22 = .ok (.ireturn, 1) := by decide +kernel
theorem dX8_cross_23 : decode cX8_cross 23 = .ok (.aload_n 0, 1) := by decide +kernel
theorem dX8_cross_24 : decode cX8_cross 24 = .ok (.getfield 31, 3) := by decide +kernel
theorem dX8_cross_27 : decode cX8_cross 27 = .ok (.iload_n 1, 1) := by decide +kernel
theorem dX8_cross_28 : decode cX8_cross 28 = .ok (.iload_n 2, 1) := by decide +kernel
theorem dX8_cross_29 : decode cX8_cross 29 = .ok (.invokevirtual 180, 3) := by decide +kernel
theorem dX8_cross_32 : decode cX8_cross 32 = .ok (.ireturn, 1) := by decide +kernel
theorem dX8_night_0 : decode cX8_night 0 = .ok (.aload_n 0, 1) := by decide +kernel
theorem dX8_night_1 : decode cX8_night 1 = .ok (.getfield 31, 3) := by decide +kernel
theorem dX8_night_4 : decode cX8_night 4 = .ok (.getfield 158, 3) := by decide +kernel
theorem dX8_night_7 : decode cX8_night 7 = .ok (.ifCond .ne 6, 3) := by decide +kernel
theorem dX8_night_10 : decode cX8_night 10 = .ok (.bipush (-4), 2) := by decide +kernel
theorem dX8_night_12 : decode cX8_night 12 = .ok (.ireturn, 1) := by decide +kernel
theorem dX8_night_13 : decode cX8_night 13 = .ok (.aload_n 0, 1) := by decide +kernel
theorem dX8_night_14 : decode cX8_night 14 = .ok (.getfield 41, 3) := by decide +kernel
theorem dX8_night_17 : decode cX8_night 17 = .ok (.bipush 40, 2) := by decide +kernel
theorem dX8_night_19 : decode cX8_night 19 = .ok (.if_icmp .lt 8, 3) := by decide +kernel
theorem dX8_night_22 : decode cX8_night 22 = .ok (.bipush (-2), 2) := by decide +kernel
theorem dX8_night_24 : decode cX8_night 24 = .ok (.goto 10, 3) := by decide +kernel
theorem dX8_night_27 : decode cX8_night 27 = .ok (.aload_n 0, 1) := by decide +kernel
theorem dX8_night_28 : decode cX8_night 28 = .ok (.iconst 0, 1) := by decide +kernel
theorem dX8_night_29 : decode cX8_night 29 = .ok (.iconst 0, 1) := by decide +kernel
theorem dX8_night_30 : decode cX8_night 30 = .ok (.iconst 0, 1) := by decide +kernel
theorem dX8_night_31 : decode cX8_night 31 = .ok (.invokevirtual 190, 3) := by decide +kernel
theorem dX8_night_34 : decode cX8_night 34 = .ok (.ireturn, 1) := by decide +kernel
theorem dX8_inspect_0 : decode cX8_inspect 0 = .ok (.aload_n 0, 1) := by decide +kernel
theorem dX8_inspect_1 : decode cX8_inspect 1 = .ok (.getfield 31, 3) := by decide +kernel
theorem dX8_inspect_4 : decode cX8_inspect 4 = .ok (.iload_n 1, 1) := by decide +kernel
theorem dX8_inspect_5 : decode cX8_inspect 5 = .ok (.invokevirtual 161, 3) := by decide +kernel
theorem dX8_inspect_8 : decode cX8_inspect 8 = .ok (.ifCond .ne 5, 3) := by decide +kernel
theorem dX8_inspect_11 : decode cX8_inspect 11 = .ok (.iconst (-1), 1) := by decide +kernel
theorem dX8_inspect_12 : decode cX8_inspect 12 = .ok (.ireturn, 1) := by decide +kernel
theorem dX8_inspect_13 : decode cX8_inspect 13 = .ok (.aload_n 0, 1) := by decide +kernel
theorem dX8_inspect_14 : decode cX8_inspect 14 = .ok (.getfield 41, 3) := by decide +kernel
theorem dX8_inspect_17 : decode cX8_inspect 17 = .ok (.bipush 40, 2) := by decide +kernel
theorem dX8_inspect_19 : decode cX8_inspect 19 = .ok (.if_icmp .lt 8, 3) := by decide +kernel
theorem dX8_inspect_22 : decode cX8_inspect 22 = .ok (.bipush (-2), 2) := by decide +kernel
theorem dX8_inspect_24 : decode cX8_inspect 24 = .ok (.goto 10, 3) := by decide +kernel
theorem dX8_inspect_27 : decode cX8_inspect 27 = .ok (.aload_n 0, 1) := by decide +kernel
theorem dX8_inspect_28 : decode cX8_inspect 28 = .ok (.iconst 1, 1) := by decide +kernel
theorem dX8_inspect_29 : decode cX8_inspect 29 = .ok (.iload_n 1, 1) := by decide +kernel
theorem dX8_inspect_30 : decode cX8_inspect 30 = .ok (.iconst 0, 1) := by decide +kernel
theorem dX8_inspect_31 : decode cX8_inspect 31 = .ok (.invokevirtual 190, 3) := by decide +kernel
theorem dX8_inspect_34 : decode cX8_inspect 34 = .ok (.ireturn, 1) := by decide +kernel
theorem dX8_thin_0 : decode cX8_thin 0 = .ok (.aload_n 0, 1) := by decide +kernel
theorem dX8_thin_1 : decode cX8_thin 1 = .ok (.getfield 31, 3) := by decide +kernel
theorem dX8_thin_4 : decode cX8_thin 4 = .ok (.iload_n 1, 1) := by decide +kernel
theorem dX8_thin_5 : decode cX8_thin 5 = .ok (.invokevirtual 161, 3) := by decide +kernel
theorem dX8_thin_8 : decode cX8_thin 8 = .ok (.ifCond .ne 5, 3) := by decide +kernel
theorem dX8_thin_11 : decode cX8_thin 11 = .ok (.iconst (-1), 1) := by decide +kernel
theorem dX8_thin_12 : decode cX8_thin 12 = .ok (.ireturn, 1) := by decide +kernel
theorem dX8_thin_13 : decode cX8_thin 13 = .ok (.aload_n 0, 1) := by decide +kernel
theorem dX8_thin_14 : decode cX8_thin 14 = .ok (.getfield 31, 3) := by decide +kernel
theorem dX8_thin_17 : decode cX8_thin 17 = .ok (.iload_n 1, 1) := by decide +kernel
theorem dX8_thin_18 : decode cX8_thin 18 = .ok (.invokevirtual 174, 3) := by decide +kernel
theorem dX8_thin_21 : decode cX8_thin 21 = .ok (.ifCond .ne 6, 3) := by decide +kernel
theorem dX8_thin_24 : decode cX8_thin 24 = .ok (.bipush (-4), 2) := by decide +kernel
theorem dX8_thin_26 : decode cX8_thin 26 = .ok (.ireturn, 1) := by decide +kernel
theorem dX8_thin_27 : decode cX8_thin 27 = .ok (.aload_n 0, 1) := by decide +kernel
theorem dX8_thin_28 : decode cX8_thin 28 = .ok (.getfield 41, 3) := by decide +kernel
theorem dX8_thin_31 : decode cX8_thin 31 = .ok (.bipush 40, 2) := by decide +kernel
theorem dX8_thin_33 : decode cX8_thin 33 = .ok (.if_icmp .lt 8, 3) := by decide +kernel
theorem dX8_thin_36 : decode cX8_thin 36 = .ok (.bipush (-2), 2) := by decide +kernel
theorem dX8_thin_38 : decode cX8_thin 38 = .ok (.goto 10, 3) := by decide +kernel
theorem dX8_thin_41 : decode cX8_thin 41 = .ok (.aload_n 0, 1) := by decide +kernel
theorem dX8_thin_42 : decode cX8_thin 42 = .ok (.iconst 2, 1) := by decide +kernel
theorem dX8_thin_43 : decode cX8_thin 43 = .ok (.iload_n 1, 1) := by decide +kernel
theorem dX8_thin_44 : decode cX8_thin 44 = .ok (.iconst 0, 1) := by decide +kernel
theorem dX8_thin_45 : decode cX8_thin 45 = .ok (.invokevirtual 190, 3) := by decide +kernel
theorem dX8_thin_48 : decode cX8_thin 48 = .ok (.ireturn, 1) := by decide +kernel
theorem dX8_swap_0 : decode cX8_swap 0 = .ok (.aload_n 0, 1) := by decide +kernel
theorem dX8_swap_1 : decode cX8_swap 1 = .ok (.getfield 31, 3) := by decide +kernel
theorem dX8_swap_4 : decode cX8_swap 4 = .ok (.iload_n 1, 1) := by decide +kernel
theorem dX8_swap_5 : decode cX8_swap 5 = .ok (.invokevirtual 161, 3) := by decide +kernel
theorem dX8_swap_8 : decode cX8_swap 8 = .ok (.ifCond .eq 19, 3) := by decide +kernel
theorem dX8_swap_11 : decode cX8_swap 11 = .ok (.aload_n 0, 1) := by decide +kernel
theorem dX8_swap_12 : decode cX8_swap 12 = .ok (.getfield 31, 3) := by decide +kernel
theorem dX8_swap_15 : decode cX8_swap 15 = .ok (.iload_n 2, 1) := by decide +kernel
theorem dX8_swap_16 : decode cX8_swap 16 = .ok (.invokevirtual 161, 3) := by decide +kernel
theorem dX8_swap_19 : decode cX8_swap 19 = .ok (.ifCond .eq 8, 3) := by decide +kernel
theorem dX8_swap_22 : decode cX8_swap 22 = .ok (.iload_n 1, 1) := by decide +kernel
theorem dX8_swap_23 : decode cX8_swap 23 = .ok (.iload_n 2, 1) := by decide +kernel
theorem dX8_swap_24 : decode cX8_swap 24 = .ok (.if_icmp .ne 5, 3) := by decide +kernel
theorem dX8_swap_27 : decode cX8_swap 27 = .ok (.iconst (-1), 1) := by decide +kernel
theorem dX8_swap_28 : decode cX8_swap 28 = .ok (.ireturn, 1) := by decide +kernel
theorem dX8_swap_29 : decode cX8_swap 29 = .ok (.aload_n 0, 1) := by decide +kernel
theorem dX8_swap_30 : decode cX8_swap 30 = .ok (.getfield 41, 3) := by decide +kernel
theorem dX8_swap_33 : decode cX8_swap 33 = .ok (.bipush 40, 2) := by decide +kernel
theorem dX8_swap_35 : decode cX8_swap 35 = .ok (.if_icmp .lt 8, 3) := by decide +kernel
theorem dX8_swap_38 : decode cX8_swap 38 = .ok (.bipush (-2), 2) := by decide +kernel
theorem dX8_swap_40 : decode cX8_swap 40 = .ok (.goto 10, 3) := by decide +kernel
theorem dX8_swap_43 : decode cX8_swap 43 = .ok (.aload_n 0, 1) := by decide +kernel
theorem dX8_swap_44 : decode cX8_swap 44 = .ok (.iconst 3, 1) := by decide +kernel
theorem dX8_swap_45 : decode cX8_swap 45 = .ok (.iload_n 1, 1) := by decide +kernel
theorem dX8_swap_46 : decode cX8_swap 46 = .ok (.iload_n 2, 1) := by decide +kernel
theorem dX8_swap_47 : decode cX8_swap 47 = .ok (.invokevirtual 190, 3) := by decide +kernel
theorem dX8_swap_50 : decode cX8_swap 50 = .ok (.ireturn, 1) := by decide +kernel
theorem dX8_undo_0 : decode cX8_undo 0 = .ok (.iload_n 1, 1) := by decide +kernel
theorem dX8_undo_1 : decode cX8_undo 1 = .ok (.ifCond .lt 11, 3) := by decide +kernel
theorem dX8_undo_4 : decode cX8_undo 4 = .ok (.iload_n 1, 1) := by decide +kernel
theorem dX8_undo_5 : decode cX8_undo 5 = .ok (.aload_n 0, 1) := by decide +kernel
theorem dX8_undo_6 : decode cX8_undo 6 = .ok (.getfield 41, 3) := by decide +kernel
theorem dX8_undo_9 : decode cX8_undo 9 = .ok (.if_icmp .le 5, 3) := by decide +kernel
theorem dX8_undo_12 : decode cX8_undo 12 = .ok (.iconst (-1), 1) := by decide +kernel
theorem dX8_undo_13 : decode cX8_undo 13 = .ok (.ireturn, 1) := by decide +kernel
theorem dX8_undo_14 : decode cX8_undo 14 = .ok (.aload_n 0, 1) := by decide +kernel
theorem dX8_undo_15 : decode cX8_undo 15 = .ok (.getfield 41, 3) := by decide +kernel
theorem dX8_undo_18 : decode cX8_undo 18 = .ok (.iload_n 1, 1) := by decide +kernel
theorem dX8_undo_19 : decode cX8_undo 19 = .ok (.isub, 1) := by decide +kernel
theorem dX8_undo_20 : decode cX8_undo 20 = .ok (.istore_n 2, 1) := by decide +kernel
theorem dX8_undo_21 : decode cX8_undo 21 = .ok (.aload_n 0, 1) := by decide +kernel
theorem dX8_undo_22 : decode cX8_undo 22 = .ok (.iload_n 1, 1) := by decide +kernel
theorem dX8_undo_23 : decode cX8_undo 23 = .ok (.putfield 41, 3) := by decide +kernel
theorem dX8_undo_26 : decode cX8_undo 26 = .ok (.aload_n 0, 1) := by decide +kernel
theorem dX8_undo_27 : decode cX8_undo 27 = .ok (.invokevirtual 194, 3) := by decide +kernel
theorem dX8_undo_30 : decode cX8_undo 30 = .ok (.iload_n 2, 1) := by decide +kernel
theorem dX8_undo_31 : decode cX8_undo 31 = .ok (.ireturn, 1) := by decide +kernel
theorem dX8_keep_0 : decode cX8_keep 0 = .ok (.aload_n 0, 1) := by decide +kernel
theorem dX8_keep_1 : decode cX8_keep 1 = .ok (.getfield 21, 3) := by decide +kernel
theorem dX8_keep_4 : decode cX8_keep 4 = .ok (.iload_n 1, 1) := by decide +kernel
theorem dX8_keep_5 : decode cX8_keep 5 = .ok (.invokevirtual 124, 3) := by decide +kernel
theorem dX8_keep_8 : decode cX8_keep 8 = .ok (.ifCond .ne 5, 3) := by decide +kernel
theorem dX8_keep_11 : decode cX8_keep 11 = .ok (.iconst (-1), 1) := by decide +kernel
theorem dX8_keep_12 : decode cX8_keep 12 = .ok (.ireturn, 1) := by decide +kernel
theorem dX8_keep_13 : decode cX8_keep 13 = .ok (.aload_n 0, 1) := by decide +kernel
theorem dX8_keep_14 : decode cX8_keep 14 = .ok (.getfield 31, 3) := by decide +kernel
theorem dX8_keep_17 : decode cX8_keep 17 = .ok (.getfield 158, 3) := by decide +kernel
theorem dX8_keep_20 : decode cX8_keep 20 = .ok (.ifCond .ne 6, 3) := by decide +kernel
theorem dX8_keep_23 : decode cX8_keep 23 = .ok (.bipush (-4), 2) := by decide +kernel
theorem dX8_keep_25 : decode cX8_keep 25 = .ok (.ireturn, 1) := by decide +kernel
theorem dX8_keep_26 : decode cX8_keep 26 = .ok (.aload_n 0, 1) := by decide +kernel
theorem dX8_keep_27 : decode cX8_keep 27 = .ok (.getfield 21, 3) := by decide +kernel
theorem dX8_keep_30 : decode cX8_keep 30 = .ok (.iload_n 1, 1) := by decide +kernel
theorem dX8_keep_31 : decode cX8_keep 31 = .ok (.aload_n 0, 1) := by decide +kernel
theorem dX8_keep_32 : decode cX8_keep 32 = .ok (.getfield 41, 3) := by decide +kernel
theorem dX8_keep_35 : decode cX8_keep 35 = .ok (.aload_n 0, 1) := by decide +kernel
theorem dX8_keep_36 : decode cX8_keep 36 = .ok (.getfield 37, 3) := by decide +kernel
theorem dX8_keep_39 : decode cX8_keep 39 = .ok (.invokevirtual 197, 3) := by decide +kernel
theorem dX8_keep_42 : decode cX8_keep 42 = .ok (.aload_n 0, 1) := by decide +kernel
theorem dX8_keep_43 : decode cX8_keep 43 = .ok (.getfield 41, 3) := by decide +kernel
theorem dX8_keep_46 : decode cX8_keep 46 = .ok (.ireturn, 1) := by decide +kernel
theorem dX8_on_0 : decode cX8_on 0 = .ok (.aload_n 0, 1) := by decide +kernel
theorem dX8_on_1 : decode cX8_on 1 = .ok (.aload_n 0, 1) := by decide +kernel
theorem dX8_on_2 : decode cX8_on 2 = .ok (.getfield 21, 3) := by decide +kernel
theorem dX8_on_5 : decode cX8_on 5 = .ok (.iload_n 1, 1) := by decide +kernel
theorem dX8_on_6 : decode cX8_on 6 = .ok (.invokevirtual 116, 3) := by decide +kernel
theorem dX8_on_9 : decode cX8_on 9 = .ok (.istore_n 2, 1) := by decide +kernel
theorem dX8_on_10 : decode cX8_on 10 = .ok (.iload_n 2, 1) := by decide +kernel
theorem dX8_on_11 : decode cX8_on 11 = .ok (.ifCond .eq 5, 3) := by decide +kernel
theorem dX8_on_14 : decode cX8_on 14 = .ok (.iload_n 2, 1) := by decide +kernel
theorem dX8_on_15 : decode cX8_on 15 = .ok (.ireturn, 1) := by decide +kernel
theorem dX8_on_16 : decode cX8_on 16 = .ok (.aload_n 0, 1) := by decide +kernel
theorem dX8_on_17 : decode cX8_on 17 = .ok (.aload_n 0, 1) := by decide +kernel
theorem dX8_on_18 : decode cX8_on 18 = .ok (.getfield 21, 3) := by decide +kernel
theorem dX8_on_21 : decode cX8_on 21 = .ok (.iload_n 1, 1) := by decide +kernel
theorem dX8_on_22 : decode cX8_on 22 = .ok (.invokevirtual 142, 3) := by decide +kernel
theorem dX8_on_25 : decode cX8_on 25 = .ok (.putfield 41, 3) := by decide +kernel
theorem dX8_on_28 : decode cX8_on 28 = .ok (.iconst 0, 1) := by decide +kernel
theorem dX8_on_29 : decode cX8_on 29 = .ok (.istore_n 3, 1) := by decide +kernel
theorem dX8_on_30 : decode cX8_on 30 = .ok (.iload_n 3, 1) := by decide +kernel
theorem dX8_on_31 : decode cX8_on 31 = .ok (.aload_n 0, 1) := by decide +kernel
theorem dX8_on_32 : decode cX8_on 32 = .ok (.getfield 41, 3) := by decide +kernel
theorem dX8_on_35 : decode cX8_on 35 = .ok (.if_icmp .ge 26, 3) := by decide +kernel
theorem dX8_on_38 : decode cX8_on 38 = .ok (.aload_n 0, 1) := by decide +kernel
theorem dX8_on_39 : decode cX8_on 39 = .ok (.getfield 37, 3) := by decide +kernel
theorem dX8_on_42 : decode cX8_on 42 = .ok (.iload_n 3, 1) := by decide +kernel
theorem dX8_on_43 : decode cX8_on 43 = .ok (.aload_n 0, 1) := by decide +kernel
theorem dX8_on_44 : decode cX8_on 44 = .ok (.getfield 21, 3) := by decide +kernel
theorem dX8_on_47 : decode cX8_on 47 = .ok (.iload_n 1, 1) := by decide +kernel
theorem dX8_on_48 : decode cX8_on 48 = .ok (.iload_n 3, 1) := by decide +kernel
theorem dX8_on_49 : decode cX8_on 49 = .ok (.invokevirtual 104, 3) := by decide +kernel
theorem dX8_on_52 : decode cX8_on 52 = .ok (.invokestatic 201, 3) := by decide +kernel
theorem dX8_on_55 : decode cX8_on 55 = .ok (.iinc 3 1, 3) := by decide +kernel
theorem dX8_on_58 : decode cX8_on 58 = .ok (.goto (-28), 3) := by decide +kernel
theorem dX8_on_61 : decode cX8_on 61 = .ok (.aload_n 0, 1) := by decide +kernel
theorem dX8_on_62 : decode cX8_on 62 = .ok (.invokevirtual 194, 3) := by decide +kernel
theorem dX8_on_65 : decode cX8_on 65 = .ok (.aload_n 0, 1) := by decide +kernel
theorem dX8_on_66 : decode cX8_on 66 = .ok (.getfield 41, 3) := by decide +kernel
theorem dX8_on_69 : decode cX8_on 69 = .ok (.ireturn, 1) := by decide +kernel
theorem dX8_then_0 : decode cX8_then 0 = .ok (.aload_n 0, 1) := by decide +kernel
theorem dX8_then_1 : decode cX8_then 1 = .ok (.getfield 31, 3) := by decide +kernel
theorem dX8_then_4 : decode cX8_then 4 = .ok (.iload_n 1, 1) := by decide +kernel
theorem dX8_then_5 : decode cX8_then 5 = .ok (.invokevirtual 161, 3) := by decide +kernel
theorem dX8_then_8 : decode cX8_then 8 = .ok (.ifCond .eq 13, 3) := by decide +kernel
theorem dX8_then_11 : decode cX8_then 11 = .ok (.iload_n 2, 1) := by decide +kernel
theorem dX8_then_12 : decode cX8_then 12 = .ok (.ifCond .lt 9, 3) := by decide +kernel
theorem dX8_then_15 : decode cX8_then 15 = .ok (.iload_n 2, 1) := by decide +kernel
theorem dX8_then_16 : decode cX8_then 16 = .ok (.bipush 40, 2) := by decide +kernel
theorem dX8_then_18 : decode cX8_then 18 = .ok (.if_icmp .le 5, 3) := by decide +kernel
theorem dX8_then_21 : decode cX8_then 21 = .ok (.iconst (-1), 1) := by decide +kernel
theorem dX8_then_22 : decode cX8_then 22 = .ok (.ireturn, 1) := by decide +kernel
theorem dX8_then_23 : decode cX8_then 23 = .ok (.aload_n 0, 1) := by decide +kernel
theorem dX8_then_24 : decode cX8_then 24 = .ok (.getfield 34, 3) := by decide +kernel
theorem dX8_then_27 : decode cX8_then 27 = .ok (.aload_n 0, 1) := by decide +kernel
theorem dX8_then_28 : decode cX8_then 28 = .ok (.getfield 31, 3) := by decide +kernel
theorem dX8_then_31 : decode cX8_then 31 = .ok (.invokevirtual 151, 3) := by decide +kernel
theorem dX8_then_34 : decode cX8_then 34 = .ok (.aload_n 0, 1) := by decide +kernel
theorem dX8_then_35 : decode cX8_then 35 = .ok (.getfield 34, 3) := by decide +kernel
theorem dX8_then_38 : decode cX8_then 38 = .ok (.iload_n 1, 1) := by decide +kernel
theorem dX8_then_39 : decode cX8_then 39 = .ok (.iload_n 2, 1) := by decide +kernel
theorem dX8_then_40 : decode cX8_then 40 = .ok (.invokevirtual 205, 3) := by decide +kernel
theorem dX8_then_43 : decode cX8_then 43 = .ok (.aload_n 0, 1) := by decide +kernel
theorem dX8_then_44 : decode cX8_then 44 = .ok (.aload_n 0, 1) := by decide +kernel
theorem dX8_then_45 : decode cX8_then 45 = .ok (.getfield 34, 3) := by decide +kernel
theorem dX8_then_48 : decode cX8_then 48 = .ok (.iload_n 1, 1) := by decide +kernel
theorem dX8_then_49 : decode cX8_then 49 = .ok (.invokevirtual 174, 3) := by decide +kernel
theorem dX8_then_52 : decode cX8_then 52 = .ok (.putfield 80, 3) := by decide +kernel
theorem dX8_then_55 : decode cX8_then 55 = .ok (.aload_n 0, 1) := by decide +kernel
theorem dX8_then_56 : decode cX8_then 56 = .ok (.getfield 34, 3) := by decide +kernel
theorem dX8_then_59 : decode cX8_then 59 = .ok (.iload_n 1, 1) := by decide +kernel
theorem dX8_then_60 : decode cX8_then 60 = .ok (.invokevirtual 208, 3) := by decide +kernel
theorem dX8_then_63 : decode cX8_then 63 = .ok (.ireturn, 1) := by decide +kernel
theorem dX8_when_0 : decode cX8_when 0 = .ok (.aload_n 0, 1) := by decide +kernel
theorem dX8_when_1 : decode cX8_when 1 = .ok (.getfield 31, 3) := by decide +kernel
theorem dX8_when_4 : decode cX8_when 4 = .ok (.iload_n 1, 1) := by decide +kernel
theorem dX8_when_5 : decode cX8_when 5 = .ok (.invokevirtual 161, 3) := by decide +kernel
theorem dX8_when_8 : decode cX8_when 8 = .ok (.ifCond .ne 5, 3) := by decide +kernel
theorem dX8_when_11 : decode cX8_when 11 = .ok (.iconst (-1), 1) := by decide +kernel
theorem dX8_when_12 : decode cX8_when 12 = .ok (.ireturn, 1) := by decide +kernel
theorem dX8_when_13 : decode cX8_when 13 = .ok (.aload_n 0, 1) := by decide +kernel
theorem dX8_when_14 : decode cX8_when 14 = .ok (.getfield 34, 3) := by decide +kernel
theorem dX8_when_17 : decode cX8_when 17 = .ok (.aload_n 0, 1) := by decide +kernel
theorem dX8_when_18 : decode cX8_when 18 = .ok (.getfield 31, 3) := by decide +kernel
theorem dX8_when_21 : decode cX8_when 21 = .ok (.invokevirtual 151, 3) := by decide +kernel
theorem dX8_when_24 : decode cX8_when 24 = .ok (.iconst 0, 1) := by decide +kernel
theorem dX8_when_25 : decode cX8_when 25 = .ok (.istore_n 2, 1) := by decide +kernel
theorem dX8_when_26 : decode cX8_when 26 = .ok (.iload_n 2, 1) := by decide +kernel
theorem dX8_when_27 : decode cX8_when 27 = .ok (.bipush 40, 2) := by decide +kernel
theorem dX8_when_29 : decode cX8_when 29 = .ok (.if_icmp .gt 31, 3) := by decide +kernel
theorem dX8_when_32 : decode cX8_when 32 = .ok (.aload_n 0, 1) := by decide +kernel
theorem dX8_when_33 : decode cX8_when 33 = .ok (.getfield 34, 3) := by decide +kernel
theorem dX8_when_36 : decode cX8_when 36 = .ok (.iload_n 1, 1) := by decide +kernel
theorem dX8_when_37 : decode cX8_when 37 = .ok (.invokevirtual 211, 3) := by decide +kernel
theorem dX8_when_40 : decode cX8_when 40 = .ok (.ifCond .eq 5, 3) := by decide +kernel
theorem dX8_when_43 : decode cX8_when 43 = .ok (.iload_n 2, 1) := by decide +kernel
theorem dX8_when_44 : decode cX8_when 44 = .ok (.ireturn, 1) := by decide +kernel
theorem dX8_when_45 : decode cX8_when 45 = .ok (.aload_n 0, 1) := by decide +kernel
theorem dX8_when_46 : decode cX8_when 46 = .ok (.getfield 34, 3) := by decide +kernel
theorem dX8_when_49 : decode cX8_when 49 = .ok (.iload_n 1, 1) := by decide +kernel
theorem dX8_when_50 : decode cX8_when 50 = .ok (.iconst 1, 1) := by decide +kernel
theorem dX8_when_51 : decode cX8_when 51 = .ok (.invokevirtual 205, 3) := by decide +kernel
theorem dX8_when_54 : decode cX8_when 54 = .ok (.iinc 2 1, 3) := by decide +kernel
theorem dX8_when_57 : decode cX8_when 57 = .ok (.goto (-31), 3) := by decide +kernel
theorem dX8_when_60 : decode cX8_when 60 = .ok (.bipush (-9), 2) := by decide +kernel
theorem dX8_when_62 : decode cX8_when 62 = .ok (.ireturn, 1) := by decide +kernel
theorem dX8_least_0 : decode cX8_least 0 = .ok (.aload_n 0, 1) := by decide +kernel
theorem dX8_least_1 : decode cX8_least 1 = .ok (.getfield 31, 3) := by decide +kernel
theorem dX8_least_4 : decode cX8_least 4 = .ok (.iload_n 1, 1) := by decide +kernel
theorem dX8_least_5 : decode cX8_least 5 = .ok (.invokevirtual 161, 3) := by decide +kernel
theorem dX8_least_8 : decode cX8_least 8 = .ok (.ifCond .eq 13, 3) := by decide +kernel
theorem dX8_least_11 : decode cX8_least 11 = .ok (.iload_n 2, 1) := by decide +kernel
theorem dX8_least_12 : decode cX8_least 12 = .ok (.ifCond .lt 9, 3) := by decide +kernel
theorem dX8_least_15 : decode cX8_least 15 = .ok (.iload_n 2, 1) := by decide +kernel
theorem dX8_least_16 : decode cX8_least 16 = .ok (.bipush 40, 2) := by decide +kernel
theorem dX8_least_18 : decode cX8_least 18 = .ok (.if_icmp .le 5, 3) := by decide +kernel
theorem dX8_least_21 : decode cX8_least 21 = .ok (.iconst (-1), 1) := by decide +kernel
theorem dX8_least_22 : decode cX8_least 22 = .ok (.ireturn, 1) := by decide +kernel
theorem dX8_least_23 : decode cX8_least 23 = .ok (.aload_n 0, 1) := by decide +kernel
theorem dX8_least_24 : decode cX8_least 24 = .ok (.getfield 31, 3) := by decide +kernel
theorem dX8_least_27 : decode cX8_least 27 = .ok (.iload_n 1, 1) := by decide +kernel
theorem dX8_least_28 : decode cX8_least 28 = .ok (.invokevirtual 174, 3) := by decide +kernel
theorem dX8_least_31 : decode cX8_least 31 = .ok (.istore_n 3, 1) := by decide +kernel
theorem dX8_least_32 : decode cX8_least 32 = .ok (.iconst 0, 1) := by decide +kernel
theorem dX8_least_33 : decode cX8_least 33 = .ok (.istore 4, 2) := by decide +kernel
theorem dX8_least_35 : decode cX8_least 35 = .ok (.iload 4, 2) := by decide +kernel
theorem dX8_least_37 : decode cX8_least 37 = .ok (.iload_n 3, 1) := by decide +kernel
theorem dX8_least_38 : decode cX8_least 38 = .ok (.if_icmp .gt 53, 3) := by decide +kernel
theorem dX8_least_41 : decode cX8_least 41 = .ok (.aload_n 0, 1) := by decide +kernel
theorem dX8_least_42 : decode cX8_least 42 = .ok (.getfield 34, 3) := by decide +kernel
theorem dX8_least_45 : decode cX8_least 45 = .ok (.aload_n 0, 1) := by decide +kernel
theorem dX8_least_46 : decode cX8_least 46 = .ok (.getfield 31, 3) := by decide +kernel
theorem dX8_least_49 : decode cX8_least 49 = .ok (.invokevirtual 151, 3) := by decide +kernel
theorem dX8_least_52 : decode cX8_least 52 = .ok (.aload_n 0, 1) := by decide +kernel
theorem dX8_least_53 : decode cX8_least 53 = .ok (.getfield 34, 3) := by decide +kernel
theorem dX8_least_56 : decode cX8_least 56 = .ok (.iload_n 1, 1) := by decide +kernel
theorem dX8_least_57 : decode cX8_least 57 = .ok (.iload 4, 2) := by decide +kernel
theorem dX8_least_59 : decode cX8_least 59 = .ok (.invokevirtual 214, 3) := by decide +kernel
theorem dX8_least_62 : decode cX8_least 62 = .ok (.aload_n 0, 1) := by decide +kernel
theorem dX8_least_63 : decode cX8_least 63 = .ok (.getfield 34, 3) := by decide +kernel
theorem dX8_least_66 : decode cX8_least 66 = .ok (.iload_n 1, 1) := by decide +kernel
theorem dX8_least_67 : decode cX8_least 67 = .ok (.iload_n 2, 1) := by decide +kernel
theorem dX8_least_68 : decode cX8_least 68 = .ok (.invokevirtual 205, 3) := by decide +kernel
theorem dX8_least_71 : decode cX8_least 71 = .ok (.aload_n 0, 1) := by decide +kernel
theorem dX8_least_72 : decode cX8_least 72 = .ok (.getfield 34, 3) := by decide +kernel
theorem dX8_least_75 : decode cX8_least 75 = .ok (.iload_n 1, 1) := by decide +kernel
theorem dX8_least_76 : decode cX8_least 76 = .ok (.invokevirtual 211, 3) := by decide +kernel
theorem dX8_least_79 : decode cX8_least 79 = .ok (.ifCond .eq 6, 3) := by decide +kernel
theorem dX8_least_82 : decode cX8_least 82 = .ok (.iload 4, 2) := by decide +kernel
theorem dX8_least_84 : decode cX8_least 84 = .ok (.ireturn, 1) := by decide +kernel
theorem dX8_least_85 : decode cX8_least 85 = .ok (.iinc 4 1, 3) := by decide +kernel
theorem dX8_least_88 : decode cX8_least 88 = .ok (.goto (-53), 3) := by decide +kernel
theorem dX8_least_91 : decode cX8_least 91 = .ok (.bipush (-9), 2) := by decide +kernel
theorem dX8_least_93 : decode cX8_least 93 = .ok (.ireturn, 1) := by decide +kernel
theorem dX8_round_0 : decode cX8_round 0 = .ok (.iload_n 1, 1) := by decide +kernel
theorem dX8_round_1 : decode cX8_round 1 = .ok (.ifCond .lt 19, 3) := by decide +kernel
theorem dX8_round_4 : decode cX8_round 4 = .ok (.iload_n 1, 1) := by decide +kernel
theorem dX8_round_5 : decode cX8_round 5 = .ok (.iconst 4, 1) := by decide +kernel
theorem dX8_round_6 : decode cX8_round 6 = .ok (.if_icmp .gt 14, 3) := by decide +kernel
theorem dX8_round_9 : decode cX8_round 9 = .ok (.aload_n 0, 1) := by decide +kernel
theorem dX8_round_10 : decode cX8_round 10 = .ok (.getfield 14, 3) := by decide +kernel
theorem dX8_round_13 : decode cX8_round 13 = .ok (.iload_n 2, 1) := by decide +kernel
theorem dX8_round_14 : decode cX8_round 14 = .ok (.invokevirtual 124, 3) := by decide +kernel
theorem dX8_round_17 : decode cX8_round 17 = .ok (.ifCond .ne 5, 3) := by decide +kernel
theorem dX8_round_20 : decode cX8_round 20 = .ok (.iconst (-1), 1) := by decide +kernel
theorem dX8_round_21 : decode cX8_round 21 = .ok (.ireturn, 1) := by decide +kernel
theorem dX8_round_22 : decode cX8_round 22 = .ok (.aload_n 0, 1) := by decide +kernel
theorem dX8_round_23 : decode cX8_round 23 = .ok (.getfield 31, 3) := by decide +kernel
theorem dX8_round_26 : decode cX8_round 26 = .ok (.getfield 158, 3) := by decide +kernel
theorem dX8_round_29 : decode cX8_round 29 = .ok (.ifCond .ne 6, 3) := by decide +kernel
theorem dX8_round_32 : decode cX8_round 32 = .ok (.bipush (-4), 2) := by decide +kernel
theorem dX8_round_34 : decode cX8_round 34 = .ok (.ireturn, 1) := by decide +kernel
theorem dX8_round_35 : decode cX8_round 35 = .ok (.aload_n 0, 1) := by decide +kernel
theorem dX8_round_36 : decode cX8_round 36 = .ok (.getfield 55, 3) := by decide +kernel
theorem dX8_round_39 : decode cX8_round 39 = .ok (.aload_n 0, 1) := by decide +kernel
theorem dX8_round_40 : decode cX8_round 40 = .ok (.getfield 31, 3) := by decide +kernel
theorem dX8_round_43 : decode cX8_round 43 = .ok (.iload_n 1, 1) := by decide +kernel
theorem dX8_round_44 : decode cX8_round 44 = .ok (.invokevirtual 217, 3) := by decide +kernel
theorem dX8_round_47 : decode cX8_round 47 = .ok (.istore_n 3, 1) := by decide +kernel
theorem dX8_round_48 : decode cX8_round 48 = .ok (.aload_n 0, 1) := by decide +kernel
theorem dX8_round_49 : decode cX8_round 49 = .ok (.getfield 14, 3) := by decide +kernel
theorem dX8_round_52 : decode cX8_round 52 = .ok (.iload_n 2, 1) := by decide +kernel
theorem dX8_round_53 : decode cX8_round 53 = .ok (.iload_n 1, 1) := by decide +kernel
theorem dX8_round_54 : decode cX8_round 54 = .ok (.aload_n 0, 1) := by decide +kernel
theorem dX8_round_55 : decode cX8_round 55 = .ok (.getfield 55, 3) := by decide +kernel
theorem dX8_round_58 : decode cX8_round 58 = .ok (.getfield 221, 3) := by decide +kernel
theorem dX8_round_61 : decode cX8_round 61 = .ok (.invokevirtual 197, 3) := by decide +kernel
theorem dX8_round_64 : decode cX8_round 64 = .ok (.iload_n 3, 1) := by decide +kernel
theorem dX8_round_65 : decode cX8_round 65 = .ok (.ireturn, 1) := by decide +kernel
theorem dX8_brings_0 : decode cX8_brings 0 = .ok (.aload_n 0, 1) := by decide +kernel
theorem dX8_brings_1 : decode cX8_brings 1 = .ok (.getfield 14, 3) := by decide +kernel
theorem dX8_brings_4 : decode cX8_brings 4 = .ok (.iload_n 1, 1) := by decide +kernel
theorem dX8_brings_5 : decode cX8_brings 5 = .ok (.invokevirtual 124, 3) := by decide +kernel
theorem dX8_brings_8 : decode cX8_brings 8 = .ok (.ifCond .ne 5, 3) := by decide +kernel
theorem dX8_brings_11 : decode cX8_brings 11 = .ok (.iconst (-1), 1) := by decide +kernel
theorem dX8_brings_12 : decode cX8_brings 12 = .ok (.ireturn, 1) := by decide +kernel
theorem dX8_brings_13 : decode cX8_brings 13 = .ok (.aload_n 0, 1) := by decide +kernel
theorem dX8_brings_14 : decode cX8_brings 14 = .ok (.getfield 31, 3) := by decide +kernel
theorem dX8_brings_17 : decode cX8_brings 17 = .ok (.getfield 158, 3) := by decide +kernel
theorem dX8_brings_20 : decode cX8_brings 20 = .ok (.ifCond .ne 6, 3) := by decide +kernel
theorem dX8_brings_23 : decode cX8_brings 23 = .ok (.bipush (-4), 2) := by decide +kernel
theorem dX8_brings_25 : decode cX8_brings 25 = .ok (.ireturn, 1) := by decide +kernel
theorem dX8_brings_26 : decode cX8_brings 26 = .ok (.aload_n 0, 1) := by decide +kernel
theorem dX8_brings_27 : decode cX8_brings 27 = .ok (.getfield 14, 3) := by decide +kernel
theorem dX8_brings_30 : decode cX8_brings 30 = .ok (.iload_n 1, 1) := by decide +kernel
theorem dX8_brings_31 : decode cX8_brings 31 = .ok (.invokevirtual 131, 3) := by decide +kernel
theorem dX8_brings_34 : decode cX8_brings 34 = .ok (.ifCond .ne 9, 3) := by decide +kernel
theorem dX8_brings_37 : decode cX8_brings 37 = .ok (.aload_n 0, 1) := by decide +kernel
theorem dX8_brings_38 : decode cX8_brings 38 = .ok (.iconst 1, 1) := by decide +kernel
theorem dX8_brings_39 : decode cX8_brings 39 = .ok (.invokevirtual 128, 3) := by decide +kernel
theorem dX8_brings_42 : decode cX8_brings 42 = .ok (.ireturn, 1) := by decide +kernel
theorem dX8_brings_43 : decode cX8_brings 43 = .ok (.aload_n 0, 1) := by decide +kernel
theorem dX8_brings_44 : decode cX8_brings 44 = .ok (.getfield 14, 3) := by decide +kernel
theorem dX8_brings_47 : decode cX8_brings 47 = .ok (.iload_n 1, 1) := by decide +kernel
theorem dX8_brings_48 : decode cX8_brings 48 = .ok (.invokevirtual 142, 3) := by decide +kernel
theorem dX8_brings_51 : decode cX8_brings 51 = .ok (.bipush 10, 2) := by decide +kernel
theorem dX8_brings_53 : decode cX8_brings 53 = .ok (.if_icmp .le 9, 3) := by decide +kernel
theorem dX8_brings_56 : decode cX8_brings 56 = .ok (.aload_n 0, 1) := by decide +kernel
theorem dX8_brings_57 : decode cX8_brings 57 = .ok (.iconst 5, 1) := by decide +kernel
theorem dX8_brings_58 : decode cX8_brings 58 = .ok (.invokevirtual 128, 3) := by decide +kernel
theorem dX8_brings_61 : decode cX8_brings 61 = .ok (.ireturn, 1) := by decide +kernel
theorem dX8_brings_62 : decode cX8_brings 62 = .ok (.aload_n 0, 1) := by decide +kernel
theorem dX8_brings_63 : decode cX8_brings 63 = .ok (.iload_n 1, 1) := by decide +kernel
theorem dX8_brings_64 : decode cX8_brings 64 = .ok (.invokevirtual 224, 3) := by decide +kernel
theorem dX8_brings_67 : decode cX8_brings 67 = .ok (.ifCond .ne 9, 3) := by decide +kernel
theorem dX8_brings_70 : decode cX8_brings 70 = .ok (.aload_n 0, 1) := by decide +kernel
theorem dX8_brings_71 : decode cX8_brings 71 = .ok (.iconst 3, 1) := by decide +kernel
theorem dX8_brings_72 : decode cX8_brings 72 = .ok (.invokevirtual 128, 3) := by decide +kernel
theorem dX8_brings_75 : decode cX8_brings 75 = .ok (.ireturn, 1) := by decide +kernel
theorem dX8_brings_76 : decode cX8_brings 76 = .ok (.aload_n 0, 1) := by decide +kernel
theorem dX8_brings_77 : decode cX8_brings 77 = .ok (.getfield 34, 3) := by decide +kernel
theorem dX8_brings_80 : decode cX8_brings 80 = .ok (.aload_n 0, 1) := by decide +kernel
theorem dX8_brings_81 : decode cX8_brings 81 = .ok (.getfield 31, 3) := by decide +kernel
theorem dX8_brings_84 : decode cX8_brings 84 = .ok (.invokevirtual 151, 3) := by decide +kernel
theorem dX8_brings_87 : decode cX8_brings 87 = .ok (.iconst 0, 1) := by decide +kernel
theorem dX8_brings_88 : decode cX8_brings 88 = .ok (.istore_n 2, 1) := by decide +kernel
theorem dX8_brings_89 : decode cX8_brings 89 = .ok (.iconst 0, 1) := by decide +kernel
theorem dX8_brings_90 : decode cX8_brings 90 = .ok (.istore_n 3, 1) := by decide +kernel
theorem dX8_brings_91 : decode cX8_brings 91 = .ok (.iload_n 3, 1) := by decide +kernel
theorem dX8_brings_92 : decode cX8_brings 92 = .ok (.aload_n 0, 1) := by decide +kernel
theorem dX8_brings_93 : decode cX8_brings 93 = .ok (.getfield 14, 3) := by decide +kernel
theorem dX8_brings_96 : decode cX8_brings 96 = .ok (.iload_n 1, 1) := by decide +kernel
theorem dX8_brings_97 : decode cX8_brings 97 = .ok (.invokevirtual 142, 3) := by decide +kernel
theorem dX8_brings_100 : decode cX8_brings 100 = .ok (.if_icmp .ge 36, 3) := by decide +kernel
theorem dX8_brings_103 : decode cX8_brings 103 = .ok (.aload_n 0, 1) := by decide +kernel
theorem dX8_brings_104 : decode cX8_brings 104 = .ok (.getfield 34, 3) := by decide +kernel
theorem dX8_brings_107 : decode cX8_brings 107 = .ok (.invokevirtual 227, 3) := by decide +kernel
theorem dX8_brings_110 : decode cX8_brings 110 = .ok (.pop, 1) := by decide +kernel
theorem dX8_brings_111 : decode cX8_brings 111 = .ok (.iload_n 2, 1) := by decide +kernel
theorem dX8_brings_112 : decode cX8_brings 112 = .ok (.aload_n 0, 1) := by decide +kernel
theorem dX8_brings_113 : decode cX8_brings 113 = .ok (.getfield 34, 3) := by decide +kernel
theorem dX8_brings_116 : decode cX8_brings 116 = .ok (.aload_n 0, 1) := by decide +kernel
theorem dX8_brings_117 : decode cX8_brings 117 = .ok (.getfield 14, 3) := by decide +kernel
theorem dX8_brings_120 : decode cX8_brings 120 = .ok (.iload_n 1, 1) := by decide +kernel
theorem dX8_brings_121 : decode cX8_brings 121 = .ok (.iload_n 3, 1) := by decide +kernel
theorem dX8_brings_122 : decode cX8_brings 122 = .ok (.invokevirtual 104, 3) := by decide +kernel
theorem dX8_brings_125 : decode cX8_brings 125 = .ok (.invokevirtual 231, 3) := by decide +kernel
theorem dX8_brings_128 : decode cX8_brings 128 = .ok (.iadd, 1) := by decide +kernel
theorem dX8_brings_129 : decode cX8_brings 129 = .ok (.istore_n 2, 1) := by decide +kernel
theorem dX8_brings_130 : decode cX8_brings 130 = .ok (.iinc 3 1, 3) := by decide +kernel
theorem dX8_brings_133 : decode cX8_brings 133 = .ok (.goto (-42), 3) := by decide +kernel
theorem dX8_brings_136 : decode cX8_brings 136 = .ok (.aload_n 0, 1) := by decide +kernel
theorem dX8_brings_137 : decode cX8_brings 137 = .ok (.aload_n 0, 1) := by decide +kernel
theorem dX8_brings_138 : decode cX8_brings 138 = .ok (.getfield 34, 3) := by decide +kernel
theorem dX8_brings_141 : decode cX8_brings 141 = .ok (.invokevirtual 234, 3) := by decide +kernel
theorem dX8_brings_144 : decode cX8_brings 144 = .ok (.aload_n 0, 1) := by decide +kernel
theorem dX8_brings_145 : decode cX8_brings 145 = .ok (.getfield 31, 3) := by decide +kernel
theorem dX8_brings_148 : decode cX8_brings 148 = .ok (.invokevirtual 234, 3) := by decide +kernel
theorem dX8_brings_151 : decode cX8_brings 151 = .ok (.isub, 1) := by decide +kernel
theorem dX8_brings_152 : decode cX8_brings 152 = .ok (.putfield 80, 3) := by decide +kernel
theorem dX8_brings_155 : decode cX8_brings 155 = .ok (.iload_n 2, 1) := by decide +kernel
theorem dX8_brings_156 : decode cX8_brings 156 = .ok (.ireturn, 1) := by decide +kernel
theorem dX8_marry_0 : decode cX8_marry 0 = .ok (.aload_n 0, 1) := by decide +kernel
theorem dX8_marry_1 : decode cX8_marry 1 = .ok (.getfield 14, 3) := by decide +kernel
theorem dX8_marry_4 : decode cX8_marry 4 = .ok (.iload_n 1, 1) := by decide +kernel
theorem dX8_marry_5 : decode cX8_marry 5 = .ok (.invokevirtual 124, 3) := by decide +kernel
theorem dX8_marry_8 : decode cX8_marry 8 = .ok (.ifCond .ne 5, 3) := by decide +kernel
theorem dX8_marry_11 : decode cX8_marry 11 = .ok (.iconst (-1), 1) := by decide +kernel
theorem dX8_marry_12 : decode cX8_marry 12 = .ok (.ireturn, 1) := by decide +kernel
theorem dX8_marry_13 : decode cX8_marry 13 = .ok (.aload_n 0, 1) := by decide +kernel
theorem dX8_marry_14 : decode cX8_marry 14 = .ok (.getfield 31, 3) := by decide +kernel
theorem dX8_marry_17 : decode cX8_marry 17 = .ok (.getfield 158, 3) := by decide +kernel
theorem dX8_marry_20 : decode cX8_marry 20 = .ok (.ifCond .ne 6, 3) := by decide +kernel
theorem dX8_marry_23 : decode cX8_marry 23 = .ok (.bipush (-4), 2) := by decide +kernel
theorem dX8_marry_25 : decode cX8_marry 25 = .ok (.ireturn, 1) := by decide +kernel
theorem dX8_marry_26 : decode cX8_marry 26 = .ok (.aload_n 0, 1) := by decide +kernel
theorem dX8_marry_27 : decode cX8_marry 27 = .ok (.getfield 62, 3) := by decide +kernel
theorem dX8_marry_30 : decode cX8_marry 30 = .ok (.aload_n 0, 1) := by decide +kernel
theorem dX8_marry_31 : decode cX8_marry 31 = .ok (.getfield 31, 3) := by decide +kernel
theorem dX8_marry_34 : decode cX8_marry 34 = .ok (.invokevirtual 237, 3) := by decide +kernel
theorem dX8_marry_37 : decode cX8_marry 37 = .ok (.istore_n 2, 1) := by decide +kernel
theorem dX8_marry_38 : decode cX8_marry 38 = .ok (.aload_n 0, 1) := by decide +kernel
theorem dX8_marry_39 : decode cX8_marry 39 = .ok (.getfield 14, 3) := by decide +kernel
theorem dX8_marry_42 : decode cX8_marry 42 = .ok (.iload_n 1, 1) := by decide +kernel
theorem dX8_marry_43 : decode cX8_marry 43 = .ok (.aload_n 0, 1) := by decide +kernel
theorem dX8_marry_44 : decode cX8_marry 44 = .ok (.getfield 31, 3) := by decide +kernel
theorem dX8_marry_47 : decode cX8_marry 47 = .ok (.getfield 158, 3) := by decide +kernel
theorem dX8_marry_50 : decode cX8_marry 50 = .ok (.aload_n 0, 1) := by decide +kernel
theorem dX8_marry_51 : decode cX8_marry 51 = .ok (.getfield 62, 3) := by decide +kernel
theorem dX8_marry_54 : decode cX8_marry 54 = .ok (.getfield 241, 3) := by decide +kernel
theorem dX8_marry_57 : decode cX8_marry 57 = .ok (.invokevirtual 197, 3) := by decide +kernel
theorem dX8_marry_60 : decode cX8_marry 60 = .ok (.iload_n 2, 1) := by decide +kernel
theorem dX8_marry_61 : decode cX8_marry 61 = .ok (.ireturn, 1) := by decide +kernel
theorem dX8_thicks_0 : decode cX8_thicks 0 = .ok (.aload_n 0, 1) := by decide +kernel
theorem dX8_thicks_1 : decode cX8_thicks 1 = .ok (.iload_n 1, 1) := by decide +kernel
theorem dX8_thicks_2 : decode cX8_thicks 2 = .ok (.iload_n 2, 1) := by decide +kernel
theorem dX8_thicks_3 : decode cX8_thicks 3 = .ok (.invokevirtual 245, 3) := by decide +kernel
theorem dX8_thicks_6 : decode cX8_thicks 6 = .ok (.istore_n 3, 1) := by decide +kernel
theorem dX8_thicks_7 : decode cX8_thicks 7 = .ok (.iload_n 3, 1) := by decide +kernel
theorem dX8_thicks_8 : decode cX8_thicks 8 = .ok (.ifCond .eq 7, 3) := by decide +kernel
theorem dX8_thicks_11 : decode cX8_thicks 11 = .ok (.iload_n 3, 1) := by decide +kernel
theorem dX8_thicks_12 : decode cX8_thicks 12 = .ok (.goto 23, 3) := by decide +kernel
theorem dX8_thicks_15 : decode cX8_thicks 15 = .ok (.aload_n 0, 1) := by decide +kernel
theorem dX8_thicks_16 : decode cX8_thicks 16 = .ok (.getfield 69, 3) := by decide +kernel
theorem dX8_thicks_19 : decode cX8_thicks 19 = .ok (.aload_n 0, 1) := by decide +kernel
theorem dX8_thicks_20 : decode cX8_thicks 20 = .ok (.getfield 31, 3) := by decide +kernel
theorem dX8_thicks_23 : decode cX8_thicks 23 = .ok (.iload_n 1, 1) := by decide +kernel
theorem dX8_thicks_24 : decode cX8_thicks 24 = .ok (.aload_n 0, 1) := by decide +kernel
theorem dX8_thicks_25 : decode cX8_thicks 25 = .ok (.getfield 31, 3) := by decide +kernel
theorem dX8_thicks_28 : decode cX8_thicks 28 = .ok (.iload_n 1, 1) := by decide +kernel
theorem dX8_thicks_29 : decode cX8_thicks 29 = .ok (.invokevirtual 167, 3) := by decide +kernel
theorem dX8_thicks_32 : decode cX8_thicks 32 = .ok (.invokevirtual 248, 3) := by decide +kernel
theorem dX8_thicks_35 : decode cX8_thicks 35 = .ok (.ireturn, 1) := by decide +kernel
theorem dX8_kinds_0 : decode cX8_kinds 0 = .ok (.aload_n 0, 1) := by decide +kernel
theorem dX8_kinds_1 : decode cX8_kinds 1 = .ok (.iload_n 1, 1) := by decide +kernel
theorem dX8_kinds_2 : decode cX8_kinds 2 = .ok (.iload_n 2, 1) := by decide +kernel
theorem dX8_kinds_3 : decode cX8_kinds 3 = .ok (.invokevirtual 245, 3) := by decide +kernel
theorem dX8_kinds_6 : decode cX8_kinds 6 = .ok (.istore_n 3, 1) := by decide +kernel
theorem dX8_kinds_7 : decode cX8_kinds 7 = .ok (.iload_n 3, 1) := by decide +kernel
theorem dX8_kinds_8 : decode cX8_kinds 8 = .ok (.ifCond .eq 7, 3) := by decide +kernel
theorem dX8_kinds_11 : decode cX8_kinds 11 = .ok (.iload_n 3, 1) := by decide +kernel
theorem dX8_kinds_12 : decode cX8_kinds 12 = .ok (.goto 23, 3) := by decide +kernel
theorem dX8_kinds_15 : decode cX8_kinds 15 = .ok (.aload_n 0, 1) := by decide +kernel
theorem dX8_kinds_16 : decode cX8_kinds 16 = .ok (.getfield 69, 3) := by decide +kernel
theorem dX8_kinds_19 : decode cX8_kinds 19 = .ok (.aload_n 0, 1) := by decide +kernel
theorem dX8_kinds_20 : decode cX8_kinds 20 = .ok (.getfield 31, 3) := by decide +kernel
theorem dX8_kinds_23 : decode cX8_kinds 23 = .ok (.iload_n 1, 1) := by decide +kernel
theorem dX8_kinds_24 : decode cX8_kinds 24 = .ok (.aload_n 0, 1) := by decide +kernel
theorem dX8_kinds_25 : decode cX8_kinds 25 = .ok (.getfield 31, 3) := by decide +kernel
theorem dX8_kinds_28 : decode cX8_kinds 28 = .ok (.iload_n 1, 1) := by decide +kernel
theorem dX8_kinds_29 : decode cX8_kinds 29 = .ok (.invokevirtual 174, 3) := by decide +kernel
theorem dX8_kinds_32 : decode cX8_kinds 32 = .ok (.invokevirtual 252, 3) := by decide +kernel
theorem dX8_kinds_35 : decode cX8_kinds 35 = .ok (.ireturn, 1) := by decide +kernel
theorem dX8_test_0 : decode cX8_test 0 = .ok (.aload_n 0, 1) := by decide +kernel
theorem dX8_test_1 : decode cX8_test 1 = .ok (.iload_n 1, 1) := by decide +kernel
theorem dX8_test_2 : decode cX8_test 2 = .ok (.iload_n 2, 1) := by decide +kernel
theorem dX8_test_3 : decode cX8_test 3 = .ok (.invokevirtual 245, 3) := by decide +kernel
theorem dX8_test_6 : decode cX8_test 6 = .ok (.istore_n 3, 1) := by decide +kernel
theorem dX8_test_7 : decode cX8_test 7 = .ok (.iload_n 3, 1) := by decide +kernel
theorem dX8_test_8 : decode cX8_test 8 = .ok (.ifCond .eq 5, 3) := by decide +kernel
theorem dX8_test_11 : decode cX8_test 11 = .ok (.iload_n 3, 1) := by decide +kernel
theorem dX8_test_12 : decode cX8_test 12 = .ok (.ireturn, 1) := by decide +kernel
theorem dX8_test_13 : decode cX8_test 13 = .ok (.aload_n 0, 1) := by decide +kernel
theorem dX8_test_14 : decode cX8_test 14 = .ok (.getfield 69, 3) := by decide +kernel
theorem dX8_test_17 : decode cX8_test 17 = .ok (.aload_n 0, 1) := by decide +kernel
theorem dX8_test_18 : decode cX8_test 18 = .ok (.getfield 31, 3) := by decide +kernel
theorem dX8_test_21 : decode cX8_test 21 = .ok (.iload_n 1, 1) := by decide +kernel
theorem dX8_test_22 : decode cX8_test 22 = .ok (.invokevirtual 255, 3) := by decide +kernel
theorem dX8_test_25 : decode cX8_test 25 = .ok (.istore 4, 2) := by decide +kernel
theorem dX8_test_27 : decode cX8_test 27 = .ok (.iload 4, 2) := by decide +kernel
theorem dX8_test_29 : decode cX8_test 29 = .ok (.bipush (-9), 2) := by decide +kernel
theorem dX8_test_31 : decode cX8_test 31 = .ok (.if_icmp .eq 14, 3) := by decide +kernel
theorem dX8_test_34 : decode cX8_test 34 = .ok (.aload_n 0, 1) := by decide +kernel
theorem dX8_test_35 : decode cX8_test 35 = .ok (.aload_n 0, 1) := by decide +kernel
theorem dX8_test_36 : decode cX8_test 36 = .ok (.getfield 69, 3) := by decide +kernel
theorem dX8_test_39 : decode cX8_test 39 = .ok (.getfield 258, 3) := by decide +kernel
theorem dX8_test_42 : decode cX8_test 42 = .ok (.putfield 80, 3) := by decide +kernel
theorem dX8_test_45 : decode cX8_test 45 = .ok (.iload 4, 2) := by decide +kernel
theorem dX8_test_47 : decode cX8_test 47 = .ok (.ireturn, 1) := by decide +kernel
