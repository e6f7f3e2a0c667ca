theorem dX8_row_0 : decode cX8_row 0 = .ok (.aload_n 0, 1) := by decide +kernel
theorem dX8_row_1 : decode cX8_row 1 = .ok (.aload_n 0, 1) := by decide +kernel
theorem dX8_row_2 : decode cX8_row 2 = .ok (.getfield 14, 3) := by decide +kernel
theorem dX8_row_5 : decode cX8_row 5 = .ok (.iload_n 1, 1) := by decide +kernel
theorem dX8_row_6 : decode cX8_row 6 = .ok (.iload_n 2, 1) := by decide +kernel
theorem dX8_row_7 : decode cX8_row 7 = .ok (.iconst 0, 1) := by decide +kernel
theorem dX8_row_8 : decode cX8_row 8 = .ok (.invokevirtual 96, 3) := by decide +kernel
theorem dX8_row_11 : decode cX8_row 11 = .ok (.ireturn, 1) := by decide +kernel
theorem dX8_lay_0 : decode cX8_lay 0 = .ok (.aload_n 0, 1) := by decide +kernel
theorem dX8_lay_1 : decode cX8_lay 1 = .ok (.aload_n 0, 1) := by decide +kernel
theorem dX8_lay_2 : decode cX8_lay 2 = .ok (.getfield 14, 3) := by decide +kernel
theorem dX8_lay_5 : decode cX8_lay 5 = .ok (.iload_n 1, 1) := by decide +kernel
theorem dX8_lay_6 : decode cX8_lay 6 = .ok (.iload_n 2, 1) := by decide +kernel
theorem dX8_lay_7 : decode cX8_lay 7 = .ok (.invokevirtual 100, 3) := by decide +kernel
theorem dX8_lay_10 : decode cX8_lay 10 = .ok (.istore 4, 2) := by decide +kernel
theorem dX8_lay_12 : decode cX8_lay 12 = .ok (.iload 4, 2) := by decide +kernel
theorem dX8_lay_14 : decode cX8_lay 14 = .ok (.ifCond .eq 6, 3) := by decide +kernel
theorem dX8_lay_17 : decode cX8_lay 17 = .ok (.iload 4, 2) := by decide +kernel
theorem dX8_lay_19 : decode cX8_lay 19 = .ok (.ireturn, 1) := by decide +kernel
theorem dX8_lay_20 : decode cX8_lay 20 = .ok (.aload_n 0, 1) := by decide +kernel
theorem dX8_lay_21 : decode cX8_lay 21 = .ok (.getfield 14, 3) := by decide +kernel
theorem dX8_lay_24 : decode cX8_lay 24 = .ok (.iload_n 1, 1) := by decide +kernel
theorem dX8_lay_25 : decode cX8_lay 25 = .ok (.iload_n 2, 1) := by decide +kernel
theorem dX8_lay_26 : decode cX8_lay 26 = .ok (.invokevirtual 104, 3) := by decide +kernel
theorem dX8_lay_29 : decode cX8_lay 29 = .ok (.istore 5, 2) := by decide +kernel
theorem dX8_lay_31 : decode cX8_lay 31 = .ok (.aload_n 0, 1) := by decide +kernel
theorem dX8_lay_32 : decode cX8_lay 32 = .ok (.getfield 14, 3) := by decide +kernel
theorem dX8_lay_35 : decode cX8_lay 35 = .ok (.iload_n 1, 1) := by decide +kernel
theorem dX8_lay_36 : decode cX8_lay 36 = .ok (.iload_n 2, 1) := by decide +kernel
theorem dX8_lay_37 : decode cX8_lay 37 = .ok (.iload_n 3, 1) := by decide +kernel
theorem dX8_lay_38 : decode cX8_lay 38 = .ok (.invokevirtual 108, 3) := by decide +kernel
theorem dX8_lay_41 : decode cX8_lay 41 = .ok (.aload_n 0, 1) := by decide +kernel
theorem dX8_lay_42 : decode cX8_lay 42 = .ok (.iload 5, 2) := by decide +kernel
theorem dX8_lay_44 : decode cX8_lay 44 = .ok (.invokevirtual 112, 3) := by decide +kernel
theorem dX8_lay_47 : decode cX8_lay 47 = .ok (.ireturn, 1) := by decide +kernel
theorem dX8_at_0 : decode cX8_at 0 = .ok (.aload_n 0, 1) := by decide +kernel
theorem dX8_at_1 : decode cX8_at 1 = .ok (.aload_n 0, 1) := by decide +kernel
theorem dX8_at_2 : decode cX8_at 2 = .ok (.getfield 14, 3) := by decide +kernel
theorem dX8_at_5 : decode cX8_at 5 = .ok (.iload_n 1, 1) := by decide +kernel
theorem dX8_at_6 : decode cX8_at 6 = .ok (.iload_n 2, 1) := by decide +kernel
theorem dX8_at_7 : decode cX8_at 7 = .ok (.invokevirtual 100, 3) := by decide +kernel
theorem dX8_at_10 : decode cX8_at 10 = .ok (.istore_n 3, 1) := by decide +kernel
theorem dX8_at_11 : decode cX8_at 11 = .ok (.iload_n 3, 1) := by decide +kernel
theorem dX8_at_12 : decode cX8_at 12 = .ok (.ifCond .eq 7, 3) := by decide +kernel
theorem dX8_at_15 : decode cX8_at 15 = .ok (.iload_n 3, 1) := by decide +kernel
theorem dX8_at_16 : decode cX8_at 16 = .ok (.goto 16, 3) := by decide +kernel
theorem dX8_at_19 : decode cX8_at 19 = .ok (.aload_n 0, 1) := by decide +kernel
theorem dX8_at_20 : decode cX8_at 20 = .ok (.aload_n 0, 1) := by decide +kernel
theorem dX8_at_21 : decode cX8_at 21 = .ok (.getfield 14, 3) := by decide +kernel
theorem dX8_at_24 : decode cX8_at 24 = .ok (.iload_n 1, 1) := by decide +kernel
theorem dX8_at_25 : decode cX8_at 25 = .ok (.iload_n 2, 1) := by decide +kernel
theorem dX8_at_26 : decode cX8_at 26 = .ok (.invokevirtual 104, 3) := by decide +kernel
theorem dX8_at_29 : decode cX8_at 29 = .ok (.invokevirtual 112, 3) := by decide +kernel
theorem dX8_at_32 : decode cX8_at 32 = .ok (.ireturn, 1) := by decide +kernel
theorem dX8_tear_0 : decode cX8_tear 0 = .ok (.aload_n 0, 1) := by decide +kernel
theorem dX8_tear_1 : decode cX8_tear 1 = .ok (.aload_n 0, 1) := by decide +kernel
theorem dX8_tear_2 : decode cX8_tear 2 = .ok (.getfield 14, 3) := by decide +kernel
theorem dX8_tear_5 : decode cX8_tear 5 = .ok (.iload_n 1, 1) := by decide +kernel
theorem dX8_tear_6 : decode cX8_tear 6 = .ok (.invokevirtual 116, 3) := by decide +kernel
theorem dX8_tear_9 : decode cX8_tear 9 = .ok (.istore_n 2, 1) := by decide +kernel
theorem dX8_tear_10 : decode cX8_tear 10 = .ok (.iload_n 2, 1) := by decide +kernel
theorem dX8_tear_11 : decode cX8_tear 11 = .ok (.ifCond .eq 5, 3) := by decide +kernel
theorem dX8_tear_14 : decode cX8_tear 14 = .ok (.iload_n 2, 1) := by decide +kernel
theorem dX8_tear_15 : decode cX8_tear 15 = .ok (.ireturn, 1) := by decide +kernel
theorem dX8_tear_16 : decode cX8_tear 16 = .ok (.aload_n 0, 1) := by decide +kernel
theorem dX8_tear_17 : decode cX8_tear 17 = .ok (.getfield 14, 3) := by decide +kernel
theorem dX8_tear_20 : decode cX8_tear 20 = .ok (.iload_n 1, 1) := by decide +kernel
theorem dX8_tear_21 : decode cX8_tear 21 = .ok (.invokevirtual 120, 3) := by decide +kernel
theorem dX8_tear_24 : decode cX8_tear 24 = .ok (.iconst 1, 1) := by decide +kernel
theorem dX8_tear_25 : decode cX8_tear 25 = .ok (.ireturn, 1) := by decide +kernel
theorem dX8_copy_0 : decode cX8_copy 0 = .ok (.aload_n 0, 1) := by decide +kernel
theorem dX8_copy_1 : decode cX8_copy 1 = .ok (.getfield 14, 3) := by decide +kernel
theorem dX8_copy_4 : decode cX8_copy 4 = .ok (.iload_n 1, 1) := by decide +kernel
theorem dX8_copy_5 : decode cX8_copy 5 = .ok (.invokevirtual 124, 3) := by decide +kernel
theorem dX8_copy_8 : decode cX8_copy 8 = .ok (.ifCond .eq 14, 3) := by decide +kernel
theorem dX8_copy_11 : decode cX8_copy 11 = .ok (.aload_n 0, 1) := by decide +kernel
theorem dX8_copy_12 : decode cX8_copy 12 = .ok (.getfield 14, 3) := by decide +kernel
theorem dX8_copy_15 : decode cX8_copy 15 = .ok (.iload_n 3, 1) := by decide +kernel
theorem dX8_copy_16 : decode cX8_copy 16 = .ok (.invokevirtual 124, 3) := by decide +kernel
theorem dX8_copy_19 : decode cX8_copy 19 = .ok (.ifCond .ne 5, 3) := by decide +kernel
theorem dX8_copy_22 : decode cX8_copy 22 = .ok (.iconst (-1), 1) := by decide +kernel
theorem dX8_copy_23 : decode cX8_copy 23 = .ok (.ireturn, 1) := by decide +kernel
theorem dX8_copy_24 : decode cX8_copy 24 = .ok (.iload 5, 2) := by decide +kernel
theorem dX8_copy_26 : decode cX8_copy 26 = .ok (.ifCond .ge 9, 3) := by decide +kernel
theorem dX8_copy_29 : decode cX8_copy 29 = .ok (.aload_n 0, 1) := by decide +kernel
theorem dX8_copy_30 : decode cX8_copy 30 = .ok (.iconst 5, 1) := by decide +kernel
theorem dX8_copy_31 : decode cX8_copy 31 = .ok (.invokevirtual 128, 3) := by decide +kernel
theorem dX8_copy_34 : decode cX8_copy 34 = .ok (.ireturn, 1) := by decide +kernel
theorem dX8_copy_35 : decode cX8_copy 35 = .ok (.aload_n 0, 1) := by decide +kernel
theorem dX8_copy_36 : decode cX8_copy 36 = .ok (.getfield 14, 3) := by decide +kernel
theorem dX8_copy_39 : decode cX8_copy 39 = .ok (.iload_n 1, 1) := by decide +kernel
theorem dX8_copy_40 : decode cX8_copy 40 = .ok (.invokevirtual 131, 3) := by decide +kernel
theorem dX8_copy_43 : decode cX8_copy 43 = .ok (.ifCond .eq 14, 3) := by decide +kernel
theorem dX8_copy_46 : decode cX8_copy 46 = .ok (.aload_n 0, 1) := by decide +kernel
theorem dX8_copy_47 : decode cX8_copy 47 = .ok (.getfield 14, 3) := by decide +kernel
theorem dX8_copy_50 : decode cX8_copy 50 = .ok (.iload_n 3, 1) := by decide +kernel
theorem dX8_copy_51 : decode cX8_copy 51 = .ok (.invokevirtual 131, 3) := by decide +kernel
theorem dX8_copy_54 : decode cX8_copy 54 = .ok (.ifCond .ne 9, 3) := by decide +kernel
theorem dX8_copy_57 : decode cX8_copy 57 = .ok (.aload_n 0, 1) := by decide +kernel
theorem dX8_copy_58 : decode cX8_copy 58 = .ok (.iconst 1, 1) := by decide +kernel
theorem dX8_copy_59 : decode cX8_copy 59 = .ok (.invokevirtual 128, 3) := by decide +kernel
theorem dX8_copy_62 : decode cX8_copy 62 = .ok (.ireturn, 1) := by decide +kernel
theorem dX8_copy_63 : decode cX8_copy 63 = .ok (.aload_n 0, 1) := by decide +kernel
theorem dX8_copy_64 : decode cX8_copy 64 = .ok (.getfield 14, 3) := by decide +kernel
theorem dX8_copy_67 : decode cX8_copy 67 = .ok (.iload_n 1, 1) := by decide +kernel
theorem dX8_copy_68 : decode cX8_copy 68 = .ok (.iload_n 2, 1) := by decide +kernel
theorem dX8_copy_69 : decode cX8_copy 69 = .ok (.iload 5, 2) := by decide +kernel
theorem dX8_copy_71 : decode cX8_copy 71 = .ok (.invokevirtual 134, 3) := by decide +kernel
theorem dX8_copy_74 : decode cX8_copy 74 = .ok (.ifCond .eq 18, 3) := by decide +kernel
theorem dX8_copy_77 : decode cX8_copy 77 = .ok (.aload_n 0, 1) := by decide +kernel
theorem dX8_copy_78 : decode cX8_copy 78 = .ok (.getfield 14, 3) := by decide +kernel
theorem dX8_copy_81 : decode cX8_copy 81 = .ok (.iload_n 3, 1) := by decide +kernel
theorem dX8_copy_82 : decode cX8_copy 82 = .ok (.iload 4, 2) := by decide +kernel
theorem dX8_copy_84 : decode cX8_copy 84 = .ok (.iload 5, 2) := by decide +kernel
theorem dX8_copy_86 : decode cX8_copy 86 = .ok (.invokevirtual 134, 3) := by decide +kernel
theorem dX8_copy_89 : decode cX8_copy 89 = .ok (.ifCond .ne 9, 3) := by decide +kernel
theorem dX8_copy_92 : decode cX8_copy 92 = .ok (.aload_n 0, 1) := by decide +kernel
theorem dX8_copy_93 : decode cX8_copy 93 = .ok (.iconst 2, 1) := by decide +kernel
theorem dX8_copy_94 : decode cX8_copy 94 = .ok (.invokevirtual 128, 3) := by decide +kernel
theorem dX8_copy_97 : decode cX8_copy 97 = .ok (.ireturn, 1) := by decide +kernel
theorem dX8_copy_98 : decode cX8_copy 98 = .ok (.aload_n 0, 1) := by decide +kernel
theorem dX8_copy_99 : decode cX8_copy 99 = .ok (.getfield 14, 3) := by decide +kernel
theorem dX8_copy_102 : decode cX8_copy 102 = .ok (.iload_n 1, 1) := by decide +kernel
theorem dX8_copy_103 : decode cX8_copy 103 = .ok (.iload_n 2, 1) := by decide +kernel
theorem dX8_copy_104 : decode cX8_copy 104 = .ok (.iload_n 3, 1) := by decide +kernel
theorem dX8_copy_105 : decode cX8_copy 105 = .ok (.iload 4, 2) := by decide +kernel
theorem dX8_copy_107 : decode cX8_copy 107 = .ok (.iload 5, 2) := by decide +kernel
theorem dX8_copy_109 : decode cX8_copy 109 = .ok (.invokevirtual 138, 3) := by decide +kernel
theorem dX8_copy_112 : decode cX8_copy 112 = .ok (.iconst 1, 1) := by decide +kernel
theorem dX8_copy_113 : decode cX8_copy 113 = .ok (.ireturn, 1) := by decide +kernel
theorem dX8_mean_0 : decode cX8_mean 0 = .ok (.aload_n 0, 1) := by decide +kernel
theorem dX8_mean_1 : decode cX8_mean 1 = .ok (.aload_n 0, 1) := by decide +kernel
theorem dX8_mean_2 : decode cX8_mean 2 = .ok (.getfield 14, 3) := by decide +kernel
theorem dX8_mean_5 : decode cX8_mean 5 = .ok (.iload_n 1, 1) := by decide +kernel
theorem dX8_mean_6 : decode cX8_mean 6 = .ok (.invokevirtual 116, 3) := by decide +kernel
theorem dX8_mean_9 : decode cX8_mean 9 = .ok (.istore_n 2, 1) := by decide +kernel
theorem dX8_mean_10 : decode cX8_mean 10 = .ok (.iload_n 2, 1) := by decide +kernel
theorem dX8_mean_11 : decode cX8_mean 11 = .ok (.ifCond .eq 5, 3) := by decide +kernel
theorem dX8_mean_14 : decode cX8_mean 14 = .ok (.iload_n 2, 1) := by decide +kernel
theorem dX8_mean_15 : decode cX8_mean 15 = .ok (.ireturn, 1) := by decide +kernel
theorem dX8_mean_16 : decode cX8_mean 16 = .ok (.aload_n 0, 1) := by decide +kernel
theorem dX8_mean_17 : decode cX8_mean 17 = .ok (.getfield 14, 3) := by decide +kernel
theorem dX8_mean_20 : decode cX8_mean 20 = .ok (.iload_n 1, 1) := by decide +kernel
theorem dX8_mean_21 : decode cX8_mean 21 = .ok (.invokevirtual 142, 3) := by decide +kernel
theorem dX8_mean_24 : decode cX8_mean 24 = .ok (.istore_n 3, 1) := by decide +kernel
theorem dX8_mean_25 : decode cX8_mean 25 = .ok (.iload_n 3, 1) := by decide +kernel
theorem dX8_mean_26 : decode cX8_mean 26 = .ok (.ifCond .gt 9, 3) := by decide +kernel
theorem dX8_mean_29 : decode cX8_mean 29 = .ok (.aload_n 0, 1) := by decide +kernel
theorem dX8_mean_30 : decode cX8_mean 30 = .ok (.iconst 4, 1) := by decide +kernel
theorem dX8_mean_31 : decode cX8_mean 31 = .ok (.invokevirtual 128, 3) := by decide +kernel
theorem dX8_mean_34 : decode cX8_mean 34 = .ok (.ireturn, 1) := by decide +kernel
theorem dX8_mean_35 : decode cX8_mean 35 = .ok (.lconst 0, 1) := by decide +kernel
theorem dX8_mean_36 : decode cX8_mean 36 = .ok (.lstore 4, 2) := by decide +kernel
theorem dX8_mean_38 : decode cX8_mean 38 = .ok (.iconst 0, 1) := by decide +kernel
theorem dX8_mean_39 : decode cX8_mean 39 = .ok (.istore 6, 2) := by decide +kernel
theorem dX8_mean_41 : decode cX8_mean 41 = .ok (.iload 6, 2) := by decide +kernel
theorem dX8_mean_43 : decode cX8_mean 43 = .ok (.iload_n 3, 1) := by decide +kernel
theorem dX8_mean_44 : decode cX8_mean 44 = .ok (.if_icmp .ge 25, 3) := by decide +kernel
theorem dX8_mean_47 : decode cX8_mean 47 = .ok (.lload 4, 2) := by decide +kernel
theorem dX8_mean_49 : decode cX8_mean 49 = .ok (.aload_n 0, 1) := by decide +kernel
theorem dX8_mean_50 : decode cX8_mean 50 = .ok (.getfield 14, 3) := by decide +kernel
theorem dX8_mean_53 : decode cX8_mean 53 = .ok (.iload_n 1, 1) := by decide +kernel
theorem dX8_mean_54 : decode cX8_mean 54 = .ok (.iload 6, 2) := by decide +kernel
theorem dX8_mean_56 : decode cX8_mean 56 = .ok (.invokevirtual 104, 3) := by decide +kernel
theorem dX8_mean_59 : decode cX8_mean 59 = .ok (.i2l, 1) := by decide +kernel
theorem dX8_mean_60 : decode cX8_mean 60 = .ok (.ladd, 1) := by decide +kernel
theorem dX8_mean_61 : decode cX8_mean 61 = .ok (.lstore 4, 2) := by decide +kernel
theorem dX8_mean_63 : decode cX8_mean 63 = .ok (.iinc 6 1, 3) := by decide +kernel
theorem dX8_mean_66 : decode cX8_mean 66 = .ok (.goto (-25), 3) := by decide +kernel
theorem dX8_mean_69 : decode cX8_mean 69 = .ok (.aload_n 0, 1) := by decide +kernel
theorem dX8_mean_70 : decode cX8_mean 70 = .ok (.lload 4, 2) := by decide +kernel
theorem dX8_mean_72 : decode cX8_mean 72 = .ok (.iload_n 3, 1) := by decide +kernel
theorem dX8_mean_73 : decode cX8_mean 73 = .ok (.i2l, 1) := by decide +kernel
theorem dX8_mean_74 : decode cX8_mean 74 = .ok (.ldiv, 1) := by decide +kernel
theorem dX8_mean_75 : decode cX8_mean 75 = .ok (.l2i, 1) := by decide +kernel
theorem dX8_mean_76 : decode cX8_mean 76 = .ok (.invokevirtual 112, 3) := by decide +kernel
theorem dX8_mean_79 : decode cX8_mean 79 = .ok (.ireturn, 1) := by decide +kernel
theorem dX8_text_0 : decode cX8_text 0 = .ok (.aload_n 0, 1) := by decide +kernel
theorem dX8_text_1 : decode cX8_text 1 = .ok (.aload_n 0, 1) := by decide +kernel
theorem dX8_text_2 : decode cX8_text 2 = .ok (.getfield 18, 3) := by decide +kernel
theorem dX8_text_5 : decode cX8_text 5 = .ok (.iload_n 1, 1) := by decide +kernel
theorem dX8_text_6 : decode cX8_text 6 = .ok (.iload_n 2, 1) := by decide +kernel
theorem dX8_text_7 : decode cX8_text 7 = .ok (.bipush 32, 2) := by decide +kernel
theorem dX8_text_9 : decode cX8_text 9 = .ok (.invokevirtual 96, 3) := by decide +kernel
theorem dX8_text_12 : decode cX8_text 12 = .ok (.ireturn, 1) := by decide +kernel
theorem dX8_put_0 : decode cX8_put 0 = .ok (.aload_n 0, 1) := by decide +kernel
theorem dX8_put_1 : decode cX8_put 1 = .ok (.aload_n 0, 1) := by decide +kernel
theorem dX8_put_2 : decode cX8_put 2 = .ok (.getfield 18, 3) := by decide +kernel
theorem dX8_put_5 : decode cX8_put 5 = .ok (.iload_n 1, 1) := by decide +kernel
theorem dX8_put_6 : decode cX8_put 6 = .ok (.iload_n 2, 1) := by decide +kernel
theorem dX8_put_7 : decode cX8_put 7 = .ok (.invokevirtual 100, 3) := by decide +kernel
theorem dX8_put_10 : decode cX8_put 10 = .ok (.istore 4, 2) := by decide +kernel
theorem dX8_put_12 : decode cX8_put 12 = .ok (.iload 4, 2) := by decide +kernel
theorem dX8_put_14 : decode cX8_put 14 = .ok (.ifCond .eq 6, 3) := by decide +kernel
theorem dX8_put_17 : decode cX8_put 17 = .ok (.iload 4, 2) := by decide +kernel
theorem dX8_put_19 : decode cX8_put 19 = .ok (.ireturn, 1) := by decide +kernel
theorem dX8_put_20 : decode cX8_put 20 = .ok (.aload_n 0, 1) := by decide +kernel
theorem dX8_put_21 : decode cX8_put 21 = .ok (.getfield 18, 3) := by decide +kernel
theorem dX8_put_24 : decode cX8_put 24 = .ok (.iload_n 1, 1) := by decide +kernel
theorem dX8_put_25 : decode cX8_put 25 = .ok (.iload_n 2, 1) := by decide +kernel
theorem dX8_put_26 : decode cX8_put 26 = .ok (.invokevirtual 104, 3) := by decide +kernel
theorem dX8_put_29 : decode cX8_put 29 = .ok (.istore 5, 2) := by decide +kernel
theorem dX8_put_31 : decode cX8_put 31 = .ok (.aload_n 0, 1) := by decide +kernel
theorem dX8_put_32 : decode cX8_put 32 = .ok (.getfield 18, 3) := by decide +kernel
theorem dX8_put_35 : decode cX8_put 35 = .ok (.iload_n 1, 1) := by decide +kernel
theorem dX8_put_36 : decode cX8_put 36 = .ok (.iload_n 2, 1) := by decide +kernel
theorem dX8_put_37 : decode cX8_put 37 = .ok (.iload_n 3, 1) := by decide +kernel
theorem dX8_put_38 : decode cX8_put 38 = .ok (.i2b, 1) := by decide +kernel
theorem dX8_put_39 : decode cX8_put 39 = .ok (.invokevirtual 108, 3) := by decide +kernel
theorem dX8_put_42 : decode cX8_put 42 = .ok (.iload 5, 2) := by decide +kernel
theorem dX8_put_44 : decode cX8_put 44 = .ok (.sipush 1000, 3) := by decide +kernel
theorem dX8_put_47 : decode cX8_put 47 = .ok (.iadd, 1) := by decide +kernel
theorem dX8_put_48 : decode cX8_put 48 = .ok (.ireturn, 1) := by decide +kernel
theorem dX8_fault_0 : decode cX8_fault 0 = .ok (.aload_n 0, 1) := by decide +kernel
theorem dX8_fault_1 : decode cX8_fault 1 = .ok (.aload_n 0, 1) := by decide +kernel
theorem dX8_fault_2 : decode cX8_fault 2 = .ok (.getfield 18, 3) := by decide +kernel
theorem dX8_fault_5 : decode cX8_fault 5 = .ok (.iload_n 1, 1) := by decide +kernel
theorem dX8_fault_6 : decode cX8_fault 6 = .ok (.invokevirtual 116, 3) := by decide +kernel
theorem dX8_fault_9 : decode cX8_fault 9 = .ok (.istore_n 2, 1) := by decide +kernel
theorem dX8_fault_10 : decode cX8_fault 10 = .ok (.iload_n 2, 1) := by decide +kernel
theorem dX8_fault_11 : decode cX8_fault 11 = .ok (.ifCond .eq 7, 3) := by decide +kernel
theorem dX8_fault_14 : decode cX8_fault 14 = .ok (.iload_n 2, 1) := by decide +kernel
theorem dX8_fault_15 : decode cX8_fault 15 = .ok (.goto 15, 3) := by decide +kernel
theorem dX8_fault_18 : decode cX8_fault 18 = .ok (.aload_n 0, 1) := by decide +kernel
theorem dX8_fault_19 : decode cX8_fault 19 = .ok (.getfield 48, 3) := by decide +kernel
theorem dX8_fault_22 : decode cX8_fault 22 = .ok (.aload_n 0, 1) := by decide +kernel
theorem dX8_fault_23 : decode cX8_fault 23 = .ok (.getfield 18, 3) := by decide +kernel
theorem dX8_fault_26 : decode cX8_fault 26 = .ok (.iload_n 1, 1) := by decide +kernel
theorem dX8_fault_27 : decode cX8_fault 27 = .ok (.invokevirtual 145, 3) := by decide +kernel
theorem dX8_fault_30 : decode cX8_fault 30 = .ok (.ireturn, 1) := by decide +kernel
theorem dX8_town_0 : decode cX8_town 0 = .ok (.aload_n 0, 1) := by decide +kernel
theorem dX8_town_1 : decode cX8_town 1 = .ok (.aload_n 0, 1) := by decide +kernel
theorem dX8_town_2 : decode cX8_town 2 = .ok (.getfield 18, 3) := by decide +kernel
theorem dX8_town_5 : decode cX8_town 5 = .ok (.iload_n 1, 1) := by decide +kernel
theorem dX8_town_6 : decode cX8_town 6 = .ok (.invokevirtual 116, 3) := by decide +kernel
theorem dX8_town_9 : decode cX8_town 9 = .ok (.istore_n 2, 1) := by decide +kernel
theorem dX8_town_10 : decode cX8_town 10 = .ok (.iload_n 2, 1) := by decide +kernel
theorem dX8_town_11 : decode cX8_town 11 = .ok (.ifCond .eq 5, 3) := by decide +kernel
theorem dX8_town_14 : decode cX8_town 14 = .ok (.iload_n 2, 1) := by decide +kernel
theorem dX8_town_15 : decode cX8_town 15 = .ok (.ireturn, 1) := by decide +kernel
theorem dX8_town_16 : decode cX8_town 16 = .ok (.aload_n 0, 1) := by decide +kernel
theorem dX8_town_17 : decode cX8_town 17 = .ok (.getfield 48, 3) := by decide +kernel
theorem dX8_town_20 : decode cX8_town 20 = .ok (.aload_n 0, 1) := by decide +kernel
theorem dX8_town_21 : decode cX8_town 21 = .ok (.getfield 18, 3) := by decide +kernel
theorem dX8_town_24 : decode cX8_town 24 = .ok (.iload_n 1, 1) := by decide +kernel
theorem dX8_town_25 : decode cX8_town 25 = .ok (.invokevirtual 145, 3) := by decide +kernel
theorem dX8_town_28 : decode cX8_town 28 = .ok (.bipush (-9), 2) := by decide +kernel
theorem dX8_town_30 : decode cX8_town 30 = .ok (.if_icmp .eq 6, 3) := by decide +kernel
theorem dX8_town_33 : decode cX8_town 33 = .ok (.bipush (-4), 2) := by decide +kernel
theorem dX8_town_35 : decode cX8_town 35 = .ok (.ireturn, 1) := by decide +kernel
theorem dX8_town_36 : decode cX8_town 36 = .ok (.aload_n 0, 1) := by decide +kernel
theorem dX8_town_37 : decode cX8_town 37 = .ok (.getfield 27, 3) := by decide +kernel
theorem dX8_town_40 : decode cX8_town 40 = .ok (.aload_n 0, 1) := by decide +kernel
theorem dX8_town_41 : decode cX8_town 41 = .ok (.getfield 48, 3) := by decide +kernel
theorem dX8_town_44 : decode cX8_town 44 = .ok (.getfield 148, 3) := by decide +kernel
theorem dX8_town_47 : decode cX8_town 47 = .ok (.invokevirtual 151, 3) := by decide +kernel
theorem dX8_town_50 : decode cX8_town 50 = .ok (.aload_n 0, 1) := by decide +kernel
theorem dX8_town_51 : decode cX8_town 51 = .ok (.getfield 31, 3) := by decide +kernel
theorem dX8_town_54 : decode cX8_town 54 = .ok (.aload_n 0, 1) := by decide +kernel
theorem dX8_town_55 : decode cX8_town 55 = .ok (.getfield 27, 3) := by decide +kernel
theorem dX8_town_58 : decode cX8_town 58 = .ok (.invokevirtual 151, 3) := by decide +kernel
theorem dX8_town_61 : decode cX8_town 61 = .ok (.aload_n 0, 1) := by decide +kernel
theorem dX8_town_62 : decode cX8_town 62 = .ok (.iconst 0, 1) := by decide +kernel
theorem dX8_town_63 : decode cX8_town 63 = .ok (.putfield 41, 3) := by decide +kernel
theorem dX8_town_66 : decode cX8_town 66 = .ok (.aload_n 0, 1) := by decide +kernel
theorem dX8_town_67 : decode cX8_town 67 = .ok (.getfield 21, 3) := by decide +kernel
theorem dX8_town_70 : decode cX8_town 70 = .ok (.invokevirtual 155, 3) := by decide +kernel
theorem dX8_town_73 : decode cX8_town 73 = .ok (.aload_n 0, 1) := by decide +kernel
theorem dX8_town_74 : decode cX8_town 74 = .ok (.getfield 31, 3) := by decide +kernel
theorem dX8_town_77 : decode cX8_town 77 = .ok (.getfield 158, 3) := by decide +kernel
theorem dX8_town_80 : decode cX8_town 80 = .ok (.ireturn, 1) := by decide +kernel
theorem dX8_bed_0 : decode cX8_bed 0 = .ok (.aload_n 0, 1) := by decide +kernel
theorem dX8_bed_1 : decode cX8_bed 1 = .ok (.getfield 31, 3) := by decide +kernel
theorem dX8_bed_4 : decode cX8_bed 4 = .ok (.iload_n 1, 1) := by decide +kernel
theorem dX8_bed_5 : decode cX8_bed 5 = .ok (.invokevirtual 161, 3) := by decide +kernel
theorem dX8_bed_8 : decode cX8_bed 8 = .ok (.ifCond .eq 13, 3) := by decide +kernel
theorem dX8_bed_11 : decode cX8_bed 11 = .ok (.iload_n 2, 1) := by decide +kernel
theorem dX8_bed_12 : decode cX8_bed 12 = .ok (.ifCond .lt 9, 3) := by decide +kernel
theorem dX8_bed_15 : decode cX8_bed 15 = .ok (.iload_n 2, 1) := by decide +kernel
theorem dX8_bed_16 : decode cX8_bed 16 = .ok (.bipush 8, 2) := by decide +kernel
theorem dX8_bed_18 : decode cX8_bed 18 = .ok (.if_icmp .lt 5, 3) := by decide +kernel
theorem dX8_bed_21 : decode cX8_bed 21 = .ok (.iconst (-1), 1) := by decide +kernel
theorem dX8_bed_22 : decode cX8_bed 22 = .ok (.ireturn, 1) := by decide +kernel
theorem dX8_bed_23 : decode cX8_bed 23 = .ok (.aload_n 0, 1) := by decide +kernel
theorem dX8_bed_24 : decode cX8_bed 24 = .ok (.aload_n 0, 1) := by decide +kernel
theorem dX8_bed_25 : decode cX8_bed 25 = .ok (.getfield 31, 3) := by decide +kernel
theorem dX8_bed_28 : decode cX8_bed 28 = .ok (.iload_n 1, 1) := by decide +kernel
theorem dX8_bed_29 : decode cX8_bed 29 = .ok (.iload_n 2, 1) := by decide +kernel
theorem dX8_bed_30 : decode cX8_bed 30 = .ok (.invokevirtual 164, 3) := by decide +kernel
theorem dX8_bed_33 : decode cX8_bed 33 = .ok (.invokevirtual 112, 3) := by decide +kernel
theorem dX8_bed_36 : decode cX8_bed 36 = .ok (.ireturn, 1) := by decide +kernel
theorem dX8_mark_0 : decode cX8_mark 0 = .ok (.aload_n 0, 1) := by decide +kernel
theorem dX8_mark_1 : decode cX8_mark 1 = .ok (.getfield 31, 3) := by decide +kernel
theorem dX8_mark_4 : decode cX8_mark 4 = .ok (.iload_n 1, 1) := by decide +kernel
theorem dX8_mark_5 : decode cX8_mark 5 = .ok (.invokevirtual 161, 3) := by decide +kernel
theorem dX8_mark_8 : decode cX8_mark 8 = .ok (.ifCond .eq 13, 3) := by decide +kernel
theorem dX8_mark_11 : decode cX8_mark 11 = .ok (.iload_n 2, 1) := by decide +kernel
theorem dX8_mark_12 : decode cX8_mark 12 = .ok (.ifCond .le 9, 3) := by decide +kernel
theorem dX8_mark_15 : decode cX8_mark 15 = .ok (.iload_n 2, 1) := by decide +kernel
theorem dX8_mark_16 : decode cX8_mark 16 = .ok (.bipush 6, 2) := by decide +kernel
theorem dX8_mark_18 : decode cX8_mark 18 = .ok (.if_icmp .lt 5, 3) := by decide +kernel
theorem dX8_mark_21 : decode cX8_mark 21 = .ok (.iconst (-1), 1) := by decide +kernel
theorem dX8_mark_22 : decode cX8_mark 22 = .ok (.ireturn, 1) := by decide +kernel
theorem dX8_mark_23 : decode cX8_mark 23 = .ok (.aload_n 0, 1) := by decide +kernel
theorem dX8_mark_24 : decode cX8_mark 24 = .ok (.getfield 31, 3) := by decide +kernel
theorem dX8_mark_27 : decode cX8_mark 27 = .ok (.iload_n 1, 1) := by decide +kernel
theorem dX8_mark_28 : decode cX8_mark 28 = .ok (.invokevirtual 167, 3) := by decide +kernel
theorem dX8_mark_31 : decode cX8_mark 31 = .ok (.iload_n 2, 1) := by decide +kernel
theorem dX8_mark_32 : decode cX8_mark 32 = .ok (.invokestatic 170, 3) := by decide +kernel
theorem dX8_mark_35 : decode cX8_mark 35 = .ok (.ifCond .ne 9, 3) := by decide +kernel
theorem dX8_mark_38 : decode cX8_mark 38 = .ok (.aload_n 0, 1) := by decide +kernel
theorem dX8_mark_39 : decode cX8_mark 39 = .ok (.iconst 3, 1) := by decide +kernel
theorem dX8_mark_40 : decode cX8_mark 40 = .ok (.invokevirtual 128, 3) := by decide +kernel
theorem dX8_mark_43 : decode cX8_mark 43 = .ok (.ireturn, 1) := by decide +kernel
theorem dX8_mark_44 : decode cX8_mark 44 = .ok (.aload_n 0, 1) := by decide +kernel
theorem dX8_mark_45 : decode cX8_mark 45 = .ok (.getfield 31, 3) := by decide +kernel
theorem dX8_mark_48 : decode cX8_mark 48 = .ok (.iload_n 1, 1) := by decide +kernel
theorem dX8_mark_49 : decode cX8_mark 49 = .ok (.invokevirtual 174, 3) := by decide +kernel
theorem dX8_mark_52 : decode cX8_mark 52 = .ok (.istore_n 3, 1) := by decide +kernel
theorem dX8_mark_53 : decode cX8_mark 53 = .ok (.aload_n 0, 1) := by decide +kernel
theorem dX8_mark_54 : decode cX8_mark 54 = .ok (.getfield 31, 3) := by decide +kernel
theorem dX8_mark_57 : decode cX8_mark 57 = .ok (.iload_n 1, 1) := by decide +kernel
theorem dX8_mark_58 : decode cX8_mark 58 = .ok (.aload_n 0, 1) := by decide +kernel
theorem dX8_mark_59 : decode cX8_mark 59 = .ok (.getfield 31, 3) := by decide +kernel
theorem dX8_mark_62 : decode cX8_mark 62 = .ok (.getfield 177, 3) := by decide +kernel
theorem dX8_mark_65 : decode cX8_mark 65 = .ok (.invokevirtual 180, 3) := by decide +kernel
theorem dX8_mark_68 : decode cX8_mark 68 = .ok (.istore 4, 2) := by decide +kernel
theorem dX8_mark_70 : decode cX8_mark 70 = .ok (.iload_n 2, 1) := by decide +kernel
theorem dX8_mark_71 : decode cX8_mark 71 = .ok (.tableswitch 89 1 4 #[29, 50, 58, 68], 29) := by decide +kernel
theorem dX8_mark_100 : decode cX8_mark 100 = .ok (.aload_n 0, 1) := by decide +kernel
theorem dX8_mark_101 : decode cX8_mark 101 = .ok (.getfield 31, 3) := by decide +kernel
theorem dX8_mark_104 : decode cX8_mark 104 = .ok (.iload_n 1, 1) := by decide +kernel
theorem dX8_mark_105 : decode cX8_mark 105 = .ok (.iconst 0, 1) := by decide +kernel
theorem dX8_mark_106 : decode cX8_mark 106 = .ok (.iload_n 3, 1) := by decide +kernel
theorem dX8_mark_107 : decode cX8_mark 107 = .ok (.aload_n 0, 1) := by decide +kernel
theorem dX8_mark_108 : decode cX8_mark 108 = .ok (.getfield 31, 3) := by decide +kernel
theorem dX8_mark_111 : decode cX8_mark 111 = .ok (.getfield 177, 3) := by decide +kernel
theorem dX8_mark_114 : decode cX8_mark 114 = .ok (.invokevirtual 183, 3) := by decide +kernel
theorem dX8_mark_117 : decode cX8_mark 117 = .ok (.iload 4, 2) := by decide +kernel
theorem dX8_mark_119 : decode cX8_mark 119 = .ok (.isub, 1) := by decide +kernel
theorem dX8_mark_120 : decode cX8_mark 120 = .ok (.ireturn, 1) := by decide +kernel
theorem dX8_mark_121 : decode cX8_mark 121 = .ok (.iload_n 3, 1) := by decide +kernel
theorem dX8_mark_122 : decode cX8_mark 122 = .ok (.iconst 2, 1) := by decide +kernel
theorem dX8_mark_123 : decode cX8_mark 123 = .ok (.iload_n 3, 1) := by decide +kernel
theorem dX8_mark_124 : decode cX8_mark 124 = .ok (.invokestatic 187, 3) := by decide +kernel
theorem dX8_mark_127 : decode cX8_mark 127 = .ok (.isub, 1) := by decide +kernel
theorem dX8_mark_128 : decode cX8_mark 128 = .ok (.ireturn, 1) := by decide +kernel
theorem dX8_mark_129 : decode cX8_mark 129 = .ok (.aload_n 0, 1) := by decide +kernel
theorem dX8_mark_130 : decode cX8_mark 130 = .ok (.getfield 31, 3) := by decide +kernel
theorem dX8_mark_133 : decode cX8_mark 133 = .ok (.getfield 177, 3) := by decide +kernel
theorem dX8_mark_136 : decode cX8_mark 136 = .ok (.iconst 2, 1) := by decide +kernel
theorem dX8_mark_137 : decode cX8_mark 137 = .ok (.irem, 1) := by decide +kernel
theorem dX8_mark_138 : decode cX8_mark 138 = .ok (.ireturn, 1) := by decide +kernel
theorem dX8_mark_139 : decode cX8_mark 139 = .ok (.iload 4, 2) := by decide +kernel
theorem dX8_mark_141 : decode cX8_mark 141 = .ok (.aload_n 0, 1) := by decide +kernel
theorem dX8_mark_142 : decode cX8_mark 142 = .ok (.getfield 31, 3) := by decide +kernel
theorem dX8_mark_145 : decode cX8_mark 145 = .ok (.iload_n 1, 1) := by decide +kernel
theorem dX8_mark_146 : decode cX8_mark 146 = .ok (.iconst 2, 1) := by decide +kernel
theorem dX8_mark_147 : decode cX8_mark 147 = .ok (.iload_n 3, 1) := by decide +kernel
theorem dX8_mark_148 : decode cX8_mark 148 = .ok (.aload_n 0, 1) := by decide +kernel
theorem dX8_mark_149 : decode cX8_mark 149 = .ok (.getfield 31, 3) := by decide +kernel
theorem dX8_mark_152 : decode cX8_mark 152 = .ok (.getfield 177, 3) := by decide +kernel
theorem dX8_mark_155 : decode cX8_mark 155 = .ok (.invokevirtual 183, 3) := by decide +kernel
theorem dX8_mark_158 : decode cX8_mark 158 = .ok (.isub, 1) := by decide +kernel
theorem dX8_mark_159 : decode cX8_mark 159 = .ok (.ireturn, 1) := by decide +kernel
theorem dX8_mark_160 : decode cX8_mark 160 = .ok (.aload_n 0, 1) := by decide +kernel
theorem dX8_mark_161 : decode cX8_mark 161 = .ok (.getfield 31, 3) := by decide +kernel
theorem dX8_mark_164 : decode cX8_mark 164 = .ok (.iload_n 1, 1) := by decide +kernel
theorem dX8_mark_165 : decode cX8_mark 165 = .ok (.iconst 1, 1) := by decide +kernel
theorem dX8_mark_166 : decode cX8_mark 166 = .ok (.iload_n 3, 1) := by decide +kernel
theorem dX8_mark_167 : decode cX8_mark 167 = .ok (.aload_n 0, 1) := by decide +kernel
theorem dX8_mark_168 : decode cX8_mark 168 = .ok (.getfield 31, 3) := by decide +kernel
theorem dX8_mark_171 : decode cX8_mark 171 = .ok (.getfield 177, 3) := by decide +kernel
theorem dX8_mark_174 : decode cX8_mark 174 = .ok (.invokevirtual 183, 3) := by decide +kernel
theorem dX8_mark_177 : decode cX8_mark 177 = .ok (.iload 4, 2) := by decide +kernel
theorem dX8_mark_179 : decode cX8_mark 179 = .ok (.isub, 1) := by decide +kernel
theorem dX8_mark_180 : decode cX8_mark 180 = .ok (.ireturn, 1) := by decide +kernel
theorem dX8_cross_0 : decode cX8_cross 0 = .ok (.aload_n 0, 1) := by decide +kernel
theorem dX8_cross_1 : decode cX8_cross 1 = .ok (.getfield 31, 3) := by decide +kernel
theorem dX8_cross_4 : decode cX8_cross 4 = .ok (.iload_n 1, 1) := by decide +kernel
theorem dX8_cross_5 : decode cX8_cross 5 = .ok (.invokevirtual 161, 3) := by decide +kernel
theorem dX8_cross_8 : decode cX8_cross 8 = .ok (.ifCond .eq 13, 3) := by decide +kernel
theorem dX8_cross_11 : decode cX8_cross 11 = .ok (.iload_n 2, 1) := by decide +kernel
theorem dX8_cross_12 : decode cX8_cross 12 = .ok (.ifCond .lt 9, 3) := by decide +kernel
theorem dX8_cross_15 : decode cX8_cross 15 = .ok (.iload_n 2, 1) := by decide +kernel
theorem dX8_cross_16 : decode cX8_cross 16 = .ok (.bipush 99, 2) := by decide +kernel
theorem dX8_cross_18 : decode cX8_cross 18 = .ok (.if_icmp .le 5, 3) := by decide +kernel
theorem dX8_cross_21 : decode cX8_cross 21 = .ok (.iconst (-1), 1) := by decide +kernel
theorem dX8_cross_22 : decode cX8_cross 22 = .ok (.ireturn, 1) := by decide +kernel
theorem dX8_cross_23 : decode cX8_cross 23 = .ok (.aload_n 0, 1) := by decide +kernel
theorem dX8_cross_24 : decode cX8_cross 24 = .ok (.getfield 31, 3) := by decide +kernel
theorem dX8_cross_27 : decode cX8_cross 27 = .ok (.iload_n 1, 1) := by decide +kernel
theorem dX8_cross_28 : decode cX8_cross 28 = .ok (.iload_n 2, 1) := by decide +kernel
theorem dX8_cross_29 : decode cX8_cross 29 = .ok (.invokevirtual 180, 3) := by decide +kernel
theorem dX8_cross_32 : decode cX8_cross 32 = .ok (.ireturn, 1) := by decide +kernel
theorem dX8_night_0 : decode cX8_night 0 = .ok (.aload_n 0, 1) := by decide +kernel
theorem dX8_night_1 : decode cX8_night 1 = .ok (.getfield 31, 3) := by decide +kernel
theorem dX8_night_4 : decode cX8_night 4 = .ok (.getfield 158, 3) := by decide +kernel
theorem dX8_night_7 : decode cX8_night 7 = .ok (.ifCond .ne 6, 3) := by decide +kernel
theorem dX8_night_10 : decode cX8_night 10 = .ok (.bipush (-4), 2) := by decide +kernel
theorem dX8_night_12 : decode cX8_night 12 = .ok (.ireturn, 1) := by decide +kernel
theorem dX8_night_13 : decode cX8_night 13 = .ok (.aload_n 0, 1) := by decide +kernel
theorem dX8_night_14 : decode cX8_night 14 = .ok (.getfield 41, 3) := by decide +kernel
theorem dX8_night_17 : decode cX8_night 17 = .ok (.bipush 40, 2) := by decide +kernel
theorem dX8_night_19 : decode cX8_night 19 = .ok (.if_icmp .lt 8, 3) := by decide +kernel
theorem dX8_night_22 : decode cX8_night 22 = .ok (.bipush (-2), 2) := by decide +kernel
theorem dX8_night_24 : decode cX8_night 24 = .ok (.goto 10, 3) := by decide +kernel
theorem dX8_night_27 : decode cX8_night 27 = .ok (.aload_n 0, 1) := by decide +kernel
theorem dX8_night_28 : decode cX8_night 28 = .ok (.iconst 0, 1) := by decide +kernel
theorem dX8_night_29 : decode cX8_night 29 = .ok (.iconst 0, 1) := by decide +kernel
theorem dX8_night_30 : decode cX8_night 30 = .ok (.iconst 0, 1) := by decide +kernel
theorem dX8_night_31 : decode cX8_night 31 = .ok (.invokevirtual 190, 3) := by decide +kernel
theorem dX8_night_34 : decode cX8_night 34 = .ok (.ireturn, 1) := by decide +kernel
theorem dX8_inspect_0 : decode cX8_inspect 0 = .ok (.aload_n 0, 1) := by decide +kernel
theorem dX8_inspect_1 : decode cX8_inspect 1 = .ok (.getfield 31, 3) := by decide +kernel
theorem dX8_inspect_4 : decode cX8_inspect 4 = .ok (.iload_n 1, 1) := by decide +kernel
theorem dX8_inspect_5 : decode cX8_inspect 5 = .ok (.invokevirtual 161, 3) := by decide +kernel
theorem dX8_inspect_8 : decode cX8_inspect 8 = .ok (.ifCond .ne 5, 3) := by decide +kernel
theorem dX8_inspect_11 : decode cX8_inspect 11 = .ok (.iconst (-1), 1) := by decide +kernel
theorem dX8_inspect_12 : decode cX8_inspect 12 = .ok (.ireturn, 1) := by decide +kernel
theorem dX8_inspect_13 : decode cX8_inspect 13 = .ok (.aload_n 0, 1) := by decide +kernel
theorem dX8_inspect_14 : decode cX8_inspect 14 = .ok (.getfield 41, 3) := by decide +kernel
theorem dX8_inspect_17 : decode cX8_inspect 17 = .ok (.bipush 40, 2) := by decide +kernel
theorem dX8_inspect_19 : decode cX8_inspect 19 = .ok (.if_icmp .lt 8, 3) := by decide +kernel
theorem dX8_inspect_22 : decode cX8_inspect 22 = .ok (.bipush (-2), 2) := by decide +kernel
theorem dX8_inspect_24 : decode cX8_inspect 24 = .ok (.goto 10, 3) := by decide +kernel
theorem dX8_inspect_27 : decode cX8_inspect 27 = .ok (.aload_n 0, 1) := by decide +kernel
theorem dX8_inspect_28 : decode cX8_inspect 28 = .ok (.iconst 1, 1) := by decide +kernel
theorem dX8_inspect_29 : decode cX8_inspect 29 = .ok (.iload_n 1, 1) := by decide +kernel
theorem dX8_inspect_30 : decode cX8_inspect 30 = .ok (.iconst 0, 1) := by decide +kernel
theorem dX8_inspect_31 : decode cX8_inspect 31 = .ok (.invokevirtual 190, 3) := by decide +kernel
theorem dX8_inspect_34 : decode cX8_inspect 34 = .ok (.ireturn, 1) := by decide +kernel
theorem dX8_thin_0 : decode cX8_thin 0 = .ok (.aload_n 0, 1) := by decide +kernel
theorem dX8_thin_1 : decode cX8_thin 1 = .ok (.getfield 31, 3) := by decide +kernel
theorem dX8_thin_4 : decode cX8_thin 4 = .ok (.iload_n 1, 1) := by decide +kernel
theorem dX8_thin_5 : decode cX8_thin 5 = .ok (.invokevirtual 161, 3) := by decide +kernel
theorem dX8_thin_8 : decode cX8_thin 8 = .ok (.ifCond .ne 5, 3) := by decide +kernel
theorem dX8_thin_11 : decode cX8_thin 11 = .ok (.iconst (-1), 1) := by decide +kernel
theorem dX8_thin_12 : decode cX8_thin 12 = .ok (.ireturn, 1) := by decide +kernel
theorem dX8_thin_13 : decode cX8_thin 13 = .ok (.aload_n 0, 1) := by decide +kernel
theorem dX8_thin_14 : decode cX8_thin 14 = .ok (.getfield 31, 3) := by decide +kernel
theorem dX8_thin_17 : decode cX8_thin 17 = .ok (.iload_n 1, 1) := by decide +kernel
theorem dX8_thin_18 : decode cX8_thin 18 = .ok (.invokevirtual 174, 3) := by decide +kernel
theorem dX8_thin_21 : decode cX8_thin 21 = .ok (.ifCond .ne 6, 3) := by decide +kernel
theorem dX8_thin_24 : decode cX8_thin 24 = .ok (.bipush (-4), 2) := by decide +kernel
theorem dX8_thin_26 : decode cX8_thin 26 = .ok (.ireturn, 1) := by decide +kernel
theorem dX8_thin_27 : decode cX8_thin 27 = .ok (.aload_n 0, 1) := by decide +kernel
theorem dX8_thin_28 : decode cX8_thin 28 = .ok (.getfield 41, 3) := by decide +kernel
theorem dX8_thin_31 : decode cX8_thin 31 = .ok (.bipush 40, 2) := by decide +kernel
theorem dX8_thin_33 : decode cX8_thin 33 = .ok (.if_icmp .lt 8, 3) := by decide +kernel
theorem dX8_thin_36 : decode cX8_thin 36 = .ok (.bipush (-2), 2) := by decide +kernel
theorem dX8_thin_38 : decode cX8_thin 38 = .ok (.goto 10, 3) := by decide +kernel
theorem dX8_thin_41 : decode cX8_thin 41 = .ok (.aload_n 0, 1) := by decide +kernel
theorem dX8_thin_42 : decode cX8_thin 42 = .ok (.iconst 2, 1) := by decide +kernel
theorem dX8_thin_43 : decode cX8_thin 43 = .ok (.iload_n 1, 1) := by decide +kernel
theorem dX8_thin_44 : decode cX8_thin 44 = .ok (.iconst 0, 1) := by decide +kernel
theorem dX8_thin_45 : decode cX8_thin 45 = .ok (.invokevirtual 190, 3) := by decide +kernel
theorem dX8_thin_48 : decode cX8_thin 48 = .ok (.ireturn, 1) := by decide +kernel
theorem dX8_swap_0 : decode cX8_swap 0 = .ok (.aload_n 0, 1) := by decide +kernel
theorem dX8_swap_1 : decode cX8_swap 1 = .ok (.getfield 31, 3) := by decide +kernel
theorem dX8_swap_4 : decode cX8_swap 4 = .ok (.iload_n 1, 1) := by decide +kernel
theorem dX8_swap_5 : decode cX8_swap 5 = .ok (.invokevirtual 161, 3) := by decide +kernel
theorem dX8_swap_8 : decode cX8_swap 8 = .ok (.ifCond .eq 19, 3) := by decide +kernel
theorem dX8_swap_11 : decode cX8_swap 11 = .ok (.aload_n 0, 1) := by decide +kernel
theorem dX8_swap_12 : decode cX8_swap 12 = .ok (.getfield 31, 3) := by decide +kernel
theorem dX8_swap_15 : decode cX8_swap 15 = .ok (.iload_n 2, 1) := by decide +kernel
theorem dX8_swap_16 : decode cX8_swap 16 = .ok (.invokevirtual 161, 3) := by decide +kernel
theorem dX8_swap_19 : decode cX8_swap 19 = .ok (.ifCond .eq 8, 3) := by decide +kernel
theorem dX8_swap_22 : decode cX8_swap 22 = .ok (.iload_n 1, 1) := by decide +kernel
theorem dX8_swap_23 : decode cX8_swap 23 = .ok (.iload_n 2, 1) := by decide +kernel
theorem dX8_swap_24 : decode cX8_swap 24 = .ok (.if_icmp .ne 5, 3) := by decide +kernel
theorem dX8_swap_27 : decode cX8_swap 27 = .ok (.iconst (-1), 1) := by decide +kernel
theorem dX8_swap_28 : decode cX8_swap 28 = .ok (.ireturn, 1) := by decide +kernel
theorem dX8_swap_29 : decode cX8_swap 29 = .ok (.aload_n 0, 1) := by decide +kernel
theorem dX8_swap_30 : decode cX8_swap 30 = .ok (.getfield 41, 3) := by decide +kernel
theorem dX8_swap_33 : decode cX8_swap 33 = .ok (.bipush 40, 2) := by decide +kernel
theorem dX8_swap_35 : decode cX8_swap 35 = .ok (.if_icmp .lt 8, 3) := by decide +kernel
theorem dX8_swap_38 : decode cX8_swap 38 = .ok (.bipush (-2), 2) := by decide +kernel
theorem dX8_swap_40 : decode cX8_swap 40 = .ok (.goto 10, 3) := by decide +kernel
theorem dX8_swap_43 : decode cX8_swap 43 = .ok (.aload_n 0, 1) := by decide +kernel
theorem dX8_swap_44 : decode cX8_swap 44 = .ok (.iconst 3, 1) := by decide +kernel
theorem dX8_swap_45 : decode cX8_swap 45 = .ok (.iload_n 1, 1) := by decide +kernel
theorem dX8_swap_46 : decode cX8_swap 46 = .ok (.iload_n 2, 1) := by decide +kernel
theorem dX8_swap_47 : decode cX8_swap 47 = .ok (.invokevirtual 190, 3) := by decide +kernel
theorem dX8_swap_50 : decode cX8_swap 50 = .ok (.ireturn, 1) := by decide +kernel
theorem dX8_undo_0 : decode cX8_undo 0 = .ok (.iload_n 1, 1) := by decide +kernel
theorem dX8_undo_1 : decode cX8_undo 1 = .ok (.ifCond .lt 11, 3) := by decide +kernel
theorem dX8_undo_4 : decode cX8_undo 4 = .ok (.iload_n 1, 1) := by decide +kernel
theorem dX8_undo_5 : decode cX8_undo 5 = .ok (.aload_n 0, 1) := by decide +kernel
theorem dX8_undo_6 : decode cX8_undo 6 = .ok (.getfield 41, 3) := by decide +kernel
theorem dX8_undo_9 : decode cX8_undo 9 = .ok (.if_icmp .le 5, 3) := by decide +kernel
theorem dX8_undo_12 : decode cX8_undo 12 = .ok (.iconst (-1), 1) := by decide +kernel
theorem dX8_undo_13 : decode cX8_undo 13 = .ok (.ireturn, 1) := by decide +kernel
theorem dX8_undo_14 : decode cX8_undo 14 = .ok (.aload_n 0, 1) := by decide +kernel
theorem dX8_undo_15 : decode cX8_undo 15 = .ok (.getfield 41, 3) := by decide +kernel
theorem dX8_undo_18 : decode cX8_undo 18 = .ok (.iload_n 1, 1) := by decide +kernel
theorem dX8_undo_19 : decode cX8_undo 19 = .ok (.isub, 1) := by decide +kernel
theorem dX8_undo_20 : decode cX8_undo 20 = .ok (.istore_n 2, 1) := by decide +kernel
theorem dX8_undo_21 : decode cX8_undo 21 = .ok (.aload_n 0, 1) := by decide +kernel
theorem dX8_undo_22 : decode cX8_undo 22 = .ok (.iload_n 1, 1) := by decide +kernel
theorem dX8_undo_23 : decode cX8_undo 23 = .ok (.putfield 41, 3) := by decide +kernel
theorem dX8_undo_26 : decode cX8_undo 26 = .ok (.aload_n 0, 1) := by decide +kernel
theorem dX8_undo_27 : decode cX8_undo 27 = .ok (.invokevirtual 194, 3) := by decide +kernel
theorem dX8_undo_30 : decode cX8_undo 30 = .ok (.iload_n 2, 1) := by decide +kernel
theorem dX8_undo_31 : decode cX8_undo 31 = .ok (.ireturn, 1) := by decide +kernel
theorem dX8_keep_0 : decode cX8_keep 0 = .ok (.aload_n 0, 1) := by decide +kernel
theorem dX8_keep_1 : decode cX8_keep 1 = .ok (.getfield 21, 3) := by decide +kernel
theorem dX8_keep_4 : decode cX8_keep 4 = .ok (.iload_n 1, 1) := by decide +kernel
theorem dX8_keep_5 : decode cX8_keep 5 = .ok (.invokevirtual 124, 3) := by decide +kernel
theorem dX8_keep_8 : decode cX8_keep 8 = .ok (.ifCond .ne 5, 3) := by decide +kernel
theorem dX8_keep_11 : decode cX8_keep 11 = .ok (.iconst (-1), 1) := by decide +kernel
theorem dX8_keep_12 : decode cX8_keep 12 = .ok (.ireturn, 1) := by decide +kernel
theorem dX8_keep_13 : decode cX8_keep 13 = .ok (.aload_n 0, 1) := by decide +kernel
theorem dX8_keep_14 : decode cX8_keep 14 = .ok (.getfield 31, 3) := by decide +kernel
theorem dX8_keep_17 : decode cX8_keep 17 = .ok (.getfield 158, 3) := by decide +kernel
theorem dX8_keep_20 : decode cX8_keep 20 = .ok (.ifCond .ne 6, 3) := by decide +kernel
theorem dX8_keep_23 : decode cX8_keep 23 = .ok (.bipush (-4), 2) := by decide +kernel
theorem dX8_keep_25 : decode cX8_keep 25 = .ok (.ireturn, 1) := by decide +kernel
theorem dX8_keep_26 : decode cX8_keep 26 = .ok (.aload_n 0, 1) := by decide +kernel
theorem dX8_keep_27 : decode cX8_keep 27 = .ok (.getfield 21, 3) := by decide +kernel
theorem dX8_keep_30 : decode cX8_keep 30 = .ok (.iload_n 1, 1) := by decide +kernel
theorem dX8_keep_31 : decode cX8_keep 31 = .ok (.aload_n 0, 1) := by decide +kernel
theorem dX8_keep_32 : decode cX8_keep 32 = .ok (.getfield 41, 3) := by decide +kernel
theorem dX8_keep_35 : decode cX8_keep 35 = .ok (.aload_n 0, 1) := by decide +kernel
theorem dX8_keep_36 : decode cX8_keep 36 = .ok (.getfield 37, 3) := by decide +kernel
theorem dX8_keep_39 : decode cX8_keep 39 = .ok (.invokevirtual 197, 3) := by decide +kernel
theorem dX8_keep_42 : decode cX8_keep 42 = .ok (.aload_n 0, 1) := by decide +kernel
theorem dX8_keep_43 : decode cX8_keep 43 = .ok (.getfield 41, 3) := by decide +kernel
theorem dX8_keep_46 : decode cX8_keep 46 = .ok (.ireturn, 1) := by decide +kernel
theorem dX8_on_0 : decode cX8_on 0 = .ok (.aload_n 0, 1) := by decide +kernel
theorem dX8_on_1 : decode cX8_on 1 = .ok (.aload_n 0, 1) := by decide +kernel
theorem dX8_on_2 : decode cX8_on 2 = .ok (.getfield 21, 3) := by decide +kernel
theorem dX8_on_5 : decode cX8_on 5 = .ok (.iload_n 1, 1) := by decide +kernel
theorem dX8_on_6 : decode cX8_on 6 = .ok (.invokevirtual 116, 3) := by decide +kernel
theorem dX8_on_9 : decode cX8_on 9 = .ok (.istore_n 2, 1) := by decide +kernel
theorem dX8_on_10 : decode cX8_on 10 = .ok (.iload_n 2, 1) := by decide +kernel
theorem dX8_on_11 : decode cX8_on 11 = .ok (.ifCond .eq 5, 3) := by decide +kernel
theorem dX8_on_14 : decode cX8_on 14 = .ok (.iload_n 2, 1) := by decide +kernel
theorem dX8_on_15 : decode cX8_on 15 = .ok (.ireturn, 1) := by decide +kernel
theorem dX8_on_16 : decode cX8_on 16 = .ok (.aload_n 0, 1) := by decide +kernel
theorem dX8_on_17 : decode cX8_on 17 = .ok (.aload_n 0, 1) := by decide +kernel
theorem dX8_on_18 : decode cX8_on 18 = .ok (.getfield 21, 3) := by decide +kernel
theorem dX8_on_21 : decode cX8_on 21 = .ok (.iload_n 1, 1) := by decide +kernel
theorem dX8_on_22 : decode cX8_on 22 = .ok (.invokevirtual 142, 3) := by decide +kernel
theorem dX8_on_25 : decode cX8_on 25 = .ok (.putfield 41, 3) := by decide +kernel
theorem dX8_on_28 : decode cX8_on 28 = .ok (.iconst 0, 1) := by decide +kernel
theorem dX8_on_29 : decode cX8_on 29 = .ok (.istore_n 3, 1) := by decide +kernel
theorem dX8_on_30 : decode cX8_on 30 = .ok (.iload_n 3, 1) := by decide +kernel
theorem dX8_on_31 : decode cX8_on 31 = .ok (.aload_n 0, 1) := by decide +kernel
theorem dX8_on_32 : decode cX8_on 32 = .ok (.getfield 41, 3) := by decide +kernel
theorem dX8_on_35 : decode cX8_on 35 = .ok (.if_icmp .ge 26, 3) := by decide +kernel
theorem dX8_on_38 : decode cX8_on 38 = .ok (.aload_n 0, 1) := by decide +kernel
theorem dX8_on_39 : decode cX8_on 39 = .ok (.getfield 37, 3) := by decide +kernel
theorem dX8_on_42 : decode cX8_on 42 = .ok (.iload_n 3, 1) := by decide +kernel
theorem dX8_on_43 : decode cX8_on 43 = .ok (.aload_n 0, 1) := by decide +kernel
theorem dX8_on_44 : decode cX8_on 44 = .ok (.getfield 21, 3) := by decide +kernel
theorem dX8_on_47 : decode cX8_on 47 = .ok (.iload_n 1, 1) := by decide +kernel
theorem dX8_on_48 : decode cX8_on 48 = .ok (.iload_n 3, 1) := by decide +kernel
theorem dX8_on_49 : decode cX8_on 49 = .ok (.invokevirtual 104, 3) := by decide +kernel
theorem dX8_on_52 : decode cX8_on 52 = .ok (.invokestatic 201, 3) := by decide +kernel
theorem dX8_on_55 : decode cX8_on 55 = .ok (.iinc 3 1, 3) := by decide +kernel
theorem dX8_on_58 : decode cX8_on 58 = .ok (.goto (-28), 3) := by decide +kernel
theorem dX8_on_61 : decode cX8_on 61 = .ok (.aload_n 0, 1) := by decide +kernel
theorem dX8_on_62 : decode cX8_on 62 = .ok (.invokevirtual 194, 3) := by decide +kernel
theorem dX8_on_65 : decode cX8_on 65 = .ok (.aload_n 0, 1) := by decide +kernel
theorem dX8_on_66 : decode cX8_on 66 = .ok (.getfield 41, 3) := by decide +kernel
theorem dX8_on_69 : decode cX8_on 69 = .ok (.ireturn, 1) := by decide +kernel
theorem dX8_then_0 : decode cX8_then 0 = .ok (.aload_n 0, 1) := by decide +kernel
theorem dX8_then_1 : decode cX8_then 1 = .ok (.getfield 31, 3) := by decide +kernel
theorem dX8_then_4 : decode cX8_then 4 = .ok (.iload_n 1, 1) := by decide +kernel
theorem dX8_then_5 : decode cX8_then 5 = .ok (.invokevirtual 161, 3) := by decide +kernel
theorem dX8_then_8 : decode cX8_then 8 = .ok (.ifCond .eq 13, 3) := by decide +kernel
theorem dX8_then_11 : decode cX8_then 11 = .ok (.iload_n 2, 1) := by decide +kernel
theorem dX8_then_12 : decode cX8_then 12 = .ok (.ifCond .lt 9, 3) := by decide +kernel
theorem dX8_then_15 : decode cX8_then 15 = .ok (.iload_n 2, 1) := by decide +kernel
theorem dX8_then_16 : decode cX8_then 16 = .ok (.bipush 40, 2) := by decide +kernel
theorem dX8_then_18 : decode cX8_then 18 = .ok (.if_icmp .le 5, 3) := by decide +kernel
theorem dX8_then_21 : decode cX8_then 21 = .ok (.iconst (-1), 1) := by decide +kernel
theorem dX8_then_22 : decode cX8_then 22 = .ok (.ireturn, 1) := by decide +kernel
theorem dX8_then_23 : decode cX8_then 23 = .ok (.aload_n 0, 1) := by decide +kernel
theorem dX8_then_24 : decode cX8_then 24 = .ok (.getfield 34, 3) := by decide +kernel
theorem dX8_then_27 : decode cX8_then 27 = .ok (.aload_n 0, 1) := by decide +kernel
theorem dX8_then_28 : decode cX8_then 28 = .ok (.getfield 31, 3) := by decide +kernel
theorem dX8_then_31 : decode cX8_then 31 = .ok (.invokevirtual 151, 3) := by decide +kernel
theorem dX8_then_34 : decode cX8_then 34 = .ok (.aload_n 0, 1) := by decide +kernel
theorem dX8_then_35 : decode cX8_then 35 = .ok (.getfield 34, 3) := by decide +kernel
theorem dX8_then_38 : decode cX8_then 38 = .ok (.iload_n 1, 1) := by decide +kernel
theorem dX8_then_39 : decode cX8_then 39 = .ok (.iload_n 2, 1) := by decide +kernel
theorem dX8_then_40 : decode cX8_then 40 = .ok (.invokevirtual 205, 3) := by decide +kernel
theorem dX8_then_43 : decode cX8_then 43 = .ok (.aload_n 0, 1) := by decide +kernel
theorem dX8_then_44 : decode cX8_then 44 = .ok (.aload_n 0, 1) := by decide +kernel
theorem dX8_then_45 : decode cX8_then 45 = .ok (.getfield 34, 3) := by decide +kernel
theorem dX8_then_48 : decode cX8_then 48 = .ok (.iload_n 1, 1) := by decide +kernel
theorem dX8_then_49 : decode cX8_then 49 = .ok (.invokevirtual 174, 3) := by decide +kernel
theorem dX8_then_52 : decode cX8_then 52 = .ok (.putfield 80, 3) := by decide +kernel
theorem dX8_then_55 : decode cX8_then 55 = .ok (.aload_n 0, 1) := by decide +kernel
theorem dX8_then_56 : decode cX8_then 56 = .ok (.getfield 34, 3) := by decide +kernel
theorem dX8_then_59 : decode cX8_then 59 = .ok (.iload_n 1, 1) := by decide +kernel
theorem dX8_then_60 : decode cX8_then 60 = .ok (.invokevirtual 208, 3) := by decide +kernel
theorem dX8_then_63 : decode cX8_then 63 = .ok (.ireturn, 1) := by decide +kernel
theorem dX8_when_0 : decode cX8_when 0 = .ok (.aload_n 0, 1) := by decide +kernel
theorem dX8_when_1 : decode cX8_when 1 = .ok (.getfield 31, 3) := by decide +kernel
theorem dX8_when_4 : decode cX8_when 4 = .ok (.iload_n 1, 1) := by decide +kernel
theorem dX8_when_5 : decode cX8_when 5 = .ok (.invokevirtual 161, 3) := by decide +kernel
theorem dX8_when_8 : decode cX8_when 8 = .ok (.ifCond .ne 5, 3) := by decide +kernel
theorem dX8_when_11 : decode cX8_when 11 = .ok (.iconst (-1), 1) := by decide +kernel
theorem dX8_when_12 : decode cX8_when 12 = .ok (.ireturn, 1) := by decide +kernel
theorem dX8_when_13 : decode cX8_when 13 = .ok (.aload_n 0, 1) := by decide +kernel
theorem dX8_when_14 : decode cX8_when 14 = .ok (.getfield 34, 3) := by decide +kernel
theorem dX8_when_17 : decode cX8_when 17 = .ok (.aload_n 0, 1) := by decide +kernel
theorem dX8_when_18 : decode cX8_when 18 = .ok (.getfield 31, 3) := by decide +kernel
theorem dX8_when_21 : decode cX8_when 21 = .ok (.invokevirtual 151, 3) := by decide +kernel
theorem dX8_when_24 : decode cX8_when 24 = .ok (.iconst 0, 1) := by decide +kernel
theorem dX8_when_25 : decode cX8_when 25 = .ok (.istore_n 2, 1) := by decide +kernel
theorem dX8_when_26 : decode cX8_when 26 = .ok (.iload_n 2, 1) := by decide +kernel
theorem dX8_when_27 : decode cX8_when 27 = .ok (.bipush 40, 2) := by decide +kernel
theorem dX8_when_29 : decode cX8_when 29 = .ok (.if_icmp .gt 31, 3) := by decide +kernel
theorem dX8_when_32 : decode cX8_when 32 = .ok (.aload_n 0, 1) := by decide +kernel
theorem dX8_when_33 : decode cX8_when 33 = .ok (.getfield 34, 3) := by decide +kernel
theorem dX8_when_36 : decode cX8_when 36 = .ok (.iload_n 1, 1) := by decide +kernel
theorem dX8_when_37 : decode cX8_when 37 = .ok (.invokevirtual 211, 3) := by decide +kernel
theorem dX8_when_40 : decode cX8_when 40 = .ok (.ifCond .eq 5, 3) := by decide +kernel
theorem dX8_when_43 : decode cX8_when 43 = .ok (.iload_n 2, 1) := by decide +kernel
theorem dX8_when_44 : decode cX8_when 44 = .ok (.ireturn, 1) := by decide +kernel
theorem dX8_when_45 : decode cX8_when 45 = .ok (.aload_n 0, 1) := by decide +kernel
theorem dX8_when_46 : decode cX8_when 46 = .ok (.getfield 34, 3) := by decide +kernel
theorem dX8_when_49 : decode cX8_when 49 = .ok (.iload_n 1, 1) := by decide +kernel
theorem dX8_when_50 : decode cX8_when 50 = .ok (.iconst 1, 1) := by decide +kernel
theorem dX8_when_51 : decode cX8_when 51 = .ok (.invokevirtual 205, 3) := by decide +kernel
theorem dX8_when_54 : decode cX8_when 54 = .ok (.iinc 2 1, 3) := by decide +kernel
theorem dX8_when_57 : decode cX8_when 57 = .ok (.goto (-31), 3) := by decide +kernel
theorem dX8_when_60 : decode cX8_when 60 = .ok (.bipush (-9), 2) := by decide +kernel
theorem dX8_when_62 : decode cX8_when 62 = .ok (.ireturn, 1) := by decide +kernel
theorem dX8_least_0 : decode cX8_least 0 = .ok (.aload_n 0, 1) := by decide +kernel
theorem dX8_least_1 : decode cX8_least 1 = .ok (.getfield 31, 3) := by decide +kernel
theorem dX8_least_4 : decode cX8_least 4 = .ok (.iload_n 1, 1) := by decide +kernel
theorem dX8_least_5 : decode cX8_least 5 = .ok (.invokevirtual 161, 3) := by decide +kernel
theorem dX8_least_8 : decode cX8_least 8 = .ok (.ifCond .eq 13, 3) := by decide +kernel
theorem dX8_least_11 : decode cX8_least 11 = .ok (.iload_n 2, 1) := by decide +kernel
theorem dX8_least_12 : decode cX8_least 12 = .ok (.ifCond .lt 9, 3) := by decide +kernel
theorem dX8_least_15 : decode cX8_least 15 = .ok (.iload_n 2, 1) := by decide +kernel
theorem dX8_least_16 : decode cX8_least 16 = .ok (.bipush 40, 2) := by decide +kernel
theorem dX8_least_18 : decode cX8_least 18 = .ok (.if_icmp .le 5, 3) := by decide +kernel
theorem dX8_least_21 : decode cX8_least 21 = .ok (.iconst (-1), 1) := by decide +kernel
theorem dX8_least_22 : decode cX8_least 22 = .ok (.ireturn, 1) := by decide +kernel
theorem dX8_least_23 : decode cX8_least 23 = .ok (.aload_n 0, 1) := by decide +kernel
theorem dX8_least_24 : decode cX8_least 24 = .ok (.getfield 31, 3) := by decide +kernel
theorem dX8_least_27 : decode cX8_least 27 = .ok (.iload_n 1, 1) := by decide +kernel
theorem dX8_least_28 : decode cX8_least 28 = .ok (.invokevirtual 174, 3) := by decide +kernel
theorem dX8_least_31 : decode cX8_least 31 = .ok (.istore_n 3, 1) := by decide +kernel
theorem dX8_least_32 : decode cX8_least 32 = .ok (.iconst 0, 1) := by decide +kernel
theorem dX8_least_33 : decode cX8_least 33 = .ok (.istore 4, 2) := by decide +kernel
theorem dX8_least_35 : decode cX8_least 35 = .ok (.iload 4, 2) := by decide +kernel
theorem dX8_least_37 : decode cX8_least 37 = .ok (.iload_n 3, 1) := by decide +kernel
theorem dX8_least_38 : decode cX8_least 38 = .ok (.if_icmp .gt 53, 3) := by decide +kernel
theorem dX8_least_41 : decode cX8_least 41 = .ok (.aload_n 0, 1) := by decide +kernel
theorem dX8_least_42 : decode cX8_least 42 = .ok (.getfield 34, 3) := by decide +kernel
theorem dX8_least_45 : decode cX8_least 45 = .ok (.aload_n 0, 1) := by decide +kernel
theorem dX8_least_46 : decode cX8_least 46 = .ok (.getfield 31, 3) := by decide +kernel
theorem dX8_least_49 : decode cX8_least 49 = .ok (.invokevirtual 151, 3) := by decide +kernel
theorem dX8_least_52 : decode cX8_least 52 = .ok (.aload_n 0, 1) := by decide +kernel
theorem dX8_least_53 : decode cX8_least 53 = .ok (.getfield 34, 3) := by decide +kernel
theorem dX8_least_56 : decode cX8_least 56 = .ok (.iload_n 1, 1) := by decide +kernel
theorem dX8_least_57 : decode cX8_least 57 = .ok (.iload 4, 2) := by decide +kernel
theorem dX8_least_59 : decode cX8_least 59 = .ok (.invokevirtual 214, 3) := by decide +kernel
theorem dX8_least_62 : decode cX8_least 62 = .ok (.aload_n 0, 1) := by decide +kernel
theorem dX8_least_63 : decode cX8_least 63 = .ok (.getfield 34, 3) := by decide +kernel
theorem dX8_least_66 : decode cX8_least 66 = .ok (.iload_n 1, 1) := by decide +kernel
theorem dX8_least_67 : decode cX8_least 67 = .ok (.iload_n 2, 1) := by decide +kernel
theorem dX8_least_68 : decode cX8_least 68 = .ok (.invokevirtual 205, 3) := by decide +kernel
theorem dX8_least_71 : decode cX8_least 71 = .ok (.aload_n 0, 1) := by decide +kernel
theorem dX8_least_72 : decode cX8_least 72 = .ok (.getfield 34, 3) := by decide +kernel
theorem dX8_least_75 : decode cX8_least 75 = .ok (.iload_n 1, 1) := by decide +kernel
theorem dX8_least_76 : decode cX8_least 76 = .ok (.invokevirtual 211, 3) := by decide +kernel
theorem dX8_least_79 : decode cX8_least 79 = .ok (.ifCond .eq 6, 3) := by decide +kernel
theorem dX8_least_82 : decode cX8_least 82 = .ok (.iload 4, 2) := by decide +kernel
theorem dX8_least_84 : decode cX8_least 84 = .ok (.ireturn, 1) := by decide +kernel
theorem dX8_least_85 : decode cX8_least 85 = .ok (.iinc 4 1, 3) := by decide +kernel
theorem dX8_least_88 : decode cX8_least 88 = .ok (.goto (-53), 3) := by decide +kernel
theorem dX8_least_91 : decode cX8_least 91 = .ok (.bipush (-9), 2) := by decide +kernel
theorem dX8_least_93 : decode cX8_least 93 = .ok (.ireturn, 1) := by decide +kernel
theorem dX8_round_0 : decode cX8_round 0 = .ok (.iload_n 1, 1) := by decide +kernel
theorem dX8_round_1 : decode cX8_round 1 = .ok (.ifCond .lt 19, 3) := by decide +kernel
theorem dX8_round_4 : decode cX8_round 4 = .ok (.iload_n 1, 1) := by decide +kernel
theorem dX8_round_5 : decode cX8_round 5 = .ok (.iconst 4, 1) := by decide +kernel
theorem dX8_round_6 : decode cX8_round 6 = .ok (.if_icmp .gt 14, 3) := by decide +kernel
theorem dX8_round_9 : decode cX8_round 9 = .ok (.aload_n 0, 1) := by decide +kernel
theorem dX8_round_10 : decode cX8_round 10 = .ok (.getfield 14, 3) := by decide +kernel
theorem dX8_round_13 : decode cX8_round 13 = .ok (.iload_n 2, 1) := by decide +kernel
theorem dX8_round_14 : decode cX8_round 14 = .ok (.invokevirtual 124, 3) := by decide +kernel
theorem dX8_round_17 : decode cX8_round 17 = .ok (.ifCond .ne 5, 3) := by decide +kernel
theorem dX8_round_20 : decode cX8_round 20 = .ok (.iconst (-1), 1) := by decide +kernel
theorem dX8_round_21 : decode cX8_round 21 = .ok (.ireturn, 1) := by decide +kernel
theorem dX8_round_22 : decode cX8_round 22 = .ok (.aload_n 0, 1) := by decide +kernel
theorem dX8_round_23 : decode cX8_round 23 = .ok (.getfield 31, 3) := by decide +kernel
theorem dX8_round_26 : decode cX8_round 26 = .ok (.getfield 158, 3) := by decide +kernel
theorem dX8_round_29 : decode cX8_round 29 = .ok (.ifCond .ne 6, 3) := by decide +kernel
theorem dX8_round_32 : decode cX8_round 32 = .ok (.bipush (-4), 2) := by decide +kernel
theorem dX8_round_34 : decode cX8_round 34 = .ok (.ireturn, 1) := by decide +kernel
theorem dX8_round_35 : decode cX8_round 35 = .ok (.aload_n 0, 1) := by decide +kernel
theorem dX8_round_36 : decode cX8_round 36 = .ok (.getfield 55, 3) := by decide +kernel
theorem dX8_round_39 : decode cX8_round 39 = .ok (.aload_n 0, 1) := by decide +kernel
theorem dX8_round_40 : decode cX8_round 40 = .ok (.getfield 31, 3) := by decide +kernel
theorem dX8_round_43 : decode cX8_round 43 = .ok (.iload_n 1, 1) := by decide +kernel
theorem dX8_round_44 : decode cX8_round 44 = .ok (.invokevirtual 217, 3) := by decide +kernel
theorem dX8_round_47 : decode cX8_round 47 = .ok (.istore_n 3, 1) := by decide +kernel
theorem dX8_round_48 : decode cX8_round 48 = .ok (.aload_n 0, 1) := by decide +kernel
theorem dX8_round_49 : decode cX8_round 49 = .ok (.getfield 14, 3) := by decide +kernel
theorem dX8_round_52 : decode cX8_round 52 = .ok (.iload_n 2, 1) := by decide +kernel
theorem dX8_round_53 : decode cX8_round 53 = .ok (.iload_n 1, 1) := by decide +kernel
theorem dX8_round_54 : decode cX8_round 54 = .ok (.aload_n 0, 1) := by decide +kernel
theorem dX8_round_55 : decode cX8_round 55 = .ok (.getfield 55, 3) := by decide +kernel
theorem dX8_round_58 : decode cX8_round 58 = .ok (.getfield 221, 3) := by decide +kernel
theorem dX8_round_61 : decode cX8_round 61 = .ok (.invokevirtual 197, 3) := by decide +kernel
theorem dX8_round_64 : decode cX8_round 64 = .ok (.iload_n 3, 1) := by decide +kernel
theorem dX8_round_65 : decode cX8_round 65 = .ok (.ireturn, 1) := by decide +kernel
theorem dX8_brings_0 : decode cX8_brings 0 = .ok (.aload_n 0, 1) := by decide +kernel
theorem dX8_brings_1 : decode cX8_brings 1 = .ok (.getfield 14, 3) := by decide +kernel
theorem dX8_brings_4 : decode cX8_brings 4 = .ok (.iload_n 1, 1) := by decide +kernel
theorem dX8_brings_5 : decode cX8_brings 5 = .ok (.invokevirtual 124, 3) := by decide +kernel
theorem dX8_brings_8 : decode cX8_brings 8 = .ok (.ifCond .ne 5, 3) := by decide +kernel
theorem dX8_brings_11 : decode cX8_brings 11 = .ok (.iconst (-1), 1) := by decide +kernel
theorem dX8_brings_12 : decode cX8_brings 12 = .ok (.ireturn, 1) := by decide +kernel
theorem dX8_brings_13 : decode cX8_brings 13 = .ok (.aload_n 0, 1) := by decide +kernel
theorem dX8_brings_14 : decode cX8_brings 14 = .ok (.getfield 31, 3) := by decide +kernel
theorem dX8_brings_17 : decode cX8_brings 17 = .ok (.getfield 158, 3) := by decide +kernel
theorem dX8_brings_20 : decode cX8_brings 20 = .ok (.ifCond .ne 6, 3) := by decide +kernel
theorem dX8_brings_23 : decode cX8_brings 23 = .ok (.bipush (-4), 2) := by decide +kernel
theorem dX8_brings_25 : decode cX8_brings 25 = .ok (.ireturn, 1) := by decide +kernel
theorem dX8_brings_26 : decode cX8_brings 26 = .ok (.aload_n 0, 1) := by decide +kernel
theorem dX8_brings_27 : decode cX8_brings 27 = .ok (.getfield 14, 3) := by decide +kernel
theorem dX8_brings_30 : decode cX8_brings 30 = .ok (.iload_n 1, 1) := by decide +kernel
theorem dX8_brings_31 : decode cX8_brings 31 = .ok (.invokevirtual 131, 3) := by decide +kernel
theorem dX8_brings_34 : decode cX8_brings 34 = .ok (.ifCond .ne 9, 3) := by decide +kernel
theorem dX8_brings_37 : decode cX8_brings 37 = .ok (.aload_n 0, 1) := by decide +kernel
theorem dX8_brings_38 : decode cX8_brings 38 = .ok (.iconst 1, 1) := by decide +kernel
theorem dX8_brings_39 : decode cX8_brings 39 = .ok (.invokevirtual 128, 3) := by decide +kernel
theorem dX8_brings_42 : decode cX8_brings 42 = .ok (.ireturn, 1) := by decide +kernel
theorem dX8_brings_43 : decode cX8_brings 43 = .ok (.aload_n 0, 1) := by decide +kernel
theorem dX8_brings_44 : decode cX8_brings 44 = .ok (.getfield 14, 3) := by decide +kernel
theorem dX8_brings_47 : decode cX8_brings 47 = .ok (.iload_n 1, 1) := by decide +kernel
theorem dX8_brings_48 : decode cX8_brings 48 = .ok (.invokevirtual 142, 3) := by decide +kernel
theorem dX8_brings_51 : decode cX8_brings 51 = .ok (.bipush 10, 2) := by decide +kernel
theorem dX8_brings_53 : decode cX8_brings 53 = .ok (.if_icmp .le 9, 3) := by decide +kernel
theorem dX8_brings_56 : decode cX8_brings 56 = .ok (.aload_n 0, 1) := by decide +kernel
theorem dX8_brings_57 : decode cX8_brings 57 = .ok (.iconst 5, 1) := by decide +kernel
theorem dX8_brings_58 : decode cX8_brings 58 = .ok (.invokevirtual 128, 3) := by decide +kernel
theorem dX8_brings_61 : decode cX8_brings 61 = .ok (.ireturn, 1) := by decide +kernel
theorem dX8_brings_62 : decode cX8_brings 62 = .ok (.aload_n 0, 1) := by decide +kernel
theorem dX8_brings_63 : decode cX8_brings 63 = .ok (.iload_n 1, 1) := by decide +kernel
theorem dX8_brings_64 : decode cX8_brings 64 = .ok (.invokevirtual 224, 3) := by decide +kernel
theorem dX8_brings_67 : decode cX8_brings 67 = .ok (.ifCond .ne 9, 3) := by decide +kernel
theorem dX8_brings_70 : decode cX8_brings 70 = .ok (.aload_n 0, 1) := by decide +kernel
theorem dX8_brings_71 : decode cX8_brings 71 = .ok (.iconst 3, 1) := by decide +kernel
theorem dX8_brings_72 : decode cX8_brings 72 = .ok (.invokevirtual 128, 3) := by decide +kernel
theorem dX8_brings_75 : decode cX8_brings 75 = .ok (.ireturn, 1) := by decide +kernel
theorem dX8_brings_76 : decode cX8_brings 76 = .ok (.aload_n 0, 1) := by decide +kernel
theorem dX8_brings_77 : decode cX8_brings 77 = .ok (.getfield 34, 3) := by decide +kernel
theorem dX8_brings_80 : decode cX8_brings 80 = .ok (.aload_n 0, 1) := by decide +kernel
theorem dX8_brings_81 : decode cX8_brings 81 = .ok (.getfield 31, 3) := by decide +kernel
theorem dX8_brings_84 : decode cX8_brings 84 = .ok (.invokevirtual 151, 3) := by decide +kernel
theorem dX8_brings_87 : decode cX8_brings 87 = .ok (.iconst 0, 1) := by decide +kernel
theorem dX8_brings_88 : decode cX8_brings 88 = .ok (.istore_n 2, 1) := by decide +kernel
theorem dX8_brings_89 : decode cX8_brings 89 = .ok (.iconst 0, 1) := by decide +kernel
theorem dX8_brings_90 : decode cX8_brings 90 = .ok (.istore_n 3, 1) := by decide +kernel
theorem dX8_brings_91 : decode cX8_brings 91 = .ok (.iload_n 3, 1) := by decide +kernel
theorem dX8_brings_92 : decode cX8_brings 92 = .ok (.aload_n 0, 1) := by decide +kernel
theorem dX8_brings_93 : decode cX8_brings 93 = .ok (.getfield 14, 3) := by decide +kernel
theorem dX8_brings_96 : decode cX8_brings 96 = .ok (.iload_n 1, 1) := by decide +kernel
theorem dX8_brings_97 : decode cX8_brings 97 = .ok (.invokevirtual 142, 3) := by decide +kernel
theorem dX8_brings_100 : decode cX8_brings 100 = .ok (.if_icmp .ge 36, 3) := by decide +kernel
theorem dX8_brings_103 : decode cX8_brings 103 = .ok (.aload_n 0, 1) := by decide +kernel
theorem dX8_brings_104 : decode cX8_brings 104 = .ok (.getfield 34, 3) := by decide +kernel
theorem dX8_brings_107 : decode cX8_brings 107 = .ok (.invokevirtual 227, 3) := by decide +kernel
theorem dX8_brings_110 : decode cX8_brings 110 = .ok (.pop, 1) := by decide +kernel
theorem dX8_brings_111 : decode cX8_brings 111 = .ok (.iload_n 2, 1) := by decide +kernel
theorem dX8_brings_112 : decode cX8_brings 112 = .ok (.aload_n 0, 1) := by decide +kernel
theorem dX8_brings_113 : decode cX8_brings 113 = .ok (.getfield 34, 3) := by decide +kernel
theorem dX8_brings_116 : decode cX8_brings 116 = .ok (.aload_n 0, 1) := by decide +kernel
theorem dX8_brings_117 : decode cX8_brings 117 = .ok (.getfield 14, 3) := by decide +kernel
theorem dX8_brings_120 : decode cX8_brings 120 = .ok (.iload_n 1, 1) := by decide +kernel
theorem dX8_brings_121 : decode cX8_brings 121 = .ok (.iload_n 3, 1) := by decide +kernel
theorem dX8_brings_122 : decode cX8_brings 122 = .ok (.invokevirtual 104, 3) := by decide +kernel
theorem dX8_brings_125 : decode cX8_brings 125 = .ok (.invokevirtual 231, 3) := by decide +kernel
theorem dX8_brings_128 : decode cX8_brings 128 = .ok (.iadd, 1) := by decide +kernel
theorem dX8_brings_129 : decode cX8_brings 129 = .ok (.istore_n 2, 1) := by decide +kernel
theorem dX8_brings_130 : decode cX8_brings 130 = .ok (.iinc 3 1, 3) := by decide +kernel
theorem dX8_brings_133 : decode cX8_brings 133 = .ok (.goto (-42), 3) := by decide +kernel
theorem dX8_brings_136 : decode cX8_brings 136 = .ok (.aload_n 0, 1) := by decide +kernel
theorem dX8_brings_137 : decode cX8_brings 137 = .ok (.aload_n 0, 1) := by decide +kernel
theorem dX8_brings_138 : decode cX8_brings 138 = .ok (.getfield 34, 3) := by decide +kernel
theorem dX8_brings_141 : decode cX8_brings 141 = .ok (.invokevirtual 234, 3) := by decide +kernel
theorem dX8_brings_144 : decode cX8_brings 144 = .ok (.aload_n 0, 1) := by decide +kernel
theorem dX8_brings_145 : decode cX8_brings 145 = .ok (.getfield 31, 3) := by decide +kernel
theorem dX8_brings_148 : decode cX8_brings 148 = .ok (.invokevirtual 234, 3) := by decide +kernel
theorem dX8_brings_151 : decode cX8_brings 151 = .ok (.isub, 1) := by decide +kernel
theorem dX8_brings_152 : decode cX8_brings 152 = .ok (.putfield 80, 3) := by decide +kernel
theorem dX8_brings_155 : decode cX8_brings 155 = .ok (.iload_n 2, 1) := by decide +kernel
theorem dX8_brings_156 : decode cX8_brings 156 = .ok (.ireturn, 1) := by decide +kernel
theorem dX8_marry_0 : decode cX8_marry 0 = .ok (.aload_n 0, 1) := by decide +kernel
theorem dX8_marry_1 : decode cX8_marry 1 = .ok (.getfield 14, 3) := by decide +kernel
theorem dX8_marry_4 : decode cX8_marry 4 = .ok (.iload_n 1, 1) := by decide +kernel
theorem dX8_marry_5 : decode cX8_marry 5 = .ok (.invokevirtual 124, 3) := by decide +kernel
theorem dX8_marry_8 : decode cX8_marry 8 = .ok (.ifCond .ne 5, 3) := by decide +kernel
theorem dX8_marry_11 : decode cX8_marry 11 = .ok (.iconst (-1), 1) := by decide +kernel
theorem dX8_marry_12 : decode cX8_marry 12 = .ok (.ireturn, 1) := by decide +kernel
theorem dX8_marry_13 : decode cX8_marry 13 = .ok (.aload_n 0, 1) := by decide +kernel
theorem dX8_marry_14 : decode cX8_marry 14 = .ok (.getfield 31, 3) := by decide +kernel
theorem dX8_marry_17 : decode cX8_marry 17 = .ok (.getfield 158, 3) := by decide +kernel
theorem dX8_marry_20 : decode cX8_marry 20 = .ok (.ifCond .ne 6, 3) := by decide +kernel
theorem dX8_marry_23 : decode cX8_marry 23 = .ok (.bipush (-4), 2) := by decide +kernel
theorem dX8_marry_25 : decode cX8_marry 25 = .ok (.ireturn, 1) := by decide +kernel
theorem dX8_marry_26 : decode cX8_marry 26 = .ok (.aload_n 0, 1) := by decide +kernel
theorem dX8_marry_27 : decode cX8_marry 27 = .ok (.getfield 62, 3) := by decide +kernel
theorem dX8_marry_30 : decode cX8_marry 30 = .ok (.aload_n 0, 1) := by decide +kernel
theorem dX8_marry_31 : decode cX8_marry 31 = .ok (.getfield 31, 3) := by decide +kernel
theorem dX8_marry_34 : decode cX8_marry 34 = .ok (.invokevirtual 237, 3) := by decide +kernel
theorem dX8_marry_37 : decode cX8_marry 37 = .ok (.istore_n 2, 1) := by decide +kernel
theorem dX8_marry_38 : decode cX8_marry 38 = .ok (.aload_n 0, 1) := by decide +kernel
theorem dX8_marry_39 : decode cX8_marry 39 = .ok (.getfield 14, 3) := by decide +kernel
theorem dX8_marry_42 : decode cX8_marry 42 = .ok (.iload_n 1, 1) := by decide +kernel
theorem dX8_marry_43 : decode cX8_marry 43 = .ok (.aload_n 0, 1) := by decide +kernel
theorem dX8_marry_44 : decode cX8_marry 44 = .ok (.getfield 31, 3) := by decide +kernel
theorem dX8_marry_47 : decode cX8_marry 47 = .ok (.getfield 158, 3) := by decide +kernel
theorem dX8_marry_50 : decode cX8_marry 50 = .ok (.aload_n 0, 1) := by decide +kernel
theorem dX8_marry_51 : decode cX8_marry 51 = .ok (.getfield 62, 3) := by decide +kernel
theorem dX8_marry_54 : decode cX8_marry 54 = .ok (.getfield 241, 3) := by decide +kernel
theorem dX8_marry_57 : decode cX8_marry 57 = .ok (.invokevirtual 197, 3) := by decide +kernel
theorem dX8_marry_60 : decode cX8_marry 60 = .ok (.iload_n 2, 1) := by decide +kernel
theorem dX8_marry_61 : decode cX8_marry 61 = .ok (.ireturn, 1) := by decide +kernel
theorem dX8_rather_0 : decode cX8_rather 0 = .ok (.aload_n 0, 1) := by decide +kernel
theorem dX8_rather_1 : decode cX8_rather 1 = .ok (.getfield 31, 3) := by decide +kernel
theorem dX8_rather_4 : decode cX8_rather 4 = .ok (.getfield 158, 3) := by decide +kernel
theorem dX8_rather_7 : decode cX8_rather 7 = .ok (.ifCond .ne 6, 3) := by decide +kernel
theorem dX8_rather_10 : decode cX8_rather 10 = .ok (.bipush (-4), 2) := by decide +kernel
theorem dX8_rather_12 : decode cX8_rather 12 = .ok (.ireturn, 1) := by decide +kernel
theorem dX8_rather_13 : decode cX8_rather 13 = .ok (.iconst 0, 1) := by decide +kernel
theorem dX8_rather_14 : decode cX8_rather 14 = .ok (.istore_n 1, 1) := by decide +kernel
theorem dX8_rather_15 : decode cX8_rather 15 = .ok (.bipush (-9), 2) := by decide +kernel
theorem dX8_rather_17 : decode cX8_rather 17 = .ok (.istore_n 2, 1) := by decide +kernel
theorem dX8_rather_18 : decode cX8_rather 18 = .ok (.iconst 0, 1) := by decide +kernel
theorem dX8_rather_19 : decode cX8_rather 19 = .ok (.istore_n 3, 1) := by decide +kernel
theorem dX8_rather_20 : decode cX8_rather 20 = .ok (.iload_n 3, 1) := by decide +kernel
theorem dX8_rather_21 : decode cX8_rather 21 = .ok (.aload_n 0, 1) := by decide +kernel
theorem dX8_rather_22 : decode cX8_rather 22 = .ok (.getfield 31, 3) := by decide +kernel
theorem dX8_rather_25 : decode cX8_rather 25 = .ok (.getfield 158, 3) := by decide +kernel
theorem dX8_rather_28 : decode cX8_rather 28 = .ok (.if_icmp .ge 97, 3) := by decide +kernel
theorem dX8_rather_31 : decode cX8_rather 31 = .ok (.iload_n 3, 1) := by decide +kernel
theorem dX8_rather_32 : decode cX8_rather 32 = .ok (.iconst 1, 1) := by decide +kernel
theorem dX8_rather_33 : decode cX8_rather 33 = .ok (.iadd, 1) := by decide +kernel
theorem dX8_rather_34 : decode cX8_rather 34 = .ok (.istore 4, 2) := by decide +kernel
theorem dX8_rather_36 : decode cX8_rather 36 = .ok (.iload 4, 2) := by decide +kernel
theorem dX8_rather_38 : decode cX8_rather 38 = .ok (.aload_n 0, 1) := by decide +kernel
theorem dX8_rather_39 : decode cX8_rather 39 = .ok (.getfield 31, 3) := by decide +kernel
theorem dX8_rather_42 : decode cX8_rather 42 = .ok (.getfield 158, 3) := by decide +kernel
theorem dX8_rather_45 : decode cX8_rather 45 = .ok (.if_icmp .ge 74, 3) := by decide +kernel
theorem dX8_rather_48 : decode cX8_rather 48 = .ok (.aload_n 0, 1) := by decide +kernel
theorem dX8_rather_49 : decode cX8_rather 49 = .ok (.getfield 31, 3) := by decide +kernel
theorem dX8_rather_52 : decode cX8_rather 52 = .ok (.iload_n 3, 1) := by decide +kernel
theorem dX8_rather_53 : decode cX8_rather 53 = .ok (.iload 4, 2) := by decide +kernel
theorem dX8_rather_55 : decode cX8_rather 55 = .ok (.invokevirtual 242, 3) := by decide +kernel
theorem dX8_rather_58 : decode cX8_rather 58 = .ok (.aload_n 0, 1) := by decide +kernel
theorem dX8_rather_59 : decode cX8_rather 59 = .ok (.getfield 31, 3) := by decide +kernel
theorem dX8_rather_62 : decode cX8_rather 62 = .ok (.iload_n 3, 1) := by decide +kernel
theorem dX8_rather_63 : decode cX8_rather 63 = .ok (.iload_n 3, 1) := by decide +kernel
theorem dX8_rather_64 : decode cX8_rather 64 = .ok (.invokevirtual 242, 3) := by decide +kernel
theorem dX8_rather_67 : decode cX8_rather 67 = .ok (.if_icmp .ge 46, 3) := by decide +kernel
theorem dX8_rather_70 : decode cX8_rather 70 = .ok (.aload_n 0, 1) := by decide +kernel
theorem dX8_rather_71 : decode cX8_rather 71 = .ok (.getfield 31, 3) := by decide +kernel
theorem dX8_rather_74 : decode cX8_rather 74 = .ok (.iload 4, 2) := by decide +kernel
theorem dX8_rather_76 : decode cX8_rather 76 = .ok (.iload_n 3, 1) := by decide +kernel
theorem dX8_rather_77 : decode cX8_rather 77 = .ok (.invokevirtual 242, 3) := by decide +kernel
theorem dX8_rather_80 : decode cX8_rather 80 = .ok (.aload_n 0, 1) := by decide +kernel
theorem dX8_rather_81 : decode cX8_rather 81 = .ok (.getfield 31, 3) := by decide +kernel
theorem dX8_rather_84 : decode cX8_rather 84 = .ok (.iload 4, 2) := by decide +kernel
theorem dX8_rather_86 : decode cX8_rather 86 = .ok (.iload 4, 2) := by decide +kernel
theorem dX8_rather_88 : decode cX8_rather 88 = .ok (.invokevirtual 242, 3) := by decide +kernel
theorem dX8_rather_91 : decode cX8_rather 91 = .ok (.if_icmp .ge 22, 3) := by decide +kernel
theorem dX8_rather_94 : decode cX8_rather 94 = .ok (.iload_n 1, 1) := by decide +kernel
theorem dX8_rather_95 : decode cX8_rather 95 = .ok (.ifCond .ne 13, 3) := by decide +kernel
theorem dX8_rather_98 : decode cX8_rather 98 = .ok (.bipush 10, 2) := by decide +kernel
theorem dX8_rather_100 : decode cX8_rather 100 = .ok (.iload_n 3, 1) := by decide +kernel
theorem dX8_rather_101 : decode cX8_rather 101 = .ok (.imul, 1) := by decide +kernel
theorem dX8_rather_102 : decode cX8_rather 102 = .ok (.iload 4, 2) := by decide +kernel
theorem dX8_rather_104 : decode cX8_rather 104 = .ok (.iadd, 1) := by decide +kernel
theorem dX8_rather_105 : decode cX8_rather 105 = .ok (.goto 4, 3) := by decide +kernel
theorem dX8_rather_108 : decode cX8_rather 108 = .ok (.iload_n 2, 1) := by decide +kernel
theorem dX8_rather_109 : decode cX8_rather 109 = .ok (.istore_n 2, 1) := by decide +kernel
theorem dX8_rather_110 : decode cX8_rather 110 = .ok (.iinc 1 1, 3) := by decide +kernel
theorem dX8_rather_113 : decode cX8_rather 113 = .ok (.iinc 4 1, 3) := by decide +kernel
theorem dX8_rather_116 : decode cX8_rather 116 = .ok (.goto (-80), 3) := by decide +kernel
theorem dX8_rather_119 : decode cX8_rather 119 = .ok (.iinc 3 1, 3) := by decide +kernel
theorem dX8_rather_122 : decode cX8_rather 122 = .ok (.goto (-102), 3) := by decide +kernel
theorem dX8_rather_125 : decode cX8_rather 125 = .ok (.aload_n 0, 1) := by decide +kernel
theorem dX8_rather_126 : decode cX8_rather 126 = .ok (.iload_n 2, 1) := by decide +kernel
theorem dX8_rather_127 : decode cX8_rather 127 = .ok (.putfield 80, 3) := by decide +kernel
theorem dX8_rather_130 : decode cX8_rather 130 = .ok (.iload_n 1, 1) := by decide +kernel
theorem dX8_rather_131 : decode cX8_rather 131 = .ok (.ireturn, 1) := by decide +kernel
theorem dX8_thicks_0 : decode cX8_thicks 0 = .ok (.aload_n 0, 1) := by decide +kernel
theorem dX8_thicks_1 : decode cX8_thicks 1 = .ok (.iload_n 1, 1) := by decide +kernel
theorem dX8_thicks_2 : decode cX8_thicks 2 = .ok (.iload_n 2, 1) := by decide +kernel
theorem dX8_thicks_3 : decode cX8_thicks 3 = .ok (.invokevirtual 245, 3) := by decide +kernel
theorem dX8_thicks_6 : decode cX8_thicks 6 = .ok (.istore_n 3, 1) := by decide +kernel
theorem dX8_thicks_7 : decode cX8_thicks 7 = .ok (.iload_n 3, 1) := by decide +kernel
theorem dX8_thicks_8 : decode cX8_thicks 8 = .ok (.ifCond .eq 7, 3) := by decide +kernel
theorem dX8_thicks_11 : decode cX8_thicks 11 = .ok (.iload_n 3, 1) := by decide +kernel
theorem dX8_thicks_12 : decode cX8_thicks 12 = .ok (.goto 23, 3) := by decide +kernel
theorem dX8_thicks_15 : decode cX8_thicks 15 = .ok (.aload_n 0, 1) := by decide +kernel
theorem dX8_thicks_16 : decode cX8_thicks 16 = .ok (.getfield 69, 3) := by decide +kernel
theorem dX8_thicks_19 : decode cX8_thicks 19 = .ok (.aload_n 0, 1) := by decide +kernel
theorem dX8_thicks_20 : decode cX8_thicks 20 = .ok (.getfield 31, 3) := by decide +kernel
theorem dX8_thicks_23 : decode cX8_thicks 23 = .ok (.iload_n 1, 1) := by decide +kernel
theorem dX8_thicks_24 : decode cX8_thicks 24 = .ok (.aload_n 0, 1) := by decide +kernel
theorem dX8_thicks_25 : decode cX8_thicks 25 = .ok (.getfield 31, 3) := by decide +kernel
theorem dX8_thicks_28 : decode cX8_thicks 28 = .ok (.iload_n 1, 1) := by decide +kernel
theorem dX8_thicks_29 : decode cX8_thicks 29 = .ok (.invokevirtual 167, 3) := by decide +kernel
theorem dX8_thicks_32 : decode cX8_thicks 32 = .ok (.invokevirtual 248, 3) := by decide +kernel
theorem dX8_thicks_35 : decode cX8_thicks 35 = .ok (.ireturn, 1) := by decide +kernel
theorem dX8_kinds_0 : decode cX8_kinds 0 = .ok (.aload_n 0, 1) := by decide +kernel
theorem dX8_kinds_1 : decode cX8_kinds 1 = .ok (.iload_n 1, 1) := by decide +kernel
theorem dX8_kinds_2 : decode cX8_kinds 2 = .ok (.iload_n 2, 1) := by decide +kernel
theorem dX8_kinds_3 : decode cX8_kinds 3 = .ok (.invokevirtual 245, 3) := by decide +kernel
theorem dX8_kinds_6 : decode cX8_kinds 6 = .ok (.istore_n 3, 1) := by decide +kernel
theorem dX8_kinds_7 : decode cX8_kinds 7 = .ok (.iload_n 3, 1) := by decide +kernel
theorem dX8_kinds_8 : decode cX8_kinds 8 = .ok (.ifCond .eq 7, 3) := by decide +kernel
theorem dX8_kinds_11 : decode cX8_kinds 11 = .ok (.iload_n 3, 1) := by decide +kernel
theorem dX8_kinds_12 : decode cX8_kinds 12 = .ok (.goto 23, 3) := by decide +kernel
theorem dX8_kinds_15 : decode cX8_kinds 15 = .ok (.aload_n 0, 1) := by decide +kernel
theorem dX8_kinds_16 : decode cX8_kinds 16 = .ok (.getfield 69, 3) := by decide +kernel
theorem dX8_kinds_19 : decode cX8_kinds 19 = .ok (.aload_n 0, 1) := by decide +kernel
theorem dX8_kinds_20 : decode cX8_kinds 20 = .ok (.getfield 31, 3) := by decide +kernel
theorem dX8_kinds_23 : decode cX8_kinds 23 = .ok (.iload_n 1, 1) := by decide +kernel
theorem dX8_kinds_24 : decode cX8_kinds 24 = .ok (.aload_n 0, 1) := by decide +kernel
theorem dX8_kinds_25 : decode cX8_kinds 25 = .ok (.getfield 31, 3) := by decide +kernel
theorem dX8_kinds_28 : decode cX8_kinds 28 = .ok (.iload_n 1, 1) := by decide +kernel
theorem dX8_kinds_29 : decode cX8_kinds 29 = .ok (.invokevirtual 174, 3) := by decide +kernel
theorem dX8_kinds_32 : decode cX8_kinds 32 = .ok (.invokevirtual 252, 3) := by decide +kernel
theorem dX8_kinds_35 : decode cX8_kinds 35 = .ok (.ireturn, 1) := by decide +kernel
theorem dX8_test_0 : decode cX8_test 0 = .ok (.aload_n 0, 1) := by decide +kernel
theorem dX8_test_1 : decode cX8_test 1 = .ok (.iload_n 1, 1) := by decide +kernel
theorem dX8_test_2 : decode cX8_test 2 = .ok (.iload_n 2, 1) := by decide +kernel
theorem dX8_test_3 : decode cX8_test 3 = .ok (.invokevirtual 245, 3) := by decide +kernel
theorem dX8_test_6 : decode cX8_test 6 = .ok (.istore_n 3, 1) := by decide +kernel
theorem dX8_test_7 : decode cX8_test 7 = .ok (.iload_n 3, 1) := by decide +kernel
theorem dX8_test_8 : decode cX8_test 8 = .ok (.ifCond .eq 5, 3) := by decide +kernel
theorem dX8_test_11 : decode cX8_test 11 = .ok (.iload_n 3, 1) := by decide +kernel
theorem dX8_test_12 : decode cX8_test 12 = .ok (.ireturn, 1) := by decide +kernel
theorem dX8_test_13 : decode cX8_test 13 = .ok (.aload_n 0, 1) := by decide +kernel
theorem dX8_test_14 : decode cX8_test 14 = .ok (.getfield 69, 3) := by decide +kernel
theorem dX8_test_17 : decode cX8_test 17 = .ok (.aload_n 0, 1) := by decide +kernel
theorem dX8_test_18 : decode cX8_test 18 = .ok (.getfield 31, 3) := by decide +kernel
theorem dX8_test_21 : decode cX8_test 21 = .ok (.iload_n 1, 1) := by decide +kernel
theorem dX8_test_22 : decode cX8_test 22 = .ok (.invokevirtual 255, 3) := by decide +kernel
theorem dX8_test_25 : decode cX8_test 25 = .ok (.istore 4, 2) := by decide +kernel
theorem dX8_test_27 : decode cX8_test 27 = .ok (.iload 4, 2) := by decide +kernel
theorem dX8_test_29 : decode cX8_test 29 = .ok (.bipush (-9), 2) := by decide +kernel
theorem dX8_test_31 : decode cX8_test 31 = .ok (.if_icmp .eq 14, 3) := by decide +kernel
theorem dX8_test_34 : decode cX8_test 34 = .ok (.aload_n 0, 1) := by decide +kernel
theorem dX8_test_35 : decode cX8_test 35 = .ok (.aload_n 0, 1) := by decide +kernel
theorem dX8_test_36 : decode cX8_test 36 = .ok (.getfield 69, 3) := by decide +kernel
theorem dX8_test_39 : decode cX8_test 39 = .ok (.getfield 258, 3) := by decide +kernel
theorem dX8_test_42 : decode cX8_test 42 = .ok (.putfield 80, 3) := by decide +kernel
theorem dX8_test_45 : decode cX8_test 45 = .ok (.iload 4, 2) := by decide +kernel
theorem dX8_test_47 : decode cX8_test 47 = .ok (.ireturn, 1) := by decide +kernel
theorem dX8_duel_0 : decode cX8_duel 0 = .ok (.iload_n 1, 1) := by decide +kernel
theorem dX8_duel_1 : decode cX8_duel 1 = .ok (.ifCond .lt 8, 3) := by decide +kernel
theorem dX8_duel_4 : decode cX8_duel 4 = .ok (.iload_n 1, 1) := by decide +kernel
theorem dX8_duel_5 : decode cX8_duel 5 = .ok (.iconst 4, 1) := by decide +kernel
theorem dX8_duel_6 : decode cX8_duel 6 = .ok (.if_icmp .le 5, 3) := by decide +kernel
theorem dX8_duel_9 : decode cX8_duel 9 = .ok (.iconst (-1), 1) := by decide +kernel
theorem dX8_duel_10 : decode cX8_duel 10 = .ok (.ireturn, 1) := by decide +kernel
theorem dX8_duel_11 : decode cX8_duel 11 = .ok (.aload_n 0, 1) := by decide +kernel
theorem dX8_duel_12 : decode cX8_duel 12 = .ok (.getfield 31, 3) := by decide +kernel
theorem dX8_duel_15 : decode cX8_duel 15 = .ok (.getfield 158, 3) := by decide +kernel
theorem dX8_duel_18 : decode cX8_duel 18 = .ok (.ifCond .ne 8, 3) := by decide +kernel
theorem dX8_duel_21 : decode cX8_duel 21 = .ok (.bipush (-4), 2) := by decide +kernel
theorem dX8_duel_23 : decode cX8_duel 23 = .ok (.goto 16, 3) := by decide +kernel
theorem dX8_duel_26 : decode cX8_duel 26 = .ok (.aload_n 0, 1) := by decide +kernel
theorem dX8_duel_27 : decode cX8_duel 27 = .ok (.getfield 76, 3) := by decide +kernel
theorem dX8_duel_30 : decode cX8_duel 30 = .ok (.aload_n 0, 1) := by decide +kernel
theorem dX8_duel_31 : decode cX8_duel 31 = .ok (.getfield 31, 3) := by decide +kernel
theorem dX8_duel_34 : decode cX8_duel 34 = .ok (.iconst 0, 1) := by decide +kernel
theorem dX8_duel_35 : decode cX8_duel 35 = .ok (.iload_n 1, 1) := by decide +kernel
theorem dX8_duel_36 : decode cX8_duel 36 = .ok (.invokevirtual 261, 3) := by decide +kernel
theorem dX8_duel_39 : decode cX8_duel 39 = .ok (.ireturn, 1) := by decide +kernel
theorem dX8_odds_0 : decode cX8_odds 0 = .ok (.iload_n 1, 1) := by decide +kernel
theorem dX8_odds_1 : decode cX8_odds 1 = .ok (.ifCond .lt 19, 3) := by decide +kernel
theorem dX8_odds_4 : decode cX8_odds 4 = .ok (.iload_n 1, 1) := by decide +kernel
theorem dX8_odds_5 : decode cX8_odds 5 = .ok (.bipush 6, 2) := by decide +kernel
theorem dX8_odds_7 : decode cX8_odds 7 = .ok (.if_icmp .gt 13, 3) := by decide +kernel
theorem dX8_odds_10 : decode cX8_odds 10 = .ok (.iload_n 2, 1) := by decide +kernel
theorem dX8_odds_11 : decode cX8_odds 11 = .ok (.ifCond .lt 9, 3) := by decide +kernel
theorem dX8_odds_14 : decode cX8_odds 14 = .ok (.iload_n 2, 1) := by decide +kernel
theorem dX8_odds_15 : decode cX8_odds 15 = .ok (.bipush 12, 2) := by decide +kernel
theorem dX8_odds_17 : decode cX8_odds 17 = .ok (.if_icmp .le 5, 3) := by decide +kernel
theorem dX8_odds_20 : decode cX8_odds 20 = .ok (.iconst (-1), 1) := by decide +kernel
theorem dX8_odds_21 : decode cX8_odds 21 = .ok (.ireturn, 1) := by decide +kernel
theorem dX8_odds_22 : decode cX8_odds 22 = .ok (.aload_n 0, 1) := by decide +kernel
theorem dX8_odds_23 : decode cX8_odds 23 = .ok (.getfield 31, 3) := by decide +kernel
theorem dX8_odds_26 : decode cX8_odds 26 = .ok (.getfield 158, 3) := by decide +kernel
theorem dX8_odds_29 : decode cX8_odds 29 = .ok (.ifCond .ne 6, 3) := by decide +kernel
theorem dX8_odds_32 : decode cX8_odds 32 = .ok (.bipush (-4), 2) := by decide +kernel
theorem dX8_odds_34 : decode cX8_odds 34 = .ok (.ireturn, 1) := by decide +kernel
theorem dX8_odds_35 : decode cX8_odds 35 = .ok (.aload_n 0, 1) := by decide +kernel
theorem dX8_odds_36 : decode cX8_odds 36 = .ok (.getfield 31, 3) := by decide +kernel
theorem dX8_odds_39 : decode cX8_odds 39 = .ok (.invokevirtual 264, 3) := by decide +kernel
theorem dX8_odds_42 : decode cX8_odds 42 = .ok (.istore_n 3, 1) := by decide +kernel
theorem dX8_odds_43 : decode cX8_odds 43 = .ok (.lconst 0, 1) := by decide +kernel
theorem dX8_odds_44 : decode cX8_odds 44 = .ok (.lstore 4, 2) := by decide +kernel
theorem dX8_odds_46 : decode cX8_odds 46 = .ok (.iconst 0, 1) := by decide +kernel
theorem dX8_odds_47 : decode cX8_odds 47 = .ok (.istore 6, 2) := by decide +kernel
theorem dX8_odds_49 : decode cX8_odds 49 = .ok (.iload 6, 2) := by decide +kernel
theorem dX8_odds_51 : decode cX8_odds 51 = .ok (.bipush 64, 2) := by decide +kernel
theorem dX8_odds_53 : decode cX8_odds 53 = .ok (.if_icmp .ge 39, 3) := by decide +kernel
theorem dX8_odds_56 : decode cX8_odds 56 = .ok (.iload 6, 2) := by decide +kernel
theorem dX8_odds_58 : decode cX8_odds 58 = .ok (.iload_n 3, 1) := by decide +kernel
theorem dX8_odds_59 : decode cX8_odds 59 = .ok (.iconst (-1), 1) := by decide +kernel
theorem dX8_odds_60 : decode cX8_odds 60 = .ok (.ixor, 1) := by decide +kernel
theorem dX8_odds_61 : decode cX8_odds 61 = .ok (.iand, 1) := by decide +kernel
theorem dX8_odds_62 : decode cX8_odds 62 = .ok (.ifCond .ne 24, 3) := by decide +kernel
theorem dX8_odds_65 : decode cX8_odds 65 = .ok (.iload 6, 2) := by decide +kernel
theorem dX8_odds_67 : decode cX8_odds 67 = .ok (.invokestatic 267, 3) := by decide +kernel
theorem dX8_odds_70 : decode cX8_odds 70 = .ok (.iload_n 1, 1) := by decide +kernel
theorem dX8_odds_71 : decode cX8_odds 71 = .ok (.if_icmp .lt 15, 3) := by decide +kernel
theorem dX8_odds_74 : decode cX8_odds 74 = .ok (.lload 4, 2) := by decide +kernel
theorem dX8_odds_76 : decode cX8_odds 76 = .ok (.iload 6, 2) := by decide +kernel
theorem dX8_odds_78 : decode cX8_odds 78 = .ok (.iload_n 3, 1) := by decide +kernel
theorem dX8_odds_79 : decode cX8_odds 79 = .ok (.iload_n 2, 1) := by decide +kernel
theorem dX8_odds_80 : decode cX8_odds 80 = .ok (.invokestatic 272, 3) := by decide +kernel
theorem dX8_odds_83 : decode cX8_odds 83 = .ok (.ladd, 1) := by decide +kernel
theorem dX8_odds_84 : decode cX8_odds 84 = .ok (.lstore 4, 2) := by decide +kernel
theorem dX8_odds_86 : decode cX8_odds 86 = .ok (.iinc 6 1, 3) := by decide +kernel
theorem dX8_odds_89 : decode cX8_odds 89 = .ok (.goto (-40), 3) := by decide +kernel
theorem dX8_odds_92 : decode cX8_odds 92 = .ok (.aload_n 0, 1) := by decide +kernel
theorem dX8_odds_93 : decode cX8_odds 93 = .ok (.lload 4, 2) := by decide +kernel
theorem dX8_odds_95 : decode cX8_odds 95 = .ok (.bipush 12, 2) := by decide +kernel
theorem dX8_odds_97 : decode cX8_odds 97 = .ok (.iload_n 3, 1) := by decide +kernel
theorem dX8_odds_98 : decode cX8_odds 98 = .ok (.invokestatic 267, 3) := by decide +kernel
theorem dX8_odds_101 : decode cX8_odds 101 = .ok (.invokestatic 276, 3) := by decide +kernel
theorem dX8_odds_104 : decode cX8_odds 104 = .ok (.invokevirtual 280, 3) := by decide +kernel
theorem dX8_odds_107 : decode cX8_odds 107 = .ok (.ireturn, 1) := by decide +kernel
theorem dX8_mid_0 : decode cX8_mid 0 = .ok (.iload_n 1, 1) := by decide +kernel
theorem dX8_mid_1 : decode cX8_mid 1 = .ok (.ifCond .lt 9, 3) := by decide +kernel
theorem dX8_mid_4 : decode cX8_mid 4 = .ok (.iload_n 1, 1) := by decide +kernel
theorem dX8_mid_5 : decode cX8_mid 5 = .ok (.bipush 12, 2) := by decide +kernel
theorem dX8_mid_7 : decode cX8_mid 7 = .ok (.if_icmp .le 5, 3) := by decide +kernel
theorem dX8_mid_10 : decode cX8_mid 10 = .ok (.iconst (-1), 1) := by decide +kernel
theorem dX8_mid_11 : decode cX8_mid 11 = .ok (.ireturn, 1) := by decide +kernel
theorem dX8_mid_12 : decode cX8_mid 12 = .ok (.aload_n 0, 1) := by decide +kernel
theorem dX8_mid_13 : decode cX8_mid 13 = .ok (.getfield 31, 3) := by decide +kernel
theorem dX8_mid_16 : decode cX8_mid 16 = .ok (.getfield 158, 3) := by decide +kernel
theorem dX8_mid_19 : decode cX8_mid 19 = .ok (.ifCond .ne 6, 3) := by decide +kernel
theorem dX8_mid_22 : decode cX8_mid 22 = .ok (.bipush (-4), 2) := by decide +kernel
theorem dX8_mid_24 : decode cX8_mid 24 = .ok (.ireturn, 1) := by decide +kernel
theorem dX8_mid_25 : decode cX8_mid 25 = .ok (.aload_n 0, 1) := by decide +kernel
theorem dX8_mid_26 : decode cX8_mid 26 = .ok (.getfield 31, 3) := by decide +kernel
theorem dX8_mid_29 : decode cX8_mid 29 = .ok (.invokevirtual 264, 3) := by decide +kernel
theorem dX8_mid_32 : decode cX8_mid 32 = .ok (.istore_n 2, 1) := by decide +kernel
theorem dX8_mid_33 : decode cX8_mid 33 = .ok (.lconst 0, 1) := by decide +kernel
theorem dX8_mid_34 : decode cX8_mid 34 = .ok (.lstore_n 3, 1) := by decide +kernel
theorem dX8_mid_35 : decode cX8_mid 35 = .ok (.iconst 0, 1) := by decide +kernel
theorem dX8_mid_36 : decode cX8_mid 36 = .ok (.istore 5, 2) := by decide +kernel
theorem dX8_mid_38 : decode cX8_mid 38 = .ok (.iload 5, 2) := by decide +kernel
theorem dX8_mid_40 : decode cX8_mid 40 = .ok (.bipush 64, 2) := by decide +kernel
theorem dX8_mid_42 : decode cX8_mid 42 = .ok (.if_icmp .ge 39, 3) := by decide +kernel
theorem dX8_mid_45 : decode cX8_mid 45 = .ok (.iload 5, 2) := by decide +kernel
theorem dX8_mid_47 : decode cX8_mid 47 = .ok (.iload_n 2, 1) := by decide +kernel
theorem dX8_mid_48 : decode cX8_mid 48 = .ok (.iconst (-1), 1) := by decide +kernel
theorem dX8_mid_49 : decode cX8_mid 49 = .ok (.ixor, 1) := by decide +kernel
theorem dX8_mid_50 : decode cX8_mid 50 = .ok (.iand, 1) := by decide +kernel
theorem dX8_mid_51 : decode cX8_mid 51 = .ok (.ifCond .ne 24, 3) := by decide +kernel
theorem dX8_mid_54 : decode cX8_mid 54 = .ok (.lload_n 3, 1) := by decide +kernel
theorem dX8_mid_55 : decode cX8_mid 55 = .ok (.aload_n 0, 1) := by decide +kernel
theorem dX8_mid_56 : decode cX8_mid 56 = .ok (.getfield 31, 3) := by decide +kernel
theorem dX8_mid_59 : decode cX8_mid 59 = .ok (.iload 5, 2) := by decide +kernel
theorem dX8_mid_61 : decode cX8_mid 61 = .ok (.invokevirtual 284, 3) := by decide +kernel
theorem dX8_mid_64 : decode cX8_mid 64 = .ok (.i2l, 1) := by decide +kernel
theorem dX8_mid_65 : decode cX8_mid 65 = .ok (.iload 5, 2) := by decide +kernel
theorem dX8_mid_67 : decode cX8_mid 67 = .ok (.iload_n 2, 1) := by decide +kernel
theorem dX8_mid_68 : decode cX8_mid 68 = .ok (.iload_n 1, 1) := by decide +kernel
theorem dX8_mid_69 : decode cX8_mid 69 = .ok (.invokestatic 272, 3) := by decide +kernel
theorem dX8_mid_72 : decode cX8_mid 72 = .ok (.lmul, 1) := by decide +kernel
theorem dX8_mid_73 : decode cX8_mid 73 = .ok (.ladd, 1) := by decide +kernel
theorem dX8_mid_74 : decode cX8_mid 74 = .ok (.lstore_n 3, 1) := by decide +kernel
theorem dX8_mid_75 : decode cX8_mid 75 = .ok (.iinc 5 1, 3) := by decide +kernel
theorem dX8_mid_78 : decode cX8_mid 78 = .ok (.goto (-40), 3) := by decide +kernel
theorem dX8_mid_81 : decode cX8_mid 81 = .ok (.aload_n 0, 1) := by decide +kernel
theorem dX8_mid_82 : decode cX8_mid 82 = .ok (.lload_n 3, 1) := by decide +kernel
theorem dX8_mid_83 : decode cX8_mid 83 = .ok (.bipush 12, 2) := by decide +kernel
theorem dX8_mid_85 : decode cX8_mid 85 = .ok (.iload_n 2, 1) := by decide +kernel
theorem dX8_mid_86 : decode cX8_mid 86 = .ok (.invokestatic 267, 3) := by decide +kernel
theorem dX8_mid_89 : decode cX8_mid 89 = .ok (.invokestatic 276, 3) := by decide +kernel
theorem dX8_mid_92 : decode cX8_mid 92 = .ok (.invokevirtual 280, 3) := by decide +kernel
theorem dX8_mid_95 : decode cX8_mid 95 = .ok (.ireturn, 1) := by decide +kernel
theorem dX8_lots_0 : decode cX8_lots 0 = .ok (.iload_n 1, 1) := by decide +kernel
theorem dX8_lots_1 : decode cX8_lots 1 = .ok (.iconst 1, 1) := by decide +kernel
theorem dX8_lots_2 : decode cX8_lots 2 = .ok (.if_icmp .lt 21, 3) := by decide +kernel
theorem dX8_lots_5 : decode cX8_lots 5 = .ok (.iload_n 1, 1) := by decide +kernel
theorem dX8_lots_6 : decode cX8_lots 6 = .ok (.bipush 20, 2) := by decide +kernel
theorem dX8_lots_8 : decode cX8_lots 8 = .ok (.if_icmp .gt 15, 3) := by decide +kernel
theorem dX8_lots_11 : decode cX8_lots 11 = .ok (.iload_n 2, 1) := by decide +kernel
theorem dX8_lots_12 : decode cX8_lots 12 = .ok (.iconst 1, 1) := by decide +kernel
theorem dX8_lots_13 : decode cX8_lots 13 = .ok (.if_icmp .lt 10, 3) := by decide +kernel
theorem dX8_lots_16 : decode cX8_lots 16 = .ok (.iload_n 2, 1) := by decide +kernel
theorem dX8_lots_17 : decode cX8_lots 17 = .ok (.ldc_w 287, 3) := by decide +kernel
theorem dX8_lots_20 : decode cX8_lots 20 = .ok (.if_icmp .le 5, 3) := by decide +kernel
theorem dX8_lots_23 : decode cX8_lots 23 = .ok (.iconst (-1), 1) := by decide +kernel
theorem dX8_lots_24 : decode cX8_lots 24 = .ok (.ireturn, 1) := by decide +kernel
theorem dX8_lots_25 : decode cX8_lots 25 = .ok (.aload_n 0, 1) := by decide +kernel
theorem dX8_lots_26 : decode cX8_lots 26 = .ok (.getfield 31, 3) := by decide +kernel
theorem dX8_lots_29 : decode cX8_lots 29 = .ok (.getfield 158, 3) := by decide +kernel
theorem dX8_lots_32 : decode cX8_lots 32 = .ok (.istore_n 3, 1) := by decide +kernel
theorem dX8_lots_33 : decode cX8_lots 33 = .ok (.iload_n 3, 1) := by decide +kernel
theorem dX8_lots_34 : decode cX8_lots 34 = .ok (.ifCond .gt 6, 3) := by decide +kernel
theorem dX8_lots_37 : decode cX8_lots 37 = .ok (.bipush (-4), 2) := by decide +kernel
theorem dX8_lots_39 : decode cX8_lots 39 = .ok (.ireturn, 1) := by decide +kernel
theorem dX8_lots_40 : decode cX8_lots 40 = .ok (.aload_n 0, 1) := by decide +kernel
theorem dX8_lots_41 : decode cX8_lots 41 = .ok (.getfield 41, 3) := by decide +kernel
theorem dX8_lots_44 : decode cX8_lots 44 = .ok (.iload_n 1, 1) := by decide +kernel
theorem dX8_lots_45 : decode cX8_lots 45 = .ok (.iadd, 1) := by decide +kernel
theorem dX8_lots_46 : decode cX8_lots 46 = .ok (.bipush 40, 2) := by decide +kernel
theorem dX8_lots_48 : decode cX8_lots 48 = .ok (.if_icmp .le 6, 3) := by decide +kernel
theorem dX8_lots_51 : decode cX8_lots 51 = .ok (.bipush (-2), 2) := by decide +kernel
theorem dX8_lots_53 : decode cX8_lots 53 = .ok (.ireturn, 1) := by decide +kernel
theorem dX8_lots_54 : decode cX8_lots 54 = .ok (.iconst 0, 1) := by decide +kernel
theorem dX8_lots_55 : decode cX8_lots 55 = .ok (.istore 4, 2) := by decide +kernel
theorem dX8_lots_57 : decode cX8_lots 57 = .ok (.iload_n 2, 1) := by decide +kernel
theorem dX8_lots_58 : decode cX8_lots 58 = .ok (.i2l, 1) := by decide +kernel
theorem dX8_lots_59 : decode cX8_lots 59 = .ok (.lstore 5, 2) := by decide +kernel
theorem dX8_lots_61 : decode cX8_lots 61 = .ok (.iconst 0, 1) := by decide +kernel
theorem dX8_lots_62 : decode cX8_lots 62 = .ok (.istore 7, 2) := by decide +kernel
theorem dX8_lots_64 : decode cX8_lots 64 = .ok (.iload 7, 2) := by decide +kernel
theorem dX8_lots_66 : decode cX8_lots 66 = .ok (.iload_n 1, 1) := by decide +kernel
theorem dX8_lots_67 : decode cX8_lots 67 = .ok (.if_icmp .ge 103, 3) := by decide +kernel
theorem dX8_lots_70 : decode cX8_lots 70 = .ok (.lload 5, 2) := by decide +kernel
theorem dX8_lots_72 : decode cX8_lots 72 = .ok (.ldc2_w 288, 3) := by decide +kernel
theorem dX8_lots_75 : decode cX8_lots 75 = .ok (.lmul, 1) := by decide +kernel
theorem dX8_lots_76 : decode cX8_lots 76 = .ok (.ldc2_w 290, 3) := by decide +kernel
theorem dX8_lots_79 : decode cX8_lots 79 = .ok (.lrem, 1) := by decide +kernel
theorem dX8_lots_80 : decode cX8_lots 80 = .ok (.lstore 5, 2) := by decide +kernel
theorem dX8_lots_82 : decode cX8_lots 82 = .ok (.lload 5, 2) := by decide +kernel
theorem dX8_lots_84 : decode cX8_lots 84 = .ok (.ldc2_w 292, 3) := by decide +kernel
theorem dX8_lots_87 : decode cX8_lots 87 = .ok (.ldiv, 1) := by decide +kernel
theorem dX8_lots_88 : decode cX8_lots 88 = .ok (.iload_n 3, 1) := by decide +kernel
theorem dX8_lots_89 : decode cX8_lots 89 = .ok (.i2l, 1) := by decide +kernel
theorem dX8_lots_90 : decode cX8_lots 90 = .ok (.lrem, 1) := by decide +kernel
theorem dX8_lots_91 : decode cX8_lots 91 = .ok (.l2i, 1) := by decide +kernel
theorem dX8_lots_92 : decode cX8_lots 92 = .ok (.istore 8, 2) := by decide +kernel
theorem dX8_lots_94 : decode cX8_lots 94 = .ok (.lload 5, 2) := by decide +kernel
theorem dX8_lots_96 : decode cX8_lots 96 = .ok (.ldc2_w 294, 3) := by decide +kernel
theorem dX8_lots_99 : decode cX8_lots 99 = .ok (.lrem, 1) := by decide +kernel
theorem dX8_lots_100 : decode cX8_lots 100 = .ok (.l2i, 1) := by decide +kernel
theorem dX8_lots_101 : decode cX8_lots 101 = .ok (.lookupswitch 55 #[(2, 27), (3, 43)], 27) := by decide +kernel
theorem dX8_lots_128 : decode cX8_lots 128 = .ok (.iload 4, 2) := by decide +kernel
theorem dX8_lots_130 : decode cX8_lots 130 = .ok (.aload_n 0, 1) := by decide +kernel
theorem dX8_lots_131 : decode cX8_lots 131 = .ok (.iconst 1, 1) := by decide +kernel
theorem dX8_lots_132 : decode cX8_lots 132 = .ok (.iload 8, 2) := by decide +kernel
theorem dX8_lots_134 : decode cX8_lots 134 = .ok (.iconst 0, 1) := by decide +kernel
theorem dX8_lots_135 : decode cX8_lots 135 = .ok (.invokevirtual 190, 3) := by decide +kernel
theorem dX8_lots_138 : decode cX8_lots 138 = .ok (.iadd, 1) := by decide +kernel
theorem dX8_lots_139 : decode cX8_lots 139 = .ok (.istore 4, 2) := by decide +kernel
theorem dX8_lots_141 : decode cX8_lots 141 = .ok (.goto 23, 3) := by decide +kernel
theorem dX8_lots_144 : decode cX8_lots 144 = .ok (.aload_n 0, 1) := by decide +kernel
theorem dX8_lots_145 : decode cX8_lots 145 = .ok (.iconst 2, 1) := by decide +kernel
theorem dX8_lots_146 : decode cX8_lots 146 = .ok (.iload 8, 2) := by decide +kernel
theorem dX8_lots_148 : decode cX8_lots 148 = .ok (.iconst 0, 1) := by decide +kernel
theorem dX8_lots_149 : decode cX8_lots 149 = .ok (.invokevirtual 190, 3) := by decide +kernel
theorem dX8_lots_152 : decode cX8_lots 152 = .ok (.pop, 1) := by decide +kernel
theorem dX8_lots_153 : decode cX8_lots 153 = .ok (.goto 11, 3) := by decide +kernel
theorem dX8_lots_156 : decode cX8_lots 156 = .ok (.aload_n 0, 1) := by decide +kernel
theorem dX8_lots_157 : decode cX8_lots 157 = .ok (.iconst 0, 1) := by decide +kernel
theorem dX8_lots_158 : decode cX8_lots 158 = .ok (.iconst 0, 1) := by decide +kernel
theorem dX8_lots_159 : decode cX8_lots 159 = .ok (.iconst 0, 1) := by decide +kernel
theorem dX8_lots_160 : decode cX8_lots 160 = .ok (.invokevirtual 190, 3) := by decide +kernel
theorem dX8_lots_163 : decode cX8_lots 163 = .ok (.pop, 1) := by decide +kernel
theorem dX8_lots_164 : decode cX8_lots 164 = .ok (.iinc 7 1, 3) := by decide +kernel
theorem dX8_lots_167 : decode cX8_lots 167 = .ok (.goto (-103), 3) := by decide +kernel
theorem dX8_lots_170 : decode cX8_lots 170 = .ok (.iload 4, 2) := by decide +kernel
theorem dX8_lots_172 : decode cX8_lots 172 = .ok (.ireturn, 1) := by decide +kernel
theorem dX8_asked_0 : decode cX8_asked 0 = .ok (.aload_n 0, 1) := by decide +kernel
theorem dX8_asked_1 : decode cX8_asked 1 = .ok (.getfield 80, 3) := by decide +kernel
theorem dX8_asked_4 : decode cX8_asked 4 = .ok (.ireturn, 1) := by decide +kernel
theorem dX8_upper_0 : decode cX8_upper 0 = .ok (.aload_n 0, 1) := by decide +kernel
theorem dX8_upper_1 : decode cX8_upper 1 = .ok (.getfield 83, 3) := by decide +kernel
theorem dX8_upper_4 : decode cX8_upper 4 = .ok (.lreturn, 1) := by decide +kernel
theorem dX8_lower_0 : decode cX8_lower 0 = .ok (.aload_n 0, 1) := by decide +kernel
theorem dX8_lower_1 : decode cX8_lower 1 = .ok (.getfield 87, 3) := by decide +kernel
theorem dX8_lower_4 : decode cX8_lower 4 = .ok (.lreturn, 1) := by decide +kernel
theorem dX8_count_0 : decode cX8_count 0 = .ok (.iload_n 1, 1) := by decide +kernel
theorem dX8_count_1 : decode cX8_count 1 = .ok (.tableswitch 151 0 10 #[59, 67, 75, 80, 88, 96, 104, 119, 127, 135, 143], 59) := by decide +kernel
theorem dX8_count_60 : decode cX8_count 60 = .ok (.aload_n 0, 1) := by decide +kernel
theorem dX8_count_61 : decode cX8_count 61 = .ok (.getfield 31, 3) := by decide +kernel
theorem dX8_count_64 : decode cX8_count 64 = .ok (.getfield 158, 3) := by decide +kernel
theorem dX8_count_67 : decode cX8_count 67 = .ok (.ireturn, 1) := by decide +kernel
theorem dX8_count_68 : decode cX8_count 68 = .ok (.aload_n 0, 1) := by decide +kernel
theorem dX8_count_69 : decode cX8_count 69 = .ok (.getfield 31, 3) := by decide +kernel
theorem dX8_count_72 : decode cX8_count 72 = .ok (.getfield 177, 3) := by decide +kernel
theorem dX8_count_75 : decode cX8_count 75 = .ok (.ireturn, 1) := by decide +kernel
theorem dX8_count_76 : decode cX8_count 76 = .ok (.aload_n 0, 1) := by decide +kernel
theorem dX8_count_77 : decode cX8_count 77 = .ok (.getfield 41, 3) := by decide +kernel
theorem dX8_count_80 : decode cX8_count 80 = .ok (.ireturn, 1) := by decide +kernel
theorem dX8_count_81 : decode cX8_count 81 = .ok (.aload_n 0, 1) := by decide +kernel
theorem dX8_count_82 : decode cX8_count 82 = .ok (.getfield 31, 3) := by decide +kernel
theorem dX8_count_85 : decode cX8_count 85 = .ok (.invokevirtual 234, 3) := by decide +kernel
theorem dX8_count_88 : decode cX8_count 88 = .ok (.ireturn, 1) := by decide +kernel
theorem dX8_count_89 : decode cX8_count 89 = .ok (.aload_n 0, 1) := by decide +kernel
theorem dX8_count_90 : decode cX8_count 90 = .ok (.getfield 31, 3) := by decide +kernel
theorem dX8_count_93 : decode cX8_count 93 = .ok (.invokevirtual 296, 3) := by decide +kernel
theorem dX8_count_96 : decode cX8_count 96 = .ok (.ireturn, 1) := by decide +kernel
theorem dX8_count_97 : decode cX8_count 97 = .ok (.aload_n 0, 1) := by decide +kernel
theorem dX8_count_98 : decode cX8_count 98 = .ok (.getfield 31, 3) := by decide +kernel
theorem dX8_count_101 : decode cX8_count 101 = .ok (.invokevirtual 264, 3) := by decide +kernel
theorem dX8_count_104 : decode cX8_count 104 = .ok (.ireturn, 1) := by decide +kernel
theorem dX8_count_105 : decode cX8_count 105 = .ok (.aload_n 0, 1) := by decide +kernel
theorem dX8_count_106 : decode cX8_count 106 = .ok (.getfield 31, 3) := by decide +kernel
theorem dX8_count_109 : decode cX8_count 109 = .ok (.aload_n 0, 1) := by decide +kernel
theorem dX8_count_110 : decode cX8_count 110 = .ok (.getfield 31, 3) := by decide +kernel
theorem dX8_count_113 : decode cX8_count 113 = .ok (.getfield 177, 3) := by decide +kernel
theorem dX8_count_116 : decode cX8_count 116 = .ok (.invokevirtual 299, 3) := by decide +kernel
theorem dX8_count_119 : decode cX8_count 119 = .ok (.ireturn, 1) := by decide +kernel
theorem dX8_count_120 : decode cX8_count 120 = .ok (.aload_n 0, 1) := by decide +kernel
theorem dX8_count_121 : decode cX8_count 121 = .ok (.getfield 31, 3) := by decide +kernel
theorem dX8_count_124 : decode cX8_count 124 = .ok (.invokevirtual 302, 3) := by decide +kernel
theorem dX8_count_127 : decode cX8_count 127 = .ok (.ireturn, 1) := by decide +kernel
theorem dX8_count_128 : decode cX8_count 128 = .ok (.aload_n 0, 1) := by decide +kernel
theorem dX8_count_129 : decode cX8_count 129 = .ok (.getfield 14, 3) := by decide +kernel
theorem dX8_count_132 : decode cX8_count 132 = .ok (.invokevirtual 305, 3) := by decide +kernel
theorem dX8_count_135 : decode cX8_count 135 = .ok (.ireturn, 1) := by decide +kernel
theorem dX8_count_136 : decode cX8_count 136 = .ok (.aload_n 0, 1) := by decide +kernel
theorem dX8_count_137 : decode cX8_count 137 = .ok (.getfield 18, 3) := by decide +kernel
theorem dX8_count_140 : decode cX8_count 140 = .ok (.invokevirtual 305, 3) := by decide +kernel
theorem dX8_count_143 : decode cX8_count 143 = .ok (.ireturn, 1) := by decide +kernel
theorem dX8_count_144 : decode cX8_count 144 = .ok (.aload_n 0, 1) := by decide +kernel
theorem dX8_count_145 : decode cX8_count 145 = .ok (.getfield 21, 3) := by decide +kernel
theorem dX8_count_148 : decode cX8_count 148 = .ok (.invokevirtual 305, 3) := by decide +kernel
theorem dX8_count_151 : decode cX8_count 151 = .ok (.ireturn, 1) := by decide +kernel
theorem dX8_count_152 : decode cX8_count 152 = .ok (.iconst (-1), 1) := by decide +kernel
theorem dX8_count_153 : decode cX8_count 153 = .ok (.ireturn, 1) := by decide +kernel
theorem dX8_finding_0 : decode cX8_finding 0 = .ok (.aload_n 0, 1) := by decide +kernel
theorem dX8_finding_1 : decode cX8_finding 1 = .ok (.getfield 90, 3) := by decide +kernel
theorem dX8_finding_4 : decode cX8_finding 4 = .ok (.ireturn, 1) := by decide +kernel
theorem dX8_findings_0 : decode cX8_findings 0 = .ok (.iload_n 1, 1) := by decide +kernel
theorem dX8_findings_1 : decode cX8_findings 1 = .ok (.iconst 1, 1) := by decide +kernel
theorem dX8_findings_2 : decode cX8_findings 2 = .ok (.if_icmp .lt 8, 3) := by decide +kernel
theorem dX8_findings_5 : decode cX8_findings 5 = .ok (.iload_n 1, 1) := by decide +kernel
theorem dX8_findings_6 : decode cX8_findings 6 = .ok (.iconst 5, 1) := by decide +kernel
theorem dX8_findings_7 : decode cX8_findings 7 = .ok (.if_icmp .le 7, 3) := by decide +kernel
theorem dX8_findings_10 : decode cX8_findings 10 = .ok (.iconst (-1), 1) := by decide +kernel
theorem dX8_findings_11 : decode cX8_findings 11 = .ok (.goto 11, 3) := by decide +kernel
theorem dX8_findings_14 : decode cX8_findings 14 = .ok (.aload_n 0, 1) := by decide +kernel
theorem dX8_findings_15 : decode cX8_findings 15 = .ok (.getfield 93, 3) := by decide +kernel
theorem dX8_findings_18 : decode cX8_findings 18 = .ok (.iload_n 1, 1) := by decide +kernel
theorem dX8_findings_19 : decode cX8_findings 19 = .ok (.invokestatic 308, 3) := by decide +kernel
theorem dX8_findings_22 : decode cX8_findings 22 = .ok (.ireturn, 1) := by decide +kernel
theorem dX8_digest_0 : decode cX8_digest 0 = .ok (.ldc2_w 312, 3) := by decide +kernel
theorem dX8_digest_3 : decode cX8_digest 3 = .ok (.lstore_n 1, 1) := by decide +kernel
theorem dX8_digest_4 : decode cX8_digest 4 = .ok (.iconst 0, 1) := by decide +kernel
theorem dX8_digest_5 : decode cX8_digest 5 = .ok (.istore_n 3, 1) := by decide +kernel
theorem dX8_digest_6 : decode cX8_digest 6 = .ok (.iload_n 3, 1) := by decide +kernel
theorem dX8_digest_7 : decode cX8_digest 7 = .ok (.bipush 11, 2) := by decide +kernel
theorem dX8_digest_9 : decode cX8_digest 9 = .ok (.if_icmp .ge 22, 3) := by decide +kernel
theorem dX8_digest_12 : decode cX8_digest 12 = .ok (.ldc2_w 314, 3) := by decide +kernel
theorem dX8_digest_15 : decode cX8_digest 15 = .ok (.lload_n 1, 1) := by decide +kernel
theorem dX8_digest_16 : decode cX8_digest 16 = .ok (.lmul, 1) := by decide +kernel
theorem dX8_digest_17 : decode cX8_digest 17 = .ok (.aload_n 0, 1) := by decide +kernel
theorem dX8_digest_18 : decode cX8_digest 18 = .ok (.iload_n 3, 1) := by decide +kernel
theorem dX8_digest_19 : decode cX8_digest 19 = .ok (.invokevirtual 316, 3) := by decide +kernel
theorem dX8_digest_22 : decode cX8_digest 22 = .ok (.i2l, 1) := by decide +kernel
theorem dX8_digest_23 : decode cX8_digest 23 = .ok (.ladd, 1) := by decide +kernel
theorem dX8_digest_24 : decode cX8_digest 24 = .ok (.lstore_n 1, 1) := by decide +kernel
theorem dX8_digest_25 : decode cX8_digest 25 = .ok (.iinc 3 1, 3) := by decide +kernel
theorem dX8_digest_28 : decode cX8_digest 28 = .ok (.goto (-22), 3) := by decide +kernel
theorem dX8_digest_31 : decode cX8_digest 31 = .ok (.iconst 0, 1) := by decide +kernel
theorem dX8_digest_32 : decode cX8_digest 32 = .ok (.istore_n 3, 1) := by decide +kernel
theorem dX8_digest_33 : decode cX8_digest 33 = .ok (.iload_n 3, 1) := by decide +kernel
theorem dX8_digest_34 : decode cX8_digest 34 = .ok (.aload_n 0, 1) := by decide +kernel
theorem dX8_digest_35 : decode cX8_digest 35 = .ok (.getfield 31, 3) := by decide +kernel
theorem dX8_digest_38 : decode cX8_digest 38 = .ok (.getfield 158, 3) := by decide +kernel
theorem dX8_digest_41 : decode cX8_digest 41 = .ok (.if_icmp .ge 43, 3) := by decide +kernel
theorem dX8_digest_44 : decode cX8_digest 44 = .ok (.iconst 0, 1) := by decide +kernel
theorem dX8_digest_45 : decode cX8_digest 45 = .ok (.istore 4, 2) := by decide +kernel
theorem dX8_digest_47 : decode cX8_digest 47 = .ok (.iload 4, 2) := by decide +kernel
theorem dX8_digest_49 : decode cX8_digest 49 = .ok (.bipush 8, 2) := by decide +kernel
theorem dX8_digest_51 : decode cX8_digest 51 = .ok (.if_icmp .ge 27, 3) := by decide +kernel
theorem dX8_digest_54 : decode cX8_digest 54 = .ok (.ldc2_w 314, 3) := by decide +kernel
theorem dX8_digest_57 : decode cX8_digest 57 = .ok (.lload_n 1, 1) := by decide +kernel
theorem dX8_digest_58 : decode cX8_digest 58 = .ok (.lmul, 1) := by decide +kernel
theorem dX8_digest_59 : decode cX8_digest 59 = .ok (.aload_n 0, 1) := by decide +kernel
theorem dX8_digest_60 : decode cX8_digest 60 = .ok (.getfield 31, 3) := by decide +kernel
theorem dX8_digest_63 : decode cX8_digest 63 = .ok (.iload_n 3, 1) := by decide +kernel
theorem dX8_digest_64 : decode cX8_digest 64 = .ok (.iload 4, 2) := by decide +kernel
theorem dX8_digest_66 : decode cX8_digest 66 = .ok (.invokevirtual 164, 3) := by decide +kernel
theorem dX8_digest_69 : decode cX8_digest 69 = .ok (.i2l, 1) := by decide +kernel
theorem dX8_digest_70 : decode cX8_digest 70 = .ok (.ladd, 1) := by decide +kernel
theorem dX8_digest_71 : decode cX8_digest 71 = .ok (.lstore_n 1, 1) := by decide +kernel
theorem dX8_digest_72 : decode cX8_digest 72 = .ok (.iinc 4 1, 3) := by decide +kernel
theorem dX8_digest_75 : decode cX8_digest 75 = .ok (.goto (-28), 3) := by decide +kernel
theorem dX8_digest_78 : decode cX8_digest 78 = .ok (.iinc 3 1, 3) := by decide +kernel
theorem dX8_digest_81 : decode cX8_digest 81 = .ok (.goto (-48), 3) := by decide +kernel
theorem dX8_digest_84 : decode cX8_digest 84 = .ok (.iconst 0, 1) := by decide +kernel
theorem dX8_digest_85 : decode cX8_digest 85 = .ok (.istore_n 3, 1) := by decide +kernel
theorem dX8_digest_86 : decode cX8_digest 86 = .ok (.iload_n 3, 1) := by decide +kernel
theorem dX8_digest_87 : decode cX8_digest 87 = .ok (.iconst 3, 1) := by decide +kernel
theorem dX8_digest_88 : decode cX8_digest 88 = .ok (.if_icmp .ge 25, 3) := by decide +kernel
theorem dX8_digest_91 : decode cX8_digest 91 = .ok (.ldc2_w 314, 3) := by decide +kernel
theorem dX8_digest_94 : decode cX8_digest 94 = .ok (.lload_n 1, 1) := by decide +kernel
theorem dX8_digest_95 : decode cX8_digest 95 = .ok (.lmul, 1) := by decide +kernel
theorem dX8_digest_96 : decode cX8_digest 96 = .ok (.aload_n 0, 1) := by decide +kernel
theorem dX8_digest_97 : decode cX8_digest 97 = .ok (.getfield 21, 3) := by decide +kernel
theorem dX8_digest_100 : decode cX8_digest 100 = .ok (.iload_n 3, 1) := by decide +kernel
theorem dX8_digest_101 : decode cX8_digest 101 = .ok (.invokevirtual 142, 3) := by decide +kernel
theorem dX8_digest_104 : decode cX8_digest 104 = .ok (.i2l, 1) := by decide +kernel
theorem dX8_digest_105 : decode cX8_digest 105 = .ok (.ladd, 1) := by decide +kernel
theorem dX8_digest_106 : decode cX8_digest 106 = .ok (.lstore_n 1, 1) := by decide +kernel
theorem dX8_digest_107 : decode cX8_digest 107 = .ok (.iinc 3 1, 3) := by decide +kernel
theorem dX8_digest_110 : decode cX8_digest 110 = .ok (.goto (-24), 3) := by decide +kernel
theorem dX8_digest_113 : decode cX8_digest 113 = .ok (.aload_n 0, 1) := by decide +kernel
theorem dX8_digest_114 : decode cX8_digest 114 = .ok (.getfield 18, 3) := by decide +kernel
theorem dX8_digest_117 : decode cX8_digest 117 = .ok (.aload_n 0, 1) := by decide +kernel
theorem dX8_digest_118 : decode cX8_digest 118 = .ok (.getfield 14, 3) := by decide +kernel
theorem dX8_digest_121 : decode cX8_digest 121 = .ok (.lload_n 1, 1) := by decide +kernel
theorem dX8_digest_122 : decode cX8_digest 122 = .ok (.invokevirtual 319, 3) := by decide +kernel
theorem dX8_digest_125 : decode cX8_digest 125 = .ok (.invokevirtual 319, 3) := by decide +kernel
theorem dX8_digest_128 : decode cX8_digest 128 = .ok (.lreturn, 1) := by decide +kernel
theorem dX8_tell_0 : decode cX8_tell 0 = .ok (.aload_n 0, 1) := by decide +kernel
theorem dX8_tell_1 : decode cX8_tell 1 = .ok (.iload_n 1, 1) := by decide +kernel
theorem dX8_tell_2 : decode cX8_tell 2 = .ok (.putfield 80, 3) := by decide +kernel
theorem dX8_tell_5 : decode cX8_tell 5 = .ok (.iconst 1, 1) := by decide +kernel
theorem dX8_tell_6 : decode cX8_tell 6 = .ok (.ireturn, 1) := by decide +kernel
theorem dX8_refuse_0 : decode cX8_refuse 0 = .ok (.aload_n 0, 1) := by decide +kernel
theorem dX8_refuse_1 : decode cX8_refuse 1 = .ok (.iload_n 1, 1) := by decide +kernel
theorem dX8_refuse_2 : decode cX8_refuse 2 = .ok (.putfield 90, 3) := by decide +kernel
theorem dX8_refuse_5 : decode cX8_refuse 5 = .ok (.aload_n 0, 1) := by decide +kernel
theorem dX8_refuse_6 : decode cX8_refuse 6 = .ok (.getfield 93, 3) := by decide +kernel
theorem dX8_refuse_9 : decode cX8_refuse 9 = .ok (.iload_n 1, 1) := by decide +kernel
theorem dX8_refuse_10 : decode cX8_refuse 10 = .ok (.aload_n 0, 1) := by decide +kernel
theorem dX8_refuse_11 : decode cX8_refuse 11 = .ok (.getfield 93, 3) := by decide +kernel
theorem dX8_refuse_14 : decode cX8_refuse 14 = .ok (.iload_n 1, 1) := by decide +kernel
theorem dX8_refuse_15 : decode cX8_refuse 15 = .ok (.invokestatic 308, 3) := by decide +kernel
theorem dX8_refuse_18 : decode cX8_refuse 18 = .ok (.iconst 1, 1) := by decide +kernel
theorem dX8_refuse_19 : decode cX8_refuse 19 = .ok (.iadd, 1) := by decide +kernel
theorem dX8_refuse_20 : decode cX8_refuse 20 = .ok (.invokestatic 201, 3) := by decide +kernel
theorem dX8_refuse_23 : decode cX8_refuse 23 = .ok (.bipush (-3), 2) := by decide +kernel
theorem dX8_refuse_25 : decode cX8_refuse 25 = .ok (.ireturn, 1) := by decide +kernel
theorem dX8_makeAnew_0 : decode cX8_makeAnew 0 = .ok (.aload_n 1, 1) := by decide +kernel
theorem dX8_makeAnew_1 : decode cX8_makeAnew 1 = .ok (.iload_n 2, 1) := by decide +kernel
theorem dX8_makeAnew_2 : decode cX8_makeAnew 2 = .ok (.invokevirtual 124, 3) := by decide +kernel
theorem dX8_makeAnew_5 : decode cX8_makeAnew 5 = .ok (.ifCond .eq 11, 3) := by decide +kernel
theorem dX8_makeAnew_8 : decode cX8_makeAnew 8 = .ok (.iload_n 3, 1) := by decide +kernel
theorem dX8_makeAnew_9 : decode cX8_makeAnew 9 = .ok (.aload_n 1, 1) := by decide +kernel
theorem dX8_makeAnew_10 : decode cX8_makeAnew 10 = .ok (.getfield 323, 3) := by decide +kernel
theorem dX8_makeAnew_13 : decode cX8_makeAnew 13 = .ok (.if_icmp .le 5, 3) := by decide +kernel
theorem dX8_makeAnew_16 : decode cX8_makeAnew 16 = .ok (.iconst (-1), 1) := by decide +kernel
theorem dX8_makeAnew_17 : decode cX8_makeAnew 17 = .ok (.ireturn, 1) := by decide +kernel
theorem dX8_makeAnew_18 : decode cX8_makeAnew 18 = .ok (.iload_n 3, 1) := by decide +kernel
theorem dX8_makeAnew_19 : decode cX8_makeAnew 19 = .ok (.ifCond .ge 9, 3) := by decide +kernel
theorem dX8_makeAnew_22 : decode cX8_makeAnew 22 = .ok (.aload_n 0, 1) := by decide +kernel
theorem dX8_makeAnew_23 : decode cX8_makeAnew 23 = .ok (.iconst 5, 1) := by decide +kernel
theorem dX8_makeAnew_24 : decode cX8_makeAnew 24 = .ok (.invokevirtual 128, 3) := by decide +kernel
theorem dX8_makeAnew_27 : decode cX8_makeAnew 27 = .ok (.ireturn, 1) := by decide +kernel
theorem dX8_makeAnew_28 : decode cX8_makeAnew 28 = .ok (.aload_n 1, 1) := by decide +kernel
theorem dX8_makeAnew_29 : decode cX8_makeAnew 29 = .ok (.iload_n 2, 1) := by decide +kernel
theorem dX8_makeAnew_30 : decode cX8_makeAnew 30 = .ok (.iload_n 3, 1) := by decide +kernel
theorem dX8_makeAnew_31 : decode cX8_makeAnew 31 = .ok (.iload 4, 2) := by decide +kernel
theorem dX8_makeAnew_33 : decode cX8_makeAnew 33 = .ok (.invokevirtual 326, 3) := by decide +kernel
theorem dX8_makeAnew_36 : decode cX8_makeAnew 36 = .ok (.iload_n 3, 1) := by decide +kernel
theorem dX8_makeAnew_37 : decode cX8_makeAnew 37 = .ok (.ireturn, 1) := by decide +kernel
theorem dX8_refusalOfMissing_0 : decode cX8_refusalOfMissing 0 = .ok (.aload_n 1, 1) := by decide +kernel
theorem dX8_refusalOfMissing_1 : decode cX8_refusalOfMissing 1 = .ok (.iload_n 2, 1) := by decide +kernel
theorem dX8_refusalOfMissing_2 : decode cX8_refusalOfMissing 2 = .ok (.invokevirtual 124, 3) := by decide +kernel
theorem dX8_refusalOfMissing_5 : decode cX8_refusalOfMissing 5 = .ok (.ifCond .ne 5, 3) := by decide +kernel
theorem dX8_refusalOfMissing_8 : decode cX8_refusalOfMissing 8 = .ok (.iconst (-1), 1) := by decide +kernel
theorem dX8_refusalOfMissing_9 : decode cX8_refusalOfMissing 9 = .ok (.ireturn, 1) := by decide +kernel
theorem dX8_refusalOfMissing_10 : decode cX8_refusalOfMissing 10 = .ok (.aload_n 1, 1) := by decide +kernel
theorem dX8_refusalOfMissing_11 : decode cX8_refusalOfMissing 11 = .ok (.iload_n 2, 1) := by decide +kernel
theorem dX8_refusalOfMissing_12 : decode cX8_refusalOfMissing 12 = .ok (.invokevirtual 131, 3) := by decide +kernel
theorem dX8_refusalOfMissing_15 : decode cX8_refusalOfMissing 15 = .ok (.ifCond .eq 7, 3) := by decide +kernel
theorem dX8_refusalOfMissing_18 : decode cX8_refusalOfMissing 18 = .ok (.iconst 0, 1) := by decide +kernel
theorem dX8_refusalOfMissing_19 : decode cX8_refusalOfMissing 19 = .ok (.goto 8, 3) := by decide +kernel
theorem dX8_refusalOfMissing_22 : decode cX8_refusalOfMissing 22 = .ok (.aload_n 0, 1) := by decide +kernel
theorem dX8_refusalOfMissing_23 : decode cX8_refusalOfMissing 23 = .ok (.iconst 1, 1) := by decide +kernel
theorem dX8_refusalOfMissing_24 : decode cX8_refusalOfMissing 24 = .ok (.invokevirtual 128, 3) := by decide +kernel
theorem dX8_refusalOfMissing_27 : decode cX8_refusalOfMissing 27 = .ok (.ireturn, 1) := by decide +kernel
theorem dX8_refusalOfPlace_0 : decode cX8_refusalOfPlace 0 = .ok (.aload_n 0, 1) := by decide +kernel
theorem dX8_refusalOfPlace_1 : decode cX8_refusalOfPlace 1 = .ok (.aload_n 1, 1) := by decide +kernel
theorem dX8_refusalOfPlace_2 : decode cX8_refusalOfPlace 2 = .ok (.iload_n 2, 1) := by decide +kernel
theorem dX8_refusalOfPlace_3 : decode cX8_refusalOfPlace 3 = .ok (.invokevirtual 116, 3) := by decide +kernel
theorem dX8_refusalOfPlace_6 : decode cX8_refusalOfPlace 6 = .ok (.istore 4, 2) := by decide +kernel
theorem dX8_refusalOfPlace_8 : decode cX8_refusalOfPlace 8 = .ok (.iload 4, 2) := by decide +kernel
theorem dX8_refusalOfPlace_10 : decode cX8_refusalOfPlace 10 = .ok (.ifCond .eq 6, 3) := by decide +kernel
theorem dX8_refusalOfPlace_13 : decode cX8_refusalOfPlace 13 = .ok (.iload 4, 2) := by decide +kernel
theorem dX8_refusalOfPlace_15 : decode cX8_refusalOfPlace 15 = .ok (.ireturn, 1) := by decide +kernel
theorem dX8_refusalOfPlace_16 : decode cX8_refusalOfPlace 16 = .ok (.aload_n 1, 1) := by decide +kernel
theorem dX8_refusalOfPlace_17 : decode cX8_refusalOfPlace 17 = .ok (.iload_n 2, 1) := by decide +kernel
theorem dX8_refusalOfPlace_18 : decode cX8_refusalOfPlace 18 = .ok (.iload_n 3, 1) := by decide +kernel
theorem dX8_refusalOfPlace_19 : decode cX8_refusalOfPlace 19 = .ok (.iconst 1, 1) := by decide +kernel
theorem dX8_refusalOfPlace_20 : decode cX8_refusalOfPlace 20 = .ok (.invokevirtual 134, 3) := by decide +kernel
theorem dX8_refusalOfPlace_23 : decode cX8_refusalOfPlace 23 = .ok (.ifCond .eq 7, 3) := by decide +kernel
theorem dX8_refusalOfPlace_26 : decode cX8_refusalOfPlace 26 = .ok (.iconst 0, 1) := by decide +kernel
theorem dX8_refusalOfPlace_27 : decode cX8_refusalOfPlace 27 = .ok (.goto 8, 3) := by decide +kernel
theorem dX8_refusalOfPlace_30 : decode cX8_refusalOfPlace 30 = .ok (.aload_n 0, 1) := by decide +kernel
theorem dX8_refusalOfPlace_31 : decode cX8_refusalOfPlace 31 = .ok (.iconst 2, 1) := by decide +kernel
theorem dX8_refusalOfPlace_32 : decode cX8_refusalOfPlace 32 = .ok (.invokevirtual 128, 3) := by decide +kernel
theorem dX8_refusalOfPlace_35 : decode cX8_refusalOfPlace 35 = .ok (.ireturn, 1) := by decide +kernel
theorem dX8_takePairs_0 : decode cX8_takePairs 0 = .ok (.aload_n 0, 1) := by decide +kernel
theorem dX8_takePairs_1 : decode cX8_takePairs 1 = .ok (.getfield 31, 3) := by decide +kernel
theorem dX8_takePairs_4 : decode cX8_takePairs 4 = .ok (.iload_n 1, 1) := by decide +kernel
theorem dX8_takePairs_5 : decode cX8_takePairs 5 = .ok (.invokevirtual 161, 3) := by decide +kernel
theorem dX8_takePairs_8 : decode cX8_takePairs 8 = .ok (.ifCond .ne 5, 3) := by decide +kernel
theorem dX8_takePairs_11 : decode cX8_takePairs 11 = .ok (.iconst (-1), 1) := by decide +kernel
theorem dX8_takePairs_12 : decode cX8_takePairs 12 = .ok (.ireturn, 1) := by decide +kernel
theorem dX8_takePairs_13 : decode cX8_takePairs 13 = .ok (.aload_n 0, 1) := by decide +kernel
theorem dX8_takePairs_14 : decode cX8_takePairs 14 = .ok (.aload_n 0, 1) := by decide +kernel
theorem dX8_takePairs_15 : decode cX8_takePairs 15 = .ok (.getfield 14, 3) := by decide +kernel
theorem dX8_takePairs_18 : decode cX8_takePairs 18 = .ok (.iload_n 2, 1) := by decide +kernel
theorem dX8_takePairs_19 : decode cX8_takePairs 19 = .ok (.invokevirtual 116, 3) := by decide +kernel
theorem dX8_takePairs_22 : decode cX8_takePairs 22 = .ok (.istore_n 3, 1) := by decide +kernel
theorem dX8_takePairs_23 : decode cX8_takePairs 23 = .ok (.iload_n 3, 1) := by decide +kernel
theorem dX8_takePairs_24 : decode cX8_takePairs 24 = .ok (.ifCond .eq 5, 3) := by decide +kernel
theorem dX8_takePairs_27 : decode cX8_takePairs 27 = .ok (.iload_n 3, 1) := by decide +kernel
theorem dX8_takePairs_28 : decode cX8_takePairs 28 = .ok (.ireturn, 1) := by decide +kernel
theorem dX8_takePairs_29 : decode cX8_takePairs 29 = .ok (.aload_n 0, 1) := by decide +kernel
theorem dX8_takePairs_30 : decode cX8_takePairs 30 = .ok (.getfield 14, 3) := by decide +kernel
theorem dX8_takePairs_33 : decode cX8_takePairs 33 = .ok (.iload_n 2, 1) := by decide +kernel
theorem dX8_takePairs_34 : decode cX8_takePairs 34 = .ok (.invokevirtual 142, 3) := by decide +kernel
theorem dX8_takePairs_37 : decode cX8_takePairs 37 = .ok (.iconst 2, 1) := by decide +kernel
theorem dX8_takePairs_38 : decode cX8_takePairs 38 = .ok (.irem, 1) := by decide +kernel
theorem dX8_takePairs_39 : decode cX8_takePairs 39 = .ok (.ifCond .eq 9, 3) := by decide +kernel
theorem dX8_takePairs_42 : decode cX8_takePairs 42 = .ok (.aload_n 0, 1) := by decide +kernel
theorem dX8_takePairs_43 : decode cX8_takePairs 43 = .ok (.iconst 5, 1) := by decide +kernel
theorem dX8_takePairs_44 : decode cX8_takePairs 44 = .ok (.invokevirtual 128, 3) := by decide +kernel
theorem dX8_takePairs_47 : decode cX8_takePairs 47 = .ok (.ireturn, 1) := by decide +kernel
theorem dX8_takePairs_48 : decode cX8_takePairs 48 = .ok (.aload_n 0, 1) := by decide +kernel
theorem dX8_takePairs_49 : decode cX8_takePairs 49 = .ok (.getfield 69, 3) := by decide +kernel
theorem dX8_takePairs_52 : decode cX8_takePairs 52 = .ok (.aload_n 0, 1) := by decide +kernel
theorem dX8_takePairs_53 : decode cX8_takePairs 53 = .ok (.getfield 14, 3) := by decide +kernel
theorem dX8_takePairs_56 : decode cX8_takePairs 56 = .ok (.iload_n 2, 1) := by decide +kernel
theorem dX8_takePairs_57 : decode cX8_takePairs 57 = .ok (.invokevirtual 329, 3) := by decide +kernel
theorem dX8_takePairs_60 : decode cX8_takePairs 60 = .ok (.ifCond .eq 7, 3) := by decide +kernel
theorem dX8_takePairs_63 : decode cX8_takePairs 63 = .ok (.iconst 0, 1) := by decide +kernel
theorem dX8_takePairs_64 : decode cX8_takePairs 64 = .ok (.goto 8, 3) := by decide +kernel
theorem dX8_takePairs_67 : decode cX8_takePairs 67 = .ok (.aload_n 0, 1) := by decide +kernel
theorem dX8_takePairs_68 : decode cX8_takePairs 68 = .ok (.iconst 3, 1) := by decide +kernel
theorem dX8_takePairs_69 : decode cX8_takePairs 69 = .ok (.invokevirtual 128, 3) := by decide +kernel
theorem dX8_takePairs_72 : decode cX8_takePairs 72 = .ok (.ireturn, 1) := by decide +kernel
theorem dX8_isRound_0 : decode cX8_isRound 0 = .ok (.iconst 0, 1) := by decide +kernel
theorem dX8_isRound_1 : decode cX8_isRound 1 = .ok (.istore_n 2, 1) := by decide +kernel
theorem dX8_isRound_2 : decode cX8_isRound 2 = .ok (.iload_n 2, 1) := by decide +kernel
theorem dX8_isRound_3 : decode cX8_isRound 3 = .ok (.aload_n 0, 1) := by decide +kernel
theorem dX8_isRound_4 : decode cX8_isRound 4 = .ok (.getfield 14, 3) := by decide +kernel
theorem dX8_isRound_7 : decode cX8_isRound 7 = .ok (.iload_n 1, 1) := by decide +kernel
theorem dX8_isRound_8 : decode cX8_isRound 8 = .ok (.invokevirtual 142, 3) := by decide +kernel
theorem dX8_isRound_11 : decode cX8_isRound 11 = .ok (.if_icmp .ge 38, 3) := by decide +kernel
theorem dX8_isRound_14 : decode cX8_isRound 14 = .ok (.aload_n 0, 1) := by decide +kernel
theorem dX8_isRound_15 : decode cX8_isRound 15 = .ok (.getfield 14, 3) := by decide +kernel
theorem dX8_isRound_18 : decode cX8_isRound 18 = .ok (.iload_n 1, 1) := by decide +kernel
theorem dX8_isRound_19 : decode cX8_isRound 19 = .ok (.iload_n 2, 1) := by decide +kernel
theorem dX8_isRound_20 : decode cX8_isRound 20 = .ok (.invokevirtual 104, 3) := by decide +kernel
theorem dX8_isRound_23 : decode cX8_isRound 23 = .ok (.istore_n 3, 1) := by decide +kernel
theorem dX8_isRound_24 : decode cX8_isRound 24 = .ok (.iload_n 3, 1) := by decide +kernel
theorem dX8_isRound_25 : decode cX8_isRound 25 = .ok (.bipush (-9), 2) := by decide +kernel
theorem dX8_isRound_27 : decode cX8_isRound 27 = .ok (.if_icmp .eq 16, 3) := by decide +kernel
theorem dX8_isRound_30 : decode cX8_isRound 30 = .ok (.aload_n 0, 1) := by decide +kernel
theorem dX8_isRound_31 : decode cX8_isRound 31 = .ok (.getfield 31, 3) := by decide +kernel
theorem dX8_isRound_34 : decode cX8_isRound 34 = .ok (.iload_n 3, 1) := by decide +kernel
theorem dX8_isRound_35 : decode cX8_isRound 35 = .ok (.invokevirtual 161, 3) := by decide +kernel
theorem dX8_isRound_38 : decode cX8_isRound 38 = .ok (.ifCond .ne 5, 3) := by decide +kernel
theorem dX8_isRound_41 : decode cX8_isRound 41 = .ok (.iconst 0, 1) := by decide +kernel
theorem dX8_isRound_42 : decode cX8_isRound 42 = .ok (.ireturn, 1) := by decide +kernel
theorem dX8_isRound_43 : decode cX8_isRound 43 = .ok (.iinc 2 1, 3) := by decide +kernel
theorem dX8_isRound_46 : decode cX8_isRound 46 = .ok (.goto (-44), 3) := by decide +kernel
theorem dX8_isRound_49 : decode cX8_isRound 49 = .ok (.iconst 1, 1) := by decide +kernel
theorem dX8_isRound_50 : decode cX8_isRound 50 = .ok (.ireturn, 1) := by decide +kernel
theorem dX8_enact_0 : decode cX8_enact 0 = .ok (.bipush 100, 2) := by decide +kernel
theorem dX8_enact_2 : decode cX8_enact 2 = .ok (.iload_n 1, 1) := by decide +kernel
theorem dX8_enact_3 : decode cX8_enact 3 = .ok (.imul, 1) := by decide +kernel
theorem dX8_enact_4 : decode cX8_enact 4 = .ok (.bipush 10, 2) := by decide +kernel
theorem dX8_enact_6 : decode cX8_enact 6 = .ok (.iload_n 2, 1) := by decide +kernel
theorem dX8_enact_7 : decode cX8_enact 7 = .ok (.imul, 1) := by decide +kernel
theorem dX8_enact_8 : decode cX8_enact 8 = .ok (.iadd, 1) := by decide +kernel
theorem dX8_enact_9 : decode cX8_enact 9 = .ok (.iload_n 3, 1) := by decide +kernel
theorem dX8_enact_10 : decode cX8_enact 10 = .ok (.iadd, 1) := by decide +kernel
theorem dX8_enact_11 : decode cX8_enact 11 = .ok (.istore 4, 2) := by decide +kernel
theorem dX8_enact_13 : decode cX8_enact 13 = .ok (.aload_n 0, 1) := by decide +kernel
theorem dX8_enact_14 : decode cX8_enact 14 = .ok (.getfield 37, 3) := by decide +kernel
theorem dX8_enact_17 : decode cX8_enact 17 = .ok (.aload_n 0, 1) := by decide +kernel
theorem dX8_enact_18 : decode cX8_enact 18 = .ok (.getfield 41, 3) := by decide +kernel
theorem dX8_enact_21 : decode cX8_enact 21 = .ok (.iload 4, 2) := by decide +kernel
theorem dX8_enact_23 : decode cX8_enact 23 = .ok (.invokestatic 201, 3) := by decide +kernel
theorem dX8_enact_26 : decode cX8_enact 26 = .ok (.aload_n 0, 1) := by decide +kernel
theorem dX8_enact_27 : decode cX8_enact 27 = .ok (.dup, 1) := by decide +kernel
theorem dX8_enact_28 : decode cX8_enact 28 = .ok (.getfield 41, 3) := by decide +kernel
theorem dX8_enact_31 : decode cX8_enact 31 = .ok (.iconst 1, 1) := by decide +kernel
theorem dX8_enact_32 : decode cX8_enact 32 = .ok (.iadd, 1) := by decide +kernel
theorem dX8_enact_33 : decode cX8_enact 33 = .ok (.putfield 41, 3) := by decide +kernel
theorem dX8_enact_36 : decode cX8_enact 36 = .ok (.aload_n 0, 1) := by decide +kernel
theorem dX8_enact_37 : decode cX8_enact 37 = .ok (.getfield 31, 3) := by decide +kernel
theorem dX8_enact_40 : decode cX8_enact 40 = .ok (.iload 4, 2) := by decide +kernel
theorem dX8_enact_42 : decode cX8_enact 42 = .ok (.invokevirtual 333, 3) := by decide +kernel
theorem dX8_enact_45 : decode cX8_enact 45 = .ok (.ireturn, 1) := by decide +kernel
theorem dX8_redoFromStart_0 : decode cX8_redoFromStart 0 = .ok (.aload_n 0, 1) := by decide +kernel
theorem dX8_redoFromStart_1 : decode cX8_redoFromStart 1 = .ok (.getfield 31, 3) := by decide +kernel
theorem dX8_redoFromStart_4 : decode cX8_redoFromStart 4 = .ok (.aload_n 0, 1) := by decide +kernel
theorem dX8_redoFromStart_5 : decode cX8_redoFromStart 5 = .ok (.getfield 27, 3) := by decide +kernel
theorem dX8_redoFromStart_8 : decode cX8_redoFromStart 8 = .ok (.invokevirtual 151, 3) := by decide +kernel
theorem dX8_redoFromStart_11 : decode cX8_redoFromStart 11 = .ok (.iconst 0, 1) := by decide +kernel
theorem dX8_redoFromStart_12 : decode cX8_redoFromStart 12 = .ok (.istore_n 1, 1) := by decide +kernel
theorem dX8_redoFromStart_13 : decode cX8_redoFromStart 13 = .ok (.iload_n 1, 1) := by decide +kernel
theorem dX8_redoFromStart_14 : decode cX8_redoFromStart 14 = .ok (.aload_n 0, 1) := by decide +kernel
theorem dX8_redoFromStart_15 : decode cX8_redoFromStart 15 = .ok (.getfield 41, 3) := by decide +kernel
theorem dX8_redoFromStart_18 : decode cX8_redoFromStart 18 = .ok (.if_icmp .ge 25, 3) := by decide +kernel
theorem dX8_redoFromStart_21 : decode cX8_redoFromStart 21 = .ok (.aload_n 0, 1) := by decide +kernel
theorem dX8_redoFromStart_22 : decode cX8_redoFromStart 22 = .ok (.getfield 31, 3) := by decide +kernel
theorem dX8_redoFromStart_25 : decode cX8_redoFromStart 25 = .ok (.aload_n 0, 1) := by decide +kernel
theorem dX8_redoFromStart_26 : decode cX8_redoFromStart 26 = .ok (.getfield 37, 3) := by decide +kernel
theorem dX8_redoFromStart_29 : decode cX8_redoFromStart 29 = .ok (.iload_n 1, 1) := by decide +kernel
theorem dX8_redoFromStart_30 : decode cX8_redoFromStart 30 = .ok (.invokestatic 308, 3) := by decide +kernel
theorem dX8_redoFromStart_33 : decode cX8_redoFromStart 33 = .ok (.invokevirtual 333, 3) := by decide +kernel
theorem dX8_redoFromStart_36 : decode cX8_redoFromStart 36 = .ok (.pop, 1) := by decide +kernel
theorem dX8_redoFromStart_37 : decode cX8_redoFromStart 37 = .ok (.iinc 1 1, 3) := by decide +kernel
theorem dX8_redoFromStart_40 : decode cX8_redoFromStart 40 = .ok (.goto (-27), 3) := by decide +kernel
theorem dX8_redoFromStart_43 : decode cX8_redoFromStart 43 = .ok (.return_, 1) := by decide +kernel
theorem dX8_tellChance_0 : decode cX8_tellChance 0 = .ok (.lload_n 1, 1) := by decide +kernel
theorem dX8_tellChance_1 : decode cX8_tellChance 1 = .ok (.lload_n 3, 1) := by decide +kernel
theorem dX8_tellChance_2 : decode cX8_tellChance 2 = .ok (.invokestatic 336, 3) := by decide +kernel
theorem dX8_tellChance_5 : decode cX8_tellChance 5 = .ok (.lstore 5, 2) := by decide +kernel
theorem dX8_tellChance_7 : decode cX8_tellChance 7 = .ok (.lload 5, 2) := by decide +kernel
theorem dX8_tellChance_9 : decode cX8_tellChance 9 = .ok (.lconst 0, 1) := by decide +kernel
theorem dX8_tellChance_10 : decode cX8_tellChance 10 = .ok (.lcmp, 1) := by decide +kernel
theorem dX8_tellChance_11 : decode cX8_tellChance 11 = .ok (.ifCond .le 19, 3) := by decide +kernel
theorem dX8_tellChance_14 : decode cX8_tellChance 14 = .ok (.aload_n 0, 1) := by decide +kernel
theorem dX8_tellChance_15 : decode cX8_tellChance 15 = .ok (.lload_n 1, 1) := by decide +kernel
theorem dX8_tellChance_16 : decode cX8_tellChance 16 = .ok (.lload 5, 2) := by decide +kernel
theorem dX8_tellChance_18 : decode cX8_tellChance 18 = .ok (.ldiv, 1) := by decide +kernel
theorem dX8_tellChance_19 : decode cX8_tellChance 19 = .ok (.putfield 83, 3) := by decide +kernel
theorem dX8_tellChance_22 : decode cX8_tellChance 22 = .ok (.aload_n 0, 1) := by decide +kernel
theorem dX8_tellChance_23 : decode cX8_tellChance 23 = .ok (.lload_n 3, 1) := by decide +kernel
theorem dX8_tellChance_24 : decode cX8_tellChance 24 = .ok (.lload 5, 2) := by decide +kernel
theorem dX8_tellChance_26 : decode cX8_tellChance 26 = .ok (.ldiv, 1) := by decide +kernel
theorem dX8_tellChance_27 : decode cX8_tellChance 27 = .ok (.putfield 87, 3) := by decide +kernel
theorem dX8_tellChance_30 : decode cX8_tellChance 30 = .ok (.iconst 1, 1) := by decide +kernel
theorem dX8_tellChance_31 : decode cX8_tellChance 31 = .ok (.ireturn, 1) := by decide +kernel
theorem dX8_waysOfReport_0 : decode cX8_waysOfReport 0 = .ok (.iload_n 1, 1) := by decide +kernel
theorem dX8_waysOfReport_1 : decode cX8_waysOfReport 1 = .ok (.iload_n 0, 1) := by decide +kernel
theorem dX8_waysOfReport_2 : decode cX8_waysOfReport 2 = .ok (.iconst (-1), 1) := by decide +kernel
theorem dX8_waysOfReport_3 : decode cX8_waysOfReport 3 = .ok (.ixor, 1) := by decide +kernel
theorem dX8_waysOfReport_4 : decode cX8_waysOfReport 4 = .ok (.iand, 1) := by decide +kernel
theorem dX8_waysOfReport_5 : decode cX8_waysOfReport 5 = .ok (.istore_n 3, 1) := by decide +kernel
theorem dX8_waysOfReport_6 : decode cX8_waysOfReport 6 = .ok (.iload_n 2, 1) := by decide +kernel
theorem dX8_waysOfReport_7 : decode cX8_waysOfReport 7 = .ok (.iload_n 0, 1) := by decide +kernel
theorem dX8_waysOfReport_8 : decode cX8_waysOfReport 8 = .ok (.invokestatic 267, 3) := by decide +kernel
theorem dX8_waysOfReport_11 : decode cX8_waysOfReport 11 = .ok (.invokestatic 276, 3) := by decide +kernel
theorem dX8_waysOfReport_14 : decode cX8_waysOfReport 14 = .ok (.bipush 12, 2) := by decide +kernel
theorem dX8_waysOfReport_16 : decode cX8_waysOfReport 16 = .ok (.iload_n 2, 1) := by decide +kernel
theorem dX8_waysOfReport_17 : decode cX8_waysOfReport 17 = .ok (.isub, 1) := by decide +kernel
theorem dX8_waysOfReport_18 : decode cX8_waysOfReport 18 = .ok (.iload_n 3, 1) := by decide +kernel
theorem dX8_waysOfReport_19 : decode cX8_waysOfReport 19 = .ok (.invokestatic 267, 3) := by decide +kernel
theorem dX8_waysOfReport_22 : decode cX8_waysOfReport 22 = .ok (.invokestatic 276, 3) := by decide +kernel
theorem dX8_waysOfReport_25 : decode cX8_waysOfReport 25 = .ok (.lmul, 1) := by decide +kernel
theorem dX8_waysOfReport_26 : decode cX8_waysOfReport 26 = .ok (.lreturn, 1) := by decide +kernel
theorem dX8_power_0 : decode cX8_power 0 = .ok (.lconst 1, 1) := by decide +kernel
theorem dX8_power_1 : decode cX8_power 1 = .ok (.lstore_n 2, 1) := by decide +kernel
theorem dX8_power_2 : decode cX8_power 2 = .ok (.iconst 0, 1) := by decide +kernel
theorem dX8_power_3 : decode cX8_power 3 = .ok (.istore 4, 2) := by decide +kernel
theorem dX8_power_5 : decode cX8_power 5 = .ok (.iload 4, 2) := by decide +kernel
theorem dX8_power_7 : decode cX8_power 7 = .ok (.iload_n 1, 1) := by decide +kernel
theorem dX8_power_8 : decode cX8_power 8 = .ok (.if_icmp .ge 14, 3) := by decide +kernel
theorem dX8_power_11 : decode cX8_power 11 = .ok (.lload_n 2, 1) := by decide +kernel
theorem dX8_power_12 : decode cX8_power 12 = .ok (.iload_n 0, 1) := by decide +kernel
theorem dX8_power_13 : decode cX8_power 13 = .ok (.i2l, 1) := by decide +kernel
theorem dX8_power_14 : decode cX8_power 14 = .ok (.lmul, 1) := by decide +kernel
theorem dX8_power_15 : decode cX8_power 15 = .ok (.lstore_n 2, 1) := by decide +kernel
theorem dX8_power_16 : decode cX8_power 16 = .ok (.iinc 4 1, 3) := by decide +kernel
theorem dX8_power_19 : decode cX8_power 19 = .ok (.goto (-14), 3) := by decide +kernel
theorem dX8_power_22 : decode cX8_power 22 = .ok (.lload_n 2, 1) := by decide +kernel
theorem dX8_power_23 : decode cX8_power 23 = .ok (.lreturn, 1) := by decide +kernel
theorem dX8_commonDivisor_0 : decode cX8_commonDivisor 0 = .ok (.iconst 0, 1) := by decide +kernel
theorem dX8_commonDivisor_1 : decode cX8_commonDivisor 1 = .ok (.istore 4, 2) := by decide +kernel
theorem dX8_commonDivisor_3 : decode cX8_commonDivisor 3 = .ok (.iload 4, 2) := by decide +kernel
theorem dX8_commonDivisor_5 : decode cX8_commonDivisor 5 = .ok (.sipush 1000, 3) := by decide +kernel
theorem dX8_commonDivisor_8 : decode cX8_commonDivisor 8 = .ok (.if_icmp .ge 25, 3) := by decide +kernel
theorem dX8_commonDivisor_11 : decode cX8_commonDivisor 11 = .ok (.lload_n 2, 1) := by decide +kernel
theorem dX8_commonDivisor_12 : decode cX8_commonDivisor 12 = .ok (.lconst 0, 1) := by decide +kernel
theorem dX8_commonDivisor_13 : decode cX8_commonDivisor 13 = .ok (.lcmp, 1) := by decide +kernel
theorem dX8_commonDivisor_14 : decode cX8_commonDivisor 14 = .ok (.ifCond .eq 19, 3) := by decide +kernel
theorem dX8_commonDivisor_17 : decode cX8_commonDivisor 17 = .ok (.lload_n 0, 1) := by decide +kernel
theorem dX8_commonDivisor_18 : decode cX8_commonDivisor 18 = .ok (.lload_n 2, 1) := by decide +kernel
theorem dX8_commonDivisor_19 : decode cX8_commonDivisor 19 = .ok (.lrem, 1) := by decide +kernel
theorem dX8_commonDivisor_20 : decode cX8_commonDivisor 20 = .ok (.lstore 5, 2) := by decide +kernel
theorem dX8_commonDivisor_22 : decode cX8_commonDivisor 22 = .ok (.lload_n 2, 1) := by decide +kernel
theorem dX8_commonDivisor_23 : decode cX8_commonDivisor 23 = .ok (.lstore_n 0, 1) := by decide +kernel
theorem dX8_commonDivisor_24 : decode cX8_commonDivisor 24 = .ok (.lload 5, 2) := by decide +kernel
theorem dX8_commonDivisor_26 : decode cX8_commonDivisor 26 = .ok (.lstore_n 2, 1) := by decide +kernel
theorem dX8_commonDivisor_27 : decode cX8_commonDivisor 27 = .ok (.iinc 4 1, 3) := by decide +kernel
theorem dX8_commonDivisor_30 : decode cX8_commonDivisor 30 = .ok (.goto (-27), 3) := by decide +kernel
theorem dX8_commonDivisor_33 : decode cX8_commonDivisor 33 = .ok (.lload_n 0, 1) := by decide +kernel
theorem dX8_commonDivisor_34 : decode cX8_commonDivisor 34 = .ok (.lreturn, 1) := by decide +kernel
theorem dX8_read_0 : decode cX8_read 0 = .ok (.iload_n 1, 1) := by decide +kernel
theorem dX8_read_1 : decode cX8_read 1 = .ok (.ifCond .lt 15, 3) := by decide +kernel
theorem dX8_read_4 : decode cX8_read 4 = .ok (.iload_n 1, 1) := by decide +kernel
theorem dX8_read_5 : decode cX8_read 5 = .ok (.aload_n 0, 1) := by decide +kernel
theorem dX8_read_6 : decode cX8_read 6 = .ok (.arraylength, 1) := by decide +kernel
theorem dX8_read_7 : decode cX8_read 7 = .ok (.if_icmp .ge 9, 3) := by decide +kernel
theorem dX8_read_10 : decode cX8_read 10 = .ok (.aload_n 0, 1) := by decide +kernel
theorem dX8_read_11 : decode cX8_read 11 = .ok (.iload_n 1, 1) := by decide +kernel
theorem dX8_read_12 : decode cX8_read 12 = .ok (.iaload, 1) := by decide +kernel
theorem dX8_read_13 : decode cX8_read 13 = .ok (.goto 4, 3) := by decide +kernel
theorem dX8_read_16 : decode cX8_read 16 = .ok (.iconst 0, 1) := by decide +kernel
theorem dX8_read_17 : decode cX8_read 17 = .ok (.ireturn, 1) := by decide +kernel
theorem dX8_write_0 : decode cX8_write 0 = .ok (.iload_n 1, 1) := by decide +kernel
theorem dX8_write_1 : decode cX8_write 1 = .ok (.ifCond .lt 13, 3) := by decide +kernel
theorem dX8_write_4 : decode cX8_write 4 = .ok (.iload_n 1, 1) := by decide +kernel
theorem dX8_write_5 : decode cX8_write 5 = .ok (.aload_n 0, 1) := by decide +kernel
theorem dX8_write_6 : decode cX8_write 6 = .ok (.arraylength, 1) := by decide +kernel
theorem dX8_write_7 : decode cX8_write 7 = .ok (.if_icmp .ge 7, 3) := by decide +kernel
theorem dX8_write_10 : decode cX8_write 10 = .ok (.aload_n 0, 1) := by decide +kernel
theorem dX8_write_11 : decode cX8_write 11 = .ok (.iload_n 1, 1) := by decide +kernel
theorem dX8_write_12 : decode cX8_write 12 = .ok (.iload_n 2, 1) := by decide +kernel
theorem dX8_write_13 : decode cX8_write 13 = .ok (.iastore, 1) := by decide +kernel
theorem dX8_write_14 : decode cX8_write 14 = .ok (.return_, 1) := by decide +kernel
theorem dX8_shift_0 : decode cX8_shift 0 = .ok (.aload_n 0, 1) := by decide +kernel
theorem dX8_shift_1 : decode cX8_shift 1 = .ok (.arraylength, 1) := by decide +kernel
theorem dX8_shift_2 : decode cX8_shift 2 = .ok (.iload_n 3, 1) := by decide +kernel
theorem dX8_shift_3 : decode cX8_shift 3 = .ok (.isub, 1) := by decide +kernel
theorem dX8_shift_4 : decode cX8_shift 4 = .ok (.istore 4, 2) := by decide +kernel
theorem dX8_shift_6 : decode cX8_shift 6 = .ok (.iload_n 3, 1) := by decide +kernel
theorem dX8_shift_7 : decode cX8_shift 7 = .ok (.ifCond .lt 31, 3) := by decide +kernel
theorem dX8_shift_10 : decode cX8_shift 10 = .ok (.iload_n 1, 1) := by decide +kernel
theorem dX8_shift_11 : decode cX8_shift 11 = .ok (.ifCond .lt 27, 3) := by decide +kernel
theorem dX8_shift_14 : decode cX8_shift 14 = .ok (.iload_n 1, 1) := by decide +kernel
theorem dX8_shift_15 : decode cX8_shift 15 = .ok (.iload 4, 2) := by decide +kernel
theorem dX8_shift_17 : decode cX8_shift 17 = .ok (.if_icmp .gt 21, 3) := by decide +kernel
theorem dX8_shift_20 : decode cX8_shift 20 = .ok (.iload_n 2, 1) := by decide +kernel
theorem dX8_shift_21 : decode cX8_shift 21 = .ok (.ifCond .lt 17, 3) := by decide +kernel
theorem dX8_shift_24 : decode cX8_shift 24 = .ok (.iload_n 2, 1) := by decide +kernel
theorem dX8_shift_25 : decode cX8_shift 25 = .ok (.iload 4, 2) := by decide +kernel
theorem dX8_shift_27 : decode cX8_shift 27 = .ok (.if_icmp .gt 11, 3) := by decide +kernel
theorem dX8_shift_30 : decode cX8_shift 30 = .ok (.aload_n 0, 1) := by decide +kernel
theorem dX8_shift_31 : decode cX8_shift 31 = .ok (.iload_n 1, 1) := by decide +kernel
theorem dX8_shift_32 : decode cX8_shift 32 = .ok (.aload_n 0, 1) := by decide +kernel
theorem dX8_shift_33 : decode cX8_shift 33 = .ok (.iload_n 2, 1) := by decide +kernel
theorem dX8_shift_34 : decode cX8_shift 34 = .ok (.iload_n 3, 1) := by decide +kernel
theorem dX8_shift_35 : decode cX8_shift 35 = .ok (.invokestatic 340, 3) := by decide +kernel
theorem dX8_shift_38 : decode cX8_shift 38 = .ok (.return_, 1) := by decide +kernel
theorem dX8_copyAll_0 : decode cX8_copyAll 0 = .ok (.aload_n 0, 1) := by decide +kernel
theorem dX8_copyAll_1 : decode cX8_copyAll 1 = .ok (.iconst 0, 1) := by decide +kernel
theorem dX8_copyAll_2 : decode cX8_copyAll 2 = .ok (.aload_n 1, 1) := by decide +kernel
theorem dX8_copyAll_3 : decode cX8_copyAll 3 = .ok (.iconst 0, 1) := by decide +kernel
theorem dX8_copyAll_4 : decode cX8_copyAll 4 = .ok (.aload_n 0, 1) := by decide +kernel
theorem dX8_copyAll_5 : decode cX8_copyAll 5 = .ok (.arraylength, 1) := by decide +kernel
theorem dX8_copyAll_6 : decode cX8_copyAll 6 = .ok (.aload_n 1, 1) := by decide +kernel
theorem dX8_copyAll_7 : decode cX8_copyAll 7 = .ok (.arraylength, 1) := by decide +kernel
theorem dX8_copyAll_8 : decode cX8_copyAll 8 = .ok (.invokestatic 346, 3) := by decide +kernel
theorem dX8_copyAll_11 : decode cX8_copyAll 11 = .ok (.invokestatic 340, 3) := by decide +kernel
theorem dX8_copyAll_14 : decode cX8_copyAll 14 = .ok (.return_, 1) := by decide +kernel
theorem dX8_isOfKind_0 : decode cX8_isOfKind 0 = .ok (.iload_n 0, 1) := by decide +kernel
theorem dX8_isOfKind_1 : decode cX8_isOfKind 1 = .ok (.iload_n 1, 1) := by decide +kernel
theorem dX8_isOfKind_2 : decode cX8_isOfKind 2 = .ok (.if_icmp .eq 27, 3) := by decide +kernel
theorem dX8_isOfKind_5 : decode cX8_isOfKind 5 = .ok (.iload_n 1, 1) := by decide +kernel
theorem dX8_isOfKind_6 : decode cX8_isOfKind 6 = .ok (.ifCond .eq 23, 3) := by decide +kernel
theorem dX8_isOfKind_9 : decode cX8_isOfKind 9 = .ok (.iload_n 0, 1) := by decide +kernel
theorem dX8_isOfKind_10 : decode cX8_isOfKind 10 = .ok (.iconst 4, 1) := by decide +kernel
theorem dX8_isOfKind_11 : decode cX8_isOfKind 11 = .ok (.if_icmp .ne 8, 3) := by decide +kernel
theorem dX8_isOfKind_14 : decode cX8_isOfKind 14 = .ok (.iload_n 1, 1) := by decide +kernel
theorem dX8_isOfKind_15 : decode cX8_isOfKind 15 = .ok (.iconst 2, 1) := by decide +kernel
theorem dX8_isOfKind_16 : decode cX8_isOfKind 16 = .ok (.if_icmp .eq 13, 3) := by decide +kernel
theorem dX8_isOfKind_19 : decode cX8_isOfKind 19 = .ok (.iload_n 0, 1) := by decide +kernel
theorem dX8_isOfKind_20 : decode cX8_isOfKind 20 = .ok (.iconst 5, 1) := by decide +kernel
theorem dX8_isOfKind_21 : decode cX8_isOfKind 21 = .ok (.if_icmp .ne 12, 3) := by decide +kernel
theorem dX8_isOfKind_24 : decode cX8_isOfKind 24 = .ok (.iload_n 1, 1) := by decide +kernel
theorem dX8_isOfKind_25 : decode cX8_isOfKind 25 = .ok (.iconst 1, 1) := by decide +kernel
theorem dX8_isOfKind_26 : decode cX8_isOfKind 26 = .ok (.if_icmp .ne 7, 3) := by decide +kernel
theorem dX8_isOfKind_29 : decode cX8_isOfKind 29 = .ok (.iconst 1, 1) := by decide +kernel
theorem dX8_isOfKind_30 : decode cX8_isOfKind 30 = .ok (.goto 4, 3) := by decide +kernel
theorem dX8_isOfKind_33 : decode cX8_isOfKind 33 = .ok (.iconst 0, 1) := by decide +kernel
theorem dX8_isOfKind_34 : decode cX8_isOfKind 34 = .ok (.ireturn, 1) := by decide +kernel
theorem dX8_barOf_0 : decode cX8_barOf 0 = .ok (.iload_n 0, 1) := by decide +kernel
theorem dX8_barOf_1 : decode cX8_barOf 1 = .ok (.tableswitch 43 1 5 #[35, 39, 43, 39, 35], 35) := by decide +kernel
theorem dX8_barOf_36 : decode cX8_barOf 36 = .ok (.iload_n 1, 1) := by decide +kernel
theorem dX8_barOf_37 : decode cX8_barOf 37 = .ok (.iconst 2, 1) := by decide +kernel
theorem dX8_barOf_38 : decode cX8_barOf 38 = .ok (.iadd, 1) := by decide +kernel
theorem dX8_barOf_39 : decode cX8_barOf 39 = .ok (.ireturn, 1) := by decide +kernel
theorem dX8_barOf_40 : decode cX8_barOf 40 = .ok (.iload_n 1, 1) := by decide +kernel
theorem dX8_barOf_41 : decode cX8_barOf 41 = .ok (.iconst 2, 1) := by decide +kernel
theorem dX8_barOf_42 : decode cX8_barOf 42 = .ok (.idiv, 1) := by decide +kernel
theorem dX8_barOf_43 : decode cX8_barOf 43 = .ok (.ireturn, 1) := by decide +kernel
theorem dX8_barOf_44 : decode cX8_barOf 44 = .ok (.iload_n 1, 1) := by decide +kernel
theorem dX8_barOf_45 : decode cX8_barOf 45 = .ok (.ireturn, 1) := by decide +kernel
theorem dX8_crossing_0 : decode cX8_crossing 0 = .ok (.iconst 0, 1) := by decide +kernel
theorem dX8_crossing_1 : decode cX8_crossing 1 = .ok (.iload_n 1, 1) := by decide +kernel
theorem dX8_crossing_2 : decode cX8_crossing 2 = .ok (.iload 4, 2) := by decide +kernel
theorem dX8_crossing_4 : decode cX8_crossing 4 = .ok (.iadd, 1) := by decide +kernel
theorem dX8_crossing_5 : decode cX8_crossing 5 = .ok (.iload_n 0, 1) := by decide +kernel
theorem dX8_crossing_6 : decode cX8_crossing 6 = .ok (.iload_n 2, 1) := by decide +kernel
theorem dX8_crossing_7 : decode cX8_crossing 7 = .ok (.invokestatic 187, 3) := by decide +kernel
theorem dX8_crossing_10 : decode cX8_crossing 10 = .ok (.isub, 1) := by decide +kernel
theorem dX8_crossing_11 : decode cX8_crossing 11 = .ok (.invokestatic 351, 3) := by decide +kernel
theorem dX8_crossing_14 : decode cX8_crossing 14 = .ok (.istore 5, 2) := by decide +kernel
theorem dX8_crossing_16 : decode cX8_crossing 16 = .ok (.iload_n 0, 1) := by decide +kernel
theorem dX8_crossing_17 : decode cX8_crossing 17 = .ok (.tableswitch 59 3 5 #[27, 40, 54], 27) := by decide +kernel
theorem dX8_crossing_44 : decode cX8_crossing 44 = .ok (.iload_n 3, 1) := by decide +kernel
theorem dX8_crossing_45 : decode cX8_crossing 45 = .ok (.iconst 2, 1) := by decide +kernel
theorem dX8_crossing_46 : decode cX8_crossing 46 = .ok (.irem, 1) := by decide +kernel
theorem dX8_crossing_47 : decode cX8_crossing 47 = .ok (.ifCond .ne 8, 3) := by decide +kernel
theorem dX8_crossing_50 : decode cX8_crossing 50 = .ok (.iload 5, 2) := by decide +kernel
theorem dX8_crossing_52 : decode cX8_crossing 52 = .ok (.goto 4, 3) := by decide +kernel
theorem dX8_crossing_55 : decode cX8_crossing 55 = .ok (.iconst 0, 1) := by decide +kernel
theorem dX8_crossing_56 : decode cX8_crossing 56 = .ok (.ireturn, 1) := by decide +kernel
theorem dX8_crossing_57 : decode cX8_crossing 57 = .ok (.iload 5, 2) := by decide +kernel
theorem dX8_crossing_59 : decode cX8_crossing 59 = .ok (.ifCond .le 10, 3) := by decide +kernel
theorem dX8_crossing_62 : decode cX8_crossing 62 = .ok (.iload 5, 2) := by decide +kernel
theorem dX8_crossing_64 : decode cX8_crossing 64 = .ok (.iconst 1, 1) := by decide +kernel
theorem dX8_crossing_65 : decode cX8_crossing 65 = .ok (.iadd, 1) := by decide +kernel
theorem dX8_crossing_66 : decode cX8_crossing 66 = .ok (.goto 4, 3) := by decide +kernel
theorem dX8_crossing_69 : decode cX8_crossing 69 = .ok (.iconst 0, 1) := by decide +kernel
theorem dX8_crossing_70 : decode cX8_crossing 70 = .ok (.ireturn, 1) := by decide +kernel
theorem dX8_crossing_71 : decode cX8_crossing 71 = .ok (.iload 5, 2) := by decide +kernel
theorem dX8_crossing_73 : decode cX8_crossing 73 = .ok (.iconst 2, 1) := by decide +kernel
theorem dX8_crossing_74 : decode cX8_crossing 74 = .ok (.idiv, 1) := by decide +kernel
theorem dX8_crossing_75 : decode cX8_crossing 75 = .ok (.ireturn, 1) := by decide +kernel
theorem dX8_crossing_76 : decode cX8_crossing 76 = .ok (.iload 5, 2) := by decide +kernel
theorem dX8_crossing_78 : decode cX8_crossing 78 = .ok (.ireturn, 1) := by decide +kernel
theorem dX9_init_0 : decode cX9_init 0 = .ok (.aload_n 0, 1) := by decide +kernel
theorem dX9_init_1 : decode cX9_init 1 = .ok (.invokespecial 1, 3) := by decide +kernel
theorem dX9_init_4 : decode cX9_init 4 = .ok (.aload_n 0, 1) := by decide +kernel
theorem dX9_init_5 : decode cX9_init 5 = .ok (.sipush 7304, 3) := by decide +kernel
theorem dX9_init_8 : decode cX9_init 8 = .ok (.newarray .int, 2) := by decide +kernel
theorem dX9_init_10 : decode cX9_init 10 = .ok (.putfield 7, 3) := by decide +kernel
theorem dX9_init_13 : decode cX9_init 13 = .ok (.aload_n 0, 1) := by decide +kernel
theorem dX9_init_14 : decode cX9_init 14 = .ok (.iconst 3, 1) := by decide +kernel
theorem dX9_init_15 : decode cX9_init 15 = .ok (.newarray .int, 2) := by decide +kernel
theorem dX9_init_17 : decode cX9_init 17 = .ok (.putfield 13, 3) := by decide +kernel
theorem dX9_init_20 : decode cX9_init 20 = .ok (.aload_n 0, 1) := by decide +kernel
theorem dX9_init_21 : decode cX9_init 21 = .ok (.sipush 240, 3) := by decide +kernel
theorem dX9_init_24 : decode cX9_init 24 = .ok (.newarray .int, 2) := by decide +kernel
theorem dX9_init_26 : decode cX9_init 26 = .ok (.putfield 16, 3) := by decide +kernel
theorem dX9_init_29 : decode cX9_init 29 = .ok (.aload_n 0, 1) := by decide +kernel
theorem dX9_init_30 : decode cX9_init 30 = .ok (.bipush 6, 2) := by decide +kernel
theorem dX9_init_32 : decode cX9_init 32 = .ok (.newarray .int, 2) := by decide +kernel
theorem dX9_init_34 : decode cX9_init 34 = .ok (.putfield 19, 3) := by decide +kernel
theorem dX9_init_37 : decode cX9_init 37 = .ok (.aload_n 0, 1) := by decide +kernel
theorem dX9_init_38 : decode cX9_init 38 = .ok (.sipush 240, 3) := by decide +kernel
theorem dX9_init_41 : decode cX9_init 41 = .ok (.newarray .int, 2) := by decide +kernel
theorem dX9_init_43 : decode cX9_init 43 = .ok (.putfield 22, 3) := by decide +kernel
theorem dX9_init_46 : decode cX9_init 46 = .ok (.aload_n 0, 1) := by decide +kernel
theorem dX9_init_47 : decode cX9_init 47 = .ok (.iconst 4, 1) := by decide +kernel
theorem dX9_init_48 : decode cX9_init 48 = .ok (.newarray .int, 2) := by decide +kernel
theorem dX9_init_50 : decode cX9_init 50 = .ok (.putfield 25, 3) := by decide +kernel
theorem dX9_init_53 : decode cX9_init 53 = .ok (.aload_n 0, 1) := by decide +kernel
theorem dX9_init_54 : decode cX9_init 54 = .ok (.bipush 40, 2) := by decide +kernel
theorem dX9_init_56 : decode cX9_init 56 = .ok (.newarray .int, 2) := by decide +kernel
theorem dX9_init_58 : decode cX9_init 58 = .ok (.putfield 28, 3) := by decide +kernel
theorem dX9_init_61 : decode cX9_init 61 = .ok (.aload_n 0, 1) := by decide +kernel
theorem dX9_init_62 : decode cX9_init 62 = .ok (.bipush 6, 2) := by decide +kernel
theorem dX9_init_64 : decode cX9_init 64 = .ok (.newarray .int, 2) := by decide +kernel
theorem dX9_init_66 : decode cX9_init 66 = .ok (.putfield 31, 3) := by decide +kernel
theorem dX9_init_69 : decode cX9_init 69 = .ok (.aload_n 0, 1) := by decide +kernel
theorem dX9_init_70 : decode cX9_init 70 = .ok (.lconst 1, 1) := by decide +kernel
theorem dX9_init_71 : decode cX9_init 71 = .ok (.putfield 34, 3) := by decide +kernel
theorem dX9_init_74 : decode cX9_init 74 = .ok (.aload_n 0, 1) := by decide +kernel
theorem dX9_init_75 : decode cX9_init 75 = .ok (.bipush 32, 2) := by decide +kernel
theorem dX9_init_77 : decode cX9_init 77 = .ok (.newarray .int, 2) := by decide +kernel
theorem dX9_init_79 : decode cX9_init 79 = .ok (.putfield 38, 3) := by decide +kernel
theorem dX9_init_82 : decode cX9_init 82 = .ok (.aload_n 0, 1) := by decide +kernel
theorem dX9_init_83 : decode cX9_init 83 = .ok (.sipush 2401, 3) := by decide +kernel
theorem dX9_init_86 : decode cX9_init 86 = .ok (.newarray .int, 2) := by decide +kernel
theorem dX9_init_88 : decode cX9_init 88 = .ok (.putfield 41, 3) := by decide +kernel
theorem dX9_init_91 : decode cX9_init 91 = .ok (.iconst 0, 1) := by decide +kernel
theorem dX9_init_92 : decode cX9_init 92 = .ok (.istore_n 1, 1) := by decide +kernel
theorem dX9_init_93 : decode cX9_init 93 = .ok (.iload_n 1, 1) := by decide +kernel
theorem dX9_init_94 : decode cX9_init 94 = .ok (.bipush 6, 2) := by decide +kernel
theorem dX9_init_96 : decode cX9_init 96 = .ok (.if_icmp .ge 16, 3) := by decide +kernel
theorem dX9_init_99 : decode cX9_init 99 = .ok (.aload_n 0, 1) := by decide +kernel
theorem dX9_init_100 : decode cX9_init 100 = .ok (.getfield 19, 3) := by decide +kernel
theorem dX9_init_103 : decode cX9_init 103 = .ok (.iload_n 1, 1) := by decide +kernel
theorem dX9_init_104 : decode cX9_init 104 = .ok (.iconst (-1), 1) := by decide +kernel
theorem dX9_init_105 : decode cX9_init 105 = .ok (.iastore, 1) := by decide +kernel
theorem dX9_init_106 : decode cX9_init 106 = .ok (.iinc 1 1, 3) := by decide +kernel
theorem dX9_init_109 : decode cX9_init 109 = .ok (.goto (-16), 3) := by decide +kernel
theorem dX9_init_112 : decode cX9_init 112 = .ok (.iconst 0, 1) := by decide +kernel
theorem dX9_init_113 : decode cX9_init 113 = .ok (.istore_n 1, 1) := by decide +kernel
theorem dX9_init_114 : decode cX9_init 114 = .ok (.iload_n 1, 1) := by decide +kernel
theorem dX9_init_115 : decode cX9_init 115 = .ok (.iconst 4, 1) := by decide +kernel
theorem dX9_init_116 : decode cX9_init 116 = .ok (.if_icmp .ge 16, 3) := by decide +kernel
theorem dX9_init_119 : decode cX9_init 119 = .ok (.aload_n 0, 1) := by decide +kernel
theorem dX9_init_120 : decode cX9_init 120 = .ok (.getfield 25, 3) := by decide +kernel
theorem dX9_init_123 : decode cX9_init 123 = .ok (.iload_n 1, 1) := by decide +kernel
theorem dX9_init_124 : decode cX9_init 124 = .ok (.iconst (-1), 1) := by decide +kernel
theorem dX9_init_125 : decode cX9_init 125 = .ok (.iastore, 1) := by decide +kernel
theorem dX9_init_126 : decode cX9_init 126 = .ok (.iinc 1 1, 3) := by decide +kernel
theorem dX9_init_129 : decode cX9_init 129 = .ok (.goto (-15), 3) := by decide +kernel
theorem dX9_init_132 : decode cX9_init 132 = .ok (.iconst 0, 1) := by decide +kernel
theorem dX9_init_133 : decode cX9_init 133 = .ok (.istore_n 1, 1) := by decide +kernel
theorem dX9_init_134 : decode cX9_init 134 = .ok (.iload_n 1, 1) := by decide +kernel
theorem dX9_init_135 : decode cX9_init 135 = .ok (.iconst 3, 1) := by decide +kernel
theorem dX9_init_136 : decode cX9_init 136 = .ok (.if_icmp .ge 16, 3) := by decide +kernel
theorem dX9_init_139 : decode cX9_init 139 = .ok (.aload_n 0, 1) := by decide +kernel
theorem dX9_init_140 : decode cX9_init 140 = .ok (.getfield 13, 3) := by decide +kernel
theorem dX9_init_143 : decode cX9_init 143 = .ok (.iload_n 1, 1) := by decide +kernel
theorem dX9_init_144 : decode cX9_init 144 = .ok (.iconst (-1), 1) := by decide +kernel
theorem dX9_init_145 : decode cX9_init 145 = .ok (.iastore, 1) := by decide +kernel
theorem dX9_init_146 : decode cX9_init 146 = .ok (.iinc 1 1, 3) := by decide +kernel
theorem dX9_init_149 : decode cX9_init 149 = .ok (.goto (-15), 3) := by decide +kernel
theorem dX9_init_152 : decode cX9_init 152 = .ok (.return_, 1) := by decide +kernel
