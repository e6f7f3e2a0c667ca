theorem dX9_in_0 : decode cX9_in 0 = .ok (.lload_n 0, 1) := by decide +kernel
theorem dX9_in_1 : decode cX9_in 1 = .ok (.lload_n 2, 1) := by decide +kernel
theorem dX9_in_2 : decode cX9_in 2 = .ok (.lcmp, 1) := by decide +kernel
theorem dX9_in_3 : decode cX9_in 3 = .ok (.ifCond .lt 14, 3) := by decide +kernel
theorem dX9_in_6 : decode cX9_in 6 = .ok (.lload_n 0, 1) := by decide +kernel
theorem dX9_in_7 : decode cX9_in 7 = .ok (.lload 4, 2) := by decide +kernel
theorem dX9_in_9 : decode cX9_in 9 = .ok (.lcmp, 1) := by decide +kernel
theorem dX9_in_10 : decode cX9_in 10 = .ok (.ifCond .gt 7, 3) := by decide +kernel
theorem dX9_in_13 : decode cX9_in 13 = .ok (.iconst 1, 1) := by decide +kernel
theorem dX9_in_14 : decode cX9_in 14 = .ok (.goto 4, 3) := by decide +kernel
theorem dX9_in_17 : decode cX9_in 17 = .ok (.iconst 0, 1) := by decide +kernel
theorem dX9_in_18 : decode cX9_in 18 = .ok (.ireturn, 1) := by decide +kernel
theorem dX9_has_0 : decode cX9_has 0 = .ok (.iload_n 0, 1) := by decide +kernel
theorem dX9_has_1 : decode cX9_has 1 = .ok (.iload_n 1, 1) := by decide +kernel
theorem dX9_has_2 : decode cX9_has 2 = .ok (.ishr, 1) := by decide +kernel
theorem dX9_has_3 : decode cX9_has 3 = .ok (.iconst 1, 1) := by decide +kernel
theorem dX9_has_4 : decode cX9_has 4 = .ok (.iand, 1) := by decide +kernel
theorem dX9_has_5 : decode cX9_has 5 = .ok (.iconst 1, 1) := by decide +kernel
theorem dX9_has_6 : decode cX9_has 6 = .ok (.if_icmp .ne 7, 3) := by decide +kernel
theorem dX9_has_9 : decode cX9_has 9 = .ok (.iconst 1, 1) := by decide +kernel
theorem dX9_has_10 : decode cX9_has 10 = .ok (.goto 4, 3) := by decide +kernel
theorem dX9_has_13 : decode cX9_has 13 = .ok (.iconst 0, 1) := by decide +kernel
theorem dX9_has_14 : decode cX9_has 14 = .ok (.ireturn, 1) := by decide +kernel
theorem dX9_ones_0 : decode cX9_ones 0 = .ok (.iconst 0, 1) := by decide +kernel
theorem dX9_ones_1 : decode cX9_ones 1 = .ok (.istore_n 1, 1) := by decide +kernel
theorem dX9_ones_2 : decode cX9_ones 2 = .ok (.iconst 0, 1) := by decide +kernel
theorem dX9_ones_3 : decode cX9_ones 3 = .ok (.istore_n 2, 1) := by decide +kernel
theorem dX9_ones_4 : decode cX9_ones 4 = .ok (.iload_n 2, 1) := by decide +kernel
theorem dX9_ones_5 : decode cX9_ones 5 = .ok (.bipush 6, 2) := by decide +kernel
theorem dX9_ones_7 : decode cX9_ones 7 = .ok (.if_icmp .ge 17, 3) := by decide +kernel
theorem dX9_ones_10 : decode cX9_ones 10 = .ok (.iload_n 1, 1) := by decide +kernel
theorem dX9_ones_11 : decode cX9_ones 11 = .ok (.iload_n 0, 1) := by decide +kernel
theorem dX9_ones_12 : decode cX9_ones 12 = .ok (.iload_n 2, 1) := by decide +kernel
theorem dX9_ones_13 : decode cX9_ones 13 = .ok (.ishr, 1) := by decide +kernel
theorem dX9_ones_14 : decode cX9_ones 14 = .ok (.iconst 1, 1) := by decide +kernel
theorem dX9_ones_15 : decode cX9_ones 15 = .ok (.iand, 1) := by decide +kernel
theorem dX9_ones_16 : decode cX9_ones 16 = .ok (.iadd, 1) := by decide +kernel
theorem dX9_ones_17 : decode cX9_ones 17 = .ok (.istore_n 1, 1) := by decide +kernel
theorem dX9_ones_18 : decode cX9_ones 18 = .ok (.iinc 2 1, 3) := by decide +kernel
theorem dX9_ones_21 : decode cX9_ones 21 = .ok (.goto (-17), 3) := by decide +kernel
theorem dX9_ones_24 : decode cX9_ones 24 = .ok (.iload_n 1, 1) := by decide +kernel
theorem dX9_ones_25 : decode cX9_ones 25 = .ok (.ireturn, 1) := by decide +kernel
theorem dX9_off_0 : decode cX9_off 0 = .ok (.iload_n 0, 1) := by decide +kernel
theorem dX9_off_1 : decode cX9_off 1 = .ok (.iload_n 1, 1) := by decide +kernel
theorem dX9_off_2 : decode cX9_off 2 = .ok (.if_icmp .ge 9, 3) := by decide +kernel
theorem dX9_off_5 : decode cX9_off 5 = .ok (.iload_n 1, 1) := by decide +kernel
theorem dX9_off_6 : decode cX9_off 6 = .ok (.iload_n 0, 1) := by decide +kernel
theorem dX9_off_7 : decode cX9_off 7 = .ok (.isub, 1) := by decide +kernel
theorem dX9_off_8 : decode cX9_off 8 = .ok (.goto 6, 3) := by decide +kernel
theorem dX9_off_11 : decode cX9_off 11 = .ok (.iload_n 0, 1) := by decide +kernel
theorem dX9_off_12 : decode cX9_off 12 = .ok (.iload_n 1, 1) := by decide +kernel
theorem dX9_off_13 : decode cX9_off 13 = .ok (.isub, 1) := by decide +kernel
theorem dX9_off_14 : decode cX9_off 14 = .ok (.ireturn, 1) := by decide +kernel
theorem dX9_found_0 : decode cX9_found 0 = .ok (.aload_n 0, 1) := by decide +kernel
theorem dX9_found_1 : decode cX9_found 1 = .ok (.iload_n 1, 1) := by decide +kernel
theorem dX9_found_2 : decode cX9_found 2 = .ok (.putfield 44, 3) := by decide +kernel
theorem dX9_found_5 : decode cX9_found 5 = .ok (.aload_n 0, 1) := by decide +kernel
theorem dX9_found_6 : decode cX9_found 6 = .ok (.getfield 31, 3) := by decide +kernel
theorem dX9_found_9 : decode cX9_found 9 = .ok (.iload_n 1, 1) := by decide +kernel
theorem dX9_found_10 : decode cX9_found 10 = .ok (.dup2, 1) := by decide +kernel
theorem dX9_found_11 : decode cX9_found 11 = .ok (.iaload, 1) := by decide +kernel
theorem dX9_found_12 : decode cX9_found 12 = .ok (.iconst 1, 1) := by decide +kernel
theorem dX9_found_13 : decode cX9_found 13 = .ok (.iadd, 1) := by decide +kernel
theorem dX9_found_14 : decode cX9_found 14 = .ok (.iastore, 1) := by decide +kernel
theorem dX9_found_15 : decode cX9_found 15 = .ok (.bipush (-3), 2) := by decide +kernel
theorem dX9_found_17 : decode cX9_found 17 = .ok (.ireturn, 1) := by decide +kernel
theorem dX9_tells_0 : decode cX9_tells 0 = .ok (.aload_n 0, 1) := by decide +kernel
theorem dX9_tells_1 : decode cX9_tells 1 = .ok (.iload_n 1, 1) := by decide +kernel
theorem dX9_tells_2 : decode cX9_tells 2 = .ok (.putfield 48, 3) := by decide +kernel
theorem dX9_tells_5 : decode cX9_tells 5 = .ok (.iload_n 2, 1) := by decide +kernel
theorem dX9_tells_6 : decode cX9_tells 6 = .ok (.ireturn, 1) := by decide +kernel
theorem dX9_copyAll_0 : decode cX9_copyAll 0 = .ok (.iconst 0, 1) := by decide +kernel
theorem dX9_copyAll_1 : decode cX9_copyAll 1 = .ok (.istore 4, 2) := by decide +kernel
theorem dX9_copyAll_3 : decode cX9_copyAll 3 = .ok (.iload 4, 2) := by decide +kernel
theorem dX9_copyAll_5 : decode cX9_copyAll 5 = .ok (.iload_n 3, 1) := by decide +kernel
theorem dX9_copyAll_6 : decode cX9_copyAll 6 = .ok (.if_icmp .ge 27, 3) := by decide +kernel
theorem dX9_copyAll_9 : decode cX9_copyAll 9 = .ok (.aload_n 0, 1) := by decide +kernel
theorem dX9_copyAll_10 : decode cX9_copyAll 10 = .ok (.getfield 7, 3) := by decide +kernel
theorem dX9_copyAll_13 : decode cX9_copyAll 13 = .ok (.iload_n 2, 1) := by decide +kernel
theorem dX9_copyAll_14 : decode cX9_copyAll 14 = .ok (.iload 4, 2) := by decide +kernel
theorem dX9_copyAll_16 : decode cX9_copyAll 16 = .ok (.iadd, 1) := by decide +kernel
theorem dX9_copyAll_17 : decode cX9_copyAll 17 = .ok (.aload_n 0, 1) := by decide +kernel
theorem dX9_copyAll_18 : decode cX9_copyAll 18 = .ok (.getfield 7, 3) := by decide +kernel
theorem dX9_copyAll_21 : decode cX9_copyAll 21 = .ok (.iload_n 1, 1) := by decide +kernel
theorem dX9_copyAll_22 : decode cX9_copyAll 22 = .ok (.iload 4, 2) := by decide +kernel
theorem dX9_copyAll_24 : decode cX9_copyAll 24 = .ok (.iadd, 1) := by decide +kernel
theorem dX9_copyAll_25 : decode cX9_copyAll 25 = .ok (.iaload, 1) := by decide +kernel
theorem dX9_copyAll_26 : decode cX9_copyAll 26 = .ok (.iastore, 1) := by decide +kernel
theorem dX9_copyAll_27 : decode cX9_copyAll 27 = .ok (.iinc 4 1, 3) := by decide +kernel
theorem dX9_copyAll_30 : decode cX9_copyAll 30 = .ok (.goto (-27), 3) := by decide +kernel
theorem dX9_copyAll_33 : decode cX9_copyAll 33 = .ok (.return_, 1) := by decide +kernel
theorem dX9_isRow_0 : decode cX9_isRow 0 = .ok (.iload_n 0, 1) := by decide +kernel
theorem dX9_isRow_1 : decode cX9_isRow 1 = .ok (.i2l, 1) := by decide +kernel
theorem dX9_isRow_2 : decode cX9_isRow 2 = .ok (.lconst 0, 1) := by decide +kernel
theorem dX9_isRow_3 : decode cX9_isRow 3 = .ok (.ldc2_w 51, 3) := by decide +kernel
theorem dX9_isRow_6 : decode cX9_isRow 6 = .ok (.invokestatic 53, 3) := by decide +kernel
theorem dX9_isRow_9 : decode cX9_isRow 9 = .ok (.ireturn, 1) := by decide +kernel
theorem dX9_isText_0 : decode cX9_isText 0 = .ok (.iload_n 0, 1) := by decide +kernel
theorem dX9_isText_1 : decode cX9_isText 1 = .ok (.i2l, 1) := by decide +kernel
theorem dX9_isText_2 : decode cX9_isText 2 = .ok (.lconst 0, 1) := by decide +kernel
theorem dX9_isText_3 : decode cX9_isText 3 = .ok (.ldc2_w 57, 3) := by decide +kernel
theorem dX9_isText_6 : decode cX9_isText 6 = .ok (.invokestatic 53, 3) := by decide +kernel
theorem dX9_isText_9 : decode cX9_isText 9 = .ok (.ireturn, 1) := by decide +kernel
theorem dX9_anew_0 : decode cX9_anew 0 = .ok (.aload_n 0, 1) := by decide +kernel
theorem dX9_anew_1 : decode cX9_anew 1 = .ok (.getfield 19, 3) := by decide +kernel
theorem dX9_anew_4 : decode cX9_anew 4 = .ok (.iload_n 1, 1) := by decide +kernel
theorem dX9_anew_5 : decode cX9_anew 5 = .ok (.iload_n 2, 1) := by decide +kernel
theorem dX9_anew_6 : decode cX9_anew 6 = .ok (.iastore, 1) := by decide +kernel
theorem dX9_anew_7 : decode cX9_anew 7 = .ok (.iconst 0, 1) := by decide +kernel
theorem dX9_anew_8 : decode cX9_anew 8 = .ok (.istore_n 3, 1) := by decide +kernel
theorem dX9_anew_9 : decode cX9_anew 9 = .ok (.iload_n 3, 1) := by decide +kernel
theorem dX9_anew_10 : decode cX9_anew 10 = .ok (.bipush 40, 2) := by decide +kernel
theorem dX9_anew_12 : decode cX9_anew 12 = .ok (.if_icmp .ge 21, 3) := by decide +kernel
theorem dX9_anew_15 : decode cX9_anew 15 = .ok (.aload_n 0, 1) := by decide +kernel
theorem dX9_anew_16 : decode cX9_anew 16 = .ok (.getfield 16, 3) := by decide +kernel
theorem dX9_anew_19 : decode cX9_anew 19 = .ok (.bipush 40, 2) := by decide +kernel
theorem dX9_anew_21 : decode cX9_anew 21 = .ok (.iload_n 1, 1) := by decide +kernel
theorem dX9_anew_22 : decode cX9_anew 22 = .ok (.imul, 1) := by decide +kernel
theorem dX9_anew_23 : decode cX9_anew 23 = .ok (.iload_n 3, 1) := by decide +kernel
theorem dX9_anew_24 : decode cX9_anew 24 = .ok (.iadd, 1) := by decide +kernel
theorem dX9_anew_25 : decode cX9_anew 25 = .ok (.iconst 0, 1) := by decide +kernel
theorem dX9_anew_26 : decode cX9_anew 26 = .ok (.iastore, 1) := by decide +kernel
theorem dX9_anew_27 : decode cX9_anew 27 = .ok (.iinc 3 1, 3) := by decide +kernel
theorem dX9_anew_30 : decode cX9_anew 30 = .ok (.goto (-21), 3) := by decide +kernel
theorem dX9_anew_33 : decode cX9_anew 33 = .ok (.return_, 1) := by decide +kernel
theorem dX9_row_0 : decode cX9_row 0 = .ok (.iload_n 1, 1) := by decide +kernel
theorem dX9_row_1 : decode cX9_row 1 = .ok (.invokestatic 59, 3) := by decide +kernel
theorem dX9_row_4 : decode cX9_row 4 = .ok (.ifCond .eq 9, 3) := by decide +kernel
theorem dX9_row_7 : decode cX9_row 7 = .ok (.iload_n 2, 1) := by decide +kernel
theorem dX9_row_8 : decode cX9_row 8 = .ok (.bipush 40, 2) := by decide +kernel
theorem dX9_row_10 : decode cX9_row 10 = .ok (.if_icmp .le 5, 3) := by decide +kernel
theorem dX9_row_13 : decode cX9_row 13 = .ok (.iconst (-1), 1) := by decide +kernel
theorem dX9_row_14 : decode cX9_row 14 = .ok (.ireturn, 1) := by decide +kernel
theorem dX9_row_15 : decode cX9_row 15 = .ok (.iload_n 2, 1) := by decide +kernel
theorem dX9_row_16 : decode cX9_row 16 = .ok (.ifCond .ge 9, 3) := by decide +kernel
theorem dX9_row_19 : decode cX9_row 19 = .ok (.aload_n 0, 1) := by decide +kernel
theorem dX9_row_20 : decode cX9_row 20 = .ok (.iconst 5, 1) := by decide +kernel
theorem dX9_row_21 : decode cX9_row 21 = .ok (.invokevirtual 63, 3) := by decide +kernel
theorem dX9_row_24 : decode cX9_row 24 = .ok (.ireturn, 1) := by decide +kernel
theorem dX9_row_25 : decode cX9_row 25 = .ok (.aload_n 0, 1) := by decide +kernel
theorem dX9_row_26 : decode cX9_row 26 = .ok (.iload_n 1, 1) := by decide +kernel
theorem dX9_row_27 : decode cX9_row 27 = .ok (.iload_n 2, 1) := by decide +kernel
theorem dX9_row_28 : decode cX9_row 28 = .ok (.invokevirtual 67, 3) := by decide +kernel
theorem dX9_row_31 : decode cX9_row 31 = .ok (.iload_n 2, 1) := by decide +kernel
theorem dX9_row_32 : decode cX9_row 32 = .ok (.ireturn, 1) := by decide +kernel
theorem dX9_lay_0 : decode cX9_lay 0 = .ok (.aload_n 0, 1) := by decide +kernel
theorem dX9_lay_1 : decode cX9_lay 1 = .ok (.iload_n 1, 1) := by decide +kernel
theorem dX9_lay_2 : decode cX9_lay 2 = .ok (.iload_n 2, 1) := by decide +kernel
theorem dX9_lay_3 : decode cX9_lay 3 = .ok (.invokevirtual 71, 3) := by decide +kernel
theorem dX9_lay_6 : decode cX9_lay 6 = .ok (.istore 4, 2) := by decide +kernel
theorem dX9_lay_8 : decode cX9_lay 8 = .ok (.iload 4, 2) := by decide +kernel
theorem dX9_lay_10 : decode cX9_lay 10 = .ok (.iconst 1, 1) := by decide +kernel
theorem dX9_lay_11 : decode cX9_lay 11 = .ok (.if_icmp .ne 15, 3) := by decide +kernel
theorem dX9_lay_14 : decode cX9_lay 14 = .ok (.aload_n 0, 1) := by decide +kernel
theorem dX9_lay_15 : decode cX9_lay 15 = .ok (.getfield 16, 3) := by decide +kernel
theorem dX9_lay_18 : decode cX9_lay 18 = .ok (.bipush 40, 2) := by decide +kernel
theorem dX9_lay_20 : decode cX9_lay 20 = .ok (.iload_n 1, 1) := by decide +kernel
theorem dX9_lay_21 : decode cX9_lay 21 = .ok (.imul, 1) := by decide +kernel
theorem dX9_lay_22 : decode cX9_lay 22 = .ok (.iload_n 2, 1) := by decide +kernel
theorem dX9_lay_23 : decode cX9_lay 23 = .ok (.iadd, 1) := by decide +kernel
theorem dX9_lay_24 : decode cX9_lay 24 = .ok (.iload_n 3, 1) := by decide +kernel
theorem dX9_lay_25 : decode cX9_lay 25 = .ok (.iastore, 1) := by decide +kernel
theorem dX9_lay_26 : decode cX9_lay 26 = .ok (.iload 4, 2) := by decide +kernel
theorem dX9_lay_28 : decode cX9_lay 28 = .ok (.ireturn, 1) := by decide +kernel
theorem dX9_at_0 : decode cX9_at 0 = .ok (.iload_n 1, 1) := by decide +kernel
theorem dX9_at_1 : decode cX9_at 1 = .ok (.invokestatic 59, 3) := by decide +kernel
theorem dX9_at_4 : decode cX9_at 4 = .ok (.ifCond .ne 5, 3) := by decide +kernel
theorem dX9_at_7 : decode cX9_at 7 = .ok (.iconst (-1), 1) := by decide +kernel
theorem dX9_at_8 : decode cX9_at 8 = .ok (.ireturn, 1) := by decide +kernel
theorem dX9_at_9 : decode cX9_at 9 = .ok (.aload_n 0, 1) := by decide +kernel
theorem dX9_at_10 : decode cX9_at 10 = .ok (.getfield 19, 3) := by decide +kernel
theorem dX9_at_13 : decode cX9_at 13 = .ok (.iload_n 1, 1) := by decide +kernel
theorem dX9_at_14 : decode cX9_at 14 = .ok (.iaload, 1) := by decide +kernel
theorem dX9_at_15 : decode cX9_at 15 = .ok (.ifCond .ge 9, 3) := by decide +kernel
theorem dX9_at_18 : decode cX9_at 18 = .ok (.aload_n 0, 1) := by decide +kernel
theorem dX9_at_19 : decode cX9_at 19 = .ok (.iconst 1, 1) := by decide +kernel
theorem dX9_at_20 : decode cX9_at 20 = .ok (.invokevirtual 63, 3) := by decide +kernel
theorem dX9_at_23 : decode cX9_at 23 = .ok (.ireturn, 1) := by decide +kernel
theorem dX9_at_24 : decode cX9_at 24 = .ok (.iload_n 2, 1) := by decide +kernel
theorem dX9_at_25 : decode cX9_at 25 = .ok (.i2l, 1) := by decide +kernel
theorem dX9_at_26 : decode cX9_at 26 = .ok (.lconst 0, 1) := by decide +kernel
theorem dX9_at_27 : decode cX9_at 27 = .ok (.aload_n 0, 1) := by decide +kernel
theorem dX9_at_28 : decode cX9_at 28 = .ok (.getfield 19, 3) := by decide +kernel
theorem dX9_at_31 : decode cX9_at 31 = .ok (.iload_n 1, 1) := by decide +kernel
theorem dX9_at_32 : decode cX9_at 32 = .ok (.iaload, 1) := by decide +kernel
theorem dX9_at_33 : decode cX9_at 33 = .ok (.iconst 1, 1) := by decide +kernel
theorem dX9_at_34 : decode cX9_at 34 = .ok (.isub, 1) := by decide +kernel
theorem dX9_at_35 : decode cX9_at 35 = .ok (.i2l, 1) := by decide +kernel
theorem dX9_at_36 : decode cX9_at 36 = .ok (.invokestatic 53, 3) := by decide +kernel
theorem dX9_at_39 : decode cX9_at 39 = .ok (.ifCond .eq 22, 3) := by decide +kernel
theorem dX9_at_42 : decode cX9_at 42 = .ok (.aload_n 0, 1) := by decide +kernel
theorem dX9_at_43 : decode cX9_at 43 = .ok (.aload_n 0, 1) := by decide +kernel
theorem dX9_at_44 : decode cX9_at 44 = .ok (.getfield 16, 3) := by decide +kernel
theorem dX9_at_47 : decode cX9_at 47 = .ok (.bipush 40, 2) := by decide +kernel
theorem dX9_at_49 : decode cX9_at 49 = .ok (.iload_n 1, 1) := by decide +kernel
theorem dX9_at_50 : decode cX9_at 50 = .ok (.imul, 1) := by decide +kernel
theorem dX9_at_51 : decode cX9_at 51 = .ok (.iload_n 2, 1) := by decide +kernel
theorem dX9_at_52 : decode cX9_at 52 = .ok (.iadd, 1) := by decide +kernel
theorem dX9_at_53 : decode cX9_at 53 = .ok (.iaload, 1) := by decide +kernel
theorem dX9_at_54 : decode cX9_at 54 = .ok (.iconst 1, 1) := by decide +kernel
theorem dX9_at_55 : decode cX9_at 55 = .ok (.invokevirtual 75, 3) := by decide +kernel
theorem dX9_at_58 : decode cX9_at 58 = .ok (.goto 8, 3) := by decide +kernel
theorem dX9_at_61 : decode cX9_at 61 = .ok (.aload_n 0, 1) := by decide +kernel
theorem dX9_at_62 : decode cX9_at 62 = .ok (.iconst 2, 1) := by decide +kernel
theorem dX9_at_63 : decode cX9_at 63 = .ok (.invokevirtual 63, 3) := by decide +kernel
theorem dX9_at_66 : decode cX9_at 66 = .ok (.ireturn, 1) := by decide +kernel
theorem dX9_tear_0 : decode cX9_tear 0 = .ok (.iload_n 1, 1) := by decide +kernel
theorem dX9_tear_1 : decode cX9_tear 1 = .ok (.invokestatic 59, 3) := by decide +kernel
theorem dX9_tear_4 : decode cX9_tear 4 = .ok (.ifCond .ne 5, 3) := by decide +kernel
theorem dX9_tear_7 : decode cX9_tear 7 = .ok (.iconst (-1), 1) := by decide +kernel
theorem dX9_tear_8 : decode cX9_tear 8 = .ok (.ireturn, 1) := by decide +kernel
theorem dX9_tear_9 : decode cX9_tear 9 = .ok (.aload_n 0, 1) := by decide +kernel
theorem dX9_tear_10 : decode cX9_tear 10 = .ok (.getfield 19, 3) := by decide +kernel
theorem dX9_tear_13 : decode cX9_tear 13 = .ok (.iload_n 1, 1) := by decide +kernel
theorem dX9_tear_14 : decode cX9_tear 14 = .ok (.iaload, 1) := by decide +kernel
theorem dX9_tear_15 : decode cX9_tear 15 = .ok (.ifCond .ge 9, 3) := by decide +kernel
theorem dX9_tear_18 : decode cX9_tear 18 = .ok (.aload_n 0, 1) := by decide +kernel
theorem dX9_tear_19 : decode cX9_tear 19 = .ok (.iconst 1, 1) := by decide +kernel
theorem dX9_tear_20 : decode cX9_tear 20 = .ok (.invokevirtual 63, 3) := by decide +kernel
theorem dX9_tear_23 : decode cX9_tear 23 = .ok (.ireturn, 1) := by decide +kernel
theorem dX9_tear_24 : decode cX9_tear 24 = .ok (.aload_n 0, 1) := by decide +kernel
theorem dX9_tear_25 : decode cX9_tear 25 = .ok (.getfield 19, 3) := by decide +kernel
theorem dX9_tear_28 : decode cX9_tear 28 = .ok (.iload_n 1, 1) := by decide +kernel
theorem dX9_tear_29 : decode cX9_tear 29 = .ok (.iconst (-1), 1) := by decide +kernel
theorem dX9_tear_30 : decode cX9_tear 30 = .ok (.iastore, 1) := by decide +kernel
theorem dX9_tear_31 : decode cX9_tear 31 = .ok (.iconst 1, 1) := by decide +kernel
theorem dX9_tear_32 : decode cX9_tear 32 = .ok (.ireturn, 1) := by decide +kernel
theorem dX9_fits_0 : decode cX9_fits 0 = .ok (.iload_n 0, 1) := by decide +kernel
theorem dX9_fits_1 : decode cX9_fits 1 = .ok (.ifCond .lt 18, 3) := by decide +kernel
theorem dX9_fits_4 : decode cX9_fits 4 = .ok (.iload_n 0, 1) := by decide +kernel
theorem dX9_fits_5 : decode cX9_fits 5 = .ok (.i2l, 1) := by decide +kernel
theorem dX9_fits_6 : decode cX9_fits 6 = .ok (.iload_n 1, 1) := by decide +kernel
theorem dX9_fits_7 : decode cX9_fits 7 = .ok (.i2l, 1) := by decide +kernel
theorem dX9_fits_8 : decode cX9_fits 8 = .ok (.ladd, 1) := by decide +kernel
theorem dX9_fits_9 : decode cX9_fits 9 = .ok (.iload_n 2, 1) := by decide +kernel
theorem dX9_fits_10 : decode cX9_fits 10 = .ok (.i2l, 1) := by decide +kernel
theorem dX9_fits_11 : decode cX9_fits 11 = .ok (.lcmp, 1) := by decide +kernel
theorem dX9_fits_12 : decode cX9_fits 12 = .ok (.ifCond .gt 7, 3) := by decide +kernel
theorem dX9_fits_15 : decode cX9_fits 15 = .ok (.iconst 1, 1) := by decide +kernel
theorem dX9_fits_16 : decode cX9_fits 16 = .ok (.goto 4, 3) := by decide +kernel
theorem dX9_fits_19 : decode cX9_fits 19 = .ok (.iconst 0, 1) := by decide +kernel
theorem dX9_fits_20 : decode cX9_fits 20 = .ok (.ireturn, 1) := by decide +kernel
theorem dX9_copy_0 : decode cX9_copy 0 = .ok (.iload_n 1, 1) := by decide +kernel
theorem dX9_copy_1 : decode cX9_copy 1 = .ok (.invokestatic 59, 3) := by decide +kernel
theorem dX9_copy_4 : decode cX9_copy 4 = .ok (.ifCond .eq 10, 3) := by decide +kernel
theorem dX9_copy_7 : decode cX9_copy 7 = .ok (.iload_n 3, 1) := by decide +kernel
theorem dX9_copy_8 : decode cX9_copy 8 = .ok (.invokestatic 59, 3) := by decide +kernel
theorem dX9_copy_11 : decode cX9_copy 11 = .ok (.ifCond .ne 5, 3) := by decide +kernel
theorem dX9_copy_14 : decode cX9_copy 14 = .ok (.iconst (-1), 1) := by decide +kernel
theorem dX9_copy_15 : decode cX9_copy 15 = .ok (.ireturn, 1) := by decide +kernel
theorem dX9_copy_16 : decode cX9_copy 16 = .ok (.iload 5, 2) := by decide +kernel
theorem dX9_copy_18 : decode cX9_copy 18 = .ok (.ifCond .ge 9, 3) := by decide +kernel
theorem dX9_copy_21 : decode cX9_copy 21 = .ok (.aload_n 0, 1) := by decide +kernel
theorem dX9_copy_22 : decode cX9_copy 22 = .ok (.iconst 5, 1) := by decide +kernel
theorem dX9_copy_23 : decode cX9_copy 23 = .ok (.invokevirtual 63, 3) := by decide +kernel
theorem dX9_copy_26 : decode cX9_copy 26 = .ok (.ireturn, 1) := by decide +kernel
theorem dX9_copy_27 : decode cX9_copy 27 = .ok (.aload_n 0, 1) := by decide +kernel
theorem dX9_copy_28 : decode cX9_copy 28 = .ok (.getfield 19, 3) := by decide +kernel
theorem dX9_copy_31 : decode cX9_copy 31 = .ok (.iload_n 1, 1) := by decide +kernel
theorem dX9_copy_32 : decode cX9_copy 32 = .ok (.iaload, 1) := by decide +kernel
theorem dX9_copy_33 : decode cX9_copy 33 = .ok (.ifCond .lt 12, 3) := by decide +kernel
theorem dX9_copy_36 : decode cX9_copy 36 = .ok (.aload_n 0, 1) := by decide +kernel
theorem dX9_copy_37 : decode cX9_copy 37 = .ok (.getfield 19, 3) := by decide +kernel
theorem dX9_copy_40 : decode cX9_copy 40 = .ok (.iload_n 3, 1) := by decide +kernel
theorem dX9_copy_41 : decode cX9_copy 41 = .ok (.iaload, 1) := by decide +kernel
theorem dX9_copy_42 : decode cX9_copy 42 = .ok (.ifCond .ge 9, 3) := by decide +kernel
theorem dX9_copy_45 : decode cX9_copy 45 = .ok (.aload_n 0, 1) := by decide +kernel
theorem dX9_copy_46 : decode cX9_copy 46 = .ok (.iconst 1, 1) := by decide +kernel
theorem dX9_copy_47 : decode cX9_copy 47 = .ok (.invokevirtual 63, 3) := by decide +kernel
theorem dX9_copy_50 : decode cX9_copy 50 = .ok (.ireturn, 1) := by decide +kernel
theorem dX9_copy_51 : decode cX9_copy 51 = .ok (.iload_n 2, 1) := by decide +kernel
theorem dX9_copy_52 : decode cX9_copy 52 = .ok (.iload 5, 2) := by decide +kernel
theorem dX9_copy_54 : decode cX9_copy 54 = .ok (.aload_n 0, 1) := by decide +kernel
theorem dX9_copy_55 : decode cX9_copy 55 = .ok (.getfield 19, 3) := by decide +kernel
theorem dX9_copy_58 : decode cX9_copy 58 = .ok (.iload_n 1, 1) := by decide +kernel
theorem dX9_copy_59 : decode cX9_copy 59 = .ok (.iaload, 1) := by decide +kernel
theorem dX9_copy_60 : decode cX9_copy 60 = .ok (.invokestatic 78, 3) := by decide +kernel
theorem dX9_copy_63 : decode cX9_copy 63 = .ok (.ifCond .eq 19, 3) := by decide +kernel
theorem dX9_copy_66 : decode cX9_copy 66 = .ok (.iload 4, 2) := by decide +kernel
theorem dX9_copy_68 : decode cX9_copy 68 = .ok (.iload 5, 2) := by decide +kernel
theorem dX9_copy_70 : decode cX9_copy 70 = .ok (.aload_n 0, 1) := by decide +kernel
theorem dX9_copy_71 : decode cX9_copy 71 = .ok (.getfield 19, 3) := by decide +kernel
theorem dX9_copy_74 : decode cX9_copy 74 = .ok (.iload_n 3, 1) := by decide +kernel
theorem dX9_copy_75 : decode cX9_copy 75 = .ok (.iaload, 1) := by decide +kernel
theorem dX9_copy_76 : decode cX9_copy 76 = .ok (.invokestatic 78, 3) := by decide +kernel
theorem dX9_copy_79 : decode cX9_copy 79 = .ok (.ifCond .ne 9, 3) := by decide +kernel
theorem dX9_copy_82 : decode cX9_copy 82 = .ok (.aload_n 0, 1) := by decide +kernel
theorem dX9_copy_83 : decode cX9_copy 83 = .ok (.iconst 2, 1) := by decide +kernel
theorem dX9_copy_84 : decode cX9_copy 84 = .ok (.invokevirtual 63, 3) := by decide +kernel
theorem dX9_copy_87 : decode cX9_copy 87 = .ok (.ireturn, 1) := by decide +kernel
theorem dX9_copy_88 : decode cX9_copy 88 = .ok (.iconst 0, 1) := by decide +kernel
theorem dX9_copy_89 : decode cX9_copy 89 = .ok (.istore 6, 2) := by decide +kernel
theorem dX9_copy_91 : decode cX9_copy 91 = .ok (.iload 6, 2) := by decide +kernel
theorem dX9_copy_93 : decode cX9_copy 93 = .ok (.iload 5, 2) := by decide +kernel
theorem dX9_copy_95 : decode cX9_copy 95 = .ok (.if_icmp .ge 30, 3) := by decide +kernel
theorem dX9_copy_98 : decode cX9_copy 98 = .ok (.aload_n 0, 1) := by decide +kernel
theorem dX9_copy_99 : decode cX9_copy 99 = .ok (.getfield 28, 3) := by decide +kernel
theorem dX9_copy_102 : decode cX9_copy 102 = .ok (.iload 6, 2) := by decide +kernel
theorem dX9_copy_104 : decode cX9_copy 104 = .ok (.aload_n 0, 1) := by decide +kernel
theorem dX9_copy_105 : decode cX9_copy 105 = .ok (.getfield 16, 3) := by decide +kernel
theorem dX9_copy_108 : decode cX9_copy 108 = .ok (.bipush 40, 2) := by decide +kernel
theorem dX9_copy_110 : decode cX9_copy 110 = .ok (.iload_n 1, 1) := by decide +kernel
theorem dX9_copy_111 : decode cX9_copy 111 = .ok (.imul, 1) := by decide +kernel
theorem dX9_copy_112 : decode cX9_copy 112 = .ok (.iload_n 2, 1) := by decide +kernel
theorem dX9_copy_113 : decode cX9_copy 113 = .ok (.iadd, 1) := by decide +kernel
theorem dX9_copy_114 : decode cX9_copy 114 = .ok (.iload 6, 2) := by decide +kernel
theorem dX9_copy_116 : decode cX9_copy 116 = .ok (.iadd, 1) := by decide +kernel
theorem dX9_copy_117 : decode cX9_copy 117 = .ok (.iaload, 1) := by decide +kernel
theorem dX9_copy_118 : decode cX9_copy 118 = .ok (.iastore, 1) := by decide +kernel
theorem dX9_copy_119 : decode cX9_copy 119 = .ok (.iinc 6 1, 3) := by decide +kernel
theorem dX9_copy_122 : decode cX9_copy 122 = .ok (.goto (-31), 3) := by decide +kernel
theorem dX9_copy_125 : decode cX9_copy 125 = .ok (.iconst 0, 1) := by decide +kernel
theorem dX9_copy_126 : decode cX9_copy 126 = .ok (.istore 6, 2) := by decide +kernel
theorem dX9_copy_128 : decode cX9_copy 128 = .ok (.iload 6, 2) := by decide +kernel
theorem dX9_copy_130 : decode cX9_copy 130 = .ok (.iload 5, 2) := by decide +kernel
theorem dX9_copy_132 : decode cX9_copy 132 = .ok (.if_icmp .ge 31, 3) := by decide +kernel
theorem dX9_copy_135 : decode cX9_copy 135 = .ok (.aload_n 0, 1) := by decide +kernel
theorem dX9_copy_136 : decode cX9_copy 136 = .ok (.getfield 16, 3) := by decide +kernel
theorem dX9_copy_139 : decode cX9_copy 139 = .ok (.bipush 40, 2) := by decide +kernel
theorem dX9_copy_141 : decode cX9_copy 141 = .ok (.iload_n 3, 1) := by decide +kernel
theorem dX9_copy_142 : decode cX9_copy 142 = .ok (.imul, 1) := by decide +kernel
theorem dX9_copy_143 : decode cX9_copy 143 = .ok (.iload 4, 2) := by decide +kernel
theorem dX9_copy_145 : decode cX9_copy 145 = .ok (.iadd, 1) := by decide +kernel
theorem dX9_copy_146 : decode cX9_copy 146 = .ok (.iload 6, 2) := by decide +kernel
theorem dX9_copy_148 : decode cX9_copy 148 = .ok (.iadd, 1) := by decide +kernel
theorem dX9_copy_149 : decode cX9_copy 149 = .ok (.aload_n 0, 1) := by decide +kernel
theorem dX9_copy_150 : decode cX9_copy 150 = .ok (.getfield 28, 3) := by decide +kernel
theorem dX9_copy_153 : decode cX9_copy 153 = .ok (.iload 6, 2) := by decide +kernel
theorem dX9_copy_155 : decode cX9_copy 155 = .ok (.iaload, 1) := by decide +kernel
theorem dX9_copy_156 : decode cX9_copy 156 = .ok (.iastore, 1) := by decide +kernel
theorem dX9_copy_157 : decode cX9_copy 157 = .ok (.iinc 6 1, 3) := by decide +kernel
theorem dX9_copy_160 : decode cX9_copy 160 = .ok (.goto (-32), 3) := by decide +kernel
theorem dX9_copy_163 : decode cX9_copy 163 = .ok (.iconst 1, 1) := by decide +kernel
theorem dX9_copy_164 : decode cX9_copy 164 = .ok (.ireturn, 1) := by decide +kernel
theorem dX9_mean_0 : decode cX9_mean 0 = .ok (.iload_n 1, 1) := by decide +kernel
theorem dX9_mean_1 : decode cX9_mean 1 = .ok (.invokestatic 59, 3) := by decide +kernel
theorem dX9_mean_4 : decode cX9_mean 4 = .ok (.ifCond .ne 5, 3) := by decide +kernel
theorem dX9_mean_7 : decode cX9_mean 7 = .ok (.iconst (-1), 1) := by decide +kernel
theorem dX9_mean_8 : decode cX9_mean 8 = .ok (.ireturn, 1) := by decide +kernel
theorem dX9_mean_9 : decode cX9_mean 9 = .ok (.aload_n 0, 1) := by decide +kernel
theorem dX9_mean_10 : decode cX9_mean 10 = .ok (.getfield 19, 3) := by decide +kernel
theorem dX9_mean_13 : decode cX9_mean 13 = .ok (.iload_n 1, 1) := by decide +kernel
theorem dX9_mean_14 : decode cX9_mean 14 = .ok (.iaload, 1) := by decide +kernel
theorem dX9_mean_15 : decode cX9_mean 15 = .ok (.ifCond .ge 9, 3) := by decide +kernel
theorem dX9_mean_18 : decode cX9_mean 18 = .ok (.aload_n 0, 1) := by decide +kernel
theorem dX9_mean_19 : decode cX9_mean 19 = .ok (.iconst 1, 1) := by decide +kernel
theorem dX9_mean_20 : decode cX9_mean 20 = .ok (.invokevirtual 63, 3) := by decide +kernel
theorem dX9_mean_23 : decode cX9_mean 23 = .ok (.ireturn, 1) := by decide +kernel
theorem dX9_mean_24 : decode cX9_mean 24 = .ok (.aload_n 0, 1) := by decide +kernel
theorem dX9_mean_25 : decode cX9_mean 25 = .ok (.getfield 19, 3) := by decide +kernel
theorem dX9_mean_28 : decode cX9_mean 28 = .ok (.iload_n 1, 1) := by decide +kernel
theorem dX9_mean_29 : decode cX9_mean 29 = .ok (.iaload, 1) := by decide +kernel
theorem dX9_mean_30 : decode cX9_mean 30 = .ok (.ifCond .ne 9, 3) := by decide +kernel
theorem dX9_mean_33 : decode cX9_mean 33 = .ok (.aload_n 0, 1) := by decide +kernel
theorem dX9_mean_34 : decode cX9_mean 34 = .ok (.iconst 4, 1) := by decide +kernel
theorem dX9_mean_35 : decode cX9_mean 35 = .ok (.invokevirtual 63, 3) := by decide +kernel
theorem dX9_mean_38 : decode cX9_mean 38 = .ok (.ireturn, 1) := by decide +kernel
theorem dX9_mean_39 : decode cX9_mean 39 = .ok (.lconst 0, 1) := by decide +kernel
theorem dX9_mean_40 : decode cX9_mean 40 = .ok (.lstore_n 2, 1) := by decide +kernel
theorem dX9_mean_41 : decode cX9_mean 41 = .ok (.iconst 0, 1) := by decide +kernel
theorem dX9_mean_42 : decode cX9_mean 42 = .ok (.istore 4, 2) := by decide +kernel
theorem dX9_mean_44 : decode cX9_mean 44 = .ok (.iload 4, 2) := by decide +kernel
theorem dX9_mean_46 : decode cX9_mean 46 = .ok (.aload_n 0, 1) := by decide +kernel
theorem dX9_mean_47 : decode cX9_mean 47 = .ok (.getfield 19, 3) := by decide +kernel
theorem dX9_mean_50 : decode cX9_mean 50 = .ok (.iload_n 1, 1) := by decide +kernel
theorem dX9_mean_51 : decode cX9_mean 51 = .ok (.iaload, 1) := by decide +kernel
theorem dX9_mean_52 : decode cX9_mean 52 = .ok (.if_icmp .ge 25, 3) := by decide +kernel
theorem dX9_mean_55 : decode cX9_mean 55 = .ok (.lload_n 2, 1) := by decide +kernel
theorem dX9_mean_56 : decode cX9_mean 56 = .ok (.aload_n 0, 1) := by decide +kernel
theorem dX9_mean_57 : decode cX9_mean 57 = .ok (.getfield 16, 3) := by decide +kernel
theorem dX9_mean_60 : decode cX9_mean 60 = .ok (.bipush 40, 2) := by decide +kernel
theorem dX9_mean_62 : decode cX9_mean 62 = .ok (.iload_n 1, 1) := by decide +kernel
theorem dX9_mean_63 : decode cX9_mean 63 = .ok (.imul, 1) := by decide +kernel
theorem dX9_mean_64 : decode cX9_mean 64 = .ok (.iload 4, 2) := by decide +kernel
theorem dX9_mean_66 : decode cX9_mean 66 = .ok (.iadd, 1) := by decide +kernel
theorem dX9_mean_67 : decode cX9_mean 67 = .ok (.iaload, 1) := by decide +kernel
theorem dX9_mean_68 : decode cX9_mean 68 = .ok (.i2l, 1) := by decide +kernel
theorem dX9_mean_69 : decode cX9_mean 69 = .ok (.ladd, 1) := by decide +kernel
theorem dX9_mean_70 : decode cX9_mean 70 = .ok (.lstore_n 2, 1) := by decide +kernel
theorem dX9_mean_71 : decode cX9_mean 71 = .ok (.iinc 4 1, 3) := by decide +kernel
theorem dX9_mean_74 : decode cX9_mean 74 = .ok (.goto (-30), 3) := by decide +kernel
theorem dX9_mean_77 : decode cX9_mean 77 = .ok (.aload_n 0, 1) := by decide +kernel
theorem dX9_mean_78 : decode cX9_mean 78 = .ok (.lload_n 2, 1) := by decide +kernel
theorem dX9_mean_79 : decode cX9_mean 79 = .ok (.aload_n 0, 1) := by decide +kernel
theorem dX9_mean_80 : decode cX9_mean 80 = .ok (.getfield 19, 3) := by decide +kernel
theorem dX9_mean_83 : decode cX9_mean 83 = .ok (.iload_n 1, 1) := by decide +kernel
theorem dX9_mean_84 : decode cX9_mean 84 = .ok (.iaload, 1) := by decide +kernel
theorem dX9_mean_85 : decode cX9_mean 85 = .ok (.i2l, 1) := by decide +kernel
theorem dX9_mean_86 : decode cX9_mean 86 = .ok (.ldiv, 1) := by decide +kernel
theorem dX9_mean_87 : decode cX9_mean 87 = .ok (.l2i, 1) := by decide +kernel
theorem dX9_mean_88 : decode cX9_mean 88 = .ok (.iconst 1, 1) := by decide +kernel
theorem dX9_mean_89 : decode cX9_mean 89 = .ok (.invokevirtual 75, 3) := by decide +kernel
theorem dX9_mean_92 : decode cX9_mean 92 = .ok (.ireturn, 1) := by decide +kernel
theorem dX9_text_0 : decode cX9_text 0 = .ok (.iload_n 1, 1) := by decide +kernel
theorem dX9_text_1 : decode cX9_text 1 = .ok (.invokestatic 82, 3) := by decide +kernel
theorem dX9_text_4 : decode cX9_text 4 = .ok (.ifCond .eq 9, 3) := by decide +kernel
theorem dX9_text_7 : decode cX9_text 7 = .ok (.iload_n 2, 1) := by decide +kernel
theorem dX9_text_8 : decode cX9_text 8 = .ok (.bipush 60, 2) := by decide +kernel
theorem dX9_text_10 : decode cX9_text 10 = .ok (.if_icmp .le 5, 3) := by decide +kernel
theorem dX9_text_13 : decode cX9_text 13 = .ok (.iconst (-1), 1) := by decide +kernel
theorem dX9_text_14 : decode cX9_text 14 = .ok (.ireturn, 1) := by decide +kernel
theorem dX9_text_15 : decode cX9_text 15 = .ok (.iload_n 2, 1) := by decide +kernel
theorem dX9_text_16 : decode cX9_text 16 = .ok (.ifCond .ge 9, 3) := by decide +kernel
theorem dX9_text_19 : decode cX9_text 19 = .ok (.aload_n 0, 1) := by decide +kernel
theorem dX9_text_20 : decode cX9_text 20 = .ok (.iconst 5, 1) := by decide +kernel
theorem dX9_text_21 : decode cX9_text 21 = .ok (.invokevirtual 63, 3) := by decide +kernel
theorem dX9_text_24 : decode cX9_text 24 = .ok (.ireturn, 1) := by decide +kernel
theorem dX9_text_25 : decode cX9_text 25 = .ok (.aload_n 0, 1) := by decide +kernel
theorem dX9_text_26 : decode cX9_text 26 = .ok (.getfield 25, 3) := by decide +kernel
theorem dX9_text_29 : decode cX9_text 29 = .ok (.iload_n 1, 1) := by decide +kernel
theorem dX9_text_30 : decode cX9_text 30 = .ok (.iload_n 2, 1) := by decide +kernel
theorem dX9_text_31 : decode cX9_text 31 = .ok (.iastore, 1) := by decide +kernel
theorem dX9_text_32 : decode cX9_text 32 = .ok (.iconst 0, 1) := by decide +kernel
theorem dX9_text_33 : decode cX9_text 33 = .ok (.istore_n 3, 1) := by decide +kernel
theorem dX9_text_34 : decode cX9_text 34 = .ok (.iload_n 3, 1) := by decide +kernel
theorem dX9_text_35 : decode cX9_text 35 = .ok (.bipush 60, 2) := by decide +kernel
theorem dX9_text_37 : decode cX9_text 37 = .ok (.if_icmp .ge 22, 3) := by decide +kernel
theorem dX9_text_40 : decode cX9_text 40 = .ok (.aload_n 0, 1) := by decide +kernel
theorem dX9_text_41 : decode cX9_text 41 = .ok (.getfield 22, 3) := by decide +kernel
theorem dX9_text_44 : decode cX9_text 44 = .ok (.bipush 60, 2) := by decide +kernel
theorem dX9_text_46 : decode cX9_text 46 = .ok (.iload_n 1, 1) := by decide +kernel
theorem dX9_text_47 : decode cX9_text 47 = .ok (.imul, 1) := by decide +kernel
theorem dX9_text_48 : decode cX9_text 48 = .ok (.iload_n 3, 1) := by decide +kernel
theorem dX9_text_49 : decode cX9_text 49 = .ok (.iadd, 1) := by decide +kernel
theorem dX9_text_50 : decode cX9_text 50 = .ok (.bipush 32, 2) := by decide +kernel
theorem dX9_text_52 : decode cX9_text 52 = .ok (.iastore, 1) := by decide +kernel
theorem dX9_text_53 : decode cX9_text 53 = .ok (.iinc 3 1, 3) := by decide +kernel
theorem dX9_text_56 : decode cX9_text 56 = .ok (.goto (-22), 3) := by decide +kernel
theorem dX9_text_59 : decode cX9_text 59 = .ok (.iload_n 2, 1) := by decide +kernel
theorem dX9_text_60 : decode cX9_text 60 = .ok (.ireturn, 1) := by decide +kernel
theorem dX9_put_0 : decode cX9_put 0 = .ok (.iload_n 1, 1) := by decide +kernel
theorem dX9_put_1 : decode cX9_put 1 = .ok (.invokestatic 82, 3) := by decide +kernel
theorem dX9_put_4 : decode cX9_put 4 = .ok (.ifCond .ne 5, 3) := by decide +kernel
theorem dX9_put_7 : decode cX9_put 7 = .ok (.iconst (-1), 1) := by decide +kernel
theorem dX9_put_8 : decode cX9_put 8 = .ok (.ireturn, 1) := by decide +kernel
theorem dX9_put_9 : decode cX9_put 9 = .ok (.aload_n 0, 1) := by decide +kernel
theorem dX9_put_10 : decode cX9_put 10 = .ok (.getfield 25, 3) := by decide +kernel
theorem dX9_put_13 : decode cX9_put 13 = .ok (.iload_n 1, 1) := by decide +kernel
theorem dX9_put_14 : decode cX9_put 14 = .ok (.iaload, 1) := by decide +kernel
theorem dX9_put_15 : decode cX9_put 15 = .ok (.ifCond .ge 9, 3) := by decide +kernel
theorem dX9_put_18 : decode cX9_put 18 = .ok (.aload_n 0, 1) := by decide +kernel
theorem dX9_put_19 : decode cX9_put 19 = .ok (.iconst 1, 1) := by decide +kernel
theorem dX9_put_20 : decode cX9_put 20 = .ok (.invokevirtual 63, 3) := by decide +kernel
theorem dX9_put_23 : decode cX9_put 23 = .ok (.ireturn, 1) := by decide +kernel
theorem dX9_put_24 : decode cX9_put 24 = .ok (.iload_n 2, 1) := by decide +kernel
theorem dX9_put_25 : decode cX9_put 25 = .ok (.i2l, 1) := by decide +kernel
theorem dX9_put_26 : decode cX9_put 26 = .ok (.lconst 0, 1) := by decide +kernel
theorem dX9_put_27 : decode cX9_put 27 = .ok (.aload_n 0, 1) := by decide +kernel
theorem dX9_put_28 : decode cX9_put 28 = .ok (.getfield 25, 3) := by decide +kernel
theorem dX9_put_31 : decode cX9_put 31 = .ok (.iload_n 1, 1) := by decide +kernel
theorem dX9_put_32 : decode cX9_put 32 = .ok (.iaload, 1) := by decide +kernel
theorem dX9_put_33 : decode cX9_put 33 = .ok (.iconst 1, 1) := by decide +kernel
theorem dX9_put_34 : decode cX9_put 34 = .ok (.isub, 1) := by decide +kernel
theorem dX9_put_35 : decode cX9_put 35 = .ok (.i2l, 1) := by decide +kernel
theorem dX9_put_36 : decode cX9_put 36 = .ok (.invokestatic 53, 3) := by decide +kernel
theorem dX9_put_39 : decode cX9_put 39 = .ok (.ifCond .ne 9, 3) := by decide +kernel
theorem dX9_put_42 : decode cX9_put 42 = .ok (.aload_n 0, 1) := by decide +kernel
theorem dX9_put_43 : decode cX9_put 43 = .ok (.iconst 2, 1) := by decide +kernel
theorem dX9_put_44 : decode cX9_put 44 = .ok (.invokevirtual 63, 3) := by decide +kernel
theorem dX9_put_47 : decode cX9_put 47 = .ok (.ireturn, 1) := by decide +kernel
theorem dX9_put_48 : decode cX9_put 48 = .ok (.aload_n 0, 1) := by decide +kernel
theorem dX9_put_49 : decode cX9_put 49 = .ok (.getfield 22, 3) := by decide +kernel
theorem dX9_put_52 : decode cX9_put 52 = .ok (.bipush 60, 2) := by decide +kernel
theorem dX9_put_54 : decode cX9_put 54 = .ok (.iload_n 1, 1) := by decide +kernel
theorem dX9_put_55 : decode cX9_put 55 = .ok (.imul, 1) := by decide +kernel
theorem dX9_put_56 : decode cX9_put 56 = .ok (.iload_n 2, 1) := by decide +kernel
theorem dX9_put_57 : decode cX9_put 57 = .ok (.iadd, 1) := by decide +kernel
theorem dX9_put_58 : decode cX9_put 58 = .ok (.iaload, 1) := by decide +kernel
theorem dX9_put_59 : decode cX9_put 59 = .ok (.istore 4, 2) := by decide +kernel
theorem dX9_put_61 : decode cX9_put 61 = .ok (.aload_n 0, 1) := by decide +kernel
theorem dX9_put_62 : decode cX9_put 62 = .ok (.getfield 22, 3) := by decide +kernel
theorem dX9_put_65 : decode cX9_put 65 = .ok (.bipush 60, 2) := by decide +kernel
theorem dX9_put_67 : decode cX9_put 67 = .ok (.iload_n 1, 1) := by decide +kernel
theorem dX9_put_68 : decode cX9_put 68 = .ok (.imul, 1) := by decide +kernel
theorem dX9_put_69 : decode cX9_put 69 = .ok (.iload_n 2, 1) := by decide +kernel
theorem dX9_put_70 : decode cX9_put 70 = .ok (.iadd, 1) := by decide +kernel
theorem dX9_put_71 : decode cX9_put 71 = .ok (.iload_n 3, 1) := by decide +kernel
theorem dX9_put_72 : decode cX9_put 72 = .ok (.i2b, 1) := by decide +kernel
theorem dX9_put_73 : decode cX9_put 73 = .ok (.iastore, 1) := by decide +kernel
theorem dX9_put_74 : decode cX9_put 74 = .ok (.iload 4, 2) := by decide +kernel
theorem dX9_put_76 : decode cX9_put 76 = .ok (.sipush 1000, 3) := by decide +kernel
theorem dX9_put_79 : decode cX9_put 79 = .ok (.iadd, 1) := by decide +kernel
theorem dX9_put_80 : decode cX9_put 80 = .ok (.ireturn, 1) := by decide +kernel
theorem dX9_kindOf_0 : decode cX9_kindOf 0 = .ok (.iload_n 0, 1) := by decide +kernel
theorem dX9_kindOf_1 : decode cX9_kindOf 1 = .ok (.bipush 98, 2) := by decide +kernel
theorem dX9_kindOf_3 : decode cX9_kindOf 3 = .ok (.if_icmp .ne 7, 3) := by decide +kernel
theorem dX9_kindOf_6 : decode cX9_kindOf 6 = .ok (.iconst 0, 1) := by decide +kernel
theorem dX9_kindOf_7 : decode cX9_kindOf 7 = .ok (.goto 54, 3) := by decide +kernel
theorem dX9_kindOf_10 : decode cX9_kindOf 10 = .ok (.iload_n 0, 1) := by decide +kernel
theorem dX9_kindOf_11 : decode cX9_kindOf 11 = .ok (.bipush 115, 2) := by decide +kernel
theorem dX9_kindOf_13 : decode cX9_kindOf 13 = .ok (.if_icmp .ne 7, 3) := by decide +kernel
theorem dX9_kindOf_16 : decode cX9_kindOf 16 = .ok (.iconst 1, 1) := by decide +kernel
theorem dX9_kindOf_17 : decode cX9_kindOf 17 = .ok (.goto 44, 3) := by decide +kernel
theorem dX9_kindOf_20 : decode cX9_kindOf 20 = .ok (.iload_n 0, 1) := by decide +kernel
theorem dX9_kindOf_21 : decode cX9_kindOf 21 = .ok (.bipush 113, 2) := by decide +kernel
theorem dX9_kindOf_23 : decode cX9_kindOf 23 = .ok (.if_icmp .ne 7, 3) := by decide +kernel
theorem dX9_kindOf_26 : decode cX9_kindOf 26 = .ok (.iconst 2, 1) := by decide +kernel
theorem dX9_kindOf_27 : decode cX9_kindOf 27 = .ok (.goto 34, 3) := by decide +kernel
theorem dX9_kindOf_30 : decode cX9_kindOf 30 = .ok (.iload_n 0, 1) := by decide +kernel
theorem dX9_kindOf_31 : decode cX9_kindOf 31 = .ok (.bipush 99, 2) := by decide +kernel
theorem dX9_kindOf_33 : decode cX9_kindOf 33 = .ok (.if_icmp .ne 7, 3) := by decide +kernel
theorem dX9_kindOf_36 : decode cX9_kindOf 36 = .ok (.iconst 3, 1) := by decide +kernel
theorem dX9_kindOf_37 : decode cX9_kindOf 37 = .ok (.goto 24, 3) := by decide +kernel
theorem dX9_kindOf_40 : decode cX9_kindOf 40 = .ok (.iload_n 0, 1) := by decide +kernel
theorem dX9_kindOf_41 : decode cX9_kindOf 41 = .ok (.bipush 116, 2) := by decide +kernel
theorem dX9_kindOf_43 : decode cX9_kindOf 43 = .ok (.if_icmp .ne 7, 3) := by decide +kernel
theorem dX9_kindOf_46 : decode cX9_kindOf 46 = .ok (.iconst 4, 1) := by decide +kernel
theorem dX9_kindOf_47 : decode cX9_kindOf 47 = .ok (.goto 14, 3) := by decide +kernel
theorem dX9_kindOf_50 : decode cX9_kindOf 50 = .ok (.iload_n 0, 1) := by decide +kernel
theorem dX9_kindOf_51 : decode cX9_kindOf 51 = .ok (.bipush 119, 2) := by decide +kernel
theorem dX9_kindOf_53 : decode cX9_kindOf 53 = .ok (.if_icmp .ne 7, 3) := by decide +kernel
theorem dX9_kindOf_56 : decode cX9_kindOf 56 = .ok (.iconst 5, 1) := by decide +kernel
theorem dX9_kindOf_57 : decode cX9_kindOf 57 = .ok (.goto 4, 3) := by decide +kernel
theorem dX9_kindOf_60 : decode cX9_kindOf 60 = .ok (.iconst (-1), 1) := by decide +kernel
theorem dX9_kindOf_61 : decode cX9_kindOf 61 = .ok (.ireturn, 1) := by decide +kernel
theorem dX9_byteAt_0 : decode cX9_byteAt 0 = .ok (.iload_n 2, 1) := by decide +kernel
theorem dX9_byteAt_1 : decode cX9_byteAt 1 = .ok (.aload_n 0, 1) := by decide +kernel
theorem dX9_byteAt_2 : decode cX9_byteAt 2 = .ok (.getfield 25, 3) := by decide +kernel
theorem dX9_byteAt_5 : decode cX9_byteAt 5 = .ok (.iload_n 1, 1) := by decide +kernel
theorem dX9_byteAt_6 : decode cX9_byteAt 6 = .ok (.iaload, 1) := by decide +kernel
theorem dX9_byteAt_7 : decode cX9_byteAt 7 = .ok (.if_icmp .ge 17, 3) := by decide +kernel
theorem dX9_byteAt_10 : decode cX9_byteAt 10 = .ok (.aload_n 0, 1) := by decide +kernel
theorem dX9_byteAt_11 : decode cX9_byteAt 11 = .ok (.getfield 22, 3) := by decide +kernel
theorem dX9_byteAt_14 : decode cX9_byteAt 14 = .ok (.bipush 60, 2) := by decide +kernel
theorem dX9_byteAt_16 : decode cX9_byteAt 16 = .ok (.iload_n 1, 1) := by decide +kernel
theorem dX9_byteAt_17 : decode cX9_byteAt 17 = .ok (.imul, 1) := by decide +kernel
theorem dX9_byteAt_18 : decode cX9_byteAt 18 = .ok (.iload_n 2, 1) := by decide +kernel
theorem dX9_byteAt_19 : decode cX9_byteAt 19 = .ok (.iadd, 1) := by decide +kernel
theorem dX9_byteAt_20 : decode cX9_byteAt 20 = .ok (.iaload, 1) := by decide +kernel
theorem dX9_byteAt_21 : decode cX9_byteAt 21 = .ok (.goto 6, 3) := by decide +kernel
theorem dX9_byteAt_24 : decode cX9_byteAt 24 = .ok (.sipush (-1000), 3) := by decide +kernel
theorem dX9_byteAt_27 : decode cX9_byteAt 27 = .ok (.ireturn, 1) := by decide +kernel
theorem dX9_blanks_0 : decode cX9_blanks 0 = .ok (.aload_n 0, 1) := by decide +kernel
theorem dX9_blanks_1 : decode cX9_blanks 1 = .ok (.iload_n 1, 1) := by decide +kernel
theorem dX9_blanks_2 : decode cX9_blanks 2 = .ok (.aload_n 0, 1) := by decide +kernel
theorem dX9_blanks_3 : decode cX9_blanks 3 = .ok (.getfield 85, 3) := by decide +kernel
theorem dX9_blanks_6 : decode cX9_blanks 6 = .ok (.invokevirtual 88, 3) := by decide +kernel
theorem dX9_blanks_9 : decode cX9_blanks 9 = .ok (.bipush 32, 2) := by decide +kernel
theorem dX9_blanks_11 : decode cX9_blanks 11 = .ok (.if_icmp .ne 16, 3) := by decide +kernel
theorem dX9_blanks_14 : decode cX9_blanks 14 = .ok (.aload_n 0, 1) := by decide +kernel
theorem dX9_blanks_15 : decode cX9_blanks 15 = .ok (.dup, 1) := by decide +kernel
theorem dX9_blanks_16 : decode cX9_blanks 16 = .ok (.getfield 85, 3) := by decide +kernel
theorem dX9_blanks_19 : decode cX9_blanks 19 = .ok (.iconst 1, 1) := by decide +kernel
theorem dX9_blanks_20 : decode cX9_blanks 20 = .ok (.iadd, 1) := by decide +kernel
theorem dX9_blanks_21 : decode cX9_blanks 21 = .ok (.putfield 85, 3) := by decide +kernel
theorem dX9_blanks_24 : decode cX9_blanks 24 = .ok (.goto (-24), 3) := by decide +kernel
theorem dX9_blanks_27 : decode cX9_blanks 27 = .ok (.return_, 1) := by decide +kernel
theorem dX9_figures_0 : decode cX9_figures 0 = .ok (.iconst 0, 1) := by decide +kernel
theorem dX9_figures_1 : decode cX9_figures 1 = .ok (.istore 6, 2) := by decide +kernel
theorem dX9_figures_3 : decode cX9_figures 3 = .ok (.iload 6, 2) := by decide +kernel
theorem dX9_figures_5 : decode cX9_figures 5 = .ok (.iload_n 2, 1) := by decide +kernel
theorem dX9_figures_6 : decode cX9_figures 6 = .ok (.if_icmp .ge 64, 3) := by decide +kernel
theorem dX9_figures_9 : decode cX9_figures 9 = .ok (.aload_n 0, 1) := by decide +kernel
theorem dX9_figures_10 : decode cX9_figures 10 = .ok (.iload_n 1, 1) := by decide +kernel
theorem dX9_figures_11 : decode cX9_figures 11 = .ok (.aload_n 0, 1) := by decide +kernel
theorem dX9_figures_12 : decode cX9_figures 12 = .ok (.getfield 85, 3) := by decide +kernel
theorem dX9_figures_15 : decode cX9_figures 15 = .ok (.invokevirtual 88, 3) := by decide +kernel
theorem dX9_figures_18 : decode cX9_figures 18 = .ok (.bipush 48, 2) := by decide +kernel
theorem dX9_figures_20 : decode cX9_figures 20 = .ok (.isub, 1) := by decide +kernel
theorem dX9_figures_21 : decode cX9_figures 21 = .ok (.istore 7, 2) := by decide +kernel
theorem dX9_figures_23 : decode cX9_figures 23 = .ok (.iload 7, 2) := by decide +kernel
theorem dX9_figures_25 : decode cX9_figures 25 = .ok (.i2l, 1) := by decide +kernel
theorem dX9_figures_26 : decode cX9_figures 26 = .ok (.iload_n 3, 1) := by decide +kernel
theorem dX9_figures_27 : decode cX9_figures 27 = .ok (.i2l, 1) := by decide +kernel
theorem dX9_figures_28 : decode cX9_figures 28 = .ok (.ldc2_w 91, 3) := by decide +kernel
theorem dX9_figures_31 : decode cX9_figures 31 = .ok (.invokestatic 53, 3) := by decide +kernel
theorem dX9_figures_34 : decode cX9_figures 34 = .ok (.ifCond .ne 5, 3) := by decide +kernel
theorem dX9_figures_37 : decode cX9_figures 37 = .ok (.iconst 0, 1) := by decide +kernel
theorem dX9_figures_38 : decode cX9_figures 38 = .ok (.ireturn, 1) := by decide +kernel
theorem dX9_figures_39 : decode cX9_figures 39 = .ok (.aload_n 0, 1) := by decide +kernel
theorem dX9_figures_40 : decode cX9_figures 40 = .ok (.getfield 7, 3) := by decide +kernel
theorem dX9_figures_43 : decode cX9_figures 43 = .ok (.iload 4, 2) := by decide +kernel
theorem dX9_figures_45 : decode cX9_figures 45 = .ok (.iload 5, 2) := by decide +kernel
theorem dX9_figures_47 : decode cX9_figures 47 = .ok (.iload 6, 2) := by decide +kernel
theorem dX9_figures_49 : decode cX9_figures 49 = .ok (.imul, 1) := by decide +kernel
theorem dX9_figures_50 : decode cX9_figures 50 = .ok (.iadd, 1) := by decide +kernel
theorem dX9_figures_51 : decode cX9_figures 51 = .ok (.iload 7, 2) := by decide +kernel
theorem dX9_figures_53 : decode cX9_figures 53 = .ok (.iastore, 1) := by decide +kernel
theorem dX9_figures_54 : decode cX9_figures 54 = .ok (.aload_n 0, 1) := by decide +kernel
theorem dX9_figures_55 : decode cX9_figures 55 = .ok (.dup, 1) := by decide +kernel
theorem dX9_figures_56 : decode cX9_figures 56 = .ok (.getfield 85, 3) := by decide +kernel
theorem dX9_figures_59 : decode cX9_figures 59 = .ok (.iconst 1, 1) := by decide +kernel
theorem dX9_figures_60 : decode cX9_figures 60 = .ok (.iadd, 1) := by decide +kernel
theorem dX9_figures_61 : decode cX9_figures 61 = .ok (.putfield 85, 3) := by decide +kernel
theorem dX9_figures_64 : decode cX9_figures 64 = .ok (.iinc 6 1, 3) := by decide +kernel
theorem dX9_figures_67 : decode cX9_figures 67 = .ok (.goto (-64), 3) := by decide +kernel
theorem dX9_figures_70 : decode cX9_figures 70 = .ok (.iconst 1, 1) := by decide +kernel
theorem dX9_figures_71 : decode cX9_figures 71 = .ok (.ireturn, 1) := by decide +kernel
theorem dX9_takesFirst_0 : decode cX9_takesFirst 0 = .ok (.aload_n 0, 1) := by decide +kernel
theorem dX9_takesFirst_1 : decode cX9_takesFirst 1 = .ok (.iload_n 1, 1) := by decide +kernel
theorem dX9_takesFirst_2 : decode cX9_takesFirst 2 = .ok (.aload_n 0, 1) := by decide +kernel
theorem dX9_takesFirst_3 : decode cX9_takesFirst 3 = .ok (.getfield 85, 3) := by decide +kernel
theorem dX9_takesFirst_6 : decode cX9_takesFirst 6 = .ok (.invokevirtual 88, 3) := by decide +kernel
theorem dX9_takesFirst_9 : decode cX9_takesFirst 9 = .ok (.bipush 110, 2) := by decide +kernel
theorem dX9_takesFirst_11 : decode cX9_takesFirst 11 = .ok (.if_icmp .eq 5, 3) := by decide +kernel
theorem dX9_takesFirst_14 : decode cX9_takesFirst 14 = .ok (.iconst 0, 1) := by decide +kernel
theorem dX9_takesFirst_15 : decode cX9_takesFirst 15 = .ok (.ireturn, 1) := by decide +kernel
theorem dX9_takesFirst_16 : decode cX9_takesFirst 16 = .ok (.aload_n 0, 1) := by decide +kernel
theorem dX9_takesFirst_17 : decode cX9_takesFirst 17 = .ok (.dup, 1) := by decide +kernel
theorem dX9_takesFirst_18 : decode cX9_takesFirst 18 = .ok (.getfield 85, 3) := by decide +kernel
theorem dX9_takesFirst_21 : decode cX9_takesFirst 21 = .ok (.iconst 1, 1) := by decide +kernel
theorem dX9_takesFirst_22 : decode cX9_takesFirst 22 = .ok (.iadd, 1) := by decide +kernel
theorem dX9_takesFirst_23 : decode cX9_takesFirst 23 = .ok (.putfield 85, 3) := by decide +kernel
theorem dX9_takesFirst_26 : decode cX9_takesFirst 26 = .ok (.aload_n 0, 1) := by decide +kernel
theorem dX9_takesFirst_27 : decode cX9_takesFirst 27 = .ok (.iload_n 1, 1) := by decide +kernel
theorem dX9_takesFirst_28 : decode cX9_takesFirst 28 = .ok (.iconst 4, 1) := by decide +kernel
theorem dX9_takesFirst_29 : decode cX9_takesFirst 29 = .ok (.iconst 0, 1) := by decide +kernel
theorem dX9_takesFirst_30 : decode cX9_takesFirst 30 = .ok (.sipush 7255, 3) := by decide +kernel
theorem dX9_takesFirst_33 : decode cX9_takesFirst 33 = .ok (.iconst 1, 1) := by decide +kernel
theorem dX9_takesFirst_34 : decode cX9_takesFirst 34 = .ok (.invokevirtual 93, 3) := by decide +kernel
theorem dX9_takesFirst_37 : decode cX9_takesFirst 37 = .ok (.ifCond .eq 21, 3) := by decide +kernel
theorem dX9_takesFirst_40 : decode cX9_takesFirst 40 = .ok (.aload_n 0, 1) := by decide +kernel
theorem dX9_takesFirst_41 : decode cX9_takesFirst 41 = .ok (.iload_n 1, 1) := by decide +kernel
theorem dX9_takesFirst_42 : decode cX9_takesFirst 42 = .ok (.iconst 1, 1) := by decide +kernel
theorem dX9_takesFirst_43 : decode cX9_takesFirst 43 = .ok (.iconst 1, 1) := by decide +kernel
theorem dX9_takesFirst_44 : decode cX9_takesFirst 44 = .ok (.sipush 7259, 3) := by decide +kernel
theorem dX9_takesFirst_47 : decode cX9_takesFirst 47 = .ok (.iconst 1, 1) := by decide +kernel
theorem dX9_takesFirst_48 : decode cX9_takesFirst 48 = .ok (.invokevirtual 93, 3) := by decide +kernel
theorem dX9_takesFirst_51 : decode cX9_takesFirst 51 = .ok (.ifCond .eq 7, 3) := by decide +kernel
theorem dX9_takesFirst_54 : decode cX9_takesFirst 54 = .ok (.iconst 1, 1) := by decide +kernel
theorem dX9_takesFirst_55 : decode cX9_takesFirst 55 = .ok (.goto 4, 3) := by decide +kernel
theorem dX9_takesFirst_58 : decode cX9_takesFirst 58 = .ok (.iconst 0, 1) := by decide +kernel
theorem dX9_takesFirst_59 : decode cX9_takesFirst 59 = .ok (.ireturn, 1) := by decide +kernel
theorem dX9_takesBed_0 : decode cX9_takesBed 0 = .ok (.aload_n 0, 1) := by decide +kernel
theorem dX9_takesBed_1 : decode cX9_takesBed 1 = .ok (.iload_n 1, 1) := by decide +kernel
theorem dX9_takesBed_2 : decode cX9_takesBed 2 = .ok (.aload_n 0, 1) := by decide +kernel
theorem dX9_takesBed_3 : decode cX9_takesBed 3 = .ok (.getfield 85, 3) := by decide +kernel
theorem dX9_takesBed_6 : decode cX9_takesBed 6 = .ok (.invokevirtual 88, 3) := by decide +kernel
theorem dX9_takesBed_9 : decode cX9_takesBed 9 = .ok (.invokestatic 97, 3) := by decide +kernel
theorem dX9_takesBed_12 : decode cX9_takesBed 12 = .ok (.istore_n 2, 1) := by decide +kernel
theorem dX9_takesBed_13 : decode cX9_takesBed 13 = .ok (.aload_n 0, 1) := by decide +kernel
theorem dX9_takesBed_14 : decode cX9_takesBed 14 = .ok (.getfield 7, 3) := by decide +kernel
theorem dX9_takesBed_17 : decode cX9_takesBed 17 = .ok (.sipush 7216, 3) := by decide +kernel
theorem dX9_takesBed_20 : decode cX9_takesBed 20 = .ok (.iaload, 1) := by decide +kernel
theorem dX9_takesBed_21 : decode cX9_takesBed 21 = .ok (.istore_n 3, 1) := by decide +kernel
theorem dX9_takesBed_22 : decode cX9_takesBed 22 = .ok (.iload_n 2, 1) := by decide +kernel
theorem dX9_takesBed_23 : decode cX9_takesBed 23 = .ok (.ifCond .lt 9, 3) := by decide +kernel
theorem dX9_takesBed_26 : decode cX9_takesBed 26 = .ok (.iload_n 3, 1) := by decide +kernel
theorem dX9_takesBed_27 : decode cX9_takesBed 27 = .ok (.bipush 6, 2) := by decide +kernel
theorem dX9_takesBed_29 : decode cX9_takesBed 29 = .ok (.if_icmp .ne 5, 3) := by decide +kernel
theorem dX9_takesBed_32 : decode cX9_takesBed 32 = .ok (.iconst 0, 1) := by decide +kernel
theorem dX9_takesBed_33 : decode cX9_takesBed 33 = .ok (.ireturn, 1) := by decide +kernel
theorem dX9_takesBed_34 : decode cX9_takesBed 34 = .ok (.aload_n 0, 1) := by decide +kernel
theorem dX9_takesBed_35 : decode cX9_takesBed 35 = .ok (.dup, 1) := by decide +kernel
theorem dX9_takesBed_36 : decode cX9_takesBed 36 = .ok (.getfield 85, 3) := by decide +kernel
theorem dX9_takesBed_39 : decode cX9_takesBed 39 = .ok (.iconst 1, 1) := by decide +kernel
theorem dX9_takesBed_40 : decode cX9_takesBed 40 = .ok (.iadd, 1) := by decide +kernel
theorem dX9_takesBed_41 : decode cX9_takesBed 41 = .ok (.putfield 85, 3) := by decide +kernel
theorem dX9_takesBed_44 : decode cX9_takesBed 44 = .ok (.aload_n 0, 1) := by decide +kernel
theorem dX9_takesBed_45 : decode cX9_takesBed 45 = .ok (.getfield 7, 3) := by decide +kernel
theorem dX9_takesBed_48 : decode cX9_takesBed 48 = .ok (.sipush 7219, 3) := by decide +kernel
theorem dX9_takesBed_51 : decode cX9_takesBed 51 = .ok (.iload_n 3, 1) := by decide +kernel
theorem dX9_takesBed_52 : decode cX9_takesBed 52 = .ok (.iadd, 1) := by decide +kernel
theorem dX9_takesBed_53 : decode cX9_takesBed 53 = .ok (.iload_n 2, 1) := by decide +kernel
theorem dX9_takesBed_54 : decode cX9_takesBed 54 = .ok (.iastore, 1) := by decide +kernel
theorem dX9_takesBed_55 : decode cX9_takesBed 55 = .ok (.aload_n 0, 1) := by decide +kernel
theorem dX9_takesBed_56 : decode cX9_takesBed 56 = .ok (.iload_n 1, 1) := by decide +kernel
theorem dX9_takesBed_57 : decode cX9_takesBed 57 = .ok (.iconst 3, 1) := by decide +kernel
theorem dX9_takesBed_58 : decode cX9_takesBed 58 = .ok (.iconst 0, 1) := by decide +kernel
theorem dX9_takesBed_59 : decode cX9_takesBed 59 = .ok (.sipush 7225, 3) := by decide +kernel
theorem dX9_takesBed_62 : decode cX9_takesBed 62 = .ok (.iload_n 3, 1) := by decide +kernel
theorem dX9_takesBed_63 : decode cX9_takesBed 63 = .ok (.iadd, 1) := by decide +kernel
theorem dX9_takesBed_64 : decode cX9_takesBed 64 = .ok (.bipush 6, 2) := by decide +kernel
theorem dX9_takesBed_66 : decode cX9_takesBed 66 = .ok (.invokevirtual 93, 3) := by decide +kernel
theorem dX9_takesBed_69 : decode cX9_takesBed 69 = .ok (.ifCond .ne 5, 3) := by decide +kernel
theorem dX9_takesBed_72 : decode cX9_takesBed 72 = .ok (.iconst 0, 1) := by decide +kernel
theorem dX9_takesBed_73 : decode cX9_takesBed 73 = .ok (.ireturn, 1) := by decide +kernel
theorem dX9_takesBed_74 : decode cX9_takesBed 74 = .ok (.aload_n 0, 1) := by decide +kernel
theorem dX9_takesBed_75 : decode cX9_takesBed 75 = .ok (.getfield 7, 3) := by decide +kernel
theorem dX9_takesBed_78 : decode cX9_takesBed 78 = .ok (.sipush 7216, 3) := by decide +kernel
theorem dX9_takesBed_81 : decode cX9_takesBed 81 = .ok (.dup2, 1) := by decide +kernel
theorem dX9_takesBed_82 : decode cX9_takesBed 82 = .ok (.iaload, 1) := by decide +kernel
theorem dX9_takesBed_83 : decode cX9_takesBed 83 = .ok (.iconst 1, 1) := by decide +kernel
theorem dX9_takesBed_84 : decode cX9_takesBed 84 = .ok (.iadd, 1) := by decide +kernel
theorem dX9_takesBed_85 : decode cX9_takesBed 85 = .ok (.iastore, 1) := by decide +kernel
theorem dX9_takesBed_86 : decode cX9_takesBed 86 = .ok (.iconst 1, 1) := by decide +kernel
theorem dX9_takesBed_87 : decode cX9_takesBed 87 = .ok (.ireturn, 1) := by decide +kernel
theorem dX9_faultOf_0 : decode cX9_faultOf 0 = .ok (.iconst 0, 1) := by decide +kernel
theorem dX9_faultOf_1 : decode cX9_faultOf 1 = .ok (.istore_n 2, 1) := by decide +kernel
theorem dX9_faultOf_2 : decode cX9_faultOf 2 = .ok (.iload_n 2, 1) := by decide +kernel
theorem dX9_faultOf_3 : decode cX9_faultOf 3 = .ok (.bipush 44, 2) := by decide +kernel
theorem dX9_faultOf_5 : decode cX9_faultOf 5 = .ok (.if_icmp .ge 20, 3) := by decide +kernel
theorem dX9_faultOf_8 : decode cX9_faultOf 8 = .ok (.aload_n 0, 1) := by decide +kernel
theorem dX9_faultOf_9 : decode cX9_faultOf 9 = .ok (.getfield 7, 3) := by decide +kernel
theorem dX9_faultOf_12 : decode cX9_faultOf 12 = .ok (.sipush 7216, 3) := by decide +kernel
theorem dX9_faultOf_15 : decode cX9_faultOf 15 = .ok (.iload_n 2, 1) := by decide +kernel
theorem dX9_faultOf_16 : decode cX9_faultOf 16 = .ok (.iadd, 1) := by decide +kernel
theorem dX9_faultOf_17 : decode cX9_faultOf 17 = .ok (.iconst 0, 1) := by decide +kernel
theorem dX9_faultOf_18 : decode cX9_faultOf 18 = .ok (.iastore, 1) := by decide +kernel
theorem dX9_faultOf_19 : decode cX9_faultOf 19 = .ok (.iinc 2 1, 3) := by decide +kernel
theorem dX9_faultOf_22 : decode cX9_faultOf 22 = .ok (.goto (-20), 3) := by decide +kernel
theorem dX9_faultOf_25 : decode cX9_faultOf 25 = .ok (.aload_n 0, 1) := by decide +kernel
theorem dX9_faultOf_26 : decode cX9_faultOf 26 = .ok (.iconst 0, 1) := by decide +kernel
theorem dX9_faultOf_27 : decode cX9_faultOf 27 = .ok (.putfield 85, 3) := by decide +kernel
theorem dX9_faultOf_30 : decode cX9_faultOf 30 = .ok (.aload_n 0, 1) := by decide +kernel
theorem dX9_faultOf_31 : decode cX9_faultOf 31 = .ok (.iload_n 1, 1) := by decide +kernel
theorem dX9_faultOf_32 : decode cX9_faultOf 32 = .ok (.invokevirtual 100, 3) := by decide +kernel
theorem dX9_faultOf_35 : decode cX9_faultOf 35 = .ok (.aload_n 0, 1) := by decide +kernel
theorem dX9_faultOf_36 : decode cX9_faultOf 36 = .ok (.iload_n 1, 1) := by decide +kernel
theorem dX9_faultOf_37 : decode cX9_faultOf 37 = .ok (.invokevirtual 104, 3) := by decide +kernel
theorem dX9_faultOf_40 : decode cX9_faultOf 40 = .ok (.ifCond .ne 8, 3) := by decide +kernel
theorem dX9_faultOf_43 : decode cX9_faultOf 43 = .ok (.aload_n 0, 1) := by decide +kernel
theorem dX9_faultOf_44 : decode cX9_faultOf 44 = .ok (.getfield 85, 3) := by decide +kernel
theorem dX9_faultOf_47 : decode cX9_faultOf 47 = .ok (.ireturn, 1) := by decide +kernel
theorem dX9_faultOf_48 : decode cX9_faultOf 48 = .ok (.aload_n 0, 1) := by decide +kernel
theorem dX9_faultOf_49 : decode cX9_faultOf 49 = .ok (.iload_n 1, 1) := by decide +kernel
theorem dX9_faultOf_50 : decode cX9_faultOf 50 = .ok (.invokevirtual 100, 3) := by decide +kernel
theorem dX9_faultOf_53 : decode cX9_faultOf 53 = .ok (.aload_n 0, 1) := by decide +kernel
theorem dX9_faultOf_54 : decode cX9_faultOf 54 = .ok (.getfield 85, 3) := by decide +kernel
theorem dX9_faultOf_57 : decode cX9_faultOf 57 = .ok (.aload_n 0, 1) := by decide +kernel
theorem dX9_faultOf_58 : decode cX9_faultOf 58 = .ok (.getfield 25, 3) := by decide +kernel
theorem dX9_faultOf_61 : decode cX9_faultOf 61 = .ok (.iload_n 1, 1) := by decide +kernel
theorem dX9_faultOf_62 : decode cX9_faultOf 62 = .ok (.iaload, 1) := by decide +kernel
theorem dX9_faultOf_63 : decode cX9_faultOf 63 = .ok (.if_icmp .lt 14, 3) := by decide +kernel
theorem dX9_faultOf_66 : decode cX9_faultOf 66 = .ok (.aload_n 0, 1) := by decide +kernel
theorem dX9_faultOf_67 : decode cX9_faultOf 67 = .ok (.getfield 7, 3) := by decide +kernel
theorem dX9_faultOf_70 : decode cX9_faultOf 70 = .ok (.sipush 7216, 3) := by decide +kernel
theorem dX9_faultOf_73 : decode cX9_faultOf 73 = .ok (.iaload, 1) := by decide +kernel
theorem dX9_faultOf_74 : decode cX9_faultOf 74 = .ok (.ifCond .ne 24, 3) := by decide +kernel
theorem dX9_faultOf_77 : decode cX9_faultOf 77 = .ok (.aload_n 0, 1) := by decide +kernel
theorem dX9_faultOf_78 : decode cX9_faultOf 78 = .ok (.iload_n 1, 1) := by decide +kernel
theorem dX9_faultOf_79 : decode cX9_faultOf 79 = .ok (.invokevirtual 107, 3) := by decide +kernel
theorem dX9_faultOf_82 : decode cX9_faultOf 82 = .ok (.ifCond .ne 8, 3) := by decide +kernel
theorem dX9_faultOf_85 : decode cX9_faultOf 85 = .ok (.aload_n 0, 1) := by decide +kernel
theorem dX9_faultOf_86 : decode cX9_faultOf 86 = .ok (.getfield 85, 3) := by decide +kernel
theorem dX9_faultOf_89 : decode cX9_faultOf 89 = .ok (.ireturn, 1) := by decide +kernel
theorem dX9_faultOf_90 : decode cX9_faultOf 90 = .ok (.aload_n 0, 1) := by decide +kernel
theorem dX9_faultOf_91 : decode cX9_faultOf 91 = .ok (.iload_n 1, 1) := by decide +kernel
theorem dX9_faultOf_92 : decode cX9_faultOf 92 = .ok (.invokevirtual 100, 3) := by decide +kernel
theorem dX9_faultOf_95 : decode cX9_faultOf 95 = .ok (.goto (-42), 3) := by decide +kernel
theorem dX9_faultOf_98 : decode cX9_faultOf 98 = .ok (.bipush (-9), 2) := by decide +kernel
theorem dX9_faultOf_100 : decode cX9_faultOf 100 = .ok (.ireturn, 1) := by decide +kernel
theorem dX9_fault_0 : decode cX9_fault 0 = .ok (.iload_n 1, 1) := by decide +kernel
theorem dX9_fault_1 : decode cX9_fault 1 = .ok (.invokestatic 82, 3) := by decide +kernel
theorem dX9_fault_4 : decode cX9_fault 4 = .ok (.ifCond .ne 5, 3) := by decide +kernel
theorem dX9_fault_7 : decode cX9_fault 7 = .ok (.iconst (-1), 1) := by decide +kernel
theorem dX9_fault_8 : decode cX9_fault 8 = .ok (.ireturn, 1) := by decide +kernel
theorem dX9_fault_9 : decode cX9_fault 9 = .ok (.aload_n 0, 1) := by decide +kernel
theorem dX9_fault_10 : decode cX9_fault 10 = .ok (.getfield 25, 3) := by decide +kernel
theorem dX9_fault_13 : decode cX9_fault 13 = .ok (.iload_n 1, 1) := by decide +kernel
theorem dX9_fault_14 : decode cX9_fault 14 = .ok (.iaload, 1) := by decide +kernel
theorem dX9_fault_15 : decode cX9_fault 15 = .ok (.ifCond .ge 11, 3) := by decide +kernel
theorem dX9_fault_18 : decode cX9_fault 18 = .ok (.aload_n 0, 1) := by decide +kernel
theorem dX9_fault_19 : decode cX9_fault 19 = .ok (.iconst 1, 1) := by decide +kernel
theorem dX9_fault_20 : decode cX9_fault 20 = .ok (.invokevirtual 63, 3) := by decide +kernel
theorem dX9_fault_23 : decode cX9_fault 23 = .ok (.goto 8, 3) := by decide +kernel
theorem dX9_fault_26 : decode cX9_fault 26 = .ok (.aload_n 0, 1) := by decide +kernel
theorem dX9_fault_27 : decode cX9_fault 27 = .ok (.iload_n 1, 1) := by decide +kernel
theorem dX9_fault_28 : decode cX9_fault 28 = .ok (.invokevirtual 110, 3) := by decide +kernel
theorem dX9_fault_31 : decode cX9_fault 31 = .ok (.ireturn, 1) := by decide +kernel
theorem dX9_town_0 : decode cX9_town 0 = .ok (.iload_n 1, 1) := by decide +kernel
theorem dX9_town_1 : decode cX9_town 1 = .ok (.invokestatic 82, 3) := by decide +kernel
theorem dX9_town_4 : decode cX9_town 4 = .ok (.ifCond .ne 5, 3) := by decide +kernel
theorem dX9_town_7 : decode cX9_town 7 = .ok (.iconst (-1), 1) := by decide +kernel
theorem dX9_town_8 : decode cX9_town 8 = .ok (.ireturn, 1) := by decide +kernel
theorem dX9_town_9 : decode cX9_town 9 = .ok (.aload_n 0, 1) := by decide +kernel
theorem dX9_town_10 : decode cX9_town 10 = .ok (.getfield 25, 3) := by decide +kernel
theorem dX9_town_13 : decode cX9_town 13 = .ok (.iload_n 1, 1) := by decide +kernel
theorem dX9_town_14 : decode cX9_town 14 = .ok (.iaload, 1) := by decide +kernel
theorem dX9_town_15 : decode cX9_town 15 = .ok (.ifCond .ge 9, 3) := by decide +kernel
theorem dX9_town_18 : decode cX9_town 18 = .ok (.aload_n 0, 1) := by decide +kernel
theorem dX9_town_19 : decode cX9_town 19 = .ok (.iconst 1, 1) := by decide +kernel
theorem dX9_town_20 : decode cX9_town 20 = .ok (.invokevirtual 63, 3) := by decide +kernel
theorem dX9_town_23 : decode cX9_town 23 = .ok (.ireturn, 1) := by decide +kernel
theorem dX9_town_24 : decode cX9_town 24 = .ok (.aload_n 0, 1) := by decide +kernel
theorem dX9_town_25 : decode cX9_town 25 = .ok (.iload_n 1, 1) := by decide +kernel
theorem dX9_town_26 : decode cX9_town 26 = .ok (.invokevirtual 110, 3) := by decide +kernel
theorem dX9_town_29 : decode cX9_town 29 = .ok (.bipush (-9), 2) := by decide +kernel
theorem dX9_town_31 : decode cX9_town 31 = .ok (.if_icmp .eq 6, 3) := by decide +kernel
theorem dX9_town_34 : decode cX9_town 34 = .ok (.bipush (-4), 2) := by decide +kernel
theorem dX9_town_36 : decode cX9_town 36 = .ok (.ireturn, 1) := by decide +kernel
theorem dX9_town_37 : decode cX9_town 37 = .ok (.aload_n 0, 1) := by decide +kernel
theorem dX9_town_38 : decode cX9_town 38 = .ok (.sipush 7216, 3) := by decide +kernel
theorem dX9_town_41 : decode cX9_town 41 = .ok (.iconst 0, 1) := by decide +kernel
theorem dX9_town_42 : decode cX9_town 42 = .ok (.bipush 44, 2) := by decide +kernel
theorem dX9_town_44 : decode cX9_town 44 = .ok (.invokevirtual 113, 3) := by decide +kernel
theorem dX9_town_47 : decode cX9_town 47 = .ok (.aload_n 0, 1) := by decide +kernel
theorem dX9_town_48 : decode cX9_town 48 = .ok (.iconst 0, 1) := by decide +kernel
theorem dX9_town_49 : decode cX9_town 49 = .ok (.putfield 117, 3) := by decide +kernel
theorem dX9_town_52 : decode cX9_town 52 = .ok (.iconst 0, 1) := by decide +kernel
theorem dX9_town_53 : decode cX9_town 53 = .ok (.istore_n 2, 1) := by decide +kernel
theorem dX9_town_54 : decode cX9_town 54 = .ok (.iload_n 2, 1) := by decide +kernel
theorem dX9_town_55 : decode cX9_town 55 = .ok (.iconst 3, 1) := by decide +kernel
theorem dX9_town_56 : decode cX9_town 56 = .ok (.if_icmp .ge 16, 3) := by decide +kernel
theorem dX9_town_59 : decode cX9_town 59 = .ok (.aload_n 0, 1) := by decide +kernel
theorem dX9_town_60 : decode cX9_town 60 = .ok (.getfield 13, 3) := by decide +kernel
theorem dX9_town_63 : decode cX9_town 63 = .ok (.iload_n 2, 1) := by decide +kernel
theorem dX9_town_64 : decode cX9_town 64 = .ok (.iconst (-1), 1) := by decide +kernel
theorem dX9_town_65 : decode cX9_town 65 = .ok (.iastore, 1) := by decide +kernel
theorem dX9_town_66 : decode cX9_town 66 = .ok (.iinc 2 1, 3) := by decide +kernel
theorem dX9_town_69 : decode cX9_town 69 = .ok (.goto (-15), 3) := by decide +kernel
theorem dX9_town_72 : decode cX9_town 72 = .ok (.aload_n 0, 1) := by decide +kernel
theorem dX9_town_73 : decode cX9_town 73 = .ok (.getfield 7, 3) := by decide +kernel
theorem dX9_town_76 : decode cX9_town 76 = .ok (.iconst 0, 1) := by decide +kernel
theorem dX9_town_77 : decode cX9_town 77 = .ok (.iaload, 1) := by decide +kernel
theorem dX9_town_78 : decode cX9_town 78 = .ok (.ireturn, 1) := by decide +kernel
theorem dX9_isBed_0 : decode cX9_isBed 0 = .ok (.iload_n 1, 1) := by decide +kernel
theorem dX9_isBed_1 : decode cX9_isBed 1 = .ok (.i2l, 1) := by decide +kernel
theorem dX9_isBed_2 : decode cX9_isBed 2 = .ok (.lconst 0, 1) := by decide +kernel
theorem dX9_isBed_3 : decode cX9_isBed 3 = .ok (.aload_n 0, 1) := by decide +kernel
theorem dX9_isBed_4 : decode cX9_isBed 4 = .ok (.getfield 7, 3) := by decide +kernel
theorem dX9_isBed_7 : decode cX9_isBed 7 = .ok (.iconst 0, 1) := by decide +kernel
theorem dX9_isBed_8 : decode cX9_isBed 8 = .ok (.iaload, 1) := by decide +kernel
theorem dX9_isBed_9 : decode cX9_isBed 9 = .ok (.iconst 1, 1) := by decide +kernel
theorem dX9_isBed_10 : decode cX9_isBed 10 = .ok (.isub, 1) := by decide +kernel
theorem dX9_isBed_11 : decode cX9_isBed 11 = .ok (.i2l, 1) := by decide +kernel
theorem dX9_isBed_12 : decode cX9_isBed 12 = .ok (.invokestatic 53, 3) := by decide +kernel
theorem dX9_isBed_15 : decode cX9_isBed 15 = .ok (.ireturn, 1) := by decide +kernel
theorem dX9_isTown_0 : decode cX9_isTown 0 = .ok (.aload_n 0, 1) := by decide +kernel
theorem dX9_isTown_1 : decode cX9_isTown 1 = .ok (.getfield 7, 3) := by decide +kernel
theorem dX9_isTown_4 : decode cX9_isTown 4 = .ok (.iconst 0, 1) := by decide +kernel
theorem dX9_isTown_5 : decode cX9_isTown 5 = .ok (.iaload, 1) := by decide +kernel
theorem dX9_isTown_6 : decode cX9_isTown 6 = .ok (.ifCond .le 7, 3) := by decide +kernel
theorem dX9_isTown_9 : decode cX9_isTown 9 = .ok (.iconst 1, 1) := by decide +kernel
theorem dX9_isTown_10 : decode cX9_isTown 10 = .ok (.goto 4, 3) := by decide +kernel
theorem dX9_isTown_13 : decode cX9_isTown 13 = .ok (.iconst 0, 1) := by decide +kernel
theorem dX9_isTown_14 : decode cX9_isTown 14 = .ok (.ireturn, 1) := by decide +kernel
theorem dX9_barOf_0 : decode cX9_barOf 0 = .ok (.iload_n 0, 1) := by decide +kernel
theorem dX9_barOf_1 : decode cX9_barOf 1 = .ok (.iconst 1, 1) := by decide +kernel
theorem dX9_barOf_2 : decode cX9_barOf 2 = .ok (.if_icmp .eq 8, 3) := by decide +kernel
theorem dX9_barOf_5 : decode cX9_barOf 5 = .ok (.iload_n 0, 1) := by decide +kernel
theorem dX9_barOf_6 : decode cX9_barOf 6 = .ok (.iconst 5, 1) := by decide +kernel
theorem dX9_barOf_7 : decode cX9_barOf 7 = .ok (.if_icmp .ne 9, 3) := by decide +kernel
theorem dX9_barOf_10 : decode cX9_barOf 10 = .ok (.iload_n 1, 1) := by decide +kernel
theorem dX9_barOf_11 : decode cX9_barOf 11 = .ok (.iconst 2, 1) := by decide +kernel
theorem dX9_barOf_12 : decode cX9_barOf 12 = .ok (.iadd, 1) := by decide +kernel
theorem dX9_barOf_13 : decode cX9_barOf 13 = .ok (.goto 20, 3) := by decide +kernel
theorem dX9_barOf_16 : decode cX9_barOf 16 = .ok (.iload_n 0, 1) := by decide +kernel
theorem dX9_barOf_17 : decode cX9_barOf 17 = .ok (.iconst 2, 1) := by decide +kernel
theorem dX9_barOf_18 : decode cX9_barOf 18 = .ok (.if_icmp .eq 8, 3) := by decide +kernel
theorem dX9_barOf_21 : decode cX9_barOf 21 = .ok (.iload_n 0, 1) := by decide +kernel
theorem dX9_barOf_22 : decode cX9_barOf 22 = .ok (.iconst 4, 1) := by decide +kernel
theorem dX9_barOf_23 : decode cX9_barOf 23 = .ok (.if_icmp .ne 9, 3) := by decide +kernel
theorem dX9_barOf_26 : decode cX9_barOf 26 = .ok (.iload_n 1, 1) := by decide +kernel
theorem dX9_barOf_27 : decode cX9_barOf 27 = .ok (.iconst 2, 1) := by decide +kernel
theorem dX9_barOf_28 : decode cX9_barOf 28 = .ok (.idiv, 1) := by decide +kernel
theorem dX9_barOf_29 : decode cX9_barOf 29 = .ok (.goto 4, 3) := by decide +kernel
theorem dX9_barOf_32 : decode cX9_barOf 32 = .ok (.iload_n 1, 1) := by decide +kernel
theorem dX9_barOf_33 : decode cX9_barOf 33 = .ok (.ireturn, 1) := by decide +kernel
theorem dX9_crossBy_0 : decode cX9_crossBy 0 = .ok (.iload_n 3, 1) := by decide +kernel
theorem dX9_crossBy_1 : decode cX9_crossBy 1 = .ok (.aload_n 0, 1) := by decide +kernel
theorem dX9_crossBy_2 : decode cX9_crossBy 2 = .ok (.getfield 7, 3) := by decide +kernel
theorem dX9_crossBy_5 : decode cX9_crossBy 5 = .ok (.bipush 39, 2) := by decide +kernel
theorem dX9_crossBy_7 : decode cX9_crossBy 7 = .ok (.iload 4, 2) := by decide +kernel
theorem dX9_crossBy_9 : decode cX9_crossBy 9 = .ok (.iconst 4, 1) := by decide +kernel
theorem dX9_crossBy_10 : decode cX9_crossBy 10 = .ok (.irem, 1) := by decide +kernel
theorem dX9_crossBy_11 : decode cX9_crossBy 11 = .ok (.iadd, 1) := by decide +kernel
theorem dX9_crossBy_12 : decode cX9_crossBy 12 = .ok (.iaload, 1) := by decide +kernel
theorem dX9_crossBy_13 : decode cX9_crossBy 13 = .ok (.iadd, 1) := by decide +kernel
theorem dX9_crossBy_14 : decode cX9_crossBy 14 = .ok (.iload_n 1, 1) := by decide +kernel
theorem dX9_crossBy_15 : decode cX9_crossBy 15 = .ok (.iload_n 2, 1) := by decide +kernel
theorem dX9_crossBy_16 : decode cX9_crossBy 16 = .ok (.invokestatic 120, 3) := by decide +kernel
theorem dX9_crossBy_19 : decode cX9_crossBy 19 = .ok (.isub, 1) := by decide +kernel
theorem dX9_crossBy_20 : decode cX9_crossBy 20 = .ok (.istore 5, 2) := by decide +kernel
theorem dX9_crossBy_22 : decode cX9_crossBy 22 = .ok (.iload 5, 2) := by decide +kernel
theorem dX9_crossBy_24 : decode cX9_crossBy 24 = .ok (.ifCond .ge 7, 3) := by decide +kernel
theorem dX9_crossBy_27 : decode cX9_crossBy 27 = .ok (.iconst 0, 1) := by decide +kernel
theorem dX9_crossBy_28 : decode cX9_crossBy 28 = .ok (.goto 5, 3) := by decide +kernel
theorem dX9_crossBy_31 : decode cX9_crossBy 31 = .ok (.iload 5, 2) := by decide +kernel
theorem dX9_crossBy_33 : decode cX9_crossBy 33 = .ok (.istore 6, 2) := by decide +kernel
theorem dX9_crossBy_35 : decode cX9_crossBy 35 = .ok (.iload_n 1, 1) := by decide +kernel
theorem dX9_crossBy_36 : decode cX9_crossBy 36 = .ok (.tableswitch 62 3 5 #[28, 43, 57], 28) := by decide +kernel
theorem dX9_crossBy_64 : decode cX9_crossBy 64 = .ok (.iload 4, 2) := by decide +kernel
theorem dX9_crossBy_66 : decode cX9_crossBy 66 = .ok (.iconst 2, 1) := by decide +kernel
theorem dX9_crossBy_67 : decode cX9_crossBy 67 = .ok (.irem, 1) := by decide +kernel
theorem dX9_crossBy_68 : decode cX9_crossBy 68 = .ok (.iconst 1, 1) := by decide +kernel
theorem dX9_crossBy_69 : decode cX9_crossBy 69 = .ok (.if_icmp .ne 7, 3) := by decide +kernel
theorem dX9_crossBy_72 : decode cX9_crossBy 72 = .ok (.iconst 0, 1) := by decide +kernel
theorem dX9_crossBy_73 : decode cX9_crossBy 73 = .ok (.goto 5, 3) := by decide +kernel
theorem dX9_crossBy_76 : decode cX9_crossBy 76 = .ok (.iload 6, 2) := by decide +kernel
theorem dX9_crossBy_78 : decode cX9_crossBy 78 = .ok (.ireturn, 1) := by decide +kernel
theorem dX9_crossBy_79 : decode cX9_crossBy 79 = .ok (.iload 6, 2) := by decide +kernel
theorem dX9_crossBy_81 : decode cX9_crossBy 81 = .ok (.ifCond .le 10, 3) := by decide +kernel
theorem dX9_crossBy_84 : decode cX9_crossBy 84 = .ok (.iload 6, 2) := by decide +kernel
theorem dX9_crossBy_86 : decode cX9_crossBy 86 = .ok (.iconst 1, 1) := by decide +kernel
theorem dX9_crossBy_87 : decode cX9_crossBy 87 = .ok (.iadd, 1) := by decide +kernel
theorem dX9_crossBy_88 : decode cX9_crossBy 88 = .ok (.goto 4, 3) := by decide +kernel
theorem dX9_crossBy_91 : decode cX9_crossBy 91 = .ok (.iconst 0, 1) := by decide +kernel
theorem dX9_crossBy_92 : decode cX9_crossBy 92 = .ok (.ireturn, 1) := by decide +kernel
theorem dX9_crossBy_93 : decode cX9_crossBy 93 = .ok (.iload 6, 2) := by decide +kernel
theorem dX9_crossBy_95 : decode cX9_crossBy 95 = .ok (.iconst 2, 1) := by decide +kernel
theorem dX9_crossBy_96 : decode cX9_crossBy 96 = .ok (.idiv, 1) := by decide +kernel
theorem dX9_crossBy_97 : decode cX9_crossBy 97 = .ok (.ireturn, 1) := by decide +kernel
theorem dX9_crossBy_98 : decode cX9_crossBy 98 = .ok (.iload 6, 2) := by decide +kernel
theorem dX9_crossBy_100 : decode cX9_crossBy 100 = .ok (.ireturn, 1) := by decide +kernel
theorem dX9_gapIn_0 : decode cX9_gapIn 0 = .ok (.aload_n 0, 1) := by decide +kernel
theorem dX9_gapIn_1 : decode cX9_gapIn 1 = .ok (.getfield 7, 3) := by decide +kernel
theorem dX9_gapIn_4 : decode cX9_gapIn 4 = .ok (.iload_n 1, 1) := by decide +kernel
theorem dX9_gapIn_5 : decode cX9_gapIn 5 = .ok (.bipush 9, 2) := by decide +kernel
theorem dX9_gapIn_7 : decode cX9_gapIn 7 = .ok (.iadd, 1) := by decide +kernel
theorem dX9_gapIn_8 : decode cX9_gapIn 8 = .ok (.iload_n 2, 1) := by decide +kernel
theorem dX9_gapIn_9 : decode cX9_gapIn 9 = .ok (.iadd, 1) := by decide +kernel
theorem dX9_gapIn_10 : decode cX9_gapIn 10 = .ok (.iaload, 1) := by decide +kernel
theorem dX9_gapIn_11 : decode cX9_gapIn 11 = .ok (.aload_n 0, 1) := by decide +kernel
theorem dX9_gapIn_12 : decode cX9_gapIn 12 = .ok (.getfield 7, 3) := by decide +kernel
theorem dX9_gapIn_15 : decode cX9_gapIn 15 = .ok (.iload_n 1, 1) := by decide +kernel
theorem dX9_gapIn_16 : decode cX9_gapIn 16 = .ok (.bipush 15, 2) := by decide +kernel
theorem dX9_gapIn_18 : decode cX9_gapIn 18 = .ok (.iadd, 1) := by decide +kernel
theorem dX9_gapIn_19 : decode cX9_gapIn 19 = .ok (.iload_n 2, 1) := by decide +kernel
theorem dX9_gapIn_20 : decode cX9_gapIn 20 = .ok (.iadd, 1) := by decide +kernel
theorem dX9_gapIn_21 : decode cX9_gapIn 21 = .ok (.iaload, 1) := by decide +kernel
theorem dX9_gapIn_22 : decode cX9_gapIn 22 = .ok (.invokestatic 123, 3) := by decide +kernel
theorem dX9_gapIn_25 : decode cX9_gapIn 25 = .ok (.ireturn, 1) := by decide +kernel
theorem dX9_crossIn_0 : decode cX9_crossIn 0 = .ok (.aload_n 0, 1) := by decide +kernel
theorem dX9_crossIn_1 : decode cX9_crossIn 1 = .ok (.aload_n 0, 1) := by decide +kernel
theorem dX9_crossIn_2 : decode cX9_crossIn 2 = .ok (.getfield 7, 3) := by decide +kernel
theorem dX9_crossIn_5 : decode cX9_crossIn 5 = .ok (.iload_n 1, 1) := by decide +kernel
theorem dX9_crossIn_6 : decode cX9_crossIn 6 = .ok (.iconst 3, 1) := by decide +kernel
theorem dX9_crossIn_7 : decode cX9_crossIn 7 = .ok (.iadd, 1) := by decide +kernel
theorem dX9_crossIn_8 : decode cX9_crossIn 8 = .ok (.iload_n 2, 1) := by decide +kernel
theorem dX9_crossIn_9 : decode cX9_crossIn 9 = .ok (.iadd, 1) := by decide +kernel
theorem dX9_crossIn_10 : decode cX9_crossIn 10 = .ok (.iaload, 1) := by decide +kernel
theorem dX9_crossIn_11 : decode cX9_crossIn 11 = .ok (.aload_n 0, 1) := by decide +kernel
theorem dX9_crossIn_12 : decode cX9_crossIn 12 = .ok (.getfield 7, 3) := by decide +kernel
theorem dX9_crossIn_15 : decode cX9_crossIn 15 = .ok (.iload_n 1, 1) := by decide +kernel
theorem dX9_crossIn_16 : decode cX9_crossIn 16 = .ok (.bipush 21, 2) := by decide +kernel
theorem dX9_crossIn_18 : decode cX9_crossIn 18 = .ok (.iadd, 1) := by decide +kernel
theorem dX9_crossIn_19 : decode cX9_crossIn 19 = .ok (.iload_n 2, 1) := by decide +kernel
theorem dX9_crossIn_20 : decode cX9_crossIn 20 = .ok (.iadd, 1) := by decide +kernel
theorem dX9_crossIn_21 : decode cX9_crossIn 21 = .ok (.iaload, 1) := by decide +kernel
theorem dX9_crossIn_22 : decode cX9_crossIn 22 = .ok (.aload_n 0, 1) := by decide +kernel
theorem dX9_crossIn_23 : decode cX9_crossIn 23 = .ok (.iload_n 1, 1) := by decide +kernel
theorem dX9_crossIn_24 : decode cX9_crossIn 24 = .ok (.iload_n 2, 1) := by decide +kernel
theorem dX9_crossIn_25 : decode cX9_crossIn 25 = .ok (.invokevirtual 126, 3) := by decide +kernel
theorem dX9_crossIn_28 : decode cX9_crossIn 28 = .ok (.aload_n 0, 1) := by decide +kernel
theorem dX9_crossIn_29 : decode cX9_crossIn 29 = .ok (.getfield 7, 3) := by decide +kernel
theorem dX9_crossIn_32 : decode cX9_crossIn 32 = .ok (.iload_n 1, 1) := by decide +kernel
theorem dX9_crossIn_33 : decode cX9_crossIn 33 = .ok (.iconst 1, 1) := by decide +kernel
theorem dX9_crossIn_34 : decode cX9_crossIn 34 = .ok (.iadd, 1) := by decide +kernel
theorem dX9_crossIn_35 : decode cX9_crossIn 35 = .ok (.iaload, 1) := by decide +kernel
theorem dX9_crossIn_36 : decode cX9_crossIn 36 = .ok (.invokevirtual 129, 3) := by decide +kernel
theorem dX9_crossIn_39 : decode cX9_crossIn 39 = .ok (.ireturn, 1) := by decide +kernel
theorem dX9_passes_0 : decode cX9_passes 0 = .ok (.iconst 0, 1) := by decide +kernel
theorem dX9_passes_1 : decode cX9_passes 1 = .ok (.istore_n 2, 1) := by decide +kernel
theorem dX9_passes_2 : decode cX9_passes 2 = .ok (.iconst 0, 1) := by decide +kernel
theorem dX9_passes_3 : decode cX9_passes 3 = .ok (.istore_n 3, 1) := by decide +kernel
theorem dX9_passes_4 : decode cX9_passes 4 = .ok (.iload_n 3, 1) := by decide +kernel
theorem dX9_passes_5 : decode cX9_passes 5 = .ok (.aload_n 0, 1) := by decide +kernel
theorem dX9_passes_6 : decode cX9_passes 6 = .ok (.getfield 7, 3) := by decide +kernel
theorem dX9_passes_9 : decode cX9_passes 9 = .ok (.iload_n 1, 1) := by decide +kernel
theorem dX9_passes_10 : decode cX9_passes 10 = .ok (.iconst 0, 1) := by decide +kernel
theorem dX9_passes_11 : decode cX9_passes 11 = .ok (.iadd, 1) := by decide +kernel
theorem dX9_passes_12 : decode cX9_passes 12 = .ok (.iaload, 1) := by decide +kernel
theorem dX9_passes_13 : decode cX9_passes 13 = .ok (.if_icmp .ge 102, 3) := by decide +kernel
theorem dX9_passes_16 : decode cX9_passes 16 = .ok (.aload_n 0, 1) := by decide +kernel
theorem dX9_passes_17 : decode cX9_passes 17 = .ok (.iload_n 1, 1) := by decide +kernel
theorem dX9_passes_18 : decode cX9_passes 18 = .ok (.iload_n 3, 1) := by decide +kernel
theorem dX9_passes_19 : decode cX9_passes 19 = .ok (.invokevirtual 133, 3) := by decide +kernel
theorem dX9_passes_22 : decode cX9_passes 22 = .ok (.istore 4, 2) := by decide +kernel
theorem dX9_passes_24 : decode cX9_passes 24 = .ok (.aload_n 0, 1) := by decide +kernel
theorem dX9_passes_25 : decode cX9_passes 25 = .ok (.getfield 7, 3) := by decide +kernel
theorem dX9_passes_28 : decode cX9_passes 28 = .ok (.iload_n 1, 1) := by decide +kernel
theorem dX9_passes_29 : decode cX9_passes 29 = .ok (.bipush 27, 2) := by decide +kernel
theorem dX9_passes_31 : decode cX9_passes 31 = .ok (.iadd, 1) := by decide +kernel
theorem dX9_passes_32 : decode cX9_passes 32 = .ok (.iload_n 3, 1) := by decide +kernel
theorem dX9_passes_33 : decode cX9_passes 33 = .ok (.iadd, 1) := by decide +kernel
theorem dX9_passes_34 : decode cX9_passes 34 = .ok (.iaload, 1) := by decide +kernel
theorem dX9_passes_35 : decode cX9_passes 35 = .ok (.iload 4, 2) := by decide +kernel
theorem dX9_passes_37 : decode cX9_passes 37 = .ok (.iadd, 1) := by decide +kernel
theorem dX9_passes_38 : decode cX9_passes 38 = .ok (.istore 5, 2) := by decide +kernel
theorem dX9_passes_40 : decode cX9_passes 40 = .ok (.aload_n 0, 1) := by decide +kernel
theorem dX9_passes_41 : decode cX9_passes 41 = .ok (.getfield 7, 3) := by decide +kernel
theorem dX9_passes_44 : decode cX9_passes 44 = .ok (.iload_n 1, 1) := by decide +kernel
theorem dX9_passes_45 : decode cX9_passes 45 = .ok (.bipush 27, 2) := by decide +kernel
theorem dX9_passes_47 : decode cX9_passes 47 = .ok (.iadd, 1) := by decide +kernel
theorem dX9_passes_48 : decode cX9_passes 48 = .ok (.iload_n 3, 1) := by decide +kernel
theorem dX9_passes_49 : decode cX9_passes 49 = .ok (.iadd, 1) := by decide +kernel
theorem dX9_passes_50 : decode cX9_passes 50 = .ok (.iload 5, 2) := by decide +kernel
theorem dX9_passes_52 : decode cX9_passes 52 = .ok (.bipush 99, 2) := by decide +kernel
theorem dX9_passes_54 : decode cX9_passes 54 = .ok (.if_icmp .le 8, 3) := by decide +kernel
theorem dX9_passes_57 : decode cX9_passes 57 = .ok (.bipush 99, 2) := by decide +kernel
theorem dX9_passes_59 : decode cX9_passes 59 = .ok (.goto 5, 3) := by decide +kernel
theorem dX9_passes_62 : decode cX9_passes 62 = .ok (.iload 5, 2) := by decide +kernel
theorem dX9_passes_64 : decode cX9_passes 64 = .ok (.iastore, 1) := by decide +kernel
theorem dX9_passes_65 : decode cX9_passes 65 = .ok (.aload_n 0, 1) := by decide +kernel
theorem dX9_passes_66 : decode cX9_passes 66 = .ok (.getfield 7, 3) := by decide +kernel
theorem dX9_passes_69 : decode cX9_passes 69 = .ok (.iload_n 1, 1) := by decide +kernel
theorem dX9_passes_70 : decode cX9_passes 70 = .ok (.bipush 21, 2) := by decide +kernel
theorem dX9_passes_72 : decode cX9_passes 72 = .ok (.iadd, 1) := by decide +kernel
theorem dX9_passes_73 : decode cX9_passes 73 = .ok (.iload_n 3, 1) := by decide +kernel
theorem dX9_passes_74 : decode cX9_passes 74 = .ok (.iadd, 1) := by decide +kernel
theorem dX9_passes_75 : decode cX9_passes 75 = .ok (.dup2, 1) := by decide +kernel
theorem dX9_passes_76 : decode cX9_passes 76 = .ok (.iaload, 1) := by decide +kernel
theorem dX9_passes_77 : decode cX9_passes 77 = .ok (.iload 4, 2) := by decide +kernel
theorem dX9_passes_79 : decode cX9_passes 79 = .ok (.iconst 3, 1) := by decide +kernel
theorem dX9_passes_80 : decode cX9_passes 80 = .ok (.if_icmp .lt 21, 3) := by decide +kernel
theorem dX9_passes_83 : decode cX9_passes 83 = .ok (.aload_n 0, 1) := by decide +kernel
theorem dX9_passes_84 : decode cX9_passes 84 = .ok (.getfield 7, 3) := by decide +kernel
theorem dX9_passes_87 : decode cX9_passes 87 = .ok (.iload_n 1, 1) := by decide +kernel
theorem dX9_passes_88 : decode cX9_passes 88 = .ok (.bipush 21, 2) := by decide +kernel
theorem dX9_passes_90 : decode cX9_passes 90 = .ok (.iadd, 1) := by decide +kernel
theorem dX9_passes_91 : decode cX9_passes 91 = .ok (.iload_n 3, 1) := by decide +kernel
theorem dX9_passes_92 : decode cX9_passes 92 = .ok (.iadd, 1) := by decide +kernel
theorem dX9_passes_93 : decode cX9_passes 93 = .ok (.iaload, 1) := by decide +kernel
theorem dX9_passes_94 : decode cX9_passes 94 = .ok (.ifCond .le 7, 3) := by decide +kernel
theorem dX9_passes_97 : decode cX9_passes 97 = .ok (.iconst 1, 1) := by decide +kernel
theorem dX9_passes_98 : decode cX9_passes 98 = .ok (.goto 4, 3) := by decide +kernel
theorem dX9_passes_101 : decode cX9_passes 101 = .ok (.iconst 0, 1) := by decide +kernel
theorem dX9_passes_102 : decode cX9_passes 102 = .ok (.isub, 1) := by decide +kernel
theorem dX9_passes_103 : decode cX9_passes 103 = .ok (.iastore, 1) := by decide +kernel
theorem dX9_passes_104 : decode cX9_passes 104 = .ok (.iload_n 2, 1) := by decide +kernel
theorem dX9_passes_105 : decode cX9_passes 105 = .ok (.iload 4, 2) := by decide +kernel
theorem dX9_passes_107 : decode cX9_passes 107 = .ok (.iadd, 1) := by decide +kernel
theorem dX9_passes_108 : decode cX9_passes 108 = .ok (.istore_n 2, 1) := by decide +kernel
theorem dX9_passes_109 : decode cX9_passes 109 = .ok (.iinc 3 1, 3) := by decide +kernel
theorem dX9_passes_112 : decode cX9_passes 112 = .ok (.goto (-108), 3) := by decide +kernel
theorem dX9_passes_115 : decode cX9_passes 115 = .ok (.aload_n 0, 1) := by decide +kernel
theorem dX9_passes_116 : decode cX9_passes 116 = .ok (.getfield 7, 3) := by decide +kernel
theorem dX9_passes_119 : decode cX9_passes 119 = .ok (.iload_n 1, 1) := by decide +kernel
theorem dX9_passes_120 : decode cX9_passes 120 = .ok (.iconst 1, 1) := by decide +kernel
theorem dX9_passes_121 : decode cX9_passes 121 = .ok (.iadd, 1) := by decide +kernel
theorem dX9_passes_122 : decode cX9_passes 122 = .ok (.dup2, 1) := by decide +kernel
theorem dX9_passes_123 : decode cX9_passes 123 = .ok (.iaload, 1) := by decide +kernel
theorem dX9_passes_124 : decode cX9_passes 124 = .ok (.iconst 1, 1) := by decide +kernel
theorem dX9_passes_125 : decode cX9_passes 125 = .ok (.iadd, 1) := by decide +kernel
theorem dX9_passes_126 : decode cX9_passes 126 = .ok (.iastore, 1) := by decide +kernel
theorem dX9_passes_127 : decode cX9_passes 127 = .ok (.iload_n 2, 1) := by decide +kernel
theorem dX9_passes_128 : decode cX9_passes 128 = .ok (.ireturn, 1) := by decide +kernel
theorem dX9_isDue_0 : decode cX9_isDue 0 = .ok (.aload_n 0, 1) := by decide +kernel
theorem dX9_isDue_1 : decode cX9_isDue 1 = .ok (.getfield 7, 3) := by decide +kernel
theorem dX9_isDue_4 : decode cX9_isDue 4 = .ok (.iload_n 1, 1) := by decide +kernel
theorem dX9_isDue_5 : decode cX9_isDue 5 = .ok (.bipush 27, 2) := by decide +kernel
theorem dX9_isDue_7 : decode cX9_isDue 7 = .ok (.iadd, 1) := by decide +kernel
theorem dX9_isDue_8 : decode cX9_isDue 8 = .ok (.iload_n 2, 1) := by decide +kernel
theorem dX9_isDue_9 : decode cX9_isDue 9 = .ok (.iadd, 1) := by decide +kernel
theorem dX9_isDue_10 : decode cX9_isDue 10 = .ok (.iaload, 1) := by decide +kernel
theorem dX9_isDue_11 : decode cX9_isDue 11 = .ok (.aload_n 0, 1) := by decide +kernel
theorem dX9_isDue_12 : decode cX9_isDue 12 = .ok (.getfield 7, 3) := by decide +kernel
theorem dX9_isDue_15 : decode cX9_isDue 15 = .ok (.iload_n 1, 1) := by decide +kernel
theorem dX9_isDue_16 : decode cX9_isDue 16 = .ok (.bipush 43, 2) := by decide +kernel
theorem dX9_isDue_18 : decode cX9_isDue 18 = .ok (.iadd, 1) := by decide +kernel
theorem dX9_isDue_19 : decode cX9_isDue 19 = .ok (.iaload, 1) := by decide +kernel
theorem dX9_isDue_20 : decode cX9_isDue 20 = .ok (.if_icmp .lt 7, 3) := by decide +kernel
theorem dX9_isDue_23 : decode cX9_isDue 23 = .ok (.iconst 1, 1) := by decide +kernel
theorem dX9_isDue_24 : decode cX9_isDue 24 = .ok (.goto 4, 3) := by decide +kernel
theorem dX9_isDue_27 : decode cX9_isDue 27 = .ok (.iconst 0, 1) := by decide +kernel
theorem dX9_isDue_28 : decode cX9_isDue 28 = .ok (.ireturn, 1) := by decide +kernel
theorem dX9_inspects_0 : decode cX9_inspects 0 = .ok (.aload_n 0, 1) := by decide +kernel
theorem dX9_inspects_1 : decode cX9_inspects 1 = .ok (.iload_n 1, 1) := by decide +kernel
theorem dX9_inspects_2 : decode cX9_inspects 2 = .ok (.iload_n 2, 1) := by decide +kernel
theorem dX9_inspects_3 : decode cX9_inspects 3 = .ok (.invokevirtual 136, 3) := by decide +kernel
theorem dX9_inspects_6 : decode cX9_inspects 6 = .ok (.ifCond .ne 5, 3) := by decide +kernel
theorem dX9_inspects_9 : decode cX9_inspects 9 = .ok (.iconst 0, 1) := by decide +kernel
theorem dX9_inspects_10 : decode cX9_inspects 10 = .ok (.ireturn, 1) := by decide +kernel
theorem dX9_inspects_11 : decode cX9_inspects 11 = .ok (.aload_n 0, 1) := by decide +kernel
theorem dX9_inspects_12 : decode cX9_inspects 12 = .ok (.getfield 7, 3) := by decide +kernel
theorem dX9_inspects_15 : decode cX9_inspects 15 = .ok (.iload_n 1, 1) := by decide +kernel
theorem dX9_inspects_16 : decode cX9_inspects 16 = .ok (.bipush 27, 2) := by decide +kernel
theorem dX9_inspects_18 : decode cX9_inspects 18 = .ok (.iadd, 1) := by decide +kernel
theorem dX9_inspects_19 : decode cX9_inspects 19 = .ok (.iload_n 2, 1) := by decide +kernel
theorem dX9_inspects_20 : decode cX9_inspects 20 = .ok (.iadd, 1) := by decide +kernel
theorem dX9_inspects_21 : decode cX9_inspects 21 = .ok (.iaload, 1) := by decide +kernel
theorem dX9_inspects_22 : decode cX9_inspects 22 = .ok (.istore_n 3, 1) := by decide +kernel
theorem dX9_inspects_23 : decode cX9_inspects 23 = .ok (.aload_n 0, 1) := by decide +kernel
theorem dX9_inspects_24 : decode cX9_inspects 24 = .ok (.getfield 7, 3) := by decide +kernel
theorem dX9_inspects_27 : decode cX9_inspects 27 = .ok (.iload_n 1, 1) := by decide +kernel
theorem dX9_inspects_28 : decode cX9_inspects 28 = .ok (.bipush 27, 2) := by decide +kernel
theorem dX9_inspects_30 : decode cX9_inspects 30 = .ok (.iadd, 1) := by decide +kernel
theorem dX9_inspects_31 : decode cX9_inspects 31 = .ok (.iload_n 2, 1) := by decide +kernel
theorem dX9_inspects_32 : decode cX9_inspects 32 = .ok (.iadd, 1) := by decide +kernel
theorem dX9_inspects_33 : decode cX9_inspects 33 = .ok (.iconst 0, 1) := by decide +kernel
theorem dX9_inspects_34 : decode cX9_inspects 34 = .ok (.iastore, 1) := by decide +kernel
theorem dX9_inspects_35 : decode cX9_inspects 35 = .ok (.aload_n 0, 1) := by decide +kernel
theorem dX9_inspects_36 : decode cX9_inspects 36 = .ok (.getfield 7, 3) := by decide +kernel
theorem dX9_inspects_39 : decode cX9_inspects 39 = .ok (.iload_n 1, 1) := by decide +kernel
theorem dX9_inspects_40 : decode cX9_inspects 40 = .ok (.bipush 21, 2) := by decide +kernel
theorem dX9_inspects_42 : decode cX9_inspects 42 = .ok (.iadd, 1) := by decide +kernel
theorem dX9_inspects_43 : decode cX9_inspects 43 = .ok (.iload_n 2, 1) := by decide +kernel
theorem dX9_inspects_44 : decode cX9_inspects 44 = .ok (.iadd, 1) := by decide +kernel
theorem dX9_inspects_45 : decode cX9_inspects 45 = .ok (.bipush 9, 2) := by decide +kernel
theorem dX9_inspects_47 : decode cX9_inspects 47 = .ok (.iastore, 1) := by decide +kernel
theorem dX9_inspects_48 : decode cX9_inspects 48 = .ok (.aload_n 0, 1) := by decide +kernel
theorem dX9_inspects_49 : decode cX9_inspects 49 = .ok (.getfield 7, 3) := by decide +kernel
theorem dX9_inspects_52 : decode cX9_inspects 52 = .ok (.iload_n 1, 1) := by decide +kernel
theorem dX9_inspects_53 : decode cX9_inspects 53 = .ok (.bipush 33, 2) := by decide +kernel
theorem dX9_inspects_55 : decode cX9_inspects 55 = .ok (.iadd, 1) := by decide +kernel
theorem dX9_inspects_56 : decode cX9_inspects 56 = .ok (.iload_n 2, 1) := by decide +kernel
theorem dX9_inspects_57 : decode cX9_inspects 57 = .ok (.iadd, 1) := by decide +kernel
theorem dX9_inspects_58 : decode cX9_inspects 58 = .ok (.dup2, 1) := by decide +kernel
theorem dX9_inspects_59 : decode cX9_inspects 59 = .ok (.iaload, 1) := by decide +kernel
theorem dX9_inspects_60 : decode cX9_inspects 60 = .ok (.iconst 1, 1) := by decide +kernel
theorem dX9_inspects_61 : decode cX9_inspects 61 = .ok (.iadd, 1) := by decide +kernel
theorem dX9_inspects_62 : decode cX9_inspects 62 = .ok (.iastore, 1) := by decide +kernel
theorem dX9_inspects_63 : decode cX9_inspects 63 = .ok (.aload_n 0, 1) := by decide +kernel
theorem dX9_inspects_64 : decode cX9_inspects 64 = .ok (.getfield 7, 3) := by decide +kernel
theorem dX9_inspects_67 : decode cX9_inspects 67 = .ok (.iload_n 1, 1) := by decide +kernel
theorem dX9_inspects_68 : decode cX9_inspects 68 = .ok (.iconst 2, 1) := by decide +kernel
theorem dX9_inspects_69 : decode cX9_inspects 69 = .ok (.iadd, 1) := by decide +kernel
theorem dX9_inspects_70 : decode cX9_inspects 70 = .ok (.dup2, 1) := by decide +kernel
theorem dX9_inspects_71 : decode cX9_inspects 71 = .ok (.iaload, 1) := by decide +kernel
theorem dX9_inspects_72 : decode cX9_inspects 72 = .ok (.iconst 1, 1) := by decide +kernel
theorem dX9_inspects_73 : decode cX9_inspects 73 = .ok (.iadd, 1) := by decide +kernel
theorem dX9_inspects_74 : decode cX9_inspects 74 = .ok (.iastore, 1) := by decide +kernel
theorem dX9_inspects_75 : decode cX9_inspects 75 = .ok (.iload_n 3, 1) := by decide +kernel
theorem dX9_inspects_76 : decode cX9_inspects 76 = .ok (.ireturn, 1) := by decide +kernel
theorem dX9_bedTells_0 : decode cX9_bedTells 0 = .ok (.iload_n 2, 1) := by decide +kernel
theorem dX9_bedTells_1 : decode cX9_bedTells 1 = .ok (.tableswitch 120 0 6 #[43, 52, 62, 72, 82, 92, 99], 43) := by decide +kernel
theorem dX9_bedTells_44 : decode cX9_bedTells 44 = .ok (.aload_n 0, 1) := by decide +kernel
theorem dX9_bedTells_45 : decode cX9_bedTells 45 = .ok (.getfield 7, 3) := by decide +kernel
theorem dX9_bedTells_48 : decode cX9_bedTells 48 = .ok (.iconst 3, 1) := by decide +kernel
theorem dX9_bedTells_49 : decode cX9_bedTells 49 = .ok (.iload_n 1, 1) := by decide +kernel
theorem dX9_bedTells_50 : decode cX9_bedTells 50 = .ok (.iadd, 1) := by decide +kernel
theorem dX9_bedTells_51 : decode cX9_bedTells 51 = .ok (.iaload, 1) := by decide +kernel
theorem dX9_bedTells_52 : decode cX9_bedTells 52 = .ok (.ireturn, 1) := by decide +kernel
theorem dX9_bedTells_53 : decode cX9_bedTells 53 = .ok (.aload_n 0, 1) := by decide +kernel
theorem dX9_bedTells_54 : decode cX9_bedTells 54 = .ok (.getfield 7, 3) := by decide +kernel
theorem dX9_bedTells_57 : decode cX9_bedTells 57 = .ok (.bipush 9, 2) := by decide +kernel
theorem dX9_bedTells_59 : decode cX9_bedTells 59 = .ok (.iload_n 1, 1) := by decide +kernel
theorem dX9_bedTells_60 : decode cX9_bedTells 60 = .ok (.iadd, 1) := by decide +kernel
theorem dX9_bedTells_61 : decode cX9_bedTells 61 = .ok (.iaload, 1) := by decide +kernel
theorem dX9_bedTells_62 : decode cX9_bedTells 62 = .ok (.ireturn, 1) := by decide +kernel
theorem dX9_bedTells_63 : decode cX9_bedTells 63 = .ok (.aload_n 0, 1) := by decide +kernel
theorem dX9_bedTells_64 : decode cX9_bedTells 64 = .ok (.getfield 7, 3) := by decide +kernel
theorem dX9_bedTells_67 : decode cX9_bedTells 67 = .ok (.bipush 15, 2) := by decide +kernel
theorem dX9_bedTells_69 : decode cX9_bedTells 69 = .ok (.iload_n 1, 1) := by decide +kernel
theorem dX9_bedTells_70 : decode cX9_bedTells 70 = .ok (.iadd, 1) := by decide +kernel
theorem dX9_bedTells_71 : decode cX9_bedTells 71 = .ok (.iaload, 1) := by decide +kernel
theorem dX9_bedTells_72 : decode cX9_bedTells 72 = .ok (.ireturn, 1) := by decide +kernel
theorem dX9_bedTells_73 : decode cX9_bedTells 73 = .ok (.aload_n 0, 1) := by decide +kernel
theorem dX9_bedTells_74 : decode cX9_bedTells 74 = .ok (.getfield 7, 3) := by decide +kernel
theorem dX9_bedTells_77 : decode cX9_bedTells 77 = .ok (.bipush 21, 2) := by decide +kernel
theorem dX9_bedTells_79 : decode cX9_bedTells 79 = .ok (.iload_n 1, 1) := by decide +kernel
theorem dX9_bedTells_80 : decode cX9_bedTells 80 = .ok (.iadd, 1) := by decide +kernel
theorem dX9_bedTells_81 : decode cX9_bedTells 81 = .ok (.iaload, 1) := by decide +kernel
theorem dX9_bedTells_82 : decode cX9_bedTells 82 = .ok (.ireturn, 1) := by decide +kernel
theorem dX9_bedTells_83 : decode cX9_bedTells 83 = .ok (.aload_n 0, 1) := by decide +kernel
theorem dX9_bedTells_84 : decode cX9_bedTells 84 = .ok (.getfield 7, 3) := by decide +kernel
theorem dX9_bedTells_87 : decode cX9_bedTells 87 = .ok (.bipush 27, 2) := by decide +kernel
theorem dX9_bedTells_89 : decode cX9_bedTells 89 = .ok (.iload_n 1, 1) := by decide +kernel
theorem dX9_bedTells_90 : decode cX9_bedTells 90 = .ok (.iadd, 1) := by decide +kernel
theorem dX9_bedTells_91 : decode cX9_bedTells 91 = .ok (.iaload, 1) := by decide +kernel
theorem dX9_bedTells_92 : decode cX9_bedTells 92 = .ok (.ireturn, 1) := by decide +kernel
theorem dX9_bedTells_93 : decode cX9_bedTells 93 = .ok (.aload_n 0, 1) := by decide +kernel
theorem dX9_bedTells_94 : decode cX9_bedTells 94 = .ok (.iconst 0, 1) := by decide +kernel
theorem dX9_bedTells_95 : decode cX9_bedTells 95 = .ok (.iload_n 1, 1) := by decide +kernel
theorem dX9_bedTells_96 : decode cX9_bedTells 96 = .ok (.invokevirtual 133, 3) := by decide +kernel
theorem dX9_bedTells_99 : decode cX9_bedTells 99 = .ok (.ireturn, 1) := by decide +kernel
theorem dX9_bedTells_100 : decode cX9_bedTells 100 = .ok (.aload_n 0, 1) := by decide +kernel
theorem dX9_bedTells_101 : decode cX9_bedTells 101 = .ok (.getfield 7, 3) := by decide +kernel
theorem dX9_bedTells_104 : decode cX9_bedTells 104 = .ok (.iconst 3, 1) := by decide +kernel
theorem dX9_bedTells_105 : decode cX9_bedTells 105 = .ok (.iload_n 1, 1) := by decide +kernel
theorem dX9_bedTells_106 : decode cX9_bedTells 106 = .ok (.iadd, 1) := by decide +kernel
theorem dX9_bedTells_107 : decode cX9_bedTells 107 = .ok (.iaload, 1) := by decide +kernel
theorem dX9_bedTells_108 : decode cX9_bedTells 108 = .ok (.aload_n 0, 1) := by decide +kernel
theorem dX9_bedTells_109 : decode cX9_bedTells 109 = .ok (.getfield 7, 3) := by decide +kernel
theorem dX9_bedTells_112 : decode cX9_bedTells 112 = .ok (.bipush 21, 2) := by decide +kernel
theorem dX9_bedTells_114 : decode cX9_bedTells 114 = .ok (.iload_n 1, 1) := by decide +kernel
theorem dX9_bedTells_115 : decode cX9_bedTells 115 = .ok (.iadd, 1) := by decide +kernel
theorem dX9_bedTells_116 : decode cX9_bedTells 116 = .ok (.iaload, 1) := by decide +kernel
theorem dX9_bedTells_117 : decode cX9_bedTells 117 = .ok (.invokestatic 120, 3) := by decide +kernel
theorem dX9_bedTells_120 : decode cX9_bedTells 120 = .ok (.ireturn, 1) := by decide +kernel
theorem dX9_bedTells_121 : decode cX9_bedTells 121 = .ok (.aload_n 0, 1) := by decide +kernel
theorem dX9_bedTells_122 : decode cX9_bedTells 122 = .ok (.getfield 7, 3) := by decide +kernel
theorem dX9_bedTells_125 : decode cX9_bedTells 125 = .ok (.bipush 33, 2) := by decide +kernel
theorem dX9_bedTells_127 : decode cX9_bedTells 127 = .ok (.iload_n 1, 1) := by decide +kernel
theorem dX9_bedTells_128 : decode cX9_bedTells 128 = .ok (.iadd, 1) := by decide +kernel
theorem dX9_bedTells_129 : decode cX9_bedTells 129 = .ok (.iaload, 1) := by decide +kernel
theorem dX9_bedTells_130 : decode cX9_bedTells 130 = .ok (.ireturn, 1) := by decide +kernel
theorem dX9_bed_0 : decode cX9_bed 0 = .ok (.aload_n 0, 1) := by decide +kernel
theorem dX9_bed_1 : decode cX9_bed 1 = .ok (.iload_n 1, 1) := by decide +kernel
theorem dX9_bed_2 : decode cX9_bed 2 = .ok (.invokevirtual 140, 3) := by decide +kernel
theorem dX9_bed_5 : decode cX9_bed 5 = .ok (.ifCond .eq 29, 3) := by decide +kernel
theorem dX9_bed_8 : decode cX9_bed 8 = .ok (.iload_n 2, 1) := by decide +kernel
theorem dX9_bed_9 : decode cX9_bed 9 = .ok (.i2l, 1) := by decide +kernel
theorem dX9_bed_10 : decode cX9_bed 10 = .ok (.lconst 0, 1) := by decide +kernel
theorem dX9_bed_11 : decode cX9_bed 11 = .ok (.ldc2_w 143, 3) := by decide +kernel
theorem dX9_bed_14 : decode cX9_bed 14 = .ok (.invokestatic 53, 3) := by decide +kernel
theorem dX9_bed_17 : decode cX9_bed 17 = .ok (.ifCond .eq 17, 3) := by decide +kernel
theorem dX9_bed_20 : decode cX9_bed 20 = .ok (.aload_n 0, 1) := by decide +kernel
theorem dX9_bed_21 : decode cX9_bed 21 = .ok (.aload_n 0, 1) := by decide +kernel
theorem dX9_bed_22 : decode cX9_bed 22 = .ok (.iload_n 1, 1) := by decide +kernel
theorem dX9_bed_23 : decode cX9_bed 23 = .ok (.iload_n 2, 1) := by decide +kernel
theorem dX9_bed_24 : decode cX9_bed 24 = .ok (.invokevirtual 145, 3) := by decide +kernel
theorem dX9_bed_27 : decode cX9_bed 27 = .ok (.iconst 1, 1) := by decide +kernel
theorem dX9_bed_28 : decode cX9_bed 28 = .ok (.invokevirtual 75, 3) := by decide +kernel
theorem dX9_bed_31 : decode cX9_bed 31 = .ok (.goto 4, 3) := by decide +kernel
theorem dX9_bed_34 : decode cX9_bed 34 = .ok (.iconst (-1), 1) := by decide +kernel
theorem dX9_bed_35 : decode cX9_bed 35 = .ok (.ireturn, 1) := by decide +kernel
theorem dX9_crossAs_0 : decode cX9_crossAs 0 = .ok (.aload_n 0, 1) := by decide +kernel
theorem dX9_crossAs_1 : decode cX9_crossAs 1 = .ok (.iload_n 2, 1) := by decide +kernel
theorem dX9_crossAs_2 : decode cX9_crossAs 2 = .ok (.aload_n 0, 1) := by decide +kernel
theorem dX9_crossAs_3 : decode cX9_crossAs 3 = .ok (.getfield 7, 3) := by decide +kernel
theorem dX9_crossAs_6 : decode cX9_crossAs 6 = .ok (.bipush 21, 2) := by decide +kernel
theorem dX9_crossAs_8 : decode cX9_crossAs 8 = .ok (.iload_n 1, 1) := by decide +kernel
theorem dX9_crossAs_9 : decode cX9_crossAs 9 = .ok (.iadd, 1) := by decide +kernel
theorem dX9_crossAs_10 : decode cX9_crossAs 10 = .ok (.iaload, 1) := by decide +kernel
theorem dX9_crossAs_11 : decode cX9_crossAs 11 = .ok (.aload_n 0, 1) := by decide +kernel
theorem dX9_crossAs_12 : decode cX9_crossAs 12 = .ok (.iconst 0, 1) := by decide +kernel
theorem dX9_crossAs_13 : decode cX9_crossAs 13 = .ok (.iload_n 1, 1) := by decide +kernel
theorem dX9_crossAs_14 : decode cX9_crossAs 14 = .ok (.invokevirtual 126, 3) := by decide +kernel
theorem dX9_crossAs_17 : decode cX9_crossAs 17 = .ok (.aload_n 0, 1) := by decide +kernel
theorem dX9_crossAs_18 : decode cX9_crossAs 18 = .ok (.getfield 7, 3) := by decide +kernel
theorem dX9_crossAs_21 : decode cX9_crossAs 21 = .ok (.iconst 1, 1) := by decide +kernel
theorem dX9_crossAs_22 : decode cX9_crossAs 22 = .ok (.iaload, 1) := by decide +kernel
theorem dX9_crossAs_23 : decode cX9_crossAs 23 = .ok (.invokevirtual 129, 3) := by decide +kernel
theorem dX9_crossAs_26 : decode cX9_crossAs 26 = .ok (.ireturn, 1) := by decide +kernel
theorem dX9_mark_0 : decode cX9_mark 0 = .ok (.aload_n 0, 1) := by decide +kernel
theorem dX9_mark_1 : decode cX9_mark 1 = .ok (.iload_n 1, 1) := by decide +kernel
theorem dX9_mark_2 : decode cX9_mark 2 = .ok (.invokevirtual 140, 3) := by decide +kernel
theorem dX9_mark_5 : decode cX9_mark 5 = .ok (.ifCond .eq 15, 3) := by decide +kernel
theorem dX9_mark_8 : decode cX9_mark 8 = .ok (.iload_n 2, 1) := by decide +kernel
theorem dX9_mark_9 : decode cX9_mark 9 = .ok (.i2l, 1) := by decide +kernel
theorem dX9_mark_10 : decode cX9_mark 10 = .ok (.lconst 1, 1) := by decide +kernel
theorem dX9_mark_11 : decode cX9_mark 11 = .ok (.ldc2_w 51, 3) := by decide +kernel
theorem dX9_mark_14 : decode cX9_mark 14 = .ok (.invokestatic 53, 3) := by decide +kernel
theorem dX9_mark_17 : decode cX9_mark 17 = .ok (.ifCond .ne 5, 3) := by decide +kernel
theorem dX9_mark_20 : decode cX9_mark 20 = .ok (.iconst (-1), 1) := by decide +kernel
theorem dX9_mark_21 : decode cX9_mark 21 = .ok (.ireturn, 1) := by decide +kernel
theorem dX9_mark_22 : decode cX9_mark 22 = .ok (.aload_n 0, 1) := by decide +kernel
theorem dX9_mark_23 : decode cX9_mark 23 = .ok (.getfield 7, 3) := by decide +kernel
theorem dX9_mark_26 : decode cX9_mark 26 = .ok (.iconst 3, 1) := by decide +kernel
theorem dX9_mark_27 : decode cX9_mark 27 = .ok (.iload_n 1, 1) := by decide +kernel
theorem dX9_mark_28 : decode cX9_mark 28 = .ok (.iadd, 1) := by decide +kernel
theorem dX9_mark_29 : decode cX9_mark 29 = .ok (.iaload, 1) := by decide +kernel
theorem dX9_mark_30 : decode cX9_mark 30 = .ok (.istore_n 3, 1) := by decide +kernel
theorem dX9_mark_31 : decode cX9_mark 31 = .ok (.iload_n 2, 1) := by decide +kernel
theorem dX9_mark_32 : decode cX9_mark 32 = .ok (.iload_n 3, 1) := by decide +kernel
theorem dX9_mark_33 : decode cX9_mark 33 = .ok (.if_icmp .eq 23, 3) := by decide +kernel
theorem dX9_mark_36 : decode cX9_mark 36 = .ok (.iload_n 2, 1) := by decide +kernel
theorem dX9_mark_37 : decode cX9_mark 37 = .ok (.iconst 1, 1) := by decide +kernel
theorem dX9_mark_38 : decode cX9_mark 38 = .ok (.if_icmp .ne 8, 3) := by decide +kernel
theorem dX9_mark_41 : decode cX9_mark 41 = .ok (.iload_n 3, 1) := by decide +kernel
theorem dX9_mark_42 : decode cX9_mark 42 = .ok (.iconst 5, 1) := by decide +kernel
theorem dX9_mark_43 : decode cX9_mark 43 = .ok (.if_icmp .eq 13, 3) := by decide +kernel
theorem dX9_mark_46 : decode cX9_mark 46 = .ok (.iload_n 2, 1) := by decide +kernel
theorem dX9_mark_47 : decode cX9_mark 47 = .ok (.iconst 2, 1) := by decide +kernel
theorem dX9_mark_48 : decode cX9_mark 48 = .ok (.if_icmp .ne 12, 3) := by decide +kernel
theorem dX9_mark_51 : decode cX9_mark 51 = .ok (.iload_n 3, 1) := by decide +kernel
theorem dX9_mark_52 : decode cX9_mark 52 = .ok (.iconst 4, 1) := by decide +kernel
theorem dX9_mark_53 : decode cX9_mark 53 = .ok (.if_icmp .ne 7, 3) := by decide +kernel
theorem dX9_mark_56 : decode cX9_mark 56 = .ok (.iconst 1, 1) := by decide +kernel
theorem dX9_mark_57 : decode cX9_mark 57 = .ok (.goto 4, 3) := by decide +kernel
theorem dX9_mark_60 : decode cX9_mark 60 = .ok (.iconst 0, 1) := by decide +kernel
theorem dX9_mark_61 : decode cX9_mark 61 = .ok (.istore 4, 2) := by decide +kernel
theorem dX9_mark_63 : decode cX9_mark 63 = .ok (.iload 4, 2) := by decide +kernel
theorem dX9_mark_65 : decode cX9_mark 65 = .ok (.ifCond .ne 9, 3) := by decide +kernel
theorem dX9_mark_68 : decode cX9_mark 68 = .ok (.aload_n 0, 1) := by decide +kernel
theorem dX9_mark_69 : decode cX9_mark 69 = .ok (.iconst 3, 1) := by decide +kernel
theorem dX9_mark_70 : decode cX9_mark 70 = .ok (.invokevirtual 63, 3) := by decide +kernel
theorem dX9_mark_73 : decode cX9_mark 73 = .ok (.ireturn, 1) := by decide +kernel
theorem dX9_mark_74 : decode cX9_mark 74 = .ok (.iload_n 2, 1) := by decide +kernel
theorem dX9_mark_75 : decode cX9_mark 75 = .ok (.tableswitch 90 1 4 #[29, 43, 67, 76], 29) := by decide +kernel
theorem dX9_mark_104 : decode cX9_mark 104 = .ok (.aload_n 0, 1) := by decide +kernel
theorem dX9_mark_105 : decode cX9_mark 105 = .ok (.iload_n 1, 1) := by decide +kernel
theorem dX9_mark_106 : decode cX9_mark 106 = .ok (.iconst 0, 1) := by decide +kernel
theorem dX9_mark_107 : decode cX9_mark 107 = .ok (.invokevirtual 148, 3) := by decide +kernel
theorem dX9_mark_110 : decode cX9_mark 110 = .ok (.aload_n 0, 1) := by decide +kernel
theorem dX9_mark_111 : decode cX9_mark 111 = .ok (.iconst 0, 1) := by decide +kernel
theorem dX9_mark_112 : decode cX9_mark 112 = .ok (.iload_n 1, 1) := by decide +kernel
theorem dX9_mark_113 : decode cX9_mark 113 = .ok (.invokevirtual 133, 3) := by decide +kernel
theorem dX9_mark_116 : decode cX9_mark 116 = .ok (.isub, 1) := by decide +kernel
theorem dX9_mark_117 : decode cX9_mark 117 = .ok (.ireturn, 1) := by decide +kernel
theorem dX9_mark_118 : decode cX9_mark 118 = .ok (.aload_n 0, 1) := by decide +kernel
theorem dX9_mark_119 : decode cX9_mark 119 = .ok (.getfield 7, 3) := by decide +kernel
theorem dX9_mark_122 : decode cX9_mark 122 = .ok (.bipush 21, 2) := by decide +kernel
theorem dX9_mark_124 : decode cX9_mark 124 = .ok (.iload_n 1, 1) := by decide +kernel
theorem dX9_mark_125 : decode cX9_mark 125 = .ok (.iadd, 1) := by decide +kernel
theorem dX9_mark_126 : decode cX9_mark 126 = .ok (.iaload, 1) := by decide +kernel
theorem dX9_mark_127 : decode cX9_mark 127 = .ok (.iload_n 3, 1) := by decide +kernel
theorem dX9_mark_128 : decode cX9_mark 128 = .ok (.aload_n 0, 1) := by decide +kernel
theorem dX9_mark_129 : decode cX9_mark 129 = .ok (.getfield 7, 3) := by decide +kernel
theorem dX9_mark_132 : decode cX9_mark 132 = .ok (.bipush 21, 2) := by decide +kernel
theorem dX9_mark_134 : decode cX9_mark 134 = .ok (.iload_n 1, 1) := by decide +kernel
theorem dX9_mark_135 : decode cX9_mark 135 = .ok (.iadd, 1) := by decide +kernel
theorem dX9_mark_136 : decode cX9_mark 136 = .ok (.iaload, 1) := by decide +kernel
theorem dX9_mark_137 : decode cX9_mark 137 = .ok (.invokestatic 120, 3) := by decide +kernel
theorem dX9_mark_140 : decode cX9_mark 140 = .ok (.isub, 1) := by decide +kernel
theorem dX9_mark_141 : decode cX9_mark 141 = .ok (.ireturn, 1) := by decide +kernel
theorem dX9_mark_142 : decode cX9_mark 142 = .ok (.aload_n 0, 1) := by decide +kernel
theorem dX9_mark_143 : decode cX9_mark 143 = .ok (.getfield 7, 3) := by decide +kernel
theorem dX9_mark_146 : decode cX9_mark 146 = .ok (.iconst 1, 1) := by decide +kernel
theorem dX9_mark_147 : decode cX9_mark 147 = .ok (.iaload, 1) := by decide +kernel
theorem dX9_mark_148 : decode cX9_mark 148 = .ok (.iconst 2, 1) := by decide +kernel
theorem dX9_mark_149 : decode cX9_mark 149 = .ok (.irem, 1) := by decide +kernel
theorem dX9_mark_150 : decode cX9_mark 150 = .ok (.ireturn, 1) := by decide +kernel
theorem dX9_mark_151 : decode cX9_mark 151 = .ok (.aload_n 0, 1) := by decide +kernel
theorem dX9_mark_152 : decode cX9_mark 152 = .ok (.iconst 0, 1) := by decide +kernel
theorem dX9_mark_153 : decode cX9_mark 153 = .ok (.iload_n 1, 1) := by decide +kernel
theorem dX9_mark_154 : decode cX9_mark 154 = .ok (.invokevirtual 133, 3) := by decide +kernel
theorem dX9_mark_157 : decode cX9_mark 157 = .ok (.aload_n 0, 1) := by decide +kernel
theorem dX9_mark_158 : decode cX9_mark 158 = .ok (.iload_n 1, 1) := by decide +kernel
theorem dX9_mark_159 : decode cX9_mark 159 = .ok (.iconst 2, 1) := by decide +kernel
theorem dX9_mark_160 : decode cX9_mark 160 = .ok (.invokevirtual 148, 3) := by decide +kernel
theorem dX9_mark_163 : decode cX9_mark 163 = .ok (.isub, 1) := by decide +kernel
theorem dX9_mark_164 : decode cX9_mark 164 = .ok (.ireturn, 1) := by decide +kernel
theorem dX9_mark_165 : decode cX9_mark 165 = .ok (.aload_n 0, 1) := by decide +kernel
theorem dX9_mark_166 : decode cX9_mark 166 = .ok (.iload_n 1, 1) := by decide +kernel
theorem dX9_mark_167 : decode cX9_mark 167 = .ok (.iconst 1, 1) := by decide +kernel
theorem dX9_mark_168 : decode cX9_mark 168 = .ok (.invokevirtual 148, 3) := by decide +kernel
theorem dX9_mark_171 : decode cX9_mark 171 = .ok (.aload_n 0, 1) := by decide +kernel
theorem dX9_mark_172 : decode cX9_mark 172 = .ok (.iconst 0, 1) := by decide +kernel
theorem dX9_mark_173 : decode cX9_mark 173 = .ok (.iload_n 1, 1) := by decide +kernel
theorem dX9_mark_174 : decode cX9_mark 174 = .ok (.invokevirtual 133, 3) := by decide +kernel
theorem dX9_mark_177 : decode cX9_mark 177 = .ok (.isub, 1) := by decide +kernel
theorem dX9_mark_178 : decode cX9_mark 178 = .ok (.ireturn, 1) := by decide +kernel
theorem dX9_cross_0 : decode cX9_cross 0 = .ok (.aload_n 0, 1) := by decide +kernel
theorem dX9_cross_1 : decode cX9_cross 1 = .ok (.iload_n 1, 1) := by decide +kernel
theorem dX9_cross_2 : decode cX9_cross 2 = .ok (.invokevirtual 140, 3) := by decide +kernel
theorem dX9_cross_5 : decode cX9_cross 5 = .ok (.ifCond .eq 46, 3) := by decide +kernel
theorem dX9_cross_8 : decode cX9_cross 8 = .ok (.iload_n 2, 1) := by decide +kernel
theorem dX9_cross_9 : decode cX9_cross 9 = .ok (.i2l, 1) := by decide +kernel
theorem dX9_cross_10 : decode cX9_cross 10 = .ok (.lconst 0, 1) := by decide +kernel
theorem dX9_cross_11 : decode cX9_cross 11 = .ok (.ldc2_w 151, 3) := by decide +kernel
theorem dX9_cross_14 : decode cX9_cross 14 = .ok (.invokestatic 53, 3) := by decide +kernel
theorem dX9_cross_17 : decode cX9_cross 17 = .ok (.ifCond .eq 34, 3) := by decide +kernel
theorem dX9_cross_20 : decode cX9_cross 20 = .ok (.aload_n 0, 1) := by decide +kernel
theorem dX9_cross_21 : decode cX9_cross 21 = .ok (.aload_n 0, 1) := by decide +kernel
theorem dX9_cross_22 : decode cX9_cross 22 = .ok (.getfield 7, 3) := by decide +kernel
theorem dX9_cross_25 : decode cX9_cross 25 = .ok (.iconst 3, 1) := by decide +kernel
theorem dX9_cross_26 : decode cX9_cross 26 = .ok (.iload_n 1, 1) := by decide +kernel
theorem dX9_cross_27 : decode cX9_cross 27 = .ok (.iadd, 1) := by decide +kernel
theorem dX9_cross_28 : decode cX9_cross 28 = .ok (.iaload, 1) := by decide +kernel
theorem dX9_cross_29 : decode cX9_cross 29 = .ok (.aload_n 0, 1) := by decide +kernel
theorem dX9_cross_30 : decode cX9_cross 30 = .ok (.getfield 7, 3) := by decide +kernel
theorem dX9_cross_33 : decode cX9_cross 33 = .ok (.bipush 21, 2) := by decide +kernel
theorem dX9_cross_35 : decode cX9_cross 35 = .ok (.iload_n 1, 1) := by decide +kernel
theorem dX9_cross_36 : decode cX9_cross 36 = .ok (.iadd, 1) := by decide +kernel
theorem dX9_cross_37 : decode cX9_cross 37 = .ok (.iaload, 1) := by decide +kernel
theorem dX9_cross_38 : decode cX9_cross 38 = .ok (.aload_n 0, 1) := by decide +kernel
theorem dX9_cross_39 : decode cX9_cross 39 = .ok (.iconst 0, 1) := by decide +kernel
theorem dX9_cross_40 : decode cX9_cross 40 = .ok (.iload_n 1, 1) := by decide +kernel
theorem dX9_cross_41 : decode cX9_cross 41 = .ok (.invokevirtual 126, 3) := by decide +kernel
theorem dX9_cross_44 : decode cX9_cross 44 = .ok (.iload_n 2, 1) := by decide +kernel
theorem dX9_cross_45 : decode cX9_cross 45 = .ok (.invokevirtual 129, 3) := by decide +kernel
theorem dX9_cross_48 : decode cX9_cross 48 = .ok (.goto 4, 3) := by decide +kernel
theorem dX9_cross_51 : decode cX9_cross 51 = .ok (.iconst (-1), 1) := by decide +kernel
theorem dX9_cross_52 : decode cX9_cross 52 = .ok (.ireturn, 1) := by decide +kernel
theorem dX9_minds_0 : decode cX9_minds 0 = .ok (.aload_n 0, 1) := by decide +kernel
theorem dX9_minds_1 : decode cX9_minds 1 = .ok (.iconst 0, 1) := by decide +kernel
theorem dX9_minds_2 : decode cX9_minds 2 = .ok (.bipush 44, 2) := by decide +kernel
theorem dX9_minds_4 : decode cX9_minds 4 = .ok (.iconst 1, 1) := by decide +kernel
theorem dX9_minds_5 : decode cX9_minds 5 = .ok (.aload_n 0, 1) := by decide +kernel
theorem dX9_minds_6 : decode cX9_minds 6 = .ok (.getfield 117, 3) := by decide +kernel
theorem dX9_minds_9 : decode cX9_minds 9 = .ok (.iadd, 1) := by decide +kernel
theorem dX9_minds_10 : decode cX9_minds 10 = .ok (.imul, 1) := by decide +kernel
theorem dX9_minds_11 : decode cX9_minds 11 = .ok (.bipush 44, 2) := by decide +kernel
theorem dX9_minds_13 : decode cX9_minds 13 = .ok (.invokevirtual 113, 3) := by decide +kernel
theorem dX9_minds_16 : decode cX9_minds 16 = .ok (.aload_n 0, 1) := by decide +kernel
theorem dX9_minds_17 : decode cX9_minds 17 = .ok (.dup, 1) := by decide +kernel
theorem dX9_minds_18 : decode cX9_minds 18 = .ok (.getfield 117, 3) := by decide +kernel
theorem dX9_minds_21 : decode cX9_minds 21 = .ok (.iconst 1, 1) := by decide +kernel
theorem dX9_minds_22 : decode cX9_minds 22 = .ok (.iadd, 1) := by decide +kernel
theorem dX9_minds_23 : decode cX9_minds 23 = .ok (.putfield 117, 3) := by decide +kernel
theorem dX9_minds_26 : decode cX9_minds 26 = .ok (.return_, 1) := by decide +kernel
theorem dX9_night_0 : decode cX9_night 0 = .ok (.aload_n 0, 1) := by decide +kernel
theorem dX9_night_1 : decode cX9_night 1 = .ok (.invokevirtual 153, 3) := by decide +kernel
theorem dX9_night_4 : decode cX9_night 4 = .ok (.ifCond .ne 6, 3) := by decide +kernel
theorem dX9_night_7 : decode cX9_night 7 = .ok (.bipush (-4), 2) := by decide +kernel
theorem dX9_night_9 : decode cX9_night 9 = .ok (.ireturn, 1) := by decide +kernel
theorem dX9_night_10 : decode cX9_night 10 = .ok (.aload_n 0, 1) := by decide +kernel
theorem dX9_night_11 : decode cX9_night 11 = .ok (.getfield 117, 3) := by decide +kernel
theorem dX9_night_14 : decode cX9_night 14 = .ok (.bipush 40, 2) := by decide +kernel
theorem dX9_night_16 : decode cX9_night 16 = .ok (.if_icmp .ne 6, 3) := by decide +kernel
theorem dX9_night_19 : decode cX9_night 19 = .ok (.bipush (-2), 2) := by decide +kernel
theorem dX9_night_21 : decode cX9_night 21 = .ok (.ireturn, 1) := by decide +kernel
theorem dX9_night_22 : decode cX9_night 22 = .ok (.aload_n 0, 1) := by decide +kernel
theorem dX9_night_23 : decode cX9_night 23 = .ok (.invokevirtual 157, 3) := by decide +kernel
theorem dX9_night_26 : decode cX9_night 26 = .ok (.aload_n 0, 1) := by decide +kernel
theorem dX9_night_27 : decode cX9_night 27 = .ok (.iconst 0, 1) := by decide +kernel
theorem dX9_night_28 : decode cX9_night 28 = .ok (.invokevirtual 160, 3) := by decide +kernel
theorem dX9_night_31 : decode cX9_night 31 = .ok (.ireturn, 1) := by decide +kernel
theorem dX9_inspect_0 : decode cX9_inspect 0 = .ok (.aload_n 0, 1) := by decide +kernel
theorem dX9_inspect_1 : decode cX9_inspect 1 = .ok (.iload_n 1, 1) := by decide +kernel
theorem dX9_inspect_2 : decode cX9_inspect 2 = .ok (.invokevirtual 140, 3) := by decide +kernel
theorem dX9_inspect_5 : decode cX9_inspect 5 = .ok (.ifCond .ne 5, 3) := by decide +kernel
theorem dX9_inspect_8 : decode cX9_inspect 8 = .ok (.iconst (-1), 1) := by decide +kernel
theorem dX9_inspect_9 : decode cX9_inspect 9 = .ok (.ireturn, 1) := by decide +kernel
theorem dX9_inspect_10 : decode cX9_inspect 10 = .ok (.aload_n 0, 1) := by decide +kernel
theorem dX9_inspect_11 : decode cX9_inspect 11 = .ok (.getfield 117, 3) := by decide +kernel
theorem dX9_inspect_14 : decode cX9_inspect 14 = .ok (.bipush 40, 2) := by decide +kernel
theorem dX9_inspect_16 : decode cX9_inspect 16 = .ok (.if_icmp .ne 6, 3) := by decide +kernel
theorem dX9_inspect_19 : decode cX9_inspect 19 = .ok (.bipush (-2), 2) := by decide +kernel
theorem dX9_inspect_21 : decode cX9_inspect 21 = .ok (.ireturn, 1) := by decide +kernel
theorem dX9_inspect_22 : decode cX9_inspect 22 = .ok (.aload_n 0, 1) := by decide +kernel
theorem dX9_inspect_23 : decode cX9_inspect 23 = .ok (.invokevirtual 157, 3) := by decide +kernel
theorem dX9_inspect_26 : decode cX9_inspect 26 = .ok (.aload_n 0, 1) := by decide +kernel
theorem dX9_inspect_27 : decode cX9_inspect 27 = .ok (.iconst 0, 1) := by decide +kernel
theorem dX9_inspect_28 : decode cX9_inspect 28 = .ok (.iload_n 1, 1) := by decide +kernel
theorem dX9_inspect_29 : decode cX9_inspect 29 = .ok (.invokevirtual 163, 3) := by decide +kernel
theorem dX9_inspect_32 : decode cX9_inspect 32 = .ok (.ireturn, 1) := by decide +kernel
theorem dX9_thin_0 : decode cX9_thin 0 = .ok (.aload_n 0, 1) := by decide +kernel
theorem dX9_thin_1 : decode cX9_thin 1 = .ok (.iload_n 1, 1) := by decide +kernel
theorem dX9_thin_2 : decode cX9_thin 2 = .ok (.invokevirtual 140, 3) := by decide +kernel
theorem dX9_thin_5 : decode cX9_thin 5 = .ok (.ifCond .ne 5, 3) := by decide +kernel
theorem dX9_thin_8 : decode cX9_thin 8 = .ok (.iconst (-1), 1) := by decide +kernel
theorem dX9_thin_9 : decode cX9_thin 9 = .ok (.ireturn, 1) := by decide +kernel
theorem dX9_thin_10 : decode cX9_thin 10 = .ok (.aload_n 0, 1) := by decide +kernel
theorem dX9_thin_11 : decode cX9_thin 11 = .ok (.getfield 7, 3) := by decide +kernel
theorem dX9_thin_14 : decode cX9_thin 14 = .ok (.bipush 21, 2) := by decide +kernel
theorem dX9_thin_16 : decode cX9_thin 16 = .ok (.iload_n 1, 1) := by decide +kernel
theorem dX9_thin_17 : decode cX9_thin 17 = .ok (.iadd, 1) := by decide +kernel
theorem dX9_thin_18 : decode cX9_thin 18 = .ok (.iaload, 1) := by decide +kernel
theorem dX9_thin_19 : decode cX9_thin 19 = .ok (.ifCond .ne 6, 3) := by decide +kernel
theorem dX9_thin_22 : decode cX9_thin 22 = .ok (.bipush (-4), 2) := by decide +kernel
theorem dX9_thin_24 : decode cX9_thin 24 = .ok (.ireturn, 1) := by decide +kernel
theorem dX9_thin_25 : decode cX9_thin 25 = .ok (.aload_n 0, 1) := by decide +kernel
theorem dX9_thin_26 : decode cX9_thin 26 = .ok (.getfield 117, 3) := by decide +kernel
theorem dX9_thin_29 : decode cX9_thin 29 = .ok (.bipush 40, 2) := by decide +kernel
theorem dX9_thin_31 : decode cX9_thin 31 = .ok (.if_icmp .ne 6, 3) := by decide +kernel
theorem dX9_thin_34 : decode cX9_thin 34 = .ok (.bipush (-2), 2) := by decide +kernel
theorem dX9_thin_36 : decode cX9_thin 36 = .ok (.ireturn, 1) := by decide +kernel
theorem dX9_thin_37 : decode cX9_thin 37 = .ok (.aload_n 0, 1) := by decide +kernel
theorem dX9_thin_38 : decode cX9_thin 38 = .ok (.invokevirtual 157, 3) := by decide +kernel
theorem dX9_thin_41 : decode cX9_thin 41 = .ok (.aload_n 0, 1) := by decide +kernel
theorem dX9_thin_42 : decode cX9_thin 42 = .ok (.getfield 7, 3) := by decide +kernel
theorem dX9_thin_45 : decode cX9_thin 45 = .ok (.bipush 21, 2) := by decide +kernel
theorem dX9_thin_47 : decode cX9_thin 47 = .ok (.iload_n 1, 1) := by decide +kernel
theorem dX9_thin_48 : decode cX9_thin 48 = .ok (.iadd, 1) := by decide +kernel
theorem dX9_thin_49 : decode cX9_thin 49 = .ok (.dup2, 1) := by decide +kernel
theorem dX9_thin_50 : decode cX9_thin 50 = .ok (.iaload, 1) := by decide +kernel
theorem dX9_thin_51 : decode cX9_thin 51 = .ok (.iconst 1, 1) := by decide +kernel
theorem dX9_thin_52 : decode cX9_thin 52 = .ok (.isub, 1) := by decide +kernel
theorem dX9_thin_53 : decode cX9_thin 53 = .ok (.iastore, 1) := by decide +kernel
theorem dX9_thin_54 : decode cX9_thin 54 = .ok (.aload_n 0, 1) := by decide +kernel
theorem dX9_thin_55 : decode cX9_thin 55 = .ok (.getfield 7, 3) := by decide +kernel
theorem dX9_thin_58 : decode cX9_thin 58 = .ok (.bipush 21, 2) := by decide +kernel
theorem dX9_thin_60 : decode cX9_thin 60 = .ok (.iload_n 1, 1) := by decide +kernel
theorem dX9_thin_61 : decode cX9_thin 61 = .ok (.iadd, 1) := by decide +kernel
theorem dX9_thin_62 : decode cX9_thin 62 = .ok (.iaload, 1) := by decide +kernel
theorem dX9_thin_63 : decode cX9_thin 63 = .ok (.ireturn, 1) := by decide +kernel
theorem dX9_swap_0 : decode cX9_swap 0 = .ok (.aload_n 0, 1) := by decide +kernel
theorem dX9_swap_1 : decode cX9_swap 1 = .ok (.iload_n 1, 1) := by decide +kernel
theorem dX9_swap_2 : decode cX9_swap 2 = .ok (.invokevirtual 140, 3) := by decide +kernel
theorem dX9_swap_5 : decode cX9_swap 5 = .ok (.ifCond .eq 16, 3) := by decide +kernel
theorem dX9_swap_8 : decode cX9_swap 8 = .ok (.aload_n 0, 1) := by decide +kernel
theorem dX9_swap_9 : decode cX9_swap 9 = .ok (.iload_n 2, 1) := by decide +kernel
theorem dX9_swap_10 : decode cX9_swap 10 = .ok (.invokevirtual 140, 3) := by decide +kernel
theorem dX9_swap_13 : decode cX9_swap 13 = .ok (.ifCond .eq 8, 3) := by decide +kernel
theorem dX9_swap_16 : decode cX9_swap 16 = .ok (.iload_n 1, 1) := by decide +kernel
theorem dX9_swap_17 : decode cX9_swap 17 = .ok (.iload_n 2, 1) := by decide +kernel
theorem dX9_swap_18 : decode cX9_swap 18 = .ok (.if_icmp .ne 5, 3) := by decide +kernel
theorem dX9_swap_21 : decode cX9_swap 21 = .ok (.iconst (-1), 1) := by decide +kernel
theorem dX9_swap_22 : decode cX9_swap 22 = .ok (.ireturn, 1) := by decide +kernel
theorem dX9_swap_23 : decode cX9_swap 23 = .ok (.aload_n 0, 1) := by decide +kernel
theorem dX9_swap_24 : decode cX9_swap 24 = .ok (.getfield 117, 3) := by decide +kernel
theorem dX9_swap_27 : decode cX9_swap 27 = .ok (.bipush 40, 2) := by decide +kernel
theorem dX9_swap_29 : decode cX9_swap 29 = .ok (.if_icmp .ne 6, 3) := by decide +kernel
theorem dX9_swap_32 : decode cX9_swap 32 = .ok (.bipush (-2), 2) := by decide +kernel
theorem dX9_swap_34 : decode cX9_swap 34 = .ok (.ireturn, 1) := by decide +kernel
theorem dX9_swap_35 : decode cX9_swap 35 = .ok (.aload_n 0, 1) := by decide +kernel
theorem dX9_swap_36 : decode cX9_swap 36 = .ok (.invokevirtual 157, 3) := by decide +kernel
theorem dX9_swap_39 : decode cX9_swap 39 = .ok (.aload_n 0, 1) := by decide +kernel
theorem dX9_swap_40 : decode cX9_swap 40 = .ok (.getfield 7, 3) := by decide +kernel
theorem dX9_swap_43 : decode cX9_swap 43 = .ok (.bipush 15, 2) := by decide +kernel
theorem dX9_swap_45 : decode cX9_swap 45 = .ok (.iload_n 1, 1) := by decide +kernel
theorem dX9_swap_46 : decode cX9_swap 46 = .ok (.iadd, 1) := by decide +kernel
theorem dX9_swap_47 : decode cX9_swap 47 = .ok (.iaload, 1) := by decide +kernel
theorem dX9_swap_48 : decode cX9_swap 48 = .ok (.istore_n 3, 1) := by decide +kernel
theorem dX9_swap_49 : decode cX9_swap 49 = .ok (.aload_n 0, 1) := by decide +kernel
theorem dX9_swap_50 : decode cX9_swap 50 = .ok (.getfield 7, 3) := by decide +kernel
theorem dX9_swap_53 : decode cX9_swap 53 = .ok (.bipush 15, 2) := by decide +kernel
theorem dX9_swap_55 : decode cX9_swap 55 = .ok (.iload_n 1, 1) := by decide +kernel
theorem dX9_swap_56 : decode cX9_swap 56 = .ok (.iadd, 1) := by decide +kernel
theorem dX9_swap_57 : decode cX9_swap 57 = .ok (.aload_n 0, 1) := by decide +kernel
theorem dX9_swap_58 : decode cX9_swap 58 = .ok (.getfield 7, 3) := by decide +kernel
theorem dX9_swap_61 : decode cX9_swap 61 = .ok (.bipush 15, 2) := by decide +kernel
theorem dX9_swap_63 : decode cX9_swap 63 = .ok (.iload_n 2, 1) := by decide +kernel
theorem dX9_swap_64 : decode cX9_swap 64 = .ok (.iadd, 1) := by decide +kernel
theorem dX9_swap_65 : decode cX9_swap 65 = .ok (.iaload, 1) := by decide +kernel
theorem dX9_swap_66 : decode cX9_swap 66 = .ok (.iastore, 1) := by decide +kernel
theorem dX9_swap_67 : decode cX9_swap 67 = .ok (.aload_n 0, 1) := by decide +kernel
theorem dX9_swap_68 : decode cX9_swap 68 = .ok (.getfield 7, 3) := by decide +kernel
theorem dX9_swap_71 : decode cX9_swap 71 = .ok (.bipush 15, 2) := by decide +kernel
theorem dX9_swap_73 : decode cX9_swap 73 = .ok (.iload_n 2, 1) := by decide +kernel
theorem dX9_swap_74 : decode cX9_swap 74 = .ok (.iadd, 1) := by decide +kernel
theorem dX9_swap_75 : decode cX9_swap 75 = .ok (.iload_n 3, 1) := by decide +kernel
theorem dX9_swap_76 : decode cX9_swap 76 = .ok (.iastore, 1) := by decide +kernel
theorem dX9_swap_77 : decode cX9_swap 77 = .ok (.aload_n 0, 1) := by decide +kernel
theorem dX9_swap_78 : decode cX9_swap 78 = .ok (.iconst 0, 1) := by decide +kernel
theorem dX9_swap_79 : decode cX9_swap 79 = .ok (.iload_n 1, 1) := by decide +kernel
theorem dX9_swap_80 : decode cX9_swap 80 = .ok (.invokevirtual 126, 3) := by decide +kernel
theorem dX9_swap_83 : decode cX9_swap 83 = .ok (.ireturn, 1) := by decide +kernel
theorem dX9_undo_0 : decode cX9_undo 0 = .ok (.iload_n 1, 1) := by decide +kernel
theorem dX9_undo_1 : decode cX9_undo 1 = .ok (.i2l, 1) := by decide +kernel
theorem dX9_undo_2 : decode cX9_undo 2 = .ok (.lconst 0, 1) := by decide +kernel
theorem dX9_undo_3 : decode cX9_undo 3 = .ok (.aload_n 0, 1) := by decide +kernel
theorem dX9_undo_4 : decode cX9_undo 4 = .ok (.getfield 117, 3) := by decide +kernel
theorem dX9_undo_7 : decode cX9_undo 7 = .ok (.i2l, 1) := by decide +kernel
theorem dX9_undo_8 : decode cX9_undo 8 = .ok (.invokestatic 53, 3) := by decide +kernel
theorem dX9_undo_11 : decode cX9_undo 11 = .ok (.ifCond .ne 5, 3) := by decide +kernel
theorem dX9_undo_14 : decode cX9_undo 14 = .ok (.iconst (-1), 1) := by decide +kernel
theorem dX9_undo_15 : decode cX9_undo 15 = .ok (.ireturn, 1) := by decide +kernel
theorem dX9_undo_16 : decode cX9_undo 16 = .ok (.aload_n 0, 1) := by decide +kernel
theorem dX9_undo_17 : decode cX9_undo 17 = .ok (.getfield 117, 3) := by decide +kernel
theorem dX9_undo_20 : decode cX9_undo 20 = .ok (.iload_n 1, 1) := by decide +kernel
theorem dX9_undo_21 : decode cX9_undo 21 = .ok (.isub, 1) := by decide +kernel
theorem dX9_undo_22 : decode cX9_undo 22 = .ok (.istore_n 2, 1) := by decide +kernel
theorem dX9_undo_23 : decode cX9_undo 23 = .ok (.iload_n 2, 1) := by decide +kernel
theorem dX9_undo_24 : decode cX9_undo 24 = .ok (.ifCond .le 21, 3) := by decide +kernel
theorem dX9_undo_27 : decode cX9_undo 27 = .ok (.aload_n 0, 1) := by decide +kernel
theorem dX9_undo_28 : decode cX9_undo 28 = .ok (.bipush 44, 2) := by decide +kernel
theorem dX9_undo_30 : decode cX9_undo 30 = .ok (.iconst 1, 1) := by decide +kernel
theorem dX9_undo_31 : decode cX9_undo 31 = .ok (.iload_n 1, 1) := by decide +kernel
theorem dX9_undo_32 : decode cX9_undo 32 = .ok (.iadd, 1) := by decide +kernel
theorem dX9_undo_33 : decode cX9_undo 33 = .ok (.imul, 1) := by decide +kernel
theorem dX9_undo_34 : decode cX9_undo 34 = .ok (.iconst 0, 1) := by decide +kernel
theorem dX9_undo_35 : decode cX9_undo 35 = .ok (.bipush 44, 2) := by decide +kernel
theorem dX9_undo_37 : decode cX9_undo 37 = .ok (.invokevirtual 113, 3) := by decide +kernel
theorem dX9_undo_40 : decode cX9_undo 40 = .ok (.aload_n 0, 1) := by decide +kernel
theorem dX9_undo_41 : decode cX9_undo 41 = .ok (.iload_n 1, 1) := by decide +kernel
theorem dX9_undo_42 : decode cX9_undo 42 = .ok (.putfield 117, 3) := by decide +kernel
theorem dX9_undo_45 : decode cX9_undo 45 = .ok (.iload_n 2, 1) := by decide +kernel
theorem dX9_undo_46 : decode cX9_undo 46 = .ok (.ireturn, 1) := by decide +kernel
theorem dX9_isKept_0 : decode cX9_isKept 0 = .ok (.iload_n 0, 1) := by decide +kernel
theorem dX9_isKept_1 : decode cX9_isKept 1 = .ok (.i2l, 1) := by decide +kernel
theorem dX9_isKept_2 : decode cX9_isKept 2 = .ok (.lconst 0, 1) := by decide +kernel
theorem dX9_isKept_3 : decode cX9_isKept 3 = .ok (.ldc2_w 166, 3) := by decide +kernel
theorem dX9_isKept_6 : decode cX9_isKept 6 = .ok (.invokestatic 53, 3) := by decide +kernel
theorem dX9_isKept_9 : decode cX9_isKept 9 = .ok (.ireturn, 1) := by decide +kernel
theorem dX9_keep_0 : decode cX9_keep 0 = .ok (.iload_n 1, 1) := by decide +kernel
theorem dX9_keep_1 : decode cX9_keep 1 = .ok (.invokestatic 168, 3) := by decide +kernel
theorem dX9_keep_4 : decode cX9_keep 4 = .ok (.ifCond .ne 5, 3) := by decide +kernel
theorem dX9_keep_7 : decode cX9_keep 7 = .ok (.iconst (-1), 1) := by decide +kernel
theorem dX9_keep_8 : decode cX9_keep 8 = .ok (.ireturn, 1) := by decide +kernel
theorem dX9_keep_9 : decode cX9_keep 9 = .ok (.aload_n 0, 1) := by decide +kernel
theorem dX9_keep_10 : decode cX9_keep 10 = .ok (.invokevirtual 153, 3) := by decide +kernel
theorem dX9_keep_13 : decode cX9_keep 13 = .ok (.ifCond .ne 6, 3) := by decide +kernel
theorem dX9_keep_16 : decode cX9_keep 16 = .ok (.bipush (-4), 2) := by decide +kernel
theorem dX9_keep_18 : decode cX9_keep 18 = .ok (.ireturn, 1) := by decide +kernel
theorem dX9_keep_19 : decode cX9_keep 19 = .ok (.aload_n 0, 1) := by decide +kernel
theorem dX9_keep_20 : decode cX9_keep 20 = .ok (.iconst 0, 1) := by decide +kernel
theorem dX9_keep_21 : decode cX9_keep 21 = .ok (.sipush 1804, 3) := by decide +kernel
theorem dX9_keep_24 : decode cX9_keep 24 = .ok (.iconst 1, 1) := by decide +kernel
theorem dX9_keep_25 : decode cX9_keep 25 = .ok (.iload_n 1, 1) := by decide +kernel
theorem dX9_keep_26 : decode cX9_keep 26 = .ok (.iadd, 1) := by decide +kernel
theorem dX9_keep_27 : decode cX9_keep 27 = .ok (.imul, 1) := by decide +kernel
theorem dX9_keep_28 : decode cX9_keep 28 = .ok (.sipush 1804, 3) := by decide +kernel
theorem dX9_keep_31 : decode cX9_keep 31 = .ok (.invokevirtual 113, 3) := by decide +kernel
theorem dX9_keep_34 : decode cX9_keep 34 = .ok (.aload_n 0, 1) := by decide +kernel
theorem dX9_keep_35 : decode cX9_keep 35 = .ok (.getfield 13, 3) := by decide +kernel
theorem dX9_keep_38 : decode cX9_keep 38 = .ok (.iload_n 1, 1) := by decide +kernel
theorem dX9_keep_39 : decode cX9_keep 39 = .ok (.aload_n 0, 1) := by decide +kernel
theorem dX9_keep_40 : decode cX9_keep 40 = .ok (.getfield 117, 3) := by decide +kernel
theorem dX9_keep_43 : decode cX9_keep 43 = .ok (.iastore, 1) := by decide +kernel
theorem dX9_keep_44 : decode cX9_keep 44 = .ok (.aload_n 0, 1) := by decide +kernel
theorem dX9_keep_45 : decode cX9_keep 45 = .ok (.getfield 117, 3) := by decide +kernel
theorem dX9_keep_48 : decode cX9_keep 48 = .ok (.ireturn, 1) := by decide +kernel
theorem dX9_on_0 : decode cX9_on 0 = .ok (.iload_n 1, 1) := by decide +kernel
theorem dX9_on_1 : decode cX9_on 1 = .ok (.invokestatic 168, 3) := by decide +kernel
theorem dX9_on_4 : decode cX9_on 4 = .ok (.ifCond .ne 5, 3) := by decide +kernel
theorem dX9_on_7 : decode cX9_on 7 = .ok (.iconst (-1), 1) := by decide +kernel
theorem dX9_on_8 : decode cX9_on 8 = .ok (.ireturn, 1) := by decide +kernel
theorem dX9_on_9 : decode cX9_on 9 = .ok (.aload_n 0, 1) := by decide +kernel
theorem dX9_on_10 : decode cX9_on 10 = .ok (.getfield 13, 3) := by decide +kernel
theorem dX9_on_13 : decode cX9_on 13 = .ok (.iload_n 1, 1) := by decide +kernel
theorem dX9_on_14 : decode cX9_on 14 = .ok (.iaload, 1) := by decide +kernel
theorem dX9_on_15 : decode cX9_on 15 = .ok (.ifCond .ge 9, 3) := by decide +kernel
theorem dX9_on_18 : decode cX9_on 18 = .ok (.aload_n 0, 1) := by decide +kernel
theorem dX9_on_19 : decode cX9_on 19 = .ok (.iconst 1, 1) := by decide +kernel
theorem dX9_on_20 : decode cX9_on 20 = .ok (.invokevirtual 63, 3) := by decide +kernel
theorem dX9_on_23 : decode cX9_on 23 = .ok (.ireturn, 1) := by decide +kernel
theorem dX9_on_24 : decode cX9_on 24 = .ok (.aload_n 0, 1) := by decide +kernel
theorem dX9_on_25 : decode cX9_on 25 = .ok (.sipush 1804, 3) := by decide +kernel
theorem dX9_on_28 : decode cX9_on 28 = .ok (.iconst 1, 1) := by decide +kernel
theorem dX9_on_29 : decode cX9_on 29 = .ok (.iload_n 1, 1) := by decide +kernel
theorem dX9_on_30 : decode cX9_on 30 = .ok (.iadd, 1) := by decide +kernel
theorem dX9_on_31 : decode cX9_on 31 = .ok (.imul, 1) := by decide +kernel
theorem dX9_on_32 : decode cX9_on 32 = .ok (.iconst 0, 1) := by decide +kernel
theorem dX9_on_33 : decode cX9_on 33 = .ok (.sipush 1804, 3) := by decide +kernel
theorem dX9_on_36 : decode cX9_on 36 = .ok (.invokevirtual 113, 3) := by decide +kernel
theorem dX9_on_39 : decode cX9_on 39 = .ok (.aload_n 0, 1) := by decide +kernel
theorem dX9_on_40 : decode cX9_on 40 = .ok (.aload_n 0, 1) := by decide +kernel
theorem dX9_on_41 : decode cX9_on 41 = .ok (.getfield 13, 3) := by decide +kernel
theorem dX9_on_44 : decode cX9_on 44 = .ok (.iload_n 1, 1) := by decide +kernel
theorem dX9_on_45 : decode cX9_on 45 = .ok (.iaload, 1) := by decide +kernel
theorem dX9_on_46 : decode cX9_on 46 = .ok (.putfield 117, 3) := by decide +kernel
theorem dX9_on_49 : decode cX9_on 49 = .ok (.aload_n 0, 1) := by decide +kernel
theorem dX9_on_50 : decode cX9_on 50 = .ok (.getfield 117, 3) := by decide +kernel
theorem dX9_on_53 : decode cX9_on 53 = .ok (.ireturn, 1) := by decide +kernel
theorem dX9_tries_0 : decode cX9_tries 0 = .ok (.aload_n 0, 1) := by decide +kernel
theorem dX9_tries_1 : decode cX9_tries 1 = .ok (.iconst 0, 1) := by decide +kernel
theorem dX9_tries_2 : decode cX9_tries 2 = .ok (.sipush 7260, 3) := by decide +kernel
theorem dX9_tries_5 : decode cX9_tries 5 = .ok (.bipush 44, 2) := by decide +kernel
theorem dX9_tries_7 : decode cX9_tries 7 = .ok (.invokevirtual 113, 3) := by decide +kernel
theorem dX9_tries_10 : decode cX9_tries 10 = .ok (.return_, 1) := by decide +kernel
theorem dX9_triesNights_0 : decode cX9_triesNights 0 = .ok (.iconst 0, 1) := by decide +kernel
theorem dX9_triesNights_1 : decode cX9_triesNights 1 = .ok (.istore_n 2, 1) := by decide +kernel
theorem dX9_triesNights_2 : decode cX9_triesNights 2 = .ok (.iload_n 2, 1) := by decide +kernel
theorem dX9_triesNights_3 : decode cX9_triesNights 3 = .ok (.iload_n 1, 1) := by decide +kernel
theorem dX9_triesNights_4 : decode cX9_triesNights 4 = .ok (.if_icmp .ge 17, 3) := by decide +kernel
theorem dX9_triesNights_7 : decode cX9_triesNights 7 = .ok (.aload_n 0, 1) := by decide +kernel
theorem dX9_triesNights_8 : decode cX9_triesNights 8 = .ok (.sipush 7260, 3) := by decide +kernel
theorem dX9_triesNights_11 : decode cX9_triesNights 11 = .ok (.invokevirtual 160, 3) := by decide +kernel
theorem dX9_triesNights_14 : decode cX9_triesNights 14 = .ok (.pop, 1) := by decide +kernel
theorem dX9_triesNights_15 : decode cX9_triesNights 15 = .ok (.iinc 2 1, 3) := by decide +kernel
theorem dX9_triesNights_18 : decode cX9_triesNights 18 = .ok (.goto (-16), 3) := by decide +kernel
theorem dX9_triesNights_21 : decode cX9_triesNights 21 = .ok (.return_, 1) := by decide +kernel
theorem dX9_then_0 : decode cX9_then 0 = .ok (.aload_n 0, 1) := by decide +kernel
theorem dX9_then_1 : decode cX9_then 1 = .ok (.iload_n 1, 1) := by decide +kernel
theorem dX9_then_2 : decode cX9_then 2 = .ok (.invokevirtual 140, 3) := by decide +kernel
theorem dX9_then_5 : decode cX9_then 5 = .ok (.ifCond .eq 15, 3) := by decide +kernel
theorem dX9_then_8 : decode cX9_then 8 = .ok (.iload_n 2, 1) := by decide +kernel
theorem dX9_then_9 : decode cX9_then 9 = .ok (.i2l, 1) := by decide +kernel
theorem dX9_then_10 : decode cX9_then 10 = .ok (.lconst 0, 1) := by decide +kernel
theorem dX9_then_11 : decode cX9_then 11 = .ok (.ldc2_w 171, 3) := by decide +kernel
theorem dX9_then_14 : decode cX9_then 14 = .ok (.invokestatic 53, 3) := by decide +kernel
theorem dX9_then_17 : decode cX9_then 17 = .ok (.ifCond .ne 5, 3) := by decide +kernel
theorem dX9_then_20 : decode cX9_then 20 = .ok (.iconst (-1), 1) := by decide +kernel
theorem dX9_then_21 : decode cX9_then 21 = .ok (.ireturn, 1) := by decide +kernel
theorem dX9_then_22 : decode cX9_then 22 = .ok (.aload_n 0, 1) := by decide +kernel
theorem dX9_then_23 : decode cX9_then 23 = .ok (.invokevirtual 173, 3) := by decide +kernel
theorem dX9_then_26 : decode cX9_then 26 = .ok (.aload_n 0, 1) := by decide +kernel
theorem dX9_then_27 : decode cX9_then 27 = .ok (.iload_n 2, 1) := by decide +kernel
theorem dX9_then_28 : decode cX9_then 28 = .ok (.invokevirtual 176, 3) := by decide +kernel
theorem dX9_then_31 : decode cX9_then 31 = .ok (.aload_n 0, 1) := by decide +kernel
theorem dX9_then_32 : decode cX9_then 32 = .ok (.aload_n 0, 1) := by decide +kernel
theorem dX9_then_33 : decode cX9_then 33 = .ok (.getfield 7, 3) := by decide +kernel
theorem dX9_then_36 : decode cX9_then 36 = .ok (.sipush 7281, 3) := by decide +kernel
theorem dX9_then_39 : decode cX9_then 39 = .ok (.iload_n 1, 1) := by decide +kernel
theorem dX9_then_40 : decode cX9_then 40 = .ok (.iadd, 1) := by decide +kernel
theorem dX9_then_41 : decode cX9_then 41 = .ok (.iaload, 1) := by decide +kernel
theorem dX9_then_42 : decode cX9_then 42 = .ok (.aload_n 0, 1) := by decide +kernel
theorem dX9_then_43 : decode cX9_then 43 = .ok (.getfield 7, 3) := by decide +kernel
theorem dX9_then_46 : decode cX9_then 46 = .ok (.sipush 7287, 3) := by decide +kernel
theorem dX9_then_49 : decode cX9_then 49 = .ok (.iload_n 1, 1) := by decide +kernel
theorem dX9_then_50 : decode cX9_then 50 = .ok (.iadd, 1) := by decide +kernel
theorem dX9_then_51 : decode cX9_then 51 = .ok (.iaload, 1) := by decide +kernel
theorem dX9_then_52 : decode cX9_then 52 = .ok (.invokevirtual 75, 3) := by decide +kernel
theorem dX9_then_55 : decode cX9_then 55 = .ok (.ireturn, 1) := by decide +kernel
theorem dX9_when_0 : decode cX9_when 0 = .ok (.aload_n 0, 1) := by decide +kernel
theorem dX9_when_1 : decode cX9_when 1 = .ok (.iload_n 1, 1) := by decide +kernel
theorem dX9_when_2 : decode cX9_when 2 = .ok (.invokevirtual 140, 3) := by decide +kernel
theorem dX9_when_5 : decode cX9_when 5 = .ok (.ifCond .ne 5, 3) := by decide +kernel
theorem dX9_when_8 : decode cX9_when 8 = .ok (.iconst (-1), 1) := by decide +kernel
theorem dX9_when_9 : decode cX9_when 9 = .ok (.ireturn, 1) := by decide +kernel
theorem dX9_when_10 : decode cX9_when 10 = .ok (.aload_n 0, 1) := by decide +kernel
theorem dX9_when_11 : decode cX9_when 11 = .ok (.invokevirtual 173, 3) := by decide +kernel
theorem dX9_when_14 : decode cX9_when 14 = .ok (.iconst 0, 1) := by decide +kernel
theorem dX9_when_15 : decode cX9_when 15 = .ok (.istore_n 2, 1) := by decide +kernel
theorem dX9_when_16 : decode cX9_when 16 = .ok (.iload_n 2, 1) := by decide +kernel
theorem dX9_when_17 : decode cX9_when 17 = .ok (.bipush 40, 2) := by decide +kernel
theorem dX9_when_19 : decode cX9_when 19 = .ok (.if_icmp .gt 30, 3) := by decide +kernel
theorem dX9_when_22 : decode cX9_when 22 = .ok (.aload_n 0, 1) := by decide +kernel
theorem dX9_when_23 : decode cX9_when 23 = .ok (.sipush 7260, 3) := by decide +kernel
theorem dX9_when_26 : decode cX9_when 26 = .ok (.iload_n 1, 1) := by decide +kernel
theorem dX9_when_27 : decode cX9_when 27 = .ok (.invokevirtual 136, 3) := by decide +kernel
theorem dX9_when_30 : decode cX9_when 30 = .ok (.ifCond .eq 5, 3) := by decide +kernel
theorem dX9_when_33 : decode cX9_when 33 = .ok (.iload_n 2, 1) := by decide +kernel
theorem dX9_when_34 : decode cX9_when 34 = .ok (.ireturn, 1) := by decide +kernel
theorem dX9_when_35 : decode cX9_when 35 = .ok (.aload_n 0, 1) := by decide +kernel
theorem dX9_when_36 : decode cX9_when 36 = .ok (.sipush 7260, 3) := by decide +kernel
theorem dX9_when_39 : decode cX9_when 39 = .ok (.invokevirtual 160, 3) := by decide +kernel
theorem dX9_when_42 : decode cX9_when 42 = .ok (.pop, 1) := by decide +kernel
theorem dX9_when_43 : decode cX9_when 43 = .ok (.iinc 2 1, 3) := by decide +kernel
theorem dX9_when_46 : decode cX9_when 46 = .ok (.goto (-30), 3) := by decide +kernel
theorem dX9_when_49 : decode cX9_when 49 = .ok (.bipush (-9), 2) := by decide +kernel
theorem dX9_when_51 : decode cX9_when 51 = .ok (.ireturn, 1) := by decide +kernel
theorem dX9_least_0 : decode cX9_least 0 = .ok (.aload_n 0, 1) := by decide +kernel
theorem dX9_least_1 : decode cX9_least 1 = .ok (.iload_n 1, 1) := by decide +kernel
theorem dX9_least_2 : decode cX9_least 2 = .ok (.invokevirtual 140, 3) := by decide +kernel
theorem dX9_least_5 : decode cX9_least 5 = .ok (.ifCond .eq 15, 3) := by decide +kernel
theorem dX9_least_8 : decode cX9_least 8 = .ok (.iload_n 2, 1) := by decide +kernel
theorem dX9_least_9 : decode cX9_least 9 = .ok (.i2l, 1) := by decide +kernel
theorem dX9_least_10 : decode cX9_least 10 = .ok (.lconst 0, 1) := by decide +kernel
theorem dX9_least_11 : decode cX9_least 11 = .ok (.ldc2_w 171, 3) := by decide +kernel
theorem dX9_least_14 : decode cX9_least 14 = .ok (.invokestatic 53, 3) := by decide +kernel
theorem dX9_least_17 : decode cX9_least 17 = .ok (.ifCond .ne 5, 3) := by decide +kernel
theorem dX9_least_20 : decode cX9_least 20 = .ok (.iconst (-1), 1) := by decide +kernel
theorem dX9_least_21 : decode cX9_least 21 = .ok (.ireturn, 1) := by decide +kernel
theorem dX9_least_22 : decode cX9_least 22 = .ok (.iconst 0, 1) := by decide +kernel
theorem dX9_least_23 : decode cX9_least 23 = .ok (.istore_n 3, 1) := by decide +kernel
theorem dX9_least_24 : decode cX9_least 24 = .ok (.iload_n 3, 1) := by decide +kernel
theorem dX9_least_25 : decode cX9_least 25 = .ok (.aload_n 0, 1) := by decide +kernel
theorem dX9_least_26 : decode cX9_least 26 = .ok (.getfield 7, 3) := by decide +kernel
theorem dX9_least_29 : decode cX9_least 29 = .ok (.bipush 21, 2) := by decide +kernel
theorem dX9_least_31 : decode cX9_least 31 = .ok (.iload_n 1, 1) := by decide +kernel
theorem dX9_least_32 : decode cX9_least 32 = .ok (.iadd, 1) := by decide +kernel
theorem dX9_least_33 : decode cX9_least 33 = .ok (.iaload, 1) := by decide +kernel
theorem dX9_least_34 : decode cX9_least 34 = .ok (.if_icmp .gt 45, 3) := by decide +kernel
theorem dX9_least_37 : decode cX9_least 37 = .ok (.aload_n 0, 1) := by decide +kernel
theorem dX9_least_38 : decode cX9_least 38 = .ok (.invokevirtual 173, 3) := by decide +kernel
theorem dX9_least_41 : decode cX9_least 41 = .ok (.aload_n 0, 1) := by decide +kernel
theorem dX9_least_42 : decode cX9_least 42 = .ok (.getfield 7, 3) := by decide +kernel
theorem dX9_least_45 : decode cX9_least 45 = .ok (.sipush 7281, 3) := by decide +kernel
theorem dX9_least_48 : decode cX9_least 48 = .ok (.iload_n 1, 1) := by decide +kernel
theorem dX9_least_49 : decode cX9_least 49 = .ok (.iadd, 1) := by decide +kernel
theorem dX9_least_50 : decode cX9_least 50 = .ok (.dup2, 1) := by decide +kernel
theorem dX9_least_51 : decode cX9_least 51 = .ok (.iaload, 1) := by decide +kernel
theorem dX9_least_52 : decode cX9_least 52 = .ok (.iload_n 3, 1) := by decide +kernel
theorem dX9_least_53 : decode cX9_least 53 = .ok (.isub, 1) := by decide +kernel
theorem dX9_least_54 : decode cX9_least 54 = .ok (.iastore, 1) := by decide +kernel
theorem dX9_least_55 : decode cX9_least 55 = .ok (.aload_n 0, 1) := by decide +kernel
theorem dX9_least_56 : decode cX9_least 56 = .ok (.iload_n 2, 1) := by decide +kernel
theorem dX9_least_57 : decode cX9_least 57 = .ok (.invokevirtual 176, 3) := by decide +kernel
theorem dX9_least_60 : decode cX9_least 60 = .ok (.aload_n 0, 1) := by decide +kernel
theorem dX9_least_61 : decode cX9_least 61 = .ok (.sipush 7260, 3) := by decide +kernel
theorem dX9_least_64 : decode cX9_least 64 = .ok (.iload_n 1, 1) := by decide +kernel
theorem dX9_least_65 : decode cX9_least 65 = .ok (.invokevirtual 136, 3) := by decide +kernel
theorem dX9_least_68 : decode cX9_least 68 = .ok (.ifCond .eq 5, 3) := by decide +kernel
theorem dX9_least_71 : decode cX9_least 71 = .ok (.iload_n 3, 1) := by decide +kernel
theorem dX9_least_72 : decode cX9_least 72 = .ok (.ireturn, 1) := by decide +kernel
theorem dX9_least_73 : decode cX9_least 73 = .ok (.iinc 3 1, 3) := by decide +kernel
theorem dX9_least_76 : decode cX9_least 76 = .ok (.goto (-52), 3) := by decide +kernel
theorem dX9_least_79 : decode cX9_least 79 = .ok (.bipush (-9), 2) := by decide +kernel
theorem dX9_least_81 : decode cX9_least 81 = .ok (.ireturn, 1) := by decide +kernel
theorem dX9_round_0 : decode cX9_round 0 = .ok (.iload_n 1, 1) := by decide +kernel
theorem dX9_round_1 : decode cX9_round 1 = .ok (.i2l, 1) := by decide +kernel
theorem dX9_round_2 : decode cX9_round 2 = .ok (.lconst 0, 1) := by decide +kernel
theorem dX9_round_3 : decode cX9_round 3 = .ok (.ldc2_w 179, 3) := by decide +kernel
theorem dX9_round_6 : decode cX9_round 6 = .ok (.invokestatic 53, 3) := by decide +kernel
theorem dX9_round_9 : decode cX9_round 9 = .ok (.ifCond .eq 10, 3) := by decide +kernel
theorem dX9_round_12 : decode cX9_round 12 = .ok (.iload_n 2, 1) := by decide +kernel
theorem dX9_round_13 : decode cX9_round 13 = .ok (.invokestatic 59, 3) := by decide +kernel
theorem dX9_round_16 : decode cX9_round 16 = .ok (.ifCond .ne 5, 3) := by decide +kernel
theorem dX9_round_19 : decode cX9_round 19 = .ok (.iconst (-1), 1) := by decide +kernel
theorem dX9_round_20 : decode cX9_round 20 = .ok (.ireturn, 1) := by decide +kernel
theorem dX9_round_21 : decode cX9_round 21 = .ok (.aload_n 0, 1) := by decide +kernel
theorem dX9_round_22 : decode cX9_round 22 = .ok (.invokevirtual 153, 3) := by decide +kernel
theorem dX9_round_25 : decode cX9_round 25 = .ok (.ifCond .ne 6, 3) := by decide +kernel
theorem dX9_round_28 : decode cX9_round 28 = .ok (.bipush (-4), 2) := by decide +kernel
theorem dX9_round_30 : decode cX9_round 30 = .ok (.ireturn, 1) := by decide +kernel
theorem dX9_round_31 : decode cX9_round 31 = .ok (.iconst 1, 1) := by decide +kernel
theorem dX9_round_32 : decode cX9_round 32 = .ok (.istore_n 3, 1) := by decide +kernel
theorem dX9_round_33 : decode cX9_round 33 = .ok (.iconst 0, 1) := by decide +kernel
theorem dX9_round_34 : decode cX9_round 34 = .ok (.istore 4, 2) := by decide +kernel
theorem dX9_round_36 : decode cX9_round 36 = .ok (.iload 4, 2) := by decide +kernel
theorem dX9_round_38 : decode cX9_round 38 = .ok (.iload_n 1, 1) := by decide +kernel
theorem dX9_round_39 : decode cX9_round 39 = .ok (.if_icmp .ge 20, 3) := by decide +kernel
theorem dX9_round_42 : decode cX9_round 42 = .ok (.iload_n 3, 1) := by decide +kernel
theorem dX9_round_43 : decode cX9_round 43 = .ok (.aload_n 0, 1) := by decide +kernel
theorem dX9_round_44 : decode cX9_round 44 = .ok (.getfield 7, 3) := by decide +kernel
theorem dX9_round_47 : decode cX9_round 47 = .ok (.iconst 0, 1) := by decide +kernel
theorem dX9_round_48 : decode cX9_round 48 = .ok (.iaload, 1) := by decide +kernel
theorem dX9_round_49 : decode cX9_round 49 = .ok (.iconst 1, 1) := by decide +kernel
theorem dX9_round_50 : decode cX9_round 50 = .ok (.iadd, 1) := by decide +kernel
theorem dX9_round_51 : decode cX9_round 51 = .ok (.imul, 1) := by decide +kernel
theorem dX9_round_52 : decode cX9_round 52 = .ok (.istore_n 3, 1) := by decide +kernel
theorem dX9_round_53 : decode cX9_round 53 = .ok (.iinc 4 1, 3) := by decide +kernel
theorem dX9_round_56 : decode cX9_round 56 = .ok (.goto (-20), 3) := by decide +kernel
theorem dX9_round_59 : decode cX9_round 59 = .ok (.iconst 0, 1) := by decide +kernel
theorem dX9_round_60 : decode cX9_round 60 = .ok (.istore 4, 2) := by decide +kernel
theorem dX9_round_62 : decode cX9_round 62 = .ok (.iconst (-1), 1) := by decide +kernel
theorem dX9_round_63 : decode cX9_round 63 = .ok (.istore 5, 2) := by decide +kernel
theorem dX9_round_65 : decode cX9_round 65 = .ok (.iconst 0, 1) := by decide +kernel
theorem dX9_round_66 : decode cX9_round 66 = .ok (.istore 6, 2) := by decide +kernel
theorem dX9_round_68 : decode cX9_round 68 = .ok (.iload 6, 2) := by decide +kernel
theorem dX9_round_70 : decode cX9_round 70 = .ok (.iload_n 3, 1) := by decide +kernel
theorem dX9_round_71 : decode cX9_round 71 = .ok (.if_icmp .ge 128, 3) := by decide +kernel
theorem dX9_round_74 : decode cX9_round 74 = .ok (.aload_n 0, 1) := by decide +kernel
theorem dX9_round_75 : decode cX9_round 75 = .ok (.invokevirtual 173, 3) := by decide +kernel
theorem dX9_round_78 : decode cX9_round 78 = .ok (.iconst 0, 1) := by decide +kernel
theorem dX9_round_79 : decode cX9_round 79 = .ok (.istore 7, 2) := by decide +kernel
theorem dX9_round_81 : decode cX9_round 81 = .ok (.iload_n 3, 1) := by decide +kernel
theorem dX9_round_82 : decode cX9_round 82 = .ok (.istore 8, 2) := by decide +kernel
theorem dX9_round_84 : decode cX9_round 84 = .ok (.iconst 0, 1) := by decide +kernel
theorem dX9_round_85 : decode cX9_round 85 = .ok (.istore 9, 2) := by decide +kernel
theorem dX9_round_87 : decode cX9_round 87 = .ok (.iload 9, 2) := by decide +kernel
theorem dX9_round_89 : decode cX9_round 89 = .ok (.iload_n 1, 1) := by decide +kernel
theorem dX9_round_90 : decode cX9_round 90 = .ok (.if_icmp .ge 71, 3) := by decide +kernel
theorem dX9_round_93 : decode cX9_round 93 = .ok (.iload 8, 2) := by decide +kernel
theorem dX9_round_95 : decode cX9_round 95 = .ok (.aload_n 0, 1) := by decide +kernel
theorem dX9_round_96 : decode cX9_round 96 = .ok (.getfield 7, 3) := by decide +kernel
theorem dX9_round_99 : decode cX9_round 99 = .ok (.iconst 0, 1) := by decide +kernel
theorem dX9_round_100 : decode cX9_round 100 = .ok (.iaload, 1) := by decide +kernel
theorem dX9_round_101 : decode cX9_round 101 = .ok (.iconst 1, 1) := by decide +kernel
theorem dX9_round_102 : decode cX9_round 102 = .ok (.iadd, 1) := by decide +kernel
theorem dX9_round_103 : decode cX9_round 103 = .ok (.idiv, 1) := by decide +kernel
theorem dX9_round_104 : decode cX9_round 104 = .ok (.istore 8, 2) := by decide +kernel
theorem dX9_round_106 : decode cX9_round 106 = .ok (.iload 6, 2) := by decide +kernel
theorem dX9_round_108 : decode cX9_round 108 = .ok (.iload 8, 2) := by decide +kernel
theorem dX9_round_110 : decode cX9_round 110 = .ok (.idiv, 1) := by decide +kernel
theorem dX9_round_111 : decode cX9_round 111 = .ok (.aload_n 0, 1) := by decide +kernel
theorem dX9_round_112 : decode cX9_round 112 = .ok (.getfield 7, 3) := by decide +kernel
theorem dX9_round_115 : decode cX9_round 115 = .ok (.iconst 0, 1) := by decide +kernel
theorem dX9_round_116 : decode cX9_round 116 = .ok (.iaload, 1) := by decide +kernel
theorem dX9_round_117 : decode cX9_round 117 = .ok (.iconst 1, 1) := by decide +kernel
theorem dX9_round_118 : decode cX9_round 118 = .ok (.iadd, 1) := by decide +kernel
theorem dX9_round_119 : decode cX9_round 119 = .ok (.irem, 1) := by decide +kernel
theorem dX9_round_120 : decode cX9_round 120 = .ok (.iconst 1, 1) := by decide +kernel
theorem dX9_round_121 : decode cX9_round 121 = .ok (.isub, 1) := by decide +kernel
theorem dX9_round_122 : decode cX9_round 122 = .ok (.istore 10, 2) := by decide +kernel
theorem dX9_round_124 : decode cX9_round 124 = .ok (.aload_n 0, 1) := by decide +kernel
theorem dX9_round_125 : decode cX9_round 125 = .ok (.sipush 7260, 3) := by decide +kernel
theorem dX9_round_128 : decode cX9_round 128 = .ok (.invokevirtual 160, 3) := by decide +kernel
theorem dX9_round_131 : decode cX9_round 131 = .ok (.pop, 1) := by decide +kernel
theorem dX9_round_132 : decode cX9_round 132 = .ok (.iload 7, 2) := by decide +kernel
theorem dX9_round_134 : decode cX9_round 134 = .ok (.iload 10, 2) := by decide +kernel
theorem dX9_round_136 : decode cX9_round 136 = .ok (.ifCond .ge 7, 3) := by decide +kernel
theorem dX9_round_139 : decode cX9_round 139 = .ok (.iconst 0, 1) := by decide +kernel
theorem dX9_round_140 : decode cX9_round 140 = .ok (.goto 12, 3) := by decide +kernel
theorem dX9_round_143 : decode cX9_round 143 = .ok (.aload_n 0, 1) := by decide +kernel
theorem dX9_round_144 : decode cX9_round 144 = .ok (.sipush 7260, 3) := by decide +kernel
theorem dX9_round_147 : decode cX9_round 147 = .ok (.iload 10, 2) := by decide +kernel
theorem dX9_round_149 : decode cX9_round 149 = .ok (.invokevirtual 163, 3) := by decide +kernel
theorem dX9_round_152 : decode cX9_round 152 = .ok (.iadd, 1) := by decide +kernel
theorem dX9_round_153 : decode cX9_round 153 = .ok (.istore 7, 2) := by decide +kernel
theorem dX9_round_155 : decode cX9_round 155 = .ok (.iinc 9 1, 3) := by decide +kernel
theorem dX9_round_158 : decode cX9_round 158 = .ok (.goto (-71), 3) := by decide +kernel
theorem dX9_round_161 : decode cX9_round 161 = .ok (.iload 7, 2) := by decide +kernel
theorem dX9_round_163 : decode cX9_round 163 = .ok (.iload 5, 2) := by decide +kernel
theorem dX9_round_165 : decode cX9_round 165 = .ok (.if_icmp .le 8, 3) := by decide +kernel
theorem dX9_round_168 : decode cX9_round 168 = .ok (.iload 6, 2) := by decide +kernel
theorem dX9_round_170 : decode cX9_round 170 = .ok (.goto 5, 3) := by decide +kernel
theorem dX9_round_173 : decode cX9_round 173 = .ok (.iload 4, 2) := by decide +kernel
theorem dX9_round_175 : decode cX9_round 175 = .ok (.istore 4, 2) := by decide +kernel
theorem dX9_round_177 : decode cX9_round 177 = .ok (.iload 7, 2) := by decide +kernel
theorem dX9_round_179 : decode cX9_round 179 = .ok (.iload 5, 2) := by decide +kernel
theorem dX9_round_181 : decode cX9_round 181 = .ok (.if_icmp .le 8, 3) := by decide +kernel
theorem dX9_round_184 : decode cX9_round 184 = .ok (.iload 7, 2) := by decide +kernel
theorem dX9_round_186 : decode cX9_round 186 = .ok (.goto 5, 3) := by decide +kernel
theorem dX9_round_189 : decode cX9_round 189 = .ok (.iload 5, 2) := by decide +kernel
theorem dX9_round_191 : decode cX9_round 191 = .ok (.istore 5, 2) := by decide +kernel
theorem dX9_round_193 : decode cX9_round 193 = .ok (.iinc 6 1, 3) := by decide +kernel
theorem dX9_round_196 : decode cX9_round 196 = .ok (.goto (-128), 3) := by decide +kernel
theorem dX9_round_199 : decode cX9_round 199 = .ok (.aload_n 0, 1) := by decide +kernel
theorem dX9_round_200 : decode cX9_round 200 = .ok (.iload_n 2, 1) := by decide +kernel
theorem dX9_round_201 : decode cX9_round 201 = .ok (.iload_n 1, 1) := by decide +kernel
theorem dX9_round_202 : decode cX9_round 202 = .ok (.invokevirtual 67, 3) := by decide +kernel
theorem dX9_round_205 : decode cX9_round 205 = .ok (.iload 4, 2) := by decide +kernel
theorem dX9_round_207 : decode cX9_round 207 = .ok (.istore 6, 2) := by decide +kernel
theorem dX9_round_209 : decode cX9_round 209 = .ok (.iload_n 1, 1) := by decide +kernel
theorem dX9_round_210 : decode cX9_round 210 = .ok (.iconst 1, 1) := by decide +kernel
theorem dX9_round_211 : decode cX9_round 211 = .ok (.isub, 1) := by decide +kernel
theorem dX9_round_212 : decode cX9_round 212 = .ok (.istore 7, 2) := by decide +kernel
theorem dX9_round_214 : decode cX9_round 214 = .ok (.iload 7, 2) := by decide +kernel
theorem dX9_round_216 : decode cX9_round 216 = .ok (.ifCond .lt 61, 3) := by decide +kernel
theorem dX9_round_219 : decode cX9_round 219 = .ok (.iload 6, 2) := by decide +kernel
theorem dX9_round_221 : decode cX9_round 221 = .ok (.aload_n 0, 1) := by decide +kernel
theorem dX9_round_222 : decode cX9_round 222 = .ok (.getfield 7, 3) := by decide +kernel
theorem dX9_round_225 : decode cX9_round 225 = .ok (.iconst 0, 1) := by decide +kernel
theorem dX9_round_226 : decode cX9_round 226 = .ok (.iaload, 1) := by decide +kernel
theorem dX9_round_227 : decode cX9_round 227 = .ok (.iconst 1, 1) := by decide +kernel
theorem dX9_round_228 : decode cX9_round 228 = .ok (.iadd, 1) := by decide +kernel
theorem dX9_round_229 : decode cX9_round 229 = .ok (.irem, 1) := by decide +kernel
theorem dX9_round_230 : decode cX9_round 230 = .ok (.iconst 1, 1) := by decide +kernel
theorem dX9_round_231 : decode cX9_round 231 = .ok (.isub, 1) := by decide +kernel
theorem dX9_round_232 : decode cX9_round 232 = .ok (.istore 8, 2) := by decide +kernel
theorem dX9_round_234 : decode cX9_round 234 = .ok (.aload_n 0, 1) := by decide +kernel
theorem dX9_round_235 : decode cX9_round 235 = .ok (.getfield 16, 3) := by decide +kernel
theorem dX9_round_238 : decode cX9_round 238 = .ok (.bipush 40, 2) := by decide +kernel
theorem dX9_round_240 : decode cX9_round 240 = .ok (.iload_n 2, 1) := by decide +kernel
theorem dX9_round_241 : decode cX9_round 241 = .ok (.imul, 1) := by decide +kernel
theorem dX9_round_242 : decode cX9_round 242 = .ok (.iload 7, 2) := by decide +kernel
theorem dX9_round_244 : decode cX9_round 244 = .ok (.iadd, 1) := by decide +kernel
theorem dX9_round_245 : decode cX9_round 245 = .ok (.iload 8, 2) := by decide +kernel
theorem dX9_round_247 : decode cX9_round 247 = .ok (.ifCond .ge 8, 3) := by decide +kernel
theorem dX9_round_250 : decode cX9_round 250 = .ok (.bipush (-9), 2) := by decide +kernel
theorem dX9_round_252 : decode cX9_round 252 = .ok (.goto 5, 3) := by decide +kernel
theorem dX9_round_255 : decode cX9_round 255 = .ok (.iload 8, 2) := by decide +kernel
theorem dX9_round_257 : decode cX9_round 257 = .ok (.iastore, 1) := by decide +kernel
theorem dX9_round_258 : decode cX9_round 258 = .ok (.iload 6, 2) := by decide +kernel
theorem dX9_round_260 : decode cX9_round 260 = .ok (.aload_n 0, 1) := by decide +kernel
theorem dX9_round_261 : decode cX9_round 261 = .ok (.getfield 7, 3) := by decide +kernel
theorem dX9_round_264 : decode cX9_round 264 = .ok (.iconst 0, 1) := by decide +kernel
theorem dX9_round_265 : decode cX9_round 265 = .ok (.iaload, 1) := by decide +kernel
theorem dX9_round_266 : decode cX9_round 266 = .ok (.iconst 1, 1) := by decide +kernel
theorem dX9_round_267 : decode cX9_round 267 = .ok (.iadd, 1) := by decide +kernel
theorem dX9_round_268 : decode cX9_round 268 = .ok (.idiv, 1) := by decide +kernel
theorem dX9_round_269 : decode cX9_round 269 = .ok (.istore 6, 2) := by decide +kernel
theorem dX9_round_271 : decode cX9_round 271 = .ok (.iinc 7 (-1), 3) := by decide +kernel
theorem dX9_round_274 : decode cX9_round 274 = .ok (.goto (-60), 3) := by decide +kernel
theorem dX9_round_277 : decode cX9_round 277 = .ok (.iload 5, 2) := by decide +kernel
theorem dX9_round_279 : decode cX9_round 279 = .ok (.ireturn, 1) := by decide +kernel
