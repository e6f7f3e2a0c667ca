theorem dX6_init_0 : decode cX6_init 0 = .ok (.aload_n 0, 1) := by decide +kernel
theorem dX6_init_1 : decode cX6_init 1 = .ok (.invokespecial 3, 3) := by decide +kernel
theorem dX6_init_4 : decode cX6_init 4 = .ok (.aload_n 0, 1) := by decide +kernel
theorem dX6_init_5 : decode cX6_init 5 = .ok (.iconst 0, 1) := by decide +kernel
theorem dX6_init_6 : decode cX6_init 6 = .ok (.iload_n 2, 1) := by decide +kernel
theorem dX6_init_7 : decode cX6_init 7 = .ok (.invokestatic 9, 3) := by decide +kernel
theorem dX6_init_10 : decode cX6_init 10 = .ok (.putfield 15, 3) := by decide +kernel
theorem dX6_init_13 : decode cX6_init 13 = .ok (.aload_n 0, 1) := by decide +kernel
theorem dX6_init_14 : decode cX6_init 14 = .ok (.iconst 0, 1) := by decide +kernel
theorem dX6_init_15 : decode cX6_init 15 = .ok (.iload_n 1, 1) := by decide +kernel
theorem dX6_init_16 : decode cX6_init 16 = .ok (.invokestatic 9, 3) := by decide +kernel
theorem dX6_init_19 : decode cX6_init 19 = .ok (.newarray .int, 2) := by decide +kernel
theorem dX6_init_21 : decode cX6_init 21 = .ok (.putfield 21, 3) := by decide +kernel
theorem dX6_init_24 : decode cX6_init 24 = .ok (.aload_n 0, 1) := by decide +kernel
theorem dX6_init_25 : decode cX6_init 25 = .ok (.iconst 0, 1) := by decide +kernel
theorem dX6_init_26 : decode cX6_init 26 = .ok (.iload_n 1, 1) := by decide +kernel
theorem dX6_init_27 : decode cX6_init 27 = .ok (.iload_n 2, 1) := by decide +kernel
theorem dX6_init_28 : decode cX6_init 28 = .ok (.imul, 1) := by decide +kernel
theorem dX6_init_29 : decode cX6_init 29 = .ok (.invokestatic 9, 3) := by decide +kernel
theorem dX6_init_32 : decode cX6_init 32 = .ok (.newarray .int, 2) := by decide +kernel
theorem dX6_init_34 : decode cX6_init 34 = .ok (.putfield 25, 3) := by decide +kernel
theorem dX6_init_37 : decode cX6_init 37 = .ok (.aload_n 0, 1) := by decide +kernel
theorem dX6_init_38 : decode cX6_init 38 = .ok (.getfield 21, 3) := by decide +kernel
theorem dX6_init_41 : decode cX6_init 41 = .ok (.iconst (-1), 1) := by decide +kernel
theorem dX6_init_42 : decode cX6_init 42 = .ok (.invokestatic 28, 3) := by decide +kernel
theorem dX6_init_45 : decode cX6_init 45 = .ok (.return_, 1) := by decide +kernel
theorem dX6_isNumber_0 : decode cX6_isNumber 0 = .ok (.iload_n 1, 1) := by decide +kernel
theorem dX6_isNumber_1 : decode cX6_isNumber 1 = .ok (.ifCond .lt 16, 3) := by decide +kernel
theorem dX6_isNumber_4 : decode cX6_isNumber 4 = .ok (.iload_n 1, 1) := by decide +kernel
theorem dX6_isNumber_5 : decode cX6_isNumber 5 = .ok (.aload_n 0, 1) := by decide +kernel
theorem dX6_isNumber_6 : decode cX6_isNumber 6 = .ok (.getfield 21, 3) := by decide +kernel
theorem dX6_isNumber_9 : decode cX6_isNumber 9 = .ok (.arraylength, 1) := by decide +kernel
theorem dX6_isNumber_10 : decode cX6_isNumber 10 = .ok (.if_icmp .ge 7, 3) := by decide +kernel
theorem dX6_isNumber_13 : decode cX6_isNumber 13 = .ok (.iconst 1, 1) := by decide +kernel
theorem dX6_isNumber_14 : decode cX6_isNumber 14 = .ok (.goto 4, 3) := by decide +kernel
theorem dX6_isNumber_17 : decode cX6_isNumber 17 = .ok (.iconst 0, 1) := by decide +kernel
theorem dX6_isNumber_18 : decode cX6_isNumber 18 = .ok (.ireturn, 1) := by decide +kernel
theorem dX6_stands_0 : decode cX6_stands 0 = .ok (.aload_n 0, 1) := by decide +kernel
theorem dX6_stands_1 : decode cX6_stands 1 = .ok (.iload_n 1, 1) := by decide +kernel
theorem dX6_stands_2 : decode cX6_stands 2 = .ok (.invokevirtual 34, 3) := by decide +kernel
theorem dX6_stands_5 : decode cX6_stands 5 = .ok (.ifCond .lt 7, 3) := by decide +kernel
theorem dX6_stands_8 : decode cX6_stands 8 = .ok (.iconst 1, 1) := by decide +kernel
theorem dX6_stands_9 : decode cX6_stands 9 = .ok (.goto 4, 3) := by decide +kernel
theorem dX6_stands_12 : decode cX6_stands 12 = .ok (.iconst 0, 1) := by decide +kernel
theorem dX6_stands_13 : decode cX6_stands 13 = .ok (.ireturn, 1) := by decide +kernel
theorem dX6_size_0 : decode cX6_size 0 = .ok (.iload_n 1, 1) := by decide +kernel
theorem dX6_size_1 : decode cX6_size 1 = .ok (.ifCond .lt 21, 3) := by decide +kernel
theorem dX6_size_4 : decode cX6_size 4 = .ok (.iload_n 1, 1) := by decide +kernel
theorem dX6_size_5 : decode cX6_size 5 = .ok (.aload_n 0, 1) := by decide +kernel
theorem dX6_size_6 : decode cX6_size 6 = .ok (.getfield 21, 3) := by decide +kernel
theorem dX6_size_9 : decode cX6_size 9 = .ok (.arraylength, 1) := by decide +kernel
theorem dX6_size_10 : decode cX6_size 10 = .ok (.if_icmp .ge 12, 3) := by decide +kernel
theorem dX6_size_13 : decode cX6_size 13 = .ok (.aload_n 0, 1) := by decide +kernel
theorem dX6_size_14 : decode cX6_size 14 = .ok (.getfield 21, 3) := by decide +kernel
theorem dX6_size_17 : decode cX6_size 17 = .ok (.iload_n 1, 1) := by decide +kernel
theorem dX6_size_18 : decode cX6_size 18 = .ok (.iaload, 1) := by decide +kernel
theorem dX6_size_19 : decode cX6_size 19 = .ok (.goto 4, 3) := by decide +kernel
theorem dX6_size_22 : decode cX6_size 22 = .ok (.iconst (-1), 1) := by decide +kernel
theorem dX6_size_23 : decode cX6_size 23 = .ok (.ireturn, 1) := by decide +kernel
theorem dX6_standing_0 : decode cX6_standing 0 = .ok (.iconst 0, 1) := by decide +kernel
theorem dX6_standing_1 : decode cX6_standing 1 = .ok (.istore_n 1, 1) := by decide +kernel
theorem dX6_standing_2 : decode cX6_standing 2 = .ok (.aload_n 0, 1) := by decide +kernel
theorem dX6_standing_3 : decode cX6_standing 3 = .ok (.getfield 21, 3) := by decide +kernel
theorem dX6_standing_6 : decode cX6_standing 6 = .ok (.astore_n 2, 1) := by decide +kernel
theorem dX6_standing_7 : decode cX6_standing 7 = .ok (.aload_n 2, 1) := by decide +kernel
theorem dX6_standing_8 : decode cX6_standing 8 = .ok (.arraylength, 1) := by decide +kernel
theorem dX6_standing_9 : decode cX6_standing 9 = .ok (.istore_n 3, 1) := by decide +kernel
theorem dX6_standing_10 : decode cX6_standing 10 = .ok (.iconst 0, 1) := by decide +kernel
theorem dX6_standing_11 : decode cX6_standing 11 = .ok (.istore 4, 2) := by decide +kernel
theorem dX6_standing_13 : decode cX6_standing 13 = .ok (.iload 4, 2) := by decide +kernel
theorem dX6_standing_15 : decode cX6_standing 15 = .ok (.iload_n 3, 1) := by decide +kernel
theorem dX6_standing_16 : decode cX6_standing 16 = .ok (.if_icmp .ge 28, 3) := by decide +kernel
theorem dX6_standing_19 : decode cX6_standing 19 = .ok (.aload_n 2, 1) := by decide +kernel
theorem dX6_standing_20 : decode cX6_standing 20 = .ok (.iload 4, 2) := by decide +kernel
theorem dX6_standing_22 : decode cX6_standing 22 = .ok (.iaload, 1) := by decide +kernel
theorem dX6_standing_23 : decode cX6_standing 23 = .ok (.istore 5, 2) := by decide +kernel
theorem dX6_standing_25 : decode cX6_standing 25 = .ok (.iload_n 1, 1) := by decide +kernel
theorem dX6_standing_26 : decode cX6_standing 26 = .ok (.iload 5, 2) := by decide +kernel
theorem dX6_standing_28 : decode cX6_standing 28 = .ok (.ifCond .lt 7, 3) := by decide +kernel
theorem dX6_standing_31 : decode cX6_standing 31 = .ok (.iconst 1, 1) := by decide +kernel
theorem dX6_standing_32 : decode cX6_standing 32 = .ok (.goto 4, 3) := by decide +kernel
theorem dX6_standing_35 : decode cX6_standing 35 = .ok (.iconst 0, 1) := by decide +kernel
theorem dX6_standing_36 : decode cX6_standing 36 = .ok (.iadd, 1) := by decide +kernel
theorem dX6_standing_37 : decode cX6_standing 37 = .ok (.istore_n 1, 1) := by decide +kernel
theorem dX6_standing_38 : decode cX6_standing 38 = .ok (.iinc 4 1, 3) := by decide +kernel
theorem dX6_standing_41 : decode cX6_standing 41 = .ok (.goto (-28), 3) := by decide +kernel
theorem dX6_standing_44 : decode cX6_standing 44 = .ok (.iload_n 1, 1) := by decide +kernel
theorem dX6_standing_45 : decode cX6_standing 45 = .ok (.ireturn, 1) := by decide +kernel
theorem dX6_holds_0 : decode cX6_holds 0 = .ok (.iload_n 2, 1) := by decide +kernel
theorem dX6_holds_1 : decode cX6_holds 1 = .ok (.ifCond .lt 22, 3) := by decide +kernel
theorem dX6_holds_4 : decode cX6_holds 4 = .ok (.iload_n 3, 1) := by decide +kernel
theorem dX6_holds_5 : decode cX6_holds 5 = .ok (.ifCond .lt 18, 3) := by decide +kernel
theorem dX6_holds_8 : decode cX6_holds 8 = .ok (.iload_n 2, 1) := by decide +kernel
theorem dX6_holds_9 : decode cX6_holds 9 = .ok (.aload_n 0, 1) := by decide +kernel
theorem dX6_holds_10 : decode cX6_holds 10 = .ok (.iload_n 1, 1) := by decide +kernel
theorem dX6_holds_11 : decode cX6_holds 11 = .ok (.invokevirtual 34, 3) := by decide +kernel
theorem dX6_holds_14 : decode cX6_holds 14 = .ok (.iload_n 3, 1) := by decide +kernel
theorem dX6_holds_15 : decode cX6_holds 15 = .ok (.isub, 1) := by decide +kernel
theorem dX6_holds_16 : decode cX6_holds 16 = .ok (.if_icmp .gt 7, 3) := by decide +kernel
theorem dX6_holds_19 : decode cX6_holds 19 = .ok (.iconst 1, 1) := by decide +kernel
theorem dX6_holds_20 : decode cX6_holds 20 = .ok (.goto 4, 3) := by decide +kernel
theorem dX6_holds_23 : decode cX6_holds 23 = .ok (.iconst 0, 1) := by decide +kernel
theorem dX6_holds_24 : decode cX6_holds 24 = .ok (.ireturn, 1) := by decide +kernel
theorem dX6_get_0 : decode cX6_get 0 = .ok (.iload_n 2, 1) := by decide +kernel
theorem dX6_get_1 : decode cX6_get 1 = .ok (.ifCond .lt 30, 3) := by decide +kernel
theorem dX6_get_4 : decode cX6_get 4 = .ok (.iload_n 2, 1) := by decide +kernel
theorem dX6_get_5 : decode cX6_get 5 = .ok (.aload_n 0, 1) := by decide +kernel
theorem dX6_get_6 : decode cX6_get 6 = .ok (.iload_n 1, 1) := by decide +kernel
theorem dX6_get_7 : decode cX6_get 7 = .ok (.invokevirtual 34, 3) := by decide +kernel
theorem dX6_get_10 : decode cX6_get 10 = .ok (.if_icmp .ge 21, 3) := by decide +kernel
theorem dX6_get_13 : decode cX6_get 13 = .ok (.aload_n 0, 1) := by decide +kernel
theorem dX6_get_14 : decode cX6_get 14 = .ok (.getfield 25, 3) := by decide +kernel
theorem dX6_get_17 : decode cX6_get 17 = .ok (.iload_n 1, 1) := by decide +kernel
theorem dX6_get_18 : decode cX6_get 18 = .ok (.aload_n 0, 1) := by decide +kernel
theorem dX6_get_19 : decode cX6_get 19 = .ok (.getfield 15, 3) := by decide +kernel
theorem dX6_get_22 : decode cX6_get 22 = .ok (.imul, 1) := by decide +kernel
theorem dX6_get_23 : decode cX6_get 23 = .ok (.iload_n 2, 1) := by decide +kernel
theorem dX6_get_24 : decode cX6_get 24 = .ok (.iadd, 1) := by decide +kernel
theorem dX6_get_25 : decode cX6_get 25 = .ok (.invokestatic 38, 3) := by decide +kernel
theorem dX6_get_28 : decode cX6_get 28 = .ok (.goto 4, 3) := by decide +kernel
theorem dX6_get_31 : decode cX6_get 31 = .ok (.iconst 0, 1) := by decide +kernel
theorem dX6_get_32 : decode cX6_get 32 = .ok (.ireturn, 1) := by decide +kernel
theorem dX6_set_0 : decode cX6_set 0 = .ok (.iload_n 2, 1) := by decide +kernel
theorem dX6_set_1 : decode cX6_set 1 = .ok (.ifCond .lt 28, 3) := by decide +kernel
theorem dX6_set_4 : decode cX6_set 4 = .ok (.iload_n 2, 1) := by decide +kernel
theorem dX6_set_5 : decode cX6_set 5 = .ok (.aload_n 0, 1) := by decide +kernel
theorem dX6_set_6 : decode cX6_set 6 = .ok (.iload_n 1, 1) := by decide +kernel
theorem dX6_set_7 : decode cX6_set 7 = .ok (.invokevirtual 34, 3) := by decide +kernel
theorem dX6_set_10 : decode cX6_set 10 = .ok (.if_icmp .ge 19, 3) := by decide +kernel
theorem dX6_set_13 : decode cX6_set 13 = .ok (.aload_n 0, 1) := by decide +kernel
theorem dX6_set_14 : decode cX6_set 14 = .ok (.getfield 25, 3) := by decide +kernel
theorem dX6_set_17 : decode cX6_set 17 = .ok (.iload_n 1, 1) := by decide +kernel
theorem dX6_set_18 : decode cX6_set 18 = .ok (.aload_n 0, 1) := by decide +kernel
theorem dX6_set_19 : decode cX6_set 19 = .ok (.getfield 15, 3) := by decide +kernel
theorem dX6_set_22 : decode cX6_set 22 = .ok (.imul, 1) := by decide +kernel
theorem dX6_set_23 : decode cX6_set 23 = .ok (.iload_n 2, 1) := by decide +kernel
theorem dX6_set_24 : decode cX6_set 24 = .ok (.iadd, 1) := by decide +kernel
theorem dX6_set_25 : decode cX6_set 25 = .ok (.iload_n 3, 1) := by decide +kernel
theorem dX6_set_26 : decode cX6_set 26 = .ok (.invokestatic 42, 3) := by decide +kernel
theorem dX6_set_29 : decode cX6_set 29 = .ok (.return_, 1) := by decide +kernel
theorem dX6_make_0 : decode cX6_make 0 = .ok (.aload_n 0, 1) := by decide +kernel
theorem dX6_make_1 : decode cX6_make 1 = .ok (.getfield 21, 3) := by decide +kernel
theorem dX6_make_4 : decode cX6_make 4 = .ok (.iload_n 1, 1) := by decide +kernel
theorem dX6_make_5 : decode cX6_make 5 = .ok (.iload_n 2, 1) := by decide +kernel
theorem dX6_make_6 : decode cX6_make 6 = .ok (.aload_n 0, 1) := by decide +kernel
theorem dX6_make_7 : decode cX6_make 7 = .ok (.getfield 15, 3) := by decide +kernel
theorem dX6_make_10 : decode cX6_make 10 = .ok (.invokestatic 46, 3) := by decide +kernel
theorem dX6_make_13 : decode cX6_make 13 = .ok (.invokestatic 42, 3) := by decide +kernel
theorem dX6_make_16 : decode cX6_make 16 = .ok (.iconst 0, 1) := by decide +kernel
theorem dX6_make_17 : decode cX6_make 17 = .ok (.istore 4, 2) := by decide +kernel
theorem dX6_make_19 : decode cX6_make 19 = .ok (.iload 4, 2) := by decide +kernel
theorem dX6_make_21 : decode cX6_make 21 = .ok (.iload_n 2, 1) := by decide +kernel
theorem dX6_make_22 : decode cX6_make 22 = .ok (.if_icmp .ge 26, 3) := by decide +kernel
theorem dX6_make_25 : decode cX6_make 25 = .ok (.iload 4, 2) := by decide +kernel
theorem dX6_make_27 : decode cX6_make 27 = .ok (.aload_n 0, 1) := by decide +kernel
theorem dX6_make_28 : decode cX6_make 28 = .ok (.getfield 15, 3) := by decide +kernel
theorem dX6_make_31 : decode cX6_make 31 = .ok (.if_icmp .ge 17, 3) := by decide +kernel
theorem dX6_make_34 : decode cX6_make 34 = .ok (.aload_n 0, 1) := by decide +kernel
theorem dX6_make_35 : decode cX6_make 35 = .ok (.iload_n 1, 1) := by decide +kernel
theorem dX6_make_36 : decode cX6_make 36 = .ok (.iload 4, 2) := by decide +kernel
theorem dX6_make_38 : decode cX6_make 38 = .ok (.iload_n 3, 1) := by decide +kernel
theorem dX6_make_39 : decode cX6_make 39 = .ok (.invokevirtual 49, 3) := by decide +kernel
theorem dX6_make_42 : decode cX6_make 42 = .ok (.iinc 4 1, 3) := by decide +kernel
theorem dX6_make_45 : decode cX6_make 45 = .ok (.goto (-26), 3) := by decide +kernel
theorem dX6_make_48 : decode cX6_make 48 = .ok (.return_, 1) := by decide +kernel
theorem dX6_makeOf_0 : decode cX6_makeOf 0 = .ok (.aload_n 0, 1) := by decide +kernel
theorem dX6_makeOf_1 : decode cX6_makeOf 1 = .ok (.getfield 21, 3) := by decide +kernel
theorem dX6_makeOf_4 : decode cX6_makeOf 4 = .ok (.iload_n 1, 1) := by decide +kernel
theorem dX6_makeOf_5 : decode cX6_makeOf 5 = .ok (.iload_n 2, 1) := by decide +kernel
theorem dX6_makeOf_6 : decode cX6_makeOf 6 = .ok (.aload_n 0, 1) := by decide +kernel
theorem dX6_makeOf_7 : decode cX6_makeOf 7 = .ok (.getfield 15, 3) := by decide +kernel
theorem dX6_makeOf_10 : decode cX6_makeOf 10 = .ok (.invokestatic 46, 3) := by decide +kernel
theorem dX6_makeOf_13 : decode cX6_makeOf 13 = .ok (.invokestatic 42, 3) := by decide +kernel
theorem dX6_makeOf_16 : decode cX6_makeOf 16 = .ok (.iconst 0, 1) := by decide +kernel
theorem dX6_makeOf_17 : decode cX6_makeOf 17 = .ok (.istore 4, 2) := by decide +kernel
theorem dX6_makeOf_19 : decode cX6_makeOf 19 = .ok (.iload 4, 2) := by decide +kernel
theorem dX6_makeOf_21 : decode cX6_makeOf 21 = .ok (.iload_n 2, 1) := by decide +kernel
theorem dX6_makeOf_22 : decode cX6_makeOf 22 = .ok (.if_icmp .ge 31, 3) := by decide +kernel
theorem dX6_makeOf_25 : decode cX6_makeOf 25 = .ok (.iload 4, 2) := by decide +kernel
theorem dX6_makeOf_27 : decode cX6_makeOf 27 = .ok (.aload_n 0, 1) := by decide +kernel
theorem dX6_makeOf_28 : decode cX6_makeOf 28 = .ok (.getfield 15, 3) := by decide +kernel
theorem dX6_makeOf_31 : decode cX6_makeOf 31 = .ok (.if_icmp .ge 22, 3) := by decide +kernel
theorem dX6_makeOf_34 : decode cX6_makeOf 34 = .ok (.aload_n 0, 1) := by decide +kernel
theorem dX6_makeOf_35 : decode cX6_makeOf 35 = .ok (.iload_n 1, 1) := by decide +kernel
theorem dX6_makeOf_36 : decode cX6_makeOf 36 = .ok (.iload 4, 2) := by decide +kernel
theorem dX6_makeOf_38 : decode cX6_makeOf 38 = .ok (.aload_n 3, 1) := by decide +kernel
theorem dX6_makeOf_39 : decode cX6_makeOf 39 = .ok (.iload 4, 2) := by decide +kernel
theorem dX6_makeOf_41 : decode cX6_makeOf 41 = .ok (.invokestatic 38, 3) := by decide +kernel
theorem dX6_makeOf_44 : decode cX6_makeOf 44 = .ok (.invokevirtual 49, 3) := by decide +kernel
theorem dX6_makeOf_47 : decode cX6_makeOf 47 = .ok (.iinc 4 1, 3) := by decide +kernel
theorem dX6_makeOf_50 : decode cX6_makeOf 50 = .ok (.goto (-31), 3) := by decide +kernel
theorem dX6_makeOf_53 : decode cX6_makeOf 53 = .ok (.return_, 1) := by decide +kernel
theorem dX6_remove_0 : decode cX6_remove 0 = .ok (.aload_n 0, 1) := by decide +kernel
theorem dX6_remove_1 : decode cX6_remove 1 = .ok (.getfield 21, 3) := by decide +kernel
theorem dX6_remove_4 : decode cX6_remove 4 = .ok (.iload_n 1, 1) := by decide +kernel
theorem dX6_remove_5 : decode cX6_remove 5 = .ok (.iconst (-1), 1) := by decide +kernel
theorem dX6_remove_6 : decode cX6_remove 6 = .ok (.invokestatic 42, 3) := by decide +kernel
theorem dX6_remove_9 : decode cX6_remove 9 = .ok (.return_, 1) := by decide +kernel
theorem dX6_removeAll_0 : decode cX6_removeAll 0 = .ok (.aload_n 0, 1) := by decide +kernel
theorem dX6_removeAll_1 : decode cX6_removeAll 1 = .ok (.getfield 21, 3) := by decide +kernel
theorem dX6_removeAll_4 : decode cX6_removeAll 4 = .ok (.iconst (-1), 1) := by decide +kernel
theorem dX6_removeAll_5 : decode cX6_removeAll 5 = .ok (.invokestatic 28, 3) := by decide +kernel
theorem dX6_removeAll_8 : decode cX6_removeAll 8 = .ok (.return_, 1) := by decide +kernel
theorem dX6_move_0 : decode cX6_move 0 = .ok (.aload_n 0, 1) := by decide +kernel
theorem dX6_move_1 : decode cX6_move 1 = .ok (.getfield 25, 3) := by decide +kernel
theorem dX6_move_4 : decode cX6_move 4 = .ok (.iload_n 1, 1) := by decide +kernel
theorem dX6_move_5 : decode cX6_move 5 = .ok (.aload_n 0, 1) := by decide +kernel
theorem dX6_move_6 : decode cX6_move 6 = .ok (.getfield 15, 3) := by decide +kernel
theorem dX6_move_9 : decode cX6_move 9 = .ok (.imul, 1) := by decide +kernel
theorem dX6_move_10 : decode cX6_move 10 = .ok (.iload_n 2, 1) := by decide +kernel
theorem dX6_move_11 : decode cX6_move 11 = .ok (.iadd, 1) := by decide +kernel
theorem dX6_move_12 : decode cX6_move 12 = .ok (.iload_n 3, 1) := by decide +kernel
theorem dX6_move_13 : decode cX6_move 13 = .ok (.aload_n 0, 1) := by decide +kernel
theorem dX6_move_14 : decode cX6_move 14 = .ok (.getfield 15, 3) := by decide +kernel
theorem dX6_move_17 : decode cX6_move 17 = .ok (.imul, 1) := by decide +kernel
theorem dX6_move_18 : decode cX6_move 18 = .ok (.iload 4, 2) := by decide +kernel
theorem dX6_move_20 : decode cX6_move 20 = .ok (.iadd, 1) := by decide +kernel
theorem dX6_move_21 : decode cX6_move 21 = .ok (.iload 5, 2) := by decide +kernel
theorem dX6_move_23 : decode cX6_move 23 = .ok (.invokestatic 53, 3) := by decide +kernel
theorem dX6_move_26 : decode cX6_move 26 = .ok (.return_, 1) := by decide +kernel
theorem dX6_digestOn_0 : decode cX6_digestOn 0 = .ok (.iconst 0, 1) := by decide +kernel
theorem dX6_digestOn_1 : decode cX6_digestOn 1 = .ok (.istore_n 3, 1) := by decide +kernel
theorem dX6_digestOn_2 : decode cX6_digestOn 2 = .ok (.iload_n 3, 1) := by decide +kernel
theorem dX6_digestOn_3 : decode cX6_digestOn 3 = .ok (.aload_n 0, 1) := by decide +kernel
theorem dX6_digestOn_4 : decode cX6_digestOn 4 = .ok (.getfield 21, 3) := by decide +kernel
theorem dX6_digestOn_7 : decode cX6_digestOn 7 = .ok (.arraylength, 1) := by decide +kernel
theorem dX6_digestOn_8 : decode cX6_digestOn 8 = .ok (.if_icmp .ge 56, 3) := by decide +kernel
theorem dX6_digestOn_11 : decode cX6_digestOn 11 = .ok (.ldc2_w 57, 3) := by decide +kernel
theorem dX6_digestOn_14 : decode cX6_digestOn 14 = .ok (.lload_n 1, 1) := by decide +kernel
theorem dX6_digestOn_15 : decode cX6_digestOn 15 = .ok (.lmul, 1) := by decide +kernel
theorem dX6_digestOn_16 : decode cX6_digestOn 16 = .ok (.aload_n 0, 1) := by decide +kernel
theorem dX6_digestOn_17 : decode cX6_digestOn 17 = .ok (.iload_n 3, 1) := by decide +kernel
theorem dX6_digestOn_18 : decode cX6_digestOn 18 = .ok (.invokevirtual 34, 3) := by decide +kernel
theorem dX6_digestOn_21 : decode cX6_digestOn 21 = .ok (.i2l, 1) := by decide +kernel
theorem dX6_digestOn_22 : decode cX6_digestOn 22 = .ok (.ladd, 1) := by decide +kernel
theorem dX6_digestOn_23 : decode cX6_digestOn 23 = .ok (.lstore_n 1, 1) := by decide +kernel
theorem dX6_digestOn_24 : decode cX6_digestOn 24 = .ok (.iconst 0, 1) := by decide +kernel
theorem dX6_digestOn_25 : decode cX6_digestOn 25 = .ok (.istore 4, 2) := by decide +kernel
theorem dX6_digestOn_27 : decode cX6_digestOn 27 = .ok (.iload 4, 2) := by decide +kernel
theorem dX6_digestOn_29 : decode cX6_digestOn 29 = .ok (.aload_n 0, 1) := by decide +kernel
theorem dX6_digestOn_30 : decode cX6_digestOn 30 = .ok (.iload_n 3, 1) := by decide +kernel
theorem dX6_digestOn_31 : decode cX6_digestOn 31 = .ok (.invokevirtual 34, 3) := by decide +kernel
theorem dX6_digestOn_34 : decode cX6_digestOn 34 = .ok (.if_icmp .ge 24, 3) := by decide +kernel
theorem dX6_digestOn_37 : decode cX6_digestOn 37 = .ok (.ldc2_w 57, 3) := by decide +kernel
theorem dX6_digestOn_40 : decode cX6_digestOn 40 = .ok (.lload_n 1, 1) := by decide +kernel
theorem dX6_digestOn_41 : decode cX6_digestOn 41 = .ok (.lmul, 1) := by decide +kernel
theorem dX6_digestOn_42 : decode cX6_digestOn 42 = .ok (.aload_n 0, 1) := by decide +kernel
theorem dX6_digestOn_43 : decode cX6_digestOn 43 = .ok (.iload_n 3, 1) := by decide +kernel
theorem dX6_digestOn_44 : decode cX6_digestOn 44 = .ok (.iload 4, 2) := by decide +kernel
theorem dX6_digestOn_46 : decode cX6_digestOn 46 = .ok (.invokevirtual 59, 3) := by decide +kernel
theorem dX6_digestOn_49 : decode cX6_digestOn 49 = .ok (.i2l, 1) := by decide +kernel
theorem dX6_digestOn_50 : decode cX6_digestOn 50 = .ok (.ladd, 1) := by decide +kernel
theorem dX6_digestOn_51 : decode cX6_digestOn 51 = .ok (.lstore_n 1, 1) := by decide +kernel
theorem dX6_digestOn_52 : decode cX6_digestOn 52 = .ok (.iinc 4 1, 3) := by decide +kernel
theorem dX6_digestOn_55 : decode cX6_digestOn 55 = .ok (.goto (-28), 3) := by decide +kernel
theorem dX6_digestOn_58 : decode cX6_digestOn 58 = .ok (.iinc 3 1, 3) := by decide +kernel
theorem dX6_digestOn_61 : decode cX6_digestOn 61 = .ok (.goto (-59), 3) := by decide +kernel
theorem dX6_digestOn_64 : decode cX6_digestOn 64 = .ok (.lload_n 1, 1) := by decide +kernel
theorem dX6_digestOn_65 : decode cX6_digestOn 65 = .ok (.lreturn, 1) := by decide +kernel
theorem dX7_init_0 : decode cX7_init 0 = .ok (.aload_n 0, 1) := by decide +kernel
theorem dX7_init_1 : decode cX7_init 1 = .ok (.invokespecial 3, 3) := by decide +kernel
theorem dX7_init_4 : decode cX7_init 4 = .ok (.aload_n 0, 1) := by decide +kernel
theorem dX7_init_5 : decode cX7_init 5 = .ok (.iconst 4, 1) := by decide +kernel
theorem dX7_init_6 : decode cX7_init 6 = .ok (.newarray .int, 2) := by decide +kernel
theorem dX7_init_8 : decode cX7_init 8 = .ok (.putfield 9, 3) := by decide +kernel
theorem dX7_init_11 : decode cX7_init 11 = .ok (.aload_n 0, 1) := by decide +kernel
theorem dX7_init_12 : decode cX7_init 12 = .ok (.bipush 6, 2) := by decide +kernel
theorem dX7_init_14 : decode cX7_init 14 = .ok (.newarray .int, 2) := by decide +kernel
theorem dX7_init_16 : decode cX7_init 16 = .ok (.putfield 15, 3) := by decide +kernel
theorem dX7_init_19 : decode cX7_init 19 = .ok (.aload_n 0, 1) := by decide +kernel
theorem dX7_init_20 : decode cX7_init 20 = .ok (.bipush 6, 2) := by decide +kernel
theorem dX7_init_22 : decode cX7_init 22 = .ok (.newarray .int, 2) := by decide +kernel
theorem dX7_init_24 : decode cX7_init 24 = .ok (.putfield 18, 3) := by decide +kernel
theorem dX7_init_27 : decode cX7_init 27 = .ok (.aload_n 0, 1) := by decide +kernel
theorem dX7_init_28 : decode cX7_init 28 = .ok (.bipush 6, 2) := by decide +kernel
theorem dX7_init_30 : decode cX7_init 30 = .ok (.newarray .int, 2) := by decide +kernel
theorem dX7_init_32 : decode cX7_init 32 = .ok (.putfield 21, 3) := by decide +kernel
theorem dX7_init_35 : decode cX7_init 35 = .ok (.aload_n 0, 1) := by decide +kernel
theorem dX7_init_36 : decode cX7_init 36 = .ok (.bipush 6, 2) := by decide +kernel
theorem dX7_init_38 : decode cX7_init 38 = .ok (.newarray .int, 2) := by decide +kernel
theorem dX7_init_40 : decode cX7_init 40 = .ok (.putfield 24, 3) := by decide +kernel
theorem dX7_init_43 : decode cX7_init 43 = .ok (.aload_n 0, 1) := by decide +kernel
theorem dX7_init_44 : decode cX7_init 44 = .ok (.bipush 6, 2) := by decide +kernel
theorem dX7_init_46 : decode cX7_init 46 = .ok (.newarray .int, 2) := by decide +kernel
theorem dX7_init_48 : decode cX7_init 48 = .ok (.putfield 27, 3) := by decide +kernel
theorem dX7_init_51 : decode cX7_init 51 = .ok (.aload_n 0, 1) := by decide +kernel
theorem dX7_init_52 : decode cX7_init 52 = .ok (.bipush 6, 2) := by decide +kernel
theorem dX7_init_54 : decode cX7_init 54 = .ok (.newarray .int, 2) := by decide +kernel
theorem dX7_init_56 : decode cX7_init 56 = .ok (.putfield 30, 3) := by decide +kernel
theorem dX7_init_59 : decode cX7_init 59 = .ok (.aload_n 0, 1) := by decide +kernel
theorem dX7_init_60 : decode cX7_init 60 = .ok (.iconst 1, 1) := by decide +kernel
theorem dX7_init_61 : decode cX7_init 61 = .ok (.putfield 33, 3) := by decide +kernel
theorem dX7_init_64 : decode cX7_init 64 = .ok (.aload_n 0, 1) := by decide +kernel
theorem dX7_init_65 : decode cX7_init 65 = .ok (.iconst 0, 1) := by decide +kernel
theorem dX7_init_66 : decode cX7_init 66 = .ok (.putfield 37, 3) := by decide +kernel
theorem dX7_init_69 : decode cX7_init 69 = .ok (.aload_n 0, 1) := by decide +kernel
theorem dX7_init_70 : decode cX7_init 70 = .ok (.iconst 0, 1) := by decide +kernel
theorem dX7_init_71 : decode cX7_init 71 = .ok (.putfield 40, 3) := by decide +kernel
theorem dX7_init_74 : decode cX7_init 74 = .ok (.return_, 1) := by decide +kernel
theorem dX7_copyFrom_0 : decode cX7_copyFrom 0 = .ok (.aload_n 1, 1) := by decide +kernel
theorem dX7_copyFrom_1 : decode cX7_copyFrom 1 = .ok (.getfield 9, 3) := by decide +kernel
theorem dX7_copyFrom_4 : decode cX7_copyFrom 4 = .ok (.aload_n 0, 1) := by decide +kernel
theorem dX7_copyFrom_5 : decode cX7_copyFrom 5 = .ok (.getfield 9, 3) := by decide +kernel
theorem dX7_copyFrom_8 : decode cX7_copyFrom 8 = .ok (.invokestatic 43, 3) := by decide +kernel
theorem dX7_copyFrom_11 : decode cX7_copyFrom 11 = .ok (.aload_n 1, 1) := by decide +kernel
theorem dX7_copyFrom_12 : decode cX7_copyFrom 12 = .ok (.getfield 15, 3) := by decide +kernel
theorem dX7_copyFrom_15 : decode cX7_copyFrom 15 = .ok (.aload_n 0, 1) := by decide +kernel
theorem dX7_copyFrom_16 : decode cX7_copyFrom 16 = .ok (.getfield 15, 3) := by decide +kernel
theorem dX7_copyFrom_19 : decode cX7_copyFrom 19 = .ok (.invokestatic 43, 3) := by decide +kernel
theorem dX7_copyFrom_22 : decode cX7_copyFrom 22 = .ok (.aload_n 1, 1) := by decide +kernel
theorem dX7_copyFrom_23 : decode cX7_copyFrom 23 = .ok (.getfield 18, 3) := by decide +kernel
theorem dX7_copyFrom_26 : decode cX7_copyFrom 26 = .ok (.aload_n 0, 1) := by decide +kernel
theorem dX7_copyFrom_27 : decode cX7_copyFrom 27 = .ok (.getfield 18, 3) := by decide +kernel
theorem dX7_copyFrom_30 : decode cX7_copyFrom 30 = .ok (.invokestatic 43, 3) := by decide +kernel
theorem dX7_copyFrom_33 : decode cX7_copyFrom 33 = .ok (.aload_n 1, 1) := by decide +kernel
theorem dX7_copyFrom_34 : decode cX7_copyFrom 34 = .ok (.getfield 21, 3) := by decide +kernel
theorem dX7_copyFrom_37 : decode cX7_copyFrom 37 = .ok (.aload_n 0, 1) := by decide +kernel
theorem dX7_copyFrom_38 : decode cX7_copyFrom 38 = .ok (.getfield 21, 3) := by decide +kernel
theorem dX7_copyFrom_41 : decode cX7_copyFrom 41 = .ok (.invokestatic 43, 3) := by decide +kernel
theorem dX7_copyFrom_44 : decode cX7_copyFrom 44 = .ok (.aload_n 1, 1) := by decide +kernel
theorem dX7_copyFrom_45 : decode cX7_copyFrom 45 = .ok (.getfield 24, 3) := by decide +kernel
theorem dX7_copyFrom_48 : decode cX7_copyFrom 48 = .ok (.aload_n 0, 1) := by decide +kernel
theorem dX7_copyFrom_49 : decode cX7_copyFrom 49 = .ok (.getfield 24, 3) := by decide +kernel
theorem dX7_copyFrom_52 : decode cX7_copyFrom 52 = .ok (.invokestatic 43, 3) := by decide +kernel
theorem dX7_copyFrom_55 : decode cX7_copyFrom 55 = .ok (.aload_n 1, 1) := by decide +kernel
theorem dX7_copyFrom_56 : decode cX7_copyFrom 56 = .ok (.getfield 27, 3) := by decide +kernel
theorem dX7_copyFrom_59 : decode cX7_copyFrom 59 = .ok (.aload_n 0, 1) := by decide +kernel
theorem dX7_copyFrom_60 : decode cX7_copyFrom 60 = .ok (.getfield 27, 3) := by decide +kernel
theorem dX7_copyFrom_63 : decode cX7_copyFrom 63 = .ok (.invokestatic 43, 3) := by decide +kernel
theorem dX7_copyFrom_66 : decode cX7_copyFrom 66 = .ok (.aload_n 1, 1) := by decide +kernel
theorem dX7_copyFrom_67 : decode cX7_copyFrom 67 = .ok (.getfield 30, 3) := by decide +kernel
theorem dX7_copyFrom_70 : decode cX7_copyFrom 70 = .ok (.aload_n 0, 1) := by decide +kernel
theorem dX7_copyFrom_71 : decode cX7_copyFrom 71 = .ok (.getfield 30, 3) := by decide +kernel
theorem dX7_copyFrom_74 : decode cX7_copyFrom 74 = .ok (.invokestatic 43, 3) := by decide +kernel
theorem dX7_copyFrom_77 : decode cX7_copyFrom 77 = .ok (.aload_n 0, 1) := by decide +kernel
theorem dX7_copyFrom_78 : decode cX7_copyFrom 78 = .ok (.aload_n 1, 1) := by decide +kernel
theorem dX7_copyFrom_79 : decode cX7_copyFrom 79 = .ok (.getfield 33, 3) := by decide +kernel
theorem dX7_copyFrom_82 : decode cX7_copyFrom 82 = .ok (.putfield 33, 3) := by decide +kernel
theorem dX7_copyFrom_85 : decode cX7_copyFrom 85 = .ok (.aload_n 0, 1) := by decide +kernel
theorem dX7_copyFrom_86 : decode cX7_copyFrom 86 = .ok (.aload_n 1, 1) := by decide +kernel
theorem dX7_copyFrom_87 : decode cX7_copyFrom 87 = .ok (.getfield 37, 3) := by decide +kernel
theorem dX7_copyFrom_90 : decode cX7_copyFrom 90 = .ok (.putfield 37, 3) := by decide +kernel
theorem dX7_copyFrom_93 : decode cX7_copyFrom 93 = .ok (.aload_n 0, 1) := by decide +kernel
theorem dX7_copyFrom_94 : decode cX7_copyFrom 94 = .ok (.aload_n 1, 1) := by decide +kernel
theorem dX7_copyFrom_95 : decode cX7_copyFrom 95 = .ok (.getfield 40, 3) := by decide +kernel
theorem dX7_copyFrom_98 : decode cX7_copyFrom 98 = .ok (.putfield 40, 3) := by decide +kernel
theorem dX7_copyFrom_101 : decode cX7_copyFrom 101 = .ok (.return_, 1) := by decide +kernel
theorem dX7_has_0 : decode cX7_has 0 = .ok (.iload_n 1, 1) := by decide +kernel
theorem dX7_has_1 : decode cX7_has 1 = .ok (.ifCond .lt 15, 3) := by decide +kernel
theorem dX7_has_4 : decode cX7_has 4 = .ok (.iload_n 1, 1) := by decide +kernel
theorem dX7_has_5 : decode cX7_has 5 = .ok (.aload_n 0, 1) := by decide +kernel
theorem dX7_has_6 : decode cX7_has 6 = .ok (.getfield 37, 3) := by decide +kernel
theorem dX7_has_9 : decode cX7_has 9 = .ok (.if_icmp .ge 7, 3) := by decide +kernel
theorem dX7_has_12 : decode cX7_has 12 = .ok (.iconst 1, 1) := by decide +kernel
theorem dX7_has_13 : decode cX7_has 13 = .ok (.goto 4, 3) := by decide +kernel
theorem dX7_has_16 : decode cX7_has 16 = .ok (.iconst 0, 1) := by decide +kernel
theorem dX7_has_17 : decode cX7_has 17 = .ok (.ireturn, 1) := by decide +kernel
theorem dX7_kindOf_0 : decode cX7_kindOf 0 = .ok (.aload_n 0, 1) := by decide +kernel
theorem dX7_kindOf_1 : decode cX7_kindOf 1 = .ok (.getfield 15, 3) := by decide +kernel
theorem dX7_kindOf_4 : decode cX7_kindOf 4 = .ok (.iload_n 1, 1) := by decide +kernel
theorem dX7_kindOf_5 : decode cX7_kindOf 5 = .ok (.invokestatic 47, 3) := by decide +kernel
theorem dX7_kindOf_8 : decode cX7_kindOf 8 = .ok (.ireturn, 1) := by decide +kernel
theorem dX7_thickOf_0 : decode cX7_thickOf 0 = .ok (.aload_n 0, 1) := by decide +kernel
theorem dX7_thickOf_1 : decode cX7_thickOf 1 = .ok (.getfield 24, 3) := by decide +kernel
theorem dX7_thickOf_4 : decode cX7_thickOf 4 = .ok (.iload_n 1, 1) := by decide +kernel
theorem dX7_thickOf_5 : decode cX7_thickOf 5 = .ok (.invokestatic 47, 3) := by decide +kernel
theorem dX7_thickOf_8 : decode cX7_thickOf 8 = .ok (.ireturn, 1) := by decide +kernel
theorem dX7_liesIn_0 : decode cX7_liesIn 0 = .ok (.aload_n 0, 1) := by decide +kernel
theorem dX7_liesIn_1 : decode cX7_liesIn 1 = .ok (.getfield 27, 3) := by decide +kernel
theorem dX7_liesIn_4 : decode cX7_liesIn 4 = .ok (.iload_n 1, 1) := by decide +kernel
theorem dX7_liesIn_5 : decode cX7_liesIn 5 = .ok (.invokestatic 47, 3) := by decide +kernel
theorem dX7_liesIn_8 : decode cX7_liesIn 8 = .ok (.ireturn, 1) := by decide +kernel
theorem dX7_coldOf_0 : decode cX7_coldOf 0 = .ok (.aload_n 0, 1) := by decide +kernel
theorem dX7_coldOf_1 : decode cX7_coldOf 1 = .ok (.getfield 9, 3) := by decide +kernel
theorem dX7_coldOf_4 : decode cX7_coldOf 4 = .ok (.iload_n 1, 1) := by decide +kernel
theorem dX7_coldOf_5 : decode cX7_coldOf 5 = .ok (.iconst 4, 1) := by decide +kernel
theorem dX7_coldOf_6 : decode cX7_coldOf 6 = .ok (.irem, 1) := by decide +kernel
theorem dX7_coldOf_7 : decode cX7_coldOf 7 = .ok (.invokestatic 47, 3) := by decide +kernel
theorem dX7_coldOf_10 : decode cX7_coldOf 10 = .ok (.ireturn, 1) := by decide +kernel
theorem dX7_gapWith_0 : decode cX7_gapWith 0 = .ok (.aload_n 0, 1) := by decide +kernel
theorem dX7_gapWith_1 : decode cX7_gapWith 1 = .ok (.getfield 18, 3) := by decide +kernel
theorem dX7_gapWith_4 : decode cX7_gapWith 4 = .ok (.iload_n 1, 1) := by decide +kernel
theorem dX7_gapWith_5 : decode cX7_gapWith 5 = .ok (.invokestatic 47, 3) := by decide +kernel
theorem dX7_gapWith_8 : decode cX7_gapWith 8 = .ok (.aload_n 0, 1) := by decide +kernel
theorem dX7_gapWith_9 : decode cX7_gapWith 9 = .ok (.getfield 21, 3) := by decide +kernel
theorem dX7_gapWith_12 : decode cX7_gapWith 12 = .ok (.iload_n 2, 1) := by decide +kernel
theorem dX7_gapWith_13 : decode cX7_gapWith 13 = .ok (.invokestatic 47, 3) := by decide +kernel
theorem dX7_gapWith_16 : decode cX7_gapWith 16 = .ok (.isub, 1) := by decide +kernel
theorem dX7_gapWith_17 : decode cX7_gapWith 17 = .ok (.invokestatic 51, 3) := by decide +kernel
theorem dX7_gapWith_20 : decode cX7_gapWith 20 = .ok (.ireturn, 1) := by decide +kernel
theorem dX7_crossesWith_0 : decode cX7_crossesWith 0 = .ok (.aload_n 0, 1) := by decide +kernel
theorem dX7_crossesWith_1 : decode cX7_crossesWith 1 = .ok (.iload_n 1, 1) := by decide +kernel
theorem dX7_crossesWith_2 : decode cX7_crossesWith 2 = .ok (.invokevirtual 57, 3) := by decide +kernel
theorem dX7_crossesWith_5 : decode cX7_crossesWith 5 = .ok (.aload_n 0, 1) := by decide +kernel
theorem dX7_crossesWith_6 : decode cX7_crossesWith 6 = .ok (.iload_n 1, 1) := by decide +kernel
theorem dX7_crossesWith_7 : decode cX7_crossesWith 7 = .ok (.iload_n 2, 1) := by decide +kernel
theorem dX7_crossesWith_8 : decode cX7_crossesWith 8 = .ok (.invokevirtual 60, 3) := by decide +kernel
theorem dX7_crossesWith_11 : decode cX7_crossesWith 11 = .ok (.aload_n 0, 1) := by decide +kernel
theorem dX7_crossesWith_12 : decode cX7_crossesWith 12 = .ok (.iload_n 1, 1) := by decide +kernel
theorem dX7_crossesWith_13 : decode cX7_crossesWith 13 = .ok (.invokevirtual 64, 3) := by decide +kernel
theorem dX7_crossesWith_16 : decode cX7_crossesWith 16 = .ok (.aload_n 0, 1) := by decide +kernel
theorem dX7_crossesWith_17 : decode cX7_crossesWith 17 = .ok (.getfield 40, 3) := by decide +kernel
theorem dX7_crossesWith_20 : decode cX7_crossesWith 20 = .ok (.aload_n 0, 1) := by decide +kernel
theorem dX7_crossesWith_21 : decode cX7_crossesWith 21 = .ok (.aload_n 0, 1) := by decide +kernel
theorem dX7_crossesWith_22 : decode cX7_crossesWith 22 = .ok (.getfield 40, 3) := by decide +kernel
theorem dX7_crossesWith_25 : decode cX7_crossesWith 25 = .ok (.invokevirtual 67, 3) := by decide +kernel
theorem dX7_crossesWith_28 : decode cX7_crossesWith 28 = .ok (.invokestatic 70, 3) := by decide +kernel
theorem dX7_crossesWith_31 : decode cX7_crossesWith 31 = .ok (.ireturn, 1) := by decide +kernel
theorem dX7_crossesAs_0 : decode cX7_crossesAs 0 = .ok (.iload_n 2, 1) := by decide +kernel
theorem dX7_crossesAs_1 : decode cX7_crossesAs 1 = .ok (.aload_n 0, 1) := by decide +kernel
theorem dX7_crossesAs_2 : decode cX7_crossesAs 2 = .ok (.iload_n 1, 1) := by decide +kernel
theorem dX7_crossesAs_3 : decode cX7_crossesAs 3 = .ok (.iload_n 1, 1) := by decide +kernel
theorem dX7_crossesAs_4 : decode cX7_crossesAs 4 = .ok (.invokevirtual 60, 3) := by decide +kernel
theorem dX7_crossesAs_7 : decode cX7_crossesAs 7 = .ok (.iload_n 3, 1) := by decide +kernel
theorem dX7_crossesAs_8 : decode cX7_crossesAs 8 = .ok (.iload 4, 2) := by decide +kernel
theorem dX7_crossesAs_10 : decode cX7_crossesAs 10 = .ok (.aload_n 0, 1) := by decide +kernel
theorem dX7_crossesAs_11 : decode cX7_crossesAs 11 = .ok (.iload 4, 2) := by decide +kernel
theorem dX7_crossesAs_13 : decode cX7_crossesAs 13 = .ok (.invokevirtual 67, 3) := by decide +kernel
theorem dX7_crossesAs_16 : decode cX7_crossesAs 16 = .ok (.invokestatic 70, 3) := by decide +kernel
theorem dX7_crossesAs_19 : decode cX7_crossesAs 19 = .ok (.ireturn, 1) := by decide +kernel
theorem dX7_crossesIn_0 : decode cX7_crossesIn 0 = .ok (.aload_n 0, 1) := by decide +kernel
theorem dX7_crossesIn_1 : decode cX7_crossesIn 1 = .ok (.iload_n 1, 1) := by decide +kernel
theorem dX7_crossesIn_2 : decode cX7_crossesIn 2 = .ok (.invokevirtual 57, 3) := by decide +kernel
theorem dX7_crossesIn_5 : decode cX7_crossesIn 5 = .ok (.aload_n 0, 1) := by decide +kernel
theorem dX7_crossesIn_6 : decode cX7_crossesIn 6 = .ok (.iload_n 1, 1) := by decide +kernel
theorem dX7_crossesIn_7 : decode cX7_crossesIn 7 = .ok (.iload_n 1, 1) := by decide +kernel
theorem dX7_crossesIn_8 : decode cX7_crossesIn 8 = .ok (.invokevirtual 60, 3) := by decide +kernel
theorem dX7_crossesIn_11 : decode cX7_crossesIn 11 = .ok (.aload_n 0, 1) := by decide +kernel
theorem dX7_crossesIn_12 : decode cX7_crossesIn 12 = .ok (.iload_n 1, 1) := by decide +kernel
theorem dX7_crossesIn_13 : decode cX7_crossesIn 13 = .ok (.invokevirtual 64, 3) := by decide +kernel
theorem dX7_crossesIn_16 : decode cX7_crossesIn 16 = .ok (.iload_n 2, 1) := by decide +kernel
theorem dX7_crossesIn_17 : decode cX7_crossesIn 17 = .ok (.aload_n 0, 1) := by decide +kernel
theorem dX7_crossesIn_18 : decode cX7_crossesIn 18 = .ok (.iload_n 2, 1) := by decide +kernel
theorem dX7_crossesIn_19 : decode cX7_crossesIn 19 = .ok (.invokevirtual 67, 3) := by decide +kernel
theorem dX7_crossesIn_22 : decode cX7_crossesIn 22 = .ok (.invokestatic 70, 3) := by decide +kernel
theorem dX7_crossesIn_25 : decode cX7_crossesIn 25 = .ok (.ireturn, 1) := by decide +kernel
theorem dX7_about_0 : decode cX7_about 0 = .ok (.iload_n 2, 1) := by decide +kernel
theorem dX7_about_1 : decode cX7_about 1 = .ok (.tableswitch 103 0 6 #[43, 49, 58, 67, 73, 79, 89], 43) := by decide +kernel
theorem dX7_about_44 : decode cX7_about 44 = .ok (.aload_n 0, 1) := by decide +kernel
theorem dX7_about_45 : decode cX7_about 45 = .ok (.iload_n 1, 1) := by decide +kernel
theorem dX7_about_46 : decode cX7_about 46 = .ok (.invokevirtual 57, 3) := by decide +kernel
theorem dX7_about_49 : decode cX7_about 49 = .ok (.ireturn, 1) := by decide +kernel
theorem dX7_about_50 : decode cX7_about 50 = .ok (.aload_n 0, 1) := by decide +kernel
theorem dX7_about_51 : decode cX7_about 51 = .ok (.getfield 18, 3) := by decide +kernel
theorem dX7_about_54 : decode cX7_about 54 = .ok (.iload_n 1, 1) := by decide +kernel
theorem dX7_about_55 : decode cX7_about 55 = .ok (.invokestatic 47, 3) := by decide +kernel
theorem dX7_about_58 : decode cX7_about 58 = .ok (.ireturn, 1) := by decide +kernel
theorem dX7_about_59 : decode cX7_about 59 = .ok (.aload_n 0, 1) := by decide +kernel
theorem dX7_about_60 : decode cX7_about 60 = .ok (.getfield 21, 3) := by decide +kernel
theorem dX7_about_63 : decode cX7_about 63 = .ok (.iload_n 1, 1) := by decide +kernel
theorem dX7_about_64 : decode cX7_about 64 = .ok (.invokestatic 47, 3) := by decide +kernel
theorem dX7_about_67 : decode cX7_about 67 = .ok (.ireturn, 1) := by decide +kernel
theorem dX7_about_68 : decode cX7_about 68 = .ok (.aload_n 0, 1) := by decide +kernel
theorem dX7_about_69 : decode cX7_about 69 = .ok (.iload_n 1, 1) := by decide +kernel
theorem dX7_about_70 : decode cX7_about 70 = .ok (.invokevirtual 64, 3) := by decide +kernel
theorem dX7_about_73 : decode cX7_about 73 = .ok (.ireturn, 1) := by decide +kernel
theorem dX7_about_74 : decode cX7_about 74 = .ok (.aload_n 0, 1) := by decide +kernel
theorem dX7_about_75 : decode cX7_about 75 = .ok (.iload_n 1, 1) := by decide +kernel
theorem dX7_about_76 : decode cX7_about 76 = .ok (.invokevirtual 74, 3) := by decide +kernel
theorem dX7_about_79 : decode cX7_about 79 = .ok (.ireturn, 1) := by decide +kernel
theorem dX7_about_80 : decode cX7_about 80 = .ok (.aload_n 0, 1) := by decide +kernel
theorem dX7_about_81 : decode cX7_about 81 = .ok (.iload_n 1, 1) := by decide +kernel
theorem dX7_about_82 : decode cX7_about 82 = .ok (.aload_n 0, 1) := by decide +kernel
theorem dX7_about_83 : decode cX7_about 83 = .ok (.getfield 40, 3) := by decide +kernel
theorem dX7_about_86 : decode cX7_about 86 = .ok (.invokevirtual 77, 3) := by decide +kernel
theorem dX7_about_89 : decode cX7_about 89 = .ok (.ireturn, 1) := by decide +kernel
theorem dX7_about_90 : decode cX7_about 90 = .ok (.aload_n 0, 1) := by decide +kernel
theorem dX7_about_91 : decode cX7_about 91 = .ok (.iload_n 1, 1) := by decide +kernel
theorem dX7_about_92 : decode cX7_about 92 = .ok (.invokevirtual 57, 3) := by decide +kernel
theorem dX7_about_95 : decode cX7_about 95 = .ok (.aload_n 0, 1) := by decide +kernel
theorem dX7_about_96 : decode cX7_about 96 = .ok (.iload_n 1, 1) := by decide +kernel
theorem dX7_about_97 : decode cX7_about 97 = .ok (.invokevirtual 64, 3) := by decide +kernel
theorem dX7_about_100 : decode cX7_about 100 = .ok (.invokestatic 80, 3) := by decide +kernel
theorem dX7_about_103 : decode cX7_about 103 = .ok (.ireturn, 1) := by decide +kernel
theorem dX7_about_104 : decode cX7_about 104 = .ok (.aload_n 0, 1) := by decide +kernel
theorem dX7_about_105 : decode cX7_about 105 = .ok (.getfield 30, 3) := by decide +kernel
theorem dX7_about_108 : decode cX7_about 108 = .ok (.iload_n 1, 1) := by decide +kernel
theorem dX7_about_109 : decode cX7_about 109 = .ok (.invokestatic 47, 3) := by decide +kernel
theorem dX7_about_112 : decode cX7_about 112 = .ok (.ireturn, 1) := by decide +kernel
theorem dX7_wouldBeFound_0 : decode cX7_wouldBeFound 0 = .ok (.aload_n 0, 1) := by decide +kernel
theorem dX7_wouldBeFound_1 : decode cX7_wouldBeFound 1 = .ok (.iload_n 1, 1) := by decide +kernel
theorem dX7_wouldBeFound_2 : decode cX7_wouldBeFound 2 = .ok (.invokevirtual 83, 3) := by decide +kernel
theorem dX7_wouldBeFound_5 : decode cX7_wouldBeFound 5 = .ok (.ifCond .eq 22, 3) := by decide +kernel
theorem dX7_wouldBeFound_8 : decode cX7_wouldBeFound 8 = .ok (.aload_n 0, 1) := by decide +kernel
theorem dX7_wouldBeFound_9 : decode cX7_wouldBeFound 9 = .ok (.getfield 27, 3) := by decide +kernel
theorem dX7_wouldBeFound_12 : decode cX7_wouldBeFound 12 = .ok (.iload_n 1, 1) := by decide +kernel
theorem dX7_wouldBeFound_13 : decode cX7_wouldBeFound 13 = .ok (.invokestatic 47, 3) := by decide +kernel
theorem dX7_wouldBeFound_16 : decode cX7_wouldBeFound 16 = .ok (.aload_n 0, 1) := by decide +kernel
theorem dX7_wouldBeFound_17 : decode cX7_wouldBeFound 17 = .ok (.getfield 33, 3) := by decide +kernel
theorem dX7_wouldBeFound_20 : decode cX7_wouldBeFound 20 = .ok (.if_icmp .lt 7, 3) := by decide +kernel
theorem dX7_wouldBeFound_23 : decode cX7_wouldBeFound 23 = .ok (.iconst 1, 1) := by decide +kernel
theorem dX7_wouldBeFound_24 : decode cX7_wouldBeFound 24 = .ok (.goto 4, 3) := by decide +kernel
theorem dX7_wouldBeFound_27 : decode cX7_wouldBeFound 27 = .ok (.iconst 0, 1) := by decide +kernel
theorem dX7_wouldBeFound_28 : decode cX7_wouldBeFound 28 = .ok (.ireturn, 1) := by decide +kernel
theorem dX7_wouldBeFoundBits_0 : decode cX7_wouldBeFoundBits 0 = .ok (.iconst 0, 1) := by decide +kernel
theorem dX7_wouldBeFoundBits_1 : decode cX7_wouldBeFoundBits 1 = .ok (.istore_n 1, 1) := by decide +kernel
theorem dX7_wouldBeFoundBits_2 : decode cX7_wouldBeFoundBits 2 = .ok (.iconst 0, 1) := by decide +kernel
theorem dX7_wouldBeFoundBits_3 : decode cX7_wouldBeFoundBits 3 = .ok (.istore_n 2, 1) := by decide +kernel
theorem dX7_wouldBeFoundBits_4 : decode cX7_wouldBeFoundBits 4 = .ok (.iload_n 2, 1) := by decide +kernel
theorem dX7_wouldBeFoundBits_5 : decode cX7_wouldBeFoundBits 5 = .ok (.aload_n 0, 1) := by decide +kernel
theorem dX7_wouldBeFoundBits_6 : decode cX7_wouldBeFoundBits 6 = .ok (.getfield 37, 3) := by decide +kernel
theorem dX7_wouldBeFoundBits_9 : decode cX7_wouldBeFoundBits 9 = .ok (.if_icmp .ge 27, 3) := by decide +kernel
theorem dX7_wouldBeFoundBits_12 : decode cX7_wouldBeFoundBits 12 = .ok (.iload_n 1, 1) := by decide +kernel
theorem dX7_wouldBeFoundBits_13 : decode cX7_wouldBeFoundBits 13 = .ok (.aload_n 0, 1) := by decide +kernel
theorem dX7_wouldBeFoundBits_14 : decode cX7_wouldBeFoundBits 14 = .ok (.iload_n 2, 1) := by decide +kernel
theorem dX7_wouldBeFoundBits_15 : decode cX7_wouldBeFoundBits 15 = .ok (.invokevirtual 87, 3) := by decide +kernel
theorem dX7_wouldBeFoundBits_18 : decode cX7_wouldBeFoundBits 18 = .ok (.ifCond .eq 9, 3) := by decide +kernel
theorem dX7_wouldBeFoundBits_21 : decode cX7_wouldBeFoundBits 21 = .ok (.iconst 1, 1) := by decide +kernel
theorem dX7_wouldBeFoundBits_22 : decode cX7_wouldBeFoundBits 22 = .ok (.iload_n 2, 1) := by decide +kernel
theorem dX7_wouldBeFoundBits_23 : decode cX7_wouldBeFoundBits 23 = .ok (.ishl, 1) := by decide +kernel
theorem dX7_wouldBeFoundBits_24 : decode cX7_wouldBeFoundBits 24 = .ok (.goto 4, 3) := by decide +kernel
theorem dX7_wouldBeFoundBits_27 : decode cX7_wouldBeFoundBits 27 = .ok (.iconst 0, 1) := by decide +kernel
theorem dX7_wouldBeFoundBits_28 : decode cX7_wouldBeFoundBits 28 = .ok (.ior, 1) := by decide +kernel
theorem dX7_wouldBeFoundBits_29 : decode cX7_wouldBeFoundBits 29 = .ok (.istore_n 1, 1) := by decide +kernel
theorem dX7_wouldBeFoundBits_30 : decode cX7_wouldBeFoundBits 30 = .ok (.iinc 2 1, 3) := by decide +kernel
theorem dX7_wouldBeFoundBits_33 : decode cX7_wouldBeFoundBits 33 = .ok (.goto (-29), 3) := by decide +kernel
theorem dX7_wouldBeFoundBits_36 : decode cX7_wouldBeFoundBits 36 = .ok (.iload_n 1, 1) := by decide +kernel
theorem dX7_wouldBeFoundBits_37 : decode cX7_wouldBeFoundBits 37 = .ok (.ireturn, 1) := by decide +kernel
theorem dX7_fines_0 : decode cX7_fines 0 = .ok (.iconst 0, 1) := by decide +kernel
theorem dX7_fines_1 : decode cX7_fines 1 = .ok (.istore_n 1, 1) := by decide +kernel
theorem dX7_fines_2 : decode cX7_fines 2 = .ok (.iconst 0, 1) := by decide +kernel
theorem dX7_fines_3 : decode cX7_fines 3 = .ok (.istore_n 2, 1) := by decide +kernel
theorem dX7_fines_4 : decode cX7_fines 4 = .ok (.iload_n 2, 1) := by decide +kernel
theorem dX7_fines_5 : decode cX7_fines 5 = .ok (.aload_n 0, 1) := by decide +kernel
theorem dX7_fines_6 : decode cX7_fines 6 = .ok (.getfield 37, 3) := by decide +kernel
theorem dX7_fines_9 : decode cX7_fines 9 = .ok (.if_icmp .ge 20, 3) := by decide +kernel
theorem dX7_fines_12 : decode cX7_fines 12 = .ok (.iload_n 1, 1) := by decide +kernel
theorem dX7_fines_13 : decode cX7_fines 13 = .ok (.aload_n 0, 1) := by decide +kernel
theorem dX7_fines_14 : decode cX7_fines 14 = .ok (.getfield 30, 3) := by decide +kernel
theorem dX7_fines_17 : decode cX7_fines 17 = .ok (.iload_n 2, 1) := by decide +kernel
theorem dX7_fines_18 : decode cX7_fines 18 = .ok (.invokestatic 47, 3) := by decide +kernel
theorem dX7_fines_21 : decode cX7_fines 21 = .ok (.iadd, 1) := by decide +kernel
theorem dX7_fines_22 : decode cX7_fines 22 = .ok (.istore_n 1, 1) := by decide +kernel
theorem dX7_fines_23 : decode cX7_fines 23 = .ok (.iinc 2 1, 3) := by decide +kernel
theorem dX7_fines_26 : decode cX7_fines 26 = .ok (.goto (-22), 3) := by decide +kernel
theorem dX7_fines_29 : decode cX7_fines 29 = .ok (.iload_n 1, 1) := by decide +kernel
theorem dX7_fines_30 : decode cX7_fines 30 = .ok (.ireturn, 1) := by decide +kernel
theorem dX7_liesInAll_0 : decode cX7_liesInAll 0 = .ok (.iconst 0, 1) := by decide +kernel
theorem dX7_liesInAll_1 : decode cX7_liesInAll 1 = .ok (.istore_n 1, 1) := by decide +kernel
theorem dX7_liesInAll_2 : decode cX7_liesInAll 2 = .ok (.iconst 0, 1) := by decide +kernel
theorem dX7_liesInAll_3 : decode cX7_liesInAll 3 = .ok (.istore_n 2, 1) := by decide +kernel
theorem dX7_liesInAll_4 : decode cX7_liesInAll 4 = .ok (.iload_n 2, 1) := by decide +kernel
theorem dX7_liesInAll_5 : decode cX7_liesInAll 5 = .ok (.aload_n 0, 1) := by decide +kernel
theorem dX7_liesInAll_6 : decode cX7_liesInAll 6 = .ok (.getfield 37, 3) := by decide +kernel
theorem dX7_liesInAll_9 : decode cX7_liesInAll 9 = .ok (.if_icmp .ge 17, 3) := by decide +kernel
theorem dX7_liesInAll_12 : decode cX7_liesInAll 12 = .ok (.iload_n 1, 1) := by decide +kernel
theorem dX7_liesInAll_13 : decode cX7_liesInAll 13 = .ok (.aload_n 0, 1) := by decide +kernel
theorem dX7_liesInAll_14 : decode cX7_liesInAll 14 = .ok (.iload_n 2, 1) := by decide +kernel
theorem dX7_liesInAll_15 : decode cX7_liesInAll 15 = .ok (.invokevirtual 74, 3) := by decide +kernel
theorem dX7_liesInAll_18 : decode cX7_liesInAll 18 = .ok (.iadd, 1) := by decide +kernel
theorem dX7_liesInAll_19 : decode cX7_liesInAll 19 = .ok (.istore_n 1, 1) := by decide +kernel
theorem dX7_liesInAll_20 : decode cX7_liesInAll 20 = .ok (.iinc 2 1, 3) := by decide +kernel
theorem dX7_liesInAll_23 : decode cX7_liesInAll 23 = .ok (.goto (-19), 3) := by decide +kernel
theorem dX7_liesInAll_26 : decode cX7_liesInAll 26 = .ok (.iload_n 1, 1) := by decide +kernel
theorem dX7_liesInAll_27 : decode cX7_liesInAll 27 = .ok (.ireturn, 1) := by decide +kernel
theorem dX7_quilts_0 : decode cX7_quilts 0 = .ok (.iconst 0, 1) := by decide +kernel
theorem dX7_quilts_1 : decode cX7_quilts 1 = .ok (.istore_n 1, 1) := by decide +kernel
theorem dX7_quilts_2 : decode cX7_quilts 2 = .ok (.iconst 0, 1) := by decide +kernel
theorem dX7_quilts_3 : decode cX7_quilts 3 = .ok (.istore_n 2, 1) := by decide +kernel
theorem dX7_quilts_4 : decode cX7_quilts 4 = .ok (.iload_n 2, 1) := by decide +kernel
theorem dX7_quilts_5 : decode cX7_quilts 5 = .ok (.aload_n 0, 1) := by decide +kernel
theorem dX7_quilts_6 : decode cX7_quilts 6 = .ok (.getfield 37, 3) := by decide +kernel
theorem dX7_quilts_9 : decode cX7_quilts 9 = .ok (.if_icmp .ge 29, 3) := by decide +kernel
theorem dX7_quilts_12 : decode cX7_quilts 12 = .ok (.iload_n 1, 1) := by decide +kernel
theorem dX7_quilts_13 : decode cX7_quilts 13 = .ok (.aload_n 0, 1) := by decide +kernel
theorem dX7_quilts_14 : decode cX7_quilts 14 = .ok (.iload_n 2, 1) := by decide +kernel
theorem dX7_quilts_15 : decode cX7_quilts 15 = .ok (.invokevirtual 57, 3) := by decide +kernel
theorem dX7_quilts_18 : decode cX7_quilts 18 = .ok (.iconst 2, 1) := by decide +kernel
theorem dX7_quilts_19 : decode cX7_quilts 19 = .ok (.invokestatic 90, 3) := by decide +kernel
theorem dX7_quilts_22 : decode cX7_quilts 22 = .ok (.ifCond .eq 7, 3) := by decide +kernel
theorem dX7_quilts_25 : decode cX7_quilts 25 = .ok (.iconst 1, 1) := by decide +kernel
theorem dX7_quilts_26 : decode cX7_quilts 26 = .ok (.goto 4, 3) := by decide +kernel
theorem dX7_quilts_29 : decode cX7_quilts 29 = .ok (.iconst 0, 1) := by decide +kernel
theorem dX7_quilts_30 : decode cX7_quilts 30 = .ok (.iadd, 1) := by decide +kernel
theorem dX7_quilts_31 : decode cX7_quilts 31 = .ok (.istore_n 1, 1) := by decide +kernel
theorem dX7_quilts_32 : decode cX7_quilts 32 = .ok (.iinc 2 1, 3) := by decide +kernel
theorem dX7_quilts_35 : decode cX7_quilts 35 = .ok (.goto (-31), 3) := by decide +kernel
theorem dX7_quilts_38 : decode cX7_quilts 38 = .ok (.iload_n 1, 1) := by decide +kernel
theorem dX7_quilts_39 : decode cX7_quilts 39 = .ok (.ireturn, 1) := by decide +kernel
theorem dX7_mostLying_0 : decode cX7_mostLying 0 = .ok (.iconst 0, 1) := by decide +kernel
theorem dX7_mostLying_1 : decode cX7_mostLying 1 = .ok (.istore_n 2, 1) := by decide +kernel
theorem dX7_mostLying_2 : decode cX7_mostLying 2 = .ok (.iconst 0, 1) := by decide +kernel
theorem dX7_mostLying_3 : decode cX7_mostLying 3 = .ok (.istore_n 3, 1) := by decide +kernel
theorem dX7_mostLying_4 : decode cX7_mostLying 4 = .ok (.iload_n 3, 1) := by decide +kernel
theorem dX7_mostLying_5 : decode cX7_mostLying 5 = .ok (.aload_n 0, 1) := by decide +kernel
theorem dX7_mostLying_6 : decode cX7_mostLying 6 = .ok (.getfield 37, 3) := by decide +kernel
theorem dX7_mostLying_9 : decode cX7_mostLying 9 = .ok (.if_icmp .ge 32, 3) := by decide +kernel
theorem dX7_mostLying_12 : decode cX7_mostLying 12 = .ok (.iload_n 1, 1) := by decide +kernel
theorem dX7_mostLying_13 : decode cX7_mostLying 13 = .ok (.iload_n 3, 1) := by decide +kernel
theorem dX7_mostLying_14 : decode cX7_mostLying 14 = .ok (.ishr, 1) := by decide +kernel
theorem dX7_mostLying_15 : decode cX7_mostLying 15 = .ok (.iconst 1, 1) := by decide +kernel
theorem dX7_mostLying_16 : decode cX7_mostLying 16 = .ok (.iand, 1) := by decide +kernel
theorem dX7_mostLying_17 : decode cX7_mostLying 17 = .ok (.iconst 1, 1) := by decide +kernel
theorem dX7_mostLying_18 : decode cX7_mostLying 18 = .ok (.if_icmp .ne 15, 3) := by decide +kernel
theorem dX7_mostLying_21 : decode cX7_mostLying 21 = .ok (.iload_n 2, 1) := by decide +kernel
theorem dX7_mostLying_22 : decode cX7_mostLying 22 = .ok (.aload_n 0, 1) := by decide +kernel
theorem dX7_mostLying_23 : decode cX7_mostLying 23 = .ok (.iload_n 3, 1) := by decide +kernel
theorem dX7_mostLying_24 : decode cX7_mostLying 24 = .ok (.invokevirtual 74, 3) := by decide +kernel
theorem dX7_mostLying_27 : decode cX7_mostLying 27 = .ok (.invokestatic 94, 3) := by decide +kernel
theorem dX7_mostLying_30 : decode cX7_mostLying 30 = .ok (.goto 4, 3) := by decide +kernel
theorem dX7_mostLying_33 : decode cX7_mostLying 33 = .ok (.iload_n 2, 1) := by decide +kernel
theorem dX7_mostLying_34 : decode cX7_mostLying 34 = .ok (.istore_n 2, 1) := by decide +kernel
theorem dX7_mostLying_35 : decode cX7_mostLying 35 = .ok (.iinc 3 1, 3) := by decide +kernel
theorem dX7_mostLying_38 : decode cX7_mostLying 38 = .ok (.goto (-34), 3) := by decide +kernel
theorem dX7_mostLying_41 : decode cX7_mostLying 41 = .ok (.iload_n 2, 1) := by decide +kernel
theorem dX7_mostLying_42 : decode cX7_mostLying 42 = .ok (.ireturn, 1) := by decide +kernel
theorem dX7_carryOut_0 : decode cX7_carryOut 0 = .ok (.iload_n 1, 1) := by decide +kernel
theorem dX7_carryOut_1 : decode cX7_carryOut 1 = .ok (.bipush 10, 2) := by decide +kernel
theorem dX7_carryOut_3 : decode cX7_carryOut 3 = .ok (.idiv, 1) := by decide +kernel
theorem dX7_carryOut_4 : decode cX7_carryOut 4 = .ok (.bipush 10, 2) := by decide +kernel
theorem dX7_carryOut_6 : decode cX7_carryOut 6 = .ok (.irem, 1) := by decide +kernel
theorem dX7_carryOut_7 : decode cX7_carryOut 7 = .ok (.istore_n 2, 1) := by decide +kernel
theorem dX7_carryOut_8 : decode cX7_carryOut 8 = .ok (.iload_n 1, 1) := by decide +kernel
theorem dX7_carryOut_9 : decode cX7_carryOut 9 = .ok (.bipush 100, 2) := by decide +kernel
theorem dX7_carryOut_11 : decode cX7_carryOut 11 = .ok (.idiv, 1) := by decide +kernel
theorem dX7_carryOut_12 : decode cX7_carryOut 12 = .ok (.tableswitch 62 1 3 #[28, 34, 46], 28) := by decide +kernel
theorem dX7_carryOut_40 : decode cX7_carryOut 40 = .ok (.aload_n 0, 1) := by decide +kernel
theorem dX7_carryOut_41 : decode cX7_carryOut 41 = .ok (.iload_n 2, 1) := by decide +kernel
theorem dX7_carryOut_42 : decode cX7_carryOut 42 = .ok (.invokevirtual 97, 3) := by decide +kernel
theorem dX7_carryOut_45 : decode cX7_carryOut 45 = .ok (.ireturn, 1) := by decide +kernel
theorem dX7_carryOut_46 : decode cX7_carryOut 46 = .ok (.aload_n 0, 1) := by decide +kernel
theorem dX7_carryOut_47 : decode cX7_carryOut 47 = .ok (.iload_n 2, 1) := by decide +kernel
theorem dX7_carryOut_48 : decode cX7_carryOut 48 = .ok (.iconst 1, 1) := by decide +kernel
theorem dX7_carryOut_49 : decode cX7_carryOut 49 = .ok (.invokevirtual 100, 3) := by decide +kernel
theorem dX7_carryOut_52 : decode cX7_carryOut 52 = .ok (.aload_n 0, 1) := by decide +kernel
theorem dX7_carryOut_53 : decode cX7_carryOut 53 = .ok (.iload_n 2, 1) := by decide +kernel
theorem dX7_carryOut_54 : decode cX7_carryOut 54 = .ok (.invokevirtual 64, 3) := by decide +kernel
theorem dX7_carryOut_57 : decode cX7_carryOut 57 = .ok (.ireturn, 1) := by decide +kernel
theorem dX7_carryOut_58 : decode cX7_carryOut 58 = .ok (.aload_n 0, 1) := by decide +kernel
theorem dX7_carryOut_59 : decode cX7_carryOut 59 = .ok (.iload_n 2, 1) := by decide +kernel
theorem dX7_carryOut_60 : decode cX7_carryOut 60 = .ok (.iload_n 1, 1) := by decide +kernel
theorem dX7_carryOut_61 : decode cX7_carryOut 61 = .ok (.bipush 10, 2) := by decide +kernel
theorem dX7_carryOut_63 : decode cX7_carryOut 63 = .ok (.irem, 1) := by decide +kernel
theorem dX7_carryOut_64 : decode cX7_carryOut 64 = .ok (.invokevirtual 104, 3) := by decide +kernel
theorem dX7_carryOut_67 : decode cX7_carryOut 67 = .ok (.aload_n 0, 1) := by decide +kernel
theorem dX7_carryOut_68 : decode cX7_carryOut 68 = .ok (.iload_n 2, 1) := by decide +kernel
theorem dX7_carryOut_69 : decode cX7_carryOut 69 = .ok (.iload_n 2, 1) := by decide +kernel
theorem dX7_carryOut_70 : decode cX7_carryOut 70 = .ok (.invokevirtual 60, 3) := by decide +kernel
theorem dX7_carryOut_73 : decode cX7_carryOut 73 = .ok (.ireturn, 1) := by decide +kernel
theorem dX7_carryOut_74 : decode cX7_carryOut 74 = .ok (.aload_n 0, 1) := by decide +kernel
theorem dX7_carryOut_75 : decode cX7_carryOut 75 = .ok (.invokevirtual 107, 3) := by decide +kernel
theorem dX7_carryOut_78 : decode cX7_carryOut 78 = .ok (.ireturn, 1) := by decide +kernel
theorem dX7_passNight_0 : decode cX7_passNight 0 = .ok (.iconst 0, 1) := by decide +kernel
theorem dX7_passNight_1 : decode cX7_passNight 1 = .ok (.istore_n 1, 1) := by decide +kernel
theorem dX7_passNight_2 : decode cX7_passNight 2 = .ok (.iconst 0, 1) := by decide +kernel
theorem dX7_passNight_3 : decode cX7_passNight 3 = .ok (.istore_n 2, 1) := by decide +kernel
theorem dX7_passNight_4 : decode cX7_passNight 4 = .ok (.iload_n 2, 1) := by decide +kernel
theorem dX7_passNight_5 : decode cX7_passNight 5 = .ok (.aload_n 0, 1) := by decide +kernel
theorem dX7_passNight_6 : decode cX7_passNight 6 = .ok (.getfield 37, 3) := by decide +kernel
theorem dX7_passNight_9 : decode cX7_passNight 9 = .ok (.if_icmp .ge 17, 3) := by decide +kernel
theorem dX7_passNight_12 : decode cX7_passNight 12 = .ok (.iload_n 1, 1) := by decide +kernel
theorem dX7_passNight_13 : decode cX7_passNight 13 = .ok (.aload_n 0, 1) := by decide +kernel
theorem dX7_passNight_14 : decode cX7_passNight 14 = .ok (.iload_n 2, 1) := by decide +kernel
theorem dX7_passNight_15 : decode cX7_passNight 15 = .ok (.invokevirtual 111, 3) := by decide +kernel
theorem dX7_passNight_18 : decode cX7_passNight 18 = .ok (.iadd, 1) := by decide +kernel
theorem dX7_passNight_19 : decode cX7_passNight 19 = .ok (.istore_n 1, 1) := by decide +kernel
theorem dX7_passNight_20 : decode cX7_passNight 20 = .ok (.iinc 2 1, 3) := by decide +kernel
theorem dX7_passNight_23 : decode cX7_passNight 23 = .ok (.goto (-19), 3) := by decide +kernel
theorem dX7_passNight_26 : decode cX7_passNight 26 = .ok (.aload_n 0, 1) := by decide +kernel
theorem dX7_passNight_27 : decode cX7_passNight 27 = .ok (.dup, 1) := by decide +kernel
theorem dX7_passNight_28 : decode cX7_passNight 28 = .ok (.getfield 40, 3) := by decide +kernel
theorem dX7_passNight_31 : decode cX7_passNight 31 = .ok (.iconst 1, 1) := by decide +kernel
theorem dX7_passNight_32 : decode cX7_passNight 32 = .ok (.iadd, 1) := by decide +kernel
theorem dX7_passNight_33 : decode cX7_passNight 33 = .ok (.putfield 40, 3) := by decide +kernel
theorem dX7_passNight_36 : decode cX7_passNight 36 = .ok (.iload_n 1, 1) := by decide +kernel
theorem dX7_passNight_37 : decode cX7_passNight 37 = .ok (.ireturn, 1) := by decide +kernel
theorem dX7_passAlone_0 : decode cX7_passAlone 0 = .ok (.iconst 0, 1) := by decide +kernel
theorem dX7_passAlone_1 : decode cX7_passAlone 1 = .ok (.istore_n 3, 1) := by decide +kernel
theorem dX7_passAlone_2 : decode cX7_passAlone 2 = .ok (.iload_n 3, 1) := by decide +kernel
theorem dX7_passAlone_3 : decode cX7_passAlone 3 = .ok (.iload_n 2, 1) := by decide +kernel
theorem dX7_passAlone_4 : decode cX7_passAlone 4 = .ok (.if_icmp .ge 25, 3) := by decide +kernel
theorem dX7_passAlone_7 : decode cX7_passAlone 7 = .ok (.aload_n 0, 1) := by decide +kernel
theorem dX7_passAlone_8 : decode cX7_passAlone 8 = .ok (.iload_n 1, 1) := by decide +kernel
theorem dX7_passAlone_9 : decode cX7_passAlone 9 = .ok (.invokevirtual 111, 3) := by decide +kernel
theorem dX7_passAlone_12 : decode cX7_passAlone 12 = .ok (.pop, 1) := by decide +kernel
theorem dX7_passAlone_13 : decode cX7_passAlone 13 = .ok (.aload_n 0, 1) := by decide +kernel
theorem dX7_passAlone_14 : decode cX7_passAlone 14 = .ok (.dup, 1) := by decide +kernel
theorem dX7_passAlone_15 : decode cX7_passAlone 15 = .ok (.getfield 40, 3) := by decide +kernel
theorem dX7_passAlone_18 : decode cX7_passAlone 18 = .ok (.iconst 1, 1) := by decide +kernel
theorem dX7_passAlone_19 : decode cX7_passAlone 19 = .ok (.iadd, 1) := by decide +kernel
theorem dX7_passAlone_20 : decode cX7_passAlone 20 = .ok (.putfield 40, 3) := by decide +kernel
theorem dX7_passAlone_23 : decode cX7_passAlone 23 = .ok (.iinc 3 1, 3) := by decide +kernel
theorem dX7_passAlone_26 : decode cX7_passAlone 26 = .ok (.goto (-24), 3) := by decide +kernel
theorem dX7_passAlone_29 : decode cX7_passAlone 29 = .ok (.return_, 1) := by decide +kernel
theorem dX7_sleepIn_0 : decode cX7_sleepIn 0 = .ok (.aload_n 0, 1) := by decide +kernel
theorem dX7_sleepIn_1 : decode cX7_sleepIn 1 = .ok (.iload_n 1, 1) := by decide +kernel
theorem dX7_sleepIn_2 : decode cX7_sleepIn 2 = .ok (.invokevirtual 57, 3) := by decide +kernel
theorem dX7_sleepIn_5 : decode cX7_sleepIn 5 = .ok (.aload_n 0, 1) := by decide +kernel
theorem dX7_sleepIn_6 : decode cX7_sleepIn 6 = .ok (.iload_n 1, 1) := by decide +kernel
theorem dX7_sleepIn_7 : decode cX7_sleepIn 7 = .ok (.iload_n 1, 1) := by decide +kernel
theorem dX7_sleepIn_8 : decode cX7_sleepIn 8 = .ok (.invokevirtual 60, 3) := by decide +kernel
theorem dX7_sleepIn_11 : decode cX7_sleepIn 11 = .ok (.aload_n 0, 1) := by decide +kernel
theorem dX7_sleepIn_12 : decode cX7_sleepIn 12 = .ok (.iload_n 1, 1) := by decide +kernel
theorem dX7_sleepIn_13 : decode cX7_sleepIn 13 = .ok (.invokevirtual 64, 3) := by decide +kernel
theorem dX7_sleepIn_16 : decode cX7_sleepIn 16 = .ok (.aload_n 0, 1) := by decide +kernel
theorem dX7_sleepIn_17 : decode cX7_sleepIn 17 = .ok (.getfield 40, 3) := by decide +kernel
theorem dX7_sleepIn_20 : decode cX7_sleepIn 20 = .ok (.aload_n 0, 1) := by decide +kernel
theorem dX7_sleepIn_21 : decode cX7_sleepIn 21 = .ok (.aload_n 0, 1) := by decide +kernel
theorem dX7_sleepIn_22 : decode cX7_sleepIn 22 = .ok (.getfield 40, 3) := by decide +kernel
theorem dX7_sleepIn_25 : decode cX7_sleepIn 25 = .ok (.invokevirtual 67, 3) := by decide +kernel
theorem dX7_sleepIn_28 : decode cX7_sleepIn 28 = .ok (.invokestatic 70, 3) := by decide +kernel
theorem dX7_sleepIn_31 : decode cX7_sleepIn 31 = .ok (.istore_n 2, 1) := by decide +kernel
theorem dX7_sleepIn_32 : decode cX7_sleepIn 32 = .ok (.aload_n 0, 1) := by decide +kernel
theorem dX7_sleepIn_33 : decode cX7_sleepIn 33 = .ok (.getfield 27, 3) := by decide +kernel
theorem dX7_sleepIn_36 : decode cX7_sleepIn 36 = .ok (.iload_n 1, 1) := by decide +kernel
theorem dX7_sleepIn_37 : decode cX7_sleepIn 37 = .ok (.bipush 99, 2) := by decide +kernel
theorem dX7_sleepIn_39 : decode cX7_sleepIn 39 = .ok (.aload_n 0, 1) := by decide +kernel
theorem dX7_sleepIn_40 : decode cX7_sleepIn 40 = .ok (.iload_n 1, 1) := by decide +kernel
theorem dX7_sleepIn_41 : decode cX7_sleepIn 41 = .ok (.invokevirtual 74, 3) := by decide +kernel
theorem dX7_sleepIn_44 : decode cX7_sleepIn 44 = .ok (.iload_n 2, 1) := by decide +kernel
theorem dX7_sleepIn_45 : decode cX7_sleepIn 45 = .ok (.iadd, 1) := by decide +kernel
theorem dX7_sleepIn_46 : decode cX7_sleepIn 46 = .ok (.invokestatic 114, 3) := by decide +kernel
theorem dX7_sleepIn_49 : decode cX7_sleepIn 49 = .ok (.invokestatic 117, 3) := by decide +kernel
theorem dX7_sleepIn_52 : decode cX7_sleepIn 52 = .ok (.iload_n 2, 1) := by decide +kernel
theorem dX7_sleepIn_53 : decode cX7_sleepIn 53 = .ok (.iconst 3, 1) := by decide +kernel
theorem dX7_sleepIn_54 : decode cX7_sleepIn 54 = .ok (.if_icmp .lt 9, 3) := by decide +kernel
theorem dX7_sleepIn_57 : decode cX7_sleepIn 57 = .ok (.aload_n 0, 1) := by decide +kernel
theorem dX7_sleepIn_58 : decode cX7_sleepIn 58 = .ok (.iload_n 1, 1) := by decide +kernel
theorem dX7_sleepIn_59 : decode cX7_sleepIn 59 = .ok (.iconst 1, 1) := by decide +kernel
theorem dX7_sleepIn_60 : decode cX7_sleepIn 60 = .ok (.invokevirtual 100, 3) := by decide +kernel
theorem dX7_sleepIn_63 : decode cX7_sleepIn 63 = .ok (.iload_n 2, 1) := by decide +kernel
theorem dX7_sleepIn_64 : decode cX7_sleepIn 64 = .ok (.ireturn, 1) := by decide +kernel
theorem dX7_inspectBed_0 : decode cX7_inspectBed 0 = .ok (.aload_n 0, 1) := by decide +kernel
theorem dX7_inspectBed_1 : decode cX7_inspectBed 1 = .ok (.iload_n 1, 1) := by decide +kernel
theorem dX7_inspectBed_2 : decode cX7_inspectBed 2 = .ok (.invokevirtual 87, 3) := by decide +kernel
theorem dX7_inspectBed_5 : decode cX7_inspectBed 5 = .ok (.ifCond .ne 5, 3) := by decide +kernel
theorem dX7_inspectBed_8 : decode cX7_inspectBed 8 = .ok (.iconst 0, 1) := by decide +kernel
theorem dX7_inspectBed_9 : decode cX7_inspectBed 9 = .ok (.ireturn, 1) := by decide +kernel
theorem dX7_inspectBed_10 : decode cX7_inspectBed 10 = .ok (.aload_n 0, 1) := by decide +kernel
theorem dX7_inspectBed_11 : decode cX7_inspectBed 11 = .ok (.iload_n 1, 1) := by decide +kernel
theorem dX7_inspectBed_12 : decode cX7_inspectBed 12 = .ok (.invokevirtual 74, 3) := by decide +kernel
theorem dX7_inspectBed_15 : decode cX7_inspectBed 15 = .ok (.istore_n 2, 1) := by decide +kernel
theorem dX7_inspectBed_16 : decode cX7_inspectBed 16 = .ok (.aload_n 0, 1) := by decide +kernel
theorem dX7_inspectBed_17 : decode cX7_inspectBed 17 = .ok (.getfield 27, 3) := by decide +kernel
theorem dX7_inspectBed_20 : decode cX7_inspectBed 20 = .ok (.iload_n 1, 1) := by decide +kernel
theorem dX7_inspectBed_21 : decode cX7_inspectBed 21 = .ok (.iconst 0, 1) := by decide +kernel
theorem dX7_inspectBed_22 : decode cX7_inspectBed 22 = .ok (.invokestatic 117, 3) := by decide +kernel
theorem dX7_inspectBed_25 : decode cX7_inspectBed 25 = .ok (.aload_n 0, 1) := by decide +kernel
theorem dX7_inspectBed_26 : decode cX7_inspectBed 26 = .ok (.getfield 24, 3) := by decide +kernel
theorem dX7_inspectBed_29 : decode cX7_inspectBed 29 = .ok (.iload_n 1, 1) := by decide +kernel
theorem dX7_inspectBed_30 : decode cX7_inspectBed 30 = .ok (.bipush 9, 2) := by decide +kernel
theorem dX7_inspectBed_32 : decode cX7_inspectBed 32 = .ok (.invokestatic 117, 3) := by decide +kernel
theorem dX7_inspectBed_35 : decode cX7_inspectBed 35 = .ok (.aload_n 0, 1) := by decide +kernel
theorem dX7_inspectBed_36 : decode cX7_inspectBed 36 = .ok (.getfield 30, 3) := by decide +kernel
theorem dX7_inspectBed_39 : decode cX7_inspectBed 39 = .ok (.iload_n 1, 1) := by decide +kernel
theorem dX7_inspectBed_40 : decode cX7_inspectBed 40 = .ok (.aload_n 0, 1) := by decide +kernel
theorem dX7_inspectBed_41 : decode cX7_inspectBed 41 = .ok (.getfield 30, 3) := by decide +kernel
theorem dX7_inspectBed_44 : decode cX7_inspectBed 44 = .ok (.iload_n 1, 1) := by decide +kernel
theorem dX7_inspectBed_45 : decode cX7_inspectBed 45 = .ok (.invokestatic 47, 3) := by decide +kernel
theorem dX7_inspectBed_48 : decode cX7_inspectBed 48 = .ok (.iconst 1, 1) := by decide +kernel
theorem dX7_inspectBed_49 : decode cX7_inspectBed 49 = .ok (.iadd, 1) := by decide +kernel
theorem dX7_inspectBed_50 : decode cX7_inspectBed 50 = .ok (.invokestatic 117, 3) := by decide +kernel
theorem dX7_inspectBed_53 : decode cX7_inspectBed 53 = .ok (.iload_n 2, 1) := by decide +kernel
theorem dX7_inspectBed_54 : decode cX7_inspectBed 54 = .ok (.ireturn, 1) := by decide +kernel
theorem dX7_thinBed_0 : decode cX7_thinBed 0 = .ok (.aload_n 0, 1) := by decide +kernel
theorem dX7_thinBed_1 : decode cX7_thinBed 1 = .ok (.getfield 24, 3) := by decide +kernel
theorem dX7_thinBed_4 : decode cX7_thinBed 4 = .ok (.iload_n 1, 1) := by decide +kernel
theorem dX7_thinBed_5 : decode cX7_thinBed 5 = .ok (.iconst 0, 1) := by decide +kernel
theorem dX7_thinBed_6 : decode cX7_thinBed 6 = .ok (.aload_n 0, 1) := by decide +kernel
theorem dX7_thinBed_7 : decode cX7_thinBed 7 = .ok (.getfield 24, 3) := by decide +kernel
theorem dX7_thinBed_10 : decode cX7_thinBed 10 = .ok (.iload_n 1, 1) := by decide +kernel
theorem dX7_thinBed_11 : decode cX7_thinBed 11 = .ok (.invokestatic 47, 3) := by decide +kernel
theorem dX7_thinBed_14 : decode cX7_thinBed 14 = .ok (.iload_n 2, 1) := by decide +kernel
theorem dX7_thinBed_15 : decode cX7_thinBed 15 = .ok (.isub, 1) := by decide +kernel
theorem dX7_thinBed_16 : decode cX7_thinBed 16 = .ok (.invokestatic 94, 3) := by decide +kernel
theorem dX7_thinBed_19 : decode cX7_thinBed 19 = .ok (.invokestatic 117, 3) := by decide +kernel
theorem dX7_thinBed_22 : decode cX7_thinBed 22 = .ok (.return_, 1) := by decide +kernel
theorem dX7_swapRights_0 : decode cX7_swapRights 0 = .ok (.aload_n 0, 1) := by decide +kernel
theorem dX7_swapRights_1 : decode cX7_swapRights 1 = .ok (.getfield 21, 3) := by decide +kernel
theorem dX7_swapRights_4 : decode cX7_swapRights 4 = .ok (.iload_n 1, 1) := by decide +kernel
theorem dX7_swapRights_5 : decode cX7_swapRights 5 = .ok (.invokestatic 47, 3) := by decide +kernel
theorem dX7_swapRights_8 : decode cX7_swapRights 8 = .ok (.istore_n 3, 1) := by decide +kernel
theorem dX7_swapRights_9 : decode cX7_swapRights 9 = .ok (.aload_n 0, 1) := by decide +kernel
theorem dX7_swapRights_10 : decode cX7_swapRights 10 = .ok (.getfield 21, 3) := by decide +kernel
theorem dX7_swapRights_13 : decode cX7_swapRights 13 = .ok (.iload_n 1, 1) := by decide +kernel
theorem dX7_swapRights_14 : decode cX7_swapRights 14 = .ok (.aload_n 0, 1) := by decide +kernel
theorem dX7_swapRights_15 : decode cX7_swapRights 15 = .ok (.getfield 21, 3) := by decide +kernel
theorem dX7_swapRights_18 : decode cX7_swapRights 18 = .ok (.iload_n 2, 1) := by decide +kernel
theorem dX7_swapRights_19 : decode cX7_swapRights 19 = .ok (.invokestatic 47, 3) := by decide +kernel
theorem dX7_swapRights_22 : decode cX7_swapRights 22 = .ok (.invokestatic 117, 3) := by decide +kernel
theorem dX7_swapRights_25 : decode cX7_swapRights 25 = .ok (.aload_n 0, 1) := by decide +kernel
theorem dX7_swapRights_26 : decode cX7_swapRights 26 = .ok (.getfield 21, 3) := by decide +kernel
theorem dX7_swapRights_29 : decode cX7_swapRights 29 = .ok (.iload_n 2, 1) := by decide +kernel
theorem dX7_swapRights_30 : decode cX7_swapRights 30 = .ok (.iload_n 3, 1) := by decide +kernel
theorem dX7_swapRights_31 : decode cX7_swapRights 31 = .ok (.invokestatic 117, 3) := by decide +kernel
theorem dX7_swapRights_34 : decode cX7_swapRights 34 = .ok (.return_, 1) := by decide +kernel
theorem dX7_clearBeds_0 : decode cX7_clearBeds 0 = .ok (.aload_n 0, 1) := by decide +kernel
theorem dX7_clearBeds_1 : decode cX7_clearBeds 1 = .ok (.iconst 0, 1) := by decide +kernel
theorem dX7_clearBeds_2 : decode cX7_clearBeds 2 = .ok (.putfield 37, 3) := by decide +kernel
theorem dX7_clearBeds_5 : decode cX7_clearBeds 5 = .ok (.return_, 1) := by decide +kernel
theorem dX7_addBed_0 : decode cX7_addBed 0 = .ok (.aload_n 0, 1) := by decide +kernel
theorem dX7_addBed_1 : decode cX7_addBed 1 = .ok (.getfield 15, 3) := by decide +kernel
theorem dX7_addBed_4 : decode cX7_addBed 4 = .ok (.aload_n 0, 1) := by decide +kernel
theorem dX7_addBed_5 : decode cX7_addBed 5 = .ok (.getfield 37, 3) := by decide +kernel
theorem dX7_addBed_8 : decode cX7_addBed 8 = .ok (.iload_n 1, 1) := by decide +kernel
theorem dX7_addBed_9 : decode cX7_addBed 9 = .ok (.invokestatic 117, 3) := by decide +kernel
theorem dX7_addBed_12 : decode cX7_addBed 12 = .ok (.aload_n 0, 1) := by decide +kernel
theorem dX7_addBed_13 : decode cX7_addBed 13 = .ok (.getfield 18, 3) := by decide +kernel
theorem dX7_addBed_16 : decode cX7_addBed 16 = .ok (.aload_n 0, 1) := by decide +kernel
theorem dX7_addBed_17 : decode cX7_addBed 17 = .ok (.getfield 37, 3) := by decide +kernel
theorem dX7_addBed_20 : decode cX7_addBed 20 = .ok (.iload_n 2, 1) := by decide +kernel
theorem dX7_addBed_21 : decode cX7_addBed 21 = .ok (.invokestatic 117, 3) := by decide +kernel
theorem dX7_addBed_24 : decode cX7_addBed 24 = .ok (.aload_n 0, 1) := by decide +kernel
theorem dX7_addBed_25 : decode cX7_addBed 25 = .ok (.getfield 21, 3) := by decide +kernel
theorem dX7_addBed_28 : decode cX7_addBed 28 = .ok (.aload_n 0, 1) := by decide +kernel
theorem dX7_addBed_29 : decode cX7_addBed 29 = .ok (.getfield 37, 3) := by decide +kernel
theorem dX7_addBed_32 : decode cX7_addBed 32 = .ok (.iload_n 3, 1) := by decide +kernel
theorem dX7_addBed_33 : decode cX7_addBed 33 = .ok (.invokestatic 117, 3) := by decide +kernel
theorem dX7_addBed_36 : decode cX7_addBed 36 = .ok (.aload_n 0, 1) := by decide +kernel
theorem dX7_addBed_37 : decode cX7_addBed 37 = .ok (.getfield 24, 3) := by decide +kernel
theorem dX7_addBed_40 : decode cX7_addBed 40 = .ok (.aload_n 0, 1) := by decide +kernel
theorem dX7_addBed_41 : decode cX7_addBed 41 = .ok (.getfield 37, 3) := by decide +kernel
theorem dX7_addBed_44 : decode cX7_addBed 44 = .ok (.iload 4, 2) := by decide +kernel
theorem dX7_addBed_46 : decode cX7_addBed 46 = .ok (.invokestatic 117, 3) := by decide +kernel
theorem dX7_addBed_49 : decode cX7_addBed 49 = .ok (.aload_n 0, 1) := by decide +kernel
theorem dX7_addBed_50 : decode cX7_addBed 50 = .ok (.dup, 1) := by decide +kernel
theorem dX7_addBed_51 : decode cX7_addBed 51 = .ok (.getfield 37, 3) := by decide +kernel
theorem dX7_addBed_54 : decode cX7_addBed 54 = .ok (.iconst 1, 1) := by decide +kernel
theorem dX7_addBed_55 : decode cX7_addBed 55 = .ok (.iadd, 1) := by decide +kernel
theorem dX7_addBed_56 : decode cX7_addBed 56 = .ok (.putfield 37, 3) := by decide +kernel
theorem dX7_addBed_59 : decode cX7_addBed 59 = .ok (.return_, 1) := by decide +kernel
theorem dX8_init_0 : decode cX8_init 0 = .ok (.aload_n 0, 1) := by decide +kernel
theorem dX8_init_1 : decode cX8_init 1 = .ok (.invokespecial 1, 3) := by decide +kernel
theorem dX8_init_4 : decode cX8_init 4 = .ok (.aload_n 0, 1) := by decide +kernel
theorem dX8_init_5 : decode cX8_init 5 = .ok (.new 7, 3) := by decide +kernel
theorem dX8_init_8 : decode cX8_init 8 = .ok (.dup, 1) := by decide +kernel
theorem dX8_init_9 : decode cX8_init 9 = .ok (.bipush 6, 2) := by decide +kernel
theorem dX8_init_11 : decode cX8_init 11 = .ok (.bipush 40, 2) := by decide +kernel
theorem dX8_init_13 : decode cX8_init 13 = .ok (.invokespecial 11, 3) := by decide +kernel
theorem dX8_init_16 : decode cX8_init 16 = .ok (.putfield 14, 3) := by decide +kernel
theorem dX8_init_19 : decode cX8_init 19 = .ok (.aload_n 0, 1) := by decide +kernel
theorem dX8_init_20 : decode cX8_init 20 = .ok (.new 7, 3) := by decide +kernel
theorem dX8_init_23 : decode cX8_init 23 = .ok (.dup, 1) := by decide +kernel
theorem dX8_init_24 : decode cX8_init 24 = .ok (.iconst 4, 1) := by decide +kernel
theorem dX8_init_25 : decode cX8_init 25 = .ok (.bipush 60, 2) := by decide +kernel
theorem dX8_init_27 : decode cX8_init 27 = .ok (.invokespecial 11, 3) := by decide +kernel
theorem dX8_init_30 : decode cX8_init 30 = .ok (.putfield 18, 3) := by decide +kernel
theorem dX8_init_33 : decode cX8_init 33 = .ok (.aload_n 0, 1) := by decide +kernel
theorem dX8_init_34 : decode cX8_init 34 = .ok (.new 7, 3) := by decide +kernel
theorem dX8_init_37 : decode cX8_init 37 = .ok (.dup, 1) := by decide +kernel
theorem dX8_init_38 : decode cX8_init 38 = .ok (.iconst 3, 1) := by decide +kernel
theorem dX8_init_39 : decode cX8_init 39 = .ok (.bipush 40, 2) := by decide +kernel
theorem dX8_init_41 : decode cX8_init 41 = .ok (.invokespecial 11, 3) := by decide +kernel
theorem dX8_init_44 : decode cX8_init 44 = .ok (.putfield 21, 3) := by decide +kernel
theorem dX8_init_47 : decode cX8_init 47 = .ok (.aload_n 0, 1) := by decide +kernel
theorem dX8_init_48 : decode cX8_init 48 = .ok (.new 24, 3) := by decide +kernel
theorem dX8_init_51 : decode cX8_init 51 = .ok (.dup, 1) := by decide +kernel
theorem dX8_init_52 : decode cX8_init 52 = .ok (.invokespecial 26, 3) := by decide +kernel
theorem dX8_init_55 : decode cX8_init 55 = .ok (.putfield 27, 3) := by decide +kernel
theorem dX8_init_58 : decode cX8_init 58 = .ok (.aload_n 0, 1) := by decide +kernel
theorem dX8_init_59 : decode cX8_init 59 = .ok (.new 24, 3) := by decide +kernel
theorem dX8_init_62 : decode cX8_init 62 = .ok (.dup, 1) := by decide +kernel
theorem dX8_init_63 : decode cX8_init 63 = .ok (.invokespecial 26, 3) := by decide +kernel
theorem dX8_init_66 : decode cX8_init 66 = .ok (.putfield 31, 3) := by decide +kernel
theorem dX8_init_69 : decode cX8_init 69 = .ok (.aload_n 0, 1) := by decide +kernel
theorem dX8_init_70 : decode cX8_init 70 = .ok (.new 24, 3) := by decide +kernel
theorem dX8_init_73 : decode cX8_init 73 = .ok (.dup, 1) := by decide +kernel
theorem dX8_init_74 : decode cX8_init 74 = .ok (.invokespecial 26, 3) := by decide +kernel
theorem dX8_init_77 : decode cX8_init 77 = .ok (.putfield 34, 3) := by decide +kernel
theorem dX8_init_80 : decode cX8_init 80 = .ok (.aload_n 0, 1) := by decide +kernel
theorem dX8_init_81 : decode cX8_init 81 = .ok (.bipush 40, 2) := by decide +kernel
theorem dX8_init_83 : decode cX8_init 83 = .ok (.newarray .int, 2) := by decide +kernel
theorem dX8_init_85 : decode cX8_init 85 = .ok (.putfield 37, 3) := by decide +kernel
theorem dX8_init_88 : decode cX8_init 88 = .ok (.aload_n 0, 1) := by decide +kernel
theorem dX8_init_89 : decode cX8_init 89 = .ok (.iconst 0, 1) := by decide +kernel
theorem dX8_init_90 : decode cX8_init 90 = .ok (.putfield 41, 3) := by decide +kernel
theorem dX8_init_93 : decode cX8_init 93 = .ok (.aload_n 0, 1) := by decide +kernel
theorem dX8_init_94 : decode cX8_init 94 = .ok (.new 45, 3) := by decide +kernel
theorem dX8_init_97 : decode cX8_init 97 = .ok (.dup, 1) := by decide +kernel
theorem dX8_init_98 : decode cX8_init 98 = .ok (.invokespecial 47, 3) := by decide +kernel
theorem dX8_init_101 : decode cX8_init 101 = .ok (.putfield 48, 3) := by decide +kernel
theorem dX8_init_104 : decode cX8_init 104 = .ok (.aload_n 0, 1) := by decide +kernel
theorem dX8_init_105 : decode cX8_init 105 = .ok (.new 52, 3) := by decide +kernel
theorem dX8_init_108 : decode cX8_init 108 = .ok (.dup, 1) := by decide +kernel
theorem dX8_init_109 : decode cX8_init 109 = .ok (.invokespecial 54, 3) := by decide +kernel
theorem dX8_init_112 : decode cX8_init 112 = .ok (.putfield 55, 3) := by decide +kernel
theorem dX8_init_115 : decode cX8_init 115 = .ok (.aload_n 0, 1) := by decide +kernel
theorem dX8_init_116 : decode cX8_init 116 = .ok (.new 59, 3) := by decide +kernel
theorem dX8_init_119 : decode cX8_init 119 = .ok (.dup, 1) := by decide +kernel
theorem dX8_init_120 : decode cX8_init 120 = .ok (.invokespecial 61, 3) := by decide +kernel
theorem dX8_init_123 : decode cX8_init 123 = .ok (.putfield 62, 3) := by decide +kernel
theorem dX8_init_126 : decode cX8_init 126 = .ok (.aload_n 0, 1) := by decide +kernel
theorem dX8_init_127 : decode cX8_init 127 = .ok (.new 66, 3) := by decide +kernel
theorem dX8_init_130 : decode cX8_init 130 = .ok (.dup, 1) := by decide +kernel
theorem dX8_init_131 : decode cX8_init 131 = .ok (.invokespecial 68, 3) := by decide +kernel
theorem dX8_init_134 : decode cX8_init 134 = .ok (.putfield 69, 3) := by decide +kernel
theorem dX8_init_137 : decode cX8_init 137 = .ok (.aload_n 0, 1) := by decide +kernel
theorem dX8_init_138 : decode cX8_init 138 = .ok (.new 73, 3) := by decide +kernel
theorem dX8_init_141 : decode cX8_init 141 = .ok (.dup, 1) := by decide +kernel
theorem dX8_init_142 : decode cX8_init 142 = .ok (.invokespecial 75, 3) := by decide +kernel
theorem dX8_init_145 : decode cX8_init 145 = .ok (.putfield 76, 3) := by decide +kernel
theorem dX8_init_148 : decode cX8_init 148 = .ok (.aload_n 0, 1) := by decide +kernel
theorem dX8_init_149 : decode cX8_init 149 = .ok (.iconst 0, 1) := by decide +kernel
theorem dX8_init_150 : decode cX8_init 150 = .ok (.putfield 80, 3) := by decide +kernel
theorem dX8_init_153 : decode cX8_init 153 = .ok (.aload_n 0, 1) := by decide +kernel
theorem dX8_init_154 : decode cX8_init 154 = .ok (.lconst 0, 1) := by decide +kernel
theorem dX8_init_155 : decode cX8_init 155 = .ok (.putfield 83, 3) := by decide +kernel
theorem dX8_init_158 : decode cX8_init 158 = .ok (.aload_n 0, 1) := by decide +kernel
theorem dX8_init_159 : decode cX8_init 159 = .ok (.lconst 1, 1) := by decide +kernel
theorem dX8_init_160 : decode cX8_init 160 = .ok (.putfield 87, 3) := by decide +kernel
theorem dX8_init_163 : decode cX8_init 163 = .ok (.aload_n 0, 1) := by decide +kernel
theorem dX8_init_164 : decode cX8_init 164 = .ok (.iconst 0, 1) := by decide +kernel
theorem dX8_init_165 : decode cX8_init 165 = .ok (.putfield 90, 3) := by decide +kernel
theorem dX8_init_168 : decode cX8_init 168 = .ok (.aload_n 0, 1) := by decide +kernel
theorem dX8_init_169 : decode cX8_init 169 = .ok (.bipush 6, 2) := by decide +kernel
theorem dX8_init_171 : decode cX8_init 171 = .ok (.newarray .int, 2) := by decide +kernel
theorem dX8_init_173 : decode cX8_init 173 = .ok (.putfield 93, 3) := by decide +kernel
theorem dX8_init_176 : decode cX8_init 176 = .ok (.return_, 1) := by decide +kernel
