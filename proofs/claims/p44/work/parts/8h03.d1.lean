theorem dX0_init_0 : decode cX0_init 0 = .ok (.aload_n 0, 1) := by decide +kernel
theorem dX0_init_1 : decode cX0_init 1 = .ok (.invokespecial 3, 3) := by decide +kernel
theorem dX0_init_4 : decode cX0_init 4 = .ok (.aload_n 0, 1) := by decide +kernel
theorem dX0_init_5 : decode cX0_init 5 = .ok (.bipush 20, 2) := by decide +kernel
theorem dX0_init_7 : decode cX0_init 7 = .ok (.newarray .int, 2) := by decide +kernel
theorem dX0_init_9 : decode cX0_init 9 = .ok (.putfield 9, 3) := by decide +kernel
theorem dX0_init_12 : decode cX0_init 12 = .ok (.aload_n 0, 1) := by decide +kernel
theorem dX0_init_13 : decode cX0_init 13 = .ok (.bipush 20, 2) := by decide +kernel
theorem dX0_init_15 : decode cX0_init 15 = .ok (.newarray .int, 2) := by decide +kernel
theorem dX0_init_17 : decode cX0_init 17 = .ok (.putfield 15, 3) := by decide +kernel
theorem dX0_init_20 : decode cX0_init 20 = .ok (.aload_n 0, 1) := by decide +kernel
theorem dX0_init_21 : decode cX0_init 21 = .ok (.bipush 6, 2) := by decide +kernel
theorem dX0_init_23 : decode cX0_init 23 = .ok (.newarray .int, 2) := by decide +kernel
theorem dX0_init_25 : decode cX0_init 25 = .ok (.putfield 18, 3) := by decide +kernel
theorem dX0_init_28 : decode cX0_init 28 = .ok (.aload_n 0, 1) := by decide +kernel
theorem dX0_init_29 : decode cX0_init 29 = .ok (.bipush 31, 2) := by decide +kernel
theorem dX0_init_31 : decode cX0_init 31 = .ok (.newarray .int, 2) := by decide +kernel
theorem dX0_init_33 : decode cX0_init 33 = .ok (.putfield 21, 3) := by decide +kernel
theorem dX0_init_36 : decode cX0_init 36 = .ok (.aload_n 0, 1) := by decide +kernel
theorem dX0_init_37 : decode cX0_init 37 = .ok (.iconst 0, 1) := by decide +kernel
theorem dX0_init_38 : decode cX0_init 38 = .ok (.putfield 24, 3) := by decide +kernel
theorem dX0_init_41 : decode cX0_init 41 = .ok (.aload_n 0, 1) := by decide +kernel
theorem dX0_init_42 : decode cX0_init 42 = .ok (.iconst 0, 1) := by decide +kernel
theorem dX0_init_43 : decode cX0_init 43 = .ok (.putfield 28, 3) := by decide +kernel
theorem dX0_init_46 : decode cX0_init 46 = .ok (.return_, 1) := by decide +kernel
theorem dX0_take_0 : decode cX0_take 0 = .ok (.aload_n 0, 1) := by decide +kernel
theorem dX0_take_1 : decode cX0_take 1 = .ok (.aload_n 1, 1) := by decide +kernel
theorem dX0_take_2 : decode cX0_take 2 = .ok (.iload_n 2, 1) := by decide +kernel
theorem dX0_take_3 : decode cX0_take 3 = .ok (.invokevirtual 31, 3) := by decide +kernel
theorem dX0_take_6 : decode cX0_take 6 = .ok (.iconst 2, 1) := by decide +kernel
theorem dX0_take_7 : decode cX0_take 7 = .ok (.idiv, 1) := by decide +kernel
theorem dX0_take_8 : decode cX0_take 8 = .ok (.putfield 24, 3) := by decide +kernel
theorem dX0_take_11 : decode cX0_take 11 = .ok (.iconst 0, 1) := by decide +kernel
theorem dX0_take_12 : decode cX0_take 12 = .ok (.istore_n 3, 1) := by decide +kernel
theorem dX0_take_13 : decode cX0_take 13 = .ok (.iload_n 3, 1) := by decide +kernel
theorem dX0_take_14 : decode cX0_take 14 = .ok (.aload_n 0, 1) := by decide +kernel
theorem dX0_take_15 : decode cX0_take 15 = .ok (.getfield 24, 3) := by decide +kernel
theorem dX0_take_18 : decode cX0_take 18 = .ok (.if_icmp .ge 77, 3) := by decide +kernel
theorem dX0_take_21 : decode cX0_take 21 = .ok (.aload_n 1, 1) := by decide +kernel
theorem dX0_take_22 : decode cX0_take 22 = .ok (.iload_n 2, 1) := by decide +kernel
theorem dX0_take_23 : decode cX0_take 23 = .ok (.iconst 2, 1) := by decide +kernel
theorem dX0_take_24 : decode cX0_take 24 = .ok (.iload_n 3, 1) := by decide +kernel
theorem dX0_take_25 : decode cX0_take 25 = .ok (.imul, 1) := by decide +kernel
theorem dX0_take_26 : decode cX0_take 26 = .ok (.invokevirtual 37, 3) := by decide +kernel
theorem dX0_take_29 : decode cX0_take 29 = .ok (.istore 4, 2) := by decide +kernel
theorem dX0_take_31 : decode cX0_take 31 = .ok (.aload_n 1, 1) := by decide +kernel
theorem dX0_take_32 : decode cX0_take 32 = .ok (.iload_n 2, 1) := by decide +kernel
theorem dX0_take_33 : decode cX0_take 33 = .ok (.iconst 2, 1) := by decide +kernel
theorem dX0_take_34 : decode cX0_take 34 = .ok (.iload_n 3, 1) := by decide +kernel
theorem dX0_take_35 : decode cX0_take 35 = .ok (.imul, 1) := by decide +kernel
theorem dX0_take_36 : decode cX0_take 36 = .ok (.iconst 1, 1) := by decide +kernel
theorem dX0_take_37 : decode cX0_take 37 = .ok (.iadd, 1) := by decide +kernel
theorem dX0_take_38 : decode cX0_take 38 = .ok (.invokevirtual 37, 3) := by decide +kernel
theorem dX0_take_41 : decode cX0_take 41 = .ok (.istore 5, 2) := by decide +kernel
theorem dX0_take_43 : decode cX0_take 43 = .ok (.aload_n 0, 1) := by decide +kernel
theorem dX0_take_44 : decode cX0_take 44 = .ok (.getfield 9, 3) := by decide +kernel
theorem dX0_take_47 : decode cX0_take 47 = .ok (.iload_n 3, 1) := by decide +kernel
theorem dX0_take_48 : decode cX0_take 48 = .ok (.iload 4, 2) := by decide +kernel
theorem dX0_take_50 : decode cX0_take 50 = .ok (.invokestatic 41, 3) := by decide +kernel
theorem dX0_take_53 : decode cX0_take 53 = .ok (.aload_n 0, 1) := by decide +kernel
theorem dX0_take_54 : decode cX0_take 54 = .ok (.getfield 15, 3) := by decide +kernel
theorem dX0_take_57 : decode cX0_take 57 = .ok (.iload_n 3, 1) := by decide +kernel
theorem dX0_take_58 : decode cX0_take 58 = .ok (.iload 5, 2) := by decide +kernel
theorem dX0_take_60 : decode cX0_take 60 = .ok (.invokestatic 41, 3) := by decide +kernel
theorem dX0_take_63 : decode cX0_take 63 = .ok (.iload 4, 2) := by decide +kernel
theorem dX0_take_65 : decode cX0_take 65 = .ok (.ifCond .lt 22, 3) := by decide +kernel
theorem dX0_take_68 : decode cX0_take 68 = .ok (.iload 4, 2) := by decide +kernel
theorem dX0_take_70 : decode cX0_take 70 = .ok (.bipush 99, 2) := by decide +kernel
theorem dX0_take_72 : decode cX0_take 72 = .ok (.if_icmp .gt 15, 3) := by decide +kernel
theorem dX0_take_75 : decode cX0_take 75 = .ok (.iload 5, 2) := by decide +kernel
theorem dX0_take_77 : decode cX0_take 77 = .ok (.ifCond .lt 10, 3) := by decide +kernel
theorem dX0_take_80 : decode cX0_take 80 = .ok (.iload 5, 2) := by decide +kernel
theorem dX0_take_82 : decode cX0_take 82 = .ok (.bipush 30, 2) := by decide +kernel
theorem dX0_take_84 : decode cX0_take 84 = .ok (.if_icmp .le 5, 3) := by decide +kernel
theorem dX0_take_87 : decode cX0_take 87 = .ok (.iconst 0, 1) := by decide +kernel
theorem dX0_take_88 : decode cX0_take 88 = .ok (.ireturn, 1) := by decide +kernel
theorem dX0_take_89 : decode cX0_take 89 = .ok (.iinc 3 1, 3) := by decide +kernel
theorem dX0_take_92 : decode cX0_take 92 = .ok (.goto (-79), 3) := by decide +kernel
theorem dX0_take_95 : decode cX0_take 95 = .ok (.iconst 1, 1) := by decide +kernel
theorem dX0_take_96 : decode cX0_take 96 = .ok (.ireturn, 1) := by decide +kernel
theorem dX0_thicksFitting_0 : decode cX0_thicksFitting 0 = .ok (.iconst 0, 1) := by decide +kernel
theorem dX0_thicksFitting_1 : decode cX0_thicksFitting 1 = .ok (.istore 4, 2) := by decide +kernel
theorem dX0_thicksFitting_3 : decode cX0_thicksFitting 3 = .ok (.iconst 0, 1) := by decide +kernel
theorem dX0_thicksFitting_4 : decode cX0_thicksFitting 4 = .ok (.istore 5, 2) := by decide +kernel
theorem dX0_thicksFitting_6 : decode cX0_thicksFitting 6 = .ok (.iload 5, 2) := by decide +kernel
theorem dX0_thicksFitting_8 : decode cX0_thicksFitting 8 = .ok (.bipush 9, 2) := by decide +kernel
theorem dX0_thicksFitting_10 : decode cX0_thicksFitting 10 = .ok (.if_icmp .gt 34, 3) := by decide +kernel
theorem dX0_thicksFitting_13 : decode cX0_thicksFitting 13 = .ok (.iload 4, 2) := by decide +kernel
theorem dX0_thicksFitting_15 : decode cX0_thicksFitting 15 = .ok (.aload_n 0, 1) := by decide +kernel
theorem dX0_thicksFitting_16 : decode cX0_thicksFitting 16 = .ok (.aload_n 1, 1) := by decide +kernel
theorem dX0_thicksFitting_17 : decode cX0_thicksFitting 17 = .ok (.iload_n 2, 1) := by decide +kernel
theorem dX0_thicksFitting_18 : decode cX0_thicksFitting 18 = .ok (.iload_n 3, 1) := by decide +kernel
theorem dX0_thicksFitting_19 : decode cX0_thicksFitting 19 = .ok (.iload 5, 2) := by decide +kernel
theorem dX0_thicksFitting_21 : decode cX0_thicksFitting 21 = .ok (.invokevirtual 45, 3) := by decide +kernel
theorem dX0_thicksFitting_24 : decode cX0_thicksFitting 24 = .ok (.ifCond .eq 10, 3) := by decide +kernel
theorem dX0_thicksFitting_27 : decode cX0_thicksFitting 27 = .ok (.iconst 1, 1) := by decide +kernel
theorem dX0_thicksFitting_28 : decode cX0_thicksFitting 28 = .ok (.iload 5, 2) := by decide +kernel
theorem dX0_thicksFitting_30 : decode cX0_thicksFitting 30 = .ok (.ishl, 1) := by decide +kernel
theorem dX0_thicksFitting_31 : decode cX0_thicksFitting 31 = .ok (.goto 4, 3) := by decide +kernel
theorem dX0_thicksFitting_34 : decode cX0_thicksFitting 34 = .ok (.iconst 0, 1) := by decide +kernel
theorem dX0_thicksFitting_35 : decode cX0_thicksFitting 35 = .ok (.ior, 1) := by decide +kernel
theorem dX0_thicksFitting_36 : decode cX0_thicksFitting 36 = .ok (.istore 4, 2) := by decide +kernel
theorem dX0_thicksFitting_38 : decode cX0_thicksFitting 38 = .ok (.iinc 5 1, 3) := by decide +kernel
theorem dX0_thicksFitting_41 : decode cX0_thicksFitting 41 = .ok (.goto (-35), 3) := by decide +kernel
theorem dX0_thicksFitting_44 : decode cX0_thicksFitting 44 = .ok (.iload 4, 2) := by decide +kernel
theorem dX0_thicksFitting_46 : decode cX0_thicksFitting 46 = .ok (.ireturn, 1) := by decide +kernel
theorem dX0_kindsFitting_0 : decode cX0_kindsFitting 0 = .ok (.iconst 0, 1) := by decide +kernel
theorem dX0_kindsFitting_1 : decode cX0_kindsFitting 1 = .ok (.istore 4, 2) := by decide +kernel
theorem dX0_kindsFitting_3 : decode cX0_kindsFitting 3 = .ok (.iconst 0, 1) := by decide +kernel
theorem dX0_kindsFitting_4 : decode cX0_kindsFitting 4 = .ok (.istore 5, 2) := by decide +kernel
theorem dX0_kindsFitting_6 : decode cX0_kindsFitting 6 = .ok (.iload 5, 2) := by decide +kernel
theorem dX0_kindsFitting_8 : decode cX0_kindsFitting 8 = .ok (.bipush 6, 2) := by decide +kernel
theorem dX0_kindsFitting_10 : decode cX0_kindsFitting 10 = .ok (.if_icmp .ge 34, 3) := by decide +kernel
theorem dX0_kindsFitting_13 : decode cX0_kindsFitting 13 = .ok (.iload 4, 2) := by decide +kernel
theorem dX0_kindsFitting_15 : decode cX0_kindsFitting 15 = .ok (.aload_n 0, 1) := by decide +kernel
theorem dX0_kindsFitting_16 : decode cX0_kindsFitting 16 = .ok (.aload_n 1, 1) := by decide +kernel
theorem dX0_kindsFitting_17 : decode cX0_kindsFitting 17 = .ok (.iload_n 2, 1) := by decide +kernel
theorem dX0_kindsFitting_18 : decode cX0_kindsFitting 18 = .ok (.iload 5, 2) := by decide +kernel
theorem dX0_kindsFitting_20 : decode cX0_kindsFitting 20 = .ok (.iload_n 3, 1) := by decide +kernel
theorem dX0_kindsFitting_21 : decode cX0_kindsFitting 21 = .ok (.invokevirtual 45, 3) := by decide +kernel
theorem dX0_kindsFitting_24 : decode cX0_kindsFitting 24 = .ok (.ifCond .eq 10, 3) := by decide +kernel
theorem dX0_kindsFitting_27 : decode cX0_kindsFitting 27 = .ok (.iconst 1, 1) := by decide +kernel
theorem dX0_kindsFitting_28 : decode cX0_kindsFitting 28 = .ok (.iload 5, 2) := by decide +kernel
theorem dX0_kindsFitting_30 : decode cX0_kindsFitting 30 = .ok (.ishl, 1) := by decide +kernel
theorem dX0_kindsFitting_31 : decode cX0_kindsFitting 31 = .ok (.goto 4, 3) := by decide +kernel
theorem dX0_kindsFitting_34 : decode cX0_kindsFitting 34 = .ok (.iconst 0, 1) := by decide +kernel
theorem dX0_kindsFitting_35 : decode cX0_kindsFitting 35 = .ok (.ior, 1) := by decide +kernel
theorem dX0_kindsFitting_36 : decode cX0_kindsFitting 36 = .ok (.istore 4, 2) := by decide +kernel
theorem dX0_kindsFitting_38 : decode cX0_kindsFitting 38 = .ok (.iinc 5 1, 3) := by decide +kernel
theorem dX0_kindsFitting_41 : decode cX0_kindsFitting 41 = .ok (.goto (-35), 3) := by decide +kernel
theorem dX0_kindsFitting_44 : decode cX0_kindsFitting 44 = .ok (.iload 4, 2) := by decide +kernel
theorem dX0_kindsFitting_46 : decode cX0_kindsFitting 46 = .ok (.ireturn, 1) := by decide +kernel
theorem dX0_tellingNight_0 : decode cX0_tellingNight 0 = .ok (.iconst 0, 1) := by decide +kernel
theorem dX0_tellingNight_1 : decode cX0_tellingNight 1 = .ok (.istore_n 3, 1) := by decide +kernel
theorem dX0_tellingNight_2 : decode cX0_tellingNight 2 = .ok (.iconst 0, 1) := by decide +kernel
theorem dX0_tellingNight_3 : decode cX0_tellingNight 3 = .ok (.istore 4, 2) := by decide +kernel
theorem dX0_tellingNight_5 : decode cX0_tellingNight 5 = .ok (.iload 4, 2) := by decide +kernel
theorem dX0_tellingNight_7 : decode cX0_tellingNight 7 = .ok (.bipush 6, 2) := by decide +kernel
theorem dX0_tellingNight_9 : decode cX0_tellingNight 9 = .ok (.if_icmp .ge 35, 3) := by decide +kernel
theorem dX0_tellingNight_12 : decode cX0_tellingNight 12 = .ok (.aload_n 0, 1) := by decide +kernel
theorem dX0_tellingNight_13 : decode cX0_tellingNight 13 = .ok (.aload_n 1, 1) := by decide +kernel
theorem dX0_tellingNight_14 : decode cX0_tellingNight 14 = .ok (.iload_n 2, 1) := by decide +kernel
theorem dX0_tellingNight_15 : decode cX0_tellingNight 15 = .ok (.iload 4, 2) := by decide +kernel
theorem dX0_tellingNight_17 : decode cX0_tellingNight 17 = .ok (.invokevirtual 49, 3) := by decide +kernel
theorem dX0_tellingNight_20 : decode cX0_tellingNight 20 = .ok (.istore 5, 2) := by decide +kernel
theorem dX0_tellingNight_22 : decode cX0_tellingNight 22 = .ok (.aload_n 0, 1) := by decide +kernel
theorem dX0_tellingNight_23 : decode cX0_tellingNight 23 = .ok (.getfield 18, 3) := by decide +kernel
theorem dX0_tellingNight_26 : decode cX0_tellingNight 26 = .ok (.iload 4, 2) := by decide +kernel
theorem dX0_tellingNight_28 : decode cX0_tellingNight 28 = .ok (.iload 5, 2) := by decide +kernel
theorem dX0_tellingNight_30 : decode cX0_tellingNight 30 = .ok (.invokestatic 41, 3) := by decide +kernel
theorem dX0_tellingNight_33 : decode cX0_tellingNight 33 = .ok (.iload_n 3, 1) := by decide +kernel
theorem dX0_tellingNight_34 : decode cX0_tellingNight 34 = .ok (.iload 5, 2) := by decide +kernel
theorem dX0_tellingNight_36 : decode cX0_tellingNight 36 = .ok (.ior, 1) := by decide +kernel
theorem dX0_tellingNight_37 : decode cX0_tellingNight 37 = .ok (.istore_n 3, 1) := by decide +kernel
theorem dX0_tellingNight_38 : decode cX0_tellingNight 38 = .ok (.iinc 4 1, 3) := by decide +kernel
theorem dX0_tellingNight_41 : decode cX0_tellingNight 41 = .ok (.goto (-36), 3) := by decide +kernel
theorem dX0_tellingNight_44 : decode cX0_tellingNight 44 = .ok (.iload_n 3, 1) := by decide +kernel
theorem dX0_tellingNight_45 : decode cX0_tellingNight 45 = .ok (.ifCond .ne 6, 3) := by decide +kernel
theorem dX0_tellingNight_48 : decode cX0_tellingNight 48 = .ok (.bipush (-9), 2) := by decide +kernel
theorem dX0_tellingNight_50 : decode cX0_tellingNight 50 = .ok (.ireturn, 1) := by decide +kernel
theorem dX0_tellingNight_51 : decode cX0_tellingNight 51 = .ok (.iconst 0, 1) := by decide +kernel
theorem dX0_tellingNight_52 : decode cX0_tellingNight 52 = .ok (.istore 4, 2) := by decide +kernel
theorem dX0_tellingNight_54 : decode cX0_tellingNight 54 = .ok (.aload_n 0, 1) := by decide +kernel
theorem dX0_tellingNight_55 : decode cX0_tellingNight 55 = .ok (.ldc 53, 2) := by decide +kernel
theorem dX0_tellingNight_57 : decode cX0_tellingNight 57 = .ok (.putfield 28, 3) := by decide +kernel
theorem dX0_tellingNight_60 : decode cX0_tellingNight 60 = .ok (.iconst 0, 1) := by decide +kernel
theorem dX0_tellingNight_61 : decode cX0_tellingNight 61 = .ok (.istore 5, 2) := by decide +kernel
theorem dX0_tellingNight_63 : decode cX0_tellingNight 63 = .ok (.iload 5, 2) := by decide +kernel
theorem dX0_tellingNight_65 : decode cX0_tellingNight 65 = .ok (.bipush 8, 2) := by decide +kernel
theorem dX0_tellingNight_67 : decode cX0_tellingNight 67 = .ok (.if_icmp .ge 38, 3) := by decide +kernel
theorem dX0_tellingNight_70 : decode cX0_tellingNight 70 = .ok (.aload_n 0, 1) := by decide +kernel
theorem dX0_tellingNight_71 : decode cX0_tellingNight 71 = .ok (.aload_n 1, 1) := by decide +kernel
theorem dX0_tellingNight_72 : decode cX0_tellingNight 72 = .ok (.iload_n 2, 1) := by decide +kernel
theorem dX0_tellingNight_73 : decode cX0_tellingNight 73 = .ok (.iload 5, 2) := by decide +kernel
theorem dX0_tellingNight_75 : decode cX0_tellingNight 75 = .ok (.invokevirtual 54, 3) := by decide +kernel
theorem dX0_tellingNight_78 : decode cX0_tellingNight 78 = .ok (.istore 6, 2) := by decide +kernel
theorem dX0_tellingNight_80 : decode cX0_tellingNight 80 = .ok (.iload 6, 2) := by decide +kernel
theorem dX0_tellingNight_82 : decode cX0_tellingNight 82 = .ok (.aload_n 0, 1) := by decide +kernel
theorem dX0_tellingNight_83 : decode cX0_tellingNight 83 = .ok (.getfield 28, 3) := by decide +kernel
theorem dX0_tellingNight_86 : decode cX0_tellingNight 86 = .ok (.if_icmp .ge 13, 3) := by decide +kernel
theorem dX0_tellingNight_89 : decode cX0_tellingNight 89 = .ok (.aload_n 0, 1) := by decide +kernel
theorem dX0_tellingNight_90 : decode cX0_tellingNight 90 = .ok (.iload 6, 2) := by decide +kernel
theorem dX0_tellingNight_92 : decode cX0_tellingNight 92 = .ok (.putfield 28, 3) := by decide +kernel
theorem dX0_tellingNight_95 : decode cX0_tellingNight 95 = .ok (.iload 5, 2) := by decide +kernel
theorem dX0_tellingNight_97 : decode cX0_tellingNight 97 = .ok (.istore 4, 2) := by decide +kernel
theorem dX0_tellingNight_99 : decode cX0_tellingNight 99 = .ok (.iinc 5 1, 3) := by decide +kernel
theorem dX0_tellingNight_102 : decode cX0_tellingNight 102 = .ok (.goto (-39), 3) := by decide +kernel
theorem dX0_tellingNight_105 : decode cX0_tellingNight 105 = .ok (.iload 4, 2) := by decide +kernel
theorem dX0_tellingNight_107 : decode cX0_tellingNight 107 = .ok (.ireturn, 1) := by decide +kernel
theorem dX0_greatestPart_0 : decode cX0_greatestPart 0 = .ok (.aload_n 0, 1) := by decide +kernel
theorem dX0_greatestPart_1 : decode cX0_greatestPart 1 = .ok (.getfield 21, 3) := by decide +kernel
theorem dX0_greatestPart_4 : decode cX0_greatestPart 4 = .ok (.iconst 0, 1) := by decide +kernel
theorem dX0_greatestPart_5 : decode cX0_greatestPart 5 = .ok (.invokestatic 57, 3) := by decide +kernel
theorem dX0_greatestPart_8 : decode cX0_greatestPart 8 = .ok (.iconst 0, 1) := by decide +kernel
theorem dX0_greatestPart_9 : decode cX0_greatestPart 9 = .ok (.istore 4, 2) := by decide +kernel
theorem dX0_greatestPart_11 : decode cX0_greatestPart 11 = .ok (.iconst 0, 1) := by decide +kernel
theorem dX0_greatestPart_12 : decode cX0_greatestPart 12 = .ok (.istore 5, 2) := by decide +kernel
theorem dX0_greatestPart_14 : decode cX0_greatestPart 14 = .ok (.iload 5, 2) := by decide +kernel
theorem dX0_greatestPart_16 : decode cX0_greatestPart 16 = .ok (.bipush 6, 2) := by decide +kernel
theorem dX0_greatestPart_18 : decode cX0_greatestPart 18 = .ok (.if_icmp .ge 91, 3) := by decide +kernel
theorem dX0_greatestPart_21 : decode cX0_greatestPart 21 = .ok (.iconst 0, 1) := by decide +kernel
theorem dX0_greatestPart_22 : decode cX0_greatestPart 22 = .ok (.istore 6, 2) := by decide +kernel
theorem dX0_greatestPart_24 : decode cX0_greatestPart 24 = .ok (.iload 6, 2) := by decide +kernel
theorem dX0_greatestPart_26 : decode cX0_greatestPart 26 = .ok (.bipush 9, 2) := by decide +kernel
theorem dX0_greatestPart_28 : decode cX0_greatestPart 28 = .ok (.if_icmp .gt 75, 3) := by decide +kernel
theorem dX0_greatestPart_31 : decode cX0_greatestPart 31 = .ok (.aload_n 0, 1) := by decide +kernel
theorem dX0_greatestPart_32 : decode cX0_greatestPart 32 = .ok (.getfield 18, 3) := by decide +kernel
theorem dX0_greatestPart_35 : decode cX0_greatestPart 35 = .ok (.iload 5, 2) := by decide +kernel
theorem dX0_greatestPart_37 : decode cX0_greatestPart 37 = .ok (.invokestatic 63, 3) := by decide +kernel
theorem dX0_greatestPart_40 : decode cX0_greatestPart 40 = .ok (.iload 6, 2) := by decide +kernel
theorem dX0_greatestPart_42 : decode cX0_greatestPart 42 = .ok (.ishr, 1) := by decide +kernel
theorem dX0_greatestPart_43 : decode cX0_greatestPart 43 = .ok (.iconst 1, 1) := by decide +kernel
theorem dX0_greatestPart_44 : decode cX0_greatestPart 44 = .ok (.iand, 1) := by decide +kernel
theorem dX0_greatestPart_45 : decode cX0_greatestPart 45 = .ok (.iconst 1, 1) := by decide +kernel
theorem dX0_greatestPart_46 : decode cX0_greatestPart 46 = .ok (.if_icmp .ne 51, 3) := by decide +kernel
theorem dX0_greatestPart_49 : decode cX0_greatestPart 49 = .ok (.aload_n 1, 1) := by decide +kernel
theorem dX0_greatestPart_50 : decode cX0_greatestPart 50 = .ok (.iload_n 2, 1) := by decide +kernel
theorem dX0_greatestPart_51 : decode cX0_greatestPart 51 = .ok (.iload 5, 2) := by decide +kernel
theorem dX0_greatestPart_53 : decode cX0_greatestPart 53 = .ok (.iload 6, 2) := by decide +kernel
theorem dX0_greatestPart_55 : decode cX0_greatestPart 55 = .ok (.iload_n 3, 1) := by decide +kernel
theorem dX0_greatestPart_56 : decode cX0_greatestPart 56 = .ok (.invokevirtual 67, 3) := by decide +kernel
theorem dX0_greatestPart_59 : decode cX0_greatestPart 59 = .ok (.istore 7, 2) := by decide +kernel
theorem dX0_greatestPart_61 : decode cX0_greatestPart 61 = .ok (.aload_n 0, 1) := by decide +kernel
theorem dX0_greatestPart_62 : decode cX0_greatestPart 62 = .ok (.getfield 21, 3) := by decide +kernel
theorem dX0_greatestPart_65 : decode cX0_greatestPart 65 = .ok (.iload 7, 2) := by decide +kernel
theorem dX0_greatestPart_67 : decode cX0_greatestPart 67 = .ok (.aload_n 0, 1) := by decide +kernel
theorem dX0_greatestPart_68 : decode cX0_greatestPart 68 = .ok (.getfield 21, 3) := by decide +kernel
theorem dX0_greatestPart_71 : decode cX0_greatestPart 71 = .ok (.iload 7, 2) := by decide +kernel
theorem dX0_greatestPart_73 : decode cX0_greatestPart 73 = .ok (.invokestatic 63, 3) := by decide +kernel
theorem dX0_greatestPart_76 : decode cX0_greatestPart 76 = .ok (.iconst 1, 1) := by decide +kernel
theorem dX0_greatestPart_77 : decode cX0_greatestPart 77 = .ok (.iadd, 1) := by decide +kernel
theorem dX0_greatestPart_78 : decode cX0_greatestPart 78 = .ok (.invokestatic 41, 3) := by decide +kernel
theorem dX0_greatestPart_81 : decode cX0_greatestPart 81 = .ok (.iload 4, 2) := by decide +kernel
theorem dX0_greatestPart_83 : decode cX0_greatestPart 83 = .ok (.aload_n 0, 1) := by decide +kernel
theorem dX0_greatestPart_84 : decode cX0_greatestPart 84 = .ok (.getfield 21, 3) := by decide +kernel
theorem dX0_greatestPart_87 : decode cX0_greatestPart 87 = .ok (.iload 7, 2) := by decide +kernel
theorem dX0_greatestPart_89 : decode cX0_greatestPart 89 = .ok (.invokestatic 63, 3) := by decide +kernel
theorem dX0_greatestPart_92 : decode cX0_greatestPart 92 = .ok (.invokestatic 73, 3) := by decide +kernel
theorem dX0_greatestPart_95 : decode cX0_greatestPart 95 = .ok (.istore 4, 2) := by decide +kernel
theorem dX0_greatestPart_97 : decode cX0_greatestPart 97 = .ok (.iinc 6 1, 3) := by decide +kernel
theorem dX0_greatestPart_100 : decode cX0_greatestPart 100 = .ok (.goto (-76), 3) := by decide +kernel
theorem dX0_greatestPart_103 : decode cX0_greatestPart 103 = .ok (.iinc 5 1, 3) := by decide +kernel
theorem dX0_greatestPart_106 : decode cX0_greatestPart 106 = .ok (.goto (-92), 3) := by decide +kernel
theorem dX0_greatestPart_109 : decode cX0_greatestPart 109 = .ok (.iload 4, 2) := by decide +kernel
theorem dX0_greatestPart_111 : decode cX0_greatestPart 111 = .ok (.ireturn, 1) := by decide +kernel
theorem dX0_fits_0 : decode cX0_fits 0 = .ok (.iconst 0, 1) := by decide +kernel
theorem dX0_fits_1 : decode cX0_fits 1 = .ok (.istore 5, 2) := by decide +kernel
theorem dX0_fits_3 : decode cX0_fits 3 = .ok (.iload 5, 2) := by decide +kernel
theorem dX0_fits_5 : decode cX0_fits 5 = .ok (.aload_n 0, 1) := by decide +kernel
theorem dX0_fits_6 : decode cX0_fits 6 = .ok (.getfield 24, 3) := by decide +kernel
theorem dX0_fits_9 : decode cX0_fits 9 = .ok (.if_icmp .ge 40, 3) := by decide +kernel
theorem dX0_fits_12 : decode cX0_fits 12 = .ok (.aload_n 1, 1) := by decide +kernel
theorem dX0_fits_13 : decode cX0_fits 13 = .ok (.iload_n 2, 1) := by decide +kernel
theorem dX0_fits_14 : decode cX0_fits 14 = .ok (.iload_n 3, 1) := by decide +kernel
theorem dX0_fits_15 : decode cX0_fits 15 = .ok (.iload 4, 2) := by decide +kernel
theorem dX0_fits_17 : decode cX0_fits 17 = .ok (.aload_n 0, 1) := by decide +kernel
theorem dX0_fits_18 : decode cX0_fits 18 = .ok (.getfield 9, 3) := by decide +kernel
theorem dX0_fits_21 : decode cX0_fits 21 = .ok (.iload 5, 2) := by decide +kernel
theorem dX0_fits_23 : decode cX0_fits 23 = .ok (.invokestatic 63, 3) := by decide +kernel
theorem dX0_fits_26 : decode cX0_fits 26 = .ok (.invokevirtual 67, 3) := by decide +kernel
theorem dX0_fits_29 : decode cX0_fits 29 = .ok (.aload_n 0, 1) := by decide +kernel
theorem dX0_fits_30 : decode cX0_fits 30 = .ok (.getfield 15, 3) := by decide +kernel
theorem dX0_fits_33 : decode cX0_fits 33 = .ok (.iload 5, 2) := by decide +kernel
theorem dX0_fits_35 : decode cX0_fits 35 = .ok (.invokestatic 63, 3) := by decide +kernel
theorem dX0_fits_38 : decode cX0_fits 38 = .ok (.if_icmp .eq 5, 3) := by decide +kernel
theorem dX0_fits_41 : decode cX0_fits 41 = .ok (.iconst 0, 1) := by decide +kernel
theorem dX0_fits_42 : decode cX0_fits 42 = .ok (.ireturn, 1) := by decide +kernel
theorem dX0_fits_43 : decode cX0_fits 43 = .ok (.iinc 5 1, 3) := by decide +kernel
theorem dX0_fits_46 : decode cX0_fits 46 = .ok (.goto (-43), 3) := by decide +kernel
theorem dX0_fits_49 : decode cX0_fits 49 = .ok (.iconst 1, 1) := by decide +kernel
theorem dX0_fits_50 : decode cX0_fits 50 = .ok (.ireturn, 1) := by decide +kernel
theorem dX1_init_0 : decode cX1_init 0 = .ok (.aload_n 0, 1) := by decide +kernel
theorem dX1_init_1 : decode cX1_init 1 = .ok (.invokespecial 3, 3) := by decide +kernel
theorem dX1_init_4 : decode cX1_init 4 = .ok (.aload_n 0, 1) := by decide +kernel
theorem dX1_init_5 : decode cX1_init 5 = .ok (.new 9, 3) := by decide +kernel
theorem dX1_init_8 : decode cX1_init 8 = .ok (.dup, 1) := by decide +kernel
theorem dX1_init_9 : decode cX1_init 9 = .ok (.iconst 4, 1) := by decide +kernel
theorem dX1_init_10 : decode cX1_init 10 = .ok (.invokespecial 11, 3) := by decide +kernel
theorem dX1_init_13 : decode cX1_init 13 = .ok (.putfield 14, 3) := by decide +kernel
theorem dX1_init_16 : decode cX1_init 16 = .ok (.return_, 1) := by decide +kernel
theorem dX1_foundFrom_0 : decode cX1_foundFrom 0 = .ok (.iload_n 2, 1) := by decide +kernel
theorem dX1_foundFrom_1 : decode cX1_foundFrom 1 = .ok (.iload_n 3, 1) := by decide +kernel
theorem dX1_foundFrom_2 : decode cX1_foundFrom 2 = .ok (.if_icmp .lt 5, 3) := by decide +kernel
theorem dX1_foundFrom_5 : decode cX1_foundFrom 5 = .ok (.iconst 0, 1) := by decide +kernel
theorem dX1_foundFrom_6 : decode cX1_foundFrom 6 = .ok (.ireturn, 1) := by decide +kernel
theorem dX1_foundFrom_7 : decode cX1_foundFrom 7 = .ok (.iload_n 2, 1) := by decide +kernel
theorem dX1_foundFrom_8 : decode cX1_foundFrom 8 = .ok (.iconst 2, 1) := by decide +kernel
theorem dX1_foundFrom_9 : decode cX1_foundFrom 9 = .ok (.irem, 1) := by decide +kernel
theorem dX1_foundFrom_10 : decode cX1_foundFrom 10 = .ok (.ifCond .ne 13, 3) := by decide +kernel
theorem dX1_foundFrom_13 : decode cX1_foundFrom 13 = .ok (.aload_n 0, 1) := by decide +kernel
theorem dX1_foundFrom_14 : decode cX1_foundFrom 14 = .ok (.aload_n 1, 1) := by decide +kernel
theorem dX1_foundFrom_15 : decode cX1_foundFrom 15 = .ok (.iload_n 2, 1) := by decide +kernel
theorem dX1_foundFrom_16 : decode cX1_foundFrom 16 = .ok (.iload_n 3, 1) := by decide +kernel
theorem dX1_foundFrom_17 : decode cX1_foundFrom 17 = .ok (.invokevirtual 20, 3) := by decide +kernel
theorem dX1_foundFrom_20 : decode cX1_foundFrom 20 = .ok (.goto 10, 3) := by decide +kernel
theorem dX1_foundFrom_23 : decode cX1_foundFrom 23 = .ok (.aload_n 0, 1) := by decide +kernel
theorem dX1_foundFrom_24 : decode cX1_foundFrom 24 = .ok (.aload_n 1, 1) := by decide +kernel
theorem dX1_foundFrom_25 : decode cX1_foundFrom 25 = .ok (.iload_n 2, 1) := by decide +kernel
theorem dX1_foundFrom_26 : decode cX1_foundFrom 26 = .ok (.iload_n 3, 1) := by decide +kernel
theorem dX1_foundFrom_27 : decode cX1_foundFrom 27 = .ok (.invokevirtual 24, 3) := by decide +kernel
theorem dX1_foundFrom_30 : decode cX1_foundFrom 30 = .ok (.ireturn, 1) := by decide +kernel
theorem dX1_fewestFrom_0 : decode cX1_fewestFrom 0 = .ok (.ldc 27, 2) := by decide +kernel
theorem dX1_fewestFrom_2 : decode cX1_fewestFrom 2 = .ok (.istore 4, 2) := by decide +kernel
theorem dX1_fewestFrom_4 : decode cX1_fewestFrom 4 = .ok (.iconst (-1), 1) := by decide +kernel
theorem dX1_fewestFrom_5 : decode cX1_fewestFrom 5 = .ok (.istore 5, 2) := by decide +kernel
theorem dX1_fewestFrom_7 : decode cX1_fewestFrom 7 = .ok (.iload 5, 2) := by decide +kernel
theorem dX1_fewestFrom_9 : decode cX1_fewestFrom 9 = .ok (.aload_n 1, 1) := by decide +kernel
theorem dX1_fewestFrom_10 : decode cX1_fewestFrom 10 = .ok (.getfield 28, 3) := by decide +kernel
theorem dX1_fewestFrom_13 : decode cX1_fewestFrom 13 = .ok (.if_icmp .ge 70, 3) := by decide +kernel
theorem dX1_fewestFrom_16 : decode cX1_fewestFrom 16 = .ok (.iload 5, 2) := by decide +kernel
theorem dX1_fewestFrom_18 : decode cX1_fewestFrom 18 = .ok (.ifCond .lt 12, 3) := by decide +kernel
theorem dX1_fewestFrom_21 : decode cX1_fewestFrom 21 = .ok (.aload_n 1, 1) := by decide +kernel
theorem dX1_fewestFrom_22 : decode cX1_fewestFrom 22 = .ok (.iload 5, 2) := by decide +kernel
theorem dX1_fewestFrom_24 : decode cX1_fewestFrom 24 = .ok (.invokevirtual 34, 3) := by decide +kernel
theorem dX1_fewestFrom_27 : decode cX1_fewestFrom 27 = .ok (.ifCond .le 50, 3) := by decide +kernel
theorem dX1_fewestFrom_30 : decode cX1_fewestFrom 30 = .ok (.aload_n 0, 1) := by decide +kernel
theorem dX1_fewestFrom_31 : decode cX1_fewestFrom 31 = .ok (.getfield 14, 3) := by decide +kernel
theorem dX1_fewestFrom_34 : decode cX1_fewestFrom 34 = .ok (.iload_n 2, 1) := by decide +kernel
theorem dX1_fewestFrom_35 : decode cX1_fewestFrom 35 = .ok (.aload_n 1, 1) := by decide +kernel
theorem dX1_fewestFrom_36 : decode cX1_fewestFrom 36 = .ok (.invokevirtual 38, 3) := by decide +kernel
theorem dX1_fewestFrom_39 : decode cX1_fewestFrom 39 = .ok (.astore 6, 2) := by decide +kernel
theorem dX1_fewestFrom_41 : decode cX1_fewestFrom 41 = .ok (.aload 6, 2) := by decide +kernel
theorem dX1_fewestFrom_43 : decode cX1_fewestFrom 43 = .ok (.ifnull 34, 3) := by decide +kernel
theorem dX1_fewestFrom_46 : decode cX1_fewestFrom 46 = .ok (.aload 6, 2) := by decide +kernel
theorem dX1_fewestFrom_48 : decode cX1_fewestFrom 48 = .ok (.iload 5, 2) := by decide +kernel
theorem dX1_fewestFrom_50 : decode cX1_fewestFrom 50 = .ok (.iconst 1, 1) := by decide +kernel
theorem dX1_fewestFrom_51 : decode cX1_fewestFrom 51 = .ok (.invokevirtual 42, 3) := by decide +kernel
theorem dX1_fewestFrom_54 : decode cX1_fewestFrom 54 = .ok (.aload 6, 2) := by decide +kernel
theorem dX1_fewestFrom_56 : decode cX1_fewestFrom 56 = .ok (.invokevirtual 46, 3) := by decide +kernel
theorem dX1_fewestFrom_59 : decode cX1_fewestFrom 59 = .ok (.pop, 1) := by decide +kernel
theorem dX1_fewestFrom_60 : decode cX1_fewestFrom 60 = .ok (.iload 4, 2) := by decide +kernel
theorem dX1_fewestFrom_62 : decode cX1_fewestFrom 62 = .ok (.aload_n 0, 1) := by decide +kernel
theorem dX1_fewestFrom_63 : decode cX1_fewestFrom 63 = .ok (.aload 6, 2) := by decide +kernel
theorem dX1_fewestFrom_65 : decode cX1_fewestFrom 65 = .ok (.iload_n 2, 1) := by decide +kernel
theorem dX1_fewestFrom_66 : decode cX1_fewestFrom 66 = .ok (.iconst 1, 1) := by decide +kernel
theorem dX1_fewestFrom_67 : decode cX1_fewestFrom 67 = .ok (.iadd, 1) := by decide +kernel
theorem dX1_fewestFrom_68 : decode cX1_fewestFrom 68 = .ok (.iload_n 3, 1) := by decide +kernel
theorem dX1_fewestFrom_69 : decode cX1_fewestFrom 69 = .ok (.invokevirtual 50, 3) := by decide +kernel
theorem dX1_fewestFrom_72 : decode cX1_fewestFrom 72 = .ok (.invokestatic 53, 3) := by decide +kernel
theorem dX1_fewestFrom_75 : decode cX1_fewestFrom 75 = .ok (.istore 4, 2) := by decide +kernel
theorem dX1_fewestFrom_77 : decode cX1_fewestFrom 77 = .ok (.iinc 5 1, 3) := by decide +kernel
theorem dX1_fewestFrom_80 : decode cX1_fewestFrom 80 = .ok (.goto (-73), 3) := by decide +kernel
theorem dX1_fewestFrom_83 : decode cX1_fewestFrom 83 = .ok (.iload 4, 2) := by decide +kernel
theorem dX1_fewestFrom_85 : decode cX1_fewestFrom 85 = .ok (.ireturn, 1) := by decide +kernel
theorem dX1_mostFrom_0 : decode cX1_mostFrom 0 = .ok (.iconst 0, 1) := by decide +kernel
theorem dX1_mostFrom_1 : decode cX1_mostFrom 1 = .ok (.istore 4, 2) := by decide +kernel
theorem dX1_mostFrom_3 : decode cX1_mostFrom 3 = .ok (.iconst (-1), 1) := by decide +kernel
theorem dX1_mostFrom_4 : decode cX1_mostFrom 4 = .ok (.istore 5, 2) := by decide +kernel
theorem dX1_mostFrom_6 : decode cX1_mostFrom 6 = .ok (.iload 5, 2) := by decide +kernel
theorem dX1_mostFrom_8 : decode cX1_mostFrom 8 = .ok (.aload_n 1, 1) := by decide +kernel
theorem dX1_mostFrom_9 : decode cX1_mostFrom 9 = .ok (.getfield 28, 3) := by decide +kernel
theorem dX1_mostFrom_12 : decode cX1_mostFrom 12 = .ok (.if_icmp .ge 68, 3) := by decide +kernel
theorem dX1_mostFrom_15 : decode cX1_mostFrom 15 = .ok (.iload 5, 2) := by decide +kernel
theorem dX1_mostFrom_17 : decode cX1_mostFrom 17 = .ok (.ifCond .lt 12, 3) := by decide +kernel
theorem dX1_mostFrom_20 : decode cX1_mostFrom 20 = .ok (.aload_n 1, 1) := by decide +kernel
theorem dX1_mostFrom_21 : decode cX1_mostFrom 21 = .ok (.iload 5, 2) := by decide +kernel
theorem dX1_mostFrom_23 : decode cX1_mostFrom 23 = .ok (.invokevirtual 59, 3) := by decide +kernel
theorem dX1_mostFrom_26 : decode cX1_mostFrom 26 = .ok (.ifCond .eq 48, 3) := by decide +kernel
theorem dX1_mostFrom_29 : decode cX1_mostFrom 29 = .ok (.aload_n 0, 1) := by decide +kernel
theorem dX1_mostFrom_30 : decode cX1_mostFrom 30 = .ok (.getfield 14, 3) := by decide +kernel
theorem dX1_mostFrom_33 : decode cX1_mostFrom 33 = .ok (.iload_n 2, 1) := by decide +kernel
theorem dX1_mostFrom_34 : decode cX1_mostFrom 34 = .ok (.aload_n 1, 1) := by decide +kernel
theorem dX1_mostFrom_35 : decode cX1_mostFrom 35 = .ok (.invokevirtual 38, 3) := by decide +kernel
theorem dX1_mostFrom_38 : decode cX1_mostFrom 38 = .ok (.astore 6, 2) := by decide +kernel
theorem dX1_mostFrom_40 : decode cX1_mostFrom 40 = .ok (.aload 6, 2) := by decide +kernel
theorem dX1_mostFrom_42 : decode cX1_mostFrom 42 = .ok (.ifnull 32, 3) := by decide +kernel
theorem dX1_mostFrom_45 : decode cX1_mostFrom 45 = .ok (.aload 6, 2) := by decide +kernel
theorem dX1_mostFrom_47 : decode cX1_mostFrom 47 = .ok (.iload 5, 2) := by decide +kernel
theorem dX1_mostFrom_49 : decode cX1_mostFrom 49 = .ok (.invokevirtual 63, 3) := by decide +kernel
theorem dX1_mostFrom_52 : decode cX1_mostFrom 52 = .ok (.istore 7, 2) := by decide +kernel
theorem dX1_mostFrom_54 : decode cX1_mostFrom 54 = .ok (.iload 4, 2) := by decide +kernel
theorem dX1_mostFrom_56 : decode cX1_mostFrom 56 = .ok (.iload 7, 2) := by decide +kernel
theorem dX1_mostFrom_58 : decode cX1_mostFrom 58 = .ok (.aload_n 0, 1) := by decide +kernel
theorem dX1_mostFrom_59 : decode cX1_mostFrom 59 = .ok (.aload 6, 2) := by decide +kernel
theorem dX1_mostFrom_61 : decode cX1_mostFrom 61 = .ok (.iload_n 2, 1) := by decide +kernel
theorem dX1_mostFrom_62 : decode cX1_mostFrom 62 = .ok (.iconst 1, 1) := by decide +kernel
theorem dX1_mostFrom_63 : decode cX1_mostFrom 63 = .ok (.iadd, 1) := by decide +kernel
theorem dX1_mostFrom_64 : decode cX1_mostFrom 64 = .ok (.iload_n 3, 1) := by decide +kernel
theorem dX1_mostFrom_65 : decode cX1_mostFrom 65 = .ok (.invokevirtual 50, 3) := by decide +kernel
theorem dX1_mostFrom_68 : decode cX1_mostFrom 68 = .ok (.iadd, 1) := by decide +kernel
theorem dX1_mostFrom_69 : decode cX1_mostFrom 69 = .ok (.invokestatic 66, 3) := by decide +kernel
theorem dX1_mostFrom_72 : decode cX1_mostFrom 72 = .ok (.istore 4, 2) := by decide +kernel
theorem dX1_mostFrom_74 : decode cX1_mostFrom 74 = .ok (.iinc 5 1, 3) := by decide +kernel
theorem dX1_mostFrom_77 : decode cX1_mostFrom 77 = .ok (.goto (-71), 3) := by decide +kernel
theorem dX1_mostFrom_80 : decode cX1_mostFrom 80 = .ok (.iload 4, 2) := by decide +kernel
theorem dX1_mostFrom_82 : decode cX1_mostFrom 82 = .ok (.ireturn, 1) := by decide +kernel
theorem dX2_init_0 : decode cX2_init 0 = .ok (.aload_n 0, 1) := by decide +kernel
theorem dX2_init_1 : decode cX2_init 1 = .ok (.invokespecial 1, 3) := by decide +kernel
theorem dX2_init_4 : decode cX2_init 4 = .ok (.aload_n 0, 1) := by decide +kernel
theorem dX2_init_5 : decode cX2_init 5 = .ok (.iconst 0, 1) := by decide +kernel
theorem dX2_init_6 : decode cX2_init 6 = .ok (.iload_n 1, 1) := by decide +kernel
theorem dX2_init_7 : decode cX2_init 7 = .ok (.invokestatic 7, 3) := by decide +kernel
theorem dX2_init_10 : decode cX2_init 10 = .ok (.anewarray 13, 3) := by decide +kernel
theorem dX2_init_13 : decode cX2_init 13 = .ok (.putfield 15, 3) := by decide +kernel
theorem dX2_init_16 : decode cX2_init 16 = .ok (.iconst 0, 1) := by decide +kernel
theorem dX2_init_17 : decode cX2_init 17 = .ok (.istore_n 2, 1) := by decide +kernel
theorem dX2_init_18 : decode cX2_init 18 = .ok (.iload_n 2, 1) := by decide +kernel
theorem dX2_init_19 : decode cX2_init 19 = .ok (.aload_n 0, 1) := by decide +kernel
theorem dX2_init_20 : decode cX2_init 20 = .ok (.getfield 15, 3) := by decide +kernel
theorem dX2_init_23 : decode cX2_init 23 = .ok (.arraylength, 1) := by decide +kernel
theorem dX2_init_24 : decode cX2_init 24 = .ok (.if_icmp .ge 22, 3) := by decide +kernel
theorem dX2_init_27 : decode cX2_init 27 = .ok (.aload_n 0, 1) := by decide +kernel
theorem dX2_init_28 : decode cX2_init 28 = .ok (.getfield 15, 3) := by decide +kernel
theorem dX2_init_31 : decode cX2_init 31 = .ok (.iload_n 2, 1) := by decide +kernel
theorem dX2_init_32 : decode cX2_init 32 = .ok (.new 13, 3) := by decide +kernel
theorem dX2_init_35 : decode cX2_init 35 = .ok (.dup, 1) := by decide +kernel
theorem dX2_init_36 : decode cX2_init 36 = .ok (.invokespecial 21, 3) := by decide +kernel
theorem dX2_init_39 : decode cX2_init 39 = .ok (.aastore, 1) := by decide +kernel
theorem dX2_init_40 : decode cX2_init 40 = .ok (.iinc 2 1, 3) := by decide +kernel
theorem dX2_init_43 : decode cX2_init 43 = .ok (.goto (-25), 3) := by decide +kernel
theorem dX2_init_46 : decode cX2_init 46 = .ok (.return_, 1) := by decide +kernel
theorem dX2_copyAt_0 : decode cX2_copyAt 0 = .ok (.iload_n 1, 1) := by decide +kernel
theorem dX2_copyAt_1 : decode cX2_copyAt 1 = .ok (.ifCond .lt 21, 3) := by decide +kernel
theorem dX2_copyAt_4 : decode cX2_copyAt 4 = .ok (.iload_n 1, 1) := by decide +kernel
theorem dX2_copyAt_5 : decode cX2_copyAt 5 = .ok (.aload_n 0, 1) := by decide +kernel
theorem dX2_copyAt_6 : decode cX2_copyAt 6 = .ok (.getfield 15, 3) := by decide +kernel
theorem dX2_copyAt_9 : decode cX2_copyAt 9 = .ok (.arraylength, 1) := by decide +kernel
theorem dX2_copyAt_10 : decode cX2_copyAt 10 = .ok (.if_icmp .ge 12, 3) := by decide +kernel
theorem dX2_copyAt_13 : decode cX2_copyAt 13 = .ok (.aload_n 0, 1) := by decide +kernel
theorem dX2_copyAt_14 : decode cX2_copyAt 14 = .ok (.getfield 15, 3) := by decide +kernel
theorem dX2_copyAt_17 : decode cX2_copyAt 17 = .ok (.iload_n 1, 1) := by decide +kernel
theorem dX2_copyAt_18 : decode cX2_copyAt 18 = .ok (.aaload, 1) := by decide +kernel
theorem dX2_copyAt_19 : decode cX2_copyAt 19 = .ok (.goto 4, 3) := by decide +kernel
theorem dX2_copyAt_22 : decode cX2_copyAt 22 = .ok (.aconst_null, 1) := by decide +kernel
theorem dX2_copyAt_23 : decode cX2_copyAt 23 = .ok (.astore_n 3, 1) := by decide +kernel
theorem dX2_copyAt_24 : decode cX2_copyAt 24 = .ok (.aload_n 3, 1) := by decide +kernel
theorem dX2_copyAt_25 : decode cX2_copyAt 25 = .ok (.ifnull 8, 3) := by decide +kernel
theorem dX2_copyAt_28 : decode cX2_copyAt 28 = .ok (.aload_n 3, 1) := by decide +kernel
theorem dX2_copyAt_29 : decode cX2_copyAt 29 = .ok (.aload_n 2, 1) := by decide +kernel
theorem dX2_copyAt_30 : decode cX2_copyAt 30 = .ok (.invokevirtual 22, 3) := by decide +kernel
theorem dX2_copyAt_33 : decode cX2_copyAt 33 = .ok (.aload_n 3, 1) := by decide +kernel
theorem dX2_copyAt_34 : decode cX2_copyAt 34 = .ok (.areturn, 1) := by decide +kernel
theorem dX3_init_0 : decode cX3_init 0 = .ok (.aload_n 0, 1) := by decide +kernel
theorem dX3_init_1 : decode cX3_init 1 = .ok (.invokespecial 3, 3) := by decide +kernel
theorem dX3_init_4 : decode cX3_init 4 = .ok (.aload_n 0, 1) := by decide +kernel
theorem dX3_init_5 : decode cX3_init 5 = .ok (.bipush 6, 2) := by decide +kernel
theorem dX3_init_7 : decode cX3_init 7 = .ok (.newarray .int, 2) := by decide +kernel
theorem dX3_init_9 : decode cX3_init 9 = .ok (.putfield 9, 3) := by decide +kernel
theorem dX3_init_12 : decode cX3_init 12 = .ok (.aload_n 0, 1) := by decide +kernel
theorem dX3_init_13 : decode cX3_init 13 = .ok (.bipush 6, 2) := by decide +kernel
theorem dX3_init_15 : decode cX3_init 15 = .ok (.newarray .int, 2) := by decide +kernel
theorem dX3_init_17 : decode cX3_init 17 = .ok (.putfield 15, 3) := by decide +kernel
theorem dX3_init_20 : decode cX3_init 20 = .ok (.aload_n 0, 1) := by decide +kernel
theorem dX3_init_21 : decode cX3_init 21 = .ok (.iconst 0, 1) := by decide +kernel
theorem dX3_init_22 : decode cX3_init 22 = .ok (.putfield 18, 3) := by decide +kernel
theorem dX3_init_25 : decode cX3_init 25 = .ok (.return_, 1) := by decide +kernel
theorem dX3_fewestCrossing_0 : decode cX3_fewestCrossing 0 = .ok (.aload_n 0, 1) := by decide +kernel
theorem dX3_fewestCrossing_1 : decode cX3_fewestCrossing 1 = .ok (.ldc 22, 2) := by decide +kernel
theorem dX3_fewestCrossing_3 : decode cX3_fewestCrossing 3 = .ok (.putfield 18, 3) := by decide +kernel
theorem dX3_fewestCrossing_6 : decode cX3_fewestCrossing 6 = .ok (.aload_n 0, 1) := by decide +kernel
theorem dX3_fewestCrossing_7 : decode cX3_fewestCrossing 7 = .ok (.aload_n 1, 1) := by decide +kernel
theorem dX3_fewestCrossing_8 : decode cX3_fewestCrossing 8 = .ok (.iconst 0, 1) := by decide +kernel
theorem dX3_fewestCrossing_9 : decode cX3_fewestCrossing 9 = .ok (.iconst 0, 1) := by decide +kernel
theorem dX3_fewestCrossing_10 : decode cX3_fewestCrossing 10 = .ok (.iconst 0, 1) := by decide +kernel
theorem dX3_fewestCrossing_11 : decode cX3_fewestCrossing 11 = .ok (.invokevirtual 23, 3) := by decide +kernel
theorem dX3_fewestCrossing_14 : decode cX3_fewestCrossing 14 = .ok (.aload_n 0, 1) := by decide +kernel
theorem dX3_fewestCrossing_15 : decode cX3_fewestCrossing 15 = .ok (.getfield 18, 3) := by decide +kernel
theorem dX3_fewestCrossing_18 : decode cX3_fewestCrossing 18 = .ok (.ireturn, 1) := by decide +kernel
theorem dX3_give_0 : decode cX3_give 0 = .ok (.iload 4, 2) := by decide +kernel
theorem dX3_give_2 : decode cX3_give 2 = .ok (.aload_n 0, 1) := by decide +kernel
theorem dX3_give_3 : decode cX3_give 3 = .ok (.getfield 18, 3) := by decide +kernel
theorem dX3_give_6 : decode cX3_give 6 = .ok (.if_icmp .lt 4, 3) := by decide +kernel
theorem dX3_give_9 : decode cX3_give 9 = .ok (.return_, 1) := by decide +kernel
theorem dX3_give_10 : decode cX3_give 10 = .ok (.iload_n 2, 1) := by decide +kernel
theorem dX3_give_11 : decode cX3_give 11 = .ok (.aload_n 1, 1) := by decide +kernel
theorem dX3_give_12 : decode cX3_give 12 = .ok (.getfield 27, 3) := by decide +kernel
theorem dX3_give_15 : decode cX3_give 15 = .ok (.if_icmp .lt 21, 3) := by decide +kernel
theorem dX3_give_18 : decode cX3_give 18 = .ok (.aload_n 0, 1) := by decide +kernel
theorem dX3_give_19 : decode cX3_give 19 = .ok (.iload 4, 2) := by decide +kernel
theorem dX3_give_21 : decode cX3_give 21 = .ok (.putfield 18, 3) := by decide +kernel
theorem dX3_give_24 : decode cX3_give 24 = .ok (.aload_n 0, 1) := by decide +kernel
theorem dX3_give_25 : decode cX3_give 25 = .ok (.getfield 15, 3) := by decide +kernel
theorem dX3_give_28 : decode cX3_give 28 = .ok (.aload_n 0, 1) := by decide +kernel
theorem dX3_give_29 : decode cX3_give 29 = .ok (.getfield 9, 3) := by decide +kernel
theorem dX3_give_32 : decode cX3_give 32 = .ok (.invokestatic 32, 3) := by decide +kernel
theorem dX3_give_35 : decode cX3_give 35 = .ok (.return_, 1) := by decide +kernel
theorem dX3_give_36 : decode cX3_give 36 = .ok (.aload_n 0, 1) := by decide +kernel
theorem dX3_give_37 : decode cX3_give 37 = .ok (.aload_n 1, 1) := by decide +kernel
theorem dX3_give_38 : decode cX3_give 38 = .ok (.iload_n 2, 1) := by decide +kernel
theorem dX3_give_39 : decode cX3_give 39 = .ok (.iload_n 3, 1) := by decide +kernel
theorem dX3_give_40 : decode cX3_give 40 = .ok (.iload 4, 2) := by decide +kernel
theorem dX3_give_42 : decode cX3_give 42 = .ok (.invokevirtual 36, 3) := by decide +kernel
theorem dX3_give_45 : decode cX3_give 45 = .ok (.return_, 1) := by decide +kernel
theorem dX3_giveEach_0 : decode cX3_giveEach 0 = .ok (.iconst 0, 1) := by decide +kernel
theorem dX3_giveEach_1 : decode cX3_giveEach 1 = .ok (.istore 5, 2) := by decide +kernel
theorem dX3_giveEach_3 : decode cX3_giveEach 3 = .ok (.iload 5, 2) := by decide +kernel
theorem dX3_giveEach_5 : decode cX3_giveEach 5 = .ok (.aload_n 1, 1) := by decide +kernel
theorem dX3_giveEach_6 : decode cX3_giveEach 6 = .ok (.getfield 27, 3) := by decide +kernel
theorem dX3_giveEach_9 : decode cX3_giveEach 9 = .ok (.if_icmp .ge 52, 3) := by decide +kernel
theorem dX3_giveEach_12 : decode cX3_giveEach 12 = .ok (.iload_n 3, 1) := by decide +kernel
theorem dX3_giveEach_13 : decode cX3_giveEach 13 = .ok (.iload 5, 2) := by decide +kernel
theorem dX3_giveEach_15 : decode cX3_giveEach 15 = .ok (.ishr, 1) := by decide +kernel
theorem dX3_giveEach_16 : decode cX3_giveEach 16 = .ok (.iconst 1, 1) := by decide +kernel
theorem dX3_giveEach_17 : decode cX3_giveEach 17 = .ok (.iand, 1) := by decide +kernel
theorem dX3_giveEach_18 : decode cX3_giveEach 18 = .ok (.ifCond .ne 37, 3) := by decide +kernel
theorem dX3_giveEach_21 : decode cX3_giveEach 21 = .ok (.aload_n 0, 1) := by decide +kernel
theorem dX3_giveEach_22 : decode cX3_giveEach 22 = .ok (.getfield 15, 3) := by decide +kernel
theorem dX3_giveEach_25 : decode cX3_giveEach 25 = .ok (.iload_n 2, 1) := by decide +kernel
theorem dX3_giveEach_26 : decode cX3_giveEach 26 = .ok (.iload 5, 2) := by decide +kernel
theorem dX3_giveEach_28 : decode cX3_giveEach 28 = .ok (.invokestatic 39, 3) := by decide +kernel
theorem dX3_giveEach_31 : decode cX3_giveEach 31 = .ok (.aload_n 0, 1) := by decide +kernel
theorem dX3_giveEach_32 : decode cX3_giveEach 32 = .ok (.aload_n 1, 1) := by decide +kernel
theorem dX3_giveEach_33 : decode cX3_giveEach 33 = .ok (.iload_n 2, 1) := by decide +kernel
theorem dX3_giveEach_34 : decode cX3_giveEach 34 = .ok (.iconst 1, 1) := by decide +kernel
theorem dX3_giveEach_35 : decode cX3_giveEach 35 = .ok (.iadd, 1) := by decide +kernel
theorem dX3_giveEach_36 : decode cX3_giveEach 36 = .ok (.iload_n 3, 1) := by decide +kernel
theorem dX3_giveEach_37 : decode cX3_giveEach 37 = .ok (.iconst 1, 1) := by decide +kernel
theorem dX3_giveEach_38 : decode cX3_giveEach 38 = .ok (.iload 5, 2) := by decide +kernel
theorem dX3_giveEach_40 : decode cX3_giveEach 40 = .ok (.ishl, 1) := by decide +kernel
theorem dX3_giveEach_41 : decode cX3_giveEach 41 = .ok (.ior, 1) := by decide +kernel
theorem dX3_giveEach_42 : decode cX3_giveEach 42 = .ok (.iload 4, 2) := by decide +kernel
theorem dX3_giveEach_44 : decode cX3_giveEach 44 = .ok (.aload_n 1, 1) := by decide +kernel
theorem dX3_giveEach_45 : decode cX3_giveEach 45 = .ok (.iload_n 2, 1) := by decide +kernel
theorem dX3_giveEach_46 : decode cX3_giveEach 46 = .ok (.iload 5, 2) := by decide +kernel
theorem dX3_giveEach_48 : decode cX3_giveEach 48 = .ok (.invokevirtual 43, 3) := by decide +kernel
theorem dX3_giveEach_51 : decode cX3_giveEach 51 = .ok (.iadd, 1) := by decide +kernel
theorem dX3_giveEach_52 : decode cX3_giveEach 52 = .ok (.invokevirtual 23, 3) := by decide +kernel
theorem dX3_giveEach_55 : decode cX3_giveEach 55 = .ok (.iinc 5 1, 3) := by decide +kernel
theorem dX3_giveEach_58 : decode cX3_giveEach 58 = .ok (.goto (-55), 3) := by decide +kernel
theorem dX3_giveEach_61 : decode cX3_giveEach 61 = .ok (.return_, 1) := by decide +kernel
theorem dX4_init_0 : decode cX4_init 0 = .ok (.aload_n 0, 1) := by decide +kernel
theorem dX4_init_1 : decode cX4_init 1 = .ok (.invokespecial 3, 3) := by decide +kernel
theorem dX4_init_4 : decode cX4_init 4 = .ok (.aload_n 0, 1) := by decide +kernel
theorem dX4_init_5 : decode cX4_init 5 = .ok (.new 9, 3) := by decide +kernel
theorem dX4_init_8 : decode cX4_init 8 = .ok (.dup, 1) := by decide +kernel
theorem dX4_init_9 : decode cX4_init 9 = .ok (.invokespecial 11, 3) := by decide +kernel
theorem dX4_init_12 : decode cX4_init 12 = .ok (.putfield 12, 3) := by decide +kernel
theorem dX4_init_15 : decode cX4_init 15 = .ok (.aload_n 0, 1) := by decide +kernel
theorem dX4_init_16 : decode cX4_init 16 = .ok (.bipush 60, 2) := by decide +kernel
theorem dX4_init_18 : decode cX4_init 18 = .ok (.newarray .int, 2) := by decide +kernel
theorem dX4_init_20 : decode cX4_init 20 = .ok (.putfield 18, 3) := by decide +kernel
theorem dX4_init_23 : decode cX4_init 23 = .ok (.aload_n 0, 1) := by decide +kernel
theorem dX4_init_24 : decode cX4_init 24 = .ok (.iconst 0, 1) := by decide +kernel
theorem dX4_init_25 : decode cX4_init 25 = .ok (.putfield 22, 3) := by decide +kernel
theorem dX4_init_28 : decode cX4_init 28 = .ok (.aload_n 0, 1) := by decide +kernel
theorem dX4_init_29 : decode cX4_init 29 = .ok (.iconst 0, 1) := by decide +kernel
theorem dX4_init_30 : decode cX4_init 30 = .ok (.putfield 26, 3) := by decide +kernel
theorem dX4_init_33 : decode cX4_init 33 = .ok (.return_, 1) := by decide +kernel
theorem dX4_readTown_0 : decode cX4_readTown 0 = .ok (.aload_n 0, 1) := by decide +kernel
theorem dX4_readTown_1 : decode cX4_readTown 1 = .ok (.aload_n 1, 1) := by decide +kernel
theorem dX4_readTown_2 : decode cX4_readTown 2 = .ok (.iload_n 2, 1) := by decide +kernel
theorem dX4_readTown_3 : decode cX4_readTown 3 = .ok (.invokevirtual 29, 3) := by decide +kernel
theorem dX4_readTown_6 : decode cX4_readTown 6 = .ok (.putfield 22, 3) := by decide +kernel
theorem dX4_readTown_9 : decode cX4_readTown 9 = .ok (.iconst 0, 1) := by decide +kernel
theorem dX4_readTown_10 : decode cX4_readTown 10 = .ok (.istore_n 3, 1) := by decide +kernel
theorem dX4_readTown_11 : decode cX4_readTown 11 = .ok (.iload_n 3, 1) := by decide +kernel
theorem dX4_readTown_12 : decode cX4_readTown 12 = .ok (.aload_n 0, 1) := by decide +kernel
theorem dX4_readTown_13 : decode cX4_readTown 13 = .ok (.getfield 22, 3) := by decide +kernel
theorem dX4_readTown_16 : decode cX4_readTown 16 = .ok (.if_icmp .ge 23, 3) := by decide +kernel
theorem dX4_readTown_19 : decode cX4_readTown 19 = .ok (.aload_n 0, 1) := by decide +kernel
theorem dX4_readTown_20 : decode cX4_readTown 20 = .ok (.getfield 18, 3) := by decide +kernel
theorem dX4_readTown_23 : decode cX4_readTown 23 = .ok (.iload_n 3, 1) := by decide +kernel
theorem dX4_readTown_24 : decode cX4_readTown 24 = .ok (.aload_n 1, 1) := by decide +kernel
theorem dX4_readTown_25 : decode cX4_readTown 25 = .ok (.iload_n 2, 1) := by decide +kernel
theorem dX4_readTown_26 : decode cX4_readTown 26 = .ok (.iload_n 3, 1) := by decide +kernel
theorem dX4_readTown_27 : decode cX4_readTown 27 = .ok (.invokevirtual 34, 3) := by decide +kernel
theorem dX4_readTown_30 : decode cX4_readTown 30 = .ok (.invokestatic 38, 3) := by decide +kernel
theorem dX4_readTown_33 : decode cX4_readTown 33 = .ok (.iinc 3 1, 3) := by decide +kernel
theorem dX4_readTown_36 : decode cX4_readTown 36 = .ok (.goto (-25), 3) := by decide +kernel
theorem dX4_readTown_39 : decode cX4_readTown 39 = .ok (.aload_n 0, 1) := by decide +kernel
theorem dX4_readTown_40 : decode cX4_readTown 40 = .ok (.iconst 0, 1) := by decide +kernel
theorem dX4_readTown_41 : decode cX4_readTown 41 = .ok (.putfield 26, 3) := by decide +kernel
theorem dX4_readTown_44 : decode cX4_readTown 44 = .ok (.aload_n 0, 1) := by decide +kernel
theorem dX4_readTown_45 : decode cX4_readTown 45 = .ok (.getfield 12, 3) := by decide +kernel
theorem dX4_readTown_48 : decode cX4_readTown 48 = .ok (.invokevirtual 42, 3) := by decide +kernel
theorem dX4_readTown_51 : decode cX4_readTown 51 = .ok (.aload_n 0, 1) := by decide +kernel
theorem dX4_readTown_52 : decode cX4_readTown 52 = .ok (.invokevirtual 45, 3) := by decide +kernel
theorem dX4_readTown_55 : decode cX4_readTown 55 = .ok (.aload_n 0, 1) := by decide +kernel
theorem dX4_readTown_56 : decode cX4_readTown 56 = .ok (.invokevirtual 48, 3) := by decide +kernel
theorem dX4_readTown_59 : decode cX4_readTown 59 = .ok (.ifCond .ne 8, 3) := by decide +kernel
theorem dX4_readTown_62 : decode cX4_readTown 62 = .ok (.aload_n 0, 1) := by decide +kernel
theorem dX4_readTown_63 : decode cX4_readTown 63 = .ok (.getfield 26, 3) := by decide +kernel
theorem dX4_readTown_66 : decode cX4_readTown 66 = .ok (.ireturn, 1) := by decide +kernel
theorem dX4_readTown_67 : decode cX4_readTown 67 = .ok (.iconst 0, 1) := by decide +kernel
theorem dX4_readTown_68 : decode cX4_readTown 68 = .ok (.istore_n 3, 1) := by decide +kernel
theorem dX4_readTown_69 : decode cX4_readTown 69 = .ok (.iload_n 3, 1) := by decide +kernel
theorem dX4_readTown_70 : decode cX4_readTown 70 = .ok (.bipush 6, 2) := by decide +kernel
theorem dX4_readTown_72 : decode cX4_readTown 72 = .ok (.if_icmp .gt 56, 3) := by decide +kernel
theorem dX4_readTown_75 : decode cX4_readTown 75 = .ok (.aload_n 0, 1) := by decide +kernel
theorem dX4_readTown_76 : decode cX4_readTown 76 = .ok (.invokevirtual 45, 3) := by decide +kernel
theorem dX4_readTown_79 : decode cX4_readTown 79 = .ok (.aload_n 0, 1) := by decide +kernel
theorem dX4_readTown_80 : decode cX4_readTown 80 = .ok (.getfield 26, 3) := by decide +kernel
theorem dX4_readTown_83 : decode cX4_readTown 83 = .ok (.aload_n 0, 1) := by decide +kernel
theorem dX4_readTown_84 : decode cX4_readTown 84 = .ok (.getfield 22, 3) := by decide +kernel
theorem dX4_readTown_87 : decode cX4_readTown 87 = .ok (.if_icmp .lt 23, 3) := by decide +kernel
theorem dX4_readTown_90 : decode cX4_readTown 90 = .ok (.aload_n 0, 1) := by decide +kernel
theorem dX4_readTown_91 : decode cX4_readTown 91 = .ok (.getfield 12, 3) := by decide +kernel
theorem dX4_readTown_94 : decode cX4_readTown 94 = .ok (.getfield 52, 3) := by decide +kernel
theorem dX4_readTown_97 : decode cX4_readTown 97 = .ok (.ifCond .le 8, 3) := by decide +kernel
theorem dX4_readTown_100 : decode cX4_readTown 100 = .ok (.bipush (-9), 2) := by decide +kernel
theorem dX4_readTown_102 : decode cX4_readTown 102 = .ok (.goto 7, 3) := by decide +kernel
theorem dX4_readTown_105 : decode cX4_readTown 105 = .ok (.aload_n 0, 1) := by decide +kernel
theorem dX4_readTown_106 : decode cX4_readTown 106 = .ok (.getfield 26, 3) := by decide +kernel
theorem dX4_readTown_109 : decode cX4_readTown 109 = .ok (.ireturn, 1) := by decide +kernel
theorem dX4_readTown_110 : decode cX4_readTown 110 = .ok (.aload_n 0, 1) := by decide +kernel
theorem dX4_readTown_111 : decode cX4_readTown 111 = .ok (.invokevirtual 55, 3) := by decide +kernel
theorem dX4_readTown_114 : decode cX4_readTown 114 = .ok (.ifCond .ne 8, 3) := by decide +kernel
theorem dX4_readTown_117 : decode cX4_readTown 117 = .ok (.aload_n 0, 1) := by decide +kernel
theorem dX4_readTown_118 : decode cX4_readTown 118 = .ok (.getfield 26, 3) := by decide +kernel
theorem dX4_readTown_121 : decode cX4_readTown 121 = .ok (.ireturn, 1) := by decide +kernel
theorem dX4_readTown_122 : decode cX4_readTown 122 = .ok (.iinc 3 1, 3) := by decide +kernel
theorem dX4_readTown_125 : decode cX4_readTown 125 = .ok (.goto (-56), 3) := by decide +kernel
theorem dX4_readTown_128 : decode cX4_readTown 128 = .ok (.aload_n 0, 1) := by decide +kernel
theorem dX4_readTown_129 : decode cX4_readTown 129 = .ok (.getfield 26, 3) := by decide +kernel
theorem dX4_readTown_132 : decode cX4_readTown 132 = .ok (.ireturn, 1) := by decide +kernel
theorem dX4_takesHead_0 : decode cX4_takesHead 0 = .ok (.aload_n 0, 1) := by decide +kernel
theorem dX4_takesHead_1 : decode cX4_takesHead 1 = .ok (.invokevirtual 58, 3) := by decide +kernel
theorem dX4_takesHead_4 : decode cX4_takesHead 4 = .ok (.bipush 110, 2) := by decide +kernel
theorem dX4_takesHead_6 : decode cX4_takesHead 6 = .ok (.if_icmp .eq 5, 3) := by decide +kernel
theorem dX4_takesHead_9 : decode cX4_takesHead 9 = .ok (.iconst 0, 1) := by decide +kernel
theorem dX4_takesHead_10 : decode cX4_takesHead 10 = .ok (.ireturn, 1) := by decide +kernel
theorem dX4_takesHead_11 : decode cX4_takesHead 11 = .ok (.aload_n 0, 1) := by decide +kernel
theorem dX4_takesHead_12 : decode cX4_takesHead 12 = .ok (.dup, 1) := by decide +kernel
theorem dX4_takesHead_13 : decode cX4_takesHead 13 = .ok (.getfield 26, 3) := by decide +kernel
theorem dX4_takesHead_16 : decode cX4_takesHead 16 = .ok (.iconst 1, 1) := by decide +kernel
theorem dX4_takesHead_17 : decode cX4_takesHead 17 = .ok (.iadd, 1) := by decide +kernel
theorem dX4_takesHead_18 : decode cX4_takesHead 18 = .ok (.putfield 26, 3) := by decide +kernel
theorem dX4_takesHead_21 : decode cX4_takesHead 21 = .ok (.iconst 0, 1) := by decide +kernel
theorem dX4_takesHead_22 : decode cX4_takesHead 22 = .ok (.istore_n 1, 1) := by decide +kernel
theorem dX4_takesHead_23 : decode cX4_takesHead 23 = .ok (.iload_n 1, 1) := by decide +kernel
theorem dX4_takesHead_24 : decode cX4_takesHead 24 = .ok (.iconst 4, 1) := by decide +kernel
theorem dX4_takesHead_25 : decode cX4_takesHead 25 = .ok (.if_icmp .ge 34, 3) := by decide +kernel
theorem dX4_takesHead_28 : decode cX4_takesHead 28 = .ok (.aload_n 0, 1) := by decide +kernel
theorem dX4_takesHead_29 : decode cX4_takesHead 29 = .ok (.iconst 0, 1) := by decide +kernel
theorem dX4_takesHead_30 : decode cX4_takesHead 30 = .ok (.invokevirtual 62, 3) := by decide +kernel
theorem dX4_takesHead_33 : decode cX4_takesHead 33 = .ok (.istore_n 2, 1) := by decide +kernel
theorem dX4_takesHead_34 : decode cX4_takesHead 34 = .ok (.iload_n 2, 1) := by decide +kernel
theorem dX4_takesHead_35 : decode cX4_takesHead 35 = .ok (.iconst (-1), 1) := by decide +kernel
theorem dX4_takesHead_36 : decode cX4_takesHead 36 = .ok (.if_icmp .ne 5, 3) := by decide +kernel
theorem dX4_takesHead_39 : decode cX4_takesHead 39 = .ok (.iconst 0, 1) := by decide +kernel
theorem dX4_takesHead_40 : decode cX4_takesHead 40 = .ok (.ireturn, 1) := by decide +kernel
theorem dX4_takesHead_41 : decode cX4_takesHead 41 = .ok (.aload_n 0, 1) := by decide +kernel
theorem dX4_takesHead_42 : decode cX4_takesHead 42 = .ok (.getfield 12, 3) := by decide +kernel
theorem dX4_takesHead_45 : decode cX4_takesHead 45 = .ok (.getfield 65, 3) := by decide +kernel
theorem dX4_takesHead_48 : decode cX4_takesHead 48 = .ok (.iload_n 1, 1) := by decide +kernel
theorem dX4_takesHead_49 : decode cX4_takesHead 49 = .ok (.iload_n 2, 1) := by decide +kernel
theorem dX4_takesHead_50 : decode cX4_takesHead 50 = .ok (.invokestatic 38, 3) := by decide +kernel
theorem dX4_takesHead_53 : decode cX4_takesHead 53 = .ok (.iinc 1 1, 3) := by decide +kernel
theorem dX4_takesHead_56 : decode cX4_takesHead 56 = .ok (.goto (-33), 3) := by decide +kernel
theorem dX4_takesHead_59 : decode cX4_takesHead 59 = .ok (.aload_n 0, 1) := by decide +kernel
theorem dX4_takesHead_60 : decode cX4_takesHead 60 = .ok (.iconst 1, 1) := by decide +kernel
theorem dX4_takesHead_61 : decode cX4_takesHead 61 = .ok (.invokevirtual 62, 3) := by decide +kernel
theorem dX4_takesHead_64 : decode cX4_takesHead 64 = .ok (.istore_n 1, 1) := by decide +kernel
theorem dX4_takesHead_65 : decode cX4_takesHead 65 = .ok (.aload_n 0, 1) := by decide +kernel
theorem dX4_takesHead_66 : decode cX4_takesHead 66 = .ok (.getfield 12, 3) := by decide +kernel
theorem dX4_takesHead_69 : decode cX4_takesHead 69 = .ok (.iload_n 1, 1) := by decide +kernel
theorem dX4_takesHead_70 : decode cX4_takesHead 70 = .ok (.putfield 68, 3) := by decide +kernel
theorem dX4_takesHead_73 : decode cX4_takesHead 73 = .ok (.iload_n 1, 1) := by decide +kernel
theorem dX4_takesHead_74 : decode cX4_takesHead 74 = .ok (.iconst (-1), 1) := by decide +kernel
theorem dX4_takesHead_75 : decode cX4_takesHead 75 = .ok (.if_icmp .eq 7, 3) := by decide +kernel
theorem dX4_takesHead_78 : decode cX4_takesHead 78 = .ok (.iconst 1, 1) := by decide +kernel
theorem dX4_takesHead_79 : decode cX4_takesHead 79 = .ok (.goto 4, 3) := by decide +kernel
theorem dX4_takesHead_82 : decode cX4_takesHead 82 = .ok (.iconst 0, 1) := by decide +kernel
theorem dX4_takesHead_83 : decode cX4_takesHead 83 = .ok (.ireturn, 1) := by decide +kernel
theorem dX4_takesBed_0 : decode cX4_takesBed 0 = .ok (.aload_n 0, 1) := by decide +kernel
theorem dX4_takesBed_1 : decode cX4_takesBed 1 = .ok (.invokevirtual 71, 3) := by decide +kernel
theorem dX4_takesBed_4 : decode cX4_takesBed 4 = .ok (.istore_n 1, 1) := by decide +kernel
theorem dX4_takesBed_5 : decode cX4_takesBed 5 = .ok (.iload_n 1, 1) := by decide +kernel
theorem dX4_takesBed_6 : decode cX4_takesBed 6 = .ok (.iconst (-1), 1) := by decide +kernel
theorem dX4_takesBed_7 : decode cX4_takesBed 7 = .ok (.if_icmp .eq 15, 3) := by decide +kernel
theorem dX4_takesBed_10 : decode cX4_takesBed 10 = .ok (.aload_n 0, 1) := by decide +kernel
theorem dX4_takesBed_11 : decode cX4_takesBed 11 = .ok (.getfield 12, 3) := by decide +kernel
theorem dX4_takesBed_14 : decode cX4_takesBed 14 = .ok (.getfield 52, 3) := by decide +kernel
theorem dX4_takesBed_17 : decode cX4_takesBed 17 = .ok (.bipush 6, 2) := by decide +kernel
theorem dX4_takesBed_19 : decode cX4_takesBed 19 = .ok (.if_icmp .lt 5, 3) := by decide +kernel
theorem dX4_takesBed_22 : decode cX4_takesBed 22 = .ok (.iconst 0, 1) := by decide +kernel
theorem dX4_takesBed_23 : decode cX4_takesBed 23 = .ok (.ireturn, 1) := by decide +kernel
theorem dX4_takesBed_24 : decode cX4_takesBed 24 = .ok (.aload_n 0, 1) := by decide +kernel
theorem dX4_takesBed_25 : decode cX4_takesBed 25 = .ok (.dup, 1) := by decide +kernel
theorem dX4_takesBed_26 : decode cX4_takesBed 26 = .ok (.getfield 26, 3) := by decide +kernel
theorem dX4_takesBed_29 : decode cX4_takesBed 29 = .ok (.iconst 1, 1) := by decide +kernel
theorem dX4_takesBed_30 : decode cX4_takesBed 30 = .ok (.iadd, 1) := by decide +kernel
theorem dX4_takesBed_31 : decode cX4_takesBed 31 = .ok (.putfield 26, 3) := by decide +kernel
theorem dX4_takesBed_34 : decode cX4_takesBed 34 = .ok (.aload_n 0, 1) := by decide +kernel
theorem dX4_takesBed_35 : decode cX4_takesBed 35 = .ok (.iconst 0, 1) := by decide +kernel
theorem dX4_takesBed_36 : decode cX4_takesBed 36 = .ok (.invokevirtual 62, 3) := by decide +kernel
theorem dX4_takesBed_39 : decode cX4_takesBed 39 = .ok (.istore_n 2, 1) := by decide +kernel
theorem dX4_takesBed_40 : decode cX4_takesBed 40 = .ok (.iload_n 2, 1) := by decide +kernel
theorem dX4_takesBed_41 : decode cX4_takesBed 41 = .ok (.iconst (-1), 1) := by decide +kernel
theorem dX4_takesBed_42 : decode cX4_takesBed 42 = .ok (.if_icmp .ne 7, 3) := by decide +kernel
theorem dX4_takesBed_45 : decode cX4_takesBed 45 = .ok (.iconst (-1), 1) := by decide +kernel
theorem dX4_takesBed_46 : decode cX4_takesBed 46 = .ok (.goto 8, 3) := by decide +kernel
theorem dX4_takesBed_49 : decode cX4_takesBed 49 = .ok (.aload_n 0, 1) := by decide +kernel
theorem dX4_takesBed_50 : decode cX4_takesBed 50 = .ok (.iconst 0, 1) := by decide +kernel
theorem dX4_takesBed_51 : decode cX4_takesBed 51 = .ok (.invokevirtual 62, 3) := by decide +kernel
theorem dX4_takesBed_54 : decode cX4_takesBed 54 = .ok (.istore_n 3, 1) := by decide +kernel
theorem dX4_takesBed_55 : decode cX4_takesBed 55 = .ok (.iload_n 3, 1) := by decide +kernel
theorem dX4_takesBed_56 : decode cX4_takesBed 56 = .ok (.iconst (-1), 1) := by decide +kernel
theorem dX4_takesBed_57 : decode cX4_takesBed 57 = .ok (.if_icmp .ne 7, 3) := by decide +kernel
theorem dX4_takesBed_60 : decode cX4_takesBed 60 = .ok (.iconst (-1), 1) := by decide +kernel
theorem dX4_takesBed_61 : decode cX4_takesBed 61 = .ok (.goto 8, 3) := by decide +kernel
theorem dX4_takesBed_64 : decode cX4_takesBed 64 = .ok (.aload_n 0, 1) := by decide +kernel
theorem dX4_takesBed_65 : decode cX4_takesBed 65 = .ok (.iconst 0, 1) := by decide +kernel
theorem dX4_takesBed_66 : decode cX4_takesBed 66 = .ok (.invokevirtual 62, 3) := by decide +kernel
theorem dX4_takesBed_69 : decode cX4_takesBed 69 = .ok (.istore 4, 2) := by decide +kernel
theorem dX4_takesBed_71 : decode cX4_takesBed 71 = .ok (.iload 4, 2) := by decide +kernel
theorem dX4_takesBed_73 : decode cX4_takesBed 73 = .ok (.iconst (-1), 1) := by decide +kernel
theorem dX4_takesBed_74 : decode cX4_takesBed 74 = .ok (.if_icmp .ne 5, 3) := by decide +kernel
theorem dX4_takesBed_77 : decode cX4_takesBed 77 = .ok (.iconst 0, 1) := by decide +kernel
theorem dX4_takesBed_78 : decode cX4_takesBed 78 = .ok (.ireturn, 1) := by decide +kernel
theorem dX4_takesBed_79 : decode cX4_takesBed 79 = .ok (.aload_n 0, 1) := by decide +kernel
theorem dX4_takesBed_80 : decode cX4_takesBed 80 = .ok (.getfield 12, 3) := by decide +kernel
theorem dX4_takesBed_83 : decode cX4_takesBed 83 = .ok (.iload_n 1, 1) := by decide +kernel
theorem dX4_takesBed_84 : decode cX4_takesBed 84 = .ok (.iload_n 2, 1) := by decide +kernel
theorem dX4_takesBed_85 : decode cX4_takesBed 85 = .ok (.iload_n 3, 1) := by decide +kernel
theorem dX4_takesBed_86 : decode cX4_takesBed 86 = .ok (.iload 4, 2) := by decide +kernel
theorem dX4_takesBed_88 : decode cX4_takesBed 88 = .ok (.invokevirtual 74, 3) := by decide +kernel
theorem dX4_takesBed_91 : decode cX4_takesBed 91 = .ok (.iconst 1, 1) := by decide +kernel
theorem dX4_takesBed_92 : decode cX4_takesBed 92 = .ok (.ireturn, 1) := by decide +kernel
theorem dX4_skipBlanks_0 : decode cX4_skipBlanks 0 = .ok (.aload_n 0, 1) := by decide +kernel
theorem dX4_skipBlanks_1 : decode cX4_skipBlanks 1 = .ok (.getfield 26, 3) := by decide +kernel
theorem dX4_skipBlanks_4 : decode cX4_skipBlanks 4 = .ok (.aload_n 0, 1) := by decide +kernel
theorem dX4_skipBlanks_5 : decode cX4_skipBlanks 5 = .ok (.getfield 22, 3) := by decide +kernel
theorem dX4_skipBlanks_8 : decode cX4_skipBlanks 8 = .ok (.if_icmp .ge 25, 3) := by decide +kernel
theorem dX4_skipBlanks_11 : decode cX4_skipBlanks 11 = .ok (.aload_n 0, 1) := by decide +kernel
theorem dX4_skipBlanks_12 : decode cX4_skipBlanks 12 = .ok (.invokevirtual 58, 3) := by decide +kernel
theorem dX4_skipBlanks_15 : decode cX4_skipBlanks 15 = .ok (.bipush 32, 2) := by decide +kernel
theorem dX4_skipBlanks_17 : decode cX4_skipBlanks 17 = .ok (.if_icmp .ne 16, 3) := by decide +kernel
theorem dX4_skipBlanks_20 : decode cX4_skipBlanks 20 = .ok (.aload_n 0, 1) := by decide +kernel
theorem dX4_skipBlanks_21 : decode cX4_skipBlanks 21 = .ok (.dup, 1) := by decide +kernel
theorem dX4_skipBlanks_22 : decode cX4_skipBlanks 22 = .ok (.getfield 26, 3) := by decide +kernel
theorem dX4_skipBlanks_25 : decode cX4_skipBlanks 25 = .ok (.iconst 1, 1) := by decide +kernel
theorem dX4_skipBlanks_26 : decode cX4_skipBlanks 26 = .ok (.iadd, 1) := by decide +kernel
theorem dX4_skipBlanks_27 : decode cX4_skipBlanks 27 = .ok (.putfield 26, 3) := by decide +kernel
theorem dX4_skipBlanks_30 : decode cX4_skipBlanks 30 = .ok (.goto (-30), 3) := by decide +kernel
theorem dX4_skipBlanks_33 : decode cX4_skipBlanks 33 = .ok (.return_, 1) := by decide +kernel
theorem dX4_kindHere_0 : decode cX4_kindHere 0 = .ok (.iconst 0, 1) := by decide +kernel
theorem dX4_kindHere_1 : decode cX4_kindHere 1 = .ok (.istore_n 1, 1) := by decide +kernel
theorem dX4_kindHere_2 : decode cX4_kindHere 2 = .ok (.iload_n 1, 1) := by decide +kernel
theorem dX4_kindHere_3 : decode cX4_kindHere 3 = .ok (.bipush 6, 2) := by decide +kernel
theorem dX4_kindHere_5 : decode cX4_kindHere 5 = .ok (.if_icmp .ge 25, 3) := by decide +kernel
theorem dX4_kindHere_8 : decode cX4_kindHere 8 = .ok (.aload_n 0, 1) := by decide +kernel
theorem dX4_kindHere_9 : decode cX4_kindHere 9 = .ok (.invokevirtual 58, 3) := by decide +kernel
theorem dX4_kindHere_12 : decode cX4_kindHere 12 = .ok (.getstatic 78, 3) := by decide +kernel
theorem dX4_kindHere_15 : decode cX4_kindHere 15 = .ok (.iload_n 1, 1) := by decide +kernel
theorem dX4_kindHere_16 : decode cX4_kindHere 16 = .ok (.invokestatic 81, 3) := by decide +kernel
theorem dX4_kindHere_19 : decode cX4_kindHere 19 = .ok (.if_icmp .ne 5, 3) := by decide +kernel
theorem dX4_kindHere_22 : decode cX4_kindHere 22 = .ok (.iload_n 1, 1) := by decide +kernel
theorem dX4_kindHere_23 : decode cX4_kindHere 23 = .ok (.ireturn, 1) := by decide +kernel
theorem dX4_kindHere_24 : decode cX4_kindHere 24 = .ok (.iinc 1 1, 3) := by decide +kernel
theorem dX4_kindHere_27 : decode cX4_kindHere 27 = .ok (.goto (-25), 3) := by decide +kernel
theorem dX4_kindHere_30 : decode cX4_kindHere 30 = .ok (.iconst (-1), 1) := by decide +kernel
theorem dX4_kindHere_31 : decode cX4_kindHere 31 = .ok (.ireturn, 1) := by decide +kernel
theorem dX4_takeFigure_0 : decode cX4_takeFigure 0 = .ok (.aload_n 0, 1) := by decide +kernel
theorem dX4_takeFigure_1 : decode cX4_takeFigure 1 = .ok (.invokevirtual 58, 3) := by decide +kernel
theorem dX4_takeFigure_4 : decode cX4_takeFigure 4 = .ok (.bipush 48, 2) := by decide +kernel
theorem dX4_takeFigure_6 : decode cX4_takeFigure 6 = .ok (.isub, 1) := by decide +kernel
theorem dX4_takeFigure_7 : decode cX4_takeFigure 7 = .ok (.istore_n 2, 1) := by decide +kernel
theorem dX4_takeFigure_8 : decode cX4_takeFigure 8 = .ok (.iload_n 2, 1) := by decide +kernel
theorem dX4_takeFigure_9 : decode cX4_takeFigure 9 = .ok (.iload_n 1, 1) := by decide +kernel
theorem dX4_takeFigure_10 : decode cX4_takeFigure 10 = .ok (.if_icmp .lt 9, 3) := by decide +kernel
theorem dX4_takeFigure_13 : decode cX4_takeFigure 13 = .ok (.iload_n 2, 1) := by decide +kernel
theorem dX4_takeFigure_14 : decode cX4_takeFigure 14 = .ok (.bipush 9, 2) := by decide +kernel
theorem dX4_takeFigure_16 : decode cX4_takeFigure 16 = .ok (.if_icmp .le 5, 3) := by decide +kernel
theorem dX4_takeFigure_19 : decode cX4_takeFigure 19 = .ok (.iconst (-1), 1) := by decide +kernel
theorem dX4_takeFigure_20 : decode cX4_takeFigure 20 = .ok (.ireturn, 1) := by decide +kernel
theorem dX4_takeFigure_21 : decode cX4_takeFigure 21 = .ok (.aload_n 0, 1) := by decide +kernel
theorem dX4_takeFigure_22 : decode cX4_takeFigure 22 = .ok (.dup, 1) := by decide +kernel
theorem dX4_takeFigure_23 : decode cX4_takeFigure 23 = .ok (.getfield 26, 3) := by decide +kernel
theorem dX4_takeFigure_26 : decode cX4_takeFigure 26 = .ok (.iconst 1, 1) := by decide +kernel
theorem dX4_takeFigure_27 : decode cX4_takeFigure 27 = .ok (.iadd, 1) := by decide +kernel
theorem dX4_takeFigure_28 : decode cX4_takeFigure 28 = .ok (.putfield 26, 3) := by decide +kernel
theorem dX4_takeFigure_31 : decode cX4_takeFigure 31 = .ok (.iload_n 2, 1) := by decide +kernel
theorem dX4_takeFigure_32 : decode cX4_takeFigure 32 = .ok (.ireturn, 1) := by decide +kernel
theorem dX4_here_0 : decode cX4_here 0 = .ok (.aload_n 0, 1) := by decide +kernel
theorem dX4_here_1 : decode cX4_here 1 = .ok (.getfield 26, 3) := by decide +kernel
theorem dX4_here_4 : decode cX4_here 4 = .ok (.aload_n 0, 1) := by decide +kernel
theorem dX4_here_5 : decode cX4_here 5 = .ok (.getfield 22, 3) := by decide +kernel
theorem dX4_here_8 : decode cX4_here 8 = .ok (.if_icmp .ge 17, 3) := by decide +kernel
theorem dX4_here_11 : decode cX4_here 11 = .ok (.aload_n 0, 1) := by decide +kernel
theorem dX4_here_12 : decode cX4_here 12 = .ok (.getfield 18, 3) := by decide +kernel
theorem dX4_here_15 : decode cX4_here 15 = .ok (.aload_n 0, 1) := by decide +kernel
theorem dX4_here_16 : decode cX4_here 16 = .ok (.getfield 26, 3) := by decide +kernel
theorem dX4_here_19 : decode cX4_here 19 = .ok (.invokestatic 81, 3) := by decide +kernel
theorem dX4_here_22 : decode cX4_here 22 = .ok (.goto 4, 3) := by decide +kernel
theorem dX4_here_25 : decode cX4_here 25 = .ok (.iconst 0, 1) := by decide +kernel
theorem dX4_here_26 : decode cX4_here 26 = .ok (.ireturn, 1) := by decide +kernel
theorem dX5_init_0 : decode cX5_init 0 = .ok (.aload_n 0, 1) := by decide +kernel
theorem dX5_init_1 : decode cX5_init 1 = .ok (.invokespecial 3, 3) := by decide +kernel
theorem dX5_init_4 : decode cX5_init 4 = .ok (.aload_n 0, 1) := by decide +kernel
theorem dX5_init_5 : decode cX5_init 5 = .ok (.new 9, 3) := by decide +kernel
theorem dX5_init_8 : decode cX5_init 8 = .ok (.dup, 1) := by decide +kernel
theorem dX5_init_9 : decode cX5_init 9 = .ok (.iconst 5, 1) := by decide +kernel
theorem dX5_init_10 : decode cX5_init 10 = .ok (.invokespecial 11, 3) := by decide +kernel
theorem dX5_init_13 : decode cX5_init 13 = .ok (.putfield 14, 3) := by decide +kernel
theorem dX5_init_16 : decode cX5_init 16 = .ok (.aload_n 0, 1) := by decide +kernel
theorem dX5_init_17 : decode cX5_init 17 = .ok (.iconst 4, 1) := by decide +kernel
theorem dX5_init_18 : decode cX5_init 18 = .ok (.newarray .int, 2) := by decide +kernel
theorem dX5_init_20 : decode cX5_init 20 = .ok (.putfield 20, 3) := by decide +kernel
theorem dX5_init_23 : decode cX5_init 23 = .ok (.aload_n 0, 1) := by decide +kernel
theorem dX5_init_24 : decode cX5_init 24 = .ok (.iconst 4, 1) := by decide +kernel
theorem dX5_init_25 : decode cX5_init 25 = .ok (.newarray .int, 2) := by decide +kernel
theorem dX5_init_27 : decode cX5_init 27 = .ok (.putfield 24, 3) := by decide +kernel
theorem dX5_init_30 : decode cX5_init 30 = .ok (.aload_n 0, 1) := by decide +kernel
theorem dX5_init_31 : decode cX5_init 31 = .ok (.iconst 0, 1) := by decide +kernel
theorem dX5_init_32 : decode cX5_init 32 = .ok (.putfield 27, 3) := by decide +kernel
theorem dX5_init_35 : decode cX5_init 35 = .ok (.return_, 1) := by decide +kernel
theorem dX5_mostFound_0 : decode cX5_mostFound 0 = .ok (.aload_n 0, 1) := by decide +kernel
theorem dX5_mostFound_1 : decode cX5_mostFound 1 = .ok (.iconst (-1), 1) := by decide +kernel
theorem dX5_mostFound_2 : decode cX5_mostFound 2 = .ok (.putfield 27, 3) := by decide +kernel
theorem dX5_mostFound_5 : decode cX5_mostFound 5 = .ok (.aload_n 0, 1) := by decide +kernel
theorem dX5_mostFound_6 : decode cX5_mostFound 6 = .ok (.aload_n 0, 1) := by decide +kernel
theorem dX5_mostFound_7 : decode cX5_mostFound 7 = .ok (.getfield 14, 3) := by decide +kernel
theorem dX5_mostFound_10 : decode cX5_mostFound 10 = .ok (.iconst 0, 1) := by decide +kernel
theorem dX5_mostFound_11 : decode cX5_mostFound 11 = .ok (.aload_n 1, 1) := by decide +kernel
theorem dX5_mostFound_12 : decode cX5_mostFound 12 = .ok (.invokevirtual 31, 3) := by decide +kernel
theorem dX5_mostFound_15 : decode cX5_mostFound 15 = .ok (.iconst 0, 1) := by decide +kernel
theorem dX5_mostFound_16 : decode cX5_mostFound 16 = .ok (.iload_n 2, 1) := by decide +kernel
theorem dX5_mostFound_17 : decode cX5_mostFound 17 = .ok (.iconst 0, 1) := by decide +kernel
theorem dX5_mostFound_18 : decode cX5_mostFound 18 = .ok (.invokevirtual 35, 3) := by decide +kernel
theorem dX5_mostFound_21 : decode cX5_mostFound 21 = .ok (.aload_n 0, 1) := by decide +kernel
theorem dX5_mostFound_22 : decode cX5_mostFound 22 = .ok (.getfield 27, 3) := by decide +kernel
theorem dX5_mostFound_25 : decode cX5_mostFound 25 = .ok (.ireturn, 1) := by decide +kernel
theorem dX5_goOn_0 : decode cX5_goOn 0 = .ok (.iload_n 2, 1) := by decide +kernel
theorem dX5_goOn_1 : decode cX5_goOn 1 = .ok (.iload_n 3, 1) := by decide +kernel
theorem dX5_goOn_2 : decode cX5_goOn 2 = .ok (.if_icmp .ge 7, 3) := by decide +kernel
theorem dX5_goOn_5 : decode cX5_goOn 5 = .ok (.aload_n 1, 1) := by decide +kernel
theorem dX5_goOn_6 : decode cX5_goOn 6 = .ok (.ifnonnull 10, 3) := by decide +kernel
theorem dX5_goOn_9 : decode cX5_goOn 9 = .ok (.aload_n 0, 1) := by decide +kernel
theorem dX5_goOn_10 : decode cX5_goOn 10 = .ok (.iload 4, 2) := by decide +kernel
theorem dX5_goOn_12 : decode cX5_goOn 12 = .ok (.invokevirtual 39, 3) := by decide +kernel
theorem dX5_goOn_15 : decode cX5_goOn 15 = .ok (.return_, 1) := by decide +kernel
theorem dX5_goOn_16 : decode cX5_goOn 16 = .ok (.aload_n 1, 1) := by decide +kernel
theorem dX5_goOn_17 : decode cX5_goOn 17 = .ok (.invokevirtual 42, 3) := by decide +kernel
theorem dX5_goOn_20 : decode cX5_goOn 20 = .ok (.pop, 1) := by decide +kernel
theorem dX5_goOn_21 : decode cX5_goOn 21 = .ok (.aload_n 0, 1) := by decide +kernel
theorem dX5_goOn_22 : decode cX5_goOn 22 = .ok (.aload_n 1, 1) := by decide +kernel
theorem dX5_goOn_23 : decode cX5_goOn 23 = .ok (.iload_n 2, 1) := by decide +kernel
theorem dX5_goOn_24 : decode cX5_goOn 24 = .ok (.iload_n 3, 1) := by decide +kernel
theorem dX5_goOn_25 : decode cX5_goOn 25 = .ok (.iload 4, 2) := by decide +kernel
theorem dX5_goOn_27 : decode cX5_goOn 27 = .ok (.invokevirtual 48, 3) := by decide +kernel
theorem dX5_goOn_30 : decode cX5_goOn 30 = .ok (.return_, 1) := by decide +kernel
theorem dX5_inspectEach_0 : decode cX5_inspectEach 0 = .ok (.iconst (-1), 1) := by decide +kernel
theorem dX5_inspectEach_1 : decode cX5_inspectEach 1 = .ok (.istore 5, 2) := by decide +kernel
theorem dX5_inspectEach_3 : decode cX5_inspectEach 3 = .ok (.iload 5, 2) := by decide +kernel
theorem dX5_inspectEach_5 : decode cX5_inspectEach 5 = .ok (.aload_n 1, 1) := by decide +kernel
theorem dX5_inspectEach_6 : decode cX5_inspectEach 6 = .ok (.getfield 51, 3) := by decide +kernel
theorem dX5_inspectEach_9 : decode cX5_inspectEach 9 = .ok (.if_icmp .ge 85, 3) := by decide +kernel
theorem dX5_inspectEach_12 : decode cX5_inspectEach 12 = .ok (.iload 5, 2) := by decide +kernel
theorem dX5_inspectEach_14 : decode cX5_inspectEach 14 = .ok (.ifCond .lt 12, 3) := by decide +kernel
theorem dX5_inspectEach_17 : decode cX5_inspectEach 17 = .ok (.aload_n 1, 1) := by decide +kernel
theorem dX5_inspectEach_18 : decode cX5_inspectEach 18 = .ok (.iload 5, 2) := by decide +kernel
theorem dX5_inspectEach_20 : decode cX5_inspectEach 20 = .ok (.invokevirtual 54, 3) := by decide +kernel
theorem dX5_inspectEach_23 : decode cX5_inspectEach 23 = .ok (.ifCond .eq 65, 3) := by decide +kernel
theorem dX5_inspectEach_26 : decode cX5_inspectEach 26 = .ok (.aload_n 0, 1) := by decide +kernel
theorem dX5_inspectEach_27 : decode cX5_inspectEach 27 = .ok (.getfield 14, 3) := by decide +kernel
theorem dX5_inspectEach_30 : decode cX5_inspectEach 30 = .ok (.iload_n 2, 1) := by decide +kernel
theorem dX5_inspectEach_31 : decode cX5_inspectEach 31 = .ok (.iconst 1, 1) := by decide +kernel
theorem dX5_inspectEach_32 : decode cX5_inspectEach 32 = .ok (.iadd, 1) := by decide +kernel
theorem dX5_inspectEach_33 : decode cX5_inspectEach 33 = .ok (.aload_n 1, 1) := by decide +kernel
theorem dX5_inspectEach_34 : decode cX5_inspectEach 34 = .ok (.invokevirtual 31, 3) := by decide +kernel
theorem dX5_inspectEach_37 : decode cX5_inspectEach 37 = .ok (.astore 6, 2) := by decide +kernel
theorem dX5_inspectEach_39 : decode cX5_inspectEach 39 = .ok (.aload_n 0, 1) := by decide +kernel
theorem dX5_inspectEach_40 : decode cX5_inspectEach 40 = .ok (.getfield 24, 3) := by decide +kernel
theorem dX5_inspectEach_43 : decode cX5_inspectEach 43 = .ok (.iload_n 2, 1) := by decide +kernel
theorem dX5_inspectEach_44 : decode cX5_inspectEach 44 = .ok (.iload 5, 2) := by decide +kernel
theorem dX5_inspectEach_46 : decode cX5_inspectEach 46 = .ok (.ifCond .ge 8, 3) := by decide +kernel
theorem dX5_inspectEach_49 : decode cX5_inspectEach 49 = .ok (.bipush (-9), 2) := by decide +kernel
theorem dX5_inspectEach_51 : decode cX5_inspectEach 51 = .ok (.goto 5, 3) := by decide +kernel
theorem dX5_inspectEach_54 : decode cX5_inspectEach 54 = .ok (.iload 5, 2) := by decide +kernel
theorem dX5_inspectEach_56 : decode cX5_inspectEach 56 = .ok (.invokestatic 58, 3) := by decide +kernel
theorem dX5_inspectEach_59 : decode cX5_inspectEach 59 = .ok (.aload_n 0, 1) := by decide +kernel
theorem dX5_inspectEach_60 : decode cX5_inspectEach 60 = .ok (.aload 6, 2) := by decide +kernel
theorem dX5_inspectEach_62 : decode cX5_inspectEach 62 = .ok (.iload_n 2, 1) := by decide +kernel
theorem dX5_inspectEach_63 : decode cX5_inspectEach 63 = .ok (.iconst 1, 1) := by decide +kernel
theorem dX5_inspectEach_64 : decode cX5_inspectEach 64 = .ok (.iadd, 1) := by decide +kernel
theorem dX5_inspectEach_65 : decode cX5_inspectEach 65 = .ok (.iload_n 3, 1) := by decide +kernel
theorem dX5_inspectEach_66 : decode cX5_inspectEach 66 = .ok (.iload 4, 2) := by decide +kernel
theorem dX5_inspectEach_68 : decode cX5_inspectEach 68 = .ok (.aload 6, 2) := by decide +kernel
theorem dX5_inspectEach_70 : decode cX5_inspectEach 70 = .ok (.ifnonnull 7, 3) := by decide +kernel
theorem dX5_inspectEach_73 : decode cX5_inspectEach 73 = .ok (.iconst 0, 1) := by decide +kernel
theorem dX5_inspectEach_74 : decode cX5_inspectEach 74 = .ok (.goto 10, 3) := by decide +kernel
theorem dX5_inspectEach_77 : decode cX5_inspectEach 77 = .ok (.aload 6, 2) := by decide +kernel
theorem dX5_inspectEach_79 : decode cX5_inspectEach 79 = .ok (.iload 5, 2) := by decide +kernel
theorem dX5_inspectEach_81 : decode cX5_inspectEach 81 = .ok (.invokevirtual 62, 3) := by decide +kernel
theorem dX5_inspectEach_84 : decode cX5_inspectEach 84 = .ok (.iadd, 1) := by decide +kernel
theorem dX5_inspectEach_85 : decode cX5_inspectEach 85 = .ok (.invokevirtual 35, 3) := by decide +kernel
theorem dX5_inspectEach_88 : decode cX5_inspectEach 88 = .ok (.iinc 5 1, 3) := by decide +kernel
theorem dX5_inspectEach_91 : decode cX5_inspectEach 91 = .ok (.goto (-88), 3) := by decide +kernel
theorem dX5_inspectEach_94 : decode cX5_inspectEach 94 = .ok (.return_, 1) := by decide +kernel
theorem dX5_takeIfMore_0 : decode cX5_takeIfMore 0 = .ok (.iload_n 1, 1) := by decide +kernel
theorem dX5_takeIfMore_1 : decode cX5_takeIfMore 1 = .ok (.aload_n 0, 1) := by decide +kernel
theorem dX5_takeIfMore_2 : decode cX5_takeIfMore 2 = .ok (.getfield 27, 3) := by decide +kernel
theorem dX5_takeIfMore_5 : decode cX5_takeIfMore 5 = .ok (.if_icmp .le 19, 3) := by decide +kernel
theorem dX5_takeIfMore_8 : decode cX5_takeIfMore 8 = .ok (.aload_n 0, 1) := by decide +kernel
theorem dX5_takeIfMore_9 : decode cX5_takeIfMore 9 = .ok (.iload_n 1, 1) := by decide +kernel
theorem dX5_takeIfMore_10 : decode cX5_takeIfMore 10 = .ok (.putfield 27, 3) := by decide +kernel
theorem dX5_takeIfMore_13 : decode cX5_takeIfMore 13 = .ok (.aload_n 0, 1) := by decide +kernel
theorem dX5_takeIfMore_14 : decode cX5_takeIfMore 14 = .ok (.getfield 24, 3) := by decide +kernel
theorem dX5_takeIfMore_17 : decode cX5_takeIfMore 17 = .ok (.aload_n 0, 1) := by decide +kernel
theorem dX5_takeIfMore_18 : decode cX5_takeIfMore 18 = .ok (.getfield 20, 3) := by decide +kernel
theorem dX5_takeIfMore_21 : decode cX5_takeIfMore 21 = .ok (.invokestatic 66, 3) := by decide +kernel
theorem dX5_takeIfMore_24 : decode cX5_takeIfMore 24 = .ok (.return_, 1) := by decide +kernel
