theorem dX9_brings_0 : decode cX9_brings 0 = .ok (.iload_n 1, 1) := by decide +kernel
theorem dX9_brings_1 : decode cX9_brings 1 = .ok (.invokestatic 59, 3) := by decide +kernel
theorem dX9_brings_4 : decode cX9_brings 4 = .ok (.ifCond .ne 5, 3) := by decide +kernel
theorem dX9_brings_7 : decode cX9_brings 7 = .ok (.iconst (-1), 1) := by decide +kernel
theorem dX9_brings_8 : decode cX9_brings 8 = .ok (.ireturn, 1) := by decide +kernel
theorem dX9_brings_9 : decode cX9_brings 9 = .ok (.aload_n 0, 1) := by decide +kernel
theorem dX9_brings_10 : decode cX9_brings 10 = .ok (.invokevirtual 153, 3) := by decide +kernel
theorem dX9_brings_13 : decode cX9_brings 13 = .ok (.ifCond .ne 6, 3) := by decide +kernel
theorem dX9_brings_16 : decode cX9_brings 16 = .ok (.bipush (-4), 2) := by decide +kernel
theorem dX9_brings_18 : decode cX9_brings 18 = .ok (.ireturn, 1) := by decide +kernel
theorem dX9_brings_19 : decode cX9_brings 19 = .ok (.aload_n 0, 1) := by decide +kernel
theorem dX9_brings_20 : decode cX9_brings 20 = .ok (.getfield 19, 3) := by decide +kernel
theorem dX9_brings_23 : decode cX9_brings 23 = .ok (.iload_n 1, 1) := by decide +kernel
theorem dX9_brings_24 : decode cX9_brings 24 = .ok (.iaload, 1) := by decide +kernel
theorem dX9_brings_25 : decode cX9_brings 25 = .ok (.ifCond .ge 9, 3) := by decide +kernel
theorem dX9_brings_28 : decode cX9_brings 28 = .ok (.aload_n 0, 1) := by decide +kernel
theorem dX9_brings_29 : decode cX9_brings 29 = .ok (.iconst 1, 1) := by decide +kernel
theorem dX9_brings_30 : decode cX9_brings 30 = .ok (.invokevirtual 63, 3) := by decide +kernel
theorem dX9_brings_33 : decode cX9_brings 33 = .ok (.ireturn, 1) := by decide +kernel
theorem dX9_brings_34 : decode cX9_brings 34 = .ok (.aload_n 0, 1) := by decide +kernel
theorem dX9_brings_35 : decode cX9_brings 35 = .ok (.getfield 19, 3) := by decide +kernel
theorem dX9_brings_38 : decode cX9_brings 38 = .ok (.iload_n 1, 1) := by decide +kernel
theorem dX9_brings_39 : decode cX9_brings 39 = .ok (.iaload, 1) := by decide +kernel
theorem dX9_brings_40 : decode cX9_brings 40 = .ok (.bipush 10, 2) := by decide +kernel
theorem dX9_brings_42 : decode cX9_brings 42 = .ok (.if_icmp .le 9, 3) := by decide +kernel
theorem dX9_brings_45 : decode cX9_brings 45 = .ok (.aload_n 0, 1) := by decide +kernel
theorem dX9_brings_46 : decode cX9_brings 46 = .ok (.iconst 5, 1) := by decide +kernel
theorem dX9_brings_47 : decode cX9_brings 47 = .ok (.invokevirtual 63, 3) := by decide +kernel
theorem dX9_brings_50 : decode cX9_brings 50 = .ok (.ireturn, 1) := by decide +kernel
theorem dX9_brings_51 : decode cX9_brings 51 = .ok (.iconst 0, 1) := by decide +kernel
theorem dX9_brings_52 : decode cX9_brings 52 = .ok (.istore_n 2, 1) := by decide +kernel
theorem dX9_brings_53 : decode cX9_brings 53 = .ok (.iload_n 2, 1) := by decide +kernel
theorem dX9_brings_54 : decode cX9_brings 54 = .ok (.aload_n 0, 1) := by decide +kernel
theorem dX9_brings_55 : decode cX9_brings 55 = .ok (.getfield 19, 3) := by decide +kernel
theorem dX9_brings_58 : decode cX9_brings 58 = .ok (.iload_n 1, 1) := by decide +kernel
theorem dX9_brings_59 : decode cX9_brings 59 = .ok (.iaload, 1) := by decide +kernel
theorem dX9_brings_60 : decode cX9_brings 60 = .ok (.if_icmp .ge 49, 3) := by decide +kernel
theorem dX9_brings_63 : decode cX9_brings 63 = .ok (.aload_n 0, 1) := by decide +kernel
theorem dX9_brings_64 : decode cX9_brings 64 = .ok (.getfield 16, 3) := by decide +kernel
theorem dX9_brings_67 : decode cX9_brings 67 = .ok (.bipush 40, 2) := by decide +kernel
theorem dX9_brings_69 : decode cX9_brings 69 = .ok (.iload_n 1, 1) := by decide +kernel
theorem dX9_brings_70 : decode cX9_brings 70 = .ok (.imul, 1) := by decide +kernel
theorem dX9_brings_71 : decode cX9_brings 71 = .ok (.iload_n 2, 1) := by decide +kernel
theorem dX9_brings_72 : decode cX9_brings 72 = .ok (.iadd, 1) := by decide +kernel
theorem dX9_brings_73 : decode cX9_brings 73 = .ok (.iaload, 1) := by decide +kernel
theorem dX9_brings_74 : decode cX9_brings 74 = .ok (.bipush (-9), 2) := by decide +kernel
theorem dX9_brings_76 : decode cX9_brings 76 = .ok (.if_icmp .eq 27, 3) := by decide +kernel
theorem dX9_brings_79 : decode cX9_brings 79 = .ok (.aload_n 0, 1) := by decide +kernel
theorem dX9_brings_80 : decode cX9_brings 80 = .ok (.aload_n 0, 1) := by decide +kernel
theorem dX9_brings_81 : decode cX9_brings 81 = .ok (.getfield 16, 3) := by decide +kernel
theorem dX9_brings_84 : decode cX9_brings 84 = .ok (.bipush 40, 2) := by decide +kernel
theorem dX9_brings_86 : decode cX9_brings 86 = .ok (.iload_n 1, 1) := by decide +kernel
theorem dX9_brings_87 : decode cX9_brings 87 = .ok (.imul, 1) := by decide +kernel
theorem dX9_brings_88 : decode cX9_brings 88 = .ok (.iload_n 2, 1) := by decide +kernel
theorem dX9_brings_89 : decode cX9_brings 89 = .ok (.iadd, 1) := by decide +kernel
theorem dX9_brings_90 : decode cX9_brings 90 = .ok (.iaload, 1) := by decide +kernel
theorem dX9_brings_91 : decode cX9_brings 91 = .ok (.invokevirtual 140, 3) := by decide +kernel
theorem dX9_brings_94 : decode cX9_brings 94 = .ok (.ifCond .ne 9, 3) := by decide +kernel
theorem dX9_brings_97 : decode cX9_brings 97 = .ok (.aload_n 0, 1) := by decide +kernel
theorem dX9_brings_98 : decode cX9_brings 98 = .ok (.iconst 3, 1) := by decide +kernel
theorem dX9_brings_99 : decode cX9_brings 99 = .ok (.invokevirtual 63, 3) := by decide +kernel
theorem dX9_brings_102 : decode cX9_brings 102 = .ok (.ireturn, 1) := by decide +kernel
theorem dX9_brings_103 : decode cX9_brings 103 = .ok (.iinc 2 1, 3) := by decide +kernel
theorem dX9_brings_106 : decode cX9_brings 106 = .ok (.goto (-53), 3) := by decide +kernel
theorem dX9_brings_109 : decode cX9_brings 109 = .ok (.aload_n 0, 1) := by decide +kernel
theorem dX9_brings_110 : decode cX9_brings 110 = .ok (.invokevirtual 173, 3) := by decide +kernel
theorem dX9_brings_113 : decode cX9_brings 113 = .ok (.iconst 0, 1) := by decide +kernel
theorem dX9_brings_114 : decode cX9_brings 114 = .ok (.istore_n 2, 1) := by decide +kernel
theorem dX9_brings_115 : decode cX9_brings 115 = .ok (.iconst 0, 1) := by decide +kernel
theorem dX9_brings_116 : decode cX9_brings 116 = .ok (.istore_n 3, 1) := by decide +kernel
theorem dX9_brings_117 : decode cX9_brings 117 = .ok (.iload_n 3, 1) := by decide +kernel
theorem dX9_brings_118 : decode cX9_brings 118 = .ok (.aload_n 0, 1) := by decide +kernel
theorem dX9_brings_119 : decode cX9_brings 119 = .ok (.getfield 19, 3) := by decide +kernel
theorem dX9_brings_122 : decode cX9_brings 122 = .ok (.iload_n 1, 1) := by decide +kernel
theorem dX9_brings_123 : decode cX9_brings 123 = .ok (.iaload, 1) := by decide +kernel
theorem dX9_brings_124 : decode cX9_brings 124 = .ok (.if_icmp .ge 58, 3) := by decide +kernel
theorem dX9_brings_127 : decode cX9_brings 127 = .ok (.aload_n 0, 1) := by decide +kernel
theorem dX9_brings_128 : decode cX9_brings 128 = .ok (.sipush 7260, 3) := by decide +kernel
theorem dX9_brings_131 : decode cX9_brings 131 = .ok (.invokevirtual 160, 3) := by decide +kernel
theorem dX9_brings_134 : decode cX9_brings 134 = .ok (.pop, 1) := by decide +kernel
theorem dX9_brings_135 : decode cX9_brings 135 = .ok (.iload_n 2, 1) := by decide +kernel
theorem dX9_brings_136 : decode cX9_brings 136 = .ok (.aload_n 0, 1) := by decide +kernel
theorem dX9_brings_137 : decode cX9_brings 137 = .ok (.getfield 16, 3) := by decide +kernel
theorem dX9_brings_140 : decode cX9_brings 140 = .ok (.bipush 40, 2) := by decide +kernel
theorem dX9_brings_142 : decode cX9_brings 142 = .ok (.iload_n 1, 1) := by decide +kernel
theorem dX9_brings_143 : decode cX9_brings 143 = .ok (.imul, 1) := by decide +kernel
theorem dX9_brings_144 : decode cX9_brings 144 = .ok (.iload_n 3, 1) := by decide +kernel
theorem dX9_brings_145 : decode cX9_brings 145 = .ok (.iadd, 1) := by decide +kernel
theorem dX9_brings_146 : decode cX9_brings 146 = .ok (.iaload, 1) := by decide +kernel
theorem dX9_brings_147 : decode cX9_brings 147 = .ok (.bipush (-9), 2) := by decide +kernel
theorem dX9_brings_149 : decode cX9_brings 149 = .ok (.if_icmp .ne 7, 3) := by decide +kernel
theorem dX9_brings_152 : decode cX9_brings 152 = .ok (.iconst 0, 1) := by decide +kernel
theorem dX9_brings_153 : decode cX9_brings 153 = .ok (.goto 21, 3) := by decide +kernel
theorem dX9_brings_156 : decode cX9_brings 156 = .ok (.aload_n 0, 1) := by decide +kernel
theorem dX9_brings_157 : decode cX9_brings 157 = .ok (.sipush 7260, 3) := by decide +kernel
theorem dX9_brings_160 : decode cX9_brings 160 = .ok (.aload_n 0, 1) := by decide +kernel
theorem dX9_brings_161 : decode cX9_brings 161 = .ok (.getfield 16, 3) := by decide +kernel
theorem dX9_brings_164 : decode cX9_brings 164 = .ok (.bipush 40, 2) := by decide +kernel
theorem dX9_brings_166 : decode cX9_brings 166 = .ok (.iload_n 1, 1) := by decide +kernel
theorem dX9_brings_167 : decode cX9_brings 167 = .ok (.imul, 1) := by decide +kernel
theorem dX9_brings_168 : decode cX9_brings 168 = .ok (.iload_n 3, 1) := by decide +kernel
theorem dX9_brings_169 : decode cX9_brings 169 = .ok (.iadd, 1) := by decide +kernel
theorem dX9_brings_170 : decode cX9_brings 170 = .ok (.iaload, 1) := by decide +kernel
theorem dX9_brings_171 : decode cX9_brings 171 = .ok (.invokevirtual 163, 3) := by decide +kernel
theorem dX9_brings_174 : decode cX9_brings 174 = .ok (.iadd, 1) := by decide +kernel
theorem dX9_brings_175 : decode cX9_brings 175 = .ok (.istore_n 2, 1) := by decide +kernel
theorem dX9_brings_176 : decode cX9_brings 176 = .ok (.iinc 3 1, 3) := by decide +kernel
theorem dX9_brings_179 : decode cX9_brings 179 = .ok (.goto (-62), 3) := by decide +kernel
theorem dX9_brings_182 : decode cX9_brings 182 = .ok (.aload_n 0, 1) := by decide +kernel
theorem dX9_brings_183 : decode cX9_brings 183 = .ok (.aload_n 0, 1) := by decide +kernel
theorem dX9_brings_184 : decode cX9_brings 184 = .ok (.getfield 7, 3) := by decide +kernel
theorem dX9_brings_187 : decode cX9_brings 187 = .ok (.sipush 7262, 3) := by decide +kernel
theorem dX9_brings_190 : decode cX9_brings 190 = .ok (.iaload, 1) := by decide +kernel
theorem dX9_brings_191 : decode cX9_brings 191 = .ok (.aload_n 0, 1) := by decide +kernel
theorem dX9_brings_192 : decode cX9_brings 192 = .ok (.getfield 7, 3) := by decide +kernel
theorem dX9_brings_195 : decode cX9_brings 195 = .ok (.iconst 2, 1) := by decide +kernel
theorem dX9_brings_196 : decode cX9_brings 196 = .ok (.iaload, 1) := by decide +kernel
theorem dX9_brings_197 : decode cX9_brings 197 = .ok (.isub, 1) := by decide +kernel
theorem dX9_brings_198 : decode cX9_brings 198 = .ok (.iload_n 2, 1) := by decide +kernel
theorem dX9_brings_199 : decode cX9_brings 199 = .ok (.invokevirtual 75, 3) := by decide +kernel
theorem dX9_brings_202 : decode cX9_brings 202 = .ok (.ireturn, 1) := by decide +kernel
theorem dX9_crossWith_0 : decode cX9_crossWith 0 = .ok (.aload_n 0, 1) := by decide +kernel
theorem dX9_crossWith_1 : decode cX9_crossWith 1 = .ok (.aload_n 0, 1) := by decide +kernel
theorem dX9_crossWith_2 : decode cX9_crossWith 2 = .ok (.getfield 7, 3) := by decide +kernel
theorem dX9_crossWith_5 : decode cX9_crossWith 5 = .ok (.iconst 3, 1) := by decide +kernel
theorem dX9_crossWith_6 : decode cX9_crossWith 6 = .ok (.iload_n 1, 1) := by decide +kernel
theorem dX9_crossWith_7 : decode cX9_crossWith 7 = .ok (.iadd, 1) := by decide +kernel
theorem dX9_crossWith_8 : decode cX9_crossWith 8 = .ok (.iaload, 1) := by decide +kernel
theorem dX9_crossWith_9 : decode cX9_crossWith 9 = .ok (.aload_n 0, 1) := by decide +kernel
theorem dX9_crossWith_10 : decode cX9_crossWith 10 = .ok (.getfield 7, 3) := by decide +kernel
theorem dX9_crossWith_13 : decode cX9_crossWith 13 = .ok (.bipush 21, 2) := by decide +kernel
theorem dX9_crossWith_15 : decode cX9_crossWith 15 = .ok (.iload_n 1, 1) := by decide +kernel
theorem dX9_crossWith_16 : decode cX9_crossWith 16 = .ok (.iadd, 1) := by decide +kernel
theorem dX9_crossWith_17 : decode cX9_crossWith 17 = .ok (.iaload, 1) := by decide +kernel
theorem dX9_crossWith_18 : decode cX9_crossWith 18 = .ok (.aload_n 0, 1) := by decide +kernel
theorem dX9_crossWith_19 : decode cX9_crossWith 19 = .ok (.getfield 7, 3) := by decide +kernel
theorem dX9_crossWith_22 : decode cX9_crossWith 22 = .ok (.bipush 9, 2) := by decide +kernel
theorem dX9_crossWith_24 : decode cX9_crossWith 24 = .ok (.iload_n 1, 1) := by decide +kernel
theorem dX9_crossWith_25 : decode cX9_crossWith 25 = .ok (.iadd, 1) := by decide +kernel
theorem dX9_crossWith_26 : decode cX9_crossWith 26 = .ok (.iaload, 1) := by decide +kernel
theorem dX9_crossWith_27 : decode cX9_crossWith 27 = .ok (.aload_n 0, 1) := by decide +kernel
theorem dX9_crossWith_28 : decode cX9_crossWith 28 = .ok (.getfield 7, 3) := by decide +kernel
theorem dX9_crossWith_31 : decode cX9_crossWith 31 = .ok (.bipush 15, 2) := by decide +kernel
theorem dX9_crossWith_33 : decode cX9_crossWith 33 = .ok (.iload_n 2, 1) := by decide +kernel
theorem dX9_crossWith_34 : decode cX9_crossWith 34 = .ok (.iadd, 1) := by decide +kernel
theorem dX9_crossWith_35 : decode cX9_crossWith 35 = .ok (.iaload, 1) := by decide +kernel
theorem dX9_crossWith_36 : decode cX9_crossWith 36 = .ok (.invokestatic 123, 3) := by decide +kernel
theorem dX9_crossWith_39 : decode cX9_crossWith 39 = .ok (.aload_n 0, 1) := by decide +kernel
theorem dX9_crossWith_40 : decode cX9_crossWith 40 = .ok (.getfield 7, 3) := by decide +kernel
theorem dX9_crossWith_43 : decode cX9_crossWith 43 = .ok (.iconst 1, 1) := by decide +kernel
theorem dX9_crossWith_44 : decode cX9_crossWith 44 = .ok (.iaload, 1) := by decide +kernel
theorem dX9_crossWith_45 : decode cX9_crossWith 45 = .ok (.invokevirtual 129, 3) := by decide +kernel
theorem dX9_crossWith_48 : decode cX9_crossWith 48 = .ok (.ireturn, 1) := by decide +kernel
theorem dX9_marry_0 : decode cX9_marry 0 = .ok (.iload_n 1, 1) := by decide +kernel
theorem dX9_marry_1 : decode cX9_marry 1 = .ok (.invokestatic 59, 3) := by decide +kernel
theorem dX9_marry_4 : decode cX9_marry 4 = .ok (.ifCond .ne 5, 3) := by decide +kernel
theorem dX9_marry_7 : decode cX9_marry 7 = .ok (.iconst (-1), 1) := by decide +kernel
theorem dX9_marry_8 : decode cX9_marry 8 = .ok (.ireturn, 1) := by decide +kernel
theorem dX9_marry_9 : decode cX9_marry 9 = .ok (.aload_n 0, 1) := by decide +kernel
theorem dX9_marry_10 : decode cX9_marry 10 = .ok (.invokevirtual 153, 3) := by decide +kernel
theorem dX9_marry_13 : decode cX9_marry 13 = .ok (.ifCond .ne 6, 3) := by decide +kernel
theorem dX9_marry_16 : decode cX9_marry 16 = .ok (.bipush (-4), 2) := by decide +kernel
theorem dX9_marry_18 : decode cX9_marry 18 = .ok (.ireturn, 1) := by decide +kernel
theorem dX9_marry_19 : decode cX9_marry 19 = .ok (.iconst 1, 1) := by decide +kernel
theorem dX9_marry_20 : decode cX9_marry 20 = .ok (.istore_n 2, 1) := by decide +kernel
theorem dX9_marry_21 : decode cX9_marry 21 = .ok (.iconst 0, 1) := by decide +kernel
theorem dX9_marry_22 : decode cX9_marry 22 = .ok (.istore_n 3, 1) := by decide +kernel
theorem dX9_marry_23 : decode cX9_marry 23 = .ok (.iload_n 3, 1) := by decide +kernel
theorem dX9_marry_24 : decode cX9_marry 24 = .ok (.aload_n 0, 1) := by decide +kernel
theorem dX9_marry_25 : decode cX9_marry 25 = .ok (.getfield 7, 3) := by decide +kernel
theorem dX9_marry_28 : decode cX9_marry 28 = .ok (.iconst 0, 1) := by decide +kernel
theorem dX9_marry_29 : decode cX9_marry 29 = .ok (.iaload, 1) := by decide +kernel
theorem dX9_marry_30 : decode cX9_marry 30 = .ok (.if_icmp .ge 18, 3) := by decide +kernel
theorem dX9_marry_33 : decode cX9_marry 33 = .ok (.iload_n 2, 1) := by decide +kernel
theorem dX9_marry_34 : decode cX9_marry 34 = .ok (.aload_n 0, 1) := by decide +kernel
theorem dX9_marry_35 : decode cX9_marry 35 = .ok (.getfield 7, 3) := by decide +kernel
theorem dX9_marry_38 : decode cX9_marry 38 = .ok (.iconst 0, 1) := by decide +kernel
theorem dX9_marry_39 : decode cX9_marry 39 = .ok (.iaload, 1) := by decide +kernel
theorem dX9_marry_40 : decode cX9_marry 40 = .ok (.imul, 1) := by decide +kernel
theorem dX9_marry_41 : decode cX9_marry 41 = .ok (.istore_n 2, 1) := by decide +kernel
theorem dX9_marry_42 : decode cX9_marry 42 = .ok (.iinc 3 1, 3) := by decide +kernel
theorem dX9_marry_45 : decode cX9_marry 45 = .ok (.goto (-22), 3) := by decide +kernel
theorem dX9_marry_48 : decode cX9_marry 48 = .ok (.iconst 0, 1) := by decide +kernel
theorem dX9_marry_49 : decode cX9_marry 49 = .ok (.istore_n 3, 1) := by decide +kernel
theorem dX9_marry_50 : decode cX9_marry 50 = .ok (.ldc 181, 2) := by decide +kernel
theorem dX9_marry_52 : decode cX9_marry 52 = .ok (.istore 4, 2) := by decide +kernel
theorem dX9_marry_54 : decode cX9_marry 54 = .ok (.iconst 0, 1) := by decide +kernel
theorem dX9_marry_55 : decode cX9_marry 55 = .ok (.istore 5, 2) := by decide +kernel
theorem dX9_marry_57 : decode cX9_marry 57 = .ok (.iload 5, 2) := by decide +kernel
theorem dX9_marry_59 : decode cX9_marry 59 = .ok (.iload_n 2, 1) := by decide +kernel
theorem dX9_marry_60 : decode cX9_marry 60 = .ok (.if_icmp .ge 142, 3) := by decide +kernel
theorem dX9_marry_63 : decode cX9_marry 63 = .ok (.iload 5, 2) := by decide +kernel
theorem dX9_marry_65 : decode cX9_marry 65 = .ok (.istore 6, 2) := by decide +kernel
theorem dX9_marry_67 : decode cX9_marry 67 = .ok (.iconst 0, 1) := by decide +kernel
theorem dX9_marry_68 : decode cX9_marry 68 = .ok (.istore 7, 2) := by decide +kernel
theorem dX9_marry_70 : decode cX9_marry 70 = .ok (.iconst 0, 1) := by decide +kernel
theorem dX9_marry_71 : decode cX9_marry 71 = .ok (.istore 8, 2) := by decide +kernel
theorem dX9_marry_73 : decode cX9_marry 73 = .ok (.aload_n 0, 1) := by decide +kernel
theorem dX9_marry_74 : decode cX9_marry 74 = .ok (.getfield 7, 3) := by decide +kernel
theorem dX9_marry_77 : decode cX9_marry 77 = .ok (.iconst 0, 1) := by decide +kernel
theorem dX9_marry_78 : decode cX9_marry 78 = .ok (.iaload, 1) := by decide +kernel
theorem dX9_marry_79 : decode cX9_marry 79 = .ok (.iconst 1, 1) := by decide +kernel
theorem dX9_marry_80 : decode cX9_marry 80 = .ok (.isub, 1) := by decide +kernel
theorem dX9_marry_81 : decode cX9_marry 81 = .ok (.istore 9, 2) := by decide +kernel
theorem dX9_marry_83 : decode cX9_marry 83 = .ok (.iload 9, 2) := by decide +kernel
theorem dX9_marry_85 : decode cX9_marry 85 = .ok (.ifCond .lt 56, 3) := by decide +kernel
theorem dX9_marry_88 : decode cX9_marry 88 = .ok (.iload 7, 2) := by decide +kernel
theorem dX9_marry_90 : decode cX9_marry 90 = .ok (.iconst 1, 1) := by decide +kernel
theorem dX9_marry_91 : decode cX9_marry 91 = .ok (.iload 6, 2) := by decide +kernel
theorem dX9_marry_93 : decode cX9_marry 93 = .ok (.aload_n 0, 1) := by decide +kernel
theorem dX9_marry_94 : decode cX9_marry 94 = .ok (.getfield 7, 3) := by decide +kernel
theorem dX9_marry_97 : decode cX9_marry 97 = .ok (.iconst 0, 1) := by decide +kernel
theorem dX9_marry_98 : decode cX9_marry 98 = .ok (.iaload, 1) := by decide +kernel
theorem dX9_marry_99 : decode cX9_marry 99 = .ok (.irem, 1) := by decide +kernel
theorem dX9_marry_100 : decode cX9_marry 100 = .ok (.ishl, 1) := by decide +kernel
theorem dX9_marry_101 : decode cX9_marry 101 = .ok (.ior, 1) := by decide +kernel
theorem dX9_marry_102 : decode cX9_marry 102 = .ok (.istore 7, 2) := by decide +kernel
theorem dX9_marry_104 : decode cX9_marry 104 = .ok (.iload 8, 2) := by decide +kernel
theorem dX9_marry_106 : decode cX9_marry 106 = .ok (.aload_n 0, 1) := by decide +kernel
theorem dX9_marry_107 : decode cX9_marry 107 = .ok (.iload 9, 2) := by decide +kernel
theorem dX9_marry_109 : decode cX9_marry 109 = .ok (.iload 6, 2) := by decide +kernel
theorem dX9_marry_111 : decode cX9_marry 111 = .ok (.aload_n 0, 1) := by decide +kernel
theorem dX9_marry_112 : decode cX9_marry 112 = .ok (.getfield 7, 3) := by decide +kernel
theorem dX9_marry_115 : decode cX9_marry 115 = .ok (.iconst 0, 1) := by decide +kernel
theorem dX9_marry_116 : decode cX9_marry 116 = .ok (.iaload, 1) := by decide +kernel
theorem dX9_marry_117 : decode cX9_marry 117 = .ok (.irem, 1) := by decide +kernel
theorem dX9_marry_118 : decode cX9_marry 118 = .ok (.invokevirtual 182, 3) := by decide +kernel
theorem dX9_marry_121 : decode cX9_marry 121 = .ok (.iadd, 1) := by decide +kernel
theorem dX9_marry_122 : decode cX9_marry 122 = .ok (.istore 8, 2) := by decide +kernel
theorem dX9_marry_124 : decode cX9_marry 124 = .ok (.iload 6, 2) := by decide +kernel
theorem dX9_marry_126 : decode cX9_marry 126 = .ok (.aload_n 0, 1) := by decide +kernel
theorem dX9_marry_127 : decode cX9_marry 127 = .ok (.getfield 7, 3) := by decide +kernel
theorem dX9_marry_130 : decode cX9_marry 130 = .ok (.iconst 0, 1) := by decide +kernel
theorem dX9_marry_131 : decode cX9_marry 131 = .ok (.iaload, 1) := by decide +kernel
theorem dX9_marry_132 : decode cX9_marry 132 = .ok (.idiv, 1) := by decide +kernel
theorem dX9_marry_133 : decode cX9_marry 133 = .ok (.istore 6, 2) := by decide +kernel
theorem dX9_marry_135 : decode cX9_marry 135 = .ok (.iinc 9 (-1), 3) := by decide +kernel
theorem dX9_marry_138 : decode cX9_marry 138 = .ok (.goto (-55), 3) := by decide +kernel
theorem dX9_marry_141 : decode cX9_marry 141 = .ok (.iload 7, 2) := by decide +kernel
theorem dX9_marry_143 : decode cX9_marry 143 = .ok (.iconst 1, 1) := by decide +kernel
theorem dX9_marry_144 : decode cX9_marry 144 = .ok (.aload_n 0, 1) := by decide +kernel
theorem dX9_marry_145 : decode cX9_marry 145 = .ok (.getfield 7, 3) := by decide +kernel
theorem dX9_marry_148 : decode cX9_marry 148 = .ok (.iconst 0, 1) := by decide +kernel
theorem dX9_marry_149 : decode cX9_marry 149 = .ok (.iaload, 1) := by decide +kernel
theorem dX9_marry_150 : decode cX9_marry 150 = .ok (.ishl, 1) := by decide +kernel
theorem dX9_marry_151 : decode cX9_marry 151 = .ok (.iconst 1, 1) := by decide +kernel
theorem dX9_marry_152 : decode cX9_marry 152 = .ok (.isub, 1) := by decide +kernel
theorem dX9_marry_153 : decode cX9_marry 153 = .ok (.if_icmp .ne 14, 3) := by decide +kernel
theorem dX9_marry_156 : decode cX9_marry 156 = .ok (.iload 8, 2) := by decide +kernel
theorem dX9_marry_158 : decode cX9_marry 158 = .ok (.iload 4, 2) := by decide +kernel
theorem dX9_marry_160 : decode cX9_marry 160 = .ok (.if_icmp .ge 7, 3) := by decide +kernel
theorem dX9_marry_163 : decode cX9_marry 163 = .ok (.iconst 1, 1) := by decide +kernel
theorem dX9_marry_164 : decode cX9_marry 164 = .ok (.goto 4, 3) := by decide +kernel
theorem dX9_marry_167 : decode cX9_marry 167 = .ok (.iconst 0, 1) := by decide +kernel
theorem dX9_marry_168 : decode cX9_marry 168 = .ok (.istore 9, 2) := by decide +kernel
theorem dX9_marry_170 : decode cX9_marry 170 = .ok (.iload 9, 2) := by decide +kernel
theorem dX9_marry_172 : decode cX9_marry 172 = .ok (.ifCond .eq 8, 3) := by decide +kernel
theorem dX9_marry_175 : decode cX9_marry 175 = .ok (.iload 5, 2) := by decide +kernel
theorem dX9_marry_177 : decode cX9_marry 177 = .ok (.goto 4, 3) := by decide +kernel
theorem dX9_marry_180 : decode cX9_marry 180 = .ok (.iload_n 3, 1) := by decide +kernel
theorem dX9_marry_181 : decode cX9_marry 181 = .ok (.istore_n 3, 1) := by decide +kernel
theorem dX9_marry_182 : decode cX9_marry 182 = .ok (.iload 9, 2) := by decide +kernel
theorem dX9_marry_184 : decode cX9_marry 184 = .ok (.ifCond .eq 8, 3) := by decide +kernel
theorem dX9_marry_187 : decode cX9_marry 187 = .ok (.iload 8, 2) := by decide +kernel
theorem dX9_marry_189 : decode cX9_marry 189 = .ok (.goto 5, 3) := by decide +kernel
theorem dX9_marry_192 : decode cX9_marry 192 = .ok (.iload 4, 2) := by decide +kernel
theorem dX9_marry_194 : decode cX9_marry 194 = .ok (.istore 4, 2) := by decide +kernel
theorem dX9_marry_196 : decode cX9_marry 196 = .ok (.iinc 5 1, 3) := by decide +kernel
theorem dX9_marry_199 : decode cX9_marry 199 = .ok (.goto (-142), 3) := by decide +kernel
theorem dX9_marry_202 : decode cX9_marry 202 = .ok (.aload_n 0, 1) := by decide +kernel
theorem dX9_marry_203 : decode cX9_marry 203 = .ok (.iload_n 1, 1) := by decide +kernel
theorem dX9_marry_204 : decode cX9_marry 204 = .ok (.aload_n 0, 1) := by decide +kernel
theorem dX9_marry_205 : decode cX9_marry 205 = .ok (.getfield 7, 3) := by decide +kernel
theorem dX9_marry_208 : decode cX9_marry 208 = .ok (.iconst 0, 1) := by decide +kernel
theorem dX9_marry_209 : decode cX9_marry 209 = .ok (.iaload, 1) := by decide +kernel
theorem dX9_marry_210 : decode cX9_marry 210 = .ok (.invokevirtual 67, 3) := by decide +kernel
theorem dX9_marry_213 : decode cX9_marry 213 = .ok (.iload_n 3, 1) := by decide +kernel
theorem dX9_marry_214 : decode cX9_marry 214 = .ok (.istore 5, 2) := by decide +kernel
theorem dX9_marry_216 : decode cX9_marry 216 = .ok (.aload_n 0, 1) := by decide +kernel
theorem dX9_marry_217 : decode cX9_marry 217 = .ok (.getfield 7, 3) := by decide +kernel
theorem dX9_marry_220 : decode cX9_marry 220 = .ok (.iconst 0, 1) := by decide +kernel
theorem dX9_marry_221 : decode cX9_marry 221 = .ok (.iaload, 1) := by decide +kernel
theorem dX9_marry_222 : decode cX9_marry 222 = .ok (.iconst 1, 1) := by decide +kernel
theorem dX9_marry_223 : decode cX9_marry 223 = .ok (.isub, 1) := by decide +kernel
theorem dX9_marry_224 : decode cX9_marry 224 = .ok (.istore 6, 2) := by decide +kernel
theorem dX9_marry_226 : decode cX9_marry 226 = .ok (.iload 6, 2) := by decide +kernel
theorem dX9_marry_228 : decode cX9_marry 228 = .ok (.ifCond .lt 41, 3) := by decide +kernel
theorem dX9_marry_231 : decode cX9_marry 231 = .ok (.aload_n 0, 1) := by decide +kernel
theorem dX9_marry_232 : decode cX9_marry 232 = .ok (.getfield 16, 3) := by decide +kernel
theorem dX9_marry_235 : decode cX9_marry 235 = .ok (.bipush 40, 2) := by decide +kernel
theorem dX9_marry_237 : decode cX9_marry 237 = .ok (.iload_n 1, 1) := by decide +kernel
theorem dX9_marry_238 : decode cX9_marry 238 = .ok (.imul, 1) := by decide +kernel
theorem dX9_marry_239 : decode cX9_marry 239 = .ok (.iload 6, 2) := by decide +kernel
theorem dX9_marry_241 : decode cX9_marry 241 = .ok (.iadd, 1) := by decide +kernel
theorem dX9_marry_242 : decode cX9_marry 242 = .ok (.iload 5, 2) := by decide +kernel
theorem dX9_marry_244 : decode cX9_marry 244 = .ok (.aload_n 0, 1) := by decide +kernel
theorem dX9_marry_245 : decode cX9_marry 245 = .ok (.getfield 7, 3) := by decide +kernel
theorem dX9_marry_248 : decode cX9_marry 248 = .ok (.iconst 0, 1) := by decide +kernel
theorem dX9_marry_249 : decode cX9_marry 249 = .ok (.iaload, 1) := by decide +kernel
theorem dX9_marry_250 : decode cX9_marry 250 = .ok (.irem, 1) := by decide +kernel
theorem dX9_marry_251 : decode cX9_marry 251 = .ok (.iastore, 1) := by decide +kernel
theorem dX9_marry_252 : decode cX9_marry 252 = .ok (.iload 5, 2) := by decide +kernel
theorem dX9_marry_254 : decode cX9_marry 254 = .ok (.aload_n 0, 1) := by decide +kernel
theorem dX9_marry_255 : decode cX9_marry 255 = .ok (.getfield 7, 3) := by decide +kernel
theorem dX9_marry_258 : decode cX9_marry 258 = .ok (.iconst 0, 1) := by decide +kernel
theorem dX9_marry_259 : decode cX9_marry 259 = .ok (.iaload, 1) := by decide +kernel
theorem dX9_marry_260 : decode cX9_marry 260 = .ok (.idiv, 1) := by decide +kernel
theorem dX9_marry_261 : decode cX9_marry 261 = .ok (.istore 5, 2) := by decide +kernel
theorem dX9_marry_263 : decode cX9_marry 263 = .ok (.iinc 6 (-1), 3) := by decide +kernel
theorem dX9_marry_266 : decode cX9_marry 266 = .ok (.goto (-40), 3) := by decide +kernel
theorem dX9_marry_269 : decode cX9_marry 269 = .ok (.iload 4, 2) := by decide +kernel
theorem dX9_marry_271 : decode cX9_marry 271 = .ok (.ireturn, 1) := by decide +kernel
theorem dX9_wantsRight_0 : decode cX9_wantsRight 0 = .ok (.aload_n 0, 1) := by decide +kernel
theorem dX9_wantsRight_1 : decode cX9_wantsRight 1 = .ok (.getfield 7, 3) := by decide +kernel
theorem dX9_wantsRight_4 : decode cX9_wantsRight 4 = .ok (.bipush 9, 2) := by decide +kernel
theorem dX9_wantsRight_6 : decode cX9_wantsRight 6 = .ok (.iload_n 1, 1) := by decide +kernel
theorem dX9_wantsRight_7 : decode cX9_wantsRight 7 = .ok (.iadd, 1) := by decide +kernel
theorem dX9_wantsRight_8 : decode cX9_wantsRight 8 = .ok (.iaload, 1) := by decide +kernel
theorem dX9_wantsRight_9 : decode cX9_wantsRight 9 = .ok (.aload_n 0, 1) := by decide +kernel
theorem dX9_wantsRight_10 : decode cX9_wantsRight 10 = .ok (.getfield 7, 3) := by decide +kernel
theorem dX9_wantsRight_13 : decode cX9_wantsRight 13 = .ok (.bipush 15, 2) := by decide +kernel
theorem dX9_wantsRight_15 : decode cX9_wantsRight 15 = .ok (.iload_n 2, 1) := by decide +kernel
theorem dX9_wantsRight_16 : decode cX9_wantsRight 16 = .ok (.iadd, 1) := by decide +kernel
theorem dX9_wantsRight_17 : decode cX9_wantsRight 17 = .ok (.iaload, 1) := by decide +kernel
theorem dX9_wantsRight_18 : decode cX9_wantsRight 18 = .ok (.invokestatic 123, 3) := by decide +kernel
theorem dX9_wantsRight_21 : decode cX9_wantsRight 21 = .ok (.aload_n 0, 1) := by decide +kernel
theorem dX9_wantsRight_22 : decode cX9_wantsRight 22 = .ok (.iconst 0, 1) := by decide +kernel
theorem dX9_wantsRight_23 : decode cX9_wantsRight 23 = .ok (.iload_n 1, 1) := by decide +kernel
theorem dX9_wantsRight_24 : decode cX9_wantsRight 24 = .ok (.invokevirtual 126, 3) := by decide +kernel
theorem dX9_wantsRight_27 : decode cX9_wantsRight 27 = .ok (.if_icmp .ge 7, 3) := by decide +kernel
theorem dX9_wantsRight_30 : decode cX9_wantsRight 30 = .ok (.iconst 1, 1) := by decide +kernel
theorem dX9_wantsRight_31 : decode cX9_wantsRight 31 = .ok (.goto 4, 3) := by decide +kernel
theorem dX9_wantsRight_34 : decode cX9_wantsRight 34 = .ok (.iconst 0, 1) := by decide +kernel
theorem dX9_wantsRight_35 : decode cX9_wantsRight 35 = .ok (.ireturn, 1) := by decide +kernel
theorem dX9_rather_0 : decode cX9_rather 0 = .ok (.aload_n 0, 1) := by decide +kernel
theorem dX9_rather_1 : decode cX9_rather 1 = .ok (.invokevirtual 153, 3) := by decide +kernel
theorem dX9_rather_4 : decode cX9_rather 4 = .ok (.ifCond .ne 6, 3) := by decide +kernel
theorem dX9_rather_7 : decode cX9_rather 7 = .ok (.bipush (-4), 2) := by decide +kernel
theorem dX9_rather_9 : decode cX9_rather 9 = .ok (.ireturn, 1) := by decide +kernel
theorem dX9_rather_10 : decode cX9_rather 10 = .ok (.iconst 0, 1) := by decide +kernel
theorem dX9_rather_11 : decode cX9_rather 11 = .ok (.istore_n 1, 1) := by decide +kernel
theorem dX9_rather_12 : decode cX9_rather 12 = .ok (.bipush (-9), 2) := by decide +kernel
theorem dX9_rather_14 : decode cX9_rather 14 = .ok (.istore_n 2, 1) := by decide +kernel
theorem dX9_rather_15 : decode cX9_rather 15 = .ok (.iconst 0, 1) := by decide +kernel
theorem dX9_rather_16 : decode cX9_rather 16 = .ok (.istore_n 3, 1) := by decide +kernel
theorem dX9_rather_17 : decode cX9_rather 17 = .ok (.iload_n 3, 1) := by decide +kernel
theorem dX9_rather_18 : decode cX9_rather 18 = .ok (.aload_n 0, 1) := by decide +kernel
theorem dX9_rather_19 : decode cX9_rather 19 = .ok (.getfield 7, 3) := by decide +kernel
theorem dX9_rather_22 : decode cX9_rather 22 = .ok (.iconst 0, 1) := by decide +kernel
theorem dX9_rather_23 : decode cX9_rather 23 = .ok (.iaload, 1) := by decide +kernel
theorem dX9_rather_24 : decode cX9_rather 24 = .ok (.if_icmp .ge 94, 3) := by decide +kernel
theorem dX9_rather_27 : decode cX9_rather 27 = .ok (.iload_n 3, 1) := by decide +kernel
theorem dX9_rather_28 : decode cX9_rather 28 = .ok (.iconst 1, 1) := by decide +kernel
theorem dX9_rather_29 : decode cX9_rather 29 = .ok (.iadd, 1) := by decide +kernel
theorem dX9_rather_30 : decode cX9_rather 30 = .ok (.istore 4, 2) := by decide +kernel
theorem dX9_rather_32 : decode cX9_rather 32 = .ok (.iload 4, 2) := by decide +kernel
theorem dX9_rather_34 : decode cX9_rather 34 = .ok (.aload_n 0, 1) := by decide +kernel
theorem dX9_rather_35 : decode cX9_rather 35 = .ok (.getfield 7, 3) := by decide +kernel
theorem dX9_rather_38 : decode cX9_rather 38 = .ok (.iconst 0, 1) := by decide +kernel
theorem dX9_rather_39 : decode cX9_rather 39 = .ok (.iaload, 1) := by decide +kernel
theorem dX9_rather_40 : decode cX9_rather 40 = .ok (.if_icmp .ge 72, 3) := by decide +kernel
theorem dX9_rather_43 : decode cX9_rather 43 = .ok (.aload_n 0, 1) := by decide +kernel
theorem dX9_rather_44 : decode cX9_rather 44 = .ok (.iload_n 3, 1) := by decide +kernel
theorem dX9_rather_45 : decode cX9_rather 45 = .ok (.iload 4, 2) := by decide +kernel
theorem dX9_rather_47 : decode cX9_rather 47 = .ok (.invokevirtual 185, 3) := by decide +kernel
theorem dX9_rather_50 : decode cX9_rather 50 = .ok (.ifCond .eq 17, 3) := by decide +kernel
theorem dX9_rather_53 : decode cX9_rather 53 = .ok (.aload_n 0, 1) := by decide +kernel
theorem dX9_rather_54 : decode cX9_rather 54 = .ok (.iload 4, 2) := by decide +kernel
theorem dX9_rather_56 : decode cX9_rather 56 = .ok (.iload_n 3, 1) := by decide +kernel
theorem dX9_rather_57 : decode cX9_rather 57 = .ok (.invokevirtual 185, 3) := by decide +kernel
theorem dX9_rather_60 : decode cX9_rather 60 = .ok (.ifCond .eq 7, 3) := by decide +kernel
theorem dX9_rather_63 : decode cX9_rather 63 = .ok (.iconst 1, 1) := by decide +kernel
theorem dX9_rather_64 : decode cX9_rather 64 = .ok (.goto 4, 3) := by decide +kernel
theorem dX9_rather_67 : decode cX9_rather 67 = .ok (.iconst 0, 1) := by decide +kernel
theorem dX9_rather_68 : decode cX9_rather 68 = .ok (.istore 5, 2) := by decide +kernel
theorem dX9_rather_70 : decode cX9_rather 70 = .ok (.iload 5, 2) := by decide +kernel
theorem dX9_rather_72 : decode cX9_rather 72 = .ok (.ifCond .eq 19, 3) := by decide +kernel
theorem dX9_rather_75 : decode cX9_rather 75 = .ok (.iload_n 2, 1) := by decide +kernel
theorem dX9_rather_76 : decode cX9_rather 76 = .ok (.bipush (-9), 2) := by decide +kernel
theorem dX9_rather_78 : decode cX9_rather 78 = .ok (.if_icmp .ne 13, 3) := by decide +kernel
theorem dX9_rather_81 : decode cX9_rather 81 = .ok (.bipush 10, 2) := by decide +kernel
theorem dX9_rather_83 : decode cX9_rather 83 = .ok (.iload_n 3, 1) := by decide +kernel
theorem dX9_rather_84 : decode cX9_rather 84 = .ok (.imul, 1) := by decide +kernel
theorem dX9_rather_85 : decode cX9_rather 85 = .ok (.iload 4, 2) := by decide +kernel
theorem dX9_rather_87 : decode cX9_rather 87 = .ok (.iadd, 1) := by decide +kernel
theorem dX9_rather_88 : decode cX9_rather 88 = .ok (.goto 4, 3) := by decide +kernel
theorem dX9_rather_91 : decode cX9_rather 91 = .ok (.iload_n 2, 1) := by decide +kernel
theorem dX9_rather_92 : decode cX9_rather 92 = .ok (.istore_n 2, 1) := by decide +kernel
theorem dX9_rather_93 : decode cX9_rather 93 = .ok (.iload_n 1, 1) := by decide +kernel
theorem dX9_rather_94 : decode cX9_rather 94 = .ok (.iload 5, 2) := by decide +kernel
theorem dX9_rather_96 : decode cX9_rather 96 = .ok (.ifCond .eq 7, 3) := by decide +kernel
theorem dX9_rather_99 : decode cX9_rather 99 = .ok (.iconst 1, 1) := by decide +kernel
theorem dX9_rather_100 : decode cX9_rather 100 = .ok (.goto 4, 3) := by decide +kernel
theorem dX9_rather_103 : decode cX9_rather 103 = .ok (.iconst 0, 1) := by decide +kernel
theorem dX9_rather_104 : decode cX9_rather 104 = .ok (.iadd, 1) := by decide +kernel
theorem dX9_rather_105 : decode cX9_rather 105 = .ok (.istore_n 1, 1) := by decide +kernel
theorem dX9_rather_106 : decode cX9_rather 106 = .ok (.iinc 4 1, 3) := by decide +kernel
theorem dX9_rather_109 : decode cX9_rather 109 = .ok (.goto (-77), 3) := by decide +kernel
theorem dX9_rather_112 : decode cX9_rather 112 = .ok (.iinc 3 1, 3) := by decide +kernel
theorem dX9_rather_115 : decode cX9_rather 115 = .ok (.goto (-98), 3) := by decide +kernel
theorem dX9_rather_118 : decode cX9_rather 118 = .ok (.aload_n 0, 1) := by decide +kernel
theorem dX9_rather_119 : decode cX9_rather 119 = .ok (.iload_n 2, 1) := by decide +kernel
theorem dX9_rather_120 : decode cX9_rather 120 = .ok (.iload_n 1, 1) := by decide +kernel
theorem dX9_rather_121 : decode cX9_rather 121 = .ok (.invokevirtual 75, 3) := by decide +kernel
theorem dX9_rather_124 : decode cX9_rather 124 = .ok (.ireturn, 1) := by decide +kernel
theorem dX9_against_0 : decode cX9_against 0 = .ok (.aload_n 0, 1) := by decide +kernel
theorem dX9_against_1 : decode cX9_against 1 = .ok (.getfield 19, 3) := by decide +kernel
theorem dX9_against_4 : decode cX9_against 4 = .ok (.iload_n 1, 1) := by decide +kernel
theorem dX9_against_5 : decode cX9_against 5 = .ok (.iaload, 1) := by decide +kernel
theorem dX9_against_6 : decode cX9_against 6 = .ok (.ifCond .ge 9, 3) := by decide +kernel
theorem dX9_against_9 : decode cX9_against 9 = .ok (.aload_n 0, 1) := by decide +kernel
theorem dX9_against_10 : decode cX9_against 10 = .ok (.iconst 1, 1) := by decide +kernel
theorem dX9_against_11 : decode cX9_against 11 = .ok (.invokevirtual 63, 3) := by decide +kernel
theorem dX9_against_14 : decode cX9_against 14 = .ok (.ireturn, 1) := by decide +kernel
theorem dX9_against_15 : decode cX9_against 15 = .ok (.aload_n 0, 1) := by decide +kernel
theorem dX9_against_16 : decode cX9_against 16 = .ok (.getfield 19, 3) := by decide +kernel
theorem dX9_against_19 : decode cX9_against 19 = .ok (.iload_n 1, 1) := by decide +kernel
theorem dX9_against_20 : decode cX9_against 20 = .ok (.iaload, 1) := by decide +kernel
theorem dX9_against_21 : decode cX9_against 21 = .ok (.iconst 2, 1) := by decide +kernel
theorem dX9_against_22 : decode cX9_against 22 = .ok (.irem, 1) := by decide +kernel
theorem dX9_against_23 : decode cX9_against 23 = .ok (.ifCond .eq 9, 3) := by decide +kernel
theorem dX9_against_26 : decode cX9_against 26 = .ok (.aload_n 0, 1) := by decide +kernel
theorem dX9_against_27 : decode cX9_against 27 = .ok (.iconst 5, 1) := by decide +kernel
theorem dX9_against_28 : decode cX9_against 28 = .ok (.invokevirtual 63, 3) := by decide +kernel
theorem dX9_against_31 : decode cX9_against 31 = .ok (.ireturn, 1) := by decide +kernel
theorem dX9_against_32 : decode cX9_against 32 = .ok (.iconst 0, 1) := by decide +kernel
theorem dX9_against_33 : decode cX9_against 33 = .ok (.istore_n 2, 1) := by decide +kernel
theorem dX9_against_34 : decode cX9_against 34 = .ok (.iload_n 2, 1) := by decide +kernel
theorem dX9_against_35 : decode cX9_against 35 = .ok (.aload_n 0, 1) := by decide +kernel
theorem dX9_against_36 : decode cX9_against 36 = .ok (.getfield 19, 3) := by decide +kernel
theorem dX9_against_39 : decode cX9_against 39 = .ok (.iload_n 1, 1) := by decide +kernel
theorem dX9_against_40 : decode cX9_against 40 = .ok (.iaload, 1) := by decide +kernel
theorem dX9_against_41 : decode cX9_against 41 = .ok (.if_icmp .ge 61, 3) := by decide +kernel
theorem dX9_against_44 : decode cX9_against 44 = .ok (.aload_n 0, 1) := by decide +kernel
theorem dX9_against_45 : decode cX9_against 45 = .ok (.getfield 16, 3) := by decide +kernel
theorem dX9_against_48 : decode cX9_against 48 = .ok (.bipush 40, 2) := by decide +kernel
theorem dX9_against_50 : decode cX9_against 50 = .ok (.iload_n 1, 1) := by decide +kernel
theorem dX9_against_51 : decode cX9_against 51 = .ok (.imul, 1) := by decide +kernel
theorem dX9_against_52 : decode cX9_against 52 = .ok (.iload_n 2, 1) := by decide +kernel
theorem dX9_against_53 : decode cX9_against 53 = .ok (.iadd, 1) := by decide +kernel
theorem dX9_against_54 : decode cX9_against 54 = .ok (.iaload, 1) := by decide +kernel
theorem dX9_against_55 : decode cX9_against 55 = .ok (.i2l, 1) := by decide +kernel
theorem dX9_against_56 : decode cX9_against 56 = .ok (.lconst 0, 1) := by decide +kernel
theorem dX9_against_57 : decode cX9_against 57 = .ok (.ldc2_w 151, 3) := by decide +kernel
theorem dX9_against_60 : decode cX9_against 60 = .ok (.invokestatic 53, 3) := by decide +kernel
theorem dX9_against_63 : decode cX9_against 63 = .ok (.ifCond .eq 27, 3) := by decide +kernel
theorem dX9_against_66 : decode cX9_against 66 = .ok (.aload_n 0, 1) := by decide +kernel
theorem dX9_against_67 : decode cX9_against 67 = .ok (.getfield 16, 3) := by decide +kernel
theorem dX9_against_70 : decode cX9_against 70 = .ok (.bipush 40, 2) := by decide +kernel
theorem dX9_against_72 : decode cX9_against 72 = .ok (.iload_n 1, 1) := by decide +kernel
theorem dX9_against_73 : decode cX9_against 73 = .ok (.imul, 1) := by decide +kernel
theorem dX9_against_74 : decode cX9_against 74 = .ok (.iload_n 2, 1) := by decide +kernel
theorem dX9_against_75 : decode cX9_against 75 = .ok (.iadd, 1) := by decide +kernel
theorem dX9_against_76 : decode cX9_against 76 = .ok (.iconst 1, 1) := by decide +kernel
theorem dX9_against_77 : decode cX9_against 77 = .ok (.iadd, 1) := by decide +kernel
theorem dX9_against_78 : decode cX9_against 78 = .ok (.iaload, 1) := by decide +kernel
theorem dX9_against_79 : decode cX9_against 79 = .ok (.i2l, 1) := by decide +kernel
theorem dX9_against_80 : decode cX9_against 80 = .ok (.lconst 0, 1) := by decide +kernel
theorem dX9_against_81 : decode cX9_against 81 = .ok (.ldc2_w 188, 3) := by decide +kernel
theorem dX9_against_84 : decode cX9_against 84 = .ok (.invokestatic 53, 3) := by decide +kernel
theorem dX9_against_87 : decode cX9_against 87 = .ok (.ifCond .ne 9, 3) := by decide +kernel
theorem dX9_against_90 : decode cX9_against 90 = .ok (.aload_n 0, 1) := by decide +kernel
theorem dX9_against_91 : decode cX9_against 91 = .ok (.iconst 3, 1) := by decide +kernel
theorem dX9_against_92 : decode cX9_against 92 = .ok (.invokevirtual 63, 3) := by decide +kernel
theorem dX9_against_95 : decode cX9_against 95 = .ok (.ireturn, 1) := by decide +kernel
theorem dX9_against_96 : decode cX9_against 96 = .ok (.iinc 2 2, 3) := by decide +kernel
theorem dX9_against_99 : decode cX9_against 99 = .ok (.goto (-65), 3) := by decide +kernel
theorem dX9_against_102 : decode cX9_against 102 = .ok (.iconst 0, 1) := by decide +kernel
theorem dX9_against_103 : decode cX9_against 103 = .ok (.ireturn, 1) := by decide +kernel
theorem dX9_crossedSo_0 : decode cX9_crossedSo 0 = .ok (.iconst 1, 1) := by decide +kernel
theorem dX9_crossedSo_1 : decode cX9_crossedSo 1 = .ok (.istore 5, 2) := by decide +kernel
theorem dX9_crossedSo_3 : decode cX9_crossedSo 3 = .ok (.iconst 0, 1) := by decide +kernel
theorem dX9_crossedSo_4 : decode cX9_crossedSo 4 = .ok (.istore 6, 2) := by decide +kernel
theorem dX9_crossedSo_6 : decode cX9_crossedSo 6 = .ok (.iload 6, 2) := by decide +kernel
theorem dX9_crossedSo_8 : decode cX9_crossedSo 8 = .ok (.aload_n 0, 1) := by decide +kernel
theorem dX9_crossedSo_9 : decode cX9_crossedSo 9 = .ok (.getfield 19, 3) := by decide +kernel
theorem dX9_crossedSo_12 : decode cX9_crossedSo 12 = .ok (.iload_n 1, 1) := by decide +kernel
theorem dX9_crossedSo_13 : decode cX9_crossedSo 13 = .ok (.iaload, 1) := by decide +kernel
theorem dX9_crossedSo_14 : decode cX9_crossedSo 14 = .ok (.if_icmp .ge 63, 3) := by decide +kernel
theorem dX9_crossedSo_17 : decode cX9_crossedSo 17 = .ok (.iload 5, 2) := by decide +kernel
theorem dX9_crossedSo_19 : decode cX9_crossedSo 19 = .ok (.ifCond .eq 49, 3) := by decide +kernel
theorem dX9_crossedSo_22 : decode cX9_crossedSo 22 = .ok (.aload_n 0, 1) := by decide +kernel
theorem dX9_crossedSo_23 : decode cX9_crossedSo 23 = .ok (.iload_n 3, 1) := by decide +kernel
theorem dX9_crossedSo_24 : decode cX9_crossedSo 24 = .ok (.iload 4, 2) := by decide +kernel
theorem dX9_crossedSo_26 : decode cX9_crossedSo 26 = .ok (.aload_n 0, 1) := by decide +kernel
theorem dX9_crossedSo_27 : decode cX9_crossedSo 27 = .ok (.iconst 0, 1) := by decide +kernel
theorem dX9_crossedSo_28 : decode cX9_crossedSo 28 = .ok (.iload_n 2, 1) := by decide +kernel
theorem dX9_crossedSo_29 : decode cX9_crossedSo 29 = .ok (.invokevirtual 126, 3) := by decide +kernel
theorem dX9_crossedSo_32 : decode cX9_crossedSo 32 = .ok (.aload_n 0, 1) := by decide +kernel
theorem dX9_crossedSo_33 : decode cX9_crossedSo 33 = .ok (.getfield 16, 3) := by decide +kernel
theorem dX9_crossedSo_36 : decode cX9_crossedSo 36 = .ok (.bipush 40, 2) := by decide +kernel
theorem dX9_crossedSo_38 : decode cX9_crossedSo 38 = .ok (.iload_n 1, 1) := by decide +kernel
theorem dX9_crossedSo_39 : decode cX9_crossedSo 39 = .ok (.imul, 1) := by decide +kernel
theorem dX9_crossedSo_40 : decode cX9_crossedSo 40 = .ok (.iload 6, 2) := by decide +kernel
theorem dX9_crossedSo_42 : decode cX9_crossedSo 42 = .ok (.iadd, 1) := by decide +kernel
theorem dX9_crossedSo_43 : decode cX9_crossedSo 43 = .ok (.iaload, 1) := by decide +kernel
theorem dX9_crossedSo_44 : decode cX9_crossedSo 44 = .ok (.invokevirtual 129, 3) := by decide +kernel
theorem dX9_crossedSo_47 : decode cX9_crossedSo 47 = .ok (.aload_n 0, 1) := by decide +kernel
theorem dX9_crossedSo_48 : decode cX9_crossedSo 48 = .ok (.getfield 16, 3) := by decide +kernel
theorem dX9_crossedSo_51 : decode cX9_crossedSo 51 = .ok (.bipush 40, 2) := by decide +kernel
theorem dX9_crossedSo_53 : decode cX9_crossedSo 53 = .ok (.iload_n 1, 1) := by decide +kernel
theorem dX9_crossedSo_54 : decode cX9_crossedSo 54 = .ok (.imul, 1) := by decide +kernel
theorem dX9_crossedSo_55 : decode cX9_crossedSo 55 = .ok (.iload 6, 2) := by decide +kernel
theorem dX9_crossedSo_57 : decode cX9_crossedSo 57 = .ok (.iadd, 1) := by decide +kernel
theorem dX9_crossedSo_58 : decode cX9_crossedSo 58 = .ok (.iconst 1, 1) := by decide +kernel
theorem dX9_crossedSo_59 : decode cX9_crossedSo 59 = .ok (.iadd, 1) := by decide +kernel
theorem dX9_crossedSo_60 : decode cX9_crossedSo 60 = .ok (.iaload, 1) := by decide +kernel
theorem dX9_crossedSo_61 : decode cX9_crossedSo 61 = .ok (.if_icmp .ne 7, 3) := by decide +kernel
theorem dX9_crossedSo_64 : decode cX9_crossedSo 64 = .ok (.iconst 1, 1) := by decide +kernel
theorem dX9_crossedSo_65 : decode cX9_crossedSo 65 = .ok (.goto 4, 3) := by decide +kernel
theorem dX9_crossedSo_68 : decode cX9_crossedSo 68 = .ok (.iconst 0, 1) := by decide +kernel
theorem dX9_crossedSo_69 : decode cX9_crossedSo 69 = .ok (.istore 5, 2) := by decide +kernel
theorem dX9_crossedSo_71 : decode cX9_crossedSo 71 = .ok (.iinc 6 2, 3) := by decide +kernel
theorem dX9_crossedSo_74 : decode cX9_crossedSo 74 = .ok (.goto (-68), 3) := by decide +kernel
theorem dX9_crossedSo_77 : decode cX9_crossedSo 77 = .ok (.iload 5, 2) := by decide +kernel
theorem dX9_crossedSo_79 : decode cX9_crossedSo 79 = .ok (.ireturn, 1) := by decide +kernel
theorem dX9_thicks_0 : decode cX9_thicks 0 = .ok (.aload_n 0, 1) := by decide +kernel
theorem dX9_thicks_1 : decode cX9_thicks 1 = .ok (.iload_n 1, 1) := by decide +kernel
theorem dX9_thicks_2 : decode cX9_thicks 2 = .ok (.invokevirtual 140, 3) := by decide +kernel
theorem dX9_thicks_5 : decode cX9_thicks 5 = .ok (.ifCond .eq 10, 3) := by decide +kernel
theorem dX9_thicks_8 : decode cX9_thicks 8 = .ok (.iload_n 2, 1) := by decide +kernel
theorem dX9_thicks_9 : decode cX9_thicks 9 = .ok (.invokestatic 59, 3) := by decide +kernel
theorem dX9_thicks_12 : decode cX9_thicks 12 = .ok (.ifCond .ne 5, 3) := by decide +kernel
theorem dX9_thicks_15 : decode cX9_thicks 15 = .ok (.iconst (-1), 1) := by decide +kernel
theorem dX9_thicks_16 : decode cX9_thicks 16 = .ok (.ireturn, 1) := by decide +kernel
theorem dX9_thicks_17 : decode cX9_thicks 17 = .ok (.aload_n 0, 1) := by decide +kernel
theorem dX9_thicks_18 : decode cX9_thicks 18 = .ok (.iload_n 2, 1) := by decide +kernel
theorem dX9_thicks_19 : decode cX9_thicks 19 = .ok (.invokevirtual 190, 3) := by decide +kernel
theorem dX9_thicks_22 : decode cX9_thicks 22 = .ok (.istore_n 3, 1) := by decide +kernel
theorem dX9_thicks_23 : decode cX9_thicks 23 = .ok (.iload_n 3, 1) := by decide +kernel
theorem dX9_thicks_24 : decode cX9_thicks 24 = .ok (.ifCond .ge 5, 3) := by decide +kernel
theorem dX9_thicks_27 : decode cX9_thicks 27 = .ok (.iload_n 3, 1) := by decide +kernel
theorem dX9_thicks_28 : decode cX9_thicks 28 = .ok (.ireturn, 1) := by decide +kernel
theorem dX9_thicks_29 : decode cX9_thicks 29 = .ok (.iconst 0, 1) := by decide +kernel
theorem dX9_thicks_30 : decode cX9_thicks 30 = .ok (.istore 4, 2) := by decide +kernel
theorem dX9_thicks_32 : decode cX9_thicks 32 = .ok (.iconst 0, 1) := by decide +kernel
theorem dX9_thicks_33 : decode cX9_thicks 33 = .ok (.istore 5, 2) := by decide +kernel
theorem dX9_thicks_35 : decode cX9_thicks 35 = .ok (.iload 5, 2) := by decide +kernel
theorem dX9_thicks_37 : decode cX9_thicks 37 = .ok (.bipush 10, 2) := by decide +kernel
theorem dX9_thicks_39 : decode cX9_thicks 39 = .ok (.if_icmp .ge 41, 3) := by decide +kernel
theorem dX9_thicks_42 : decode cX9_thicks 42 = .ok (.iload 4, 2) := by decide +kernel
theorem dX9_thicks_44 : decode cX9_thicks 44 = .ok (.aload_n 0, 1) := by decide +kernel
theorem dX9_thicks_45 : decode cX9_thicks 45 = .ok (.iload_n 2, 1) := by decide +kernel
theorem dX9_thicks_46 : decode cX9_thicks 46 = .ok (.iload_n 1, 1) := by decide +kernel
theorem dX9_thicks_47 : decode cX9_thicks 47 = .ok (.aload_n 0, 1) := by decide +kernel
theorem dX9_thicks_48 : decode cX9_thicks 48 = .ok (.getfield 7, 3) := by decide +kernel
theorem dX9_thicks_51 : decode cX9_thicks 51 = .ok (.iconst 3, 1) := by decide +kernel
theorem dX9_thicks_52 : decode cX9_thicks 52 = .ok (.iload_n 1, 1) := by decide +kernel
theorem dX9_thicks_53 : decode cX9_thicks 53 = .ok (.iadd, 1) := by decide +kernel
theorem dX9_thicks_54 : decode cX9_thicks 54 = .ok (.iaload, 1) := by decide +kernel
theorem dX9_thicks_55 : decode cX9_thicks 55 = .ok (.iload 5, 2) := by decide +kernel
theorem dX9_thicks_57 : decode cX9_thicks 57 = .ok (.invokevirtual 193, 3) := by decide +kernel
theorem dX9_thicks_60 : decode cX9_thicks 60 = .ok (.ifCond .eq 10, 3) := by decide +kernel
theorem dX9_thicks_63 : decode cX9_thicks 63 = .ok (.iconst 1, 1) := by decide +kernel
theorem dX9_thicks_64 : decode cX9_thicks 64 = .ok (.iload 5, 2) := by decide +kernel
theorem dX9_thicks_66 : decode cX9_thicks 66 = .ok (.ishl, 1) := by decide +kernel
theorem dX9_thicks_67 : decode cX9_thicks 67 = .ok (.goto 4, 3) := by decide +kernel
theorem dX9_thicks_70 : decode cX9_thicks 70 = .ok (.iconst 0, 1) := by decide +kernel
theorem dX9_thicks_71 : decode cX9_thicks 71 = .ok (.ior, 1) := by decide +kernel
theorem dX9_thicks_72 : decode cX9_thicks 72 = .ok (.istore 4, 2) := by decide +kernel
theorem dX9_thicks_74 : decode cX9_thicks 74 = .ok (.iinc 5 1, 3) := by decide +kernel
theorem dX9_thicks_77 : decode cX9_thicks 77 = .ok (.goto (-42), 3) := by decide +kernel
theorem dX9_thicks_80 : decode cX9_thicks 80 = .ok (.iload 4, 2) := by decide +kernel
theorem dX9_thicks_82 : decode cX9_thicks 82 = .ok (.ireturn, 1) := by decide +kernel
theorem dX9_kinds_0 : decode cX9_kinds 0 = .ok (.aload_n 0, 1) := by decide +kernel
theorem dX9_kinds_1 : decode cX9_kinds 1 = .ok (.iload_n 1, 1) := by decide +kernel
theorem dX9_kinds_2 : decode cX9_kinds 2 = .ok (.invokevirtual 140, 3) := by decide +kernel
theorem dX9_kinds_5 : decode cX9_kinds 5 = .ok (.ifCond .eq 10, 3) := by decide +kernel
theorem dX9_kinds_8 : decode cX9_kinds 8 = .ok (.iload_n 2, 1) := by decide +kernel
theorem dX9_kinds_9 : decode cX9_kinds 9 = .ok (.invokestatic 59, 3) := by decide +kernel
theorem dX9_kinds_12 : decode cX9_kinds 12 = .ok (.ifCond .ne 5, 3) := by decide +kernel
theorem dX9_kinds_15 : decode cX9_kinds 15 = .ok (.iconst (-1), 1) := by decide +kernel
theorem dX9_kinds_16 : decode cX9_kinds 16 = .ok (.ireturn, 1) := by decide +kernel
theorem dX9_kinds_17 : decode cX9_kinds 17 = .ok (.aload_n 0, 1) := by decide +kernel
theorem dX9_kinds_18 : decode cX9_kinds 18 = .ok (.iload_n 2, 1) := by decide +kernel
theorem dX9_kinds_19 : decode cX9_kinds 19 = .ok (.invokevirtual 190, 3) := by decide +kernel
theorem dX9_kinds_22 : decode cX9_kinds 22 = .ok (.istore_n 3, 1) := by decide +kernel
theorem dX9_kinds_23 : decode cX9_kinds 23 = .ok (.iload_n 3, 1) := by decide +kernel
theorem dX9_kinds_24 : decode cX9_kinds 24 = .ok (.ifCond .ge 5, 3) := by decide +kernel
theorem dX9_kinds_27 : decode cX9_kinds 27 = .ok (.iload_n 3, 1) := by decide +kernel
theorem dX9_kinds_28 : decode cX9_kinds 28 = .ok (.ireturn, 1) := by decide +kernel
theorem dX9_kinds_29 : decode cX9_kinds 29 = .ok (.iconst 0, 1) := by decide +kernel
theorem dX9_kinds_30 : decode cX9_kinds 30 = .ok (.istore 4, 2) := by decide +kernel
theorem dX9_kinds_32 : decode cX9_kinds 32 = .ok (.iconst 0, 1) := by decide +kernel
theorem dX9_kinds_33 : decode cX9_kinds 33 = .ok (.istore 5, 2) := by decide +kernel
theorem dX9_kinds_35 : decode cX9_kinds 35 = .ok (.iload 5, 2) := by decide +kernel
theorem dX9_kinds_37 : decode cX9_kinds 37 = .ok (.iconst 5, 1) := by decide +kernel
theorem dX9_kinds_38 : decode cX9_kinds 38 = .ok (.if_icmp .gt 42, 3) := by decide +kernel
theorem dX9_kinds_41 : decode cX9_kinds 41 = .ok (.iload 4, 2) := by decide +kernel
theorem dX9_kinds_43 : decode cX9_kinds 43 = .ok (.aload_n 0, 1) := by decide +kernel
theorem dX9_kinds_44 : decode cX9_kinds 44 = .ok (.iload_n 2, 1) := by decide +kernel
theorem dX9_kinds_45 : decode cX9_kinds 45 = .ok (.iload_n 1, 1) := by decide +kernel
theorem dX9_kinds_46 : decode cX9_kinds 46 = .ok (.iload 5, 2) := by decide +kernel
theorem dX9_kinds_48 : decode cX9_kinds 48 = .ok (.aload_n 0, 1) := by decide +kernel
theorem dX9_kinds_49 : decode cX9_kinds 49 = .ok (.getfield 7, 3) := by decide +kernel
theorem dX9_kinds_52 : decode cX9_kinds 52 = .ok (.bipush 21, 2) := by decide +kernel
theorem dX9_kinds_54 : decode cX9_kinds 54 = .ok (.iload_n 1, 1) := by decide +kernel
theorem dX9_kinds_55 : decode cX9_kinds 55 = .ok (.iadd, 1) := by decide +kernel
theorem dX9_kinds_56 : decode cX9_kinds 56 = .ok (.iaload, 1) := by decide +kernel
theorem dX9_kinds_57 : decode cX9_kinds 57 = .ok (.invokevirtual 193, 3) := by decide +kernel
theorem dX9_kinds_60 : decode cX9_kinds 60 = .ok (.ifCond .eq 10, 3) := by decide +kernel
theorem dX9_kinds_63 : decode cX9_kinds 63 = .ok (.iconst 1, 1) := by decide +kernel
theorem dX9_kinds_64 : decode cX9_kinds 64 = .ok (.iload 5, 2) := by decide +kernel
theorem dX9_kinds_66 : decode cX9_kinds 66 = .ok (.ishl, 1) := by decide +kernel
theorem dX9_kinds_67 : decode cX9_kinds 67 = .ok (.goto 4, 3) := by decide +kernel
theorem dX9_kinds_70 : decode cX9_kinds 70 = .ok (.iconst 0, 1) := by decide +kernel
theorem dX9_kinds_71 : decode cX9_kinds 71 = .ok (.ior, 1) := by decide +kernel
theorem dX9_kinds_72 : decode cX9_kinds 72 = .ok (.istore 4, 2) := by decide +kernel
theorem dX9_kinds_74 : decode cX9_kinds 74 = .ok (.iinc 5 1, 3) := by decide +kernel
theorem dX9_kinds_77 : decode cX9_kinds 77 = .ok (.goto (-42), 3) := by decide +kernel
theorem dX9_kinds_80 : decode cX9_kinds 80 = .ok (.iload 4, 2) := by decide +kernel
theorem dX9_kinds_82 : decode cX9_kinds 82 = .ok (.ireturn, 1) := by decide +kernel
theorem dX9_test_0 : decode cX9_test 0 = .ok (.aload_n 0, 1) := by decide +kernel
theorem dX9_test_1 : decode cX9_test 1 = .ok (.iload_n 1, 1) := by decide +kernel
theorem dX9_test_2 : decode cX9_test 2 = .ok (.invokevirtual 140, 3) := by decide +kernel
theorem dX9_test_5 : decode cX9_test 5 = .ok (.ifCond .eq 10, 3) := by decide +kernel
theorem dX9_test_8 : decode cX9_test 8 = .ok (.iload_n 2, 1) := by decide +kernel
theorem dX9_test_9 : decode cX9_test 9 = .ok (.invokestatic 59, 3) := by decide +kernel
theorem dX9_test_12 : decode cX9_test 12 = .ok (.ifCond .ne 5, 3) := by decide +kernel
theorem dX9_test_15 : decode cX9_test 15 = .ok (.iconst (-1), 1) := by decide +kernel
theorem dX9_test_16 : decode cX9_test 16 = .ok (.ireturn, 1) := by decide +kernel
theorem dX9_test_17 : decode cX9_test 17 = .ok (.aload_n 0, 1) := by decide +kernel
theorem dX9_test_18 : decode cX9_test 18 = .ok (.iload_n 2, 1) := by decide +kernel
theorem dX9_test_19 : decode cX9_test 19 = .ok (.invokevirtual 190, 3) := by decide +kernel
theorem dX9_test_22 : decode cX9_test 22 = .ok (.istore_n 3, 1) := by decide +kernel
theorem dX9_test_23 : decode cX9_test 23 = .ok (.iload_n 3, 1) := by decide +kernel
theorem dX9_test_24 : decode cX9_test 24 = .ok (.ifCond .ge 5, 3) := by decide +kernel
theorem dX9_test_27 : decode cX9_test 27 = .ok (.iload_n 3, 1) := by decide +kernel
theorem dX9_test_28 : decode cX9_test 28 = .ok (.ireturn, 1) := by decide +kernel
theorem dX9_test_29 : decode cX9_test 29 = .ok (.bipush (-9), 2) := by decide +kernel
theorem dX9_test_31 : decode cX9_test 31 = .ok (.istore 4, 2) := by decide +kernel
theorem dX9_test_33 : decode cX9_test 33 = .ok (.ldc 181, 2) := by decide +kernel
theorem dX9_test_35 : decode cX9_test 35 = .ok (.istore 5, 2) := by decide +kernel
theorem dX9_test_37 : decode cX9_test 37 = .ok (.iconst 0, 1) := by decide +kernel
theorem dX9_test_38 : decode cX9_test 38 = .ok (.istore 6, 2) := by decide +kernel
theorem dX9_test_40 : decode cX9_test 40 = .ok (.iconst 0, 1) := by decide +kernel
theorem dX9_test_41 : decode cX9_test 41 = .ok (.istore 7, 2) := by decide +kernel
theorem dX9_test_43 : decode cX9_test 43 = .ok (.iload 7, 2) := by decide +kernel
theorem dX9_test_45 : decode cX9_test 45 = .ok (.bipush 8, 2) := by decide +kernel
theorem dX9_test_47 : decode cX9_test 47 = .ok (.if_icmp .ge 170, 3) := by decide +kernel
theorem dX9_test_50 : decode cX9_test 50 = .ok (.iconst 0, 1) := by decide +kernel
theorem dX9_test_51 : decode cX9_test 51 = .ok (.istore 8, 2) := by decide +kernel
theorem dX9_test_53 : decode cX9_test 53 = .ok (.iconst 0, 1) := by decide +kernel
theorem dX9_test_54 : decode cX9_test 54 = .ok (.istore 6, 2) := by decide +kernel
theorem dX9_test_56 : decode cX9_test 56 = .ok (.iconst 0, 1) := by decide +kernel
theorem dX9_test_57 : decode cX9_test 57 = .ok (.istore 9, 2) := by decide +kernel
theorem dX9_test_59 : decode cX9_test 59 = .ok (.iload 9, 2) := by decide +kernel
theorem dX9_test_61 : decode cX9_test 61 = .ok (.bipush 32, 2) := by decide +kernel
theorem dX9_test_63 : decode cX9_test 63 = .ok (.if_icmp .ge 17, 3) := by decide +kernel
theorem dX9_test_66 : decode cX9_test 66 = .ok (.aload_n 0, 1) := by decide +kernel
theorem dX9_test_67 : decode cX9_test 67 = .ok (.getfield 38, 3) := by decide +kernel
theorem dX9_test_70 : decode cX9_test 70 = .ok (.iload 9, 2) := by decide +kernel
theorem dX9_test_72 : decode cX9_test 72 = .ok (.iconst 0, 1) := by decide +kernel
theorem dX9_test_73 : decode cX9_test 73 = .ok (.iastore, 1) := by decide +kernel
theorem dX9_test_74 : decode cX9_test 74 = .ok (.iinc 9 1, 3) := by decide +kernel
theorem dX9_test_77 : decode cX9_test 77 = .ok (.goto (-18), 3) := by decide +kernel
theorem dX9_test_80 : decode cX9_test 80 = .ok (.iconst 0, 1) := by decide +kernel
theorem dX9_test_81 : decode cX9_test 81 = .ok (.istore 9, 2) := by decide +kernel
theorem dX9_test_83 : decode cX9_test 83 = .ok (.iload 9, 2) := by decide +kernel
theorem dX9_test_85 : decode cX9_test 85 = .ok (.bipush 60, 2) := by decide +kernel
theorem dX9_test_87 : decode cX9_test 87 = .ok (.if_icmp .ge 92, 3) := by decide +kernel
theorem dX9_test_90 : decode cX9_test 90 = .ok (.aload_n 0, 1) := by decide +kernel
theorem dX9_test_91 : decode cX9_test 91 = .ok (.iload_n 2, 1) := by decide +kernel
theorem dX9_test_92 : decode cX9_test 92 = .ok (.iload_n 1, 1) := by decide +kernel
theorem dX9_test_93 : decode cX9_test 93 = .ok (.iload 9, 2) := by decide +kernel
theorem dX9_test_95 : decode cX9_test 95 = .ok (.bipush 10, 2) := by decide +kernel
theorem dX9_test_97 : decode cX9_test 97 = .ok (.idiv, 1) := by decide +kernel
theorem dX9_test_98 : decode cX9_test 98 = .ok (.iload 9, 2) := by decide +kernel
theorem dX9_test_100 : decode cX9_test 100 = .ok (.bipush 10, 2) := by decide +kernel
theorem dX9_test_102 : decode cX9_test 102 = .ok (.irem, 1) := by decide +kernel
theorem dX9_test_103 : decode cX9_test 103 = .ok (.invokevirtual 193, 3) := by decide +kernel
theorem dX9_test_106 : decode cX9_test 106 = .ok (.ifCond .eq 67, 3) := by decide +kernel
theorem dX9_test_109 : decode cX9_test 109 = .ok (.aload_n 0, 1) := by decide +kernel
theorem dX9_test_110 : decode cX9_test 110 = .ok (.iload 9, 2) := by decide +kernel
theorem dX9_test_112 : decode cX9_test 112 = .ok (.bipush 10, 2) := by decide +kernel
theorem dX9_test_114 : decode cX9_test 114 = .ok (.idiv, 1) := by decide +kernel
theorem dX9_test_115 : decode cX9_test 115 = .ok (.iload 9, 2) := by decide +kernel
theorem dX9_test_117 : decode cX9_test 117 = .ok (.bipush 10, 2) := by decide +kernel
theorem dX9_test_119 : decode cX9_test 119 = .ok (.irem, 1) := by decide +kernel
theorem dX9_test_120 : decode cX9_test 120 = .ok (.aload_n 0, 1) := by decide +kernel
theorem dX9_test_121 : decode cX9_test 121 = .ok (.iconst 0, 1) := by decide +kernel
theorem dX9_test_122 : decode cX9_test 122 = .ok (.iload_n 1, 1) := by decide +kernel
theorem dX9_test_123 : decode cX9_test 123 = .ok (.invokevirtual 126, 3) := by decide +kernel
theorem dX9_test_126 : decode cX9_test 126 = .ok (.iload 7, 2) := by decide +kernel
theorem dX9_test_128 : decode cX9_test 128 = .ok (.invokevirtual 129, 3) := by decide +kernel
theorem dX9_test_131 : decode cX9_test 131 = .ok (.istore 10, 2) := by decide +kernel
theorem dX9_test_133 : decode cX9_test 133 = .ok (.aload_n 0, 1) := by decide +kernel
theorem dX9_test_134 : decode cX9_test 134 = .ok (.getfield 38, 3) := by decide +kernel
theorem dX9_test_137 : decode cX9_test 137 = .ok (.iload 10, 2) := by decide +kernel
theorem dX9_test_139 : decode cX9_test 139 = .ok (.dup2, 1) := by decide +kernel
theorem dX9_test_140 : decode cX9_test 140 = .ok (.iaload, 1) := by decide +kernel
theorem dX9_test_141 : decode cX9_test 141 = .ok (.iconst 1, 1) := by decide +kernel
theorem dX9_test_142 : decode cX9_test 142 = .ok (.iadd, 1) := by decide +kernel
theorem dX9_test_143 : decode cX9_test 143 = .ok (.iastore, 1) := by decide +kernel
theorem dX9_test_144 : decode cX9_test 144 = .ok (.aload_n 0, 1) := by decide +kernel
theorem dX9_test_145 : decode cX9_test 145 = .ok (.getfield 38, 3) := by decide +kernel
theorem dX9_test_148 : decode cX9_test 148 = .ok (.iload 10, 2) := by decide +kernel
theorem dX9_test_150 : decode cX9_test 150 = .ok (.iaload, 1) := by decide +kernel
theorem dX9_test_151 : decode cX9_test 151 = .ok (.iload 8, 2) := by decide +kernel
theorem dX9_test_153 : decode cX9_test 153 = .ok (.if_icmp .le 13, 3) := by decide +kernel
theorem dX9_test_156 : decode cX9_test 156 = .ok (.aload_n 0, 1) := by decide +kernel
theorem dX9_test_157 : decode cX9_test 157 = .ok (.getfield 38, 3) := by decide +kernel
theorem dX9_test_160 : decode cX9_test 160 = .ok (.iload 10, 2) := by decide +kernel
theorem dX9_test_162 : decode cX9_test 162 = .ok (.iaload, 1) := by decide +kernel
theorem dX9_test_163 : decode cX9_test 163 = .ok (.goto 5, 3) := by decide +kernel
theorem dX9_test_166 : decode cX9_test 166 = .ok (.iload 8, 2) := by decide +kernel
theorem dX9_test_168 : decode cX9_test 168 = .ok (.istore 8, 2) := by decide +kernel
theorem dX9_test_170 : decode cX9_test 170 = .ok (.iinc 6 1, 3) := by decide +kernel
theorem dX9_test_173 : decode cX9_test 173 = .ok (.iinc 9 1, 3) := by decide +kernel
theorem dX9_test_176 : decode cX9_test 176 = .ok (.goto (-93), 3) := by decide +kernel
theorem dX9_test_179 : decode cX9_test 179 = .ok (.iload 8, 2) := by decide +kernel
theorem dX9_test_181 : decode cX9_test 181 = .ok (.iload 5, 2) := by decide +kernel
theorem dX9_test_183 : decode cX9_test 183 = .ok (.if_icmp .ge 8, 3) := by decide +kernel
theorem dX9_test_186 : decode cX9_test 186 = .ok (.iload 7, 2) := by decide +kernel
theorem dX9_test_188 : decode cX9_test 188 = .ok (.goto 5, 3) := by decide +kernel
theorem dX9_test_191 : decode cX9_test 191 = .ok (.iload 4, 2) := by decide +kernel
theorem dX9_test_193 : decode cX9_test 193 = .ok (.istore 4, 2) := by decide +kernel
theorem dX9_test_195 : decode cX9_test 195 = .ok (.iload 8, 2) := by decide +kernel
theorem dX9_test_197 : decode cX9_test 197 = .ok (.iload 5, 2) := by decide +kernel
theorem dX9_test_199 : decode cX9_test 199 = .ok (.if_icmp .ge 8, 3) := by decide +kernel
theorem dX9_test_202 : decode cX9_test 202 = .ok (.iload 8, 2) := by decide +kernel
theorem dX9_test_204 : decode cX9_test 204 = .ok (.goto 5, 3) := by decide +kernel
theorem dX9_test_207 : decode cX9_test 207 = .ok (.iload 5, 2) := by decide +kernel
theorem dX9_test_209 : decode cX9_test 209 = .ok (.istore 5, 2) := by decide +kernel
theorem dX9_test_211 : decode cX9_test 211 = .ok (.iinc 7 1, 3) := by decide +kernel
theorem dX9_test_214 : decode cX9_test 214 = .ok (.goto (-171), 3) := by decide +kernel
theorem dX9_test_217 : decode cX9_test 217 = .ok (.iload 6, 2) := by decide +kernel
theorem dX9_test_219 : decode cX9_test 219 = .ok (.ifCond .ne 8, 3) := by decide +kernel
theorem dX9_test_222 : decode cX9_test 222 = .ok (.bipush (-9), 2) := by decide +kernel
theorem dX9_test_224 : decode cX9_test 224 = .ok (.goto 11, 3) := by decide +kernel
theorem dX9_test_227 : decode cX9_test 227 = .ok (.aload_n 0, 1) := by decide +kernel
theorem dX9_test_228 : decode cX9_test 228 = .ok (.iload 5, 2) := by decide +kernel
theorem dX9_test_230 : decode cX9_test 230 = .ok (.iload 4, 2) := by decide +kernel
theorem dX9_test_232 : decode cX9_test 232 = .ok (.invokevirtual 75, 3) := by decide +kernel
theorem dX9_test_235 : decode cX9_test 235 = .ok (.ireturn, 1) := by decide +kernel
theorem dX9_duel_0 : decode cX9_duel 0 = .ok (.iload_n 1, 1) := by decide +kernel
theorem dX9_duel_1 : decode cX9_duel 1 = .ok (.i2l, 1) := by decide +kernel
theorem dX9_duel_2 : decode cX9_duel 2 = .ok (.lconst 0, 1) := by decide +kernel
theorem dX9_duel_3 : decode cX9_duel 3 = .ok (.ldc2_w 179, 3) := by decide +kernel
theorem dX9_duel_6 : decode cX9_duel 6 = .ok (.invokestatic 53, 3) := by decide +kernel
theorem dX9_duel_9 : decode cX9_duel 9 = .ok (.ifCond .ne 5, 3) := by decide +kernel
theorem dX9_duel_12 : decode cX9_duel 12 = .ok (.iconst (-1), 1) := by decide +kernel
theorem dX9_duel_13 : decode cX9_duel 13 = .ok (.ireturn, 1) := by decide +kernel
theorem dX9_duel_14 : decode cX9_duel 14 = .ok (.aload_n 0, 1) := by decide +kernel
theorem dX9_duel_15 : decode cX9_duel 15 = .ok (.invokevirtual 153, 3) := by decide +kernel
theorem dX9_duel_18 : decode cX9_duel 18 = .ok (.ifCond .ne 6, 3) := by decide +kernel
theorem dX9_duel_21 : decode cX9_duel 21 = .ok (.bipush (-4), 2) := by decide +kernel
theorem dX9_duel_23 : decode cX9_duel 23 = .ok (.ireturn, 1) := by decide +kernel
theorem dX9_duel_24 : decode cX9_duel 24 = .ok (.aload_n 0, 1) := by decide +kernel
theorem dX9_duel_25 : decode cX9_duel 25 = .ok (.getfield 7, 3) := by decide +kernel
theorem dX9_duel_28 : decode cX9_duel 28 = .ok (.iconst 0, 1) := by decide +kernel
theorem dX9_duel_29 : decode cX9_duel 29 = .ok (.iaload, 1) := by decide +kernel
theorem dX9_duel_30 : decode cX9_duel 30 = .ok (.iconst 1, 1) := by decide +kernel
theorem dX9_duel_31 : decode cX9_duel 31 = .ok (.iadd, 1) := by decide +kernel
theorem dX9_duel_32 : decode cX9_duel 32 = .ok (.istore_n 2, 1) := by decide +kernel
theorem dX9_duel_33 : decode cX9_duel 33 = .ok (.iconst 1, 1) := by decide +kernel
theorem dX9_duel_34 : decode cX9_duel 34 = .ok (.istore_n 3, 1) := by decide +kernel
theorem dX9_duel_35 : decode cX9_duel 35 = .ok (.iconst 0, 1) := by decide +kernel
theorem dX9_duel_36 : decode cX9_duel 36 = .ok (.istore 4, 2) := by decide +kernel
theorem dX9_duel_38 : decode cX9_duel 38 = .ok (.iload 4, 2) := by decide +kernel
theorem dX9_duel_40 : decode cX9_duel 40 = .ok (.iload_n 1, 1) := by decide +kernel
theorem dX9_duel_41 : decode cX9_duel 41 = .ok (.if_icmp .ge 13, 3) := by decide +kernel
theorem dX9_duel_44 : decode cX9_duel 44 = .ok (.iload_n 3, 1) := by decide +kernel
theorem dX9_duel_45 : decode cX9_duel 45 = .ok (.iload_n 2, 1) := by decide +kernel
theorem dX9_duel_46 : decode cX9_duel 46 = .ok (.imul, 1) := by decide +kernel
theorem dX9_duel_47 : decode cX9_duel 47 = .ok (.istore_n 3, 1) := by decide +kernel
theorem dX9_duel_48 : decode cX9_duel 48 = .ok (.iinc 4 1, 3) := by decide +kernel
theorem dX9_duel_51 : decode cX9_duel 51 = .ok (.goto (-13), 3) := by decide +kernel
theorem dX9_duel_54 : decode cX9_duel 54 = .ok (.iconst 0, 1) := by decide +kernel
theorem dX9_duel_55 : decode cX9_duel 55 = .ok (.istore 4, 2) := by decide +kernel
theorem dX9_duel_57 : decode cX9_duel 57 = .ok (.iload 4, 2) := by decide +kernel
theorem dX9_duel_59 : decode cX9_duel 59 = .ok (.iload_n 3, 1) := by decide +kernel
theorem dX9_duel_60 : decode cX9_duel 60 = .ok (.if_icmp .ge 170, 3) := by decide +kernel
theorem dX9_duel_63 : decode cX9_duel 63 = .ok (.aload_n 0, 1) := by decide +kernel
theorem dX9_duel_64 : decode cX9_duel 64 = .ok (.invokevirtual 173, 3) := by decide +kernel
theorem dX9_duel_67 : decode cX9_duel 67 = .ok (.iconst 0, 1) := by decide +kernel
theorem dX9_duel_68 : decode cX9_duel 68 = .ok (.istore 5, 2) := by decide +kernel
theorem dX9_duel_70 : decode cX9_duel 70 = .ok (.iload_n 3, 1) := by decide +kernel
theorem dX9_duel_71 : decode cX9_duel 71 = .ok (.istore 6, 2) := by decide +kernel
theorem dX9_duel_73 : decode cX9_duel 73 = .ok (.iconst 1, 1) := by decide +kernel
theorem dX9_duel_74 : decode cX9_duel 74 = .ok (.istore 7, 2) := by decide +kernel
theorem dX9_duel_76 : decode cX9_duel 76 = .ok (.iconst 0, 1) := by decide +kernel
theorem dX9_duel_77 : decode cX9_duel 77 = .ok (.istore 8, 2) := by decide +kernel
theorem dX9_duel_79 : decode cX9_duel 79 = .ok (.iload 8, 2) := by decide +kernel
theorem dX9_duel_81 : decode cX9_duel 81 = .ok (.iload_n 1, 1) := by decide +kernel
theorem dX9_duel_82 : decode cX9_duel 82 = .ok (.if_icmp .ge 124, 3) := by decide +kernel
theorem dX9_duel_85 : decode cX9_duel 85 = .ok (.iload 6, 2) := by decide +kernel
theorem dX9_duel_87 : decode cX9_duel 87 = .ok (.iload_n 2, 1) := by decide +kernel
theorem dX9_duel_88 : decode cX9_duel 88 = .ok (.idiv, 1) := by decide +kernel
theorem dX9_duel_89 : decode cX9_duel 89 = .ok (.istore 6, 2) := by decide +kernel
theorem dX9_duel_91 : decode cX9_duel 91 = .ok (.iload 4, 2) := by decide +kernel
theorem dX9_duel_93 : decode cX9_duel 93 = .ok (.iload 6, 2) := by decide +kernel
theorem dX9_duel_95 : decode cX9_duel 95 = .ok (.idiv, 1) := by decide +kernel
theorem dX9_duel_96 : decode cX9_duel 96 = .ok (.iload_n 2, 1) := by decide +kernel
theorem dX9_duel_97 : decode cX9_duel 97 = .ok (.irem, 1) := by decide +kernel
theorem dX9_duel_98 : decode cX9_duel 98 = .ok (.iconst 1, 1) := by decide +kernel
theorem dX9_duel_99 : decode cX9_duel 99 = .ok (.isub, 1) := by decide +kernel
theorem dX9_duel_100 : decode cX9_duel 100 = .ok (.istore 9, 2) := by decide +kernel
theorem dX9_duel_102 : decode cX9_duel 102 = .ok (.iload 8, 2) := by decide +kernel
theorem dX9_duel_104 : decode cX9_duel 104 = .ok (.iconst 2, 1) := by decide +kernel
theorem dX9_duel_105 : decode cX9_duel 105 = .ok (.irem, 1) := by decide +kernel
theorem dX9_duel_106 : decode cX9_duel 106 = .ok (.iconst 1, 1) := by decide +kernel
theorem dX9_duel_107 : decode cX9_duel 107 = .ok (.if_icmp .ne 29, 3) := by decide +kernel
theorem dX9_duel_110 : decode cX9_duel 110 = .ok (.iload 5, 2) := by decide +kernel
theorem dX9_duel_112 : decode cX9_duel 112 = .ok (.iload 9, 2) := by decide +kernel
theorem dX9_duel_114 : decode cX9_duel 114 = .ok (.ifCond .ge 7, 3) := by decide +kernel
theorem dX9_duel_117 : decode cX9_duel 117 = .ok (.iconst 0, 1) := by decide +kernel
theorem dX9_duel_118 : decode cX9_duel 118 = .ok (.goto 12, 3) := by decide +kernel
theorem dX9_duel_121 : decode cX9_duel 121 = .ok (.aload_n 0, 1) := by decide +kernel
theorem dX9_duel_122 : decode cX9_duel 122 = .ok (.sipush 7260, 3) := by decide +kernel
theorem dX9_duel_125 : decode cX9_duel 125 = .ok (.iload 9, 2) := by decide +kernel
theorem dX9_duel_127 : decode cX9_duel 127 = .ok (.invokevirtual 163, 3) := by decide +kernel
theorem dX9_duel_130 : decode cX9_duel 130 = .ok (.iadd, 1) := by decide +kernel
theorem dX9_duel_131 : decode cX9_duel 131 = .ok (.istore 5, 2) := by decide +kernel
theorem dX9_duel_133 : decode cX9_duel 133 = .ok (.goto 67, 3) := by decide +kernel
theorem dX9_duel_136 : decode cX9_duel 136 = .ok (.iload 7, 2) := by decide +kernel
theorem dX9_duel_138 : decode cX9_duel 138 = .ok (.ifCond .eq 26, 3) := by decide +kernel
theorem dX9_duel_141 : decode cX9_duel 141 = .ok (.iload 9, 2) := by decide +kernel
theorem dX9_duel_143 : decode cX9_duel 143 = .ok (.ifCond .lt 17, 3) := by decide +kernel
theorem dX9_duel_146 : decode cX9_duel 146 = .ok (.aload_n 0, 1) := by decide +kernel
theorem dX9_duel_147 : decode cX9_duel 147 = .ok (.getfield 7, 3) := by decide +kernel
theorem dX9_duel_150 : decode cX9_duel 150 = .ok (.sipush 7281, 3) := by decide +kernel
theorem dX9_duel_153 : decode cX9_duel 153 = .ok (.iload 9, 2) := by decide +kernel
theorem dX9_duel_155 : decode cX9_duel 155 = .ok (.iadd, 1) := by decide +kernel
theorem dX9_duel_156 : decode cX9_duel 156 = .ok (.iaload, 1) := by decide +kernel
theorem dX9_duel_157 : decode cX9_duel 157 = .ok (.ifCond .le 7, 3) := by decide +kernel
theorem dX9_duel_160 : decode cX9_duel 160 = .ok (.iconst 1, 1) := by decide +kernel
theorem dX9_duel_161 : decode cX9_duel 161 = .ok (.goto 4, 3) := by decide +kernel
theorem dX9_duel_164 : decode cX9_duel 164 = .ok (.iconst 0, 1) := by decide +kernel
theorem dX9_duel_165 : decode cX9_duel 165 = .ok (.istore 7, 2) := by decide +kernel
theorem dX9_duel_167 : decode cX9_duel 167 = .ok (.iload 7, 2) := by decide +kernel
theorem dX9_duel_169 : decode cX9_duel 169 = .ok (.ifCond .eq 23, 3) := by decide +kernel
theorem dX9_duel_172 : decode cX9_duel 172 = .ok (.iload 9, 2) := by decide +kernel
theorem dX9_duel_174 : decode cX9_duel 174 = .ok (.ifCond .lt 18, 3) := by decide +kernel
theorem dX9_duel_177 : decode cX9_duel 177 = .ok (.aload_n 0, 1) := by decide +kernel
theorem dX9_duel_178 : decode cX9_duel 178 = .ok (.getfield 7, 3) := by decide +kernel
theorem dX9_duel_181 : decode cX9_duel 181 = .ok (.sipush 7281, 3) := by decide +kernel
theorem dX9_duel_184 : decode cX9_duel 184 = .ok (.iload 9, 2) := by decide +kernel
theorem dX9_duel_186 : decode cX9_duel 186 = .ok (.iadd, 1) := by decide +kernel
theorem dX9_duel_187 : decode cX9_duel 187 = .ok (.dup2, 1) := by decide +kernel
theorem dX9_duel_188 : decode cX9_duel 188 = .ok (.iaload, 1) := by decide +kernel
theorem dX9_duel_189 : decode cX9_duel 189 = .ok (.iconst 1, 1) := by decide +kernel
theorem dX9_duel_190 : decode cX9_duel 190 = .ok (.isub, 1) := by decide +kernel
theorem dX9_duel_191 : decode cX9_duel 191 = .ok (.iastore, 1) := by decide +kernel
theorem dX9_duel_192 : decode cX9_duel 192 = .ok (.aload_n 0, 1) := by decide +kernel
theorem dX9_duel_193 : decode cX9_duel 193 = .ok (.sipush 7260, 3) := by decide +kernel
theorem dX9_duel_196 : decode cX9_duel 196 = .ok (.invokevirtual 160, 3) := by decide +kernel
theorem dX9_duel_199 : decode cX9_duel 199 = .ok (.pop, 1) := by decide +kernel
theorem dX9_duel_200 : decode cX9_duel 200 = .ok (.iinc 8 1, 3) := by decide +kernel
theorem dX9_duel_203 : decode cX9_duel 203 = .ok (.goto (-124), 3) := by decide +kernel
theorem dX9_duel_206 : decode cX9_duel 206 = .ok (.aload_n 0, 1) := by decide +kernel
theorem dX9_duel_207 : decode cX9_duel 207 = .ok (.getfield 41, 3) := by decide +kernel
theorem dX9_duel_210 : decode cX9_duel 210 = .ok (.iload 4, 2) := by decide +kernel
theorem dX9_duel_212 : decode cX9_duel 212 = .ok (.iload 7, 2) := by decide +kernel
theorem dX9_duel_214 : decode cX9_duel 214 = .ok (.ifCond .eq 8, 3) := by decide +kernel
theorem dX9_duel_217 : decode cX9_duel 217 = .ok (.iload 5, 2) := by decide +kernel
theorem dX9_duel_219 : decode cX9_duel 219 = .ok (.goto 4, 3) := by decide +kernel
theorem dX9_duel_222 : decode cX9_duel 222 = .ok (.iconst (-1), 1) := by decide +kernel
theorem dX9_duel_223 : decode cX9_duel 223 = .ok (.iastore, 1) := by decide +kernel
theorem dX9_duel_224 : decode cX9_duel 224 = .ok (.iinc 4 1, 3) := by decide +kernel
theorem dX9_duel_227 : decode cX9_duel 227 = .ok (.goto (-170), 3) := by decide +kernel
theorem dX9_duel_230 : decode cX9_duel 230 = .ok (.iload_n 3, 1) := by decide +kernel
theorem dX9_duel_231 : decode cX9_duel 231 = .ok (.istore 4, 2) := by decide +kernel
theorem dX9_duel_233 : decode cX9_duel 233 = .ok (.iload_n 1, 1) := by decide +kernel
theorem dX9_duel_234 : decode cX9_duel 234 = .ok (.iconst 1, 1) := by decide +kernel
theorem dX9_duel_235 : decode cX9_duel 235 = .ok (.isub, 1) := by decide +kernel
theorem dX9_duel_236 : decode cX9_duel 236 = .ok (.istore 5, 2) := by decide +kernel
theorem dX9_duel_238 : decode cX9_duel 238 = .ok (.iload 5, 2) := by decide +kernel
theorem dX9_duel_240 : decode cX9_duel 240 = .ok (.ifCond .lt 128, 3) := by decide +kernel
theorem dX9_duel_243 : decode cX9_duel 243 = .ok (.iload 4, 2) := by decide +kernel
theorem dX9_duel_245 : decode cX9_duel 245 = .ok (.iload_n 2, 1) := by decide +kernel
theorem dX9_duel_246 : decode cX9_duel 246 = .ok (.idiv, 1) := by decide +kernel
theorem dX9_duel_247 : decode cX9_duel 247 = .ok (.istore 4, 2) := by decide +kernel
theorem dX9_duel_249 : decode cX9_duel 249 = .ok (.iconst 0, 1) := by decide +kernel
theorem dX9_duel_250 : decode cX9_duel 250 = .ok (.istore 6, 2) := by decide +kernel
theorem dX9_duel_252 : decode cX9_duel 252 = .ok (.iload 6, 2) := by decide +kernel
theorem dX9_duel_254 : decode cX9_duel 254 = .ok (.iload 4, 2) := by decide +kernel
theorem dX9_duel_256 : decode cX9_duel 256 = .ok (.if_icmp .ge 106, 3) := by decide +kernel
theorem dX9_duel_259 : decode cX9_duel 259 = .ok (.iconst (-1), 1) := by decide +kernel
theorem dX9_duel_260 : decode cX9_duel 260 = .ok (.istore 7, 2) := by decide +kernel
theorem dX9_duel_262 : decode cX9_duel 262 = .ok (.iconst 0, 1) := by decide +kernel
theorem dX9_duel_263 : decode cX9_duel 263 = .ok (.istore 8, 2) := by decide +kernel
theorem dX9_duel_265 : decode cX9_duel 265 = .ok (.iload 8, 2) := by decide +kernel
theorem dX9_duel_267 : decode cX9_duel 267 = .ok (.iload_n 2, 1) := by decide +kernel
theorem dX9_duel_268 : decode cX9_duel 268 = .ok (.if_icmp .ge 79, 3) := by decide +kernel
theorem dX9_duel_271 : decode cX9_duel 271 = .ok (.aload_n 0, 1) := by decide +kernel
theorem dX9_duel_272 : decode cX9_duel 272 = .ok (.getfield 41, 3) := by decide +kernel
theorem dX9_duel_275 : decode cX9_duel 275 = .ok (.iload_n 2, 1) := by decide +kernel
theorem dX9_duel_276 : decode cX9_duel 276 = .ok (.iload 6, 2) := by decide +kernel
theorem dX9_duel_278 : decode cX9_duel 278 = .ok (.imul, 1) := by decide +kernel
theorem dX9_duel_279 : decode cX9_duel 279 = .ok (.iload 8, 2) := by decide +kernel
theorem dX9_duel_281 : decode cX9_duel 281 = .ok (.iadd, 1) := by decide +kernel
theorem dX9_duel_282 : decode cX9_duel 282 = .ok (.iaload, 1) := by decide +kernel
theorem dX9_duel_283 : decode cX9_duel 283 = .ok (.istore 9, 2) := by decide +kernel
theorem dX9_duel_285 : decode cX9_duel 285 = .ok (.iload 9, 2) := by decide +kernel
theorem dX9_duel_287 : decode cX9_duel 287 = .ok (.ifCond .lt 37, 3) := by decide +kernel
theorem dX9_duel_290 : decode cX9_duel 290 = .ok (.iload 7, 2) := by decide +kernel
theorem dX9_duel_292 : decode cX9_duel 292 = .ok (.ifCond .lt 28, 3) := by decide +kernel
theorem dX9_duel_295 : decode cX9_duel 295 = .ok (.iload 5, 2) := by decide +kernel
theorem dX9_duel_297 : decode cX9_duel 297 = .ok (.iconst 2, 1) := by decide +kernel
theorem dX9_duel_298 : decode cX9_duel 298 = .ok (.irem, 1) := by decide +kernel
theorem dX9_duel_299 : decode cX9_duel 299 = .ok (.iconst 1, 1) := by decide +kernel
theorem dX9_duel_300 : decode cX9_duel 300 = .ok (.if_icmp .ne 13, 3) := by decide +kernel
theorem dX9_duel_303 : decode cX9_duel 303 = .ok (.iload 9, 2) := by decide +kernel
theorem dX9_duel_305 : decode cX9_duel 305 = .ok (.iload 7, 2) := by decide +kernel
theorem dX9_duel_307 : decode cX9_duel 307 = .ok (.if_icmp .le 17, 3) := by decide +kernel
theorem dX9_duel_310 : decode cX9_duel 310 = .ok (.goto 10, 3) := by decide +kernel
theorem dX9_duel_313 : decode cX9_duel 313 = .ok (.iload 9, 2) := by decide +kernel
theorem dX9_duel_315 : decode cX9_duel 315 = .ok (.iload 7, 2) := by decide +kernel
theorem dX9_duel_317 : decode cX9_duel 317 = .ok (.if_icmp .ge 7, 3) := by decide +kernel
theorem dX9_duel_320 : decode cX9_duel 320 = .ok (.iconst 1, 1) := by decide +kernel
theorem dX9_duel_321 : decode cX9_duel 321 = .ok (.goto 4, 3) := by decide +kernel
theorem dX9_duel_324 : decode cX9_duel 324 = .ok (.iconst 0, 1) := by decide +kernel
theorem dX9_duel_325 : decode cX9_duel 325 = .ok (.istore 10, 2) := by decide +kernel
theorem dX9_duel_327 : decode cX9_duel 327 = .ok (.iload 10, 2) := by decide +kernel
theorem dX9_duel_329 : decode cX9_duel 329 = .ok (.ifCond .eq 8, 3) := by decide +kernel
theorem dX9_duel_332 : decode cX9_duel 332 = .ok (.iload 9, 2) := by decide +kernel
theorem dX9_duel_334 : decode cX9_duel 334 = .ok (.goto 5, 3) := by decide +kernel
theorem dX9_duel_337 : decode cX9_duel 337 = .ok (.iload 7, 2) := by decide +kernel
theorem dX9_duel_339 : decode cX9_duel 339 = .ok (.istore 7, 2) := by decide +kernel
theorem dX9_duel_341 : decode cX9_duel 341 = .ok (.iinc 8 1, 3) := by decide +kernel
theorem dX9_duel_344 : decode cX9_duel 344 = .ok (.goto (-79), 3) := by decide +kernel
theorem dX9_duel_347 : decode cX9_duel 347 = .ok (.aload_n 0, 1) := by decide +kernel
theorem dX9_duel_348 : decode cX9_duel 348 = .ok (.getfield 41, 3) := by decide +kernel
theorem dX9_duel_351 : decode cX9_duel 351 = .ok (.iload 6, 2) := by decide +kernel
theorem dX9_duel_353 : decode cX9_duel 353 = .ok (.iload 7, 2) := by decide +kernel
theorem dX9_duel_355 : decode cX9_duel 355 = .ok (.iastore, 1) := by decide +kernel
theorem dX9_duel_356 : decode cX9_duel 356 = .ok (.iinc 6 1, 3) := by decide +kernel
theorem dX9_duel_359 : decode cX9_duel 359 = .ok (.goto (-107), 3) := by decide +kernel
theorem dX9_duel_362 : decode cX9_duel 362 = .ok (.iinc 5 (-1), 3) := by decide +kernel
theorem dX9_duel_365 : decode cX9_duel 365 = .ok (.goto (-127), 3) := by decide +kernel
theorem dX9_duel_368 : decode cX9_duel 368 = .ok (.aload_n 0, 1) := by decide +kernel
theorem dX9_duel_369 : decode cX9_duel 369 = .ok (.getfield 41, 3) := by decide +kernel
theorem dX9_duel_372 : decode cX9_duel 372 = .ok (.iconst 0, 1) := by decide +kernel
theorem dX9_duel_373 : decode cX9_duel 373 = .ok (.iaload, 1) := by decide +kernel
theorem dX9_duel_374 : decode cX9_duel 374 = .ok (.ireturn, 1) := by decide +kernel
theorem dX9_tellsParts_0 : decode cX9_tellsParts 0 = .ok (.lload_n 1, 1) := by decide +kernel
theorem dX9_tellsParts_1 : decode cX9_tellsParts 1 = .ok (.lstore 5, 2) := by decide +kernel
theorem dX9_tellsParts_3 : decode cX9_tellsParts 3 = .ok (.lload_n 3, 1) := by decide +kernel
theorem dX9_tellsParts_4 : decode cX9_tellsParts 4 = .ok (.lstore 7, 2) := by decide +kernel
theorem dX9_tellsParts_6 : decode cX9_tellsParts 6 = .ok (.lload 7, 2) := by decide +kernel
theorem dX9_tellsParts_8 : decode cX9_tellsParts 8 = .ok (.lconst 0, 1) := by decide +kernel
theorem dX9_tellsParts_9 : decode cX9_tellsParts 9 = .ok (.lcmp, 1) := by decide +kernel
theorem dX9_tellsParts_10 : decode cX9_tellsParts 10 = .ok (.ifCond .eq 21, 3) := by decide +kernel
theorem dX9_tellsParts_13 : decode cX9_tellsParts 13 = .ok (.lload 5, 2) := by decide +kernel
theorem dX9_tellsParts_15 : decode cX9_tellsParts 15 = .ok (.lload 7, 2) := by decide +kernel
theorem dX9_tellsParts_17 : decode cX9_tellsParts 17 = .ok (.lrem, 1) := by decide +kernel
theorem dX9_tellsParts_18 : decode cX9_tellsParts 18 = .ok (.lstore 9, 2) := by decide +kernel
theorem dX9_tellsParts_20 : decode cX9_tellsParts 20 = .ok (.lload 7, 2) := by decide +kernel
theorem dX9_tellsParts_22 : decode cX9_tellsParts 22 = .ok (.lstore 5, 2) := by decide +kernel
theorem dX9_tellsParts_24 : decode cX9_tellsParts 24 = .ok (.lload 9, 2) := by decide +kernel
theorem dX9_tellsParts_26 : decode cX9_tellsParts 26 = .ok (.lstore 7, 2) := by decide +kernel
theorem dX9_tellsParts_28 : decode cX9_tellsParts 28 = .ok (.goto (-22), 3) := by decide +kernel
theorem dX9_tellsParts_31 : decode cX9_tellsParts 31 = .ok (.aload_n 0, 1) := by decide +kernel
theorem dX9_tellsParts_32 : decode cX9_tellsParts 32 = .ok (.lload_n 1, 1) := by decide +kernel
theorem dX9_tellsParts_33 : decode cX9_tellsParts 33 = .ok (.lload 5, 2) := by decide +kernel
theorem dX9_tellsParts_35 : decode cX9_tellsParts 35 = .ok (.ldiv, 1) := by decide +kernel
theorem dX9_tellsParts_36 : decode cX9_tellsParts 36 = .ok (.putfield 197, 3) := by decide +kernel
theorem dX9_tellsParts_39 : decode cX9_tellsParts 39 = .ok (.aload_n 0, 1) := by decide +kernel
theorem dX9_tellsParts_40 : decode cX9_tellsParts 40 = .ok (.lload_n 3, 1) := by decide +kernel
theorem dX9_tellsParts_41 : decode cX9_tellsParts 41 = .ok (.lload 5, 2) := by decide +kernel
theorem dX9_tellsParts_43 : decode cX9_tellsParts 43 = .ok (.ldiv, 1) := by decide +kernel
theorem dX9_tellsParts_44 : decode cX9_tellsParts 44 = .ok (.putfield 34, 3) := by decide +kernel
theorem dX9_tellsParts_47 : decode cX9_tellsParts 47 = .ok (.iconst 1, 1) := by decide +kernel
theorem dX9_tellsParts_48 : decode cX9_tellsParts 48 = .ok (.ireturn, 1) := by decide +kernel
theorem dX9_dueNow_0 : decode cX9_dueNow 0 = .ok (.iconst 0, 1) := by decide +kernel
theorem dX9_dueNow_1 : decode cX9_dueNow 1 = .ok (.istore_n 1, 1) := by decide +kernel
theorem dX9_dueNow_2 : decode cX9_dueNow 2 = .ok (.iconst 0, 1) := by decide +kernel
theorem dX9_dueNow_3 : decode cX9_dueNow 3 = .ok (.istore_n 2, 1) := by decide +kernel
theorem dX9_dueNow_4 : decode cX9_dueNow 4 = .ok (.iload_n 2, 1) := by decide +kernel
theorem dX9_dueNow_5 : decode cX9_dueNow 5 = .ok (.aload_n 0, 1) := by decide +kernel
theorem dX9_dueNow_6 : decode cX9_dueNow 6 = .ok (.getfield 7, 3) := by decide +kernel
theorem dX9_dueNow_9 : decode cX9_dueNow 9 = .ok (.iconst 0, 1) := by decide +kernel
theorem dX9_dueNow_10 : decode cX9_dueNow 10 = .ok (.iaload, 1) := by decide +kernel
theorem dX9_dueNow_11 : decode cX9_dueNow 11 = .ok (.if_icmp .ge 28, 3) := by decide +kernel
theorem dX9_dueNow_14 : decode cX9_dueNow 14 = .ok (.iload_n 1, 1) := by decide +kernel
theorem dX9_dueNow_15 : decode cX9_dueNow 15 = .ok (.aload_n 0, 1) := by decide +kernel
theorem dX9_dueNow_16 : decode cX9_dueNow 16 = .ok (.iconst 0, 1) := by decide +kernel
theorem dX9_dueNow_17 : decode cX9_dueNow 17 = .ok (.iload_n 2, 1) := by decide +kernel
theorem dX9_dueNow_18 : decode cX9_dueNow 18 = .ok (.invokevirtual 136, 3) := by decide +kernel
theorem dX9_dueNow_21 : decode cX9_dueNow 21 = .ok (.ifCond .eq 9, 3) := by decide +kernel
theorem dX9_dueNow_24 : decode cX9_dueNow 24 = .ok (.iconst 1, 1) := by decide +kernel
theorem dX9_dueNow_25 : decode cX9_dueNow 25 = .ok (.iload_n 2, 1) := by decide +kernel
theorem dX9_dueNow_26 : decode cX9_dueNow 26 = .ok (.ishl, 1) := by decide +kernel
theorem dX9_dueNow_27 : decode cX9_dueNow 27 = .ok (.goto 4, 3) := by decide +kernel
theorem dX9_dueNow_30 : decode cX9_dueNow 30 = .ok (.iconst 0, 1) := by decide +kernel
theorem dX9_dueNow_31 : decode cX9_dueNow 31 = .ok (.ior, 1) := by decide +kernel
theorem dX9_dueNow_32 : decode cX9_dueNow 32 = .ok (.istore_n 1, 1) := by decide +kernel
theorem dX9_dueNow_33 : decode cX9_dueNow 33 = .ok (.iinc 2 1, 3) := by decide +kernel
theorem dX9_dueNow_36 : decode cX9_dueNow 36 = .ok (.goto (-32), 3) := by decide +kernel
theorem dX9_dueNow_39 : decode cX9_dueNow 39 = .ok (.iload_n 1, 1) := by decide +kernel
theorem dX9_dueNow_40 : decode cX9_dueNow 40 = .ok (.ireturn, 1) := by decide +kernel
theorem dX9_waysOf_0 : decode cX9_waysOf 0 = .ok (.lconst 1, 1) := by decide +kernel
theorem dX9_waysOf_1 : decode cX9_waysOf 1 = .ok (.lstore 4, 2) := by decide +kernel
theorem dX9_waysOf_3 : decode cX9_waysOf 3 = .ok (.iconst 0, 1) := by decide +kernel
theorem dX9_waysOf_4 : decode cX9_waysOf 4 = .ok (.istore 6, 2) := by decide +kernel
theorem dX9_waysOf_6 : decode cX9_waysOf 6 = .ok (.iload 6, 2) := by decide +kernel
theorem dX9_waysOf_8 : decode cX9_waysOf 8 = .ok (.aload_n 0, 1) := by decide +kernel
theorem dX9_waysOf_9 : decode cX9_waysOf 9 = .ok (.getfield 7, 3) := by decide +kernel
theorem dX9_waysOf_12 : decode cX9_waysOf 12 = .ok (.iconst 0, 1) := by decide +kernel
theorem dX9_waysOf_13 : decode cX9_waysOf 13 = .ok (.iaload, 1) := by decide +kernel
theorem dX9_waysOf_14 : decode cX9_waysOf 14 = .ok (.if_icmp .ge 46, 3) := by decide +kernel
theorem dX9_waysOf_17 : decode cX9_waysOf 17 = .ok (.lload 4, 2) := by decide +kernel
theorem dX9_waysOf_19 : decode cX9_waysOf 19 = .ok (.iload_n 1, 1) := by decide +kernel
theorem dX9_waysOf_20 : decode cX9_waysOf 20 = .ok (.iload 6, 2) := by decide +kernel
theorem dX9_waysOf_22 : decode cX9_waysOf 22 = .ok (.invokestatic 200, 3) := by decide +kernel
theorem dX9_waysOf_25 : decode cX9_waysOf 25 = .ok (.ifCond .ne 7, 3) := by decide +kernel
theorem dX9_waysOf_28 : decode cX9_waysOf 28 = .ok (.lconst 1, 1) := by decide +kernel
theorem dX9_waysOf_29 : decode cX9_waysOf 29 = .ok (.goto 22, 3) := by decide +kernel
theorem dX9_waysOf_32 : decode cX9_waysOf 32 = .ok (.iload_n 2, 1) := by decide +kernel
theorem dX9_waysOf_33 : decode cX9_waysOf 33 = .ok (.iload 6, 2) := by decide +kernel
theorem dX9_waysOf_35 : decode cX9_waysOf 35 = .ok (.invokestatic 200, 3) := by decide +kernel
theorem dX9_waysOf_38 : decode cX9_waysOf 38 = .ok (.ifCond .eq 8, 3) := by decide +kernel
theorem dX9_waysOf_41 : decode cX9_waysOf 41 = .ok (.iload_n 3, 1) := by decide +kernel
theorem dX9_waysOf_42 : decode cX9_waysOf 42 = .ok (.i2l, 1) := by decide +kernel
theorem dX9_waysOf_43 : decode cX9_waysOf 43 = .ok (.goto 8, 3) := by decide +kernel
theorem dX9_waysOf_46 : decode cX9_waysOf 46 = .ok (.bipush 12, 2) := by decide +kernel
theorem dX9_waysOf_48 : decode cX9_waysOf 48 = .ok (.iload_n 3, 1) := by decide +kernel
theorem dX9_waysOf_49 : decode cX9_waysOf 49 = .ok (.isub, 1) := by decide +kernel
theorem dX9_waysOf_50 : decode cX9_waysOf 50 = .ok (.i2l, 1) := by decide +kernel
theorem dX9_waysOf_51 : decode cX9_waysOf 51 = .ok (.lmul, 1) := by decide +kernel
theorem dX9_waysOf_52 : decode cX9_waysOf 52 = .ok (.lstore 4, 2) := by decide +kernel
theorem dX9_waysOf_54 : decode cX9_waysOf 54 = .ok (.iinc 6 1, 3) := by decide +kernel
theorem dX9_waysOf_57 : decode cX9_waysOf 57 = .ok (.goto (-51), 3) := by decide +kernel
theorem dX9_waysOf_60 : decode cX9_waysOf 60 = .ok (.lload 4, 2) := by decide +kernel
theorem dX9_waysOf_62 : decode cX9_waysOf 62 = .ok (.lreturn, 1) := by decide +kernel
theorem dX9_allWays_0 : decode cX9_allWays 0 = .ok (.lconst 1, 1) := by decide +kernel
theorem dX9_allWays_1 : decode cX9_allWays 1 = .ok (.lstore_n 2, 1) := by decide +kernel
theorem dX9_allWays_2 : decode cX9_allWays 2 = .ok (.iload_n 1, 1) := by decide +kernel
theorem dX9_allWays_3 : decode cX9_allWays 3 = .ok (.invokestatic 203, 3) := by decide +kernel
theorem dX9_allWays_6 : decode cX9_allWays 6 = .ok (.istore 4, 2) := by decide +kernel
theorem dX9_allWays_8 : decode cX9_allWays 8 = .ok (.iload 4, 2) := by decide +kernel
theorem dX9_allWays_10 : decode cX9_allWays 10 = .ok (.ifCond .le 15, 3) := by decide +kernel
theorem dX9_allWays_13 : decode cX9_allWays 13 = .ok (.lload_n 2, 1) := by decide +kernel
theorem dX9_allWays_14 : decode cX9_allWays 14 = .ok (.ldc2_w 206, 3) := by decide +kernel
theorem dX9_allWays_17 : decode cX9_allWays 17 = .ok (.lmul, 1) := by decide +kernel
theorem dX9_allWays_18 : decode cX9_allWays 18 = .ok (.lstore_n 2, 1) := by decide +kernel
theorem dX9_allWays_19 : decode cX9_allWays 19 = .ok (.iinc 4 (-1), 3) := by decide +kernel
theorem dX9_allWays_22 : decode cX9_allWays 22 = .ok (.goto (-14), 3) := by decide +kernel
theorem dX9_allWays_25 : decode cX9_allWays 25 = .ok (.lload_n 2, 1) := by decide +kernel
theorem dX9_allWays_26 : decode cX9_allWays 26 = .ok (.lreturn, 1) := by decide +kernel
theorem dX9_odds_0 : decode cX9_odds 0 = .ok (.iload_n 1, 1) := by decide +kernel
theorem dX9_odds_1 : decode cX9_odds 1 = .ok (.i2l, 1) := by decide +kernel
theorem dX9_odds_2 : decode cX9_odds 2 = .ok (.lconst 0, 1) := by decide +kernel
theorem dX9_odds_3 : decode cX9_odds 3 = .ok (.ldc2_w 208, 3) := by decide +kernel
theorem dX9_odds_6 : decode cX9_odds 6 = .ok (.invokestatic 53, 3) := by decide +kernel
theorem dX9_odds_9 : decode cX9_odds 9 = .ok (.ifCond .eq 15, 3) := by decide +kernel
theorem dX9_odds_12 : decode cX9_odds 12 = .ok (.iload_n 2, 1) := by decide +kernel
theorem dX9_odds_13 : decode cX9_odds 13 = .ok (.i2l, 1) := by decide +kernel
theorem dX9_odds_14 : decode cX9_odds 14 = .ok (.lconst 0, 1) := by decide +kernel
theorem dX9_odds_15 : decode cX9_odds 15 = .ok (.ldc2_w 206, 3) := by decide +kernel
theorem dX9_odds_18 : decode cX9_odds 18 = .ok (.invokestatic 53, 3) := by decide +kernel
theorem dX9_odds_21 : decode cX9_odds 21 = .ok (.ifCond .ne 5, 3) := by decide +kernel
theorem dX9_odds_24 : decode cX9_odds 24 = .ok (.iconst (-1), 1) := by decide +kernel
theorem dX9_odds_25 : decode cX9_odds 25 = .ok (.ireturn, 1) := by decide +kernel
theorem dX9_odds_26 : decode cX9_odds 26 = .ok (.aload_n 0, 1) := by decide +kernel
theorem dX9_odds_27 : decode cX9_odds 27 = .ok (.invokevirtual 153, 3) := by decide +kernel
theorem dX9_odds_30 : decode cX9_odds 30 = .ok (.ifCond .ne 6, 3) := by decide +kernel
theorem dX9_odds_33 : decode cX9_odds 33 = .ok (.bipush (-4), 2) := by decide +kernel
theorem dX9_odds_35 : decode cX9_odds 35 = .ok (.ireturn, 1) := by decide +kernel
theorem dX9_odds_36 : decode cX9_odds 36 = .ok (.aload_n 0, 1) := by decide +kernel
theorem dX9_odds_37 : decode cX9_odds 37 = .ok (.invokevirtual 210, 3) := by decide +kernel
theorem dX9_odds_40 : decode cX9_odds 40 = .ok (.istore_n 3, 1) := by decide +kernel
theorem dX9_odds_41 : decode cX9_odds 41 = .ok (.lconst 0, 1) := by decide +kernel
theorem dX9_odds_42 : decode cX9_odds 42 = .ok (.lstore 4, 2) := by decide +kernel
theorem dX9_odds_44 : decode cX9_odds 44 = .ok (.iconst 0, 1) := by decide +kernel
theorem dX9_odds_45 : decode cX9_odds 45 = .ok (.istore 6, 2) := by decide +kernel
theorem dX9_odds_47 : decode cX9_odds 47 = .ok (.iload 6, 2) := by decide +kernel
theorem dX9_odds_49 : decode cX9_odds 49 = .ok (.bipush 64, 2) := by decide +kernel
theorem dX9_odds_51 : decode cX9_odds 51 = .ok (.if_icmp .ge 44, 3) := by decide +kernel
theorem dX9_odds_54 : decode cX9_odds 54 = .ok (.lload 4, 2) := by decide +kernel
theorem dX9_odds_56 : decode cX9_odds 56 = .ok (.iload 6, 2) := by decide +kernel
theorem dX9_odds_58 : decode cX9_odds 58 = .ok (.iload_n 3, 1) := by decide +kernel
theorem dX9_odds_59 : decode cX9_odds 59 = .ok (.iconst (-1), 1) := by decide +kernel
theorem dX9_odds_60 : decode cX9_odds 60 = .ok (.ixor, 1) := by decide +kernel
theorem dX9_odds_61 : decode cX9_odds 61 = .ok (.iand, 1) := by decide +kernel
theorem dX9_odds_62 : decode cX9_odds 62 = .ok (.ifCond .ne 23, 3) := by decide +kernel
theorem dX9_odds_65 : decode cX9_odds 65 = .ok (.iload 6, 2) := by decide +kernel
theorem dX9_odds_67 : decode cX9_odds 67 = .ok (.invokestatic 203, 3) := by decide +kernel
theorem dX9_odds_70 : decode cX9_odds 70 = .ok (.iload_n 1, 1) := by decide +kernel
theorem dX9_odds_71 : decode cX9_odds 71 = .ok (.if_icmp .lt 14, 3) := by decide +kernel
theorem dX9_odds_74 : decode cX9_odds 74 = .ok (.aload_n 0, 1) := by decide +kernel
theorem dX9_odds_75 : decode cX9_odds 75 = .ok (.iload_n 3, 1) := by decide +kernel
theorem dX9_odds_76 : decode cX9_odds 76 = .ok (.iload 6, 2) := by decide +kernel
theorem dX9_odds_78 : decode cX9_odds 78 = .ok (.iload_n 2, 1) := by decide +kernel
theorem dX9_odds_79 : decode cX9_odds 79 = .ok (.invokevirtual 214, 3) := by decide +kernel
theorem dX9_odds_82 : decode cX9_odds 82 = .ok (.goto 4, 3) := by decide +kernel
theorem dX9_odds_85 : decode cX9_odds 85 = .ok (.lconst 0, 1) := by decide +kernel
theorem dX9_odds_86 : decode cX9_odds 86 = .ok (.ladd, 1) := by decide +kernel
theorem dX9_odds_87 : decode cX9_odds 87 = .ok (.lstore 4, 2) := by decide +kernel
theorem dX9_odds_89 : decode cX9_odds 89 = .ok (.iinc 6 1, 3) := by decide +kernel
theorem dX9_odds_92 : decode cX9_odds 92 = .ok (.goto (-45), 3) := by decide +kernel
theorem dX9_odds_95 : decode cX9_odds 95 = .ok (.aload_n 0, 1) := by decide +kernel
theorem dX9_odds_96 : decode cX9_odds 96 = .ok (.lload 4, 2) := by decide +kernel
theorem dX9_odds_98 : decode cX9_odds 98 = .ok (.aload_n 0, 1) := by decide +kernel
theorem dX9_odds_99 : decode cX9_odds 99 = .ok (.iload_n 3, 1) := by decide +kernel
theorem dX9_odds_100 : decode cX9_odds 100 = .ok (.invokevirtual 218, 3) := by decide +kernel
theorem dX9_odds_103 : decode cX9_odds 103 = .ok (.invokevirtual 222, 3) := by decide +kernel
theorem dX9_odds_106 : decode cX9_odds 106 = .ok (.ireturn, 1) := by decide +kernel
theorem dX9_mid_0 : decode cX9_mid 0 = .ok (.iload_n 1, 1) := by decide +kernel
theorem dX9_mid_1 : decode cX9_mid 1 = .ok (.i2l, 1) := by decide +kernel
theorem dX9_mid_2 : decode cX9_mid 2 = .ok (.lconst 0, 1) := by decide +kernel
theorem dX9_mid_3 : decode cX9_mid 3 = .ok (.ldc2_w 206, 3) := by decide +kernel
theorem dX9_mid_6 : decode cX9_mid 6 = .ok (.invokestatic 53, 3) := by decide +kernel
theorem dX9_mid_9 : decode cX9_mid 9 = .ok (.ifCond .ne 5, 3) := by decide +kernel
theorem dX9_mid_12 : decode cX9_mid 12 = .ok (.iconst (-1), 1) := by decide +kernel
theorem dX9_mid_13 : decode cX9_mid 13 = .ok (.ireturn, 1) := by decide +kernel
theorem dX9_mid_14 : decode cX9_mid 14 = .ok (.aload_n 0, 1) := by decide +kernel
theorem dX9_mid_15 : decode cX9_mid 15 = .ok (.invokevirtual 153, 3) := by decide +kernel
theorem dX9_mid_18 : decode cX9_mid 18 = .ok (.ifCond .ne 6, 3) := by decide +kernel
theorem dX9_mid_21 : decode cX9_mid 21 = .ok (.bipush (-4), 2) := by decide +kernel
theorem dX9_mid_23 : decode cX9_mid 23 = .ok (.ireturn, 1) := by decide +kernel
theorem dX9_mid_24 : decode cX9_mid 24 = .ok (.aload_n 0, 1) := by decide +kernel
theorem dX9_mid_25 : decode cX9_mid 25 = .ok (.invokevirtual 210, 3) := by decide +kernel
theorem dX9_mid_28 : decode cX9_mid 28 = .ok (.istore_n 2, 1) := by decide +kernel
theorem dX9_mid_29 : decode cX9_mid 29 = .ok (.lconst 0, 1) := by decide +kernel
theorem dX9_mid_30 : decode cX9_mid 30 = .ok (.lstore_n 3, 1) := by decide +kernel
theorem dX9_mid_31 : decode cX9_mid 31 = .ok (.iconst 0, 1) := by decide +kernel
theorem dX9_mid_32 : decode cX9_mid 32 = .ok (.istore 5, 2) := by decide +kernel
theorem dX9_mid_34 : decode cX9_mid 34 = .ok (.iload 5, 2) := by decide +kernel
theorem dX9_mid_36 : decode cX9_mid 36 = .ok (.bipush 64, 2) := by decide +kernel
theorem dX9_mid_38 : decode cX9_mid 38 = .ok (.if_icmp .ge 104, 3) := by decide +kernel
theorem dX9_mid_41 : decode cX9_mid 41 = .ok (.iconst 0, 1) := by decide +kernel
theorem dX9_mid_42 : decode cX9_mid 42 = .ok (.istore 6, 2) := by decide +kernel
theorem dX9_mid_44 : decode cX9_mid 44 = .ok (.iconst 0, 1) := by decide +kernel
theorem dX9_mid_45 : decode cX9_mid 45 = .ok (.istore 7, 2) := by decide +kernel
theorem dX9_mid_47 : decode cX9_mid 47 = .ok (.iload 7, 2) := by decide +kernel
theorem dX9_mid_49 : decode cX9_mid 49 = .ok (.aload_n 0, 1) := by decide +kernel
theorem dX9_mid_50 : decode cX9_mid 50 = .ok (.getfield 7, 3) := by decide +kernel
theorem dX9_mid_53 : decode cX9_mid 53 = .ok (.iconst 0, 1) := by decide +kernel
theorem dX9_mid_54 : decode cX9_mid 54 = .ok (.iaload, 1) := by decide +kernel
theorem dX9_mid_55 : decode cX9_mid 55 = .ok (.if_icmp .ge 53, 3) := by decide +kernel
theorem dX9_mid_58 : decode cX9_mid 58 = .ok (.iload 5, 2) := by decide +kernel
theorem dX9_mid_60 : decode cX9_mid 60 = .ok (.iload_n 2, 1) := by decide +kernel
theorem dX9_mid_61 : decode cX9_mid 61 = .ok (.iand, 1) := by decide +kernel
theorem dX9_mid_62 : decode cX9_mid 62 = .ok (.iload 7, 2) := by decide +kernel
theorem dX9_mid_64 : decode cX9_mid 64 = .ok (.invokestatic 200, 3) := by decide +kernel
theorem dX9_mid_67 : decode cX9_mid 67 = .ok (.ifCond .eq 31, 3) := by decide +kernel
theorem dX9_mid_70 : decode cX9_mid 70 = .ok (.aload_n 0, 1) := by decide +kernel
theorem dX9_mid_71 : decode cX9_mid 71 = .ok (.getfield 7, 3) := by decide +kernel
theorem dX9_mid_74 : decode cX9_mid 74 = .ok (.bipush 27, 2) := by decide +kernel
theorem dX9_mid_76 : decode cX9_mid 76 = .ok (.iload 7, 2) := by decide +kernel
theorem dX9_mid_78 : decode cX9_mid 78 = .ok (.iadd, 1) := by decide +kernel
theorem dX9_mid_79 : decode cX9_mid 79 = .ok (.iaload, 1) := by decide +kernel
theorem dX9_mid_80 : decode cX9_mid 80 = .ok (.iload 6, 2) := by decide +kernel
theorem dX9_mid_82 : decode cX9_mid 82 = .ok (.if_icmp .le 16, 3) := by decide +kernel
theorem dX9_mid_85 : decode cX9_mid 85 = .ok (.aload_n 0, 1) := by decide +kernel
theorem dX9_mid_86 : decode cX9_mid 86 = .ok (.getfield 7, 3) := by decide +kernel
theorem dX9_mid_89 : decode cX9_mid 89 = .ok (.bipush 27, 2) := by decide +kernel
theorem dX9_mid_91 : decode cX9_mid 91 = .ok (.iload 7, 2) := by decide +kernel
theorem dX9_mid_93 : decode cX9_mid 93 = .ok (.iadd, 1) := by decide +kernel
theorem dX9_mid_94 : decode cX9_mid 94 = .ok (.iaload, 1) := by decide +kernel
theorem dX9_mid_95 : decode cX9_mid 95 = .ok (.goto 5, 3) := by decide +kernel
theorem dX9_mid_98 : decode cX9_mid 98 = .ok (.iload 6, 2) := by decide +kernel
theorem dX9_mid_100 : decode cX9_mid 100 = .ok (.istore 6, 2) := by decide +kernel
theorem dX9_mid_102 : decode cX9_mid 102 = .ok (.iinc 7 1, 3) := by decide +kernel
theorem dX9_mid_105 : decode cX9_mid 105 = .ok (.goto (-58), 3) := by decide +kernel
theorem dX9_mid_108 : decode cX9_mid 108 = .ok (.lload_n 3, 1) := by decide +kernel
theorem dX9_mid_109 : decode cX9_mid 109 = .ok (.iload 5, 2) := by decide +kernel
theorem dX9_mid_111 : decode cX9_mid 111 = .ok (.iload_n 2, 1) := by decide +kernel
theorem dX9_mid_112 : decode cX9_mid 112 = .ok (.iconst (-1), 1) := by decide +kernel
theorem dX9_mid_113 : decode cX9_mid 113 = .ok (.ixor, 1) := by decide +kernel
theorem dX9_mid_114 : decode cX9_mid 114 = .ok (.iand, 1) := by decide +kernel
theorem dX9_mid_115 : decode cX9_mid 115 = .ok (.ifCond .ne 18, 3) := by decide +kernel
theorem dX9_mid_118 : decode cX9_mid 118 = .ok (.iload 6, 2) := by decide +kernel
theorem dX9_mid_120 : decode cX9_mid 120 = .ok (.i2l, 1) := by decide +kernel
theorem dX9_mid_121 : decode cX9_mid 121 = .ok (.aload_n 0, 1) := by decide +kernel
theorem dX9_mid_122 : decode cX9_mid 122 = .ok (.iload_n 2, 1) := by decide +kernel
theorem dX9_mid_123 : decode cX9_mid 123 = .ok (.iload 5, 2) := by decide +kernel
theorem dX9_mid_125 : decode cX9_mid 125 = .ok (.iload_n 1, 1) := by decide +kernel
theorem dX9_mid_126 : decode cX9_mid 126 = .ok (.invokevirtual 214, 3) := by decide +kernel
theorem dX9_mid_129 : decode cX9_mid 129 = .ok (.lmul, 1) := by decide +kernel
theorem dX9_mid_130 : decode cX9_mid 130 = .ok (.goto 4, 3) := by decide +kernel
theorem dX9_mid_133 : decode cX9_mid 133 = .ok (.lconst 0, 1) := by decide +kernel
theorem dX9_mid_134 : decode cX9_mid 134 = .ok (.ladd, 1) := by decide +kernel
theorem dX9_mid_135 : decode cX9_mid 135 = .ok (.lstore_n 3, 1) := by decide +kernel
theorem dX9_mid_136 : decode cX9_mid 136 = .ok (.iinc 5 1, 3) := by decide +kernel
theorem dX9_mid_139 : decode cX9_mid 139 = .ok (.goto (-105), 3) := by decide +kernel
theorem dX9_mid_142 : decode cX9_mid 142 = .ok (.aload_n 0, 1) := by decide +kernel
theorem dX9_mid_143 : decode cX9_mid 143 = .ok (.lload_n 3, 1) := by decide +kernel
theorem dX9_mid_144 : decode cX9_mid 144 = .ok (.aload_n 0, 1) := by decide +kernel
theorem dX9_mid_145 : decode cX9_mid 145 = .ok (.iload_n 2, 1) := by decide +kernel
theorem dX9_mid_146 : decode cX9_mid 146 = .ok (.invokevirtual 218, 3) := by decide +kernel
theorem dX9_mid_149 : decode cX9_mid 149 = .ok (.invokevirtual 222, 3) := by decide +kernel
theorem dX9_mid_152 : decode cX9_mid 152 = .ok (.ireturn, 1) := by decide +kernel
theorem dX9_lots_0 : decode cX9_lots 0 = .ok (.iload_n 1, 1) := by decide +kernel
theorem dX9_lots_1 : decode cX9_lots 1 = .ok (.i2l, 1) := by decide +kernel
theorem dX9_lots_2 : decode cX9_lots 2 = .ok (.lconst 1, 1) := by decide +kernel
theorem dX9_lots_3 : decode cX9_lots 3 = .ok (.ldc2_w 226, 3) := by decide +kernel
theorem dX9_lots_6 : decode cX9_lots 6 = .ok (.invokestatic 53, 3) := by decide +kernel
theorem dX9_lots_9 : decode cX9_lots 9 = .ok (.ifCond .eq 15, 3) := by decide +kernel
theorem dX9_lots_12 : decode cX9_lots 12 = .ok (.iload_n 2, 1) := by decide +kernel
theorem dX9_lots_13 : decode cX9_lots 13 = .ok (.i2l, 1) := by decide +kernel
theorem dX9_lots_14 : decode cX9_lots 14 = .ok (.lconst 1, 1) := by decide +kernel
theorem dX9_lots_15 : decode cX9_lots 15 = .ok (.ldc2_w 228, 3) := by decide +kernel
theorem dX9_lots_18 : decode cX9_lots 18 = .ok (.invokestatic 53, 3) := by decide +kernel
theorem dX9_lots_21 : decode cX9_lots 21 = .ok (.ifCond .ne 5, 3) := by decide +kernel
theorem dX9_lots_24 : decode cX9_lots 24 = .ok (.iconst (-1), 1) := by decide +kernel
theorem dX9_lots_25 : decode cX9_lots 25 = .ok (.ireturn, 1) := by decide +kernel
theorem dX9_lots_26 : decode cX9_lots 26 = .ok (.aload_n 0, 1) := by decide +kernel
theorem dX9_lots_27 : decode cX9_lots 27 = .ok (.invokevirtual 153, 3) := by decide +kernel
theorem dX9_lots_30 : decode cX9_lots 30 = .ok (.ifCond .ne 6, 3) := by decide +kernel
theorem dX9_lots_33 : decode cX9_lots 33 = .ok (.bipush (-4), 2) := by decide +kernel
theorem dX9_lots_35 : decode cX9_lots 35 = .ok (.ireturn, 1) := by decide +kernel
theorem dX9_lots_36 : decode cX9_lots 36 = .ok (.aload_n 0, 1) := by decide +kernel
theorem dX9_lots_37 : decode cX9_lots 37 = .ok (.getfield 117, 3) := by decide +kernel
theorem dX9_lots_40 : decode cX9_lots 40 = .ok (.iload_n 1, 1) := by decide +kernel
theorem dX9_lots_41 : decode cX9_lots 41 = .ok (.iadd, 1) := by decide +kernel
theorem dX9_lots_42 : decode cX9_lots 42 = .ok (.bipush 40, 2) := by decide +kernel
theorem dX9_lots_44 : decode cX9_lots 44 = .ok (.if_icmp .le 6, 3) := by decide +kernel
theorem dX9_lots_47 : decode cX9_lots 47 = .ok (.bipush (-2), 2) := by decide +kernel
theorem dX9_lots_49 : decode cX9_lots 49 = .ok (.ireturn, 1) := by decide +kernel
theorem dX9_lots_50 : decode cX9_lots 50 = .ok (.iload_n 2, 1) := by decide +kernel
theorem dX9_lots_51 : decode cX9_lots 51 = .ok (.i2l, 1) := by decide +kernel
theorem dX9_lots_52 : decode cX9_lots 52 = .ok (.lstore_n 3, 1) := by decide +kernel
theorem dX9_lots_53 : decode cX9_lots 53 = .ok (.iconst 0, 1) := by decide +kernel
theorem dX9_lots_54 : decode cX9_lots 54 = .ok (.istore 5, 2) := by decide +kernel
theorem dX9_lots_56 : decode cX9_lots 56 = .ok (.iconst 0, 1) := by decide +kernel
theorem dX9_lots_57 : decode cX9_lots 57 = .ok (.istore 6, 2) := by decide +kernel
theorem dX9_lots_59 : decode cX9_lots 59 = .ok (.iload 6, 2) := by decide +kernel
theorem dX9_lots_61 : decode cX9_lots 61 = .ok (.iload_n 1, 1) := by decide +kernel
theorem dX9_lots_62 : decode cX9_lots 62 = .ok (.if_icmp .ge 114, 3) := by decide +kernel
theorem dX9_lots_65 : decode cX9_lots 65 = .ok (.lload_n 3, 1) := by decide +kernel
theorem dX9_lots_66 : decode cX9_lots 66 = .ok (.ldc2_w 230, 3) := by decide +kernel
theorem dX9_lots_69 : decode cX9_lots 69 = .ok (.lmul, 1) := by decide +kernel
theorem dX9_lots_70 : decode cX9_lots 70 = .ok (.ldc2_w 232, 3) := by decide +kernel
theorem dX9_lots_73 : decode cX9_lots 73 = .ok (.lrem, 1) := by decide +kernel
theorem dX9_lots_74 : decode cX9_lots 74 = .ok (.lstore_n 3, 1) := by decide +kernel
theorem dX9_lots_75 : decode cX9_lots 75 = .ok (.lload_n 3, 1) := by decide +kernel
theorem dX9_lots_76 : decode cX9_lots 76 = .ok (.ldc2_w 179, 3) := by decide +kernel
theorem dX9_lots_79 : decode cX9_lots 79 = .ok (.lrem, 1) := by decide +kernel
theorem dX9_lots_80 : decode cX9_lots 80 = .ok (.l2i, 1) := by decide +kernel
theorem dX9_lots_81 : decode cX9_lots 81 = .ok (.istore 7, 2) := by decide +kernel
theorem dX9_lots_83 : decode cX9_lots 83 = .ok (.lload_n 3, 1) := by decide +kernel
theorem dX9_lots_84 : decode cX9_lots 84 = .ok (.ldc2_w 234, 3) := by decide +kernel
theorem dX9_lots_87 : decode cX9_lots 87 = .ok (.ldiv, 1) := by decide +kernel
theorem dX9_lots_88 : decode cX9_lots 88 = .ok (.aload_n 0, 1) := by decide +kernel
theorem dX9_lots_89 : decode cX9_lots 89 = .ok (.getfield 7, 3) := by decide +kernel
theorem dX9_lots_92 : decode cX9_lots 92 = .ok (.iconst 0, 1) := by decide +kernel
theorem dX9_lots_93 : decode cX9_lots 93 = .ok (.iaload, 1) := by decide +kernel
theorem dX9_lots_94 : decode cX9_lots 94 = .ok (.i2l, 1) := by decide +kernel
theorem dX9_lots_95 : decode cX9_lots 95 = .ok (.lrem, 1) := by decide +kernel
theorem dX9_lots_96 : decode cX9_lots 96 = .ok (.l2i, 1) := by decide +kernel
theorem dX9_lots_97 : decode cX9_lots 97 = .ok (.istore 8, 2) := by decide +kernel
theorem dX9_lots_99 : decode cX9_lots 99 = .ok (.aload_n 0, 1) := by decide +kernel
theorem dX9_lots_100 : decode cX9_lots 100 = .ok (.invokevirtual 157, 3) := by decide +kernel
theorem dX9_lots_103 : decode cX9_lots 103 = .ok (.iload 7, 2) := by decide +kernel
theorem dX9_lots_105 : decode cX9_lots 105 = .ok (.iconst 2, 1) := by decide +kernel
theorem dX9_lots_106 : decode cX9_lots 106 = .ok (.if_icmp .ge 12, 3) := by decide +kernel
theorem dX9_lots_109 : decode cX9_lots 109 = .ok (.aload_n 0, 1) := by decide +kernel
theorem dX9_lots_110 : decode cX9_lots 110 = .ok (.iconst 0, 1) := by decide +kernel
theorem dX9_lots_111 : decode cX9_lots 111 = .ok (.invokevirtual 160, 3) := by decide +kernel
theorem dX9_lots_114 : decode cX9_lots 114 = .ok (.pop, 1) := by decide +kernel
theorem dX9_lots_115 : decode cX9_lots 115 = .ok (.goto 55, 3) := by decide +kernel
theorem dX9_lots_118 : decode cX9_lots 118 = .ok (.iload 7, 2) := by decide +kernel
theorem dX9_lots_120 : decode cX9_lots 120 = .ok (.iconst 2, 1) := by decide +kernel
theorem dX9_lots_121 : decode cX9_lots 121 = .ok (.if_icmp .ne 18, 3) := by decide +kernel
theorem dX9_lots_124 : decode cX9_lots 124 = .ok (.iload 5, 2) := by decide +kernel
theorem dX9_lots_126 : decode cX9_lots 126 = .ok (.aload_n 0, 1) := by decide +kernel
theorem dX9_lots_127 : decode cX9_lots 127 = .ok (.iconst 0, 1) := by decide +kernel
theorem dX9_lots_128 : decode cX9_lots 128 = .ok (.iload 8, 2) := by decide +kernel
theorem dX9_lots_130 : decode cX9_lots 130 = .ok (.invokevirtual 163, 3) := by decide +kernel
theorem dX9_lots_133 : decode cX9_lots 133 = .ok (.iadd, 1) := by decide +kernel
theorem dX9_lots_134 : decode cX9_lots 134 = .ok (.istore 5, 2) := by decide +kernel
theorem dX9_lots_136 : decode cX9_lots 136 = .ok (.goto 34, 3) := by decide +kernel
theorem dX9_lots_139 : decode cX9_lots 139 = .ok (.aload_n 0, 1) := by decide +kernel
theorem dX9_lots_140 : decode cX9_lots 140 = .ok (.getfield 7, 3) := by decide +kernel
theorem dX9_lots_143 : decode cX9_lots 143 = .ok (.bipush 21, 2) := by decide +kernel
theorem dX9_lots_145 : decode cX9_lots 145 = .ok (.iload 8, 2) := by decide +kernel
theorem dX9_lots_147 : decode cX9_lots 147 = .ok (.iadd, 1) := by decide +kernel
theorem dX9_lots_148 : decode cX9_lots 148 = .ok (.dup2, 1) := by decide +kernel
theorem dX9_lots_149 : decode cX9_lots 149 = .ok (.iaload, 1) := by decide +kernel
theorem dX9_lots_150 : decode cX9_lots 150 = .ok (.aload_n 0, 1) := by decide +kernel
theorem dX9_lots_151 : decode cX9_lots 151 = .ok (.getfield 7, 3) := by decide +kernel
theorem dX9_lots_154 : decode cX9_lots 154 = .ok (.bipush 21, 2) := by decide +kernel
theorem dX9_lots_156 : decode cX9_lots 156 = .ok (.iload 8, 2) := by decide +kernel
theorem dX9_lots_158 : decode cX9_lots 158 = .ok (.iadd, 1) := by decide +kernel
theorem dX9_lots_159 : decode cX9_lots 159 = .ok (.iaload, 1) := by decide +kernel
theorem dX9_lots_160 : decode cX9_lots 160 = .ok (.ifCond .le 7, 3) := by decide +kernel
theorem dX9_lots_163 : decode cX9_lots 163 = .ok (.iconst 1, 1) := by decide +kernel
theorem dX9_lots_164 : decode cX9_lots 164 = .ok (.goto 4, 3) := by decide +kernel
theorem dX9_lots_167 : decode cX9_lots 167 = .ok (.iconst 0, 1) := by decide +kernel
theorem dX9_lots_168 : decode cX9_lots 168 = .ok (.isub, 1) := by decide +kernel
theorem dX9_lots_169 : decode cX9_lots 169 = .ok (.iastore, 1) := by decide +kernel
theorem dX9_lots_170 : decode cX9_lots 170 = .ok (.iinc 6 1, 3) := by decide +kernel
theorem dX9_lots_173 : decode cX9_lots 173 = .ok (.goto (-114), 3) := by decide +kernel
theorem dX9_lots_176 : decode cX9_lots 176 = .ok (.iload 5, 2) := by decide +kernel
theorem dX9_lots_178 : decode cX9_lots 178 = .ok (.ireturn, 1) := by decide +kernel
theorem dX9_asked_0 : decode cX9_asked 0 = .ok (.aload_n 0, 1) := by decide +kernel
theorem dX9_asked_1 : decode cX9_asked 1 = .ok (.getfield 48, 3) := by decide +kernel
theorem dX9_asked_4 : decode cX9_asked 4 = .ok (.ireturn, 1) := by decide +kernel
theorem dX9_upper_0 : decode cX9_upper 0 = .ok (.aload_n 0, 1) := by decide +kernel
theorem dX9_upper_1 : decode cX9_upper 1 = .ok (.getfield 197, 3) := by decide +kernel
theorem dX9_upper_4 : decode cX9_upper 4 = .ok (.lreturn, 1) := by decide +kernel
theorem dX9_lower_0 : decode cX9_lower 0 = .ok (.aload_n 0, 1) := by decide +kernel
theorem dX9_lower_1 : decode cX9_lower 1 = .ok (.getfield 34, 3) := by decide +kernel
theorem dX9_lower_4 : decode cX9_lower 4 = .ok (.lreturn, 1) := by decide +kernel
theorem dX9_countOf_0 : decode cX9_countOf 0 = .ok (.iconst 0, 1) := by decide +kernel
theorem dX9_countOf_1 : decode cX9_countOf 1 = .ok (.istore_n 2, 1) := by decide +kernel
theorem dX9_countOf_2 : decode cX9_countOf 2 = .ok (.iload_n 1, 1) := by decide +kernel
theorem dX9_countOf_3 : decode cX9_countOf 3 = .ok (.tableswitch 261 0 9 #[53, 60, 67, 72, 79, 111, 116, 144, 196, 229], 53) := by decide +kernel
theorem dX9_countOf_56 : decode cX9_countOf 56 = .ok (.aload_n 0, 1) := by decide +kernel
theorem dX9_countOf_57 : decode cX9_countOf 57 = .ok (.getfield 7, 3) := by decide +kernel
theorem dX9_countOf_60 : decode cX9_countOf 60 = .ok (.iconst 0, 1) := by decide +kernel
theorem dX9_countOf_61 : decode cX9_countOf 61 = .ok (.iaload, 1) := by decide +kernel
theorem dX9_countOf_62 : decode cX9_countOf 62 = .ok (.ireturn, 1) := by decide +kernel
theorem dX9_countOf_63 : decode cX9_countOf 63 = .ok (.aload_n 0, 1) := by decide +kernel
theorem dX9_countOf_64 : decode cX9_countOf 64 = .ok (.getfield 7, 3) := by decide +kernel
theorem dX9_countOf_67 : decode cX9_countOf 67 = .ok (.iconst 1, 1) := by decide +kernel
theorem dX9_countOf_68 : decode cX9_countOf 68 = .ok (.iaload, 1) := by decide +kernel
theorem dX9_countOf_69 : decode cX9_countOf 69 = .ok (.ireturn, 1) := by decide +kernel
theorem dX9_countOf_70 : decode cX9_countOf 70 = .ok (.aload_n 0, 1) := by decide +kernel
theorem dX9_countOf_71 : decode cX9_countOf 71 = .ok (.getfield 117, 3) := by decide +kernel
theorem dX9_countOf_74 : decode cX9_countOf 74 = .ok (.ireturn, 1) := by decide +kernel
theorem dX9_countOf_75 : decode cX9_countOf 75 = .ok (.aload_n 0, 1) := by decide +kernel
theorem dX9_countOf_76 : decode cX9_countOf 76 = .ok (.getfield 7, 3) := by decide +kernel
theorem dX9_countOf_79 : decode cX9_countOf 79 = .ok (.iconst 2, 1) := by decide +kernel
theorem dX9_countOf_80 : decode cX9_countOf 80 = .ok (.iaload, 1) := by decide +kernel
theorem dX9_countOf_81 : decode cX9_countOf 81 = .ok (.ireturn, 1) := by decide +kernel
theorem dX9_countOf_82 : decode cX9_countOf 82 = .ok (.iconst 0, 1) := by decide +kernel
theorem dX9_countOf_83 : decode cX9_countOf 83 = .ok (.istore_n 3, 1) := by decide +kernel
theorem dX9_countOf_84 : decode cX9_countOf 84 = .ok (.iload_n 3, 1) := by decide +kernel
theorem dX9_countOf_85 : decode cX9_countOf 85 = .ok (.aload_n 0, 1) := by decide +kernel
theorem dX9_countOf_86 : decode cX9_countOf 86 = .ok (.getfield 7, 3) := by decide +kernel
theorem dX9_countOf_89 : decode cX9_countOf 89 = .ok (.iconst 0, 1) := by decide +kernel
theorem dX9_countOf_90 : decode cX9_countOf 90 = .ok (.iaload, 1) := by decide +kernel
theorem dX9_countOf_91 : decode cX9_countOf 91 = .ok (.if_icmp .ge 21, 3) := by decide +kernel
theorem dX9_countOf_94 : decode cX9_countOf 94 = .ok (.iload_n 2, 1) := by decide +kernel
theorem dX9_countOf_95 : decode cX9_countOf 95 = .ok (.aload_n 0, 1) := by decide +kernel
theorem dX9_countOf_96 : decode cX9_countOf 96 = .ok (.getfield 7, 3) := by decide +kernel
theorem dX9_countOf_99 : decode cX9_countOf 99 = .ok (.bipush 27, 2) := by decide +kernel
theorem dX9_countOf_101 : decode cX9_countOf 101 = .ok (.iload_n 3, 1) := by decide +kernel
theorem dX9_countOf_102 : decode cX9_countOf 102 = .ok (.iadd, 1) := by decide +kernel
theorem dX9_countOf_103 : decode cX9_countOf 103 = .ok (.iaload, 1) := by decide +kernel
theorem dX9_countOf_104 : decode cX9_countOf 104 = .ok (.iadd, 1) := by decide +kernel
theorem dX9_countOf_105 : decode cX9_countOf 105 = .ok (.istore_n 2, 1) := by decide +kernel
theorem dX9_countOf_106 : decode cX9_countOf 106 = .ok (.iinc 3 1, 3) := by decide +kernel
theorem dX9_countOf_109 : decode cX9_countOf 109 = .ok (.goto (-25), 3) := by decide +kernel
theorem dX9_countOf_112 : decode cX9_countOf 112 = .ok (.iload_n 2, 1) := by decide +kernel
theorem dX9_countOf_113 : decode cX9_countOf 113 = .ok (.ireturn, 1) := by decide +kernel
theorem dX9_countOf_114 : decode cX9_countOf 114 = .ok (.aload_n 0, 1) := by decide +kernel
theorem dX9_countOf_115 : decode cX9_countOf 115 = .ok (.invokevirtual 210, 3) := by decide +kernel
theorem dX9_countOf_118 : decode cX9_countOf 118 = .ok (.ireturn, 1) := by decide +kernel
theorem dX9_countOf_119 : decode cX9_countOf 119 = .ok (.aload_n 0, 1) := by decide +kernel
theorem dX9_countOf_120 : decode cX9_countOf 120 = .ok (.invokevirtual 153, 3) := by decide +kernel
theorem dX9_countOf_123 : decode cX9_countOf 123 = .ok (.ifCond .eq 22, 3) := by decide +kernel
theorem dX9_countOf_126 : decode cX9_countOf 126 = .ok (.aload_n 0, 1) := by decide +kernel
theorem dX9_countOf_127 : decode cX9_countOf 127 = .ok (.getfield 7, 3) := by decide +kernel
theorem dX9_countOf_130 : decode cX9_countOf 130 = .ok (.bipush 39, 2) := by decide +kernel
theorem dX9_countOf_132 : decode cX9_countOf 132 = .ok (.aload_n 0, 1) := by decide +kernel
theorem dX9_countOf_133 : decode cX9_countOf 133 = .ok (.getfield 7, 3) := by decide +kernel
theorem dX9_countOf_136 : decode cX9_countOf 136 = .ok (.iconst 1, 1) := by decide +kernel
theorem dX9_countOf_137 : decode cX9_countOf 137 = .ok (.iaload, 1) := by decide +kernel
theorem dX9_countOf_138 : decode cX9_countOf 138 = .ok (.iconst 4, 1) := by decide +kernel
theorem dX9_countOf_139 : decode cX9_countOf 139 = .ok (.irem, 1) := by decide +kernel
theorem dX9_countOf_140 : decode cX9_countOf 140 = .ok (.iadd, 1) := by decide +kernel
theorem dX9_countOf_141 : decode cX9_countOf 141 = .ok (.iaload, 1) := by decide +kernel
theorem dX9_countOf_142 : decode cX9_countOf 142 = .ok (.goto 4, 3) := by decide +kernel
theorem dX9_countOf_145 : decode cX9_countOf 145 = .ok (.iconst 0, 1) := by decide +kernel
theorem dX9_countOf_146 : decode cX9_countOf 146 = .ok (.ireturn, 1) := by decide +kernel
theorem dX9_countOf_147 : decode cX9_countOf 147 = .ok (.iconst 0, 1) := by decide +kernel
theorem dX9_countOf_148 : decode cX9_countOf 148 = .ok (.istore_n 3, 1) := by decide +kernel
theorem dX9_countOf_149 : decode cX9_countOf 149 = .ok (.iload_n 3, 1) := by decide +kernel
theorem dX9_countOf_150 : decode cX9_countOf 150 = .ok (.aload_n 0, 1) := by decide +kernel
theorem dX9_countOf_151 : decode cX9_countOf 151 = .ok (.getfield 7, 3) := by decide +kernel
theorem dX9_countOf_154 : decode cX9_countOf 154 = .ok (.iconst 0, 1) := by decide +kernel
theorem dX9_countOf_155 : decode cX9_countOf 155 = .ok (.iaload, 1) := by decide +kernel
theorem dX9_countOf_156 : decode cX9_countOf 156 = .ok (.if_icmp .ge 41, 3) := by decide +kernel
theorem dX9_countOf_159 : decode cX9_countOf 159 = .ok (.iload_n 2, 1) := by decide +kernel
theorem dX9_countOf_160 : decode cX9_countOf 160 = .ok (.aload_n 0, 1) := by decide +kernel
theorem dX9_countOf_161 : decode cX9_countOf 161 = .ok (.getfield 7, 3) := by decide +kernel
theorem dX9_countOf_164 : decode cX9_countOf 164 = .ok (.iconst 3, 1) := by decide +kernel
theorem dX9_countOf_165 : decode cX9_countOf 165 = .ok (.iload_n 3, 1) := by decide +kernel
theorem dX9_countOf_166 : decode cX9_countOf 166 = .ok (.iadd, 1) := by decide +kernel
theorem dX9_countOf_167 : decode cX9_countOf 167 = .ok (.iaload, 1) := by decide +kernel
theorem dX9_countOf_168 : decode cX9_countOf 168 = .ok (.iconst 2, 1) := by decide +kernel
theorem dX9_countOf_169 : decode cX9_countOf 169 = .ok (.if_icmp .eq 15, 3) := by decide +kernel
theorem dX9_countOf_172 : decode cX9_countOf 172 = .ok (.aload_n 0, 1) := by decide +kernel
theorem dX9_countOf_173 : decode cX9_countOf 173 = .ok (.getfield 7, 3) := by decide +kernel
theorem dX9_countOf_176 : decode cX9_countOf 176 = .ok (.iconst 3, 1) := by decide +kernel
theorem dX9_countOf_177 : decode cX9_countOf 177 = .ok (.iload_n 3, 1) := by decide +kernel
theorem dX9_countOf_178 : decode cX9_countOf 178 = .ok (.iadd, 1) := by decide +kernel
theorem dX9_countOf_179 : decode cX9_countOf 179 = .ok (.iaload, 1) := by decide +kernel
theorem dX9_countOf_180 : decode cX9_countOf 180 = .ok (.iconst 4, 1) := by decide +kernel
theorem dX9_countOf_181 : decode cX9_countOf 181 = .ok (.if_icmp .ne 7, 3) := by decide +kernel
theorem dX9_countOf_184 : decode cX9_countOf 184 = .ok (.iconst 1, 1) := by decide +kernel
theorem dX9_countOf_185 : decode cX9_countOf 185 = .ok (.goto 4, 3) := by decide +kernel
theorem dX9_countOf_188 : decode cX9_countOf 188 = .ok (.iconst 0, 1) := by decide +kernel
theorem dX9_countOf_189 : decode cX9_countOf 189 = .ok (.iadd, 1) := by decide +kernel
theorem dX9_countOf_190 : decode cX9_countOf 190 = .ok (.istore_n 2, 1) := by decide +kernel
theorem dX9_countOf_191 : decode cX9_countOf 191 = .ok (.iinc 3 1, 3) := by decide +kernel
theorem dX9_countOf_194 : decode cX9_countOf 194 = .ok (.goto (-45), 3) := by decide +kernel
theorem dX9_countOf_197 : decode cX9_countOf 197 = .ok (.iload_n 2, 1) := by decide +kernel
theorem dX9_countOf_198 : decode cX9_countOf 198 = .ok (.ireturn, 1) := by decide +kernel
theorem dX9_countOf_199 : decode cX9_countOf 199 = .ok (.iconst 0, 1) := by decide +kernel
theorem dX9_countOf_200 : decode cX9_countOf 200 = .ok (.istore_n 3, 1) := by decide +kernel
theorem dX9_countOf_201 : decode cX9_countOf 201 = .ok (.iload_n 3, 1) := by decide +kernel
theorem dX9_countOf_202 : decode cX9_countOf 202 = .ok (.bipush 6, 2) := by decide +kernel
theorem dX9_countOf_204 : decode cX9_countOf 204 = .ok (.if_icmp .ge 26, 3) := by decide +kernel
theorem dX9_countOf_207 : decode cX9_countOf 207 = .ok (.iload_n 2, 1) := by decide +kernel
theorem dX9_countOf_208 : decode cX9_countOf 208 = .ok (.aload_n 0, 1) := by decide +kernel
theorem dX9_countOf_209 : decode cX9_countOf 209 = .ok (.getfield 19, 3) := by decide +kernel
theorem dX9_countOf_212 : decode cX9_countOf 212 = .ok (.iload_n 3, 1) := by decide +kernel
theorem dX9_countOf_213 : decode cX9_countOf 213 = .ok (.iaload, 1) := by decide +kernel
theorem dX9_countOf_214 : decode cX9_countOf 214 = .ok (.ifCond .ge 7, 3) := by decide +kernel
theorem dX9_countOf_217 : decode cX9_countOf 217 = .ok (.iconst 0, 1) := by decide +kernel
theorem dX9_countOf_218 : decode cX9_countOf 218 = .ok (.goto 4, 3) := by decide +kernel
theorem dX9_countOf_221 : decode cX9_countOf 221 = .ok (.iconst 1, 1) := by decide +kernel
theorem dX9_countOf_222 : decode cX9_countOf 222 = .ok (.iadd, 1) := by decide +kernel
theorem dX9_countOf_223 : decode cX9_countOf 223 = .ok (.istore_n 2, 1) := by decide +kernel
theorem dX9_countOf_224 : decode cX9_countOf 224 = .ok (.iinc 3 1, 3) := by decide +kernel
theorem dX9_countOf_227 : decode cX9_countOf 227 = .ok (.goto (-26), 3) := by decide +kernel
theorem dX9_countOf_230 : decode cX9_countOf 230 = .ok (.iload_n 2, 1) := by decide +kernel
theorem dX9_countOf_231 : decode cX9_countOf 231 = .ok (.ireturn, 1) := by decide +kernel
theorem dX9_countOf_232 : decode cX9_countOf 232 = .ok (.iconst 0, 1) := by decide +kernel
theorem dX9_countOf_233 : decode cX9_countOf 233 = .ok (.istore_n 3, 1) := by decide +kernel
theorem dX9_countOf_234 : decode cX9_countOf 234 = .ok (.iload_n 3, 1) := by decide +kernel
theorem dX9_countOf_235 : decode cX9_countOf 235 = .ok (.iconst 4, 1) := by decide +kernel
theorem dX9_countOf_236 : decode cX9_countOf 236 = .ok (.if_icmp .ge 26, 3) := by decide +kernel
theorem dX9_countOf_239 : decode cX9_countOf 239 = .ok (.iload_n 2, 1) := by decide +kernel
theorem dX9_countOf_240 : decode cX9_countOf 240 = .ok (.aload_n 0, 1) := by decide +kernel
theorem dX9_countOf_241 : decode cX9_countOf 241 = .ok (.getfield 25, 3) := by decide +kernel
theorem dX9_countOf_244 : decode cX9_countOf 244 = .ok (.iload_n 3, 1) := by decide +kernel
theorem dX9_countOf_245 : decode cX9_countOf 245 = .ok (.iaload, 1) := by decide +kernel
theorem dX9_countOf_246 : decode cX9_countOf 246 = .ok (.ifCond .ge 7, 3) := by decide +kernel
theorem dX9_countOf_249 : decode cX9_countOf 249 = .ok (.iconst 0, 1) := by decide +kernel
theorem dX9_countOf_250 : decode cX9_countOf 250 = .ok (.goto 4, 3) := by decide +kernel
theorem dX9_countOf_253 : decode cX9_countOf 253 = .ok (.iconst 1, 1) := by decide +kernel
theorem dX9_countOf_254 : decode cX9_countOf 254 = .ok (.iadd, 1) := by decide +kernel
theorem dX9_countOf_255 : decode cX9_countOf 255 = .ok (.istore_n 2, 1) := by decide +kernel
theorem dX9_countOf_256 : decode cX9_countOf 256 = .ok (.iinc 3 1, 3) := by decide +kernel
theorem dX9_countOf_259 : decode cX9_countOf 259 = .ok (.goto (-25), 3) := by decide +kernel
theorem dX9_countOf_262 : decode cX9_countOf 262 = .ok (.iload_n 2, 1) := by decide +kernel
theorem dX9_countOf_263 : decode cX9_countOf 263 = .ok (.ireturn, 1) := by decide +kernel
theorem dX9_countOf_264 : decode cX9_countOf 264 = .ok (.iconst 0, 1) := by decide +kernel
theorem dX9_countOf_265 : decode cX9_countOf 265 = .ok (.istore_n 3, 1) := by decide +kernel
theorem dX9_countOf_266 : decode cX9_countOf 266 = .ok (.iload_n 3, 1) := by decide +kernel
theorem dX9_countOf_267 : decode cX9_countOf 267 = .ok (.iconst 3, 1) := by decide +kernel
theorem dX9_countOf_268 : decode cX9_countOf 268 = .ok (.if_icmp .ge 26, 3) := by decide +kernel
theorem dX9_countOf_271 : decode cX9_countOf 271 = .ok (.iload_n 2, 1) := by decide +kernel
theorem dX9_countOf_272 : decode cX9_countOf 272 = .ok (.aload_n 0, 1) := by decide +kernel
theorem dX9_countOf_273 : decode cX9_countOf 273 = .ok (.getfield 13, 3) := by decide +kernel
theorem dX9_countOf_276 : decode cX9_countOf 276 = .ok (.iload_n 3, 1) := by decide +kernel
theorem dX9_countOf_277 : decode cX9_countOf 277 = .ok (.iaload, 1) := by decide +kernel
theorem dX9_countOf_278 : decode cX9_countOf 278 = .ok (.ifCond .ge 7, 3) := by decide +kernel
theorem dX9_countOf_281 : decode cX9_countOf 281 = .ok (.iconst 0, 1) := by decide +kernel
theorem dX9_countOf_282 : decode cX9_countOf 282 = .ok (.goto 4, 3) := by decide +kernel
theorem dX9_countOf_285 : decode cX9_countOf 285 = .ok (.iconst 1, 1) := by decide +kernel
theorem dX9_countOf_286 : decode cX9_countOf 286 = .ok (.iadd, 1) := by decide +kernel
theorem dX9_countOf_287 : decode cX9_countOf 287 = .ok (.istore_n 2, 1) := by decide +kernel
theorem dX9_countOf_288 : decode cX9_countOf 288 = .ok (.iinc 3 1, 3) := by decide +kernel
theorem dX9_countOf_291 : decode cX9_countOf 291 = .ok (.goto (-25), 3) := by decide +kernel
theorem dX9_countOf_294 : decode cX9_countOf 294 = .ok (.iload_n 2, 1) := by decide +kernel
theorem dX9_countOf_295 : decode cX9_countOf 295 = .ok (.ireturn, 1) := by decide +kernel
theorem dX9_count_0 : decode cX9_count 0 = .ok (.iload_n 1, 1) := by decide +kernel
theorem dX9_count_1 : decode cX9_count 1 = .ok (.i2l, 1) := by decide +kernel
theorem dX9_count_2 : decode cX9_count 2 = .ok (.lconst 0, 1) := by decide +kernel
theorem dX9_count_3 : decode cX9_count 3 = .ok (.ldc2_w 236, 3) := by decide +kernel
theorem dX9_count_6 : decode cX9_count 6 = .ok (.invokestatic 53, 3) := by decide +kernel
theorem dX9_count_9 : decode cX9_count 9 = .ok (.ifCond .eq 11, 3) := by decide +kernel
theorem dX9_count_12 : decode cX9_count 12 = .ok (.aload_n 0, 1) := by decide +kernel
theorem dX9_count_13 : decode cX9_count 13 = .ok (.iload_n 1, 1) := by decide +kernel
theorem dX9_count_14 : decode cX9_count 14 = .ok (.invokevirtual 238, 3) := by decide +kernel
theorem dX9_count_17 : decode cX9_count 17 = .ok (.goto 4, 3) := by decide +kernel
theorem dX9_count_20 : decode cX9_count 20 = .ok (.iconst (-1), 1) := by decide +kernel
theorem dX9_count_21 : decode cX9_count 21 = .ok (.ireturn, 1) := by decide +kernel
theorem dX9_finding_0 : decode cX9_finding 0 = .ok (.aload_n 0, 1) := by decide +kernel
theorem dX9_finding_1 : decode cX9_finding 1 = .ok (.getfield 44, 3) := by decide +kernel
theorem dX9_finding_4 : decode cX9_finding 4 = .ok (.ireturn, 1) := by decide +kernel
theorem dX9_findings_0 : decode cX9_findings 0 = .ok (.iload_n 1, 1) := by decide +kernel
theorem dX9_findings_1 : decode cX9_findings 1 = .ok (.i2l, 1) := by decide +kernel
theorem dX9_findings_2 : decode cX9_findings 2 = .ok (.lconst 1, 1) := by decide +kernel
theorem dX9_findings_3 : decode cX9_findings 3 = .ok (.ldc2_w 51, 3) := by decide +kernel
theorem dX9_findings_6 : decode cX9_findings 6 = .ok (.invokestatic 53, 3) := by decide +kernel
theorem dX9_findings_9 : decode cX9_findings 9 = .ok (.ifCond .eq 12, 3) := by decide +kernel
theorem dX9_findings_12 : decode cX9_findings 12 = .ok (.aload_n 0, 1) := by decide +kernel
theorem dX9_findings_13 : decode cX9_findings 13 = .ok (.getfield 31, 3) := by decide +kernel
theorem dX9_findings_16 : decode cX9_findings 16 = .ok (.iload_n 1, 1) := by decide +kernel
theorem dX9_findings_17 : decode cX9_findings 17 = .ok (.iaload, 1) := by decide +kernel
theorem dX9_findings_18 : decode cX9_findings 18 = .ok (.goto 4, 3) := by decide +kernel
theorem dX9_findings_21 : decode cX9_findings 21 = .ok (.iconst (-1), 1) := by decide +kernel
theorem dX9_findings_22 : decode cX9_findings 22 = .ok (.ireturn, 1) := by decide +kernel
theorem dX9_mix_0 : decode cX9_mix 0 = .ok (.aload_n 0, 1) := by decide +kernel
theorem dX9_mix_1 : decode cX9_mix 1 = .ok (.ldc2_w 241, 3) := by decide +kernel
theorem dX9_mix_4 : decode cX9_mix 4 = .ok (.aload_n 0, 1) := by decide +kernel
theorem dX9_mix_5 : decode cX9_mix 5 = .ok (.getfield 243, 3) := by decide +kernel
theorem dX9_mix_8 : decode cX9_mix 8 = .ok (.lmul, 1) := by decide +kernel
theorem dX9_mix_9 : decode cX9_mix 9 = .ok (.lload_n 1, 1) := by decide +kernel
theorem dX9_mix_10 : decode cX9_mix 10 = .ok (.ladd, 1) := by decide +kernel
theorem dX9_mix_11 : decode cX9_mix 11 = .ok (.putfield 243, 3) := by decide +kernel
theorem dX9_mix_14 : decode cX9_mix 14 = .ok (.return_, 1) := by decide +kernel
theorem dX9_digest_0 : decode cX9_digest 0 = .ok (.aload_n 0, 1) := by decide +kernel
theorem dX9_digest_1 : decode cX9_digest 1 = .ok (.ldc2_w 246, 3) := by decide +kernel
theorem dX9_digest_4 : decode cX9_digest 4 = .ok (.putfield 243, 3) := by decide +kernel
theorem dX9_digest_7 : decode cX9_digest 7 = .ok (.iconst 0, 1) := by decide +kernel
theorem dX9_digest_8 : decode cX9_digest 8 = .ok (.istore_n 1, 1) := by decide +kernel
theorem dX9_digest_9 : decode cX9_digest 9 = .ok (.iload_n 1, 1) := by decide +kernel
theorem dX9_digest_10 : decode cX9_digest 10 = .ok (.bipush 11, 2) := by decide +kernel
theorem dX9_digest_12 : decode cX9_digest 12 = .ok (.if_icmp .ge 19, 3) := by decide +kernel
theorem dX9_digest_15 : decode cX9_digest 15 = .ok (.aload_n 0, 1) := by decide +kernel
theorem dX9_digest_16 : decode cX9_digest 16 = .ok (.aload_n 0, 1) := by decide +kernel
theorem dX9_digest_17 : decode cX9_digest 17 = .ok (.iload_n 1, 1) := by decide +kernel
theorem dX9_digest_18 : decode cX9_digest 18 = .ok (.invokevirtual 238, 3) := by decide +kernel
theorem dX9_digest_21 : decode cX9_digest 21 = .ok (.i2l, 1) := by decide +kernel
theorem dX9_digest_22 : decode cX9_digest 22 = .ok (.invokevirtual 248, 3) := by decide +kernel
theorem dX9_digest_25 : decode cX9_digest 25 = .ok (.iinc 1 1, 3) := by decide +kernel
theorem dX9_digest_28 : decode cX9_digest 28 = .ok (.goto (-19), 3) := by decide +kernel
theorem dX9_digest_31 : decode cX9_digest 31 = .ok (.iconst 0, 1) := by decide +kernel
theorem dX9_digest_32 : decode cX9_digest 32 = .ok (.istore_n 1, 1) := by decide +kernel
theorem dX9_digest_33 : decode cX9_digest 33 = .ok (.iload_n 1, 1) := by decide +kernel
theorem dX9_digest_34 : decode cX9_digest 34 = .ok (.aload_n 0, 1) := by decide +kernel
theorem dX9_digest_35 : decode cX9_digest 35 = .ok (.getfield 7, 3) := by decide +kernel
theorem dX9_digest_38 : decode cX9_digest 38 = .ok (.iconst 0, 1) := by decide +kernel
theorem dX9_digest_39 : decode cX9_digest 39 = .ok (.iaload, 1) := by decide +kernel
theorem dX9_digest_40 : decode cX9_digest 40 = .ok (.if_icmp .ge 34, 3) := by decide +kernel
theorem dX9_digest_43 : decode cX9_digest 43 = .ok (.iconst 0, 1) := by decide +kernel
theorem dX9_digest_44 : decode cX9_digest 44 = .ok (.istore_n 2, 1) := by decide +kernel
theorem dX9_digest_45 : decode cX9_digest 45 = .ok (.iload_n 2, 1) := by decide +kernel
theorem dX9_digest_46 : decode cX9_digest 46 = .ok (.bipush 8, 2) := by decide +kernel
theorem dX9_digest_48 : decode cX9_digest 48 = .ok (.if_icmp .ge 20, 3) := by decide +kernel
theorem dX9_digest_51 : decode cX9_digest 51 = .ok (.aload_n 0, 1) := by decide +kernel
theorem dX9_digest_52 : decode cX9_digest 52 = .ok (.aload_n 0, 1) := by decide +kernel
theorem dX9_digest_53 : decode cX9_digest 53 = .ok (.iload_n 1, 1) := by decide +kernel
theorem dX9_digest_54 : decode cX9_digest 54 = .ok (.iload_n 2, 1) := by decide +kernel
theorem dX9_digest_55 : decode cX9_digest 55 = .ok (.invokevirtual 145, 3) := by decide +kernel
theorem dX9_digest_58 : decode cX9_digest 58 = .ok (.i2l, 1) := by decide +kernel
theorem dX9_digest_59 : decode cX9_digest 59 = .ok (.invokevirtual 248, 3) := by decide +kernel
theorem dX9_digest_62 : decode cX9_digest 62 = .ok (.iinc 2 1, 3) := by decide +kernel
theorem dX9_digest_65 : decode cX9_digest 65 = .ok (.goto (-20), 3) := by decide +kernel
theorem dX9_digest_68 : decode cX9_digest 68 = .ok (.iinc 1 1, 3) := by decide +kernel
theorem dX9_digest_71 : decode cX9_digest 71 = .ok (.goto (-38), 3) := by decide +kernel
theorem dX9_digest_74 : decode cX9_digest 74 = .ok (.iconst 0, 1) := by decide +kernel
theorem dX9_digest_75 : decode cX9_digest 75 = .ok (.istore_n 1, 1) := by decide +kernel
theorem dX9_digest_76 : decode cX9_digest 76 = .ok (.iload_n 1, 1) := by decide +kernel
theorem dX9_digest_77 : decode cX9_digest 77 = .ok (.iconst 3, 1) := by decide +kernel
theorem dX9_digest_78 : decode cX9_digest 78 = .ok (.if_icmp .ge 20, 3) := by decide +kernel
theorem dX9_digest_81 : decode cX9_digest 81 = .ok (.aload_n 0, 1) := by decide +kernel
theorem dX9_digest_82 : decode cX9_digest 82 = .ok (.aload_n 0, 1) := by decide +kernel
theorem dX9_digest_83 : decode cX9_digest 83 = .ok (.getfield 13, 3) := by decide +kernel
theorem dX9_digest_86 : decode cX9_digest 86 = .ok (.iload_n 1, 1) := by decide +kernel
theorem dX9_digest_87 : decode cX9_digest 87 = .ok (.iaload, 1) := by decide +kernel
theorem dX9_digest_88 : decode cX9_digest 88 = .ok (.i2l, 1) := by decide +kernel
theorem dX9_digest_89 : decode cX9_digest 89 = .ok (.invokevirtual 248, 3) := by decide +kernel
theorem dX9_digest_92 : decode cX9_digest 92 = .ok (.iinc 1 1, 3) := by decide +kernel
theorem dX9_digest_95 : decode cX9_digest 95 = .ok (.goto (-19), 3) := by decide +kernel
theorem dX9_digest_98 : decode cX9_digest 98 = .ok (.iconst 0, 1) := by decide +kernel
theorem dX9_digest_99 : decode cX9_digest 99 = .ok (.istore_n 1, 1) := by decide +kernel
theorem dX9_digest_100 : decode cX9_digest 100 = .ok (.iload_n 1, 1) := by decide +kernel
theorem dX9_digest_101 : decode cX9_digest 101 = .ok (.bipush 6, 2) := by decide +kernel
theorem dX9_digest_103 : decode cX9_digest 103 = .ok (.if_icmp .ge 54, 3) := by decide +kernel
theorem dX9_digest_106 : decode cX9_digest 106 = .ok (.aload_n 0, 1) := by decide +kernel
theorem dX9_digest_107 : decode cX9_digest 107 = .ok (.aload_n 0, 1) := by decide +kernel
theorem dX9_digest_108 : decode cX9_digest 108 = .ok (.getfield 19, 3) := by decide +kernel
theorem dX9_digest_111 : decode cX9_digest 111 = .ok (.iload_n 1, 1) := by decide +kernel
theorem dX9_digest_112 : decode cX9_digest 112 = .ok (.iaload, 1) := by decide +kernel
theorem dX9_digest_113 : decode cX9_digest 113 = .ok (.i2l, 1) := by decide +kernel
theorem dX9_digest_114 : decode cX9_digest 114 = .ok (.invokevirtual 248, 3) := by decide +kernel
theorem dX9_digest_117 : decode cX9_digest 117 = .ok (.iconst 0, 1) := by decide +kernel
theorem dX9_digest_118 : decode cX9_digest 118 = .ok (.istore_n 2, 1) := by decide +kernel
theorem dX9_digest_119 : decode cX9_digest 119 = .ok (.iload_n 2, 1) := by decide +kernel
theorem dX9_digest_120 : decode cX9_digest 120 = .ok (.aload_n 0, 1) := by decide +kernel
theorem dX9_digest_121 : decode cX9_digest 121 = .ok (.getfield 19, 3) := by decide +kernel
theorem dX9_digest_124 : decode cX9_digest 124 = .ok (.iload_n 1, 1) := by decide +kernel
theorem dX9_digest_125 : decode cX9_digest 125 = .ok (.iaload, 1) := by decide +kernel
theorem dX9_digest_126 : decode cX9_digest 126 = .ok (.if_icmp .ge 25, 3) := by decide +kernel
theorem dX9_digest_129 : decode cX9_digest 129 = .ok (.aload_n 0, 1) := by decide +kernel
theorem dX9_digest_130 : decode cX9_digest 130 = .ok (.aload_n 0, 1) := by decide +kernel
theorem dX9_digest_131 : decode cX9_digest 131 = .ok (.getfield 16, 3) := by decide +kernel
theorem dX9_digest_134 : decode cX9_digest 134 = .ok (.bipush 40, 2) := by decide +kernel
theorem dX9_digest_136 : decode cX9_digest 136 = .ok (.iload_n 1, 1) := by decide +kernel
theorem dX9_digest_137 : decode cX9_digest 137 = .ok (.imul, 1) := by decide +kernel
theorem dX9_digest_138 : decode cX9_digest 138 = .ok (.iload_n 2, 1) := by decide +kernel
theorem dX9_digest_139 : decode cX9_digest 139 = .ok (.iadd, 1) := by decide +kernel
theorem dX9_digest_140 : decode cX9_digest 140 = .ok (.iaload, 1) := by decide +kernel
theorem dX9_digest_141 : decode cX9_digest 141 = .ok (.i2l, 1) := by decide +kernel
theorem dX9_digest_142 : decode cX9_digest 142 = .ok (.invokevirtual 248, 3) := by decide +kernel
theorem dX9_digest_145 : decode cX9_digest 145 = .ok (.iinc 2 1, 3) := by decide +kernel
theorem dX9_digest_148 : decode cX9_digest 148 = .ok (.goto (-29), 3) := by decide +kernel
theorem dX9_digest_151 : decode cX9_digest 151 = .ok (.iinc 1 1, 3) := by decide +kernel
theorem dX9_digest_154 : decode cX9_digest 154 = .ok (.goto (-54), 3) := by decide +kernel
theorem dX9_digest_157 : decode cX9_digest 157 = .ok (.iconst 0, 1) := by decide +kernel
theorem dX9_digest_158 : decode cX9_digest 158 = .ok (.istore_n 1, 1) := by decide +kernel
theorem dX9_digest_159 : decode cX9_digest 159 = .ok (.iload_n 1, 1) := by decide +kernel
theorem dX9_digest_160 : decode cX9_digest 160 = .ok (.iconst 4, 1) := by decide +kernel
theorem dX9_digest_161 : decode cX9_digest 161 = .ok (.if_icmp .ge 54, 3) := by decide +kernel
theorem dX9_digest_164 : decode cX9_digest 164 = .ok (.aload_n 0, 1) := by decide +kernel
theorem dX9_digest_165 : decode cX9_digest 165 = .ok (.aload_n 0, 1) := by decide +kernel
theorem dX9_digest_166 : decode cX9_digest 166 = .ok (.getfield 25, 3) := by decide +kernel
theorem dX9_digest_169 : decode cX9_digest 169 = .ok (.iload_n 1, 1) := by decide +kernel
theorem dX9_digest_170 : decode cX9_digest 170 = .ok (.iaload, 1) := by decide +kernel
theorem dX9_digest_171 : decode cX9_digest 171 = .ok (.i2l, 1) := by decide +kernel
theorem dX9_digest_172 : decode cX9_digest 172 = .ok (.invokevirtual 248, 3) := by decide +kernel
theorem dX9_digest_175 : decode cX9_digest 175 = .ok (.iconst 0, 1) := by decide +kernel
theorem dX9_digest_176 : decode cX9_digest 176 = .ok (.istore_n 2, 1) := by decide +kernel
theorem dX9_digest_177 : decode cX9_digest 177 = .ok (.iload_n 2, 1) := by decide +kernel
theorem dX9_digest_178 : decode cX9_digest 178 = .ok (.aload_n 0, 1) := by decide +kernel
theorem dX9_digest_179 : decode cX9_digest 179 = .ok (.getfield 25, 3) := by decide +kernel
theorem dX9_digest_182 : decode cX9_digest 182 = .ok (.iload_n 1, 1) := by decide +kernel
theorem dX9_digest_183 : decode cX9_digest 183 = .ok (.iaload, 1) := by decide +kernel
theorem dX9_digest_184 : decode cX9_digest 184 = .ok (.if_icmp .ge 25, 3) := by decide +kernel
theorem dX9_digest_187 : decode cX9_digest 187 = .ok (.aload_n 0, 1) := by decide +kernel
theorem dX9_digest_188 : decode cX9_digest 188 = .ok (.aload_n 0, 1) := by decide +kernel
theorem dX9_digest_189 : decode cX9_digest 189 = .ok (.getfield 22, 3) := by decide +kernel
theorem dX9_digest_192 : decode cX9_digest 192 = .ok (.bipush 60, 2) := by decide +kernel
theorem dX9_digest_194 : decode cX9_digest 194 = .ok (.iload_n 1, 1) := by decide +kernel
theorem dX9_digest_195 : decode cX9_digest 195 = .ok (.imul, 1) := by decide +kernel
theorem dX9_digest_196 : decode cX9_digest 196 = .ok (.iload_n 2, 1) := by decide +kernel
theorem dX9_digest_197 : decode cX9_digest 197 = .ok (.iadd, 1) := by decide +kernel
theorem dX9_digest_198 : decode cX9_digest 198 = .ok (.iaload, 1) := by decide +kernel
theorem dX9_digest_199 : decode cX9_digest 199 = .ok (.i2l, 1) := by decide +kernel
theorem dX9_digest_200 : decode cX9_digest 200 = .ok (.invokevirtual 248, 3) := by decide +kernel
theorem dX9_digest_203 : decode cX9_digest 203 = .ok (.iinc 2 1, 3) := by decide +kernel
theorem dX9_digest_206 : decode cX9_digest 206 = .ok (.goto (-29), 3) := by decide +kernel
theorem dX9_digest_209 : decode cX9_digest 209 = .ok (.iinc 1 1, 3) := by decide +kernel
theorem dX9_digest_212 : decode cX9_digest 212 = .ok (.goto (-53), 3) := by decide +kernel
theorem dX9_digest_215 : decode cX9_digest 215 = .ok (.aload_n 0, 1) := by decide +kernel
theorem dX9_digest_216 : decode cX9_digest 216 = .ok (.getfield 243, 3) := by decide +kernel
theorem dX9_digest_219 : decode cX9_digest 219 = .ok (.lreturn, 1) := by decide +kernel
theorem dJ6_bitCount_0f7a4_0 : decode cJ6_bitCount_0f7a4 0 = .ok (.iload_n 0, 1) := by decide +kernel
theorem dJ6_bitCount_0f7a4_1 : decode cJ6_bitCount_0f7a4 1 = .ok (.iload_n 0, 1) := by decide +kernel
theorem dJ6_bitCount_0f7a4_2 : decode cJ6_bitCount_0f7a4 2 = .ok (.iconst 1, 1) := by decide +kernel
theorem dJ6_bitCount_0f7a4_3 : decode cJ6_bitCount_0f7a4 3 = .ok (.iushr, 1) := by decide +kernel
theorem dJ6_bitCount_0f7a4_4 : decode cJ6_bitCount_0f7a4 4 = .ok (.ldc_w 265, 3) := by decide +kernel
theorem dJ6_bitCount_0f7a4_7 : decode cJ6_bitCount_0f7a4 7 = .ok (.iand, 1) := by decide +kernel
theorem dJ6_bitCount_0f7a4_8 : decode cJ6_bitCount_0f7a4 8 = .ok (.isub, 1) := by decide +kernel
theorem dJ6_bitCount_0f7a4_9 : decode cJ6_bitCount_0f7a4 9 = .ok (.istore_n 0, 1) := by decide +kernel
theorem dJ6_bitCount_0f7a4_10 : decode cJ6_bitCount_0f7a4 10 = .ok (.iload_n 0, 1) := by decide +kernel
theorem dJ6_bitCount_0f7a4_11 : decode cJ6_bitCount_0f7a4 11 = .ok (.ldc_w 266, 3) := by decide +kernel
theorem dJ6_bitCount_0f7a4_14 : decode cJ6_bitCount_0f7a4 14 = .ok (.iand, 1) := by decide +kernel
theorem dJ6_bitCount_0f7a4_15 : decode cJ6_bitCount_0f7a4 15 = .ok (.iload_n 0, 1) := by decide +kernel
theorem dJ6_bitCount_0f7a4_16 : decode cJ6_bitCount_0f7a4 16 = .ok (.iconst 2, 1) := by decide +kernel
theorem dJ6_bitCount_0f7a4_17 : decode cJ6_bitCount_0f7a4 17 = .ok (.iushr, 1) := by decide +kernel
theorem dJ6_bitCount_0f7a4_18 : decode cJ6_bitCount_0f7a4 18 = .ok (.ldc_w 266, 3) := by decide +kernel
theorem dJ6_bitCount_0f7a4_21 : decode cJ6_bitCount_0f7a4 21 = .ok (.iand, 1) := by decide +kernel
theorem dJ6_bitCount_0f7a4_22 : decode cJ6_bitCount_0f7a4 22 = .ok (.iadd, 1) := by decide +kernel
theorem dJ6_bitCount_0f7a4_23 : decode cJ6_bitCount_0f7a4 23 = .ok (.istore_n 0, 1) := by decide +kernel
theorem dJ6_bitCount_0f7a4_24 : decode cJ6_bitCount_0f7a4 24 = .ok (.iload_n 0, 1) := by decide +kernel
theorem dJ6_bitCount_0f7a4_25 : decode cJ6_bitCount_0f7a4 25 = .ok (.iload_n 0, 1) := by decide +kernel
theorem dJ6_bitCount_0f7a4_26 : decode cJ6_bitCount_0f7a4 26 = .ok (.iconst 4, 1) := by decide +kernel
theorem dJ6_bitCount_0f7a4_27 : decode cJ6_bitCount_0f7a4 27 = .ok (.iushr, 1) := by decide +kernel
theorem dJ6_bitCount_0f7a4_28 : decode cJ6_bitCount_0f7a4 28 = .ok (.iadd, 1) := by decide +kernel
theorem dJ6_bitCount_0f7a4_29 : decode cJ6_bitCount_0f7a4 29 = .ok (.ldc_w 267, 3) := by decide +kernel
theorem dJ6_bitCount_0f7a4_32 : decode cJ6_bitCount_0f7a4 32 = .ok (.iand, 1) := by decide +kernel
theorem dJ6_bitCount_0f7a4_33 : decode cJ6_bitCount_0f7a4 33 = .ok (.istore_n 0, 1) := by decide +kernel
theorem dJ6_bitCount_0f7a4_34 : decode cJ6_bitCount_0f7a4 34 = .ok (.iload_n 0, 1) := by decide +kernel
theorem dJ6_bitCount_0f7a4_35 : decode cJ6_bitCount_0f7a4 35 = .ok (.iload_n 0, 1) := by decide +kernel
theorem dJ6_bitCount_0f7a4_36 : decode cJ6_bitCount_0f7a4 36 = .ok (.bipush 8, 2) := by decide +kernel
theorem dJ6_bitCount_0f7a4_38 : decode cJ6_bitCount_0f7a4 38 = .ok (.iushr, 1) := by decide +kernel
theorem dJ6_bitCount_0f7a4_39 : decode cJ6_bitCount_0f7a4 39 = .ok (.iadd, 1) := by decide +kernel
theorem dJ6_bitCount_0f7a4_40 : decode cJ6_bitCount_0f7a4 40 = .ok (.istore_n 0, 1) := by decide +kernel
theorem dJ6_bitCount_0f7a4_41 : decode cJ6_bitCount_0f7a4 41 = .ok (.iload_n 0, 1) := by decide +kernel
theorem dJ6_bitCount_0f7a4_42 : decode cJ6_bitCount_0f7a4 42 = .ok (.iload_n 0, 1) := by decide +kernel
theorem dJ6_bitCount_0f7a4_43 : decode cJ6_bitCount_0f7a4 43 = .ok (.bipush 16, 2) := by decide +kernel
theorem dJ6_bitCount_0f7a4_45 : decode cJ6_bitCount_0f7a4 45 = .ok (.iushr, 1) := by decide +kernel
theorem dJ6_bitCount_0f7a4_46 : decode cJ6_bitCount_0f7a4 46 = .ok (.iadd, 1) := by decide +kernel
theorem dJ6_bitCount_0f7a4_47 : decode cJ6_bitCount_0f7a4 47 = .ok (.istore_n 0, 1) := by decide +kernel
theorem dJ6_bitCount_0f7a4_48 : decode cJ6_bitCount_0f7a4 48 = .ok (.iload_n 0, 1) := by decide +kernel
theorem dJ6_bitCount_0f7a4_49 : decode cJ6_bitCount_0f7a4 49 = .ok (.bipush 63, 2) := by decide +kernel
theorem dJ6_bitCount_0f7a4_51 : decode cJ6_bitCount_0f7a4 51 = .ok (.iand, 1) := by decide +kernel
theorem dJ6_bitCount_0f7a4_52 : decode cJ6_bitCount_0f7a4 52 = .ok (.ireturn, 1) := by decide +kernel
theorem dJ9_abs_0f7a4_0 : decode cJ9_abs_0f7a4 0 = .ok (.iload_n 0, 1) := by decide +kernel
theorem dJ9_abs_0f7a4_1 : decode cJ9_abs_0f7a4 1 = .ok (.ifCond .ge 8, 3) := by decide +kernel
theorem dJ9_abs_0f7a4_4 : decode cJ9_abs_0f7a4 4 = .ok (.iload_n 0, 1) := by decide +kernel
theorem dJ9_abs_0f7a4_5 : decode cJ9_abs_0f7a4 5 = .ok (.ineg, 1) := by decide +kernel
theorem dJ9_abs_0f7a4_6 : decode cJ9_abs_0f7a4 6 = .ok (.goto 4, 3) := by decide +kernel
theorem dJ9_abs_0f7a4_9 : decode cJ9_abs_0f7a4 9 = .ok (.iload_n 0, 1) := by decide +kernel
theorem dJ9_abs_0f7a4_10 : decode cJ9_abs_0f7a4 10 = .ok (.ireturn, 1) := by decide +kernel
theorem dJ9_max_7cf53_0 : decode cJ9_max_7cf53 0 = .ok (.iload_n 0, 1) := by decide +kernel
theorem dJ9_max_7cf53_1 : decode cJ9_max_7cf53 1 = .ok (.iload_n 1, 1) := by decide +kernel
theorem dJ9_max_7cf53_2 : decode cJ9_max_7cf53 2 = .ok (.if_icmp .lt 7, 3) := by decide +kernel
theorem dJ9_max_7cf53_5 : decode cJ9_max_7cf53 5 = .ok (.iload_n 0, 1) := by decide +kernel
theorem dJ9_max_7cf53_6 : decode cJ9_max_7cf53 6 = .ok (.goto 4, 3) := by decide +kernel
theorem dJ9_max_7cf53_9 : decode cJ9_max_7cf53 9 = .ok (.iload_n 1, 1) := by decide +kernel
theorem dJ9_max_7cf53_10 : decode cJ9_max_7cf53 10 = .ok (.ireturn, 1) := by decide +kernel
theorem dJ9_min_7cf53_0 : decode cJ9_min_7cf53 0 = .ok (.iload_n 0, 1) := by decide +kernel
theorem dJ9_min_7cf53_1 : decode cJ9_min_7cf53 1 = .ok (.iload_n 1, 1) := by decide +kernel
theorem dJ9_min_7cf53_2 : decode cJ9_min_7cf53 2 = .ok (.if_icmp .gt 7, 3) := by decide +kernel
theorem dJ9_min_7cf53_5 : decode cJ9_min_7cf53 5 = .ok (.iload_n 0, 1) := by decide +kernel
theorem dJ9_min_7cf53_6 : decode cJ9_min_7cf53 6 = .ok (.goto 4, 3) := by decide +kernel
theorem dJ9_min_7cf53_9 : decode cJ9_min_7cf53 9 = .ok (.iload_n 1, 1) := by decide +kernel
theorem dJ9_min_7cf53_10 : decode cJ9_min_7cf53 10 = .ok (.ireturn, 1) := by decide +kernel
theorem dJ7_fill_53178_0 : decode cJ7_fill_53178 0 = .ok (.iconst 0, 1) := by decide +kernel
theorem dJ7_fill_53178_1 : decode cJ7_fill_53178 1 = .ok (.istore_n 2, 1) := by decide +kernel
theorem dJ7_fill_53178_2 : decode cJ7_fill_53178 2 = .ok (.aload_n 0, 1) := by decide +kernel
theorem dJ7_fill_53178_3 : decode cJ7_fill_53178 3 = .ok (.arraylength, 1) := by decide +kernel
theorem dJ7_fill_53178_4 : decode cJ7_fill_53178 4 = .ok (.istore_n 3, 1) := by decide +kernel
theorem dJ7_fill_53178_5 : decode cJ7_fill_53178 5 = .ok (.iload_n 2, 1) := by decide +kernel
theorem dJ7_fill_53178_6 : decode cJ7_fill_53178 6 = .ok (.iload_n 3, 1) := by decide +kernel
theorem dJ7_fill_53178_7 : decode cJ7_fill_53178 7 = .ok (.if_icmp .ge 13, 3) := by decide +kernel
theorem dJ7_fill_53178_10 : decode cJ7_fill_53178 10 = .ok (.aload_n 0, 1) := by decide +kernel
theorem dJ7_fill_53178_11 : decode cJ7_fill_53178 11 = .ok (.iload_n 2, 1) := by decide +kernel
theorem dJ7_fill_53178_12 : decode cJ7_fill_53178 12 = .ok (.iload_n 1, 1) := by decide +kernel
theorem dJ7_fill_53178_13 : decode cJ7_fill_53178 13 = .ok (.iastore, 1) := by decide +kernel
theorem dJ7_fill_53178_14 : decode cJ7_fill_53178 14 = .ok (.iinc 2 1, 3) := by decide +kernel
theorem dJ7_fill_53178_17 : decode cJ7_fill_53178 17 = .ok (.goto (-12), 3) := by decide +kernel
theorem dJ7_fill_53178_20 : decode cJ7_fill_53178 20 = .ok (.return_, 1) := by decide +kernel
