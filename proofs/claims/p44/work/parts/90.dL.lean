theorem dL_cell_0 : decode cL_cell 0 = .ok (.iload_n 1, 1) := by decide +kernel
theorem dL_cell_1 : decode cL_cell 1 = .ok (.aload_n 0, 1) := by decide +kernel
theorem dL_cell_2 : decode cL_cell 2 = .ok (.arraylength, 1) := by decide +kernel
theorem dL_cell_3 : decode cL_cell 3 = .ok (.if_icmp .ge 9, 3) := by decide +kernel
theorem dL_cell_6 : decode cL_cell 6 = .ok (.aload_n 0, 1) := by decide +kernel
theorem dL_cell_7 : decode cL_cell 7 = .ok (.iload_n 1, 1) := by decide +kernel
theorem dL_cell_8 : decode cL_cell 8 = .ok (.iaload, 1) := by decide +kernel
theorem dL_cell_9 : decode cL_cell 9 = .ok (.goto 9, 3) := by decide +kernel
theorem dL_cell_12 : decode cL_cell 12 = .ok (.ldc 7, 2) := by decide +kernel
theorem dL_cell_14 : decode cL_cell 14 = .ok (.iload_n 1, 1) := by decide +kernel
theorem dL_cell_15 : decode cL_cell 15 = .ok (.iconst 1, 1) := by decide +kernel
theorem dL_cell_16 : decode cL_cell 16 = .ok (.iadd, 1) := by decide +kernel
theorem dL_cell_17 : decode cL_cell 17 = .ok (.imul, 1) := by decide +kernel
theorem dL_cell_18 : decode cL_cell 18 = .ok (.ireturn, 1) := by decide +kernel
theorem dL_low_0 : decode cL_low 0 = .ok (.iload_n 0, 1) := by decide +kernel
theorem dL_low_1 : decode cL_low 1 = .ok (.ldc 8, 2) := by decide +kernel
theorem dL_low_3 : decode cL_low 3 = .ok (.iand, 1) := by decide +kernel
theorem dL_low_4 : decode cL_low 4 = .ok (.iload_n 1, 1) := by decide +kernel
theorem dL_low_5 : decode cL_low 5 = .ok (.irem, 1) := by decide +kernel
theorem dL_low_6 : decode cL_low 6 = .ok (.ireturn, 1) := by decide +kernel
theorem dL_letter_0 : decode cL_letter 0 = .ok (.iload_n 0, 1) := by decide +kernel
theorem dL_letter_1 : decode cL_letter 1 = .ok (.ifCond .ne 8, 3) := by decide +kernel
theorem dL_letter_4 : decode cL_letter 4 = .ok (.bipush 98, 2) := by decide +kernel
theorem dL_letter_6 : decode cL_letter 6 = .ok (.goto 45, 3) := by decide +kernel
theorem dL_letter_9 : decode cL_letter 9 = .ok (.iload_n 0, 1) := by decide +kernel
theorem dL_letter_10 : decode cL_letter 10 = .ok (.iconst 1, 1) := by decide +kernel
theorem dL_letter_11 : decode cL_letter 11 = .ok (.if_icmp .ne 8, 3) := by decide +kernel
theorem dL_letter_14 : decode cL_letter 14 = .ok (.bipush 115, 2) := by decide +kernel
theorem dL_letter_16 : decode cL_letter 16 = .ok (.goto 35, 3) := by decide +kernel
theorem dL_letter_19 : decode cL_letter 19 = .ok (.iload_n 0, 1) := by decide +kernel
theorem dL_letter_20 : decode cL_letter 20 = .ok (.iconst 2, 1) := by decide +kernel
theorem dL_letter_21 : decode cL_letter 21 = .ok (.if_icmp .ne 8, 3) := by decide +kernel
theorem dL_letter_24 : decode cL_letter 24 = .ok (.bipush 113, 2) := by decide +kernel
theorem dL_letter_26 : decode cL_letter 26 = .ok (.goto 25, 3) := by decide +kernel
theorem dL_letter_29 : decode cL_letter 29 = .ok (.iload_n 0, 1) := by decide +kernel
theorem dL_letter_30 : decode cL_letter 30 = .ok (.iconst 3, 1) := by decide +kernel
theorem dL_letter_31 : decode cL_letter 31 = .ok (.if_icmp .ne 8, 3) := by decide +kernel
theorem dL_letter_34 : decode cL_letter 34 = .ok (.bipush 99, 2) := by decide +kernel
theorem dL_letter_36 : decode cL_letter 36 = .ok (.goto 15, 3) := by decide +kernel
theorem dL_letter_39 : decode cL_letter 39 = .ok (.iload_n 0, 1) := by decide +kernel
theorem dL_letter_40 : decode cL_letter 40 = .ok (.iconst 4, 1) := by decide +kernel
theorem dL_letter_41 : decode cL_letter 41 = .ok (.if_icmp .ne 8, 3) := by decide +kernel
theorem dL_letter_44 : decode cL_letter 44 = .ok (.bipush 116, 2) := by decide +kernel
theorem dL_letter_46 : decode cL_letter 46 = .ok (.goto 5, 3) := by decide +kernel
theorem dL_letter_49 : decode cL_letter 49 = .ok (.bipush 119, 2) := by decide +kernel
theorem dL_letter_51 : decode cL_letter 51 = .ok (.ireturn, 1) := by decide +kernel
theorem dL_puts_0 : decode cL_puts 0 = .ok (.aload_n 0, 1) := by decide +kernel
theorem dL_puts_1 : decode cL_puts 1 = .ok (.iconst 0, 1) := by decide +kernel
theorem dL_puts_2 : decode cL_puts 2 = .ok (.aload_n 1, 1) := by decide +kernel
theorem dL_puts_3 : decode cL_puts 3 = .ok (.bipush 60, 2) := by decide +kernel
theorem dL_puts_5 : decode cL_puts 5 = .ok (.iaload, 1) := by decide +kernel
theorem dL_puts_6 : decode cL_puts 6 = .ok (.iload_n 2, 1) := by decide +kernel
theorem dL_puts_7 : decode cL_puts 7 = .ok (.invokevirtual 9, 3) := by decide +kernel
theorem dL_puts_10 : decode cL_puts 10 = .ok (.sipush 1032, 3) := by decide +kernel
theorem dL_puts_13 : decode cL_puts 13 = .ok (.if_icmp .ne 7, 3) := by decide +kernel
theorem dL_puts_16 : decode cL_puts 16 = .ok (.iconst 1, 1) := by decide +kernel
theorem dL_puts_17 : decode cL_puts 17 = .ok (.goto 4, 3) := by decide +kernel
theorem dL_puts_20 : decode cL_puts 20 = .ok (.iconst 0, 1) := by decide +kernel
theorem dL_puts_21 : decode cL_puts 21 = .ok (.istore_n 3, 1) := by decide +kernel
theorem dL_puts_22 : decode cL_puts 22 = .ok (.aload_n 1, 1) := by decide +kernel
theorem dL_puts_23 : decode cL_puts 23 = .ok (.bipush 60, 2) := by decide +kernel
theorem dL_puts_25 : decode cL_puts 25 = .ok (.dup2, 1) := by decide +kernel
theorem dL_puts_26 : decode cL_puts 26 = .ok (.iaload, 1) := by decide +kernel
theorem dL_puts_27 : decode cL_puts 27 = .ok (.iconst 1, 1) := by decide +kernel
theorem dL_puts_28 : decode cL_puts 28 = .ok (.iadd, 1) := by decide +kernel
theorem dL_puts_29 : decode cL_puts 29 = .ok (.iastore, 1) := by decide +kernel
theorem dL_puts_30 : decode cL_puts 30 = .ok (.iload_n 3, 1) := by decide +kernel
theorem dL_puts_31 : decode cL_puts 31 = .ok (.ireturn, 1) := by decide +kernel
theorem dL_town_0 : decode cL_town 0 = .ok (.aload_n 1, 1) := by decide +kernel
theorem dL_town_1 : decode cL_town 1 = .ok (.iconst 0, 1) := by decide +kernel
theorem dL_town_2 : decode cL_town 2 = .ok (.invokestatic 15, 3) := by decide +kernel
theorem dL_town_5 : decode cL_town 5 = .ok (.istore 5, 2) := by decide +kernel
theorem dL_town_7 : decode cL_town 7 = .ok (.iconst 0, 1) := by decide +kernel
theorem dL_town_8 : decode cL_town 8 = .ok (.istore 6, 2) := by decide +kernel
theorem dL_town_10 : decode cL_town 10 = .ok (.iload 6, 2) := by decide +kernel
theorem dL_town_12 : decode cL_town 12 = .ok (.bipush 64, 2) := by decide +kernel
theorem dL_town_14 : decode cL_town 14 = .ok (.if_icmp .ge 20, 3) := by decide +kernel
theorem dL_town_17 : decode cL_town 17 = .ok (.aload_n 3, 1) := by decide +kernel
theorem dL_town_18 : decode cL_town 18 = .ok (.iload 6, 2) := by decide +kernel
theorem dL_town_20 : decode cL_town 20 = .ok (.iconst 0, 1) := by decide +kernel
theorem dL_town_21 : decode cL_town 21 = .ok (.iastore, 1) := by decide +kernel
theorem dL_town_22 : decode cL_town 22 = .ok (.aload 4, 2) := by decide +kernel
theorem dL_town_24 : decode cL_town 24 = .ok (.iload 6, 2) := by decide +kernel
theorem dL_town_26 : decode cL_town 26 = .ok (.iconst 0, 1) := by decide +kernel
theorem dL_town_27 : decode cL_town 27 = .ok (.iastore, 1) := by decide +kernel
theorem dL_town_28 : decode cL_town 28 = .ok (.iinc 6 1, 3) := by decide +kernel
theorem dL_town_31 : decode cL_town 31 = .ok (.goto (-21), 3) := by decide +kernel
theorem dL_town_34 : decode cL_town 34 = .ok (.aload_n 3, 1) := by decide +kernel
theorem dL_town_35 : decode cL_town 35 = .ok (.iconst 0, 1) := by decide +kernel
theorem dL_town_36 : decode cL_town 36 = .ok (.iconst 1, 1) := by decide +kernel
theorem dL_town_37 : decode cL_town 37 = .ok (.iload 5, 2) := by decide +kernel
theorem dL_town_39 : decode cL_town 39 = .ok (.iload_n 2, 1) := by decide +kernel
theorem dL_town_40 : decode cL_town 40 = .ok (.invokestatic 21, 3) := by decide +kernel
theorem dL_town_43 : decode cL_town 43 = .ok (.iadd, 1) := by decide +kernel
theorem dL_town_44 : decode cL_town 44 = .ok (.iastore, 1) := by decide +kernel
theorem dL_town_45 : decode cL_town 45 = .ok (.aload_n 3, 1) := by decide +kernel
theorem dL_town_46 : decode cL_town 46 = .ok (.bipush 17, 2) := by decide +kernel
theorem dL_town_48 : decode cL_town 48 = .ok (.iconst 1, 1) := by decide +kernel
theorem dL_town_49 : decode cL_town 49 = .ok (.iload 5, 2) := by decide +kernel
theorem dL_town_51 : decode cL_town 51 = .ok (.iconst 3, 1) := by decide +kernel
theorem dL_town_52 : decode cL_town 52 = .ok (.ishr, 1) := by decide +kernel
theorem dL_town_53 : decode cL_town 53 = .ok (.bipush 9, 2) := by decide +kernel
theorem dL_town_55 : decode cL_town 55 = .ok (.invokestatic 21, 3) := by decide +kernel
theorem dL_town_58 : decode cL_town 58 = .ok (.iadd, 1) := by decide +kernel
theorem dL_town_59 : decode cL_town 59 = .ok (.iastore, 1) := by decide +kernel
theorem dL_town_60 : decode cL_town 60 = .ok (.aload_n 0, 1) := by decide +kernel
theorem dL_town_61 : decode cL_town 61 = .ok (.iconst 0, 1) := by decide +kernel
theorem dL_town_62 : decode cL_town 62 = .ok (.bipush 6, 2) := by decide +kernel
theorem dL_town_64 : decode cL_town 64 = .ok (.iconst 4, 1) := by decide +kernel
theorem dL_town_65 : decode cL_town 65 = .ok (.aload_n 3, 1) := by decide +kernel
theorem dL_town_66 : decode cL_town 66 = .ok (.iconst 0, 1) := by decide +kernel
theorem dL_town_67 : decode cL_town 67 = .ok (.iaload, 1) := by decide +kernel
theorem dL_town_68 : decode cL_town 68 = .ok (.imul, 1) := by decide +kernel
theorem dL_town_69 : decode cL_town 69 = .ok (.iadd, 1) := by decide +kernel
theorem dL_town_70 : decode cL_town 70 = .ok (.invokevirtual 25, 3) := by decide +kernel
theorem dL_town_73 : decode cL_town 73 = .ok (.bipush 6, 2) := by decide +kernel
theorem dL_town_75 : decode cL_town 75 = .ok (.iconst 4, 1) := by decide +kernel
theorem dL_town_76 : decode cL_town 76 = .ok (.aload_n 3, 1) := by decide +kernel
theorem dL_town_77 : decode cL_town 77 = .ok (.iconst 0, 1) := by decide +kernel
theorem dL_town_78 : decode cL_town 78 = .ok (.iaload, 1) := by decide +kernel
theorem dL_town_79 : decode cL_town 79 = .ok (.imul, 1) := by decide +kernel
theorem dL_town_80 : decode cL_town 80 = .ok (.iadd, 1) := by decide +kernel
theorem dL_town_81 : decode cL_town 81 = .ok (.if_icmp .ne 17, 3) := by decide +kernel
theorem dL_town_84 : decode cL_town 84 = .ok (.aload_n 0, 1) := by decide +kernel
theorem dL_town_85 : decode cL_town 85 = .ok (.aload_n 3, 1) := by decide +kernel
theorem dL_town_86 : decode cL_town 86 = .ok (.bipush 110, 2) := by decide +kernel
theorem dL_town_88 : decode cL_town 88 = .ok (.invokestatic 28, 3) := by decide +kernel
theorem dL_town_91 : decode cL_town 91 = .ok (.ifCond .eq 7, 3) := by decide +kernel
theorem dL_town_94 : decode cL_town 94 = .ok (.iconst 1, 1) := by decide +kernel
theorem dL_town_95 : decode cL_town 95 = .ok (.goto 4, 3) := by decide +kernel
theorem dL_town_98 : decode cL_town 98 = .ok (.iconst 0, 1) := by decide +kernel
theorem dL_town_99 : decode cL_town 99 = .ok (.istore 6, 2) := by decide +kernel
theorem dL_town_101 : decode cL_town 101 = .ok (.iconst 0, 1) := by decide +kernel
theorem dL_town_102 : decode cL_town 102 = .ok (.istore 7, 2) := by decide +kernel
theorem dL_town_104 : decode cL_town 104 = .ok (.iload 7, 2) := by decide +kernel
theorem dL_town_106 : decode cL_town 106 = .ok (.iconst 4, 1) := by decide +kernel
theorem dL_town_107 : decode cL_town 107 = .ok (.if_icmp .ge 80, 3) := by decide +kernel
theorem dL_town_110 : decode cL_town 110 = .ok (.iload 6, 2) := by decide +kernel
theorem dL_town_112 : decode cL_town 112 = .ok (.ifCond .eq 75, 3) := by decide +kernel
theorem dL_town_115 : decode cL_town 115 = .ok (.aload_n 3, 1) := by decide +kernel
theorem dL_town_116 : decode cL_town 116 = .ok (.bipush 13, 2) := by decide +kernel
theorem dL_town_118 : decode cL_town 118 = .ok (.iload 7, 2) := by decide +kernel
theorem dL_town_120 : decode cL_town 120 = .ok (.iadd, 1) := by decide +kernel
theorem dL_town_121 : decode cL_town 121 = .ok (.iload 5, 2) := by decide +kernel
theorem dL_town_123 : decode cL_town 123 = .ok (.bipush 7, 2) := by decide +kernel
theorem dL_town_125 : decode cL_town 125 = .ok (.ishr, 1) := by decide +kernel
theorem dL_town_126 : decode cL_town 126 = .ok (.iconst 1, 1) := by decide +kernel
theorem dL_town_127 : decode cL_town 127 = .ok (.iand, 1) := by decide +kernel
theorem dL_town_128 : decode cL_town 128 = .ok (.ifCond .ne 21, 3) := by decide +kernel
theorem dL_town_131 : decode cL_town 131 = .ok (.iload 5, 2) := by decide +kernel
theorem dL_town_133 : decode cL_town 133 = .ok (.bipush 8, 2) := by decide +kernel
theorem dL_town_135 : decode cL_town 135 = .ok (.iconst 4, 1) := by decide +kernel
theorem dL_town_136 : decode cL_town 136 = .ok (.iload 7, 2) := by decide +kernel
theorem dL_town_138 : decode cL_town 138 = .ok (.imul, 1) := by decide +kernel
theorem dL_town_139 : decode cL_town 139 = .ok (.iadd, 1) := by decide +kernel
theorem dL_town_140 : decode cL_town 140 = .ok (.ishr, 1) := by decide +kernel
theorem dL_town_141 : decode cL_town 141 = .ok (.bipush 10, 2) := by decide +kernel
theorem dL_town_143 : decode cL_town 143 = .ok (.invokestatic 21, 3) := by decide +kernel
theorem dL_town_146 : decode cL_town 146 = .ok (.goto 17, 3) := by decide +kernel
theorem dL_town_149 : decode cL_town 149 = .ok (.iload 5, 2) := by decide +kernel
theorem dL_town_151 : decode cL_town 151 = .ok (.bipush 8, 2) := by decide +kernel
theorem dL_town_153 : decode cL_town 153 = .ok (.iconst 4, 1) := by decide +kernel
theorem dL_town_154 : decode cL_town 154 = .ok (.iload 7, 2) := by decide +kernel
theorem dL_town_156 : decode cL_town 156 = .ok (.imul, 1) := by decide +kernel
theorem dL_town_157 : decode cL_town 157 = .ok (.iadd, 1) := by decide +kernel
theorem dL_town_158 : decode cL_town 158 = .ok (.ishr, 1) := by decide +kernel
theorem dL_town_159 : decode cL_town 159 = .ok (.iconst 4, 1) := by decide +kernel
theorem dL_town_160 : decode cL_town 160 = .ok (.invokestatic 21, 3) := by decide +kernel
theorem dL_town_163 : decode cL_town 163 = .ok (.iastore, 1) := by decide +kernel
theorem dL_town_164 : decode cL_town 164 = .ok (.aload_n 0, 1) := by decide +kernel
theorem dL_town_165 : decode cL_town 165 = .ok (.aload_n 3, 1) := by decide +kernel
theorem dL_town_166 : decode cL_town 166 = .ok (.bipush 48, 2) := by decide +kernel
theorem dL_town_168 : decode cL_town 168 = .ok (.aload_n 3, 1) := by decide +kernel
theorem dL_town_169 : decode cL_town 169 = .ok (.bipush 13, 2) := by decide +kernel
theorem dL_town_171 : decode cL_town 171 = .ok (.iload 7, 2) := by decide +kernel
theorem dL_town_173 : decode cL_town 173 = .ok (.iadd, 1) := by decide +kernel
theorem dL_town_174 : decode cL_town 174 = .ok (.iaload, 1) := by decide +kernel
theorem dL_town_175 : decode cL_town 175 = .ok (.iadd, 1) := by decide +kernel
theorem dL_town_176 : decode cL_town 176 = .ok (.invokestatic 28, 3) := by decide +kernel
theorem dL_town_179 : decode cL_town 179 = .ok (.istore 6, 2) := by decide +kernel
theorem dL_town_181 : decode cL_town 181 = .ok (.iinc 7 1, 3) := by decide +kernel
theorem dL_town_184 : decode cL_town 184 = .ok (.goto (-80), 3) := by decide +kernel
theorem dL_town_187 : decode cL_town 187 = .ok (.iload 6, 2) := by decide +kernel
theorem dL_town_189 : decode cL_town 189 = .ok (.ifCond .eq 22, 3) := by decide +kernel
theorem dL_town_192 : decode cL_town 192 = .ok (.aload_n 0, 1) := by decide +kernel
theorem dL_town_193 : decode cL_town 193 = .ok (.aload_n 3, 1) := by decide +kernel
theorem dL_town_194 : decode cL_town 194 = .ok (.bipush 48, 2) := by decide +kernel
theorem dL_town_196 : decode cL_town 196 = .ok (.aload_n 3, 1) := by decide +kernel
theorem dL_town_197 : decode cL_town 197 = .ok (.bipush 17, 2) := by decide +kernel
theorem dL_town_199 : decode cL_town 199 = .ok (.iaload, 1) := by decide +kernel
theorem dL_town_200 : decode cL_town 200 = .ok (.iadd, 1) := by decide +kernel
theorem dL_town_201 : decode cL_town 201 = .ok (.invokestatic 28, 3) := by decide +kernel
theorem dL_town_204 : decode cL_town 204 = .ok (.ifCond .eq 7, 3) := by decide +kernel
theorem dL_town_207 : decode cL_town 207 = .ok (.iconst 1, 1) := by decide +kernel
theorem dL_town_208 : decode cL_town 208 = .ok (.goto 4, 3) := by decide +kernel
theorem dL_town_211 : decode cL_town 211 = .ok (.iconst 0, 1) := by decide +kernel
theorem dL_town_212 : decode cL_town 212 = .ok (.istore 6, 2) := by decide +kernel
theorem dL_town_214 : decode cL_town 214 = .ok (.iconst 0, 1) := by decide +kernel
theorem dL_town_215 : decode cL_town 215 = .ok (.istore 7, 2) := by decide +kernel
theorem dL_town_217 : decode cL_town 217 = .ok (.iload 7, 2) := by decide +kernel
theorem dL_town_219 : decode cL_town 219 = .ok (.aload_n 3, 1) := by decide +kernel
theorem dL_town_220 : decode cL_town 220 = .ok (.iconst 0, 1) := by decide +kernel
theorem dL_town_221 : decode cL_town 221 = .ok (.iaload, 1) := by decide +kernel
theorem dL_town_222 : decode cL_town 222 = .ok (.if_icmp .ge 199, 3) := by decide +kernel
theorem dL_town_225 : decode cL_town 225 = .ok (.iload 6, 2) := by decide +kernel
theorem dL_town_227 : decode cL_town 227 = .ok (.ifCond .eq 194, 3) := by decide +kernel
theorem dL_town_230 : decode cL_town 230 = .ok (.aload_n 1, 1) := by decide +kernel
theorem dL_town_231 : decode cL_town 231 = .ok (.iconst 1, 1) := by decide +kernel
theorem dL_town_232 : decode cL_town 232 = .ok (.iload 7, 2) := by decide +kernel
theorem dL_town_234 : decode cL_town 234 = .ok (.iconst 2, 1) := by decide +kernel
theorem dL_town_235 : decode cL_town 235 = .ok (.idiv, 1) := by decide +kernel
theorem dL_town_236 : decode cL_town 236 = .ok (.iadd, 1) := by decide +kernel
theorem dL_town_237 : decode cL_town 237 = .ok (.invokestatic 15, 3) := by decide +kernel
theorem dL_town_240 : decode cL_town 240 = .ok (.bipush 14, 2) := by decide +kernel
theorem dL_town_242 : decode cL_town 242 = .ok (.iload 7, 2) := by decide +kernel
theorem dL_town_244 : decode cL_town 244 = .ok (.iconst 2, 1) := by decide +kernel
theorem dL_town_245 : decode cL_town 245 = .ok (.irem, 1) := by decide +kernel
theorem dL_town_246 : decode cL_town 246 = .ok (.imul, 1) := by decide +kernel
theorem dL_town_247 : decode cL_town 247 = .ok (.ishr, 1) := by decide +kernel
theorem dL_town_248 : decode cL_town 248 = .ok (.istore 8, 2) := by decide +kernel
theorem dL_town_250 : decode cL_town 250 = .ok (.aload_n 3, 1) := by decide +kernel
theorem dL_town_251 : decode cL_town 251 = .ok (.iconst 1, 1) := by decide +kernel
theorem dL_town_252 : decode cL_town 252 = .ok (.iload 7, 2) := by decide +kernel
theorem dL_town_254 : decode cL_town 254 = .ok (.iadd, 1) := by decide +kernel
theorem dL_town_255 : decode cL_town 255 = .ok (.iload 8, 2) := by decide +kernel
theorem dL_town_257 : decode cL_town 257 = .ok (.bipush 6, 2) := by decide +kernel
theorem dL_town_259 : decode cL_town 259 = .ok (.invokestatic 21, 3) := by decide +kernel
theorem dL_town_262 : decode cL_town 262 = .ok (.iastore, 1) := by decide +kernel
theorem dL_town_263 : decode cL_town 263 = .ok (.aload_n 3, 1) := by decide +kernel
theorem dL_town_264 : decode cL_town 264 = .ok (.bipush 7, 2) := by decide +kernel
theorem dL_town_266 : decode cL_town 266 = .ok (.iload 7, 2) := by decide +kernel
theorem dL_town_268 : decode cL_town 268 = .ok (.iadd, 1) := by decide +kernel
theorem dL_town_269 : decode cL_town 269 = .ok (.iload 8, 2) := by decide +kernel
theorem dL_town_271 : decode cL_town 271 = .ok (.iconst 3, 1) := by decide +kernel
theorem dL_town_272 : decode cL_town 272 = .ok (.ishr, 1) := by decide +kernel
theorem dL_town_273 : decode cL_town 273 = .ok (.bipush 10, 2) := by decide +kernel
theorem dL_town_275 : decode cL_town 275 = .ok (.invokestatic 21, 3) := by decide +kernel
theorem dL_town_278 : decode cL_town 278 = .ok (.iastore, 1) := by decide +kernel
theorem dL_town_279 : decode cL_town 279 = .ok (.aload 4, 2) := by decide +kernel
theorem dL_town_281 : decode cL_town 281 = .ok (.iconst 2, 1) := by decide +kernel
theorem dL_town_282 : decode cL_town 282 = .ok (.iload 7, 2) := by decide +kernel
theorem dL_town_284 : decode cL_town 284 = .ok (.iadd, 1) := by decide +kernel
theorem dL_town_285 : decode cL_town 285 = .ok (.iload 8, 2) := by decide +kernel
theorem dL_town_287 : decode cL_town 287 = .ok (.bipush 6, 2) := by decide +kernel
theorem dL_town_289 : decode cL_town 289 = .ok (.ishr, 1) := by decide +kernel
theorem dL_town_290 : decode cL_town 290 = .ok (.bipush 10, 2) := by decide +kernel
theorem dL_town_292 : decode cL_town 292 = .ok (.invokestatic 21, 3) := by decide +kernel
theorem dL_town_295 : decode cL_town 295 = .ok (.iastore, 1) := by decide +kernel
theorem dL_town_296 : decode cL_town 296 = .ok (.aload 4, 2) := by decide +kernel
theorem dL_town_298 : decode cL_town 298 = .ok (.bipush 8, 2) := by decide +kernel
theorem dL_town_300 : decode cL_town 300 = .ok (.iload 7, 2) := by decide +kernel
theorem dL_town_302 : decode cL_town 302 = .ok (.iadd, 1) := by decide +kernel
theorem dL_town_303 : decode cL_town 303 = .ok (.iload 8, 2) := by decide +kernel
theorem dL_town_305 : decode cL_town 305 = .ok (.bipush 13, 2) := by decide +kernel
theorem dL_town_307 : decode cL_town 307 = .ok (.ishr, 1) := by decide +kernel
theorem dL_town_308 : decode cL_town 308 = .ok (.iconst 1, 1) := by decide +kernel
theorem dL_town_309 : decode cL_town 309 = .ok (.iand, 1) := by decide +kernel
theorem dL_town_310 : decode cL_town 310 = .ok (.ifCond .ne 16, 3) := by decide +kernel
theorem dL_town_313 : decode cL_town 313 = .ok (.iload 8, 2) := by decide +kernel
theorem dL_town_315 : decode cL_town 315 = .ok (.bipush 9, 2) := by decide +kernel
theorem dL_town_317 : decode cL_town 317 = .ok (.ishr, 1) := by decide +kernel
theorem dL_town_318 : decode cL_town 318 = .ok (.bipush 10, 2) := by decide +kernel
theorem dL_town_320 : decode cL_town 320 = .ok (.invokestatic 21, 3) := by decide +kernel
theorem dL_town_323 : decode cL_town 323 = .ok (.goto 12, 3) := by decide +kernel
theorem dL_town_326 : decode cL_town 326 = .ok (.iload 8, 2) := by decide +kernel
theorem dL_town_328 : decode cL_town 328 = .ok (.bipush 9, 2) := by decide +kernel
theorem dL_town_330 : decode cL_town 330 = .ok (.ishr, 1) := by decide +kernel
theorem dL_town_331 : decode cL_town 331 = .ok (.iconst 4, 1) := by decide +kernel
theorem dL_town_332 : decode cL_town 332 = .ok (.invokestatic 21, 3) := by decide +kernel
theorem dL_town_335 : decode cL_town 335 = .ok (.iastore, 1) := by decide +kernel
theorem dL_town_336 : decode cL_town 336 = .ok (.aload_n 0, 1) := by decide +kernel
theorem dL_town_337 : decode cL_town 337 = .ok (.aload_n 3, 1) := by decide +kernel
theorem dL_town_338 : decode cL_town 338 = .ok (.aload_n 3, 1) := by decide +kernel
theorem dL_town_339 : decode cL_town 339 = .ok (.iconst 1, 1) := by decide +kernel
theorem dL_town_340 : decode cL_town 340 = .ok (.iload 7, 2) := by decide +kernel
theorem dL_town_342 : decode cL_town 342 = .ok (.iadd, 1) := by decide +kernel
theorem dL_town_343 : decode cL_town 343 = .ok (.iaload, 1) := by decide +kernel
theorem dL_town_344 : decode cL_town 344 = .ok (.invokestatic 32, 3) := by decide +kernel
theorem dL_town_347 : decode cL_town 347 = .ok (.invokestatic 28, 3) := by decide +kernel
theorem dL_town_350 : decode cL_town 350 = .ok (.ifCond .eq 62, 3) := by decide +kernel
theorem dL_town_353 : decode cL_town 353 = .ok (.aload_n 0, 1) := by decide +kernel
theorem dL_town_354 : decode cL_town 354 = .ok (.aload_n 3, 1) := by decide +kernel
theorem dL_town_355 : decode cL_town 355 = .ok (.bipush 48, 2) := by decide +kernel
theorem dL_town_357 : decode cL_town 357 = .ok (.aload_n 3, 1) := by decide +kernel
theorem dL_town_358 : decode cL_town 358 = .ok (.bipush 7, 2) := by decide +kernel
theorem dL_town_360 : decode cL_town 360 = .ok (.iload 7, 2) := by decide +kernel
theorem dL_town_362 : decode cL_town 362 = .ok (.iadd, 1) := by decide +kernel
theorem dL_town_363 : decode cL_town 363 = .ok (.iaload, 1) := by decide +kernel
theorem dL_town_364 : decode cL_town 364 = .ok (.iadd, 1) := by decide +kernel
theorem dL_town_365 : decode cL_town 365 = .ok (.invokestatic 28, 3) := by decide +kernel
theorem dL_town_368 : decode cL_town 368 = .ok (.ifCond .eq 44, 3) := by decide +kernel
theorem dL_town_371 : decode cL_town 371 = .ok (.aload_n 0, 1) := by decide +kernel
theorem dL_town_372 : decode cL_town 372 = .ok (.aload_n 3, 1) := by decide +kernel
theorem dL_town_373 : decode cL_town 373 = .ok (.bipush 48, 2) := by decide +kernel
theorem dL_town_375 : decode cL_town 375 = .ok (.aload 4, 2) := by decide +kernel
theorem dL_town_377 : decode cL_town 377 = .ok (.iconst 2, 1) := by decide +kernel
theorem dL_town_378 : decode cL_town 378 = .ok (.iload 7, 2) := by decide +kernel
theorem dL_town_380 : decode cL_town 380 = .ok (.iadd, 1) := by decide +kernel
theorem dL_town_381 : decode cL_town 381 = .ok (.iaload, 1) := by decide +kernel
theorem dL_town_382 : decode cL_town 382 = .ok (.iadd, 1) := by decide +kernel
theorem dL_town_383 : decode cL_town 383 = .ok (.invokestatic 28, 3) := by decide +kernel
theorem dL_town_386 : decode cL_town 386 = .ok (.ifCond .eq 26, 3) := by decide +kernel
theorem dL_town_389 : decode cL_town 389 = .ok (.aload_n 0, 1) := by decide +kernel
theorem dL_town_390 : decode cL_town 390 = .ok (.aload_n 3, 1) := by decide +kernel
theorem dL_town_391 : decode cL_town 391 = .ok (.bipush 48, 2) := by decide +kernel
theorem dL_town_393 : decode cL_town 393 = .ok (.aload 4, 2) := by decide +kernel
theorem dL_town_395 : decode cL_town 395 = .ok (.bipush 8, 2) := by decide +kernel
theorem dL_town_397 : decode cL_town 397 = .ok (.iload 7, 2) := by decide +kernel
theorem dL_town_399 : decode cL_town 399 = .ok (.iadd, 1) := by decide +kernel
theorem dL_town_400 : decode cL_town 400 = .ok (.iaload, 1) := by decide +kernel
theorem dL_town_401 : decode cL_town 401 = .ok (.iadd, 1) := by decide +kernel
theorem dL_town_402 : decode cL_town 402 = .ok (.invokestatic 28, 3) := by decide +kernel
theorem dL_town_405 : decode cL_town 405 = .ok (.ifCond .eq 7, 3) := by decide +kernel
theorem dL_town_408 : decode cL_town 408 = .ok (.iconst 1, 1) := by decide +kernel
theorem dL_town_409 : decode cL_town 409 = .ok (.goto 4, 3) := by decide +kernel
theorem dL_town_412 : decode cL_town 412 = .ok (.iconst 0, 1) := by decide +kernel
theorem dL_town_413 : decode cL_town 413 = .ok (.istore 6, 2) := by decide +kernel
theorem dL_town_415 : decode cL_town 415 = .ok (.iinc 7 1, 3) := by decide +kernel
theorem dL_town_418 : decode cL_town 418 = .ok (.goto (-201), 3) := by decide +kernel
theorem dL_town_421 : decode cL_town 421 = .ok (.iload 6, 2) := by decide +kernel
theorem dL_town_423 : decode cL_town 423 = .ok (.ifCond .eq 28, 3) := by decide +kernel
theorem dL_town_426 : decode cL_town 426 = .ok (.aload_n 0, 1) := by decide +kernel
theorem dL_town_427 : decode cL_town 427 = .ok (.iconst 0, 1) := by decide +kernel
theorem dL_town_428 : decode cL_town 428 = .ok (.invokevirtual 36, 3) := by decide +kernel
theorem dL_town_431 : decode cL_town 431 = .ok (.bipush (-9), 2) := by decide +kernel
theorem dL_town_433 : decode cL_town 433 = .ok (.if_icmp .ne 18, 3) := by decide +kernel
theorem dL_town_436 : decode cL_town 436 = .ok (.aload_n 0, 1) := by decide +kernel
theorem dL_town_437 : decode cL_town 437 = .ok (.iconst 0, 1) := by decide +kernel
theorem dL_town_438 : decode cL_town 438 = .ok (.invokevirtual 39, 3) := by decide +kernel
theorem dL_town_441 : decode cL_town 441 = .ok (.aload_n 3, 1) := by decide +kernel
theorem dL_town_442 : decode cL_town 442 = .ok (.iconst 0, 1) := by decide +kernel
theorem dL_town_443 : decode cL_town 443 = .ok (.iaload, 1) := by decide +kernel
theorem dL_town_444 : decode cL_town 444 = .ok (.if_icmp .ne 7, 3) := by decide +kernel
theorem dL_town_447 : decode cL_town 447 = .ok (.iconst 1, 1) := by decide +kernel
theorem dL_town_448 : decode cL_town 448 = .ok (.goto 4, 3) := by decide +kernel
theorem dL_town_451 : decode cL_town 451 = .ok (.iconst 0, 1) := by decide +kernel
theorem dL_town_452 : decode cL_town 452 = .ok (.ireturn, 1) := by decide +kernel
theorem dL_act_0 : decode cL_act 0 = .ok (.iload_n 1, 1) := by decide +kernel
theorem dL_act_1 : decode cL_act 1 = .ok (.iconst 4, 1) := by decide +kernel
theorem dL_act_2 : decode cL_act 2 = .ok (.ishr, 1) := by decide +kernel
theorem dL_act_3 : decode cL_act 3 = .ok (.bipush 9, 2) := by decide +kernel
theorem dL_act_5 : decode cL_act 5 = .ok (.invokestatic 21, 3) := by decide +kernel
theorem dL_act_8 : decode cL_act 8 = .ok (.iconst 1, 1) := by decide +kernel
theorem dL_act_9 : decode cL_act 9 = .ok (.isub, 1) := by decide +kernel
theorem dL_act_10 : decode cL_act 10 = .ok (.istore_n 2, 1) := by decide +kernel
theorem dL_act_11 : decode cL_act 11 = .ok (.iload_n 1, 1) := by decide +kernel
theorem dL_act_12 : decode cL_act 12 = .ok (.bipush 8, 2) := by decide +kernel
theorem dL_act_14 : decode cL_act 14 = .ok (.ishr, 1) := by decide +kernel
theorem dL_act_15 : decode cL_act 15 = .ok (.bipush 43, 2) := by decide +kernel
theorem dL_act_17 : decode cL_act 17 = .ok (.invokestatic 21, 3) := by decide +kernel
theorem dL_act_20 : decode cL_act 20 = .ok (.iconst 1, 1) := by decide +kernel
theorem dL_act_21 : decode cL_act 21 = .ok (.isub, 1) := by decide +kernel
theorem dL_act_22 : decode cL_act 22 = .ok (.istore_n 3, 1) := by decide +kernel
theorem dL_act_23 : decode cL_act 23 = .ok (.iload_n 1, 1) := by decide +kernel
theorem dL_act_24 : decode cL_act 24 = .ok (.bipush 15, 2) := by decide +kernel
theorem dL_act_26 : decode cL_act 26 = .ok (.iand, 1) := by decide +kernel
theorem dL_act_27 : decode cL_act 27 = .ok (.tableswitch 329 0 14 #[73, 73, 78, 84, 90, 100, 126, 149, 156, 170, 194, 217, 245, 271, 298], 73) := by decide +kernel
theorem dL_act_100 : decode cL_act 100 = .ok (.aload_n 0, 1) := by decide +kernel
theorem dL_act_101 : decode cL_act 101 = .ok (.invokevirtual 61, 3) := by decide +kernel
theorem dL_act_104 : decode cL_act 104 = .ok (.ireturn, 1) := by decide +kernel
theorem dL_act_105 : decode cL_act 105 = .ok (.aload_n 0, 1) := by decide +kernel
theorem dL_act_106 : decode cL_act 106 = .ok (.iload_n 2, 1) := by decide +kernel
theorem dL_act_107 : decode cL_act 107 = .ok (.invokevirtual 64, 3) := by decide +kernel
theorem dL_act_110 : decode cL_act 110 = .ok (.ireturn, 1) := by decide +kernel
theorem dL_act_111 : decode cL_act 111 = .ok (.aload_n 0, 1) := by decide +kernel
theorem dL_act_112 : decode cL_act 112 = .ok (.iload_n 2, 1) := by decide +kernel
theorem dL_act_113 : decode cL_act 113 = .ok (.invokevirtual 67, 3) := by decide +kernel
theorem dL_act_116 : decode cL_act 116 = .ok (.ireturn, 1) := by decide +kernel
theorem dL_act_117 : decode cL_act 117 = .ok (.aload_n 0, 1) := by decide +kernel
theorem dL_act_118 : decode cL_act 118 = .ok (.iload_n 2, 1) := by decide +kernel
theorem dL_act_119 : decode cL_act 119 = .ok (.iload_n 3, 1) := by decide +kernel
theorem dL_act_120 : decode cL_act 120 = .ok (.bipush 7, 2) := by decide +kernel
theorem dL_act_122 : decode cL_act 122 = .ok (.irem, 1) := by decide +kernel
theorem dL_act_123 : decode cL_act 123 = .ok (.invokevirtual 70, 3) := by decide +kernel
theorem dL_act_126 : decode cL_act 126 = .ok (.ireturn, 1) := by decide +kernel
theorem dL_act_127 : decode cL_act 127 = .ok (.iload_n 1, 1) := by decide +kernel
theorem dL_act_128 : decode cL_act 128 = .ok (.bipush 16, 2) := by decide +kernel
theorem dL_act_130 : decode cL_act 130 = .ok (.ishr, 1) := by decide +kernel
theorem dL_act_131 : decode cL_act 131 = .ok (.iconst 1, 1) := by decide +kernel
theorem dL_act_132 : decode cL_act 132 = .ok (.iand, 1) := by decide +kernel
theorem dL_act_133 : decode cL_act 133 = .ok (.ifCond .ne 11, 3) := by decide +kernel
theorem dL_act_136 : decode cL_act 136 = .ok (.aload_n 0, 1) := by decide +kernel
theorem dL_act_137 : decode cL_act 137 = .ok (.iload_n 3, 1) := by decide +kernel
theorem dL_act_138 : decode cL_act 138 = .ok (.invokevirtual 73, 3) := by decide +kernel
theorem dL_act_141 : decode cL_act 141 = .ok (.goto 11, 3) := by decide +kernel
theorem dL_act_144 : decode cL_act 144 = .ok (.aload_n 0, 1) := by decide +kernel
theorem dL_act_145 : decode cL_act 145 = .ok (.iload_n 3, 1) := by decide +kernel
theorem dL_act_146 : decode cL_act 146 = .ok (.iconst 4, 1) := by decide +kernel
theorem dL_act_147 : decode cL_act 147 = .ok (.irem, 1) := by decide +kernel
theorem dL_act_148 : decode cL_act 148 = .ok (.iload_n 3, 1) := by decide +kernel
theorem dL_act_149 : decode cL_act 149 = .ok (.invokevirtual 76, 3) := by decide +kernel
theorem dL_act_152 : decode cL_act 152 = .ok (.ireturn, 1) := by decide +kernel
theorem dL_act_153 : decode cL_act 153 = .ok (.iload_n 1, 1) := by decide +kernel
theorem dL_act_154 : decode cL_act 154 = .ok (.bipush 16, 2) := by decide +kernel
theorem dL_act_156 : decode cL_act 156 = .ok (.ishr, 1) := by decide +kernel
theorem dL_act_157 : decode cL_act 157 = .ok (.iconst 1, 1) := by decide +kernel
theorem dL_act_158 : decode cL_act 158 = .ok (.iand, 1) := by decide +kernel
theorem dL_act_159 : decode cL_act 159 = .ok (.ifCond .ne 11, 3) := by decide +kernel
theorem dL_act_162 : decode cL_act 162 = .ok (.aload_n 0, 1) := by decide +kernel
theorem dL_act_163 : decode cL_act 163 = .ok (.iload_n 2, 1) := by decide +kernel
theorem dL_act_164 : decode cL_act 164 = .ok (.invokevirtual 79, 3) := by decide +kernel
theorem dL_act_167 : decode cL_act 167 = .ok (.goto 8, 3) := by decide +kernel
theorem dL_act_170 : decode cL_act 170 = .ok (.aload_n 0, 1) := by decide +kernel
theorem dL_act_171 : decode cL_act 171 = .ok (.iload_n 2, 1) := by decide +kernel
theorem dL_act_172 : decode cL_act 172 = .ok (.invokevirtual 82, 3) := by decide +kernel
theorem dL_act_175 : decode cL_act 175 = .ok (.ireturn, 1) := by decide +kernel
theorem dL_act_176 : decode cL_act 176 = .ok (.aload_n 0, 1) := by decide +kernel
theorem dL_act_177 : decode cL_act 177 = .ok (.iload_n 2, 1) := by decide +kernel
theorem dL_act_178 : decode cL_act 178 = .ok (.iload_n 3, 1) := by decide +kernel
theorem dL_act_179 : decode cL_act 179 = .ok (.invokevirtual 85, 3) := by decide +kernel
theorem dL_act_182 : decode cL_act 182 = .ok (.ireturn, 1) := by decide +kernel
theorem dL_act_183 : decode cL_act 183 = .ok (.aload_n 0, 1) := by decide +kernel
theorem dL_act_184 : decode cL_act 184 = .ok (.iload_n 2, 1) := by decide +kernel
theorem dL_act_185 : decode cL_act 185 = .ok (.iload_n 3, 1) := by decide +kernel
theorem dL_act_186 : decode cL_act 186 = .ok (.bipush 9, 2) := by decide +kernel
theorem dL_act_188 : decode cL_act 188 = .ok (.irem, 1) := by decide +kernel
theorem dL_act_189 : decode cL_act 189 = .ok (.iload_n 3, 1) := by decide +kernel
theorem dL_act_190 : decode cL_act 190 = .ok (.bipush 12, 2) := by decide +kernel
theorem dL_act_192 : decode cL_act 192 = .ok (.irem, 1) := by decide +kernel
theorem dL_act_193 : decode cL_act 193 = .ok (.invokevirtual 88, 3) := by decide +kernel
theorem dL_act_196 : decode cL_act 196 = .ok (.ireturn, 1) := by decide +kernel
theorem dL_act_197 : decode cL_act 197 = .ok (.aload_n 0, 1) := by decide +kernel
theorem dL_act_198 : decode cL_act 198 = .ok (.iload_n 2, 1) := by decide +kernel
theorem dL_act_199 : decode cL_act 199 = .ok (.iload_n 3, 1) := by decide +kernel
theorem dL_act_200 : decode cL_act 200 = .ok (.iconst 5, 1) := by decide +kernel
theorem dL_act_201 : decode cL_act 201 = .ok (.irem, 1) := by decide +kernel
theorem dL_act_202 : decode cL_act 202 = .ok (.iload_n 1, 1) := by decide +kernel
theorem dL_act_203 : decode cL_act 203 = .ok (.bipush 12, 2) := by decide +kernel
theorem dL_act_205 : decode cL_act 205 = .ok (.ishr, 1) := by decide +kernel
theorem dL_act_206 : decode cL_act 206 = .ok (.bipush 7, 2) := by decide +kernel
theorem dL_act_208 : decode cL_act 208 = .ok (.invokestatic 21, 3) := by decide +kernel
theorem dL_act_211 : decode cL_act 211 = .ok (.iload_n 3, 1) := by decide +kernel
theorem dL_act_212 : decode cL_act 212 = .ok (.iconst 3, 1) := by decide +kernel
theorem dL_act_213 : decode cL_act 213 = .ok (.irem, 1) := by decide +kernel
theorem dL_act_214 : decode cL_act 214 = .ok (.iload_n 3, 1) := by decide +kernel
theorem dL_act_215 : decode cL_act 215 = .ok (.iconst 4, 1) := by decide +kernel
theorem dL_act_216 : decode cL_act 216 = .ok (.irem, 1) := by decide +kernel
theorem dL_act_217 : decode cL_act 217 = .ok (.invokevirtual 91, 3) := by decide +kernel
theorem dL_act_220 : decode cL_act 220 = .ok (.ireturn, 1) := by decide +kernel
theorem dL_act_221 : decode cL_act 221 = .ok (.iload_n 1, 1) := by decide +kernel
theorem dL_act_222 : decode cL_act 222 = .ok (.bipush 16, 2) := by decide +kernel
theorem dL_act_224 : decode cL_act 224 = .ok (.ishr, 1) := by decide +kernel
theorem dL_act_225 : decode cL_act 225 = .ok (.iconst 1, 1) := by decide +kernel
theorem dL_act_226 : decode cL_act 226 = .ok (.iand, 1) := by decide +kernel
theorem dL_act_227 : decode cL_act 227 = .ok (.ifCond .ne 11, 3) := by decide +kernel
theorem dL_act_230 : decode cL_act 230 = .ok (.aload_n 0, 1) := by decide +kernel
theorem dL_act_231 : decode cL_act 231 = .ok (.iload_n 2, 1) := by decide +kernel
theorem dL_act_232 : decode cL_act 232 = .ok (.invokevirtual 95, 3) := by decide +kernel
theorem dL_act_235 : decode cL_act 235 = .ok (.goto 8, 3) := by decide +kernel
theorem dL_act_238 : decode cL_act 238 = .ok (.aload_n 0, 1) := by decide +kernel
theorem dL_act_239 : decode cL_act 239 = .ok (.iload_n 2, 1) := by decide +kernel
theorem dL_act_240 : decode cL_act 240 = .ok (.invokevirtual 98, 3) := by decide +kernel
theorem dL_act_243 : decode cL_act 243 = .ok (.ireturn, 1) := by decide +kernel
theorem dL_act_244 : decode cL_act 244 = .ok (.iload_n 1, 1) := by decide +kernel
theorem dL_act_245 : decode cL_act 245 = .ok (.bipush 16, 2) := by decide +kernel
theorem dL_act_247 : decode cL_act 247 = .ok (.ishr, 1) := by decide +kernel
theorem dL_act_248 : decode cL_act 248 = .ok (.iconst 3, 1) := by decide +kernel
theorem dL_act_249 : decode cL_act 249 = .ok (.iand, 1) := by decide +kernel
theorem dL_act_250 : decode cL_act 250 = .ok (.ifCond .ne 12, 3) := by decide +kernel
theorem dL_act_253 : decode cL_act 253 = .ok (.aload_n 0, 1) := by decide +kernel
theorem dL_act_254 : decode cL_act 254 = .ok (.iload_n 2, 1) := by decide +kernel
theorem dL_act_255 : decode cL_act 255 = .ok (.iload_n 3, 1) := by decide +kernel
theorem dL_act_256 : decode cL_act 256 = .ok (.invokevirtual 25, 3) := by decide +kernel
theorem dL_act_259 : decode cL_act 259 = .ok (.goto 12, 3) := by decide +kernel
theorem dL_act_262 : decode cL_act 262 = .ok (.aload_n 0, 1) := by decide +kernel
theorem dL_act_263 : decode cL_act 263 = .ok (.iload_n 2, 1) := by decide +kernel
theorem dL_act_264 : decode cL_act 264 = .ok (.iload_n 3, 1) := by decide +kernel
theorem dL_act_265 : decode cL_act 265 = .ok (.iconst 3, 1) := by decide +kernel
theorem dL_act_266 : decode cL_act 266 = .ok (.iload_n 3, 1) := by decide +kernel
theorem dL_act_267 : decode cL_act 267 = .ok (.imul, 1) := by decide +kernel
theorem dL_act_268 : decode cL_act 268 = .ok (.invokevirtual 9, 3) := by decide +kernel
theorem dL_act_271 : decode cL_act 271 = .ok (.ireturn, 1) := by decide +kernel
theorem dL_act_272 : decode cL_act 272 = .ok (.iload_n 1, 1) := by decide +kernel
theorem dL_act_273 : decode cL_act 273 = .ok (.bipush 16, 2) := by decide +kernel
theorem dL_act_275 : decode cL_act 275 = .ok (.ishr, 1) := by decide +kernel
theorem dL_act_276 : decode cL_act 276 = .ok (.iconst 1, 1) := by decide +kernel
theorem dL_act_277 : decode cL_act 277 = .ok (.iand, 1) := by decide +kernel
theorem dL_act_278 : decode cL_act 278 = .ok (.ifCond .ne 14, 3) := by decide +kernel
theorem dL_act_281 : decode cL_act 281 = .ok (.aload_n 0, 1) := by decide +kernel
theorem dL_act_282 : decode cL_act 282 = .ok (.iload_n 3, 1) := by decide +kernel
theorem dL_act_283 : decode cL_act 283 = .ok (.iconst 3, 1) := by decide +kernel
theorem dL_act_284 : decode cL_act 284 = .ok (.irem, 1) := by decide +kernel
theorem dL_act_285 : decode cL_act 285 = .ok (.iload_n 2, 1) := by decide +kernel
theorem dL_act_286 : decode cL_act 286 = .ok (.invokevirtual 101, 3) := by decide +kernel
theorem dL_act_289 : decode cL_act 289 = .ok (.goto 8, 3) := by decide +kernel
theorem dL_act_292 : decode cL_act 292 = .ok (.aload_n 0, 1) := by decide +kernel
theorem dL_act_293 : decode cL_act 293 = .ok (.iload_n 2, 1) := by decide +kernel
theorem dL_act_294 : decode cL_act 294 = .ok (.invokevirtual 104, 3) := by decide +kernel
theorem dL_act_297 : decode cL_act 297 = .ok (.ireturn, 1) := by decide +kernel
theorem dL_act_298 : decode cL_act 298 = .ok (.iload_n 1, 1) := by decide +kernel
theorem dL_act_299 : decode cL_act 299 = .ok (.bipush 16, 2) := by decide +kernel
theorem dL_act_301 : decode cL_act 301 = .ok (.ishr, 1) := by decide +kernel
theorem dL_act_302 : decode cL_act 302 = .ok (.iconst 1, 1) := by decide +kernel
theorem dL_act_303 : decode cL_act 303 = .ok (.iand, 1) := by decide +kernel
theorem dL_act_304 : decode cL_act 304 = .ok (.ifCond .ne 15, 3) := by decide +kernel
theorem dL_act_307 : decode cL_act 307 = .ok (.aload_n 0, 1) := by decide +kernel
theorem dL_act_308 : decode cL_act 308 = .ok (.iload_n 2, 1) := by decide +kernel
theorem dL_act_309 : decode cL_act 309 = .ok (.iload_n 3, 1) := by decide +kernel
theorem dL_act_310 : decode cL_act 310 = .ok (.bipush 7, 2) := by decide +kernel
theorem dL_act_312 : decode cL_act 312 = .ok (.irem, 1) := by decide +kernel
theorem dL_act_313 : decode cL_act 313 = .ok (.invokevirtual 107, 3) := by decide +kernel
theorem dL_act_316 : decode cL_act 316 = .ok (.goto 8, 3) := by decide +kernel
theorem dL_act_319 : decode cL_act 319 = .ok (.aload_n 0, 1) := by decide +kernel
theorem dL_act_320 : decode cL_act 320 = .ok (.iload_n 2, 1) := by decide +kernel
theorem dL_act_321 : decode cL_act 321 = .ok (.invokevirtual 110, 3) := by decide +kernel
theorem dL_act_324 : decode cL_act 324 = .ok (.ireturn, 1) := by decide +kernel
theorem dL_act_325 : decode cL_act 325 = .ok (.iload_n 1, 1) := by decide +kernel
theorem dL_act_326 : decode cL_act 326 = .ok (.bipush 16, 2) := by decide +kernel
theorem dL_act_328 : decode cL_act 328 = .ok (.ishr, 1) := by decide +kernel
theorem dL_act_329 : decode cL_act 329 = .ok (.iconst 1, 1) := by decide +kernel
theorem dL_act_330 : decode cL_act 330 = .ok (.iand, 1) := by decide +kernel
theorem dL_act_331 : decode cL_act 331 = .ok (.ifCond .ne 15, 3) := by decide +kernel
theorem dL_act_334 : decode cL_act 334 = .ok (.aload_n 0, 1) := by decide +kernel
theorem dL_act_335 : decode cL_act 335 = .ok (.iload_n 2, 1) := by decide +kernel
theorem dL_act_336 : decode cL_act 336 = .ok (.iload_n 3, 1) := by decide +kernel
theorem dL_act_337 : decode cL_act 337 = .ok (.bipush 14, 2) := by decide +kernel
theorem dL_act_339 : decode cL_act 339 = .ok (.irem, 1) := by decide +kernel
theorem dL_act_340 : decode cL_act 340 = .ok (.invokevirtual 113, 3) := by decide +kernel
theorem dL_act_343 : decode cL_act 343 = .ok (.goto 12, 3) := by decide +kernel
theorem dL_act_346 : decode cL_act 346 = .ok (.aload_n 0, 1) := by decide +kernel
theorem dL_act_347 : decode cL_act 347 = .ok (.iload_n 2, 1) := by decide +kernel
theorem dL_act_348 : decode cL_act 348 = .ok (.iload_n 3, 1) := by decide +kernel
theorem dL_act_349 : decode cL_act 349 = .ok (.bipush 7, 2) := by decide +kernel
theorem dL_act_351 : decode cL_act 351 = .ok (.irem, 1) := by decide +kernel
theorem dL_act_352 : decode cL_act 352 = .ok (.invokevirtual 116, 3) := by decide +kernel
theorem dL_act_355 : decode cL_act 355 = .ok (.ireturn, 1) := by decide +kernel
theorem dL_act_356 : decode cL_act 356 = .ok (.iload_n 1, 1) := by decide +kernel
theorem dL_act_357 : decode cL_act 357 = .ok (.bipush 16, 2) := by decide +kernel
theorem dL_act_359 : decode cL_act 359 = .ok (.ishr, 1) := by decide +kernel
theorem dL_act_360 : decode cL_act 360 = .ok (.iconst 3, 1) := by decide +kernel
theorem dL_act_361 : decode cL_act 361 = .ok (.iand, 1) := by decide +kernel
theorem dL_act_362 : decode cL_act 362 = .ok (.ifCond .ne 11, 3) := by decide +kernel
theorem dL_act_365 : decode cL_act 365 = .ok (.aload_n 0, 1) := by decide +kernel
theorem dL_act_366 : decode cL_act 366 = .ok (.iload_n 2, 1) := by decide +kernel
theorem dL_act_367 : decode cL_act 367 = .ok (.invokevirtual 39, 3) := by decide +kernel
theorem dL_act_370 : decode cL_act 370 = .ok (.goto 9, 3) := by decide +kernel
theorem dL_act_373 : decode cL_act 373 = .ok (.aload_n 0, 1) := by decide +kernel
theorem dL_act_374 : decode cL_act 374 = .ok (.iload_n 2, 1) := by decide +kernel
theorem dL_act_375 : decode cL_act 375 = .ok (.iload_n 3, 1) := by decide +kernel
theorem dL_act_376 : decode cL_act 376 = .ok (.invokevirtual 119, 3) := by decide +kernel
theorem dL_act_379 : decode cL_act 379 = .ok (.ireturn, 1) := by decide +kernel
theorem dL_isLeft_0 : decode cL_isLeft 0 = .ok (.iload_n 1, 1) := by decide +kernel
theorem dL_isLeft_1 : decode cL_isLeft 1 = .ok (.iconst 1, 1) := by decide +kernel
theorem dL_isLeft_2 : decode cL_isLeft 2 = .ok (.iand, 1) := by decide +kernel
theorem dL_isLeft_3 : decode cL_isLeft 3 = .ok (.ifCond .ne 17, 3) := by decide +kernel
theorem dL_isLeft_6 : decode cL_isLeft 6 = .ok (.sipush 1000, 3) := by decide +kernel
theorem dL_isLeft_9 : decode cL_isLeft 9 = .ok (.iload_n 1, 1) := by decide +kernel
theorem dL_isLeft_10 : decode cL_isLeft 10 = .ok (.iconst 1, 1) := by decide +kernel
theorem dL_isLeft_11 : decode cL_isLeft 11 = .ok (.ishr, 1) := by decide +kernel
theorem dL_isLeft_12 : decode cL_isLeft 12 = .ok (.sipush 1023, 3) := by decide +kernel
theorem dL_isLeft_15 : decode cL_isLeft 15 = .ok (.iand, 1) := by decide +kernel
theorem dL_isLeft_16 : decode cL_isLeft 16 = .ok (.iadd, 1) := by decide +kernel
theorem dL_isLeft_17 : decode cL_isLeft 17 = .ok (.goto 14, 3) := by decide +kernel
theorem dL_isLeft_20 : decode cL_isLeft 20 = .ok (.sipush (-1000), 3) := by decide +kernel
theorem dL_isLeft_23 : decode cL_isLeft 23 = .ok (.iload_n 1, 1) := by decide +kernel
theorem dL_isLeft_24 : decode cL_isLeft 24 = .ok (.iconst 1, 1) := by decide +kernel
theorem dL_isLeft_25 : decode cL_isLeft 25 = .ok (.ishr, 1) := by decide +kernel
theorem dL_isLeft_26 : decode cL_isLeft 26 = .ok (.sipush 1023, 3) := by decide +kernel
theorem dL_isLeft_29 : decode cL_isLeft 29 = .ok (.iand, 1) := by decide +kernel
theorem dL_isLeft_30 : decode cL_isLeft 30 = .ok (.isub, 1) := by decide +kernel
theorem dL_isLeft_31 : decode cL_isLeft 31 = .ok (.istore_n 2, 1) := by decide +kernel
theorem dL_isLeft_32 : decode cL_isLeft 32 = .ok (.aload_n 0, 1) := by decide +kernel
theorem dL_isLeft_33 : decode cL_isLeft 33 = .ok (.iload_n 2, 1) := by decide +kernel
theorem dL_isLeft_34 : decode cL_isLeft 34 = .ok (.iconst 0, 1) := by decide +kernel
theorem dL_isLeft_35 : decode cL_isLeft 35 = .ok (.invokevirtual 85, 3) := by decide +kernel
theorem dL_isLeft_38 : decode cL_isLeft 38 = .ok (.iconst (-1), 1) := by decide +kernel
theorem dL_isLeft_39 : decode cL_isLeft 39 = .ok (.if_icmp .ne 336, 3) := by decide +kernel
theorem dL_isLeft_42 : decode cL_isLeft 42 = .ok (.aload_n 0, 1) := by decide +kernel
theorem dL_isLeft_43 : decode cL_isLeft 43 = .ok (.iload_n 2, 1) := by decide +kernel
theorem dL_isLeft_44 : decode cL_isLeft 44 = .ok (.iconst 0, 1) := by decide +kernel
theorem dL_isLeft_45 : decode cL_isLeft 45 = .ok (.iconst 0, 1) := by decide +kernel
theorem dL_isLeft_46 : decode cL_isLeft 46 = .ok (.invokevirtual 88, 3) := by decide +kernel
theorem dL_isLeft_49 : decode cL_isLeft 49 = .ok (.iconst (-1), 1) := by decide +kernel
theorem dL_isLeft_50 : decode cL_isLeft 50 = .ok (.if_icmp .ne 325, 3) := by decide +kernel
theorem dL_isLeft_53 : decode cL_isLeft 53 = .ok (.aload_n 0, 1) := by decide +kernel
theorem dL_isLeft_54 : decode cL_isLeft 54 = .ok (.iload_n 2, 1) := by decide +kernel
theorem dL_isLeft_55 : decode cL_isLeft 55 = .ok (.iconst 0, 1) := by decide +kernel
theorem dL_isLeft_56 : decode cL_isLeft 56 = .ok (.invokevirtual 122, 3) := by decide +kernel
theorem dL_isLeft_59 : decode cL_isLeft 59 = .ok (.iconst (-1), 1) := by decide +kernel
theorem dL_isLeft_60 : decode cL_isLeft 60 = .ok (.if_icmp .ne 315, 3) := by decide +kernel
theorem dL_isLeft_63 : decode cL_isLeft 63 = .ok (.aload_n 0, 1) := by decide +kernel
theorem dL_isLeft_64 : decode cL_isLeft 64 = .ok (.iload_n 2, 1) := by decide +kernel
theorem dL_isLeft_65 : decode cL_isLeft 65 = .ok (.invokevirtual 95, 3) := by decide +kernel
theorem dL_isLeft_68 : decode cL_isLeft 68 = .ok (.iconst (-1), 1) := by decide +kernel
theorem dL_isLeft_69 : decode cL_isLeft 69 = .ok (.if_icmp .ne 306, 3) := by decide +kernel
theorem dL_isLeft_72 : decode cL_isLeft 72 = .ok (.aload_n 0, 1) := by decide +kernel
theorem dL_isLeft_73 : decode cL_isLeft 73 = .ok (.iload_n 2, 1) := by decide +kernel
theorem dL_isLeft_74 : decode cL_isLeft 74 = .ok (.iconst 0, 1) := by decide +kernel
theorem dL_isLeft_75 : decode cL_isLeft 75 = .ok (.iconst 0, 1) := by decide +kernel
theorem dL_isLeft_76 : decode cL_isLeft 76 = .ok (.iconst 0, 1) := by decide +kernel
theorem dL_isLeft_77 : decode cL_isLeft 77 = .ok (.iconst 0, 1) := by decide +kernel
theorem dL_isLeft_78 : decode cL_isLeft 78 = .ok (.invokevirtual 91, 3) := by decide +kernel
theorem dL_isLeft_81 : decode cL_isLeft 81 = .ok (.iconst (-1), 1) := by decide +kernel
theorem dL_isLeft_82 : decode cL_isLeft 82 = .ok (.if_icmp .ne 293, 3) := by decide +kernel
theorem dL_isLeft_85 : decode cL_isLeft 85 = .ok (.aload_n 0, 1) := by decide +kernel
theorem dL_isLeft_86 : decode cL_isLeft 86 = .ok (.iload_n 2, 1) := by decide +kernel
theorem dL_isLeft_87 : decode cL_isLeft 87 = .ok (.invokevirtual 98, 3) := by decide +kernel
theorem dL_isLeft_90 : decode cL_isLeft 90 = .ok (.iconst (-1), 1) := by decide +kernel
theorem dL_isLeft_91 : decode cL_isLeft 91 = .ok (.if_icmp .ne 284, 3) := by decide +kernel
theorem dL_isLeft_94 : decode cL_isLeft 94 = .ok (.aload_n 0, 1) := by decide +kernel
theorem dL_isLeft_95 : decode cL_isLeft 95 = .ok (.iload_n 2, 1) := by decide +kernel
theorem dL_isLeft_96 : decode cL_isLeft 96 = .ok (.iconst 0, 1) := by decide +kernel
theorem dL_isLeft_97 : decode cL_isLeft 97 = .ok (.invokevirtual 25, 3) := by decide +kernel
theorem dL_isLeft_100 : decode cL_isLeft 100 = .ok (.iconst (-1), 1) := by decide +kernel
theorem dL_isLeft_101 : decode cL_isLeft 101 = .ok (.if_icmp .ne 274, 3) := by decide +kernel
theorem dL_isLeft_104 : decode cL_isLeft 104 = .ok (.aload_n 0, 1) := by decide +kernel
theorem dL_isLeft_105 : decode cL_isLeft 105 = .ok (.iload_n 2, 1) := by decide +kernel
theorem dL_isLeft_106 : decode cL_isLeft 106 = .ok (.iconst 0, 1) := by decide +kernel
theorem dL_isLeft_107 : decode cL_isLeft 107 = .ok (.iconst 0, 1) := by decide +kernel
theorem dL_isLeft_108 : decode cL_isLeft 108 = .ok (.invokevirtual 9, 3) := by decide +kernel
theorem dL_isLeft_111 : decode cL_isLeft 111 = .ok (.iconst (-1), 1) := by decide +kernel
theorem dL_isLeft_112 : decode cL_isLeft 112 = .ok (.if_icmp .ne 263, 3) := by decide +kernel
theorem dL_isLeft_115 : decode cL_isLeft 115 = .ok (.aload_n 0, 1) := by decide +kernel
theorem dL_isLeft_116 : decode cL_isLeft 116 = .ok (.iload_n 2, 1) := by decide +kernel
theorem dL_isLeft_117 : decode cL_isLeft 117 = .ok (.invokevirtual 36, 3) := by decide +kernel
theorem dL_isLeft_120 : decode cL_isLeft 120 = .ok (.iconst (-1), 1) := by decide +kernel
theorem dL_isLeft_121 : decode cL_isLeft 121 = .ok (.if_icmp .ne 254, 3) := by decide +kernel
theorem dL_isLeft_124 : decode cL_isLeft 124 = .ok (.aload_n 0, 1) := by decide +kernel
theorem dL_isLeft_125 : decode cL_isLeft 125 = .ok (.iload_n 2, 1) := by decide +kernel
theorem dL_isLeft_126 : decode cL_isLeft 126 = .ok (.invokevirtual 39, 3) := by decide +kernel
theorem dL_isLeft_129 : decode cL_isLeft 129 = .ok (.iconst (-1), 1) := by decide +kernel
theorem dL_isLeft_130 : decode cL_isLeft 130 = .ok (.if_icmp .ne 245, 3) := by decide +kernel
theorem dL_isLeft_133 : decode cL_isLeft 133 = .ok (.aload_n 0, 1) := by decide +kernel
theorem dL_isLeft_134 : decode cL_isLeft 134 = .ok (.iload_n 2, 1) := by decide +kernel
theorem dL_isLeft_135 : decode cL_isLeft 135 = .ok (.iconst 0, 1) := by decide +kernel
theorem dL_isLeft_136 : decode cL_isLeft 136 = .ok (.invokevirtual 125, 3) := by decide +kernel
theorem dL_isLeft_139 : decode cL_isLeft 139 = .ok (.iconst (-1), 1) := by decide +kernel
theorem dL_isLeft_140 : decode cL_isLeft 140 = .ok (.if_icmp .ne 235, 3) := by decide +kernel
theorem dL_isLeft_143 : decode cL_isLeft 143 = .ok (.aload_n 0, 1) := by decide +kernel
theorem dL_isLeft_144 : decode cL_isLeft 144 = .ok (.iload_n 2, 1) := by decide +kernel
theorem dL_isLeft_145 : decode cL_isLeft 145 = .ok (.iconst 1, 1) := by decide +kernel
theorem dL_isLeft_146 : decode cL_isLeft 146 = .ok (.invokevirtual 107, 3) := by decide +kernel
theorem dL_isLeft_149 : decode cL_isLeft 149 = .ok (.iconst (-1), 1) := by decide +kernel
theorem dL_isLeft_150 : decode cL_isLeft 150 = .ok (.if_icmp .ne 225, 3) := by decide +kernel
theorem dL_isLeft_153 : decode cL_isLeft 153 = .ok (.aload_n 0, 1) := by decide +kernel
theorem dL_isLeft_154 : decode cL_isLeft 154 = .ok (.iload_n 2, 1) := by decide +kernel
theorem dL_isLeft_155 : decode cL_isLeft 155 = .ok (.iconst 0, 1) := by decide +kernel
theorem dL_isLeft_156 : decode cL_isLeft 156 = .ok (.invokevirtual 128, 3) := by decide +kernel
theorem dL_isLeft_159 : decode cL_isLeft 159 = .ok (.iconst (-1), 1) := by decide +kernel
theorem dL_isLeft_160 : decode cL_isLeft 160 = .ok (.if_icmp .ne 215, 3) := by decide +kernel
theorem dL_isLeft_163 : decode cL_isLeft 163 = .ok (.aload_n 0, 1) := by decide +kernel
theorem dL_isLeft_164 : decode cL_isLeft 164 = .ok (.iload_n 2, 1) := by decide +kernel
theorem dL_isLeft_165 : decode cL_isLeft 165 = .ok (.invokevirtual 64, 3) := by decide +kernel
theorem dL_isLeft_168 : decode cL_isLeft 168 = .ok (.iconst (-1), 1) := by decide +kernel
theorem dL_isLeft_169 : decode cL_isLeft 169 = .ok (.if_icmp .ne 206, 3) := by decide +kernel
theorem dL_isLeft_172 : decode cL_isLeft 172 = .ok (.aload_n 0, 1) := by decide +kernel
theorem dL_isLeft_173 : decode cL_isLeft 173 = .ok (.iload_n 2, 1) := by decide +kernel
theorem dL_isLeft_174 : decode cL_isLeft 174 = .ok (.invokevirtual 67, 3) := by decide +kernel
theorem dL_isLeft_177 : decode cL_isLeft 177 = .ok (.iconst (-1), 1) := by decide +kernel
theorem dL_isLeft_178 : decode cL_isLeft 178 = .ok (.if_icmp .ne 197, 3) := by decide +kernel
theorem dL_isLeft_181 : decode cL_isLeft 181 = .ok (.aload_n 0, 1) := by decide +kernel
theorem dL_isLeft_182 : decode cL_isLeft 182 = .ok (.iload_n 2, 1) := by decide +kernel
theorem dL_isLeft_183 : decode cL_isLeft 183 = .ok (.iconst 0, 1) := by decide +kernel
theorem dL_isLeft_184 : decode cL_isLeft 184 = .ok (.invokevirtual 70, 3) := by decide +kernel
theorem dL_isLeft_187 : decode cL_isLeft 187 = .ok (.iconst (-1), 1) := by decide +kernel
theorem dL_isLeft_188 : decode cL_isLeft 188 = .ok (.if_icmp .ne 187, 3) := by decide +kernel
theorem dL_isLeft_191 : decode cL_isLeft 191 = .ok (.aload_n 0, 1) := by decide +kernel
theorem dL_isLeft_192 : decode cL_isLeft 192 = .ok (.iload_n 2, 1) := by decide +kernel
theorem dL_isLeft_193 : decode cL_isLeft 193 = .ok (.invokevirtual 73, 3) := by decide +kernel
theorem dL_isLeft_196 : decode cL_isLeft 196 = .ok (.iconst (-1), 1) := by decide +kernel
theorem dL_isLeft_197 : decode cL_isLeft 197 = .ok (.if_icmp .ne 178, 3) := by decide +kernel
theorem dL_isLeft_200 : decode cL_isLeft 200 = .ok (.aload_n 0, 1) := by decide +kernel
theorem dL_isLeft_201 : decode cL_isLeft 201 = .ok (.iload_n 2, 1) := by decide +kernel
theorem dL_isLeft_202 : decode cL_isLeft 202 = .ok (.invokevirtual 79, 3) := by decide +kernel
theorem dL_isLeft_205 : decode cL_isLeft 205 = .ok (.iconst (-1), 1) := by decide +kernel
theorem dL_isLeft_206 : decode cL_isLeft 206 = .ok (.if_icmp .ne 169, 3) := by decide +kernel
theorem dL_isLeft_209 : decode cL_isLeft 209 = .ok (.aload_n 0, 1) := by decide +kernel
theorem dL_isLeft_210 : decode cL_isLeft 210 = .ok (.iload_n 2, 1) := by decide +kernel
theorem dL_isLeft_211 : decode cL_isLeft 211 = .ok (.invokevirtual 82, 3) := by decide +kernel
theorem dL_isLeft_214 : decode cL_isLeft 214 = .ok (.iconst (-1), 1) := by decide +kernel
theorem dL_isLeft_215 : decode cL_isLeft 215 = .ok (.if_icmp .ne 160, 3) := by decide +kernel
theorem dL_isLeft_218 : decode cL_isLeft 218 = .ok (.aload_n 0, 1) := by decide +kernel
theorem dL_isLeft_219 : decode cL_isLeft 219 = .ok (.iload_n 2, 1) := by decide +kernel
theorem dL_isLeft_220 : decode cL_isLeft 220 = .ok (.iconst 0, 1) := by decide +kernel
theorem dL_isLeft_221 : decode cL_isLeft 221 = .ok (.invokevirtual 119, 3) := by decide +kernel
theorem dL_isLeft_224 : decode cL_isLeft 224 = .ok (.iconst (-1), 1) := by decide +kernel
theorem dL_isLeft_225 : decode cL_isLeft 225 = .ok (.if_icmp .ne 150, 3) := by decide +kernel
theorem dL_isLeft_228 : decode cL_isLeft 228 = .ok (.aload_n 0, 1) := by decide +kernel
theorem dL_isLeft_229 : decode cL_isLeft 229 = .ok (.iload_n 2, 1) := by decide +kernel
theorem dL_isLeft_230 : decode cL_isLeft 230 = .ok (.invokevirtual 131, 3) := by decide +kernel
theorem dL_isLeft_233 : decode cL_isLeft 233 = .ok (.iconst (-1), 1) := by decide +kernel
theorem dL_isLeft_234 : decode cL_isLeft 234 = .ok (.if_icmp .ne 141, 3) := by decide +kernel
theorem dL_isLeft_237 : decode cL_isLeft 237 = .ok (.aload_n 0, 1) := by decide +kernel
theorem dL_isLeft_238 : decode cL_isLeft 238 = .ok (.iload_n 2, 1) := by decide +kernel
theorem dL_isLeft_239 : decode cL_isLeft 239 = .ok (.iconst 0, 1) := by decide +kernel
theorem dL_isLeft_240 : decode cL_isLeft 240 = .ok (.invokevirtual 134, 3) := by decide +kernel
theorem dL_isLeft_243 : decode cL_isLeft 243 = .ok (.iconst (-1), 1) := by decide +kernel
theorem dL_isLeft_244 : decode cL_isLeft 244 = .ok (.if_icmp .ne 131, 3) := by decide +kernel
theorem dL_isLeft_247 : decode cL_isLeft 247 = .ok (.aload_n 0, 1) := by decide +kernel
theorem dL_isLeft_248 : decode cL_isLeft 248 = .ok (.iload_n 2, 1) := by decide +kernel
theorem dL_isLeft_249 : decode cL_isLeft 249 = .ok (.iconst 0, 1) := by decide +kernel
theorem dL_isLeft_250 : decode cL_isLeft 250 = .ok (.invokevirtual 101, 3) := by decide +kernel
theorem dL_isLeft_253 : decode cL_isLeft 253 = .ok (.iconst (-1), 1) := by decide +kernel
theorem dL_isLeft_254 : decode cL_isLeft 254 = .ok (.if_icmp .ne 121, 3) := by decide +kernel
theorem dL_isLeft_257 : decode cL_isLeft 257 = .ok (.aload_n 0, 1) := by decide +kernel
theorem dL_isLeft_258 : decode cL_isLeft 258 = .ok (.iconst 0, 1) := by decide +kernel
theorem dL_isLeft_259 : decode cL_isLeft 259 = .ok (.iload_n 2, 1) := by decide +kernel
theorem dL_isLeft_260 : decode cL_isLeft 260 = .ok (.invokevirtual 101, 3) := by decide +kernel
theorem dL_isLeft_263 : decode cL_isLeft 263 = .ok (.iconst (-1), 1) := by decide +kernel
theorem dL_isLeft_264 : decode cL_isLeft 264 = .ok (.if_icmp .ne 111, 3) := by decide +kernel
theorem dL_isLeft_267 : decode cL_isLeft 267 = .ok (.aload_n 0, 1) := by decide +kernel
theorem dL_isLeft_268 : decode cL_isLeft 268 = .ok (.iload_n 2, 1) := by decide +kernel
theorem dL_isLeft_269 : decode cL_isLeft 269 = .ok (.invokevirtual 110, 3) := by decide +kernel
theorem dL_isLeft_272 : decode cL_isLeft 272 = .ok (.iconst (-1), 1) := by decide +kernel
theorem dL_isLeft_273 : decode cL_isLeft 273 = .ok (.if_icmp .ne 102, 3) := by decide +kernel
theorem dL_isLeft_276 : decode cL_isLeft 276 = .ok (.aload_n 0, 1) := by decide +kernel
theorem dL_isLeft_277 : decode cL_isLeft 277 = .ok (.iload_n 2, 1) := by decide +kernel
theorem dL_isLeft_278 : decode cL_isLeft 278 = .ok (.invokevirtual 104, 3) := by decide +kernel
theorem dL_isLeft_281 : decode cL_isLeft 281 = .ok (.iconst (-1), 1) := by decide +kernel
theorem dL_isLeft_282 : decode cL_isLeft 282 = .ok (.if_icmp .ne 93, 3) := by decide +kernel
theorem dL_isLeft_285 : decode cL_isLeft 285 = .ok (.aload_n 0, 1) := by decide +kernel
theorem dL_isLeft_286 : decode cL_isLeft 286 = .ok (.iload_n 2, 1) := by decide +kernel
theorem dL_isLeft_287 : decode cL_isLeft 287 = .ok (.iconst 0, 1) := by decide +kernel
theorem dL_isLeft_288 : decode cL_isLeft 288 = .ok (.invokevirtual 137, 3) := by decide +kernel
theorem dL_isLeft_291 : decode cL_isLeft 291 = .ok (.iconst (-1), 1) := by decide +kernel
theorem dL_isLeft_292 : decode cL_isLeft 292 = .ok (.if_icmp .ne 83, 3) := by decide +kernel
theorem dL_isLeft_295 : decode cL_isLeft 295 = .ok (.aload_n 0, 1) := by decide +kernel
theorem dL_isLeft_296 : decode cL_isLeft 296 = .ok (.iconst 0, 1) := by decide +kernel
theorem dL_isLeft_297 : decode cL_isLeft 297 = .ok (.iload_n 2, 1) := by decide +kernel
theorem dL_isLeft_298 : decode cL_isLeft 298 = .ok (.invokevirtual 140, 3) := by decide +kernel
theorem dL_isLeft_301 : decode cL_isLeft 301 = .ok (.iconst (-1), 1) := by decide +kernel
theorem dL_isLeft_302 : decode cL_isLeft 302 = .ok (.if_icmp .ne 73, 3) := by decide +kernel
theorem dL_isLeft_305 : decode cL_isLeft 305 = .ok (.aload_n 0, 1) := by decide +kernel
theorem dL_isLeft_306 : decode cL_isLeft 306 = .ok (.iload_n 2, 1) := by decide +kernel
theorem dL_isLeft_307 : decode cL_isLeft 307 = .ok (.iconst 0, 1) := by decide +kernel
theorem dL_isLeft_308 : decode cL_isLeft 308 = .ok (.invokevirtual 116, 3) := by decide +kernel
theorem dL_isLeft_311 : decode cL_isLeft 311 = .ok (.iconst (-1), 1) := by decide +kernel
theorem dL_isLeft_312 : decode cL_isLeft 312 = .ok (.if_icmp .ne 63, 3) := by decide +kernel
theorem dL_isLeft_315 : decode cL_isLeft 315 = .ok (.aload_n 0, 1) := by decide +kernel
theorem dL_isLeft_316 : decode cL_isLeft 316 = .ok (.iload_n 2, 1) := by decide +kernel
theorem dL_isLeft_317 : decode cL_isLeft 317 = .ok (.invokevirtual 143, 3) := by decide +kernel
theorem dL_isLeft_320 : decode cL_isLeft 320 = .ok (.iconst (-1), 1) := by decide +kernel
theorem dL_isLeft_321 : decode cL_isLeft 321 = .ok (.if_icmp .ne 54, 3) := by decide +kernel
theorem dL_isLeft_324 : decode cL_isLeft 324 = .ok (.aload_n 0, 1) := by decide +kernel
theorem dL_isLeft_325 : decode cL_isLeft 325 = .ok (.iload_n 2, 1) := by decide +kernel
theorem dL_isLeft_326 : decode cL_isLeft 326 = .ok (.iconst 0, 1) := by decide +kernel
theorem dL_isLeft_327 : decode cL_isLeft 327 = .ok (.invokevirtual 113, 3) := by decide +kernel
theorem dL_isLeft_330 : decode cL_isLeft 330 = .ok (.iconst (-1), 1) := by decide +kernel
theorem dL_isLeft_331 : decode cL_isLeft 331 = .ok (.if_icmp .ne 44, 3) := by decide +kernel
theorem dL_isLeft_334 : decode cL_isLeft 334 = .ok (.aload_n 0, 1) := by decide +kernel
theorem dL_isLeft_335 : decode cL_isLeft 335 = .ok (.iload_n 2, 1) := by decide +kernel
theorem dL_isLeft_336 : decode cL_isLeft 336 = .ok (.invokevirtual 146, 3) := by decide +kernel
theorem dL_isLeft_339 : decode cL_isLeft 339 = .ok (.iconst (-1), 1) := by decide +kernel
theorem dL_isLeft_340 : decode cL_isLeft 340 = .ok (.if_icmp .ne 35, 3) := by decide +kernel
theorem dL_isLeft_343 : decode cL_isLeft 343 = .ok (.aload_n 0, 1) := by decide +kernel
theorem dL_isLeft_344 : decode cL_isLeft 344 = .ok (.iload_n 2, 1) := by decide +kernel
theorem dL_isLeft_345 : decode cL_isLeft 345 = .ok (.iconst 1, 1) := by decide +kernel
theorem dL_isLeft_346 : decode cL_isLeft 346 = .ok (.invokevirtual 76, 3) := by decide +kernel
theorem dL_isLeft_349 : decode cL_isLeft 349 = .ok (.iconst (-1), 1) := by decide +kernel
theorem dL_isLeft_350 : decode cL_isLeft 350 = .ok (.if_icmp .ne 25, 3) := by decide +kernel
theorem dL_isLeft_353 : decode cL_isLeft 353 = .ok (.aload_n 0, 1) := by decide +kernel
theorem dL_isLeft_354 : decode cL_isLeft 354 = .ok (.iload_n 2, 1) := by decide +kernel
theorem dL_isLeft_355 : decode cL_isLeft 355 = .ok (.invokevirtual 149, 3) := by decide +kernel
theorem dL_isLeft_358 : decode cL_isLeft 358 = .ok (.iconst (-1), 1) := by decide +kernel
theorem dL_isLeft_359 : decode cL_isLeft 359 = .ok (.if_icmp .ne 16, 3) := by decide +kernel
theorem dL_isLeft_362 : decode cL_isLeft 362 = .ok (.aload_n 0, 1) := by decide +kernel
theorem dL_isLeft_363 : decode cL_isLeft 363 = .ok (.iload_n 2, 1) := by decide +kernel
theorem dL_isLeft_364 : decode cL_isLeft 364 = .ok (.invokevirtual 152, 3) := by decide +kernel
theorem dL_isLeft_367 : decode cL_isLeft 367 = .ok (.iconst (-1), 1) := by decide +kernel
theorem dL_isLeft_368 : decode cL_isLeft 368 = .ok (.if_icmp .ne 7, 3) := by decide +kernel
theorem dL_isLeft_371 : decode cL_isLeft 371 = .ok (.iconst 1, 1) := by decide +kernel
theorem dL_isLeft_372 : decode cL_isLeft 372 = .ok (.goto 4, 3) := by decide +kernel
theorem dL_isLeft_375 : decode cL_isLeft 375 = .ok (.iconst 0, 1) := by decide +kernel
theorem dL_isLeft_376 : decode cL_isLeft 376 = .ok (.istore_n 3, 1) := by decide +kernel
theorem dL_isLeft_377 : decode cL_isLeft 377 = .ok (.aload_n 0, 1) := by decide +kernel
theorem dL_isLeft_378 : decode cL_isLeft 378 = .ok (.iconst 0, 1) := by decide +kernel
theorem dL_isLeft_379 : decode cL_isLeft 379 = .ok (.iconst 3, 1) := by decide +kernel
theorem dL_isLeft_380 : decode cL_isLeft 380 = .ok (.invokevirtual 128, 3) := by decide +kernel
theorem dL_isLeft_383 : decode cL_isLeft 383 = .ok (.aload_n 0, 1) := by decide +kernel
theorem dL_isLeft_384 : decode cL_isLeft 384 = .ok (.iconst 0, 1) := by decide +kernel
theorem dL_isLeft_385 : decode cL_isLeft 385 = .ok (.invokevirtual 131, 3) := by decide +kernel
theorem dL_isLeft_388 : decode cL_isLeft 388 = .ok (.iadd, 1) := by decide +kernel
theorem dL_isLeft_389 : decode cL_isLeft 389 = .ok (.aload_n 0, 1) := by decide +kernel
theorem dL_isLeft_390 : decode cL_isLeft 390 = .ok (.iconst 0, 1) := by decide +kernel
theorem dL_isLeft_391 : decode cL_isLeft 391 = .ok (.iconst 3, 1) := by decide +kernel
theorem dL_isLeft_392 : decode cL_isLeft 392 = .ok (.invokevirtual 134, 3) := by decide +kernel
theorem dL_isLeft_395 : decode cL_isLeft 395 = .ok (.iadd, 1) := by decide +kernel
theorem dL_isLeft_396 : decode cL_isLeft 396 = .ok (.aload_n 0, 1) := by decide +kernel
theorem dL_isLeft_397 : decode cL_isLeft 397 = .ok (.iconst 2, 1) := by decide +kernel
theorem dL_isLeft_398 : decode cL_isLeft 398 = .ok (.invokevirtual 143, 3) := by decide +kernel
theorem dL_isLeft_401 : decode cL_isLeft 401 = .ok (.iadd, 1) := by decide +kernel
theorem dL_isLeft_402 : decode cL_isLeft 402 = .ok (.istore 4, 2) := by decide +kernel
theorem dL_isLeft_404 : decode cL_isLeft 404 = .ok (.iload_n 3, 1) := by decide +kernel
theorem dL_isLeft_405 : decode cL_isLeft 405 = .ok (.ifCond .eq 15, 3) := by decide +kernel
theorem dL_isLeft_408 : decode cL_isLeft 408 = .ok (.iload 4, 2) := by decide +kernel
theorem dL_isLeft_410 : decode cL_isLeft 410 = .ok (.sipush (-9999), 3) := by decide +kernel
theorem dL_isLeft_413 : decode cL_isLeft 413 = .ok (.if_icmp .le 7, 3) := by decide +kernel
theorem dL_isLeft_416 : decode cL_isLeft 416 = .ok (.iconst 1, 1) := by decide +kernel
theorem dL_isLeft_417 : decode cL_isLeft 417 = .ok (.goto 4, 3) := by decide +kernel
theorem dL_isLeft_420 : decode cL_isLeft 420 = .ok (.iconst 0, 1) := by decide +kernel
theorem dL_isLeft_421 : decode cL_isLeft 421 = .ok (.ireturn, 1) := by decide +kernel
theorem dL_areAlike_0 : decode cL_areAlike 0 = .ok (.aload_n 0, 1) := by decide +kernel
theorem dL_areAlike_1 : decode cL_areAlike 1 = .ok (.invokevirtual 155, 3) := by decide +kernel
theorem dL_areAlike_4 : decode cL_areAlike 4 = .ok (.aload_n 1, 1) := by decide +kernel
theorem dL_areAlike_5 : decode cL_areAlike 5 = .ok (.invokevirtual 155, 3) := by decide +kernel
theorem dL_areAlike_8 : decode cL_areAlike 8 = .ok (.lcmp, 1) := by decide +kernel
theorem dL_areAlike_9 : decode cL_areAlike 9 = .ok (.ifCond .ne 66, 3) := by decide +kernel
theorem dL_areAlike_12 : decode cL_areAlike 12 = .ok (.aload_n 0, 1) := by decide +kernel
theorem dL_areAlike_13 : decode cL_areAlike 13 = .ok (.invokevirtual 159, 3) := by decide +kernel
theorem dL_areAlike_16 : decode cL_areAlike 16 = .ok (.aload_n 1, 1) := by decide +kernel
theorem dL_areAlike_17 : decode cL_areAlike 17 = .ok (.invokevirtual 159, 3) := by decide +kernel
theorem dL_areAlike_20 : decode cL_areAlike 20 = .ok (.lcmp, 1) := by decide +kernel
theorem dL_areAlike_21 : decode cL_areAlike 21 = .ok (.ifCond .ne 54, 3) := by decide +kernel
theorem dL_areAlike_24 : decode cL_areAlike 24 = .ok (.aload_n 0, 1) := by decide +kernel
theorem dL_areAlike_25 : decode cL_areAlike 25 = .ok (.invokevirtual 162, 3) := by decide +kernel
theorem dL_areAlike_28 : decode cL_areAlike 28 = .ok (.aload_n 1, 1) := by decide +kernel
theorem dL_areAlike_29 : decode cL_areAlike 29 = .ok (.invokevirtual 162, 3) := by decide +kernel
theorem dL_areAlike_32 : decode cL_areAlike 32 = .ok (.lcmp, 1) := by decide +kernel
theorem dL_areAlike_33 : decode cL_areAlike 33 = .ok (.ifCond .ne 42, 3) := by decide +kernel
theorem dL_areAlike_36 : decode cL_areAlike 36 = .ok (.aload_n 0, 1) := by decide +kernel
theorem dL_areAlike_37 : decode cL_areAlike 37 = .ok (.invokevirtual 165, 3) := by decide +kernel
theorem dL_areAlike_40 : decode cL_areAlike 40 = .ok (.aload_n 1, 1) := by decide +kernel
theorem dL_areAlike_41 : decode cL_areAlike 41 = .ok (.invokevirtual 165, 3) := by decide +kernel
theorem dL_areAlike_44 : decode cL_areAlike 44 = .ok (.if_icmp .ne 31, 3) := by decide +kernel
theorem dL_areAlike_47 : decode cL_areAlike 47 = .ok (.aload_n 0, 1) := by decide +kernel
theorem dL_areAlike_48 : decode cL_areAlike 48 = .ok (.invokevirtual 168, 3) := by decide +kernel
theorem dL_areAlike_51 : decode cL_areAlike 51 = .ok (.aload_n 1, 1) := by decide +kernel
theorem dL_areAlike_52 : decode cL_areAlike 52 = .ok (.invokevirtual 168, 3) := by decide +kernel
theorem dL_areAlike_55 : decode cL_areAlike 55 = .ok (.if_icmp .ne 20, 3) := by decide +kernel
theorem dL_areAlike_58 : decode cL_areAlike 58 = .ok (.aload_n 0, 1) := by decide +kernel
theorem dL_areAlike_59 : decode cL_areAlike 59 = .ok (.iconst 2, 1) := by decide +kernel
theorem dL_areAlike_60 : decode cL_areAlike 60 = .ok (.invokevirtual 143, 3) := by decide +kernel
theorem dL_areAlike_63 : decode cL_areAlike 63 = .ok (.aload_n 1, 1) := by decide +kernel
theorem dL_areAlike_64 : decode cL_areAlike 64 = .ok (.iconst 2, 1) := by decide +kernel
theorem dL_areAlike_65 : decode cL_areAlike 65 = .ok (.invokevirtual 143, 3) := by decide +kernel
theorem dL_areAlike_68 : decode cL_areAlike 68 = .ok (.if_icmp .ne 7, 3) := by decide +kernel
theorem dL_areAlike_71 : decode cL_areAlike 71 = .ok (.iconst 1, 1) := by decide +kernel
theorem dL_areAlike_72 : decode cL_areAlike 72 = .ok (.goto 4, 3) := by decide +kernel
theorem dL_areAlike_75 : decode cL_areAlike 75 = .ok (.iconst 0, 1) := by decide +kernel
theorem dL_areAlike_76 : decode cL_areAlike 76 = .ok (.istore_n 2, 1) := by decide +kernel
theorem dL_areAlike_77 : decode cL_areAlike 77 = .ok (.iconst 0, 1) := by decide +kernel
theorem dL_areAlike_78 : decode cL_areAlike 78 = .ok (.istore_n 3, 1) := by decide +kernel
theorem dL_areAlike_79 : decode cL_areAlike 79 = .ok (.iload_n 3, 1) := by decide +kernel
theorem dL_areAlike_80 : decode cL_areAlike 80 = .ok (.bipush 6, 2) := by decide +kernel
theorem dL_areAlike_82 : decode cL_areAlike 82 = .ok (.if_icmp .ge 79, 3) := by decide +kernel
theorem dL_areAlike_85 : decode cL_areAlike 85 = .ok (.iload_n 2, 1) := by decide +kernel
theorem dL_areAlike_86 : decode cL_areAlike 86 = .ok (.ifCond .eq 67, 3) := by decide +kernel
theorem dL_areAlike_89 : decode cL_areAlike 89 = .ok (.aload_n 0, 1) := by decide +kernel
theorem dL_areAlike_90 : decode cL_areAlike 90 = .ok (.iload_n 3, 1) := by decide +kernel
theorem dL_areAlike_91 : decode cL_areAlike 91 = .ok (.invokevirtual 152, 3) := by decide +kernel
theorem dL_areAlike_94 : decode cL_areAlike 94 = .ok (.aload_n 1, 1) := by decide +kernel
theorem dL_areAlike_95 : decode cL_areAlike 95 = .ok (.iload_n 3, 1) := by decide +kernel
theorem dL_areAlike_96 : decode cL_areAlike 96 = .ok (.invokevirtual 152, 3) := by decide +kernel
theorem dL_areAlike_99 : decode cL_areAlike 99 = .ok (.if_icmp .ne 54, 3) := by decide +kernel
theorem dL_areAlike_102 : decode cL_areAlike 102 = .ok (.aload_n 0, 1) := by decide +kernel
theorem dL_areAlike_103 : decode cL_areAlike 103 = .ok (.iload_n 3, 1) := by decide +kernel
theorem dL_areAlike_104 : decode cL_areAlike 104 = .ok (.invokevirtual 131, 3) := by decide +kernel
theorem dL_areAlike_107 : decode cL_areAlike 107 = .ok (.aload_n 1, 1) := by decide +kernel
theorem dL_areAlike_108 : decode cL_areAlike 108 = .ok (.iload_n 3, 1) := by decide +kernel
theorem dL_areAlike_109 : decode cL_areAlike 109 = .ok (.invokevirtual 131, 3) := by decide +kernel
theorem dL_areAlike_112 : decode cL_areAlike 112 = .ok (.if_icmp .ne 41, 3) := by decide +kernel
theorem dL_areAlike_115 : decode cL_areAlike 115 = .ok (.aload_n 0, 1) := by decide +kernel
theorem dL_areAlike_116 : decode cL_areAlike 116 = .ok (.iload_n 3, 1) := by decide +kernel
theorem dL_areAlike_117 : decode cL_areAlike 117 = .ok (.bipush 9, 2) := by decide +kernel
theorem dL_areAlike_119 : decode cL_areAlike 119 = .ok (.invokevirtual 134, 3) := by decide +kernel
theorem dL_areAlike_122 : decode cL_areAlike 122 = .ok (.aload_n 1, 1) := by decide +kernel
theorem dL_areAlike_123 : decode cL_areAlike 123 = .ok (.iload_n 3, 1) := by decide +kernel
theorem dL_areAlike_124 : decode cL_areAlike 124 = .ok (.bipush 9, 2) := by decide +kernel
theorem dL_areAlike_126 : decode cL_areAlike 126 = .ok (.invokevirtual 134, 3) := by decide +kernel
theorem dL_areAlike_129 : decode cL_areAlike 129 = .ok (.if_icmp .ne 24, 3) := by decide +kernel
theorem dL_areAlike_132 : decode cL_areAlike 132 = .ok (.aload_n 0, 1) := by decide +kernel
theorem dL_areAlike_133 : decode cL_areAlike 133 = .ok (.iload_n 3, 1) := by decide +kernel
theorem dL_areAlike_134 : decode cL_areAlike 134 = .ok (.bipush 7, 2) := by decide +kernel
theorem dL_areAlike_136 : decode cL_areAlike 136 = .ok (.invokevirtual 128, 3) := by decide +kernel
theorem dL_areAlike_139 : decode cL_areAlike 139 = .ok (.aload_n 1, 1) := by decide +kernel
theorem dL_areAlike_140 : decode cL_areAlike 140 = .ok (.iload_n 3, 1) := by decide +kernel
theorem dL_areAlike_141 : decode cL_areAlike 141 = .ok (.bipush 7, 2) := by decide +kernel
theorem dL_areAlike_143 : decode cL_areAlike 143 = .ok (.invokevirtual 128, 3) := by decide +kernel
theorem dL_areAlike_146 : decode cL_areAlike 146 = .ok (.if_icmp .ne 7, 3) := by decide +kernel
theorem dL_areAlike_149 : decode cL_areAlike 149 = .ok (.iconst 1, 1) := by decide +kernel
theorem dL_areAlike_150 : decode cL_areAlike 150 = .ok (.goto 4, 3) := by decide +kernel
theorem dL_areAlike_153 : decode cL_areAlike 153 = .ok (.iconst 0, 1) := by decide +kernel
theorem dL_areAlike_154 : decode cL_areAlike 154 = .ok (.istore_n 2, 1) := by decide +kernel
theorem dL_areAlike_155 : decode cL_areAlike 155 = .ok (.iinc 3 1, 3) := by decide +kernel
theorem dL_areAlike_158 : decode cL_areAlike 158 = .ok (.goto (-79), 3) := by decide +kernel
theorem dL_areAlike_161 : decode cL_areAlike 161 = .ok (.iload_n 2, 1) := by decide +kernel
theorem dL_areAlike_162 : decode cL_areAlike 162 = .ok (.ireturn, 1) := by decide +kernel
theorem dL_law_0 : decode cL_law 0 = .ok (.new 10, 3) := by decide +kernel
theorem dL_law_3 : decode cL_law 3 = .ok (.dup, 1) := by decide +kernel
theorem dL_law_4 : decode cL_law 4 = .ok (.invokespecial 171, 3) := by decide +kernel
theorem dL_law_7 : decode cL_law 7 = .ok (.astore_n 1, 1) := by decide +kernel
theorem dL_law_8 : decode cL_law 8 = .ok (.new 10, 3) := by decide +kernel
theorem dL_law_11 : decode cL_law 11 = .ok (.dup, 1) := by decide +kernel
theorem dL_law_12 : decode cL_law 12 = .ok (.invokespecial 171, 3) := by decide +kernel
theorem dL_law_15 : decode cL_law 15 = .ok (.astore_n 2, 1) := by decide +kernel
theorem dL_law_16 : decode cL_law 16 = .ok (.bipush 64, 2) := by decide +kernel
theorem dL_law_18 : decode cL_law 18 = .ok (.newarray .int, 2) := by decide +kernel
theorem dL_law_20 : decode cL_law 20 = .ok (.astore_n 3, 1) := by decide +kernel
theorem dL_law_21 : decode cL_law 21 = .ok (.bipush 64, 2) := by decide +kernel
theorem dL_law_23 : decode cL_law 23 = .ok (.newarray .int, 2) := by decide +kernel
theorem dL_law_25 : decode cL_law 25 = .ok (.astore 4, 2) := by decide +kernel
theorem dL_law_27 : decode cL_law 27 = .ok (.aload_n 2, 1) := by decide +kernel
theorem dL_law_28 : decode cL_law 28 = .ok (.aload_n 0, 1) := by decide +kernel
theorem dL_law_29 : decode cL_law 29 = .ok (.iconst 1, 1) := by decide +kernel
theorem dL_law_30 : decode cL_law 30 = .ok (.invokestatic 15, 3) := by decide +kernel
theorem dL_law_33 : decode cL_law 33 = .ok (.invokestatic 172, 3) := by decide +kernel
theorem dL_law_36 : decode cL_law 36 = .ok (.ifCond .eq 61, 3) := by decide +kernel
theorem dL_law_39 : decode cL_law 39 = .ok (.aload_n 1, 1) := by decide +kernel
theorem dL_law_40 : decode cL_law 40 = .ok (.aload_n 2, 1) := by decide +kernel
theorem dL_law_41 : decode cL_law 41 = .ok (.invokestatic 176, 3) := by decide +kernel
theorem dL_law_44 : decode cL_law 44 = .ok (.ifCond .eq 53, 3) := by decide +kernel
theorem dL_law_47 : decode cL_law 47 = .ok (.aload_n 1, 1) := by decide +kernel
theorem dL_law_48 : decode cL_law 48 = .ok (.aload_n 0, 1) := by decide +kernel
theorem dL_law_49 : decode cL_law 49 = .ok (.bipush 6, 2) := by decide +kernel
theorem dL_law_51 : decode cL_law 51 = .ok (.aload_n 3, 1) := by decide +kernel
theorem dL_law_52 : decode cL_law 52 = .ok (.aload 4, 2) := by decide +kernel
theorem dL_law_54 : decode cL_law 54 = .ok (.invokestatic 180, 3) := by decide +kernel
theorem dL_law_57 : decode cL_law 57 = .ok (.ifCond .eq 40, 3) := by decide +kernel
theorem dL_law_60 : decode cL_law 60 = .ok (.aload_n 2, 1) := by decide +kernel
theorem dL_law_61 : decode cL_law 61 = .ok (.aload_n 0, 1) := by decide +kernel
theorem dL_law_62 : decode cL_law 62 = .ok (.bipush 6, 2) := by decide +kernel
theorem dL_law_64 : decode cL_law 64 = .ok (.aload_n 3, 1) := by decide +kernel
theorem dL_law_65 : decode cL_law 65 = .ok (.aload 4, 2) := by decide +kernel
theorem dL_law_67 : decode cL_law 67 = .ok (.invokestatic 180, 3) := by decide +kernel
theorem dL_law_70 : decode cL_law 70 = .ok (.ifCond .eq 27, 3) := by decide +kernel
theorem dL_law_73 : decode cL_law 73 = .ok (.aload_n 2, 1) := by decide +kernel
theorem dL_law_74 : decode cL_law 74 = .ok (.aload_n 0, 1) := by decide +kernel
theorem dL_law_75 : decode cL_law 75 = .ok (.iconst 0, 1) := by decide +kernel
theorem dL_law_76 : decode cL_law 76 = .ok (.invokestatic 15, 3) := by decide +kernel
theorem dL_law_79 : decode cL_law 79 = .ok (.invokestatic 172, 3) := by decide +kernel
theorem dL_law_82 : decode cL_law 82 = .ok (.ifCond .eq 15, 3) := by decide +kernel
theorem dL_law_85 : decode cL_law 85 = .ok (.aload_n 1, 1) := by decide +kernel
theorem dL_law_86 : decode cL_law 86 = .ok (.aload_n 2, 1) := by decide +kernel
theorem dL_law_87 : decode cL_law 87 = .ok (.invokestatic 176, 3) := by decide +kernel
theorem dL_law_90 : decode cL_law 90 = .ok (.ifCond .eq 7, 3) := by decide +kernel
theorem dL_law_93 : decode cL_law 93 = .ok (.iconst 1, 1) := by decide +kernel
theorem dL_law_94 : decode cL_law 94 = .ok (.goto 4, 3) := by decide +kernel
theorem dL_law_97 : decode cL_law 97 = .ok (.iconst 0, 1) := by decide +kernel
theorem dL_law_98 : decode cL_law 98 = .ok (.istore 5, 2) := by decide +kernel
theorem dL_law_100 : decode cL_law 100 = .ok (.iconst 0, 1) := by decide +kernel
theorem dL_law_101 : decode cL_law 101 = .ok (.istore 6, 2) := by decide +kernel
theorem dL_law_103 : decode cL_law 103 = .ok (.iload 6, 2) := by decide +kernel
theorem dL_law_105 : decode cL_law 105 = .ok (.bipush 20, 2) := by decide +kernel
theorem dL_law_107 : decode cL_law 107 = .ok (.if_icmp .ge 137, 3) := by decide +kernel
theorem dL_law_110 : decode cL_law 110 = .ok (.iload 5, 2) := by decide +kernel
theorem dL_law_112 : decode cL_law 112 = .ok (.ifCond .eq 132, 3) := by decide +kernel
theorem dL_law_115 : decode cL_law 115 = .ok (.aload_n 0, 1) := by decide +kernel
theorem dL_law_116 : decode cL_law 116 = .ok (.iconst 4, 1) := by decide +kernel
theorem dL_law_117 : decode cL_law 117 = .ok (.iload 6, 2) := by decide +kernel
theorem dL_law_119 : decode cL_law 119 = .ok (.iadd, 1) := by decide +kernel
theorem dL_law_120 : decode cL_law 120 = .ok (.invokestatic 15, 3) := by decide +kernel
theorem dL_law_123 : decode cL_law 123 = .ok (.istore 7, 2) := by decide +kernel
theorem dL_law_125 : decode cL_law 125 = .ok (.aload_n 1, 1) := by decide +kernel
theorem dL_law_126 : decode cL_law 126 = .ok (.iload 7, 2) := by decide +kernel
theorem dL_law_128 : decode cL_law 128 = .ok (.invokestatic 183, 3) := by decide +kernel
theorem dL_law_131 : decode cL_law 131 = .ok (.aload_n 2, 1) := by decide +kernel
theorem dL_law_132 : decode cL_law 132 = .ok (.iload 7, 2) := by decide +kernel
theorem dL_law_134 : decode cL_law 134 = .ok (.invokestatic 183, 3) := by decide +kernel
theorem dL_law_137 : decode cL_law 137 = .ok (.if_icmp .ne 26, 3) := by decide +kernel
theorem dL_law_140 : decode cL_law 140 = .ok (.aload_n 2, 1) := by decide +kernel
theorem dL_law_141 : decode cL_law 141 = .ok (.iload 7, 2) := by decide +kernel
theorem dL_law_143 : decode cL_law 143 = .ok (.iconst 3, 1) := by decide +kernel
theorem dL_law_144 : decode cL_law 144 = .ok (.ishr, 1) := by decide +kernel
theorem dL_law_145 : decode cL_law 145 = .ok (.invokestatic 172, 3) := by decide +kernel
theorem dL_law_148 : decode cL_law 148 = .ok (.ifCond .eq 15, 3) := by decide +kernel
theorem dL_law_151 : decode cL_law 151 = .ok (.aload_n 1, 1) := by decide +kernel
theorem dL_law_152 : decode cL_law 152 = .ok (.aload_n 2, 1) := by decide +kernel
theorem dL_law_153 : decode cL_law 153 = .ok (.invokestatic 176, 3) := by decide +kernel
theorem dL_law_156 : decode cL_law 156 = .ok (.ifCond .eq 7, 3) := by decide +kernel
theorem dL_law_159 : decode cL_law 159 = .ok (.iconst 1, 1) := by decide +kernel
theorem dL_law_160 : decode cL_law 160 = .ok (.goto 4, 3) := by decide +kernel
theorem dL_law_163 : decode cL_law 163 = .ok (.iconst 0, 1) := by decide +kernel
theorem dL_law_164 : decode cL_law 164 = .ok (.istore 5, 2) := by decide +kernel
theorem dL_law_166 : decode cL_law 166 = .ok (.aload_n 2, 1) := by decide +kernel
theorem dL_law_167 : decode cL_law 167 = .ok (.iconst 2, 1) := by decide +kernel
theorem dL_law_168 : decode cL_law 168 = .ok (.invokevirtual 149, 3) := by decide +kernel
theorem dL_law_171 : decode cL_law 171 = .ok (.istore 8, 2) := by decide +kernel
theorem dL_law_173 : decode cL_law 173 = .ok (.iload 5, 2) := by decide +kernel
theorem dL_law_175 : decode cL_law 175 = .ok (.ifCond .eq 63, 3) := by decide +kernel
theorem dL_law_178 : decode cL_law 178 = .ok (.iload 8, 2) := by decide +kernel
theorem dL_law_180 : decode cL_law 180 = .ok (.bipush 39, 2) := by decide +kernel
theorem dL_law_182 : decode cL_law 182 = .ok (.if_icmp .ge 56, 3) := by decide +kernel
theorem dL_law_185 : decode cL_law 185 = .ok (.aload_n 2, 1) := by decide +kernel
theorem dL_law_186 : decode cL_law 186 = .ok (.invokevirtual 61, 3) := by decide +kernel
theorem dL_law_189 : decode cL_law 189 = .ok (.ifCond .lt 7, 3) := by decide +kernel
theorem dL_law_192 : decode cL_law 192 = .ok (.iconst 1, 1) := by decide +kernel
theorem dL_law_193 : decode cL_law 193 = .ok (.goto 4, 3) := by decide +kernel
theorem dL_law_196 : decode cL_law 196 = .ok (.iconst 0, 1) := by decide +kernel
theorem dL_law_197 : decode cL_law 197 = .ok (.aload_n 2, 1) := by decide +kernel
theorem dL_law_198 : decode cL_law 198 = .ok (.invokevirtual 61, 3) := by decide +kernel
theorem dL_law_201 : decode cL_law 201 = .ok (.ifCond .lt 7, 3) := by decide +kernel
theorem dL_law_204 : decode cL_law 204 = .ok (.iconst 1, 1) := by decide +kernel
theorem dL_law_205 : decode cL_law 205 = .ok (.goto 4, 3) := by decide +kernel
theorem dL_law_208 : decode cL_law 208 = .ok (.iconst 0, 1) := by decide +kernel
theorem dL_law_209 : decode cL_law 209 = .ok (.iadd, 1) := by decide +kernel
theorem dL_law_210 : decode cL_law 210 = .ok (.istore 9, 2) := by decide +kernel
theorem dL_law_212 : decode cL_law 212 = .ok (.aload_n 2, 1) := by decide +kernel
theorem dL_law_213 : decode cL_law 213 = .ok (.iload 8, 2) := by decide +kernel
theorem dL_law_215 : decode cL_law 215 = .ok (.invokevirtual 73, 3) := by decide +kernel
theorem dL_law_218 : decode cL_law 218 = .ok (.iload 9, 2) := by decide +kernel
theorem dL_law_220 : decode cL_law 220 = .ok (.if_icmp .ne 15, 3) := by decide +kernel
theorem dL_law_223 : decode cL_law 223 = .ok (.aload_n 1, 1) := by decide +kernel
theorem dL_law_224 : decode cL_law 224 = .ok (.aload_n 2, 1) := by decide +kernel
theorem dL_law_225 : decode cL_law 225 = .ok (.invokestatic 176, 3) := by decide +kernel
theorem dL_law_228 : decode cL_law 228 = .ok (.ifCond .eq 7, 3) := by decide +kernel
theorem dL_law_231 : decode cL_law 231 = .ok (.iconst 1, 1) := by decide +kernel
theorem dL_law_232 : decode cL_law 232 = .ok (.goto 4, 3) := by decide +kernel
theorem dL_law_235 : decode cL_law 235 = .ok (.iconst 0, 1) := by decide +kernel
theorem dL_law_236 : decode cL_law 236 = .ok (.istore 5, 2) := by decide +kernel
theorem dL_law_238 : decode cL_law 238 = .ok (.iinc 6 1, 3) := by decide +kernel
theorem dL_law_241 : decode cL_law 241 = .ok (.goto (-138), 3) := by decide +kernel
theorem dL_law_244 : decode cL_law 244 = .ok (.aload_n 2, 1) := by decide +kernel
theorem dL_law_245 : decode cL_law 245 = .ok (.iconst 2, 1) := by decide +kernel
theorem dL_law_246 : decode cL_law 246 = .ok (.invokevirtual 149, 3) := by decide +kernel
theorem dL_law_249 : decode cL_law 249 = .ok (.istore 6, 2) := by decide +kernel
theorem dL_law_251 : decode cL_law 251 = .ok (.iload 5, 2) := by decide +kernel
theorem dL_law_253 : decode cL_law 253 = .ok (.ifCond .eq 80, 3) := by decide +kernel
theorem dL_law_256 : decode cL_law 256 = .ok (.aload_n 2, 1) := by decide +kernel
theorem dL_law_257 : decode cL_law 257 = .ok (.iconst 2, 1) := by decide +kernel
theorem dL_law_258 : decode cL_law 258 = .ok (.invokevirtual 79, 3) := by decide +kernel
theorem dL_law_261 : decode cL_law 261 = .ok (.aload_n 1, 1) := by decide +kernel
theorem dL_law_262 : decode cL_law 262 = .ok (.iconst 2, 1) := by decide +kernel
theorem dL_law_263 : decode cL_law 263 = .ok (.invokevirtual 79, 3) := by decide +kernel
theorem dL_law_266 : decode cL_law 266 = .ok (.if_icmp .ne 67, 3) := by decide +kernel
theorem dL_law_269 : decode cL_law 269 = .ok (.aload_n 2, 1) := by decide +kernel
theorem dL_law_270 : decode cL_law 270 = .ok (.invokevirtual 61, 3) := by decide +kernel
theorem dL_law_273 : decode cL_law 273 = .ok (.bipush (-4), 2) := by decide +kernel
theorem dL_law_275 : decode cL_law 275 = .ok (.if_icmp .lt 58, 3) := by decide +kernel
theorem dL_law_278 : decode cL_law 278 = .ok (.aload_n 2, 1) := by decide +kernel
theorem dL_law_279 : decode cL_law 279 = .ok (.iconst 0, 1) := by decide +kernel
theorem dL_law_280 : decode cL_law 280 = .ok (.invokevirtual 64, 3) := by decide +kernel
theorem dL_law_283 : decode cL_law 283 = .ok (.bipush (-4), 2) := by decide +kernel
theorem dL_law_285 : decode cL_law 285 = .ok (.if_icmp .lt 48, 3) := by decide +kernel
theorem dL_law_288 : decode cL_law 288 = .ok (.aload_n 2, 1) := by decide +kernel
theorem dL_law_289 : decode cL_law 289 = .ok (.iconst 0, 1) := by decide +kernel
theorem dL_law_290 : decode cL_law 290 = .ok (.invokevirtual 67, 3) := by decide +kernel
theorem dL_law_293 : decode cL_law 293 = .ok (.bipush (-4), 2) := by decide +kernel
theorem dL_law_295 : decode cL_law 295 = .ok (.if_icmp .lt 38, 3) := by decide +kernel
theorem dL_law_298 : decode cL_law 298 = .ok (.aload_n 2, 1) := by decide +kernel
theorem dL_law_299 : decode cL_law 299 = .ok (.iconst 0, 1) := by decide +kernel
theorem dL_law_300 : decode cL_law 300 = .ok (.invokevirtual 73, 3) := by decide +kernel
theorem dL_law_303 : decode cL_law 303 = .ok (.ifCond .lt 30, 3) := by decide +kernel
theorem dL_law_306 : decode cL_law 306 = .ok (.aload_n 2, 1) := by decide +kernel
theorem dL_law_307 : decode cL_law 307 = .ok (.iconst 2, 1) := by decide +kernel
theorem dL_law_308 : decode cL_law 308 = .ok (.invokevirtual 82, 3) := by decide +kernel
theorem dL_law_311 : decode cL_law 311 = .ok (.aload_n 1, 1) := by decide +kernel
theorem dL_law_312 : decode cL_law 312 = .ok (.iconst 2, 1) := by decide +kernel
theorem dL_law_313 : decode cL_law 313 = .ok (.invokevirtual 82, 3) := by decide +kernel
theorem dL_law_316 : decode cL_law 316 = .ok (.if_icmp .ne 17, 3) := by decide +kernel
theorem dL_law_319 : decode cL_law 319 = .ok (.aload_n 2, 1) := by decide +kernel
theorem dL_law_320 : decode cL_law 320 = .ok (.iconst 2, 1) := by decide +kernel
theorem dL_law_321 : decode cL_law 321 = .ok (.invokevirtual 149, 3) := by decide +kernel
theorem dL_law_324 : decode cL_law 324 = .ok (.iload 6, 2) := by decide +kernel
theorem dL_law_326 : decode cL_law 326 = .ok (.if_icmp .ne 7, 3) := by decide +kernel
theorem dL_law_329 : decode cL_law 329 = .ok (.iconst 1, 1) := by decide +kernel
theorem dL_law_330 : decode cL_law 330 = .ok (.goto 4, 3) := by decide +kernel
theorem dL_law_333 : decode cL_law 333 = .ok (.iconst 0, 1) := by decide +kernel
theorem dL_law_334 : decode cL_law 334 = .ok (.istore 5, 2) := by decide +kernel
theorem dL_law_336 : decode cL_law 336 = .ok (.iload 5, 2) := by decide +kernel
theorem dL_law_338 : decode cL_law 338 = .ok (.ifCond .eq 32, 3) := by decide +kernel
theorem dL_law_341 : decode cL_law 341 = .ok (.aload_n 1, 1) := by decide +kernel
theorem dL_law_342 : decode cL_law 342 = .ok (.invokevirtual 155, 3) := by decide +kernel
theorem dL_law_345 : decode cL_law 345 = .ok (.aload_n 2, 1) := by decide +kernel
theorem dL_law_346 : decode cL_law 346 = .ok (.invokevirtual 155, 3) := by decide +kernel
theorem dL_law_349 : decode cL_law 349 = .ok (.lcmp, 1) := by decide +kernel
theorem dL_law_350 : decode cL_law 350 = .ok (.ifCond .ne 20, 3) := by decide +kernel
theorem dL_law_353 : decode cL_law 353 = .ok (.aload_n 1, 1) := by decide +kernel
theorem dL_law_354 : decode cL_law 354 = .ok (.iconst 2, 1) := by decide +kernel
theorem dL_law_355 : decode cL_law 355 = .ok (.invokevirtual 143, 3) := by decide +kernel
theorem dL_law_358 : decode cL_law 358 = .ok (.aload_n 2, 1) := by decide +kernel
theorem dL_law_359 : decode cL_law 359 = .ok (.iconst 2, 1) := by decide +kernel
theorem dL_law_360 : decode cL_law 360 = .ok (.invokevirtual 143, 3) := by decide +kernel
theorem dL_law_363 : decode cL_law 363 = .ok (.if_icmp .ne 7, 3) := by decide +kernel
theorem dL_law_366 : decode cL_law 366 = .ok (.iconst 1, 1) := by decide +kernel
theorem dL_law_367 : decode cL_law 367 = .ok (.goto 4, 3) := by decide +kernel
theorem dL_law_370 : decode cL_law 370 = .ok (.iconst 0, 1) := by decide +kernel
theorem dL_law_371 : decode cL_law 371 = .ok (.ireturn, 1) := by decide +kernel
