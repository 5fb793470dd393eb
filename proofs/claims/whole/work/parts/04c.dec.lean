theorem dX12_turnFault_6 : decode cX12_turnFault 6 = .ok (.ifCond .le 12, 3) := by decide +kernel
theorem dX12_turnFault_9 : decode cX12_turnFault 9 = .ok (.aload_n 0, 1) := by decide +kernel
theorem dX12_turnFault_10 : decode cX12_turnFault 10 = .ok (.iload_n 1, 1) := by decide +kernel
theorem dX12_turnFault_11 : decode cX12_turnFault 11 = .ok (.iload_n 2, 1) := by decide +kernel
theorem dX12_turnFault_12 : decode cX12_turnFault 12 = .ok (.invokevirtual 347, 3) := by decide +kernel
theorem dX12_turnFault_15 : decode cX12_turnFault 15 = .ok (.goto 33, 3) := by decide +kernel
theorem dX12_turnFault_18 : decode cX12_turnFault 18 = .ok (.iload 4, 2) := by decide +kernel
theorem dX12_turnFault_20 : decode cX12_turnFault 20 = .ok (.i2l, 1) := by decide +kernel
theorem dX12_turnFault_21 : decode cX12_turnFault 21 = .ok (.lconst 1, 1) := by decide +kernel
theorem dX12_turnFault_22 : decode cX12_turnFault 22 = .ok (.ldc2_w 368, 3) := by decide +kernel
theorem dX12_turnFault_25 : decode cX12_turnFault 25 = .ok (.invokestatic 79, 3) := by decide +kernel
theorem dX12_turnFault_28 : decode cX12_turnFault 28 = .ok (.ifCond .ne 7, 3) := by decide +kernel
theorem dX12_turnFault_31 : decode cX12_turnFault 31 = .ok (.iconst 2, 1) := by decide +kernel
theorem dX12_turnFault_32 : decode cX12_turnFault 32 = .ok (.goto 16, 3) := by decide +kernel
theorem dX12_turnFault_35 : decode cX12_turnFault 35 = .ok (.aload_n 0, 1) := by decide +kernel
theorem dX12_turnFault_36 : decode cX12_turnFault 36 = .ok (.iload_n 3, 1) := by decide +kernel
theorem dX12_turnFault_37 : decode cX12_turnFault 37 = .ok (.invokevirtual 350, 3) := by decide +kernel
theorem dX12_turnFault_40 : decode cX12_turnFault 40 = .ok (.ifCond .eq 7, 3) := by decide +kernel
theorem dX12_turnFault_43 : decode cX12_turnFault 43 = .ok (.iconst 0, 1) := by decide +kernel
theorem dX12_turnFault_44 : decode cX12_turnFault 44 = .ok (.goto 4, 3) := by decide +kernel
theorem dX12_turnFault_47 : decode cX12_turnFault 47 = .ok (.iconst 3, 1) := by decide +kernel
theorem dX12_turnFault_48 : decode cX12_turnFault 48 = .ok (.ireturn, 1) := by decide +kernel
theorem dX12_layTurns_0 : decode cX12_layTurns 0 = .ok (.aload_n 0, 1) := by decide +kernel
theorem dX12_layTurns_1 : decode cX12_layTurns 1 = .ok (.iload_n 1, 1) := by decide +kernel
theorem dX12_layTurns_2 : decode cX12_layTurns 2 = .ok (.iload_n 2, 1) := by decide +kernel
theorem dX12_layTurns_3 : decode cX12_layTurns 3 = .ok (.invokevirtual 353, 3) := by decide +kernel
theorem dX12_layTurns_6 : decode cX12_layTurns 6 = .ok (.iconst 0, 1) := by decide +kernel
theorem dX12_layTurns_7 : decode cX12_layTurns 7 = .ok (.istore 4, 2) := by decide +kernel
theorem dX12_layTurns_9 : decode cX12_layTurns 9 = .ok (.iload 4, 2) := by decide +kernel
theorem dX12_layTurns_11 : decode cX12_layTurns 11 = .ok (.bipush 8, 2) := by decide +kernel
theorem dX12_layTurns_13 : decode cX12_layTurns 13 = .ok (.if_icmp .ge 35, 3) := by decide +kernel
theorem dX12_layTurns_16 : decode cX12_layTurns 16 = .ok (.aload_n 0, 1) := by decide +kernel
theorem dX12_layTurns_17 : decode cX12_layTurns 17 = .ok (.getfield 55, 3) := by decide +kernel
theorem dX12_layTurns_20 : decode cX12_layTurns 20 = .ok (.bipush 8, 2) := by decide +kernel
theorem dX12_layTurns_22 : decode cX12_layTurns 22 = .ok (.iload_n 3, 1) := by decide +kernel
theorem dX12_layTurns_23 : decode cX12_layTurns 23 = .ok (.imul, 1) := by decide +kernel
theorem dX12_layTurns_24 : decode cX12_layTurns 24 = .ok (.iload 4, 2) := by decide +kernel
theorem dX12_layTurns_26 : decode cX12_layTurns 26 = .ok (.iadd, 1) := by decide +kernel
theorem dX12_layTurns_27 : decode cX12_layTurns 27 = .ok (.lconst 0, 1) := by decide +kernel
theorem dX12_layTurns_28 : decode cX12_layTurns 28 = .ok (.lastore, 1) := by decide +kernel
theorem dX12_layTurns_29 : decode cX12_layTurns 29 = .ok (.aload_n 0, 1) := by decide +kernel
theorem dX12_layTurns_30 : decode cX12_layTurns 30 = .ok (.getfield 58, 3) := by decide +kernel
theorem dX12_layTurns_33 : decode cX12_layTurns 33 = .ok (.bipush 8, 2) := by decide +kernel
theorem dX12_layTurns_35 : decode cX12_layTurns 35 = .ok (.iload_n 3, 1) := by decide +kernel
theorem dX12_layTurns_36 : decode cX12_layTurns 36 = .ok (.imul, 1) := by decide +kernel
theorem dX12_layTurns_37 : decode cX12_layTurns 37 = .ok (.iload 4, 2) := by decide +kernel
theorem dX12_layTurns_39 : decode cX12_layTurns 39 = .ok (.iadd, 1) := by decide +kernel
theorem dX12_layTurns_40 : decode cX12_layTurns 40 = .ok (.lconst 0, 1) := by decide +kernel
theorem dX12_layTurns_41 : decode cX12_layTurns 41 = .ok (.lastore, 1) := by decide +kernel
theorem dX12_layTurns_42 : decode cX12_layTurns 42 = .ok (.iinc 4 1, 3) := by decide +kernel
theorem dX12_layTurns_45 : decode cX12_layTurns 45 = .ok (.goto (-36), 3) := by decide +kernel
theorem dX12_layTurns_48 : decode cX12_layTurns 48 = .ok (.iload_n 3, 1) := by decide +kernel
theorem dX12_layTurns_49 : decode cX12_layTurns 49 = .ok (.iconst 1, 1) := by decide +kernel
theorem dX12_layTurns_50 : decode cX12_layTurns 50 = .ok (.isub, 1) := by decide +kernel
theorem dX12_layTurns_51 : decode cX12_layTurns 51 = .ok (.istore 4, 2) := by decide +kernel
theorem dX12_layTurns_53 : decode cX12_layTurns 53 = .ok (.iload 4, 2) := by decide +kernel
theorem dX12_layTurns_55 : decode cX12_layTurns 55 = .ok (.ifCond .lt 238, 3) := by decide +kernel
theorem dX12_layTurns_58 : decode cX12_layTurns 58 = .ok (.iconst 0, 1) := by decide +kernel
theorem dX12_layTurns_59 : decode cX12_layTurns 59 = .ok (.istore 5, 2) := by decide +kernel
theorem dX12_layTurns_61 : decode cX12_layTurns 61 = .ok (.iload 5, 2) := by decide +kernel
theorem dX12_layTurns_63 : decode cX12_layTurns 63 = .ok (.aload_n 0, 1) := by decide +kernel
theorem dX12_layTurns_64 : decode cX12_layTurns 64 = .ok (.getfield 9, 3) := by decide +kernel
theorem dX12_layTurns_67 : decode cX12_layTurns 67 = .ok (.iconst 3, 1) := by decide +kernel
theorem dX12_layTurns_68 : decode cX12_layTurns 68 = .ok (.iaload, 1) := by decide +kernel
theorem dX12_layTurns_69 : decode cX12_layTurns 69 = .ok (.if_icmp .ge 218, 3) := by decide +kernel
theorem dX12_layTurns_72 : decode cX12_layTurns 72 = .ok (.bipush 8, 2) := by decide +kernel
theorem dX12_layTurns_74 : decode cX12_layTurns 74 = .ok (.iload 4, 2) := by decide +kernel
theorem dX12_layTurns_76 : decode cX12_layTurns 76 = .ok (.imul, 1) := by decide +kernel
theorem dX12_layTurns_77 : decode cX12_layTurns 77 = .ok (.iload 5, 2) := by decide +kernel
theorem dX12_layTurns_79 : decode cX12_layTurns 79 = .ok (.iadd, 1) := by decide +kernel
theorem dX12_layTurns_80 : decode cX12_layTurns 80 = .ok (.istore 6, 2) := by decide +kernel
theorem dX12_layTurns_82 : decode cX12_layTurns 82 = .ok (.iload 4, 2) := by decide +kernel
theorem dX12_layTurns_84 : decode cX12_layTurns 84 = .ok (.iconst 2, 1) := by decide +kernel
theorem dX12_layTurns_85 : decode cX12_layTurns 85 = .ok (.irem, 1) := by decide +kernel
theorem dX12_layTurns_86 : decode cX12_layTurns 86 = .ok (.ifCond .ne 7, 3) := by decide +kernel
theorem dX12_layTurns_89 : decode cX12_layTurns 89 = .ok (.iconst 1, 1) := by decide +kernel
theorem dX12_layTurns_90 : decode cX12_layTurns 90 = .ok (.goto 4, 3) := by decide +kernel
theorem dX12_layTurns_93 : decode cX12_layTurns 93 = .ok (.iconst 0, 1) := by decide +kernel
theorem dX12_layTurns_94 : decode cX12_layTurns 94 = .ok (.istore 7, 2) := by decide +kernel
theorem dX12_layTurns_96 : decode cX12_layTurns 96 = .ok (.iconst 0, 1) := by decide +kernel
theorem dX12_layTurns_97 : decode cX12_layTurns 97 = .ok (.istore 8, 2) := by decide +kernel
theorem dX12_layTurns_99 : decode cX12_layTurns 99 = .ok (.iload 8, 2) := by decide +kernel
theorem dX12_layTurns_101 : decode cX12_layTurns 101 = .ok (.aload_n 0, 1) := by decide +kernel
theorem dX12_layTurns_102 : decode cX12_layTurns 102 = .ok (.getfield 9, 3) := by decide +kernel
theorem dX12_layTurns_105 : decode cX12_layTurns 105 = .ok (.iconst 3, 1) := by decide +kernel
theorem dX12_layTurns_106 : decode cX12_layTurns 106 = .ok (.iaload, 1) := by decide +kernel
theorem dX12_layTurns_107 : decode cX12_layTurns 107 = .ok (.if_icmp .ge 174, 3) := by decide +kernel
theorem dX12_layTurns_110 : decode cX12_layTurns 110 = .ok (.aload_n 0, 1) := by decide +kernel
theorem dX12_layTurns_111 : decode cX12_layTurns 111 = .ok (.iload 7, 2) := by decide +kernel
theorem dX12_layTurns_113 : decode cX12_layTurns 113 = .ok (.ifCond .eq 8, 3) := by decide +kernel
theorem dX12_layTurns_116 : decode cX12_layTurns 116 = .ok (.iload 8, 2) := by decide +kernel
theorem dX12_layTurns_118 : decode cX12_layTurns 118 = .ok (.goto 5, 3) := by decide +kernel
theorem dX12_layTurns_121 : decode cX12_layTurns 121 = .ok (.iload 5, 2) := by decide +kernel
theorem dX12_layTurns_123 : decode cX12_layTurns 123 = .ok (.iload 7, 2) := by decide +kernel
theorem dX12_layTurns_125 : decode cX12_layTurns 125 = .ok (.ifCond .eq 8, 3) := by decide +kernel
theorem dX12_layTurns_128 : decode cX12_layTurns 128 = .ok (.iload 5, 2) := by decide +kernel
theorem dX12_layTurns_130 : decode cX12_layTurns 130 = .ok (.goto 5, 3) := by decide +kernel
theorem dX12_layTurns_133 : decode cX12_layTurns 133 = .ok (.iload 8, 2) := by decide +kernel
theorem dX12_layTurns_135 : decode cX12_layTurns 135 = .ok (.iconst 0, 1) := by decide +kernel
theorem dX12_layTurns_136 : decode cX12_layTurns 136 = .ok (.invokevirtual 356, 3) := by decide +kernel
theorem dX12_layTurns_139 : decode cX12_layTurns 139 = .ok (.i2l, 1) := by decide +kernel
theorem dX12_layTurns_140 : decode cX12_layTurns 140 = .ok (.aload_n 0, 1) := by decide +kernel
theorem dX12_layTurns_141 : decode cX12_layTurns 141 = .ok (.getfield 55, 3) := by decide +kernel
theorem dX12_layTurns_144 : decode cX12_layTurns 144 = .ok (.bipush 8, 2) := by decide +kernel
theorem dX12_layTurns_146 : decode cX12_layTurns 146 = .ok (.iload 4, 2) := by decide +kernel
theorem dX12_layTurns_148 : decode cX12_layTurns 148 = .ok (.iconst 1, 1) := by decide +kernel
theorem dX12_layTurns_149 : decode cX12_layTurns 149 = .ok (.iadd, 1) := by decide +kernel
theorem dX12_layTurns_150 : decode cX12_layTurns 150 = .ok (.imul, 1) := by decide +kernel
theorem dX12_layTurns_151 : decode cX12_layTurns 151 = .ok (.iload 8, 2) := by decide +kernel
theorem dX12_layTurns_153 : decode cX12_layTurns 153 = .ok (.iadd, 1) := by decide +kernel
theorem dX12_layTurns_154 : decode cX12_layTurns 154 = .ok (.laload, 1) := by decide +kernel
theorem dX12_layTurns_155 : decode cX12_layTurns 155 = .ok (.ladd, 1) := by decide +kernel
theorem dX12_layTurns_156 : decode cX12_layTurns 156 = .ok (.lstore 9, 2) := by decide +kernel
theorem dX12_layTurns_158 : decode cX12_layTurns 158 = .ok (.aload_n 0, 1) := by decide +kernel
theorem dX12_layTurns_159 : decode cX12_layTurns 159 = .ok (.iload 7, 2) := by decide +kernel
theorem dX12_layTurns_161 : decode cX12_layTurns 161 = .ok (.ifCond .eq 8, 3) := by decide +kernel
theorem dX12_layTurns_164 : decode cX12_layTurns 164 = .ok (.iload 8, 2) := by decide +kernel
theorem dX12_layTurns_166 : decode cX12_layTurns 166 = .ok (.goto 5, 3) := by decide +kernel
theorem dX12_layTurns_169 : decode cX12_layTurns 169 = .ok (.iload 5, 2) := by decide +kernel
theorem dX12_layTurns_171 : decode cX12_layTurns 171 = .ok (.iload 7, 2) := by decide +kernel
theorem dX12_layTurns_173 : decode cX12_layTurns 173 = .ok (.ifCond .eq 8, 3) := by decide +kernel
theorem dX12_layTurns_176 : decode cX12_layTurns 176 = .ok (.iload 5, 2) := by decide +kernel
theorem dX12_layTurns_178 : decode cX12_layTurns 178 = .ok (.goto 5, 3) := by decide +kernel
theorem dX12_layTurns_181 : decode cX12_layTurns 181 = .ok (.iload 8, 2) := by decide +kernel
theorem dX12_layTurns_183 : decode cX12_layTurns 183 = .ok (.iconst 1, 1) := by decide +kernel
theorem dX12_layTurns_184 : decode cX12_layTurns 184 = .ok (.invokevirtual 356, 3) := by decide +kernel
theorem dX12_layTurns_187 : decode cX12_layTurns 187 = .ok (.i2l, 1) := by decide +kernel
theorem dX12_layTurns_188 : decode cX12_layTurns 188 = .ok (.aload_n 0, 1) := by decide +kernel
theorem dX12_layTurns_189 : decode cX12_layTurns 189 = .ok (.getfield 58, 3) := by decide +kernel
theorem dX12_layTurns_192 : decode cX12_layTurns 192 = .ok (.bipush 8, 2) := by decide +kernel
theorem dX12_layTurns_194 : decode cX12_layTurns 194 = .ok (.iload 4, 2) := by decide +kernel
theorem dX12_layTurns_196 : decode cX12_layTurns 196 = .ok (.iconst 1, 1) := by decide +kernel
theorem dX12_layTurns_197 : decode cX12_layTurns 197 = .ok (.iadd, 1) := by decide +kernel
theorem dX12_layTurns_198 : decode cX12_layTurns 198 = .ok (.imul, 1) := by decide +kernel
theorem dX12_layTurns_199 : decode cX12_layTurns 199 = .ok (.iload 8, 2) := by decide +kernel
theorem dX12_layTurns_201 : decode cX12_layTurns 201 = .ok (.iadd, 1) := by decide +kernel
theorem dX12_layTurns_202 : decode cX12_layTurns 202 = .ok (.laload, 1) := by decide +kernel
theorem dX12_layTurns_203 : decode cX12_layTurns 203 = .ok (.ladd, 1) := by decide +kernel
theorem dX12_layTurns_204 : decode cX12_layTurns 204 = .ok (.lstore 11, 2) := by decide +kernel
theorem dX12_layTurns_206 : decode cX12_layTurns 206 = .ok (.iload 8, 2) := by decide +kernel
theorem dX12_layTurns_208 : decode cX12_layTurns 208 = .ok (.ifCond .le 40, 3) := by decide +kernel
theorem dX12_layTurns_211 : decode cX12_layTurns 211 = .ok (.iload 7, 2) := by decide +kernel
theorem dX12_layTurns_213 : decode cX12_layTurns 213 = .ok (.ifCond .eq 19, 3) := by decide +kernel
theorem dX12_layTurns_216 : decode cX12_layTurns 216 = .ok (.lload 9, 2) := by decide +kernel
theorem dX12_layTurns_218 : decode cX12_layTurns 218 = .ok (.aload_n 0, 1) := by decide +kernel
theorem dX12_layTurns_219 : decode cX12_layTurns 219 = .ok (.getfield 55, 3) := by decide +kernel
theorem dX12_layTurns_222 : decode cX12_layTurns 222 = .ok (.iload 6, 2) := by decide +kernel
theorem dX12_layTurns_224 : decode cX12_layTurns 224 = .ok (.laload, 1) := by decide +kernel
theorem dX12_layTurns_225 : decode cX12_layTurns 225 = .ok (.lcmp, 1) := by decide +kernel
theorem dX12_layTurns_226 : decode cX12_layTurns 226 = .ok (.ifCond .gt 22, 3) := by decide +kernel
theorem dX12_layTurns_229 : decode cX12_layTurns 229 = .ok (.goto 46, 3) := by decide +kernel
theorem dX12_layTurns_232 : decode cX12_layTurns 232 = .ok (.lload 11, 2) := by decide +kernel
theorem dX12_layTurns_234 : decode cX12_layTurns 234 = .ok (.aload_n 0, 1) := by decide +kernel
theorem dX12_layTurns_235 : decode cX12_layTurns 235 = .ok (.getfield 58, 3) := by decide +kernel
theorem dX12_layTurns_238 : decode cX12_layTurns 238 = .ok (.iload 6, 2) := by decide +kernel
theorem dX12_layTurns_240 : decode cX12_layTurns 240 = .ok (.laload, 1) := by decide +kernel
theorem dX12_layTurns_241 : decode cX12_layTurns 241 = .ok (.lcmp, 1) := by decide +kernel
theorem dX12_layTurns_242 : decode cX12_layTurns 242 = .ok (.ifCond .gt 6, 3) := by decide +kernel
theorem dX12_layTurns_245 : decode cX12_layTurns 245 = .ok (.goto 30, 3) := by decide +kernel
theorem dX12_layTurns_248 : decode cX12_layTurns 248 = .ok (.aload_n 0, 1) := by decide +kernel
theorem dX12_layTurns_249 : decode cX12_layTurns 249 = .ok (.getfield 52, 3) := by decide +kernel
theorem dX12_layTurns_252 : decode cX12_layTurns 252 = .ok (.iload 6, 2) := by decide +kernel
theorem dX12_layTurns_254 : decode cX12_layTurns 254 = .ok (.iload 8, 2) := by decide +kernel
theorem dX12_layTurns_256 : decode cX12_layTurns 256 = .ok (.iastore, 1) := by decide +kernel
theorem dX12_layTurns_257 : decode cX12_layTurns 257 = .ok (.aload_n 0, 1) := by decide +kernel
theorem dX12_layTurns_258 : decode cX12_layTurns 258 = .ok (.getfield 55, 3) := by decide +kernel
theorem dX12_layTurns_261 : decode cX12_layTurns 261 = .ok (.iload 6, 2) := by decide +kernel
theorem dX12_layTurns_263 : decode cX12_layTurns 263 = .ok (.lload 9, 2) := by decide +kernel
theorem dX12_layTurns_265 : decode cX12_layTurns 265 = .ok (.lastore, 1) := by decide +kernel
theorem dX12_layTurns_266 : decode cX12_layTurns 266 = .ok (.aload_n 0, 1) := by decide +kernel
theorem dX12_layTurns_267 : decode cX12_layTurns 267 = .ok (.getfield 58, 3) := by decide +kernel
theorem dX12_layTurns_270 : decode cX12_layTurns 270 = .ok (.iload 6, 2) := by decide +kernel
theorem dX12_layTurns_272 : decode cX12_layTurns 272 = .ok (.lload 11, 2) := by decide +kernel
theorem dX12_layTurns_274 : decode cX12_layTurns 274 = .ok (.lastore, 1) := by decide +kernel
theorem dX12_layTurns_275 : decode cX12_layTurns 275 = .ok (.iinc 8 1, 3) := by decide +kernel
theorem dX12_layTurns_278 : decode cX12_layTurns 278 = .ok (.goto (-179), 3) := by decide +kernel
theorem dX12_layTurns_281 : decode cX12_layTurns 281 = .ok (.iinc 5 1, 3) := by decide +kernel
theorem dX12_layTurns_284 : decode cX12_layTurns 284 = .ok (.goto (-223), 3) := by decide +kernel
theorem dX12_layTurns_287 : decode cX12_layTurns 287 = .ok (.iinc 4 (-1), 3) := by decide +kernel
theorem dX12_layTurns_290 : decode cX12_layTurns 290 = .ok (.goto (-237), 3) := by decide +kernel
theorem dX12_layTurns_293 : decode cX12_layTurns 293 = .ok (.return_, 1) := by decide +kernel
theorem dX12_turn_0 : decode cX12_turn 0 = .ok (.aload_n 0, 1) := by decide +kernel
theorem dX12_turn_1 : decode cX12_turn 1 = .ok (.aload_n 0, 1) := by decide +kernel
theorem dX12_turn_2 : decode cX12_turn 2 = .ok (.iload_n 1, 1) := by decide +kernel
theorem dX12_turn_3 : decode cX12_turn 3 = .ok (.iload_n 2, 1) := by decide +kernel
theorem dX12_turn_4 : decode cX12_turn 4 = .ok (.iload_n 3, 1) := by decide +kernel
theorem dX12_turn_5 : decode cX12_turn 5 = .ok (.iload 4, 2) := by decide +kernel
theorem dX12_turn_7 : decode cX12_turn 7 = .ok (.invokevirtual 370, 3) := by decide +kernel
theorem dX12_turn_10 : decode cX12_turn 10 = .ok (.putfield 76, 3) := by decide +kernel
theorem dX12_turn_13 : decode cX12_turn 13 = .ok (.aload_n 0, 1) := by decide +kernel
theorem dX12_turn_14 : decode cX12_turn 14 = .ok (.getfield 76, 3) := by decide +kernel
theorem dX12_turn_17 : decode cX12_turn 17 = .ok (.ifCond .le 5, 3) := by decide +kernel
theorem dX12_turn_20 : decode cX12_turn 20 = .ok (.iconst 0, 1) := by decide +kernel
theorem dX12_turn_21 : decode cX12_turn 21 = .ok (.ireturn, 1) := by decide +kernel
theorem dX12_turn_22 : decode cX12_turn 22 = .ok (.iload 5, 2) := by decide +kernel
theorem dX12_turn_24 : decode cX12_turn 24 = .ok (.i2l, 1) := by decide +kernel
theorem dX12_turn_25 : decode cX12_turn 25 = .ok (.lconst 0, 1) := by decide +kernel
theorem dX12_turn_26 : decode cX12_turn 26 = .ok (.iload 4, 2) := by decide +kernel
theorem dX12_turn_28 : decode cX12_turn 28 = .ok (.iconst 1, 1) := by decide +kernel
theorem dX12_turn_29 : decode cX12_turn 29 = .ok (.isub, 1) := by decide +kernel
theorem dX12_turn_30 : decode cX12_turn 30 = .ok (.i2l, 1) := by decide +kernel
theorem dX12_turn_31 : decode cX12_turn 31 = .ok (.invokestatic 79, 3) := by decide +kernel
theorem dX12_turn_34 : decode cX12_turn 34 = .ok (.ifCond .ne 5, 3) := by decide +kernel
theorem dX12_turn_37 : decode cX12_turn 37 = .ok (.iconst (-1), 1) := by decide +kernel
theorem dX12_turn_38 : decode cX12_turn 38 = .ok (.ireturn, 1) := by decide +kernel
theorem dX12_turn_39 : decode cX12_turn 39 = .ok (.aload_n 0, 1) := by decide +kernel
theorem dX12_turn_40 : decode cX12_turn 40 = .ok (.iload_n 1, 1) := by decide +kernel
theorem dX12_turn_41 : decode cX12_turn 41 = .ok (.iload_n 2, 1) := by decide +kernel
theorem dX12_turn_42 : decode cX12_turn 42 = .ok (.iload 4, 2) := by decide +kernel
theorem dX12_turn_44 : decode cX12_turn 44 = .ok (.invokevirtual 374, 3) := by decide +kernel
theorem dX12_turn_47 : decode cX12_turn 47 = .ok (.iload_n 3, 1) := by decide +kernel
theorem dX12_turn_48 : decode cX12_turn 48 = .ok (.istore 6, 2) := by decide +kernel
theorem dX12_turn_50 : decode cX12_turn 50 = .ok (.iconst 0, 1) := by decide +kernel
theorem dX12_turn_51 : decode cX12_turn 51 = .ok (.istore 7, 2) := by decide +kernel
theorem dX12_turn_53 : decode cX12_turn 53 = .ok (.iload 7, 2) := by decide +kernel
theorem dX12_turn_55 : decode cX12_turn 55 = .ok (.iload 5, 2) := by decide +kernel
theorem dX12_turn_57 : decode cX12_turn 57 = .ok (.if_icmp .ge 24, 3) := by decide +kernel
theorem dX12_turn_60 : decode cX12_turn 60 = .ok (.aload_n 0, 1) := by decide +kernel
theorem dX12_turn_61 : decode cX12_turn 61 = .ok (.getfield 52, 3) := by decide +kernel
theorem dX12_turn_64 : decode cX12_turn 64 = .ok (.bipush 8, 2) := by decide +kernel
theorem dX12_turn_66 : decode cX12_turn 66 = .ok (.iload 7, 2) := by decide +kernel
theorem dX12_turn_68 : decode cX12_turn 68 = .ok (.imul, 1) := by decide +kernel
theorem dX12_turn_69 : decode cX12_turn 69 = .ok (.iload 6, 2) := by decide +kernel
theorem dX12_turn_71 : decode cX12_turn 71 = .ok (.iadd, 1) := by decide +kernel
theorem dX12_turn_72 : decode cX12_turn 72 = .ok (.iaload, 1) := by decide +kernel
theorem dX12_turn_73 : decode cX12_turn 73 = .ok (.istore 6, 2) := by decide +kernel
theorem dX12_turn_75 : decode cX12_turn 75 = .ok (.iinc 7 1, 3) := by decide +kernel
theorem dX12_turn_78 : decode cX12_turn 78 = .ok (.goto (-25), 3) := by decide +kernel
theorem dX12_turn_81 : decode cX12_turn 81 = .ok (.aload_n 0, 1) := by decide +kernel
theorem dX12_turn_82 : decode cX12_turn 82 = .ok (.getfield 52, 3) := by decide +kernel
theorem dX12_turn_85 : decode cX12_turn 85 = .ok (.bipush 8, 2) := by decide +kernel
theorem dX12_turn_87 : decode cX12_turn 87 = .ok (.iload 5, 2) := by decide +kernel
theorem dX12_turn_89 : decode cX12_turn 89 = .ok (.imul, 1) := by decide +kernel
theorem dX12_turn_90 : decode cX12_turn 90 = .ok (.iload 6, 2) := by decide +kernel
theorem dX12_turn_92 : decode cX12_turn 92 = .ok (.iadd, 1) := by decide +kernel
theorem dX12_turn_93 : decode cX12_turn 93 = .ok (.iaload, 1) := by decide +kernel
theorem dX12_turn_94 : decode cX12_turn 94 = .ok (.ireturn, 1) := by decide +kernel
theorem dX12_gains_0 : decode cX12_gains 0 = .ok (.aload_n 0, 1) := by decide +kernel
theorem dX12_gains_1 : decode cX12_gains 1 = .ok (.aload_n 0, 1) := by decide +kernel
theorem dX12_gains_2 : decode cX12_gains 2 = .ok (.iload_n 1, 1) := by decide +kernel
theorem dX12_gains_3 : decode cX12_gains 3 = .ok (.iload_n 2, 1) := by decide +kernel
theorem dX12_gains_4 : decode cX12_gains 4 = .ok (.iload_n 3, 1) := by decide +kernel
theorem dX12_gains_5 : decode cX12_gains 5 = .ok (.iload 4, 2) := by decide +kernel
theorem dX12_gains_7 : decode cX12_gains 7 = .ok (.invokevirtual 370, 3) := by decide +kernel
theorem dX12_gains_10 : decode cX12_gains 10 = .ok (.putfield 76, 3) := by decide +kernel
theorem dX12_gains_13 : decode cX12_gains 13 = .ok (.aload_n 0, 1) := by decide +kernel
theorem dX12_gains_14 : decode cX12_gains 14 = .ok (.getfield 76, 3) := by decide +kernel
theorem dX12_gains_17 : decode cX12_gains 17 = .ok (.ifCond .le 5, 3) := by decide +kernel
theorem dX12_gains_20 : decode cX12_gains 20 = .ok (.lconst 0, 1) := by decide +kernel
theorem dX12_gains_21 : decode cX12_gains 21 = .ok (.lreturn, 1) := by decide +kernel
theorem dX12_gains_22 : decode cX12_gains 22 = .ok (.aload_n 0, 1) := by decide +kernel
theorem dX12_gains_23 : decode cX12_gains 23 = .ok (.iload_n 1, 1) := by decide +kernel
theorem dX12_gains_24 : decode cX12_gains 24 = .ok (.iload_n 2, 1) := by decide +kernel
theorem dX12_gains_25 : decode cX12_gains 25 = .ok (.iload 4, 2) := by decide +kernel
theorem dX12_gains_27 : decode cX12_gains 27 = .ok (.invokevirtual 374, 3) := by decide +kernel
theorem dX12_gains_30 : decode cX12_gains 30 = .ok (.iload 5, 2) := by decide +kernel
theorem dX12_gains_32 : decode cX12_gains 32 = .ok (.ifCond .eq 12, 3) := by decide +kernel
theorem dX12_gains_35 : decode cX12_gains 35 = .ok (.aload_n 0, 1) := by decide +kernel
theorem dX12_gains_36 : decode cX12_gains 36 = .ok (.getfield 58, 3) := by decide +kernel
theorem dX12_gains_39 : decode cX12_gains 39 = .ok (.iload_n 3, 1) := by decide +kernel
theorem dX12_gains_40 : decode cX12_gains 40 = .ok (.laload, 1) := by decide +kernel
theorem dX12_gains_41 : decode cX12_gains 41 = .ok (.goto 9, 3) := by decide +kernel
theorem dX12_gains_44 : decode cX12_gains 44 = .ok (.aload_n 0, 1) := by decide +kernel
theorem dX12_gains_45 : decode cX12_gains 45 = .ok (.getfield 55, 3) := by decide +kernel
theorem dX12_gains_48 : decode cX12_gains 48 = .ok (.iload_n 3, 1) := by decide +kernel
theorem dX12_gains_49 : decode cX12_gains 49 = .ok (.laload, 1) := by decide +kernel
theorem dX12_gains_50 : decode cX12_gains 50 = .ok (.lreturn, 1) := by decide +kernel
theorem dX12_draw_0 : decode cX12_draw 0 = .ok (.aload_n 0, 1) := by decide +kernel
theorem dX12_draw_1 : decode cX12_draw 1 = .ok (.ldc_w 378, 3) := by decide +kernel
theorem dX12_draw_4 : decode cX12_draw 4 = .ok (.aload_n 0, 1) := by decide +kernel
theorem dX12_draw_5 : decode cX12_draw 5 = .ok (.getfield 379, 3) := by decide +kernel
theorem dX12_draw_8 : decode cX12_draw 8 = .ok (.imul, 1) := by decide +kernel
theorem dX12_draw_9 : decode cX12_draw 9 = .ok (.sipush 12345, 3) := by decide +kernel
theorem dX12_draw_12 : decode cX12_draw 12 = .ok (.iadd, 1) := by decide +kernel
theorem dX12_draw_13 : decode cX12_draw 13 = .ok (.putfield 379, 3) := by decide +kernel
theorem dX12_draw_16 : decode cX12_draw 16 = .ok (.aload_n 0, 1) := by decide +kernel
theorem dX12_draw_17 : decode cX12_draw 17 = .ok (.getfield 379, 3) := by decide +kernel
theorem dX12_draw_20 : decode cX12_draw 20 = .ok (.bipush 16, 2) := by decide +kernel
theorem dX12_draw_22 : decode cX12_draw 22 = .ok (.iushr, 1) := by decide +kernel
theorem dX12_draw_23 : decode cX12_draw 23 = .ok (.ireturn, 1) := by decide +kernel
theorem dX12_greatest_0 : decode cX12_greatest 0 = .ok (.iconst 0, 1) := by decide +kernel
theorem dX12_greatest_1 : decode cX12_greatest 1 = .ok (.istore_n 3, 1) := by decide +kernel
theorem dX12_greatest_2 : decode cX12_greatest 2 = .ok (.iconst 1, 1) := by decide +kernel
theorem dX12_greatest_3 : decode cX12_greatest 3 = .ok (.istore 4, 2) := by decide +kernel
theorem dX12_greatest_5 : decode cX12_greatest 5 = .ok (.iload 4, 2) := by decide +kernel
theorem dX12_greatest_7 : decode cX12_greatest 7 = .ok (.aload_n 0, 1) := by decide +kernel
theorem dX12_greatest_8 : decode cX12_greatest 8 = .ok (.getfield 9, 3) := by decide +kernel
theorem dX12_greatest_11 : decode cX12_greatest 11 = .ok (.iconst 3, 1) := by decide +kernel
theorem dX12_greatest_12 : decode cX12_greatest 12 = .ok (.iaload, 1) := by decide +kernel
theorem dX12_greatest_13 : decode cX12_greatest 13 = .ok (.if_icmp .ge 48, 3) := by decide +kernel
theorem dX12_greatest_16 : decode cX12_greatest 16 = .ok (.aload_n 0, 1) := by decide +kernel
theorem dX12_greatest_17 : decode cX12_greatest 17 = .ok (.getfield 61, 3) := by decide +kernel
theorem dX12_greatest_20 : decode cX12_greatest 20 = .ok (.bipush 64, 2) := by decide +kernel
theorem dX12_greatest_22 : decode cX12_greatest 22 = .ok (.iload_n 1, 1) := by decide +kernel
theorem dX12_greatest_23 : decode cX12_greatest 23 = .ok (.imul, 1) := by decide +kernel
theorem dX12_greatest_24 : decode cX12_greatest 24 = .ok (.bipush 8, 2) := by decide +kernel
theorem dX12_greatest_26 : decode cX12_greatest 26 = .ok (.iload_n 2, 1) := by decide +kernel
theorem dX12_greatest_27 : decode cX12_greatest 27 = .ok (.imul, 1) := by decide +kernel
theorem dX12_greatest_28 : decode cX12_greatest 28 = .ok (.iadd, 1) := by decide +kernel
theorem dX12_greatest_29 : decode cX12_greatest 29 = .ok (.iload 4, 2) := by decide +kernel
theorem dX12_greatest_31 : decode cX12_greatest 31 = .ok (.iadd, 1) := by decide +kernel
theorem dX12_greatest_32 : decode cX12_greatest 32 = .ok (.iaload, 1) := by decide +kernel
theorem dX12_greatest_33 : decode cX12_greatest 33 = .ok (.aload_n 0, 1) := by decide +kernel
theorem dX12_greatest_34 : decode cX12_greatest 34 = .ok (.getfield 61, 3) := by decide +kernel
theorem dX12_greatest_37 : decode cX12_greatest 37 = .ok (.bipush 64, 2) := by decide +kernel
theorem dX12_greatest_39 : decode cX12_greatest 39 = .ok (.iload_n 1, 1) := by decide +kernel
theorem dX12_greatest_40 : decode cX12_greatest 40 = .ok (.imul, 1) := by decide +kernel
theorem dX12_greatest_41 : decode cX12_greatest 41 = .ok (.bipush 8, 2) := by decide +kernel
theorem dX12_greatest_43 : decode cX12_greatest 43 = .ok (.iload_n 2, 1) := by decide +kernel
theorem dX12_greatest_44 : decode cX12_greatest 44 = .ok (.imul, 1) := by decide +kernel
theorem dX12_greatest_45 : decode cX12_greatest 45 = .ok (.iadd, 1) := by decide +kernel
theorem dX12_greatest_46 : decode cX12_greatest 46 = .ok (.iload_n 3, 1) := by decide +kernel
theorem dX12_greatest_47 : decode cX12_greatest 47 = .ok (.iadd, 1) := by decide +kernel
theorem dX12_greatest_48 : decode cX12_greatest 48 = .ok (.iaload, 1) := by decide +kernel
theorem dX12_greatest_49 : decode cX12_greatest 49 = .ok (.if_icmp .le 6, 3) := by decide +kernel
theorem dX12_greatest_52 : decode cX12_greatest 52 = .ok (.iload 4, 2) := by decide +kernel
theorem dX12_greatest_54 : decode cX12_greatest 54 = .ok (.istore_n 3, 1) := by decide +kernel
theorem dX12_greatest_55 : decode cX12_greatest 55 = .ok (.iinc 4 1, 3) := by decide +kernel
theorem dX12_greatest_58 : decode cX12_greatest 58 = .ok (.goto (-53), 3) := by decide +kernel
theorem dX12_greatest_61 : decode cX12_greatest 61 = .ok (.iload_n 3, 1) := by decide +kernel
theorem dX12_greatest_62 : decode cX12_greatest 62 = .ok (.ireturn, 1) := by decide +kernel
theorem dX12_takes_0 : decode cX12_takes 0 = .ok (.aload_n 0, 1) := by decide +kernel
theorem dX12_takes_1 : decode cX12_takes 1 = .ok (.invokevirtual 382, 3) := by decide +kernel
theorem dX12_takes_4 : decode cX12_takes 4 = .ok (.bipush 100, 2) := by decide +kernel
theorem dX12_takes_6 : decode cX12_takes 6 = .ok (.irem, 1) := by decide +kernel
theorem dX12_takes_7 : decode cX12_takes 7 = .ok (.iload_n 3, 1) := by decide +kernel
theorem dX12_takes_8 : decode cX12_takes 8 = .ok (.if_icmp .ge 17, 3) := by decide +kernel
theorem dX12_takes_11 : decode cX12_takes 11 = .ok (.aload_n 0, 1) := by decide +kernel
theorem dX12_takes_12 : decode cX12_takes 12 = .ok (.invokevirtual 382, 3) := by decide +kernel
theorem dX12_takes_15 : decode cX12_takes 15 = .ok (.aload_n 0, 1) := by decide +kernel
theorem dX12_takes_16 : decode cX12_takes 16 = .ok (.getfield 9, 3) := by decide +kernel
theorem dX12_takes_19 : decode cX12_takes 19 = .ok (.iconst 3, 1) := by decide +kernel
theorem dX12_takes_20 : decode cX12_takes 20 = .ok (.iaload, 1) := by decide +kernel
theorem dX12_takes_21 : decode cX12_takes 21 = .ok (.irem, 1) := by decide +kernel
theorem dX12_takes_22 : decode cX12_takes 22 = .ok (.goto 9, 3) := by decide +kernel
theorem dX12_takes_25 : decode cX12_takes 25 = .ok (.aload_n 0, 1) := by decide +kernel
theorem dX12_takes_26 : decode cX12_takes 26 = .ok (.iload_n 1, 1) := by decide +kernel
theorem dX12_takes_27 : decode cX12_takes 27 = .ok (.iload_n 2, 1) := by decide +kernel
theorem dX12_takes_28 : decode cX12_takes 28 = .ok (.invokevirtual 385, 3) := by decide +kernel
theorem dX12_takes_31 : decode cX12_takes 31 = .ok (.ireturn, 1) := by decide +kernel
theorem dX12_teaches_0 : decode cX12_teaches 0 = .ok (.bipush 64, 2) := by decide +kernel
theorem dX12_teaches_2 : decode cX12_teaches 2 = .ok (.iload_n 1, 1) := by decide +kernel
theorem dX12_teaches_3 : decode cX12_teaches 3 = .ok (.imul, 1) := by decide +kernel
theorem dX12_teaches_4 : decode cX12_teaches 4 = .ok (.bipush 8, 2) := by decide +kernel
theorem dX12_teaches_6 : decode cX12_teaches 6 = .ok (.iload_n 2, 1) := by decide +kernel
theorem dX12_teaches_7 : decode cX12_teaches 7 = .ok (.imul, 1) := by decide +kernel
theorem dX12_teaches_8 : decode cX12_teaches 8 = .ok (.iadd, 1) := by decide +kernel
theorem dX12_teaches_9 : decode cX12_teaches 9 = .ok (.iload_n 3, 1) := by decide +kernel
theorem dX12_teaches_10 : decode cX12_teaches 10 = .ok (.iadd, 1) := by decide +kernel
theorem dX12_teaches_11 : decode cX12_teaches 11 = .ok (.istore 6, 2) := by decide +kernel
theorem dX12_teaches_13 : decode cX12_teaches 13 = .ok (.aload_n 0, 1) := by decide +kernel
theorem dX12_teaches_14 : decode cX12_teaches 14 = .ok (.getfield 61, 3) := by decide +kernel
theorem dX12_teaches_17 : decode cX12_teaches 17 = .ok (.bipush 64, 2) := by decide +kernel
theorem dX12_teaches_19 : decode cX12_teaches 19 = .ok (.iload_n 1, 1) := by decide +kernel
theorem dX12_teaches_20 : decode cX12_teaches 20 = .ok (.imul, 1) := by decide +kernel
theorem dX12_teaches_21 : decode cX12_teaches 21 = .ok (.bipush 8, 2) := by decide +kernel
theorem dX12_teaches_23 : decode cX12_teaches 23 = .ok (.iload 5, 2) := by decide +kernel
theorem dX12_teaches_25 : decode cX12_teaches 25 = .ok (.imul, 1) := by decide +kernel
theorem dX12_teaches_26 : decode cX12_teaches 26 = .ok (.iadd, 1) := by decide +kernel
theorem dX12_teaches_27 : decode cX12_teaches 27 = .ok (.aload_n 0, 1) := by decide +kernel
theorem dX12_teaches_28 : decode cX12_teaches 28 = .ok (.iload_n 1, 1) := by decide +kernel
theorem dX12_teaches_29 : decode cX12_teaches 29 = .ok (.iload 5, 2) := by decide +kernel
theorem dX12_teaches_31 : decode cX12_teaches 31 = .ok (.invokevirtual 385, 3) := by decide +kernel
theorem dX12_teaches_34 : decode cX12_teaches 34 = .ok (.iadd, 1) := by decide +kernel
theorem dX12_teaches_35 : decode cX12_teaches 35 = .ok (.iaload, 1) := by decide +kernel
theorem dX12_teaches_36 : decode cX12_teaches 36 = .ok (.istore 7, 2) := by decide +kernel
theorem dX12_teaches_38 : decode cX12_teaches 38 = .ok (.aload_n 0, 1) := by decide +kernel
theorem dX12_teaches_39 : decode cX12_teaches 39 = .ok (.getfield 61, 3) := by decide +kernel
theorem dX12_teaches_42 : decode cX12_teaches 42 = .ok (.iload 6, 2) := by decide +kernel
theorem dX12_teaches_44 : decode cX12_teaches 44 = .ok (.dup2, 1) := by decide +kernel
theorem dX12_teaches_45 : decode cX12_teaches 45 = .ok (.iaload, 1) := by decide +kernel
theorem dX12_teaches_46 : decode cX12_teaches 46 = .ok (.bipush 8, 2) := by decide +kernel
theorem dX12_teaches_48 : decode cX12_teaches 48 = .ok (.iload 4, 2) := by decide +kernel
theorem dX12_teaches_50 : decode cX12_teaches 50 = .ok (.imul, 1) := by decide +kernel
theorem dX12_teaches_51 : decode cX12_teaches 51 = .ok (.bipush 7, 2) := by decide +kernel
theorem dX12_teaches_53 : decode cX12_teaches 53 = .ok (.iload 7, 2) := by decide +kernel
theorem dX12_teaches_55 : decode cX12_teaches 55 = .ok (.imul, 1) := by decide +kernel
theorem dX12_teaches_56 : decode cX12_teaches 56 = .ok (.bipush 8, 2) := by decide +kernel
theorem dX12_teaches_58 : decode cX12_teaches 58 = .ok (.idiv, 1) := by decide +kernel
theorem dX12_teaches_59 : decode cX12_teaches 59 = .ok (.iadd, 1) := by decide +kernel
theorem dX12_teaches_60 : decode cX12_teaches 60 = .ok (.aload_n 0, 1) := by decide +kernel
theorem dX12_teaches_61 : decode cX12_teaches 61 = .ok (.getfield 61, 3) := by decide +kernel
theorem dX12_teaches_64 : decode cX12_teaches 64 = .ok (.iload 6, 2) := by decide +kernel
theorem dX12_teaches_66 : decode cX12_teaches 66 = .ok (.iaload, 1) := by decide +kernel
theorem dX12_teaches_67 : decode cX12_teaches 67 = .ok (.isub, 1) := by decide +kernel
theorem dX12_teaches_68 : decode cX12_teaches 68 = .ok (.bipush 8, 2) := by decide +kernel
theorem dX12_teaches_70 : decode cX12_teaches 70 = .ok (.idiv, 1) := by decide +kernel
theorem dX12_teaches_71 : decode cX12_teaches 71 = .ok (.iadd, 1) := by decide +kernel
theorem dX12_teaches_72 : decode cX12_teaches 72 = .ok (.iastore, 1) := by decide +kernel
theorem dX12_teaches_73 : decode cX12_teaches 73 = .ok (.return_, 1) := by decide +kernel
theorem dX12_learns_0 : decode cX12_learns 0 = .ok (.aload_n 0, 1) := by decide +kernel
theorem dX12_learns_1 : decode cX12_learns 1 = .ok (.iload_n 2, 1) := by decide +kernel
theorem dX12_learns_2 : decode cX12_learns 2 = .ok (.putfield 379, 3) := by decide +kernel
theorem dX12_learns_5 : decode cX12_learns 5 = .ok (.iconst 0, 1) := by decide +kernel
theorem dX12_learns_6 : decode cX12_learns 6 = .ok (.istore_n 3, 1) := by decide +kernel
theorem dX12_learns_7 : decode cX12_learns 7 = .ok (.iload_n 3, 1) := by decide +kernel
theorem dX12_learns_8 : decode cX12_learns 8 = .ok (.aload_n 0, 1) := by decide +kernel
theorem dX12_learns_9 : decode cX12_learns 9 = .ok (.getfield 61, 3) := by decide +kernel
theorem dX12_learns_12 : decode cX12_learns 12 = .ok (.arraylength, 1) := by decide +kernel
theorem dX12_learns_13 : decode cX12_learns 13 = .ok (.if_icmp .ge 16, 3) := by decide +kernel
theorem dX12_learns_16 : decode cX12_learns 16 = .ok (.aload_n 0, 1) := by decide +kernel
theorem dX12_learns_17 : decode cX12_learns 17 = .ok (.getfield 61, 3) := by decide +kernel
theorem dX12_learns_20 : decode cX12_learns 20 = .ok (.iload_n 3, 1) := by decide +kernel
theorem dX12_learns_21 : decode cX12_learns 21 = .ok (.iconst 0, 1) := by decide +kernel
theorem dX12_learns_22 : decode cX12_learns 22 = .ok (.iastore, 1) := by decide +kernel
theorem dX12_learns_23 : decode cX12_learns 23 = .ok (.iinc 3 1, 3) := by decide +kernel
theorem dX12_learns_26 : decode cX12_learns 26 = .ok (.goto (-19), 3) := by decide +kernel
theorem dX12_learns_29 : decode cX12_learns 29 = .ok (.aload_n 0, 1) := by decide +kernel
theorem dX12_learns_30 : decode cX12_learns 30 = .ok (.aload_n 0, 1) := by decide +kernel
theorem dX12_learns_31 : decode cX12_learns 31 = .ok (.getfield 9, 3) := by decide +kernel
theorem dX12_learns_34 : decode cX12_learns 34 = .ok (.iconst 3, 1) := by decide +kernel
theorem dX12_learns_35 : decode cX12_learns 35 = .ok (.iaload, 1) := by decide +kernel
theorem dX12_learns_36 : decode cX12_learns 36 = .ok (.iconst 1, 1) := by decide +kernel
theorem dX12_learns_37 : decode cX12_learns 37 = .ok (.isub, 1) := by decide +kernel
theorem dX12_learns_38 : decode cX12_learns 38 = .ok (.putfield 388, 3) := by decide +kernel
theorem dX12_learns_41 : decode cX12_learns 41 = .ok (.aload_n 0, 1) := by decide +kernel
theorem dX12_learns_42 : decode cX12_learns 42 = .ok (.aload_n 0, 1) := by decide +kernel
theorem dX12_learns_43 : decode cX12_learns 43 = .ok (.getfield 388, 3) := by decide +kernel
theorem dX12_learns_46 : decode cX12_learns 46 = .ok (.putfield 391, 3) := by decide +kernel
theorem dX12_learns_49 : decode cX12_learns 49 = .ok (.iconst 0, 1) := by decide +kernel
theorem dX12_learns_50 : decode cX12_learns 50 = .ok (.istore_n 3, 1) := by decide +kernel
theorem dX12_learns_51 : decode cX12_learns 51 = .ok (.iload_n 3, 1) := by decide +kernel
theorem dX12_learns_52 : decode cX12_learns 52 = .ok (.iload_n 1, 1) := by decide +kernel
theorem dX12_learns_53 : decode cX12_learns 53 = .ok (.if_icmp .ge 102, 3) := by decide +kernel
theorem dX12_learns_56 : decode cX12_learns 56 = .ok (.bipush 50, 2) := by decide +kernel
theorem dX12_learns_58 : decode cX12_learns 58 = .ok (.bipush 50, 2) := by decide +kernel
theorem dX12_learns_60 : decode cX12_learns 60 = .ok (.iload_n 3, 1) := by decide +kernel
theorem dX12_learns_61 : decode cX12_learns 61 = .ok (.imul, 1) := by decide +kernel
theorem dX12_learns_62 : decode cX12_learns 62 = .ok (.iload_n 1, 1) := by decide +kernel
theorem dX12_learns_63 : decode cX12_learns 63 = .ok (.idiv, 1) := by decide +kernel
theorem dX12_learns_64 : decode cX12_learns 64 = .ok (.isub, 1) := by decide +kernel
theorem dX12_learns_65 : decode cX12_learns 65 = .ok (.istore 4, 2) := by decide +kernel
theorem dX12_learns_67 : decode cX12_learns 67 = .ok (.aload_n 0, 1) := by decide +kernel
theorem dX12_learns_68 : decode cX12_learns 68 = .ok (.iconst 0, 1) := by decide +kernel
theorem dX12_learns_69 : decode cX12_learns 69 = .ok (.aload_n 0, 1) := by decide +kernel
theorem dX12_learns_70 : decode cX12_learns 70 = .ok (.getfield 391, 3) := by decide +kernel
theorem dX12_learns_73 : decode cX12_learns 73 = .ok (.iload 4, 2) := by decide +kernel
theorem dX12_learns_75 : decode cX12_learns 75 = .ok (.invokevirtual 394, 3) := by decide +kernel
theorem dX12_learns_78 : decode cX12_learns 78 = .ok (.istore 5, 2) := by decide +kernel
theorem dX12_learns_80 : decode cX12_learns 80 = .ok (.aload_n 0, 1) := by decide +kernel
theorem dX12_learns_81 : decode cX12_learns 81 = .ok (.iconst 1, 1) := by decide +kernel
theorem dX12_learns_82 : decode cX12_learns 82 = .ok (.aload_n 0, 1) := by decide +kernel
theorem dX12_learns_83 : decode cX12_learns 83 = .ok (.getfield 388, 3) := by decide +kernel
theorem dX12_learns_86 : decode cX12_learns 86 = .ok (.iload 4, 2) := by decide +kernel
theorem dX12_learns_88 : decode cX12_learns 88 = .ok (.invokevirtual 394, 3) := by decide +kernel
theorem dX12_learns_91 : decode cX12_learns 91 = .ok (.istore 6, 2) := by decide +kernel
theorem dX12_learns_93 : decode cX12_learns 93 = .ok (.aload_n 0, 1) := by decide +kernel
theorem dX12_learns_94 : decode cX12_learns 94 = .ok (.iconst 0, 1) := by decide +kernel
theorem dX12_learns_95 : decode cX12_learns 95 = .ok (.aload_n 0, 1) := by decide +kernel
theorem dX12_learns_96 : decode cX12_learns 96 = .ok (.getfield 391, 3) := by decide +kernel
theorem dX12_learns_99 : decode cX12_learns 99 = .ok (.iload 5, 2) := by decide +kernel
theorem dX12_learns_101 : decode cX12_learns 101 = .ok (.aload_n 0, 1) := by decide +kernel
theorem dX12_learns_102 : decode cX12_learns 102 = .ok (.iload 5, 2) := by decide +kernel
theorem dX12_learns_104 : decode cX12_learns 104 = .ok (.iload 6, 2) := by decide +kernel
theorem dX12_learns_106 : decode cX12_learns 106 = .ok (.iconst 0, 1) := by decide +kernel
theorem dX12_learns_107 : decode cX12_learns 107 = .ok (.invokevirtual 356, 3) := by decide +kernel
theorem dX12_learns_110 : decode cX12_learns 110 = .ok (.iload 6, 2) := by decide +kernel
theorem dX12_learns_112 : decode cX12_learns 112 = .ok (.invokevirtual 397, 3) := by decide +kernel
theorem dX12_learns_115 : decode cX12_learns 115 = .ok (.aload_n 0, 1) := by decide +kernel
theorem dX12_learns_116 : decode cX12_learns 116 = .ok (.iconst 1, 1) := by decide +kernel
theorem dX12_learns_117 : decode cX12_learns 117 = .ok (.aload_n 0, 1) := by decide +kernel
theorem dX12_learns_118 : decode cX12_learns 118 = .ok (.getfield 388, 3) := by decide +kernel
theorem dX12_learns_121 : decode cX12_learns 121 = .ok (.iload 6, 2) := by decide +kernel
theorem dX12_learns_123 : decode cX12_learns 123 = .ok (.aload_n 0, 1) := by decide +kernel
theorem dX12_learns_124 : decode cX12_learns 124 = .ok (.iload 5, 2) := by decide +kernel
theorem dX12_learns_126 : decode cX12_learns 126 = .ok (.iload 6, 2) := by decide +kernel
theorem dX12_learns_128 : decode cX12_learns 128 = .ok (.iconst 1, 1) := by decide +kernel
theorem dX12_learns_129 : decode cX12_learns 129 = .ok (.invokevirtual 356, 3) := by decide +kernel
theorem dX12_learns_132 : decode cX12_learns 132 = .ok (.iload 5, 2) := by decide +kernel
theorem dX12_learns_134 : decode cX12_learns 134 = .ok (.invokevirtual 397, 3) := by decide +kernel
theorem dX12_learns_137 : decode cX12_learns 137 = .ok (.aload_n 0, 1) := by decide +kernel
theorem dX12_learns_138 : decode cX12_learns 138 = .ok (.iload 5, 2) := by decide +kernel
theorem dX12_learns_140 : decode cX12_learns 140 = .ok (.putfield 388, 3) := by decide +kernel
theorem dX12_learns_143 : decode cX12_learns 143 = .ok (.aload_n 0, 1) := by decide +kernel
theorem dX12_learns_144 : decode cX12_learns 144 = .ok (.iload 6, 2) := by decide +kernel
theorem dX12_learns_146 : decode cX12_learns 146 = .ok (.putfield 391, 3) := by decide +kernel
theorem dX12_learns_149 : decode cX12_learns 149 = .ok (.iinc 3 1, 3) := by decide +kernel
theorem dX12_learns_152 : decode cX12_learns 152 = .ok (.goto (-101), 3) := by decide +kernel
theorem dX12_learns_155 : decode cX12_learns 155 = .ok (.iconst 0, 1) := by decide +kernel
theorem dX12_learns_156 : decode cX12_learns 156 = .ok (.istore_n 3, 1) := by decide +kernel
theorem dX12_learns_157 : decode cX12_learns 157 = .ok (.iload_n 3, 1) := by decide +kernel
theorem dX12_learns_158 : decode cX12_learns 158 = .ok (.bipush 10, 2) := by decide +kernel
theorem dX12_learns_160 : decode cX12_learns 160 = .ok (.if_icmp .ge 43, 3) := by decide +kernel
theorem dX12_learns_163 : decode cX12_learns 163 = .ok (.aload_n 0, 1) := by decide +kernel
theorem dX12_learns_164 : decode cX12_learns 164 = .ok (.iconst 0, 1) := by decide +kernel
theorem dX12_learns_165 : decode cX12_learns 165 = .ok (.aload_n 0, 1) := by decide +kernel
theorem dX12_learns_166 : decode cX12_learns 166 = .ok (.getfield 391, 3) := by decide +kernel
theorem dX12_learns_169 : decode cX12_learns 169 = .ok (.invokevirtual 385, 3) := by decide +kernel
theorem dX12_learns_172 : decode cX12_learns 172 = .ok (.istore 4, 2) := by decide +kernel
theorem dX12_learns_174 : decode cX12_learns 174 = .ok (.aload_n 0, 1) := by decide +kernel
theorem dX12_learns_175 : decode cX12_learns 175 = .ok (.iconst 1, 1) := by decide +kernel
theorem dX12_learns_176 : decode cX12_learns 176 = .ok (.aload_n 0, 1) := by decide +kernel
theorem dX12_learns_177 : decode cX12_learns 177 = .ok (.getfield 388, 3) := by decide +kernel
theorem dX12_learns_180 : decode cX12_learns 180 = .ok (.invokevirtual 385, 3) := by decide +kernel
theorem dX12_learns_183 : decode cX12_learns 183 = .ok (.istore 5, 2) := by decide +kernel
theorem dX12_learns_185 : decode cX12_learns 185 = .ok (.aload_n 0, 1) := by decide +kernel
theorem dX12_learns_186 : decode cX12_learns 186 = .ok (.iload 4, 2) := by decide +kernel
theorem dX12_learns_188 : decode cX12_learns 188 = .ok (.putfield 388, 3) := by decide +kernel
theorem dX12_learns_191 : decode cX12_learns 191 = .ok (.aload_n 0, 1) := by decide +kernel
theorem dX12_learns_192 : decode cX12_learns 192 = .ok (.iload 5, 2) := by decide +kernel
theorem dX12_learns_194 : decode cX12_learns 194 = .ok (.putfield 391, 3) := by decide +kernel
theorem dX12_learns_197 : decode cX12_learns 197 = .ok (.iinc 3 1, 3) := by decide +kernel
theorem dX12_learns_200 : decode cX12_learns 200 = .ok (.goto (-43), 3) := by decide +kernel
theorem dX12_learns_203 : decode cX12_learns 203 = .ok (.return_, 1) := by decide +kernel
theorem dX12_learnFault_0 : decode cX12_learnFault 0 = .ok (.aload_n 0, 1) := by decide +kernel
theorem dX12_learnFault_1 : decode cX12_learnFault 1 = .ok (.iload_n 1, 1) := by decide +kernel
theorem dX12_learnFault_2 : decode cX12_learnFault 2 = .ok (.iload_n 2, 1) := by decide +kernel
theorem dX12_learnFault_3 : decode cX12_learnFault 3 = .ok (.invokevirtual 347, 3) := by decide +kernel
theorem dX12_learnFault_6 : decode cX12_learnFault 6 = .ok (.ifCond .le 12, 3) := by decide +kernel
theorem dX12_learnFault_9 : decode cX12_learnFault 9 = .ok (.aload_n 0, 1) := by decide +kernel
theorem dX12_learnFault_10 : decode cX12_learnFault 10 = .ok (.iload_n 1, 1) := by decide +kernel
theorem dX12_learnFault_11 : decode cX12_learnFault 11 = .ok (.iload_n 2, 1) := by decide +kernel
theorem dX12_learnFault_12 : decode cX12_learnFault 12 = .ok (.invokevirtual 347, 3) := by decide +kernel
theorem dX12_learnFault_15 : decode cX12_learnFault 15 = .ok (.goto 20, 3) := by decide +kernel
theorem dX12_learnFault_18 : decode cX12_learnFault 18 = .ok (.iload_n 3, 1) := by decide +kernel
theorem dX12_learnFault_19 : decode cX12_learnFault 19 = .ok (.i2l, 1) := by decide +kernel
theorem dX12_learnFault_20 : decode cX12_learnFault 20 = .ok (.lconst 1, 1) := by decide +kernel
theorem dX12_learnFault_21 : decode cX12_learnFault 21 = .ok (.iload 4, 2) := by decide +kernel
theorem dX12_learnFault_23 : decode cX12_learnFault 23 = .ok (.i2l, 1) := by decide +kernel
theorem dX12_learnFault_24 : decode cX12_learnFault 24 = .ok (.invokestatic 79, 3) := by decide +kernel
theorem dX12_learnFault_27 : decode cX12_learnFault 27 = .ok (.ifCond .eq 7, 3) := by decide +kernel
theorem dX12_learnFault_30 : decode cX12_learnFault 30 = .ok (.iconst 0, 1) := by decide +kernel
theorem dX12_learnFault_31 : decode cX12_learnFault 31 = .ok (.goto 4, 3) := by decide +kernel
theorem dX12_learnFault_34 : decode cX12_learnFault 34 = .ok (.iconst 2, 1) := by decide +kernel
theorem dX12_learnFault_35 : decode cX12_learnFault 35 = .ok (.ireturn, 1) := by decide +kernel
theorem dX12_learn_0 : decode cX12_learn 0 = .ok (.aload_n 0, 1) := by decide +kernel
theorem dX12_learn_1 : decode cX12_learn 1 = .ok (.aload_n 0, 1) := by decide +kernel
theorem dX12_learn_2 : decode cX12_learn 2 = .ok (.iload_n 1, 1) := by decide +kernel
theorem dX12_learn_3 : decode cX12_learn 3 = .ok (.iload_n 2, 1) := by decide +kernel
theorem dX12_learn_4 : decode cX12_learn 4 = .ok (.iload_n 3, 1) := by decide +kernel
theorem dX12_learn_5 : decode cX12_learn 5 = .ok (.sipush 2000, 3) := by decide +kernel
theorem dX12_learn_8 : decode cX12_learn 8 = .ok (.invokevirtual 401, 3) := by decide +kernel
theorem dX12_learn_11 : decode cX12_learn 11 = .ok (.putfield 76, 3) := by decide +kernel
theorem dX12_learn_14 : decode cX12_learn 14 = .ok (.aload_n 0, 1) := by decide +kernel
theorem dX12_learn_15 : decode cX12_learn 15 = .ok (.getfield 76, 3) := by decide +kernel
theorem dX12_learn_18 : decode cX12_learn 18 = .ok (.ifCond .le 5, 3) := by decide +kernel
theorem dX12_learn_21 : decode cX12_learn 21 = .ok (.iconst 0, 1) := by decide +kernel
theorem dX12_learn_22 : decode cX12_learn 22 = .ok (.ireturn, 1) := by decide +kernel
theorem dX12_learn_23 : decode cX12_learn 23 = .ok (.aload_n 0, 1) := by decide +kernel
theorem dX12_learn_24 : decode cX12_learn 24 = .ok (.getfield 9, 3) := by decide +kernel
theorem dX12_learn_27 : decode cX12_learn 27 = .ok (.iconst 3, 1) := by decide +kernel
theorem dX12_learn_28 : decode cX12_learn 28 = .ok (.iaload, 1) := by decide +kernel
theorem dX12_learn_29 : decode cX12_learn 29 = .ok (.ifCond .ne 5, 3) := by decide +kernel
theorem dX12_learn_32 : decode cX12_learn 32 = .ok (.iconst (-1), 1) := by decide +kernel
theorem dX12_learn_33 : decode cX12_learn 33 = .ok (.ireturn, 1) := by decide +kernel
theorem dX12_learn_34 : decode cX12_learn 34 = .ok (.aload_n 0, 1) := by decide +kernel
theorem dX12_learn_35 : decode cX12_learn 35 = .ok (.iload_n 1, 1) := by decide +kernel
theorem dX12_learn_36 : decode cX12_learn 36 = .ok (.iload_n 2, 1) := by decide +kernel
theorem dX12_learn_37 : decode cX12_learn 37 = .ok (.invokevirtual 353, 3) := by decide +kernel
theorem dX12_learn_40 : decode cX12_learn 40 = .ok (.aload_n 0, 1) := by decide +kernel
theorem dX12_learn_41 : decode cX12_learn 41 = .ok (.iload_n 3, 1) := by decide +kernel
theorem dX12_learn_42 : decode cX12_learn 42 = .ok (.iload 4, 2) := by decide +kernel
theorem dX12_learn_44 : decode cX12_learn 44 = .ok (.invokevirtual 404, 3) := by decide +kernel
theorem dX12_learn_47 : decode cX12_learn 47 = .ok (.bipush 10, 2) := by decide +kernel
theorem dX12_learn_49 : decode cX12_learn 49 = .ok (.aload_n 0, 1) := by decide +kernel
theorem dX12_learn_50 : decode cX12_learn 50 = .ok (.getfield 388, 3) := by decide +kernel
theorem dX12_learn_53 : decode cX12_learn 53 = .ok (.imul, 1) := by decide +kernel
theorem dX12_learn_54 : decode cX12_learn 54 = .ok (.aload_n 0, 1) := by decide +kernel
theorem dX12_learn_55 : decode cX12_learn 55 = .ok (.getfield 391, 3) := by decide +kernel
theorem dX12_learn_58 : decode cX12_learn 58 = .ok (.iadd, 1) := by decide +kernel
theorem dX12_learn_59 : decode cX12_learn 59 = .ok (.ireturn, 1) := by decide +kernel
theorem dX12_above_0 : decode cX12_above 0 = .ok (.aload_n 0, 1) := by decide +kernel
theorem dX12_above_1 : decode cX12_above 1 = .ok (.aload_n 0, 1) := by decide +kernel
theorem dX12_above_2 : decode cX12_above 2 = .ok (.iload_n 1, 1) := by decide +kernel
theorem dX12_above_3 : decode cX12_above 3 = .ok (.iload_n 2, 1) := by decide +kernel
theorem dX12_above_4 : decode cX12_above 4 = .ok (.iload_n 3, 1) := by decide +kernel
theorem dX12_above_5 : decode cX12_above 5 = .ok (.sipush 300, 3) := by decide +kernel
theorem dX12_above_8 : decode cX12_above 8 = .ok (.invokevirtual 401, 3) := by decide +kernel
theorem dX12_above_11 : decode cX12_above 11 = .ok (.putfield 76, 3) := by decide +kernel
theorem dX12_above_14 : decode cX12_above 14 = .ok (.aload_n 0, 1) := by decide +kernel
theorem dX12_above_15 : decode cX12_above 15 = .ok (.getfield 76, 3) := by decide +kernel
theorem dX12_above_18 : decode cX12_above 18 = .ok (.ifCond .ne 21, 3) := by decide +kernel
theorem dX12_above_21 : decode cX12_above 21 = .ok (.iload 4, 2) := by decide +kernel
theorem dX12_above_23 : decode cX12_above 23 = .ok (.i2l, 1) := by decide +kernel
theorem dX12_above_24 : decode cX12_above 24 = .ok (.lconst 1, 1) := by decide +kernel
theorem dX12_above_25 : decode cX12_above 25 = .ok (.ldc2_w 95, 3) := by decide +kernel
theorem dX12_above_28 : decode cX12_above 28 = .ok (.invokestatic 79, 3) := by decide +kernel
theorem dX12_above_31 : decode cX12_above 31 = .ok (.ifCond .ne 8, 3) := by decide +kernel
theorem dX12_above_34 : decode cX12_above 34 = .ok (.aload_n 0, 1) := by decide +kernel
theorem dX12_above_35 : decode cX12_above 35 = .ok (.iconst 2, 1) := by decide +kernel
theorem dX12_above_36 : decode cX12_above 36 = .ok (.putfield 76, 3) := by decide +kernel
theorem dX12_above_39 : decode cX12_above 39 = .ok (.aload_n 0, 1) := by decide +kernel
theorem dX12_above_40 : decode cX12_above 40 = .ok (.getfield 76, 3) := by decide +kernel
theorem dX12_above_43 : decode cX12_above 43 = .ok (.ifCond .le 5, 3) := by decide +kernel
theorem dX12_above_46 : decode cX12_above 46 = .ok (.iconst 0, 1) := by decide +kernel
theorem dX12_above_47 : decode cX12_above 47 = .ok (.ireturn, 1) := by decide +kernel
theorem dX12_above_48 : decode cX12_above 48 = .ok (.aload_n 0, 1) := by decide +kernel
theorem dX12_above_49 : decode cX12_above 49 = .ok (.iload_n 1, 1) := by decide +kernel
theorem dX12_above_50 : decode cX12_above 50 = .ok (.iload_n 2, 1) := by decide +kernel
theorem dX12_above_51 : decode cX12_above 51 = .ok (.invokevirtual 353, 3) := by decide +kernel
theorem dX12_above_54 : decode cX12_above 54 = .ok (.aload_n 0, 1) := by decide +kernel
theorem dX12_above_55 : decode cX12_above 55 = .ok (.iconst 0, 1) := by decide +kernel
theorem dX12_above_56 : decode cX12_above 56 = .ok (.invokevirtual 362, 3) := by decide +kernel
theorem dX12_above_59 : decode cX12_above 59 = .ok (.istore 5, 2) := by decide +kernel
theorem dX12_above_61 : decode cX12_above 61 = .ok (.iload 5, 2) := by decide +kernel
theorem dX12_above_63 : decode cX12_above 63 = .ok (.iconst (-1), 1) := by decide +kernel
theorem dX12_above_64 : decode cX12_above 64 = .ok (.if_icmp .ne 5, 3) := by decide +kernel
theorem dX12_above_67 : decode cX12_above 67 = .ok (.iconst (-1), 1) := by decide +kernel
theorem dX12_above_68 : decode cX12_above 68 = .ok (.ireturn, 1) := by decide +kernel
theorem dX12_above_69 : decode cX12_above 69 = .ok (.aload_n 0, 1) := by decide +kernel
theorem dX12_above_70 : decode cX12_above 70 = .ok (.iload 5, 2) := by decide +kernel
theorem dX12_above_72 : decode cX12_above 72 = .ok (.bipush 10, 2) := by decide +kernel
theorem dX12_above_74 : decode cX12_above 74 = .ok (.idiv, 1) := by decide +kernel
theorem dX12_above_75 : decode cX12_above 75 = .ok (.iload 5, 2) := by decide +kernel
theorem dX12_above_77 : decode cX12_above 77 = .ok (.bipush 10, 2) := by decide +kernel
theorem dX12_above_79 : decode cX12_above 79 = .ok (.irem, 1) := by decide +kernel
theorem dX12_above_80 : decode cX12_above 80 = .ok (.invokevirtual 365, 3) := by decide +kernel
theorem dX12_above_83 : decode cX12_above 83 = .ok (.istore 6, 2) := by decide +kernel
theorem dX12_above_85 : decode cX12_above 85 = .ok (.iconst 0, 1) := by decide +kernel
theorem dX12_above_86 : decode cX12_above 86 = .ok (.istore 7, 2) := by decide +kernel
theorem dX12_above_88 : decode cX12_above 88 = .ok (.iconst 1, 1) := by decide +kernel
theorem dX12_above_89 : decode cX12_above 89 = .ok (.istore 8, 2) := by decide +kernel
theorem dX12_above_91 : decode cX12_above 91 = .ok (.iload 8, 2) := by decide +kernel
theorem dX12_above_93 : decode cX12_above 93 = .ok (.iload 4, 2) := by decide +kernel
theorem dX12_above_95 : decode cX12_above 95 = .ok (.if_icmp .gt 43, 3) := by decide +kernel
theorem dX12_above_98 : decode cX12_above 98 = .ok (.aload_n 0, 1) := by decide +kernel
theorem dX12_above_99 : decode cX12_above 99 = .ok (.iload_n 3, 1) := by decide +kernel
theorem dX12_above_100 : decode cX12_above 100 = .ok (.iload 8, 2) := by decide +kernel
theorem dX12_above_102 : decode cX12_above 102 = .ok (.invokevirtual 404, 3) := by decide +kernel
theorem dX12_above_105 : decode cX12_above 105 = .ok (.iload 7, 2) := by decide +kernel
theorem dX12_above_107 : decode cX12_above 107 = .ok (.aload_n 0, 1) := by decide +kernel
theorem dX12_above_108 : decode cX12_above 108 = .ok (.aload_n 0, 1) := by decide +kernel
theorem dX12_above_109 : decode cX12_above 109 = .ok (.getfield 388, 3) := by decide +kernel
theorem dX12_above_112 : decode cX12_above 112 = .ok (.aload_n 0, 1) := by decide +kernel
theorem dX12_above_113 : decode cX12_above 113 = .ok (.getfield 391, 3) := by decide +kernel
theorem dX12_above_116 : decode cX12_above 116 = .ok (.invokevirtual 365, 3) := by decide +kernel
theorem dX12_above_119 : decode cX12_above 119 = .ok (.iload 6, 2) := by decide +kernel
theorem dX12_above_121 : decode cX12_above 121 = .ok (.if_icmp .le 7, 3) := by decide +kernel
theorem dX12_above_124 : decode cX12_above 124 = .ok (.iconst 1, 1) := by decide +kernel
theorem dX12_above_125 : decode cX12_above 125 = .ok (.goto 4, 3) := by decide +kernel
theorem dX12_above_128 : decode cX12_above 128 = .ok (.iconst 0, 1) := by decide +kernel
theorem dX12_above_129 : decode cX12_above 129 = .ok (.iadd, 1) := by decide +kernel
theorem dX12_above_130 : decode cX12_above 130 = .ok (.istore 7, 2) := by decide +kernel
theorem dX12_above_132 : decode cX12_above 132 = .ok (.iinc 8 1, 3) := by decide +kernel
theorem dX12_above_135 : decode cX12_above 135 = .ok (.goto (-44), 3) := by decide +kernel
theorem dX12_above_138 : decode cX12_above 138 = .ok (.iload 7, 2) := by decide +kernel
theorem dX12_above_140 : decode cX12_above 140 = .ok (.ireturn, 1) := by decide +kernel
theorem dX12_punish_0 : decode cX12_punish 0 = .ok (.aload_n 0, 1) := by decide +kernel
theorem dX12_punish_1 : decode cX12_punish 1 = .ok (.aload_n 0, 1) := by decide +kernel
theorem dX12_punish_2 : decode cX12_punish 2 = .ok (.iload_n 1, 1) := by decide +kernel
theorem dX12_punish_3 : decode cX12_punish 3 = .ok (.iload_n 2, 1) := by decide +kernel
theorem dX12_punish_4 : decode cX12_punish 4 = .ok (.iload_n 3, 1) := by decide +kernel
theorem dX12_punish_5 : decode cX12_punish 5 = .ok (.sipush 2000, 3) := by decide +kernel
theorem dX12_punish_8 : decode cX12_punish 8 = .ok (.invokevirtual 401, 3) := by decide +kernel
theorem dX12_punish_11 : decode cX12_punish 11 = .ok (.putfield 76, 3) := by decide +kernel
theorem dX12_punish_14 : decode cX12_punish 14 = .ok (.aload_n 0, 1) := by decide +kernel
theorem dX12_punish_15 : decode cX12_punish 15 = .ok (.getfield 76, 3) := by decide +kernel
theorem dX12_punish_18 : decode cX12_punish 18 = .ok (.ifCond .le 5, 3) := by decide +kernel
theorem dX12_punish_21 : decode cX12_punish 21 = .ok (.iconst 0, 1) := by decide +kernel
theorem dX12_punish_22 : decode cX12_punish 22 = .ok (.ireturn, 1) := by decide +kernel
theorem dX12_punish_23 : decode cX12_punish 23 = .ok (.aload_n 0, 1) := by decide +kernel
theorem dX12_punish_24 : decode cX12_punish 24 = .ok (.iload 5, 2) := by decide +kernel
theorem dX12_punish_26 : decode cX12_punish 26 = .ok (.invokevirtual 350, 3) := by decide +kernel
theorem dX12_punish_29 : decode cX12_punish 29 = .ok (.ifCond .ne 9, 3) := by decide +kernel
theorem dX12_punish_32 : decode cX12_punish 32 = .ok (.aload_n 0, 1) := by decide +kernel
theorem dX12_punish_33 : decode cX12_punish 33 = .ok (.iconst 3, 1) := by decide +kernel
theorem dX12_punish_34 : decode cX12_punish 34 = .ok (.invokevirtual 83, 3) := by decide +kernel
theorem dX12_punish_37 : decode cX12_punish 37 = .ok (.ireturn, 1) := by decide +kernel
theorem dX12_punish_38 : decode cX12_punish 38 = .ok (.aload_n 0, 1) := by decide +kernel
theorem dX12_punish_39 : decode cX12_punish 39 = .ok (.iload_n 1, 1) := by decide +kernel
theorem dX12_punish_40 : decode cX12_punish 40 = .ok (.iload_n 2, 1) := by decide +kernel
theorem dX12_punish_41 : decode cX12_punish 41 = .ok (.invokevirtual 353, 3) := by decide +kernel
theorem dX12_punish_44 : decode cX12_punish 44 = .ok (.aload_n 0, 1) := by decide +kernel
theorem dX12_punish_45 : decode cX12_punish 45 = .ok (.iload_n 3, 1) := by decide +kernel
theorem dX12_punish_46 : decode cX12_punish 46 = .ok (.iload 4, 2) := by decide +kernel
theorem dX12_punish_48 : decode cX12_punish 48 = .ok (.invokevirtual 404, 3) := by decide +kernel
theorem dX12_punish_51 : decode cX12_punish 51 = .ok (.aload_n 0, 1) := by decide +kernel
theorem dX12_punish_52 : decode cX12_punish 52 = .ok (.iconst 1, 1) := by decide +kernel
theorem dX12_punish_53 : decode cX12_punish 53 = .ok (.iload 5, 2) := by decide +kernel
theorem dX12_punish_55 : decode cX12_punish 55 = .ok (.invokevirtual 385, 3) := by decide +kernel
theorem dX12_punish_58 : decode cX12_punish 58 = .ok (.ireturn, 1) := by decide +kernel
theorem dX12_story_0 : decode cX12_story 0 = .ok (.aload_n 0, 1) := by decide +kernel
theorem dX12_story_1 : decode cX12_story 1 = .ok (.iload_n 1, 1) := by decide +kernel
theorem dX12_story_2 : decode cX12_story 2 = .ok (.i2l, 1) := by decide +kernel
theorem dX12_story_3 : decode cX12_story 3 = .ok (.lconst 0, 1) := by decide +kernel
theorem dX12_story_4 : decode cX12_story 4 = .ok (.lconst 1, 1) := by decide +kernel
theorem dX12_story_5 : decode cX12_story 5 = .ok (.invokestatic 79, 3) := by decide +kernel
theorem dX12_story_8 : decode cX12_story 8 = .ok (.ifCond .eq 10, 3) := by decide +kernel
theorem dX12_story_11 : decode cX12_story 11 = .ok (.iload_n 2, 1) := by decide +kernel
theorem dX12_story_12 : decode cX12_story 12 = .ok (.invokestatic 407, 3) := by decide +kernel
theorem dX12_story_15 : decode cX12_story 15 = .ok (.ifCond .ne 7, 3) := by decide +kernel
theorem dX12_story_18 : decode cX12_story 18 = .ok (.iconst 1, 1) := by decide +kernel
theorem dX12_story_19 : decode cX12_story 19 = .ok (.goto 18, 3) := by decide +kernel
theorem dX12_story_22 : decode cX12_story 22 = .ok (.aload_n 0, 1) := by decide +kernel
theorem dX12_story_23 : decode cX12_story 23 = .ok (.getfield 67, 3) := by decide +kernel
theorem dX12_story_26 : decode cX12_story 26 = .ok (.iload_n 2, 1) := by decide +kernel
theorem dX12_story_27 : decode cX12_story 27 = .ok (.iaload, 1) := by decide +kernel
theorem dX12_story_28 : decode cX12_story 28 = .ok (.iconst (-1), 1) := by decide +kernel
theorem dX12_story_29 : decode cX12_story 29 = .ok (.if_icmp .ne 7, 3) := by decide +kernel
theorem dX12_story_32 : decode cX12_story 32 = .ok (.iconst 2, 1) := by decide +kernel
theorem dX12_story_33 : decode cX12_story 33 = .ok (.goto 4, 3) := by decide +kernel
theorem dX12_story_36 : decode cX12_story 36 = .ok (.iconst 0, 1) := by decide +kernel
theorem dX12_story_37 : decode cX12_story 37 = .ok (.putfield 76, 3) := by decide +kernel
theorem dX12_story_40 : decode cX12_story 40 = .ok (.aload_n 0, 1) := by decide +kernel
theorem dX12_story_41 : decode cX12_story 41 = .ok (.getfield 76, 3) := by decide +kernel
theorem dX12_story_44 : decode cX12_story 44 = .ok (.ifCond .gt 14, 3) := by decide +kernel
theorem dX12_story_47 : decode cX12_story 47 = .ok (.aload_n 0, 1) := by decide +kernel
theorem dX12_story_48 : decode cX12_story 48 = .ok (.getfield 70, 3) := by decide +kernel
theorem dX12_story_51 : decode cX12_story 51 = .ok (.iload_n 2, 1) := by decide +kernel
theorem dX12_story_52 : decode cX12_story 52 = .ok (.iaload, 1) := by decide +kernel
theorem dX12_story_53 : decode cX12_story 53 = .ok (.bipush 21, 2) := by decide +kernel
theorem dX12_story_55 : decode cX12_story 55 = .ok (.if_icmp .eq 5, 3) := by decide +kernel
theorem dX12_story_58 : decode cX12_story 58 = .ok (.iconst 0, 1) := by decide +kernel
theorem dX12_story_59 : decode cX12_story 59 = .ok (.ireturn, 1) := by decide +kernel
theorem dX12_story_60 : decode cX12_story 60 = .ok (.iconst 0, 1) := by decide +kernel
theorem dX12_story_61 : decode cX12_story 61 = .ok (.istore_n 3, 1) := by decide +kernel
theorem dX12_story_62 : decode cX12_story 62 = .ok (.iload_n 3, 1) := by decide +kernel
theorem dX12_story_63 : decode cX12_story 63 = .ok (.bipush 21, 2) := by decide +kernel
theorem dX12_story_65 : decode cX12_story 65 = .ok (.if_icmp .ge 32, 3) := by decide +kernel
theorem dX12_story_68 : decode cX12_story 68 = .ok (.aload_n 0, 1) := by decide +kernel
theorem dX12_story_69 : decode cX12_story 69 = .ok (.getfield 73, 3) := by decide +kernel
theorem dX12_story_72 : decode cX12_story 72 = .ok (.bipush 28, 2) := by decide +kernel
theorem dX12_story_74 : decode cX12_story 74 = .ok (.iload_n 2, 1) := by decide +kernel
theorem dX12_story_75 : decode cX12_story 75 = .ok (.imul, 1) := by decide +kernel
theorem dX12_story_76 : decode cX12_story 76 = .ok (.iload_n 3, 1) := by decide +kernel
theorem dX12_story_77 : decode cX12_story 77 = .ok (.iadd, 1) := by decide +kernel
theorem dX12_story_78 : decode cX12_story 78 = .ok (.laload, 1) := by decide +kernel
theorem dX12_story_79 : decode cX12_story 79 = .ok (.lconst 0, 1) := by decide +kernel
theorem dX12_story_80 : decode cX12_story 80 = .ok (.ldc2_w 410, 3) := by decide +kernel
theorem dX12_story_83 : decode cX12_story 83 = .ok (.invokestatic 79, 3) := by decide +kernel
theorem dX12_story_86 : decode cX12_story 86 = .ok (.ifCond .ne 5, 3) := by decide +kernel
theorem dX12_story_89 : decode cX12_story 89 = .ok (.iconst 0, 1) := by decide +kernel
theorem dX12_story_90 : decode cX12_story 90 = .ok (.ireturn, 1) := by decide +kernel
theorem dX12_story_91 : decode cX12_story 91 = .ok (.iinc 3 1, 3) := by decide +kernel
theorem dX12_story_94 : decode cX12_story 94 = .ok (.goto (-32), 3) := by decide +kernel
theorem dX12_story_97 : decode cX12_story 97 = .ok (.iconst 0, 1) := by decide +kernel
theorem dX12_story_98 : decode cX12_story 98 = .ok (.istore_n 3, 1) := by decide +kernel
theorem dX12_story_99 : decode cX12_story 99 = .ok (.iload_n 3, 1) := by decide +kernel
theorem dX12_story_100 : decode cX12_story 100 = .ok (.bipush 21, 2) := by decide +kernel
theorem dX12_story_102 : decode cX12_story 102 = .ok (.if_icmp .ge 35, 3) := by decide +kernel
theorem dX12_story_105 : decode cX12_story 105 = .ok (.aload_n 0, 1) := by decide +kernel
theorem dX12_story_106 : decode cX12_story 106 = .ok (.getfield 9, 3) := by decide +kernel
theorem dX12_story_109 : decode cX12_story 109 = .ok (.bipush 78, 2) := by decide +kernel
theorem dX12_story_111 : decode cX12_story 111 = .ok (.bipush 21, 2) := by decide +kernel
theorem dX12_story_113 : decode cX12_story 113 = .ok (.iload_n 1, 1) := by decide +kernel
theorem dX12_story_114 : decode cX12_story 114 = .ok (.imul, 1) := by decide +kernel
theorem dX12_story_115 : decode cX12_story 115 = .ok (.iadd, 1) := by decide +kernel
theorem dX12_story_116 : decode cX12_story 116 = .ok (.iload_n 3, 1) := by decide +kernel
theorem dX12_story_117 : decode cX12_story 117 = .ok (.iadd, 1) := by decide +kernel
theorem dX12_story_118 : decode cX12_story 118 = .ok (.aload_n 0, 1) := by decide +kernel
theorem dX12_story_119 : decode cX12_story 119 = .ok (.getfield 73, 3) := by decide +kernel
theorem dX12_story_122 : decode cX12_story 122 = .ok (.bipush 28, 2) := by decide +kernel
theorem dX12_story_124 : decode cX12_story 124 = .ok (.iload_n 2, 1) := by decide +kernel
theorem dX12_story_125 : decode cX12_story 125 = .ok (.imul, 1) := by decide +kernel
theorem dX12_story_126 : decode cX12_story 126 = .ok (.iload_n 3, 1) := by decide +kernel
theorem dX12_story_127 : decode cX12_story 127 = .ok (.iadd, 1) := by decide +kernel
theorem dX12_story_128 : decode cX12_story 128 = .ok (.laload, 1) := by decide +kernel
theorem dX12_story_129 : decode cX12_story 129 = .ok (.l2i, 1) := by decide +kernel
theorem dX12_story_130 : decode cX12_story 130 = .ok (.iastore, 1) := by decide +kernel
theorem dX12_story_131 : decode cX12_story 131 = .ok (.iinc 3 1, 3) := by decide +kernel
theorem dX12_story_134 : decode cX12_story 134 = .ok (.goto (-35), 3) := by decide +kernel
theorem dX12_story_137 : decode cX12_story 137 = .ok (.iconst 1, 1) := by decide +kernel
theorem dX12_story_138 : decode cX12_story 138 = .ok (.ireturn, 1) := by decide +kernel
theorem dX12_isLag_0 : decode cX12_isLag 0 = .ok (.iload_n 0, 1) := by decide +kernel
theorem dX12_isLag_1 : decode cX12_isLag 1 = .ok (.i2l, 1) := by decide +kernel
theorem dX12_isLag_2 : decode cX12_isLag 2 = .ok (.lconst 0, 1) := by decide +kernel
theorem dX12_isLag_3 : decode cX12_isLag 3 = .ok (.ldc2_w 95, 3) := by decide +kernel
theorem dX12_isLag_6 : decode cX12_isLag 6 = .ok (.invokestatic 79, 3) := by decide +kernel
theorem dX12_isLag_9 : decode cX12_isLag 9 = .ok (.ireturn, 1) := by decide +kernel
theorem dX12_rise_0 : decode cX12_rise 0 = .ok (.aload_n 0, 1) := by decide +kernel
theorem dX12_rise_1 : decode cX12_rise 1 = .ok (.iconst 0, 1) := by decide +kernel
theorem dX12_rise_2 : decode cX12_rise 2 = .ok (.putfield 76, 3) := by decide +kernel
theorem dX12_rise_5 : decode cX12_rise 5 = .ok (.iload_n 2, 1) := by decide +kernel
theorem dX12_rise_6 : decode cX12_rise 6 = .ok (.iconst (-1), 1) := by decide +kernel
theorem dX12_rise_7 : decode cX12_rise 7 = .ok (.if_icmp .ne 7, 3) := by decide +kernel
theorem dX12_rise_10 : decode cX12_rise 10 = .ok (.iconst (-1), 1) := by decide +kernel
theorem dX12_rise_11 : decode cX12_rise 11 = .ok (.goto 4, 3) := by decide +kernel
theorem dX12_rise_14 : decode cX12_rise 14 = .ok (.iload_n 3, 1) := by decide +kernel
theorem dX12_rise_15 : decode cX12_rise 15 = .ok (.istore 4, 2) := by decide +kernel
theorem dX12_rise_17 : decode cX12_rise 17 = .ok (.iload_n 1, 1) := by decide +kernel
theorem dX12_rise_18 : decode cX12_rise 18 = .ok (.invokestatic 412, 3) := by decide +kernel
theorem dX12_rise_21 : decode cX12_rise 21 = .ok (.ifCond .eq 29, 3) := by decide +kernel
theorem dX12_rise_24 : decode cX12_rise 24 = .ok (.iload_n 2, 1) := by decide +kernel
theorem dX12_rise_25 : decode cX12_rise 25 = .ok (.iconst (-1), 1) := by decide +kernel
theorem dX12_rise_26 : decode cX12_rise 26 = .ok (.if_icmp .eq 10, 3) := by decide +kernel
theorem dX12_rise_29 : decode cX12_rise 29 = .ok (.iload_n 2, 1) := by decide +kernel
theorem dX12_rise_30 : decode cX12_rise 30 = .ok (.invokestatic 412, 3) := by decide +kernel
theorem dX12_rise_33 : decode cX12_rise 33 = .ok (.ifCond .eq 17, 3) := by decide +kernel
theorem dX12_rise_36 : decode cX12_rise 36 = .ok (.iload 4, 2) := by decide +kernel
theorem dX12_rise_38 : decode cX12_rise 38 = .ok (.iconst (-1), 1) := by decide +kernel
theorem dX12_rise_39 : decode cX12_rise 39 = .ok (.if_icmp .eq 17, 3) := by decide +kernel
theorem dX12_rise_42 : decode cX12_rise 42 = .ok (.iload 4, 2) := by decide +kernel
theorem dX12_rise_44 : decode cX12_rise 44 = .ok (.invokestatic 412, 3) := by decide +kernel
theorem dX12_rise_47 : decode cX12_rise 47 = .ok (.ifCond .ne 9, 3) := by decide +kernel
theorem dX12_rise_50 : decode cX12_rise 50 = .ok (.aload_n 0, 1) := by decide +kernel
theorem dX12_rise_51 : decode cX12_rise 51 = .ok (.iconst 1, 1) := by decide +kernel
theorem dX12_rise_52 : decode cX12_rise 52 = .ok (.invokevirtual 83, 3) := by decide +kernel
theorem dX12_rise_55 : decode cX12_rise 55 = .ok (.ireturn, 1) := by decide +kernel
theorem dX12_rise_56 : decode cX12_rise 56 = .ok (.aload_n 0, 1) := by decide +kernel
theorem dX12_rise_57 : decode cX12_rise 57 = .ok (.getfield 9, 3) := by decide +kernel
theorem dX12_rise_60 : decode cX12_rise 60 = .ok (.iconst 4, 1) := by decide +kernel
theorem dX12_rise_61 : decode cX12_rise 61 = .ok (.iaload, 1) := by decide +kernel
theorem dX12_rise_62 : decode cX12_rise 62 = .ok (.bipush 6, 2) := by decide +kernel
theorem dX12_rise_64 : decode cX12_rise 64 = .ok (.if_icmp .ne 5, 3) := by decide +kernel
theorem dX12_rise_67 : decode cX12_rise 67 = .ok (.iconst (-1), 1) := by decide +kernel
theorem dX12_rise_68 : decode cX12_rise 68 = .ok (.ireturn, 1) := by decide +kernel
theorem dX12_rise_69 : decode cX12_rise 69 = .ok (.bipush 60, 2) := by decide +kernel
theorem dX12_rise_71 : decode cX12_rise 71 = .ok (.iconst 3, 1) := by decide +kernel
theorem dX12_rise_72 : decode cX12_rise 72 = .ok (.aload_n 0, 1) := by decide +kernel
theorem dX12_rise_73 : decode cX12_rise 73 = .ok (.getfield 9, 3) := by decide +kernel
theorem dX12_rise_76 : decode cX12_rise 76 = .ok (.iconst 4, 1) := by decide +kernel
theorem dX12_rise_77 : decode cX12_rise 77 = .ok (.iaload, 1) := by decide +kernel
theorem dX12_rise_78 : decode cX12_rise 78 = .ok (.imul, 1) := by decide +kernel
theorem dX12_rise_79 : decode cX12_rise 79 = .ok (.iadd, 1) := by decide +kernel
theorem dX12_rise_80 : decode cX12_rise 80 = .ok (.istore 5, 2) := by decide +kernel
theorem dX12_rise_82 : decode cX12_rise 82 = .ok (.aload_n 0, 1) := by decide +kernel
theorem dX12_rise_83 : decode cX12_rise 83 = .ok (.getfield 9, 3) := by decide +kernel
theorem dX12_rise_86 : decode cX12_rise 86 = .ok (.iload 5, 2) := by decide +kernel
theorem dX12_rise_88 : decode cX12_rise 88 = .ok (.iload_n 1, 1) := by decide +kernel
theorem dX12_rise_89 : decode cX12_rise 89 = .ok (.iastore, 1) := by decide +kernel
theorem dX12_rise_90 : decode cX12_rise 90 = .ok (.aload_n 0, 1) := by decide +kernel
theorem dX12_rise_91 : decode cX12_rise 91 = .ok (.getfield 9, 3) := by decide +kernel
theorem dX12_rise_94 : decode cX12_rise 94 = .ok (.iload 5, 2) := by decide +kernel
theorem dX12_rise_96 : decode cX12_rise 96 = .ok (.iconst 1, 1) := by decide +kernel
theorem dX12_rise_97 : decode cX12_rise 97 = .ok (.iadd, 1) := by decide +kernel
theorem dX12_rise_98 : decode cX12_rise 98 = .ok (.iload_n 2, 1) := by decide +kernel
theorem dX12_rise_99 : decode cX12_rise 99 = .ok (.iastore, 1) := by decide +kernel
theorem dX12_rise_100 : decode cX12_rise 100 = .ok (.aload_n 0, 1) := by decide +kernel
theorem dX12_rise_101 : decode cX12_rise 101 = .ok (.getfield 9, 3) := by decide +kernel
theorem dX12_rise_104 : decode cX12_rise 104 = .ok (.iload 5, 2) := by decide +kernel
theorem dX12_rise_106 : decode cX12_rise 106 = .ok (.iconst 2, 1) := by decide +kernel
theorem dX12_rise_107 : decode cX12_rise 107 = .ok (.iadd, 1) := by decide +kernel
theorem dX12_rise_108 : decode cX12_rise 108 = .ok (.iload 4, 2) := by decide +kernel
theorem dX12_rise_110 : decode cX12_rise 110 = .ok (.iastore, 1) := by decide +kernel
theorem dX12_rise_111 : decode cX12_rise 111 = .ok (.aload_n 0, 1) := by decide +kernel
theorem dX12_rise_112 : decode cX12_rise 112 = .ok (.getfield 9, 3) := by decide +kernel
theorem dX12_rise_115 : decode cX12_rise 115 = .ok (.iconst 4, 1) := by decide +kernel
theorem dX12_rise_116 : decode cX12_rise 116 = .ok (.dup2, 1) := by decide +kernel
theorem dX12_rise_117 : decode cX12_rise 117 = .ok (.iaload, 1) := by decide +kernel
theorem dX12_rise_118 : decode cX12_rise 118 = .ok (.iconst 1, 1) := by decide +kernel
theorem dX12_rise_119 : decode cX12_rise 119 = .ok (.iadd, 1) := by decide +kernel
theorem dX12_rise_120 : decode cX12_rise 120 = .ok (.iastore, 1) := by decide +kernel
theorem dX12_rise_121 : decode cX12_rise 121 = .ok (.aload_n 0, 1) := by decide +kernel
theorem dX12_rise_122 : decode cX12_rise 122 = .ok (.getfield 9, 3) := by decide +kernel
theorem dX12_rise_125 : decode cX12_rise 125 = .ok (.iconst 4, 1) := by decide +kernel
theorem dX12_rise_126 : decode cX12_rise 126 = .ok (.iaload, 1) := by decide +kernel
theorem dX12_rise_127 : decode cX12_rise 127 = .ok (.iconst 1, 1) := by decide +kernel
theorem dX12_rise_128 : decode cX12_rise 128 = .ok (.isub, 1) := by decide +kernel
theorem dX12_rise_129 : decode cX12_rise 129 = .ok (.ireturn, 1) := by decide +kernel
theorem dX12_odds_0 : decode cX12_odds 0 = .ok (.aload_n 0, 1) := by decide +kernel
theorem dX12_odds_1 : decode cX12_odds 1 = .ok (.iconst 0, 1) := by decide +kernel
theorem dX12_odds_2 : decode cX12_odds 2 = .ok (.putfield 76, 3) := by decide +kernel
theorem dX12_odds_5 : decode cX12_odds 5 = .ok (.lconst 1, 1) := by decide +kernel
theorem dX12_odds_6 : decode cX12_odds 6 = .ok (.lstore_n 1, 1) := by decide +kernel
theorem dX12_odds_7 : decode cX12_odds 7 = .ok (.lconst 1, 1) := by decide +kernel
theorem dX12_odds_8 : decode cX12_odds 8 = .ok (.lstore_n 3, 1) := by decide +kernel
theorem dX12_odds_9 : decode cX12_odds 9 = .ok (.bipush 60, 2) := by decide +kernel
theorem dX12_odds_11 : decode cX12_odds 11 = .ok (.istore 5, 2) := by decide +kernel
theorem dX12_odds_13 : decode cX12_odds 13 = .ok (.iload 5, 2) := by decide +kernel
theorem dX12_odds_15 : decode cX12_odds 15 = .ok (.bipush 60, 2) := by decide +kernel
theorem dX12_odds_17 : decode cX12_odds 17 = .ok (.iconst 3, 1) := by decide +kernel
theorem dX12_odds_18 : decode cX12_odds 18 = .ok (.aload_n 0, 1) := by decide +kernel
theorem dX12_odds_19 : decode cX12_odds 19 = .ok (.getfield 9, 3) := by decide +kernel
theorem dX12_odds_22 : decode cX12_odds 22 = .ok (.iconst 4, 1) := by decide +kernel
theorem dX12_odds_23 : decode cX12_odds 23 = .ok (.iaload, 1) := by decide +kernel
theorem dX12_odds_24 : decode cX12_odds 24 = .ok (.imul, 1) := by decide +kernel
theorem dX12_odds_25 : decode cX12_odds 25 = .ok (.iadd, 1) := by decide +kernel
theorem dX12_odds_26 : decode cX12_odds 26 = .ok (.if_icmp .ge 61, 3) := by decide +kernel
theorem dX12_odds_29 : decode cX12_odds 29 = .ok (.aload_n 0, 1) := by decide +kernel
theorem dX12_odds_30 : decode cX12_odds 30 = .ok (.getfield 9, 3) := by decide +kernel
theorem dX12_odds_33 : decode cX12_odds 33 = .ok (.iload 5, 2) := by decide +kernel
theorem dX12_odds_35 : decode cX12_odds 35 = .ok (.iaload, 1) := by decide +kernel
theorem dX12_odds_36 : decode cX12_odds 36 = .ok (.iconst (-1), 1) := by decide +kernel
theorem dX12_odds_37 : decode cX12_odds 37 = .ok (.if_icmp .ne 6, 3) := by decide +kernel
theorem dX12_odds_40 : decode cX12_odds 40 = .ok (.goto 41, 3) := by decide +kernel
theorem dX12_odds_43 : decode cX12_odds 43 = .ok (.lload_n 1, 1) := by decide +kernel
theorem dX12_odds_44 : decode cX12_odds 44 = .ok (.aload_n 0, 1) := by decide +kernel
theorem dX12_odds_45 : decode cX12_odds 45 = .ok (.getfield 9, 3) := by decide +kernel
theorem dX12_odds_48 : decode cX12_odds 48 = .ok (.bipush 78, 2) := by decide +kernel
theorem dX12_odds_50 : decode cX12_odds 50 = .ok (.aload_n 0, 1) := by decide +kernel
theorem dX12_odds_51 : decode cX12_odds 51 = .ok (.getfield 9, 3) := by decide +kernel
theorem dX12_odds_54 : decode cX12_odds 54 = .ok (.iload 5, 2) := by decide +kernel
theorem dX12_odds_56 : decode cX12_odds 56 = .ok (.iaload, 1) := by decide +kernel
theorem dX12_odds_57 : decode cX12_odds 57 = .ok (.iadd, 1) := by decide +kernel
theorem dX12_odds_58 : decode cX12_odds 58 = .ok (.iaload, 1) := by decide +kernel
theorem dX12_odds_59 : decode cX12_odds 59 = .ok (.i2l, 1) := by decide +kernel
theorem dX12_odds_60 : decode cX12_odds 60 = .ok (.lmul, 1) := by decide +kernel
theorem dX12_odds_61 : decode cX12_odds 61 = .ok (.lstore_n 1, 1) := by decide +kernel
theorem dX12_odds_62 : decode cX12_odds 62 = .ok (.lload_n 3, 1) := by decide +kernel
theorem dX12_odds_63 : decode cX12_odds 63 = .ok (.aload_n 0, 1) := by decide +kernel
theorem dX12_odds_64 : decode cX12_odds 64 = .ok (.getfield 9, 3) := by decide +kernel
theorem dX12_odds_67 : decode cX12_odds 67 = .ok (.bipush 99, 2) := by decide +kernel
theorem dX12_odds_69 : decode cX12_odds 69 = .ok (.aload_n 0, 1) := by decide +kernel
theorem dX12_odds_70 : decode cX12_odds 70 = .ok (.getfield 9, 3) := by decide +kernel
theorem dX12_odds_73 : decode cX12_odds 73 = .ok (.iload 5, 2) := by decide +kernel
theorem dX12_odds_75 : decode cX12_odds 75 = .ok (.iaload, 1) := by decide +kernel
theorem dX12_odds_76 : decode cX12_odds 76 = .ok (.iadd, 1) := by decide +kernel
theorem dX12_odds_77 : decode cX12_odds 77 = .ok (.iaload, 1) := by decide +kernel
theorem dX12_odds_78 : decode cX12_odds 78 = .ok (.i2l, 1) := by decide +kernel
theorem dX12_odds_79 : decode cX12_odds 79 = .ok (.lmul, 1) := by decide +kernel
theorem dX12_odds_80 : decode cX12_odds 80 = .ok (.lstore_n 3, 1) := by decide +kernel
theorem dX12_odds_81 : decode cX12_odds 81 = .ok (.iinc 5 1, 3) := by decide +kernel
theorem dX12_odds_84 : decode cX12_odds 84 = .ok (.goto (-71), 3) := by decide +kernel
theorem dX12_odds_87 : decode cX12_odds 87 = .ok (.aload_n 0, 1) := by decide +kernel
theorem dX12_odds_88 : decode cX12_odds 88 = .ok (.lload_n 1, 1) := by decide +kernel
theorem dX12_odds_89 : decode cX12_odds 89 = .ok (.lload_n 3, 1) := by decide +kernel
theorem dX12_odds_90 : decode cX12_odds 90 = .ok (.invokevirtual 340, 3) := by decide +kernel
theorem dX12_odds_93 : decode cX12_odds 93 = .ok (.return_, 1) := by decide +kernel
theorem dX12_layPaid_0 : decode cX12_layPaid 0 = .ok (.aload_n 0, 1) := by decide +kernel
theorem dX12_layPaid_1 : decode cX12_layPaid 1 = .ok (.getfield 70, 3) := by decide +kernel
theorem dX12_layPaid_4 : decode cX12_layPaid 4 = .ok (.iload_n 1, 1) := by decide +kernel
theorem dX12_layPaid_5 : decode cX12_layPaid 5 = .ok (.iaload, 1) := by decide +kernel
theorem dX12_layPaid_6 : decode cX12_layPaid 6 = .ok (.istore_n 3, 1) := by decide +kernel
theorem dX12_layPaid_7 : decode cX12_layPaid 7 = .ok (.iconst 0, 1) := by decide +kernel
theorem dX12_layPaid_8 : decode cX12_layPaid 8 = .ok (.istore 4, 2) := by decide +kernel
theorem dX12_layPaid_10 : decode cX12_layPaid 10 = .ok (.iload 4, 2) := by decide +kernel
theorem dX12_layPaid_12 : decode cX12_layPaid 12 = .ok (.iload_n 2, 1) := by decide +kernel
theorem dX12_layPaid_13 : decode cX12_layPaid 13 = .ok (.if_icmp .gt 22, 3) := by decide +kernel
theorem dX12_layPaid_16 : decode cX12_layPaid 16 = .ok (.aload_n 0, 1) := by decide +kernel
theorem dX12_layPaid_17 : decode cX12_layPaid 17 = .ok (.getfield 64, 3) := by decide +kernel
theorem dX12_layPaid_20 : decode cX12_layPaid 20 = .ok (.bipush 13, 2) := by decide +kernel
theorem dX12_layPaid_22 : decode cX12_layPaid 22 = .ok (.iload_n 3, 1) := by decide +kernel
theorem dX12_layPaid_23 : decode cX12_layPaid 23 = .ok (.imul, 1) := by decide +kernel
theorem dX12_layPaid_24 : decode cX12_layPaid 24 = .ok (.iload 4, 2) := by decide +kernel
theorem dX12_layPaid_26 : decode cX12_layPaid 26 = .ok (.iadd, 1) := by decide +kernel
theorem dX12_layPaid_27 : decode cX12_layPaid 27 = .ok (.iconst 0, 1) := by decide +kernel
theorem dX12_layPaid_28 : decode cX12_layPaid 28 = .ok (.iastore, 1) := by decide +kernel
theorem dX12_layPaid_29 : decode cX12_layPaid 29 = .ok (.iinc 4 1, 3) := by decide +kernel
theorem dX12_layPaid_32 : decode cX12_layPaid 32 = .ok (.goto (-22), 3) := by decide +kernel
theorem dX12_layPaid_35 : decode cX12_layPaid 35 = .ok (.iload_n 3, 1) := by decide +kernel
theorem dX12_layPaid_36 : decode cX12_layPaid 36 = .ok (.iconst 1, 1) := by decide +kernel
theorem dX12_layPaid_37 : decode cX12_layPaid 37 = .ok (.isub, 1) := by decide +kernel
theorem dX12_layPaid_38 : decode cX12_layPaid 38 = .ok (.istore 4, 2) := by decide +kernel
theorem dX12_layPaid_40 : decode cX12_layPaid 40 = .ok (.iload 4, 2) := by decide +kernel
theorem dX12_layPaid_42 : decode cX12_layPaid 42 = .ok (.ifCond .lt 118, 3) := by decide +kernel
theorem dX12_layPaid_45 : decode cX12_layPaid 45 = .ok (.iconst 0, 1) := by decide +kernel
theorem dX12_layPaid_46 : decode cX12_layPaid 46 = .ok (.istore 5, 2) := by decide +kernel
theorem dX12_layPaid_48 : decode cX12_layPaid 48 = .ok (.iload 5, 2) := by decide +kernel
theorem dX12_layPaid_50 : decode cX12_layPaid 50 = .ok (.iload_n 2, 1) := by decide +kernel
theorem dX12_layPaid_51 : decode cX12_layPaid 51 = .ok (.if_icmp .gt 103, 3) := by decide +kernel
theorem dX12_layPaid_54 : decode cX12_layPaid 54 = .ok (.iconst (-1), 1) := by decide +kernel
theorem dX12_layPaid_55 : decode cX12_layPaid 55 = .ok (.istore 6, 2) := by decide +kernel
theorem dX12_layPaid_57 : decode cX12_layPaid 57 = .ok (.iconst 1, 1) := by decide +kernel
theorem dX12_layPaid_58 : decode cX12_layPaid 58 = .ok (.iload 5, 2) := by decide +kernel
theorem dX12_layPaid_60 : decode cX12_layPaid 60 = .ok (.invokestatic 261, 3) := by decide +kernel
theorem dX12_layPaid_63 : decode cX12_layPaid 63 = .ok (.istore 7, 2) := by decide +kernel
theorem dX12_layPaid_65 : decode cX12_layPaid 65 = .ok (.iload 7, 2) := by decide +kernel
theorem dX12_layPaid_67 : decode cX12_layPaid 67 = .ok (.iload_n 2, 1) := by decide +kernel
theorem dX12_layPaid_68 : decode cX12_layPaid 68 = .ok (.if_icmp .gt 65, 3) := by decide +kernel
theorem dX12_layPaid_71 : decode cX12_layPaid 71 = .ok (.iload 7, 2) := by decide +kernel
theorem dX12_layPaid_73 : decode cX12_layPaid 73 = .ok (.iload 5, 2) := by decide +kernel
theorem dX12_layPaid_75 : decode cX12_layPaid 75 = .ok (.isub, 1) := by decide +kernel
theorem dX12_layPaid_76 : decode cX12_layPaid 76 = .ok (.aload_n 0, 1) := by decide +kernel
theorem dX12_layPaid_77 : decode cX12_layPaid 77 = .ok (.getfield 73, 3) := by decide +kernel
theorem dX12_layPaid_80 : decode cX12_layPaid 80 = .ok (.bipush 28, 2) := by decide +kernel
theorem dX12_layPaid_82 : decode cX12_layPaid 82 = .ok (.iload_n 1, 1) := by decide +kernel
theorem dX12_layPaid_83 : decode cX12_layPaid 83 = .ok (.imul, 1) := by decide +kernel
theorem dX12_layPaid_84 : decode cX12_layPaid 84 = .ok (.iload 4, 2) := by decide +kernel
theorem dX12_layPaid_86 : decode cX12_layPaid 86 = .ok (.iadd, 1) := by decide +kernel
theorem dX12_layPaid_87 : decode cX12_layPaid 87 = .ok (.laload, 1) := by decide +kernel
theorem dX12_layPaid_88 : decode cX12_layPaid 88 = .ok (.l2i, 1) := by decide +kernel
theorem dX12_layPaid_89 : decode cX12_layPaid 89 = .ok (.imul, 1) := by decide +kernel
theorem dX12_layPaid_90 : decode cX12_layPaid 90 = .ok (.aload_n 0, 1) := by decide +kernel
theorem dX12_layPaid_91 : decode cX12_layPaid 91 = .ok (.getfield 64, 3) := by decide +kernel
theorem dX12_layPaid_94 : decode cX12_layPaid 94 = .ok (.bipush 13, 2) := by decide +kernel
theorem dX12_layPaid_96 : decode cX12_layPaid 96 = .ok (.iload 4, 2) := by decide +kernel
theorem dX12_layPaid_98 : decode cX12_layPaid 98 = .ok (.iconst 1, 1) := by decide +kernel
theorem dX12_layPaid_99 : decode cX12_layPaid 99 = .ok (.iadd, 1) := by decide +kernel
theorem dX12_layPaid_100 : decode cX12_layPaid 100 = .ok (.imul, 1) := by decide +kernel
theorem dX12_layPaid_101 : decode cX12_layPaid 101 = .ok (.iload 7, 2) := by decide +kernel
theorem dX12_layPaid_103 : decode cX12_layPaid 103 = .ok (.iadd, 1) := by decide +kernel
theorem dX12_layPaid_104 : decode cX12_layPaid 104 = .ok (.iconst 1, 1) := by decide +kernel
theorem dX12_layPaid_105 : decode cX12_layPaid 105 = .ok (.isub, 1) := by decide +kernel
theorem dX12_layPaid_106 : decode cX12_layPaid 106 = .ok (.iaload, 1) := by decide +kernel
theorem dX12_layPaid_107 : decode cX12_layPaid 107 = .ok (.iadd, 1) := by decide +kernel
theorem dX12_layPaid_108 : decode cX12_layPaid 108 = .ok (.istore 8, 2) := by decide +kernel
theorem dX12_layPaid_110 : decode cX12_layPaid 110 = .ok (.iload 6, 2) := by decide +kernel
theorem dX12_layPaid_112 : decode cX12_layPaid 112 = .ok (.iconst (-1), 1) := by decide +kernel
theorem dX12_layPaid_113 : decode cX12_layPaid 113 = .ok (.if_icmp .eq 10, 3) := by decide +kernel
theorem dX12_layPaid_116 : decode cX12_layPaid 116 = .ok (.iload 8, 2) := by decide +kernel
theorem dX12_layPaid_118 : decode cX12_layPaid 118 = .ok (.iload 6, 2) := by decide +kernel
theorem dX12_layPaid_120 : decode cX12_layPaid 120 = .ok (.if_icmp .ge 7, 3) := by decide +kernel
theorem dX12_layPaid_123 : decode cX12_layPaid 123 = .ok (.iload 8, 2) := by decide +kernel
theorem dX12_layPaid_125 : decode cX12_layPaid 125 = .ok (.istore 6, 2) := by decide +kernel
theorem dX12_layPaid_127 : decode cX12_layPaid 127 = .ok (.iinc 7 1, 3) := by decide +kernel
theorem dX12_layPaid_130 : decode cX12_layPaid 130 = .ok (.goto (-65), 3) := by decide +kernel
theorem dX12_layPaid_133 : decode cX12_layPaid 133 = .ok (.aload_n 0, 1) := by decide +kernel
theorem dX12_layPaid_134 : decode cX12_layPaid 134 = .ok (.getfield 64, 3) := by decide +kernel
theorem dX12_layPaid_137 : decode cX12_layPaid 137 = .ok (.bipush 13, 2) := by decide +kernel
theorem dX12_layPaid_139 : decode cX12_layPaid 139 = .ok (.iload 4, 2) := by decide +kernel
theorem dX12_layPaid_141 : decode cX12_layPaid 141 = .ok (.imul, 1) := by decide +kernel
theorem dX12_layPaid_142 : decode cX12_layPaid 142 = .ok (.iload 5, 2) := by decide +kernel
theorem dX12_layPaid_144 : decode cX12_layPaid 144 = .ok (.iadd, 1) := by decide +kernel
theorem dX12_layPaid_145 : decode cX12_layPaid 145 = .ok (.iload 6, 2) := by decide +kernel
theorem dX12_layPaid_147 : decode cX12_layPaid 147 = .ok (.iastore, 1) := by decide +kernel
theorem dX12_layPaid_148 : decode cX12_layPaid 148 = .ok (.iinc 5 1, 3) := by decide +kernel
theorem dX12_layPaid_151 : decode cX12_layPaid 151 = .ok (.goto (-103), 3) := by decide +kernel
theorem dX12_layPaid_154 : decode cX12_layPaid 154 = .ok (.iinc 4 (-1), 3) := by decide +kernel
theorem dX12_layPaid_157 : decode cX12_layPaid 157 = .ok (.goto (-117), 3) := by decide +kernel
theorem dX12_layPaid_160 : decode cX12_layPaid 160 = .ok (.return_, 1) := by decide +kernel
theorem dX12_fill_0 : decode cX12_fill 0 = .ok (.aload_n 0, 1) := by decide +kernel
theorem dX12_fill_1 : decode cX12_fill 1 = .ok (.iconst 0, 1) := by decide +kernel
theorem dX12_fill_2 : decode cX12_fill 2 = .ok (.putfield 76, 3) := by decide +kernel
theorem dX12_fill_5 : decode cX12_fill 5 = .ok (.iload_n 1, 1) := by decide +kernel
theorem dX12_fill_6 : decode cX12_fill 6 = .ok (.invokestatic 407, 3) := by decide +kernel
theorem dX12_fill_9 : decode cX12_fill 9 = .ok (.ifCond .ne 9, 3) := by decide +kernel
theorem dX12_fill_12 : decode cX12_fill 12 = .ok (.aload_n 0, 1) := by decide +kernel
theorem dX12_fill_13 : decode cX12_fill 13 = .ok (.iconst 1, 1) := by decide +kernel
theorem dX12_fill_14 : decode cX12_fill 14 = .ok (.invokevirtual 83, 3) := by decide +kernel
theorem dX12_fill_17 : decode cX12_fill 17 = .ok (.ireturn, 1) := by decide +kernel
theorem dX12_fill_18 : decode cX12_fill 18 = .ok (.aload_n 0, 1) := by decide +kernel
theorem dX12_fill_19 : decode cX12_fill 19 = .ok (.getfield 67, 3) := by decide +kernel
theorem dX12_fill_22 : decode cX12_fill 22 = .ok (.iload_n 1, 1) := by decide +kernel
theorem dX12_fill_23 : decode cX12_fill 23 = .ok (.iaload, 1) := by decide +kernel
theorem dX12_fill_24 : decode cX12_fill 24 = .ok (.iconst (-1), 1) := by decide +kernel
theorem dX12_fill_25 : decode cX12_fill 25 = .ok (.if_icmp .ne 9, 3) := by decide +kernel
theorem dX12_fill_28 : decode cX12_fill 28 = .ok (.aload_n 0, 1) := by decide +kernel
theorem dX12_fill_29 : decode cX12_fill 29 = .ok (.iconst 2, 1) := by decide +kernel
theorem dX12_fill_30 : decode cX12_fill 30 = .ok (.invokevirtual 83, 3) := by decide +kernel
theorem dX12_fill_33 : decode cX12_fill 33 = .ok (.ireturn, 1) := by decide +kernel
theorem dX12_fill_34 : decode cX12_fill 34 = .ok (.iload_n 2, 1) := by decide +kernel
theorem dX12_fill_35 : decode cX12_fill 35 = .ok (.i2l, 1) := by decide +kernel
theorem dX12_fill_36 : decode cX12_fill 36 = .ok (.lconst 1, 1) := by decide +kernel
theorem dX12_fill_37 : decode cX12_fill 37 = .ok (.ldc2_w 415, 3) := by decide +kernel
theorem dX12_fill_40 : decode cX12_fill 40 = .ok (.invokestatic 79, 3) := by decide +kernel
theorem dX12_fill_43 : decode cX12_fill 43 = .ok (.ifCond .eq 23, 3) := by decide +kernel
theorem dX12_fill_46 : decode cX12_fill 46 = .ok (.iload_n 3, 1) := by decide +kernel
theorem dX12_fill_47 : decode cX12_fill 47 = .ok (.i2l, 1) := by decide +kernel
theorem dX12_fill_48 : decode cX12_fill 48 = .ok (.lconst 0, 1) := by decide +kernel
theorem dX12_fill_49 : decode cX12_fill 49 = .ok (.iload_n 2, 1) := by decide +kernel
theorem dX12_fill_50 : decode cX12_fill 50 = .ok (.i2l, 1) := by decide +kernel
theorem dX12_fill_51 : decode cX12_fill 51 = .ok (.invokestatic 79, 3) := by decide +kernel
theorem dX12_fill_54 : decode cX12_fill 54 = .ok (.ifCond .eq 12, 3) := by decide +kernel
theorem dX12_fill_57 : decode cX12_fill 57 = .ok (.aload_n 0, 1) := by decide +kernel
theorem dX12_fill_58 : decode cX12_fill 58 = .ok (.getfield 70, 3) := by decide +kernel
theorem dX12_fill_61 : decode cX12_fill 61 = .ok (.iload_n 1, 1) := by decide +kernel
theorem dX12_fill_62 : decode cX12_fill 62 = .ok (.iaload, 1) := by decide +kernel
theorem dX12_fill_63 : decode cX12_fill 63 = .ok (.ifCond .ne 9, 3) := by decide +kernel
theorem dX12_fill_66 : decode cX12_fill 66 = .ok (.aload_n 0, 1) := by decide +kernel
theorem dX12_fill_67 : decode cX12_fill 67 = .ok (.iconst 3, 1) := by decide +kernel
theorem dX12_fill_68 : decode cX12_fill 68 = .ok (.invokevirtual 83, 3) := by decide +kernel
theorem dX12_fill_71 : decode cX12_fill 71 = .ok (.ireturn, 1) := by decide +kernel
theorem dX12_fill_72 : decode cX12_fill 72 = .ok (.iconst 0, 1) := by decide +kernel
theorem dX12_fill_73 : decode cX12_fill 73 = .ok (.istore 5, 2) := by decide +kernel
theorem dX12_fill_75 : decode cX12_fill 75 = .ok (.iload 5, 2) := by decide +kernel
theorem dX12_fill_77 : decode cX12_fill 77 = .ok (.aload_n 0, 1) := by decide +kernel
theorem dX12_fill_78 : decode cX12_fill 78 = .ok (.getfield 70, 3) := by decide +kernel
theorem dX12_fill_81 : decode cX12_fill 81 = .ok (.iload_n 1, 1) := by decide +kernel
theorem dX12_fill_82 : decode cX12_fill 82 = .ok (.iaload, 1) := by decide +kernel
theorem dX12_fill_83 : decode cX12_fill 83 = .ok (.if_icmp .ge 37, 3) := by decide +kernel
theorem dX12_fill_86 : decode cX12_fill 86 = .ok (.aload_n 0, 1) := by decide +kernel
theorem dX12_fill_87 : decode cX12_fill 87 = .ok (.getfield 73, 3) := by decide +kernel
theorem dX12_fill_90 : decode cX12_fill 90 = .ok (.bipush 28, 2) := by decide +kernel
theorem dX12_fill_92 : decode cX12_fill 92 = .ok (.iload_n 1, 1) := by decide +kernel
theorem dX12_fill_93 : decode cX12_fill 93 = .ok (.imul, 1) := by decide +kernel
theorem dX12_fill_94 : decode cX12_fill 94 = .ok (.iload 5, 2) := by decide +kernel
theorem dX12_fill_96 : decode cX12_fill 96 = .ok (.iadd, 1) := by decide +kernel
theorem dX12_fill_97 : decode cX12_fill 97 = .ok (.laload, 1) := by decide +kernel
theorem dX12_fill_98 : decode cX12_fill 98 = .ok (.lconst 0, 1) := by decide +kernel
theorem dX12_fill_99 : decode cX12_fill 99 = .ok (.ldc2_w 87, 3) := by decide +kernel
theorem dX12_fill_102 : decode cX12_fill 102 = .ok (.invokestatic 79, 3) := by decide +kernel
theorem dX12_fill_105 : decode cX12_fill 105 = .ok (.ifCond .ne 9, 3) := by decide +kernel
theorem dX12_fill_108 : decode cX12_fill 108 = .ok (.aload_n 0, 1) := by decide +kernel
theorem dX12_fill_109 : decode cX12_fill 109 = .ok (.iconst 3, 1) := by decide +kernel
theorem dX12_fill_110 : decode cX12_fill 110 = .ok (.invokevirtual 83, 3) := by decide +kernel
theorem dX12_fill_113 : decode cX12_fill 113 = .ok (.ireturn, 1) := by decide +kernel
theorem dX12_fill_114 : decode cX12_fill 114 = .ok (.iinc 5 1, 3) := by decide +kernel
theorem dX12_fill_117 : decode cX12_fill 117 = .ok (.goto (-42), 3) := by decide +kernel
theorem dX12_fill_120 : decode cX12_fill 120 = .ok (.aload_n 0, 1) := by decide +kernel
theorem dX12_fill_121 : decode cX12_fill 121 = .ok (.iload_n 1, 1) := by decide +kernel
theorem dX12_fill_122 : decode cX12_fill 122 = .ok (.iload_n 2, 1) := by decide +kernel
theorem dX12_fill_123 : decode cX12_fill 123 = .ok (.invokevirtual 417, 3) := by decide +kernel
theorem dX12_fill_126 : decode cX12_fill 126 = .ok (.iload 4, 2) := by decide +kernel
theorem dX12_fill_128 : decode cX12_fill 128 = .ok (.iconst (-1), 1) := by decide +kernel
theorem dX12_fill_129 : decode cX12_fill 129 = .ok (.if_icmp .ne 10, 3) := by decide +kernel
theorem dX12_fill_132 : decode cX12_fill 132 = .ok (.aload_n 0, 1) := by decide +kernel
theorem dX12_fill_133 : decode cX12_fill 133 = .ok (.getfield 64, 3) := by decide +kernel
theorem dX12_fill_136 : decode cX12_fill 136 = .ok (.iload_n 3, 1) := by decide +kernel
theorem dX12_fill_137 : decode cX12_fill 137 = .ok (.iaload, 1) := by decide +kernel
theorem dX12_fill_138 : decode cX12_fill 138 = .ok (.ireturn, 1) := by decide +kernel
theorem dX12_fill_139 : decode cX12_fill 139 = .ok (.iload 4, 2) := by decide +kernel
theorem dX12_fill_141 : decode cX12_fill 141 = .ok (.i2l, 1) := by decide +kernel
theorem dX12_fill_142 : decode cX12_fill 142 = .ok (.lconst 0, 1) := by decide +kernel
theorem dX12_fill_143 : decode cX12_fill 143 = .ok (.aload_n 0, 1) := by decide +kernel
theorem dX12_fill_144 : decode cX12_fill 144 = .ok (.getfield 70, 3) := by decide +kernel
theorem dX12_fill_147 : decode cX12_fill 147 = .ok (.iload_n 1, 1) := by decide +kernel
theorem dX12_fill_148 : decode cX12_fill 148 = .ok (.iaload, 1) := by decide +kernel
theorem dX12_fill_149 : decode cX12_fill 149 = .ok (.iconst 1, 1) := by decide +kernel
theorem dX12_fill_150 : decode cX12_fill 150 = .ok (.isub, 1) := by decide +kernel
theorem dX12_fill_151 : decode cX12_fill 151 = .ok (.i2l, 1) := by decide +kernel
theorem dX12_fill_152 : decode cX12_fill 152 = .ok (.invokestatic 79, 3) := by decide +kernel
theorem dX12_fill_155 : decode cX12_fill 155 = .ok (.ifCond .ne 5, 3) := by decide +kernel
theorem dX12_fill_158 : decode cX12_fill 158 = .ok (.iconst (-1), 1) := by decide +kernel
theorem dX12_fill_159 : decode cX12_fill 159 = .ok (.ireturn, 1) := by decide +kernel
theorem dX12_fill_160 : decode cX12_fill 160 = .ok (.iload_n 3, 1) := by decide +kernel
theorem dX12_fill_161 : decode cX12_fill 161 = .ok (.istore 5, 2) := by decide +kernel
theorem dX12_fill_163 : decode cX12_fill 163 = .ok (.iconst 0, 1) := by decide +kernel
theorem dX12_fill_164 : decode cX12_fill 164 = .ok (.istore 6, 2) := by decide +kernel
theorem dX12_fill_166 : decode cX12_fill 166 = .ok (.iconst 1, 1) := by decide +kernel
theorem dX12_fill_167 : decode cX12_fill 167 = .ok (.iload 5, 2) := by decide +kernel
theorem dX12_fill_169 : decode cX12_fill 169 = .ok (.invokestatic 261, 3) := by decide +kernel
theorem dX12_fill_172 : decode cX12_fill 172 = .ok (.istore 7, 2) := by decide +kernel
theorem dX12_fill_174 : decode cX12_fill 174 = .ok (.iload 7, 2) := by decide +kernel
theorem dX12_fill_176 : decode cX12_fill 176 = .ok (.iload 5, 2) := by decide +kernel
theorem dX12_fill_178 : decode cX12_fill 178 = .ok (.isub, 1) := by decide +kernel
theorem dX12_fill_179 : decode cX12_fill 179 = .ok (.aload_n 0, 1) := by decide +kernel
theorem dX12_fill_180 : decode cX12_fill 180 = .ok (.getfield 73, 3) := by decide +kernel
theorem dX12_fill_183 : decode cX12_fill 183 = .ok (.bipush 28, 2) := by decide +kernel
theorem dX12_fill_185 : decode cX12_fill 185 = .ok (.iload_n 1, 1) := by decide +kernel
theorem dX12_fill_186 : decode cX12_fill 186 = .ok (.imul, 1) := by decide +kernel
theorem dX12_fill_187 : decode cX12_fill 187 = .ok (.iload 6, 2) := by decide +kernel
theorem dX12_fill_189 : decode cX12_fill 189 = .ok (.iadd, 1) := by decide +kernel
theorem dX12_fill_190 : decode cX12_fill 190 = .ok (.laload, 1) := by decide +kernel
theorem dX12_fill_191 : decode cX12_fill 191 = .ok (.l2i, 1) := by decide +kernel
theorem dX12_fill_192 : decode cX12_fill 192 = .ok (.imul, 1) := by decide +kernel
theorem dX12_fill_193 : decode cX12_fill 193 = .ok (.aload_n 0, 1) := by decide +kernel
theorem dX12_fill_194 : decode cX12_fill 194 = .ok (.getfield 64, 3) := by decide +kernel
theorem dX12_fill_197 : decode cX12_fill 197 = .ok (.bipush 13, 2) := by decide +kernel
theorem dX12_fill_199 : decode cX12_fill 199 = .ok (.iload 6, 2) := by decide +kernel
theorem dX12_fill_201 : decode cX12_fill 201 = .ok (.iconst 1, 1) := by decide +kernel
theorem dX12_fill_202 : decode cX12_fill 202 = .ok (.iadd, 1) := by decide +kernel
theorem dX12_fill_203 : decode cX12_fill 203 = .ok (.imul, 1) := by decide +kernel
theorem dX12_fill_204 : decode cX12_fill 204 = .ok (.iload 7, 2) := by decide +kernel
theorem dX12_fill_206 : decode cX12_fill 206 = .ok (.iadd, 1) := by decide +kernel
theorem dX12_fill_207 : decode cX12_fill 207 = .ok (.iconst 1, 1) := by decide +kernel
theorem dX12_fill_208 : decode cX12_fill 208 = .ok (.isub, 1) := by decide +kernel
theorem dX12_fill_209 : decode cX12_fill 209 = .ok (.iaload, 1) := by decide +kernel
theorem dX12_fill_210 : decode cX12_fill 210 = .ok (.iadd, 1) := by decide +kernel
theorem dX12_fill_211 : decode cX12_fill 211 = .ok (.aload_n 0, 1) := by decide +kernel
theorem dX12_fill_212 : decode cX12_fill 212 = .ok (.getfield 64, 3) := by decide +kernel
theorem dX12_fill_215 : decode cX12_fill 215 = .ok (.bipush 13, 2) := by decide +kernel
theorem dX12_fill_217 : decode cX12_fill 217 = .ok (.iload 6, 2) := by decide +kernel
theorem dX12_fill_219 : decode cX12_fill 219 = .ok (.imul, 1) := by decide +kernel
theorem dX12_fill_220 : decode cX12_fill 220 = .ok (.iload 5, 2) := by decide +kernel
theorem dX12_fill_222 : decode cX12_fill 222 = .ok (.iadd, 1) := by decide +kernel
theorem dX12_fill_223 : decode cX12_fill 223 = .ok (.iaload, 1) := by decide +kernel
theorem dX12_fill_224 : decode cX12_fill 224 = .ok (.if_icmp .eq 9, 3) := by decide +kernel
theorem dX12_fill_227 : decode cX12_fill 227 = .ok (.iinc 7 1, 3) := by decide +kernel
theorem dX12_fill_230 : decode cX12_fill 230 = .ok (.goto (-56), 3) := by decide +kernel
theorem dX12_fill_233 : decode cX12_fill 233 = .ok (.iload 6, 2) := by decide +kernel
theorem dX12_fill_235 : decode cX12_fill 235 = .ok (.iload 4, 2) := by decide +kernel
theorem dX12_fill_237 : decode cX12_fill 237 = .ok (.if_icmp .ne 9, 3) := by decide +kernel
theorem dX12_fill_240 : decode cX12_fill 240 = .ok (.iload 7, 2) := by decide +kernel
theorem dX12_fill_242 : decode cX12_fill 242 = .ok (.iload 5, 2) := by decide +kernel
theorem dX12_fill_244 : decode cX12_fill 244 = .ok (.isub, 1) := by decide +kernel
theorem dX12_fill_245 : decode cX12_fill 245 = .ok (.ireturn, 1) := by decide +kernel
theorem dX12_fill_246 : decode cX12_fill 246 = .ok (.iload 7, 2) := by decide +kernel
theorem dX12_fill_248 : decode cX12_fill 248 = .ok (.iconst 1, 1) := by decide +kernel
theorem dX12_fill_249 : decode cX12_fill 249 = .ok (.isub, 1) := by decide +kernel
theorem dX12_fill_250 : decode cX12_fill 250 = .ok (.istore 5, 2) := by decide +kernel
theorem dX12_fill_252 : decode cX12_fill 252 = .ok (.iinc 6 1, 3) := by decide +kernel
theorem dX12_fill_255 : decode cX12_fill 255 = .ok (.goto (-89), 3) := by decide +kernel
theorem dX12_told_0 : decode cX12_told 0 = .ok (.aload_n 0, 1) := by decide +kernel
theorem dX12_told_1 : decode cX12_told 1 = .ok (.iconst 0, 1) := by decide +kernel
theorem dX12_told_2 : decode cX12_told 2 = .ok (.putfield 76, 3) := by decide +kernel
theorem dX12_told_5 : decode cX12_told 5 = .ok (.aload_n 0, 1) := by decide +kernel
theorem dX12_told_6 : decode cX12_told 6 = .ok (.getfield 9, 3) := by decide +kernel
theorem dX12_told_9 : decode cX12_told 9 = .ok (.iconst 0, 1) := by decide +kernel
theorem dX12_told_10 : decode cX12_told 10 = .ok (.iaload, 1) := by decide +kernel
theorem dX12_told_11 : decode cX12_told 11 = .ok (.ifCond .ne 9, 3) := by decide +kernel
theorem dX12_told_14 : decode cX12_told 14 = .ok (.aload_n 0, 1) := by decide +kernel
theorem dX12_told_15 : decode cX12_told 15 = .ok (.iconst 1, 1) := by decide +kernel
theorem dX12_told_16 : decode cX12_told 16 = .ok (.invokevirtual 83, 3) := by decide +kernel
theorem dX12_told_19 : decode cX12_told 19 = .ok (.ireturn, 1) := by decide +kernel
theorem dX12_told_20 : decode cX12_told 20 = .ok (.iconst 0, 1) := by decide +kernel
theorem dX12_told_21 : decode cX12_told 21 = .ok (.istore 5, 2) := by decide +kernel
theorem dX12_told_23 : decode cX12_told 23 = .ok (.iload 5, 2) := by decide +kernel
theorem dX12_told_25 : decode cX12_told 25 = .ok (.aload_n 0, 1) := by decide +kernel
theorem dX12_told_26 : decode cX12_told 26 = .ok (.getfield 9, 3) := by decide +kernel
theorem dX12_told_29 : decode cX12_told 29 = .ok (.iconst 0, 1) := by decide +kernel
theorem dX12_told_30 : decode cX12_told 30 = .ok (.iaload, 1) := by decide +kernel
theorem dX12_told_31 : decode cX12_told 31 = .ok (.if_icmp .ge 60, 3) := by decide +kernel
theorem dX12_told_34 : decode cX12_told 34 = .ok (.iload 5, 2) := by decide +kernel
theorem dX12_told_36 : decode cX12_told 36 = .ok (.ifCond .ne 8, 3) := by decide +kernel
theorem dX12_told_39 : decode cX12_told 39 = .ok (.iload_n 1, 1) := by decide +kernel
theorem dX12_told_40 : decode cX12_told 40 = .ok (.i2l, 1) := by decide +kernel
theorem dX12_told_41 : decode cX12_told 41 = .ok (.goto 28, 3) := by decide +kernel
theorem dX12_told_44 : decode cX12_told 44 = .ok (.iload 5, 2) := by decide +kernel
theorem dX12_told_46 : decode cX12_told 46 = .ok (.iconst 1, 1) := by decide +kernel
theorem dX12_told_47 : decode cX12_told 47 = .ok (.if_icmp .ne 8, 3) := by decide +kernel
theorem dX12_told_50 : decode cX12_told 50 = .ok (.iload_n 2, 1) := by decide +kernel
theorem dX12_told_51 : decode cX12_told 51 = .ok (.i2l, 1) := by decide +kernel
theorem dX12_told_52 : decode cX12_told 52 = .ok (.goto 17, 3) := by decide +kernel
theorem dX12_told_55 : decode cX12_told 55 = .ok (.iload 5, 2) := by decide +kernel
theorem dX12_told_57 : decode cX12_told 57 = .ok (.iconst 2, 1) := by decide +kernel
theorem dX12_told_58 : decode cX12_told 58 = .ok (.if_icmp .ne 8, 3) := by decide +kernel
theorem dX12_told_61 : decode cX12_told 61 = .ok (.iload_n 3, 1) := by decide +kernel
theorem dX12_told_62 : decode cX12_told 62 = .ok (.i2l, 1) := by decide +kernel
theorem dX12_told_63 : decode cX12_told 63 = .ok (.goto 6, 3) := by decide +kernel
theorem dX12_told_66 : decode cX12_told 66 = .ok (.iload 4, 2) := by decide +kernel
theorem dX12_told_68 : decode cX12_told 68 = .ok (.i2l, 1) := by decide +kernel
theorem dX12_told_69 : decode cX12_told 69 = .ok (.lconst 0, 1) := by decide +kernel
theorem dX12_told_70 : decode cX12_told 70 = .ok (.ldc2_w 87, 3) := by decide +kernel
theorem dX12_told_73 : decode cX12_told 73 = .ok (.invokestatic 79, 3) := by decide +kernel
theorem dX12_told_76 : decode cX12_told 76 = .ok (.ifCond .ne 9, 3) := by decide +kernel
theorem dX12_told_79 : decode cX12_told 79 = .ok (.aload_n 0, 1) := by decide +kernel
theorem dX12_told_80 : decode cX12_told 80 = .ok (.iconst 2, 1) := by decide +kernel
theorem dX12_told_81 : decode cX12_told 81 = .ok (.invokevirtual 83, 3) := by decide +kernel
theorem dX12_told_84 : decode cX12_told 84 = .ok (.ireturn, 1) := by decide +kernel
theorem dX12_told_85 : decode cX12_told 85 = .ok (.iinc 5 1, 3) := by decide +kernel
theorem dX12_told_88 : decode cX12_told 88 = .ok (.goto (-65), 3) := by decide +kernel
theorem dX12_told_91 : decode cX12_told 91 = .ok (.aload_n 0, 1) := by decide +kernel
theorem dX12_told_92 : decode cX12_told 92 = .ok (.getfield 9, 3) := by decide +kernel
theorem dX12_told_95 : decode cX12_told 95 = .ok (.iconst 5, 1) := by decide +kernel
theorem dX12_told_96 : decode cX12_told 96 = .ok (.iaload, 1) := by decide +kernel
theorem dX12_told_97 : decode cX12_told 97 = .ok (.bipush 60, 2) := by decide +kernel
theorem dX12_told_99 : decode cX12_told 99 = .ok (.if_icmp .ne 5, 3) := by decide +kernel
theorem dX12_told_102 : decode cX12_told 102 = .ok (.iconst (-1), 1) := by decide +kernel
theorem dX12_told_103 : decode cX12_told 103 = .ok (.ireturn, 1) := by decide +kernel
theorem dX12_told_104 : decode cX12_told 104 = .ok (.iconst 0, 1) := by decide +kernel
theorem dX12_told_105 : decode cX12_told 105 = .ok (.istore 5, 2) := by decide +kernel
theorem dX12_told_107 : decode cX12_told 107 = .ok (.iload 5, 2) := by decide +kernel
theorem dX12_told_109 : decode cX12_told 109 = .ok (.aload_n 0, 1) := by decide +kernel
theorem dX12_told_110 : decode cX12_told 110 = .ok (.getfield 9, 3) := by decide +kernel
theorem dX12_told_113 : decode cX12_told 113 = .ok (.iconst 0, 1) := by decide +kernel
theorem dX12_told_114 : decode cX12_told 114 = .ok (.iaload, 1) := by decide +kernel
theorem dX12_told_115 : decode cX12_told 115 = .ok (.if_icmp .ge 60, 3) := by decide +kernel
theorem dX12_told_118 : decode cX12_told 118 = .ok (.aload_n 0, 1) := by decide +kernel
theorem dX12_told_119 : decode cX12_told 119 = .ok (.getfield 9, 3) := by decide +kernel
theorem dX12_told_122 : decode cX12_told 122 = .ok (.sipush 2909, 3) := by decide +kernel
theorem dX12_told_125 : decode cX12_told 125 = .ok (.iconst 4, 1) := by decide +kernel
theorem dX12_told_126 : decode cX12_told 126 = .ok (.aload_n 0, 1) := by decide +kernel
theorem dX12_told_127 : decode cX12_told 127 = .ok (.getfield 9, 3) := by decide +kernel
theorem dX12_told_130 : decode cX12_told 130 = .ok (.iconst 5, 1) := by decide +kernel
theorem dX12_told_131 : decode cX12_told 131 = .ok (.iaload, 1) := by decide +kernel
theorem dX12_told_132 : decode cX12_told 132 = .ok (.imul, 1) := by decide +kernel
theorem dX12_told_133 : decode cX12_told 133 = .ok (.iadd, 1) := by decide +kernel
theorem dX12_told_134 : decode cX12_told 134 = .ok (.iload 5, 2) := by decide +kernel
theorem dX12_told_136 : decode cX12_told 136 = .ok (.iadd, 1) := by decide +kernel
theorem dX12_told_137 : decode cX12_told 137 = .ok (.iload 5, 2) := by decide +kernel
theorem dX12_told_139 : decode cX12_told 139 = .ok (.ifCond .ne 7, 3) := by decide +kernel
theorem dX12_told_142 : decode cX12_told 142 = .ok (.iload_n 1, 1) := by decide +kernel
theorem dX12_told_143 : decode cX12_told 143 = .ok (.goto 25, 3) := by decide +kernel
theorem dX12_told_146 : decode cX12_told 146 = .ok (.iload 5, 2) := by decide +kernel
theorem dX12_told_148 : decode cX12_told 148 = .ok (.iconst 1, 1) := by decide +kernel
theorem dX12_told_149 : decode cX12_told 149 = .ok (.if_icmp .ne 7, 3) := by decide +kernel
theorem dX12_told_152 : decode cX12_told 152 = .ok (.iload_n 2, 1) := by decide +kernel
theorem dX12_told_153 : decode cX12_told 153 = .ok (.goto 15, 3) := by decide +kernel
theorem dX12_told_156 : decode cX12_told 156 = .ok (.iload 5, 2) := by decide +kernel
theorem dX12_told_158 : decode cX12_told 158 = .ok (.iconst 2, 1) := by decide +kernel
theorem dX12_told_159 : decode cX12_told 159 = .ok (.if_icmp .ne 7, 3) := by decide +kernel
theorem dX12_told_162 : decode cX12_told 162 = .ok (.iload_n 3, 1) := by decide +kernel
theorem dX12_told_163 : decode cX12_told 163 = .ok (.goto 5, 3) := by decide +kernel
theorem dX12_told_166 : decode cX12_told 166 = .ok (.iload 4, 2) := by decide +kernel
theorem dX12_told_168 : decode cX12_told 168 = .ok (.iastore, 1) := by decide +kernel
theorem dX12_told_169 : decode cX12_told 169 = .ok (.iinc 5 1, 3) := by decide +kernel
theorem dX12_told_172 : decode cX12_told 172 = .ok (.goto (-65), 3) := by decide +kernel
theorem dX12_told_175 : decode cX12_told 175 = .ok (.aload_n 0, 1) := by decide +kernel
theorem dX12_told_176 : decode cX12_told 176 = .ok (.getfield 9, 3) := by decide +kernel
theorem dX12_told_179 : decode cX12_told 179 = .ok (.iconst 5, 1) := by decide +kernel
theorem dX12_told_180 : decode cX12_told 180 = .ok (.dup2, 1) := by decide +kernel
theorem dX12_told_181 : decode cX12_told 181 = .ok (.iaload, 1) := by decide +kernel
theorem dX12_told_182 : decode cX12_told 182 = .ok (.iconst 1, 1) := by decide +kernel
theorem dX12_told_183 : decode cX12_told 183 = .ok (.iadd, 1) := by decide +kernel
theorem dX12_told_184 : decode cX12_told 184 = .ok (.iastore, 1) := by decide +kernel
theorem dX12_told_185 : decode cX12_told 185 = .ok (.aload_n 0, 1) := by decide +kernel
theorem dX12_told_186 : decode cX12_told 186 = .ok (.getfield 9, 3) := by decide +kernel
theorem dX12_told_189 : decode cX12_told 189 = .ok (.iconst 5, 1) := by decide +kernel
theorem dX12_told_190 : decode cX12_told 190 = .ok (.iaload, 1) := by decide +kernel
theorem dX12_told_191 : decode cX12_told 191 = .ok (.ireturn, 1) := by decide +kernel
theorem dX12_fit_0 : decode cX12_fit 0 = .ok (.aload_n 0, 1) := by decide +kernel
theorem dX12_fit_1 : decode cX12_fit 1 = .ok (.iconst 0, 1) := by decide +kernel
theorem dX12_fit_2 : decode cX12_fit 2 = .ok (.putfield 76, 3) := by decide +kernel
theorem dX12_fit_5 : decode cX12_fit 5 = .ok (.aload_n 0, 1) := by decide +kernel
theorem dX12_fit_6 : decode cX12_fit 6 = .ok (.iload_n 1, 1) := by decide +kernel
theorem dX12_fit_7 : decode cX12_fit 7 = .ok (.invokevirtual 91, 3) := by decide +kernel
theorem dX12_fit_10 : decode cX12_fit 10 = .ok (.ifCond .ne 9, 3) := by decide +kernel
theorem dX12_fit_13 : decode cX12_fit 13 = .ok (.aload_n 0, 1) := by decide +kernel
theorem dX12_fit_14 : decode cX12_fit 14 = .ok (.iconst 1, 1) := by decide +kernel
theorem dX12_fit_15 : decode cX12_fit 15 = .ok (.invokevirtual 83, 3) := by decide +kernel
theorem dX12_fit_18 : decode cX12_fit 18 = .ok (.ireturn, 1) := by decide +kernel
theorem dX12_fit_19 : decode cX12_fit 19 = .ok (.aload_n 0, 1) := by decide +kernel
theorem dX12_fit_20 : decode cX12_fit 20 = .ok (.iconst 1, 1) := by decide +kernel
theorem dX12_fit_21 : decode cX12_fit 21 = .ok (.putfield 257, 3) := by decide +kernel
theorem dX12_fit_24 : decode cX12_fit 24 = .ok (.iconst 1, 1) := by decide +kernel
theorem dX12_fit_25 : decode cX12_fit 25 = .ok (.istore_n 2, 1) := by decide +kernel
theorem dX12_fit_26 : decode cX12_fit 26 = .ok (.iload_n 2, 1) := by decide +kernel
theorem dX12_fit_27 : decode cX12_fit 27 = .ok (.aload_n 0, 1) := by decide +kernel
theorem dX12_fit_28 : decode cX12_fit 28 = .ok (.getfield 9, 3) := by decide +kernel
theorem dX12_fit_31 : decode cX12_fit 31 = .ok (.iconst 5, 1) := by decide +kernel
theorem dX12_fit_32 : decode cX12_fit 32 = .ok (.iaload, 1) := by decide +kernel
theorem dX12_fit_33 : decode cX12_fit 33 = .ok (.if_icmp .ge 26, 3) := by decide +kernel
theorem dX12_fit_36 : decode cX12_fit 36 = .ok (.aload_n 0, 1) := by decide +kernel
theorem dX12_fit_37 : decode cX12_fit 37 = .ok (.iload_n 1, 1) := by decide +kernel
theorem dX12_fit_38 : decode cX12_fit 38 = .ok (.iload_n 2, 1) := by decide +kernel
theorem dX12_fit_39 : decode cX12_fit 39 = .ok (.invokevirtual 295, 3) := by decide +kernel
theorem dX12_fit_42 : decode cX12_fit 42 = .ok (.aload_n 0, 1) := by decide +kernel
theorem dX12_fit_43 : decode cX12_fit 43 = .ok (.iload_n 1, 1) := by decide +kernel
theorem dX12_fit_44 : decode cX12_fit 44 = .ok (.iload_n 2, 1) := by decide +kernel
theorem dX12_fit_45 : decode cX12_fit 45 = .ok (.invokevirtual 266, 3) := by decide +kernel
theorem dX12_fit_48 : decode cX12_fit 48 = .ok (.if_icmp .eq 5, 3) := by decide +kernel
theorem dX12_fit_51 : decode cX12_fit 51 = .ok (.iload_n 2, 1) := by decide +kernel
theorem dX12_fit_52 : decode cX12_fit 52 = .ok (.ireturn, 1) := by decide +kernel
theorem dX12_fit_53 : decode cX12_fit 53 = .ok (.iinc 2 1, 3) := by decide +kernel
theorem dX12_fit_56 : decode cX12_fit 56 = .ok (.goto (-30), 3) := by decide +kernel
theorem dX12_fit_59 : decode cX12_fit 59 = .ok (.iconst (-1), 1) := by decide +kernel
theorem dX12_fit_60 : decode cX12_fit 60 = .ok (.ireturn, 1) := by decide +kernel
theorem dX12_isTray_0 : decode cX12_isTray 0 = .ok (.iload_n 0, 1) := by decide +kernel
theorem dX12_isTray_1 : decode cX12_isTray 1 = .ok (.i2l, 1) := by decide +kernel
theorem dX12_isTray_2 : decode cX12_isTray 2 = .ok (.lconst 0, 1) := by decide +kernel
theorem dX12_isTray_3 : decode cX12_isTray 3 = .ok (.ldc2_w 89, 3) := by decide +kernel
theorem dX12_isTray_6 : decode cX12_isTray 6 = .ok (.invokestatic 79, 3) := by decide +kernel
theorem dX12_isTray_9 : decode cX12_isTray 9 = .ok (.ireturn, 1) := by decide +kernel
theorem dX12_tray_0 : decode cX12_tray 0 = .ok (.aload_n 0, 1) := by decide +kernel
theorem dX12_tray_1 : decode cX12_tray 1 = .ok (.iload_n 1, 1) := by decide +kernel
theorem dX12_tray_2 : decode cX12_tray 2 = .ok (.invokestatic 407, 3) := by decide +kernel
theorem dX12_tray_5 : decode cX12_tray 5 = .ok (.ifCond .ne 7, 3) := by decide +kernel
theorem dX12_tray_8 : decode cX12_tray 8 = .ok (.iconst 1, 1) := by decide +kernel
theorem dX12_tray_9 : decode cX12_tray 9 = .ok (.goto 32, 3) := by decide +kernel
theorem dX12_tray_12 : decode cX12_tray 12 = .ok (.iload_n 2, 1) := by decide +kernel
theorem dX12_tray_13 : decode cX12_tray 13 = .ok (.i2l, 1) := by decide +kernel
theorem dX12_tray_14 : decode cX12_tray 14 = .ok (.lconst 0, 1) := by decide +kernel
theorem dX12_tray_15 : decode cX12_tray 15 = .ok (.ldc2_w 89, 3) := by decide +kernel
theorem dX12_tray_18 : decode cX12_tray 18 = .ok (.invokestatic 79, 3) := by decide +kernel
theorem dX12_tray_21 : decode cX12_tray 21 = .ok (.ifCond .eq 15, 3) := by decide +kernel
theorem dX12_tray_24 : decode cX12_tray 24 = .ok (.iload_n 3, 1) := by decide +kernel
theorem dX12_tray_25 : decode cX12_tray 25 = .ok (.i2l, 1) := by decide +kernel
theorem dX12_tray_26 : decode cX12_tray 26 = .ok (.lconst 0, 1) := by decide +kernel
theorem dX12_tray_27 : decode cX12_tray 27 = .ok (.ldc2_w 420, 3) := by decide +kernel
theorem dX12_tray_30 : decode cX12_tray 30 = .ok (.invokestatic 79, 3) := by decide +kernel
theorem dX12_tray_33 : decode cX12_tray 33 = .ok (.ifCond .ne 7, 3) := by decide +kernel
theorem dX12_tray_36 : decode cX12_tray 36 = .ok (.iconst 2, 1) := by decide +kernel
theorem dX12_tray_37 : decode cX12_tray 37 = .ok (.goto 4, 3) := by decide +kernel
theorem dX12_tray_40 : decode cX12_tray 40 = .ok (.iconst 0, 1) := by decide +kernel
theorem dX12_tray_41 : decode cX12_tray 41 = .ok (.putfield 76, 3) := by decide +kernel
theorem dX12_tray_44 : decode cX12_tray 44 = .ok (.aload_n 0, 1) := by decide +kernel
theorem dX12_tray_45 : decode cX12_tray 45 = .ok (.getfield 76, 3) := by decide +kernel
theorem dX12_tray_48 : decode cX12_tray 48 = .ok (.ifCond .le 4, 3) := by decide +kernel
theorem dX12_tray_51 : decode cX12_tray 51 = .ok (.return_, 1) := by decide +kernel
theorem dX12_tray_52 : decode cX12_tray 52 = .ok (.aload_n 0, 1) := by decide +kernel
theorem dX12_tray_53 : decode cX12_tray 53 = .ok (.getfield 67, 3) := by decide +kernel
theorem dX12_tray_56 : decode cX12_tray 56 = .ok (.iload_n 1, 1) := by decide +kernel
theorem dX12_tray_57 : decode cX12_tray 57 = .ok (.iload_n 2, 1) := by decide +kernel
theorem dX12_tray_58 : decode cX12_tray 58 = .ok (.iastore, 1) := by decide +kernel
theorem dX12_tray_59 : decode cX12_tray 59 = .ok (.aload_n 0, 1) := by decide +kernel
theorem dX12_tray_60 : decode cX12_tray 60 = .ok (.getfield 70, 3) := by decide +kernel
theorem dX12_tray_63 : decode cX12_tray 63 = .ok (.iload_n 1, 1) := by decide +kernel
theorem dX12_tray_64 : decode cX12_tray 64 = .ok (.iload_n 3, 1) := by decide +kernel
theorem dX12_tray_65 : decode cX12_tray 65 = .ok (.iastore, 1) := by decide +kernel
theorem dX12_tray_66 : decode cX12_tray 66 = .ok (.iconst 0, 1) := by decide +kernel
theorem dX12_tray_67 : decode cX12_tray 67 = .ok (.istore 4, 2) := by decide +kernel
theorem dX12_tray_69 : decode cX12_tray 69 = .ok (.iload 4, 2) := by decide +kernel
theorem dX12_tray_71 : decode cX12_tray 71 = .ok (.bipush 28, 2) := by decide +kernel
theorem dX12_tray_73 : decode cX12_tray 73 = .ok (.if_icmp .ge 22, 3) := by decide +kernel
theorem dX12_tray_76 : decode cX12_tray 76 = .ok (.aload_n 0, 1) := by decide +kernel
theorem dX12_tray_77 : decode cX12_tray 77 = .ok (.getfield 73, 3) := by decide +kernel
theorem dX12_tray_80 : decode cX12_tray 80 = .ok (.bipush 28, 2) := by decide +kernel
theorem dX12_tray_82 : decode cX12_tray 82 = .ok (.iload_n 1, 1) := by decide +kernel
theorem dX12_tray_83 : decode cX12_tray 83 = .ok (.imul, 1) := by decide +kernel
theorem dX12_tray_84 : decode cX12_tray 84 = .ok (.iload 4, 2) := by decide +kernel
theorem dX12_tray_86 : decode cX12_tray 86 = .ok (.iadd, 1) := by decide +kernel
theorem dX12_tray_87 : decode cX12_tray 87 = .ok (.lconst 0, 1) := by decide +kernel
theorem dX12_tray_88 : decode cX12_tray 88 = .ok (.lastore, 1) := by decide +kernel
theorem dX12_tray_89 : decode cX12_tray 89 = .ok (.iinc 4 1, 3) := by decide +kernel
theorem dX12_tray_92 : decode cX12_tray 92 = .ok (.goto (-23), 3) := by decide +kernel
theorem dX12_tray_95 : decode cX12_tray 95 = .ok (.return_, 1) := by decide +kernel
theorem dX12_write_0 : decode cX12_write 0 = .ok (.aload_n 0, 1) := by decide +kernel
theorem dX12_write_1 : decode cX12_write 1 = .ok (.iconst 0, 1) := by decide +kernel
theorem dX12_write_2 : decode cX12_write 2 = .ok (.putfield 76, 3) := by decide +kernel
theorem dX12_write_5 : decode cX12_write 5 = .ok (.iload_n 1, 1) := by decide +kernel
theorem dX12_write_6 : decode cX12_write 6 = .ok (.invokestatic 407, 3) := by decide +kernel
theorem dX12_write_9 : decode cX12_write 9 = .ok (.ifCond .ne 10, 3) := by decide +kernel
theorem dX12_write_12 : decode cX12_write 12 = .ok (.aload_n 0, 1) := by decide +kernel
theorem dX12_write_13 : decode cX12_write 13 = .ok (.iconst 1, 1) := by decide +kernel
theorem dX12_write_14 : decode cX12_write 14 = .ok (.invokevirtual 83, 3) := by decide +kernel
theorem dX12_write_17 : decode cX12_write 17 = .ok (.i2l, 1) := by decide +kernel
theorem dX12_write_18 : decode cX12_write 18 = .ok (.lreturn, 1) := by decide +kernel
theorem dX12_write_19 : decode cX12_write 19 = .ok (.aload_n 0, 1) := by decide +kernel
theorem dX12_write_20 : decode cX12_write 20 = .ok (.getfield 67, 3) := by decide +kernel
theorem dX12_write_23 : decode cX12_write 23 = .ok (.iload_n 1, 1) := by decide +kernel
theorem dX12_write_24 : decode cX12_write 24 = .ok (.iaload, 1) := by decide +kernel
theorem dX12_write_25 : decode cX12_write 25 = .ok (.iconst (-1), 1) := by decide +kernel
theorem dX12_write_26 : decode cX12_write 26 = .ok (.if_icmp .ne 10, 3) := by decide +kernel
theorem dX12_write_29 : decode cX12_write 29 = .ok (.aload_n 0, 1) := by decide +kernel
theorem dX12_write_30 : decode cX12_write 30 = .ok (.iconst 2, 1) := by decide +kernel
theorem dX12_write_31 : decode cX12_write 31 = .ok (.invokevirtual 83, 3) := by decide +kernel
theorem dX12_write_34 : decode cX12_write 34 = .ok (.i2l, 1) := by decide +kernel
theorem dX12_write_35 : decode cX12_write 35 = .ok (.lreturn, 1) := by decide +kernel
theorem dX12_write_36 : decode cX12_write 36 = .ok (.iload_n 2, 1) := by decide +kernel
theorem dX12_write_37 : decode cX12_write 37 = .ok (.i2l, 1) := by decide +kernel
theorem dX12_write_38 : decode cX12_write 38 = .ok (.lconst 0, 1) := by decide +kernel
theorem dX12_write_39 : decode cX12_write 39 = .ok (.aload_n 0, 1) := by decide +kernel
theorem dX12_write_40 : decode cX12_write 40 = .ok (.getfield 70, 3) := by decide +kernel
theorem dX12_write_43 : decode cX12_write 43 = .ok (.iload_n 1, 1) := by decide +kernel
theorem dX12_write_44 : decode cX12_write 44 = .ok (.iaload, 1) := by decide +kernel
theorem dX12_write_45 : decode cX12_write 45 = .ok (.iconst 1, 1) := by decide +kernel
theorem dX12_write_46 : decode cX12_write 46 = .ok (.isub, 1) := by decide +kernel
theorem dX12_write_47 : decode cX12_write 47 = .ok (.i2l, 1) := by decide +kernel
theorem dX12_write_48 : decode cX12_write 48 = .ok (.invokestatic 79, 3) := by decide +kernel
theorem dX12_write_51 : decode cX12_write 51 = .ok (.ifCond .ne 10, 3) := by decide +kernel
theorem dX12_write_54 : decode cX12_write 54 = .ok (.aload_n 0, 1) := by decide +kernel
theorem dX12_write_55 : decode cX12_write 55 = .ok (.iconst 3, 1) := by decide +kernel
theorem dX12_write_56 : decode cX12_write 56 = .ok (.invokevirtual 83, 3) := by decide +kernel
theorem dX12_write_59 : decode cX12_write 59 = .ok (.i2l, 1) := by decide +kernel
theorem dX12_write_60 : decode cX12_write 60 = .ok (.lreturn, 1) := by decide +kernel
theorem dX12_write_61 : decode cX12_write 61 = .ok (.bipush 64, 2) := by decide +kernel
theorem dX12_write_63 : decode cX12_write 63 = .ok (.bipush 8, 2) := by decide +kernel
theorem dX12_write_65 : decode cX12_write 65 = .ok (.aload_n 0, 1) := by decide +kernel
theorem dX12_write_66 : decode cX12_write 66 = .ok (.getfield 67, 3) := by decide +kernel
theorem dX12_write_69 : decode cX12_write 69 = .ok (.iload_n 1, 1) := by decide +kernel
theorem dX12_write_70 : decode cX12_write 70 = .ok (.iaload, 1) := by decide +kernel
theorem dX12_write_71 : decode cX12_write 71 = .ok (.ishl, 1) := by decide +kernel
theorem dX12_write_72 : decode cX12_write 72 = .ok (.isub, 1) := by decide +kernel
theorem dX12_write_73 : decode cX12_write 73 = .ok (.istore 5, 2) := by decide +kernel
theorem dX12_write_75 : decode cX12_write 75 = .ok (.aload_n 0, 1) := by decide +kernel
theorem dX12_write_76 : decode cX12_write 76 = .ok (.getfield 73, 3) := by decide +kernel
theorem dX12_write_79 : decode cX12_write 79 = .ok (.bipush 28, 2) := by decide +kernel
theorem dX12_write_81 : decode cX12_write 81 = .ok (.iload_n 1, 1) := by decide +kernel
theorem dX12_write_82 : decode cX12_write 82 = .ok (.imul, 1) := by decide +kernel
theorem dX12_write_83 : decode cX12_write 83 = .ok (.iload_n 2, 1) := by decide +kernel
theorem dX12_write_84 : decode cX12_write 84 = .ok (.iadd, 1) := by decide +kernel
theorem dX12_write_85 : decode cX12_write 85 = .ok (.lload_n 3, 1) := by decide +kernel
theorem dX12_write_86 : decode cX12_write 86 = .ok (.iload 5, 2) := by decide +kernel
theorem dX12_write_88 : decode cX12_write 88 = .ok (.lshl, 1) := by decide +kernel
theorem dX12_write_89 : decode cX12_write 89 = .ok (.iload 5, 2) := by decide +kernel
theorem dX12_write_91 : decode cX12_write 91 = .ok (.lshr, 1) := by decide +kernel
theorem dX12_write_92 : decode cX12_write 92 = .ok (.lastore, 1) := by decide +kernel
theorem dX12_write_93 : decode cX12_write 93 = .ok (.aload_n 0, 1) := by decide +kernel
theorem dX12_write_94 : decode cX12_write 94 = .ok (.getfield 73, 3) := by decide +kernel
theorem dX12_write_97 : decode cX12_write 97 = .ok (.bipush 28, 2) := by decide +kernel
theorem dX12_write_99 : decode cX12_write 99 = .ok (.iload_n 1, 1) := by decide +kernel
theorem dX12_write_100 : decode cX12_write 100 = .ok (.imul, 1) := by decide +kernel
theorem dX12_write_101 : decode cX12_write 101 = .ok (.iload_n 2, 1) := by decide +kernel
theorem dX12_write_102 : decode cX12_write 102 = .ok (.iadd, 1) := by decide +kernel
theorem dX12_write_103 : decode cX12_write 103 = .ok (.laload, 1) := by decide +kernel
theorem dX12_write_104 : decode cX12_write 104 = .ok (.lreturn, 1) := by decide +kernel
theorem dX12_image_0 : decode cX12_image 0 = .ok (.aload_n 0, 1) := by decide +kernel
theorem dX12_image_1 : decode cX12_image 1 = .ok (.iload_n 1, 1) := by decide +kernel
theorem dX12_image_2 : decode cX12_image 2 = .ok (.i2l, 1) := by decide +kernel
theorem dX12_image_3 : decode cX12_image 3 = .ok (.lconst 0, 1) := by decide +kernel
theorem dX12_image_4 : decode cX12_image 4 = .ok (.ldc2_w 314, 3) := by decide +kernel
theorem dX12_image_7 : decode cX12_image 7 = .ok (.invokestatic 79, 3) := by decide +kernel
theorem dX12_image_10 : decode cX12_image 10 = .ok (.ifCond .eq 7, 3) := by decide +kernel
theorem dX12_image_13 : decode cX12_image 13 = .ok (.iconst 0, 1) := by decide +kernel
theorem dX12_image_14 : decode cX12_image 14 = .ok (.goto 4, 3) := by decide +kernel
theorem dX12_image_17 : decode cX12_image 17 = .ok (.iconst 1, 1) := by decide +kernel
theorem dX12_image_18 : decode cX12_image 18 = .ok (.putfield 76, 3) := by decide +kernel
theorem dX12_image_21 : decode cX12_image 21 = .ok (.aload_n 0, 1) := by decide +kernel
theorem dX12_image_22 : decode cX12_image 22 = .ok (.getfield 76, 3) := by decide +kernel
theorem dX12_image_25 : decode cX12_image 25 = .ok (.ifCond .le 4, 3) := by decide +kernel
theorem dX12_image_28 : decode cX12_image 28 = .ok (.return_, 1) := by decide +kernel
theorem dX12_image_29 : decode cX12_image 29 = .ok (.aload_n 0, 1) := by decide +kernel
theorem dX12_image_30 : decode cX12_image 30 = .ok (.getfield 23, 3) := by decide +kernel
theorem dX12_image_33 : decode cX12_image 33 = .ok (.iload_n 1, 1) := by decide +kernel
theorem dX12_image_34 : decode cX12_image 34 = .ok (.iconst 1, 1) := by decide +kernel
theorem dX12_image_35 : decode cX12_image 35 = .ok (.bastore, 1) := by decide +kernel
theorem dX12_image_36 : decode cX12_image 36 = .ok (.iconst 0, 1) := by decide +kernel
theorem dX12_image_37 : decode cX12_image 37 = .ok (.istore_n 2, 1) := by decide +kernel
theorem dX12_image_38 : decode cX12_image 38 = .ok (.iload_n 2, 1) := by decide +kernel
theorem dX12_image_39 : decode cX12_image 39 = .ok (.sipush 3179, 3) := by decide +kernel
theorem dX12_image_42 : decode cX12_image 42 = .ok (.if_icmp .ge 27, 3) := by decide +kernel
theorem dX12_image_45 : decode cX12_image 45 = .ok (.aload_n 0, 1) := by decide +kernel
theorem dX12_image_46 : decode cX12_image 46 = .ok (.getfield 13, 3) := by decide +kernel
theorem dX12_image_49 : decode cX12_image 49 = .ok (.sipush 3179, 3) := by decide +kernel
theorem dX12_image_52 : decode cX12_image 52 = .ok (.iload_n 1, 1) := by decide +kernel
theorem dX12_image_53 : decode cX12_image 53 = .ok (.imul, 1) := by decide +kernel
theorem dX12_image_54 : decode cX12_image 54 = .ok (.iload_n 2, 1) := by decide +kernel
theorem dX12_image_55 : decode cX12_image 55 = .ok (.iadd, 1) := by decide +kernel
theorem dX12_image_56 : decode cX12_image 56 = .ok (.aload_n 0, 1) := by decide +kernel
theorem dX12_image_57 : decode cX12_image 57 = .ok (.getfield 9, 3) := by decide +kernel
theorem dX12_image_60 : decode cX12_image 60 = .ok (.iload_n 2, 1) := by decide +kernel
theorem dX12_image_61 : decode cX12_image 61 = .ok (.iaload, 1) := by decide +kernel
theorem dX12_image_62 : decode cX12_image 62 = .ok (.iastore, 1) := by decide +kernel
theorem dX12_image_63 : decode cX12_image 63 = .ok (.iinc 2 1, 3) := by decide +kernel
theorem dX12_image_66 : decode cX12_image 66 = .ok (.goto (-28), 3) := by decide +kernel
theorem dX12_image_69 : decode cX12_image 69 = .ok (.iconst 0, 1) := by decide +kernel
theorem dX12_image_70 : decode cX12_image 70 = .ok (.istore_n 2, 1) := by decide +kernel
theorem dX12_image_71 : decode cX12_image 71 = .ok (.iload_n 2, 1) := by decide +kernel
theorem dX12_image_72 : decode cX12_image 72 = .ok (.bipush 9, 2) := by decide +kernel
theorem dX12_image_74 : decode cX12_image 74 = .ok (.if_icmp .ge 26, 3) := by decide +kernel
theorem dX12_image_77 : decode cX12_image 77 = .ok (.aload_n 0, 1) := by decide +kernel
theorem dX12_image_78 : decode cX12_image 78 = .ok (.getfield 20, 3) := by decide +kernel
theorem dX12_image_81 : decode cX12_image 81 = .ok (.bipush 9, 2) := by decide +kernel
theorem dX12_image_83 : decode cX12_image 83 = .ok (.iload_n 1, 1) := by decide +kernel
theorem dX12_image_84 : decode cX12_image 84 = .ok (.imul, 1) := by decide +kernel
theorem dX12_image_85 : decode cX12_image 85 = .ok (.iload_n 2, 1) := by decide +kernel
theorem dX12_image_86 : decode cX12_image 86 = .ok (.iadd, 1) := by decide +kernel
theorem dX12_image_87 : decode cX12_image 87 = .ok (.aload_n 0, 1) := by decide +kernel
theorem dX12_image_88 : decode cX12_image 88 = .ok (.getfield 16, 3) := by decide +kernel
theorem dX12_image_91 : decode cX12_image 91 = .ok (.iload_n 2, 1) := by decide +kernel
theorem dX12_image_92 : decode cX12_image 92 = .ok (.laload, 1) := by decide +kernel
theorem dX12_image_93 : decode cX12_image 93 = .ok (.lastore, 1) := by decide +kernel
theorem dX12_image_94 : decode cX12_image 94 = .ok (.iinc 2 1, 3) := by decide +kernel
theorem dX12_image_97 : decode cX12_image 97 = .ok (.goto (-26), 3) := by decide +kernel
theorem dX12_image_100 : decode cX12_image 100 = .ok (.return_, 1) := by decide +kernel
theorem dX12_restore_0 : decode cX12_restore 0 = .ok (.aload_n 0, 1) := by decide +kernel
theorem dX12_restore_1 : decode cX12_restore 1 = .ok (.iload_n 1, 1) := by decide +kernel
theorem dX12_restore_2 : decode cX12_restore 2 = .ok (.i2l, 1) := by decide +kernel
theorem dX12_restore_3 : decode cX12_restore 3 = .ok (.lconst 0, 1) := by decide +kernel
theorem dX12_restore_4 : decode cX12_restore 4 = .ok (.ldc2_w 314, 3) := by decide +kernel
theorem dX12_restore_7 : decode cX12_restore 7 = .ok (.invokestatic 79, 3) := by decide +kernel
theorem dX12_restore_10 : decode cX12_restore 10 = .ok (.ifCond .ne 7, 3) := by decide +kernel
theorem dX12_restore_13 : decode cX12_restore 13 = .ok (.iconst 1, 1) := by decide +kernel
theorem dX12_restore_14 : decode cX12_restore 14 = .ok (.goto 17, 3) := by decide +kernel
theorem dX12_restore_17 : decode cX12_restore 17 = .ok (.aload_n 0, 1) := by decide +kernel
theorem dX12_restore_18 : decode cX12_restore 18 = .ok (.getfield 23, 3) := by decide +kernel
theorem dX12_restore_21 : decode cX12_restore 21 = .ok (.iload_n 1, 1) := by decide +kernel
theorem dX12_restore_22 : decode cX12_restore 22 = .ok (.baload, 1) := by decide +kernel
theorem dX12_restore_23 : decode cX12_restore 23 = .ok (.ifCond .ne 7, 3) := by decide +kernel
theorem dX12_restore_26 : decode cX12_restore 26 = .ok (.iconst 2, 1) := by decide +kernel
theorem dX12_restore_27 : decode cX12_restore 27 = .ok (.goto 4, 3) := by decide +kernel
theorem dX12_restore_30 : decode cX12_restore 30 = .ok (.iconst 0, 1) := by decide +kernel
theorem dX12_restore_31 : decode cX12_restore 31 = .ok (.putfield 76, 3) := by decide +kernel
theorem dX12_restore_34 : decode cX12_restore 34 = .ok (.aload_n 0, 1) := by decide +kernel
theorem dX12_restore_35 : decode cX12_restore 35 = .ok (.getfield 76, 3) := by decide +kernel
theorem dX12_restore_38 : decode cX12_restore 38 = .ok (.ifCond .le 4, 3) := by decide +kernel
theorem dX12_restore_41 : decode cX12_restore 41 = .ok (.return_, 1) := by decide +kernel
theorem dX12_restore_42 : decode cX12_restore 42 = .ok (.iconst 0, 1) := by decide +kernel
theorem dX12_restore_43 : decode cX12_restore 43 = .ok (.istore_n 2, 1) := by decide +kernel
theorem dX12_restore_44 : decode cX12_restore 44 = .ok (.iload_n 2, 1) := by decide +kernel
theorem dX12_restore_45 : decode cX12_restore 45 = .ok (.sipush 3179, 3) := by decide +kernel
theorem dX12_restore_48 : decode cX12_restore 48 = .ok (.if_icmp .ge 27, 3) := by decide +kernel
theorem dX12_restore_51 : decode cX12_restore 51 = .ok (.aload_n 0, 1) := by decide +kernel
theorem dX12_restore_52 : decode cX12_restore 52 = .ok (.getfield 9, 3) := by decide +kernel
theorem dX12_restore_55 : decode cX12_restore 55 = .ok (.iload_n 2, 1) := by decide +kernel
theorem dX12_restore_56 : decode cX12_restore 56 = .ok (.aload_n 0, 1) := by decide +kernel
theorem dX12_restore_57 : decode cX12_restore 57 = .ok (.getfield 13, 3) := by decide +kernel
theorem dX12_restore_60 : decode cX12_restore 60 = .ok (.sipush 3179, 3) := by decide +kernel
theorem dX12_restore_63 : decode cX12_restore 63 = .ok (.iload_n 1, 1) := by decide +kernel
theorem dX12_restore_64 : decode cX12_restore 64 = .ok (.imul, 1) := by decide +kernel
theorem dX12_restore_65 : decode cX12_restore 65 = .ok (.iload_n 2, 1) := by decide +kernel
theorem dX12_restore_66 : decode cX12_restore 66 = .ok (.iadd, 1) := by decide +kernel
theorem dX12_restore_67 : decode cX12_restore 67 = .ok (.iaload, 1) := by decide +kernel
theorem dX12_restore_68 : decode cX12_restore 68 = .ok (.iastore, 1) := by decide +kernel
theorem dX12_restore_69 : decode cX12_restore 69 = .ok (.iinc 2 1, 3) := by decide +kernel
theorem dX12_restore_72 : decode cX12_restore 72 = .ok (.goto (-28), 3) := by decide +kernel
theorem dX12_restore_75 : decode cX12_restore 75 = .ok (.iconst 0, 1) := by decide +kernel
theorem dX12_restore_76 : decode cX12_restore 76 = .ok (.istore_n 2, 1) := by decide +kernel
theorem dX12_restore_77 : decode cX12_restore 77 = .ok (.iload_n 2, 1) := by decide +kernel
theorem dX12_restore_78 : decode cX12_restore 78 = .ok (.bipush 9, 2) := by decide +kernel
theorem dX12_restore_80 : decode cX12_restore 80 = .ok (.if_icmp .ge 26, 3) := by decide +kernel
theorem dX12_restore_83 : decode cX12_restore 83 = .ok (.aload_n 0, 1) := by decide +kernel
theorem dX12_restore_84 : decode cX12_restore 84 = .ok (.getfield 16, 3) := by decide +kernel
theorem dX12_restore_87 : decode cX12_restore 87 = .ok (.iload_n 2, 1) := by decide +kernel
theorem dX12_restore_88 : decode cX12_restore 88 = .ok (.aload_n 0, 1) := by decide +kernel
theorem dX12_restore_89 : decode cX12_restore 89 = .ok (.getfield 20, 3) := by decide +kernel
theorem dX12_restore_92 : decode cX12_restore 92 = .ok (.bipush 9, 2) := by decide +kernel
theorem dX12_restore_94 : decode cX12_restore 94 = .ok (.iload_n 1, 1) := by decide +kernel
theorem dX12_restore_95 : decode cX12_restore 95 = .ok (.imul, 1) := by decide +kernel
theorem dX12_restore_96 : decode cX12_restore 96 = .ok (.iload_n 2, 1) := by decide +kernel
theorem dX12_restore_97 : decode cX12_restore 97 = .ok (.iadd, 1) := by decide +kernel
theorem dX12_restore_98 : decode cX12_restore 98 = .ok (.laload, 1) := by decide +kernel
theorem dX12_restore_99 : decode cX12_restore 99 = .ok (.lastore, 1) := by decide +kernel
theorem dX12_restore_100 : decode cX12_restore 100 = .ok (.iinc 2 1, 3) := by decide +kernel
theorem dX12_restore_103 : decode cX12_restore 103 = .ok (.goto (-26), 3) := by decide +kernel
theorem dX12_restore_106 : decode cX12_restore 106 = .ok (.return_, 1) := by decide +kernel
theorem dX12_count_0 : decode cX12_count 0 = .ok (.aload_n 0, 1) := by decide +kernel
theorem dX12_count_1 : decode cX12_count 1 = .ok (.iconst 0, 1) := by decide +kernel
theorem dX12_count_2 : decode cX12_count 2 = .ok (.putfield 76, 3) := by decide +kernel
theorem dX12_count_5 : decode cX12_count 5 = .ok (.iload_n 1, 1) := by decide +kernel
theorem dX12_count_6 : decode cX12_count 6 = .ok (.tableswitch 139 0 9 #[54, 62, 70, 78, 92, 100, 108, 116, 124, 130], 54) := by decide +kernel
theorem dX12_count_60 : decode cX12_count 60 = .ok (.aload_n 0, 1) := by decide +kernel
theorem dX12_count_61 : decode cX12_count 61 = .ok (.getfield 9, 3) := by decide +kernel
theorem dX12_count_64 : decode cX12_count 64 = .ok (.iconst 0, 1) := by decide +kernel
theorem dX12_count_65 : decode cX12_count 65 = .ok (.iaload, 1) := by decide +kernel
theorem dX12_count_66 : decode cX12_count 66 = .ok (.i2l, 1) := by decide +kernel
theorem dX12_count_67 : decode cX12_count 67 = .ok (.lreturn, 1) := by decide +kernel
theorem dX12_count_68 : decode cX12_count 68 = .ok (.aload_n 0, 1) := by decide +kernel
theorem dX12_count_69 : decode cX12_count 69 = .ok (.getfield 9, 3) := by decide +kernel
theorem dX12_count_72 : decode cX12_count 72 = .ok (.iconst 1, 1) := by decide +kernel
theorem dX12_count_73 : decode cX12_count 73 = .ok (.iaload, 1) := by decide +kernel
theorem dX12_count_74 : decode cX12_count 74 = .ok (.i2l, 1) := by decide +kernel
theorem dX12_count_75 : decode cX12_count 75 = .ok (.lreturn, 1) := by decide +kernel
theorem dX12_count_76 : decode cX12_count 76 = .ok (.aload_n 0, 1) := by decide +kernel
theorem dX12_count_77 : decode cX12_count 77 = .ok (.getfield 9, 3) := by decide +kernel
theorem dX12_count_80 : decode cX12_count 80 = .ok (.iconst 2, 1) := by decide +kernel
theorem dX12_count_81 : decode cX12_count 81 = .ok (.iaload, 1) := by decide +kernel
theorem dX12_count_82 : decode cX12_count 82 = .ok (.i2l, 1) := by decide +kernel
theorem dX12_count_83 : decode cX12_count 83 = .ok (.lreturn, 1) := by decide +kernel
theorem dX12_count_84 : decode cX12_count 84 = .ok (.sipush 256, 3) := by decide +kernel
theorem dX12_count_87 : decode cX12_count 87 = .ok (.aload_n 0, 1) := by decide +kernel
theorem dX12_count_88 : decode cX12_count 88 = .ok (.getfield 9, 3) := by decide +kernel
theorem dX12_count_91 : decode cX12_count 91 = .ok (.iconst 2, 1) := by decide +kernel
theorem dX12_count_92 : decode cX12_count 92 = .ok (.iaload, 1) := by decide +kernel
theorem dX12_count_93 : decode cX12_count 93 = .ok (.invokestatic 269, 3) := by decide +kernel
theorem dX12_count_96 : decode cX12_count 96 = .ok (.i2l, 1) := by decide +kernel
theorem dX12_count_97 : decode cX12_count 97 = .ok (.lreturn, 1) := by decide +kernel
theorem dX12_count_98 : decode cX12_count 98 = .ok (.aload_n 0, 1) := by decide +kernel
theorem dX12_count_99 : decode cX12_count 99 = .ok (.getfield 9, 3) := by decide +kernel
theorem dX12_count_102 : decode cX12_count 102 = .ok (.iconst 3, 1) := by decide +kernel
theorem dX12_count_103 : decode cX12_count 103 = .ok (.iaload, 1) := by decide +kernel
theorem dX12_count_104 : decode cX12_count 104 = .ok (.i2l, 1) := by decide +kernel
theorem dX12_count_105 : decode cX12_count 105 = .ok (.lreturn, 1) := by decide +kernel
theorem dX12_count_106 : decode cX12_count 106 = .ok (.aload_n 0, 1) := by decide +kernel
theorem dX12_count_107 : decode cX12_count 107 = .ok (.getfield 9, 3) := by decide +kernel
theorem dX12_count_110 : decode cX12_count 110 = .ok (.iconst 4, 1) := by decide +kernel
theorem dX12_count_111 : decode cX12_count 111 = .ok (.iaload, 1) := by decide +kernel
theorem dX12_count_112 : decode cX12_count 112 = .ok (.i2l, 1) := by decide +kernel
theorem dX12_count_113 : decode cX12_count 113 = .ok (.lreturn, 1) := by decide +kernel
theorem dX12_count_114 : decode cX12_count 114 = .ok (.aload_n 0, 1) := by decide +kernel
theorem dX12_count_115 : decode cX12_count 115 = .ok (.getfield 9, 3) := by decide +kernel
theorem dX12_count_118 : decode cX12_count 118 = .ok (.iconst 5, 1) := by decide +kernel
theorem dX12_count_119 : decode cX12_count 119 = .ok (.iaload, 1) := by decide +kernel
theorem dX12_count_120 : decode cX12_count 120 = .ok (.i2l, 1) := by decide +kernel
theorem dX12_count_121 : decode cX12_count 121 = .ok (.lreturn, 1) := by decide +kernel
theorem dX12_count_122 : decode cX12_count 122 = .ok (.aload_n 0, 1) := by decide +kernel
theorem dX12_count_123 : decode cX12_count 123 = .ok (.getfield 16, 3) := by decide +kernel
theorem dX12_count_126 : decode cX12_count 126 = .ok (.bipush 8, 2) := by decide +kernel
theorem dX12_count_128 : decode cX12_count 128 = .ok (.laload, 1) := by decide +kernel
theorem dX12_count_129 : decode cX12_count 129 = .ok (.lreturn, 1) := by decide +kernel
theorem dX12_count_130 : decode cX12_count 130 = .ok (.aload_n 0, 1) := by decide +kernel
theorem dX12_count_131 : decode cX12_count 131 = .ok (.getfield 101, 3) := by decide +kernel
theorem dX12_count_134 : decode cX12_count 134 = .ok (.i2l, 1) := by decide +kernel
theorem dX12_count_135 : decode cX12_count 135 = .ok (.lreturn, 1) := by decide +kernel
theorem dX12_count_136 : decode cX12_count 136 = .ok (.aload_n 0, 1) := by decide +kernel
theorem dX12_count_137 : decode cX12_count 137 = .ok (.getfield 9, 3) := by decide +kernel
theorem dX12_count_140 : decode cX12_count 140 = .ok (.bipush 6, 2) := by decide +kernel
theorem dX12_count_142 : decode cX12_count 142 = .ok (.iaload, 1) := by decide +kernel
theorem dX12_count_143 : decode cX12_count 143 = .ok (.i2l, 1) := by decide +kernel
theorem dX12_count_144 : decode cX12_count 144 = .ok (.lreturn, 1) := by decide +kernel
theorem dX12_count_145 : decode cX12_count 145 = .ok (.ldc2_w 422, 3) := by decide +kernel
theorem dX12_count_148 : decode cX12_count 148 = .ok (.lreturn, 1) := by decide +kernel
theorem dJ9_abs_0f7a4_0 : decode cJ9_abs_0f7a4 0 = .ok (.iload_n 0, 1) := by decide +kernel
theorem dJ9_abs_0f7a4_1 : decode cJ9_abs_0f7a4 1 = .ok (.ifCond .ge 8, 3) := by decide +kernel
theorem dJ9_abs_0f7a4_4 : decode cJ9_abs_0f7a4 4 = .ok (.iload_n 0, 1) := by decide +kernel
theorem dJ9_abs_0f7a4_5 : decode cJ9_abs_0f7a4 5 = .ok (.ineg, 1) := by decide +kernel
theorem dJ9_abs_0f7a4_6 : decode cJ9_abs_0f7a4 6 = .ok (.goto 4, 3) := by decide +kernel
theorem dJ9_abs_0f7a4_9 : decode cJ9_abs_0f7a4 9 = .ok (.iload_n 0, 1) := by decide +kernel
theorem dJ9_abs_0f7a4_10 : decode cJ9_abs_0f7a4 10 = .ok (.ireturn, 1) := by decide +kernel
theorem dJ9_max_7cf53_0 : decode cJ9_max_7cf53 0 = .ok (.iload_n 0, 1) := by decide +kernel
theorem dJ9_max_7cf53_1 : decode cJ9_max_7cf53 1 = .ok (.iload_n 1, 1) := by decide +kernel
theorem dJ9_max_7cf53_2 : decode cJ9_max_7cf53 2 = .ok (.if_icmp .lt 7, 3) := by decide +kernel
theorem dJ9_max_7cf53_5 : decode cJ9_max_7cf53 5 = .ok (.iload_n 0, 1) := by decide +kernel
theorem dJ9_max_7cf53_6 : decode cJ9_max_7cf53 6 = .ok (.goto 4, 3) := by decide +kernel
theorem dJ9_max_7cf53_9 : decode cJ9_max_7cf53 9 = .ok (.iload_n 1, 1) := by decide +kernel
theorem dJ9_max_7cf53_10 : decode cJ9_max_7cf53 10 = .ok (.ireturn, 1) := by decide +kernel
theorem dJ9_min_7cf53_0 : decode cJ9_min_7cf53 0 = .ok (.iload_n 0, 1) := by decide +kernel
theorem dJ9_min_7cf53_1 : decode cJ9_min_7cf53 1 = .ok (.iload_n 1, 1) := by decide +kernel
theorem dJ9_min_7cf53_2 : decode cJ9_min_7cf53 2 = .ok (.if_icmp .gt 7, 3) := by decide +kernel
theorem dJ9_min_7cf53_5 : decode cJ9_min_7cf53 5 = .ok (.iload_n 0, 1) := by decide +kernel
theorem dJ9_min_7cf53_6 : decode cJ9_min_7cf53 6 = .ok (.goto 4, 3) := by decide +kernel
theorem dJ9_min_7cf53_9 : decode cJ9_min_7cf53 9 = .ok (.iload_n 1, 1) := by decide +kernel
theorem dJ9_min_7cf53_10 : decode cJ9_min_7cf53 10 = .ok (.ireturn, 1) := by decide +kernel
theorem dJ0_length_8abf5_0 : decode cJ0_length_8abf5 0 = .ok (.aload_n 0, 1) := by decide +kernel
theorem dJ0_length_8abf5_1 : decode cJ0_length_8abf5 1 = .ok (.getfield 9, 3) := by decide +kernel
theorem dJ0_length_8abf5_4 : decode cJ0_length_8abf5 4 = .ok (.arraylength, 1) := by decide +kernel
theorem dJ0_length_8abf5_5 : decode cJ0_length_8abf5 5 = .ok (.aload_n 0, 1) := by decide +kernel
theorem dJ0_length_8abf5_6 : decode cJ0_length_8abf5 6 = .ok (.invokevirtual 335, 3) := by decide +kernel
theorem dJ0_length_8abf5_9 : decode cJ0_length_8abf5 9 = .ok (.ishr, 1) := by decide +kernel
theorem dJ0_length_8abf5_10 : decode cJ0_length_8abf5 10 = .ok (.ireturn, 1) := by decide +kernel
theorem dJ0_charAt_5068e_0 : decode cJ0_charAt_5068e 0 = .ok (.aload_n 0, 1) := by decide +kernel
theorem dJ0_charAt_5068e_1 : decode cJ0_charAt_5068e 1 = .ok (.invokevirtual 492, 3) := by decide +kernel
theorem dJ0_charAt_5068e_4 : decode cJ0_charAt_5068e 4 = .ok (.ifCond .eq 12, 3) := by decide +kernel
theorem dJ0_charAt_5068e_7 : decode cJ0_charAt_5068e 7 = .ok (.aload_n 0, 1) := by decide +kernel
theorem dJ0_charAt_5068e_8 : decode cJ0_charAt_5068e 8 = .ok (.getfield 9, 3) := by decide +kernel
theorem dJ0_charAt_5068e_11 : decode cJ0_charAt_5068e 11 = .ok (.iload_n 1, 1) := by decide +kernel
theorem dJ0_charAt_5068e_12 : decode cJ0_charAt_5068e 12 = .ok (.invokestatic 495, 3) := by decide +kernel
theorem dJ0_charAt_5068e_15 : decode cJ0_charAt_5068e 15 = .ok (.ireturn, 1) := by decide +kernel
theorem dJ0_charAt_5068e_16 : decode cJ0_charAt_5068e 16 = .ok (.aload_n 0, 1) := by decide +kernel
theorem dJ0_charAt_5068e_17 : decode cJ0_charAt_5068e 17 = .ok (.getfield 9, 3) := by decide +kernel
theorem dJ0_charAt_5068e_20 : decode cJ0_charAt_5068e 20 = .ok (.iload_n 1, 1) := by decide +kernel
theorem dJ0_charAt_5068e_21 : decode cJ0_charAt_5068e 21 = .ok (.invokestatic 498, 3) := by decide +kernel
theorem dJ0_charAt_5068e_24 : decode cJ0_charAt_5068e 24 = .ok (.ireturn, 1) := by decide +kernel
theorem dJ0_coder_7d493_0 : decode cJ0_coder_7d493 0 = .ok (.getstatic 38, 3) := by decide +kernel
theorem dJ0_coder_7d493_3 : decode cJ0_coder_7d493 3 = .ok (.ifCond .eq 10, 3) := by decide +kernel
theorem dJ0_coder_7d493_6 : decode cJ0_coder_7d493 6 = .ok (.aload_n 0, 1) := by decide +kernel
theorem dJ0_coder_7d493_7 : decode cJ0_coder_7d493 7 = .ok (.getfield 15, 3) := by decide +kernel
theorem dJ0_coder_7d493_10 : decode cJ0_coder_7d493 10 = .ok (.goto 4, 3) := by decide +kernel
theorem dJ0_coder_7d493_13 : decode cJ0_coder_7d493 13 = .ok (.iconst 1, 1) := by decide +kernel
theorem dJ0_coder_7d493_14 : decode cJ0_coder_7d493 14 = .ok (.ireturn, 1) := by decide +kernel
theorem dJ0_isLatin1_aae02_0 : decode cJ0_isLatin1_aae02 0 = .ok (.getstatic 38, 3) := by decide +kernel
theorem dJ0_isLatin1_aae02_3 : decode cJ0_isLatin1_aae02 3 = .ok (.ifCond .eq 14, 3) := by decide +kernel
theorem dJ0_isLatin1_aae02_6 : decode cJ0_isLatin1_aae02 6 = .ok (.aload_n 0, 1) := by decide +kernel
theorem dJ0_isLatin1_aae02_7 : decode cJ0_isLatin1_aae02 7 = .ok (.getfield 15, 3) := by decide +kernel
theorem dJ0_isLatin1_aae02_10 : decode cJ0_isLatin1_aae02 10 = .ok (.ifCond .ne 7, 3) := by decide +kernel
theorem dJ0_isLatin1_aae02_13 : decode cJ0_isLatin1_aae02 13 = .ok (.iconst 1, 1) := by decide +kernel
theorem dJ0_isLatin1_aae02_14 : decode cJ0_isLatin1_aae02 14 = .ok (.goto 4, 3) := by decide +kernel
theorem dJ0_isLatin1_aae02_17 : decode cJ0_isLatin1_aae02 17 = .ok (.iconst 0, 1) := by decide +kernel
theorem dJ0_isLatin1_aae02_18 : decode cJ0_isLatin1_aae02 18 = .ok (.ireturn, 1) := by decide +kernel
theorem dJ0_checkIndex_df160_0 : decode cJ0_checkIndex_df160 0 = .ok (.iload_n 0, 1) := by decide +kernel
theorem dJ0_checkIndex_df160_1 : decode cJ0_checkIndex_df160 1 = .ok (.iload_n 1, 1) := by decide +kernel
theorem dJ0_checkIndex_df160_2 : decode cJ0_checkIndex_df160 2 = .ok (.getstatic 1053, 3) := by decide +kernel
theorem dJ0_checkIndex_df160_5 : decode cJ0_checkIndex_df160 5 = .ok (.invokestatic 1059, 3) := by decide +kernel
theorem dJ0_checkIndex_df160_8 : decode cJ0_checkIndex_df160 8 = .ok (.pop, 1) := by decide +kernel
theorem dJ0_checkIndex_df160_9 : decode cJ0_checkIndex_df160 9 = .ok (.return_, 1) := by decide +kernel
theorem dJ1_charAt_3b067_0 : decode cJ1_charAt_3b067 0 = .ok (.iload_n 1, 1) := by decide +kernel
theorem dJ1_charAt_3b067_1 : decode cJ1_charAt_3b067 1 = .ok (.aload_n 0, 1) := by decide +kernel
theorem dJ1_charAt_3b067_2 : decode cJ1_charAt_3b067 2 = .ok (.arraylength, 1) := by decide +kernel
theorem dJ1_charAt_3b067_3 : decode cJ1_charAt_3b067 3 = .ok (.invokestatic 9, 3) := by decide +kernel
theorem dJ1_charAt_3b067_6 : decode cJ1_charAt_3b067 6 = .ok (.aload_n 0, 1) := by decide +kernel
theorem dJ1_charAt_3b067_7 : decode cJ1_charAt_3b067 7 = .ok (.iload_n 1, 1) := by decide +kernel
theorem dJ1_charAt_3b067_8 : decode cJ1_charAt_3b067 8 = .ok (.baload, 1) := by decide +kernel
theorem dJ1_charAt_3b067_9 : decode cJ1_charAt_3b067 9 = .ok (.sipush 255, 3) := by decide +kernel
theorem dJ1_charAt_3b067_12 : decode cJ1_charAt_3b067 12 = .ok (.iand, 1) := by decide +kernel
theorem dJ1_charAt_3b067_13 : decode cJ1_charAt_3b067 13 = .ok (.i2c, 1) := by decide +kernel
theorem dJ1_charAt_3b067_14 : decode cJ1_charAt_3b067 14 = .ok (.ireturn, 1) := by decide +kernel
theorem dJ2_getChar_3b067_0 : decode cJ2_getChar_3b067 0 = .ok (.getstatic 44, 3) := by decide +kernel
theorem dJ2_getChar_3b067_3 : decode cJ2_getChar_3b067 3 = .ok (.ifCond .ne 25, 3) := by decide +kernel
theorem dJ2_getChar_3b067_6 : decode cJ2_getChar_3b067 6 = .ok (.iload_n 1, 1) := by decide +kernel
theorem dJ2_getChar_3b067_7 : decode cJ2_getChar_3b067 7 = .ok (.ifCond .lt 11, 3) := by decide +kernel
theorem dJ2_getChar_3b067_10 : decode cJ2_getChar_3b067 10 = .ok (.iload_n 1, 1) := by decide +kernel
theorem dJ2_getChar_3b067_11 : decode cJ2_getChar_3b067 11 = .ok (.aload_n 0, 1) := by decide +kernel
theorem dJ2_getChar_3b067_12 : decode cJ2_getChar_3b067 12 = .ok (.invokestatic 48, 3) := by decide +kernel
theorem dJ2_getChar_3b067_15 : decode cJ2_getChar_3b067 15 = .ok (.if_icmp .lt 13, 3) := by decide +kernel
theorem dJ2_getChar_3b067_18 : decode cJ2_getChar_3b067 18 = .ok (.new 52, 3) := by decide +kernel
theorem dJ2_getChar_3b067_21 : decode cJ2_getChar_3b067 21 = .ok (.dup, 1) := by decide +kernel
theorem dJ2_getChar_3b067_22 : decode cJ2_getChar_3b067 22 = .ok (.ldc 54, 2) := by decide +kernel
theorem dJ2_getChar_3b067_24 : decode cJ2_getChar_3b067 24 = .ok (.invokespecial 56, 3) := by decide +kernel
theorem dJ2_getChar_3b067_27 : decode cJ2_getChar_3b067 27 = .ok (.athrow, 1) := by decide +kernel
theorem dJ2_getChar_3b067_28 : decode cJ2_getChar_3b067 28 = .ok (.iload_n 1, 1) := by decide +kernel
theorem dJ2_getChar_3b067_29 : decode cJ2_getChar_3b067 29 = .ok (.iconst 1, 1) := by decide +kernel
theorem dJ2_getChar_3b067_30 : decode cJ2_getChar_3b067 30 = .ok (.ishl, 1) := by decide +kernel
theorem dJ2_getChar_3b067_31 : decode cJ2_getChar_3b067 31 = .ok (.istore_n 1, 1) := by decide +kernel
theorem dJ2_getChar_3b067_32 : decode cJ2_getChar_3b067 32 = .ok (.aload_n 0, 1) := by decide +kernel
theorem dJ2_getChar_3b067_33 : decode cJ2_getChar_3b067 33 = .ok (.iload_n 1, 1) := by decide +kernel
theorem dJ2_getChar_3b067_34 : decode cJ2_getChar_3b067 34 = .ok (.iinc 1 1, 3) := by decide +kernel
theorem dJ2_getChar_3b067_37 : decode cJ2_getChar_3b067 37 = .ok (.baload, 1) := by decide +kernel
theorem dJ2_getChar_3b067_38 : decode cJ2_getChar_3b067 38 = .ok (.sipush 255, 3) := by decide +kernel
theorem dJ2_getChar_3b067_41 : decode cJ2_getChar_3b067 41 = .ok (.iand, 1) := by decide +kernel
theorem dJ2_getChar_3b067_42 : decode cJ2_getChar_3b067 42 = .ok (.getstatic 59, 3) := by decide +kernel
theorem dJ2_getChar_3b067_45 : decode cJ2_getChar_3b067 45 = .ok (.ishl, 1) := by decide +kernel
theorem dJ2_getChar_3b067_46 : decode cJ2_getChar_3b067 46 = .ok (.aload_n 0, 1) := by decide +kernel
theorem dJ2_getChar_3b067_47 : decode cJ2_getChar_3b067 47 = .ok (.iload_n 1, 1) := by decide +kernel
theorem dJ2_getChar_3b067_48 : decode cJ2_getChar_3b067 48 = .ok (.baload, 1) := by decide +kernel
theorem dJ2_getChar_3b067_49 : decode cJ2_getChar_3b067 49 = .ok (.sipush 255, 3) := by decide +kernel
theorem dJ2_getChar_3b067_52 : decode cJ2_getChar_3b067 52 = .ok (.iand, 1) := by decide +kernel
theorem dJ2_getChar_3b067_53 : decode cJ2_getChar_3b067 53 = .ok (.getstatic 63, 3) := by decide +kernel
theorem dJ2_getChar_3b067_56 : decode cJ2_getChar_3b067 56 = .ok (.ishl, 1) := by decide +kernel
theorem dJ2_getChar_3b067_57 : decode cJ2_getChar_3b067 57 = .ok (.ior, 1) := by decide +kernel
theorem dJ2_getChar_3b067_58 : decode cJ2_getChar_3b067 58 = .ok (.i2c, 1) := by decide +kernel
theorem dJ2_getChar_3b067_59 : decode cJ2_getChar_3b067 59 = .ok (.ireturn, 1) := by decide +kernel
theorem dJ2_length_9d52b_0 : decode cJ2_length_9d52b 0 = .ok (.aload_n 0, 1) := by decide +kernel
theorem dJ2_length_9d52b_1 : decode cJ2_length_9d52b 1 = .ok (.arraylength, 1) := by decide +kernel
theorem dJ2_length_9d52b_2 : decode cJ2_length_9d52b 2 = .ok (.iconst 1, 1) := by decide +kernel
theorem dJ2_length_9d52b_3 : decode cJ2_length_9d52b 3 = .ok (.ishr, 1) := by decide +kernel
theorem dJ2_length_9d52b_4 : decode cJ2_length_9d52b 4 = .ok (.ireturn, 1) := by decide +kernel
theorem dJ2_charAt_3b067_0 : decode cJ2_charAt_3b067 0 = .ok (.iload_n 1, 1) := by decide +kernel
theorem dJ2_charAt_3b067_1 : decode cJ2_charAt_3b067 1 = .ok (.aload_n 0, 1) := by decide +kernel
theorem dJ2_charAt_3b067_2 : decode cJ2_charAt_3b067 2 = .ok (.invokestatic 67, 3) := by decide +kernel
theorem dJ2_charAt_3b067_5 : decode cJ2_charAt_3b067 5 = .ok (.aload_n 0, 1) := by decide +kernel
theorem dJ2_charAt_3b067_6 : decode cJ2_charAt_3b067 6 = .ok (.iload_n 1, 1) := by decide +kernel
theorem dJ2_charAt_3b067_7 : decode cJ2_charAt_3b067 7 = .ok (.invokestatic 71, 3) := by decide +kernel
theorem dJ2_charAt_3b067_10 : decode cJ2_charAt_3b067 10 = .ok (.ireturn, 1) := by decide +kernel
theorem dJ2_checkIndex_2214a_0 : decode cJ2_checkIndex_2214a 0 = .ok (.iload_n 0, 1) := by decide +kernel
theorem dJ2_checkIndex_2214a_1 : decode cJ2_checkIndex_2214a 1 = .ok (.aload_n 1, 1) := by decide +kernel
theorem dJ2_checkIndex_2214a_2 : decode cJ2_checkIndex_2214a 2 = .ok (.invokestatic 48, 3) := by decide +kernel
theorem dJ2_checkIndex_2214a_5 : decode cJ2_checkIndex_2214a 5 = .ok (.invokestatic 414, 3) := by decide +kernel
theorem dJ2_checkIndex_2214a_8 : decode cJ2_checkIndex_2214a 8 = .ok (.return_, 1) := by decide +kernel
theorem dJ3_checkIndex_8e157_0 : decode cJ3_checkIndex_8e157 0 = .ok (.iload_n 0, 1) := by decide +kernel
theorem dJ3_checkIndex_8e157_1 : decode cJ3_checkIndex_8e157 1 = .ok (.ifCond .lt 8, 3) := by decide +kernel
theorem dJ3_checkIndex_8e157_4 : decode cJ3_checkIndex_8e157 4 = .ok (.iload_n 0, 1) := by decide +kernel
theorem dJ3_checkIndex_8e157_5 : decode cJ3_checkIndex_8e157 5 = .ok (.iload_n 1, 1) := by decide +kernel
theorem dJ3_checkIndex_8e157_6 : decode cJ3_checkIndex_8e157 6 = .ok (.if_icmp .lt 10, 3) := by decide +kernel
theorem dJ3_checkIndex_8e157_9 : decode cJ3_checkIndex_8e157 9 = .ok (.aload_n 2, 1) := by decide +kernel
theorem dJ3_checkIndex_8e157_10 : decode cJ3_checkIndex_8e157 10 = .ok (.iload_n 0, 1) := by decide +kernel
theorem dJ3_checkIndex_8e157_11 : decode cJ3_checkIndex_8e157 11 = .ok (.iload_n 1, 1) := by decide +kernel
theorem dJ3_checkIndex_8e157_12 : decode cJ3_checkIndex_8e157 12 = .ok (.invokestatic 95, 3) := by decide +kernel
theorem dJ3_checkIndex_8e157_15 : decode cJ3_checkIndex_8e157 15 = .ok (.athrow, 1) := by decide +kernel
theorem dJ3_checkIndex_8e157_16 : decode cJ3_checkIndex_8e157 16 = .ok (.iload_n 0, 1) := by decide +kernel
theorem dJ3_checkIndex_8e157_17 : decode cJ3_checkIndex_8e157 17 = .ok (.ireturn, 1) := by decide +kernel
theorem dL_station_0 : decode cL_station 0 = .ok (.aload 4, 2) := by decide +kernel
theorem dL_station_2 : decode cL_station 2 = .ok (.iconst 0, 1) := by decide +kernel
theorem dL_station_3 : decode cL_station 3 = .ok (.aload_n 0, 1) := by decide +kernel
theorem dL_station_4 : decode cL_station 4 = .ok (.iload_n 1, 1) := by decide +kernel
theorem dL_station_5 : decode cL_station 5 = .ok (.iload_n 2, 1) := by decide +kernel
theorem dL_station_6 : decode cL_station 6 = .ok (.iload_n 3, 1) := by decide +kernel
theorem dL_station_7 : decode cL_station 7 = .ok (.invokevirtual 7, 3) := by decide +kernel
theorem dL_station_10 : decode cL_station 10 = .ok (.i2l, 1) := by decide +kernel
theorem dL_station_11 : decode cL_station 11 = .ok (.lastore, 1) := by decide +kernel
theorem dL_station_12 : decode cL_station 12 = .ok (.goto 11, 3) := by decide +kernel
theorem dL_station_15 : decode cL_station 15 = .ok (.astore 5, 2) := by decide +kernel
theorem dL_station_17 : decode cL_station 17 = .ok (.iconst 1, 1) := by decide +kernel
theorem dL_station_18 : decode cL_station 18 = .ok (.ireturn, 1) := by decide +kernel
theorem dL_station_19 : decode cL_station 19 = .ok (.astore 5, 2) := by decide +kernel
theorem dL_station_21 : decode cL_station 21 = .ok (.iconst 2, 1) := by decide +kernel
theorem dL_station_22 : decode cL_station 22 = .ok (.ireturn, 1) := by decide +kernel
theorem dL_station_23 : decode cL_station 23 = .ok (.iconst 0, 1) := by decide +kernel
theorem dL_station_24 : decode cL_station 24 = .ok (.ireturn, 1) := by decide +kernel
theorem dL_driver_0 : decode cL_driver 0 = .ok (.aload 5, 2) := by decide +kernel
theorem dL_driver_2 : decode cL_driver 2 = .ok (.iconst 0, 1) := by decide +kernel
theorem dL_driver_3 : decode cL_driver 3 = .ok (.aload_n 0, 1) := by decide +kernel
theorem dL_driver_4 : decode cL_driver 4 = .ok (.iload_n 1, 1) := by decide +kernel
theorem dL_driver_5 : decode cL_driver 5 = .ok (.iload_n 2, 1) := by decide +kernel
theorem dL_driver_6 : decode cL_driver 6 = .ok (.iload_n 3, 1) := by decide +kernel
theorem dL_driver_7 : decode cL_driver 7 = .ok (.iload 4, 2) := by decide +kernel
theorem dL_driver_9 : decode cL_driver 9 = .ok (.invokevirtual 17, 3) := by decide +kernel
theorem dL_driver_12 : decode cL_driver 12 = .ok (.i2l, 1) := by decide +kernel
theorem dL_driver_13 : decode cL_driver 13 = .ok (.lastore, 1) := by decide +kernel
theorem dL_driver_14 : decode cL_driver 14 = .ok (.goto 11, 3) := by decide +kernel
theorem dL_driver_17 : decode cL_driver 17 = .ok (.astore 6, 2) := by decide +kernel
theorem dL_driver_19 : decode cL_driver 19 = .ok (.iconst 1, 1) := by decide +kernel
theorem dL_driver_20 : decode cL_driver 20 = .ok (.ireturn, 1) := by decide +kernel
theorem dL_driver_21 : decode cL_driver 21 = .ok (.astore 6, 2) := by decide +kernel
theorem dL_driver_23 : decode cL_driver 23 = .ok (.iconst 2, 1) := by decide +kernel
theorem dL_driver_24 : decode cL_driver 24 = .ok (.ireturn, 1) := by decide +kernel
theorem dL_driver_25 : decode cL_driver 25 = .ok (.iconst 0, 1) := by decide +kernel
theorem dL_driver_26 : decode cL_driver 26 = .ok (.ireturn, 1) := by decide +kernel
theorem dL_cost_0 : decode cL_cost 0 = .ok (.aload_n 3, 1) := by decide +kernel
theorem dL_cost_1 : decode cL_cost 1 = .ok (.iconst 0, 1) := by decide +kernel
theorem dL_cost_2 : decode cL_cost 2 = .ok (.aload_n 0, 1) := by decide +kernel
theorem dL_cost_3 : decode cL_cost 3 = .ok (.iload_n 1, 1) := by decide +kernel
theorem dL_cost_4 : decode cL_cost 4 = .ok (.iload_n 2, 1) := by decide +kernel
theorem dL_cost_5 : decode cL_cost 5 = .ok (.invokevirtual 23, 3) := by decide +kernel
theorem dL_cost_8 : decode cL_cost 8 = .ok (.i2l, 1) := by decide +kernel
theorem dL_cost_9 : decode cL_cost 9 = .ok (.lastore, 1) := by decide +kernel
theorem dL_cost_10 : decode cL_cost 10 = .ok (.goto 11, 3) := by decide +kernel
theorem dL_cost_13 : decode cL_cost 13 = .ok (.astore 4, 2) := by decide +kernel
theorem dL_cost_15 : decode cL_cost 15 = .ok (.iconst 1, 1) := by decide +kernel
theorem dL_cost_16 : decode cL_cost 16 = .ok (.ireturn, 1) := by decide +kernel
theorem dL_cost_17 : decode cL_cost 17 = .ok (.astore 4, 2) := by decide +kernel
theorem dL_cost_19 : decode cL_cost 19 = .ok (.iconst 2, 1) := by decide +kernel
theorem dL_cost_20 : decode cL_cost 20 = .ok (.ireturn, 1) := by decide +kernel
theorem dL_cost_21 : decode cL_cost 21 = .ok (.iconst 0, 1) := by decide +kernel
theorem dL_cost_22 : decode cL_cost 22 = .ok (.ireturn, 1) := by decide +kernel
theorem dL_late_0 : decode cL_late 0 = .ok (.aload_n 3, 1) := by decide +kernel
theorem dL_late_1 : decode cL_late 1 = .ok (.iconst 0, 1) := by decide +kernel
theorem dL_late_2 : decode cL_late 2 = .ok (.aload_n 0, 1) := by decide +kernel
theorem dL_late_3 : decode cL_late 3 = .ok (.iload_n 1, 1) := by decide +kernel
theorem dL_late_4 : decode cL_late 4 = .ok (.iload_n 2, 1) := by decide +kernel
theorem dL_late_5 : decode cL_late 5 = .ok (.invokevirtual 27, 3) := by decide +kernel
theorem dL_late_8 : decode cL_late 8 = .ok (.i2l, 1) := by decide +kernel
theorem dL_late_9 : decode cL_late 9 = .ok (.lastore, 1) := by decide +kernel
theorem dL_late_10 : decode cL_late 10 = .ok (.goto 11, 3) := by decide +kernel
theorem dL_late_13 : decode cL_late 13 = .ok (.astore 4, 2) := by decide +kernel
theorem dL_late_15 : decode cL_late 15 = .ok (.iconst 1, 1) := by decide +kernel
theorem dL_late_16 : decode cL_late 16 = .ok (.ireturn, 1) := by decide +kernel
theorem dL_late_17 : decode cL_late 17 = .ok (.astore 4, 2) := by decide +kernel
theorem dL_late_19 : decode cL_late 19 = .ok (.iconst 2, 1) := by decide +kernel
theorem dL_late_20 : decode cL_late 20 = .ok (.ireturn, 1) := by decide +kernel
theorem dL_late_21 : decode cL_late 21 = .ok (.iconst 0, 1) := by decide +kernel
theorem dL_late_22 : decode cL_late 22 = .ok (.ireturn, 1) := by decide +kernel
theorem dL_rules_0 : decode cL_rules 0 = .ok (.aload_n 3, 1) := by decide +kernel
theorem dL_rules_1 : decode cL_rules 1 = .ok (.iconst 0, 1) := by decide +kernel
theorem dL_rules_2 : decode cL_rules 2 = .ok (.aload_n 0, 1) := by decide +kernel
theorem dL_rules_3 : decode cL_rules 3 = .ok (.iload_n 1, 1) := by decide +kernel
theorem dL_rules_4 : decode cL_rules 4 = .ok (.iload_n 2, 1) := by decide +kernel
theorem dL_rules_5 : decode cL_rules 5 = .ok (.invokevirtual 30, 3) := by decide +kernel
theorem dL_rules_8 : decode cL_rules 8 = .ok (.i2l, 1) := by decide +kernel
theorem dL_rules_9 : decode cL_rules 9 = .ok (.lastore, 1) := by decide +kernel
theorem dL_rules_10 : decode cL_rules 10 = .ok (.goto 11, 3) := by decide +kernel
theorem dL_rules_13 : decode cL_rules 13 = .ok (.astore 4, 2) := by decide +kernel
theorem dL_rules_15 : decode cL_rules 15 = .ok (.iconst 1, 1) := by decide +kernel
theorem dL_rules_16 : decode cL_rules 16 = .ok (.ireturn, 1) := by decide +kernel
theorem dL_rules_17 : decode cL_rules 17 = .ok (.astore 4, 2) := by decide +kernel
theorem dL_rules_19 : decode cL_rules 19 = .ok (.iconst 2, 1) := by decide +kernel
theorem dL_rules_20 : decode cL_rules 20 = .ok (.ireturn, 1) := by decide +kernel
theorem dL_rules_21 : decode cL_rules 21 = .ok (.iconst 0, 1) := by decide +kernel
theorem dL_rules_22 : decode cL_rules 22 = .ok (.ireturn, 1) := by decide +kernel
theorem dL_law_0 : decode cL_law 0 = .ok (.aload_n 2, 1) := by decide +kernel
theorem dL_law_1 : decode cL_law 1 = .ok (.iconst 0, 1) := by decide +kernel
theorem dL_law_2 : decode cL_law 2 = .ok (.aload_n 0, 1) := by decide +kernel
theorem dL_law_3 : decode cL_law 3 = .ok (.iload_n 1, 1) := by decide +kernel
theorem dL_law_4 : decode cL_law 4 = .ok (.invokevirtual 33, 3) := by decide +kernel
theorem dL_law_7 : decode cL_law 7 = .ok (.i2l, 1) := by decide +kernel
theorem dL_law_8 : decode cL_law 8 = .ok (.lastore, 1) := by decide +kernel
theorem dL_law_9 : decode cL_law 9 = .ok (.goto 6, 3) := by decide +kernel
theorem dL_law_12 : decode cL_law 12 = .ok (.astore_n 3, 1) := by decide +kernel
theorem dL_law_13 : decode cL_law 13 = .ok (.iconst 1, 1) := by decide +kernel
theorem dL_law_14 : decode cL_law 14 = .ok (.ireturn, 1) := by decide +kernel
theorem dL_law_15 : decode cL_law 15 = .ok (.iconst 0, 1) := by decide +kernel
theorem dL_law_16 : decode cL_law 16 = .ok (.ireturn, 1) := by decide +kernel
theorem dL_run_0 : decode cL_run 0 = .ok (.aload_n 2, 1) := by decide +kernel
theorem dL_run_1 : decode cL_run 1 = .ok (.iconst 0, 1) := by decide +kernel
theorem dL_run_2 : decode cL_run 2 = .ok (.aload_n 0, 1) := by decide +kernel
theorem dL_run_3 : decode cL_run 3 = .ok (.iload_n 1, 1) := by decide +kernel
theorem dL_run_4 : decode cL_run 4 = .ok (.invokevirtual 37, 3) := by decide +kernel
theorem dL_run_7 : decode cL_run 7 = .ok (.i2l, 1) := by decide +kernel
theorem dL_run_8 : decode cL_run 8 = .ok (.lastore, 1) := by decide +kernel
theorem dL_run_9 : decode cL_run 9 = .ok (.goto 6, 3) := by decide +kernel
theorem dL_run_12 : decode cL_run 12 = .ok (.astore_n 3, 1) := by decide +kernel
theorem dL_run_13 : decode cL_run 13 = .ok (.iconst 1, 1) := by decide +kernel
theorem dL_run_14 : decode cL_run 14 = .ok (.ireturn, 1) := by decide +kernel
theorem dL_run_15 : decode cL_run 15 = .ok (.iconst 0, 1) := by decide +kernel
theorem dL_run_16 : decode cL_run 16 = .ok (.ireturn, 1) := by decide +kernel
theorem dL_price_0 : decode cL_price 0 = .ok (.aload_n 2, 1) := by decide +kernel
theorem dL_price_1 : decode cL_price 1 = .ok (.iconst 0, 1) := by decide +kernel
theorem dL_price_2 : decode cL_price 2 = .ok (.aload_n 0, 1) := by decide +kernel
theorem dL_price_3 : decode cL_price 3 = .ok (.iload_n 1, 1) := by decide +kernel
theorem dL_price_4 : decode cL_price 4 = .ok (.invokevirtual 40, 3) := by decide +kernel
theorem dL_price_7 : decode cL_price 7 = .ok (.i2l, 1) := by decide +kernel
theorem dL_price_8 : decode cL_price 8 = .ok (.lastore, 1) := by decide +kernel
theorem dL_price_9 : decode cL_price 9 = .ok (.goto 6, 3) := by decide +kernel
theorem dL_price_12 : decode cL_price 12 = .ok (.astore_n 3, 1) := by decide +kernel
theorem dL_price_13 : decode cL_price 13 = .ok (.iconst 1, 1) := by decide +kernel
theorem dL_price_14 : decode cL_price 14 = .ok (.ireturn, 1) := by decide +kernel
theorem dL_price_15 : decode cL_price 15 = .ok (.iconst 0, 1) := by decide +kernel
theorem dL_price_16 : decode cL_price 16 = .ok (.ireturn, 1) := by decide +kernel
theorem dL_board_0 : decode cL_board 0 = .ok (.aload_n 3, 1) := by decide +kernel
theorem dL_board_1 : decode cL_board 1 = .ok (.iconst 0, 1) := by decide +kernel
theorem dL_board_2 : decode cL_board 2 = .ok (.aload_n 0, 1) := by decide +kernel
theorem dL_board_3 : decode cL_board 3 = .ok (.iload_n 1, 1) := by decide +kernel
theorem dL_board_4 : decode cL_board 4 = .ok (.iload_n 2, 1) := by decide +kernel
theorem dL_board_5 : decode cL_board 5 = .ok (.invokevirtual 43, 3) := by decide +kernel
theorem dL_board_8 : decode cL_board 8 = .ok (.i2l, 1) := by decide +kernel
theorem dL_board_9 : decode cL_board 9 = .ok (.lastore, 1) := by decide +kernel
theorem dL_board_10 : decode cL_board 10 = .ok (.goto 7, 3) := by decide +kernel
theorem dL_board_13 : decode cL_board 13 = .ok (.astore 4, 2) := by decide +kernel
theorem dL_board_15 : decode cL_board 15 = .ok (.iconst 1, 1) := by decide +kernel
theorem dL_board_16 : decode cL_board 16 = .ok (.ireturn, 1) := by decide +kernel
theorem dL_board_17 : decode cL_board 17 = .ok (.iconst 0, 1) := by decide +kernel
theorem dL_board_18 : decode cL_board 18 = .ok (.ireturn, 1) := by decide +kernel
theorem dL_would_0 : decode cL_would 0 = .ok (.aload_n 2, 1) := by decide +kernel
theorem dL_would_1 : decode cL_would 1 = .ok (.iconst 0, 1) := by decide +kernel
theorem dL_would_2 : decode cL_would 2 = .ok (.aload_n 0, 1) := by decide +kernel
theorem dL_would_3 : decode cL_would 3 = .ok (.iload_n 1, 1) := by decide +kernel
theorem dL_would_4 : decode cL_would 4 = .ok (.invokevirtual 46, 3) := by decide +kernel
theorem dL_would_7 : decode cL_would 7 = .ok (.i2l, 1) := by decide +kernel
theorem dL_would_8 : decode cL_would 8 = .ok (.lastore, 1) := by decide +kernel
theorem dL_would_9 : decode cL_would 9 = .ok (.goto 6, 3) := by decide +kernel
theorem dL_would_12 : decode cL_would 12 = .ok (.astore_n 3, 1) := by decide +kernel
theorem dL_would_13 : decode cL_would 13 = .ok (.iconst 1, 1) := by decide +kernel
theorem dL_would_14 : decode cL_would 14 = .ok (.ireturn, 1) := by decide +kernel
theorem dL_would_15 : decode cL_would 15 = .ok (.iconst 0, 1) := by decide +kernel
theorem dL_would_16 : decode cL_would 16 = .ok (.ireturn, 1) := by decide +kernel
theorem dL_of_0 : decode cL_of 0 = .ok (.aload_n 3, 1) := by decide +kernel
theorem dL_of_1 : decode cL_of 1 = .ok (.iconst 0, 1) := by decide +kernel
theorem dL_of_2 : decode cL_of 2 = .ok (.aload_n 0, 1) := by decide +kernel
theorem dL_of_3 : decode cL_of 3 = .ok (.iload_n 1, 1) := by decide +kernel
theorem dL_of_4 : decode cL_of 4 = .ok (.iload_n 2, 1) := by decide +kernel
theorem dL_of_5 : decode cL_of 5 = .ok (.invokevirtual 49, 3) := by decide +kernel
theorem dL_of_8 : decode cL_of 8 = .ok (.lastore, 1) := by decide +kernel
theorem dL_of_9 : decode cL_of 9 = .ok (.goto 11, 3) := by decide +kernel
theorem dL_of_12 : decode cL_of 12 = .ok (.astore 4, 2) := by decide +kernel
theorem dL_of_14 : decode cL_of 14 = .ok (.iconst 1, 1) := by decide +kernel
theorem dL_of_15 : decode cL_of 15 = .ok (.ireturn, 1) := by decide +kernel
theorem dL_of_16 : decode cL_of 16 = .ok (.astore 4, 2) := by decide +kernel
theorem dL_of_18 : decode cL_of 18 = .ok (.iconst 2, 1) := by decide +kernel
theorem dL_of_19 : decode cL_of 19 = .ok (.ireturn, 1) := by decide +kernel
theorem dL_of_20 : decode cL_of 20 = .ok (.iconst 0, 1) := by decide +kernel
theorem dL_of_21 : decode cL_of 21 = .ok (.ireturn, 1) := by decide +kernel
theorem dL_fills_0 : decode cL_fills 0 = .ok (.aload_n 2, 1) := by decide +kernel
theorem dL_fills_1 : decode cL_fills 1 = .ok (.iconst 0, 1) := by decide +kernel
theorem dL_fills_2 : decode cL_fills 2 = .ok (.aload_n 0, 1) := by decide +kernel
theorem dL_fills_3 : decode cL_fills 3 = .ok (.iload_n 1, 1) := by decide +kernel
theorem dL_fills_4 : decode cL_fills 4 = .ok (.invokevirtual 53, 3) := by decide +kernel
theorem dL_fills_7 : decode cL_fills 7 = .ok (.i2l, 1) := by decide +kernel
theorem dL_fills_8 : decode cL_fills 8 = .ok (.lastore, 1) := by decide +kernel
theorem dL_fills_9 : decode cL_fills 9 = .ok (.goto 6, 3) := by decide +kernel
theorem dL_fills_12 : decode cL_fills 12 = .ok (.astore_n 3, 1) := by decide +kernel
theorem dL_fills_13 : decode cL_fills 13 = .ok (.iconst 1, 1) := by decide +kernel
theorem dL_fills_14 : decode cL_fills 14 = .ok (.ireturn, 1) := by decide +kernel
theorem dL_fills_15 : decode cL_fills 15 = .ok (.iconst 0, 1) := by decide +kernel
theorem dL_fills_16 : decode cL_fills 16 = .ok (.ireturn, 1) := by decide +kernel
theorem dL_leads_0 : decode cL_leads 0 = .ok (.aload_n 3, 1) := by decide +kernel
theorem dL_leads_1 : decode cL_leads 1 = .ok (.iconst 0, 1) := by decide +kernel
theorem dL_leads_2 : decode cL_leads 2 = .ok (.aload_n 0, 1) := by decide +kernel
theorem dL_leads_3 : decode cL_leads 3 = .ok (.iload_n 1, 1) := by decide +kernel
theorem dL_leads_4 : decode cL_leads 4 = .ok (.iload_n 2, 1) := by decide +kernel
theorem dL_leads_5 : decode cL_leads 5 = .ok (.invokevirtual 56, 3) := by decide +kernel
theorem dL_leads_8 : decode cL_leads 8 = .ok (.i2l, 1) := by decide +kernel
theorem dL_leads_9 : decode cL_leads 9 = .ok (.lastore, 1) := by decide +kernel
theorem dL_leads_10 : decode cL_leads 10 = .ok (.goto 7, 3) := by decide +kernel
theorem dL_leads_13 : decode cL_leads 13 = .ok (.astore 4, 2) := by decide +kernel
theorem dL_leads_15 : decode cL_leads 15 = .ok (.iconst 1, 1) := by decide +kernel
theorem dL_leads_16 : decode cL_leads 16 = .ok (.ireturn, 1) := by decide +kernel
theorem dL_leads_17 : decode cL_leads 17 = .ok (.iconst 0, 1) := by decide +kernel
theorem dL_leads_18 : decode cL_leads 18 = .ok (.ireturn, 1) := by decide +kernel
theorem dL_passed_0 : decode cL_passed 0 = .ok (.aload 4, 2) := by decide +kernel
theorem dL_passed_2 : decode cL_passed 2 = .ok (.iconst 0, 1) := by decide +kernel
theorem dL_passed_3 : decode cL_passed 3 = .ok (.aload_n 0, 1) := by decide +kernel
theorem dL_passed_4 : decode cL_passed 4 = .ok (.iload_n 1, 1) := by decide +kernel
theorem dL_passed_5 : decode cL_passed 5 = .ok (.iload_n 2, 1) := by decide +kernel
theorem dL_passed_6 : decode cL_passed 6 = .ok (.iload_n 3, 1) := by decide +kernel
theorem dL_passed_7 : decode cL_passed 7 = .ok (.invokevirtual 60, 3) := by decide +kernel
theorem dL_passed_10 : decode cL_passed 10 = .ok (.ifCond .eq 7, 3) := by decide +kernel
theorem dL_passed_13 : decode cL_passed 13 = .ok (.lconst 1, 1) := by decide +kernel
theorem dL_passed_14 : decode cL_passed 14 = .ok (.goto 4, 3) := by decide +kernel
theorem dL_passed_17 : decode cL_passed 17 = .ok (.lconst 0, 1) := by decide +kernel
theorem dL_passed_18 : decode cL_passed 18 = .ok (.lastore, 1) := by decide +kernel
theorem dL_passed_19 : decode cL_passed 19 = .ok (.goto 11, 3) := by decide +kernel
theorem dL_passed_22 : decode cL_passed 22 = .ok (.astore 5, 2) := by decide +kernel
theorem dL_passed_24 : decode cL_passed 24 = .ok (.iconst 1, 1) := by decide +kernel
theorem dL_passed_25 : decode cL_passed 25 = .ok (.ireturn, 1) := by decide +kernel
theorem dL_passed_26 : decode cL_passed 26 = .ok (.astore 5, 2) := by decide +kernel
theorem dL_passed_28 : decode cL_passed 28 = .ok (.iconst 2, 1) := by decide +kernel
theorem dL_passed_29 : decode cL_passed 29 = .ok (.ireturn, 1) := by decide +kernel
theorem dL_passed_30 : decode cL_passed 30 = .ok (.iconst 0, 1) := by decide +kernel
theorem dL_passed_31 : decode cL_passed 31 = .ok (.ireturn, 1) := by decide +kernel
theorem dL_level_0 : decode cL_level 0 = .ok (.aload_n 2, 1) := by decide +kernel
theorem dL_level_1 : decode cL_level 1 = .ok (.iconst 0, 1) := by decide +kernel
theorem dL_level_2 : decode cL_level 2 = .ok (.aload_n 0, 1) := by decide +kernel
theorem dL_level_3 : decode cL_level 3 = .ok (.iload_n 1, 1) := by decide +kernel
theorem dL_level_4 : decode cL_level 4 = .ok (.invokevirtual 64, 3) := by decide +kernel
theorem dL_level_7 : decode cL_level 7 = .ok (.i2l, 1) := by decide +kernel
theorem dL_level_8 : decode cL_level 8 = .ok (.lastore, 1) := by decide +kernel
theorem dL_level_9 : decode cL_level 9 = .ok (.goto 6, 3) := by decide +kernel
theorem dL_level_12 : decode cL_level 12 = .ok (.astore_n 3, 1) := by decide +kernel
theorem dL_level_13 : decode cL_level 13 = .ok (.iconst 1, 1) := by decide +kernel
theorem dL_level_14 : decode cL_level 14 = .ok (.ireturn, 1) := by decide +kernel
theorem dL_level_15 : decode cL_level 15 = .ok (.iconst 0, 1) := by decide +kernel
theorem dL_level_16 : decode cL_level 16 = .ok (.ireturn, 1) := by decide +kernel
theorem dL_gain_0 : decode cL_gain 0 = .ok (.aload 6, 2) := by decide +kernel
theorem dL_gain_2 : decode cL_gain 2 = .ok (.iconst 0, 1) := by decide +kernel
theorem dL_gain_3 : decode cL_gain 3 = .ok (.aload_n 0, 1) := by decide +kernel
theorem dL_gain_4 : decode cL_gain 4 = .ok (.iload_n 1, 1) := by decide +kernel
theorem dL_gain_5 : decode cL_gain 5 = .ok (.iload_n 2, 1) := by decide +kernel
theorem dL_gain_6 : decode cL_gain 6 = .ok (.iload_n 3, 1) := by decide +kernel
theorem dL_gain_7 : decode cL_gain 7 = .ok (.iload 4, 2) := by decide +kernel
theorem dL_gain_9 : decode cL_gain 9 = .ok (.iload 5, 2) := by decide +kernel
theorem dL_gain_11 : decode cL_gain 11 = .ok (.invokevirtual 67, 3) := by decide +kernel
theorem dL_gain_14 : decode cL_gain 14 = .ok (.i2l, 1) := by decide +kernel
theorem dL_gain_15 : decode cL_gain 15 = .ok (.lastore, 1) := by decide +kernel
theorem dL_gain_16 : decode cL_gain 16 = .ok (.goto 15, 3) := by decide +kernel
theorem dL_gain_19 : decode cL_gain 19 = .ok (.astore 7, 2) := by decide +kernel
theorem dL_gain_21 : decode cL_gain 21 = .ok (.iconst 1, 1) := by decide +kernel
theorem dL_gain_22 : decode cL_gain 22 = .ok (.ireturn, 1) := by decide +kernel
theorem dL_gain_23 : decode cL_gain 23 = .ok (.astore 7, 2) := by decide +kernel
theorem dL_gain_25 : decode cL_gain 25 = .ok (.iconst 2, 1) := by decide +kernel
theorem dL_gain_26 : decode cL_gain 26 = .ok (.ireturn, 1) := by decide +kernel
theorem dL_gain_27 : decode cL_gain 27 = .ok (.astore 7, 2) := by decide +kernel
theorem dL_gain_29 : decode cL_gain 29 = .ok (.iconst 3, 1) := by decide +kernel
theorem dL_gain_30 : decode cL_gain 30 = .ok (.ireturn, 1) := by decide +kernel
theorem dL_gain_31 : decode cL_gain 31 = .ok (.iconst 0, 1) := by decide +kernel
theorem dL_gain_32 : decode cL_gain 32 = .ok (.ireturn, 1) := by decide +kernel
theorem dL_reply_0 : decode cL_reply 0 = .ok (.aload 4, 2) := by decide +kernel
theorem dL_reply_2 : decode cL_reply 2 = .ok (.iconst 0, 1) := by decide +kernel
theorem dL_reply_3 : decode cL_reply 3 = .ok (.aload_n 0, 1) := by decide +kernel
theorem dL_reply_4 : decode cL_reply 4 = .ok (.iload_n 1, 1) := by decide +kernel
theorem dL_reply_5 : decode cL_reply 5 = .ok (.iload_n 2, 1) := by decide +kernel
theorem dL_reply_6 : decode cL_reply 6 = .ok (.iload_n 3, 1) := by decide +kernel
theorem dL_reply_7 : decode cL_reply 7 = .ok (.invokevirtual 73, 3) := by decide +kernel
theorem dL_reply_10 : decode cL_reply 10 = .ok (.i2l, 1) := by decide +kernel
theorem dL_reply_11 : decode cL_reply 11 = .ok (.lastore, 1) := by decide +kernel
theorem dL_reply_12 : decode cL_reply 12 = .ok (.goto 15, 3) := by decide +kernel
theorem dL_reply_15 : decode cL_reply 15 = .ok (.astore 5, 2) := by decide +kernel
theorem dL_reply_17 : decode cL_reply 17 = .ok (.iconst 1, 1) := by decide +kernel
theorem dL_reply_18 : decode cL_reply 18 = .ok (.ireturn, 1) := by decide +kernel
theorem dL_reply_19 : decode cL_reply 19 = .ok (.astore 5, 2) := by decide +kernel
theorem dL_reply_21 : decode cL_reply 21 = .ok (.iconst 2, 1) := by decide +kernel
theorem dL_reply_22 : decode cL_reply 22 = .ok (.ireturn, 1) := by decide +kernel
theorem dL_reply_23 : decode cL_reply 23 = .ok (.astore 5, 2) := by decide +kernel
theorem dL_reply_25 : decode cL_reply 25 = .ok (.iconst 3, 1) := by decide +kernel
theorem dL_reply_26 : decode cL_reply 26 = .ok (.ireturn, 1) := by decide +kernel
theorem dL_reply_27 : decode cL_reply 27 = .ok (.iconst 0, 1) := by decide +kernel
theorem dL_reply_28 : decode cL_reply 28 = .ok (.ireturn, 1) := by decide +kernel
theorem dL_even_0 : decode cL_even 0 = .ok (.aload 4, 2) := by decide +kernel
theorem dL_even_2 : decode cL_even 2 = .ok (.iconst 0, 1) := by decide +kernel
theorem dL_even_3 : decode cL_even 3 = .ok (.aload_n 0, 1) := by decide +kernel
theorem dL_even_4 : decode cL_even 4 = .ok (.iload_n 1, 1) := by decide +kernel
theorem dL_even_5 : decode cL_even 5 = .ok (.iload_n 2, 1) := by decide +kernel
theorem dL_even_6 : decode cL_even 6 = .ok (.iload_n 3, 1) := by decide +kernel
theorem dL_even_7 : decode cL_even 7 = .ok (.invokevirtual 76, 3) := by decide +kernel
theorem dL_even_10 : decode cL_even 10 = .ok (.i2l, 1) := by decide +kernel
theorem dL_even_11 : decode cL_even 11 = .ok (.lastore, 1) := by decide +kernel
theorem dL_even_12 : decode cL_even 12 = .ok (.goto 11, 3) := by decide +kernel
theorem dL_even_15 : decode cL_even 15 = .ok (.astore 5, 2) := by decide +kernel
theorem dL_even_17 : decode cL_even 17 = .ok (.iconst 1, 1) := by decide +kernel
theorem dL_even_18 : decode cL_even 18 = .ok (.ireturn, 1) := by decide +kernel
theorem dL_even_19 : decode cL_even 19 = .ok (.astore 5, 2) := by decide +kernel
theorem dL_even_21 : decode cL_even 21 = .ok (.iconst 2, 1) := by decide +kernel
theorem dL_even_22 : decode cL_even 22 = .ok (.ireturn, 1) := by decide +kernel
theorem dL_even_23 : decode cL_even 23 = .ok (.iconst 0, 1) := by decide +kernel
theorem dL_even_24 : decode cL_even 24 = .ok (.ireturn, 1) := by decide +kernel
theorem dL_joint_0 : decode cL_joint 0 = .ok (.aload_n 3, 1) := by decide +kernel
theorem dL_joint_1 : decode cL_joint 1 = .ok (.iconst 0, 1) := by decide +kernel
theorem dL_joint_2 : decode cL_joint 2 = .ok (.aload_n 0, 1) := by decide +kernel
theorem dL_joint_3 : decode cL_joint 3 = .ok (.iload_n 1, 1) := by decide +kernel
theorem dL_joint_4 : decode cL_joint 4 = .ok (.iload_n 2, 1) := by decide +kernel
theorem dL_joint_5 : decode cL_joint 5 = .ok (.invokevirtual 79, 3) := by decide +kernel
theorem dL_joint_8 : decode cL_joint 8 = .ok (.i2l, 1) := by decide +kernel
theorem dL_joint_9 : decode cL_joint 9 = .ok (.lastore, 1) := by decide +kernel
theorem dL_joint_10 : decode cL_joint 10 = .ok (.goto 11, 3) := by decide +kernel
theorem dL_joint_13 : decode cL_joint 13 = .ok (.astore 4, 2) := by decide +kernel
theorem dL_joint_15 : decode cL_joint 15 = .ok (.iconst 1, 1) := by decide +kernel
theorem dL_joint_16 : decode cL_joint 16 = .ok (.ireturn, 1) := by decide +kernel
theorem dL_joint_17 : decode cL_joint 17 = .ok (.astore 4, 2) := by decide +kernel
theorem dL_joint_19 : decode cL_joint 19 = .ok (.iconst 2, 1) := by decide +kernel
theorem dL_joint_20 : decode cL_joint 20 = .ok (.ireturn, 1) := by decide +kernel
theorem dL_joint_21 : decode cL_joint 21 = .ok (.iconst 0, 1) := by decide +kernel
theorem dL_joint_22 : decode cL_joint 22 = .ok (.ireturn, 1) := by decide +kernel
theorem dL_turn_0 : decode cL_turn 0 = .ok (.aload 6, 2) := by decide +kernel
theorem dL_turn_2 : decode cL_turn 2 = .ok (.iconst 0, 1) := by decide +kernel
theorem dL_turn_3 : decode cL_turn 3 = .ok (.aload_n 0, 1) := by decide +kernel
theorem dL_turn_4 : decode cL_turn 4 = .ok (.iload_n 1, 1) := by decide +kernel
theorem dL_turn_5 : decode cL_turn 5 = .ok (.iload_n 2, 1) := by decide +kernel
theorem dL_turn_6 : decode cL_turn 6 = .ok (.iload_n 3, 1) := by decide +kernel
theorem dL_turn_7 : decode cL_turn 7 = .ok (.iload 4, 2) := by decide +kernel
theorem dL_turn_9 : decode cL_turn 9 = .ok (.iload 5, 2) := by decide +kernel
theorem dL_turn_11 : decode cL_turn 11 = .ok (.invokevirtual 82, 3) := by decide +kernel
theorem dL_turn_14 : decode cL_turn 14 = .ok (.i2l, 1) := by decide +kernel
theorem dL_turn_15 : decode cL_turn 15 = .ok (.lastore, 1) := by decide +kernel
theorem dL_turn_16 : decode cL_turn 16 = .ok (.goto 15, 3) := by decide +kernel
theorem dL_turn_19 : decode cL_turn 19 = .ok (.astore 7, 2) := by decide +kernel
theorem dL_turn_21 : decode cL_turn 21 = .ok (.iconst 1, 1) := by decide +kernel
theorem dL_turn_22 : decode cL_turn 22 = .ok (.ireturn, 1) := by decide +kernel
theorem dL_turn_23 : decode cL_turn 23 = .ok (.astore 7, 2) := by decide +kernel
theorem dL_turn_25 : decode cL_turn 25 = .ok (.iconst 2, 1) := by decide +kernel
theorem dL_turn_26 : decode cL_turn 26 = .ok (.ireturn, 1) := by decide +kernel
theorem dL_turn_27 : decode cL_turn 27 = .ok (.astore 7, 2) := by decide +kernel
theorem dL_turn_29 : decode cL_turn 29 = .ok (.iconst 3, 1) := by decide +kernel
theorem dL_turn_30 : decode cL_turn 30 = .ok (.ireturn, 1) := by decide +kernel
theorem dL_turn_31 : decode cL_turn 31 = .ok (.iconst 0, 1) := by decide +kernel
theorem dL_turn_32 : decode cL_turn 32 = .ok (.ireturn, 1) := by decide +kernel
theorem dL_gains_0 : decode cL_gains 0 = .ok (.aload 6, 2) := by decide +kernel
theorem dL_gains_2 : decode cL_gains 2 = .ok (.iconst 0, 1) := by decide +kernel
theorem dL_gains_3 : decode cL_gains 3 = .ok (.aload_n 0, 1) := by decide +kernel
theorem dL_gains_4 : decode cL_gains 4 = .ok (.iload_n 1, 1) := by decide +kernel
theorem dL_gains_5 : decode cL_gains 5 = .ok (.iload_n 2, 1) := by decide +kernel
theorem dL_gains_6 : decode cL_gains 6 = .ok (.iload_n 3, 1) := by decide +kernel
theorem dL_gains_7 : decode cL_gains 7 = .ok (.iload 4, 2) := by decide +kernel
theorem dL_gains_9 : decode cL_gains 9 = .ok (.iload 5, 2) := by decide +kernel
theorem dL_gains_11 : decode cL_gains 11 = .ok (.invokevirtual 86, 3) := by decide +kernel
theorem dL_gains_14 : decode cL_gains 14 = .ok (.lastore, 1) := by decide +kernel
theorem dL_gains_15 : decode cL_gains 15 = .ok (.goto 15, 3) := by decide +kernel
theorem dL_gains_18 : decode cL_gains 18 = .ok (.astore 7, 2) := by decide +kernel
theorem dL_gains_20 : decode cL_gains 20 = .ok (.iconst 1, 1) := by decide +kernel
theorem dL_gains_21 : decode cL_gains 21 = .ok (.ireturn, 1) := by decide +kernel
theorem dL_gains_22 : decode cL_gains 22 = .ok (.astore 7, 2) := by decide +kernel
theorem dL_gains_24 : decode cL_gains 24 = .ok (.iconst 2, 1) := by decide +kernel
theorem dL_gains_25 : decode cL_gains 25 = .ok (.ireturn, 1) := by decide +kernel
theorem dL_gains_26 : decode cL_gains 26 = .ok (.astore 7, 2) := by decide +kernel
theorem dL_gains_28 : decode cL_gains 28 = .ok (.iconst 3, 1) := by decide +kernel
theorem dL_gains_29 : decode cL_gains 29 = .ok (.ireturn, 1) := by decide +kernel
theorem dL_gains_30 : decode cL_gains 30 = .ok (.iconst 0, 1) := by decide +kernel
theorem dL_gains_31 : decode cL_gains 31 = .ok (.ireturn, 1) := by decide +kernel
theorem dL_learn_0 : decode cL_learn 0 = .ok (.aload 5, 2) := by decide +kernel
theorem dL_learn_2 : decode cL_learn 2 = .ok (.iconst 0, 1) := by decide +kernel
theorem dL_learn_3 : decode cL_learn 3 = .ok (.aload_n 0, 1) := by decide +kernel
theorem dL_learn_4 : decode cL_learn 4 = .ok (.iload_n 1, 1) := by decide +kernel
theorem dL_learn_5 : decode cL_learn 5 = .ok (.iload_n 2, 1) := by decide +kernel
theorem dL_learn_6 : decode cL_learn 6 = .ok (.iload_n 3, 1) := by decide +kernel
theorem dL_learn_7 : decode cL_learn 7 = .ok (.iload 4, 2) := by decide +kernel
theorem dL_learn_9 : decode cL_learn 9 = .ok (.invokevirtual 90, 3) := by decide +kernel
theorem dL_learn_12 : decode cL_learn 12 = .ok (.i2l, 1) := by decide +kernel
theorem dL_learn_13 : decode cL_learn 13 = .ok (.lastore, 1) := by decide +kernel
theorem dL_learn_14 : decode cL_learn 14 = .ok (.goto 11, 3) := by decide +kernel
theorem dL_learn_17 : decode cL_learn 17 = .ok (.astore 6, 2) := by decide +kernel
theorem dL_learn_19 : decode cL_learn 19 = .ok (.iconst 1, 1) := by decide +kernel
theorem dL_learn_20 : decode cL_learn 20 = .ok (.ireturn, 1) := by decide +kernel
theorem dL_learn_21 : decode cL_learn 21 = .ok (.astore 6, 2) := by decide +kernel
theorem dL_learn_23 : decode cL_learn 23 = .ok (.iconst 2, 1) := by decide +kernel
theorem dL_learn_24 : decode cL_learn 24 = .ok (.ireturn, 1) := by decide +kernel
theorem dL_learn_25 : decode cL_learn 25 = .ok (.iconst 0, 1) := by decide +kernel
theorem dL_learn_26 : decode cL_learn 26 = .ok (.ireturn, 1) := by decide +kernel
theorem dL_above_0 : decode cL_above 0 = .ok (.aload 5, 2) := by decide +kernel
theorem dL_above_2 : decode cL_above 2 = .ok (.iconst 0, 1) := by decide +kernel
theorem dL_above_3 : decode cL_above 3 = .ok (.aload_n 0, 1) := by decide +kernel
theorem dL_above_4 : decode cL_above 4 = .ok (.iload_n 1, 1) := by decide +kernel
theorem dL_above_5 : decode cL_above 5 = .ok (.iload_n 2, 1) := by decide +kernel
theorem dL_above_6 : decode cL_above 6 = .ok (.iload_n 3, 1) := by decide +kernel
theorem dL_above_7 : decode cL_above 7 = .ok (.iload 4, 2) := by decide +kernel
theorem dL_above_9 : decode cL_above 9 = .ok (.invokevirtual 93, 3) := by decide +kernel
theorem dL_above_12 : decode cL_above 12 = .ok (.i2l, 1) := by decide +kernel
theorem dL_above_13 : decode cL_above 13 = .ok (.lastore, 1) := by decide +kernel
theorem dL_above_14 : decode cL_above 14 = .ok (.goto 11, 3) := by decide +kernel
theorem dL_above_17 : decode cL_above 17 = .ok (.astore 6, 2) := by decide +kernel
theorem dL_above_19 : decode cL_above 19 = .ok (.iconst 1, 1) := by decide +kernel
theorem dL_above_20 : decode cL_above 20 = .ok (.ireturn, 1) := by decide +kernel
theorem dL_above_21 : decode cL_above 21 = .ok (.astore 6, 2) := by decide +kernel
theorem dL_above_23 : decode cL_above 23 = .ok (.iconst 2, 1) := by decide +kernel
theorem dL_above_24 : decode cL_above 24 = .ok (.ireturn, 1) := by decide +kernel
theorem dL_above_25 : decode cL_above 25 = .ok (.iconst 0, 1) := by decide +kernel
theorem dL_above_26 : decode cL_above 26 = .ok (.ireturn, 1) := by decide +kernel
theorem dL_punish_0 : decode cL_punish 0 = .ok (.aload 6, 2) := by decide +kernel
theorem dL_punish_2 : decode cL_punish 2 = .ok (.iconst 0, 1) := by decide +kernel
theorem dL_punish_3 : decode cL_punish 3 = .ok (.aload_n 0, 1) := by decide +kernel
theorem dL_punish_4 : decode cL_punish 4 = .ok (.iload_n 1, 1) := by decide +kernel
theorem dL_punish_5 : decode cL_punish 5 = .ok (.iload_n 2, 1) := by decide +kernel
theorem dL_punish_6 : decode cL_punish 6 = .ok (.iload_n 3, 1) := by decide +kernel
theorem dL_punish_7 : decode cL_punish 7 = .ok (.iload 4, 2) := by decide +kernel
theorem dL_punish_9 : decode cL_punish 9 = .ok (.iload 5, 2) := by decide +kernel
theorem dL_punish_11 : decode cL_punish 11 = .ok (.invokevirtual 96, 3) := by decide +kernel
theorem dL_punish_14 : decode cL_punish 14 = .ok (.i2l, 1) := by decide +kernel
theorem dL_punish_15 : decode cL_punish 15 = .ok (.lastore, 1) := by decide +kernel
theorem dL_punish_16 : decode cL_punish 16 = .ok (.goto 15, 3) := by decide +kernel
theorem dL_punish_19 : decode cL_punish 19 = .ok (.astore 7, 2) := by decide +kernel
theorem dL_punish_21 : decode cL_punish 21 = .ok (.iconst 1, 1) := by decide +kernel
theorem dL_punish_22 : decode cL_punish 22 = .ok (.ireturn, 1) := by decide +kernel
theorem dL_punish_23 : decode cL_punish 23 = .ok (.astore 7, 2) := by decide +kernel
theorem dL_punish_25 : decode cL_punish 25 = .ok (.iconst 2, 1) := by decide +kernel
theorem dL_punish_26 : decode cL_punish 26 = .ok (.ireturn, 1) := by decide +kernel
theorem dL_punish_27 : decode cL_punish 27 = .ok (.astore 7, 2) := by decide +kernel
theorem dL_punish_29 : decode cL_punish 29 = .ok (.iconst 3, 1) := by decide +kernel
theorem dL_punish_30 : decode cL_punish 30 = .ok (.ireturn, 1) := by decide +kernel
theorem dL_punish_31 : decode cL_punish 31 = .ok (.iconst 0, 1) := by decide +kernel
theorem dL_punish_32 : decode cL_punish 32 = .ok (.ireturn, 1) := by decide +kernel
theorem dL_story_0 : decode cL_story 0 = .ok (.aload_n 3, 1) := by decide +kernel
theorem dL_story_1 : decode cL_story 1 = .ok (.iconst 0, 1) := by decide +kernel
theorem dL_story_2 : decode cL_story 2 = .ok (.aload_n 0, 1) := by decide +kernel
theorem dL_story_3 : decode cL_story 3 = .ok (.iload_n 1, 1) := by decide +kernel
theorem dL_story_4 : decode cL_story 4 = .ok (.iload_n 2, 1) := by decide +kernel
theorem dL_story_5 : decode cL_story 5 = .ok (.invokevirtual 99, 3) := by decide +kernel
theorem dL_story_8 : decode cL_story 8 = .ok (.ifCond .eq 7, 3) := by decide +kernel
theorem dL_story_11 : decode cL_story 11 = .ok (.lconst 1, 1) := by decide +kernel
theorem dL_story_12 : decode cL_story 12 = .ok (.goto 4, 3) := by decide +kernel
theorem dL_story_15 : decode cL_story 15 = .ok (.lconst 0, 1) := by decide +kernel
theorem dL_story_16 : decode cL_story 16 = .ok (.lastore, 1) := by decide +kernel
theorem dL_story_17 : decode cL_story 17 = .ok (.goto 11, 3) := by decide +kernel
theorem dL_story_20 : decode cL_story 20 = .ok (.astore 4, 2) := by decide +kernel
theorem dL_story_22 : decode cL_story 22 = .ok (.iconst 1, 1) := by decide +kernel
theorem dL_story_23 : decode cL_story 23 = .ok (.ireturn, 1) := by decide +kernel
theorem dL_story_24 : decode cL_story 24 = .ok (.astore 4, 2) := by decide +kernel
theorem dL_story_26 : decode cL_story 26 = .ok (.iconst 2, 1) := by decide +kernel
theorem dL_story_27 : decode cL_story 27 = .ok (.ireturn, 1) := by decide +kernel
theorem dL_story_28 : decode cL_story 28 = .ok (.iconst 0, 1) := by decide +kernel
theorem dL_story_29 : decode cL_story 29 = .ok (.ireturn, 1) := by decide +kernel
theorem dL_rise_0 : decode cL_rise 0 = .ok (.aload 4, 2) := by decide +kernel
theorem dL_rise_2 : decode cL_rise 2 = .ok (.iconst 0, 1) := by decide +kernel
theorem dL_rise_3 : decode cL_rise 3 = .ok (.aload_n 0, 1) := by decide +kernel
theorem dL_rise_4 : decode cL_rise 4 = .ok (.iload_n 1, 1) := by decide +kernel
theorem dL_rise_5 : decode cL_rise 5 = .ok (.iload_n 2, 1) := by decide +kernel
theorem dL_rise_6 : decode cL_rise 6 = .ok (.iload_n 3, 1) := by decide +kernel
theorem dL_rise_7 : decode cL_rise 7 = .ok (.invokevirtual 103, 3) := by decide +kernel
theorem dL_rise_10 : decode cL_rise 10 = .ok (.i2l, 1) := by decide +kernel
theorem dL_rise_11 : decode cL_rise 11 = .ok (.lastore, 1) := by decide +kernel
theorem dL_rise_12 : decode cL_rise 12 = .ok (.goto 7, 3) := by decide +kernel
theorem dL_rise_15 : decode cL_rise 15 = .ok (.astore 5, 2) := by decide +kernel
theorem dL_rise_17 : decode cL_rise 17 = .ok (.iconst 1, 1) := by decide +kernel
theorem dL_rise_18 : decode cL_rise 18 = .ok (.ireturn, 1) := by decide +kernel
theorem dL_rise_19 : decode cL_rise 19 = .ok (.iconst 0, 1) := by decide +kernel
theorem dL_rise_20 : decode cL_rise 20 = .ok (.ireturn, 1) := by decide +kernel
theorem dL_fill_0 : decode cL_fill 0 = .ok (.aload 5, 2) := by decide +kernel
theorem dL_fill_2 : decode cL_fill 2 = .ok (.iconst 0, 1) := by decide +kernel
theorem dL_fill_3 : decode cL_fill 3 = .ok (.aload_n 0, 1) := by decide +kernel
theorem dL_fill_4 : decode cL_fill 4 = .ok (.iload_n 1, 1) := by decide +kernel
theorem dL_fill_5 : decode cL_fill 5 = .ok (.iload_n 2, 1) := by decide +kernel
theorem dL_fill_6 : decode cL_fill 6 = .ok (.iload_n 3, 1) := by decide +kernel
theorem dL_fill_7 : decode cL_fill 7 = .ok (.iload 4, 2) := by decide +kernel
theorem dL_fill_9 : decode cL_fill 9 = .ok (.invokevirtual 106, 3) := by decide +kernel
theorem dL_fill_12 : decode cL_fill 12 = .ok (.i2l, 1) := by decide +kernel
theorem dL_fill_13 : decode cL_fill 13 = .ok (.lastore, 1) := by decide +kernel
theorem dL_fill_14 : decode cL_fill 14 = .ok (.goto 15, 3) := by decide +kernel
theorem dL_fill_17 : decode cL_fill 17 = .ok (.astore 6, 2) := by decide +kernel
theorem dL_fill_19 : decode cL_fill 19 = .ok (.iconst 1, 1) := by decide +kernel
theorem dL_fill_20 : decode cL_fill 20 = .ok (.ireturn, 1) := by decide +kernel
theorem dL_fill_21 : decode cL_fill 21 = .ok (.astore 6, 2) := by decide +kernel
theorem dL_fill_23 : decode cL_fill 23 = .ok (.iconst 2, 1) := by decide +kernel
theorem dL_fill_24 : decode cL_fill 24 = .ok (.ireturn, 1) := by decide +kernel
theorem dL_fill_25 : decode cL_fill 25 = .ok (.astore 6, 2) := by decide +kernel
theorem dL_fill_27 : decode cL_fill 27 = .ok (.iconst 3, 1) := by decide +kernel
theorem dL_fill_28 : decode cL_fill 28 = .ok (.ireturn, 1) := by decide +kernel
theorem dL_fill_29 : decode cL_fill 29 = .ok (.iconst 0, 1) := by decide +kernel
theorem dL_fill_30 : decode cL_fill 30 = .ok (.ireturn, 1) := by decide +kernel
theorem dL_told_0 : decode cL_told 0 = .ok (.aload 5, 2) := by decide +kernel
theorem dL_told_2 : decode cL_told 2 = .ok (.iconst 0, 1) := by decide +kernel
theorem dL_told_3 : decode cL_told 3 = .ok (.aload_n 0, 1) := by decide +kernel
theorem dL_told_4 : decode cL_told 4 = .ok (.iload_n 1, 1) := by decide +kernel
theorem dL_told_5 : decode cL_told 5 = .ok (.iload_n 2, 1) := by decide +kernel
theorem dL_told_6 : decode cL_told 6 = .ok (.iload_n 3, 1) := by decide +kernel
theorem dL_told_7 : decode cL_told 7 = .ok (.iload 4, 2) := by decide +kernel
theorem dL_told_9 : decode cL_told 9 = .ok (.invokevirtual 109, 3) := by decide +kernel
theorem dL_told_12 : decode cL_told 12 = .ok (.i2l, 1) := by decide +kernel
theorem dL_told_13 : decode cL_told 13 = .ok (.lastore, 1) := by decide +kernel
theorem dL_told_14 : decode cL_told 14 = .ok (.goto 11, 3) := by decide +kernel
theorem dL_told_17 : decode cL_told 17 = .ok (.astore 6, 2) := by decide +kernel
theorem dL_told_19 : decode cL_told 19 = .ok (.iconst 1, 1) := by decide +kernel
theorem dL_told_20 : decode cL_told 20 = .ok (.ireturn, 1) := by decide +kernel
theorem dL_told_21 : decode cL_told 21 = .ok (.astore 6, 2) := by decide +kernel
theorem dL_told_23 : decode cL_told 23 = .ok (.iconst 2, 1) := by decide +kernel
theorem dL_told_24 : decode cL_told 24 = .ok (.ireturn, 1) := by decide +kernel
theorem dL_told_25 : decode cL_told 25 = .ok (.iconst 0, 1) := by decide +kernel
theorem dL_told_26 : decode cL_told 26 = .ok (.ireturn, 1) := by decide +kernel
theorem dL_fit_0 : decode cL_fit 0 = .ok (.aload_n 2, 1) := by decide +kernel
theorem dL_fit_1 : decode cL_fit 1 = .ok (.iconst 0, 1) := by decide +kernel
theorem dL_fit_2 : decode cL_fit 2 = .ok (.aload_n 0, 1) := by decide +kernel
theorem dL_fit_3 : decode cL_fit 3 = .ok (.iload_n 1, 1) := by decide +kernel
theorem dL_fit_4 : decode cL_fit 4 = .ok (.invokevirtual 112, 3) := by decide +kernel
theorem dL_fit_7 : decode cL_fit 7 = .ok (.i2l, 1) := by decide +kernel
theorem dL_fit_8 : decode cL_fit 8 = .ok (.lastore, 1) := by decide +kernel
theorem dL_fit_9 : decode cL_fit 9 = .ok (.goto 6, 3) := by decide +kernel
theorem dL_fit_12 : decode cL_fit 12 = .ok (.astore_n 3, 1) := by decide +kernel
theorem dL_fit_13 : decode cL_fit 13 = .ok (.iconst 1, 1) := by decide +kernel
theorem dL_fit_14 : decode cL_fit 14 = .ok (.ireturn, 1) := by decide +kernel
theorem dL_fit_15 : decode cL_fit 15 = .ok (.iconst 0, 1) := by decide +kernel
theorem dL_fit_16 : decode cL_fit 16 = .ok (.ireturn, 1) := by decide +kernel
theorem dL_tray_0 : decode cL_tray 0 = .ok (.aload_n 0, 1) := by decide +kernel
theorem dL_tray_1 : decode cL_tray 1 = .ok (.iload_n 1, 1) := by decide +kernel
theorem dL_tray_2 : decode cL_tray 2 = .ok (.iload_n 2, 1) := by decide +kernel
theorem dL_tray_3 : decode cL_tray 3 = .ok (.iload_n 3, 1) := by decide +kernel
theorem dL_tray_4 : decode cL_tray 4 = .ok (.invokevirtual 115, 3) := by decide +kernel
theorem dL_tray_7 : decode cL_tray 7 = .ok (.goto 11, 3) := by decide +kernel
theorem dL_tray_10 : decode cL_tray 10 = .ok (.astore 4, 2) := by decide +kernel
theorem dL_tray_12 : decode cL_tray 12 = .ok (.iconst 1, 1) := by decide +kernel
theorem dL_tray_13 : decode cL_tray 13 = .ok (.ireturn, 1) := by decide +kernel
theorem dL_tray_14 : decode cL_tray 14 = .ok (.astore 4, 2) := by decide +kernel
theorem dL_tray_16 : decode cL_tray 16 = .ok (.iconst 2, 1) := by decide +kernel
theorem dL_tray_17 : decode cL_tray 17 = .ok (.ireturn, 1) := by decide +kernel
theorem dL_tray_18 : decode cL_tray 18 = .ok (.iconst 0, 1) := by decide +kernel
theorem dL_tray_19 : decode cL_tray 19 = .ok (.ireturn, 1) := by decide +kernel
theorem dL_write_0 : decode cL_write 0 = .ok (.aload 5, 2) := by decide +kernel
theorem dL_write_2 : decode cL_write 2 = .ok (.iconst 0, 1) := by decide +kernel
theorem dL_write_3 : decode cL_write 3 = .ok (.aload_n 0, 1) := by decide +kernel
theorem dL_write_4 : decode cL_write 4 = .ok (.iload_n 1, 1) := by decide +kernel
theorem dL_write_5 : decode cL_write 5 = .ok (.iload_n 2, 1) := by decide +kernel
theorem dL_write_6 : decode cL_write 6 = .ok (.lload_n 3, 1) := by decide +kernel
theorem dL_write_7 : decode cL_write 7 = .ok (.invokevirtual 119, 3) := by decide +kernel
theorem dL_write_10 : decode cL_write 10 = .ok (.lastore, 1) := by decide +kernel
theorem dL_write_11 : decode cL_write 11 = .ok (.goto 15, 3) := by decide +kernel
theorem dL_write_14 : decode cL_write 14 = .ok (.astore 6, 2) := by decide +kernel
theorem dL_write_16 : decode cL_write 16 = .ok (.iconst 1, 1) := by decide +kernel
theorem dL_write_17 : decode cL_write 17 = .ok (.ireturn, 1) := by decide +kernel
theorem dL_write_18 : decode cL_write 18 = .ok (.astore 6, 2) := by decide +kernel
theorem dL_write_20 : decode cL_write 20 = .ok (.iconst 2, 1) := by decide +kernel
theorem dL_write_21 : decode cL_write 21 = .ok (.ireturn, 1) := by decide +kernel
theorem dL_write_22 : decode cL_write 22 = .ok (.astore 6, 2) := by decide +kernel
theorem dL_write_24 : decode cL_write 24 = .ok (.iconst 3, 1) := by decide +kernel
theorem dL_write_25 : decode cL_write 25 = .ok (.ireturn, 1) := by decide +kernel
theorem dL_write_26 : decode cL_write 26 = .ok (.iconst 0, 1) := by decide +kernel
theorem dL_write_27 : decode cL_write 27 = .ok (.ireturn, 1) := by decide +kernel
theorem dL_image_0 : decode cL_image 0 = .ok (.aload_n 0, 1) := by decide +kernel
theorem dL_image_1 : decode cL_image 1 = .ok (.iload_n 1, 1) := by decide +kernel
theorem dL_image_2 : decode cL_image 2 = .ok (.invokevirtual 123, 3) := by decide +kernel
theorem dL_image_5 : decode cL_image 5 = .ok (.goto 6, 3) := by decide +kernel
theorem dL_image_8 : decode cL_image 8 = .ok (.astore_n 2, 1) := by decide +kernel
theorem dL_image_9 : decode cL_image 9 = .ok (.iconst 1, 1) := by decide +kernel
theorem dL_image_10 : decode cL_image 10 = .ok (.ireturn, 1) := by decide +kernel
theorem dL_image_11 : decode cL_image 11 = .ok (.iconst 0, 1) := by decide +kernel
theorem dL_image_12 : decode cL_image 12 = .ok (.ireturn, 1) := by decide +kernel
theorem dL_restore_0 : decode cL_restore 0 = .ok (.aload_n 0, 1) := by decide +kernel
theorem dL_restore_1 : decode cL_restore 1 = .ok (.iload_n 1, 1) := by decide +kernel
theorem dL_restore_2 : decode cL_restore 2 = .ok (.invokevirtual 127, 3) := by decide +kernel
theorem dL_restore_5 : decode cL_restore 5 = .ok (.goto 9, 3) := by decide +kernel
theorem dL_restore_8 : decode cL_restore 8 = .ok (.astore_n 2, 1) := by decide +kernel
theorem dL_restore_9 : decode cL_restore 9 = .ok (.iconst 1, 1) := by decide +kernel
theorem dL_restore_10 : decode cL_restore 10 = .ok (.ireturn, 1) := by decide +kernel
theorem dL_restore_11 : decode cL_restore 11 = .ok (.astore_n 2, 1) := by decide +kernel
theorem dL_restore_12 : decode cL_restore 12 = .ok (.iconst 2, 1) := by decide +kernel
theorem dL_restore_13 : decode cL_restore 13 = .ok (.ireturn, 1) := by decide +kernel
theorem dL_restore_14 : decode cL_restore 14 = .ok (.iconst 0, 1) := by decide +kernel
theorem dL_restore_15 : decode cL_restore 15 = .ok (.ireturn, 1) := by decide +kernel
