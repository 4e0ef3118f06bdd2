theorem dX12_foreseen_84 : decode cX12_foreseen 84 = .ok (.iaload, 1) := by decide +kernel
theorem dX12_foreseen_85 : decode cX12_foreseen 85 = .ok (.isub, 1) := by decide +kernel
theorem dX12_foreseen_86 : decode cX12_foreseen 86 = .ok (.invokestatic 345, 3) := by decide +kernel
theorem dX12_foreseen_89 : decode cX12_foreseen 89 = .ok (.iadd, 1) := by decide +kernel
theorem dX12_foreseen_90 : decode cX12_foreseen 90 = .ok (.istore 5, 2) := by decide +kernel
theorem dX12_foreseen_92 : decode cX12_foreseen 92 = .ok (.iinc 6 1, 3) := by decide +kernel
theorem dX12_foreseen_95 : decode cX12_foreseen 95 = .ok (.goto (-41), 3) := by decide +kernel
theorem dX12_foreseen_98 : decode cX12_foreseen 98 = .ok (.iload 5, 2) := by decide +kernel
theorem dX12_foreseen_100 : decode cX12_foreseen 100 = .ok (.iload_n 3, 1) := by decide +kernel
theorem dX12_foreseen_101 : decode cX12_foreseen 101 = .ok (.if_icmp .lt 6, 3) := by decide +kernel
theorem dX12_foreseen_104 : decode cX12_foreseen 104 = .ok (.goto 14, 3) := by decide +kernel
theorem dX12_foreseen_107 : decode cX12_foreseen 107 = .ok (.aload_n 0, 1) := by decide +kernel
theorem dX12_foreseen_108 : decode cX12_foreseen 108 = .ok (.getfield 52, 3) := by decide +kernel
theorem dX12_foreseen_111 : decode cX12_foreseen 111 = .ok (.iload 4, 2) := by decide +kernel
theorem dX12_foreseen_113 : decode cX12_foreseen 113 = .ok (.iaload, 1) := by decide +kernel
theorem dX12_foreseen_114 : decode cX12_foreseen 114 = .ok (.istore_n 2, 1) := by decide +kernel
theorem dX12_foreseen_115 : decode cX12_foreseen 115 = .ok (.iload 5, 2) := by decide +kernel
theorem dX12_foreseen_117 : decode cX12_foreseen 117 = .ok (.istore_n 3, 1) := by decide +kernel
theorem dX12_foreseen_118 : decode cX12_foreseen 118 = .ok (.iinc 4 1, 3) := by decide +kernel
theorem dX12_foreseen_121 : decode cX12_foreseen 121 = .ok (.goto (-101), 3) := by decide +kernel
theorem dX12_foreseen_124 : decode cX12_foreseen 124 = .ok (.iload_n 2, 1) := by decide +kernel
theorem dX12_foreseen_125 : decode cX12_foreseen 125 = .ok (.ireturn, 1) := by decide +kernel
theorem dX12_burns_0 : decode cX12_burns 0 = .ok (.aload_n 0, 1) := by decide +kernel
theorem dX12_burns_1 : decode cX12_burns 1 = .ok (.iload_n 1, 1) := by decide +kernel
theorem dX12_burns_2 : decode cX12_burns 2 = .ok (.invokevirtual 222, 3) := by decide +kernel
theorem dX12_burns_5 : decode cX12_burns 5 = .ok (.ifCond .eq 38, 3) := by decide +kernel
theorem dX12_burns_8 : decode cX12_burns 8 = .ok (.iload_n 2, 1) := by decide +kernel
theorem dX12_burns_9 : decode cX12_burns 9 = .ok (.i2l, 1) := by decide +kernel
theorem dX12_burns_10 : decode cX12_burns 10 = .ok (.lconst 1, 1) := by decide +kernel
theorem dX12_burns_11 : decode cX12_burns 11 = .ok (.ldc2_w 468, 3) := by decide +kernel
theorem dX12_burns_14 : decode cX12_burns 14 = .ok (.invokestatic 188, 3) := by decide +kernel
theorem dX12_burns_17 : decode cX12_burns 17 = .ok (.ifCond .eq 26, 3) := by decide +kernel
theorem dX12_burns_20 : decode cX12_burns 20 = .ok (.iload_n 3, 1) := by decide +kernel
theorem dX12_burns_21 : decode cX12_burns 21 = .ok (.i2l, 1) := by decide +kernel
theorem dX12_burns_22 : decode cX12_burns 22 = .ok (.lconst 1, 1) := by decide +kernel
theorem dX12_burns_23 : decode cX12_burns 23 = .ok (.ldc2_w 470, 3) := by decide +kernel
theorem dX12_burns_26 : decode cX12_burns 26 = .ok (.invokestatic 188, 3) := by decide +kernel
theorem dX12_burns_29 : decode cX12_burns 29 = .ok (.ifCond .eq 14, 3) := by decide +kernel
theorem dX12_burns_32 : decode cX12_burns 32 = .ok (.iload 4, 2) := by decide +kernel
theorem dX12_burns_34 : decode cX12_burns 34 = .ok (.i2l, 1) := by decide +kernel
theorem dX12_burns_35 : decode cX12_burns 35 = .ok (.lconst 0, 1) := by decide +kernel
theorem dX12_burns_36 : decode cX12_burns 36 = .ok (.lconst 1, 1) := by decide +kernel
theorem dX12_burns_37 : decode cX12_burns 37 = .ok (.invokestatic 188, 3) := by decide +kernel
theorem dX12_burns_40 : decode cX12_burns 40 = .ok (.ifCond .ne 7, 3) := by decide +kernel
theorem dX12_burns_43 : decode cX12_burns 43 = .ok (.ldc2_w 431, 3) := by decide +kernel
theorem dX12_burns_46 : decode cX12_burns 46 = .ok (.lreturn, 1) := by decide +kernel
theorem dX12_burns_47 : decode cX12_burns 47 = .ok (.iconst 0, 1) := by decide +kernel
theorem dX12_burns_48 : decode cX12_burns 48 = .ok (.istore 5, 2) := by decide +kernel
theorem dX12_burns_50 : decode cX12_burns 50 = .ok (.iload 5, 2) := by decide +kernel
theorem dX12_burns_52 : decode cX12_burns 52 = .ok (.sipush 500, 3) := by decide +kernel
theorem dX12_burns_55 : decode cX12_burns 55 = .ok (.if_icmp .gt 32, 3) := by decide +kernel
theorem dX12_burns_58 : decode cX12_burns 58 = .ok (.aload_n 0, 1) := by decide +kernel
theorem dX12_burns_59 : decode cX12_burns 59 = .ok (.getfield 170, 3) := by decide +kernel
theorem dX12_burns_62 : decode cX12_burns 62 = .ok (.iload 5, 2) := by decide +kernel
theorem dX12_burns_64 : decode cX12_burns 64 = .ok (.iload 5, 2) := by decide +kernel
theorem dX12_burns_66 : decode cX12_burns 66 = .ok (.aload_n 0, 1) := by decide +kernel
theorem dX12_burns_67 : decode cX12_burns 67 = .ok (.getfield 36, 3) := by decide +kernel
theorem dX12_burns_70 : decode cX12_burns 70 = .ok (.iload_n 1, 1) := by decide +kernel
theorem dX12_burns_71 : decode cX12_burns 71 = .ok (.iaload, 1) := by decide +kernel
theorem dX12_burns_72 : decode cX12_burns 72 = .ok (.if_icmp .ne 7, 3) := by decide +kernel
theorem dX12_burns_75 : decode cX12_burns 75 = .ok (.lconst 1, 1) := by decide +kernel
theorem dX12_burns_76 : decode cX12_burns 76 = .ok (.goto 4, 3) := by decide +kernel
theorem dX12_burns_79 : decode cX12_burns 79 = .ok (.lconst 0, 1) := by decide +kernel
theorem dX12_burns_80 : decode cX12_burns 80 = .ok (.lastore, 1) := by decide +kernel
theorem dX12_burns_81 : decode cX12_burns 81 = .ok (.iinc 5 1, 3) := by decide +kernel
theorem dX12_burns_84 : decode cX12_burns 84 = .ok (.goto (-34), 3) := by decide +kernel
theorem dX12_burns_87 : decode cX12_burns 87 = .ok (.lconst 1, 1) := by decide +kernel
theorem dX12_burns_88 : decode cX12_burns 88 = .ok (.lstore 5, 2) := by decide +kernel
theorem dX12_burns_90 : decode cX12_burns 90 = .ok (.iconst 0, 1) := by decide +kernel
theorem dX12_burns_91 : decode cX12_burns 91 = .ok (.istore 7, 2) := by decide +kernel
theorem dX12_burns_93 : decode cX12_burns 93 = .ok (.iload 7, 2) := by decide +kernel
theorem dX12_burns_95 : decode cX12_burns 95 = .ok (.iload_n 2, 1) := by decide +kernel
theorem dX12_burns_96 : decode cX12_burns 96 = .ok (.if_icmp .ge 143, 3) := by decide +kernel
theorem dX12_burns_99 : decode cX12_burns 99 = .ok (.iconst 0, 1) := by decide +kernel
theorem dX12_burns_100 : decode cX12_burns 100 = .ok (.istore 8, 2) := by decide +kernel
theorem dX12_burns_102 : decode cX12_burns 102 = .ok (.iload 8, 2) := by decide +kernel
theorem dX12_burns_104 : decode cX12_burns 104 = .ok (.sipush 500, 3) := by decide +kernel
theorem dX12_burns_107 : decode cX12_burns 107 = .ok (.if_icmp .gt 17, 3) := by decide +kernel
theorem dX12_burns_110 : decode cX12_burns 110 = .ok (.aload_n 0, 1) := by decide +kernel
theorem dX12_burns_111 : decode cX12_burns 111 = .ok (.getfield 174, 3) := by decide +kernel
theorem dX12_burns_114 : decode cX12_burns 114 = .ok (.iload 8, 2) := by decide +kernel
theorem dX12_burns_116 : decode cX12_burns 116 = .ok (.lconst 0, 1) := by decide +kernel
theorem dX12_burns_117 : decode cX12_burns 117 = .ok (.lastore, 1) := by decide +kernel
theorem dX12_burns_118 : decode cX12_burns 118 = .ok (.iinc 8 1, 3) := by decide +kernel
theorem dX12_burns_121 : decode cX12_burns 121 = .ok (.goto (-19), 3) := by decide +kernel
theorem dX12_burns_124 : decode cX12_burns 124 = .ok (.iconst 0, 1) := by decide +kernel
theorem dX12_burns_125 : decode cX12_burns 125 = .ok (.istore 8, 2) := by decide +kernel
theorem dX12_burns_127 : decode cX12_burns 127 = .ok (.iload 8, 2) := by decide +kernel
theorem dX12_burns_129 : decode cX12_burns 129 = .ok (.sipush 500, 3) := by decide +kernel
theorem dX12_burns_132 : decode cX12_burns 132 = .ok (.if_icmp .gt 61, 3) := by decide +kernel
theorem dX12_burns_135 : decode cX12_burns 135 = .ok (.iconst 0, 1) := by decide +kernel
theorem dX12_burns_136 : decode cX12_burns 136 = .ok (.istore 9, 2) := by decide +kernel
theorem dX12_burns_138 : decode cX12_burns 138 = .ok (.iload 9, 2) := by decide +kernel
theorem dX12_burns_140 : decode cX12_burns 140 = .ok (.iload_n 3, 1) := by decide +kernel
theorem dX12_burns_141 : decode cX12_burns 141 = .ok (.if_icmp .gt 46, 3) := by decide +kernel
theorem dX12_burns_144 : decode cX12_burns 144 = .ok (.aload_n 0, 1) := by decide +kernel
theorem dX12_burns_145 : decode cX12_burns 145 = .ok (.getfield 174, 3) := by decide +kernel
theorem dX12_burns_148 : decode cX12_burns 148 = .ok (.iload 8, 2) := by decide +kernel
theorem dX12_burns_150 : decode cX12_burns 150 = .ok (.iload 9, 2) := by decide +kernel
theorem dX12_burns_152 : decode cX12_burns 152 = .ok (.iadd, 1) := by decide +kernel
theorem dX12_burns_153 : decode cX12_burns 153 = .ok (.sipush 500, 3) := by decide +kernel
theorem dX12_burns_156 : decode cX12_burns 156 = .ok (.if_icmp .le 9, 3) := by decide +kernel
theorem dX12_burns_159 : decode cX12_burns 159 = .ok (.sipush 500, 3) := by decide +kernel
theorem dX12_burns_162 : decode cX12_burns 162 = .ok (.goto 8, 3) := by decide +kernel
theorem dX12_burns_165 : decode cX12_burns 165 = .ok (.iload 8, 2) := by decide +kernel
theorem dX12_burns_167 : decode cX12_burns 167 = .ok (.iload 9, 2) := by decide +kernel
theorem dX12_burns_169 : decode cX12_burns 169 = .ok (.iadd, 1) := by decide +kernel
theorem dX12_burns_170 : decode cX12_burns 170 = .ok (.dup2, 1) := by decide +kernel
theorem dX12_burns_171 : decode cX12_burns 171 = .ok (.laload, 1) := by decide +kernel
theorem dX12_burns_172 : decode cX12_burns 172 = .ok (.aload_n 0, 1) := by decide +kernel
theorem dX12_burns_173 : decode cX12_burns 173 = .ok (.getfield 170, 3) := by decide +kernel
theorem dX12_burns_176 : decode cX12_burns 176 = .ok (.iload 8, 2) := by decide +kernel
theorem dX12_burns_178 : decode cX12_burns 178 = .ok (.laload, 1) := by decide +kernel
theorem dX12_burns_179 : decode cX12_burns 179 = .ok (.ladd, 1) := by decide +kernel
theorem dX12_burns_180 : decode cX12_burns 180 = .ok (.lastore, 1) := by decide +kernel
theorem dX12_burns_181 : decode cX12_burns 181 = .ok (.iinc 9 1, 3) := by decide +kernel
theorem dX12_burns_184 : decode cX12_burns 184 = .ok (.goto (-46), 3) := by decide +kernel
theorem dX12_burns_187 : decode cX12_burns 187 = .ok (.iinc 8 1, 3) := by decide +kernel
theorem dX12_burns_190 : decode cX12_burns 190 = .ok (.goto (-63), 3) := by decide +kernel
theorem dX12_burns_193 : decode cX12_burns 193 = .ok (.iconst 0, 1) := by decide +kernel
theorem dX12_burns_194 : decode cX12_burns 194 = .ok (.istore 8, 2) := by decide +kernel
theorem dX12_burns_196 : decode cX12_burns 196 = .ok (.iload 8, 2) := by decide +kernel
theorem dX12_burns_198 : decode cX12_burns 198 = .ok (.sipush 500, 3) := by decide +kernel
theorem dX12_burns_201 : decode cX12_burns 201 = .ok (.if_icmp .gt 23, 3) := by decide +kernel
theorem dX12_burns_204 : decode cX12_burns 204 = .ok (.aload_n 0, 1) := by decide +kernel
theorem dX12_burns_205 : decode cX12_burns 205 = .ok (.getfield 170, 3) := by decide +kernel
theorem dX12_burns_208 : decode cX12_burns 208 = .ok (.iload 8, 2) := by decide +kernel
theorem dX12_burns_210 : decode cX12_burns 210 = .ok (.aload_n 0, 1) := by decide +kernel
theorem dX12_burns_211 : decode cX12_burns 211 = .ok (.getfield 174, 3) := by decide +kernel
theorem dX12_burns_214 : decode cX12_burns 214 = .ok (.iload 8, 2) := by decide +kernel
theorem dX12_burns_216 : decode cX12_burns 216 = .ok (.laload, 1) := by decide +kernel
theorem dX12_burns_217 : decode cX12_burns 217 = .ok (.lastore, 1) := by decide +kernel
theorem dX12_burns_218 : decode cX12_burns 218 = .ok (.iinc 8 1, 3) := by decide +kernel
theorem dX12_burns_221 : decode cX12_burns 221 = .ok (.goto (-25), 3) := by decide +kernel
theorem dX12_burns_224 : decode cX12_burns 224 = .ok (.lload 5, 2) := by decide +kernel
theorem dX12_burns_226 : decode cX12_burns 226 = .ok (.iload_n 3, 1) := by decide +kernel
theorem dX12_burns_227 : decode cX12_burns 227 = .ok (.iconst 1, 1) := by decide +kernel
theorem dX12_burns_228 : decode cX12_burns 228 = .ok (.iadd, 1) := by decide +kernel
theorem dX12_burns_229 : decode cX12_burns 229 = .ok (.i2l, 1) := by decide +kernel
theorem dX12_burns_230 : decode cX12_burns 230 = .ok (.lmul, 1) := by decide +kernel
theorem dX12_burns_231 : decode cX12_burns 231 = .ok (.lstore 5, 2) := by decide +kernel
theorem dX12_burns_233 : decode cX12_burns 233 = .ok (.iinc 7 1, 3) := by decide +kernel
theorem dX12_burns_236 : decode cX12_burns 236 = .ok (.goto (-143), 3) := by decide +kernel
theorem dX12_burns_239 : decode cX12_burns 239 = .ok (.aload_n 0, 1) := by decide +kernel
theorem dX12_burns_240 : decode cX12_burns 240 = .ok (.getfield 170, 3) := by decide +kernel
theorem dX12_burns_243 : decode cX12_burns 243 = .ok (.sipush 500, 3) := by decide +kernel
theorem dX12_burns_246 : decode cX12_burns 246 = .ok (.laload, 1) := by decide +kernel
theorem dX12_burns_247 : decode cX12_burns 247 = .ok (.lload 5, 2) := by decide +kernel
theorem dX12_burns_249 : decode cX12_burns 249 = .ok (.invokestatic 458, 3) := by decide +kernel
theorem dX12_burns_252 : decode cX12_burns 252 = .ok (.lstore 7, 2) := by decide +kernel
theorem dX12_burns_254 : decode cX12_burns 254 = .ok (.iload 4, 2) := by decide +kernel
theorem dX12_burns_256 : decode cX12_burns 256 = .ok (.ifCond .ne 17, 3) := by decide +kernel
theorem dX12_burns_259 : decode cX12_burns 259 = .ok (.aload_n 0, 1) := by decide +kernel
theorem dX12_burns_260 : decode cX12_burns 260 = .ok (.getfield 170, 3) := by decide +kernel
theorem dX12_burns_263 : decode cX12_burns 263 = .ok (.sipush 500, 3) := by decide +kernel
theorem dX12_burns_266 : decode cX12_burns 266 = .ok (.laload, 1) := by decide +kernel
theorem dX12_burns_267 : decode cX12_burns 267 = .ok (.lload 7, 2) := by decide +kernel
theorem dX12_burns_269 : decode cX12_burns 269 = .ok (.ldiv, 1) := by decide +kernel
theorem dX12_burns_270 : decode cX12_burns 270 = .ok (.goto 8, 3) := by decide +kernel
theorem dX12_burns_273 : decode cX12_burns 273 = .ok (.lload 5, 2) := by decide +kernel
theorem dX12_burns_275 : decode cX12_burns 275 = .ok (.lload 7, 2) := by decide +kernel
theorem dX12_burns_277 : decode cX12_burns 277 = .ok (.ldiv, 1) := by decide +kernel
theorem dX12_burns_278 : decode cX12_burns 278 = .ok (.lreturn, 1) := by decide +kernel
theorem dX12_takesWords_0 : decode cX12_takesWords 0 = .ok (.iconst 1, 1) := by decide +kernel
theorem dX12_takesWords_1 : decode cX12_takesWords 1 = .ok (.istore_n 2, 1) := by decide +kernel
theorem dX12_takesWords_2 : decode cX12_takesWords 2 = .ok (.iconst 0, 1) := by decide +kernel
theorem dX12_takesWords_3 : decode cX12_takesWords 3 = .ok (.istore_n 3, 1) := by decide +kernel
theorem dX12_takesWords_4 : decode cX12_takesWords 4 = .ok (.iload_n 3, 1) := by decide +kernel
theorem dX12_takesWords_5 : decode cX12_takesWords 5 = .ok (.iload_n 1, 1) := by decide +kernel
theorem dX12_takesWords_6 : decode cX12_takesWords 6 = .ok (.if_icmp .ge 128, 3) := by decide +kernel
theorem dX12_takesWords_9 : decode cX12_takesWords 9 = .ok (.aload_n 0, 1) := by decide +kernel
theorem dX12_takesWords_10 : decode cX12_takesWords 10 = .ok (.getfield 177, 3) := by decide +kernel
theorem dX12_takesWords_13 : decode cX12_takesWords 13 = .ok (.iload_n 3, 1) := by decide +kernel
theorem dX12_takesWords_14 : decode cX12_takesWords 14 = .ok (.aload_n 0, 1) := by decide +kernel
theorem dX12_takesWords_15 : decode cX12_takesWords 15 = .ok (.iconst 3, 1) := by decide +kernel
theorem dX12_takesWords_16 : decode cX12_takesWords 16 = .ok (.iload_n 3, 1) := by decide +kernel
theorem dX12_takesWords_17 : decode cX12_takesWords 17 = .ok (.imul, 1) := by decide +kernel
theorem dX12_takesWords_18 : decode cX12_takesWords 18 = .ok (.invokevirtual 472, 3) := by decide +kernel
theorem dX12_takesWords_21 : decode cX12_takesWords 21 = .ok (.iastore, 1) := by decide +kernel
theorem dX12_takesWords_22 : decode cX12_takesWords 22 = .ok (.aload_n 0, 1) := by decide +kernel
theorem dX12_takesWords_23 : decode cX12_takesWords 23 = .ok (.getfield 180, 3) := by decide +kernel
theorem dX12_takesWords_26 : decode cX12_takesWords 26 = .ok (.iload_n 3, 1) := by decide +kernel
theorem dX12_takesWords_27 : decode cX12_takesWords 27 = .ok (.aload_n 0, 1) := by decide +kernel
theorem dX12_takesWords_28 : decode cX12_takesWords 28 = .ok (.iconst 3, 1) := by decide +kernel
theorem dX12_takesWords_29 : decode cX12_takesWords 29 = .ok (.iload_n 3, 1) := by decide +kernel
theorem dX12_takesWords_30 : decode cX12_takesWords 30 = .ok (.imul, 1) := by decide +kernel
theorem dX12_takesWords_31 : decode cX12_takesWords 31 = .ok (.iconst 1, 1) := by decide +kernel
theorem dX12_takesWords_32 : decode cX12_takesWords 32 = .ok (.iadd, 1) := by decide +kernel
theorem dX12_takesWords_33 : decode cX12_takesWords 33 = .ok (.invokevirtual 472, 3) := by decide +kernel
theorem dX12_takesWords_36 : decode cX12_takesWords 36 = .ok (.sipush 255, 3) := by decide +kernel
theorem dX12_takesWords_39 : decode cX12_takesWords 39 = .ok (.if_icmp .ne 7, 3) := by decide +kernel
theorem dX12_takesWords_42 : decode cX12_takesWords 42 = .ok (.iconst (-1), 1) := by decide +kernel
theorem dX12_takesWords_43 : decode cX12_takesWords 43 = .ok (.goto 12, 3) := by decide +kernel
theorem dX12_takesWords_46 : decode cX12_takesWords 46 = .ok (.aload_n 0, 1) := by decide +kernel
theorem dX12_takesWords_47 : decode cX12_takesWords 47 = .ok (.iconst 3, 1) := by decide +kernel
theorem dX12_takesWords_48 : decode cX12_takesWords 48 = .ok (.iload_n 3, 1) := by decide +kernel
theorem dX12_takesWords_49 : decode cX12_takesWords 49 = .ok (.imul, 1) := by decide +kernel
theorem dX12_takesWords_50 : decode cX12_takesWords 50 = .ok (.iconst 1, 1) := by decide +kernel
theorem dX12_takesWords_51 : decode cX12_takesWords 51 = .ok (.iadd, 1) := by decide +kernel
theorem dX12_takesWords_52 : decode cX12_takesWords 52 = .ok (.invokevirtual 472, 3) := by decide +kernel
theorem dX12_takesWords_55 : decode cX12_takesWords 55 = .ok (.iastore, 1) := by decide +kernel
theorem dX12_takesWords_56 : decode cX12_takesWords 56 = .ok (.aload_n 0, 1) := by decide +kernel
theorem dX12_takesWords_57 : decode cX12_takesWords 57 = .ok (.getfield 183, 3) := by decide +kernel
theorem dX12_takesWords_60 : decode cX12_takesWords 60 = .ok (.iload_n 3, 1) := by decide +kernel
theorem dX12_takesWords_61 : decode cX12_takesWords 61 = .ok (.aload_n 0, 1) := by decide +kernel
theorem dX12_takesWords_62 : decode cX12_takesWords 62 = .ok (.iconst 3, 1) := by decide +kernel
theorem dX12_takesWords_63 : decode cX12_takesWords 63 = .ok (.iload_n 3, 1) := by decide +kernel
theorem dX12_takesWords_64 : decode cX12_takesWords 64 = .ok (.imul, 1) := by decide +kernel
theorem dX12_takesWords_65 : decode cX12_takesWords 65 = .ok (.iconst 2, 1) := by decide +kernel
theorem dX12_takesWords_66 : decode cX12_takesWords 66 = .ok (.iadd, 1) := by decide +kernel
theorem dX12_takesWords_67 : decode cX12_takesWords 67 = .ok (.invokevirtual 472, 3) := by decide +kernel
theorem dX12_takesWords_70 : decode cX12_takesWords 70 = .ok (.iastore, 1) := by decide +kernel
theorem dX12_takesWords_71 : decode cX12_takesWords 71 = .ok (.iload_n 2, 1) := by decide +kernel
theorem dX12_takesWords_72 : decode cX12_takesWords 72 = .ok (.ifCond .eq 54, 3) := by decide +kernel
theorem dX12_takesWords_75 : decode cX12_takesWords 75 = .ok (.aload_n 0, 1) := by decide +kernel
theorem dX12_takesWords_76 : decode cX12_takesWords 76 = .ok (.aload_n 0, 1) := by decide +kernel
theorem dX12_takesWords_77 : decode cX12_takesWords 77 = .ok (.getfield 177, 3) := by decide +kernel
theorem dX12_takesWords_80 : decode cX12_takesWords 80 = .ok (.iload_n 3, 1) := by decide +kernel
theorem dX12_takesWords_81 : decode cX12_takesWords 81 = .ok (.iaload, 1) := by decide +kernel
theorem dX12_takesWords_82 : decode cX12_takesWords 82 = .ok (.invokevirtual 217, 3) := by decide +kernel
theorem dX12_takesWords_85 : decode cX12_takesWords 85 = .ok (.ifCond .eq 41, 3) := by decide +kernel
theorem dX12_takesWords_88 : decode cX12_takesWords 88 = .ok (.aload_n 0, 1) := by decide +kernel
theorem dX12_takesWords_89 : decode cX12_takesWords 89 = .ok (.getfield 180, 3) := by decide +kernel
theorem dX12_takesWords_92 : decode cX12_takesWords 92 = .ok (.iload_n 3, 1) := by decide +kernel
theorem dX12_takesWords_93 : decode cX12_takesWords 93 = .ok (.iaload, 1) := by decide +kernel
theorem dX12_takesWords_94 : decode cX12_takesWords 94 = .ok (.iconst (-1), 1) := by decide +kernel
theorem dX12_takesWords_95 : decode cX12_takesWords 95 = .ok (.if_icmp .eq 16, 3) := by decide +kernel
theorem dX12_takesWords_98 : decode cX12_takesWords 98 = .ok (.aload_n 0, 1) := by decide +kernel
theorem dX12_takesWords_99 : decode cX12_takesWords 99 = .ok (.aload_n 0, 1) := by decide +kernel
theorem dX12_takesWords_100 : decode cX12_takesWords 100 = .ok (.getfield 180, 3) := by decide +kernel
theorem dX12_takesWords_103 : decode cX12_takesWords 103 = .ok (.iload_n 3, 1) := by decide +kernel
theorem dX12_takesWords_104 : decode cX12_takesWords 104 = .ok (.iaload, 1) := by decide +kernel
theorem dX12_takesWords_105 : decode cX12_takesWords 105 = .ok (.invokevirtual 195, 3) := by decide +kernel
theorem dX12_takesWords_108 : decode cX12_takesWords 108 = .ok (.ifCond .eq 18, 3) := by decide +kernel
theorem dX12_takesWords_111 : decode cX12_takesWords 111 = .ok (.aload_n 0, 1) := by decide +kernel
theorem dX12_takesWords_112 : decode cX12_takesWords 112 = .ok (.getfield 183, 3) := by decide +kernel
theorem dX12_takesWords_115 : decode cX12_takesWords 115 = .ok (.iload_n 3, 1) := by decide +kernel
theorem dX12_takesWords_116 : decode cX12_takesWords 116 = .ok (.iaload, 1) := by decide +kernel
theorem dX12_takesWords_117 : decode cX12_takesWords 117 = .ok (.bipush 10, 2) := by decide +kernel
theorem dX12_takesWords_119 : decode cX12_takesWords 119 = .ok (.if_icmp .ge 7, 3) := by decide +kernel
theorem dX12_takesWords_122 : decode cX12_takesWords 122 = .ok (.iconst 1, 1) := by decide +kernel
theorem dX12_takesWords_123 : decode cX12_takesWords 123 = .ok (.goto 4, 3) := by decide +kernel
theorem dX12_takesWords_126 : decode cX12_takesWords 126 = .ok (.iconst 0, 1) := by decide +kernel
theorem dX12_takesWords_127 : decode cX12_takesWords 127 = .ok (.istore_n 2, 1) := by decide +kernel
theorem dX12_takesWords_128 : decode cX12_takesWords 128 = .ok (.iinc 3 1, 3) := by decide +kernel
theorem dX12_takesWords_131 : decode cX12_takesWords 131 = .ok (.goto (-127), 3) := by decide +kernel
theorem dX12_takesWords_134 : decode cX12_takesWords 134 = .ok (.iload_n 2, 1) := by decide +kernel
theorem dX12_takesWords_135 : decode cX12_takesWords 135 = .ok (.ireturn, 1) := by decide +kernel
theorem dX12_fits_0 : decode cX12_fits 0 = .ok (.aload_n 0, 1) := by decide +kernel
theorem dX12_fits_1 : decode cX12_fits 1 = .ok (.iconst 0, 1) := by decide +kernel
theorem dX12_fits_2 : decode cX12_fits 2 = .ok (.invokevirtual 411, 3) := by decide +kernel
theorem dX12_fits_5 : decode cX12_fits 5 = .ok (.aload_n 0, 1) := by decide +kernel
theorem dX12_fits_6 : decode cX12_fits 6 = .ok (.iload_n 1, 1) := by decide +kernel
theorem dX12_fits_7 : decode cX12_fits 7 = .ok (.putfield 17, 3) := by decide +kernel
theorem dX12_fits_10 : decode cX12_fits 10 = .ok (.aload_n 0, 1) := by decide +kernel
theorem dX12_fits_11 : decode cX12_fits 11 = .ok (.aload_n 0, 1) := by decide +kernel
theorem dX12_fits_12 : decode cX12_fits 12 = .ok (.getfield 359, 3) := by decide +kernel
theorem dX12_fits_15 : decode cX12_fits 15 = .ok (.iload_n 2, 1) := by decide +kernel
theorem dX12_fits_16 : decode cX12_fits 16 = .ok (.iadd, 1) := by decide +kernel
theorem dX12_fits_17 : decode cX12_fits 17 = .ok (.putfield 225, 3) := by decide +kernel
theorem dX12_fits_20 : decode cX12_fits 20 = .ok (.iconst 1, 1) := by decide +kernel
theorem dX12_fits_21 : decode cX12_fits 21 = .ok (.istore 4, 2) := by decide +kernel
theorem dX12_fits_23 : decode cX12_fits 23 = .ok (.iconst 0, 1) := by decide +kernel
theorem dX12_fits_24 : decode cX12_fits 24 = .ok (.istore 5, 2) := by decide +kernel
theorem dX12_fits_26 : decode cX12_fits 26 = .ok (.iload 5, 2) := by decide +kernel
theorem dX12_fits_28 : decode cX12_fits 28 = .ok (.bipush 10, 2) := by decide +kernel
theorem dX12_fits_30 : decode cX12_fits 30 = .ok (.if_icmp .ge 79, 3) := by decide +kernel
theorem dX12_fits_33 : decode cX12_fits 33 = .ok (.iload 4, 2) := by decide +kernel
theorem dX12_fits_35 : decode cX12_fits 35 = .ok (.ifCond .eq 74, 3) := by decide +kernel
theorem dX12_fits_38 : decode cX12_fits 38 = .ok (.aload_n 0, 1) := by decide +kernel
theorem dX12_fits_39 : decode cX12_fits 39 = .ok (.invokevirtual 401, 3) := by decide +kernel
theorem dX12_fits_42 : decode cX12_fits 42 = .ok (.iconst 0, 1) := by decide +kernel
theorem dX12_fits_43 : decode cX12_fits 43 = .ok (.istore 6, 2) := by decide +kernel
theorem dX12_fits_45 : decode cX12_fits 45 = .ok (.iload 6, 2) := by decide +kernel
theorem dX12_fits_47 : decode cX12_fits 47 = .ok (.iload_n 3, 1) := by decide +kernel
theorem dX12_fits_48 : decode cX12_fits 48 = .ok (.if_icmp .ge 55, 3) := by decide +kernel
theorem dX12_fits_51 : decode cX12_fits 51 = .ok (.iload 4, 2) := by decide +kernel
theorem dX12_fits_53 : decode cX12_fits 53 = .ok (.ifCond .eq 50, 3) := by decide +kernel
theorem dX12_fits_56 : decode cX12_fits 56 = .ok (.aload_n 0, 1) := by decide +kernel
theorem dX12_fits_57 : decode cX12_fits 57 = .ok (.getfield 183, 3) := by decide +kernel
theorem dX12_fits_60 : decode cX12_fits 60 = .ok (.iload 6, 2) := by decide +kernel
theorem dX12_fits_62 : decode cX12_fits 62 = .ok (.iaload, 1) := by decide +kernel
theorem dX12_fits_63 : decode cX12_fits 63 = .ok (.iload 5, 2) := by decide +kernel
theorem dX12_fits_65 : decode cX12_fits 65 = .ok (.if_icmp .ne 25, 3) := by decide +kernel
theorem dX12_fits_68 : decode cX12_fits 68 = .ok (.aload_n 0, 1) := by decide +kernel
theorem dX12_fits_69 : decode cX12_fits 69 = .ok (.getfield 109, 3) := by decide +kernel
theorem dX12_fits_72 : decode cX12_fits 72 = .ok (.aload_n 0, 1) := by decide +kernel
theorem dX12_fits_73 : decode cX12_fits 73 = .ok (.getfield 177, 3) := by decide +kernel
theorem dX12_fits_76 : decode cX12_fits 76 = .ok (.iload 6, 2) := by decide +kernel
theorem dX12_fits_78 : decode cX12_fits 78 = .ok (.iaload, 1) := by decide +kernel
theorem dX12_fits_79 : decode cX12_fits 79 = .ok (.iaload, 1) := by decide +kernel
theorem dX12_fits_80 : decode cX12_fits 80 = .ok (.aload_n 0, 1) := by decide +kernel
theorem dX12_fits_81 : decode cX12_fits 81 = .ok (.getfield 180, 3) := by decide +kernel
theorem dX12_fits_84 : decode cX12_fits 84 = .ok (.iload 6, 2) := by decide +kernel
theorem dX12_fits_86 : decode cX12_fits 86 = .ok (.iaload, 1) := by decide +kernel
theorem dX12_fits_87 : decode cX12_fits 87 = .ok (.if_icmp .ne 7, 3) := by decide +kernel
theorem dX12_fits_90 : decode cX12_fits 90 = .ok (.iconst 1, 1) := by decide +kernel
theorem dX12_fits_91 : decode cX12_fits 91 = .ok (.goto 4, 3) := by decide +kernel
theorem dX12_fits_94 : decode cX12_fits 94 = .ok (.iconst 0, 1) := by decide +kernel
theorem dX12_fits_95 : decode cX12_fits 95 = .ok (.istore 4, 2) := by decide +kernel
theorem dX12_fits_97 : decode cX12_fits 97 = .ok (.iinc 6 1, 3) := by decide +kernel
theorem dX12_fits_100 : decode cX12_fits 100 = .ok (.goto (-55), 3) := by decide +kernel
theorem dX12_fits_103 : decode cX12_fits 103 = .ok (.iinc 5 1, 3) := by decide +kernel
theorem dX12_fits_106 : decode cX12_fits 106 = .ok (.goto (-80), 3) := by decide +kernel
theorem dX12_fits_109 : decode cX12_fits 109 = .ok (.aload_n 0, 1) := by decide +kernel
theorem dX12_fits_110 : decode cX12_fits 110 = .ok (.iconst 0, 1) := by decide +kernel
theorem dX12_fits_111 : decode cX12_fits 111 = .ok (.invokevirtual 420, 3) := by decide +kernel
theorem dX12_fits_114 : decode cX12_fits 114 = .ok (.iload 4, 2) := by decide +kernel
theorem dX12_fits_116 : decode cX12_fits 116 = .ok (.ireturn, 1) := by decide +kernel
theorem dX12_salted_0 : decode cX12_salted 0 = .ok (.iload_n 1, 1) := by decide +kernel
theorem dX12_salted_1 : decode cX12_salted 1 = .ok (.i2l, 1) := by decide +kernel
theorem dX12_salted_2 : decode cX12_salted 2 = .ok (.lconst 1, 1) := by decide +kernel
theorem dX12_salted_3 : decode cX12_salted 3 = .ok (.ldc2_w 470, 3) := by decide +kernel
theorem dX12_salted_6 : decode cX12_salted 6 = .ok (.invokestatic 188, 3) := by decide +kernel
theorem dX12_salted_9 : decode cX12_salted 9 = .ok (.ifCond .eq 25, 3) := by decide +kernel
theorem dX12_salted_12 : decode cX12_salted 12 = .ok (.iload_n 2, 1) := by decide +kernel
theorem dX12_salted_13 : decode cX12_salted 13 = .ok (.i2l, 1) := by decide +kernel
theorem dX12_salted_14 : decode cX12_salted 14 = .ok (.lconst 0, 1) := by decide +kernel
theorem dX12_salted_15 : decode cX12_salted 15 = .ok (.ldc2_w 465, 3) := by decide +kernel
theorem dX12_salted_18 : decode cX12_salted 18 = .ok (.invokestatic 188, 3) := by decide +kernel
theorem dX12_salted_21 : decode cX12_salted 21 = .ok (.ifCond .eq 13, 3) := by decide +kernel
theorem dX12_salted_24 : decode cX12_salted 24 = .ok (.iconst 3, 1) := by decide +kernel
theorem dX12_salted_25 : decode cX12_salted 25 = .ok (.iload_n 1, 1) := by decide +kernel
theorem dX12_salted_26 : decode cX12_salted 26 = .ok (.imul, 1) := by decide +kernel
theorem dX12_salted_27 : decode cX12_salted 27 = .ok (.aload_n 0, 1) := by decide +kernel
theorem dX12_salted_28 : decode cX12_salted 28 = .ok (.getfield 228, 3) := by decide +kernel
theorem dX12_salted_31 : decode cX12_salted 31 = .ok (.if_icmp .le 6, 3) := by decide +kernel
theorem dX12_salted_34 : decode cX12_salted 34 = .ok (.bipush (-3), 2) := by decide +kernel
theorem dX12_salted_36 : decode cX12_salted 36 = .ok (.ireturn, 1) := by decide +kernel
theorem dX12_salted_37 : decode cX12_salted 37 = .ok (.aload_n 0, 1) := by decide +kernel
theorem dX12_salted_38 : decode cX12_salted 38 = .ok (.iconst 0, 1) := by decide +kernel
theorem dX12_salted_39 : decode cX12_salted 39 = .ok (.putfield 228, 3) := by decide +kernel
theorem dX12_salted_42 : decode cX12_salted 42 = .ok (.aload_n 0, 1) := by decide +kernel
theorem dX12_salted_43 : decode cX12_salted 43 = .ok (.iload_n 1, 1) := by decide +kernel
theorem dX12_salted_44 : decode cX12_salted 44 = .ok (.invokevirtual 475, 3) := by decide +kernel
theorem dX12_salted_47 : decode cX12_salted 47 = .ok (.ifCond .ne 6, 3) := by decide +kernel
theorem dX12_salted_50 : decode cX12_salted 50 = .ok (.bipush (-2), 2) := by decide +kernel
theorem dX12_salted_52 : decode cX12_salted 52 = .ok (.ireturn, 1) := by decide +kernel
theorem dX12_salted_53 : decode cX12_salted 53 = .ok (.iconst 0, 1) := by decide +kernel
theorem dX12_salted_54 : decode cX12_salted 54 = .ok (.istore_n 3, 1) := by decide +kernel
theorem dX12_salted_55 : decode cX12_salted 55 = .ok (.bipush 13, 2) := by decide +kernel
theorem dX12_salted_57 : decode cX12_salted 57 = .ok (.istore 4, 2) := by decide +kernel
theorem dX12_salted_59 : decode cX12_salted 59 = .ok (.bipush 13, 2) := by decide +kernel
theorem dX12_salted_61 : decode cX12_salted 61 = .ok (.istore 5, 2) := by decide +kernel
theorem dX12_salted_63 : decode cX12_salted 63 = .ok (.iconst 0, 1) := by decide +kernel
theorem dX12_salted_64 : decode cX12_salted 64 = .ok (.istore 6, 2) := by decide +kernel
theorem dX12_salted_66 : decode cX12_salted 66 = .ok (.iload 6, 2) := by decide +kernel
theorem dX12_salted_68 : decode cX12_salted 68 = .ok (.aload_n 0, 1) := by decide +kernel
theorem dX12_salted_69 : decode cX12_salted 69 = .ok (.getfield 192, 3) := by decide +kernel
theorem dX12_salted_72 : decode cX12_salted 72 = .ok (.if_icmp .ge 65, 3) := by decide +kernel
theorem dX12_salted_75 : decode cX12_salted 75 = .ok (.iconst 0, 1) := by decide +kernel
theorem dX12_salted_76 : decode cX12_salted 76 = .ok (.istore 7, 2) := by decide +kernel
theorem dX12_salted_78 : decode cX12_salted 78 = .ok (.iload 7, 2) := by decide +kernel
theorem dX12_salted_80 : decode cX12_salted 80 = .ok (.bipush 10, 2) := by decide +kernel
theorem dX12_salted_82 : decode cX12_salted 82 = .ok (.if_icmp .ge 49, 3) := by decide +kernel
theorem dX12_salted_85 : decode cX12_salted 85 = .ok (.aload_n 0, 1) := by decide +kernel
theorem dX12_salted_86 : decode cX12_salted 86 = .ok (.getfield 39, 3) := by decide +kernel
theorem dX12_salted_89 : decode cX12_salted 89 = .ok (.iload 6, 2) := by decide +kernel
theorem dX12_salted_91 : decode cX12_salted 91 = .ok (.baload, 1) := by decide +kernel
theorem dX12_salted_92 : decode cX12_salted 92 = .ok (.ifCond .eq 39, 3) := by decide +kernel
theorem dX12_salted_95 : decode cX12_salted 95 = .ok (.aload_n 0, 1) := by decide +kernel
theorem dX12_salted_96 : decode cX12_salted 96 = .ok (.iload 6, 2) := by decide +kernel
theorem dX12_salted_98 : decode cX12_salted 98 = .ok (.iload 7, 2) := by decide +kernel
theorem dX12_salted_100 : decode cX12_salted 100 = .ok (.iload_n 1, 1) := by decide +kernel
theorem dX12_salted_101 : decode cX12_salted 101 = .ok (.invokevirtual 478, 3) := by decide +kernel
theorem dX12_salted_104 : decode cX12_salted 104 = .ok (.ifCond .ne 6, 3) := by decide +kernel
theorem dX12_salted_107 : decode cX12_salted 107 = .ok (.goto 18, 3) := by decide +kernel
theorem dX12_salted_110 : decode cX12_salted 110 = .ok (.iload_n 3, 1) := by decide +kernel
theorem dX12_salted_111 : decode cX12_salted 111 = .ok (.ifCond .ne 11, 3) := by decide +kernel
theorem dX12_salted_114 : decode cX12_salted 114 = .ok (.iload 6, 2) := by decide +kernel
theorem dX12_salted_116 : decode cX12_salted 116 = .ok (.istore 4, 2) := by decide +kernel
theorem dX12_salted_118 : decode cX12_salted 118 = .ok (.iload 7, 2) := by decide +kernel
theorem dX12_salted_120 : decode cX12_salted 120 = .ok (.istore 5, 2) := by decide +kernel
theorem dX12_salted_122 : decode cX12_salted 122 = .ok (.iinc 3 1, 3) := by decide +kernel
theorem dX12_salted_125 : decode cX12_salted 125 = .ok (.iinc 7 1, 3) := by decide +kernel
theorem dX12_salted_128 : decode cX12_salted 128 = .ok (.goto (-50), 3) := by decide +kernel
theorem dX12_salted_131 : decode cX12_salted 131 = .ok (.iinc 6 1, 3) := by decide +kernel
theorem dX12_salted_134 : decode cX12_salted 134 = .ok (.goto (-68), 3) := by decide +kernel
theorem dX12_salted_137 : decode cX12_salted 137 = .ok (.aload_n 0, 1) := by decide +kernel
theorem dX12_salted_138 : decode cX12_salted 138 = .ok (.iconst (-1), 1) := by decide +kernel
theorem dX12_salted_139 : decode cX12_salted 139 = .ok (.iconst 0, 1) := by decide +kernel
theorem dX12_salted_140 : decode cX12_salted 140 = .ok (.iload_n 1, 1) := by decide +kernel
theorem dX12_salted_141 : decode cX12_salted 141 = .ok (.invokevirtual 478, 3) := by decide +kernel
theorem dX12_salted_144 : decode cX12_salted 144 = .ok (.ifCond .eq 18, 3) := by decide +kernel
theorem dX12_salted_147 : decode cX12_salted 147 = .ok (.iload_n 3, 1) := by decide +kernel
theorem dX12_salted_148 : decode cX12_salted 148 = .ok (.ifCond .ne 11, 3) := by decide +kernel
theorem dX12_salted_151 : decode cX12_salted 151 = .ok (.bipush 12, 2) := by decide +kernel
theorem dX12_salted_153 : decode cX12_salted 153 = .ok (.istore 4, 2) := by decide +kernel
theorem dX12_salted_155 : decode cX12_salted 155 = .ok (.bipush 12, 2) := by decide +kernel
theorem dX12_salted_157 : decode cX12_salted 157 = .ok (.istore 5, 2) := by decide +kernel
theorem dX12_salted_159 : decode cX12_salted 159 = .ok (.iinc 3 1, 3) := by decide +kernel
theorem dX12_salted_162 : decode cX12_salted 162 = .ok (.iload_n 2, 1) := by decide +kernel
theorem dX12_salted_163 : decode cX12_salted 163 = .ok (.ifCond .ne 7, 3) := by decide +kernel
theorem dX12_salted_166 : decode cX12_salted 166 = .ok (.iload_n 3, 1) := by decide +kernel
theorem dX12_salted_167 : decode cX12_salted 167 = .ok (.goto 15, 3) := by decide +kernel
theorem dX12_salted_170 : decode cX12_salted 170 = .ok (.iload_n 2, 1) := by decide +kernel
theorem dX12_salted_171 : decode cX12_salted 171 = .ok (.iconst 1, 1) := by decide +kernel
theorem dX12_salted_172 : decode cX12_salted 172 = .ok (.if_icmp .ne 8, 3) := by decide +kernel
theorem dX12_salted_175 : decode cX12_salted 175 = .ok (.iload 4, 2) := by decide +kernel
theorem dX12_salted_177 : decode cX12_salted 177 = .ok (.goto 5, 3) := by decide +kernel
theorem dX12_salted_180 : decode cX12_salted 180 = .ok (.iload 5, 2) := by decide +kernel
theorem dX12_salted_182 : decode cX12_salted 182 = .ok (.ireturn, 1) := by decide +kernel
theorem dX12_canJoin_0 : decode cX12_canJoin 0 = .ok (.iload_n 1, 1) := by decide +kernel
theorem dX12_canJoin_1 : decode cX12_canJoin 1 = .ok (.iload_n 2, 1) := by decide +kernel
theorem dX12_canJoin_2 : decode cX12_canJoin 2 = .ok (.if_icmp .eq 59, 3) := by decide +kernel
theorem dX12_canJoin_5 : decode cX12_canJoin 5 = .ok (.aload_n 0, 1) := by decide +kernel
theorem dX12_canJoin_6 : decode cX12_canJoin 6 = .ok (.getfield 39, 3) := by decide +kernel
theorem dX12_canJoin_9 : decode cX12_canJoin 9 = .ok (.iload_n 1, 1) := by decide +kernel
theorem dX12_canJoin_10 : decode cX12_canJoin 10 = .ok (.baload, 1) := by decide +kernel
theorem dX12_canJoin_11 : decode cX12_canJoin 11 = .ok (.ifCond .eq 50, 3) := by decide +kernel
theorem dX12_canJoin_14 : decode cX12_canJoin 14 = .ok (.aload_n 0, 1) := by decide +kernel
theorem dX12_canJoin_15 : decode cX12_canJoin 15 = .ok (.getfield 39, 3) := by decide +kernel
theorem dX12_canJoin_18 : decode cX12_canJoin 18 = .ok (.iload_n 2, 1) := by decide +kernel
theorem dX12_canJoin_19 : decode cX12_canJoin 19 = .ok (.baload, 1) := by decide +kernel
theorem dX12_canJoin_20 : decode cX12_canJoin 20 = .ok (.ifCond .eq 41, 3) := by decide +kernel
theorem dX12_canJoin_23 : decode cX12_canJoin 23 = .ok (.aload_n 0, 1) := by decide +kernel
theorem dX12_canJoin_24 : decode cX12_canJoin 24 = .ok (.getfield 24, 3) := by decide +kernel
theorem dX12_canJoin_27 : decode cX12_canJoin 27 = .ok (.iload_n 1, 1) := by decide +kernel
theorem dX12_canJoin_28 : decode cX12_canJoin 28 = .ok (.iaload, 1) := by decide +kernel
theorem dX12_canJoin_29 : decode cX12_canJoin 29 = .ok (.aload_n 0, 1) := by decide +kernel
theorem dX12_canJoin_30 : decode cX12_canJoin 30 = .ok (.getfield 24, 3) := by decide +kernel
theorem dX12_canJoin_33 : decode cX12_canJoin 33 = .ok (.iload_n 2, 1) := by decide +kernel
theorem dX12_canJoin_34 : decode cX12_canJoin 34 = .ok (.iaload, 1) := by decide +kernel
theorem dX12_canJoin_35 : decode cX12_canJoin 35 = .ok (.if_icmp .ne 26, 3) := by decide +kernel
theorem dX12_canJoin_38 : decode cX12_canJoin 38 = .ok (.aload_n 0, 1) := by decide +kernel
theorem dX12_canJoin_39 : decode cX12_canJoin 39 = .ok (.getfield 20, 3) := by decide +kernel
theorem dX12_canJoin_42 : decode cX12_canJoin 42 = .ok (.iload_n 1, 1) := by decide +kernel
theorem dX12_canJoin_43 : decode cX12_canJoin 43 = .ok (.iaload, 1) := by decide +kernel
theorem dX12_canJoin_44 : decode cX12_canJoin 44 = .ok (.aload_n 0, 1) := by decide +kernel
theorem dX12_canJoin_45 : decode cX12_canJoin 45 = .ok (.getfield 20, 3) := by decide +kernel
theorem dX12_canJoin_48 : decode cX12_canJoin 48 = .ok (.iload_n 2, 1) := by decide +kernel
theorem dX12_canJoin_49 : decode cX12_canJoin 49 = .ok (.iaload, 1) := by decide +kernel
theorem dX12_canJoin_50 : decode cX12_canJoin 50 = .ok (.invokestatic 355, 3) := by decide +kernel
theorem dX12_canJoin_53 : decode cX12_canJoin 53 = .ok (.iload_n 3, 1) := by decide +kernel
theorem dX12_canJoin_54 : decode cX12_canJoin 54 = .ok (.if_icmp .gt 7, 3) := by decide +kernel
theorem dX12_canJoin_57 : decode cX12_canJoin 57 = .ok (.iconst 1, 1) := by decide +kernel
theorem dX12_canJoin_58 : decode cX12_canJoin 58 = .ok (.goto 4, 3) := by decide +kernel
theorem dX12_canJoin_61 : decode cX12_canJoin 61 = .ok (.iconst 0, 1) := by decide +kernel
theorem dX12_canJoin_62 : decode cX12_canJoin 62 = .ok (.ireturn, 1) := by decide +kernel
theorem dX12_joinsOne_0 : decode cX12_joinsOne 0 = .ok (.iconst 0, 1) := by decide +kernel
theorem dX12_joinsOne_1 : decode cX12_joinsOne 1 = .ok (.istore_n 2, 1) := by decide +kernel
theorem dX12_joinsOne_2 : decode cX12_joinsOne 2 = .ok (.iload_n 2, 1) := by decide +kernel
theorem dX12_joinsOne_3 : decode cX12_joinsOne 3 = .ok (.aload_n 0, 1) := by decide +kernel
theorem dX12_joinsOne_4 : decode cX12_joinsOne 4 = .ok (.getfield 192, 3) := by decide +kernel
theorem dX12_joinsOne_7 : decode cX12_joinsOne 7 = .ok (.if_icmp .ge 185, 3) := by decide +kernel
theorem dX12_joinsOne_10 : decode cX12_joinsOne 10 = .ok (.iload_n 2, 1) := by decide +kernel
theorem dX12_joinsOne_11 : decode cX12_joinsOne 11 = .ok (.iconst 1, 1) := by decide +kernel
theorem dX12_joinsOne_12 : decode cX12_joinsOne 12 = .ok (.iadd, 1) := by decide +kernel
theorem dX12_joinsOne_13 : decode cX12_joinsOne 13 = .ok (.istore_n 3, 1) := by decide +kernel
theorem dX12_joinsOne_14 : decode cX12_joinsOne 14 = .ok (.iload_n 3, 1) := by decide +kernel
theorem dX12_joinsOne_15 : decode cX12_joinsOne 15 = .ok (.aload_n 0, 1) := by decide +kernel
theorem dX12_joinsOne_16 : decode cX12_joinsOne 16 = .ok (.getfield 192, 3) := by decide +kernel
theorem dX12_joinsOne_19 : decode cX12_joinsOne 19 = .ok (.if_icmp .ge 167, 3) := by decide +kernel
theorem dX12_joinsOne_22 : decode cX12_joinsOne 22 = .ok (.aload_n 0, 1) := by decide +kernel
theorem dX12_joinsOne_23 : decode cX12_joinsOne 23 = .ok (.iload_n 2, 1) := by decide +kernel
theorem dX12_joinsOne_24 : decode cX12_joinsOne 24 = .ok (.iload_n 3, 1) := by decide +kernel
theorem dX12_joinsOne_25 : decode cX12_joinsOne 25 = .ok (.iload_n 1, 1) := by decide +kernel
theorem dX12_joinsOne_26 : decode cX12_joinsOne 26 = .ok (.invokevirtual 482, 3) := by decide +kernel
theorem dX12_joinsOne_29 : decode cX12_joinsOne 29 = .ok (.ifCond .ne 6, 3) := by decide +kernel
theorem dX12_joinsOne_32 : decode cX12_joinsOne 32 = .ok (.goto 148, 3) := by decide +kernel
theorem dX12_joinsOne_35 : decode cX12_joinsOne 35 = .ok (.aload_n 0, 1) := by decide +kernel
theorem dX12_joinsOne_36 : decode cX12_joinsOne 36 = .ok (.getfield 27, 3) := by decide +kernel
theorem dX12_joinsOne_39 : decode cX12_joinsOne 39 = .ok (.iload_n 2, 1) := by decide +kernel
theorem dX12_joinsOne_40 : decode cX12_joinsOne 40 = .ok (.dup2, 1) := by decide +kernel
theorem dX12_joinsOne_41 : decode cX12_joinsOne 41 = .ok (.iaload, 1) := by decide +kernel
theorem dX12_joinsOne_42 : decode cX12_joinsOne 42 = .ok (.aload_n 0, 1) := by decide +kernel
theorem dX12_joinsOne_43 : decode cX12_joinsOne 43 = .ok (.getfield 27, 3) := by decide +kernel
theorem dX12_joinsOne_46 : decode cX12_joinsOne 46 = .ok (.iload_n 3, 1) := by decide +kernel
theorem dX12_joinsOne_47 : decode cX12_joinsOne 47 = .ok (.iaload, 1) := by decide +kernel
theorem dX12_joinsOne_48 : decode cX12_joinsOne 48 = .ok (.iadd, 1) := by decide +kernel
theorem dX12_joinsOne_49 : decode cX12_joinsOne 49 = .ok (.iastore, 1) := by decide +kernel
theorem dX12_joinsOne_50 : decode cX12_joinsOne 50 = .ok (.aload_n 0, 1) := by decide +kernel
theorem dX12_joinsOne_51 : decode cX12_joinsOne 51 = .ok (.getfield 27, 3) := by decide +kernel
theorem dX12_joinsOne_54 : decode cX12_joinsOne 54 = .ok (.iload_n 3, 1) := by decide +kernel
theorem dX12_joinsOne_55 : decode cX12_joinsOne 55 = .ok (.iconst 0, 1) := by decide +kernel
theorem dX12_joinsOne_56 : decode cX12_joinsOne 56 = .ok (.iastore, 1) := by decide +kernel
theorem dX12_joinsOne_57 : decode cX12_joinsOne 57 = .ok (.aload_n 0, 1) := by decide +kernel
theorem dX12_joinsOne_58 : decode cX12_joinsOne 58 = .ok (.getfield 30, 3) := by decide +kernel
theorem dX12_joinsOne_61 : decode cX12_joinsOne 61 = .ok (.iload_n 2, 1) := by decide +kernel
theorem dX12_joinsOne_62 : decode cX12_joinsOne 62 = .ok (.aload_n 0, 1) := by decide +kernel
theorem dX12_joinsOne_63 : decode cX12_joinsOne 63 = .ok (.getfield 30, 3) := by decide +kernel
theorem dX12_joinsOne_66 : decode cX12_joinsOne 66 = .ok (.iload_n 2, 1) := by decide +kernel
theorem dX12_joinsOne_67 : decode cX12_joinsOne 67 = .ok (.iaload, 1) := by decide +kernel
theorem dX12_joinsOne_68 : decode cX12_joinsOne 68 = .ok (.aload_n 0, 1) := by decide +kernel
theorem dX12_joinsOne_69 : decode cX12_joinsOne 69 = .ok (.getfield 30, 3) := by decide +kernel
theorem dX12_joinsOne_72 : decode cX12_joinsOne 72 = .ok (.iload_n 3, 1) := by decide +kernel
theorem dX12_joinsOne_73 : decode cX12_joinsOne 73 = .ok (.iaload, 1) := by decide +kernel
theorem dX12_joinsOne_74 : decode cX12_joinsOne 74 = .ok (.iadd, 1) := by decide +kernel
theorem dX12_joinsOne_75 : decode cX12_joinsOne 75 = .ok (.bipush 99, 2) := by decide +kernel
theorem dX12_joinsOne_77 : decode cX12_joinsOne 77 = .ok (.if_icmp .le 8, 3) := by decide +kernel
theorem dX12_joinsOne_80 : decode cX12_joinsOne 80 = .ok (.bipush 99, 2) := by decide +kernel
theorem dX12_joinsOne_82 : decode cX12_joinsOne 82 = .ok (.goto 16, 3) := by decide +kernel
theorem dX12_joinsOne_85 : decode cX12_joinsOne 85 = .ok (.aload_n 0, 1) := by decide +kernel
theorem dX12_joinsOne_86 : decode cX12_joinsOne 86 = .ok (.getfield 30, 3) := by decide +kernel
theorem dX12_joinsOne_89 : decode cX12_joinsOne 89 = .ok (.iload_n 2, 1) := by decide +kernel
theorem dX12_joinsOne_90 : decode cX12_joinsOne 90 = .ok (.iaload, 1) := by decide +kernel
theorem dX12_joinsOne_91 : decode cX12_joinsOne 91 = .ok (.aload_n 0, 1) := by decide +kernel
theorem dX12_joinsOne_92 : decode cX12_joinsOne 92 = .ok (.getfield 30, 3) := by decide +kernel
theorem dX12_joinsOne_95 : decode cX12_joinsOne 95 = .ok (.iload_n 3, 1) := by decide +kernel
theorem dX12_joinsOne_96 : decode cX12_joinsOne 96 = .ok (.iaload, 1) := by decide +kernel
theorem dX12_joinsOne_97 : decode cX12_joinsOne 97 = .ok (.iadd, 1) := by decide +kernel
theorem dX12_joinsOne_98 : decode cX12_joinsOne 98 = .ok (.iastore, 1) := by decide +kernel
theorem dX12_joinsOne_99 : decode cX12_joinsOne 99 = .ok (.aload_n 0, 1) := by decide +kernel
theorem dX12_joinsOne_100 : decode cX12_joinsOne 100 = .ok (.getfield 33, 3) := by decide +kernel
theorem dX12_joinsOne_103 : decode cX12_joinsOne 103 = .ok (.iload_n 2, 1) := by decide +kernel
theorem dX12_joinsOne_104 : decode cX12_joinsOne 104 = .ok (.aload_n 0, 1) := by decide +kernel
theorem dX12_joinsOne_105 : decode cX12_joinsOne 105 = .ok (.getfield 33, 3) := by decide +kernel
theorem dX12_joinsOne_108 : decode cX12_joinsOne 108 = .ok (.iload_n 3, 1) := by decide +kernel
theorem dX12_joinsOne_109 : decode cX12_joinsOne 109 = .ok (.iaload, 1) := by decide +kernel
theorem dX12_joinsOne_110 : decode cX12_joinsOne 110 = .ok (.aload_n 0, 1) := by decide +kernel
theorem dX12_joinsOne_111 : decode cX12_joinsOne 111 = .ok (.getfield 33, 3) := by decide +kernel
theorem dX12_joinsOne_114 : decode cX12_joinsOne 114 = .ok (.iload_n 2, 1) := by decide +kernel
theorem dX12_joinsOne_115 : decode cX12_joinsOne 115 = .ok (.iaload, 1) := by decide +kernel
theorem dX12_joinsOne_116 : decode cX12_joinsOne 116 = .ok (.if_icmp .le 12, 3) := by decide +kernel
theorem dX12_joinsOne_119 : decode cX12_joinsOne 119 = .ok (.aload_n 0, 1) := by decide +kernel
theorem dX12_joinsOne_120 : decode cX12_joinsOne 120 = .ok (.getfield 33, 3) := by decide +kernel
theorem dX12_joinsOne_123 : decode cX12_joinsOne 123 = .ok (.iload_n 3, 1) := by decide +kernel
theorem dX12_joinsOne_124 : decode cX12_joinsOne 124 = .ok (.iaload, 1) := by decide +kernel
theorem dX12_joinsOne_125 : decode cX12_joinsOne 125 = .ok (.goto 9, 3) := by decide +kernel
theorem dX12_joinsOne_128 : decode cX12_joinsOne 128 = .ok (.aload_n 0, 1) := by decide +kernel
theorem dX12_joinsOne_129 : decode cX12_joinsOne 129 = .ok (.getfield 33, 3) := by decide +kernel
theorem dX12_joinsOne_132 : decode cX12_joinsOne 132 = .ok (.iload_n 2, 1) := by decide +kernel
theorem dX12_joinsOne_133 : decode cX12_joinsOne 133 = .ok (.iaload, 1) := by decide +kernel
theorem dX12_joinsOne_134 : decode cX12_joinsOne 134 = .ok (.iastore, 1) := by decide +kernel
theorem dX12_joinsOne_135 : decode cX12_joinsOne 135 = .ok (.aload_n 0, 1) := by decide +kernel
theorem dX12_joinsOne_136 : decode cX12_joinsOne 136 = .ok (.getfield 36, 3) := by decide +kernel
theorem dX12_joinsOne_139 : decode cX12_joinsOne 139 = .ok (.iload_n 2, 1) := by decide +kernel
theorem dX12_joinsOne_140 : decode cX12_joinsOne 140 = .ok (.aload_n 0, 1) := by decide +kernel
theorem dX12_joinsOne_141 : decode cX12_joinsOne 141 = .ok (.getfield 36, 3) := by decide +kernel
theorem dX12_joinsOne_144 : decode cX12_joinsOne 144 = .ok (.iload_n 3, 1) := by decide +kernel
theorem dX12_joinsOne_145 : decode cX12_joinsOne 145 = .ok (.iaload, 1) := by decide +kernel
theorem dX12_joinsOne_146 : decode cX12_joinsOne 146 = .ok (.aload_n 0, 1) := by decide +kernel
theorem dX12_joinsOne_147 : decode cX12_joinsOne 147 = .ok (.getfield 36, 3) := by decide +kernel
theorem dX12_joinsOne_150 : decode cX12_joinsOne 150 = .ok (.iload_n 2, 1) := by decide +kernel
theorem dX12_joinsOne_151 : decode cX12_joinsOne 151 = .ok (.iaload, 1) := by decide +kernel
theorem dX12_joinsOne_152 : decode cX12_joinsOne 152 = .ok (.if_icmp .le 12, 3) := by decide +kernel
theorem dX12_joinsOne_155 : decode cX12_joinsOne 155 = .ok (.aload_n 0, 1) := by decide +kernel
theorem dX12_joinsOne_156 : decode cX12_joinsOne 156 = .ok (.getfield 36, 3) := by decide +kernel
theorem dX12_joinsOne_159 : decode cX12_joinsOne 159 = .ok (.iload_n 3, 1) := by decide +kernel
theorem dX12_joinsOne_160 : decode cX12_joinsOne 160 = .ok (.iaload, 1) := by decide +kernel
theorem dX12_joinsOne_161 : decode cX12_joinsOne 161 = .ok (.goto 9, 3) := by decide +kernel
theorem dX12_joinsOne_164 : decode cX12_joinsOne 164 = .ok (.aload_n 0, 1) := by decide +kernel
theorem dX12_joinsOne_165 : decode cX12_joinsOne 165 = .ok (.getfield 36, 3) := by decide +kernel
theorem dX12_joinsOne_168 : decode cX12_joinsOne 168 = .ok (.iload_n 2, 1) := by decide +kernel
theorem dX12_joinsOne_169 : decode cX12_joinsOne 169 = .ok (.iaload, 1) := by decide +kernel
theorem dX12_joinsOne_170 : decode cX12_joinsOne 170 = .ok (.iastore, 1) := by decide +kernel
theorem dX12_joinsOne_171 : decode cX12_joinsOne 171 = .ok (.aload_n 0, 1) := by decide +kernel
theorem dX12_joinsOne_172 : decode cX12_joinsOne 172 = .ok (.getfield 39, 3) := by decide +kernel
theorem dX12_joinsOne_175 : decode cX12_joinsOne 175 = .ok (.iload_n 3, 1) := by decide +kernel
theorem dX12_joinsOne_176 : decode cX12_joinsOne 176 = .ok (.iconst 0, 1) := by decide +kernel
theorem dX12_joinsOne_177 : decode cX12_joinsOne 177 = .ok (.bastore, 1) := by decide +kernel
theorem dX12_joinsOne_178 : decode cX12_joinsOne 178 = .ok (.iconst 1, 1) := by decide +kernel
theorem dX12_joinsOne_179 : decode cX12_joinsOne 179 = .ok (.ireturn, 1) := by decide +kernel
theorem dX12_joinsOne_180 : decode cX12_joinsOne 180 = .ok (.iinc 3 1, 3) := by decide +kernel
theorem dX12_joinsOne_183 : decode cX12_joinsOne 183 = .ok (.goto (-169), 3) := by decide +kernel
theorem dX12_joinsOne_186 : decode cX12_joinsOne 186 = .ok (.iinc 2 1, 3) := by decide +kernel
theorem dX12_joinsOne_189 : decode cX12_joinsOne 189 = .ok (.goto (-187), 3) := by decide +kernel
theorem dX12_joinsOne_192 : decode cX12_joinsOne 192 = .ok (.iconst 0, 1) := by decide +kernel
theorem dX12_joinsOne_193 : decode cX12_joinsOne 193 = .ok (.ireturn, 1) := by decide +kernel
theorem dX12_storm_0 : decode cX12_storm 0 = .ok (.iload_n 1, 1) := by decide +kernel
theorem dX12_storm_1 : decode cX12_storm 1 = .ok (.i2l, 1) := by decide +kernel
theorem dX12_storm_2 : decode cX12_storm 2 = .ok (.lconst 1, 1) := by decide +kernel
theorem dX12_storm_3 : decode cX12_storm 3 = .ok (.ldc2_w 186, 3) := by decide +kernel
theorem dX12_storm_6 : decode cX12_storm 6 = .ok (.invokestatic 188, 3) := by decide +kernel
theorem dX12_storm_9 : decode cX12_storm 9 = .ok (.ifCond .ne 5, 3) := by decide +kernel
theorem dX12_storm_12 : decode cX12_storm 12 = .ok (.iconst (-1), 1) := by decide +kernel
theorem dX12_storm_13 : decode cX12_storm 13 = .ok (.ireturn, 1) := by decide +kernel
theorem dX12_storm_14 : decode cX12_storm 14 = .ok (.iconst 0, 1) := by decide +kernel
theorem dX12_storm_15 : decode cX12_storm 15 = .ok (.istore_n 2, 1) := by decide +kernel
theorem dX12_storm_16 : decode cX12_storm 16 = .ok (.aload_n 0, 1) := by decide +kernel
theorem dX12_storm_17 : decode cX12_storm 17 = .ok (.iload_n 1, 1) := by decide +kernel
theorem dX12_storm_18 : decode cX12_storm 18 = .ok (.invokevirtual 485, 3) := by decide +kernel
theorem dX12_storm_21 : decode cX12_storm 21 = .ok (.ifCond .eq 9, 3) := by decide +kernel
theorem dX12_storm_24 : decode cX12_storm 24 = .ok (.iinc 2 1, 3) := by decide +kernel
theorem dX12_storm_27 : decode cX12_storm 27 = .ok (.goto (-11), 3) := by decide +kernel
theorem dX12_storm_30 : decode cX12_storm 30 = .ok (.iload_n 2, 1) := by decide +kernel
theorem dX12_storm_31 : decode cX12_storm 31 = .ok (.ireturn, 1) := by decide +kernel
theorem dX12_seed_0 : decode cX12_seed 0 = .ok (.iload_n 1, 1) := by decide +kernel
theorem dX12_seed_1 : decode cX12_seed 1 = .ok (.i2l, 1) := by decide +kernel
theorem dX12_seed_2 : decode cX12_seed 2 = .ok (.lconst 0, 1) := by decide +kernel
theorem dX12_seed_3 : decode cX12_seed 3 = .ok (.ldc2_w 488, 3) := by decide +kernel
theorem dX12_seed_6 : decode cX12_seed 6 = .ok (.invokestatic 188, 3) := by decide +kernel
theorem dX12_seed_9 : decode cX12_seed 9 = .ok (.ifCond .ne 5, 3) := by decide +kernel
theorem dX12_seed_12 : decode cX12_seed 12 = .ok (.iconst 0, 1) := by decide +kernel
theorem dX12_seed_13 : decode cX12_seed 13 = .ok (.ireturn, 1) := by decide +kernel
theorem dX12_seed_14 : decode cX12_seed 14 = .ok (.aload_n 0, 1) := by decide +kernel
theorem dX12_seed_15 : decode cX12_seed 15 = .ok (.iload_n 1, 1) := by decide +kernel
theorem dX12_seed_16 : decode cX12_seed 16 = .ok (.putfield 13, 3) := by decide +kernel
theorem dX12_seed_19 : decode cX12_seed 19 = .ok (.iconst 1, 1) := by decide +kernel
theorem dX12_seed_20 : decode cX12_seed 20 = .ok (.ireturn, 1) := by decide +kernel
theorem dX12_wanders_0 : decode cX12_wanders 0 = .ok (.aload_n 0, 1) := by decide +kernel
theorem dX12_wanders_1 : decode cX12_wanders 1 = .ok (.iload_n 1, 1) := by decide +kernel
theorem dX12_wanders_2 : decode cX12_wanders 2 = .ok (.invokevirtual 217, 3) := by decide +kernel
theorem dX12_wanders_5 : decode cX12_wanders 5 = .ok (.ifCond .ne 4, 3) := by decide +kernel
theorem dX12_wanders_8 : decode cX12_wanders 8 = .ok (.return_, 1) := by decide +kernel
theorem dX12_wanders_9 : decode cX12_wanders 9 = .ok (.aload_n 0, 1) := by decide +kernel
theorem dX12_wanders_10 : decode cX12_wanders 10 = .ok (.getfield 43, 3) := by decide +kernel
theorem dX12_wanders_13 : decode cX12_wanders 13 = .ok (.iload_n 1, 1) := by decide +kernel
theorem dX12_wanders_14 : decode cX12_wanders 14 = .ok (.iaload, 1) := by decide +kernel
theorem dX12_wanders_15 : decode cX12_wanders 15 = .ok (.bipush 10, 2) := by decide +kernel
theorem dX12_wanders_17 : decode cX12_wanders 17 = .ok (.irem, 1) := by decide +kernel
theorem dX12_wanders_18 : decode cX12_wanders 18 = .ok (.iload_n 2, 1) := by decide +kernel
theorem dX12_wanders_19 : decode cX12_wanders 19 = .ok (.iconst 1, 1) := by decide +kernel
theorem dX12_wanders_20 : decode cX12_wanders 20 = .ok (.if_icmp .ne 7, 3) := by decide +kernel
theorem dX12_wanders_23 : decode cX12_wanders 23 = .ok (.iconst 1, 1) := by decide +kernel
theorem dX12_wanders_24 : decode cX12_wanders 24 = .ok (.goto 13, 3) := by decide +kernel
theorem dX12_wanders_27 : decode cX12_wanders 27 = .ok (.iload_n 2, 1) := by decide +kernel
theorem dX12_wanders_28 : decode cX12_wanders 28 = .ok (.iconst 3, 1) := by decide +kernel
theorem dX12_wanders_29 : decode cX12_wanders 29 = .ok (.if_icmp .ne 7, 3) := by decide +kernel
theorem dX12_wanders_32 : decode cX12_wanders 32 = .ok (.iconst (-1), 1) := by decide +kernel
theorem dX12_wanders_33 : decode cX12_wanders 33 = .ok (.goto 4, 3) := by decide +kernel
theorem dX12_wanders_36 : decode cX12_wanders 36 = .ok (.iconst 0, 1) := by decide +kernel
theorem dX12_wanders_37 : decode cX12_wanders 37 = .ok (.iadd, 1) := by decide +kernel
theorem dX12_wanders_38 : decode cX12_wanders 38 = .ok (.istore_n 3, 1) := by decide +kernel
theorem dX12_wanders_39 : decode cX12_wanders 39 = .ok (.aload_n 0, 1) := by decide +kernel
theorem dX12_wanders_40 : decode cX12_wanders 40 = .ok (.getfield 43, 3) := by decide +kernel
theorem dX12_wanders_43 : decode cX12_wanders 43 = .ok (.iload_n 1, 1) := by decide +kernel
theorem dX12_wanders_44 : decode cX12_wanders 44 = .ok (.iaload, 1) := by decide +kernel
theorem dX12_wanders_45 : decode cX12_wanders 45 = .ok (.bipush 10, 2) := by decide +kernel
theorem dX12_wanders_47 : decode cX12_wanders 47 = .ok (.idiv, 1) := by decide +kernel
theorem dX12_wanders_48 : decode cX12_wanders 48 = .ok (.iload_n 2, 1) := by decide +kernel
theorem dX12_wanders_49 : decode cX12_wanders 49 = .ok (.ifCond .ne 7, 3) := by decide +kernel
theorem dX12_wanders_52 : decode cX12_wanders 52 = .ok (.iconst 1, 1) := by decide +kernel
theorem dX12_wanders_53 : decode cX12_wanders 53 = .ok (.goto 13, 3) := by decide +kernel
theorem dX12_wanders_56 : decode cX12_wanders 56 = .ok (.iload_n 2, 1) := by decide +kernel
theorem dX12_wanders_57 : decode cX12_wanders 57 = .ok (.iconst 2, 1) := by decide +kernel
theorem dX12_wanders_58 : decode cX12_wanders 58 = .ok (.if_icmp .ne 7, 3) := by decide +kernel
theorem dX12_wanders_61 : decode cX12_wanders 61 = .ok (.iconst (-1), 1) := by decide +kernel
theorem dX12_wanders_62 : decode cX12_wanders 62 = .ok (.goto 4, 3) := by decide +kernel
theorem dX12_wanders_65 : decode cX12_wanders 65 = .ok (.iconst 0, 1) := by decide +kernel
theorem dX12_wanders_66 : decode cX12_wanders 66 = .ok (.iadd, 1) := by decide +kernel
theorem dX12_wanders_67 : decode cX12_wanders 67 = .ok (.istore 4, 2) := by decide +kernel
theorem dX12_wanders_69 : decode cX12_wanders 69 = .ok (.iload_n 3, 1) := by decide +kernel
theorem dX12_wanders_70 : decode cX12_wanders 70 = .ok (.invokestatic 206, 3) := by decide +kernel
theorem dX12_wanders_73 : decode cX12_wanders 73 = .ok (.ifCond .eq 24, 3) := by decide +kernel
theorem dX12_wanders_76 : decode cX12_wanders 76 = .ok (.iload 4, 2) := by decide +kernel
theorem dX12_wanders_78 : decode cX12_wanders 78 = .ok (.invokestatic 206, 3) := by decide +kernel
theorem dX12_wanders_81 : decode cX12_wanders 81 = .ok (.ifCond .eq 16, 3) := by decide +kernel
theorem dX12_wanders_84 : decode cX12_wanders 84 = .ok (.aload_n 0, 1) := by decide +kernel
theorem dX12_wanders_85 : decode cX12_wanders 85 = .ok (.getfield 43, 3) := by decide +kernel
theorem dX12_wanders_88 : decode cX12_wanders 88 = .ok (.iload_n 1, 1) := by decide +kernel
theorem dX12_wanders_89 : decode cX12_wanders 89 = .ok (.bipush 10, 2) := by decide +kernel
theorem dX12_wanders_91 : decode cX12_wanders 91 = .ok (.iload 4, 2) := by decide +kernel
theorem dX12_wanders_93 : decode cX12_wanders 93 = .ok (.imul, 1) := by decide +kernel
theorem dX12_wanders_94 : decode cX12_wanders 94 = .ok (.iload_n 3, 1) := by decide +kernel
theorem dX12_wanders_95 : decode cX12_wanders 95 = .ok (.iadd, 1) := by decide +kernel
theorem dX12_wanders_96 : decode cX12_wanders 96 = .ok (.iastore, 1) := by decide +kernel
theorem dX12_wanders_97 : decode cX12_wanders 97 = .ok (.return_, 1) := by decide +kernel
theorem dX12_draw_0 : decode cX12_draw 0 = .ok (.iload_n 1, 1) := by decide +kernel
theorem dX12_draw_1 : decode cX12_draw 1 = .ok (.invokestatic 398, 3) := by decide +kernel
theorem dX12_draw_4 : decode cX12_draw 4 = .ok (.ifCond .ne 5, 3) := by decide +kernel
theorem dX12_draw_7 : decode cX12_draw 7 = .ok (.iconst (-1), 1) := by decide +kernel
theorem dX12_draw_8 : decode cX12_draw 8 = .ok (.ireturn, 1) := by decide +kernel
theorem dX12_draw_9 : decode cX12_draw 9 = .ok (.aload_n 0, 1) := by decide +kernel
theorem dX12_draw_10 : decode cX12_draw 10 = .ok (.iconst 0, 1) := by decide +kernel
theorem dX12_draw_11 : decode cX12_draw 11 = .ok (.putfield 390, 3) := by decide +kernel
theorem dX12_draw_14 : decode cX12_draw 14 = .ok (.iconst 0, 1) := by decide +kernel
theorem dX12_draw_15 : decode cX12_draw 15 = .ok (.istore_n 2, 1) := by decide +kernel
theorem dX12_draw_16 : decode cX12_draw 16 = .ok (.iload_n 2, 1) := by decide +kernel
theorem dX12_draw_17 : decode cX12_draw 17 = .ok (.iload_n 1, 1) := by decide +kernel
theorem dX12_draw_18 : decode cX12_draw 18 = .ok (.if_icmp .ge 52, 3) := by decide +kernel
theorem dX12_draw_21 : decode cX12_draw 21 = .ok (.aload_n 0, 1) := by decide +kernel
theorem dX12_draw_22 : decode cX12_draw 22 = .ok (.sipush 25173, 3) := by decide +kernel
theorem dX12_draw_25 : decode cX12_draw 25 = .ok (.aload_n 0, 1) := by decide +kernel
theorem dX12_draw_26 : decode cX12_draw 26 = .ok (.getfield 13, 3) := by decide +kernel
theorem dX12_draw_29 : decode cX12_draw 29 = .ok (.imul, 1) := by decide +kernel
theorem dX12_draw_30 : decode cX12_draw 30 = .ok (.sipush 13849, 3) := by decide +kernel
theorem dX12_draw_33 : decode cX12_draw 33 = .ok (.iadd, 1) := by decide +kernel
theorem dX12_draw_34 : decode cX12_draw 34 = .ok (.ldc 163, 2) := by decide +kernel
theorem dX12_draw_36 : decode cX12_draw 36 = .ok (.irem, 1) := by decide +kernel
theorem dX12_draw_37 : decode cX12_draw 37 = .ok (.putfield 13, 3) := by decide +kernel
theorem dX12_draw_40 : decode cX12_draw 40 = .ok (.aload_n 0, 1) := by decide +kernel
theorem dX12_draw_41 : decode cX12_draw 41 = .ok (.aload_n 0, 1) := by decide +kernel
theorem dX12_draw_42 : decode cX12_draw 42 = .ok (.getfield 13, 3) := by decide +kernel
theorem dX12_draw_45 : decode cX12_draw 45 = .ok (.bipush 16, 2) := by decide +kernel
theorem dX12_draw_47 : decode cX12_draw 47 = .ok (.irem, 1) := by decide +kernel
theorem dX12_draw_48 : decode cX12_draw 48 = .ok (.aload_n 0, 1) := by decide +kernel
theorem dX12_draw_49 : decode cX12_draw 49 = .ok (.getfield 13, 3) := by decide +kernel
theorem dX12_draw_52 : decode cX12_draw 52 = .ok (.bipush 16, 2) := by decide +kernel
theorem dX12_draw_54 : decode cX12_draw 54 = .ok (.idiv, 1) := by decide +kernel
theorem dX12_draw_55 : decode cX12_draw 55 = .ok (.iconst 4, 1) := by decide +kernel
theorem dX12_draw_56 : decode cX12_draw 56 = .ok (.irem, 1) := by decide +kernel
theorem dX12_draw_57 : decode cX12_draw 57 = .ok (.invokevirtual 490, 3) := by decide +kernel
theorem dX12_draw_60 : decode cX12_draw 60 = .ok (.aload_n 0, 1) := by decide +kernel
theorem dX12_draw_61 : decode cX12_draw 61 = .ok (.invokevirtual 401, 3) := by decide +kernel
theorem dX12_draw_64 : decode cX12_draw 64 = .ok (.iinc 2 1, 3) := by decide +kernel
theorem dX12_draw_67 : decode cX12_draw 67 = .ok (.goto (-51), 3) := by decide +kernel
theorem dX12_draw_70 : decode cX12_draw 70 = .ok (.aload_n 0, 1) := by decide +kernel
theorem dX12_draw_71 : decode cX12_draw 71 = .ok (.getfield 390, 3) := by decide +kernel
theorem dX12_draw_74 : decode cX12_draw 74 = .ok (.ireturn, 1) := by decide +kernel
theorem dX12_standing_0 : decode cX12_standing 0 = .ok (.iconst 0, 1) := by decide +kernel
theorem dX12_standing_1 : decode cX12_standing 1 = .ok (.istore_n 1, 1) := by decide +kernel
theorem dX12_standing_2 : decode cX12_standing 2 = .ok (.iconst 0, 1) := by decide +kernel
theorem dX12_standing_3 : decode cX12_standing 3 = .ok (.istore_n 2, 1) := by decide +kernel
theorem dX12_standing_4 : decode cX12_standing 4 = .ok (.iload_n 2, 1) := by decide +kernel
theorem dX12_standing_5 : decode cX12_standing 5 = .ok (.aload_n 0, 1) := by decide +kernel
theorem dX12_standing_6 : decode cX12_standing 6 = .ok (.getfield 192, 3) := by decide +kernel
theorem dX12_standing_9 : decode cX12_standing 9 = .ok (.if_icmp .ge 26, 3) := by decide +kernel
theorem dX12_standing_12 : decode cX12_standing 12 = .ok (.iload_n 1, 1) := by decide +kernel
theorem dX12_standing_13 : decode cX12_standing 13 = .ok (.aload_n 0, 1) := by decide +kernel
theorem dX12_standing_14 : decode cX12_standing 14 = .ok (.getfield 39, 3) := by decide +kernel
theorem dX12_standing_17 : decode cX12_standing 17 = .ok (.iload_n 2, 1) := by decide +kernel
theorem dX12_standing_18 : decode cX12_standing 18 = .ok (.baload, 1) := by decide +kernel
theorem dX12_standing_19 : decode cX12_standing 19 = .ok (.ifCond .eq 7, 3) := by decide +kernel
theorem dX12_standing_22 : decode cX12_standing 22 = .ok (.iconst 1, 1) := by decide +kernel
theorem dX12_standing_23 : decode cX12_standing 23 = .ok (.goto 4, 3) := by decide +kernel
theorem dX12_standing_26 : decode cX12_standing 26 = .ok (.iconst 0, 1) := by decide +kernel
theorem dX12_standing_27 : decode cX12_standing 27 = .ok (.iadd, 1) := by decide +kernel
theorem dX12_standing_28 : decode cX12_standing 28 = .ok (.istore_n 1, 1) := by decide +kernel
theorem dX12_standing_29 : decode cX12_standing 29 = .ok (.iinc 2 1, 3) := by decide +kernel
theorem dX12_standing_32 : decode cX12_standing 32 = .ok (.goto (-28), 3) := by decide +kernel
theorem dX12_standing_35 : decode cX12_standing 35 = .ok (.iload_n 1, 1) := by decide +kernel
theorem dX12_standing_36 : decode cX12_standing 36 = .ok (.ireturn, 1) := by decide +kernel
theorem dX12_keep_0 : decode cX12_keep 0 = .ok (.aload_n 0, 1) := by decide +kernel
theorem dX12_keep_1 : decode cX12_keep 1 = .ok (.iconst 1, 1) := by decide +kernel
theorem dX12_keep_2 : decode cX12_keep 2 = .ok (.putfield 493, 3) := by decide +kernel
theorem dX12_keep_5 : decode cX12_keep 5 = .ok (.aload_n 0, 1) := by decide +kernel
theorem dX12_keep_6 : decode cX12_keep 6 = .ok (.iconst 1, 1) := by decide +kernel
theorem dX12_keep_7 : decode cX12_keep 7 = .ok (.invokevirtual 411, 3) := by decide +kernel
theorem dX12_keep_10 : decode cX12_keep 10 = .ok (.aload_n 0, 1) := by decide +kernel
theorem dX12_keep_11 : decode cX12_keep 11 = .ok (.invokevirtual 496, 3) := by decide +kernel
theorem dX12_keep_14 : decode cX12_keep 14 = .ok (.ireturn, 1) := by decide +kernel
theorem dX12_undo_0 : decode cX12_undo 0 = .ok (.aload_n 0, 1) := by decide +kernel
theorem dX12_undo_1 : decode cX12_undo 1 = .ok (.getfield 493, 3) := by decide +kernel
theorem dX12_undo_4 : decode cX12_undo 4 = .ok (.ifCond .ne 5, 3) := by decide +kernel
theorem dX12_undo_7 : decode cX12_undo 7 = .ok (.iconst 0, 1) := by decide +kernel
theorem dX12_undo_8 : decode cX12_undo 8 = .ok (.ireturn, 1) := by decide +kernel
theorem dX12_undo_9 : decode cX12_undo 9 = .ok (.aload_n 0, 1) := by decide +kernel
theorem dX12_undo_10 : decode cX12_undo 10 = .ok (.iconst 1, 1) := by decide +kernel
theorem dX12_undo_11 : decode cX12_undo 11 = .ok (.invokevirtual 420, 3) := by decide +kernel
theorem dX12_undo_14 : decode cX12_undo 14 = .ok (.iconst 1, 1) := by decide +kernel
theorem dX12_undo_15 : decode cX12_undo 15 = .ok (.ireturn, 1) := by decide +kernel
theorem dX12_numberAt_0 : decode cX12_numberAt 0 = .ok (.iconst 0, 1) := by decide +kernel
theorem dX12_numberAt_1 : decode cX12_numberAt 1 = .ok (.istore_n 2, 1) := by decide +kernel
theorem dX12_numberAt_2 : decode cX12_numberAt 2 = .ok (.iconst 0, 1) := by decide +kernel
theorem dX12_numberAt_3 : decode cX12_numberAt 3 = .ok (.istore_n 3, 1) := by decide +kernel
theorem dX12_numberAt_4 : decode cX12_numberAt 4 = .ok (.iload_n 3, 1) := by decide +kernel
theorem dX12_numberAt_5 : decode cX12_numberAt 5 = .ok (.iconst 4, 1) := by decide +kernel
theorem dX12_numberAt_6 : decode cX12_numberAt 6 = .ok (.if_icmp .ge 29, 3) := by decide +kernel
theorem dX12_numberAt_9 : decode cX12_numberAt 9 = .ok (.iload_n 2, 1) := by decide +kernel
theorem dX12_numberAt_10 : decode cX12_numberAt 10 = .ok (.bipush 8, 2) := by decide +kernel
theorem dX12_numberAt_12 : decode cX12_numberAt 12 = .ok (.ishl, 1) := by decide +kernel
theorem dX12_numberAt_13 : decode cX12_numberAt 13 = .ok (.aload_n 0, 1) := by decide +kernel
theorem dX12_numberAt_14 : decode cX12_numberAt 14 = .ok (.getfield 7, 3) := by decide +kernel
theorem dX12_numberAt_17 : decode cX12_numberAt 17 = .ok (.iconst 4, 1) := by decide +kernel
theorem dX12_numberAt_18 : decode cX12_numberAt 18 = .ok (.iload_n 1, 1) := by decide +kernel
theorem dX12_numberAt_19 : decode cX12_numberAt 19 = .ok (.imul, 1) := by decide +kernel
theorem dX12_numberAt_20 : decode cX12_numberAt 20 = .ok (.iload_n 3, 1) := by decide +kernel
theorem dX12_numberAt_21 : decode cX12_numberAt 21 = .ok (.iadd, 1) := by decide +kernel
theorem dX12_numberAt_22 : decode cX12_numberAt 22 = .ok (.baload, 1) := by decide +kernel
theorem dX12_numberAt_23 : decode cX12_numberAt 23 = .ok (.sipush 255, 3) := by decide +kernel
theorem dX12_numberAt_26 : decode cX12_numberAt 26 = .ok (.iand, 1) := by decide +kernel
theorem dX12_numberAt_27 : decode cX12_numberAt 27 = .ok (.ior, 1) := by decide +kernel
theorem dX12_numberAt_28 : decode cX12_numberAt 28 = .ok (.istore_n 2, 1) := by decide +kernel
theorem dX12_numberAt_29 : decode cX12_numberAt 29 = .ok (.iinc 3 1, 3) := by decide +kernel
theorem dX12_numberAt_32 : decode cX12_numberAt 32 = .ok (.goto (-28), 3) := by decide +kernel
theorem dX12_numberAt_35 : decode cX12_numberAt 35 = .ok (.iload_n 2, 1) := by decide +kernel
theorem dX12_numberAt_36 : decode cX12_numberAt 36 = .ok (.ireturn, 1) := by decide +kernel
theorem dX12_check_0 : decode cX12_check 0 = .ok (.aload_n 0, 1) := by decide +kernel
theorem dX12_check_1 : decode cX12_check 1 = .ok (.iload_n 1, 1) := by decide +kernel
theorem dX12_check_2 : decode cX12_check 2 = .ok (.invokevirtual 195, 3) := by decide +kernel
theorem dX12_check_5 : decode cX12_check 5 = .ok (.ifCond .eq 25, 3) := by decide +kernel
theorem dX12_check_8 : decode cX12_check 8 = .ok (.iload_n 2, 1) := by decide +kernel
theorem dX12_check_9 : decode cX12_check 9 = .ok (.i2l, 1) := by decide +kernel
theorem dX12_check_10 : decode cX12_check 10 = .ok (.lconst 0, 1) := by decide +kernel
theorem dX12_check_11 : decode cX12_check 11 = .ok (.ldc2_w 499, 3) := by decide +kernel
theorem dX12_check_14 : decode cX12_check 14 = .ok (.invokestatic 188, 3) := by decide +kernel
theorem dX12_check_17 : decode cX12_check 17 = .ok (.ifCond .eq 13, 3) := by decide +kernel
theorem dX12_check_20 : decode cX12_check 20 = .ok (.iload_n 2, 1) := by decide +kernel
theorem dX12_check_21 : decode cX12_check 21 = .ok (.aload_n 0, 1) := by decide +kernel
theorem dX12_check_22 : decode cX12_check 22 = .ok (.getfield 228, 3) := by decide +kernel
theorem dX12_check_25 : decode cX12_check 25 = .ok (.iconst 4, 1) := by decide +kernel
theorem dX12_check_26 : decode cX12_check 26 = .ok (.idiv, 1) := by decide +kernel
theorem dX12_check_27 : decode cX12_check 27 = .ok (.if_icmp .le 6, 3) := by decide +kernel
theorem dX12_check_30 : decode cX12_check 30 = .ok (.bipush (-2), 2) := by decide +kernel
theorem dX12_check_32 : decode cX12_check 32 = .ok (.ireturn, 1) := by decide +kernel
theorem dX12_check_33 : decode cX12_check 33 = .ok (.aload_n 0, 1) := by decide +kernel
theorem dX12_check_34 : decode cX12_check 34 = .ok (.iconst 0, 1) := by decide +kernel
theorem dX12_check_35 : decode cX12_check 35 = .ok (.putfield 228, 3) := by decide +kernel
theorem dX12_check_38 : decode cX12_check 38 = .ok (.iconst 0, 1) := by decide +kernel
theorem dX12_check_39 : decode cX12_check 39 = .ok (.istore_n 3, 1) := by decide +kernel
theorem dX12_check_40 : decode cX12_check 40 = .ok (.iload_n 3, 1) := by decide +kernel
theorem dX12_check_41 : decode cX12_check 41 = .ok (.iload_n 2, 1) := by decide +kernel
theorem dX12_check_42 : decode cX12_check 42 = .ok (.if_icmp .ge 38, 3) := by decide +kernel
theorem dX12_check_45 : decode cX12_check 45 = .ok (.iload_n 3, 1) := by decide +kernel
theorem dX12_check_46 : decode cX12_check 46 = .ok (.aload_n 0, 1) := by decide +kernel
theorem dX12_check_47 : decode cX12_check 47 = .ok (.getfield 199, 3) := by decide +kernel
theorem dX12_check_50 : decode cX12_check 50 = .ok (.if_icmp .eq 22, 3) := by decide +kernel
theorem dX12_check_53 : decode cX12_check 53 = .ok (.aload_n 0, 1) := by decide +kernel
theorem dX12_check_54 : decode cX12_check 54 = .ok (.iload_n 3, 1) := by decide +kernel
theorem dX12_check_55 : decode cX12_check 55 = .ok (.invokevirtual 501, 3) := by decide +kernel
theorem dX12_check_58 : decode cX12_check 58 = .ok (.aload_n 0, 1) := by decide +kernel
theorem dX12_check_59 : decode cX12_check 59 = .ok (.getfield 61, 3) := by decide +kernel
theorem dX12_check_62 : decode cX12_check 62 = .ok (.bipush 16, 2) := by decide +kernel
theorem dX12_check_64 : decode cX12_check 64 = .ok (.iload_n 1, 1) := by decide +kernel
theorem dX12_check_65 : decode cX12_check 65 = .ok (.imul, 1) := by decide +kernel
theorem dX12_check_66 : decode cX12_check 66 = .ok (.iload_n 3, 1) := by decide +kernel
theorem dX12_check_67 : decode cX12_check 67 = .ok (.iadd, 1) := by decide +kernel
theorem dX12_check_68 : decode cX12_check 68 = .ok (.iaload, 1) := by decide +kernel
theorem dX12_check_69 : decode cX12_check 69 = .ok (.if_icmp .eq 5, 3) := by decide +kernel
theorem dX12_check_72 : decode cX12_check 72 = .ok (.iload_n 3, 1) := by decide +kernel
theorem dX12_check_73 : decode cX12_check 73 = .ok (.ireturn, 1) := by decide +kernel
theorem dX12_check_74 : decode cX12_check 74 = .ok (.iinc 3 1, 3) := by decide +kernel
theorem dX12_check_77 : decode cX12_check 77 = .ok (.goto (-37), 3) := by decide +kernel
theorem dX12_check_80 : decode cX12_check 80 = .ok (.iconst (-1), 1) := by decide +kernel
theorem dX12_check_81 : decode cX12_check 81 = .ok (.ireturn, 1) := by decide +kernel
theorem dX12_count_0 : decode cX12_count 0 = .ok (.iload_n 1, 1) := by decide +kernel
theorem dX12_count_1 : decode cX12_count 1 = .ok (.tableswitch 108 0 8 #[51, 56, 61, 66, 71, 76, 81, 86, 91], 51) := by decide +kernel
theorem dX12_count_52 : decode cX12_count 52 = .ok (.aload_n 0, 1) := by decide +kernel
theorem dX12_count_53 : decode cX12_count 53 = .ok (.getfield 359, 3) := by decide +kernel
theorem dX12_count_56 : decode cX12_count 56 = .ok (.ireturn, 1) := by decide +kernel
theorem dX12_count_57 : decode cX12_count 57 = .ok (.aload_n 0, 1) := by decide +kernel
theorem dX12_count_58 : decode cX12_count 58 = .ok (.getfield 192, 3) := by decide +kernel
theorem dX12_count_61 : decode cX12_count 61 = .ok (.ireturn, 1) := by decide +kernel
theorem dX12_count_62 : decode cX12_count 62 = .ok (.aload_n 0, 1) := by decide +kernel
theorem dX12_count_63 : decode cX12_count 63 = .ok (.getfield 199, 3) := by decide +kernel
theorem dX12_count_66 : decode cX12_count 66 = .ok (.ireturn, 1) := by decide +kernel
theorem dX12_count_67 : decode cX12_count 67 = .ok (.aload_n 0, 1) := by decide +kernel
theorem dX12_count_68 : decode cX12_count 68 = .ok (.getfield 342, 3) := by decide +kernel
theorem dX12_count_71 : decode cX12_count 71 = .ok (.ireturn, 1) := by decide +kernel
theorem dX12_count_72 : decode cX12_count 72 = .ok (.aload_n 0, 1) := by decide +kernel
theorem dX12_count_73 : decode cX12_count 73 = .ok (.getfield 228, 3) := by decide +kernel
theorem dX12_count_76 : decode cX12_count 76 = .ok (.ireturn, 1) := by decide +kernel
theorem dX12_count_77 : decode cX12_count 77 = .ok (.aload_n 0, 1) := by decide +kernel
theorem dX12_count_78 : decode cX12_count 78 = .ok (.getfield 13, 3) := by decide +kernel
theorem dX12_count_81 : decode cX12_count 81 = .ok (.ireturn, 1) := by decide +kernel
theorem dX12_count_82 : decode cX12_count 82 = .ok (.aload_n 0, 1) := by decide +kernel
theorem dX12_count_83 : decode cX12_count 83 = .ok (.invokevirtual 496, 3) := by decide +kernel
theorem dX12_count_86 : decode cX12_count 86 = .ok (.ireturn, 1) := by decide +kernel
theorem dX12_count_87 : decode cX12_count 87 = .ok (.aload_n 0, 1) := by decide +kernel
theorem dX12_count_88 : decode cX12_count 88 = .ok (.getfield 17, 3) := by decide +kernel
theorem dX12_count_91 : decode cX12_count 91 = .ok (.ireturn, 1) := by decide +kernel
theorem dX12_count_92 : decode cX12_count 92 = .ok (.aload_n 0, 1) := by decide +kernel
theorem dX12_count_93 : decode cX12_count 93 = .ok (.getfield 17, 3) := by decide +kernel
theorem dX12_count_96 : decode cX12_count 96 = .ok (.iconst (-1), 1) := by decide +kernel
theorem dX12_count_97 : decode cX12_count 97 = .ok (.if_icmp .ne 7, 3) := by decide +kernel
theorem dX12_count_100 : decode cX12_count 100 = .ok (.iconst (-1), 1) := by decide +kernel
theorem dX12_count_101 : decode cX12_count 101 = .ok (.goto 7, 3) := by decide +kernel
theorem dX12_count_104 : decode cX12_count 104 = .ok (.aload_n 0, 1) := by decide +kernel
theorem dX12_count_105 : decode cX12_count 105 = .ok (.getfield 225, 3) := by decide +kernel
theorem dX12_count_108 : decode cX12_count 108 = .ok (.ireturn, 1) := by decide +kernel
theorem dX12_count_109 : decode cX12_count 109 = .ok (.iconst (-1), 1) := by decide +kernel
theorem dX12_count_110 : decode cX12_count 110 = .ok (.ireturn, 1) := by decide +kernel
theorem dJ11_isValidCodePoint_9a6ad_0 : decode cJ11_isValidCodePoint_9a6ad 0 = .ok (.iload_n 0, 1) := by decide +kernel
theorem dJ11_isValidCodePoint_9a6ad_1 : decode cJ11_isValidCodePoint_9a6ad 1 = .ok (.bipush 16, 2) := by decide +kernel
theorem dJ11_isValidCodePoint_9a6ad_3 : decode cJ11_isValidCodePoint_9a6ad 3 = .ok (.iushr, 1) := by decide +kernel
theorem dJ11_isValidCodePoint_9a6ad_4 : decode cJ11_isValidCodePoint_9a6ad 4 = .ok (.istore_n 1, 1) := by decide +kernel
theorem dJ11_isValidCodePoint_9a6ad_5 : decode cJ11_isValidCodePoint_9a6ad 5 = .ok (.iload_n 1, 1) := by decide +kernel
theorem dJ11_isValidCodePoint_9a6ad_6 : decode cJ11_isValidCodePoint_9a6ad 6 = .ok (.bipush 17, 2) := by decide +kernel
theorem dJ11_isValidCodePoint_9a6ad_8 : decode cJ11_isValidCodePoint_9a6ad 8 = .ok (.if_icmp .ge 7, 3) := by decide +kernel
theorem dJ11_isValidCodePoint_9a6ad_11 : decode cJ11_isValidCodePoint_9a6ad 11 = .ok (.iconst 1, 1) := by decide +kernel
theorem dJ11_isValidCodePoint_9a6ad_12 : decode cJ11_isValidCodePoint_9a6ad 12 = .ok (.goto 4, 3) := by decide +kernel
theorem dJ11_isValidCodePoint_9a6ad_15 : decode cJ11_isValidCodePoint_9a6ad 15 = .ok (.iconst 0, 1) := by decide +kernel
theorem dJ11_isValidCodePoint_9a6ad_16 : decode cJ11_isValidCodePoint_9a6ad 16 = .ok (.ireturn, 1) := by decide +kernel
theorem dJ11_highSurrogate_5068e_0 : decode cJ11_highSurrogate_5068e 0 = .ok (.iload_n 0, 1) := by decide +kernel
theorem dJ11_highSurrogate_5068e_1 : decode cJ11_highSurrogate_5068e 1 = .ok (.bipush 10, 2) := by decide +kernel
theorem dJ11_highSurrogate_5068e_3 : decode cJ11_highSurrogate_5068e 3 = .ok (.iushr, 1) := by decide +kernel
theorem dJ11_highSurrogate_5068e_4 : decode cJ11_highSurrogate_5068e 4 = .ok (.ldc 110, 2) := by decide +kernel
theorem dJ11_highSurrogate_5068e_6 : decode cJ11_highSurrogate_5068e 6 = .ok (.iadd, 1) := by decide +kernel
theorem dJ11_highSurrogate_5068e_7 : decode cJ11_highSurrogate_5068e 7 = .ok (.i2c, 1) := by decide +kernel
theorem dJ11_highSurrogate_5068e_8 : decode cJ11_highSurrogate_5068e 8 = .ok (.ireturn, 1) := by decide +kernel
theorem dJ11_lowSurrogate_5068e_0 : decode cJ11_lowSurrogate_5068e 0 = .ok (.iload_n 0, 1) := by decide +kernel
theorem dJ11_lowSurrogate_5068e_1 : decode cJ11_lowSurrogate_5068e 1 = .ok (.sipush 1023, 3) := by decide +kernel
theorem dJ11_lowSurrogate_5068e_4 : decode cJ11_lowSurrogate_5068e 4 = .ok (.iand, 1) := by decide +kernel
theorem dJ11_lowSurrogate_5068e_5 : decode cJ11_lowSurrogate_5068e 5 = .ok (.ldc 76, 2) := by decide +kernel
theorem dJ11_lowSurrogate_5068e_7 : decode cJ11_lowSurrogate_5068e 7 = .ok (.iadd, 1) := by decide +kernel
theorem dJ11_lowSurrogate_5068e_8 : decode cJ11_lowSurrogate_5068e 8 = .ok (.i2c, 1) := by decide +kernel
theorem dJ11_lowSurrogate_5068e_9 : decode cJ11_lowSurrogate_5068e 9 = .ok (.ireturn, 1) := by decide +kernel
theorem dJ9_abs_0f7a4_0 : decode cJ9_abs_0f7a4 0 = .ok (.iload_n 0, 1) := by decide +kernel
theorem dJ9_abs_0f7a4_1 : decode cJ9_abs_0f7a4 1 = .ok (.ifCond .ge 8, 3) := by decide +kernel
theorem dJ9_abs_0f7a4_4 : decode cJ9_abs_0f7a4 4 = .ok (.iload_n 0, 1) := by decide +kernel
theorem dJ9_abs_0f7a4_5 : decode cJ9_abs_0f7a4 5 = .ok (.ineg, 1) := by decide +kernel
theorem dJ9_abs_0f7a4_6 : decode cJ9_abs_0f7a4 6 = .ok (.goto 4, 3) := by decide +kernel
theorem dJ9_abs_0f7a4_9 : decode cJ9_abs_0f7a4 9 = .ok (.iload_n 0, 1) := by decide +kernel
theorem dJ9_abs_0f7a4_10 : decode cJ9_abs_0f7a4 10 = .ok (.ireturn, 1) := by decide +kernel
theorem dJ9_max_7cf53_0 : decode cJ9_max_7cf53 0 = .ok (.iload_n 0, 1) := by decide +kernel
theorem dJ9_max_7cf53_1 : decode cJ9_max_7cf53 1 = .ok (.iload_n 1, 1) := by decide +kernel
theorem dJ9_max_7cf53_2 : decode cJ9_max_7cf53 2 = .ok (.if_icmp .lt 7, 3) := by decide +kernel
theorem dJ9_max_7cf53_5 : decode cJ9_max_7cf53 5 = .ok (.iload_n 0, 1) := by decide +kernel
theorem dJ9_max_7cf53_6 : decode cJ9_max_7cf53 6 = .ok (.goto 4, 3) := by decide +kernel
theorem dJ9_max_7cf53_9 : decode cJ9_max_7cf53 9 = .ok (.iload_n 1, 1) := by decide +kernel
theorem dJ9_max_7cf53_10 : decode cJ9_max_7cf53 10 = .ok (.ireturn, 1) := by decide +kernel
theorem dJ9_min_7cf53_0 : decode cJ9_min_7cf53 0 = .ok (.iload_n 0, 1) := by decide +kernel
theorem dJ9_min_7cf53_1 : decode cJ9_min_7cf53 1 = .ok (.iload_n 1, 1) := by decide +kernel
theorem dJ9_min_7cf53_2 : decode cJ9_min_7cf53 2 = .ok (.if_icmp .gt 7, 3) := by decide +kernel
theorem dJ9_min_7cf53_5 : decode cJ9_min_7cf53 5 = .ok (.iload_n 0, 1) := by decide +kernel
theorem dJ9_min_7cf53_6 : decode cJ9_min_7cf53 6 = .ok (.goto 4, 3) := by decide +kernel
theorem dJ9_min_7cf53_9 : decode cJ9_min_7cf53 9 = .ok (.iload_n 1, 1) := by decide +kernel
theorem dJ9_min_7cf53_10 : decode cJ9_min_7cf53 10 = .ok (.ireturn, 1) := by decide +kernel
theorem dJ0_length_8abf5_0 : decode cJ0_length_8abf5 0 = .ok (.aload_n 0, 1) := by decide +kernel
theorem dJ0_length_8abf5_1 : decode cJ0_length_8abf5 1 = .ok (.getfield 9, 3) := by decide +kernel
theorem dJ0_length_8abf5_4 : decode cJ0_length_8abf5 4 = .ok (.arraylength, 1) := by decide +kernel
theorem dJ0_length_8abf5_5 : decode cJ0_length_8abf5 5 = .ok (.aload_n 0, 1) := by decide +kernel
theorem dJ0_length_8abf5_6 : decode cJ0_length_8abf5 6 = .ok (.invokevirtual 335, 3) := by decide +kernel
theorem dJ0_length_8abf5_9 : decode cJ0_length_8abf5 9 = .ok (.ishr, 1) := by decide +kernel
theorem dJ0_length_8abf5_10 : decode cJ0_length_8abf5 10 = .ok (.ireturn, 1) := by decide +kernel
theorem dJ0_indexOf_0f7a4_0 : decode cJ0_indexOf_0f7a4 0 = .ok (.aload_n 0, 1) := by decide +kernel
theorem dJ0_indexOf_0f7a4_1 : decode cJ0_indexOf_0f7a4 1 = .ok (.iload_n 1, 1) := by decide +kernel
theorem dJ0_indexOf_0f7a4_2 : decode cJ0_indexOf_0f7a4 2 = .ok (.iconst 0, 1) := by decide +kernel
theorem dJ0_indexOf_0f7a4_3 : decode cJ0_indexOf_0f7a4 3 = .ok (.invokevirtual 633, 3) := by decide +kernel
theorem dJ0_indexOf_0f7a4_6 : decode cJ0_indexOf_0f7a4 6 = .ok (.ireturn, 1) := by decide +kernel
theorem dJ0_indexOf_7cf53_0 : decode cJ0_indexOf_7cf53 0 = .ok (.aload_n 0, 1) := by decide +kernel
theorem dJ0_indexOf_7cf53_1 : decode cJ0_indexOf_7cf53 1 = .ok (.invokevirtual 492, 3) := by decide +kernel
theorem dJ0_indexOf_7cf53_4 : decode cJ0_indexOf_7cf53 4 = .ok (.ifCond .eq 19, 3) := by decide +kernel
theorem dJ0_indexOf_7cf53_7 : decode cJ0_indexOf_7cf53 7 = .ok (.aload_n 0, 1) := by decide +kernel
theorem dJ0_indexOf_7cf53_8 : decode cJ0_indexOf_7cf53 8 = .ok (.getfield 9, 3) := by decide +kernel
theorem dJ0_indexOf_7cf53_11 : decode cJ0_indexOf_7cf53 11 = .ok (.iload_n 1, 1) := by decide +kernel
theorem dJ0_indexOf_7cf53_12 : decode cJ0_indexOf_7cf53 12 = .ok (.iload_n 2, 1) := by decide +kernel
theorem dJ0_indexOf_7cf53_13 : decode cJ0_indexOf_7cf53 13 = .ok (.aload_n 0, 1) := by decide +kernel
theorem dJ0_indexOf_7cf53_14 : decode cJ0_indexOf_7cf53 14 = .ok (.invokevirtual 505, 3) := by decide +kernel
theorem dJ0_indexOf_7cf53_17 : decode cJ0_indexOf_7cf53 17 = .ok (.invokestatic 637, 3) := by decide +kernel
theorem dJ0_indexOf_7cf53_20 : decode cJ0_indexOf_7cf53 20 = .ok (.goto 16, 3) := by decide +kernel
theorem dJ0_indexOf_7cf53_23 : decode cJ0_indexOf_7cf53 23 = .ok (.aload_n 0, 1) := by decide +kernel
theorem dJ0_indexOf_7cf53_24 : decode cJ0_indexOf_7cf53 24 = .ok (.getfield 9, 3) := by decide +kernel
theorem dJ0_indexOf_7cf53_27 : decode cJ0_indexOf_7cf53 27 = .ok (.iload_n 1, 1) := by decide +kernel
theorem dJ0_indexOf_7cf53_28 : decode cJ0_indexOf_7cf53 28 = .ok (.iload_n 2, 1) := by decide +kernel
theorem dJ0_indexOf_7cf53_29 : decode cJ0_indexOf_7cf53 29 = .ok (.aload_n 0, 1) := by decide +kernel
theorem dJ0_indexOf_7cf53_30 : decode cJ0_indexOf_7cf53 30 = .ok (.invokevirtual 505, 3) := by decide +kernel
theorem dJ0_indexOf_7cf53_33 : decode cJ0_indexOf_7cf53 33 = .ok (.invokestatic 640, 3) := by decide +kernel
theorem dJ0_indexOf_7cf53_36 : decode cJ0_indexOf_7cf53 36 = .ok (.ireturn, 1) := by decide +kernel
theorem dJ0_coder_7d493_0 : decode cJ0_coder_7d493 0 = .ok (.getstatic 38, 3) := by decide +kernel
theorem dJ0_coder_7d493_3 : decode cJ0_coder_7d493 3 = .ok (.ifCond .eq 10, 3) := by decide +kernel
theorem dJ0_coder_7d493_6 : decode cJ0_coder_7d493 6 = .ok (.aload_n 0, 1) := by decide +kernel
theorem dJ0_coder_7d493_7 : decode cJ0_coder_7d493 7 = .ok (.getfield 15, 3) := by decide +kernel
theorem dJ0_coder_7d493_10 : decode cJ0_coder_7d493 10 = .ok (.goto 4, 3) := by decide +kernel
theorem dJ0_coder_7d493_13 : decode cJ0_coder_7d493 13 = .ok (.iconst 1, 1) := by decide +kernel
theorem dJ0_coder_7d493_14 : decode cJ0_coder_7d493 14 = .ok (.ireturn, 1) := by decide +kernel
theorem dJ0_isLatin1_aae02_0 : decode cJ0_isLatin1_aae02 0 = .ok (.getstatic 38, 3) := by decide +kernel
theorem dJ0_isLatin1_aae02_3 : decode cJ0_isLatin1_aae02 3 = .ok (.ifCond .eq 14, 3) := by decide +kernel
theorem dJ0_isLatin1_aae02_6 : decode cJ0_isLatin1_aae02 6 = .ok (.aload_n 0, 1) := by decide +kernel
theorem dJ0_isLatin1_aae02_7 : decode cJ0_isLatin1_aae02 7 = .ok (.getfield 15, 3) := by decide +kernel
theorem dJ0_isLatin1_aae02_10 : decode cJ0_isLatin1_aae02 10 = .ok (.ifCond .ne 7, 3) := by decide +kernel
theorem dJ0_isLatin1_aae02_13 : decode cJ0_isLatin1_aae02 13 = .ok (.iconst 1, 1) := by decide +kernel
theorem dJ0_isLatin1_aae02_14 : decode cJ0_isLatin1_aae02 14 = .ok (.goto 4, 3) := by decide +kernel
theorem dJ0_isLatin1_aae02_17 : decode cJ0_isLatin1_aae02 17 = .ok (.iconst 0, 1) := by decide +kernel
theorem dJ0_isLatin1_aae02_18 : decode cJ0_isLatin1_aae02 18 = .ok (.ireturn, 1) := by decide +kernel
theorem dJ0_checkBoundsBeginEnd_23922_0 : decode cJ0_checkBoundsBeginEnd_23922 0 = .ok (.iload_n 0, 1) := by decide +kernel
theorem dJ0_checkBoundsBeginEnd_23922_1 : decode cJ0_checkBoundsBeginEnd_23922 1 = .ok (.iload_n 1, 1) := by decide +kernel
theorem dJ0_checkBoundsBeginEnd_23922_2 : decode cJ0_checkBoundsBeginEnd_23922 2 = .ok (.iload_n 2, 1) := by decide +kernel
theorem dJ0_checkBoundsBeginEnd_23922_3 : decode cJ0_checkBoundsBeginEnd_23922 3 = .ok (.getstatic 1053, 3) := by decide +kernel
theorem dJ0_checkBoundsBeginEnd_23922_6 : decode cJ0_checkBoundsBeginEnd_23922 6 = .ok (.invokestatic 1062, 3) := by decide +kernel
theorem dJ0_checkBoundsBeginEnd_23922_9 : decode cJ0_checkBoundsBeginEnd_23922 9 = .ok (.pop, 1) := by decide +kernel
theorem dJ0_checkBoundsBeginEnd_23922_10 : decode cJ0_checkBoundsBeginEnd_23922 10 = .ok (.return_, 1) := by decide +kernel
theorem dJ1_canEncode_9a6ad_0 : decode cJ1_canEncode_9a6ad 0 = .ok (.iload_n 0, 1) := by decide +kernel
theorem dJ1_canEncode_9a6ad_1 : decode cJ1_canEncode_9a6ad 1 = .ok (.ifCond .lt 14, 3) := by decide +kernel
theorem dJ1_canEncode_9a6ad_4 : decode cJ1_canEncode_9a6ad 4 = .ok (.iload_n 0, 1) := by decide +kernel
theorem dJ1_canEncode_9a6ad_5 : decode cJ1_canEncode_9a6ad 5 = .ok (.sipush 255, 3) := by decide +kernel
theorem dJ1_canEncode_9a6ad_8 : decode cJ1_canEncode_9a6ad 8 = .ok (.if_icmp .gt 7, 3) := by decide +kernel
theorem dJ1_canEncode_9a6ad_11 : decode cJ1_canEncode_9a6ad 11 = .ok (.iconst 1, 1) := by decide +kernel
theorem dJ1_canEncode_9a6ad_12 : decode cJ1_canEncode_9a6ad 12 = .ok (.goto 4, 3) := by decide +kernel
theorem dJ1_canEncode_9a6ad_15 : decode cJ1_canEncode_9a6ad 15 = .ok (.iconst 0, 1) := by decide +kernel
theorem dJ1_canEncode_9a6ad_16 : decode cJ1_canEncode_9a6ad 16 = .ok (.ireturn, 1) := by decide +kernel
theorem dJ1_indexOf_4cfef_0 : decode cJ1_indexOf_4cfef 0 = .ok (.iload_n 1, 1) := by decide +kernel
theorem dJ1_indexOf_4cfef_1 : decode cJ1_indexOf_4cfef 1 = .ok (.invokestatic 88, 3) := by decide +kernel
theorem dJ1_indexOf_4cfef_4 : decode cJ1_indexOf_4cfef 4 = .ok (.ifCond .ne 5, 3) := by decide +kernel
theorem dJ1_indexOf_4cfef_7 : decode cJ1_indexOf_4cfef 7 = .ok (.iconst (-1), 1) := by decide +kernel
theorem dJ1_indexOf_4cfef_8 : decode cJ1_indexOf_4cfef 8 = .ok (.ireturn, 1) := by decide +kernel
theorem dJ1_indexOf_4cfef_9 : decode cJ1_indexOf_4cfef 9 = .ok (.iload_n 2, 1) := by decide +kernel
theorem dJ1_indexOf_4cfef_10 : decode cJ1_indexOf_4cfef 10 = .ok (.iconst 0, 1) := by decide +kernel
theorem dJ1_indexOf_4cfef_11 : decode cJ1_indexOf_4cfef 11 = .ok (.invokestatic 92, 3) := by decide +kernel
theorem dJ1_indexOf_4cfef_14 : decode cJ1_indexOf_4cfef 14 = .ok (.istore_n 2, 1) := by decide +kernel
theorem dJ1_indexOf_4cfef_15 : decode cJ1_indexOf_4cfef 15 = .ok (.iload_n 3, 1) := by decide +kernel
theorem dJ1_indexOf_4cfef_16 : decode cJ1_indexOf_4cfef 16 = .ok (.aload_n 0, 1) := by decide +kernel
theorem dJ1_indexOf_4cfef_17 : decode cJ1_indexOf_4cfef 17 = .ok (.arraylength, 1) := by decide +kernel
theorem dJ1_indexOf_4cfef_18 : decode cJ1_indexOf_4cfef 18 = .ok (.invokestatic 38, 3) := by decide +kernel
theorem dJ1_indexOf_4cfef_21 : decode cJ1_indexOf_4cfef 21 = .ok (.istore_n 3, 1) := by decide +kernel
theorem dJ1_indexOf_4cfef_22 : decode cJ1_indexOf_4cfef 22 = .ok (.iload_n 2, 1) := by decide +kernel
theorem dJ1_indexOf_4cfef_23 : decode cJ1_indexOf_4cfef 23 = .ok (.iload_n 3, 1) := by decide +kernel
theorem dJ1_indexOf_4cfef_24 : decode cJ1_indexOf_4cfef 24 = .ok (.if_icmp .lt 5, 3) := by decide +kernel
theorem dJ1_indexOf_4cfef_27 : decode cJ1_indexOf_4cfef 27 = .ok (.iconst (-1), 1) := by decide +kernel
theorem dJ1_indexOf_4cfef_28 : decode cJ1_indexOf_4cfef 28 = .ok (.ireturn, 1) := by decide +kernel
theorem dJ1_indexOf_4cfef_29 : decode cJ1_indexOf_4cfef 29 = .ok (.aload_n 0, 1) := by decide +kernel
theorem dJ1_indexOf_4cfef_30 : decode cJ1_indexOf_4cfef 30 = .ok (.iload_n 1, 1) := by decide +kernel
theorem dJ1_indexOf_4cfef_31 : decode cJ1_indexOf_4cfef 31 = .ok (.iload_n 2, 1) := by decide +kernel
theorem dJ1_indexOf_4cfef_32 : decode cJ1_indexOf_4cfef 32 = .ok (.iload_n 3, 1) := by decide +kernel
theorem dJ1_indexOf_4cfef_33 : decode cJ1_indexOf_4cfef 33 = .ok (.invokestatic 95, 3) := by decide +kernel
theorem dJ1_indexOf_4cfef_36 : decode cJ1_indexOf_4cfef 36 = .ok (.ireturn, 1) := by decide +kernel
theorem dJ1_indexOfChar_4cfef_0 : decode cJ1_indexOfChar_4cfef 0 = .ok (.iload_n 1, 1) := by decide +kernel
theorem dJ1_indexOfChar_4cfef_1 : decode cJ1_indexOfChar_4cfef 1 = .ok (.i2b, 1) := by decide +kernel
theorem dJ1_indexOfChar_4cfef_2 : decode cJ1_indexOfChar_4cfef 2 = .ok (.istore 4, 2) := by decide +kernel
theorem dJ1_indexOfChar_4cfef_4 : decode cJ1_indexOfChar_4cfef 4 = .ok (.iload_n 2, 1) := by decide +kernel
theorem dJ1_indexOfChar_4cfef_5 : decode cJ1_indexOfChar_4cfef 5 = .ok (.istore 5, 2) := by decide +kernel
theorem dJ1_indexOfChar_4cfef_7 : decode cJ1_indexOfChar_4cfef 7 = .ok (.iload 5, 2) := by decide +kernel
theorem dJ1_indexOfChar_4cfef_9 : decode cJ1_indexOfChar_4cfef 9 = .ok (.iload_n 3, 1) := by decide +kernel
theorem dJ1_indexOfChar_4cfef_10 : decode cJ1_indexOfChar_4cfef 10 = .ok (.if_icmp .ge 21, 3) := by decide +kernel
theorem dJ1_indexOfChar_4cfef_13 : decode cJ1_indexOfChar_4cfef 13 = .ok (.aload_n 0, 1) := by decide +kernel
theorem dJ1_indexOfChar_4cfef_14 : decode cJ1_indexOfChar_4cfef 14 = .ok (.iload 5, 2) := by decide +kernel
theorem dJ1_indexOfChar_4cfef_16 : decode cJ1_indexOfChar_4cfef 16 = .ok (.baload, 1) := by decide +kernel
theorem dJ1_indexOfChar_4cfef_17 : decode cJ1_indexOfChar_4cfef 17 = .ok (.iload 4, 2) := by decide +kernel
theorem dJ1_indexOfChar_4cfef_19 : decode cJ1_indexOfChar_4cfef 19 = .ok (.if_icmp .ne 6, 3) := by decide +kernel
theorem dJ1_indexOfChar_4cfef_22 : decode cJ1_indexOfChar_4cfef 22 = .ok (.iload 5, 2) := by decide +kernel
theorem dJ1_indexOfChar_4cfef_24 : decode cJ1_indexOfChar_4cfef 24 = .ok (.ireturn, 1) := by decide +kernel
theorem dJ1_indexOfChar_4cfef_25 : decode cJ1_indexOfChar_4cfef 25 = .ok (.iinc 5 1, 3) := by decide +kernel
theorem dJ1_indexOfChar_4cfef_28 : decode cJ1_indexOfChar_4cfef 28 = .ok (.goto (-21), 3) := by decide +kernel
theorem dJ1_indexOfChar_4cfef_31 : decode cJ1_indexOfChar_4cfef 31 = .ok (.iconst (-1), 1) := by decide +kernel
theorem dJ1_indexOfChar_4cfef_32 : decode cJ1_indexOfChar_4cfef 32 = .ok (.ireturn, 1) := by decide +kernel
theorem dJ2_getChar_3b067_0 : decode cJ2_getChar_3b067 0 = .ok (.getstatic 44, 3) := by decide +kernel
theorem dJ2_getChar_3b067_3 : decode cJ2_getChar_3b067 3 = .ok (.ifCond .ne 25, 3) := by decide +kernel
theorem dJ2_getChar_3b067_6 : decode cJ2_getChar_3b067 6 = .ok (.iload_n 1, 1) := by decide +kernel
theorem dJ2_getChar_3b067_7 : decode cJ2_getChar_3b067 7 = .ok (.ifCond .lt 11, 3) := by decide +kernel
theorem dJ2_getChar_3b067_10 : decode cJ2_getChar_3b067 10 = .ok (.iload_n 1, 1) := by decide +kernel
theorem dJ2_getChar_3b067_11 : decode cJ2_getChar_3b067 11 = .ok (.aload_n 0, 1) := by decide +kernel
theorem dJ2_getChar_3b067_12 : decode cJ2_getChar_3b067 12 = .ok (.invokestatic 48, 3) := by decide +kernel
theorem dJ2_getChar_3b067_15 : decode cJ2_getChar_3b067 15 = .ok (.if_icmp .lt 13, 3) := by decide +kernel
theorem dJ2_getChar_3b067_18 : decode cJ2_getChar_3b067 18 = .ok (.new 52, 3) := by decide +kernel
theorem dJ2_getChar_3b067_21 : decode cJ2_getChar_3b067 21 = .ok (.dup, 1) := by decide +kernel
theorem dJ2_getChar_3b067_22 : decode cJ2_getChar_3b067 22 = .ok (.ldc 54, 2) := by decide +kernel
theorem dJ2_getChar_3b067_24 : decode cJ2_getChar_3b067 24 = .ok (.invokespecial 56, 3) := by decide +kernel
theorem dJ2_getChar_3b067_27 : decode cJ2_getChar_3b067 27 = .ok (.athrow, 1) := by decide +kernel
theorem dJ2_getChar_3b067_28 : decode cJ2_getChar_3b067 28 = .ok (.iload_n 1, 1) := by decide +kernel
theorem dJ2_getChar_3b067_29 : decode cJ2_getChar_3b067 29 = .ok (.iconst 1, 1) := by decide +kernel
theorem dJ2_getChar_3b067_30 : decode cJ2_getChar_3b067 30 = .ok (.ishl, 1) := by decide +kernel
theorem dJ2_getChar_3b067_31 : decode cJ2_getChar_3b067 31 = .ok (.istore_n 1, 1) := by decide +kernel
theorem dJ2_getChar_3b067_32 : decode cJ2_getChar_3b067 32 = .ok (.aload_n 0, 1) := by decide +kernel
theorem dJ2_getChar_3b067_33 : decode cJ2_getChar_3b067 33 = .ok (.iload_n 1, 1) := by decide +kernel
theorem dJ2_getChar_3b067_34 : decode cJ2_getChar_3b067 34 = .ok (.iinc 1 1, 3) := by decide +kernel
theorem dJ2_getChar_3b067_37 : decode cJ2_getChar_3b067 37 = .ok (.baload, 1) := by decide +kernel
theorem dJ2_getChar_3b067_38 : decode cJ2_getChar_3b067 38 = .ok (.sipush 255, 3) := by decide +kernel
theorem dJ2_getChar_3b067_41 : decode cJ2_getChar_3b067 41 = .ok (.iand, 1) := by decide +kernel
theorem dJ2_getChar_3b067_42 : decode cJ2_getChar_3b067 42 = .ok (.getstatic 59, 3) := by decide +kernel
theorem dJ2_getChar_3b067_45 : decode cJ2_getChar_3b067 45 = .ok (.ishl, 1) := by decide +kernel
theorem dJ2_getChar_3b067_46 : decode cJ2_getChar_3b067 46 = .ok (.aload_n 0, 1) := by decide +kernel
theorem dJ2_getChar_3b067_47 : decode cJ2_getChar_3b067 47 = .ok (.iload_n 1, 1) := by decide +kernel
theorem dJ2_getChar_3b067_48 : decode cJ2_getChar_3b067 48 = .ok (.baload, 1) := by decide +kernel
theorem dJ2_getChar_3b067_49 : decode cJ2_getChar_3b067 49 = .ok (.sipush 255, 3) := by decide +kernel
theorem dJ2_getChar_3b067_52 : decode cJ2_getChar_3b067 52 = .ok (.iand, 1) := by decide +kernel
theorem dJ2_getChar_3b067_53 : decode cJ2_getChar_3b067 53 = .ok (.getstatic 63, 3) := by decide +kernel
theorem dJ2_getChar_3b067_56 : decode cJ2_getChar_3b067 56 = .ok (.ishl, 1) := by decide +kernel
theorem dJ2_getChar_3b067_57 : decode cJ2_getChar_3b067 57 = .ok (.ior, 1) := by decide +kernel
theorem dJ2_getChar_3b067_58 : decode cJ2_getChar_3b067 58 = .ok (.i2c, 1) := by decide +kernel
theorem dJ2_getChar_3b067_59 : decode cJ2_getChar_3b067 59 = .ok (.ireturn, 1) := by decide +kernel
theorem dJ2_length_9d52b_0 : decode cJ2_length_9d52b 0 = .ok (.aload_n 0, 1) := by decide +kernel
theorem dJ2_length_9d52b_1 : decode cJ2_length_9d52b 1 = .ok (.arraylength, 1) := by decide +kernel
theorem dJ2_length_9d52b_2 : decode cJ2_length_9d52b 2 = .ok (.iconst 1, 1) := by decide +kernel
theorem dJ2_length_9d52b_3 : decode cJ2_length_9d52b 3 = .ok (.ishr, 1) := by decide +kernel
theorem dJ2_length_9d52b_4 : decode cJ2_length_9d52b 4 = .ok (.ireturn, 1) := by decide +kernel
theorem dJ2_indexOf_4cfef_0 : decode cJ2_indexOf_4cfef 0 = .ok (.iload_n 2, 1) := by decide +kernel
theorem dJ2_indexOf_4cfef_1 : decode cJ2_indexOf_4cfef 1 = .ok (.iconst 0, 1) := by decide +kernel
theorem dJ2_indexOf_4cfef_2 : decode cJ2_indexOf_4cfef 2 = .ok (.invokestatic 224, 3) := by decide +kernel
theorem dJ2_indexOf_4cfef_5 : decode cJ2_indexOf_4cfef 5 = .ok (.istore_n 2, 1) := by decide +kernel
theorem dJ2_indexOf_4cfef_6 : decode cJ2_indexOf_4cfef 6 = .ok (.iload_n 3, 1) := by decide +kernel
theorem dJ2_indexOf_4cfef_7 : decode cJ2_indexOf_4cfef 7 = .ok (.aload_n 0, 1) := by decide +kernel
theorem dJ2_indexOf_4cfef_8 : decode cJ2_indexOf_4cfef 8 = .ok (.arraylength, 1) := by decide +kernel
theorem dJ2_indexOf_4cfef_9 : decode cJ2_indexOf_4cfef 9 = .ok (.iconst 1, 1) := by decide +kernel
theorem dJ2_indexOf_4cfef_10 : decode cJ2_indexOf_4cfef 10 = .ok (.ishr, 1) := by decide +kernel
theorem dJ2_indexOf_4cfef_11 : decode cJ2_indexOf_4cfef 11 = .ok (.invokestatic 183, 3) := by decide +kernel
theorem dJ2_indexOf_4cfef_14 : decode cJ2_indexOf_4cfef 14 = .ok (.istore_n 3, 1) := by decide +kernel
theorem dJ2_indexOf_4cfef_15 : decode cJ2_indexOf_4cfef 15 = .ok (.iload_n 2, 1) := by decide +kernel
theorem dJ2_indexOf_4cfef_16 : decode cJ2_indexOf_4cfef 16 = .ok (.iload_n 3, 1) := by decide +kernel
theorem dJ2_indexOf_4cfef_17 : decode cJ2_indexOf_4cfef 17 = .ok (.if_icmp .lt 5, 3) := by decide +kernel
theorem dJ2_indexOf_4cfef_20 : decode cJ2_indexOf_4cfef 20 = .ok (.iconst (-1), 1) := by decide +kernel
theorem dJ2_indexOf_4cfef_21 : decode cJ2_indexOf_4cfef 21 = .ok (.ireturn, 1) := by decide +kernel
theorem dJ2_indexOf_4cfef_22 : decode cJ2_indexOf_4cfef 22 = .ok (.iload_n 1, 1) := by decide +kernel
theorem dJ2_indexOf_4cfef_23 : decode cJ2_indexOf_4cfef 23 = .ok (.ldc 227, 2) := by decide +kernel
theorem dJ2_indexOf_4cfef_25 : decode cJ2_indexOf_4cfef 25 = .ok (.if_icmp .ge 11, 3) := by decide +kernel
theorem dJ2_indexOf_4cfef_28 : decode cJ2_indexOf_4cfef 28 = .ok (.aload_n 0, 1) := by decide +kernel
theorem dJ2_indexOf_4cfef_29 : decode cJ2_indexOf_4cfef 29 = .ok (.iload_n 1, 1) := by decide +kernel
theorem dJ2_indexOf_4cfef_30 : decode cJ2_indexOf_4cfef 30 = .ok (.iload_n 2, 1) := by decide +kernel
theorem dJ2_indexOf_4cfef_31 : decode cJ2_indexOf_4cfef 31 = .ok (.iload_n 3, 1) := by decide +kernel
theorem dJ2_indexOf_4cfef_32 : decode cJ2_indexOf_4cfef 32 = .ok (.invokestatic 228, 3) := by decide +kernel
theorem dJ2_indexOf_4cfef_35 : decode cJ2_indexOf_4cfef 35 = .ok (.ireturn, 1) := by decide +kernel
theorem dJ2_indexOf_4cfef_36 : decode cJ2_indexOf_4cfef 36 = .ok (.aload_n 0, 1) := by decide +kernel
theorem dJ2_indexOf_4cfef_37 : decode cJ2_indexOf_4cfef 37 = .ok (.iload_n 1, 1) := by decide +kernel
theorem dJ2_indexOf_4cfef_38 : decode cJ2_indexOf_4cfef 38 = .ok (.iload_n 2, 1) := by decide +kernel
theorem dJ2_indexOf_4cfef_39 : decode cJ2_indexOf_4cfef 39 = .ok (.iload_n 3, 1) := by decide +kernel
theorem dJ2_indexOf_4cfef_40 : decode cJ2_indexOf_4cfef 40 = .ok (.invokestatic 232, 3) := by decide +kernel
theorem dJ2_indexOf_4cfef_43 : decode cJ2_indexOf_4cfef 43 = .ok (.ireturn, 1) := by decide +kernel
theorem dJ2_indexOfChar_4cfef_0 : decode cJ2_indexOfChar_4cfef 0 = .ok (.iload_n 2, 1) := by decide +kernel
theorem dJ2_indexOfChar_4cfef_1 : decode cJ2_indexOfChar_4cfef 1 = .ok (.iload_n 3, 1) := by decide +kernel
theorem dJ2_indexOfChar_4cfef_2 : decode cJ2_indexOfChar_4cfef 2 = .ok (.aload_n 0, 1) := by decide +kernel
theorem dJ2_indexOfChar_4cfef_3 : decode cJ2_indexOfChar_4cfef 3 = .ok (.invokestatic 96, 3) := by decide +kernel
theorem dJ2_indexOfChar_4cfef_6 : decode cJ2_indexOfChar_4cfef 6 = .ok (.aload_n 0, 1) := by decide +kernel
theorem dJ2_indexOfChar_4cfef_7 : decode cJ2_indexOfChar_4cfef 7 = .ok (.iload_n 1, 1) := by decide +kernel
theorem dJ2_indexOfChar_4cfef_8 : decode cJ2_indexOfChar_4cfef 8 = .ok (.iload_n 2, 1) := by decide +kernel
theorem dJ2_indexOfChar_4cfef_9 : decode cJ2_indexOfChar_4cfef 9 = .ok (.iload_n 3, 1) := by decide +kernel
theorem dJ2_indexOfChar_4cfef_10 : decode cJ2_indexOfChar_4cfef 10 = .ok (.invokestatic 244, 3) := by decide +kernel
theorem dJ2_indexOfChar_4cfef_13 : decode cJ2_indexOfChar_4cfef 13 = .ok (.ireturn, 1) := by decide +kernel
theorem dJ2_indexOfCharUnsafe_4cfef_0 : decode cJ2_indexOfCharUnsafe_4cfef 0 = .ok (.iload_n 2, 1) := by decide +kernel
theorem dJ2_indexOfCharUnsafe_4cfef_1 : decode cJ2_indexOfCharUnsafe_4cfef 1 = .ok (.istore 4, 2) := by decide +kernel
theorem dJ2_indexOfCharUnsafe_4cfef_3 : decode cJ2_indexOfCharUnsafe_4cfef 3 = .ok (.iload 4, 2) := by decide +kernel
theorem dJ2_indexOfCharUnsafe_4cfef_5 : decode cJ2_indexOfCharUnsafe_4cfef 5 = .ok (.iload_n 3, 1) := by decide +kernel
theorem dJ2_indexOfCharUnsafe_4cfef_6 : decode cJ2_indexOfCharUnsafe_4cfef 6 = .ok (.if_icmp .ge 22, 3) := by decide +kernel
theorem dJ2_indexOfCharUnsafe_4cfef_9 : decode cJ2_indexOfCharUnsafe_4cfef 9 = .ok (.aload_n 0, 1) := by decide +kernel
theorem dJ2_indexOfCharUnsafe_4cfef_10 : decode cJ2_indexOfCharUnsafe_4cfef 10 = .ok (.iload 4, 2) := by decide +kernel
theorem dJ2_indexOfCharUnsafe_4cfef_12 : decode cJ2_indexOfCharUnsafe_4cfef 12 = .ok (.invokestatic 71, 3) := by decide +kernel
theorem dJ2_indexOfCharUnsafe_4cfef_15 : decode cJ2_indexOfCharUnsafe_4cfef 15 = .ok (.iload_n 1, 1) := by decide +kernel
theorem dJ2_indexOfCharUnsafe_4cfef_16 : decode cJ2_indexOfCharUnsafe_4cfef 16 = .ok (.if_icmp .ne 6, 3) := by decide +kernel
theorem dJ2_indexOfCharUnsafe_4cfef_19 : decode cJ2_indexOfCharUnsafe_4cfef 19 = .ok (.iload 4, 2) := by decide +kernel
theorem dJ2_indexOfCharUnsafe_4cfef_21 : decode cJ2_indexOfCharUnsafe_4cfef 21 = .ok (.ireturn, 1) := by decide +kernel
theorem dJ2_indexOfCharUnsafe_4cfef_22 : decode cJ2_indexOfCharUnsafe_4cfef 22 = .ok (.iinc 4 1, 3) := by decide +kernel
theorem dJ2_indexOfCharUnsafe_4cfef_25 : decode cJ2_indexOfCharUnsafe_4cfef 25 = .ok (.goto (-22), 3) := by decide +kernel
theorem dJ2_indexOfCharUnsafe_4cfef_28 : decode cJ2_indexOfCharUnsafe_4cfef 28 = .ok (.iconst (-1), 1) := by decide +kernel
theorem dJ2_indexOfCharUnsafe_4cfef_29 : decode cJ2_indexOfCharUnsafe_4cfef 29 = .ok (.ireturn, 1) := by decide +kernel
theorem dJ2_indexOfSupplementary_4cfef_0 : decode cJ2_indexOfSupplementary_4cfef 0 = .ok (.iload_n 1, 1) := by decide +kernel
theorem dJ2_indexOfSupplementary_4cfef_1 : decode cJ2_indexOfSupplementary_4cfef 1 = .ok (.invokestatic 164, 3) := by decide +kernel
theorem dJ2_indexOfSupplementary_4cfef_4 : decode cJ2_indexOfSupplementary_4cfef 4 = .ok (.ifCond .eq 65, 3) := by decide +kernel
theorem dJ2_indexOfSupplementary_4cfef_7 : decode cJ2_indexOfSupplementary_4cfef 7 = .ok (.iload_n 1, 1) := by decide +kernel
theorem dJ2_indexOfSupplementary_4cfef_8 : decode cJ2_indexOfSupplementary_4cfef 8 = .ok (.invokestatic 157, 3) := by decide +kernel
theorem dJ2_indexOfSupplementary_4cfef_11 : decode cJ2_indexOfSupplementary_4cfef 11 = .ok (.istore 4, 2) := by decide +kernel
theorem dJ2_indexOfSupplementary_4cfef_13 : decode cJ2_indexOfSupplementary_4cfef 13 = .ok (.iload_n 1, 1) := by decide +kernel
theorem dJ2_indexOfSupplementary_4cfef_14 : decode cJ2_indexOfSupplementary_4cfef 14 = .ok (.invokestatic 161, 3) := by decide +kernel
theorem dJ2_indexOfSupplementary_4cfef_17 : decode cJ2_indexOfSupplementary_4cfef 17 = .ok (.istore 5, 2) := by decide +kernel
theorem dJ2_indexOfSupplementary_4cfef_19 : decode cJ2_indexOfSupplementary_4cfef 19 = .ok (.iload_n 2, 1) := by decide +kernel
theorem dJ2_indexOfSupplementary_4cfef_20 : decode cJ2_indexOfSupplementary_4cfef 20 = .ok (.iload_n 3, 1) := by decide +kernel
theorem dJ2_indexOfSupplementary_4cfef_21 : decode cJ2_indexOfSupplementary_4cfef 21 = .ok (.aload_n 0, 1) := by decide +kernel
theorem dJ2_indexOfSupplementary_4cfef_22 : decode cJ2_indexOfSupplementary_4cfef 22 = .ok (.invokestatic 96, 3) := by decide +kernel
theorem dJ2_indexOfSupplementary_4cfef_25 : decode cJ2_indexOfSupplementary_4cfef 25 = .ok (.iload_n 2, 1) := by decide +kernel
theorem dJ2_indexOfSupplementary_4cfef_26 : decode cJ2_indexOfSupplementary_4cfef 26 = .ok (.istore 6, 2) := by decide +kernel
theorem dJ2_indexOfSupplementary_4cfef_28 : decode cJ2_indexOfSupplementary_4cfef 28 = .ok (.iload 6, 2) := by decide +kernel
theorem dJ2_indexOfSupplementary_4cfef_30 : decode cJ2_indexOfSupplementary_4cfef 30 = .ok (.iload_n 3, 1) := by decide +kernel
theorem dJ2_indexOfSupplementary_4cfef_31 : decode cJ2_indexOfSupplementary_4cfef 31 = .ok (.iconst 1, 1) := by decide +kernel
theorem dJ2_indexOfSupplementary_4cfef_32 : decode cJ2_indexOfSupplementary_4cfef 32 = .ok (.isub, 1) := by decide +kernel
theorem dJ2_indexOfSupplementary_4cfef_33 : decode cJ2_indexOfSupplementary_4cfef 33 = .ok (.if_icmp .ge 36, 3) := by decide +kernel
theorem dJ2_indexOfSupplementary_4cfef_36 : decode cJ2_indexOfSupplementary_4cfef 36 = .ok (.aload_n 0, 1) := by decide +kernel
theorem dJ2_indexOfSupplementary_4cfef_37 : decode cJ2_indexOfSupplementary_4cfef 37 = .ok (.iload 6, 2) := by decide +kernel
theorem dJ2_indexOfSupplementary_4cfef_39 : decode cJ2_indexOfSupplementary_4cfef 39 = .ok (.invokestatic 71, 3) := by decide +kernel
theorem dJ2_indexOfSupplementary_4cfef_42 : decode cJ2_indexOfSupplementary_4cfef 42 = .ok (.iload 4, 2) := by decide +kernel
theorem dJ2_indexOfSupplementary_4cfef_44 : decode cJ2_indexOfSupplementary_4cfef 44 = .ok (.if_icmp .ne 19, 3) := by decide +kernel
theorem dJ2_indexOfSupplementary_4cfef_47 : decode cJ2_indexOfSupplementary_4cfef 47 = .ok (.aload_n 0, 1) := by decide +kernel
theorem dJ2_indexOfSupplementary_4cfef_48 : decode cJ2_indexOfSupplementary_4cfef 48 = .ok (.iload 6, 2) := by decide +kernel
theorem dJ2_indexOfSupplementary_4cfef_50 : decode cJ2_indexOfSupplementary_4cfef 50 = .ok (.iconst 1, 1) := by decide +kernel
theorem dJ2_indexOfSupplementary_4cfef_51 : decode cJ2_indexOfSupplementary_4cfef 51 = .ok (.iadd, 1) := by decide +kernel
theorem dJ2_indexOfSupplementary_4cfef_52 : decode cJ2_indexOfSupplementary_4cfef 52 = .ok (.invokestatic 71, 3) := by decide +kernel
theorem dJ2_indexOfSupplementary_4cfef_55 : decode cJ2_indexOfSupplementary_4cfef 55 = .ok (.iload 5, 2) := by decide +kernel
theorem dJ2_indexOfSupplementary_4cfef_57 : decode cJ2_indexOfSupplementary_4cfef 57 = .ok (.if_icmp .ne 6, 3) := by decide +kernel
theorem dJ2_indexOfSupplementary_4cfef_60 : decode cJ2_indexOfSupplementary_4cfef 60 = .ok (.iload 6, 2) := by decide +kernel
theorem dJ2_indexOfSupplementary_4cfef_62 : decode cJ2_indexOfSupplementary_4cfef 62 = .ok (.ireturn, 1) := by decide +kernel
theorem dJ2_indexOfSupplementary_4cfef_63 : decode cJ2_indexOfSupplementary_4cfef 63 = .ok (.iinc 6 1, 3) := by decide +kernel
theorem dJ2_indexOfSupplementary_4cfef_66 : decode cJ2_indexOfSupplementary_4cfef 66 = .ok (.goto (-38), 3) := by decide +kernel
theorem dJ2_indexOfSupplementary_4cfef_69 : decode cJ2_indexOfSupplementary_4cfef 69 = .ok (.iconst (-1), 1) := by decide +kernel
theorem dJ2_indexOfSupplementary_4cfef_70 : decode cJ2_indexOfSupplementary_4cfef 70 = .ok (.ireturn, 1) := by decide +kernel
theorem dJ2_checkBoundsBeginEnd_d044e_0 : decode cJ2_checkBoundsBeginEnd_d044e 0 = .ok (.iload_n 0, 1) := by decide +kernel
theorem dJ2_checkBoundsBeginEnd_d044e_1 : decode cJ2_checkBoundsBeginEnd_d044e 1 = .ok (.iload_n 1, 1) := by decide +kernel
theorem dJ2_checkBoundsBeginEnd_d044e_2 : decode cJ2_checkBoundsBeginEnd_d044e 2 = .ok (.aload_n 2, 1) := by decide +kernel
theorem dJ2_checkBoundsBeginEnd_d044e_3 : decode cJ2_checkBoundsBeginEnd_d044e 3 = .ok (.invokestatic 48, 3) := by decide +kernel
theorem dJ2_checkBoundsBeginEnd_d044e_6 : decode cJ2_checkBoundsBeginEnd_d044e 6 = .ok (.invokestatic 241, 3) := by decide +kernel
theorem dJ2_checkBoundsBeginEnd_d044e_9 : decode cJ2_checkBoundsBeginEnd_d044e 9 = .ok (.return_, 1) := by decide +kernel
theorem dJ3_checkFromToIndex_8c36e_0 : decode cJ3_checkFromToIndex_8c36e 0 = .ok (.iload_n 0, 1) := by decide +kernel
theorem dJ3_checkFromToIndex_8c36e_1 : decode cJ3_checkFromToIndex_8c36e 1 = .ok (.ifCond .lt 13, 3) := by decide +kernel
theorem dJ3_checkFromToIndex_8c36e_4 : decode cJ3_checkFromToIndex_8c36e 4 = .ok (.iload_n 0, 1) := by decide +kernel
theorem dJ3_checkFromToIndex_8c36e_5 : decode cJ3_checkFromToIndex_8c36e 5 = .ok (.iload_n 1, 1) := by decide +kernel
theorem dJ3_checkFromToIndex_8c36e_6 : decode cJ3_checkFromToIndex_8c36e 6 = .ok (.if_icmp .gt 8, 3) := by decide +kernel
theorem dJ3_checkFromToIndex_8c36e_9 : decode cJ3_checkFromToIndex_8c36e 9 = .ok (.iload_n 1, 1) := by decide +kernel
theorem dJ3_checkFromToIndex_8c36e_10 : decode cJ3_checkFromToIndex_8c36e 10 = .ok (.iload_n 2, 1) := by decide +kernel
theorem dJ3_checkFromToIndex_8c36e_11 : decode cJ3_checkFromToIndex_8c36e 11 = .ok (.if_icmp .le 11, 3) := by decide +kernel
theorem dJ3_checkFromToIndex_8c36e_14 : decode cJ3_checkFromToIndex_8c36e 14 = .ok (.aload_n 3, 1) := by decide +kernel
theorem dJ3_checkFromToIndex_8c36e_15 : decode cJ3_checkFromToIndex_8c36e 15 = .ok (.iload_n 0, 1) := by decide +kernel
theorem dJ3_checkFromToIndex_8c36e_16 : decode cJ3_checkFromToIndex_8c36e 16 = .ok (.iload_n 1, 1) := by decide +kernel
theorem dJ3_checkFromToIndex_8c36e_17 : decode cJ3_checkFromToIndex_8c36e 17 = .ok (.iload_n 2, 1) := by decide +kernel
theorem dJ3_checkFromToIndex_8c36e_18 : decode cJ3_checkFromToIndex_8c36e 18 = .ok (.invokestatic 99, 3) := by decide +kernel
theorem dJ3_checkFromToIndex_8c36e_21 : decode cJ3_checkFromToIndex_8c36e 21 = .ok (.athrow, 1) := by decide +kernel
theorem dJ3_checkFromToIndex_8c36e_22 : decode cJ3_checkFromToIndex_8c36e 22 = .ok (.iload_n 0, 1) := by decide +kernel
theorem dJ3_checkFromToIndex_8c36e_23 : decode cJ3_checkFromToIndex_8c36e 23 = .ok (.ireturn, 1) := by decide +kernel
theorem dL_law_0 : decode cL_law 0 = .ok (.new 7, 3) := by decide +kernel
theorem dL_law_3 : decode cL_law 3 = .ok (.dup, 1) := by decide +kernel
theorem dL_law_4 : decode cL_law 4 = .ok (.invokespecial 9, 3) := by decide +kernel
theorem dL_law_7 : decode cL_law 7 = .ok (.astore_n 1, 1) := by decide +kernel
theorem dL_law_8 : decode cL_law 8 = .ok (.new 10, 3) := by decide +kernel
theorem dL_law_11 : decode cL_law 11 = .ok (.dup, 1) := by decide +kernel
theorem dL_law_12 : decode cL_law 12 = .ok (.invokespecial 12, 3) := by decide +kernel
theorem dL_law_15 : decode cL_law 15 = .ok (.astore_n 2, 1) := by decide +kernel
theorem dL_law_16 : decode cL_law 16 = .ok (.iconst 0, 1) := by decide +kernel
theorem dL_law_17 : decode cL_law 17 = .ok (.istore_n 3, 1) := by decide +kernel
theorem dL_law_18 : decode cL_law 18 = .ok (.iload_n 3, 1) := by decide +kernel
theorem dL_law_19 : decode cL_law 19 = .ok (.aload_n 0, 1) := by decide +kernel
theorem dL_law_20 : decode cL_law 20 = .ok (.arraylength, 1) := by decide +kernel
theorem dL_law_21 : decode cL_law 21 = .ok (.bipush 7, 2) := by decide +kernel
theorem dL_law_23 : decode cL_law 23 = .ok (.isub, 1) := by decide +kernel
theorem dL_law_24 : decode cL_law 24 = .ok (.if_icmp .gt 1103, 3) := by decide +kernel
theorem dL_law_27 : decode cL_law 27 = .ok (.aload_n 0, 1) := by decide +kernel
theorem dL_law_28 : decode cL_law 28 = .ok (.iload_n 3, 1) := by decide +kernel
theorem dL_law_29 : decode cL_law 29 = .ok (.iaload, 1) := by decide +kernel
theorem dL_law_30 : decode cL_law 30 = .ok (.bipush 31, 2) := by decide +kernel
theorem dL_law_32 : decode cL_law 32 = .ok (.iand, 1) := by decide +kernel
theorem dL_law_33 : decode cL_law 33 = .ok (.tableswitch 1088 0 28 #[131, 206, 275, 318, 351, 414, 437, 470, 493, 516, 549, 582, 615, 648, 671, 714, 737, 771, 794, 827, 850, 904, 937, 960, 983, 1006, 1019, 1032, 1065], 131) := by decide +kernel
theorem dL_law_164 : decode cL_law 164 = .ok (.aload_n 1, 1) := by decide +kernel
theorem dL_law_165 : decode cL_law 165 = .ok (.aload_n 0, 1) := by decide +kernel
theorem dL_law_166 : decode cL_law 166 = .ok (.iload_n 3, 1) := by decide +kernel
theorem dL_law_167 : decode cL_law 167 = .ok (.iconst 1, 1) := by decide +kernel
theorem dL_law_168 : decode cL_law 168 = .ok (.iadd, 1) := by decide +kernel
theorem dL_law_169 : decode cL_law 169 = .ok (.iaload, 1) := by decide +kernel
theorem dL_law_170 : decode cL_law 170 = .ok (.aload_n 0, 1) := by decide +kernel
theorem dL_law_171 : decode cL_law 171 = .ok (.iload_n 3, 1) := by decide +kernel
theorem dL_law_172 : decode cL_law 172 = .ok (.iconst 2, 1) := by decide +kernel
theorem dL_law_173 : decode cL_law 173 = .ok (.iadd, 1) := by decide +kernel
theorem dL_law_174 : decode cL_law 174 = .ok (.iaload, 1) := by decide +kernel
theorem dL_law_175 : decode cL_law 175 = .ok (.aload_n 0, 1) := by decide +kernel
theorem dL_law_176 : decode cL_law 176 = .ok (.iload_n 3, 1) := by decide +kernel
theorem dL_law_177 : decode cL_law 177 = .ok (.iconst 3, 1) := by decide +kernel
theorem dL_law_178 : decode cL_law 178 = .ok (.iadd, 1) := by decide +kernel
theorem dL_law_179 : decode cL_law 179 = .ok (.iaload, 1) := by decide +kernel
theorem dL_law_180 : decode cL_law 180 = .ok (.aload_n 0, 1) := by decide +kernel
theorem dL_law_181 : decode cL_law 181 = .ok (.iload_n 3, 1) := by decide +kernel
theorem dL_law_182 : decode cL_law 182 = .ok (.iconst 4, 1) := by decide +kernel
theorem dL_law_183 : decode cL_law 183 = .ok (.iadd, 1) := by decide +kernel
theorem dL_law_184 : decode cL_law 184 = .ok (.iaload, 1) := by decide +kernel
theorem dL_law_185 : decode cL_law 185 = .ok (.aload_n 0, 1) := by decide +kernel
theorem dL_law_186 : decode cL_law 186 = .ok (.iload_n 3, 1) := by decide +kernel
theorem dL_law_187 : decode cL_law 187 = .ok (.iconst 5, 1) := by decide +kernel
theorem dL_law_188 : decode cL_law 188 = .ok (.iadd, 1) := by decide +kernel
theorem dL_law_189 : decode cL_law 189 = .ok (.iaload, 1) := by decide +kernel
theorem dL_law_190 : decode cL_law 190 = .ok (.aload_n 0, 1) := by decide +kernel
theorem dL_law_191 : decode cL_law 191 = .ok (.iload_n 3, 1) := by decide +kernel
theorem dL_law_192 : decode cL_law 192 = .ok (.bipush 6, 2) := by decide +kernel
theorem dL_law_194 : decode cL_law 194 = .ok (.iadd, 1) := by decide +kernel
theorem dL_law_195 : decode cL_law 195 = .ok (.iaload, 1) := by decide +kernel
theorem dL_law_196 : decode cL_law 196 = .ok (.invokevirtual 13, 3) := by decide +kernel
theorem dL_law_199 : decode cL_law 199 = .ok (.aload_n 2, 1) := by decide +kernel
theorem dL_law_200 : decode cL_law 200 = .ok (.aload_n 0, 1) := by decide +kernel
theorem dL_law_201 : decode cL_law 201 = .ok (.iload_n 3, 1) := by decide +kernel
theorem dL_law_202 : decode cL_law 202 = .ok (.iconst 1, 1) := by decide +kernel
theorem dL_law_203 : decode cL_law 203 = .ok (.iadd, 1) := by decide +kernel
theorem dL_law_204 : decode cL_law 204 = .ok (.iaload, 1) := by decide +kernel
theorem dL_law_205 : decode cL_law 205 = .ok (.aload_n 0, 1) := by decide +kernel
theorem dL_law_206 : decode cL_law 206 = .ok (.iload_n 3, 1) := by decide +kernel
theorem dL_law_207 : decode cL_law 207 = .ok (.iconst 2, 1) := by decide +kernel
theorem dL_law_208 : decode cL_law 208 = .ok (.iadd, 1) := by decide +kernel
theorem dL_law_209 : decode cL_law 209 = .ok (.iaload, 1) := by decide +kernel
theorem dL_law_210 : decode cL_law 210 = .ok (.aload_n 0, 1) := by decide +kernel
theorem dL_law_211 : decode cL_law 211 = .ok (.iload_n 3, 1) := by decide +kernel
theorem dL_law_212 : decode cL_law 212 = .ok (.iconst 3, 1) := by decide +kernel
theorem dL_law_213 : decode cL_law 213 = .ok (.iadd, 1) := by decide +kernel
theorem dL_law_214 : decode cL_law 214 = .ok (.iaload, 1) := by decide +kernel
theorem dL_law_215 : decode cL_law 215 = .ok (.aload_n 0, 1) := by decide +kernel
theorem dL_law_216 : decode cL_law 216 = .ok (.iload_n 3, 1) := by decide +kernel
theorem dL_law_217 : decode cL_law 217 = .ok (.iconst 4, 1) := by decide +kernel
theorem dL_law_218 : decode cL_law 218 = .ok (.iadd, 1) := by decide +kernel
theorem dL_law_219 : decode cL_law 219 = .ok (.iaload, 1) := by decide +kernel
theorem dL_law_220 : decode cL_law 220 = .ok (.aload_n 0, 1) := by decide +kernel
theorem dL_law_221 : decode cL_law 221 = .ok (.iload_n 3, 1) := by decide +kernel
theorem dL_law_222 : decode cL_law 222 = .ok (.iconst 5, 1) := by decide +kernel
theorem dL_law_223 : decode cL_law 223 = .ok (.iadd, 1) := by decide +kernel
theorem dL_law_224 : decode cL_law 224 = .ok (.iaload, 1) := by decide +kernel
theorem dL_law_225 : decode cL_law 225 = .ok (.aload_n 0, 1) := by decide +kernel
theorem dL_law_226 : decode cL_law 226 = .ok (.iload_n 3, 1) := by decide +kernel
theorem dL_law_227 : decode cL_law 227 = .ok (.bipush 6, 2) := by decide +kernel
theorem dL_law_229 : decode cL_law 229 = .ok (.iadd, 1) := by decide +kernel
theorem dL_law_230 : decode cL_law 230 = .ok (.iaload, 1) := by decide +kernel
theorem dL_law_231 : decode cL_law 231 = .ok (.invokevirtual 17, 3) := by decide +kernel
theorem dL_law_234 : decode cL_law 234 = .ok (.if_icmp .eq 887, 3) := by decide +kernel
theorem dL_law_237 : decode cL_law 237 = .ok (.iconst 0, 1) := by decide +kernel
theorem dL_law_238 : decode cL_law 238 = .ok (.ireturn, 1) := by decide +kernel
theorem dL_law_239 : decode cL_law 239 = .ok (.aload_n 1, 1) := by decide +kernel
theorem dL_law_240 : decode cL_law 240 = .ok (.aload_n 0, 1) := by decide +kernel
theorem dL_law_241 : decode cL_law 241 = .ok (.iload_n 3, 1) := by decide +kernel
theorem dL_law_242 : decode cL_law 242 = .ok (.iconst 1, 1) := by decide +kernel
theorem dL_law_243 : decode cL_law 243 = .ok (.iadd, 1) := by decide +kernel
theorem dL_law_244 : decode cL_law 244 = .ok (.iaload, 1) := by decide +kernel
theorem dL_law_245 : decode cL_law 245 = .ok (.aload_n 0, 1) := by decide +kernel
theorem dL_law_246 : decode cL_law 246 = .ok (.iload_n 3, 1) := by decide +kernel
theorem dL_law_247 : decode cL_law 247 = .ok (.iconst 2, 1) := by decide +kernel
theorem dL_law_248 : decode cL_law 248 = .ok (.iadd, 1) := by decide +kernel
theorem dL_law_249 : decode cL_law 249 = .ok (.iaload, 1) := by decide +kernel
theorem dL_law_250 : decode cL_law 250 = .ok (.aload_n 0, 1) := by decide +kernel
theorem dL_law_251 : decode cL_law 251 = .ok (.iload_n 3, 1) := by decide +kernel
theorem dL_law_252 : decode cL_law 252 = .ok (.iconst 3, 1) := by decide +kernel
theorem dL_law_253 : decode cL_law 253 = .ok (.iadd, 1) := by decide +kernel
theorem dL_law_254 : decode cL_law 254 = .ok (.iaload, 1) := by decide +kernel
theorem dL_law_255 : decode cL_law 255 = .ok (.ifCond .eq 7, 3) := by decide +kernel
theorem dL_law_258 : decode cL_law 258 = .ok (.iconst 1, 1) := by decide +kernel
theorem dL_law_259 : decode cL_law 259 = .ok (.goto 4, 3) := by decide +kernel
theorem dL_law_262 : decode cL_law 262 = .ok (.iconst 0, 1) := by decide +kernel
theorem dL_law_263 : decode cL_law 263 = .ok (.aload_n 0, 1) := by decide +kernel
theorem dL_law_264 : decode cL_law 264 = .ok (.iload_n 3, 1) := by decide +kernel
theorem dL_law_265 : decode cL_law 265 = .ok (.iconst 4, 1) := by decide +kernel
theorem dL_law_266 : decode cL_law 266 = .ok (.iadd, 1) := by decide +kernel
theorem dL_law_267 : decode cL_law 267 = .ok (.iaload, 1) := by decide +kernel
theorem dL_law_268 : decode cL_law 268 = .ok (.invokevirtual 18, 3) := by decide +kernel
theorem dL_law_271 : decode cL_law 271 = .ok (.aload_n 2, 1) := by decide +kernel
theorem dL_law_272 : decode cL_law 272 = .ok (.aload_n 0, 1) := by decide +kernel
theorem dL_law_273 : decode cL_law 273 = .ok (.iload_n 3, 1) := by decide +kernel
theorem dL_law_274 : decode cL_law 274 = .ok (.iconst 1, 1) := by decide +kernel
theorem dL_law_275 : decode cL_law 275 = .ok (.iadd, 1) := by decide +kernel
theorem dL_law_276 : decode cL_law 276 = .ok (.iaload, 1) := by decide +kernel
theorem dL_law_277 : decode cL_law 277 = .ok (.aload_n 0, 1) := by decide +kernel
theorem dL_law_278 : decode cL_law 278 = .ok (.iload_n 3, 1) := by decide +kernel
theorem dL_law_279 : decode cL_law 279 = .ok (.iconst 2, 1) := by decide +kernel
theorem dL_law_280 : decode cL_law 280 = .ok (.iadd, 1) := by decide +kernel
theorem dL_law_281 : decode cL_law 281 = .ok (.iaload, 1) := by decide +kernel
theorem dL_law_282 : decode cL_law 282 = .ok (.aload_n 0, 1) := by decide +kernel
theorem dL_law_283 : decode cL_law 283 = .ok (.iload_n 3, 1) := by decide +kernel
theorem dL_law_284 : decode cL_law 284 = .ok (.iconst 3, 1) := by decide +kernel
theorem dL_law_285 : decode cL_law 285 = .ok (.iadd, 1) := by decide +kernel
theorem dL_law_286 : decode cL_law 286 = .ok (.iaload, 1) := by decide +kernel
theorem dL_law_287 : decode cL_law 287 = .ok (.ifCond .eq 7, 3) := by decide +kernel
theorem dL_law_290 : decode cL_law 290 = .ok (.iconst 1, 1) := by decide +kernel
theorem dL_law_291 : decode cL_law 291 = .ok (.goto 4, 3) := by decide +kernel
theorem dL_law_294 : decode cL_law 294 = .ok (.iconst 0, 1) := by decide +kernel
theorem dL_law_295 : decode cL_law 295 = .ok (.aload_n 0, 1) := by decide +kernel
theorem dL_law_296 : decode cL_law 296 = .ok (.iload_n 3, 1) := by decide +kernel
theorem dL_law_297 : decode cL_law 297 = .ok (.iconst 4, 1) := by decide +kernel
theorem dL_law_298 : decode cL_law 298 = .ok (.iadd, 1) := by decide +kernel
theorem dL_law_299 : decode cL_law 299 = .ok (.iaload, 1) := by decide +kernel
theorem dL_law_300 : decode cL_law 300 = .ok (.invokevirtual 22, 3) := by decide +kernel
theorem dL_law_303 : decode cL_law 303 = .ok (.if_icmp .eq 818, 3) := by decide +kernel
theorem dL_law_306 : decode cL_law 306 = .ok (.iconst 0, 1) := by decide +kernel
theorem dL_law_307 : decode cL_law 307 = .ok (.ireturn, 1) := by decide +kernel
theorem dL_law_308 : decode cL_law 308 = .ok (.aload_n 1, 1) := by decide +kernel
theorem dL_law_309 : decode cL_law 309 = .ok (.aload_n 0, 1) := by decide +kernel
theorem dL_law_310 : decode cL_law 310 = .ok (.iload_n 3, 1) := by decide +kernel
